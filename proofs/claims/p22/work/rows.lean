section
/-! what the class file of the law says of its entry: it has a table of one row; the word for a method without a table is false of it -/
theorem p22_no : classFile.hasCode x code maxLocals ret = false := by decide +kernel
theorem p22_with : classFile.hasCodeWith x code maxLocals ret [(166, 182, 185, 31)] = true := by decide +kernel
/-- so no launch with this class file meets the claim's premises -/
theorem p22_empty (l : Launch) : ¬ Lists l classFile x code maxLocals ret tables_1 room_1 := by
  intro h
  obtain ⟨-, hf, hc, -⟩ := h
  have h1 := hc.1 (x, code, maxLocals, ret) (List.mem_append_left _ (List.mem_of_getElem? (i := 0) rfl))
  dsimp only at h1
  rw [hf] at h1
  have h2 : classFile.hasCode x code maxLocals ret = true := by simpa using h1
  rw [p22_no] at h2
  cases h2
end
section
/-! ===== BEGIN words of one list among another's, by their places ===== -/
theorem goodIn_r {big : List Cond} (ws : List Cond) (ps : List Nat) (hp : ws = ps.filterMap (fun i => big[i]?)) (h : ws.all goodWord = true) : GoodIn big ws := by
  intro w hw
  have h1 := List.all_eq_true.mp h w hw
  rw [hp] at hw
  obtain ⟨i, -, hi⟩ := List.mem_filterMap.mp hw
  have hm : w ∈ big := by first | exact List.mem_of_getElem? hi | exact List.getElem?_mem hi
  exact ⟨hm, good_of_word h1⟩
theorem goodIn_app {big a b : List Cond} (ha : GoodIn big a) (hb : GoodIn big b) : GoodIn big (a ++ b) := fun w h => (List.mem_append.mp h).elim (ha w) (hb w)
theorem goodIn_ca {big a b : List Cond} {c : Cond} (ha : GoodIn big (c :: a)) (hb : GoodIn big b) : GoodIn big (c :: (a ++ b)) := fun w h => (List.mem_cons.mp h).elim (fun e => ha w (List.mem_cons.mpr (Or.inl e))) (fun h => (List.mem_append.mp h).elim (fun h => ha w (List.mem_cons.mpr (Or.inr h))) (hb w))
theorem goodIn_sub {big ws : List Cond} (hm : ∀ w ∈ ws, w ∈ big) (h : ws.all goodWord = true) : GoodIn big ws := fun w hw => ⟨hm w hw, good_of_word (List.all_eq_true.mp h w hw)⟩
/-! ===== END ===== -/

/-! ===== BEGIN exceptions that leave a method, and their catching by the caller (launches without stack traces) ===== -/
section VXA
/-! The laws vx_back, vx_callV, vx_callS, vx_callSW, vx_throw0, vx_throwS follow proofs of the library, with one case more: JvmDerived/Free/Laws.lean (Back.of_free), Shelf42/LK1.lean (callV, callS), Shelf/KitTraced.lean (throwNew0V, throwNewS). -/
/-- where a method has thrown q: the class by its name, the cell, what was written, the world -/
def vx_T (XC : String → State → State → Prop) (st : State) (q : Addr) (t : State) (mc ms : Nat) (free : Addr → Prop) : Prop :=
  ∃ (E : String) (ce : Cell) (L : List Loc), XC E st t ∧ t.heap[q]? = some ce ∧ ce.vm = .none ∧ st.vm.findClass E = some ce.cls ∧ st.WarmedH t.vm ∧ st.sameButNew ({ t with vm := st.vm } : State) L mc ms ∧ ∀ z ∈ L, free z.base
def vx_Q (Qc : Array Value → State → Outcome → State → Prop) (XC : String → State → State → Prop) (mc ms : Nat) (free : Addr → Prop) : Array Value → State → Outcome → State → Prop := fun a st o t =>
  (Qc a st o t ∧ ∃ L, FrameEnd st o t L mc ms ∧ ∀ q ∈ L, free q.base) ∨ ∃ q, o = .threw q ∧ vx_T XC st q t mc ms free
/-- a callee that returns or throws -/
def vx_Met (l : Launch) (y : MethodName) (ws : List Cond) (rm : Room) (Pc : Array Value → State → Prop) (Qc : Array Value → State → Outcome → State → Prop) (XC : String → State → State → Prop) (mc ms : Nat) (free : Addr → Prop) : Prop :=
  MetFree l y (headSpec ws rm) Pc (fun _ _ _ _ _ => True) (vx_Q Qc XC mc ms free)
def vx_Post (XC : String → State → State → Prop) (mc ms : Nat) (free : Addr → Prop) : Pt → Array Value → Addr → Pt → Prop := fun A a q B =>
  ∃ (g : JFrame) (mk : MethodId) (t : State) (L : List Loc) (E : String) (ce : Cell), B.U.heap = t.heap ∧ B.U.vm = t.vm ∧ XC E (A.U.calling g mk a) t ∧ t.heap[q]? = some ce ∧ ce.vm = .none ∧ A.U.vm.findClass E = some ce.cls ∧ B.locs = A.locs ++ L ∧ (∀ z ∈ L, free z.base) ∧ B.cells = A.cells + mc ∧ B.slots = A.slots + ms
def vx_Back (l : Launch) (R : Room) (p : Program) (e : Env) (below : List Frame) (s : State) (sargs : Array Value) (y : MethodName) (len W9 : Nat)
    (Pre : Pt → Array Value → Prop) (Post : Pt → Array Value → Option Value → Pt → Prop) (PostX : Pt → Array Value → Addr → Pt → Prop) : Prop :=
  ∀ (m : MethodId) (meth : Method) (c : Code) (A : Pt) (g : JFrame) (ig : Instr) (mk : MethodId) (a : Array Value),
    Stand p l e R s m sargs below meth c A.U A.locs A.cells A.slots → g.method = m → g.locals.size = c.maxLocals → decode c.code g.pc = .ok (ig, len) →
    2 * g.monitorRoom + (g.stack.map fun v => v.category).sum ≤ W9 → A.U.methodNamed? y = some mk → Pre A a →
    (∃ (v : Option Value) (B : Pt), Stand p l e R s m sargs below meth c B.U B.locs B.cells B.slots ∧ Post A a v B ∧
      Steps p.tables e below (doInvoke e (A.U.setTop g) [] mk a).1 (B.U.setTop { g with pc := g.pc + len, stack := v.toList ++ g.stack })) ∨
    (∃ (q : Addr) (B : Pt), Stand p l e R s m sargs below meth c B.U B.locs B.cells B.slots ∧ PostX A a q B ∧
      Steps p.tables e below (doInvoke e (A.U.setTop g) [] mk a).1 ((B.U.setTop g).pushFrame (.throwing q)))
section Payer
variable {l : Launch} {R : Room} {p : Program} {e : Env} {below : List Frame} {s : State} {sargs : Array Value} {y : MethodName} {len W9 : Nat}
theorem vx_back {ws : List Cond} {rm : Room} {Pc : Array Value → State → Prop} {Qc : Array Value → State → Outcome → State → Prop} {XC : String → State → State → Prop} {mc ms : Nat} {free : Addr → Prop} {bytes : ByteArray} {maxL : Nat} {ret : Option FieldType}
    (hM : vx_Met l y ws rm Pc Qc XC mc ms free) (hblind : FrameBlind Pc) (hrc : rm.cells = mc) (hrs : rm.slots = ms)
    (hframes : rm.frames + 1 ≤ R.frames) (hlocals : W9 + (maxL + 11) + rm.locals ≤ R.locals)
    (hws : ∀ w ∈ ws, ∀ a' U, s.WarmedH U.vm → w.before a' U = true) (hcode : Cond.code y bytes maxL ret ∈ ws) (hinit : ∀ a' U, s.WarmedH U.vm → (Cond.initialized y.cls).before a' U = true) :
    vx_Back l R p e below s sargs y len W9 (PreOf R mc ms Pc) (PostOf Qc mc ms free) (vx_Post XC mc ms free) := by
  intro m meth c A g ig mk a X hg hsize hdg hW hn hp
  have h1 : (headSpec ws rm).pre.before a A.U = true := atoms_intro fun w hw => hws w hw _ _ X.warmed
  have h2 : (Cond.code y bytes maxL ret).before a A.U = true := hws _ hcode _ _ X.warmed
  have h3 : (Cond.initialized y.cls).before a A.U = true := hinit _ _ X.warmed
  have h4 : A.cells + (headSpec ws rm).room.cells ≤ R.cells := by rw [show (headSpec ws rm).room.cells = mc from hrc]; exact hp.1
  have h5 : A.slots + (headSpec ws rm).room.slots ≤ R.slots := by rw [show (headSpec ws rm).room.slots = ms from hrs]; exact hp.2.1
  have hPc : Pc a (A.U.calling g mk a) := hblind _ _ _ _ hp.2.2
  obtain ⟨U, Ls, c0, s0⟩ := A
  dsimp only [Pt.U, Pt.locs, Pt.cells, Pt.slots] at h1 h2 h3 h4 h5 X hn hPc ⊢
  obtain ⟨methY, cY, hmY, hcY, -, hlY, -, -, -, -⟩ := Cond.code_spec hn h2
  obtain ⟨kY, hkY, -⟩ := className_of_methodNamed hn
  have hinitY : kY.init = .initialized := Cond.initialized_spec (findClass_of_methodNamed hn) hkY h3
  have h : At U g.method c below := by rw [hg]; exact X.here
  have hlocals9 : W9 + (maxL + 11) + (headSpec ws rm).room.locals ≤ R.locals := hlocals
  have happ : (headSpec ws rm).appliesLoose y e.platform (U.calling g mk a) = true :=
    Spec.appliesLoose_calling (g := g) h hdg hn hkY hinitY
      (X.room_calling (g := g) (R' := (headSpec ws rm).room) hsize hmY hcY hframes (by rw [hlY]; omega) h4 h5) h1
  obtain ⟨mid, hmid⟩ := h.above
  have hfr : (U.setTop g).frames = (.java g :: mid) ++ below := by rw [State.frames_setTop' g h.top, hmid]; rfl
  obtain ⟨o, s₂, hsteps, -, hend, hq⟩ := Steps.callFree hM p X.admits X.cas X.clock (acts := []) hfr happ hPc trivial
  have hq' : vx_Q Qc XC mc ms free a (U.calling g mk a) o s₂ := hq
  rw [State.frames_setTop' g h.top] at hend
  obtain ⟨g₀, hg0⟩ := Option.isSome_iff_exists.mp h.top
  obtain ⟨r, hr⟩ := State.topJava?_eq_some.mp hg0
  have hr' : (({ U with heap := s₂.heap, slotsUsed := s₂.slotsUsed } : State).setVm s₂.vm).frames = .java g₀ :: r := hr
  rcases hq' with ⟨hqc, L, hfe, hL⟩ | ⟨q, rfl, E, ce, L, hx, hce, hcv, hcl, hW₂, hsm, hL⟩
  · obtain ⟨⟨v, rfl⟩, hW₂, e2, q2, q3, q4, q5, q6⟩ := id hfe
    have e3 : s₂ = ({ (U.calling g mk a).setFrames s₂.frames with heap := s₂.heap, slotsUsed := s₂.slotsUsed } : State).setVm s₂.vm := by
      have : s₂ = ({ s₂ with vm := (U.calling g mk a).vm } : State).setVm s₂.vm := rfl
      rw [e2] at this
      exact this
    obtain ⟨c₂, i₂, len₂, hc₂, hd₂, hf₂⟩ := hend
    have hW' : U.WarmedH s₂.vm := hW₂
    have hcc : c₂ = c := by
      have h1 : s₂.code? g.method = U.code? g.method := by
        rw [State.code?_eq, State.code?_eq, hW'.alike.method?]
      exact Option.some.inj (hc₂.symm.trans (h1.trans h.code))
    subst hcc
    have hlen : len₂ = len := by rw [hdg] at hd₂; cases hd₂; rfl
    subst hlen
    have hs₂ : s₂ = (({ U with heap := s₂.heap, slotsUsed := s₂.slotsUsed } : State).setVm s₂.vm).setTop { g with pc := g.pc + len₂, stack := v.toList ++ g.stack } := by
      refine e3.trans ?_
      rw [hf₂, State.calling_eq h.top, State.setFrames_setFrames, State.setTop_of_frames _ hr', hr]
      rfl
    have hsame : U.sameButNew ({ U with heap := s₂.heap, slotsUsed := s₂.slotsUsed } : State) L mc ms := by
      refine ⟨?_, q2, q3, q4, q5, q6⟩
      obtain ⟨t, ht, -⟩ := State.frames_cons hr
      show ({ U with heap := s₂.heap, slotsUsed := s₂.slotsUsed } : State) = { U.setFrames U.frames with heap := s₂.heap, slotsUsed := s₂.slotsUsed }
      rw [State.setFrames_self ht]
    subst hg
    refine Or.inl ⟨v, ⟨(({ U with heap := s₂.heap, slotsUsed := s₂.slotsUsed } : State).setVm s₂.vm), Ls ++ L, c0 + mc, s0 + ms⟩,
      ⟨X.admits, X.cas, X.clock, X.frames, X.room, X.hears, X.method, X.code, (X.here.setHeapUsed s₂.heap s₂.slotsUsed).setVm hW'.alike, X.tail, State.WarmedH.trans X.warmed hW', X.limits, X.bytes, X.same.trans (hsame.setVm s.vm)⟩,
      ⟨g, mk, s₂, L, rfl, rfl, hqc, rfl, hL, rfl, rfl⟩, ?_⟩
    show Steps p.tables e below _ ((({ U with heap := s₂.heap, slotsUsed := s₂.slotsUsed } : State).setVm s₂.vm).setTop { g with pc := g.pc + len₂, stack := v.toList ++ g.stack })
    rw [← hs₂]
    exact hsteps
  · obtain ⟨e2, q2, q3, q4, q5, q6⟩ := id hsm
    have e3 : s₂ = ({ (U.calling g mk a).setFrames s₂.frames with heap := s₂.heap, slotsUsed := s₂.slotsUsed } : State).setVm s₂.vm := by
      have : s₂ = ({ s₂ with vm := (U.calling g mk a).vm } : State).setVm s₂.vm := rfl
      rw [e2] at this
      exact this
    have hf₂ : s₂.frames = .throwing q :: .java g :: U.frames.tail := hend
    have hW' : U.WarmedH s₂.vm := hW₂
    have hs₂ : s₂ = ((({ U with heap := s₂.heap, slotsUsed := s₂.slotsUsed } : State).setVm s₂.vm).setTop g).pushFrame (.throwing q) := by
      refine e3.trans ?_
      rw [hf₂, State.calling_eq h.top, State.setFrames_setFrames, State.pushFrame, State.frames_setTop _ hr', State.setTop_of_frames _ hr', State.setFrames_setFrames, hr]
      rfl
    have hsame : U.sameButNew ({ U with heap := s₂.heap, slotsUsed := s₂.slotsUsed } : State) L mc ms := by
      refine ⟨?_, q2, q3, q4, q5, q6⟩
      obtain ⟨t, ht, -⟩ := State.frames_cons hr
      show ({ U with heap := s₂.heap, slotsUsed := s₂.slotsUsed } : State) = { U.setFrames U.frames with heap := s₂.heap, slotsUsed := s₂.slotsUsed }
      rw [State.setFrames_self ht]
    subst hg
    refine Or.inr ⟨q, ⟨(({ U with heap := s₂.heap, slotsUsed := s₂.slotsUsed } : State).setVm s₂.vm), Ls ++ L, c0 + mc, s0 + ms⟩,
      ⟨X.admits, X.cas, X.clock, X.frames, X.room, X.hears, X.method, X.code, (X.here.setHeapUsed s₂.heap s₂.slotsUsed).setVm hW'.alike, X.tail, State.WarmedH.trans X.warmed hW', X.limits, X.bytes, X.same.trans (hsame.setVm s.vm)⟩,
      ⟨g, mk, s₂, L, E, ce, rfl, rfl, hx, hce, hcv, hcl, rfl, hL, rfl, rfl⟩, ?_⟩
    show Steps p.tables e below _ (((({ U with heap := s₂.heap, slotsUsed := s₂.slotsUsed } : State).setVm s₂.vm).setTop g).pushFrame (.throwing q))
    rw [← hs₂]
    exact hsteps
end Payer
section Calls
variable {p : Program} {l : Launch} {e : Env} {R : Room} {s : State} {m : MethodId} {args : Array Value} {below : List Frame} {meth : Method} {c : Code} {T : State} {locs : List Loc} {cells slots : Nat}
theorem vx_callV (X : Stand p l e R s m args below meth c T locs cells slots) (hexec : p.tables.exec = Jvm.exec) {own C : String} {index : Nat} {y : MethodName} {bytes : ByteArray} {maxL : Nat} {ret : Option FieldType}
    (hown : s.vm.findClass own = some m.cls) (hlink : (Cond.methodLink own index y).before args s = true) (hinst : (Cond.instanceMethod y).before args s = true) (hsel : (Cond.selects C y y).before args s = true)
    (hcode : (Cond.code y bytes maxL ret).before args s = true) (hy : y.cls ≠ "java/lang/invoke/MethodHandle" ∧ y.cls ≠ "java/lang/invoke/VarHandle")
    {W9 : Nat} {Pre : Pt → Array Value → Prop} {Post : Pt → Array Value → Option Value → Pt → Prop} {PostX : Pt → Array Value → Addr → Pt → Prop} (hK : vx_Back l R p e below s args y 3 W9 Pre Post PostX)
    {b : Addr} {cellB : Cell} (hcell : T.heap[b]? = some cellB) (hobj : cellB.vm.isStatics = false) (hcls : s.vm.findClass C = some cellB.cls)
    {g : JFrame} (hg : g.method = m) (hsize : g.locals.size = c.maxLocals) {argsL rest : List Value} (hlen : ∀ sig, parseMethodDescriptor y.desc = some sig → argsL.length = sig.parameters.length)
    (hstack : g.stack = argsL.reverse ++ .ref b :: rest) (hW : 2 * g.monitorRoom + (rest.map fun v => v.category).sum ≤ W9) (hdg : decode c.code g.pc = .ok (.invokevirtual index, 3))
    (hpre : ∀ vm₁, s.WarmedH vm₁ → Pre ⟨T.setVm vm₁, locs, cells, slots⟩ (Value.ref b :: argsL).toArray) :
    (∃ (v : Option Value) (vm₁ : Vm) (B : Pt), s.WarmedH vm₁ ∧ Stand p l e R s m args below meth c B.U B.locs B.cells B.slots ∧ Post ⟨T.setVm vm₁, locs, cells, slots⟩ (Value.ref b :: argsL).toArray v B ∧
      ∀ target, Steps p.tables e below (B.U.setTop { g with pc := g.pc + 3, stack := v.toList ++ rest }) target → Steps p.tables e below (T.setTop g) target) ∨
    (∃ (q : Addr) (vm₁ : Vm) (B : Pt), s.WarmedH vm₁ ∧ Stand p l e R s m args below meth c B.U B.locs B.cells B.slots ∧ PostX ⟨T.setVm vm₁, locs, cells, slots⟩ (Value.ref b :: argsL).toArray q B ∧
      Steps p.tables e below (T.setTop g) ((B.U.setTop { g with stack := rest }).pushFrame (.throwing q))) := by
  obtain ⟨mk, methM, hnamed, hmethM, hstM, habM⟩ := Cond.instanceMethod_spec hinst
  obtain ⟨methM', cM, hmethM', -, -, -, -, -, -, hsigM⟩ := Cond.code_spec hnamed hcode
  cases hmethM.symm.trans hmethM'
  obtain ⟨c2, r2, m2, q1, q2, q3, q4, kP, hkP, hkPi⟩ := Cond.selects_spec hsel
  cases hcls.symm.trans q1
  cases (State.methodFound?_of_named hnamed hy).symm.trans q2
  cases hnamed.symm.trans q3
  have hselP : selectMethod e.platform s.vm cellB.cls mk = .method mk := by rw [Launch.admits_selectMethod X.admits]; exact q4
  obtain ⟨vm₁, X₁, hstep₁⟩ := X.invokevirtual hexec hown hlink hnamed hmethM hstM hkP hkPi hy (a := b) (cell := cellB) hcell
    (fun z h => by rw [h] at hobj; cases hobj) hselP hmethM habM hkP hkPi (g := g) hg (argsL := argsL) (rest := rest) (hlen _ hsigM) hstack hdg
  rcases hK m meth c ⟨T.setVm vm₁, locs, cells, slots⟩ { g with stack := rest } (.invokevirtual index) mk (Value.ref b :: argsL).toArray X₁ hg hsize hdg hW (X₁.named hnamed) (hpre vm₁ X₁.warmed) with ⟨v, B, X', hpost, hsteps⟩ | ⟨q, B, X', hpost, hsteps⟩
  · exact Or.inl ⟨v, vm₁, B, X₁.warmed, X', hpost, fun target h => hstep₁ _ fun acts => by rw [doInvoke_state]; exact hsteps.trans h⟩
  · exact Or.inr ⟨q, vm₁, B, X₁.warmed, X', hpost, hstep₁ _ fun acts => by rw [doInvoke_state]; exact hsteps⟩
theorem vx_callS (X : Stand p l e R s m args below meth c T locs cells slots) (hexec : p.tables.exec = Jvm.exec) {own : String} {index : Nat} {y : MethodName} {bytes : ByteArray} {maxL : Nat} {ret : Option FieldType}
    (hown : s.vm.findClass own = some m.cls) (hlink : (Cond.methodLink own index y).before args s = true) (hstat : (Cond.static y).before args s = true) (hinit : (Cond.initialized y.cls).before args s = true)
    (hcode : (Cond.code y bytes maxL ret).before args s = true) (hy : y.cls ≠ "java/lang/invoke/MethodHandle" ∧ y.cls ≠ "java/lang/invoke/VarHandle")
    {W9 : Nat} {Pre : Pt → Array Value → Prop} {Post : Pt → Array Value → Option Value → Pt → Prop} {PostX : Pt → Array Value → Addr → Pt → Prop} (hK : vx_Back l R p e below s args y 3 W9 Pre Post PostX)
    {g : JFrame} (hg : g.method = m) (hsize : g.locals.size = c.maxLocals) {argsL rest : List Value} (hlen : ∀ sig, parseMethodDescriptor y.desc = some sig → argsL.length = sig.parameters.length)
    (hstack : g.stack = argsL.reverse ++ rest) (hW : 2 * g.monitorRoom + (rest.map fun v => v.category).sum ≤ W9) (hdg : decode c.code g.pc = .ok (.invokestatic index, 3))
    (hpre : ∀ vm₁, s.WarmedH vm₁ → Pre ⟨T.setVm vm₁, locs, cells, slots⟩ argsL.toArray) :
    (∃ (v : Option Value) (vm₁ : Vm) (B : Pt), s.WarmedH vm₁ ∧ Stand p l e R s m args below meth c B.U B.locs B.cells B.slots ∧ Post ⟨T.setVm vm₁, locs, cells, slots⟩ argsL.toArray v B ∧
      ∀ target, Steps p.tables e below (B.U.setTop { g with pc := g.pc + 3, stack := v.toList ++ rest }) target → Steps p.tables e below (T.setTop g) target) ∨
    (∃ (q : Addr) (vm₁ : Vm) (B : Pt), s.WarmedH vm₁ ∧ Stand p l e R s m args below meth c B.U B.locs B.cells B.slots ∧ PostX ⟨T.setVm vm₁, locs, cells, slots⟩ argsL.toArray q B ∧
      Steps p.tables e below (T.setTop g) ((B.U.setTop { g with stack := rest }).pushFrame (.throwing q))) := by
  obtain ⟨mk, hnamed⟩ := Cond.code_named hcode
  obtain ⟨methM, cM, hmethM, -, -, -, -, -, -, hsigM⟩ := Cond.code_spec hnamed hcode
  have hstatic : methM.isStatic = true := Cond.static_spec hnamed hmethM hstat
  obtain ⟨kP, hkP, -⟩ := className_of_methodNamed hnamed
  have hinitP : kP.init = .initialized := Cond.initialized_spec (findClass_of_methodNamed hnamed) hkP hinit
  obtain ⟨vm₁, X₁, hstep₁⟩ := X.invokestatic hexec hown hlink hnamed hmethM hstatic hkP hinitP hy (g := g) hg (argsL := argsL) (rest := rest) (hlen _ hsigM) hstack hdg
  rcases hK m meth c ⟨T.setVm vm₁, locs, cells, slots⟩ { g with stack := rest } (.invokestatic index) mk argsL.toArray X₁ hg hsize hdg hW (X₁.named hnamed) (hpre vm₁ X₁.warmed) with ⟨v, B, X', hpost, hsteps⟩ | ⟨q, B, X', hpost, hsteps⟩
  · exact Or.inl ⟨v, vm₁, B, X₁.warmed, X', hpost, fun target h => hstep₁ _ fun acts => by rw [doInvoke_state]; exact hsteps.trans h⟩
  · exact Or.inr ⟨q, vm₁, B, X₁.warmed, X', hpost, hstep₁ _ fun acts => by rw [doInvoke_state]; exact hsteps⟩
end Calls
theorem vx_cls {s : State} {T : State} {vm₁ : Vm} {E : String} {k : ClassId} (hW : s.WarmedH vm₁) (h : (T.setVm vm₁).vm.findClass E = some k) : s.vm.findClass E = some k := by
  have h1 : vm₁.findClass E = some k := h
  rw [hW.alike.findClass] at h1
  exact h1
/-- the method's frame g, with q thrown over it -/
def vx_W (p : Program) (l : Launch) (e : Env) (R : Room) (s : State) (m : MethodId) (args : Array Value) (below : List Frame) (meth : Method) (c : Code) (H : Heap) (locs : List Loc) (cells slots : Nat) (Q : State → Prop) (g : JFrame) (q : Addr) : Prop :=
  ∀ T : State, T.heap = H → Stand p l e R s m args below meth c T locs cells slots → ∃ t, Steps p.tables e below ((T.setTop g).pushFrame (.throwing q)) t ∧ Q t
def vx_Run (p : Program) (l : Launch) (e : Env) (R : Room) (s : State) (m : MethodId) (args : Array Value) (below : List Frame) (meth : Method) (c : Code) (H : Heap) (locs : List Loc) (cells slots mc ms : Nat) (g : JFrame) (rest : List Value) (Qa : State → Outcome → State → Prop) (XC : String → State → State → Prop) (free : Addr → Prop) : Prop :=
  ∀ T : State, T.heap = H → Stand p l e R s m args below meth c T locs cells slots →
    (∃ (v : Option Value) (st₀ t T' : State) (L : List Loc), st₀.heap = H ∧ Stand p l e R s m args below meth c T' (locs ++ L) (cells + mc) (slots + ms) ∧ (∀ q ∈ L, free q.base) ∧ T'.heap = t.heap ∧ T'.vm = t.vm ∧ Qa st₀ (.returned v) t ∧
      Goes p e below T g T' { g with pc := g.pc + 3, stack := v.toList ++ rest }) ∨
    (∃ (q : Addr) (st₀ t T' : State) (L : List Loc) (E : String) (ce : Cell), st₀.heap = H ∧ Stand p l e R s m args below meth c T' (locs ++ L) (cells + mc) (slots + ms) ∧ (∀ z ∈ L, free z.base) ∧ T'.heap = t.heap ∧ T'.vm = t.vm ∧ XC E st₀ t ∧ t.heap[q]? = some ce ∧ ce.vm = .none ∧ s.vm.findClass E = some ce.cls ∧
      Steps p.tables e below (T.setTop g) ((T'.setTop { g with stack := rest }).pushFrame (.throwing q)))
def vx_X {S : Type} (px : S → Prop) (B : String → S → State → Prop) (A : Nat → Prop) : String → State → State → Prop := fun E st t => ∃ u : S, px u ∧ B E u t ∧ va_F A st t
section Runs
variable {p : Program} {l : Launch} {e : Env} {R : Room} {s : State} {m : MethodId} {args : Array Value} {below : List Frame} {meth : Method} {c : Code} {H : Heap} {locs : List Loc} {cells slots : Nat}
variable {y : MethodName} {bytes cc : ByteArray} {maxL nL mc ms n index : Nat} {ret : Option FieldType} {ws : List Cond} {rm : Room} {Pc : Array Value → State → Prop} {Qc : Array Value → State → Outcome → State → Prop} {XC : String → State → State → Prop} {free : Addr → Prop} {Ts : List Cond} {own C : String} {b : Addr} {As rest : List Value} {g : JFrame}
theorem vx_callBack (cb : CallB R s args own index y bytes maxL ret ws rm mc ms n) (hM : vx_Met l y ws rm Pc Qc XC mc ms free) (hbl : FrameBlind Pc) : vx_Back l R p e below s args y 3 8 (PreOf R mc ms Pc) (PostOf Qc mc ms free) (vx_Post XC mc ms free) := by
  obtain ⟨hrc, hrs, hfr, hlo, hws, hcw, -, hini, -⟩ := cb
  exact vx_back (bytes := bytes) (maxL := maxL) (ret := ret) hM hbl hrc hrs hfr hlo hws hcw (fun a' U hW => word_at hW (Or.inl (by first | rfl | simp [Cond.onTables, Cond.keeps, Cond.steady])) hini)
theorem vx_runV (S : CallFix p m c cc nL s args Ts own) (hM : vx_Met l y ws rm Pc Qc XC mc ms free) (cw : CallW R s args own C index y bytes maxL ret ws rm mc ms n) (hp : PreV s H C b Pc As)
    (hg : g.method = m) (hn : As.length = n) (hsize : g.locals.size = nL) (hstack : g.stack = As.reverse ++ .ref b :: rest) (hW : 2 * g.monitorRoom + (rest.map fun v => v.category).sum ≤ 8) (hdg : decode cc g.pc = .ok (.invokevirtual index, 3)) (hf : cells + mc ≤ R.cells ∧ slots + ms ≤ R.slots) :
    vx_Run p l e R s m args below meth c H locs cells slots mc ms g rest (Qc (Value.ref b :: As).toArray) XC free := by
  have hK : vx_Back l R p e below s args y 3 8 (PreOf R mc ms Pc) (PostOf Qc mc ms free) (vx_Post XC mc ms free) := vx_callBack cw.1 hM hp.1
  obtain ⟨⟨-, -, -, -, -, -, hcode, -, hy, hlen, hl⟩, hin, hse⟩ := cw
  obtain ⟨hx, hb, hml, ho, -⟩ := S
  obtain ⟨-, ⟨cellB, hcB, hoB, hclB⟩, hPc⟩ := hp
  intro T hT X
  rcases vx_callV X hx (C := C) (bytes := bytes) (maxL := maxL) (ret := ret) ho hl hin hse hcode hy hK (by rw [hT]; exact hcB) hoB hclB hg (hsize.trans hml.symm) (argsL := As) (rest := rest) (fun sig h => hn.trans (hlen sig h)) hstack hW (by rw [hb]; exact hdg)
    (fun vm₁ hW₁ => ⟨hf.1, hf.2, hPc (T.setVm vm₁) hT hW₁⟩) with ⟨v, vm₁, ⟨U', l2, c2, s2⟩, hW₁, X', ⟨g', mk, t, L, e1, e2, hq, h1, hL, h2, h3⟩, st⟩ | ⟨q, vm₁, ⟨U', l2, c2, s2⟩, hW₁, X', ⟨g', mk, t, L, E, ce, e1, e2, hq, hce, hcv, hcl, h1, hL, h2, h3⟩, st⟩
  · dsimp only [Pt.U, Pt.locs, Pt.cells, Pt.slots] at X' e1 e2 h1 h2 h3 st
    subst h1; subst h2; subst h3
    exact Or.inl ⟨v, (T.setVm vm₁).calling g' mk (Value.ref b :: As).toArray, t, U', L, hT, X', hL, e1, e2, hq, st⟩
  · dsimp only [Pt.U, Pt.locs, Pt.cells, Pt.slots] at X' e1 e2 h1 h2 h3 st hcl
    subst h1; subst h2; subst h3
    exact Or.inr ⟨q, (T.setVm vm₁).calling g' mk (Value.ref b :: As).toArray, t, U', L, E, ce, hT, X', hL, e1, e2, hq, hce, hcv, vx_cls hW₁ hcl, st⟩
theorem vx_runS (S : CallFix p m c cc nL s args Ts own) (hM : vx_Met l y ws rm Pc Qc XC mc ms free) (cw : CallB R s args own index y bytes maxL ret ws rm mc ms n ∧ (Cond.static y).before args s = true) (hp : PreS s H Pc As)
    (hg : g.method = m) (hn : As.length = n) (hsize : g.locals.size = nL) (hstack : g.stack = As.reverse ++ rest) (hW : 2 * g.monitorRoom + (rest.map fun v => v.category).sum ≤ 8) (hdg : decode cc g.pc = .ok (.invokestatic index, 3)) (hf : cells + mc ≤ R.cells ∧ slots + ms ≤ R.slots) :
    vx_Run p l e R s m args below meth c H locs cells slots mc ms g rest (Qc As.toArray) XC free := by
  have hK : vx_Back l R p e below s args y 3 8 (PreOf R mc ms Pc) (PostOf Qc mc ms free) (vx_Post XC mc ms free) := vx_callBack cw.1 hM hp.1
  obtain ⟨⟨-, -, -, -, -, -, hcode, hini, hy, hlen, hl⟩, hstt⟩ := cw
  obtain ⟨hx, hb, hml, ho, -⟩ := S
  intro T hT X
  rcases vx_callS X hx (bytes := bytes) (maxL := maxL) (ret := ret) ho hl hstt hini hcode hy hK hg (hsize.trans hml.symm) (argsL := As) (rest := rest) (fun sig h => hn.trans (hlen sig h)) hstack hW (by rw [hb]; exact hdg)
    (fun vm₁ hW₁ => ⟨hf.1, hf.2, hp.2 (T.setVm vm₁) hT hW₁⟩) with ⟨v, vm₁, ⟨U', l2, c2, s2⟩, hW₁, X', ⟨g', mk, t, L, e1, e2, hq, h1, hL, h2, h3⟩, st⟩ | ⟨q, vm₁, ⟨U', l2, c2, s2⟩, hW₁, X', ⟨g', mk, t, L, E, ce, e1, e2, hq, hce, hcv, hcl, h1, hL, h2, h3⟩, st⟩
  · dsimp only [Pt.U, Pt.locs, Pt.cells, Pt.slots] at X' e1 e2 h1 h2 h3 st
    subst h1; subst h2; subst h3
    exact Or.inl ⟨v, (T.setVm vm₁).calling g' mk As.toArray, t, U', L, hT, X', hL, e1, e2, hq, st⟩
  · dsimp only [Pt.U, Pt.locs, Pt.cells, Pt.slots] at X' e1 e2 h1 h2 h3 st hcl
    subst h1; subst h2; subst h3
    exact Or.inr ⟨q, (T.setVm vm₁).calling g' mk As.toArray, t, U', L, E, ce, hT, X', hL, e1, e2, hq, hce, hcv, vx_cls hW₁ hcl, st⟩
end Runs
section Rows
variable {p : Program} {l : Launch} {e : Env} {R : Room} {s : State} {m : MethodId} {args : Array Value} {below : List Frame} {meth : Method} {c : Code} {H : Heap} {locs : List Loc} {cells slots : Nat} {Q : State → Prop}
variable {mc ms : Nat} {free : Addr → Prop} {A0 A1 : Nat → Prop} {H0 : Heap} {a : Array Value} {pc : Nat} {ls : Array Slot} {st0 rest : List Value}
theorem vx_keep {st₀ t T' : State} {L : List Loc} (h0 : st₀.heap = H) (e1 : T'.heap = t.heap) (hS : va_S A0 H0 H locs) (hA : ∀ q, q < H.size → A1 q → A0 q) (hf : ∀ q, free q → A0 q) (hL : ∀ q ∈ L, free q.base) (hF : va_F A1 st₀ t) :
    H.size ≤ T'.heap.size ∧ (∀ q : Nat, q < H.size → ¬ A1 q → T'.heap[q]? = H[q]?) ∧ va_S A0 H0 T'.heap (locs ++ L) := by
  obtain ⟨hz, hk⟩ := hF
  rw [h0] at hz hk
  exact ⟨by rw [e1]; exact hz, fun q h1 h2 => by rw [e1]; exact hk q h1 h2,
    ⟨Nat.le_trans hS.1 (by rw [e1]; exact hz), fun q h1 h2 => by rw [e1, hk q (Nat.lt_of_lt_of_le h1 hS.1) (fun z => h2 (hA q (Nat.lt_of_lt_of_le h1 hS.1) z))]; exact hS.2.1 q h1 h2, fun q hq => by
      rcases List.mem_append.mp hq with h | h
      · exact hS.2.2 q h
      · exact hf _ (hL q h)⟩⟩
theorem vx_calli {S SX : Type} {post : Int32 → S → Prop} {px : SX → Prop} {B : S → State → Prop} {BX : String → SX → State → Prop} {AX : Nat → Prop} (hr : vx_Run p l e R s m args below meth c H locs cells slots mc ms (F0 m pc ls st0) rest (va_Qi post B A1 a) (vx_X px BX AX) free) (hS : va_S A0 H0 H locs) (hA : ∀ q, q < H.size → A1 q → A0 q) (hf : ∀ q, free q → A0 q) (hAX : ∀ q, q < H.size → AX q → A0 q)
    (kx : ∀ (E : String) (ce : Cell) (q9 : Addr) (u : SX) (t : State) (H1 : Heap) (locs1 : List Loc), t.heap = H1 → s.vm.Alike t.vm → px u → BX E u t → H.size ≤ H1.size → (∀ q : Nat, q < H.size → ¬ AX q → H1[q]? = H[q]?) → va_S A0 H0 H1 locs1 → H1[q9]? = some ce → ce.vm = .none → s.vm.findClass E = some ce.cls → vx_W p l e R s m args below meth c H1 locs1 (cells + mc) (slots + ms) Q (F0 m pc ls rest) q9)
    (kk : ∀ (r : Int32) (u : S) (t : State) (H1 : Heap) (locs1 : List Loc), t.heap = H1 → s.vm.Alike t.vm → post r u → B u t → H.size ≤ H1.size → (∀ q : Nat, q < H.size → ¬ A1 q → H1[q]? = H[q]?) → va_S A0 H0 H1 locs1 → W p l e R s m args below meth c H1 locs1 (cells + mc) (slots + ms) Q (F0 m (pc + 3) ls (.int r :: rest))) : W p l e R s m args below meth c H locs cells slots Q (F0 m pc ls st0) := by
  intro T hT X
  rcases hr T hT X with ⟨v, st₀, t, T', L, h0, X', hL, e1, e2, ⟨⟨r, u, hv, hp, hb⟩, hF⟩, st⟩ | ⟨q, st₀, t, T', L, E, ce, h0, X', hL, e1, e2, ⟨u, hp, hb, hF⟩, hce, hcv, hcl, st⟩
  · cases hv
    obtain ⟨k1, k2, k3⟩ := vx_keep h0 e1 hS hA hf hL hF
    obtain ⟨t2, a1, b1⟩ := kk r u t T'.heap (locs ++ L) e1.symm (by rw [← e2]; exact X'.warmed.alike) hp hb k1 k2 k3 T' rfl X'
    exact ⟨t2, st t2 a1, b1⟩
  · obtain ⟨k1, k2, k3⟩ := vx_keep h0 e1 hS hAX hf hL hF
    obtain ⟨t2, a1, b1⟩ := kx E ce q u t T'.heap (locs ++ L) e1.symm (by rw [← e2]; exact X'.warmed.alike) hp hb k1 k2 k3 (by rw [e1]; exact hce) hcv hcl T' rfl X'
    exact ⟨t2, st.trans a1, b1⟩
theorem vx_calll {S SX : Type} {post : Int64 → S → Prop} {px : SX → Prop} {B : S → State → Prop} {BX : String → SX → State → Prop} {AX : Nat → Prop} (hr : vx_Run p l e R s m args below meth c H locs cells slots mc ms (F0 m pc ls st0) rest (va_Ql post B A1 a) (vx_X px BX AX) free) (hS : va_S A0 H0 H locs) (hA : ∀ q, q < H.size → A1 q → A0 q) (hf : ∀ q, free q → A0 q) (hAX : ∀ q, q < H.size → AX q → A0 q)
    (kx : ∀ (E : String) (ce : Cell) (q9 : Addr) (u : SX) (t : State) (H1 : Heap) (locs1 : List Loc), t.heap = H1 → s.vm.Alike t.vm → px u → BX E u t → H.size ≤ H1.size → (∀ q : Nat, q < H.size → ¬ AX q → H1[q]? = H[q]?) → va_S A0 H0 H1 locs1 → H1[q9]? = some ce → ce.vm = .none → s.vm.findClass E = some ce.cls → vx_W p l e R s m args below meth c H1 locs1 (cells + mc) (slots + ms) Q (F0 m pc ls rest) q9)
    (kk : ∀ (r : Int64) (u : S) (t : State) (H1 : Heap) (locs1 : List Loc), t.heap = H1 → s.vm.Alike t.vm → post r u → B u t → H.size ≤ H1.size → (∀ q : Nat, q < H.size → ¬ A1 q → H1[q]? = H[q]?) → va_S A0 H0 H1 locs1 → W p l e R s m args below meth c H1 locs1 (cells + mc) (slots + ms) Q (F0 m (pc + 3) ls (.long r :: rest))) : W p l e R s m args below meth c H locs cells slots Q (F0 m pc ls st0) := by
  intro T hT X
  rcases hr T hT X with ⟨v, st₀, t, T', L, h0, X', hL, e1, e2, ⟨⟨r, u, hv, hp, hb⟩, hF⟩, st⟩ | ⟨q, st₀, t, T', L, E, ce, h0, X', hL, e1, e2, ⟨u, hp, hb, hF⟩, hce, hcv, hcl, st⟩
  · cases hv
    obtain ⟨k1, k2, k3⟩ := vx_keep h0 e1 hS hA hf hL hF
    obtain ⟨t2, a1, b1⟩ := kk r u t T'.heap (locs ++ L) e1.symm (by rw [← e2]; exact X'.warmed.alike) hp hb k1 k2 k3 T' rfl X'
    exact ⟨t2, st t2 a1, b1⟩
  · obtain ⟨k1, k2, k3⟩ := vx_keep h0 e1 hS hAX hf hL hF
    obtain ⟨t2, a1, b1⟩ := kx E ce q u t T'.heap (locs ++ L) e1.symm (by rw [← e2]; exact X'.warmed.alike) hp hb k1 k2 k3 (by rw [e1]; exact hce) hcv hcl T' rfl X'
    exact ⟨t2, st.trans a1, b1⟩
theorem vx_callf {S SX : Type} {post : UInt32 → S → Prop} {px : SX → Prop} {B : S → State → Prop} {BX : String → SX → State → Prop} {AX : Nat → Prop} (hr : vx_Run p l e R s m args below meth c H locs cells slots mc ms (F0 m pc ls st0) rest (va_Qf post B A1 a) (vx_X px BX AX) free) (hS : va_S A0 H0 H locs) (hA : ∀ q, q < H.size → A1 q → A0 q) (hf : ∀ q, free q → A0 q) (hAX : ∀ q, q < H.size → AX q → A0 q)
    (kx : ∀ (E : String) (ce : Cell) (q9 : Addr) (u : SX) (t : State) (H1 : Heap) (locs1 : List Loc), t.heap = H1 → s.vm.Alike t.vm → px u → BX E u t → H.size ≤ H1.size → (∀ q : Nat, q < H.size → ¬ AX q → H1[q]? = H[q]?) → va_S A0 H0 H1 locs1 → H1[q9]? = some ce → ce.vm = .none → s.vm.findClass E = some ce.cls → vx_W p l e R s m args below meth c H1 locs1 (cells + mc) (slots + ms) Q (F0 m pc ls rest) q9)
    (kk : ∀ (r : UInt32) (u : S) (t : State) (H1 : Heap) (locs1 : List Loc), t.heap = H1 → s.vm.Alike t.vm → post r u → B u t → H.size ≤ H1.size → (∀ q : Nat, q < H.size → ¬ A1 q → H1[q]? = H[q]?) → va_S A0 H0 H1 locs1 → W p l e R s m args below meth c H1 locs1 (cells + mc) (slots + ms) Q (F0 m (pc + 3) ls (.float r :: rest))) : W p l e R s m args below meth c H locs cells slots Q (F0 m pc ls st0) := by
  intro T hT X
  rcases hr T hT X with ⟨v, st₀, t, T', L, h0, X', hL, e1, e2, ⟨⟨r, u, hv, hp, hb⟩, hF⟩, st⟩ | ⟨q, st₀, t, T', L, E, ce, h0, X', hL, e1, e2, ⟨u, hp, hb, hF⟩, hce, hcv, hcl, st⟩
  · cases hv
    obtain ⟨k1, k2, k3⟩ := vx_keep h0 e1 hS hA hf hL hF
    obtain ⟨t2, a1, b1⟩ := kk r u t T'.heap (locs ++ L) e1.symm (by rw [← e2]; exact X'.warmed.alike) hp hb k1 k2 k3 T' rfl X'
    exact ⟨t2, st t2 a1, b1⟩
  · obtain ⟨k1, k2, k3⟩ := vx_keep h0 e1 hS hAX hf hL hF
    obtain ⟨t2, a1, b1⟩ := kx E ce q u t T'.heap (locs ++ L) e1.symm (by rw [← e2]; exact X'.warmed.alike) hp hb k1 k2 k3 (by rw [e1]; exact hce) hcv hcl T' rfl X'
    exact ⟨t2, st.trans a1, b1⟩
theorem vx_calld {S SX : Type} {post : UInt64 → S → Prop} {px : SX → Prop} {B : S → State → Prop} {BX : String → SX → State → Prop} {AX : Nat → Prop} (hr : vx_Run p l e R s m args below meth c H locs cells slots mc ms (F0 m pc ls st0) rest (va_Qd post B A1 a) (vx_X px BX AX) free) (hS : va_S A0 H0 H locs) (hA : ∀ q, q < H.size → A1 q → A0 q) (hf : ∀ q, free q → A0 q) (hAX : ∀ q, q < H.size → AX q → A0 q)
    (kx : ∀ (E : String) (ce : Cell) (q9 : Addr) (u : SX) (t : State) (H1 : Heap) (locs1 : List Loc), t.heap = H1 → s.vm.Alike t.vm → px u → BX E u t → H.size ≤ H1.size → (∀ q : Nat, q < H.size → ¬ AX q → H1[q]? = H[q]?) → va_S A0 H0 H1 locs1 → H1[q9]? = some ce → ce.vm = .none → s.vm.findClass E = some ce.cls → vx_W p l e R s m args below meth c H1 locs1 (cells + mc) (slots + ms) Q (F0 m pc ls rest) q9)
    (kk : ∀ (r : UInt64) (u : S) (t : State) (H1 : Heap) (locs1 : List Loc), t.heap = H1 → s.vm.Alike t.vm → post r u → B u t → H.size ≤ H1.size → (∀ q : Nat, q < H.size → ¬ A1 q → H1[q]? = H[q]?) → va_S A0 H0 H1 locs1 → W p l e R s m args below meth c H1 locs1 (cells + mc) (slots + ms) Q (F0 m (pc + 3) ls (.double r :: rest))) : W p l e R s m args below meth c H locs cells slots Q (F0 m pc ls st0) := by
  intro T hT X
  rcases hr T hT X with ⟨v, st₀, t, T', L, h0, X', hL, e1, e2, ⟨⟨r, u, hv, hp, hb⟩, hF⟩, st⟩ | ⟨q, st₀, t, T', L, E, ce, h0, X', hL, e1, e2, ⟨u, hp, hb, hF⟩, hce, hcv, hcl, st⟩
  · cases hv
    obtain ⟨k1, k2, k3⟩ := vx_keep h0 e1 hS hA hf hL hF
    obtain ⟨t2, a1, b1⟩ := kk r u t T'.heap (locs ++ L) e1.symm (by rw [← e2]; exact X'.warmed.alike) hp hb k1 k2 k3 T' rfl X'
    exact ⟨t2, st t2 a1, b1⟩
  · obtain ⟨k1, k2, k3⟩ := vx_keep h0 e1 hS hAX hf hL hF
    obtain ⟨t2, a1, b1⟩ := kx E ce q u t T'.heap (locs ++ L) e1.symm (by rw [← e2]; exact X'.warmed.alike) hp hb k1 k2 k3 (by rw [e1]; exact hce) hcv hcl T' rfl X'
    exact ⟨t2, st.trans a1, b1⟩
theorem vx_callv {S SX : Type} {post : S → Prop} {px : SX → Prop} {B : S → State → Prop} {BX : String → SX → State → Prop} {AX : Nat → Prop} (hr : vx_Run p l e R s m args below meth c H locs cells slots mc ms (F0 m pc ls st0) rest (va_Qv post B A1 a) (vx_X px BX AX) free) (hS : va_S A0 H0 H locs) (hA : ∀ q, q < H.size → A1 q → A0 q) (hf : ∀ q, free q → A0 q) (hAX : ∀ q, q < H.size → AX q → A0 q)
    (kx : ∀ (E : String) (ce : Cell) (q9 : Addr) (u : SX) (t : State) (H1 : Heap) (locs1 : List Loc), t.heap = H1 → s.vm.Alike t.vm → px u → BX E u t → H.size ≤ H1.size → (∀ q : Nat, q < H.size → ¬ AX q → H1[q]? = H[q]?) → va_S A0 H0 H1 locs1 → H1[q9]? = some ce → ce.vm = .none → s.vm.findClass E = some ce.cls → vx_W p l e R s m args below meth c H1 locs1 (cells + mc) (slots + ms) Q (F0 m pc ls rest) q9)
    (kk : ∀ (u : S) (t : State) (H1 : Heap) (locs1 : List Loc), t.heap = H1 → s.vm.Alike t.vm → post u → B u t → H.size ≤ H1.size → (∀ q : Nat, q < H.size → ¬ A1 q → H1[q]? = H[q]?) → va_S A0 H0 H1 locs1 → W p l e R s m args below meth c H1 locs1 (cells + mc) (slots + ms) Q (F0 m (pc + 3) ls (rest))) : W p l e R s m args below meth c H locs cells slots Q (F0 m pc ls st0) := by
  intro T hT X
  rcases hr T hT X with ⟨v, st₀, t, T', L, h0, X', hL, e1, e2, ⟨⟨u, hv, hp, hb⟩, hF⟩, st⟩ | ⟨q, st₀, t, T', L, E, ce, h0, X', hL, e1, e2, ⟨u, hp, hb, hF⟩, hce, hcv, hcl, st⟩
  · cases hv
    obtain ⟨k1, k2, k3⟩ := vx_keep h0 e1 hS hA hf hL hF
    obtain ⟨t2, a1, b1⟩ := kk u t T'.heap (locs ++ L) e1.symm (by rw [← e2]; exact X'.warmed.alike) hp hb k1 k2 k3 T' rfl X'
    exact ⟨t2, st t2 a1, b1⟩
  · obtain ⟨k1, k2, k3⟩ := vx_keep h0 e1 hS hAX hf hL hF
    obtain ⟨t2, a1, b1⟩ := kx E ce q u t T'.heap (locs ++ L) e1.symm (by rw [← e2]; exact X'.warmed.alike) hp hb k1 k2 k3 (by rw [e1]; exact hce) hcv hcl T' rfl X'
    exact ⟨t2, st.trans a1, b1⟩
/-- caught by the row x of this method's table; the rows ahead don't take it -/
theorem vx_catch {own name : String} {E : String} {ce : Cell} {q : Addr} (hown : s.vm.findClass own = some m.cls) (pre : List ExceptionTableEntry) (x : ExceptionTableEntry) (suf : List ExceptionTableEntry) (hsplit : c.exceptionTable.toList = pre ++ x :: suf)
    (hpass : ∀ z ∈ pre, covers z pc = false ∨ (z.catchType ≠ 0 ∧ ∃ nm : String, (Cond.classLink own z.catchType nm).before args s = true ∧ va_Nc E nm s)) (hx : covers x pc = true) (h0 : x.catchType ≠ 0)
    (hlink : (Cond.classLink own x.catchType name).before args s = true) (hcast : (Cond.castable E name).before args s = true) (hcell : H[q]? = some ce) (hv : ce.vm = .none) (hcl : s.vm.findClass E = some ce.cls)
    (kk : W p l e R s m args below meth c H locs cells slots Q (F0 m x.handlerPc ls [.ref q])) : vx_W p l e R s m args below meth c H locs cells slots Q (F0 m pc ls rest) q := by
  intro T hT X
  have hpl : e.platform.magicAccessors = ({} : Platform).magicAccessors := by rw [X.admits.platform]
  obtain ⟨c3, c4, hc3, hc4, hasg⟩ := Cond.castable_spec hcast
  cases Option.some.inj (hc3.symm.trans hcl)
  obtain ⟨c5, hc5, hcl5⟩ := Cond.classLink_spec hown hlink e.platform hpl
  cases Option.some.inj (hc4.symm.trans hc5)
  obtain ⟨vm', X', st⟩ := X.thenCaughtThrough q (g := F0 m pc ls rest) rfl (Steps.refl _) (by rw [hT]; exact hcell) (by rw [hv]; rfl) (by obtain ⟨k9, h9, -⟩ := Vm.findClass_spec hcl; exact ⟨k9, h9⟩) pre x suf hsplit
    (fun z hz => by
      rcases hpass z hz with h | ⟨hz0, nm, hl1, hn1⟩
      · exact Or.inl h
      · obtain ⟨c6, hc6, hcl6⟩ := Cond.classLink_spec hown hl1 e.platform hpl
        obtain ⟨a8, b8, h1, h2, h3⟩ := hn1
        cases Option.some.inj (h1.symm.trans hcl)
        cases Option.some.inj (h2.symm.trans hc6)
        exact Or.inr ⟨hz0, _, hcl6, h3⟩) hx (Or.inr ⟨h0, c4, hcl5, hasg⟩)
  obtain ⟨t, a1, b1⟩ := kk (T.setVm vm') hT X'
  exact ⟨t, st.trans a1, b1⟩
end Rows
section Ends
variable {p : Program} {l : Launch} {e : Env} {R : Room} {s : State} {m : MethodId} {args : Array Value} {below : List Frame} {meth : Method} {c : Code} {H : Heap} {locs : List Loc} {cells slots : Nat} {Q : State → Prop}
variable {mc ms : Nat} {free : Addr → Prop} {A0 A1 : Nat → Prop} {H0 : Heap} {a : Array Value} {ls : Array Slot} {st0 rest : List Value}
variable {Qc : Array Value → State → Outcome → State → Prop} {XC : String → State → State → Prop}
/-- what a body that may throw owes at its end -/
def vx_MQ (below : List Frame) (Qc : Array Value → State → Outcome → State → Prop) (XC : String → State → State → Prop) (a : Array Value) (s : State) (mc ms : Nat) (free : Addr → Prop) : State → Prop := fun t =>
  ∃ o, t.status = .running ∧ Ended t below o ∧ vx_Q Qc XC mc ms free a s o t
theorem vx_ret {g : JFrame} {mc ms : Nat} (k : W p l e R s m args below meth c H locs cells slots (MQ below Qc args s mc ms free) g) : W p l e R s m args below meth c H locs cells slots (vx_MQ below Qc XC args s mc ms free) g := by
  intro T hT X
  obtain ⟨t, a1, o, b1, b2, b3, b4⟩ := k T hT X
  exact ⟨t, a1, o, b1, b2, Or.inl ⟨b3, b4⟩⟩
/-- not caught here: it goes on to the caller -/
theorem vx_widen {g : JFrame} {q : Addr} {k n : Nat} (h1 : cells ≤ k) (h2 : slots ≤ n) (kk : vx_W p l e R s m args below meth c H locs k n Q g q) : vx_W p l e R s m args below meth c H locs cells slots Q g q := fun T hT X => kk T hT (stand_widen X h1 h2)
theorem vx_out {pc : Nat} {E : String} {ce : Cell} {q : Addr} {mc ms : Nat} (hout : ∀ x ∈ c.exceptionTable.toList, covers x pc = false) (hlocks : meth.locks = false) (hcell : H[q]? = some ce) (hv : ce.vm = .none) (hcl : s.vm.findClass E = some ce.cls)
    (hx : ∀ t : State, t.heap = H → s.vm.Alike t.vm → XC E s t) (hf : ∀ z ∈ locs, free z.base) (hc : cells ≤ mc) (hs : slots ≤ ms) :
    vx_W p l e R s m args below meth c H locs cells slots (vx_MQ below Qc XC args s mc ms free) (F0 m pc ls rest) q := by
  intro T hT X
  obtain ⟨st1, hrun, hend, hW, hsm⟩ := X.leaveThrown q (g := F0 m pc ls rest) rfl rfl rfl hout hlocks
  have hcell9 : (T.setFrames (.throwing q :: below)).heap[q]? = some ce := by
    show T.heap[q]? = some ce
    rw [hT]; exact hcell
  exact ⟨_, st1, .threw q, hrun, hend, Or.inr ⟨q, rfl, E, ce, locs, hx _ hT hW.alike, hcell9, hv, hcl, hW, hsm.mono hc hs, hf⟩⟩
theorem vx_frame {U : State} {k n : Nat} (h : s.sameButNew ({ U with vm := s.vm } : State) locs k n) : s.heap.size ≤ U.heap.size ∧ ∀ q : Nat, q < s.heap.size → (∀ z ∈ locs, z.base ≠ q) → U.heap[q]? = s.heap[q]? := by
  obtain ⟨-, h2, -, -, -, h6⟩ := h
  refine ⟨h2, fun q hq hz => ?_⟩
  obtain ⟨c9, e1, e2, e3, e4⟩ := h6 q _ (Array.getElem?_eq_getElem hq)
  have hs : c9.slots = (s.heap[q]).slots := Array.ext_getElem? fun i => e4 i fun hm => hz _ hm rfl
  have h9 : c9 = s.heap[q] := by
    rw [hs] at e2
    exact e2
  have e5 : U.heap[q]? = some c9 := e1
  rw [e5, h9, Array.getElem?_eq_getElem hq]
/-- the words of a throw but the four that speak of the heap -/
def vx_no (w : Cond) : Bool := decide (w ≠ .isRef (.static Bundle.tN "UNASSIGNED_STACK" Bundle.steD)) && decide (w ≠ .isRef (.static Bundle.tN "SUPPRESSED_SENTINEL" Bundle.listD)) && decide (w ≠ .laysStatic Bundle.tN "UNASSIGNED_STACK" Bundle.steD) && decide (w ≠ .laysStatic Bundle.tN "SUPPRESSED_SENTINEL" Bundle.listD)
def vx_at0 (own : String) (ic : Nat) (X : String) (names : List String) : List Cond := (Bundle.ownAtoms0 own ic X names).filter vx_no
def vx_atS (own : String) (ic : Nat) (X : String) (names : List String) : List Cond := (Bundle.ownAtoms own ic X names).filter vx_no
/-- a word that the tables alone decide, or a good one -/
def vx_ot (w : Cond) : Bool := w.onTables || goodWord w
theorem vx_ot_at {args a' : Array Value} {s U : State} {w : Cond} (hW : s.WarmedH U.vm) (hvm : s.vm = U.vm) (hg : vx_ot w = true) (h : w.before args s = true) : w.before a' U = true := by
  simp only [vx_ot, Bool.or_eq_true] at hg
  rcases hg with hg | hg
  · exact va_tabs hg hvm h
  · exact word_at hW (good_of_word hg) h
/-- a list's words: the good ones out of the method's own list, the others by premises of their own -/
theorem vx_hat {args : Array Value} {s : State} {L B : List Cond} (h1 : ∀ w ∈ L.filter goodWord, w.before args s = true) (h2 : ∀ w ∈ L.filter (fun w => !goodWord w), w ∈ B) (h3 : ∀ w ∈ B, w.before args s = true) : ∀ w ∈ L, w.before args s = true := by
  intro w hw
  by_cases g : goodWord w = true
  · exact h1 w (List.mem_filter.mpr ⟨hw, g⟩)
  · refine h3 w (h2 w (List.mem_filter.mpr ⟨hw, ?_⟩))
    show (!goodWord w) = true
    cases hgw : goodWord w
    · rfl
    · exact absurd hgw g
theorem vx_c {args : Array Value} {s : State} {w : Cond} {B : List Cond} (h : w.before args s = true) (t : ∀ w ∈ B, w.before args s = true) : ∀ w' ∈ w :: B, w'.before args s = true := fun w' h' => (List.mem_cons.mp h').elim (fun e => by rw [e]; exact h) (t w')
theorem vx_n {args : Array Value} {s : State} : ∀ w ∈ ([] : List Cond), w.before args s = true := fun _ h => nomatch h
theorem vx_own {args : Array Value} {s : State} {L : List Cond} (h1 : ∀ w ∈ L.filter vx_no, w.before args s = true)
    (hU : (Cond.isRef (.static Bundle.tN "UNASSIGNED_STACK" Bundle.steD)).before args s = true) (hN : (Cond.isRef (.static Bundle.tN "SUPPRESSED_SENTINEL" Bundle.listD)).before args s = true)
    (lU : (Cond.laysStatic Bundle.tN "UNASSIGNED_STACK" Bundle.steD).before args s = true) (lN : (Cond.laysStatic Bundle.tN "SUPPRESSED_SENTINEL" Bundle.listD).before args s = true) : ∀ w ∈ L, w.before args s = true := by
  intro w hw
  by_cases e1 : w = .isRef (.static Bundle.tN "UNASSIGNED_STACK" Bundle.steD)
  · rw [e1]; exact hU
  · by_cases e2 : w = .isRef (.static Bundle.tN "SUPPRESSED_SENTINEL" Bundle.listD)
    · rw [e2]; exact hN
    · by_cases e3 : w = .laysStatic Bundle.tN "UNASSIGNED_STACK" Bundle.steD
      · rw [e3]; exact lU
      · by_cases e4 : w = .laysStatic Bundle.tN "SUPPRESSED_SENTINEL" Bundle.listD
        · rw [e4]; exact lN
        · exact h1 w (List.mem_filter.mpr ⟨hw, by unfold vx_no; rw [decide_eq_true e1, decide_eq_true e2, decide_eq_true e3, decide_eq_true e4]; rfl⟩)
/-- where a static field lies, its class's statics cell in H -/
def vx_L (C n d : String) (A : Nat → Prop) (U : State) (H : Heap) : Prop := ∃ (c : ClassId) (k : Class) (i : Nat) (f : Field) (a : Nat) (cell : Cell), U.vm.findClass C = some c ∧ U.fieldFound? C n d = some (c, k, i, f) ∧ f.isStatic = true ∧ k.statics = some a ∧ H[a]? = some cell ∧ cell.vm.isStatics = true ∧ cell.cls = c ∧ f.slot < cell.slots.size ∧ k.staticTypes[f.slot]? = some f.type ∧ ¬ A a
theorem vx_L.moved {C n d : String} {A : Nat → Prop} {u U : State} {H : Heap} (hvm : u.vm.Alike U.vm) (h : vx_L C n d A u H) : vx_L C n d A U H := by
  obtain ⟨c, k, i, f, a, cell, h1, h2, h3, h4, h5, h6, h7, h8, h9, h10⟩ := h
  obtain ⟨k', hi', he⟩ := State.fieldFound?_setVm hvm h2
  exact ⟨c, k', i, f, a, cell, by rw [hvm.findClass]; exact h1, hi', h3, by rw [he]; exact h4, h5, h6, h7, h8, by rw [he]; exact h9, h10⟩
theorem vx_L.kept {C n d : String} {A : Nat → Prop} {U : State} {H H1 : Heap} (h : vx_L C n d A U H) (hq : ∀ a : Nat, a < H.size → ¬ A a → H1[a]? = H[a]?) : vx_L C n d A U H1 := by
  obtain ⟨c, k, i, f, a, cell, h1, h2, h3, h4, h5, h6, h7, h8, h9, h10⟩ := h
  exact ⟨c, k, i, f, a, cell, h1, h2, h3, h4, by rw [hq a (Array.getElem?_eq_some_iff.mp h5).1 h10]; exact h5, h6, h7, h8, h9, h10⟩
theorem vx_L.narrow {C n d : String} {A B : Nat → Prop} {U : State} {H : Heap} (h : vx_L C n d A U H) (hAB : ∀ q, B q → A q) : vx_L C n d B U H := by
  obtain ⟨c, k, i, f, a, cell, h1, h2, h3, h4, h5, h6, h7, h8, h9, h10⟩ := h
  exact ⟨c, k, i, f, a, cell, h1, h2, h3, h4, h5, h6, h7, h8, h9, fun z => h10 (hAB _ z)⟩
theorem vx_L.word {C n d : String} {A : Nat → Prop} {s : State} {args : Array Value} (h : vx_L C n d A s s.heap) : (Cond.laysStatic C n d).before args s = true := by
  obtain ⟨c, k, i, f, a, cell, h1, h2, h3, h4, h5, h6, h7, h8, h9, -⟩ := h
  show (Cond.laysStatic C n d).holds args s none s [] = true
  exact Cond.laysStatic_of h1 h2 h3 h4 h5 h6 h7 h8 h9
/-- .. and what it holds: null or some reference -/
def vx_Zq (C n d : String) (A : Nat → Prop) (U : State) (H : Heap) : Prop := va_Zq C n d A U H ∧ vx_L C n d A U H
theorem vx_Zq.moved {C n d : String} {A : Nat → Prop} {u U : State} {H : Heap} (hvm : u.vm.Alike U.vm) (h : vx_Zq C n d A u H) : vx_Zq C n d A U H := ⟨va_Zq.moved hvm h.1, vx_L.moved hvm h.2⟩
theorem vx_Zq.kept {C n d : String} {A : Nat → Prop} {U : State} {H H1 : Heap} (h : vx_Zq C n d A U H) (hq : ∀ a : Nat, a < H.size → ¬ A a → H1[a]? = H[a]?) : vx_Zq C n d A U H1 := ⟨va_Zq.kept h.1 hq, vx_L.kept h.2 hq⟩
theorem vx_Zq.narrow {C n d : String} {A B : Nat → Prop} {U : State} {H : Heap} (h : vx_Zq C n d A U H) (hAB : ∀ q, B q → A q) : vx_Zq C n d B U H := ⟨va_Zq.narrow h.1 hAB, vx_L.narrow h.2 hAB⟩
theorem vx_Zqof {args : Array Value} {s : State} {C n d : String} {A : Nat → Prop} (hl : (Cond.laysStatic C n d).before args s = true) (hini : (Cond.initialized C).before args s = true) (h : (Cond.isRef (.static C n d)).before args s = true) (hA : ∀ a : Nat, a < s.heap.size → ¬ A a) : vx_Zq C n d A s s.heap := by
  refine ⟨va_Zqof hl hini h hA, ?_⟩
  obtain ⟨c, k, i, f, a, cell, h1, h2, h3, h4, h5, h6, h7, h8, h9⟩ := Cond.laysStatic_spec hl
  exact ⟨c, k, i, f, a, cell, h1, h2, h3, h4, h5, h6, h7, h8, h9, hA a (Array.getElem?_eq_some_iff.mp h5).1⟩
theorem vx_isRef {C n d : String} {v : Value} {A : Nat → Prop} {s : State} {args : Array Value} (h : va_Z C n d v A s s.heap) (hv : v.isRef = true) : (Cond.isRef (.static C n d)).before args s = true := by
  obtain ⟨cf, kf, fi, f, a, cell, h1, h2, h3, h4, h5, h6, h7, -⟩ := h
  have he : (Term.static C n d).eval args s none [] s = some v := by
    simp [Term.eval, State.fieldNamed?, h1, h2, h4, h5, h6, h7]
  simp only [Cond.before, Cond.holds, Cond.value, he]
  cases v <;> simp_all [Value.isRef]
theorem vx_isRefq {C n d : String} {A : Nat → Prop} {s : State} {args : Array Value} (h : va_Zq C n d A s s.heap) : (Cond.isRef (.static C n d)).before args s = true := by
  rcases h with h | ⟨t, h⟩
  · exact vx_isRef h rfl
  · exact vx_isRef h rfl
/-- the same frame, seen from here: as if the method were called anew in this heap -/
theorem vx_rebase {T : State} (X : Stand p l e R s m args below meth c T locs cells slots) {R' : Room} (hf : R'.frames ≤ R.frames) (hl : R'.locals ≤ R.locals) (hc : cells + R'.cells ≤ R.cells) (hs : slots + R'.slots ≤ R.slots) :
    Stand p l e R' ((T.setVm s.vm).setFrames (.invoking m args :: below)) m args below meth c T [] 0 0 := by
  have htop : (T.setVm s.vm).topJava?.isSome := X.here.top
  have hF : ((T.setVm s.vm).setFrames (.invoking m args :: below)).frames = .invoking m args :: below := State.frames_setFrames _ (State.cur_lt_of_top htop)
  obtain ⟨g₀, hg0⟩ := Option.isSome_iff_exists.mp htop
  obtain ⟨r, hr⟩ := State.topJava?_eq_some.mp hg0
  have hl9 : e.platform.stackLimits (T.setVm s.vm).me = e.platform.stackLimits s.me := X.limits
  have hb9 : (T.setVm s.vm).me.stackBytes = s.me.stackBytes := X.bytes
  refine ⟨X.admits, X.cas, X.clock, hF, ?_, X.hears, X.method, X.code, X.here, X.tail, X.warmed, ?_, ?_, ?_⟩
  · have h := X.room
    have hU : ((T.setVm s.vm).setFrames (.invoking m args :: below)).localsInUse = s.localsInUse := by
      rw [State.localsInUse_invoking hF (meth := meth) (c := c) X.method X.code, State.localsInUse_invoking X.frames X.method X.code]
    simp only [State.hasRoom, Bool.and_eq_true, decide_eq_true_eq] at h ⊢
    obtain ⟨⟨⟨⟨h1, h2, h3, h4, h5, h6⟩, h7⟩, h8⟩, h9⟩ := h
    rw [X.frames, List.length_cons] at h2 h3
    have q1 := X.heapSize
    have q2 := X.used
    simp only [hF, hU, List.length_cons, State.stackLimits_setFrames, State.stackBytes_setFrames, hl9, hb9]
    refine ⟨⟨⟨⟨by omega, by omega, by omega, by omega, by omega, h6⟩, ?_⟩, ?_⟩, X.book⟩
    · show T.heap.size + R'.cells ≤ e.platform.maxCells
      omega
    · show T.slotsUsed + R'.slots ≤ e.platform.maxSlots
      omega
  · rw [State.stackLimits_setFrames]; rfl
  · rw [State.stackBytes_setFrames]; rfl
  · refine ⟨?_, Nat.le_refl _, Nat.le_refl _, ?_, ?_, fun a c9 h9 => ⟨c9, h9, rfl, rfl, fun _ _ => rfl⟩⟩
    · obtain ⟨t, ht, -⟩ := State.frames_cons hr
      show T.setVm s.vm = { ((T.setVm s.vm).setFrames (.invoking m args :: below)).setFrames (T.setVm s.vm).frames with heap := T.heap, slotsUsed := T.slotsUsed }
      rw [State.setFrames_setFrames, State.setFrames_self ht]
      rfl
    · show T.slotsUsed = T.slotsUsed + ((T.heap.toList.drop T.heap.size).map (·.slots.size)).sum
      rw [List.drop_eq_nil_of_le (Nat.le_of_eq Array.length_toList)]
      rfl
    · show ((T.heap.toList.drop T.heap.size).map (·.slots.size)).sum ≤ 0
      rw [List.drop_eq_nil_of_le (Nat.le_of_eq Array.length_toList)]
      exact Nat.le_refl _
/-- 'throw new E()': new; dup; invokespecial; athrow -/
theorem vx_throw0 {cc : ByteArray} {pc : Nat} (hexec : p.tables.exec = Jvm.exec) (hb : c.code = cc) (hl : l.stackTraces = false) {own cls : String} {names : List String} {ik ic mc ms : Nat} {A : Nat → Prop}
    (hown : s.vm.findClass own = some m.cls) (hcls : Bundle.fit cls = true) (hnames : ∀ n ∈ names, Bundle.fit n = true)
    (hk : (Cond.classLink own ik cls).before args s = true) (hini : (Cond.initialized cls).before args s = true) (hat : ∀ w ∈ vx_at0 own ic cls names, w.before args s = true)
    (hgood : ∀ w ∈ Cond.classLink own ik cls :: Cond.initialized cls :: vx_at0 own ic cls names, vx_ot w = true)
    (hU : vx_Zq Bundle.tN "UNASSIGNED_STACK" Bundle.steD A s s.heap) (hN : vx_Zq Bundle.tN "SUPPRESSED_SENTINEL" Bundle.listD A s s.heap) (hS : va_S A s.heap H locs) (hsize : ls.size = c.maxLocals)
    (d0 : decode cc pc = .ok (.new ik, 3)) (d3 : decode cc (pc + 3) = .ok (.dup, 1)) (d4 : decode cc (pc + 4) = .ok (.invokespecial ic, 3)) (d7 : decode cc (pc + 7) = .ok (.athrow, 1))
    (hout : ∀ x ∈ c.exceptionTable.toList, covers x (pc + 7) = false)
    (hRframes : names.length + 3 < R.frames) (hRlocals : (rest.map fun v => v.category).sum + (13 * (names.length + 1) + 42) ≤ R.locals) (hRcells : cells + 1 ≤ R.cells) (hRslots : slots + 6 ≤ R.slots) (hlocks : meth.locks = false)
    (hx : ∀ t : State, s.vm.Alike t.vm → H.size ≤ t.heap.size → (∀ q : Nat, q < H.size → t.heap[q]? = H[q]?) → XC cls s t)
    (hf : ∀ z ∈ locs, free z.base) (hc : cells + 1 ≤ mc) (hs : slots + 6 ≤ ms) :
    W p l e R s m args below meth c H locs cells slots (vx_MQ below Qc XC args s mc ms free) (F0 m pc ls rest) := by
  intro T hT X
  have htr : e.platform.stackTraces = false := (show e.platform.stackTraces = l.stackTraces by rw [X.admits.platform]).trans hl
  have Y := vx_rebase X (R' := { frames := R.frames, locals := R.locals, cells := 1, slots := 6 }) (Nat.le_refl _) (Nat.le_refl _) hRcells hRslots
  obtain ⟨s', hA⟩ : ∃ z, z = (T.setVm s.vm).setFrames (.invoking m args :: below) := ⟨_, rfl⟩
  rw [← hA] at Y
  have hvm : s'.vm = s.vm := by rw [hA]; rfl
  have hhp : s'.heap = H := by rw [hA]; exact hT
  have hW0 : s.WarmedH s'.vm := by rw [hvm]; exact State.WarmedH.refl s
  have hat' : ∀ w ∈ vx_at0 own ic cls names, w.before args s' = true := fun w hw => vx_ot_at hW0 hvm.symm (hgood w (List.mem_cons_of_mem _ (List.mem_cons_of_mem _ hw))) (hat w hw)
  have hk' : (Cond.classLink own ik cls).before args s' = true := vx_ot_at hW0 hvm.symm (hgood _ List.mem_cons_self) hk
  have hini' : (Cond.initialized cls).before args s' = true := vx_ot_at hW0 hvm.symm (hgood _ (List.mem_cons_of_mem _ List.mem_cons_self)) hini
  have hU' : vx_Zq Bundle.tN "UNASSIGNED_STACK" Bundle.steD A s' s'.heap := by rw [hhp]; exact vx_Zq.moved hW0.alike (hU.kept hS.2.1)
  have hN' : vx_Zq Bundle.tN "SUPPRESSED_SENTINEL" Bundle.listD A s' s'.heap := by rw [hhp]; exact vx_Zq.moved hW0.alike (hN.kept hS.2.1)
  have h : ∀ w ∈ Bundle.ownAtoms0 own ic cls names, w.before args s' = true := vx_own hat' (vx_isRefq hU'.1) (vx_isRefq hN'.1) hU'.2.word hN'.2.word
  have hown' : s'.vm.findClass own = some m.cls := by rw [hvm]; exact hown
  have hins : (Cond.instantiable cls 6).before args s' = true := h _ (by simp [Bundle.ownAtoms0])
  obtain ⟨vm₁, cX, kX, hfX, hkX, -, -, X₁, st1⟩ := Y.newCold hexec (own := own) (C := cls) (index := ik) (n := 6) hown' hk' hins hini'
    (g := F0 m pc ls rest) rfl (by rw [hb]; exact d0) (Nat.le_refl _) (Nat.le_refl _)
  generalize hT1 : (T.setVm vm₁).pushCell { cls := cX, slots := kX.instanceTypes.map defaultValue, vm := .none } = T1 at X₁ st1
  have hcat : (Value.ref T.heap.size).category = 1 := rfl
  have hcellA : T1.heap[T.heap.size]? = some (freshCell cX kX) := by rw [← hT1]; exact State.heap_pushCell_size _ _
  have d3' : decode c.code (pc + 3) = .ok (.dup, 1) := by rw [hb]; exact d3
  obtain ⟨U, hsteps, hrun, hend, hW, hsame, ce, hce, hO⟩ := X₁.ctorThrow0 hexec htr (own := own) (cls := cls) (names := names) (ic := ic) hown' hcls hnames h (fun x hx => nomatch hx) hfX hkX hcellA (by rw [hhp, hT]; exact Nat.le_refl _)
    (g := { method := m, pc := pc + 4, locals := ls, stack := .ref T.heap.size :: .ref T.heap.size :: rest, locked := none }) rfl hsize rfl rfl (rest := rest) rfl
    (by rw [hb]; exact d4) (by rw [hb]; exact d7) hout hRframes (by simp only [List.map_cons, List.sum_cons, hcat]; omega) hlocks
  obtain ⟨f1, f2⟩ := vx_frame hsame
  rw [hhp] at f1 f2
  have hWs : s.WarmedH U.vm := State.WarmedH.trans hW0 hW
  have hcl : s.vm.findClass cls = some ce.cls := by
    have h9 := hO.cls
    rw [hvm] at h9
    exact h9
  have hall : s.sameButNew ({ U with vm := s.vm } : State) locs mc ms := by
    subst hA
    obtain ⟨e1, e2⟩ := hsame
    rw [State.setFrames_setFrames] at e1
    have h2 : (T.setVm s.vm).sameButNew ({ U with vm := s.vm } : State) [] (0 + 1) (0 + 6) := ⟨e1, e2⟩
    have h3 := X.same.trans h2
    rw [List.append_nil] at h3
    exact h3.mono hc hs
  refine ⟨U, ?_, .threw T.heap.size, hrun, hend, Or.inr ⟨T.heap.size, rfl, cls, ce, locs, hx U hWs.alike f1 (fun q hq => f2 q hq (fun z hz => nomatch hz)), hce, hO.vm, hcl, hWs, hall, hf⟩⟩
  refine st1 _ ?_
  show Steps p.tables e below (T1.setTop { method := m, pc := pc + 3, locals := ls, stack := .ref T.heap.size :: rest, locked := none }) _
  jvm_step X₁.here [X₁.here.top, hexec, d3', Value.category]
  exact hsteps
/-- 'throw new E("text")': new; dup; ldc; invokespecial; athrow -/
theorem vx_throwS {cc : ByteArray} {pc : Nat} (hexec : p.tables.exec = Jvm.exec) (hb : c.code = cc) (hl : l.stackTraces = false) {own cls text : String} {names : List String} {ik is ic mc ms sa : Nat} {A : Nat → Prop}
    (hown : s.vm.findClass own = some m.cls) (hcls : Bundle.fit cls = true) (hnames : ∀ n ∈ names, Bundle.fit n = true)
    (hk : (Cond.classLink own ik cls).before args s = true) (hini : (Cond.initialized cls).before args s = true) (hstr : vk_R own is text sa s) (hat : ∀ w ∈ vx_atS own ic cls names, w.before args s = true)
    (hgood : ∀ w ∈ Cond.classLink own ik cls :: Cond.initialized cls :: vx_atS own ic cls names, vx_ot w = true)
    (hU : vx_Zq Bundle.tN "UNASSIGNED_STACK" Bundle.steD A s s.heap) (hN : vx_Zq Bundle.tN "SUPPRESSED_SENTINEL" Bundle.listD A s s.heap) (hS : va_S A s.heap H locs) (hsize : ls.size = c.maxLocals)
    (d0 : decode cc pc = .ok (.new ik, 3)) (d3 : decode cc (pc + 3) = .ok (.dup, 1)) (d4 : decode cc (pc + 4) = .ok (.ldc is, 2)) (d6 : decode cc (pc + 6) = .ok (.invokespecial ic, 3)) (d9 : decode cc (pc + 9) = .ok (.athrow, 1))
    (hout : ∀ x ∈ c.exceptionTable.toList, covers x (pc + 9) = false)
    (hRframes : names.length + 3 < R.frames) (hRlocals : (rest.map fun v => v.category).sum + (13 * (names.length + 1) + 43) ≤ R.locals) (hRcells : cells + 1 ≤ R.cells) (hRslots : slots + 6 ≤ R.slots) (hlocks : meth.locks = false)
    (hx : ∀ t : State, s.vm.Alike t.vm → H.size ≤ t.heap.size → (∀ q : Nat, q < H.size → t.heap[q]? = H[q]?) → XC cls s t)
    (hf : ∀ z ∈ locs, free z.base) (hc : cells + 1 ≤ mc) (hs : slots + 6 ≤ ms) :
    W p l e R s m args below meth c H locs cells slots (vx_MQ below Qc XC args s mc ms free) (F0 m pc ls rest) := by
  intro T hT X
  have htr : e.platform.stackTraces = false := (show e.platform.stackTraces = l.stackTraces by rw [X.admits.platform]).trans hl
  have Y := vx_rebase X (R' := { frames := R.frames, locals := R.locals, cells := 1, slots := 6 }) (Nat.le_refl _) (Nat.le_refl _) hRcells hRslots
  obtain ⟨s', hA⟩ : ∃ z, z = (T.setVm s.vm).setFrames (.invoking m args :: below) := ⟨_, rfl⟩
  rw [← hA] at Y
  have hvm : s'.vm = s.vm := by rw [hA]; rfl
  have hhp : s'.heap = H := by rw [hA]; exact hT
  have hW0 : s.WarmedH s'.vm := by rw [hvm]; exact State.WarmedH.refl s
  have hat' : ∀ w ∈ vx_atS own ic cls names, w.before args s' = true := fun w hw => vx_ot_at hW0 hvm.symm (hgood w (List.mem_cons_of_mem _ (List.mem_cons_of_mem _ hw))) (hat w hw)
  have hk' : (Cond.classLink own ik cls).before args s' = true := vx_ot_at hW0 hvm.symm (hgood _ List.mem_cons_self) hk
  have hini' : (Cond.initialized cls).before args s' = true := vx_ot_at hW0 hvm.symm (hgood _ (List.mem_cons_of_mem _ List.mem_cons_self)) hini
  have hU' : vx_Zq Bundle.tN "UNASSIGNED_STACK" Bundle.steD A s' s'.heap := by rw [hhp]; exact vx_Zq.moved hW0.alike (hU.kept hS.2.1)
  have hN' : vx_Zq Bundle.tN "SUPPRESSED_SENTINEL" Bundle.listD A s' s'.heap := by rw [hhp]; exact vx_Zq.moved hW0.alike (hN.kept hS.2.1)
  have h : ∀ w ∈ Bundle.ownAtoms own ic cls names, w.before args s' = true := vx_own hat' (vx_isRefq hU'.1) (vx_isRefq hN'.1) hU'.2.word hN'.2.word
  have hown' : s'.vm.findClass own = some m.cls := by rw [hvm]; exact hown
  have hins : (Cond.instantiable cls 6).before args s' = true := h _ (by simp [Bundle.ownAtoms])
  obtain ⟨vm₁, cX, kX, hfX, hkX, -, -, X₁, st1⟩ := Y.newCold hexec (own := own) (C := cls) (index := ik) (n := 6) hown' hk' hins hini'
    (g := F0 m pc ls rest) rfl (by rw [hb]; exact d0) (Nat.le_refl _) (Nat.le_refl _)
  generalize hT1 : (T.setVm vm₁).pushCell { cls := cX, slots := kX.instanceTypes.map defaultValue, vm := .none } = T1 at X₁ st1
  have hcat : (Value.ref T.heap.size).category = 1 := rfl
  have hcellA : T1.heap[T.heap.size]? = some (freshCell cX kX) := by rw [← hT1]; exact State.heap_pushCell_size _ _
  have d3' : decode c.code (pc + 3) = .ok (.dup, 1) := by rw [hb]; exact d3
  have d4' : decode c.code (pc + 4) = .ok (.ldc is, 2) := by rw [hb]; exact d4
  have hstr' : vk_R own is text sa s' := vk_R.warm hW0 hstr
  obtain ⟨U, hsteps, hrun, hend, hW, hsame, ce, hce, hO⟩ := X₁.ctorThrowS hexec htr (own := own) (cls := cls) (names := names) (ic := ic) hown' hcls hnames h (fun x hx => nomatch hx) hfX hkX hcellA (by rw [hhp, hT]; exact Nat.le_refl _) (msg := .ref sa) rfl
    (g := { method := m, pc := pc + 6, locals := ls, stack := .ref sa :: .ref T.heap.size :: .ref T.heap.size :: rest, locked := none }) rfl hsize rfl rfl (rest := rest) rfl
    (by rw [hb]; exact d6) (by rw [hb]; exact d9) hout hRframes (by simp only [List.map_cons, List.sum_cons, hcat]; omega) hlocks
  obtain ⟨f1, f2⟩ := vx_frame hsame
  rw [hhp] at f1 f2
  have hWs : s.WarmedH U.vm := State.WarmedH.trans hW0 hW
  have hcl : s.vm.findClass cls = some ce.cls := by
    have h9 := hO.cls
    rw [hvm] at h9
    exact h9
  have hall : s.sameButNew ({ U with vm := s.vm } : State) locs mc ms := by
    subst hA
    obtain ⟨e1, e2⟩ := hsame
    rw [State.setFrames_setFrames] at e1
    have h2 : (T.setVm s.vm).sameButNew ({ U with vm := s.vm } : State) [] (0 + 1) (0 + 6) := ⟨e1, e2⟩
    have h3 := X.same.trans h2
    rw [List.append_nil] at h3
    exact h3.mono hc hs
  refine ⟨U, ?_, .threw T.heap.size, hrun, hend, Or.inr ⟨T.heap.size, rfl, cls, ce, locs, hx U hWs.alike f1 (fun q hq => f2 q hq (fun z hz => nomatch hz)), hce, hO.vm, hcl, hWs, hall, hf⟩⟩
  refine st1 _ ?_
  show Steps p.tables e below (T1.setTop { method := m, pc := pc + 3, locals := ls, stack := .ref T.heap.size :: rest, locked := none }) _
  jvm_step X₁.here [X₁.here.top, hexec, d3', Value.category]
  exact X₁.ldcString hexec (own := own) (text := text) (index := is) (a := sa) hown' hstr'.1 hstr'.2
    (g := { method := m, pc := pc + 4, locals := ls, stack := .ref T.heap.size :: .ref T.heap.size :: rest, locked := none }) rfl d4' _ hsteps
/-- 'throw new E("text")', the text by a wide index -/
theorem vx_throwSW {cc : ByteArray} {pc : Nat} (hexec : p.tables.exec = Jvm.exec) (hb : c.code = cc) (hl : l.stackTraces = false) {own cls text : String} {names : List String} {ik is ic mc ms sa : Nat} {A : Nat → Prop}
    (hown : s.vm.findClass own = some m.cls) (hcls : Bundle.fit cls = true) (hnames : ∀ n ∈ names, Bundle.fit n = true)
    (hk : (Cond.classLink own ik cls).before args s = true) (hini : (Cond.initialized cls).before args s = true) (hstr : vk_R own is text sa s) (hat : ∀ w ∈ vx_atS own ic cls names, w.before args s = true)
    (hgood : ∀ w ∈ Cond.classLink own ik cls :: Cond.initialized cls :: vx_atS own ic cls names, vx_ot w = true)
    (hU : vx_Zq Bundle.tN "UNASSIGNED_STACK" Bundle.steD A s s.heap) (hN : vx_Zq Bundle.tN "SUPPRESSED_SENTINEL" Bundle.listD A s s.heap) (hS : va_S A s.heap H locs) (hsize : ls.size = c.maxLocals)
    (d0 : decode cc pc = .ok (.new ik, 3)) (d3 : decode cc (pc + 3) = .ok (.dup, 1)) (d4 : decode cc (pc + 4) = .ok (.ldc_w is, 3)) (d7 : decode cc (pc + 7) = .ok (.invokespecial ic, 3)) (d10 : decode cc (pc + 10) = .ok (.athrow, 1))
    (hout : ∀ x ∈ c.exceptionTable.toList, covers x (pc + 10) = false)
    (hRframes : names.length + 3 < R.frames) (hRlocals : (rest.map fun v => v.category).sum + (13 * (names.length + 1) + 43) ≤ R.locals) (hRcells : cells + 1 ≤ R.cells) (hRslots : slots + 6 ≤ R.slots) (hlocks : meth.locks = false)
    (hx : ∀ t : State, s.vm.Alike t.vm → H.size ≤ t.heap.size → (∀ q : Nat, q < H.size → t.heap[q]? = H[q]?) → XC cls s t)
    (hf : ∀ z ∈ locs, free z.base) (hc : cells + 1 ≤ mc) (hs : slots + 6 ≤ ms) :
    W p l e R s m args below meth c H locs cells slots (vx_MQ below Qc XC args s mc ms free) (F0 m pc ls rest) := by
  intro T hT X
  have htr : e.platform.stackTraces = false := (show e.platform.stackTraces = l.stackTraces by rw [X.admits.platform]).trans hl
  have Y := vx_rebase X (R' := { frames := R.frames, locals := R.locals, cells := 1, slots := 6 }) (Nat.le_refl _) (Nat.le_refl _) hRcells hRslots
  obtain ⟨s', hA⟩ : ∃ z, z = (T.setVm s.vm).setFrames (.invoking m args :: below) := ⟨_, rfl⟩
  rw [← hA] at Y
  have hvm : s'.vm = s.vm := by rw [hA]; rfl
  have hhp : s'.heap = H := by rw [hA]; exact hT
  have hW0 : s.WarmedH s'.vm := by rw [hvm]; exact State.WarmedH.refl s
  have hat' : ∀ w ∈ vx_atS own ic cls names, w.before args s' = true := fun w hw => vx_ot_at hW0 hvm.symm (hgood w (List.mem_cons_of_mem _ (List.mem_cons_of_mem _ hw))) (hat w hw)
  have hk' : (Cond.classLink own ik cls).before args s' = true := vx_ot_at hW0 hvm.symm (hgood _ List.mem_cons_self) hk
  have hini' : (Cond.initialized cls).before args s' = true := vx_ot_at hW0 hvm.symm (hgood _ (List.mem_cons_of_mem _ List.mem_cons_self)) hini
  have hU' : vx_Zq Bundle.tN "UNASSIGNED_STACK" Bundle.steD A s' s'.heap := by rw [hhp]; exact vx_Zq.moved hW0.alike (hU.kept hS.2.1)
  have hN' : vx_Zq Bundle.tN "SUPPRESSED_SENTINEL" Bundle.listD A s' s'.heap := by rw [hhp]; exact vx_Zq.moved hW0.alike (hN.kept hS.2.1)
  have h : ∀ w ∈ Bundle.ownAtoms own ic cls names, w.before args s' = true := vx_own hat' (vx_isRefq hU'.1) (vx_isRefq hN'.1) hU'.2.word hN'.2.word
  have hown' : s'.vm.findClass own = some m.cls := by rw [hvm]; exact hown
  have hins : (Cond.instantiable cls 6).before args s' = true := h _ (by simp [Bundle.ownAtoms])
  obtain ⟨vm₁, cX, kX, hfX, hkX, -, -, X₁, st1⟩ := Y.newCold hexec (own := own) (C := cls) (index := ik) (n := 6) hown' hk' hins hini'
    (g := F0 m pc ls rest) rfl (by rw [hb]; exact d0) (Nat.le_refl _) (Nat.le_refl _)
  generalize hT1 : (T.setVm vm₁).pushCell { cls := cX, slots := kX.instanceTypes.map defaultValue, vm := .none } = T1 at X₁ st1
  have hcat : (Value.ref T.heap.size).category = 1 := rfl
  have hcellA : T1.heap[T.heap.size]? = some (freshCell cX kX) := by rw [← hT1]; exact State.heap_pushCell_size _ _
  have d3' : decode c.code (pc + 3) = .ok (.dup, 1) := by rw [hb]; exact d3
  have d4' : decode c.code (pc + 4) = .ok (.ldc_w is, 3) := by rw [hb]; exact d4
  have hstr' : vk_R own is text sa s' := vk_R.warm hW0 hstr
  obtain ⟨U, hsteps, hrun, hend, hW, hsame, ce, hce, hO⟩ := X₁.ctorThrowS hexec htr (own := own) (cls := cls) (names := names) (ic := ic) hown' hcls hnames h (fun x hx => nomatch hx) hfX hkX hcellA (by rw [hhp, hT]; exact Nat.le_refl _) (msg := .ref sa) rfl
    (g := { method := m, pc := pc + 7, locals := ls, stack := .ref sa :: .ref T.heap.size :: .ref T.heap.size :: rest, locked := none }) rfl hsize rfl rfl (rest := rest) rfl
    (by rw [hb]; exact d7) (by rw [hb]; exact d10) hout hRframes (by simp only [List.map_cons, List.sum_cons, hcat]; omega) hlocks
  obtain ⟨f1, f2⟩ := vx_frame hsame
  rw [hhp] at f1 f2
  have hWs : s.WarmedH U.vm := State.WarmedH.trans hW0 hW
  have hcl : s.vm.findClass cls = some ce.cls := by
    have h9 := hO.cls
    rw [hvm] at h9
    exact h9
  have hall : s.sameButNew ({ U with vm := s.vm } : State) locs mc ms := by
    subst hA
    obtain ⟨e1, e2⟩ := hsame
    rw [State.setFrames_setFrames] at e1
    have h2 : (T.setVm s.vm).sameButNew ({ U with vm := s.vm } : State) [] (0 + 1) (0 + 6) := ⟨e1, e2⟩
    have h3 := X.same.trans h2
    rw [List.append_nil] at h3
    exact h3.mono hc hs
  refine ⟨U, ?_, .threw T.heap.size, hrun, hend, Or.inr ⟨T.heap.size, rfl, cls, ce, locs, hx U hWs.alike f1 (fun q hq => f2 q hq (fun z hz => nomatch hz)), hce, hO.vm, hcl, hWs, hall, hf⟩⟩
  refine st1 _ ?_
  show Steps p.tables e below (T1.setTop { method := m, pc := pc + 3, locals := ls, stack := .ref T.heap.size :: rest, locked := none }) _
  jvm_step X₁.here [X₁.here.top, hexec, d3', Value.category]
  exact X₁.ldcStringW hexec (own := own) (text := text) (index := is) (a := sa) hown' hstr'.1 hstr'.2
    (g := { method := m, pc := pc + 4, locals := ls, stack := .ref T.heap.size :: .ref T.heap.size :: rest, locked := none }) rfl d4' _ hsteps
end Ends
section Bodies
variable {l : Launch}
theorem vx_ofW {y : MethodName} {ws ws' : List Cond} {rm : Room} {Pc : Array Value → State → Prop} {Qc : Array Value → State → Outcome → State → Prop} {XC : String → State → State → Prop} {mc ms : Nat} {free : Addr → Prop} {cc : ByteArray} {maxL : Nat} {ret : Option FieldType}
    (hy : plainName y.cls = true) (hw : ws = Cond.code y cc maxL ret :: ws')
    (body : ∀ p e s m args below meth c s₁, BodyLoose p l y (headSpec ws rm) cc maxL ret e s m args below meth c s₁ → c.maxLocals = maxL → (∀ x ∈ c.exceptionTable.toList, False) → Pc args s →
      W p l e (headSpec ws rm).room s m args below meth c s.heap [] 0 0 (vx_MQ below Qc XC args s mc ms free) (entryFrame m args maxL)) : vx_Met l y ws rm Pc Qc XC mc ms free := by
  refine MetFree.of_bodyS (code := cc) (maxLocals := maxL) (ret := ret) hy ?_ ?_
  · intro args s m h hn
    obtain ⟨meth, c, h1, h2, h3, h4, h5, h6, -, -⟩ := Cond.code_spec hn (atoms_spec (ws := ws) h _ (by rw [hw]; exact List.mem_cons_self))
    exact ⟨meth, c, h1, h2, h3, h4, h5, h6⟩
  · intro p e s m args below meth c s₁ B hml hP _
    have hh0 : s₁.heap = s.heap := by rw [B.state]; rfl
    have ht : ∀ x ∈ c.exceptionTable.toList, False := by
      obtain ⟨meth9, c9, h1, h2, -, -, -, -, h7, -⟩ := Cond.code_spec B.named (atoms_spec (ws := ws) B.pre _ (by rw [hw]; exact List.mem_cons_self))
      cases Option.some.inj (h1.symm.trans B.method)
      cases Option.some.inj (h2.symm.trans (Stand.of_body B).code)
      intro x hx
      rw [Array.isEmpty_iff.mp h7] at hx
      cases hx
    obtain ⟨t, a1, o, b1, b2, b3⟩ := body p e s m args below meth c s₁ B hml ht hP s₁ hh0 (Stand.of_body B)
    exact ⟨t, o, a1, b1, b2, b3⟩
/-- the table of a body with handlers -/
theorem vx_table {p : Program} {x y : MethodName} {S : Spec} {cc bytes : ByteArray} {maxL maxL' : Nat} {ret ret' : Option FieldType} {e : Env} {s s₁ : State} {m : MethodId} {args : Array Value} {below : List Frame} {meth : Method} {c : Code} {hh : List (Nat × Nat × Nat × Nat)}
    (B : BodyLoose p l y S cc maxL ret e s m args below meth c s₁) (h : (Cond.codeWith y bytes maxL' ret' hh).before args s = true) : c.exceptionTable.toList = tableOf hh := by
  obtain ⟨m9, meth9, c9, hn9, h1, h2, -, -, h6, -⟩ := Cond.codeWith_spec h
  cases Option.some.inj (hn9.symm.trans B.named)
  cases Option.some.inj (h1.symm.trans B.method)
  cases Option.some.inj (h2.symm.trans (Stand.of_body B).code)
  rw [← h6, table_eq]
end Bodies
end VXA
/-! ===== END ===== -/
/-! ===== BEGIN a static call of a method with an exception table ===== -/
section VXS
variable {p : Program} {l : Launch} {e : Env} {R : Room} {s : State} {m : MethodId} {args : Array Value} {below : List Frame} {meth : Method} {c : Code} {T : State} {H : Heap} {locs : List Loc} {cells slots : Nat}
abbrev vx_CSW (R : Room) (s : State) (args : Array Value) (own : String) (index : Nat) (y : MethodName) (bytes : ByteArray) (maxL : Nat) (ret : Option FieldType) (hh : List (Nat × Nat × Nat × Nat)) (ws : List Cond) (rm : Room) (mc ms n : Nat) : Prop :=
  (rm.cells = mc ∧ rm.slots = ms ∧ rm.frames + 1 ≤ R.frames ∧ 8 + (maxL + 11) + rm.locals ≤ R.locals ∧ (∀ w ∈ ws, ∀ (a' : Array Value) (U : State), s.WarmedH U.vm → w.before a' U = true) ∧ Cond.codeWith y bytes maxL ret hh ∈ ws) ∧
  (Cond.codeWith y bytes maxL ret hh).before args s = true ∧ (Cond.initialized y.cls).before args s = true ∧ (y.cls ≠ "java/lang/invoke/MethodHandle" ∧ y.cls ≠ "java/lang/invoke/VarHandle") ∧
  (∀ sig, parseMethodDescriptor y.desc = some sig → n = sig.parameters.length) ∧ (Cond.methodLink own index y).before args s = true ∧ (Cond.static y).before args s = true
theorem vx_cwSW {own : String} {index maxL mc ms : Nat} {y : MethodName} {bytes : ByteArray} {ret : Option FieldType} {hh : List (Nat × Nat × Nat × Nat)} {Ts ws ws' : List Cond} {rm : Room} (n : Nat) (ht : ∀ w ∈ Ts, w.before args s = true) (hT : GoodIn Ts (va_wsS own index y ws)) (hw : ws = Cond.codeWith y bytes maxL ret hh :: ws') (hrc : rm.cells = mc) (hrs : rm.slots = ms)
    (hd : y.cls ≠ "java/lang/invoke/MethodHandle" ∧ y.cls ≠ "java/lang/invoke/VarHandle" ∧ (parseMethodDescriptor y.desc).map (fun d => d.parameters.length) = some n) (hR : rm.frames + 1 ≤ R.frames ∧ 8 + (maxL + 11) + rm.locals ≤ R.locals) :
    vx_CSW R s args own index y bytes maxL ret hh ws rm mc ms n := by
  have ok : ∀ w ∈ va_wsS own index y ws, w.before args s = true := fun w h => ht w (hT w h).1
  have hG : GoodIn Ts ws := fun w h => hT w (by unfold va_wsS; exact List.mem_append_right _ h)
  have hc : Cond.codeWith y bytes maxL ret hh ∈ ws := by rw [hw]; exact List.mem_cons_self
  refine ⟨⟨hrc, hrs, hR.1, hR.2, pay_in ht hG, hc⟩, ht _ (hG _ hc).1, ok _ (by simp [va_wsS]), ⟨hd.1, hd.2.1⟩, fun sig h => ?_, ok _ (by simp [va_wsS]), ok _ (by simp [va_wsS])⟩
  have h2 := hd.2.2
  rw [h] at h2
  exact (Option.some.inj h2).symm
theorem vx_callSW (X : Stand p l e R s m args below meth c T locs cells slots) (hexec : p.tables.exec = Jvm.exec) {own : String} {index : Nat} {y : MethodName} {bytes : ByteArray} {maxL : Nat} {ret : Option FieldType} {hh : List (Nat × Nat × Nat × Nat)}
    (hown : s.vm.findClass own = some m.cls) (hlink : (Cond.methodLink own index y).before args s = true) (hstat : (Cond.static y).before args s = true) (hinit : (Cond.initialized y.cls).before args s = true)
    (hcode : (Cond.codeWith y bytes maxL ret hh).before args s = true) (hy : y.cls ≠ "java/lang/invoke/MethodHandle" ∧ y.cls ≠ "java/lang/invoke/VarHandle")
    {W9 : Nat} {Pre : Pt → Array Value → Prop} {Post : Pt → Array Value → Option Value → Pt → Prop} (hK : Back l R p e below s args y 3 W9 Pre Post)
    {g : JFrame} (hg : g.method = m) (hsize : g.locals.size = c.maxLocals) {argsL rest : List Value} (hlen : ∀ sig, parseMethodDescriptor y.desc = some sig → argsL.length = sig.parameters.length)
    (hstack : g.stack = argsL.reverse ++ rest) (hW : 2 * g.monitorRoom + (rest.map fun v => v.category).sum ≤ W9) (hdg : decode c.code g.pc = .ok (.invokestatic index, 3))
    (hpre : ∀ vm₁, s.WarmedH vm₁ → Pre ⟨T.setVm vm₁, locs, cells, slots⟩ argsL.toArray) :
    ∃ (v : Option Value) (vm₁ : Vm) (B : Pt), s.WarmedH vm₁ ∧ Stand p l e R s m args below meth c B.U B.locs B.cells B.slots ∧ Post ⟨T.setVm vm₁, locs, cells, slots⟩ argsL.toArray v B ∧
      ∀ target, Steps p.tables e below (B.U.setTop { g with pc := g.pc + 3, stack := v.toList ++ rest }) target → Steps p.tables e below (T.setTop g) target := by
  obtain ⟨mk, methM, cM, hnamed, hmethM, -, -, -, -, -, -, hsigM⟩ := Cond.codeWith_spec hcode
  have hstatic : methM.isStatic = true := Cond.static_spec hnamed hmethM hstat
  obtain ⟨kP, hkP, -⟩ := className_of_methodNamed hnamed
  have hinitP : kP.init = .initialized := Cond.initialized_spec (findClass_of_methodNamed hnamed) hkP hinit
  obtain ⟨vm₁, X₁, hstep₁⟩ := X.invokestatic hexec hown hlink hnamed hmethM hstatic hkP hinitP hy (g := g) hg (argsL := argsL) (rest := rest) (hlen _ hsigM) hstack hdg
  obtain ⟨v, B, X', hpost, hsteps⟩ := hK m meth c ⟨T.setVm vm₁, locs, cells, slots⟩ { g with stack := rest } (.invokestatic index) mk argsL.toArray X₁ hg hsize hdg hW (X₁.named hnamed) (hpre vm₁ X₁.warmed)
  exact ⟨v, vm₁, B, X₁.warmed, X', hpost, fun target h => hstep₁ _ fun acts => by rw [doInvoke_state]; exact hsteps.trans h⟩
theorem vx_runSW {y : MethodName} {bytes cc : ByteArray} {maxL nL mc ms n index : Nat} {ret : Option FieldType} {hh : List (Nat × Nat × Nat × Nat)} {ws : List Cond} {rm : Room} {Pc : Array Value → State → Prop} {Qc : Array Value → State → Outcome → State → Prop} {free : Addr → Prop} {Ts : List Cond} {own : String} {As rest : List Value} {g : JFrame}
    (S : CallFix p m c cc nL s args Ts own) (hM : Met l y ws rm Pc Qc mc ms free) (cw : vx_CSW R s args own index y bytes maxL ret hh ws rm mc ms n) (hp : PreS s H Pc As)
    (hg : g.method = m) (hn : As.length = n) (hsize : g.locals.size = nL) (hstack : g.stack = As.reverse ++ rest) (hW : 2 * g.monitorRoom + (rest.map fun v => v.category).sum ≤ 8) (hdg : decode cc g.pc = .ok (.invokestatic index, 3)) (hf : cells + mc ≤ R.cells ∧ slots + ms ≤ R.slots) :
    va_Run p l e R s m args below meth c H locs cells slots mc ms g rest (Qc As.toArray) (free) := by
  obtain ⟨⟨hrc, hrs, hfr, hlo, hws, hcw⟩, hcode, hini, hy, hlen, hl, hstt⟩ := cw
  have hK : Back l R p e below s args y 3 8 (PreOf R mc ms Pc) (PostOf Qc mc ms free) := va_backW (hh := hh) (bytes := bytes) (maxL := maxL) (ret := ret) hM hp.1 hrc hrs hfr hlo hws hcw (fun a' U hW => word_at hW (Or.inl (by first | rfl | simp [Cond.onTables, Cond.keeps, Cond.steady])) hini)
  obtain ⟨hx, hb, hml, ho, -⟩ := S
  intro T hT X
  obtain ⟨v, vm₁, ⟨U', l2, c2, s2⟩, hW₁, X', ⟨g', mk, t, L, e1, e2, hq, h1, hL, h2, h3⟩, st⟩ := vx_callSW X hx (hh := hh) (bytes := bytes) (maxL := maxL) (ret := ret) ho hl hstt hini hcode hy hK hg (hsize.trans hml.symm) (argsL := As) (rest := rest) (fun sig h => hn.trans (hlen sig h)) hstack hW (by rw [hb]; exact hdg)
    (fun vm₁ hW₁ => ⟨hf.1, hf.2, hp.2 (T.setVm vm₁) hT hW₁⟩)
  dsimp only [Pt.U, Pt.locs, Pt.cells, Pt.slots] at X' e1 e2 h1 h2 h3 st
  subst h1; subst h2; subst h3
  exact ⟨v, (T.setVm vm₁).calling g' mk As.toArray, t, U', L, hT, X', hL, e1, e2, hq, st⟩
/-- not caught here, past rows that name other classes: it goes on to the caller -/
theorem vx_outP {p : Program} {l : Launch} {e : Env} {R : Room} {s : State} {m : MethodId} {args : Array Value} {below : List Frame} {meth : Method} {c : Code} {H : Heap} {locs : List Loc} {cells slots : Nat} {free : Addr → Prop} {ls : Array Slot} {rest : List Value} {Qc : Array Value → State → Outcome → State → Prop} {XC : String → State → State → Prop}
    {pc : Nat} {own E : String} {ce : Cell} {q : Addr} {mc ms : Nat} (hown : s.vm.findClass own = some m.cls) (hlocks : meth.locks = false)
    (hpass : ∀ z ∈ c.exceptionTable.toList, covers z pc = false ∨ (z.catchType ≠ 0 ∧ ∃ nm : String, (Cond.classLink own z.catchType nm).before args s = true ∧ va_Nc E nm s)) (hcell : H[q]? = some ce) (hv : ce.vm = .none) (hcl : s.vm.findClass E = some ce.cls)
    (hx : ∀ t : State, t.heap = H → s.vm.Alike t.vm → XC E s t) (hf : ∀ z ∈ locs, free z.base) (hc : cells ≤ mc) (hs : slots ≤ ms) :
    vx_W p l e R s m args below meth c H locs cells slots (vx_MQ below Qc XC args s mc ms free) (F0 m pc ls rest) q := by
  intro T hT X
  have hpl : e.platform.magicAccessors = ({} : Platform).magicAccessors := by rw [X.admits.platform]
  obtain ⟨vm', hW', X', st⟩ := X.outThrough hlocks q (g := F0 m pc ls rest) rfl rfl rfl (cell := ce) (by rw [hT]; exact hcell) (by rw [hv]; rfl)
    (by obtain ⟨k9, h9, -⟩ := Vm.findClass_spec hcl; exact ⟨k9, h9⟩) (fun z hz => by
      rcases hpass z hz with h | ⟨hz0, nm, hl1, hn1⟩
      · exact Or.inl h
      · obtain ⟨c6, hc6, hcl6⟩ := Cond.classLink_spec hown hl1 e.platform hpl
        obtain ⟨a8, b8, h1, h2, h3⟩ := hn1
        cases Option.some.inj (h1.symm.trans hcl)
        cases Option.some.inj (h2.symm.trans hc6)
        exact Or.inr ⟨hz0, _, hcl6, h3⟩)
  obtain ⟨g₀, hfr⟩ := X'.frames_eq
  have hcell9 : ((T.setVm vm').setFrames (.throwing q :: below)).heap[q]? = some ce := by
    show T.heap[q]? = some ce
    rw [hT]; exact hcell
  have hend : Ended ((T.setVm vm').setFrames (.throwing q :: below)) below (.threw q) := State.frames_setFrames _ (State.cur_lt_of_frames hfr)
  refine ⟨(T.setVm vm').setFrames (.throwing q :: below), ?_, .threw q, X'.here.running, hend, Or.inr ⟨q, rfl, E, ce, locs, hx _ hT (X'.ends _).1.alike, hcell9, hv, hcl, (X'.ends _).1, (X'.ends _).2.mono hc hs, hf⟩⟩
  rw [X.pushThrowing_eq]
  exact st
/-- a thing of a world lies in the heap -/
theorem vx_lt {D : va_G} {cl : List vw_C} {ws : va_W} {H1 : Heap} (h : va_P D cl ws H1) {k : Nat} {q : Nat × va_E} (hk : ws[k]? = some q) : q.1 < H1.size := (h k q hk).lt
end VXS
/-! ===== END ===== -/
/-! ===== BEGIN methods with a table of their own: called by a name, returning or throwing ===== -/
section VXH
/-! vx_backW, vx_callVX, vx_callSX, vx_callVW, vx_runVW, vx_runVX, vx_runSX, vx_ofWH follow the same proofs as their sisters above (Free/Laws.lean, Shelf42/LK1.lean); vx_outP calls Shelf42/NT130.lean (outThrough). -/
section
variable {l : Launch} {R : Room} {p : Program} {e : Env} {below : List Frame} {s : State} {sargs : Array Value} {y : MethodName} {len W9 : Nat}
theorem vx_backW {ws : List Cond} {rm : Room} {Pc : Array Value → State → Prop} {Qc : Array Value → State → Outcome → State → Prop} {XC : String → State → State → Prop} {mc ms : Nat} {free : Addr → Prop} {bytes : ByteArray} {maxL : Nat} {ret : Option FieldType} {hh : List (Nat × Nat × Nat × Nat)}
    (hM : vx_Met l y ws rm Pc Qc XC mc ms free) (hblind : FrameBlind Pc) (hrc : rm.cells = mc) (hrs : rm.slots = ms)
    (hframes : rm.frames + 1 ≤ R.frames) (hlocals : W9 + (maxL + 11) + rm.locals ≤ R.locals)
    (hws : ∀ w ∈ ws, ∀ a' U, s.WarmedH U.vm → w.before a' U = true) (hcode : Cond.codeWith y bytes maxL ret hh ∈ ws) (hinit : ∀ a' U, s.WarmedH U.vm → (Cond.initialized y.cls).before a' U = true) :
    vx_Back l R p e below s sargs y len W9 (PreOf R mc ms Pc) (PostOf Qc mc ms free) (vx_Post XC mc ms free) := by
  intro m meth c A g ig mk a X hg hsize hdg hW hn hp
  have h1 : (headSpec ws rm).pre.before a A.U = true := atoms_intro fun w hw => hws w hw _ _ X.warmed
  have h2 : (Cond.codeWith y bytes maxL ret hh).before a A.U = true := hws _ hcode _ _ X.warmed
  have h3 : (Cond.initialized y.cls).before a A.U = true := hinit _ _ X.warmed
  have h4 : A.cells + (headSpec ws rm).room.cells ≤ R.cells := by rw [show (headSpec ws rm).room.cells = mc from hrc]; exact hp.1
  have h5 : A.slots + (headSpec ws rm).room.slots ≤ R.slots := by rw [show (headSpec ws rm).room.slots = ms from hrs]; exact hp.2.1
  have hPc : Pc a (A.U.calling g mk a) := hblind _ _ _ _ hp.2.2
  obtain ⟨U, Ls, c0, s0⟩ := A
  dsimp only [Pt.U, Pt.locs, Pt.cells, Pt.slots] at h1 h2 h3 h4 h5 X hn hPc ⊢
  obtain ⟨m9, methY, cY, hn9, hmY, hcY, -, hlY, -⟩ := Cond.codeWith_spec h2
  cases Option.some.inj (hn9.symm.trans hn)
  obtain ⟨kY, hkY, -⟩ := className_of_methodNamed hn
  have hinitY : kY.init = .initialized := Cond.initialized_spec (findClass_of_methodNamed hn) hkY h3
  have h : At U g.method c below := by rw [hg]; exact X.here
  have hlocals9 : W9 + (maxL + 11) + (headSpec ws rm).room.locals ≤ R.locals := hlocals
  have happ : (headSpec ws rm).appliesLoose y e.platform (U.calling g mk a) = true :=
    Spec.appliesLoose_calling (g := g) h hdg hn hkY hinitY
      (X.room_calling (g := g) (R' := (headSpec ws rm).room) hsize hmY hcY hframes (by rw [hlY]; omega) h4 h5) h1
  obtain ⟨mid, hmid⟩ := h.above
  have hfr : (U.setTop g).frames = (.java g :: mid) ++ below := by rw [State.frames_setTop' g h.top, hmid]; rfl
  obtain ⟨o, s₂, hsteps, -, hend, hq⟩ := Steps.callFree hM p X.admits X.cas X.clock (acts := []) hfr happ hPc trivial
  have hq' : vx_Q Qc XC mc ms free a (U.calling g mk a) o s₂ := hq
  rw [State.frames_setTop' g h.top] at hend
  obtain ⟨g₀, hg0⟩ := Option.isSome_iff_exists.mp h.top
  obtain ⟨r, hr⟩ := State.topJava?_eq_some.mp hg0
  have hr' : (({ U with heap := s₂.heap, slotsUsed := s₂.slotsUsed } : State).setVm s₂.vm).frames = .java g₀ :: r := hr
  rcases hq' with ⟨hqc, L, hfe, hL⟩ | ⟨q, rfl, E, ce, L, hx, hce, hcv, hcl, hW₂, hsm, hL⟩
  · obtain ⟨⟨v, rfl⟩, hW₂, e2, q2, q3, q4, q5, q6⟩ := id hfe
    have e3 : s₂ = ({ (U.calling g mk a).setFrames s₂.frames with heap := s₂.heap, slotsUsed := s₂.slotsUsed } : State).setVm s₂.vm := by
      have : s₂ = ({ s₂ with vm := (U.calling g mk a).vm } : State).setVm s₂.vm := rfl
      rw [e2] at this
      exact this
    obtain ⟨c₂, i₂, len₂, hc₂, hd₂, hf₂⟩ := hend
    have hW' : U.WarmedH s₂.vm := hW₂
    have hcc : c₂ = c := by
      have h1 : s₂.code? g.method = U.code? g.method := by
        rw [State.code?_eq, State.code?_eq, hW'.alike.method?]
      exact Option.some.inj (hc₂.symm.trans (h1.trans h.code))
    subst hcc
    have hlen : len₂ = len := by rw [hdg] at hd₂; cases hd₂; rfl
    subst hlen
    have hs₂ : s₂ = (({ U with heap := s₂.heap, slotsUsed := s₂.slotsUsed } : State).setVm s₂.vm).setTop { g with pc := g.pc + len₂, stack := v.toList ++ g.stack } := by
      refine e3.trans ?_
      rw [hf₂, State.calling_eq h.top, State.setFrames_setFrames, State.setTop_of_frames _ hr', hr]
      rfl
    have hsame : U.sameButNew ({ U with heap := s₂.heap, slotsUsed := s₂.slotsUsed } : State) L mc ms := by
      refine ⟨?_, q2, q3, q4, q5, q6⟩
      obtain ⟨t, ht, -⟩ := State.frames_cons hr
      show ({ U with heap := s₂.heap, slotsUsed := s₂.slotsUsed } : State) = { U.setFrames U.frames with heap := s₂.heap, slotsUsed := s₂.slotsUsed }
      rw [State.setFrames_self ht]
    subst hg
    refine Or.inl ⟨v, ⟨(({ U with heap := s₂.heap, slotsUsed := s₂.slotsUsed } : State).setVm s₂.vm), Ls ++ L, c0 + mc, s0 + ms⟩,
      ⟨X.admits, X.cas, X.clock, X.frames, X.room, X.hears, X.method, X.code, (X.here.setHeapUsed s₂.heap s₂.slotsUsed).setVm hW'.alike, X.tail, State.WarmedH.trans X.warmed hW', X.limits, X.bytes, X.same.trans (hsame.setVm s.vm)⟩,
      ⟨g, mk, s₂, L, rfl, rfl, hqc, rfl, hL, rfl, rfl⟩, ?_⟩
    show Steps p.tables e below _ ((({ U with heap := s₂.heap, slotsUsed := s₂.slotsUsed } : State).setVm s₂.vm).setTop { g with pc := g.pc + len₂, stack := v.toList ++ g.stack })
    rw [← hs₂]
    exact hsteps
  · obtain ⟨e2, q2, q3, q4, q5, q6⟩ := id hsm
    have e3 : s₂ = ({ (U.calling g mk a).setFrames s₂.frames with heap := s₂.heap, slotsUsed := s₂.slotsUsed } : State).setVm s₂.vm := by
      have : s₂ = ({ s₂ with vm := (U.calling g mk a).vm } : State).setVm s₂.vm := rfl
      rw [e2] at this
      exact this
    have hf₂ : s₂.frames = .throwing q :: .java g :: U.frames.tail := hend
    have hW' : U.WarmedH s₂.vm := hW₂
    have hs₂ : s₂ = ((({ U with heap := s₂.heap, slotsUsed := s₂.slotsUsed } : State).setVm s₂.vm).setTop g).pushFrame (.throwing q) := by
      refine e3.trans ?_
      rw [hf₂, State.calling_eq h.top, State.setFrames_setFrames, State.pushFrame, State.frames_setTop _ hr', State.setTop_of_frames _ hr', State.setFrames_setFrames, hr]
      rfl
    have hsame : U.sameButNew ({ U with heap := s₂.heap, slotsUsed := s₂.slotsUsed } : State) L mc ms := by
      refine ⟨?_, q2, q3, q4, q5, q6⟩
      obtain ⟨t, ht, -⟩ := State.frames_cons hr
      show ({ U with heap := s₂.heap, slotsUsed := s₂.slotsUsed } : State) = { U.setFrames U.frames with heap := s₂.heap, slotsUsed := s₂.slotsUsed }
      rw [State.setFrames_self ht]
    subst hg
    refine Or.inr ⟨q, ⟨(({ U with heap := s₂.heap, slotsUsed := s₂.slotsUsed } : State).setVm s₂.vm), Ls ++ L, c0 + mc, s0 + ms⟩,
      ⟨X.admits, X.cas, X.clock, X.frames, X.room, X.hears, X.method, X.code, (X.here.setHeapUsed s₂.heap s₂.slotsUsed).setVm hW'.alike, X.tail, State.WarmedH.trans X.warmed hW', X.limits, X.bytes, X.same.trans (hsame.setVm s.vm)⟩,
      ⟨g, mk, s₂, L, E, ce, rfl, rfl, hx, hce, hcv, hcl, rfl, hL, rfl, rfl⟩, ?_⟩
    show Steps p.tables e below _ (((({ U with heap := s₂.heap, slotsUsed := s₂.slotsUsed } : State).setVm s₂.vm).setTop g).pushFrame (.throwing q))
    rw [← hs₂]
    exact hsteps
end
variable {p : Program} {l : Launch} {e : Env} {R : Room} {s : State} {m : MethodId} {args : Array Value} {below : List Frame} {meth : Method} {c : Code} {T : State} {H : Heap} {locs : List Loc} {cells slots : Nat}
theorem vx_callVX (X : Stand p l e R s m args below meth c T locs cells slots) (hexec : p.tables.exec = Jvm.exec) {own C : String} {index : Nat} {y : MethodName} {bytes : ByteArray} {maxL : Nat} {ret : Option FieldType} {hh : List (Nat × Nat × Nat × Nat)}
    (hown : s.vm.findClass own = some m.cls) (hlink : (Cond.methodLink own index y).before args s = true) (hinst : (Cond.instanceMethod y).before args s = true) (hsel : (Cond.selects C y y).before args s = true)
    (hcode : (Cond.codeWith y bytes maxL ret hh).before args s = true) (hy : y.cls ≠ "java/lang/invoke/MethodHandle" ∧ y.cls ≠ "java/lang/invoke/VarHandle")
    {W9 : Nat} {Pre : Pt → Array Value → Prop} {Post : Pt → Array Value → Option Value → Pt → Prop} {PostX : Pt → Array Value → Addr → Pt → Prop} (hK : vx_Back l R p e below s args y 3 W9 Pre Post PostX)
    {b : Addr} {cellB : Cell} (hcell : T.heap[b]? = some cellB) (hobj : cellB.vm.isStatics = false) (hcls : s.vm.findClass C = some cellB.cls)
    {g : JFrame} (hg : g.method = m) (hsize : g.locals.size = c.maxLocals) {argsL rest : List Value} (hlen : ∀ sig, parseMethodDescriptor y.desc = some sig → argsL.length = sig.parameters.length)
    (hstack : g.stack = argsL.reverse ++ .ref b :: rest) (hW : 2 * g.monitorRoom + (rest.map fun v => v.category).sum ≤ W9) (hdg : decode c.code g.pc = .ok (.invokevirtual index, 3))
    (hpre : ∀ vm₁, s.WarmedH vm₁ → Pre ⟨T.setVm vm₁, locs, cells, slots⟩ (Value.ref b :: argsL).toArray) :
    (∃ (v : Option Value) (vm₁ : Vm) (B : Pt), s.WarmedH vm₁ ∧ Stand p l e R s m args below meth c B.U B.locs B.cells B.slots ∧ Post ⟨T.setVm vm₁, locs, cells, slots⟩ (Value.ref b :: argsL).toArray v B ∧
      ∀ target, Steps p.tables e below (B.U.setTop { g with pc := g.pc + 3, stack := v.toList ++ rest }) target → Steps p.tables e below (T.setTop g) target) ∨
    (∃ (q : Addr) (vm₁ : Vm) (B : Pt), s.WarmedH vm₁ ∧ Stand p l e R s m args below meth c B.U B.locs B.cells B.slots ∧ PostX ⟨T.setVm vm₁, locs, cells, slots⟩ (Value.ref b :: argsL).toArray q B ∧
      Steps p.tables e below (T.setTop g) ((B.U.setTop { g with stack := rest }).pushFrame (.throwing q))) := by
  obtain ⟨mk, methM, hnamed, hmethM, hstM, habM⟩ := Cond.instanceMethod_spec hinst
  obtain ⟨m8, methM', cM, hn8, hmethM', -, -, -, -, -, -, hsigM⟩ := Cond.codeWith_spec hcode
  cases Option.some.inj (hn8.symm.trans hnamed)
  cases hmethM.symm.trans hmethM'
  obtain ⟨c2, r2, m2, q1, q2, q3, q4, kP, hkP, hkPi⟩ := Cond.selects_spec hsel
  cases hcls.symm.trans q1
  cases (State.methodFound?_of_named hnamed hy).symm.trans q2
  cases hnamed.symm.trans q3
  have hselP : selectMethod e.platform s.vm cellB.cls mk = .method mk := by rw [Launch.admits_selectMethod X.admits]; exact q4
  obtain ⟨vm₁, X₁, hstep₁⟩ := X.invokevirtual hexec hown hlink hnamed hmethM hstM hkP hkPi hy (a := b) (cell := cellB) hcell
    (fun z h => by rw [h] at hobj; cases hobj) hselP hmethM habM hkP hkPi (g := g) hg (argsL := argsL) (rest := rest) (hlen _ hsigM) hstack hdg
  rcases hK m meth c ⟨T.setVm vm₁, locs, cells, slots⟩ { g with stack := rest } (.invokevirtual index) mk (Value.ref b :: argsL).toArray X₁ hg hsize hdg hW (X₁.named hnamed) (hpre vm₁ X₁.warmed) with ⟨v, B, X', hpost, hsteps⟩ | ⟨q, B, X', hpost, hsteps⟩
  · exact Or.inl ⟨v, vm₁, B, X₁.warmed, X', hpost, fun target h => hstep₁ _ fun acts => by rw [doInvoke_state]; exact hsteps.trans h⟩
  · exact Or.inr ⟨q, vm₁, B, X₁.warmed, X', hpost, hstep₁ _ fun acts => by rw [doInvoke_state]; exact hsteps⟩
theorem vx_callSX (X : Stand p l e R s m args below meth c T locs cells slots) (hexec : p.tables.exec = Jvm.exec) {own : String} {index : Nat} {y : MethodName} {bytes : ByteArray} {maxL : Nat} {ret : Option FieldType} {hh : List (Nat × Nat × Nat × Nat)}
    (hown : s.vm.findClass own = some m.cls) (hlink : (Cond.methodLink own index y).before args s = true) (hstat : (Cond.static y).before args s = true) (hinit : (Cond.initialized y.cls).before args s = true)
    (hcode : (Cond.codeWith y bytes maxL ret hh).before args s = true) (hy : y.cls ≠ "java/lang/invoke/MethodHandle" ∧ y.cls ≠ "java/lang/invoke/VarHandle")
    {W9 : Nat} {Pre : Pt → Array Value → Prop} {Post : Pt → Array Value → Option Value → Pt → Prop} {PostX : Pt → Array Value → Addr → Pt → Prop} (hK : vx_Back l R p e below s args y 3 W9 Pre Post PostX)
    {g : JFrame} (hg : g.method = m) (hsize : g.locals.size = c.maxLocals) {argsL rest : List Value} (hlen : ∀ sig, parseMethodDescriptor y.desc = some sig → argsL.length = sig.parameters.length)
    (hstack : g.stack = argsL.reverse ++ rest) (hW : 2 * g.monitorRoom + (rest.map fun v => v.category).sum ≤ W9) (hdg : decode c.code g.pc = .ok (.invokestatic index, 3))
    (hpre : ∀ vm₁, s.WarmedH vm₁ → Pre ⟨T.setVm vm₁, locs, cells, slots⟩ argsL.toArray) :
    (∃ (v : Option Value) (vm₁ : Vm) (B : Pt), s.WarmedH vm₁ ∧ Stand p l e R s m args below meth c B.U B.locs B.cells B.slots ∧ Post ⟨T.setVm vm₁, locs, cells, slots⟩ argsL.toArray v B ∧
      ∀ target, Steps p.tables e below (B.U.setTop { g with pc := g.pc + 3, stack := v.toList ++ rest }) target → Steps p.tables e below (T.setTop g) target) ∨
    (∃ (q : Addr) (vm₁ : Vm) (B : Pt), s.WarmedH vm₁ ∧ Stand p l e R s m args below meth c B.U B.locs B.cells B.slots ∧ PostX ⟨T.setVm vm₁, locs, cells, slots⟩ argsL.toArray q B ∧
      Steps p.tables e below (T.setTop g) ((B.U.setTop { g with stack := rest }).pushFrame (.throwing q))) := by
  obtain ⟨mk, methM, cM, hnamed, hmethM, -, -, -, -, -, -, hsigM⟩ := Cond.codeWith_spec hcode
  have hstatic : methM.isStatic = true := Cond.static_spec hnamed hmethM hstat
  obtain ⟨kP, hkP, -⟩ := className_of_methodNamed hnamed
  have hinitP : kP.init = .initialized := Cond.initialized_spec (findClass_of_methodNamed hnamed) hkP hinit
  obtain ⟨vm₁, X₁, hstep₁⟩ := X.invokestatic hexec hown hlink hnamed hmethM hstatic hkP hinitP hy (g := g) hg (argsL := argsL) (rest := rest) (hlen _ hsigM) hstack hdg
  rcases hK m meth c ⟨T.setVm vm₁, locs, cells, slots⟩ { g with stack := rest } (.invokestatic index) mk argsL.toArray X₁ hg hsize hdg hW (X₁.named hnamed) (hpre vm₁ X₁.warmed) with ⟨v, B, X', hpost, hsteps⟩ | ⟨q, B, X', hpost, hsteps⟩
  · exact Or.inl ⟨v, vm₁, B, X₁.warmed, X', hpost, fun target h => hstep₁ _ fun acts => by rw [doInvoke_state]; exact hsteps.trans h⟩
  · exact Or.inr ⟨q, vm₁, B, X₁.warmed, X', hpost, hstep₁ _ fun acts => by rw [doInvoke_state]; exact hsteps⟩
theorem vx_callVW (X : Stand p l e R s m args below meth c T locs cells slots) (hexec : p.tables.exec = Jvm.exec) {own C : String} {index : Nat} {y : MethodName} {bytes : ByteArray} {maxL : Nat} {ret : Option FieldType} {hh : List (Nat × Nat × Nat × Nat)}
    (hown : s.vm.findClass own = some m.cls) (hlink : (Cond.methodLink own index y).before args s = true) (hinst : (Cond.instanceMethod y).before args s = true) (hsel : (Cond.selects C y y).before args s = true)
    (hcode : (Cond.codeWith y bytes maxL ret hh).before args s = true) (hy : y.cls ≠ "java/lang/invoke/MethodHandle" ∧ y.cls ≠ "java/lang/invoke/VarHandle")
    {W9 : Nat} {Pre : Pt → Array Value → Prop} {Post : Pt → Array Value → Option Value → Pt → Prop} (hK : Back l R p e below s args y 3 W9 Pre Post)
    {b : Addr} {cellB : Cell} (hcell : T.heap[b]? = some cellB) (hobj : cellB.vm.isStatics = false) (hcls : s.vm.findClass C = some cellB.cls)
    {g : JFrame} (hg : g.method = m) (hsize : g.locals.size = c.maxLocals) {argsL rest : List Value} (hlen : ∀ sig, parseMethodDescriptor y.desc = some sig → argsL.length = sig.parameters.length)
    (hstack : g.stack = argsL.reverse ++ .ref b :: rest) (hW : 2 * g.monitorRoom + (rest.map fun v => v.category).sum ≤ W9) (hdg : decode c.code g.pc = .ok (.invokevirtual index, 3))
    (hpre : ∀ vm₁, s.WarmedH vm₁ → Pre ⟨T.setVm vm₁, locs, cells, slots⟩ (Value.ref b :: argsL).toArray) :
    ∃ (v : Option Value) (vm₁ : Vm) (B : Pt), s.WarmedH vm₁ ∧ Stand p l e R s m args below meth c B.U B.locs B.cells B.slots ∧ Post ⟨T.setVm vm₁, locs, cells, slots⟩ (Value.ref b :: argsL).toArray v B ∧
      ∀ target, Steps p.tables e below (B.U.setTop { g with pc := g.pc + 3, stack := v.toList ++ rest }) target → Steps p.tables e below (T.setTop g) target := by
  obtain ⟨mk, methM, hnamed, hmethM, hstM, habM⟩ := Cond.instanceMethod_spec hinst
  obtain ⟨m8, methM', cM, hn8, hmethM', -, -, -, -, -, -, hsigM⟩ := Cond.codeWith_spec hcode
  cases Option.some.inj (hn8.symm.trans hnamed)
  cases hmethM.symm.trans hmethM'
  obtain ⟨c2, r2, m2, q1, q2, q3, q4, kP, hkP, hkPi⟩ := Cond.selects_spec hsel
  cases hcls.symm.trans q1
  cases (State.methodFound?_of_named hnamed hy).symm.trans q2
  cases hnamed.symm.trans q3
  have hselP : selectMethod e.platform s.vm cellB.cls mk = .method mk := by rw [Launch.admits_selectMethod X.admits]; exact q4
  obtain ⟨vm₁, X₁, hstep₁⟩ := X.invokevirtual hexec hown hlink hnamed hmethM hstM hkP hkPi hy (a := b) (cell := cellB) hcell
    (fun z h => by rw [h] at hobj; cases hobj) hselP hmethM habM hkP hkPi (g := g) hg (argsL := argsL) (rest := rest) (hlen _ hsigM) hstack hdg
  obtain ⟨v, B, X', hpost, hsteps⟩ := hK m meth c ⟨T.setVm vm₁, locs, cells, slots⟩ { g with stack := rest } (.invokevirtual index) mk (Value.ref b :: argsL).toArray X₁ hg hsize hdg hW (X₁.named hnamed) (hpre vm₁ X₁.warmed)
  exact ⟨v, vm₁, B, X₁.warmed, X', hpost, fun target h => hstep₁ _ fun acts => by rw [doInvoke_state]; exact hsteps.trans h⟩
abbrev vx_CVW (R : Room) (s : State) (args : Array Value) (own C : String) (index : Nat) (y : MethodName) (bytes : ByteArray) (maxL : Nat) (ret : Option FieldType) (hh : List (Nat × Nat × Nat × Nat)) (ws : List Cond) (rm : Room) (mc ms n : Nat) : Prop :=
  (rm.cells = mc ∧ rm.slots = ms ∧ rm.frames + 1 ≤ R.frames ∧ 8 + (maxL + 11) + rm.locals ≤ R.locals ∧ (∀ w ∈ ws, ∀ (a' : Array Value) (U : State), s.WarmedH U.vm → w.before a' U = true) ∧ Cond.codeWith y bytes maxL ret hh ∈ ws) ∧
  (Cond.codeWith y bytes maxL ret hh).before args s = true ∧ (Cond.initialized y.cls).before args s = true ∧ (y.cls ≠ "java/lang/invoke/MethodHandle" ∧ y.cls ≠ "java/lang/invoke/VarHandle") ∧
  (∀ sig, parseMethodDescriptor y.desc = some sig → n = sig.parameters.length) ∧ (Cond.methodLink own index y).before args s = true ∧ (Cond.instanceMethod y).before args s = true ∧ (Cond.selects C y y).before args s = true
theorem vx_cwVW {own C : String} {index maxL mc ms : Nat} {y : MethodName} {bytes : ByteArray} {ret : Option FieldType} {hh : List (Nat × Nat × Nat × Nat)} {Ts ws ws' : List Cond} {rm : Room} (n : Nat) (ht : ∀ w ∈ Ts, w.before args s = true) (hT : GoodIn Ts (wsV own index C y ws)) (hw : ws = Cond.codeWith y bytes maxL ret hh :: ws') (hrc : rm.cells = mc) (hrs : rm.slots = ms)
    (hd : y.cls = C ∧ y.cls ≠ "java/lang/invoke/MethodHandle" ∧ y.cls ≠ "java/lang/invoke/VarHandle" ∧ (parseMethodDescriptor y.desc).map (fun d => d.parameters.length) = some n) (hR : rm.frames + 1 ≤ R.frames ∧ 8 + (maxL + 11) + rm.locals ≤ R.locals) :
    vx_CVW R s args own C index y bytes maxL ret hh ws rm mc ms n := by
  obtain ⟨hC, hd⟩ := hd
  subst hC
  have ok : ∀ w ∈ wsV own index y.cls y ws, w.before args s = true := fun w h => ht w (hT w h).1
  have hG : GoodIn Ts ws := fun w h => hT w (by unfold wsV; exact List.mem_append_right _ h)
  have hc : Cond.codeWith y bytes maxL ret hh ∈ ws := by rw [hw]; exact List.mem_cons_self
  refine ⟨⟨hrc, hrs, hR.1, hR.2, pay_in ht hG, hc⟩, ht _ (hG _ hc).1, ok _ (by simp [wsV]), ⟨hd.1, hd.2.1⟩, fun sig h => ?_, ok _ (by simp [wsV]), ok _ (by simp [wsV]), ok _ (by simp [wsV])⟩
  have h2 := hd.2.2
  rw [h] at h2
  exact (Option.some.inj h2).symm
theorem vx_runVW {y : MethodName} {bytes cc : ByteArray} {maxL nL mc ms n index : Nat} {ret : Option FieldType} {hh : List (Nat × Nat × Nat × Nat)} {ws : List Cond} {rm : Room} {Pc : Array Value → State → Prop} {Qc : Array Value → State → Outcome → State → Prop} {free : Addr → Prop} {Ts : List Cond} {own C : String} {b : Addr} {As rest : List Value} {g : JFrame}
    (S : CallFix p m c cc nL s args Ts own) (hM : Met l y ws rm Pc Qc mc ms free) (cw : vx_CVW R s args own C index y bytes maxL ret hh ws rm mc ms n) (hp : PreV s H C b Pc As)
    (hg : g.method = m) (hn : As.length = n) (hsize : g.locals.size = nL) (hstack : g.stack = As.reverse ++ .ref b :: rest) (hW : 2 * g.monitorRoom + (rest.map fun v => v.category).sum ≤ 8) (hdg : decode cc g.pc = .ok (.invokevirtual index, 3)) (hf : cells + mc ≤ R.cells ∧ slots + ms ≤ R.slots) :
    va_Run p l e R s m args below meth c H locs cells slots mc ms g rest (Qc (Value.ref b :: As).toArray) free := by
  obtain ⟨⟨hrc, hrs, hfr, hlo, hws, hcw⟩, hcode, hini, hy, hlen, hl, hin, hse⟩ := cw
  have hK : Back l R p e below s args y 3 8 (PreOf R mc ms Pc) (PostOf Qc mc ms free) := va_backW (hh := hh) (bytes := bytes) (maxL := maxL) (ret := ret) hM hp.1 hrc hrs hfr hlo hws hcw (fun a' U hW => word_at hW (Or.inl (by first | rfl | simp [Cond.onTables, Cond.keeps, Cond.steady])) hini)
  obtain ⟨hx, hb, hml, ho, -⟩ := S
  obtain ⟨-, ⟨cellB, hcB, hoB, hclB⟩, hPc⟩ := hp
  intro T hT X
  obtain ⟨v, vm₁, ⟨U', l2, c2, s2⟩, hW₁, X', ⟨g', mk, t, L, e1, e2, hq, h1, hL, h2, h3⟩, st⟩ := vx_callVW X hx (C := C) (hh := hh) (bytes := bytes) (maxL := maxL) (ret := ret) ho hl hin hse hcode hy hK (by rw [hT]; exact hcB) hoB hclB hg (hsize.trans hml.symm) (argsL := As) (rest := rest) (fun sig h => hn.trans (hlen sig h)) hstack hW (by rw [hb]; exact hdg)
    (fun vm₁ hW₁ => ⟨hf.1, hf.2, hPc (T.setVm vm₁) hT hW₁⟩)
  dsimp only [Pt.U, Pt.locs, Pt.cells, Pt.slots] at X' e1 e2 h1 h2 h3 st
  subst h1; subst h2; subst h3
  exact ⟨v, (T.setVm vm₁).calling g' mk (Value.ref b :: As).toArray, t, U', L, hT, X', hL, e1, e2, hq, st⟩
section
variable {y : MethodName} {bytes cc : ByteArray} {maxL nL mc ms n index : Nat} {ret : Option FieldType} {ws : List Cond} {rm : Room} {Pc : Array Value → State → Prop} {Qc : Array Value → State → Outcome → State → Prop} {XC : String → State → State → Prop} {free : Addr → Prop} {Ts : List Cond} {own C : String} {b : Addr} {As rest : List Value} {g : JFrame}
theorem vx_runVX {hh : List (Nat × Nat × Nat × Nat)} (S : CallFix p m c cc nL s args Ts own) (hM : vx_Met l y ws rm Pc Qc XC mc ms free) (cw : vx_CVW R s args own C index y bytes maxL ret hh ws rm mc ms n) (hp : PreV s H C b Pc As)
    (hg : g.method = m) (hn : As.length = n) (hsize : g.locals.size = nL) (hstack : g.stack = As.reverse ++ .ref b :: rest) (hW : 2 * g.monitorRoom + (rest.map fun v => v.category).sum ≤ 8) (hdg : decode cc g.pc = .ok (.invokevirtual index, 3)) (hf : cells + mc ≤ R.cells ∧ slots + ms ≤ R.slots) :
    vx_Run p l e R s m args below meth c H locs cells slots mc ms g rest (Qc (Value.ref b :: As).toArray) XC free := by
  obtain ⟨⟨hrc, hrs, hfr, hlo, hws, hcw⟩, hcode, hini, hy, hlen, hl, hin, hse⟩ := cw
  have hK : vx_Back l R p e below s args y 3 8 (PreOf R mc ms Pc) (PostOf Qc mc ms free) (vx_Post XC mc ms free) := vx_backW (hh := hh) (bytes := bytes) (maxL := maxL) (ret := ret) hM hp.1 hrc hrs hfr hlo hws hcw (fun a' U hW => word_at hW (Or.inl (by first | rfl | simp [Cond.onTables, Cond.keeps, Cond.steady])) hini)
  obtain ⟨hx, hb, hml, ho, -⟩ := S
  obtain ⟨-, ⟨cellB, hcB, hoB, hclB⟩, hPc⟩ := hp
  intro T hT X
  rcases vx_callVX X hx (C := C) (hh := hh) (bytes := bytes) (maxL := maxL) (ret := ret) ho hl hin hse hcode hy hK (by rw [hT]; exact hcB) hoB hclB hg (hsize.trans hml.symm) (argsL := As) (rest := rest) (fun sig h => hn.trans (hlen sig h)) hstack hW (by rw [hb]; exact hdg)
    (fun vm₁ hW₁ => ⟨hf.1, hf.2, hPc (T.setVm vm₁) hT hW₁⟩) with ⟨v, vm₁, ⟨U', l2, c2, s2⟩, hW₁, X', ⟨g', mk, t, L, e1, e2, hq, h1, hL, h2, h3⟩, st⟩ | ⟨q, vm₁, ⟨U', l2, c2, s2⟩, hW₁, X', ⟨g', mk, t, L, E, ce, e1, e2, hq, hce, hcv, hcl, h1, hL, h2, h3⟩, st⟩
  · dsimp only [Pt.U, Pt.locs, Pt.cells, Pt.slots] at X' e1 e2 h1 h2 h3 st
    subst h1; subst h2; subst h3
    exact Or.inl ⟨v, (T.setVm vm₁).calling g' mk (Value.ref b :: As).toArray, t, U', L, hT, X', hL, e1, e2, hq, st⟩
  · dsimp only [Pt.U, Pt.locs, Pt.cells, Pt.slots] at X' e1 e2 h1 h2 h3 st hcl
    subst h1; subst h2; subst h3
    exact Or.inr ⟨q, (T.setVm vm₁).calling g' mk (Value.ref b :: As).toArray, t, U', L, E, ce, hT, X', hL, e1, e2, hq, hce, hcv, vx_cls hW₁ hcl, st⟩
theorem vx_runSX {hh : List (Nat × Nat × Nat × Nat)} (S : CallFix p m c cc nL s args Ts own) (hM : vx_Met l y ws rm Pc Qc XC mc ms free) (cw : vx_CSW R s args own index y bytes maxL ret hh ws rm mc ms n) (hp : PreS s H Pc As)
    (hg : g.method = m) (hn : As.length = n) (hsize : g.locals.size = nL) (hstack : g.stack = As.reverse ++ rest) (hW : 2 * g.monitorRoom + (rest.map fun v => v.category).sum ≤ 8) (hdg : decode cc g.pc = .ok (.invokestatic index, 3)) (hf : cells + mc ≤ R.cells ∧ slots + ms ≤ R.slots) :
    vx_Run p l e R s m args below meth c H locs cells slots mc ms g rest (Qc As.toArray) XC free := by
  obtain ⟨⟨hrc, hrs, hfr, hlo, hws, hcw⟩, hcode, hini, hy, hlen, hl, hstt⟩ := cw
  have hK : vx_Back l R p e below s args y 3 8 (PreOf R mc ms Pc) (PostOf Qc mc ms free) (vx_Post XC mc ms free) := vx_backW (hh := hh) (bytes := bytes) (maxL := maxL) (ret := ret) hM hp.1 hrc hrs hfr hlo hws hcw (fun a' U hW => word_at hW (Or.inl (by first | rfl | simp [Cond.onTables, Cond.keeps, Cond.steady])) hini)
  obtain ⟨hx, hb, hml, ho, -⟩ := S
  intro T hT X
  rcases vx_callSX X hx (hh := hh) (bytes := bytes) (maxL := maxL) (ret := ret) ho hl hstt hini hcode hy hK hg (hsize.trans hml.symm) (argsL := As) (rest := rest) (fun sig h => hn.trans (hlen sig h)) hstack hW (by rw [hb]; exact hdg)
    (fun vm₁ hW₁ => ⟨hf.1, hf.2, hp.2 (T.setVm vm₁) hT hW₁⟩) with ⟨v, vm₁, ⟨U', l2, c2, s2⟩, hW₁, X', ⟨g', mk, t, L, e1, e2, hq, h1, hL, h2, h3⟩, st⟩ | ⟨q, vm₁, ⟨U', l2, c2, s2⟩, hW₁, X', ⟨g', mk, t, L, E, ce, e1, e2, hq, hce, hcv, hcl, h1, hL, h2, h3⟩, st⟩
  · dsimp only [Pt.U, Pt.locs, Pt.cells, Pt.slots] at X' e1 e2 h1 h2 h3 st
    subst h1; subst h2; subst h3
    exact Or.inl ⟨v, (T.setVm vm₁).calling g' mk As.toArray, t, U', L, hT, X', hL, e1, e2, hq, st⟩
  · dsimp only [Pt.U, Pt.locs, Pt.cells, Pt.slots] at X' e1 e2 h1 h2 h3 st hcl
    subst h1; subst h2; subst h3
    exact Or.inr ⟨q, (T.setVm vm₁).calling g' mk As.toArray, t, U', L, E, ce, hT, X', hL, e1, e2, hq, hce, hcv, vx_cls hW₁ hcl, st⟩
end
end VXH
theorem vx_ofWH {l : Launch} {y : MethodName} {ws ws' : List Cond} {rm : Room} {Pc : Array Value → State → Prop} {Qc : Array Value → State → Outcome → State → Prop} {XC : String → State → State → Prop} {mc ms : Nat} {free : Addr → Prop} {cc : ByteArray} {maxL : Nat} {ret : Option FieldType} {hh : List (Nat × Nat × Nat × Nat)}
    (hy : plainName y.cls = true) (hw : ws = Cond.codeWith y cc maxL ret hh :: ws')
    (body : ∀ p e s m args below meth c s₁, BodyLoose p l y (headSpec ws rm) cc maxL ret e s m args below meth c s₁ → c.maxLocals = maxL → Pc args s →
      W p l e (headSpec ws rm).room s m args below meth c s.heap [] 0 0 (vx_MQ below Qc XC args s mc ms free) (entryFrame m args maxL)) : vx_Met l y ws rm Pc Qc XC mc ms free := by
  refine MetFree.of_bodyS (code := cc) (maxLocals := maxL) (ret := ret) hy ?_ ?_
  · intro args s m h hn
    obtain ⟨m9, meth, c, hn9, h1, h2, h3, h4, -, h5, h6, -⟩ := Cond.codeWith_spec (atoms_spec (ws := ws) h _ (by rw [hw]; exact List.mem_cons_self))
    cases hn.symm.trans hn9
    exact ⟨meth, c, h1, h2, h3, h4, h5, h6⟩
  · intro p e s m args below meth c s₁ B hml hP _
    have hh0 : s₁.heap = s.heap := by rw [B.state]; rfl
    obtain ⟨t, a1, o, b1, b2, b3⟩ := body p e s m args below meth c s₁ B hml hP s₁ hh0 (Stand.of_body B)
    exact ⟨t, o, a1, b1, b2, b3⟩
/-! ===== END ===== -/
end
section
/-! ===== BEGIN printed: names, fields, word lists, decode rows ===== -/
def RX0 : String := "PumpRoster$House"
def TX0 : u_T := fun k => match k with
  | 0 => ("PumpRoster$House", "number", "I", true)
  | 1 => ("PumpRoster$House", "lodgers", "I", false)
  | 2 => ("PumpRoster$House", "hens", "I", false)
  | 3 => ("PumpRoster$House", "forgets", "I", false)
  | 4 => ("PumpRoster$House", "eggs", "I", false)
  | 5 => ("PumpRoster$House", "marks", "I", false)
  | 6 => ("PumpRoster$House", "daysAway", "I", false)
  | 7 => ("PumpRoster$House", "firstPump", "I", false)
  | 8 => ("PumpRoster$House", "duties", "I", false)
  | 9 => ("PumpRoster$House", "thirst", "I", false)
  | 10 => ("PumpRoster$House", "keysToHandOn", "I", false)
  | _ => ("PumpRoster$House", "finesTold", "I", false)
def tyX0 : Nat → FieldType := fun k => match k with
  | 0 => .int
  | 1 => .int
  | 2 => .int
  | 3 => .int
  | 4 => .int
  | 5 => .int
  | 6 => .int
  | 7 => .int
  | 8 => .int
  | 9 => .int
  | 10 => .int
  | _ => .int
abbrev wsX00 : List Cond := u_ws RX0 TX0 12
theorem nmX0 : ∀ a, a < 12 → ∀ b, b < 12 → a ≠ b → (TX0 a).2.1 ≠ (TX0 b).2.1 := by decide +kernel
theorem tyX0_ok : ∀ k, k < 12 → parseFieldDescriptor (TX0 k).2.2.1 = some (tyX0 k) := by decide +kernel
abbrev cX0_init : ByteArray := prog_2_method_1_code
def yX0_init : MethodName := ⟨RX0, "<init>", "(I)V"⟩
abbrev cX0_copyFrom : ByteArray := prog_2_method_2_code
def yX0_copyFrom : MethodName := ⟨RX0, "copyFrom", "(LPumpRoster$House;)V"⟩
abbrev cX0_isThere : ByteArray := prog_2_method_3_code
def yX0_isThere : MethodName := ⟨RX0, "isThere", "()Z"⟩
abbrev cX0_dailyNeed : ByteArray := prog_2_method_4_code
def yX0_dailyNeed : MethodName := ⟨RX0, "dailyNeed", "()I"⟩
abbrev cX0_forgetsThisKey : ByteArray := prog_2_method_5_code
def yX0_forgetsThisKey : MethodName := ⟨RX0, "forgetsThisKey", "()Z"⟩
def RX1 : String := "PumpRoster$Pump"
def TX1 : u_T := fun k => match k with
  | 0 => ("PumpRoster$Pump", "level", "I", false)
  | 1 => ("PumpRoster$Pump", "inflow", "I", false)
  | 2 => ("PumpRoster$Pump", "wear", "I", false)
  | 3 => ("PumpRoster$Pump", "broken", "Z", false)
  | 4 => ("PumpRoster$Pump", "daysToWait", "I", false)
  | 5 => ("PumpRoster$Pump", "keyHolder", "I", false)
  | 6 => ("PumpRoster$Pump", "roster", "[I", true)
  | 7 => ("PumpRoster$Pump", "rosterSize", "I", false)
  | 8 => ("PumpRoster$Pump", "turn", "I", false)
  | 9 => ("PumpRoster$Pump", "daysOpen", "I", false)
  | 10 => ("PumpRoster$Pump", "drawn", "I", false)
  | 11 => ("PumpRoster$Pump", "timesMended", "I", false)
  | 12 => ("PumpRoster$Pump", "open", "Z", false)
  | _ => ("PumpRoster$Pump", "brokeToday", "Z", false)
def tyX1 : Nat → FieldType := fun k => match k with
  | 0 => .int
  | 1 => .int
  | 2 => .int
  | 3 => .boolean
  | 4 => .int
  | 5 => .int
  | 6 => .array .int
  | 7 => .int
  | 8 => .int
  | 9 => .int
  | 10 => .int
  | 11 => .int
  | 12 => .boolean
  | _ => .boolean
abbrev wsX10 : List Cond := u_ws RX1 TX1 14
theorem nmX1 : ∀ a, a < 14 → ∀ b, b < 14 → a ≠ b → (TX1 a).2.1 ≠ (TX1 b).2.1 := by decide +kernel
theorem tyX1_ok : ∀ k, k < 14 → parseFieldDescriptor (TX1 k).2.2.1 = some (tyX1 k) := by decide +kernel
abbrev cX1_init : ByteArray := prog_3_method_1_code
def yX1_init : MethodName := ⟨RX1, "<init>", "()V"⟩
abbrev cX1_copyFrom : ByteArray := prog_3_method_2_code
def yX1_copyFrom : MethodName := ⟨RX1, "copyFrom", "(LPumpRoster$Pump;)V"⟩
abbrev cX1_placeOf : ByteArray := prog_3_method_3_code
def yX1_placeOf : MethodName := ⟨RX1, "placeOf", "(I)I"⟩
abbrev cX1_houseAt : ByteArray := prog_3_method_4_code
def yX1_houseAt : MethodName := ⟨RX1, "houseAt", "(I)I"⟩
abbrev cX1_append : ByteArray := prog_3_method_5_code
def yX1_append : MethodName := ⟨RX1, "append", "(I)V"⟩
abbrev cX1_strikeOff : ByteArray := prog_3_method_6_code
def yX1_strikeOff : MethodName := ⟨RX1, "strikeOff", "(I)V"⟩
abbrev cX1_placeBehind : ByteArray := prog_3_method_7_code
def yX1_placeBehind : MethodName := ⟨RX1, "placeBehind", "(I)I"⟩
abbrev cX1_breakHandle : ByteArray := prog_3_method_8_code
def yX1_breakHandle : MethodName := ⟨RX1, "breakHandle", "()V"⟩
abbrev cX1_mendHandle : ByteArray := prog_3_method_9_code
def yX1_mendHandle : MethodName := ⟨RX1, "mendHandle", "()V"⟩
abbrev cX1_fact : ByteArray := prog_3_method_10_code
def yX1_fact : MethodName := ⟨RX1, "fact", "(I)I"⟩
abbrev cX1_mixInto : ByteArray := prog_3_method_11_code
def yX1_mixInto : MethodName := ⟨RX1, "mixInto", "(J)J"⟩
def RX2 : String := "PumpRoster$Village"
def TX2 : u_T := fun k => match k with
  | 0 => ("PumpRoster$Village", "houses", "[LPumpRoster$House;", true)
  | 1 => ("PumpRoster$Village", "pumps", "[LPumpRoster$Pump;", true)
  | 2 => ("PumpRoster$Village", "houseCount", "I", false)
  | 3 => ("PumpRoster$Village", "pumpCount", "I", false)
  | 4 => ("PumpRoster$Village", "chest", "I", false)
  | _ => ("PumpRoster$Village", "day", "I", false)
def tyX2 : Nat → FieldType := fun k => match k with
  | 0 => .array (.object "PumpRoster$House")
  | 1 => .array (.object "PumpRoster$Pump")
  | 2 => .int
  | 3 => .int
  | 4 => .int
  | _ => .int
abbrev wsX20 : List Cond := u_ws RX2 TX2 6
theorem nmX2 : ∀ a, a < 6 → ∀ b, b < 6 → a ≠ b → (TX2 a).2.1 ≠ (TX2 b).2.1 := by decide +kernel
theorem tyX2_ok : ∀ k, k < 6 → parseFieldDescriptor (TX2 k).2.2.1 = some (tyX2 k) := by decide +kernel
abbrev cX2_init : ByteArray := prog_4_method_1_code
def yX2_init : MethodName := ⟨RX2, "<init>", "()V"⟩
abbrev cX2_copyFrom : ByteArray := prog_4_method_2_code
def yX2_copyFrom : MethodName := ⟨RX2, "copyFrom", "(LPumpRoster$Village;)V"⟩
abbrev cX2_isHouse : ByteArray := prog_4_method_3_code
def yX2_isHouse : MethodName := ⟨RX2, "isHouse", "(I)Z"⟩
abbrev cX2_isPump : ByteArray := prog_4_method_4_code
def yX2_isPump : MethodName := ⟨RX2, "isPump", "(I)Z"⟩
abbrev cX2_charge : ByteArray := prog_4_method_5_code
def yX2_charge : MethodName := ⟨RX2, "charge", "(LPumpRoster$House;I)I"⟩
abbrev cX2_runDays : ByteArray := prog_4_method_6_code
def yX2_runDays : MethodName := ⟨RX2, "runDays", "(I)I"⟩
abbrev cX2_layEggs : ByteArray := prog_4_method_7_code
def yX2_layEggs : MethodName := ⟨RX2, "layEggs", "()V"⟩
abbrev cX2_passKeys : ByteArray := prog_4_method_8_code
def yX2_passKeys : MethodName := ⟨RX2, "passKeys", "()V"⟩
abbrev cX2_takeTurn : ByteArray := prog_4_method_9_code
def yX2_takeTurn : MethodName := ⟨RX2, "takeTurn", "(LPumpRoster$Pump;)I"⟩
abbrev cX2_handOnKey : ByteArray := prog_4_method_10_code
def yX2_handOnKey : MethodName := ⟨RX2, "handOnKey", "(LPumpRoster$Pump;I)Z"⟩
abbrev cX2_drawWater : ByteArray := prog_4_method_11_code
def yX2_drawWater : MethodName := ⟨RX2, "drawWater", "()V"⟩
abbrev cX2_drawAround : ByteArray := prog_4_method_12_code
def yX2_drawAround : MethodName := ⟨RX2, "drawAround", "(LPumpRoster$House;)V"⟩
abbrev cX2_drawFrom : ByteArray := prog_4_method_13_code
def yX2_drawFrom : MethodName := ⟨RX2, "drawFrom", "(LPumpRoster$Pump;LPumpRoster$House;I)I"⟩
abbrev cX2_mendHandles : ByteArray := prog_4_method_14_code
def yX2_mendHandles : MethodName := ⟨RX2, "mendHandles", "()V"⟩
abbrev cX2_workOnHandle : ByteArray := prog_4_method_15_code
def yX2_workOnHandle : MethodName := ⟨RX2, "workOnHandle", "(LPumpRoster$Pump;)V"⟩
abbrev cX2_fillWells : ByteArray := prog_4_method_16_code
def yX2_fillWells : MethodName := ⟨RX2, "fillWells", "()V"⟩
abbrev cX2_shareChest : ByteArray := prog_4_method_17_code
def yX2_shareChest : MethodName := ⟨RX2, "shareChest", "()V"⟩
abbrev cX2_endDay : ByteArray := prog_4_method_18_code
def yX2_endDay : MethodName := ⟨RX2, "endDay", "()V"⟩
abbrev cX2_houseFact : ByteArray := prog_4_method_19_code
def yX2_houseFact : MethodName := ⟨RX2, "houseFact", "(LPumpRoster$House;I)I"⟩
abbrev cX2_total : ByteArray := prog_4_method_20_code
def yX2_total : MethodName := ⟨RX2, "total", "(I)I"⟩
abbrev cX2_keysHeldBy : ByteArray := prog_4_method_21_code
def yX2_keysHeldBy : MethodName := ⟨RX2, "keysHeldBy", "(I)I"⟩
abbrev cX2_unmarkedHouses : ByteArray := prog_4_method_22_code
def yX2_unmarkedHouses : MethodName := ⟨RX2, "unmarkedHouses", "()I"⟩
abbrev cX2_allEggs : ByteArray := prog_4_method_23_code
def yX2_allEggs : MethodName := ⟨RX2, "allEggs", "()I"⟩
abbrev cX2_housesAway : ByteArray := prog_4_method_24_code
def yX2_housesAway : MethodName := ⟨RX2, "housesAway", "()I"⟩
abbrev cX2_allMarks : ByteArray := prog_4_method_25_code
def yX2_allMarks : MethodName := ⟨RX2, "allMarks", "()I"⟩
abbrev cX2_allThirst : ByteArray := prog_4_method_26_code
def yX2_allThirst : MethodName := ⟨RX2, "allThirst", "()I"⟩
abbrev cX2_allDailyNeed : ByteArray := prog_4_method_27_code
def yX2_allDailyNeed : MethodName := ⟨RX2, "allDailyNeed", "()I"⟩
abbrev cX2_brokenHandles : ByteArray := prog_4_method_28_code
def yX2_brokenHandles : MethodName := ⟨RX2, "brokenHandles", "()I"⟩
abbrev cX2_allDrawn : ByteArray := prog_4_method_29_code
def yX2_allDrawn : MethodName := ⟨RX2, "allDrawn", "()I"⟩
def RX3 : String := "PumpRoster"
def TX3 : u_T := fun k => match k with
  | 0 => ("PumpRoster", "village", "LPumpRoster$Village;", true)
  | _ => ("PumpRoster", "trial", "LPumpRoster$Village;", true)
def tyX3 : Nat → FieldType := fun k => match k with
  | 0 => .object "PumpRoster$Village"
  | _ => .object "PumpRoster$Village"
abbrev wsX30 : List Cond := u_ws RX3 TX3 2
theorem nmX3 : ∀ a, a < 2 → ∀ b, b < 2 → a ≠ b → (TX3 a).2.1 ≠ (TX3 b).2.1 := by decide +kernel
theorem tyX3_ok : ∀ k, k < 2 → parseFieldDescriptor (TX3 k).2.2.1 = some (tyX3 k) := by decide +kernel
abbrev cX3_init : ByteArray := prog_1_method_1_code
def yX3_init : MethodName := ⟨RX3, "<init>", "()V"⟩
abbrev cX3_addHouse : ByteArray := prog_1_method_2_code
def yX3_addHouse : MethodName := ⟨RX3, "addHouse", "(III)I"⟩
abbrev cX3_addPump : ByteArray := prog_1_method_3_code
def yX3_addPump : MethodName := ⟨RX3, "addPump", "(II)I"⟩
abbrev cX3_lodge : ByteArray := prog_1_method_4_code
def yX3_lodge : MethodName := ⟨RX3, "lodge", "(II)I"⟩
abbrev cX3_prefer : ByteArray := prog_1_method_5_code
def yX3_prefer : MethodName := ⟨RX3, "prefer", "(II)I"⟩
abbrev cX3_leave : ByteArray := prog_1_method_6_code
def yX3_leave : MethodName := ⟨RX3, "leave", "(II)I"⟩
abbrev cX3_fine : ByteArray := prog_1_method_7_code
def yX3_fine : MethodName := ⟨RX3, "fine", "(II)I"⟩
abbrev cX3_enrol : ByteArray := prog_1_method_8_code
def yX3_enrol : MethodName := ⟨RX3, "enrol", "(II)I"⟩
abbrev cX3_roster : ByteArray := prog_1_method_10_code
def yX3_roster : MethodName := ⟨RX3, "roster", "(II)I"⟩
abbrev cX3_ahead : ByteArray := prog_1_method_11_code
def yX3_ahead : MethodName := ⟨RX3, "ahead", "(II)I"⟩
abbrev cX3_house : ByteArray := prog_1_method_12_code
def yX3_house : MethodName := ⟨RX3, "house", "(II)I"⟩
abbrev cX3_pump : ByteArray := prog_1_method_13_code
def yX3_pump : MethodName := ⟨RX3, "pump", "(II)I"⟩
abbrev cX3_pass : ByteArray := prog_1_method_14_code
def yX3_pass : MethodName := ⟨RX3, "pass", "(I)I"⟩
abbrev cX3_count : ByteArray := prog_1_method_15_code
def yX3_count : MethodName := ⟨RX3, "count", "(I)I"⟩
abbrev cX3_foresee : ByteArray := prog_1_method_16_code
def yX3_foresee : MethodName := ⟨RX3, "foresee", "(II)I"⟩
abbrev cX3_advise : ByteArray := prog_1_method_17_code
def yX3_advise : MethodName := ⟨RX3, "advise", "(II)I"⟩
abbrev cX3_daily : ByteArray := prog_1_method_19_code
def yX3_daily : MethodName := ⟨RX3, "daily", "()D"⟩
abbrev cX3_digest : ByteArray := prog_1_method_20_code
def yX3_digest : MethodName := ⟨RX3, "digest", "()J"⟩
abbrev cX3_requireArgument : ByteArray := prog_1_method_21_code
def yX3_requireArgument : MethodName := ⟨RX3, "requireArgument", "(III)V"⟩
abbrev cX3_requireIndex : ByteArray := prog_1_method_22_code
def yX3_requireIndex : MethodName := ⟨RX3, "requireIndex", "(II)V"⟩
abbrev cX3_requireHouse : ByteArray := prog_1_method_23_code
def yX3_requireHouse : MethodName := ⟨RX3, "requireHouse", "(I)V"⟩
abbrev cX3_requirePump : ByteArray := prog_1_method_24_code
def yX3_requirePump : MethodName := ⟨RX3, "requirePump", "(I)V"⟩
abbrev cX3_requirePlace : ByteArray := prog_1_method_25_code
def yX3_requirePlace : MethodName := ⟨RX3, "requirePlace", "(II)V"⟩
def RX4 : String := "PumpRosterModel$State"
def TX4 : u_T := fun k => match k with
  | _ => ("", "", "", false)
def tyX4 : Nat → FieldType := fun k => match k with
  | _ => .int
abbrev wsX40 : List Cond := u_ws RX4 TX4 0
theorem nmX4 : ∀ a, a < 0 → ∀ b, b < 0 → a ≠ b → (TX4 a).2.1 ≠ (TX4 b).2.1 := by decide +kernel
theorem tyX4_ok : ∀ k, k < 0 → parseFieldDescriptor (TX4 k).2.2.1 = some (tyX4 k) := by decide +kernel
def RX5 : String := "PumpRosterModel"
def TX5 : u_T := fun k => match k with
  | _ => ("", "", "", false)
def tyX5 : Nat → FieldType := fun k => match k with
  | _ => .int
abbrev wsX50 : List Cond := u_ws RX5 TX5 0
theorem nmX5 : ∀ a, a < 0 → ∀ b, b < 0 → a ≠ b → (TX5 a).2.1 ≠ (TX5 b).2.1 := by decide +kernel
theorem tyX5_ok : ∀ k, k < 0 → parseFieldDescriptor (TX5 k).2.2.1 = some (tyX5 k) := by decide +kernel
def RJ9 : String := "java/lang/Math"
def TJ9 : u_T := fun k => match k with
  | _ => ("", "", "", false)
def tyJ9 : Nat → FieldType := fun k => match k with
  | _ => .int
abbrev wsJ90 : List Cond := u_ws RJ9 TJ9 0
theorem nmJ9 : ∀ a, a < 0 → ∀ b, b < 0 → a ≠ b → (TJ9 a).2.1 ≠ (TJ9 b).2.1 := by decide +kernel
theorem tyJ9_ok : ∀ k, k < 0 → parseFieldDescriptor (TJ9 k).2.2.1 = some (tyJ9 k) := by decide +kernel
abbrev cJ9_max_7cf53 : ByteArray := prog_12_method_65_code
def yJ9_max_7cf53 : MethodName := ⟨RJ9, "max", "(II)I"⟩
abbrev cJ9_min_7cf53 : ByteArray := prog_12_method_69_code
def yJ9_min_7cf53 : MethodName := ⟨RJ9, "min", "(II)I"⟩
def RJ0 : String := "java/lang/String"
def TJ0 : u_T := fun k => match k with
  | _ => ("", "", "", false)
def tyJ0 : Nat → FieldType := fun k => match k with
  | _ => .int
abbrev wsJ00 : List Cond := u_ws RJ0 TJ0 0
theorem nmJ0 : ∀ a, a < 0 → ∀ b, b < 0 → a ≠ b → (TJ0 a).2.1 ≠ (TJ0 b).2.1 := by decide +kernel
theorem tyJ0_ok : ∀ k, k < 0 → parseFieldDescriptor (TJ0 k).2.2.1 = some (tyJ0 k) := by decide +kernel
def RJ10 : String := "java/lang/System"
def TJ10 : u_T := fun k => match k with
  | _ => ("", "", "", false)
def tyJ10 : Nat → FieldType := fun k => match k with
  | _ => .int
abbrev wsJ100 : List Cond := u_ws RJ10 TJ10 0
theorem nmJ10 : ∀ a, a < 0 → ∀ b, b < 0 → a ≠ b → (TJ10 a).2.1 ≠ (TJ10 b).2.1 := by decide +kernel
theorem tyJ10_ok : ∀ k, k < 0 → parseFieldDescriptor (TJ10 k).2.2.1 = some (tyJ10 k) := by decide +kernel
def RL : String := "PumpRosterLaw"
abbrev cL_below : ByteArray := method_2_code
def yL_below : MethodName := ⟨RL, "below", "(II)I"⟩
abbrev cL_cell : ByteArray := method_3_code
def yL_cell : MethodName := ⟨RL, "cell", "([II)I"⟩
abbrev cL_village : ByteArray := method_4_code
def yL_village : MethodName := ⟨RL, "village", "(LPumpRoster;[I)[I"⟩
abbrev cL_law : ByteArray := code
def yL_law : MethodName := ⟨RL, "law", "([I)Z"⟩
def wsX0_init : List Cond := .code yX0_init cX0_init 2 none :: ([.methodLink RX0 3 objectInit, .instanceMethod objectInit, .code objectInit ⟨#[0xb1]⟩ 1 none, .fieldLink RX0 9 "PumpRoster$House" "eggs" "I", .fieldLink RX0 15 "PumpRoster$House" "number" "I"] ++ wsX00)
def wsX0_copyFrom : List Cond := .code yX0_copyFrom cX0_copyFrom 2 none :: ([.fieldLink RX0 18 "PumpRoster$House" "lodgers" "I", .fieldLink RX0 21 "PumpRoster$House" "hens" "I", .fieldLink RX0 24 "PumpRoster$House" "forgets" "I", .fieldLink RX0 9 "PumpRoster$House" "eggs" "I", .fieldLink RX0 27 "PumpRoster$House" "marks" "I", .fieldLink RX0 30 "PumpRoster$House" "daysAway" "I", .fieldLink RX0 33 "PumpRoster$House" "firstPump" "I", .fieldLink RX0 36 "PumpRoster$House" "duties" "I", .fieldLink RX0 39 "PumpRoster$House" "thirst" "I", .fieldLink RX0 42 "PumpRoster$House" "keysToHandOn" "I", .fieldLink RX0 45 "PumpRoster$House" "finesTold" "I"] ++ wsX00)
def wsX0_isThere : List Cond := .code yX0_isThere cX0_isThere 1 (some .boolean) :: ([.fieldLink RX0 30 "PumpRoster$House" "daysAway" "I"] ++ wsX00)
def wsX0_dailyNeed : List Cond := .code yX0_dailyNeed cX0_dailyNeed 1 (some .int) :: ([.fieldLink RX0 18 "PumpRoster$House" "lodgers" "I"] ++ wsX00)
def wsX0_forgetsThisKey : List Cond := .code yX0_forgetsThisKey cX0_forgetsThisKey 1 (some .boolean) :: ([.fieldLink RX0 24 "PumpRoster$House" "forgets" "I", .fieldLink RX0 42 "PumpRoster$House" "keysToHandOn" "I"] ++ wsX00)
def wsX1_init : List Cond := .code yX1_init cX1_init 1 none :: ([.methodLink RX1 3 objectInit, .instanceMethod objectInit, .code objectInit ⟨#[0xb1]⟩ 1 none, .fieldLink RX1 9 "PumpRoster$Pump" "keyHolder" "I", .arrayClass .int, .fieldLink RX1 15 "PumpRoster$Pump" "roster" "[I"] ++ wsX10)
def wsX1_copyFrom : List Cond := .code yX1_copyFrom cX1_copyFrom 2 none :: ([.fieldLink RX1 19 "PumpRoster$Pump" "level" "I", .fieldLink RX1 22 "PumpRoster$Pump" "inflow" "I", .fieldLink RX1 25 "PumpRoster$Pump" "wear" "I", .fieldLink RX1 28 "PumpRoster$Pump" "broken" "Z", .fieldLink RX1 32 "PumpRoster$Pump" "daysToWait" "I", .fieldLink RX1 9 "PumpRoster$Pump" "keyHolder" "I", .fieldLink RX1 15 "PumpRoster$Pump" "roster" "[I", .methodLink RX1 35 arraycopyName, .native arraycopyName, .static arraycopyName, .initialized "java/lang/System", .fieldLink RX1 41 "PumpRoster$Pump" "rosterSize" "I", .fieldLink RX1 44 "PumpRoster$Pump" "turn" "I", .fieldLink RX1 47 "PumpRoster$Pump" "daysOpen" "I", .fieldLink RX1 50 "PumpRoster$Pump" "drawn" "I", .fieldLink RX1 53 "PumpRoster$Pump" "timesMended" "I"] ++ wsX10)
def wsX1_placeOf : List Cond := .code yX1_placeOf cX1_placeOf 3 (some .int) :: ([.fieldLink RX1 41 "PumpRoster$Pump" "rosterSize" "I", .fieldLink RX1 15 "PumpRoster$Pump" "roster" "[I"] ++ wsX10)
def wsX1_houseAt : List Cond := .code yX1_houseAt cX1_houseAt 2 (some .int) :: ([.fieldLink RX1 41 "PumpRoster$Pump" "rosterSize" "I", .fieldLink RX1 15 "PumpRoster$Pump" "roster" "[I"] ++ wsX10)
def wsX1_append : List Cond := .code yX1_append cX1_append 2 none :: ([.fieldLink RX1 41 "PumpRoster$Pump" "rosterSize" "I", .fieldLink RX1 15 "PumpRoster$Pump" "roster" "[I"] ++ wsX10)
def wsX1_strikeOff : List Cond := .code yX1_strikeOff cX1_strikeOff 3 none :: ([.fieldLink RX1 41 "PumpRoster$Pump" "rosterSize" "I", .fieldLink RX1 15 "PumpRoster$Pump" "roster" "[I", .fieldLink RX1 44 "PumpRoster$Pump" "turn" "I"] ++ wsX10)
def wsX1_placeBehind : List Cond := .code yX1_placeBehind cX1_placeBehind 2 (some .int) :: ([.fieldLink RX1 41 "PumpRoster$Pump" "rosterSize" "I"] ++ wsX10)
def wsX1_breakHandle : List Cond := .code yX1_breakHandle cX1_breakHandle 1 none :: ([.fieldLink RX1 28 "PumpRoster$Pump" "broken" "Z", .fieldLink RX1 56 "PumpRoster$Pump" "brokeToday" "Z", .fieldLink RX1 32 "PumpRoster$Pump" "daysToWait" "I"] ++ wsX10)
def wsX1_mendHandle : List Cond := .code yX1_mendHandle cX1_mendHandle 1 none :: ([.fieldLink RX1 28 "PumpRoster$Pump" "broken" "Z", .fieldLink RX1 25 "PumpRoster$Pump" "wear" "I", .fieldLink RX1 53 "PumpRoster$Pump" "timesMended" "I"] ++ wsX10)
def wsX1_fact : List Cond := .code yX1_fact cX1_fact 2 (some .int) :: ([.fieldLink RX1 19 "PumpRoster$Pump" "level" "I", .fieldLink RX1 22 "PumpRoster$Pump" "inflow" "I", .fieldLink RX1 25 "PumpRoster$Pump" "wear" "I", .fieldLink RX1 28 "PumpRoster$Pump" "broken" "Z", .fieldLink RX1 32 "PumpRoster$Pump" "daysToWait" "I", .fieldLink RX1 9 "PumpRoster$Pump" "keyHolder" "I", .fieldLink RX1 41 "PumpRoster$Pump" "rosterSize" "I", .fieldLink RX1 44 "PumpRoster$Pump" "turn" "I", .fieldLink RX1 47 "PumpRoster$Pump" "daysOpen" "I", .fieldLink RX1 50 "PumpRoster$Pump" "drawn" "I", .fieldLink RX1 53 "PumpRoster$Pump" "timesMended" "I"] ++ wsX10)
def wsX1_mixInto : List Cond := .code yX1_mixInto cX1_mixInto 6 (some .long) :: ([.constantLong RX1 59 (31), .fieldLink RX1 41 "PumpRoster$Pump" "rosterSize" "I", .fieldLink RX1 15 "PumpRoster$Pump" "roster" "[I", .methodLink RX1 61 yX1_fact, .instanceMethod yX1_fact, .selects RX1 yX1_fact yX1_fact, .initialized RX1, .code yX1_fact cX1_fact 2 (some .int), .fieldLink RX1 19 "PumpRoster$Pump" "level" "I", .fieldLink RX1 22 "PumpRoster$Pump" "inflow" "I", .fieldLink RX1 25 "PumpRoster$Pump" "wear" "I", .fieldLink RX1 28 "PumpRoster$Pump" "broken" "Z", .fieldLink RX1 32 "PumpRoster$Pump" "daysToWait" "I", .fieldLink RX1 9 "PumpRoster$Pump" "keyHolder" "I", .fieldLink RX1 44 "PumpRoster$Pump" "turn" "I", .fieldLink RX1 47 "PumpRoster$Pump" "daysOpen" "I", .fieldLink RX1 50 "PumpRoster$Pump" "drawn" "I", .fieldLink RX1 53 "PumpRoster$Pump" "timesMended" "I"] ++ wsX10)
def wsX2_init : List Cond := .code yX2_init cX2_init 2 none :: ([.methodLink RX2 3 objectInit, .instanceMethod objectInit, .code objectInit ⟨#[0xb1]⟩ 1 none, .classLink RX2 9 RX0, .fieldLink RX2 11 "PumpRoster$Village" "houses" "[LPumpRoster$House;", .classLink RX2 17 RX1, .fieldLink RX2 19 "PumpRoster$Village" "pumps" "[LPumpRoster$Pump;", .instantiable RX0 12, .initialized RX0, .instantiable RX1 14, .initialized RX1, .methodLink RX2 23 yX0_init, .instanceMethod yX0_init, .code yX0_init cX0_init 2 none, .methodLink RX0 3 objectInit, .fieldLink RX0 9 "PumpRoster$House" "eggs" "I", .fieldLink RX0 15 "PumpRoster$House" "number" "I", .instanceMethod yX1_init, .code yX1_init cX1_init 1 none, .methodLink RX1 3 objectInit, .fieldLink RX1 9 "PumpRoster$Pump" "keyHolder" "I", .arrayClass .int, .fieldLink RX1 15 "PumpRoster$Pump" "roster" "[I"] ++ wsX20 ++ wsX00 ++ wsX10)
def wsX2_copyFrom_r1 : List Cond := [Cond.fieldLink RX2 27 "PumpRoster$Village" "houseCount" "I", Cond.fieldLink RX2 31 "PumpRoster$Village" "pumpCount" "I", Cond.fieldLink RX2 34 "PumpRoster$Village" "chest" "I", Cond.fieldLink RX2 37 "PumpRoster$Village" "day" "I", Cond.fieldLink RX2 11 "PumpRoster$Village" "houses" "[LPumpRoster$House;", Cond.fieldLink RX2 19 "PumpRoster$Village" "pumps" "[LPumpRoster$Pump;", Cond.methodLink RX2 40 yX0_copyFrom, Cond.instanceMethod yX0_copyFrom, Cond.selects RX0 yX0_copyFrom yX0_copyFrom, Cond.initialized RX0, Cond.code yX0_copyFrom cX0_copyFrom 2 none, Cond.fieldLink RX0 18 "PumpRoster$House" "lodgers" "I", Cond.fieldLink RX0 21 "PumpRoster$House" "hens" "I", Cond.fieldLink RX0 24 "PumpRoster$House" "forgets" "I", Cond.fieldLink RX0 9 "PumpRoster$House" "eggs" "I", Cond.fieldLink RX0 27 "PumpRoster$House" "marks" "I", Cond.fieldLink RX0 30 "PumpRoster$House" "daysAway" "I", Cond.fieldLink RX0 33 "PumpRoster$House" "firstPump" "I", Cond.fieldLink RX0 36 "PumpRoster$House" "duties" "I", Cond.fieldLink RX0 39 "PumpRoster$House" "thirst" "I", Cond.fieldLink RX0 42 "PumpRoster$House" "keysToHandOn" "I", Cond.fieldLink RX0 45 "PumpRoster$House" "finesTold" "I", Cond.methodLink RX2 44 yX1_copyFrom, Cond.instanceMethod yX1_copyFrom]
def wsX2_copyFrom_r2 : List Cond := [Cond.selects RX1 yX1_copyFrom yX1_copyFrom, Cond.initialized RX1, Cond.code yX1_copyFrom cX1_copyFrom 2 none, Cond.fieldLink RX1 19 "PumpRoster$Pump" "level" "I", Cond.fieldLink RX1 22 "PumpRoster$Pump" "inflow" "I", Cond.fieldLink RX1 25 "PumpRoster$Pump" "wear" "I", Cond.fieldLink RX1 28 "PumpRoster$Pump" "broken" "Z", Cond.fieldLink RX1 32 "PumpRoster$Pump" "daysToWait" "I", Cond.fieldLink RX1 9 "PumpRoster$Pump" "keyHolder" "I", Cond.fieldLink RX1 15 "PumpRoster$Pump" "roster" "[I", Cond.methodLink RX1 35 arraycopyName, Cond.native arraycopyName, Cond.static arraycopyName, Cond.initialized "java/lang/System", Cond.fieldLink RX1 41 "PumpRoster$Pump" "rosterSize" "I", Cond.fieldLink RX1 44 "PumpRoster$Pump" "turn" "I", Cond.fieldLink RX1 47 "PumpRoster$Pump" "daysOpen" "I", Cond.fieldLink RX1 50 "PumpRoster$Pump" "drawn" "I", Cond.fieldLink RX1 53 "PumpRoster$Pump" "timesMended" "I"]
def wsX2_copyFrom : List Cond := .code yX2_copyFrom cX2_copyFrom 3 none :: ((wsX2_copyFrom_r1 ++ wsX2_copyFrom_r2) ++ wsX20 ++ wsX00 ++ wsX10)
def wsX2_isHouse : List Cond := .code yX2_isHouse cX2_isHouse 2 (some .boolean) :: ([.fieldLink RX2 27 "PumpRoster$Village" "houseCount" "I"] ++ wsX20)
def wsX2_isPump : List Cond := .code yX2_isPump cX2_isPump 2 (some .boolean) :: ([.fieldLink RX2 31 "PumpRoster$Village" "pumpCount" "I"] ++ wsX20)
def wsX2_charge : List Cond := .code yX2_charge cX2_charge 5 (some .int) :: ([.fieldLink RX2 47 "PumpRoster$House" "finesTold" "I", .fieldLink RX2 50 "PumpRoster$House" "eggs" "I", .methodLink RX2 53 Lib.Math.min.name, .static Lib.Math.min.name, .initialized "java/lang/Math", .code Lib.Math.min.name Lib.Math.min.code 2 (some .int), .fieldLink RX2 34 "PumpRoster$Village" "chest" "I", .fieldLink RX2 59 "PumpRoster$House" "marks" "I", .fieldLink RX2 31 "PumpRoster$Village" "pumpCount" "I", .fieldLink RX2 19 "PumpRoster$Village" "pumps" "[LPumpRoster$Pump;", .fieldLink RX2 62 "PumpRoster$House" "number" "I", .methodLink RX2 65 yX1_placeOf, .instanceMethod yX1_placeOf, .selects RX1 yX1_placeOf yX1_placeOf, .initialized RX1, .code yX1_placeOf cX1_placeOf 3 (some .int), .fieldLink RX1 41 "PumpRoster$Pump" "rosterSize" "I", .fieldLink RX1 15 "PumpRoster$Pump" "roster" "[I", .methodLink RX2 69 yX1_strikeOff, .instanceMethod yX1_strikeOff, .selects RX1 yX1_strikeOff yX1_strikeOff, .code yX1_strikeOff cX1_strikeOff 3 none, .fieldLink RX1 44 "PumpRoster$Pump" "turn" "I"] ++ wsX00 ++ wsX20 ++ wsX10)
def wsX2_allDrawn : List Cond := .code yX2_allDrawn cX2_allDrawn 3 (some .int) :: ([.fieldLink RX2 31 "PumpRoster$Village" "pumpCount" "I", .fieldLink RX2 19 "PumpRoster$Village" "pumps" "[LPumpRoster$Pump;", .fieldLink RX2 179 "PumpRoster$Pump" "drawn" "I"] ++ wsX20 ++ wsX10)
def wsX2_layEggs : List Cond := .code yX2_layEggs cX2_layEggs 2 none :: ([.fieldLink RX2 27 "PumpRoster$Village" "houseCount" "I", .fieldLink RX2 11 "PumpRoster$Village" "houses" "[LPumpRoster$House;", .fieldLink RX2 50 "PumpRoster$House" "eggs" "I", .fieldLink RX2 101 "PumpRoster$House" "hens" "I", .methodLink RX2 97 yX0_isThere, .instanceMethod yX0_isThere, .selects RX0 yX0_isThere yX0_isThere, .initialized RX0, .code yX0_isThere cX0_isThere 1 (some .boolean), .fieldLink RX0 30 "PumpRoster$House" "daysAway" "I"] ++ wsX20 ++ wsX00)
def wsX2_takeTurn_r1 : List Cond := [Cond.fieldLink RX2 132 "PumpRoster$Pump" "turn" "I", Cond.fieldLink RX2 135 "PumpRoster$Pump" "rosterSize" "I", Cond.fieldLink RX2 11 "PumpRoster$Village" "houses" "[LPumpRoster$House;", Cond.methodLink RX2 138 yX1_houseAt, Cond.instanceMethod yX1_houseAt, Cond.selects RX1 yX1_houseAt yX1_houseAt, Cond.initialized RX1, Cond.code yX1_houseAt cX1_houseAt 2 (some .int), Cond.fieldLink RX1 41 "PumpRoster$Pump" "rosterSize" "I", Cond.fieldLink RX1 15 "PumpRoster$Pump" "roster" "[I", Cond.methodLink RX2 141 yX1_placeBehind, Cond.instanceMethod yX1_placeBehind, Cond.selects RX1 yX1_placeBehind yX1_placeBehind, Cond.code yX1_placeBehind cX1_placeBehind 2 (some .int), Cond.methodLink RX2 115 yX2_isHouse, Cond.instanceMethod yX2_isHouse, Cond.selects RX2 yX2_isHouse yX2_isHouse, Cond.initialized RX2, Cond.code yX2_isHouse cX2_isHouse 2 (some .boolean), Cond.fieldLink RX2 27 "PumpRoster$Village" "houseCount" "I", Cond.methodLink RX2 97 yX0_isThere, Cond.instanceMethod yX0_isThere, Cond.selects RX0 yX0_isThere yX0_isThere, Cond.initialized RX0]
def wsX2_takeTurn_r2 : List Cond := [Cond.code yX0_isThere cX0_isThere 1 (some .boolean), Cond.fieldLink RX0 30 "PumpRoster$House" "daysAway" "I"]
def wsX2_takeTurn : List Cond := .code yX2_takeTurn cX2_takeTurn 5 (some .int) :: ((wsX2_takeTurn_r1 ++ wsX2_takeTurn_r2) ++ wsX10 ++ wsX20 ++ wsX00)
def wsX2_handOnKey_r1 : List Cond := [Cond.fieldLink RX2 123 "PumpRoster$Pump" "keyHolder" "I", Cond.fieldLink RX2 11 "PumpRoster$Village" "houses" "[LPumpRoster$House;", Cond.fieldLink RX2 144 "PumpRoster$House" "keysToHandOn" "I", Cond.methodLink RX2 115 yX2_isHouse, Cond.instanceMethod yX2_isHouse, Cond.selects RX2 yX2_isHouse yX2_isHouse, Cond.initialized RX2, Cond.code yX2_isHouse cX2_isHouse 2 (some .boolean), Cond.fieldLink RX2 27 "PumpRoster$Village" "houseCount" "I", Cond.methodLink RX2 97 yX0_isThere, Cond.instanceMethod yX0_isThere, Cond.selects RX0 yX0_isThere yX0_isThere, Cond.initialized RX0, Cond.code yX0_isThere cX0_isThere 1 (some .boolean), Cond.fieldLink RX0 30 "PumpRoster$House" "daysAway" "I", Cond.methodLink RX2 147 yX0_forgetsThisKey, Cond.instanceMethod yX0_forgetsThisKey, Cond.selects RX0 yX0_forgetsThisKey yX0_forgetsThisKey, Cond.code yX0_forgetsThisKey cX0_forgetsThisKey 1 (some .boolean), Cond.fieldLink RX0 24 "PumpRoster$House" "forgets" "I", Cond.fieldLink RX0 42 "PumpRoster$House" "keysToHandOn" "I", Cond.methodLink RX2 150 yX2_charge, Cond.instanceMethod yX2_charge, Cond.selects RX2 yX2_charge yX2_charge]
def wsX2_handOnKey_r2 : List Cond := [Cond.code yX2_charge cX2_charge 5 (some .int), Cond.fieldLink RX2 47 "PumpRoster$House" "finesTold" "I", Cond.fieldLink RX2 50 "PumpRoster$House" "eggs" "I", Cond.methodLink RX2 53 Lib.Math.min.name, Cond.static Lib.Math.min.name, Cond.initialized "java/lang/Math", Cond.code Lib.Math.min.name Lib.Math.min.code 2 (some .int), Cond.fieldLink RX2 34 "PumpRoster$Village" "chest" "I", Cond.fieldLink RX2 59 "PumpRoster$House" "marks" "I", Cond.fieldLink RX2 31 "PumpRoster$Village" "pumpCount" "I", Cond.fieldLink RX2 19 "PumpRoster$Village" "pumps" "[LPumpRoster$Pump;", Cond.fieldLink RX2 62 "PumpRoster$House" "number" "I", Cond.methodLink RX2 65 yX1_placeOf, Cond.instanceMethod yX1_placeOf, Cond.selects RX1 yX1_placeOf yX1_placeOf, Cond.initialized RX1, Cond.code yX1_placeOf cX1_placeOf 3 (some .int), Cond.fieldLink RX1 41 "PumpRoster$Pump" "rosterSize" "I", Cond.fieldLink RX1 15 "PumpRoster$Pump" "roster" "[I", Cond.methodLink RX2 69 yX1_strikeOff, Cond.instanceMethod yX1_strikeOff, Cond.selects RX1 yX1_strikeOff yX1_strikeOff, Cond.code yX1_strikeOff cX1_strikeOff 3 none, Cond.fieldLink RX1 44 "PumpRoster$Pump" "turn" "I"]
def wsX2_handOnKey : List Cond := .code yX2_handOnKey cX2_handOnKey 4 (some .boolean) :: ((wsX2_handOnKey_r1 ++ wsX2_handOnKey_r2) ++ wsX10 ++ wsX20 ++ wsX00)
def wsX2_passKeys_r1 : List Cond := [Cond.fieldLink RX2 31 "PumpRoster$Village" "pumpCount" "I", Cond.fieldLink RX2 19 "PumpRoster$Village" "pumps" "[LPumpRoster$Pump;", Cond.fieldLink RX2 104 "PumpRoster$Pump" "open" "Z", Cond.fieldLink RX2 108 "PumpRoster$Pump" "brokeToday" "Z", Cond.fieldLink RX2 123 "PumpRoster$Pump" "keyHolder" "I", Cond.fieldLink RX2 126 "PumpRoster$Pump" "daysOpen" "I", Cond.fieldLink RX2 11 "PumpRoster$Village" "houses" "[LPumpRoster$House;", Cond.fieldLink RX2 129 "PumpRoster$House" "duties" "I", Cond.methodLink RX2 111 yX2_takeTurn, Cond.instanceMethod yX2_takeTurn, Cond.selects RX2 yX2_takeTurn yX2_takeTurn, Cond.initialized RX2, Cond.code yX2_takeTurn cX2_takeTurn 5 (some .int), Cond.fieldLink RX2 132 "PumpRoster$Pump" "turn" "I", Cond.fieldLink RX2 135 "PumpRoster$Pump" "rosterSize" "I", Cond.methodLink RX2 138 yX1_houseAt, Cond.instanceMethod yX1_houseAt, Cond.selects RX1 yX1_houseAt yX1_houseAt, Cond.initialized RX1, Cond.code yX1_houseAt cX1_houseAt 2 (some .int), Cond.fieldLink RX1 41 "PumpRoster$Pump" "rosterSize" "I", Cond.fieldLink RX1 15 "PumpRoster$Pump" "roster" "[I", Cond.methodLink RX2 141 yX1_placeBehind, Cond.instanceMethod yX1_placeBehind]
def wsX2_passKeys_r2 : List Cond := [Cond.selects RX1 yX1_placeBehind yX1_placeBehind, Cond.code yX1_placeBehind cX1_placeBehind 2 (some .int), Cond.methodLink RX2 115 yX2_isHouse, Cond.instanceMethod yX2_isHouse, Cond.selects RX2 yX2_isHouse yX2_isHouse, Cond.code yX2_isHouse cX2_isHouse 2 (some .boolean), Cond.fieldLink RX2 27 "PumpRoster$Village" "houseCount" "I", Cond.methodLink RX2 97 yX0_isThere, Cond.instanceMethod yX0_isThere, Cond.selects RX0 yX0_isThere yX0_isThere, Cond.initialized RX0, Cond.code yX0_isThere cX0_isThere 1 (some .boolean), Cond.fieldLink RX0 30 "PumpRoster$House" "daysAway" "I", Cond.methodLink RX2 119 yX2_handOnKey, Cond.instanceMethod yX2_handOnKey, Cond.selects RX2 yX2_handOnKey yX2_handOnKey, Cond.code yX2_handOnKey cX2_handOnKey 4 (some .boolean), Cond.fieldLink RX2 144 "PumpRoster$House" "keysToHandOn" "I", Cond.methodLink RX2 147 yX0_forgetsThisKey, Cond.instanceMethod yX0_forgetsThisKey, Cond.selects RX0 yX0_forgetsThisKey yX0_forgetsThisKey, Cond.code yX0_forgetsThisKey cX0_forgetsThisKey 1 (some .boolean), Cond.fieldLink RX0 24 "PumpRoster$House" "forgets" "I", Cond.fieldLink RX0 42 "PumpRoster$House" "keysToHandOn" "I"]
def wsX2_passKeys_r3 : List Cond := [Cond.methodLink RX2 150 yX2_charge, Cond.instanceMethod yX2_charge, Cond.selects RX2 yX2_charge yX2_charge, Cond.code yX2_charge cX2_charge 5 (some .int), Cond.fieldLink RX2 47 "PumpRoster$House" "finesTold" "I", Cond.fieldLink RX2 50 "PumpRoster$House" "eggs" "I", Cond.methodLink RX2 53 Lib.Math.min.name, Cond.static Lib.Math.min.name, Cond.initialized "java/lang/Math", Cond.code Lib.Math.min.name Lib.Math.min.code 2 (some .int), Cond.fieldLink RX2 34 "PumpRoster$Village" "chest" "I", Cond.fieldLink RX2 59 "PumpRoster$House" "marks" "I", Cond.fieldLink RX2 62 "PumpRoster$House" "number" "I", Cond.methodLink RX2 65 yX1_placeOf, Cond.instanceMethod yX1_placeOf, Cond.selects RX1 yX1_placeOf yX1_placeOf, Cond.code yX1_placeOf cX1_placeOf 3 (some .int), Cond.methodLink RX2 69 yX1_strikeOff, Cond.instanceMethod yX1_strikeOff, Cond.selects RX1 yX1_strikeOff yX1_strikeOff, Cond.code yX1_strikeOff cX1_strikeOff 3 none, Cond.fieldLink RX1 44 "PumpRoster$Pump" "turn" "I"]
def wsX2_passKeys : List Cond := .code yX2_passKeys cX2_passKeys 4 none :: ((wsX2_passKeys_r1 ++ (wsX2_passKeys_r2 ++ wsX2_passKeys_r3)) ++ wsX20 ++ wsX10 ++ wsX00)
def wsX2_drawFrom_r1 : List Cond := [Cond.fieldLink RX2 104 "PumpRoster$Pump" "open" "Z", Cond.fieldLink RX2 173 "PumpRoster$Pump" "broken" "Z", Cond.fieldLink RX2 176 "PumpRoster$Pump" "level" "I", Cond.methodLink RX2 53 Lib.Math.min.name, Cond.static Lib.Math.min.name, Cond.initialized "java/lang/Math", Cond.code Lib.Math.min.name Lib.Math.min.code 2 (some .int), Cond.fieldLink RX2 179 "PumpRoster$Pump" "drawn" "I", Cond.fieldLink RX2 182 "PumpRoster$Pump" "wear" "I", Cond.methodLink RX2 185 yX1_breakHandle, Cond.instanceMethod yX1_breakHandle, Cond.selects RX1 yX1_breakHandle yX1_breakHandle, Cond.initialized RX1, Cond.code yX1_breakHandle cX1_breakHandle 1 none, Cond.fieldLink RX1 28 "PumpRoster$Pump" "broken" "Z", Cond.fieldLink RX1 56 "PumpRoster$Pump" "brokeToday" "Z", Cond.fieldLink RX1 32 "PumpRoster$Pump" "daysToWait" "I", Cond.methodLink RX2 150 yX2_charge, Cond.instanceMethod yX2_charge, Cond.selects RX2 yX2_charge yX2_charge, Cond.initialized RX2, Cond.code yX2_charge cX2_charge 5 (some .int), Cond.fieldLink RX2 47 "PumpRoster$House" "finesTold" "I", Cond.fieldLink RX2 50 "PumpRoster$House" "eggs" "I"]
def wsX2_drawFrom_r2 : List Cond := [Cond.fieldLink RX2 34 "PumpRoster$Village" "chest" "I", Cond.fieldLink RX2 59 "PumpRoster$House" "marks" "I", Cond.fieldLink RX2 31 "PumpRoster$Village" "pumpCount" "I", Cond.fieldLink RX2 19 "PumpRoster$Village" "pumps" "[LPumpRoster$Pump;", Cond.fieldLink RX2 62 "PumpRoster$House" "number" "I", Cond.methodLink RX2 65 yX1_placeOf, Cond.instanceMethod yX1_placeOf, Cond.selects RX1 yX1_placeOf yX1_placeOf, Cond.code yX1_placeOf cX1_placeOf 3 (some .int), Cond.fieldLink RX1 41 "PumpRoster$Pump" "rosterSize" "I", Cond.fieldLink RX1 15 "PumpRoster$Pump" "roster" "[I", Cond.methodLink RX2 69 yX1_strikeOff, Cond.instanceMethod yX1_strikeOff, Cond.selects RX1 yX1_strikeOff yX1_strikeOff, Cond.code yX1_strikeOff cX1_strikeOff 3 none, Cond.fieldLink RX1 44 "PumpRoster$Pump" "turn" "I"]
def wsX2_drawFrom : List Cond := .code yX2_drawFrom cX2_drawFrom 5 (some .int) :: ((wsX2_drawFrom_r1 ++ wsX2_drawFrom_r2) ++ wsX10 ++ wsX00 ++ wsX20)
def wsX2_drawAround_r1 : List Cond := [Cond.fieldLink RX2 160 "PumpRoster$House" "firstPump" "I", Cond.fieldLink RX2 31 "PumpRoster$Village" "pumpCount" "I", Cond.fieldLink RX2 19 "PumpRoster$Village" "pumps" "[LPumpRoster$Pump;", Cond.fieldLink RX2 170 "PumpRoster$House" "thirst" "I", Cond.methodLink RX2 157 yX0_dailyNeed, Cond.instanceMethod yX0_dailyNeed, Cond.selects RX0 yX0_dailyNeed yX0_dailyNeed, Cond.initialized RX0, Cond.code yX0_dailyNeed cX0_dailyNeed 1 (some .int), Cond.fieldLink RX0 18 "PumpRoster$House" "lodgers" "I", Cond.methodLink RX2 163 yX2_isPump, Cond.instanceMethod yX2_isPump, Cond.selects RX2 yX2_isPump yX2_isPump, Cond.initialized RX2, Cond.code yX2_isPump cX2_isPump 2 (some .boolean), Cond.methodLink RX2 166 yX2_drawFrom, Cond.instanceMethod yX2_drawFrom, Cond.selects RX2 yX2_drawFrom yX2_drawFrom, Cond.code yX2_drawFrom cX2_drawFrom 5 (some .int), Cond.fieldLink RX2 104 "PumpRoster$Pump" "open" "Z", Cond.fieldLink RX2 173 "PumpRoster$Pump" "broken" "Z", Cond.fieldLink RX2 176 "PumpRoster$Pump" "level" "I", Cond.methodLink RX2 53 Lib.Math.min.name, Cond.static Lib.Math.min.name]
def wsX2_drawAround_r2 : List Cond := [Cond.initialized "java/lang/Math", Cond.code Lib.Math.min.name Lib.Math.min.code 2 (some .int), Cond.fieldLink RX2 179 "PumpRoster$Pump" "drawn" "I", Cond.fieldLink RX2 182 "PumpRoster$Pump" "wear" "I", Cond.methodLink RX2 185 yX1_breakHandle, Cond.instanceMethod yX1_breakHandle, Cond.selects RX1 yX1_breakHandle yX1_breakHandle, Cond.initialized RX1, Cond.code yX1_breakHandle cX1_breakHandle 1 none, Cond.fieldLink RX1 28 "PumpRoster$Pump" "broken" "Z", Cond.fieldLink RX1 56 "PumpRoster$Pump" "brokeToday" "Z", Cond.fieldLink RX1 32 "PumpRoster$Pump" "daysToWait" "I", Cond.methodLink RX2 150 yX2_charge, Cond.instanceMethod yX2_charge, Cond.selects RX2 yX2_charge yX2_charge, Cond.code yX2_charge cX2_charge 5 (some .int), Cond.fieldLink RX2 47 "PumpRoster$House" "finesTold" "I", Cond.fieldLink RX2 50 "PumpRoster$House" "eggs" "I", Cond.fieldLink RX2 34 "PumpRoster$Village" "chest" "I", Cond.fieldLink RX2 59 "PumpRoster$House" "marks" "I", Cond.fieldLink RX2 62 "PumpRoster$House" "number" "I", Cond.methodLink RX2 65 yX1_placeOf, Cond.instanceMethod yX1_placeOf, Cond.selects RX1 yX1_placeOf yX1_placeOf]
def wsX2_drawAround_r3 : List Cond := [Cond.code yX1_placeOf cX1_placeOf 3 (some .int), Cond.fieldLink RX1 41 "PumpRoster$Pump" "rosterSize" "I", Cond.fieldLink RX1 15 "PumpRoster$Pump" "roster" "[I", Cond.methodLink RX2 69 yX1_strikeOff, Cond.instanceMethod yX1_strikeOff, Cond.selects RX1 yX1_strikeOff yX1_strikeOff, Cond.code yX1_strikeOff cX1_strikeOff 3 none, Cond.fieldLink RX1 44 "PumpRoster$Pump" "turn" "I"]
def wsX2_drawAround : List Cond := .code yX2_drawAround cX2_drawAround 5 none :: ((wsX2_drawAround_r1 ++ (wsX2_drawAround_r2 ++ wsX2_drawAround_r3)) ++ wsX00 ++ wsX20 ++ wsX10)
def wsX2_drawWater_r1 : List Cond := [Cond.fieldLink RX2 27 "PumpRoster$Village" "houseCount" "I", Cond.fieldLink RX2 11 "PumpRoster$Village" "houses" "[LPumpRoster$House;", Cond.methodLink RX2 97 yX0_isThere, Cond.instanceMethod yX0_isThere, Cond.selects RX0 yX0_isThere yX0_isThere, Cond.initialized RX0, Cond.code yX0_isThere cX0_isThere 1 (some .boolean), Cond.fieldLink RX0 30 "PumpRoster$House" "daysAway" "I", Cond.methodLink RX2 154 yX2_drawAround, Cond.instanceMethod yX2_drawAround, Cond.selects RX2 yX2_drawAround yX2_drawAround, Cond.initialized RX2, Cond.code yX2_drawAround cX2_drawAround 5 none, Cond.fieldLink RX2 160 "PumpRoster$House" "firstPump" "I", Cond.fieldLink RX2 31 "PumpRoster$Village" "pumpCount" "I", Cond.fieldLink RX2 19 "PumpRoster$Village" "pumps" "[LPumpRoster$Pump;", Cond.fieldLink RX2 170 "PumpRoster$House" "thirst" "I", Cond.methodLink RX2 157 yX0_dailyNeed, Cond.instanceMethod yX0_dailyNeed, Cond.selects RX0 yX0_dailyNeed yX0_dailyNeed, Cond.code yX0_dailyNeed cX0_dailyNeed 1 (some .int), Cond.fieldLink RX0 18 "PumpRoster$House" "lodgers" "I", Cond.methodLink RX2 163 yX2_isPump, Cond.instanceMethod yX2_isPump]
def wsX2_drawWater_r2 : List Cond := [Cond.selects RX2 yX2_isPump yX2_isPump, Cond.code yX2_isPump cX2_isPump 2 (some .boolean), Cond.methodLink RX2 166 yX2_drawFrom, Cond.instanceMethod yX2_drawFrom, Cond.selects RX2 yX2_drawFrom yX2_drawFrom, Cond.code yX2_drawFrom cX2_drawFrom 5 (some .int), Cond.fieldLink RX2 104 "PumpRoster$Pump" "open" "Z", Cond.fieldLink RX2 173 "PumpRoster$Pump" "broken" "Z", Cond.fieldLink RX2 176 "PumpRoster$Pump" "level" "I", Cond.methodLink RX2 53 Lib.Math.min.name, Cond.static Lib.Math.min.name, Cond.initialized "java/lang/Math", Cond.code Lib.Math.min.name Lib.Math.min.code 2 (some .int), Cond.fieldLink RX2 179 "PumpRoster$Pump" "drawn" "I", Cond.fieldLink RX2 182 "PumpRoster$Pump" "wear" "I", Cond.methodLink RX2 185 yX1_breakHandle, Cond.instanceMethod yX1_breakHandle, Cond.selects RX1 yX1_breakHandle yX1_breakHandle, Cond.initialized RX1, Cond.code yX1_breakHandle cX1_breakHandle 1 none, Cond.fieldLink RX1 28 "PumpRoster$Pump" "broken" "Z", Cond.fieldLink RX1 56 "PumpRoster$Pump" "brokeToday" "Z", Cond.fieldLink RX1 32 "PumpRoster$Pump" "daysToWait" "I", Cond.methodLink RX2 150 yX2_charge]
def wsX2_drawWater_r3 : List Cond := [Cond.instanceMethod yX2_charge, Cond.selects RX2 yX2_charge yX2_charge, Cond.code yX2_charge cX2_charge 5 (some .int), Cond.fieldLink RX2 47 "PumpRoster$House" "finesTold" "I", Cond.fieldLink RX2 50 "PumpRoster$House" "eggs" "I", Cond.fieldLink RX2 34 "PumpRoster$Village" "chest" "I", Cond.fieldLink RX2 59 "PumpRoster$House" "marks" "I", Cond.fieldLink RX2 62 "PumpRoster$House" "number" "I", Cond.methodLink RX2 65 yX1_placeOf, Cond.instanceMethod yX1_placeOf, Cond.selects RX1 yX1_placeOf yX1_placeOf, Cond.code yX1_placeOf cX1_placeOf 3 (some .int), Cond.fieldLink RX1 41 "PumpRoster$Pump" "rosterSize" "I", Cond.fieldLink RX1 15 "PumpRoster$Pump" "roster" "[I", Cond.methodLink RX2 69 yX1_strikeOff, Cond.instanceMethod yX1_strikeOff, Cond.selects RX1 yX1_strikeOff yX1_strikeOff, Cond.code yX1_strikeOff cX1_strikeOff 3 none, Cond.fieldLink RX1 44 "PumpRoster$Pump" "turn" "I"]
def wsX2_drawWater : List Cond := .code yX2_drawWater cX2_drawWater 2 none :: ((wsX2_drawWater_r1 ++ (wsX2_drawWater_r2 ++ wsX2_drawWater_r3)) ++ wsX20 ++ wsX00 ++ wsX10)
def wsX2_workOnHandle : List Cond := .code yX2_workOnHandle cX2_workOnHandle 2 none :: ([.fieldLink RX2 191 "PumpRoster$Pump" "daysToWait" "I", .fieldLink RX2 34 "PumpRoster$Village" "chest" "I", .methodLink RX2 194 yX1_mendHandle, .instanceMethod yX1_mendHandle, .selects RX1 yX1_mendHandle yX1_mendHandle, .initialized RX1, .code yX1_mendHandle cX1_mendHandle 1 none, .fieldLink RX1 28 "PumpRoster$Pump" "broken" "Z", .fieldLink RX1 25 "PumpRoster$Pump" "wear" "I", .fieldLink RX1 53 "PumpRoster$Pump" "timesMended" "I"] ++ wsX10 ++ wsX20)
def wsX2_mendHandles : List Cond := .code yX2_mendHandles cX2_mendHandles 2 none :: ([.fieldLink RX2 31 "PumpRoster$Village" "pumpCount" "I", .fieldLink RX2 19 "PumpRoster$Village" "pumps" "[LPumpRoster$Pump;", .fieldLink RX2 173 "PumpRoster$Pump" "broken" "Z", .fieldLink RX2 108 "PumpRoster$Pump" "brokeToday" "Z", .methodLink RX2 188 yX2_workOnHandle, .instanceMethod yX2_workOnHandle, .selects RX2 yX2_workOnHandle yX2_workOnHandle, .initialized RX2, .code yX2_workOnHandle cX2_workOnHandle 2 none, .fieldLink RX2 191 "PumpRoster$Pump" "daysToWait" "I", .fieldLink RX2 34 "PumpRoster$Village" "chest" "I", .methodLink RX2 194 yX1_mendHandle, .instanceMethod yX1_mendHandle, .selects RX1 yX1_mendHandle yX1_mendHandle, .initialized RX1, .code yX1_mendHandle cX1_mendHandle 1 none, .fieldLink RX1 28 "PumpRoster$Pump" "broken" "Z", .fieldLink RX1 25 "PumpRoster$Pump" "wear" "I", .fieldLink RX1 53 "PumpRoster$Pump" "timesMended" "I"] ++ wsX20 ++ wsX10)
def wsX2_fillWells : List Cond := .code yX2_fillWells cX2_fillWells 2 none :: ([.fieldLink RX2 31 "PumpRoster$Village" "pumpCount" "I", .fieldLink RX2 19 "PumpRoster$Village" "pumps" "[LPumpRoster$Pump;", .fieldLink RX2 176 "PumpRoster$Pump" "level" "I", .fieldLink RX2 197 "PumpRoster$Pump" "inflow" "I", .methodLink RX2 53 Lib.Math.min.name, .static Lib.Math.min.name, .initialized "java/lang/Math", .code Lib.Math.min.name Lib.Math.min.code 2 (some .int)] ++ wsX20 ++ wsX10)
def wsX2_unmarkedHouses : List Cond := .code yX2_unmarkedHouses cX2_unmarkedHouses 3 (some .int) :: ([.fieldLink RX2 27 "PumpRoster$Village" "houseCount" "I", .fieldLink RX2 11 "PumpRoster$Village" "houses" "[LPumpRoster$House;", .fieldLink RX2 59 "PumpRoster$House" "marks" "I"] ++ wsX20 ++ wsX00)
def wsX2_shareChest : List Cond := .code yX2_shareChest cX2_shareChest 4 none :: ([.fieldLink RX2 37 "PumpRoster$Village" "day" "I", .fieldLink RX2 34 "PumpRoster$Village" "chest" "I", .fieldLink RX2 27 "PumpRoster$Village" "houseCount" "I", .fieldLink RX2 11 "PumpRoster$Village" "houses" "[LPumpRoster$House;", .fieldLink RX2 59 "PumpRoster$House" "marks" "I", .fieldLink RX2 50 "PumpRoster$House" "eggs" "I", .methodLink RX2 200 yX2_unmarkedHouses, .instanceMethod yX2_unmarkedHouses, .selects RX2 yX2_unmarkedHouses yX2_unmarkedHouses, .initialized RX2, .code yX2_unmarkedHouses cX2_unmarkedHouses 3 (some .int)] ++ wsX20 ++ wsX00)
def wsX2_endDay : List Cond := .code yX2_endDay cX2_endDay 2 none :: ([.fieldLink RX2 27 "PumpRoster$Village" "houseCount" "I", .fieldLink RX2 11 "PumpRoster$Village" "houses" "[LPumpRoster$House;", .fieldLink RX2 203 "PumpRoster$House" "daysAway" "I", .fieldLink RX2 37 "PumpRoster$Village" "day" "I", .methodLink RX2 97 yX0_isThere, .instanceMethod yX0_isThere, .selects RX0 yX0_isThere yX0_isThere, .initialized RX0, .code yX0_isThere cX0_isThere 1 (some .boolean), .fieldLink RX0 30 "PumpRoster$House" "daysAway" "I"] ++ wsX20 ++ wsX00)
def wsX2_runDays_r1 : List Cond := [Cond.methodLink RX2 72 yX2_allDrawn, Cond.instanceMethod yX2_allDrawn, Cond.selects RX2 yX2_allDrawn yX2_allDrawn, Cond.initialized RX2, Cond.code yX2_allDrawn cX2_allDrawn 3 (some .int), Cond.fieldLink RX2 31 "PumpRoster$Village" "pumpCount" "I", Cond.fieldLink RX2 19 "PumpRoster$Village" "pumps" "[LPumpRoster$Pump;", Cond.fieldLink RX2 179 "PumpRoster$Pump" "drawn" "I", Cond.methodLink RX2 76 yX2_layEggs, Cond.instanceMethod yX2_layEggs, Cond.selects RX2 yX2_layEggs yX2_layEggs, Cond.code yX2_layEggs cX2_layEggs 2 none, Cond.fieldLink RX2 27 "PumpRoster$Village" "houseCount" "I", Cond.fieldLink RX2 11 "PumpRoster$Village" "houses" "[LPumpRoster$House;", Cond.fieldLink RX2 50 "PumpRoster$House" "eggs" "I", Cond.fieldLink RX2 101 "PumpRoster$House" "hens" "I", Cond.methodLink RX2 97 yX0_isThere, Cond.instanceMethod yX0_isThere, Cond.selects RX0 yX0_isThere yX0_isThere, Cond.initialized RX0, Cond.code yX0_isThere cX0_isThere 1 (some .boolean), Cond.fieldLink RX0 30 "PumpRoster$House" "daysAway" "I", Cond.methodLink RX2 79 yX2_passKeys, Cond.instanceMethod yX2_passKeys]
def wsX2_runDays_r2 : List Cond := [Cond.selects RX2 yX2_passKeys yX2_passKeys, Cond.code yX2_passKeys cX2_passKeys 4 none, Cond.fieldLink RX2 104 "PumpRoster$Pump" "open" "Z", Cond.fieldLink RX2 108 "PumpRoster$Pump" "brokeToday" "Z", Cond.fieldLink RX2 123 "PumpRoster$Pump" "keyHolder" "I", Cond.fieldLink RX2 126 "PumpRoster$Pump" "daysOpen" "I", Cond.fieldLink RX2 129 "PumpRoster$House" "duties" "I", Cond.methodLink RX2 111 yX2_takeTurn, Cond.instanceMethod yX2_takeTurn, Cond.selects RX2 yX2_takeTurn yX2_takeTurn, Cond.code yX2_takeTurn cX2_takeTurn 5 (some .int), Cond.fieldLink RX2 132 "PumpRoster$Pump" "turn" "I", Cond.fieldLink RX2 135 "PumpRoster$Pump" "rosterSize" "I", Cond.methodLink RX2 138 yX1_houseAt, Cond.instanceMethod yX1_houseAt, Cond.selects RX1 yX1_houseAt yX1_houseAt, Cond.initialized RX1, Cond.code yX1_houseAt cX1_houseAt 2 (some .int), Cond.fieldLink RX1 41 "PumpRoster$Pump" "rosterSize" "I", Cond.fieldLink RX1 15 "PumpRoster$Pump" "roster" "[I", Cond.methodLink RX2 141 yX1_placeBehind, Cond.instanceMethod yX1_placeBehind, Cond.selects RX1 yX1_placeBehind yX1_placeBehind, Cond.code yX1_placeBehind cX1_placeBehind 2 (some .int)]
def wsX2_runDays_r3 : List Cond := [Cond.methodLink RX2 115 yX2_isHouse, Cond.instanceMethod yX2_isHouse, Cond.selects RX2 yX2_isHouse yX2_isHouse, Cond.code yX2_isHouse cX2_isHouse 2 (some .boolean), Cond.methodLink RX2 119 yX2_handOnKey, Cond.instanceMethod yX2_handOnKey, Cond.selects RX2 yX2_handOnKey yX2_handOnKey, Cond.code yX2_handOnKey cX2_handOnKey 4 (some .boolean), Cond.fieldLink RX2 144 "PumpRoster$House" "keysToHandOn" "I", Cond.methodLink RX2 147 yX0_forgetsThisKey, Cond.instanceMethod yX0_forgetsThisKey, Cond.selects RX0 yX0_forgetsThisKey yX0_forgetsThisKey, Cond.code yX0_forgetsThisKey cX0_forgetsThisKey 1 (some .boolean), Cond.fieldLink RX0 24 "PumpRoster$House" "forgets" "I", Cond.fieldLink RX0 42 "PumpRoster$House" "keysToHandOn" "I", Cond.methodLink RX2 150 yX2_charge, Cond.instanceMethod yX2_charge, Cond.selects RX2 yX2_charge yX2_charge, Cond.code yX2_charge cX2_charge 5 (some .int), Cond.fieldLink RX2 47 "PumpRoster$House" "finesTold" "I", Cond.methodLink RX2 53 Lib.Math.min.name, Cond.static Lib.Math.min.name, Cond.initialized "java/lang/Math", Cond.code Lib.Math.min.name Lib.Math.min.code 2 (some .int)]
def wsX2_runDays_r4 : List Cond := [Cond.fieldLink RX2 34 "PumpRoster$Village" "chest" "I", Cond.fieldLink RX2 59 "PumpRoster$House" "marks" "I", Cond.fieldLink RX2 62 "PumpRoster$House" "number" "I", Cond.methodLink RX2 65 yX1_placeOf, Cond.instanceMethod yX1_placeOf, Cond.selects RX1 yX1_placeOf yX1_placeOf, Cond.code yX1_placeOf cX1_placeOf 3 (some .int), Cond.methodLink RX2 69 yX1_strikeOff, Cond.instanceMethod yX1_strikeOff, Cond.selects RX1 yX1_strikeOff yX1_strikeOff, Cond.code yX1_strikeOff cX1_strikeOff 3 none, Cond.fieldLink RX1 44 "PumpRoster$Pump" "turn" "I", Cond.methodLink RX2 82 yX2_drawWater, Cond.instanceMethod yX2_drawWater, Cond.selects RX2 yX2_drawWater yX2_drawWater, Cond.code yX2_drawWater cX2_drawWater 2 none, Cond.methodLink RX2 154 yX2_drawAround, Cond.instanceMethod yX2_drawAround, Cond.selects RX2 yX2_drawAround yX2_drawAround, Cond.code yX2_drawAround cX2_drawAround 5 none, Cond.fieldLink RX2 160 "PumpRoster$House" "firstPump" "I", Cond.fieldLink RX2 170 "PumpRoster$House" "thirst" "I", Cond.methodLink RX2 157 yX0_dailyNeed, Cond.instanceMethod yX0_dailyNeed]
def wsX2_runDays_r5 : List Cond := [Cond.selects RX0 yX0_dailyNeed yX0_dailyNeed, Cond.code yX0_dailyNeed cX0_dailyNeed 1 (some .int), Cond.fieldLink RX0 18 "PumpRoster$House" "lodgers" "I", Cond.methodLink RX2 163 yX2_isPump, Cond.instanceMethod yX2_isPump, Cond.selects RX2 yX2_isPump yX2_isPump, Cond.code yX2_isPump cX2_isPump 2 (some .boolean), Cond.methodLink RX2 166 yX2_drawFrom, Cond.instanceMethod yX2_drawFrom, Cond.selects RX2 yX2_drawFrom yX2_drawFrom, Cond.code yX2_drawFrom cX2_drawFrom 5 (some .int), Cond.fieldLink RX2 173 "PumpRoster$Pump" "broken" "Z", Cond.fieldLink RX2 176 "PumpRoster$Pump" "level" "I", Cond.fieldLink RX2 182 "PumpRoster$Pump" "wear" "I", Cond.methodLink RX2 185 yX1_breakHandle, Cond.instanceMethod yX1_breakHandle, Cond.selects RX1 yX1_breakHandle yX1_breakHandle, Cond.code yX1_breakHandle cX1_breakHandle 1 none, Cond.fieldLink RX1 28 "PumpRoster$Pump" "broken" "Z", Cond.fieldLink RX1 56 "PumpRoster$Pump" "brokeToday" "Z", Cond.fieldLink RX1 32 "PumpRoster$Pump" "daysToWait" "I", Cond.methodLink RX2 85 yX2_mendHandles, Cond.instanceMethod yX2_mendHandles, Cond.selects RX2 yX2_mendHandles yX2_mendHandles]
def wsX2_runDays_r6 : List Cond := [Cond.code yX2_mendHandles cX2_mendHandles 2 none, Cond.methodLink RX2 188 yX2_workOnHandle, Cond.instanceMethod yX2_workOnHandle, Cond.selects RX2 yX2_workOnHandle yX2_workOnHandle, Cond.code yX2_workOnHandle cX2_workOnHandle 2 none, Cond.fieldLink RX2 191 "PumpRoster$Pump" "daysToWait" "I", Cond.methodLink RX2 194 yX1_mendHandle, Cond.instanceMethod yX1_mendHandle, Cond.selects RX1 yX1_mendHandle yX1_mendHandle, Cond.code yX1_mendHandle cX1_mendHandle 1 none, Cond.fieldLink RX1 25 "PumpRoster$Pump" "wear" "I", Cond.fieldLink RX1 53 "PumpRoster$Pump" "timesMended" "I", Cond.methodLink RX2 88 yX2_fillWells, Cond.instanceMethod yX2_fillWells, Cond.selects RX2 yX2_fillWells yX2_fillWells, Cond.code yX2_fillWells cX2_fillWells 2 none, Cond.fieldLink RX2 197 "PumpRoster$Pump" "inflow" "I", Cond.methodLink RX2 91 yX2_shareChest, Cond.instanceMethod yX2_shareChest, Cond.selects RX2 yX2_shareChest yX2_shareChest, Cond.code yX2_shareChest cX2_shareChest 4 none, Cond.fieldLink RX2 37 "PumpRoster$Village" "day" "I", Cond.methodLink RX2 200 yX2_unmarkedHouses, Cond.instanceMethod yX2_unmarkedHouses]
def wsX2_runDays_r7 : List Cond := [Cond.selects RX2 yX2_unmarkedHouses yX2_unmarkedHouses, Cond.code yX2_unmarkedHouses cX2_unmarkedHouses 3 (some .int), Cond.methodLink RX2 94 yX2_endDay, Cond.instanceMethod yX2_endDay, Cond.selects RX2 yX2_endDay yX2_endDay, Cond.code yX2_endDay cX2_endDay 2 none, Cond.fieldLink RX2 203 "PumpRoster$House" "daysAway" "I"]
def wsX2_runDays : List Cond := .code yX2_runDays cX2_runDays 4 (some .int) :: ((wsX2_runDays_r1 ++ (wsX2_runDays_r2 ++ (wsX2_runDays_r3 ++ (wsX2_runDays_r4 ++ (wsX2_runDays_r5 ++ (wsX2_runDays_r6 ++ wsX2_runDays_r7)))))) ++ wsX20 ++ wsX10 ++ wsX00)
def wsX2_keysHeldBy : List Cond := .code yX2_keysHeldBy cX2_keysHeldBy 4 (some .int) :: ([.fieldLink RX2 31 "PumpRoster$Village" "pumpCount" "I", .fieldLink RX2 19 "PumpRoster$Village" "pumps" "[LPumpRoster$Pump;", .fieldLink RX2 123 "PumpRoster$Pump" "keyHolder" "I"] ++ wsX20 ++ wsX10)
def wsX2_houseFact : List Cond := .code yX2_houseFact cX2_houseFact 3 (some .int) :: ([.fieldLink RX2 206 "PumpRoster$House" "lodgers" "I", .fieldLink RX2 101 "PumpRoster$House" "hens" "I", .fieldLink RX2 50 "PumpRoster$House" "eggs" "I", .fieldLink RX2 59 "PumpRoster$House" "marks" "I", .fieldLink RX2 203 "PumpRoster$House" "daysAway" "I", .fieldLink RX2 160 "PumpRoster$House" "firstPump" "I", .fieldLink RX2 129 "PumpRoster$House" "duties" "I", .fieldLink RX2 170 "PumpRoster$House" "thirst" "I", .fieldLink RX2 144 "PumpRoster$House" "keysToHandOn" "I", .fieldLink RX2 47 "PumpRoster$House" "finesTold" "I", .fieldLink RX2 62 "PumpRoster$House" "number" "I", .methodLink RX2 209 yX2_keysHeldBy, .instanceMethod yX2_keysHeldBy, .selects RX2 yX2_keysHeldBy yX2_keysHeldBy, .initialized RX2, .code yX2_keysHeldBy cX2_keysHeldBy 4 (some .int), .fieldLink RX2 31 "PumpRoster$Village" "pumpCount" "I", .fieldLink RX2 19 "PumpRoster$Village" "pumps" "[LPumpRoster$Pump;", .fieldLink RX2 123 "PumpRoster$Pump" "keyHolder" "I"] ++ wsX00 ++ wsX20 ++ wsX10)
def wsX2_allEggs : List Cond := .code yX2_allEggs cX2_allEggs 3 (some .int) :: ([.fieldLink RX2 27 "PumpRoster$Village" "houseCount" "I", .fieldLink RX2 11 "PumpRoster$Village" "houses" "[LPumpRoster$House;", .fieldLink RX2 50 "PumpRoster$House" "eggs" "I"] ++ wsX20 ++ wsX00)
def wsX2_housesAway : List Cond := .code yX2_housesAway cX2_housesAway 3 (some .int) :: ([.fieldLink RX2 27 "PumpRoster$Village" "houseCount" "I", .fieldLink RX2 11 "PumpRoster$Village" "houses" "[LPumpRoster$House;", .methodLink RX2 97 yX0_isThere, .instanceMethod yX0_isThere, .selects RX0 yX0_isThere yX0_isThere, .initialized RX0, .code yX0_isThere cX0_isThere 1 (some .boolean), .fieldLink RX0 30 "PumpRoster$House" "daysAway" "I"] ++ wsX20 ++ wsX00)
def wsX2_allMarks : List Cond := .code yX2_allMarks cX2_allMarks 3 (some .int) :: ([.fieldLink RX2 27 "PumpRoster$Village" "houseCount" "I", .fieldLink RX2 11 "PumpRoster$Village" "houses" "[LPumpRoster$House;", .fieldLink RX2 59 "PumpRoster$House" "marks" "I"] ++ wsX20 ++ wsX00)
def wsX2_allThirst : List Cond := .code yX2_allThirst cX2_allThirst 3 (some .int) :: ([.fieldLink RX2 27 "PumpRoster$Village" "houseCount" "I", .fieldLink RX2 11 "PumpRoster$Village" "houses" "[LPumpRoster$House;", .fieldLink RX2 170 "PumpRoster$House" "thirst" "I"] ++ wsX20 ++ wsX00)
def wsX2_allDailyNeed : List Cond := .code yX2_allDailyNeed cX2_allDailyNeed 3 (some .int) :: ([.fieldLink RX2 27 "PumpRoster$Village" "houseCount" "I", .fieldLink RX2 11 "PumpRoster$Village" "houses" "[LPumpRoster$House;", .methodLink RX2 97 yX0_isThere, .instanceMethod yX0_isThere, .selects RX0 yX0_isThere yX0_isThere, .initialized RX0, .code yX0_isThere cX0_isThere 1 (some .boolean), .fieldLink RX0 30 "PumpRoster$House" "daysAway" "I", .methodLink RX2 157 yX0_dailyNeed, .instanceMethod yX0_dailyNeed, .selects RX0 yX0_dailyNeed yX0_dailyNeed, .code yX0_dailyNeed cX0_dailyNeed 1 (some .int), .fieldLink RX0 18 "PumpRoster$House" "lodgers" "I"] ++ wsX20 ++ wsX00)
def wsX2_brokenHandles : List Cond := .code yX2_brokenHandles cX2_brokenHandles 3 (some .int) :: ([.fieldLink RX2 31 "PumpRoster$Village" "pumpCount" "I", .fieldLink RX2 19 "PumpRoster$Village" "pumps" "[LPumpRoster$Pump;", .fieldLink RX2 173 "PumpRoster$Pump" "broken" "Z"] ++ wsX20 ++ wsX10)
def wsX2_total_r1 : List Cond := [Cond.fieldLink RX2 37 "PumpRoster$Village" "day" "I", Cond.fieldLink RX2 27 "PumpRoster$Village" "houseCount" "I", Cond.fieldLink RX2 31 "PumpRoster$Village" "pumpCount" "I", Cond.fieldLink RX2 34 "PumpRoster$Village" "chest" "I", Cond.methodLink RX2 212 yX2_allEggs, Cond.instanceMethod yX2_allEggs, Cond.selects RX2 yX2_allEggs yX2_allEggs, Cond.initialized RX2, Cond.code yX2_allEggs cX2_allEggs 3 (some .int), Cond.fieldLink RX2 11 "PumpRoster$Village" "houses" "[LPumpRoster$House;", Cond.fieldLink RX2 50 "PumpRoster$House" "eggs" "I", Cond.methodLink RX2 215 yX2_housesAway, Cond.instanceMethod yX2_housesAway, Cond.selects RX2 yX2_housesAway yX2_housesAway, Cond.code yX2_housesAway cX2_housesAway 3 (some .int), Cond.methodLink RX2 97 yX0_isThere, Cond.instanceMethod yX0_isThere, Cond.selects RX0 yX0_isThere yX0_isThere, Cond.initialized RX0, Cond.code yX0_isThere cX0_isThere 1 (some .boolean), Cond.fieldLink RX0 30 "PumpRoster$House" "daysAway" "I", Cond.methodLink RX2 218 yX2_allMarks, Cond.instanceMethod yX2_allMarks, Cond.selects RX2 yX2_allMarks yX2_allMarks]
def wsX2_total_r2 : List Cond := [Cond.code yX2_allMarks cX2_allMarks 3 (some .int), Cond.fieldLink RX2 59 "PumpRoster$House" "marks" "I", Cond.methodLink RX2 221 yX2_allThirst, Cond.instanceMethod yX2_allThirst, Cond.selects RX2 yX2_allThirst yX2_allThirst, Cond.code yX2_allThirst cX2_allThirst 3 (some .int), Cond.fieldLink RX2 170 "PumpRoster$House" "thirst" "I", Cond.methodLink RX2 224 yX2_allDailyNeed, Cond.instanceMethod yX2_allDailyNeed, Cond.selects RX2 yX2_allDailyNeed yX2_allDailyNeed, Cond.code yX2_allDailyNeed cX2_allDailyNeed 3 (some .int), Cond.methodLink RX2 157 yX0_dailyNeed, Cond.instanceMethod yX0_dailyNeed, Cond.selects RX0 yX0_dailyNeed yX0_dailyNeed, Cond.code yX0_dailyNeed cX0_dailyNeed 1 (some .int), Cond.fieldLink RX0 18 "PumpRoster$House" "lodgers" "I", Cond.methodLink RX2 227 yX2_brokenHandles, Cond.instanceMethod yX2_brokenHandles, Cond.selects RX2 yX2_brokenHandles yX2_brokenHandles, Cond.code yX2_brokenHandles cX2_brokenHandles 3 (some .int), Cond.fieldLink RX2 19 "PumpRoster$Village" "pumps" "[LPumpRoster$Pump;", Cond.fieldLink RX2 173 "PumpRoster$Pump" "broken" "Z"]
def wsX2_total : List Cond := .code yX2_total cX2_total 2 (some .int) :: ((wsX2_total_r1 ++ wsX2_total_r2) ++ wsX20 ++ wsX00 ++ wsX10)
def wsX3_init_r1 : List Cond := [Cond.methodLink RX3 1 objectInit, Cond.instanceMethod objectInit, Cond.code objectInit ⟨#[0xb1]⟩ 1 none, Cond.classLink RX3 7 RX2, Cond.instantiable RX2 6, Cond.initialized RX2, Cond.fieldLink RX3 10 "PumpRoster" "village" "LPumpRoster$Village;", Cond.fieldLink RX3 16 "PumpRoster" "trial" "LPumpRoster$Village;", Cond.methodLink RX3 9 yX2_init, Cond.instanceMethod yX2_init, Cond.code yX2_init cX2_init 2 none, Cond.methodLink RX2 3 objectInit, Cond.classLink RX2 9 RX0, Cond.fieldLink RX2 11 "PumpRoster$Village" "houses" "[LPumpRoster$House;", Cond.classLink RX2 17 RX1, Cond.fieldLink RX2 19 "PumpRoster$Village" "pumps" "[LPumpRoster$Pump;", Cond.instantiable RX0 12, Cond.initialized RX0, Cond.instantiable RX1 14, Cond.initialized RX1, Cond.methodLink RX2 23 yX0_init, Cond.instanceMethod yX0_init, Cond.code yX0_init cX0_init 2 none, Cond.methodLink RX0 3 objectInit]
def wsX3_init_r2 : List Cond := [Cond.fieldLink RX0 9 "PumpRoster$House" "eggs" "I", Cond.fieldLink RX0 15 "PumpRoster$House" "number" "I", Cond.instanceMethod yX1_init, Cond.code yX1_init cX1_init 1 none, Cond.methodLink RX1 3 objectInit, Cond.fieldLink RX1 9 "PumpRoster$Pump" "keyHolder" "I", Cond.arrayClass .int, Cond.fieldLink RX1 15 "PumpRoster$Pump" "roster" "[I"]
def wsX3_init : List Cond := .code yX3_init cX3_init 1 none :: ((wsX3_init_r1 ++ wsX3_init_r2) ++ wsX20 ++ wsX30 ++ wsX00 ++ wsX10)
def wsX3_requireArgument : List Cond := .code yX3_requireArgument cX3_requireArgument 3 none :: ([.classLink RX3 178 "java/lang/IllegalArgumentException", .initialized "java/lang/IllegalArgumentException"] ++ (vx_atS RX3 182 "java/lang/IllegalArgumentException" ["java/lang/RuntimeException", "java/lang/Exception"]).filter goodWord)
def wsX3_addHouse : List Cond := .code yX3_addHouse cX3_addHouse 5 (some .int) :: ([.classLink RX3 27 "java/lang/IllegalStateException", .initialized "java/lang/IllegalStateException", .fieldLink RX3 10 "PumpRoster" "village" "LPumpRoster$Village;", .fieldLink RX3 23 "PumpRoster$Village" "houseCount" "I", .fieldLink RX3 34 "PumpRoster$Village" "houses" "[LPumpRoster$House;", .fieldLink RX3 38 "PumpRoster$House" "lodgers" "I", .fieldLink RX3 43 "PumpRoster$House" "hens" "I", .fieldLink RX3 46 "PumpRoster$House" "forgets" "I", .fieldLink RX3 49 "PumpRoster$House" "number" "I", .methodLink RX3 19 yX3_requireArgument, .static yX3_requireArgument, .initialized RX3, .code yX3_requireArgument cX3_requireArgument 3 none, .classLink RX3 178 "java/lang/IllegalArgumentException", .initialized "java/lang/IllegalArgumentException"] ++ wsX30 ++ wsX20 ++ wsX00 ++ (vx_atS RX3 31 "java/lang/IllegalStateException" ["java/lang/RuntimeException", "java/lang/Exception"]).filter goodWord ++ (vx_atS RX3 182 "java/lang/IllegalArgumentException" ["java/lang/RuntimeException", "java/lang/Exception"]).filter goodWord)
def wsX3_addPump : List Cond := .code yX3_addPump cX3_addPump 5 (some .int) :: ([.classLink RX3 27 "java/lang/IllegalStateException", .initialized "java/lang/IllegalStateException", .fieldLink RX3 10 "PumpRoster" "village" "LPumpRoster$Village;", .fieldLink RX3 52 "PumpRoster$Village" "pumpCount" "I", .fieldLink RX3 57 "PumpRoster$Village" "pumps" "[LPumpRoster$Pump;", .fieldLink RX3 61 "PumpRoster$Pump" "level" "I", .fieldLink RX3 66 "PumpRoster$Pump" "inflow" "I", .methodLink RX3 19 yX3_requireArgument, .static yX3_requireArgument, .initialized RX3, .code yX3_requireArgument cX3_requireArgument 3 none, .classLink RX3 178 "java/lang/IllegalArgumentException", .initialized "java/lang/IllegalArgumentException"] ++ wsX30 ++ wsX20 ++ wsX10 ++ (vx_atS RX3 31 "java/lang/IllegalStateException" ["java/lang/RuntimeException", "java/lang/Exception"]).filter goodWord ++ (vx_atS RX3 182 "java/lang/IllegalArgumentException" ["java/lang/RuntimeException", "java/lang/Exception"]).filter goodWord)
def wsX3_requireHouse : List Cond := .code yX3_requireHouse cX3_requireHouse 2 none :: ([.classLink RX3 183 "java/lang/IndexOutOfBoundsException", .initialized "java/lang/IndexOutOfBoundsException", .fieldLink RX3 10 "PumpRoster" "village" "LPumpRoster$Village;", .methodLink RX3 188 yX2_isHouse, .instanceMethod yX2_isHouse, .selects RX2 yX2_isHouse yX2_isHouse, .initialized RX2, .code yX2_isHouse cX2_isHouse 2 (some .boolean), .fieldLink RX2 27 "PumpRoster$Village" "houseCount" "I"] ++ wsX30 ++ wsX20 ++ (vx_atS RX3 187 "java/lang/IndexOutOfBoundsException" ["java/lang/RuntimeException", "java/lang/Exception"]).filter goodWord)
def wsX3_lodge : List Cond := .code yX3_lodge cX3_lodge 5 (some .int) :: ([.fieldLink RX3 10 "PumpRoster" "village" "LPumpRoster$Village;", .fieldLink RX3 34 "PumpRoster$Village" "houses" "[LPumpRoster$House;", .fieldLink RX3 38 "PumpRoster$House" "lodgers" "I", .methodLink RX3 69 yX3_requireHouse, .instanceMethod yX3_requireHouse, .selects RX3 yX3_requireHouse yX3_requireHouse, .initialized RX3, .code yX3_requireHouse cX3_requireHouse 2 none, .classLink RX3 183 "java/lang/IndexOutOfBoundsException", .initialized "java/lang/IndexOutOfBoundsException", .methodLink RX3 188 yX2_isHouse, .instanceMethod yX2_isHouse, .selects RX2 yX2_isHouse yX2_isHouse, .initialized RX2, .code yX2_isHouse cX2_isHouse 2 (some .boolean), .fieldLink RX2 27 "PumpRoster$Village" "houseCount" "I", .methodLink RX3 19 yX3_requireArgument, .static yX3_requireArgument, .code yX3_requireArgument cX3_requireArgument 3 none, .classLink RX3 178 "java/lang/IllegalArgumentException", .initialized "java/lang/IllegalArgumentException"] ++ wsX30 ++ wsX20 ++ wsX00 ++ (vx_atS RX3 187 "java/lang/IndexOutOfBoundsException" ["java/lang/RuntimeException", "java/lang/Exception"]).filter goodWord ++ (vx_atS RX3 182 "java/lang/IllegalArgumentException" ["java/lang/RuntimeException", "java/lang/Exception"]).filter goodWord)
def wsX3_requirePump : List Cond := .code yX3_requirePump cX3_requirePump 2 none :: ([.classLink RX3 183 "java/lang/IndexOutOfBoundsException", .initialized "java/lang/IndexOutOfBoundsException", .fieldLink RX3 10 "PumpRoster" "village" "LPumpRoster$Village;", .methodLink RX3 194 yX2_isPump, .instanceMethod yX2_isPump, .selects RX2 yX2_isPump yX2_isPump, .initialized RX2, .code yX2_isPump cX2_isPump 2 (some .boolean), .fieldLink RX2 31 "PumpRoster$Village" "pumpCount" "I"] ++ wsX30 ++ wsX20 ++ (vx_atS RX3 187 "java/lang/IndexOutOfBoundsException" ["java/lang/RuntimeException", "java/lang/Exception"]).filter goodWord)
def wsX3_prefer_r1 : List Cond := [Cond.fieldLink RX3 10 "PumpRoster" "village" "LPumpRoster$Village;", Cond.fieldLink RX3 34 "PumpRoster$Village" "houses" "[LPumpRoster$House;", Cond.fieldLink RX3 76 "PumpRoster$House" "firstPump" "I", Cond.methodLink RX3 69 yX3_requireHouse, Cond.instanceMethod yX3_requireHouse, Cond.selects RX3 yX3_requireHouse yX3_requireHouse, Cond.initialized RX3, Cond.code yX3_requireHouse cX3_requireHouse 2 none, Cond.classLink RX3 183 "java/lang/IndexOutOfBoundsException", Cond.initialized "java/lang/IndexOutOfBoundsException", Cond.methodLink RX3 188 yX2_isHouse, Cond.instanceMethod yX2_isHouse, Cond.selects RX2 yX2_isHouse yX2_isHouse, Cond.initialized RX2, Cond.code yX2_isHouse cX2_isHouse 2 (some .boolean), Cond.fieldLink RX2 27 "PumpRoster$Village" "houseCount" "I", Cond.methodLink RX3 73 yX3_requirePump, Cond.instanceMethod yX3_requirePump, Cond.selects RX3 yX3_requirePump yX3_requirePump, Cond.code yX3_requirePump cX3_requirePump 2 none, Cond.methodLink RX3 194 yX2_isPump, Cond.instanceMethod yX2_isPump, Cond.selects RX2 yX2_isPump yX2_isPump, Cond.code yX2_isPump cX2_isPump 2 (some .boolean)]
def wsX3_prefer_r2 : List Cond := [Cond.fieldLink RX2 31 "PumpRoster$Village" "pumpCount" "I"]
def wsX3_prefer : List Cond := .code yX3_prefer cX3_prefer 5 (some .int) :: ((wsX3_prefer_r1 ++ wsX3_prefer_r2) ++ wsX30 ++ wsX20 ++ wsX00 ++ (vx_atS RX3 187 "java/lang/IndexOutOfBoundsException" ["java/lang/RuntimeException", "java/lang/Exception"]).filter goodWord)
def wsX3_leave : List Cond := .code yX3_leave cX3_leave 5 (some .int) :: ([.fieldLink RX3 10 "PumpRoster" "village" "LPumpRoster$Village;", .fieldLink RX3 34 "PumpRoster$Village" "houses" "[LPumpRoster$House;", .fieldLink RX3 79 "PumpRoster$House" "daysAway" "I", .methodLink RX3 69 yX3_requireHouse, .instanceMethod yX3_requireHouse, .selects RX3 yX3_requireHouse yX3_requireHouse, .initialized RX3, .code yX3_requireHouse cX3_requireHouse 2 none, .classLink RX3 183 "java/lang/IndexOutOfBoundsException", .initialized "java/lang/IndexOutOfBoundsException", .methodLink RX3 188 yX2_isHouse, .instanceMethod yX2_isHouse, .selects RX2 yX2_isHouse yX2_isHouse, .initialized RX2, .code yX2_isHouse cX2_isHouse 2 (some .boolean), .fieldLink RX2 27 "PumpRoster$Village" "houseCount" "I", .methodLink RX3 19 yX3_requireArgument, .static yX3_requireArgument, .code yX3_requireArgument cX3_requireArgument 3 none, .classLink RX3 178 "java/lang/IllegalArgumentException", .initialized "java/lang/IllegalArgumentException"] ++ wsX30 ++ wsX20 ++ wsX00 ++ (vx_atS RX3 187 "java/lang/IndexOutOfBoundsException" ["java/lang/RuntimeException", "java/lang/Exception"]).filter goodWord ++ (vx_atS RX3 182 "java/lang/IllegalArgumentException" ["java/lang/RuntimeException", "java/lang/Exception"]).filter goodWord)
def wsX3_fine_r1 : List Cond := [Cond.fieldLink RX3 10 "PumpRoster" "village" "LPumpRoster$Village;", Cond.fieldLink RX3 34 "PumpRoster$Village" "houses" "[LPumpRoster$House;", Cond.methodLink RX3 69 yX3_requireHouse, Cond.instanceMethod yX3_requireHouse, Cond.selects RX3 yX3_requireHouse yX3_requireHouse, Cond.initialized RX3, Cond.code yX3_requireHouse cX3_requireHouse 2 none, Cond.classLink RX3 183 "java/lang/IndexOutOfBoundsException", Cond.initialized "java/lang/IndexOutOfBoundsException", Cond.methodLink RX3 188 yX2_isHouse, Cond.instanceMethod yX2_isHouse, Cond.selects RX2 yX2_isHouse yX2_isHouse, Cond.initialized RX2, Cond.code yX2_isHouse cX2_isHouse 2 (some .boolean), Cond.fieldLink RX2 27 "PumpRoster$Village" "houseCount" "I", Cond.methodLink RX3 19 yX3_requireArgument, Cond.static yX3_requireArgument, Cond.code yX3_requireArgument cX3_requireArgument 3 none, Cond.classLink RX3 178 "java/lang/IllegalArgumentException", Cond.initialized "java/lang/IllegalArgumentException", Cond.methodLink RX3 82 yX2_charge, Cond.instanceMethod yX2_charge, Cond.selects RX2 yX2_charge yX2_charge, Cond.code yX2_charge cX2_charge 5 (some .int)]
def wsX3_fine_r2 : List Cond := [Cond.fieldLink RX2 47 "PumpRoster$House" "finesTold" "I", Cond.fieldLink RX2 50 "PumpRoster$House" "eggs" "I", Cond.methodLink RX2 53 Lib.Math.min.name, Cond.static Lib.Math.min.name, Cond.initialized "java/lang/Math", Cond.code Lib.Math.min.name Lib.Math.min.code 2 (some .int), Cond.fieldLink RX2 34 "PumpRoster$Village" "chest" "I", Cond.fieldLink RX2 59 "PumpRoster$House" "marks" "I", Cond.fieldLink RX2 31 "PumpRoster$Village" "pumpCount" "I", Cond.fieldLink RX2 19 "PumpRoster$Village" "pumps" "[LPumpRoster$Pump;", Cond.fieldLink RX2 62 "PumpRoster$House" "number" "I", Cond.methodLink RX2 65 yX1_placeOf, Cond.instanceMethod yX1_placeOf, Cond.selects RX1 yX1_placeOf yX1_placeOf, Cond.initialized RX1, Cond.code yX1_placeOf cX1_placeOf 3 (some .int), Cond.fieldLink RX1 41 "PumpRoster$Pump" "rosterSize" "I", Cond.fieldLink RX1 15 "PumpRoster$Pump" "roster" "[I", Cond.methodLink RX2 69 yX1_strikeOff, Cond.instanceMethod yX1_strikeOff, Cond.selects RX1 yX1_strikeOff yX1_strikeOff, Cond.code yX1_strikeOff cX1_strikeOff 3 none, Cond.fieldLink RX1 44 "PumpRoster$Pump" "turn" "I"]
def wsX3_fine : List Cond := .code yX3_fine cX3_fine 3 (some .int) :: ((wsX3_fine_r1 ++ wsX3_fine_r2) ++ wsX30 ++ wsX20 ++ wsX00 ++ wsX10 ++ (vx_atS RX3 187 "java/lang/IndexOutOfBoundsException" ["java/lang/RuntimeException", "java/lang/Exception"]).filter goodWord ++ (vx_atS RX3 182 "java/lang/IllegalArgumentException" ["java/lang/RuntimeException", "java/lang/Exception"]).filter goodWord)
def wsX3_enrol_r1 : List Cond := [Cond.classLink RX3 27 "java/lang/IllegalStateException", Cond.initialized "java/lang/IllegalStateException", Cond.fieldLink RX3 10 "PumpRoster" "village" "LPumpRoster$Village;", Cond.fieldLink RX3 57 "PumpRoster$Village" "pumps" "[LPumpRoster$Pump;", Cond.fieldLink RX3 34 "PumpRoster$Village" "houses" "[LPumpRoster$House;", Cond.fieldLink RX3 92 "PumpRoster$House" "marks" "I", Cond.fieldLink RX3 100 "PumpRoster$Pump" "rosterSize" "I", Cond.methodLink RX3 73 yX3_requirePump, Cond.instanceMethod yX3_requirePump, Cond.selects RX3 yX3_requirePump yX3_requirePump, Cond.initialized RX3, Cond.code yX3_requirePump cX3_requirePump 2 none, Cond.classLink RX3 183 "java/lang/IndexOutOfBoundsException", Cond.initialized "java/lang/IndexOutOfBoundsException", Cond.methodLink RX3 194 yX2_isPump, Cond.instanceMethod yX2_isPump, Cond.selects RX2 yX2_isPump yX2_isPump, Cond.initialized RX2, Cond.code yX2_isPump cX2_isPump 2 (some .boolean), Cond.fieldLink RX2 31 "PumpRoster$Village" "pumpCount" "I", Cond.methodLink RX3 69 yX3_requireHouse, Cond.instanceMethod yX3_requireHouse, Cond.selects RX3 yX3_requireHouse yX3_requireHouse, Cond.code yX3_requireHouse cX3_requireHouse 2 none]
def wsX3_enrol_r2 : List Cond := [Cond.methodLink RX3 188 yX2_isHouse, Cond.instanceMethod yX2_isHouse, Cond.selects RX2 yX2_isHouse yX2_isHouse, Cond.code yX2_isHouse cX2_isHouse 2 (some .boolean), Cond.fieldLink RX2 27 "PumpRoster$Village" "houseCount" "I", Cond.methodLink RX3 86 yX1_placeOf, Cond.instanceMethod yX1_placeOf, Cond.selects RX1 yX1_placeOf yX1_placeOf, Cond.initialized RX1, Cond.code yX1_placeOf cX1_placeOf 3 (some .int), Cond.fieldLink RX1 41 "PumpRoster$Pump" "rosterSize" "I", Cond.fieldLink RX1 15 "PumpRoster$Pump" "roster" "[I", Cond.methodLink RX3 97 yX1_append, Cond.instanceMethod yX1_append, Cond.selects RX1 yX1_append yX1_append, Cond.code yX1_append cX1_append 2 none]
def wsX3_enrol : List Cond := .code yX3_enrol cX3_enrol 4 (some .int) :: ((wsX3_enrol_r1 ++ wsX3_enrol_r2) ++ wsX30 ++ wsX20 ++ wsX00 ++ wsX10 ++ (vx_atS RX3 31 "java/lang/IllegalStateException" ["java/lang/RuntimeException", "java/lang/Exception"]).filter goodWord ++ (vx_atS RX3 187 "java/lang/IndexOutOfBoundsException" ["java/lang/RuntimeException", "java/lang/Exception"]).filter goodWord)
def wsX3_requirePlace : List Cond := .code yX3_requirePlace cX3_requirePlace 3 none :: ([.classLink RX3 183 "java/lang/IndexOutOfBoundsException", .initialized "java/lang/IndexOutOfBoundsException", .fieldLink RX3 10 "PumpRoster" "village" "LPumpRoster$Village;", .fieldLink RX3 57 "PumpRoster$Village" "pumps" "[LPumpRoster$Pump;", .fieldLink RX3 100 "PumpRoster$Pump" "rosterSize" "I", .methodLink RX3 73 yX3_requirePump, .instanceMethod yX3_requirePump, .selects RX3 yX3_requirePump yX3_requirePump, .initialized RX3, .code yX3_requirePump cX3_requirePump 2 none, .methodLink RX3 194 yX2_isPump, .instanceMethod yX2_isPump, .selects RX2 yX2_isPump yX2_isPump, .initialized RX2, .code yX2_isPump cX2_isPump 2 (some .boolean), .fieldLink RX2 31 "PumpRoster$Village" "pumpCount" "I"] ++ wsX30 ++ wsX20 ++ wsX10 ++ (vx_atS RX3 187 "java/lang/IndexOutOfBoundsException" ["java/lang/RuntimeException", "java/lang/Exception"]).filter goodWord)
def wsX3_roster_r1 : List Cond := [Cond.fieldLink RX3 10 "PumpRoster" "village" "LPumpRoster$Village;", Cond.fieldLink RX3 57 "PumpRoster$Village" "pumps" "[LPumpRoster$Pump;", Cond.methodLink RX3 103 yX3_requirePlace, Cond.instanceMethod yX3_requirePlace, Cond.selects RX3 yX3_requirePlace yX3_requirePlace, Cond.initialized RX3, Cond.code yX3_requirePlace cX3_requirePlace 3 none, Cond.classLink RX3 183 "java/lang/IndexOutOfBoundsException", Cond.initialized "java/lang/IndexOutOfBoundsException", Cond.fieldLink RX3 100 "PumpRoster$Pump" "rosterSize" "I", Cond.methodLink RX3 73 yX3_requirePump, Cond.instanceMethod yX3_requirePump, Cond.selects RX3 yX3_requirePump yX3_requirePump, Cond.code yX3_requirePump cX3_requirePump 2 none, Cond.methodLink RX3 194 yX2_isPump, Cond.instanceMethod yX2_isPump, Cond.selects RX2 yX2_isPump yX2_isPump, Cond.initialized RX2, Cond.code yX2_isPump cX2_isPump 2 (some .boolean), Cond.fieldLink RX2 31 "PumpRoster$Village" "pumpCount" "I", Cond.methodLink RX3 114 yX1_houseAt, Cond.instanceMethod yX1_houseAt, Cond.selects RX1 yX1_houseAt yX1_houseAt, Cond.initialized RX1]
def wsX3_roster_r2 : List Cond := [Cond.code yX1_houseAt cX1_houseAt 2 (some .int), Cond.fieldLink RX1 41 "PumpRoster$Pump" "rosterSize" "I", Cond.fieldLink RX1 15 "PumpRoster$Pump" "roster" "[I"]
def wsX3_roster : List Cond := .code yX3_roster cX3_roster 3 (some .int) :: ((wsX3_roster_r1 ++ wsX3_roster_r2) ++ wsX30 ++ wsX20 ++ wsX10 ++ (vx_atS RX3 187 "java/lang/IndexOutOfBoundsException" ["java/lang/RuntimeException", "java/lang/Exception"]).filter goodWord)
def wsX3_ahead_r1 : List Cond := [Cond.fieldLink RX3 10 "PumpRoster" "village" "LPumpRoster$Village;", Cond.fieldLink RX3 57 "PumpRoster$Village" "pumps" "[LPumpRoster$Pump;", Cond.fieldLink RX3 111 "PumpRoster$Pump" "turn" "I", Cond.fieldLink RX3 100 "PumpRoster$Pump" "rosterSize" "I", Cond.methodLink RX3 73 yX3_requirePump, Cond.instanceMethod yX3_requirePump, Cond.selects RX3 yX3_requirePump yX3_requirePump, Cond.initialized RX3, Cond.code yX3_requirePump cX3_requirePump 2 none, Cond.classLink RX3 183 "java/lang/IndexOutOfBoundsException", Cond.initialized "java/lang/IndexOutOfBoundsException", Cond.methodLink RX3 194 yX2_isPump, Cond.instanceMethod yX2_isPump, Cond.selects RX2 yX2_isPump yX2_isPump, Cond.initialized RX2, Cond.code yX2_isPump cX2_isPump 2 (some .boolean), Cond.fieldLink RX2 31 "PumpRoster$Village" "pumpCount" "I", Cond.methodLink RX3 69 yX3_requireHouse, Cond.instanceMethod yX3_requireHouse, Cond.selects RX3 yX3_requireHouse yX3_requireHouse, Cond.code yX3_requireHouse cX3_requireHouse 2 none, Cond.methodLink RX3 188 yX2_isHouse, Cond.instanceMethod yX2_isHouse, Cond.selects RX2 yX2_isHouse yX2_isHouse]
def wsX3_ahead_r2 : List Cond := [Cond.code yX2_isHouse cX2_isHouse 2 (some .boolean), Cond.fieldLink RX2 27 "PumpRoster$Village" "houseCount" "I", Cond.methodLink RX3 86 yX1_placeOf, Cond.instanceMethod yX1_placeOf, Cond.selects RX1 yX1_placeOf yX1_placeOf, Cond.initialized RX1, Cond.code yX1_placeOf cX1_placeOf 3 (some .int), Cond.fieldLink RX1 41 "PumpRoster$Pump" "rosterSize" "I", Cond.fieldLink RX1 15 "PumpRoster$Pump" "roster" "[I"]
def wsX3_ahead : List Cond := .code yX3_ahead cX3_ahead 5 (some .int) :: ((wsX3_ahead_r1 ++ wsX3_ahead_r2) ++ wsX30 ++ wsX20 ++ wsX10 ++ (vx_atS RX3 187 "java/lang/IndexOutOfBoundsException" ["java/lang/RuntimeException", "java/lang/Exception"]).filter goodWord)
def wsX3_requireIndex : List Cond := .code yX3_requireIndex cX3_requireIndex 2 none :: ([.classLink RX3 183 "java/lang/IndexOutOfBoundsException", .initialized "java/lang/IndexOutOfBoundsException"] ++ (vx_atS RX3 187 "java/lang/IndexOutOfBoundsException" ["java/lang/RuntimeException", "java/lang/Exception"]).filter goodWord)
def wsX3_house_r1 : List Cond := [Cond.fieldLink RX3 10 "PumpRoster" "village" "LPumpRoster$Village;", Cond.fieldLink RX3 34 "PumpRoster$Village" "houses" "[LPumpRoster$House;", Cond.methodLink RX3 69 yX3_requireHouse, Cond.instanceMethod yX3_requireHouse, Cond.selects RX3 yX3_requireHouse yX3_requireHouse, Cond.initialized RX3, Cond.code yX3_requireHouse cX3_requireHouse 2 none, Cond.classLink RX3 183 "java/lang/IndexOutOfBoundsException", Cond.initialized "java/lang/IndexOutOfBoundsException", Cond.methodLink RX3 188 yX2_isHouse, Cond.instanceMethod yX2_isHouse, Cond.selects RX2 yX2_isHouse yX2_isHouse, Cond.initialized RX2, Cond.code yX2_isHouse cX2_isHouse 2 (some .boolean), Cond.fieldLink RX2 27 "PumpRoster$Village" "houseCount" "I", Cond.methodLink RX3 117 yX3_requireIndex, Cond.static yX3_requireIndex, Cond.code yX3_requireIndex cX3_requireIndex 2 none, Cond.methodLink RX3 120 yX2_houseFact, Cond.instanceMethod yX2_houseFact, Cond.selects RX2 yX2_houseFact yX2_houseFact, Cond.code yX2_houseFact cX2_houseFact 3 (some .int), Cond.fieldLink RX2 206 "PumpRoster$House" "lodgers" "I", Cond.fieldLink RX2 101 "PumpRoster$House" "hens" "I"]
def wsX3_house_r2 : List Cond := [Cond.fieldLink RX2 50 "PumpRoster$House" "eggs" "I", Cond.fieldLink RX2 59 "PumpRoster$House" "marks" "I", Cond.fieldLink RX2 203 "PumpRoster$House" "daysAway" "I", Cond.fieldLink RX2 160 "PumpRoster$House" "firstPump" "I", Cond.fieldLink RX2 129 "PumpRoster$House" "duties" "I", Cond.fieldLink RX2 170 "PumpRoster$House" "thirst" "I", Cond.fieldLink RX2 144 "PumpRoster$House" "keysToHandOn" "I", Cond.fieldLink RX2 47 "PumpRoster$House" "finesTold" "I", Cond.fieldLink RX2 62 "PumpRoster$House" "number" "I", Cond.methodLink RX2 209 yX2_keysHeldBy, Cond.instanceMethod yX2_keysHeldBy, Cond.selects RX2 yX2_keysHeldBy yX2_keysHeldBy, Cond.code yX2_keysHeldBy cX2_keysHeldBy 4 (some .int), Cond.fieldLink RX2 31 "PumpRoster$Village" "pumpCount" "I", Cond.fieldLink RX2 19 "PumpRoster$Village" "pumps" "[LPumpRoster$Pump;", Cond.fieldLink RX2 123 "PumpRoster$Pump" "keyHolder" "I"]
def wsX3_house : List Cond := .code yX3_house cX3_house 3 (some .int) :: ((wsX3_house_r1 ++ wsX3_house_r2) ++ wsX30 ++ wsX20 ++ wsX00 ++ wsX10 ++ (vx_atS RX3 187 "java/lang/IndexOutOfBoundsException" ["java/lang/RuntimeException", "java/lang/Exception"]).filter goodWord)
def wsX3_pump_r1 : List Cond := [Cond.fieldLink RX3 10 "PumpRoster" "village" "LPumpRoster$Village;", Cond.fieldLink RX3 57 "PumpRoster$Village" "pumps" "[LPumpRoster$Pump;", Cond.methodLink RX3 73 yX3_requirePump, Cond.instanceMethod yX3_requirePump, Cond.selects RX3 yX3_requirePump yX3_requirePump, Cond.initialized RX3, Cond.code yX3_requirePump cX3_requirePump 2 none, Cond.classLink RX3 183 "java/lang/IndexOutOfBoundsException", Cond.initialized "java/lang/IndexOutOfBoundsException", Cond.methodLink RX3 194 yX2_isPump, Cond.instanceMethod yX2_isPump, Cond.selects RX2 yX2_isPump yX2_isPump, Cond.initialized RX2, Cond.code yX2_isPump cX2_isPump 2 (some .boolean), Cond.fieldLink RX2 31 "PumpRoster$Village" "pumpCount" "I", Cond.methodLink RX3 117 yX3_requireIndex, Cond.static yX3_requireIndex, Cond.code yX3_requireIndex cX3_requireIndex 2 none, Cond.methodLink RX3 123 yX1_fact, Cond.instanceMethod yX1_fact, Cond.selects RX1 yX1_fact yX1_fact, Cond.initialized RX1, Cond.code yX1_fact cX1_fact 2 (some .int), Cond.fieldLink RX1 19 "PumpRoster$Pump" "level" "I"]
def wsX3_pump_r2 : List Cond := [Cond.fieldLink RX1 22 "PumpRoster$Pump" "inflow" "I", Cond.fieldLink RX1 25 "PumpRoster$Pump" "wear" "I", Cond.fieldLink RX1 28 "PumpRoster$Pump" "broken" "Z", Cond.fieldLink RX1 32 "PumpRoster$Pump" "daysToWait" "I", Cond.fieldLink RX1 9 "PumpRoster$Pump" "keyHolder" "I", Cond.fieldLink RX1 41 "PumpRoster$Pump" "rosterSize" "I", Cond.fieldLink RX1 44 "PumpRoster$Pump" "turn" "I", Cond.fieldLink RX1 47 "PumpRoster$Pump" "daysOpen" "I", Cond.fieldLink RX1 50 "PumpRoster$Pump" "drawn" "I", Cond.fieldLink RX1 53 "PumpRoster$Pump" "timesMended" "I"]
def wsX3_pump : List Cond := .code yX3_pump cX3_pump 3 (some .int) :: ((wsX3_pump_r1 ++ wsX3_pump_r2) ++ wsX30 ++ wsX20 ++ wsX10 ++ (vx_atS RX3 187 "java/lang/IndexOutOfBoundsException" ["java/lang/RuntimeException", "java/lang/Exception"]).filter goodWord)
def wsX3_pass_r1 : List Cond := [Cond.fieldLink RX3 10 "PumpRoster" "village" "LPumpRoster$Village;", Cond.methodLink RX3 19 yX3_requireArgument, Cond.static yX3_requireArgument, Cond.initialized RX3, Cond.code yX3_requireArgument cX3_requireArgument 3 none, Cond.classLink RX3 178 "java/lang/IllegalArgumentException", Cond.initialized "java/lang/IllegalArgumentException", Cond.methodLink RX3 126 yX2_runDays, Cond.instanceMethod yX2_runDays, Cond.selects RX2 yX2_runDays yX2_runDays, Cond.initialized RX2, Cond.code yX2_runDays cX2_runDays 4 (some .int), Cond.methodLink RX2 72 yX2_allDrawn, Cond.instanceMethod yX2_allDrawn, Cond.selects RX2 yX2_allDrawn yX2_allDrawn, Cond.code yX2_allDrawn cX2_allDrawn 3 (some .int), Cond.fieldLink RX2 31 "PumpRoster$Village" "pumpCount" "I", Cond.fieldLink RX2 19 "PumpRoster$Village" "pumps" "[LPumpRoster$Pump;", Cond.fieldLink RX2 179 "PumpRoster$Pump" "drawn" "I", Cond.methodLink RX2 76 yX2_layEggs, Cond.instanceMethod yX2_layEggs, Cond.selects RX2 yX2_layEggs yX2_layEggs, Cond.code yX2_layEggs cX2_layEggs 2 none, Cond.fieldLink RX2 27 "PumpRoster$Village" "houseCount" "I"]
def wsX3_pass_r2 : List Cond := [Cond.fieldLink RX2 11 "PumpRoster$Village" "houses" "[LPumpRoster$House;", Cond.fieldLink RX2 50 "PumpRoster$House" "eggs" "I", Cond.fieldLink RX2 101 "PumpRoster$House" "hens" "I", Cond.methodLink RX2 97 yX0_isThere, Cond.instanceMethod yX0_isThere, Cond.selects RX0 yX0_isThere yX0_isThere, Cond.initialized RX0, Cond.code yX0_isThere cX0_isThere 1 (some .boolean), Cond.fieldLink RX0 30 "PumpRoster$House" "daysAway" "I", Cond.methodLink RX2 79 yX2_passKeys, Cond.instanceMethod yX2_passKeys, Cond.selects RX2 yX2_passKeys yX2_passKeys, Cond.code yX2_passKeys cX2_passKeys 4 none, Cond.fieldLink RX2 104 "PumpRoster$Pump" "open" "Z", Cond.fieldLink RX2 108 "PumpRoster$Pump" "brokeToday" "Z", Cond.fieldLink RX2 123 "PumpRoster$Pump" "keyHolder" "I", Cond.fieldLink RX2 126 "PumpRoster$Pump" "daysOpen" "I", Cond.fieldLink RX2 129 "PumpRoster$House" "duties" "I", Cond.methodLink RX2 111 yX2_takeTurn, Cond.instanceMethod yX2_takeTurn, Cond.selects RX2 yX2_takeTurn yX2_takeTurn, Cond.code yX2_takeTurn cX2_takeTurn 5 (some .int), Cond.fieldLink RX2 132 "PumpRoster$Pump" "turn" "I", Cond.fieldLink RX2 135 "PumpRoster$Pump" "rosterSize" "I"]
def wsX3_pass_r3 : List Cond := [Cond.methodLink RX2 138 yX1_houseAt, Cond.instanceMethod yX1_houseAt, Cond.selects RX1 yX1_houseAt yX1_houseAt, Cond.initialized RX1, Cond.code yX1_houseAt cX1_houseAt 2 (some .int), Cond.fieldLink RX1 41 "PumpRoster$Pump" "rosterSize" "I", Cond.fieldLink RX1 15 "PumpRoster$Pump" "roster" "[I", Cond.methodLink RX2 141 yX1_placeBehind, Cond.instanceMethod yX1_placeBehind, Cond.selects RX1 yX1_placeBehind yX1_placeBehind, Cond.code yX1_placeBehind cX1_placeBehind 2 (some .int), Cond.methodLink RX2 115 yX2_isHouse, Cond.instanceMethod yX2_isHouse, Cond.selects RX2 yX2_isHouse yX2_isHouse, Cond.code yX2_isHouse cX2_isHouse 2 (some .boolean), Cond.methodLink RX2 119 yX2_handOnKey, Cond.instanceMethod yX2_handOnKey, Cond.selects RX2 yX2_handOnKey yX2_handOnKey, Cond.code yX2_handOnKey cX2_handOnKey 4 (some .boolean), Cond.fieldLink RX2 144 "PumpRoster$House" "keysToHandOn" "I", Cond.methodLink RX2 147 yX0_forgetsThisKey, Cond.instanceMethod yX0_forgetsThisKey, Cond.selects RX0 yX0_forgetsThisKey yX0_forgetsThisKey, Cond.code yX0_forgetsThisKey cX0_forgetsThisKey 1 (some .boolean)]
def wsX3_pass_r4 : List Cond := [Cond.fieldLink RX0 24 "PumpRoster$House" "forgets" "I", Cond.fieldLink RX0 42 "PumpRoster$House" "keysToHandOn" "I", Cond.methodLink RX2 150 yX2_charge, Cond.instanceMethod yX2_charge, Cond.selects RX2 yX2_charge yX2_charge, Cond.code yX2_charge cX2_charge 5 (some .int), Cond.fieldLink RX2 47 "PumpRoster$House" "finesTold" "I", Cond.methodLink RX2 53 Lib.Math.min.name, Cond.static Lib.Math.min.name, Cond.initialized "java/lang/Math", Cond.code Lib.Math.min.name Lib.Math.min.code 2 (some .int), Cond.fieldLink RX2 34 "PumpRoster$Village" "chest" "I", Cond.fieldLink RX2 59 "PumpRoster$House" "marks" "I", Cond.fieldLink RX2 62 "PumpRoster$House" "number" "I", Cond.methodLink RX2 65 yX1_placeOf, Cond.instanceMethod yX1_placeOf, Cond.selects RX1 yX1_placeOf yX1_placeOf, Cond.code yX1_placeOf cX1_placeOf 3 (some .int), Cond.methodLink RX2 69 yX1_strikeOff, Cond.instanceMethod yX1_strikeOff, Cond.selects RX1 yX1_strikeOff yX1_strikeOff, Cond.code yX1_strikeOff cX1_strikeOff 3 none, Cond.fieldLink RX1 44 "PumpRoster$Pump" "turn" "I", Cond.methodLink RX2 82 yX2_drawWater]
def wsX3_pass_r5 : List Cond := [Cond.instanceMethod yX2_drawWater, Cond.selects RX2 yX2_drawWater yX2_drawWater, Cond.code yX2_drawWater cX2_drawWater 2 none, Cond.methodLink RX2 154 yX2_drawAround, Cond.instanceMethod yX2_drawAround, Cond.selects RX2 yX2_drawAround yX2_drawAround, Cond.code yX2_drawAround cX2_drawAround 5 none, Cond.fieldLink RX2 160 "PumpRoster$House" "firstPump" "I", Cond.fieldLink RX2 170 "PumpRoster$House" "thirst" "I", Cond.methodLink RX2 157 yX0_dailyNeed, Cond.instanceMethod yX0_dailyNeed, Cond.selects RX0 yX0_dailyNeed yX0_dailyNeed, Cond.code yX0_dailyNeed cX0_dailyNeed 1 (some .int), Cond.fieldLink RX0 18 "PumpRoster$House" "lodgers" "I", Cond.methodLink RX2 163 yX2_isPump, Cond.instanceMethod yX2_isPump, Cond.selects RX2 yX2_isPump yX2_isPump, Cond.code yX2_isPump cX2_isPump 2 (some .boolean), Cond.methodLink RX2 166 yX2_drawFrom, Cond.instanceMethod yX2_drawFrom, Cond.selects RX2 yX2_drawFrom yX2_drawFrom, Cond.code yX2_drawFrom cX2_drawFrom 5 (some .int), Cond.fieldLink RX2 173 "PumpRoster$Pump" "broken" "Z", Cond.fieldLink RX2 176 "PumpRoster$Pump" "level" "I"]
def wsX3_pass_r6 : List Cond := [Cond.fieldLink RX2 182 "PumpRoster$Pump" "wear" "I", Cond.methodLink RX2 185 yX1_breakHandle, Cond.instanceMethod yX1_breakHandle, Cond.selects RX1 yX1_breakHandle yX1_breakHandle, Cond.code yX1_breakHandle cX1_breakHandle 1 none, Cond.fieldLink RX1 28 "PumpRoster$Pump" "broken" "Z", Cond.fieldLink RX1 56 "PumpRoster$Pump" "brokeToday" "Z", Cond.fieldLink RX1 32 "PumpRoster$Pump" "daysToWait" "I", Cond.methodLink RX2 85 yX2_mendHandles, Cond.instanceMethod yX2_mendHandles, Cond.selects RX2 yX2_mendHandles yX2_mendHandles, Cond.code yX2_mendHandles cX2_mendHandles 2 none, Cond.methodLink RX2 188 yX2_workOnHandle, Cond.instanceMethod yX2_workOnHandle, Cond.selects RX2 yX2_workOnHandle yX2_workOnHandle, Cond.code yX2_workOnHandle cX2_workOnHandle 2 none, Cond.fieldLink RX2 191 "PumpRoster$Pump" "daysToWait" "I", Cond.methodLink RX2 194 yX1_mendHandle, Cond.instanceMethod yX1_mendHandle, Cond.selects RX1 yX1_mendHandle yX1_mendHandle, Cond.code yX1_mendHandle cX1_mendHandle 1 none, Cond.fieldLink RX1 25 "PumpRoster$Pump" "wear" "I", Cond.fieldLink RX1 53 "PumpRoster$Pump" "timesMended" "I", Cond.methodLink RX2 88 yX2_fillWells]
def wsX3_pass_r7 : List Cond := [Cond.instanceMethod yX2_fillWells, Cond.selects RX2 yX2_fillWells yX2_fillWells, Cond.code yX2_fillWells cX2_fillWells 2 none, Cond.fieldLink RX2 197 "PumpRoster$Pump" "inflow" "I", Cond.methodLink RX2 91 yX2_shareChest, Cond.instanceMethod yX2_shareChest, Cond.selects RX2 yX2_shareChest yX2_shareChest, Cond.code yX2_shareChest cX2_shareChest 4 none, Cond.fieldLink RX2 37 "PumpRoster$Village" "day" "I", Cond.methodLink RX2 200 yX2_unmarkedHouses, Cond.instanceMethod yX2_unmarkedHouses, Cond.selects RX2 yX2_unmarkedHouses yX2_unmarkedHouses, Cond.code yX2_unmarkedHouses cX2_unmarkedHouses 3 (some .int), Cond.methodLink RX2 94 yX2_endDay, Cond.instanceMethod yX2_endDay, Cond.selects RX2 yX2_endDay yX2_endDay, Cond.code yX2_endDay cX2_endDay 2 none, Cond.fieldLink RX2 203 "PumpRoster$House" "daysAway" "I"]
def wsX3_pass : List Cond := .code yX3_pass cX3_pass 2 (some .int) :: ((wsX3_pass_r1 ++ (wsX3_pass_r2 ++ (wsX3_pass_r3 ++ (wsX3_pass_r4 ++ (wsX3_pass_r5 ++ (wsX3_pass_r6 ++ wsX3_pass_r7)))))) ++ wsX30 ++ wsX20 ++ wsX10 ++ wsX00 ++ (vx_atS RX3 182 "java/lang/IllegalArgumentException" ["java/lang/RuntimeException", "java/lang/Exception"]).filter goodWord)
def wsX3_count_r1 : List Cond := [Cond.fieldLink RX3 10 "PumpRoster" "village" "LPumpRoster$Village;", Cond.methodLink RX3 117 yX3_requireIndex, Cond.static yX3_requireIndex, Cond.initialized RX3, Cond.code yX3_requireIndex cX3_requireIndex 2 none, Cond.classLink RX3 183 "java/lang/IndexOutOfBoundsException", Cond.initialized "java/lang/IndexOutOfBoundsException", Cond.methodLink RX3 129 yX2_total, Cond.instanceMethod yX2_total, Cond.selects RX2 yX2_total yX2_total, Cond.initialized RX2, Cond.code yX2_total cX2_total 2 (some .int), Cond.fieldLink RX2 37 "PumpRoster$Village" "day" "I", Cond.fieldLink RX2 27 "PumpRoster$Village" "houseCount" "I", Cond.fieldLink RX2 31 "PumpRoster$Village" "pumpCount" "I", Cond.fieldLink RX2 34 "PumpRoster$Village" "chest" "I", Cond.methodLink RX2 212 yX2_allEggs, Cond.instanceMethod yX2_allEggs, Cond.selects RX2 yX2_allEggs yX2_allEggs, Cond.code yX2_allEggs cX2_allEggs 3 (some .int), Cond.fieldLink RX2 11 "PumpRoster$Village" "houses" "[LPumpRoster$House;", Cond.fieldLink RX2 50 "PumpRoster$House" "eggs" "I", Cond.methodLink RX2 215 yX2_housesAway, Cond.instanceMethod yX2_housesAway]
def wsX3_count_r2 : List Cond := [Cond.selects RX2 yX2_housesAway yX2_housesAway, Cond.code yX2_housesAway cX2_housesAway 3 (some .int), Cond.methodLink RX2 97 yX0_isThere, Cond.instanceMethod yX0_isThere, Cond.selects RX0 yX0_isThere yX0_isThere, Cond.initialized RX0, Cond.code yX0_isThere cX0_isThere 1 (some .boolean), Cond.fieldLink RX0 30 "PumpRoster$House" "daysAway" "I", Cond.methodLink RX2 218 yX2_allMarks, Cond.instanceMethod yX2_allMarks, Cond.selects RX2 yX2_allMarks yX2_allMarks, Cond.code yX2_allMarks cX2_allMarks 3 (some .int), Cond.fieldLink RX2 59 "PumpRoster$House" "marks" "I", Cond.methodLink RX2 221 yX2_allThirst, Cond.instanceMethod yX2_allThirst, Cond.selects RX2 yX2_allThirst yX2_allThirst, Cond.code yX2_allThirst cX2_allThirst 3 (some .int), Cond.fieldLink RX2 170 "PumpRoster$House" "thirst" "I", Cond.methodLink RX2 224 yX2_allDailyNeed, Cond.instanceMethod yX2_allDailyNeed, Cond.selects RX2 yX2_allDailyNeed yX2_allDailyNeed, Cond.code yX2_allDailyNeed cX2_allDailyNeed 3 (some .int), Cond.methodLink RX2 157 yX0_dailyNeed, Cond.instanceMethod yX0_dailyNeed]
def wsX3_count_r3 : List Cond := [Cond.selects RX0 yX0_dailyNeed yX0_dailyNeed, Cond.code yX0_dailyNeed cX0_dailyNeed 1 (some .int), Cond.fieldLink RX0 18 "PumpRoster$House" "lodgers" "I", Cond.methodLink RX2 227 yX2_brokenHandles, Cond.instanceMethod yX2_brokenHandles, Cond.selects RX2 yX2_brokenHandles yX2_brokenHandles, Cond.code yX2_brokenHandles cX2_brokenHandles 3 (some .int), Cond.fieldLink RX2 19 "PumpRoster$Village" "pumps" "[LPumpRoster$Pump;", Cond.fieldLink RX2 173 "PumpRoster$Pump" "broken" "Z"]
def wsX3_count : List Cond := .code yX3_count cX3_count 2 (some .int) :: ((wsX3_count_r1 ++ (wsX3_count_r2 ++ wsX3_count_r3)) ++ wsX30 ++ wsX20 ++ wsX00 ++ wsX10 ++ (vx_atS RX3 187 "java/lang/IndexOutOfBoundsException" ["java/lang/RuntimeException", "java/lang/Exception"]).filter goodWord)
def wsX3_foresee_r1 : List Cond := [Cond.fieldLink RX3 16 "PumpRoster" "trial" "LPumpRoster$Village;", Cond.fieldLink RX3 10 "PumpRoster" "village" "LPumpRoster$Village;", Cond.fieldLink RX3 140 "PumpRoster$Village" "chest" "I", Cond.methodLink RX3 19 yX3_requireArgument, Cond.static yX3_requireArgument, Cond.initialized RX3, Cond.code yX3_requireArgument cX3_requireArgument 3 none, Cond.classLink RX3 178 "java/lang/IllegalArgumentException", Cond.initialized "java/lang/IllegalArgumentException", Cond.methodLink RX3 117 yX3_requireIndex, Cond.static yX3_requireIndex, Cond.code yX3_requireIndex cX3_requireIndex 2 none, Cond.classLink RX3 183 "java/lang/IndexOutOfBoundsException", Cond.initialized "java/lang/IndexOutOfBoundsException", Cond.methodLink RX3 132 yX2_copyFrom, Cond.instanceMethod yX2_copyFrom, Cond.selects RX2 yX2_copyFrom yX2_copyFrom, Cond.initialized RX2, Cond.code yX2_copyFrom cX2_copyFrom 3 none, Cond.fieldLink RX2 27 "PumpRoster$Village" "houseCount" "I", Cond.fieldLink RX2 31 "PumpRoster$Village" "pumpCount" "I", Cond.fieldLink RX2 34 "PumpRoster$Village" "chest" "I", Cond.fieldLink RX2 37 "PumpRoster$Village" "day" "I", Cond.fieldLink RX2 11 "PumpRoster$Village" "houses" "[LPumpRoster$House;"]
def wsX3_foresee_r2 : List Cond := [Cond.fieldLink RX2 19 "PumpRoster$Village" "pumps" "[LPumpRoster$Pump;", Cond.methodLink RX2 40 yX0_copyFrom, Cond.instanceMethod yX0_copyFrom, Cond.selects RX0 yX0_copyFrom yX0_copyFrom, Cond.initialized RX0, Cond.code yX0_copyFrom cX0_copyFrom 2 none, Cond.fieldLink RX0 18 "PumpRoster$House" "lodgers" "I", Cond.fieldLink RX0 21 "PumpRoster$House" "hens" "I", Cond.fieldLink RX0 24 "PumpRoster$House" "forgets" "I", Cond.fieldLink RX0 9 "PumpRoster$House" "eggs" "I", Cond.fieldLink RX0 27 "PumpRoster$House" "marks" "I", Cond.fieldLink RX0 30 "PumpRoster$House" "daysAway" "I", Cond.fieldLink RX0 33 "PumpRoster$House" "firstPump" "I", Cond.fieldLink RX0 36 "PumpRoster$House" "duties" "I", Cond.fieldLink RX0 39 "PumpRoster$House" "thirst" "I", Cond.fieldLink RX0 42 "PumpRoster$House" "keysToHandOn" "I", Cond.fieldLink RX0 45 "PumpRoster$House" "finesTold" "I", Cond.methodLink RX2 44 yX1_copyFrom, Cond.instanceMethod yX1_copyFrom, Cond.selects RX1 yX1_copyFrom yX1_copyFrom, Cond.initialized RX1, Cond.code yX1_copyFrom cX1_copyFrom 2 none, Cond.fieldLink RX1 19 "PumpRoster$Pump" "level" "I", Cond.fieldLink RX1 22 "PumpRoster$Pump" "inflow" "I"]
def wsX3_foresee_r3 : List Cond := [Cond.fieldLink RX1 25 "PumpRoster$Pump" "wear" "I", Cond.fieldLink RX1 28 "PumpRoster$Pump" "broken" "Z", Cond.fieldLink RX1 32 "PumpRoster$Pump" "daysToWait" "I", Cond.fieldLink RX1 9 "PumpRoster$Pump" "keyHolder" "I", Cond.fieldLink RX1 15 "PumpRoster$Pump" "roster" "[I", Cond.methodLink RX1 35 arraycopyName, Cond.native arraycopyName, Cond.static arraycopyName, Cond.initialized "java/lang/System", Cond.fieldLink RX1 41 "PumpRoster$Pump" "rosterSize" "I", Cond.fieldLink RX1 44 "PumpRoster$Pump" "turn" "I", Cond.fieldLink RX1 47 "PumpRoster$Pump" "daysOpen" "I", Cond.fieldLink RX1 50 "PumpRoster$Pump" "drawn" "I", Cond.fieldLink RX1 53 "PumpRoster$Pump" "timesMended" "I", Cond.methodLink RX3 126 yX2_runDays, Cond.instanceMethod yX2_runDays, Cond.selects RX2 yX2_runDays yX2_runDays, Cond.code yX2_runDays cX2_runDays 4 (some .int), Cond.methodLink RX2 72 yX2_allDrawn, Cond.instanceMethod yX2_allDrawn, Cond.selects RX2 yX2_allDrawn yX2_allDrawn, Cond.code yX2_allDrawn cX2_allDrawn 3 (some .int), Cond.fieldLink RX2 179 "PumpRoster$Pump" "drawn" "I", Cond.methodLink RX2 76 yX2_layEggs]
def wsX3_foresee_r4 : List Cond := [Cond.instanceMethod yX2_layEggs, Cond.selects RX2 yX2_layEggs yX2_layEggs, Cond.code yX2_layEggs cX2_layEggs 2 none, Cond.fieldLink RX2 50 "PumpRoster$House" "eggs" "I", Cond.fieldLink RX2 101 "PumpRoster$House" "hens" "I", Cond.methodLink RX2 97 yX0_isThere, Cond.instanceMethod yX0_isThere, Cond.selects RX0 yX0_isThere yX0_isThere, Cond.code yX0_isThere cX0_isThere 1 (some .boolean), Cond.methodLink RX2 79 yX2_passKeys, Cond.instanceMethod yX2_passKeys, Cond.selects RX2 yX2_passKeys yX2_passKeys, Cond.code yX2_passKeys cX2_passKeys 4 none, Cond.fieldLink RX2 104 "PumpRoster$Pump" "open" "Z", Cond.fieldLink RX2 108 "PumpRoster$Pump" "brokeToday" "Z", Cond.fieldLink RX2 123 "PumpRoster$Pump" "keyHolder" "I", Cond.fieldLink RX2 126 "PumpRoster$Pump" "daysOpen" "I", Cond.fieldLink RX2 129 "PumpRoster$House" "duties" "I", Cond.methodLink RX2 111 yX2_takeTurn, Cond.instanceMethod yX2_takeTurn, Cond.selects RX2 yX2_takeTurn yX2_takeTurn, Cond.code yX2_takeTurn cX2_takeTurn 5 (some .int), Cond.fieldLink RX2 132 "PumpRoster$Pump" "turn" "I", Cond.fieldLink RX2 135 "PumpRoster$Pump" "rosterSize" "I"]
def wsX3_foresee_r5 : List Cond := [Cond.methodLink RX2 138 yX1_houseAt, Cond.instanceMethod yX1_houseAt, Cond.selects RX1 yX1_houseAt yX1_houseAt, Cond.code yX1_houseAt cX1_houseAt 2 (some .int), Cond.methodLink RX2 141 yX1_placeBehind, Cond.instanceMethod yX1_placeBehind, Cond.selects RX1 yX1_placeBehind yX1_placeBehind, Cond.code yX1_placeBehind cX1_placeBehind 2 (some .int), Cond.methodLink RX2 115 yX2_isHouse, Cond.instanceMethod yX2_isHouse, Cond.selects RX2 yX2_isHouse yX2_isHouse, Cond.code yX2_isHouse cX2_isHouse 2 (some .boolean), Cond.methodLink RX2 119 yX2_handOnKey, Cond.instanceMethod yX2_handOnKey, Cond.selects RX2 yX2_handOnKey yX2_handOnKey, Cond.code yX2_handOnKey cX2_handOnKey 4 (some .boolean), Cond.fieldLink RX2 144 "PumpRoster$House" "keysToHandOn" "I", Cond.methodLink RX2 147 yX0_forgetsThisKey, Cond.instanceMethod yX0_forgetsThisKey, Cond.selects RX0 yX0_forgetsThisKey yX0_forgetsThisKey, Cond.code yX0_forgetsThisKey cX0_forgetsThisKey 1 (some .boolean), Cond.methodLink RX2 150 yX2_charge, Cond.instanceMethod yX2_charge, Cond.selects RX2 yX2_charge yX2_charge]
def wsX3_foresee_r6 : List Cond := [Cond.code yX2_charge cX2_charge 5 (some .int), Cond.fieldLink RX2 47 "PumpRoster$House" "finesTold" "I", Cond.methodLink RX2 53 Lib.Math.min.name, Cond.static Lib.Math.min.name, Cond.initialized "java/lang/Math", Cond.code Lib.Math.min.name Lib.Math.min.code 2 (some .int), Cond.fieldLink RX2 59 "PumpRoster$House" "marks" "I", Cond.fieldLink RX2 62 "PumpRoster$House" "number" "I", Cond.methodLink RX2 65 yX1_placeOf, Cond.instanceMethod yX1_placeOf, Cond.selects RX1 yX1_placeOf yX1_placeOf, Cond.code yX1_placeOf cX1_placeOf 3 (some .int), Cond.methodLink RX2 69 yX1_strikeOff, Cond.instanceMethod yX1_strikeOff, Cond.selects RX1 yX1_strikeOff yX1_strikeOff, Cond.code yX1_strikeOff cX1_strikeOff 3 none, Cond.methodLink RX2 82 yX2_drawWater, Cond.instanceMethod yX2_drawWater, Cond.selects RX2 yX2_drawWater yX2_drawWater, Cond.code yX2_drawWater cX2_drawWater 2 none, Cond.methodLink RX2 154 yX2_drawAround, Cond.instanceMethod yX2_drawAround, Cond.selects RX2 yX2_drawAround yX2_drawAround, Cond.code yX2_drawAround cX2_drawAround 5 none]
def wsX3_foresee_r7 : List Cond := [Cond.fieldLink RX2 160 "PumpRoster$House" "firstPump" "I", Cond.fieldLink RX2 170 "PumpRoster$House" "thirst" "I", Cond.methodLink RX2 157 yX0_dailyNeed, Cond.instanceMethod yX0_dailyNeed, Cond.selects RX0 yX0_dailyNeed yX0_dailyNeed, Cond.code yX0_dailyNeed cX0_dailyNeed 1 (some .int), Cond.methodLink RX2 163 yX2_isPump, Cond.instanceMethod yX2_isPump, Cond.selects RX2 yX2_isPump yX2_isPump, Cond.code yX2_isPump cX2_isPump 2 (some .boolean), Cond.methodLink RX2 166 yX2_drawFrom, Cond.instanceMethod yX2_drawFrom, Cond.selects RX2 yX2_drawFrom yX2_drawFrom, Cond.code yX2_drawFrom cX2_drawFrom 5 (some .int), Cond.fieldLink RX2 173 "PumpRoster$Pump" "broken" "Z", Cond.fieldLink RX2 176 "PumpRoster$Pump" "level" "I", Cond.fieldLink RX2 182 "PumpRoster$Pump" "wear" "I", Cond.methodLink RX2 185 yX1_breakHandle, Cond.instanceMethod yX1_breakHandle, Cond.selects RX1 yX1_breakHandle yX1_breakHandle, Cond.code yX1_breakHandle cX1_breakHandle 1 none, Cond.fieldLink RX1 56 "PumpRoster$Pump" "brokeToday" "Z", Cond.methodLink RX2 85 yX2_mendHandles, Cond.instanceMethod yX2_mendHandles]
def wsX3_foresee_r8 : List Cond := [Cond.selects RX2 yX2_mendHandles yX2_mendHandles, Cond.code yX2_mendHandles cX2_mendHandles 2 none, Cond.methodLink RX2 188 yX2_workOnHandle, Cond.instanceMethod yX2_workOnHandle, Cond.selects RX2 yX2_workOnHandle yX2_workOnHandle, Cond.code yX2_workOnHandle cX2_workOnHandle 2 none, Cond.fieldLink RX2 191 "PumpRoster$Pump" "daysToWait" "I", Cond.methodLink RX2 194 yX1_mendHandle, Cond.instanceMethod yX1_mendHandle, Cond.selects RX1 yX1_mendHandle yX1_mendHandle, Cond.code yX1_mendHandle cX1_mendHandle 1 none, Cond.methodLink RX2 88 yX2_fillWells, Cond.instanceMethod yX2_fillWells, Cond.selects RX2 yX2_fillWells yX2_fillWells, Cond.code yX2_fillWells cX2_fillWells 2 none, Cond.fieldLink RX2 197 "PumpRoster$Pump" "inflow" "I", Cond.methodLink RX2 91 yX2_shareChest, Cond.instanceMethod yX2_shareChest, Cond.selects RX2 yX2_shareChest yX2_shareChest, Cond.code yX2_shareChest cX2_shareChest 4 none, Cond.methodLink RX2 200 yX2_unmarkedHouses, Cond.instanceMethod yX2_unmarkedHouses, Cond.selects RX2 yX2_unmarkedHouses yX2_unmarkedHouses, Cond.code yX2_unmarkedHouses cX2_unmarkedHouses 3 (some .int)]
def wsX3_foresee_r9 : List Cond := [Cond.methodLink RX2 94 yX2_endDay, Cond.instanceMethod yX2_endDay, Cond.selects RX2 yX2_endDay yX2_endDay, Cond.code yX2_endDay cX2_endDay 2 none, Cond.fieldLink RX2 203 "PumpRoster$House" "daysAway" "I", Cond.methodLink RX3 136 yX2_allThirst, Cond.instanceMethod yX2_allThirst, Cond.selects RX2 yX2_allThirst yX2_allThirst, Cond.code yX2_allThirst cX2_allThirst 3 (some .int), Cond.methodLink RX3 143 yX2_allMarks, Cond.instanceMethod yX2_allMarks, Cond.selects RX2 yX2_allMarks yX2_allMarks, Cond.code yX2_allMarks cX2_allMarks 3 (some .int), Cond.methodLink RX3 146 yX2_brokenHandles, Cond.instanceMethod yX2_brokenHandles, Cond.selects RX2 yX2_brokenHandles yX2_brokenHandles, Cond.code yX2_brokenHandles cX2_brokenHandles 3 (some .int)]
def wsX3_foresee : List Cond := .code yX3_foresee cX3_foresee 3 (some .int) :: ((wsX3_foresee_r1 ++ (wsX3_foresee_r2 ++ (wsX3_foresee_r3 ++ (wsX3_foresee_r4 ++ (wsX3_foresee_r5 ++ (wsX3_foresee_r6 ++ (wsX3_foresee_r7 ++ (wsX3_foresee_r8 ++ wsX3_foresee_r9)))))))) ++ wsX30 ++ wsX20 ++ wsX00 ++ wsX10 ++ (vx_atS RX3 182 "java/lang/IllegalArgumentException" ["java/lang/RuntimeException", "java/lang/Exception"]).filter goodWord ++ (vx_atS RX3 187 "java/lang/IndexOutOfBoundsException" ["java/lang/RuntimeException", "java/lang/Exception"]).filter goodWord)
def wsX3_advise_r1 : List Cond := [Cond.fieldLink RX3 10 "PumpRoster" "village" "LPumpRoster$Village;", Cond.fieldLink RX3 52 "PumpRoster$Village" "pumpCount" "I", Cond.fieldLink RX3 16 "PumpRoster" "trial" "LPumpRoster$Village;", Cond.fieldLink RX3 34 "PumpRoster$Village" "houses" "[LPumpRoster$House;", Cond.fieldLink RX3 76 "PumpRoster$House" "firstPump" "I", Cond.methodLink RX3 69 yX3_requireHouse, Cond.instanceMethod yX3_requireHouse, Cond.selects RX3 yX3_requireHouse yX3_requireHouse, Cond.initialized RX3, Cond.code yX3_requireHouse cX3_requireHouse 2 none, Cond.classLink RX3 183 "java/lang/IndexOutOfBoundsException", Cond.initialized "java/lang/IndexOutOfBoundsException", Cond.methodLink RX3 188 yX2_isHouse, Cond.instanceMethod yX2_isHouse, Cond.selects RX2 yX2_isHouse yX2_isHouse, Cond.initialized RX2, Cond.code yX2_isHouse cX2_isHouse 2 (some .boolean), Cond.fieldLink RX2 27 "PumpRoster$Village" "houseCount" "I", Cond.methodLink RX3 19 yX3_requireArgument, Cond.static yX3_requireArgument, Cond.code yX3_requireArgument cX3_requireArgument 3 none, Cond.classLink RX3 178 "java/lang/IllegalArgumentException", Cond.initialized "java/lang/IllegalArgumentException", Cond.methodLink RX3 132 yX2_copyFrom]
def wsX3_advise_r2 : List Cond := [Cond.instanceMethod yX2_copyFrom, Cond.selects RX2 yX2_copyFrom yX2_copyFrom, Cond.code yX2_copyFrom cX2_copyFrom 3 none, Cond.fieldLink RX2 31 "PumpRoster$Village" "pumpCount" "I", Cond.fieldLink RX2 34 "PumpRoster$Village" "chest" "I", Cond.fieldLink RX2 37 "PumpRoster$Village" "day" "I", Cond.fieldLink RX2 11 "PumpRoster$Village" "houses" "[LPumpRoster$House;", Cond.fieldLink RX2 19 "PumpRoster$Village" "pumps" "[LPumpRoster$Pump;", Cond.methodLink RX2 40 yX0_copyFrom, Cond.instanceMethod yX0_copyFrom, Cond.selects RX0 yX0_copyFrom yX0_copyFrom, Cond.initialized RX0, Cond.code yX0_copyFrom cX0_copyFrom 2 none, Cond.fieldLink RX0 18 "PumpRoster$House" "lodgers" "I", Cond.fieldLink RX0 21 "PumpRoster$House" "hens" "I", Cond.fieldLink RX0 24 "PumpRoster$House" "forgets" "I", Cond.fieldLink RX0 9 "PumpRoster$House" "eggs" "I", Cond.fieldLink RX0 27 "PumpRoster$House" "marks" "I", Cond.fieldLink RX0 30 "PumpRoster$House" "daysAway" "I", Cond.fieldLink RX0 33 "PumpRoster$House" "firstPump" "I", Cond.fieldLink RX0 36 "PumpRoster$House" "duties" "I", Cond.fieldLink RX0 39 "PumpRoster$House" "thirst" "I", Cond.fieldLink RX0 42 "PumpRoster$House" "keysToHandOn" "I", Cond.fieldLink RX0 45 "PumpRoster$House" "finesTold" "I"]
def wsX3_advise_r3 : List Cond := [Cond.methodLink RX2 44 yX1_copyFrom, Cond.instanceMethod yX1_copyFrom, Cond.selects RX1 yX1_copyFrom yX1_copyFrom, Cond.initialized RX1, Cond.code yX1_copyFrom cX1_copyFrom 2 none, Cond.fieldLink RX1 19 "PumpRoster$Pump" "level" "I", Cond.fieldLink RX1 22 "PumpRoster$Pump" "inflow" "I", Cond.fieldLink RX1 25 "PumpRoster$Pump" "wear" "I", Cond.fieldLink RX1 28 "PumpRoster$Pump" "broken" "Z", Cond.fieldLink RX1 32 "PumpRoster$Pump" "daysToWait" "I", Cond.fieldLink RX1 9 "PumpRoster$Pump" "keyHolder" "I", Cond.fieldLink RX1 15 "PumpRoster$Pump" "roster" "[I", Cond.methodLink RX1 35 arraycopyName, Cond.native arraycopyName, Cond.static arraycopyName, Cond.initialized "java/lang/System", Cond.fieldLink RX1 41 "PumpRoster$Pump" "rosterSize" "I", Cond.fieldLink RX1 44 "PumpRoster$Pump" "turn" "I", Cond.fieldLink RX1 47 "PumpRoster$Pump" "daysOpen" "I", Cond.fieldLink RX1 50 "PumpRoster$Pump" "drawn" "I", Cond.fieldLink RX1 53 "PumpRoster$Pump" "timesMended" "I", Cond.methodLink RX3 126 yX2_runDays, Cond.instanceMethod yX2_runDays, Cond.selects RX2 yX2_runDays yX2_runDays]
def wsX3_advise_r4 : List Cond := [Cond.code yX2_runDays cX2_runDays 4 (some .int), Cond.methodLink RX2 72 yX2_allDrawn, Cond.instanceMethod yX2_allDrawn, Cond.selects RX2 yX2_allDrawn yX2_allDrawn, Cond.code yX2_allDrawn cX2_allDrawn 3 (some .int), Cond.fieldLink RX2 179 "PumpRoster$Pump" "drawn" "I", Cond.methodLink RX2 76 yX2_layEggs, Cond.instanceMethod yX2_layEggs, Cond.selects RX2 yX2_layEggs yX2_layEggs, Cond.code yX2_layEggs cX2_layEggs 2 none, Cond.fieldLink RX2 50 "PumpRoster$House" "eggs" "I", Cond.fieldLink RX2 101 "PumpRoster$House" "hens" "I", Cond.methodLink RX2 97 yX0_isThere, Cond.instanceMethod yX0_isThere, Cond.selects RX0 yX0_isThere yX0_isThere, Cond.code yX0_isThere cX0_isThere 1 (some .boolean), Cond.methodLink RX2 79 yX2_passKeys, Cond.instanceMethod yX2_passKeys, Cond.selects RX2 yX2_passKeys yX2_passKeys, Cond.code yX2_passKeys cX2_passKeys 4 none, Cond.fieldLink RX2 104 "PumpRoster$Pump" "open" "Z", Cond.fieldLink RX2 108 "PumpRoster$Pump" "brokeToday" "Z", Cond.fieldLink RX2 123 "PumpRoster$Pump" "keyHolder" "I", Cond.fieldLink RX2 126 "PumpRoster$Pump" "daysOpen" "I"]
def wsX3_advise_r5 : List Cond := [Cond.fieldLink RX2 129 "PumpRoster$House" "duties" "I", Cond.methodLink RX2 111 yX2_takeTurn, Cond.instanceMethod yX2_takeTurn, Cond.selects RX2 yX2_takeTurn yX2_takeTurn, Cond.code yX2_takeTurn cX2_takeTurn 5 (some .int), Cond.fieldLink RX2 132 "PumpRoster$Pump" "turn" "I", Cond.fieldLink RX2 135 "PumpRoster$Pump" "rosterSize" "I", Cond.methodLink RX2 138 yX1_houseAt, Cond.instanceMethod yX1_houseAt, Cond.selects RX1 yX1_houseAt yX1_houseAt, Cond.code yX1_houseAt cX1_houseAt 2 (some .int), Cond.methodLink RX2 141 yX1_placeBehind, Cond.instanceMethod yX1_placeBehind, Cond.selects RX1 yX1_placeBehind yX1_placeBehind, Cond.code yX1_placeBehind cX1_placeBehind 2 (some .int), Cond.methodLink RX2 115 yX2_isHouse, Cond.methodLink RX2 119 yX2_handOnKey, Cond.instanceMethod yX2_handOnKey, Cond.selects RX2 yX2_handOnKey yX2_handOnKey, Cond.code yX2_handOnKey cX2_handOnKey 4 (some .boolean), Cond.fieldLink RX2 144 "PumpRoster$House" "keysToHandOn" "I", Cond.methodLink RX2 147 yX0_forgetsThisKey, Cond.instanceMethod yX0_forgetsThisKey, Cond.selects RX0 yX0_forgetsThisKey yX0_forgetsThisKey]
def wsX3_advise_r6 : List Cond := [Cond.code yX0_forgetsThisKey cX0_forgetsThisKey 1 (some .boolean), Cond.methodLink RX2 150 yX2_charge, Cond.instanceMethod yX2_charge, Cond.selects RX2 yX2_charge yX2_charge, Cond.code yX2_charge cX2_charge 5 (some .int), Cond.fieldLink RX2 47 "PumpRoster$House" "finesTold" "I", Cond.methodLink RX2 53 Lib.Math.min.name, Cond.static Lib.Math.min.name, Cond.initialized "java/lang/Math", Cond.code Lib.Math.min.name Lib.Math.min.code 2 (some .int), Cond.fieldLink RX2 59 "PumpRoster$House" "marks" "I", Cond.fieldLink RX2 62 "PumpRoster$House" "number" "I", Cond.methodLink RX2 65 yX1_placeOf, Cond.instanceMethod yX1_placeOf, Cond.selects RX1 yX1_placeOf yX1_placeOf, Cond.code yX1_placeOf cX1_placeOf 3 (some .int), Cond.methodLink RX2 69 yX1_strikeOff, Cond.instanceMethod yX1_strikeOff, Cond.selects RX1 yX1_strikeOff yX1_strikeOff, Cond.code yX1_strikeOff cX1_strikeOff 3 none, Cond.methodLink RX2 82 yX2_drawWater, Cond.instanceMethod yX2_drawWater, Cond.selects RX2 yX2_drawWater yX2_drawWater, Cond.code yX2_drawWater cX2_drawWater 2 none]
def wsX3_advise_r7 : List Cond := [Cond.methodLink RX2 154 yX2_drawAround, Cond.instanceMethod yX2_drawAround, Cond.selects RX2 yX2_drawAround yX2_drawAround, Cond.code yX2_drawAround cX2_drawAround 5 none, Cond.fieldLink RX2 160 "PumpRoster$House" "firstPump" "I", Cond.fieldLink RX2 170 "PumpRoster$House" "thirst" "I", Cond.methodLink RX2 157 yX0_dailyNeed, Cond.instanceMethod yX0_dailyNeed, Cond.selects RX0 yX0_dailyNeed yX0_dailyNeed, Cond.code yX0_dailyNeed cX0_dailyNeed 1 (some .int), Cond.methodLink RX2 163 yX2_isPump, Cond.instanceMethod yX2_isPump, Cond.selects RX2 yX2_isPump yX2_isPump, Cond.code yX2_isPump cX2_isPump 2 (some .boolean), Cond.methodLink RX2 166 yX2_drawFrom, Cond.instanceMethod yX2_drawFrom, Cond.selects RX2 yX2_drawFrom yX2_drawFrom, Cond.code yX2_drawFrom cX2_drawFrom 5 (some .int), Cond.fieldLink RX2 173 "PumpRoster$Pump" "broken" "Z", Cond.fieldLink RX2 176 "PumpRoster$Pump" "level" "I", Cond.fieldLink RX2 182 "PumpRoster$Pump" "wear" "I", Cond.methodLink RX2 185 yX1_breakHandle, Cond.instanceMethod yX1_breakHandle, Cond.selects RX1 yX1_breakHandle yX1_breakHandle]
def wsX3_advise_r8 : List Cond := [Cond.code yX1_breakHandle cX1_breakHandle 1 none, Cond.fieldLink RX1 56 "PumpRoster$Pump" "brokeToday" "Z", Cond.methodLink RX2 85 yX2_mendHandles, Cond.instanceMethod yX2_mendHandles, Cond.selects RX2 yX2_mendHandles yX2_mendHandles, Cond.code yX2_mendHandles cX2_mendHandles 2 none, Cond.methodLink RX2 188 yX2_workOnHandle, Cond.instanceMethod yX2_workOnHandle, Cond.selects RX2 yX2_workOnHandle yX2_workOnHandle, Cond.code yX2_workOnHandle cX2_workOnHandle 2 none, Cond.fieldLink RX2 191 "PumpRoster$Pump" "daysToWait" "I", Cond.methodLink RX2 194 yX1_mendHandle, Cond.instanceMethod yX1_mendHandle, Cond.selects RX1 yX1_mendHandle yX1_mendHandle, Cond.code yX1_mendHandle cX1_mendHandle 1 none, Cond.methodLink RX2 88 yX2_fillWells, Cond.instanceMethod yX2_fillWells, Cond.selects RX2 yX2_fillWells yX2_fillWells, Cond.code yX2_fillWells cX2_fillWells 2 none, Cond.fieldLink RX2 197 "PumpRoster$Pump" "inflow" "I", Cond.methodLink RX2 91 yX2_shareChest, Cond.instanceMethod yX2_shareChest, Cond.selects RX2 yX2_shareChest yX2_shareChest, Cond.code yX2_shareChest cX2_shareChest 4 none]
def wsX3_advise_r9 : List Cond := [Cond.methodLink RX2 200 yX2_unmarkedHouses, Cond.instanceMethod yX2_unmarkedHouses, Cond.selects RX2 yX2_unmarkedHouses yX2_unmarkedHouses, Cond.code yX2_unmarkedHouses cX2_unmarkedHouses 3 (some .int), Cond.methodLink RX2 94 yX2_endDay, Cond.instanceMethod yX2_endDay, Cond.selects RX2 yX2_endDay yX2_endDay, Cond.code yX2_endDay cX2_endDay 2 none, Cond.fieldLink RX2 203 "PumpRoster$House" "daysAway" "I", Cond.methodLink RX3 136 yX2_allThirst, Cond.instanceMethod yX2_allThirst, Cond.selects RX2 yX2_allThirst yX2_allThirst, Cond.code yX2_allThirst cX2_allThirst 3 (some .int)]
def wsX3_advise : List Cond := .code yX3_advise cX3_advise 7 (some .int) :: ((wsX3_advise_r1 ++ (wsX3_advise_r2 ++ (wsX3_advise_r3 ++ (wsX3_advise_r4 ++ (wsX3_advise_r5 ++ (wsX3_advise_r6 ++ (wsX3_advise_r7 ++ (wsX3_advise_r8 ++ wsX3_advise_r9)))))))) ++ wsX30 ++ wsX20 ++ wsX00 ++ wsX10 ++ (vx_atS RX3 187 "java/lang/IndexOutOfBoundsException" ["java/lang/RuntimeException", "java/lang/Exception"]).filter goodWord ++ (vx_atS RX3 182 "java/lang/IllegalArgumentException" ["java/lang/RuntimeException", "java/lang/Exception"]).filter goodWord)
def wsX3_daily : List Cond := .code yX3_daily cX3_daily 1 (some .double) :: ([.fieldLink RX3 10 "PumpRoster" "village" "LPumpRoster$Village;", .fieldLink RX3 164 "PumpRoster$Village" "day" "I", .methodLink RX3 167 yX2_allDrawn, .instanceMethod yX2_allDrawn, .selects RX2 yX2_allDrawn yX2_allDrawn, .initialized RX2, .code yX2_allDrawn cX2_allDrawn 3 (some .int), .fieldLink RX2 31 "PumpRoster$Village" "pumpCount" "I", .fieldLink RX2 19 "PumpRoster$Village" "pumps" "[LPumpRoster$Pump;", .fieldLink RX2 179 "PumpRoster$Pump" "drawn" "I"] ++ wsX30 ++ wsX20 ++ wsX10)
def wsX3_digest_r1 : List Cond := [Cond.constantLong RX3 170 (577), Cond.constantLong RX3 172 (31), Cond.fieldLink RX3 10 "PumpRoster" "village" "LPumpRoster$Village;", Cond.fieldLink RX3 23 "PumpRoster$Village" "houseCount" "I", Cond.fieldLink RX3 34 "PumpRoster$Village" "houses" "[LPumpRoster$House;", Cond.fieldLink RX3 52 "PumpRoster$Village" "pumpCount" "I", Cond.fieldLink RX3 57 "PumpRoster$Village" "pumps" "[LPumpRoster$Pump;", Cond.methodLink RX3 129 yX2_total, Cond.instanceMethod yX2_total, Cond.selects RX2 yX2_total yX2_total, Cond.initialized RX2, Cond.code yX2_total cX2_total 2 (some .int), Cond.fieldLink RX2 37 "PumpRoster$Village" "day" "I", Cond.fieldLink RX2 27 "PumpRoster$Village" "houseCount" "I", Cond.fieldLink RX2 31 "PumpRoster$Village" "pumpCount" "I", Cond.fieldLink RX2 34 "PumpRoster$Village" "chest" "I", Cond.methodLink RX2 212 yX2_allEggs, Cond.instanceMethod yX2_allEggs, Cond.selects RX2 yX2_allEggs yX2_allEggs, Cond.code yX2_allEggs cX2_allEggs 3 (some .int), Cond.fieldLink RX2 11 "PumpRoster$Village" "houses" "[LPumpRoster$House;", Cond.fieldLink RX2 50 "PumpRoster$House" "eggs" "I", Cond.methodLink RX2 215 yX2_housesAway, Cond.instanceMethod yX2_housesAway]
def wsX3_digest_r2 : List Cond := [Cond.selects RX2 yX2_housesAway yX2_housesAway, Cond.code yX2_housesAway cX2_housesAway 3 (some .int), Cond.methodLink RX2 97 yX0_isThere, Cond.instanceMethod yX0_isThere, Cond.selects RX0 yX0_isThere yX0_isThere, Cond.initialized RX0, Cond.code yX0_isThere cX0_isThere 1 (some .boolean), Cond.fieldLink RX0 30 "PumpRoster$House" "daysAway" "I", Cond.methodLink RX2 218 yX2_allMarks, Cond.instanceMethod yX2_allMarks, Cond.selects RX2 yX2_allMarks yX2_allMarks, Cond.code yX2_allMarks cX2_allMarks 3 (some .int), Cond.fieldLink RX2 59 "PumpRoster$House" "marks" "I", Cond.methodLink RX2 221 yX2_allThirst, Cond.instanceMethod yX2_allThirst, Cond.selects RX2 yX2_allThirst yX2_allThirst, Cond.code yX2_allThirst cX2_allThirst 3 (some .int), Cond.fieldLink RX2 170 "PumpRoster$House" "thirst" "I", Cond.methodLink RX2 224 yX2_allDailyNeed, Cond.instanceMethod yX2_allDailyNeed, Cond.selects RX2 yX2_allDailyNeed yX2_allDailyNeed, Cond.code yX2_allDailyNeed cX2_allDailyNeed 3 (some .int), Cond.methodLink RX2 157 yX0_dailyNeed, Cond.instanceMethod yX0_dailyNeed]
def wsX3_digest_r3 : List Cond := [Cond.selects RX0 yX0_dailyNeed yX0_dailyNeed, Cond.code yX0_dailyNeed cX0_dailyNeed 1 (some .int), Cond.fieldLink RX0 18 "PumpRoster$House" "lodgers" "I", Cond.methodLink RX2 227 yX2_brokenHandles, Cond.instanceMethod yX2_brokenHandles, Cond.selects RX2 yX2_brokenHandles yX2_brokenHandles, Cond.code yX2_brokenHandles cX2_brokenHandles 3 (some .int), Cond.fieldLink RX2 19 "PumpRoster$Village" "pumps" "[LPumpRoster$Pump;", Cond.fieldLink RX2 173 "PumpRoster$Pump" "broken" "Z", Cond.methodLink RX3 120 yX2_houseFact, Cond.instanceMethod yX2_houseFact, Cond.selects RX2 yX2_houseFact yX2_houseFact, Cond.code yX2_houseFact cX2_houseFact 3 (some .int), Cond.fieldLink RX2 206 "PumpRoster$House" "lodgers" "I", Cond.fieldLink RX2 101 "PumpRoster$House" "hens" "I", Cond.fieldLink RX2 203 "PumpRoster$House" "daysAway" "I", Cond.fieldLink RX2 160 "PumpRoster$House" "firstPump" "I", Cond.fieldLink RX2 129 "PumpRoster$House" "duties" "I", Cond.fieldLink RX2 144 "PumpRoster$House" "keysToHandOn" "I", Cond.fieldLink RX2 47 "PumpRoster$House" "finesTold" "I", Cond.fieldLink RX2 62 "PumpRoster$House" "number" "I", Cond.methodLink RX2 209 yX2_keysHeldBy, Cond.instanceMethod yX2_keysHeldBy, Cond.selects RX2 yX2_keysHeldBy yX2_keysHeldBy]
def wsX3_digest_r4 : List Cond := [Cond.code yX2_keysHeldBy cX2_keysHeldBy 4 (some .int), Cond.fieldLink RX2 123 "PumpRoster$Pump" "keyHolder" "I", Cond.methodLink RX3 174 yX1_mixInto, Cond.instanceMethod yX1_mixInto, Cond.selects RX1 yX1_mixInto yX1_mixInto, Cond.initialized RX1, Cond.code yX1_mixInto cX1_mixInto 6 (some .long), Cond.constantLong RX1 59 (31), Cond.fieldLink RX1 41 "PumpRoster$Pump" "rosterSize" "I", Cond.fieldLink RX1 15 "PumpRoster$Pump" "roster" "[I", Cond.methodLink RX1 61 yX1_fact, Cond.instanceMethod yX1_fact, Cond.selects RX1 yX1_fact yX1_fact, Cond.code yX1_fact cX1_fact 2 (some .int), Cond.fieldLink RX1 19 "PumpRoster$Pump" "level" "I", Cond.fieldLink RX1 22 "PumpRoster$Pump" "inflow" "I", Cond.fieldLink RX1 25 "PumpRoster$Pump" "wear" "I", Cond.fieldLink RX1 28 "PumpRoster$Pump" "broken" "Z", Cond.fieldLink RX1 32 "PumpRoster$Pump" "daysToWait" "I", Cond.fieldLink RX1 9 "PumpRoster$Pump" "keyHolder" "I", Cond.fieldLink RX1 44 "PumpRoster$Pump" "turn" "I", Cond.fieldLink RX1 47 "PumpRoster$Pump" "daysOpen" "I", Cond.fieldLink RX1 50 "PumpRoster$Pump" "drawn" "I", Cond.fieldLink RX1 53 "PumpRoster$Pump" "timesMended" "I"]
def wsX3_digest : List Cond := .code yX3_digest cX3_digest 5 (some .long) :: ((wsX3_digest_r1 ++ (wsX3_digest_r2 ++ (wsX3_digest_r3 ++ wsX3_digest_r4))) ++ wsX30 ++ wsX20 ++ wsX00 ++ wsX10)
def wsJ9_max_7cf53 : List Cond := .code yJ9_max_7cf53 cJ9_max_7cf53 2 (some .int) :: ([])
def wsJ9_min_7cf53 : List Cond := .code yJ9_min_7cf53 cJ9_min_7cf53 2 (some .int) :: ([])
def wsL_below : List Cond := .code yL_below cL_below 2 (some .int) :: ([.constant RL 7 (2147483647)])
def wsL_cell : List Cond := .code yL_cell cL_cell 2 (some .int) :: ([.constant RL 8 (790386105)])
def wsL_village_r1 : List Cond := [Cond.classLink RL 31 "java/lang/IllegalStateException", Cond.arrayClass .int, Cond.methodLink RL 33 Lib.Math.max.name, Cond.static Lib.Math.max.name, Cond.initialized "java/lang/Math", Cond.code Lib.Math.max.name Lib.Math.max.code 2 (some .int), Cond.methodLink RL 9 yL_cell, Cond.static yL_cell, Cond.initialized RL, Cond.code yL_cell cL_cell 2 (some .int), Cond.constant RL 8 (790386105), Cond.methodLink RL 15 yL_below, Cond.static yL_below, Cond.code yL_below cL_below 2 (some .int), Cond.constant RL 7 (2147483647), Cond.methodLink RL 19 yX3_addHouse, Cond.instanceMethod yX3_addHouse, Cond.selects RX3 yX3_addHouse yX3_addHouse, Cond.initialized RX3, Cond.code yX3_addHouse cX3_addHouse 5 (some .int), Cond.classLink RX3 27 "java/lang/IllegalStateException", Cond.initialized "java/lang/IllegalStateException", Cond.fieldLink RX3 10 "PumpRoster" "village" "LPumpRoster$Village;", Cond.fieldLink RX3 23 "PumpRoster$Village" "houseCount" "I"]
def wsL_village_r2 : List Cond := [Cond.fieldLink RX3 34 "PumpRoster$Village" "houses" "[LPumpRoster$House;", Cond.fieldLink RX3 38 "PumpRoster$House" "lodgers" "I", Cond.fieldLink RX3 43 "PumpRoster$House" "hens" "I", Cond.fieldLink RX3 46 "PumpRoster$House" "forgets" "I", Cond.fieldLink RX3 49 "PumpRoster$House" "number" "I", Cond.methodLink RX3 19 yX3_requireArgument, Cond.static yX3_requireArgument, Cond.code yX3_requireArgument cX3_requireArgument 3 none, Cond.classLink RX3 178 "java/lang/IllegalArgumentException", Cond.initialized "java/lang/IllegalArgumentException", Cond.methodLink RL 25 yX3_addPump, Cond.instanceMethod yX3_addPump, Cond.selects RX3 yX3_addPump yX3_addPump, Cond.code yX3_addPump cX3_addPump 5 (some .int), Cond.fieldLink RX3 52 "PumpRoster$Village" "pumpCount" "I", Cond.fieldLink RX3 57 "PumpRoster$Village" "pumps" "[LPumpRoster$Pump;", Cond.fieldLink RX3 61 "PumpRoster$Pump" "level" "I", Cond.fieldLink RX3 66 "PumpRoster$Pump" "inflow" "I", Cond.methodLink RL 28 yX3_enrol, Cond.instanceMethod yX3_enrol, Cond.selects RX3 yX3_enrol yX3_enrol, Cond.code yX3_enrol cX3_enrol 4 (some .int), Cond.fieldLink RX3 92 "PumpRoster$House" "marks" "I", Cond.fieldLink RX3 100 "PumpRoster$Pump" "rosterSize" "I"]
def wsL_village_r3 : List Cond := [Cond.methodLink RX3 73 yX3_requirePump, Cond.instanceMethod yX3_requirePump, Cond.selects RX3 yX3_requirePump yX3_requirePump, Cond.code yX3_requirePump cX3_requirePump 2 none, Cond.classLink RX3 183 "java/lang/IndexOutOfBoundsException", Cond.initialized "java/lang/IndexOutOfBoundsException", Cond.methodLink RX3 194 yX2_isPump, Cond.instanceMethod yX2_isPump, Cond.selects RX2 yX2_isPump yX2_isPump, Cond.initialized RX2, Cond.code yX2_isPump cX2_isPump 2 (some .boolean), Cond.fieldLink RX2 31 "PumpRoster$Village" "pumpCount" "I", Cond.methodLink RX3 69 yX3_requireHouse, Cond.instanceMethod yX3_requireHouse, Cond.selects RX3 yX3_requireHouse yX3_requireHouse, Cond.code yX3_requireHouse cX3_requireHouse 2 none, Cond.methodLink RX3 188 yX2_isHouse, Cond.instanceMethod yX2_isHouse, Cond.selects RX2 yX2_isHouse yX2_isHouse, Cond.code yX2_isHouse cX2_isHouse 2 (some .boolean), Cond.fieldLink RX2 27 "PumpRoster$Village" "houseCount" "I", Cond.methodLink RX3 86 yX1_placeOf, Cond.instanceMethod yX1_placeOf, Cond.selects RX1 yX1_placeOf yX1_placeOf]
def wsL_village_r4 : List Cond := [Cond.initialized RX1, Cond.code yX1_placeOf cX1_placeOf 3 (some .int), Cond.fieldLink RX1 41 "PumpRoster$Pump" "rosterSize" "I", Cond.fieldLink RX1 15 "PumpRoster$Pump" "roster" "[I", Cond.methodLink RX3 97 yX1_append, Cond.instanceMethod yX1_append, Cond.selects RX1 yX1_append yX1_append, Cond.code yX1_append cX1_append 2 none, Cond.methodLink RL 38 yX3_prefer, Cond.instanceMethod yX3_prefer, Cond.selects RX3 yX3_prefer yX3_prefer, Cond.code yX3_prefer cX3_prefer 5 (some .int), Cond.fieldLink RX3 76 "PumpRoster$House" "firstPump" "I"]
def wsL_village : List Cond := .codeWith yL_village cL_village 8 (some (.array .int)) [(165, 190, 193, 31)] :: ((wsL_village_r1 ++ (wsL_village_r2 ++ (wsL_village_r3 ++ wsL_village_r4))) ++ wsX30 ++ wsX20 ++ wsX00 ++ wsX10 ++ (vx_atS RX3 31 "java/lang/IllegalStateException" ["java/lang/RuntimeException", "java/lang/Exception"]).filter goodWord ++ (vx_atS RX3 182 "java/lang/IllegalArgumentException" ["java/lang/RuntimeException", "java/lang/Exception"]).filter goodWord ++ (vx_atS RX3 187 "java/lang/IndexOutOfBoundsException" ["java/lang/RuntimeException", "java/lang/Exception"]).filter goodWord)
def wsL_law0_r1 : List Cond := [Cond.classLink RL 20 RX3, Cond.instantiable RX3 2, Cond.initialized RX3, Cond.methodLink RL 41 yX3_init, Cond.instanceMethod yX3_init, Cond.code yX3_init cX3_init 1 none, Cond.methodLink RX3 1 objectInit, Cond.instanceMethod objectInit, Cond.code objectInit ⟨#[0xb1]⟩ 1 none, Cond.classLink RX3 7 RX2, Cond.instantiable RX2 6, Cond.initialized RX2, Cond.fieldLink RX3 10 "PumpRoster" "village" "LPumpRoster$Village;", Cond.fieldLink RX3 16 "PumpRoster" "trial" "LPumpRoster$Village;", Cond.methodLink RX3 9 yX2_init, Cond.instanceMethod yX2_init, Cond.code yX2_init cX2_init 2 none, Cond.methodLink RX2 3 objectInit, Cond.classLink RX2 9 RX0, Cond.fieldLink RX2 11 "PumpRoster$Village" "houses" "[LPumpRoster$House;", Cond.classLink RX2 17 RX1, Cond.fieldLink RX2 19 "PumpRoster$Village" "pumps" "[LPumpRoster$Pump;", Cond.instantiable RX0 12, Cond.initialized RX0]
def wsL_law0_r2 : List Cond := [Cond.instantiable RX1 14, Cond.initialized RX1, Cond.methodLink RX2 23 yX0_init, Cond.instanceMethod yX0_init, Cond.code yX0_init cX0_init 2 none, Cond.methodLink RX0 3 objectInit, Cond.fieldLink RX0 9 "PumpRoster$House" "eggs" "I", Cond.fieldLink RX0 15 "PumpRoster$House" "number" "I", Cond.instanceMethod yX1_init, Cond.code yX1_init cX1_init 1 none, Cond.methodLink RX1 3 objectInit, Cond.fieldLink RX1 9 "PumpRoster$Pump" "keyHolder" "I", Cond.arrayClass .int, Cond.fieldLink RX1 15 "PumpRoster$Pump" "roster" "[I", Cond.methodLink RL 42 yL_village, Cond.static yL_village, Cond.initialized RL, Cond.codeWith yL_village cL_village 8 (some (.array .int)) [(165, 190, 193, 31)], Cond.classLink RL 31 "java/lang/IllegalStateException", Cond.methodLink RL 33 Lib.Math.max.name, Cond.static Lib.Math.max.name, Cond.initialized "java/lang/Math", Cond.code Lib.Math.max.name Lib.Math.max.code 2 (some .int), Cond.methodLink RL 9 yL_cell]
def wsL_law0_r3 : List Cond := [Cond.static yL_cell, Cond.code yL_cell cL_cell 2 (some .int), Cond.constant RL 8 (790386105), Cond.methodLink RL 15 yL_below, Cond.static yL_below, Cond.code yL_below cL_below 2 (some .int), Cond.constant RL 7 (2147483647), Cond.methodLink RL 19 yX3_addHouse, Cond.instanceMethod yX3_addHouse, Cond.selects RX3 yX3_addHouse yX3_addHouse, Cond.code yX3_addHouse cX3_addHouse 5 (some .int), Cond.classLink RX3 27 "java/lang/IllegalStateException", Cond.initialized "java/lang/IllegalStateException", Cond.fieldLink RX3 23 "PumpRoster$Village" "houseCount" "I", Cond.fieldLink RX3 34 "PumpRoster$Village" "houses" "[LPumpRoster$House;", Cond.fieldLink RX3 38 "PumpRoster$House" "lodgers" "I", Cond.fieldLink RX3 43 "PumpRoster$House" "hens" "I", Cond.fieldLink RX3 46 "PumpRoster$House" "forgets" "I", Cond.fieldLink RX3 49 "PumpRoster$House" "number" "I", Cond.methodLink RX3 19 yX3_requireArgument, Cond.static yX3_requireArgument, Cond.code yX3_requireArgument cX3_requireArgument 3 none, Cond.classLink RX3 178 "java/lang/IllegalArgumentException", Cond.initialized "java/lang/IllegalArgumentException"]
def wsL_law0_r4 : List Cond := [Cond.methodLink RL 25 yX3_addPump, Cond.instanceMethod yX3_addPump, Cond.selects RX3 yX3_addPump yX3_addPump, Cond.code yX3_addPump cX3_addPump 5 (some .int), Cond.fieldLink RX3 52 "PumpRoster$Village" "pumpCount" "I", Cond.fieldLink RX3 57 "PumpRoster$Village" "pumps" "[LPumpRoster$Pump;", Cond.fieldLink RX3 61 "PumpRoster$Pump" "level" "I", Cond.fieldLink RX3 66 "PumpRoster$Pump" "inflow" "I", Cond.methodLink RL 28 yX3_enrol, Cond.instanceMethod yX3_enrol, Cond.selects RX3 yX3_enrol yX3_enrol, Cond.code yX3_enrol cX3_enrol 4 (some .int), Cond.fieldLink RX3 92 "PumpRoster$House" "marks" "I", Cond.fieldLink RX3 100 "PumpRoster$Pump" "rosterSize" "I", Cond.methodLink RX3 73 yX3_requirePump, Cond.instanceMethod yX3_requirePump, Cond.selects RX3 yX3_requirePump yX3_requirePump, Cond.code yX3_requirePump cX3_requirePump 2 none, Cond.classLink RX3 183 "java/lang/IndexOutOfBoundsException", Cond.initialized "java/lang/IndexOutOfBoundsException", Cond.methodLink RX3 194 yX2_isPump, Cond.instanceMethod yX2_isPump, Cond.selects RX2 yX2_isPump yX2_isPump, Cond.code yX2_isPump cX2_isPump 2 (some .boolean)]
def wsL_law0_r5 : List Cond := [Cond.fieldLink RX2 31 "PumpRoster$Village" "pumpCount" "I", Cond.methodLink RX3 69 yX3_requireHouse, Cond.instanceMethod yX3_requireHouse, Cond.selects RX3 yX3_requireHouse yX3_requireHouse, Cond.code yX3_requireHouse cX3_requireHouse 2 none, Cond.methodLink RX3 188 yX2_isHouse, Cond.instanceMethod yX2_isHouse, Cond.selects RX2 yX2_isHouse yX2_isHouse, Cond.code yX2_isHouse cX2_isHouse 2 (some .boolean), Cond.fieldLink RX2 27 "PumpRoster$Village" "houseCount" "I", Cond.methodLink RX3 86 yX1_placeOf, Cond.instanceMethod yX1_placeOf, Cond.selects RX1 yX1_placeOf yX1_placeOf, Cond.code yX1_placeOf cX1_placeOf 3 (some .int), Cond.fieldLink RX1 41 "PumpRoster$Pump" "rosterSize" "I", Cond.methodLink RX3 97 yX1_append, Cond.instanceMethod yX1_append, Cond.selects RX1 yX1_append yX1_append, Cond.code yX1_append cX1_append 2 none, Cond.methodLink RL 38 yX3_prefer, Cond.instanceMethod yX3_prefer, Cond.selects RX3 yX3_prefer yX3_prefer, Cond.code yX3_prefer cX3_prefer 5 (some .int), Cond.fieldLink RX3 76 "PumpRoster$House" "firstPump" "I"]
def wsL_law0_r6 : List Cond := [Cond.methodLink RL 46 yX3_count, Cond.instanceMethod yX3_count, Cond.selects RX3 yX3_count yX3_count, Cond.code yX3_count cX3_count 2 (some .int), Cond.methodLink RX3 117 yX3_requireIndex, Cond.static yX3_requireIndex, Cond.code yX3_requireIndex cX3_requireIndex 2 none, Cond.methodLink RX3 129 yX2_total, Cond.instanceMethod yX2_total, Cond.selects RX2 yX2_total yX2_total, Cond.code yX2_total cX2_total 2 (some .int), Cond.fieldLink RX2 37 "PumpRoster$Village" "day" "I", Cond.fieldLink RX2 34 "PumpRoster$Village" "chest" "I", Cond.methodLink RX2 212 yX2_allEggs, Cond.instanceMethod yX2_allEggs, Cond.selects RX2 yX2_allEggs yX2_allEggs, Cond.code yX2_allEggs cX2_allEggs 3 (some .int), Cond.fieldLink RX2 50 "PumpRoster$House" "eggs" "I", Cond.methodLink RX2 215 yX2_housesAway, Cond.instanceMethod yX2_housesAway, Cond.selects RX2 yX2_housesAway yX2_housesAway, Cond.code yX2_housesAway cX2_housesAway 3 (some .int), Cond.methodLink RX2 97 yX0_isThere, Cond.instanceMethod yX0_isThere]
def wsL_law0_r7 : List Cond := [Cond.selects RX0 yX0_isThere yX0_isThere, Cond.code yX0_isThere cX0_isThere 1 (some .boolean), Cond.fieldLink RX0 30 "PumpRoster$House" "daysAway" "I", Cond.methodLink RX2 218 yX2_allMarks, Cond.instanceMethod yX2_allMarks, Cond.selects RX2 yX2_allMarks yX2_allMarks, Cond.code yX2_allMarks cX2_allMarks 3 (some .int), Cond.fieldLink RX2 59 "PumpRoster$House" "marks" "I", Cond.methodLink RX2 221 yX2_allThirst, Cond.instanceMethod yX2_allThirst, Cond.selects RX2 yX2_allThirst yX2_allThirst, Cond.code yX2_allThirst cX2_allThirst 3 (some .int), Cond.fieldLink RX2 170 "PumpRoster$House" "thirst" "I", Cond.methodLink RX2 224 yX2_allDailyNeed, Cond.instanceMethod yX2_allDailyNeed, Cond.selects RX2 yX2_allDailyNeed yX2_allDailyNeed, Cond.code yX2_allDailyNeed cX2_allDailyNeed 3 (some .int), Cond.methodLink RX2 157 yX0_dailyNeed, Cond.instanceMethod yX0_dailyNeed, Cond.selects RX0 yX0_dailyNeed yX0_dailyNeed, Cond.code yX0_dailyNeed cX0_dailyNeed 1 (some .int), Cond.fieldLink RX0 18 "PumpRoster$House" "lodgers" "I", Cond.methodLink RX2 227 yX2_brokenHandles, Cond.instanceMethod yX2_brokenHandles]
def wsL_law0_r8 : List Cond := [Cond.selects RX2 yX2_brokenHandles yX2_brokenHandles, Cond.code yX2_brokenHandles cX2_brokenHandles 3 (some .int), Cond.fieldLink RX2 173 "PumpRoster$Pump" "broken" "Z", Cond.methodLink RL 50 yX3_leave, Cond.instanceMethod yX3_leave, Cond.selects RX3 yX3_leave yX3_leave, Cond.code yX3_leave cX3_leave 5 (some .int), Cond.fieldLink RX3 79 "PumpRoster$House" "daysAway" "I", Cond.methodLink RL 53 yX3_fine, Cond.instanceMethod yX3_fine, Cond.selects RX3 yX3_fine yX3_fine, Cond.code yX3_fine cX3_fine 3 (some .int), Cond.methodLink RX3 82 yX2_charge, Cond.instanceMethod yX2_charge, Cond.selects RX2 yX2_charge yX2_charge, Cond.code yX2_charge cX2_charge 5 (some .int), Cond.fieldLink RX2 47 "PumpRoster$House" "finesTold" "I", Cond.methodLink RX2 53 Lib.Math.min.name, Cond.static Lib.Math.min.name, Cond.code Lib.Math.min.name Lib.Math.min.code 2 (some .int), Cond.fieldLink RX2 62 "PumpRoster$House" "number" "I", Cond.methodLink RX2 65 yX1_placeOf, Cond.methodLink RX2 69 yX1_strikeOff, Cond.instanceMethod yX1_strikeOff]
def wsL_law0_r9 : List Cond := [Cond.selects RX1 yX1_strikeOff yX1_strikeOff, Cond.code yX1_strikeOff cX1_strikeOff 3 none, Cond.fieldLink RX1 44 "PumpRoster$Pump" "turn" "I", Cond.methodLink RL 56 yX3_lodge, Cond.instanceMethod yX3_lodge, Cond.selects RX3 yX3_lodge yX3_lodge, Cond.code yX3_lodge cX3_lodge 5 (some .int), Cond.methodLink RL 59 yX3_house, Cond.instanceMethod yX3_house, Cond.selects RX3 yX3_house yX3_house, Cond.code yX3_house cX3_house 3 (some .int), Cond.methodLink RX3 120 yX2_houseFact, Cond.instanceMethod yX2_houseFact, Cond.selects RX2 yX2_houseFact yX2_houseFact, Cond.code yX2_houseFact cX2_houseFact 3 (some .int), Cond.fieldLink RX2 206 "PumpRoster$House" "lodgers" "I", Cond.fieldLink RX2 101 "PumpRoster$House" "hens" "I", Cond.fieldLink RX2 203 "PumpRoster$House" "daysAway" "I", Cond.fieldLink RX2 160 "PumpRoster$House" "firstPump" "I", Cond.fieldLink RX2 129 "PumpRoster$House" "duties" "I", Cond.fieldLink RX2 144 "PumpRoster$House" "keysToHandOn" "I", Cond.methodLink RX2 209 yX2_keysHeldBy, Cond.instanceMethod yX2_keysHeldBy, Cond.selects RX2 yX2_keysHeldBy yX2_keysHeldBy]
def wsL_law0_r10 : List Cond := [Cond.code yX2_keysHeldBy cX2_keysHeldBy 4 (some .int), Cond.fieldLink RX2 123 "PumpRoster$Pump" "keyHolder" "I", Cond.methodLink RL 62 yX3_ahead, Cond.instanceMethod yX3_ahead, Cond.selects RX3 yX3_ahead yX3_ahead, Cond.code yX3_ahead cX3_ahead 5 (some .int), Cond.fieldLink RX3 111 "PumpRoster$Pump" "turn" "I", Cond.methodLink RL 65 yX3_digest, Cond.instanceMethod yX3_digest, Cond.selects RX3 yX3_digest yX3_digest, Cond.code yX3_digest cX3_digest 5 (some .long), Cond.constantLong RX3 170 (577), Cond.constantLong RX3 172 (31), Cond.methodLink RX3 174 yX1_mixInto, Cond.instanceMethod yX1_mixInto, Cond.selects RX1 yX1_mixInto yX1_mixInto, Cond.code yX1_mixInto cX1_mixInto 6 (some .long), Cond.constantLong RX1 59 (31), Cond.methodLink RX1 61 yX1_fact, Cond.instanceMethod yX1_fact, Cond.selects RX1 yX1_fact yX1_fact, Cond.code yX1_fact cX1_fact 2 (some .int), Cond.fieldLink RX1 19 "PumpRoster$Pump" "level" "I", Cond.fieldLink RX1 22 "PumpRoster$Pump" "inflow" "I"]
def wsL_law0_r11 : List Cond := [Cond.fieldLink RX1 25 "PumpRoster$Pump" "wear" "I", Cond.fieldLink RX1 28 "PumpRoster$Pump" "broken" "Z", Cond.fieldLink RX1 32 "PumpRoster$Pump" "daysToWait" "I", Cond.fieldLink RX1 47 "PumpRoster$Pump" "daysOpen" "I", Cond.fieldLink RX1 50 "PumpRoster$Pump" "drawn" "I", Cond.fieldLink RX1 53 "PumpRoster$Pump" "timesMended" "I", Cond.methodLink RL 69 yX3_foresee, Cond.instanceMethod yX3_foresee, Cond.selects RX3 yX3_foresee yX3_foresee, Cond.code yX3_foresee cX3_foresee 3 (some .int), Cond.fieldLink RX3 140 "PumpRoster$Village" "chest" "I", Cond.methodLink RX3 132 yX2_copyFrom, Cond.instanceMethod yX2_copyFrom, Cond.selects RX2 yX2_copyFrom yX2_copyFrom, Cond.code yX2_copyFrom cX2_copyFrom 3 none, Cond.methodLink RX2 40 yX0_copyFrom, Cond.instanceMethod yX0_copyFrom, Cond.selects RX0 yX0_copyFrom yX0_copyFrom, Cond.code yX0_copyFrom cX0_copyFrom 2 none, Cond.fieldLink RX0 21 "PumpRoster$House" "hens" "I", Cond.fieldLink RX0 24 "PumpRoster$House" "forgets" "I", Cond.fieldLink RX0 27 "PumpRoster$House" "marks" "I", Cond.fieldLink RX0 33 "PumpRoster$House" "firstPump" "I", Cond.fieldLink RX0 36 "PumpRoster$House" "duties" "I"]
def wsL_law0_r12 : List Cond := [Cond.fieldLink RX0 39 "PumpRoster$House" "thirst" "I", Cond.fieldLink RX0 42 "PumpRoster$House" "keysToHandOn" "I", Cond.fieldLink RX0 45 "PumpRoster$House" "finesTold" "I", Cond.methodLink RX2 44 yX1_copyFrom, Cond.instanceMethod yX1_copyFrom, Cond.selects RX1 yX1_copyFrom yX1_copyFrom, Cond.code yX1_copyFrom cX1_copyFrom 2 none, Cond.methodLink RX1 35 arraycopyName, Cond.native arraycopyName, Cond.static arraycopyName, Cond.initialized "java/lang/System", Cond.methodLink RX3 126 yX2_runDays, Cond.instanceMethod yX2_runDays, Cond.selects RX2 yX2_runDays yX2_runDays, Cond.code yX2_runDays cX2_runDays 4 (some .int), Cond.methodLink RX2 72 yX2_allDrawn, Cond.instanceMethod yX2_allDrawn, Cond.selects RX2 yX2_allDrawn yX2_allDrawn, Cond.code yX2_allDrawn cX2_allDrawn 3 (some .int), Cond.fieldLink RX2 179 "PumpRoster$Pump" "drawn" "I", Cond.methodLink RX2 76 yX2_layEggs, Cond.instanceMethod yX2_layEggs, Cond.selects RX2 yX2_layEggs yX2_layEggs, Cond.code yX2_layEggs cX2_layEggs 2 none]
def wsL_law0_r13 : List Cond := [Cond.methodLink RX2 79 yX2_passKeys, Cond.instanceMethod yX2_passKeys, Cond.selects RX2 yX2_passKeys yX2_passKeys, Cond.code yX2_passKeys cX2_passKeys 4 none, Cond.fieldLink RX2 104 "PumpRoster$Pump" "open" "Z", Cond.fieldLink RX2 108 "PumpRoster$Pump" "brokeToday" "Z", Cond.fieldLink RX2 126 "PumpRoster$Pump" "daysOpen" "I", Cond.methodLink RX2 111 yX2_takeTurn, Cond.instanceMethod yX2_takeTurn, Cond.selects RX2 yX2_takeTurn yX2_takeTurn, Cond.code yX2_takeTurn cX2_takeTurn 5 (some .int), Cond.fieldLink RX2 132 "PumpRoster$Pump" "turn" "I", Cond.fieldLink RX2 135 "PumpRoster$Pump" "rosterSize" "I", Cond.methodLink RX2 138 yX1_houseAt, Cond.instanceMethod yX1_houseAt, Cond.selects RX1 yX1_houseAt yX1_houseAt, Cond.code yX1_houseAt cX1_houseAt 2 (some .int), Cond.methodLink RX2 141 yX1_placeBehind, Cond.instanceMethod yX1_placeBehind, Cond.selects RX1 yX1_placeBehind yX1_placeBehind, Cond.code yX1_placeBehind cX1_placeBehind 2 (some .int), Cond.methodLink RX2 115 yX2_isHouse, Cond.methodLink RX2 119 yX2_handOnKey, Cond.instanceMethod yX2_handOnKey]
def wsL_law0_r14 : List Cond := [Cond.selects RX2 yX2_handOnKey yX2_handOnKey, Cond.code yX2_handOnKey cX2_handOnKey 4 (some .boolean), Cond.methodLink RX2 147 yX0_forgetsThisKey, Cond.instanceMethod yX0_forgetsThisKey, Cond.selects RX0 yX0_forgetsThisKey yX0_forgetsThisKey, Cond.code yX0_forgetsThisKey cX0_forgetsThisKey 1 (some .boolean), Cond.methodLink RX2 150 yX2_charge, Cond.methodLink RX2 82 yX2_drawWater, Cond.instanceMethod yX2_drawWater, Cond.selects RX2 yX2_drawWater yX2_drawWater, Cond.code yX2_drawWater cX2_drawWater 2 none, Cond.methodLink RX2 154 yX2_drawAround, Cond.instanceMethod yX2_drawAround, Cond.selects RX2 yX2_drawAround yX2_drawAround, Cond.code yX2_drawAround cX2_drawAround 5 none, Cond.methodLink RX2 163 yX2_isPump, Cond.methodLink RX2 166 yX2_drawFrom, Cond.instanceMethod yX2_drawFrom, Cond.selects RX2 yX2_drawFrom yX2_drawFrom, Cond.code yX2_drawFrom cX2_drawFrom 5 (some .int), Cond.fieldLink RX2 176 "PumpRoster$Pump" "level" "I", Cond.fieldLink RX2 182 "PumpRoster$Pump" "wear" "I", Cond.methodLink RX2 185 yX1_breakHandle, Cond.instanceMethod yX1_breakHandle]
def wsL_law0_r15 : List Cond := [Cond.selects RX1 yX1_breakHandle yX1_breakHandle, Cond.code yX1_breakHandle cX1_breakHandle 1 none, Cond.fieldLink RX1 56 "PumpRoster$Pump" "brokeToday" "Z", Cond.methodLink RX2 85 yX2_mendHandles, Cond.instanceMethod yX2_mendHandles, Cond.selects RX2 yX2_mendHandles yX2_mendHandles, Cond.code yX2_mendHandles cX2_mendHandles 2 none, Cond.methodLink RX2 188 yX2_workOnHandle, Cond.instanceMethod yX2_workOnHandle, Cond.selects RX2 yX2_workOnHandle yX2_workOnHandle, Cond.code yX2_workOnHandle cX2_workOnHandle 2 none, Cond.fieldLink RX2 191 "PumpRoster$Pump" "daysToWait" "I", Cond.methodLink RX2 194 yX1_mendHandle, Cond.instanceMethod yX1_mendHandle, Cond.selects RX1 yX1_mendHandle yX1_mendHandle, Cond.code yX1_mendHandle cX1_mendHandle 1 none, Cond.methodLink RX2 88 yX2_fillWells, Cond.instanceMethod yX2_fillWells, Cond.selects RX2 yX2_fillWells yX2_fillWells, Cond.code yX2_fillWells cX2_fillWells 2 none, Cond.fieldLink RX2 197 "PumpRoster$Pump" "inflow" "I", Cond.methodLink RX2 91 yX2_shareChest, Cond.instanceMethod yX2_shareChest, Cond.selects RX2 yX2_shareChest yX2_shareChest]
def wsL_law0_r16 : List Cond := [Cond.code yX2_shareChest cX2_shareChest 4 none, Cond.methodLink RX2 200 yX2_unmarkedHouses, Cond.instanceMethod yX2_unmarkedHouses, Cond.selects RX2 yX2_unmarkedHouses yX2_unmarkedHouses, Cond.code yX2_unmarkedHouses cX2_unmarkedHouses 3 (some .int), Cond.methodLink RX2 94 yX2_endDay, Cond.instanceMethod yX2_endDay, Cond.selects RX2 yX2_endDay yX2_endDay, Cond.code yX2_endDay cX2_endDay 2 none, Cond.methodLink RX3 136 yX2_allThirst, Cond.methodLink RX3 143 yX2_allMarks, Cond.methodLink RX3 146 yX2_brokenHandles, Cond.methodLink RL 72 yX3_advise, Cond.instanceMethod yX3_advise, Cond.selects RX3 yX3_advise yX3_advise, Cond.code yX3_advise cX3_advise 7 (some .int), Cond.methodLink RL 75 yX3_pump, Cond.instanceMethod yX3_pump, Cond.selects RX3 yX3_pump yX3_pump, Cond.code yX3_pump cX3_pump 3 (some .int), Cond.methodLink RX3 123 yX1_fact, Cond.methodLink RL 78 yX3_pass, Cond.instanceMethod yX3_pass, Cond.selects RX3 yX3_pass yX3_pass]
def wsL_law0_r17 : List Cond := [Cond.code yX3_pass cX3_pass 2 (some .int), Cond.methodLink RL 81 yX3_roster, Cond.instanceMethod yX3_roster, Cond.selects RX3 yX3_roster yX3_roster, Cond.code yX3_roster cX3_roster 3 (some .int), Cond.methodLink RX3 103 yX3_requirePlace, Cond.instanceMethod yX3_requirePlace, Cond.selects RX3 yX3_requirePlace yX3_requirePlace, Cond.code yX3_requirePlace cX3_requirePlace 3 none, Cond.methodLink RX3 114 yX1_houseAt, Cond.methodLink RL 84 yX3_daily, Cond.instanceMethod yX3_daily, Cond.selects RX3 yX3_daily yX3_daily, Cond.code yX3_daily cX3_daily 1 (some .double), Cond.fieldLink RX3 164 "PumpRoster$Village" "day" "I", Cond.methodLink RX3 167 yX2_allDrawn]
def wsL_law0 : List Cond := (wsL_law0_r1 ++ (wsL_law0_r2 ++ (wsL_law0_r3 ++ (wsL_law0_r4 ++ (wsL_law0_r5 ++ (wsL_law0_r6 ++ (wsL_law0_r7 ++ (wsL_law0_r8 ++ (wsL_law0_r9 ++ (wsL_law0_r10 ++ (wsL_law0_r11 ++ (wsL_law0_r12 ++ (wsL_law0_r13 ++ (wsL_law0_r14 ++ (wsL_law0_r15 ++ (wsL_law0_r16 ++ wsL_law0_r17)))))))))))))))) ++ wsX30 ++ wsX20 ++ wsX00 ++ wsX10 ++ ([] : List Cond)
def wsL_law : List Cond := wsL_law0 ++ (vx_atS RX3 31 "java/lang/IllegalStateException" ["java/lang/RuntimeException", "java/lang/Exception"]).filter goodWord ++ (vx_atS RX3 182 "java/lang/IllegalArgumentException" ["java/lang/RuntimeException", "java/lang/Exception"]).filter goodWord ++ (vx_atS RX3 187 "java/lang/IndexOutOfBoundsException" ["java/lang/RuntimeException", "java/lang/Exception"]).filter goodWord
end
section
abbrev vwCl : List vw_C := [(RX0, TX0, 12), (RX1, TX1, 14), (RX2, TX2, 6), (RX3, TX3, 2)]
end
section
/-! ===== what a village is: columns of numbers =====
   0 lodgers, 1 hens, 2 forgets, 3 eggs, 4 marks, 5 first pump, 6 days away, 7 duties, 8 thirst, 9 keys, 10 fines (by house);
   20 level, 21 inflow, 22 wear, 23 broken, 24 wait, 25 key, 26 size, 27 turn, 28 open days, 29 drawn, 30 mended, 31 open, 32 broke today (by pump);
   40, 41, 42 rosters (by place); 50 day, 51 houses, 52 pumps, 53 chest (at 0) -/
abbrev wS : Type := Nat → Nat → Int32
def wst (σ : wS) (f i : Nat) (x : Int32) : wS := fun g j => if g = f ∧ j = i then x else σ g j
theorem wst_s {σ : wS} {f i : Nat} {x : Int32} : wst σ f i x f i = x := by simp [wst]
theorem wst_f {σ : wS} {f i g j : Nat} {x : Int32} (h : g ≠ f) : wst σ f i x g j = σ g j := by simp [wst, h]
theorem wst_i {σ : wS} {f i g j : Nat} {x : Int32} (h : j ≠ i) : wst σ f i x g j = σ g j := by simp [wst, h]
theorem wst_e {σ : wS} {f i g j : Nat} {x : Int32} (h : g = f → j ≠ i) : wst σ f i x g j = σ g j := by
  unfold wst
  rw [if_neg]
  rintro ⟨a, b⟩
  exact h a b
/-- what counts of a village of nH houses and nP pumps -/
def wact (nH nP f i : Nat) : Bool := if f ≤ 10 then decide (i < nH) else if f ≤ 30 then decide (i < nP) else if f ≤ 42 then decide (f < 40 + nP) else true
/-- the numbers that a side has: those that count are τ's, the others its own -/
def wmx (nH nP : Nat) (δ τ : wS) : wS := fun f i => if wact nH nP f i = true then τ f i else δ f i
theorem wmx_r {nH nP f i : Nat} {δ τ : wS} (h : wact nH nP f i = true) : wmx nH nP δ τ f i = τ f i := by unfold wmx; rw [if_pos h]
theorem wmx_w {nH nP f i : Nat} {δ τ : wS} {x : Int32} (h : wact nH nP f i = true) : wst (wmx nH nP δ τ) f i x = wmx nH nP δ (wst τ f i x) := by
  funext g j
  unfold wst wmx
  by_cases e : g = f ∧ j = i
  · obtain ⟨rfl, rfl⟩ := e
    simp [h]
  · simp only [if_neg e]
theorem wact_h {nH nP f i : Nat} (hf : f ≤ 10) (h : i < nH) : wact nH nP f i = true := by simp [wact, hf, h]
theorem wact_p {nH nP f i : Nat} (hf : 11 ≤ f) (hg : f ≤ 30) (h : i < nP) : wact nH nP f i = true := by
  unfold wact
  rw [if_neg (by omega), if_pos hg]
  simp [h]
theorem wact_r {nH nP p i : Nat} (h : p < nP) (h3 : nP ≤ 3) : wact nH nP (40 + p) i = true := by
  unfold wact
  rw [if_neg (by omega), if_neg (by omega), if_pos (by omega)]
  simp [h]
theorem wact_v {nH nP f i : Nat} (hf : 43 ≤ f) : wact nH nP f i = true := by
  unfold wact
  rw [if_neg (by omega), if_neg (by omega), if_neg (by omega)]
theorem wact_o {nH nP f i : Nat} (hf : 31 ≤ f) (hg : f ≤ 39) (h : 0 < nP) : wact nH nP f i = true := by
  unfold wact
  rw [if_neg (by omega), if_neg (by omega), if_pos (by omega)]
  simp
  omega
theorem wact_pp {nH nP f i : Nat} (hf : 11 ≤ f) (hg : f ≤ 32) (h : i < nP) : wact nH nP f i = true := by
  by_cases q : f ≤ 30
  · exact wact_p hf q h
  · exact wact_o (by omega) (by omega) (by omega)
/-! ===== the class's village as cells ===== -/
/-- the tables' class of each kind of array: int, boolean, House, Pump -/
abbrev wG : Type := va_G × ClassId × ClassId × ClassId × ClassId
abbrev wT (G : wG) : List (ClassId × FieldType) := [(G.2.1, .int), (G.2.2.1, .boolean), (G.2.2.2.1, .object "PumpRoster$House"), (G.2.2.2.2, .object "PumpRoster$Pump")]
abbrev wK (G : wG) (U : State) : Prop := va_K G.1 vwCl (wT G) U
def hfs (σ : wS) (h : Nat) : List Value := [.int (nI h), .int (σ 0 h), .int (σ 1 h), .int (σ 2 h), .int (σ 3 h), .int (σ 4 h), .int (σ 6 h), .int (σ 5 h), .int (σ 7 h), .int (σ 8 h), .int (σ 9 h), .int (σ 10 h)]
def hcol (k : Nat) : Nat := match k with
  | 1 => 0
  | 2 => 1
  | 3 => 2
  | 4 => 3
  | 5 => 4
  | 6 => 6
  | 7 => 5
  | 8 => 7
  | 9 => 8
  | 10 => 9
  | _ => 10
def pfs (ra : Nat) (σ : wS) (p : Nat) : List Value := [.int (σ 20 p), .int (σ 21 p), .int (σ 22 p), .int (σ 23 p), .int (σ 24 p), .int (σ 25 p), .ref ra, .int (σ 26 p), .int (σ 27 p), .int (σ 28 p), .int (σ 29 p), .int (σ 30 p), .int (σ 31 p), .int (σ 32 p)]
def pcol (k : Nat) : Nat := match k with
  | 0 => 20
  | 1 => 21
  | 2 => 22
  | 3 => 23
  | 4 => 24
  | 5 => 25
  | 7 => 26
  | 8 => 27
  | 9 => 28
  | 10 => 29
  | 11 => 30
  | 12 => 31
  | _ => 32
def vfs (a1 a2 : Nat) (σ : wS) : List Value := [.ref a1, .ref a2, .int (σ 51 0), .int (σ 52 0), .int (σ 53 0), .int (σ 50 0)]
def vcol (k : Nat) : Nat := match k with
  | 2 => 51
  | 3 => 52
  | 4 => 53
  | _ => 50
abbrev hArr (ad : Nat → Nat) (cH : ClassId) : va_E := .inl (cH, 10, .inr (.inr (.inr (.inr (fun h => some (ad (3 + h)))))))
abbrev pArr (ad : Nat → Nat) (cP : ClassId) : va_E := .inl (cP, 3, .inr (.inr (.inr (.inr (fun p => some (ad (13 + p)))))))
abbrev rArr (cI : ClassId) (σ : wS) (p : Nat) : va_E := .inl (cI, 10, .inl (fun k => σ (40 + p) k))
def CV (G : wG) (ad : Nat → Nat) (σ : wS) (H : Heap) : Prop :=
  va_at G.1 vwCl (ad 0, .inr (2, vfs (ad 1) (ad 2) σ)) H ∧ va_at G.1 vwCl (ad 1, hArr ad G.2.2.2.1) H ∧ va_at G.1 vwCl (ad 2, pArr ad G.2.2.2.2) H ∧
  (∀ h, h < 10 → va_at G.1 vwCl (ad (3 + h), .inr (0, hfs σ h)) H) ∧ (∀ p, p < 3 → va_at G.1 vwCl (ad (13 + p), .inr (1, pfs (ad (16 + p)) σ p)) H) ∧
  (∀ p, p < 3 → va_at G.1 vwCl (ad (16 + p), rArr G.2.1 σ p) H)
abbrev CVm (G : wG) (ad : Nat → Nat) (nH nP : Nat) (δ τ : wS) (H : Heap) : Prop := CV G ad (wmx nH nP δ τ) H
def adInj (ad : Nat → Nat) (n : Nat) : Prop := ∀ i j, i < n → j < n → ad i = ad j → i = j
def AV (ad : Nat → Nat) (n : Nat) : Nat → Prop := fun q => ∃ k, k < n ∧ q = ad k
theorem adNe {ad : Nat → Nat} {n : Nat} (hI : adInj ad n) {i j : Nat} (hi : i < n) (hj : j < n) (h : i ≠ j) : ad i ≠ ad j := fun e => h (hI i j hi hj e)
theorem CV.kept {G : wG} {ad : Nat → Nat} {σ : wS} {H H1 : Heap} (h : CV G ad σ H) (hk : ∀ k, k < 19 → H1[ad k]? = H[ad k]?) : CV G ad σ H1 := by
  obtain ⟨a, b, c, d, e, f⟩ := h
  exact ⟨a.kept (hk 0 (by omega)), b.kept (hk 1 (by omega)), c.kept (hk 2 (by omega)), fun h hh => (d h hh).kept (hk (3 + h) (by omega)), fun p hp => (e p hp).kept (hk (13 + p) (by omega)), fun p hp => (f p hp).kept (hk (16 + p) (by omega))⟩
theorem hfs_set {σ : wS} {h k : Nat} {x : Int32} (h1 : 1 ≤ k) (h2 : k < 12) : (hfs σ h).set k (.int x) = hfs (wst σ (hcol k) h x) h := by
  rcases (show k = 1 ∨ k = 2 ∨ k = 3 ∨ k = 4 ∨ k = 5 ∨ k = 6 ∨ k = 7 ∨ k = 8 ∨ k = 9 ∨ k = 10 ∨ k = 11 by omega) with rfl | rfl | rfl | rfl | rfl | rfl | rfl | rfl | rfl | rfl | rfl <;> simp [hfs, hcol, wst]
theorem hcol_le (k : Nat) : hcol k ≤ 10 := by unfold hcol; split <;> omega
theorem hfs_get {σ : wS} {h k : Nat} (h1 : 1 ≤ k) (h2 : k < 12) : (hfs σ h)[k]? = some (.int (σ (hcol k) h)) := by
  rcases (show k = 1 ∨ k = 2 ∨ k = 3 ∨ k = 4 ∨ k = 5 ∨ k = 6 ∨ k = 7 ∨ k = 8 ∨ k = 9 ∨ k = 10 ∨ k = 11 by omega) with rfl | rfl | rfl | rfl | rfl | rfl | rfl | rfl | rfl | rfl | rfl <;> rfl
theorem hfs_ne {σ : wS} {f i h : Nat} {x : Int32} (hh : f ≤ 10 → h ≠ i) : hfs (wst σ f i x) h = hfs σ h := by
  have e : ∀ g, g ≤ 10 → wst σ f i x g h = σ g h := fun g hg => wst_e (fun q => hh (by omega))
  simp only [hfs, e 0 (by omega), e 1 (by omega), e 2 (by omega), e 3 (by omega), e 4 (by omega), e 5 (by omega), e 6 (by omega), e 7 (by omega), e 8 (by omega), e 9 (by omega), e 10 (by omega)]
theorem pfs_set {σ : wS} {ra p k : Nat} {x : Int32} (h1 : k ≠ 6) (h2 : k < 14) : (pfs ra σ p).set k (.int x) = pfs ra (wst σ (pcol k) p x) p := by
  rcases (show k = 0 ∨ k = 1 ∨ k = 2 ∨ k = 3 ∨ k = 4 ∨ k = 5 ∨ k = 7 ∨ k = 8 ∨ k = 9 ∨ k = 10 ∨ k = 11 ∨ k = 12 ∨ k = 13 by omega) with rfl | rfl | rfl | rfl | rfl | rfl | rfl | rfl | rfl | rfl | rfl | rfl | rfl <;> simp [pfs, pcol, wst]
theorem pfs_get {σ : wS} {ra p k : Nat} (h1 : k ≠ 6) (h2 : k < 14) : (pfs ra σ p)[k]? = some (.int (σ (pcol k) p)) := by
  rcases (show k = 0 ∨ k = 1 ∨ k = 2 ∨ k = 3 ∨ k = 4 ∨ k = 5 ∨ k = 7 ∨ k = 8 ∨ k = 9 ∨ k = 10 ∨ k = 11 ∨ k = 12 ∨ k = 13 by omega) with rfl | rfl | rfl | rfl | rfl | rfl | rfl | rfl | rfl | rfl | rfl | rfl | rfl <;> rfl
theorem pcol_in (k : Nat) : 20 ≤ pcol k ∧ pcol k ≤ 32 := by unfold pcol; split <;> omega
theorem pfs_ne {σ : wS} {ra f i p : Nat} {x : Int32} (hh : 20 ≤ f → f ≤ 32 → p ≠ i) : pfs ra (wst σ f i x) p = pfs ra σ p := by
  have e : ∀ g, 20 ≤ g → g ≤ 32 → wst σ f i x g p = σ g p := fun g hg hg2 => wst_e (fun q => hh (by omega) (by omega))
  simp only [pfs, e 20 (by omega) (by omega), e 21 (by omega) (by omega), e 22 (by omega) (by omega), e 23 (by omega) (by omega), e 24 (by omega) (by omega), e 25 (by omega) (by omega), e 26 (by omega) (by omega), e 27 (by omega) (by omega), e 28 (by omega) (by omega), e 29 (by omega) (by omega), e 30 (by omega) (by omega), e 31 (by omega) (by omega), e 32 (by omega) (by omega)]
theorem vfs_set {σ : wS} {a1 a2 k : Nat} {x : Int32} (h1 : 2 ≤ k) (h2 : k < 6) : (vfs a1 a2 σ).set k (.int x) = vfs a1 a2 (wst σ (vcol k) 0 x) := by
  rcases (show k = 2 ∨ k = 3 ∨ k = 4 ∨ k = 5 by omega) with rfl | rfl | rfl | rfl <;> simp [vfs, vcol, wst]
theorem vfs_get {σ : wS} {a1 a2 k : Nat} (h1 : 2 ≤ k) (h2 : k < 6) : (vfs a1 a2 σ)[k]? = some (.int (σ (vcol k) 0)) := by
  rcases (show k = 2 ∨ k = 3 ∨ k = 4 ∨ k = 5 by omega) with rfl | rfl | rfl | rfl <;> rfl
theorem vcol_in (k : Nat) : 50 ≤ vcol k ∧ vcol k ≤ 53 := by unfold vcol; split <;> omega
theorem vfs_ne {σ : wS} {a1 a2 f i : Nat} {x : Int32} (hh : f < 50) : vfs a1 a2 (wst σ f i x) = vfs a1 a2 σ := by
  have e : ∀ g, 50 ≤ g → wst σ f i x g 0 = σ g 0 := fun g hg => wst_f (by omega)
  simp only [vfs, e 50 (by omega), e 51 (by omega), e 52 (by omega), e 53 (by omega)]
theorem rArr_ne {cI : ClassId} {σ : wS} {f i p : Nat} {x : Int32} (hh : f ≠ 40 + p) : rArr cI (wst σ f i x) p = rArr cI σ p := by
  have e : ∀ g, wst σ f i x (40 + p) g = σ (40 + p) g := fun g => wst_f (by omega)
  simp only [rArr, e]
theorem rArr_upd {cI : ClassId} {σ : wS} {p k : Nat} {x : Int32} : (.inl (cI, 10, .inl (upd (fun k => σ (40 + p) k) k x)) : va_E) = rArr cI (wst σ (40 + p) k x) p := by
  have e : upd (fun k => σ (40 + p) k) k x = fun j => wst σ (40 + p) k x (40 + p) j := by
    funext j
    unfold upd wst
    by_cases q : j = k
    · subst q; simp
    · rw [if_neg q, if_neg (by omega)]
  rw [e]
theorem CV.setH {G : wG} {ad : Nat → Nat} {σ : wS} {H H1 : Heap} {h k : Nat} {x : Int32} (hI : adInj ad 19) (hV : CV G ad σ H) (hh : h < 10) (h1 : 1 ≤ k) (h2 : k < 12)
    (e1 : va_at G.1 vwCl (ad (3 + h), .inr (0, (hfs σ h).set k (.int x))) H1) (e3 : ∀ q : Nat, q ≠ ad (3 + h) → H1[q]? = H[q]?) : CV G ad (wst σ (hcol k) h x) H1 := by
  have hc := hcol_le k
  obtain ⟨a, b, c, d, e, f⟩ := hV
  refine ⟨?_, b.kept (e3 _ (adNe hI (by omega) (by omega) (by omega))), c.kept (e3 _ (adNe hI (by omega) (by omega) (by omega))), fun h' hh' => ?_, fun p hp => ?_, fun p hp => ?_⟩
  · rw [vfs_ne (by omega)]
    exact a.kept (e3 _ (adNe hI (by omega) (by omega) (by omega)))
  · by_cases q : h' = h
    · subst q
      rw [← hfs_set h1 h2]
      exact e1
    · rw [hfs_ne (fun _ => q)]
      exact (d h' hh').kept (e3 _ (adNe hI (by omega) (by omega) (by omega)))
  · rw [pfs_ne (by omega)]
    exact (e p hp).kept (e3 _ (adNe hI (by omega) (by omega) (by omega)))
  · rw [rArr_ne (by omega)]
    exact (f p hp).kept (e3 _ (adNe hI (by omega) (by omega) (by omega)))
theorem CV.setP {G : wG} {ad : Nat → Nat} {σ : wS} {H H1 : Heap} {p k : Nat} {x : Int32} (hI : adInj ad 19) (hV : CV G ad σ H) (hp : p < 3) (h1 : k ≠ 6) (h2 : k < 14)
    (e1 : va_at G.1 vwCl (ad (13 + p), .inr (1, (pfs (ad (16 + p)) σ p).set k (.int x))) H1) (e3 : ∀ q : Nat, q ≠ ad (13 + p) → H1[q]? = H[q]?) : CV G ad (wst σ (pcol k) p x) H1 := by
  have hc := pcol_in k
  obtain ⟨a, b, c, d, e, f⟩ := hV
  refine ⟨?_, b.kept (e3 _ (adNe hI (by omega) (by omega) (by omega))), c.kept (e3 _ (adNe hI (by omega) (by omega) (by omega))), fun h hh => ?_, fun p' hp' => ?_, fun p' hp' => ?_⟩
  · rw [vfs_ne (by omega)]
    exact a.kept (e3 _ (adNe hI (by omega) (by omega) (by omega)))
  · rw [hfs_ne (by omega)]
    exact (d h hh).kept (e3 _ (adNe hI (by omega) (by omega) (by omega)))
  · by_cases q : p' = p
    · subst q
      rw [← pfs_set h1 h2]
      exact e1
    · rw [pfs_ne (fun _ _ => q)]
      exact (e p' hp').kept (e3 _ (adNe hI (by omega) (by omega) (by omega)))
  · rw [rArr_ne (by omega)]
    exact (f p' hp').kept (e3 _ (adNe hI (by omega) (by omega) (by omega)))
theorem CV.setV {G : wG} {ad : Nat → Nat} {σ : wS} {H H1 : Heap} {k : Nat} {x : Int32} (hI : adInj ad 19) (hV : CV G ad σ H) (h1 : 2 ≤ k) (h2 : k < 6)
    (e1 : va_at G.1 vwCl (ad 0, .inr (2, (vfs (ad 1) (ad 2) σ).set k (.int x))) H1) (e3 : ∀ q : Nat, q ≠ ad 0 → H1[q]? = H[q]?) : CV G ad (wst σ (vcol k) 0 x) H1 := by
  have hc := vcol_in k
  obtain ⟨a, b, c, d, e, f⟩ := hV
  refine ⟨?_, b.kept (e3 _ (adNe hI (by omega) (by omega) (by omega))), c.kept (e3 _ (adNe hI (by omega) (by omega) (by omega))), fun h hh => ?_, fun p hp => ?_, fun p hp => ?_⟩
  · rw [← vfs_set h1 h2]
    exact e1
  · rw [hfs_ne (by omega)]
    exact (d h hh).kept (e3 _ (adNe hI (by omega) (by omega) (by omega)))
  · rw [pfs_ne (by omega)]
    exact (e p hp).kept (e3 _ (adNe hI (by omega) (by omega) (by omega)))
  · rw [rArr_ne (by omega)]
    exact (f p hp).kept (e3 _ (adNe hI (by omega) (by omega) (by omega)))
theorem CV.setR {G : wG} {ad : Nat → Nat} {σ : wS} {H H1 : Heap} {p k : Nat} {x : Int32} (hI : adInj ad 19) (hV : CV G ad σ H) (hp : p < 3)
    (e1 : va_at G.1 vwCl (ad (16 + p), rArr G.2.1 (wst σ (40 + p) k x) p) H1) (e3 : ∀ q : Nat, q ≠ ad (16 + p) → H1[q]? = H[q]?) : CV G ad (wst σ (40 + p) k x) H1 := by
  obtain ⟨a, b, c, d, e, f⟩ := hV
  refine ⟨?_, b.kept (e3 _ (adNe hI (by omega) (by omega) (by omega))), c.kept (e3 _ (adNe hI (by omega) (by omega) (by omega))), fun h hh => ?_, fun p' hp' => ?_, fun p' hp' => ?_⟩
  · rw [vfs_ne (by omega)]
    exact a.kept (e3 _ (adNe hI (by omega) (by omega) (by omega)))
  · rw [hfs_ne (by omega)]
    exact (d h hh).kept (e3 _ (adNe hI (by omega) (by omega) (by omega)))
  · rw [pfs_ne (by omega)]
    exact (e p' hp').kept (e3 _ (adNe hI (by omega) (by omega) (by omega)))
  · by_cases q : p' = p
    · subst q
      exact e1
    · rw [rArr_ne (by omega)]
      exact (f p' hp').kept (e3 _ (adNe hI (by omega) (by omega) (by omega)))
end
section
/-! ===== rows of the machine over a village ===== -/
theorem va_P1 {D : va_G} {cl : List vw_C} {q : Nat × va_E} {H : Heap} (h : va_at D cl q H) : va_P D cl [q] H := by
  intro k x hk
  match k, hk with
  | 0, hk => cases hk; exact h
  | k + 1, hk => simp at hk
theorem TX0_1 (k : Nat) : (TX0 k).1 = RX0 := by unfold TX0; split <;> rfl
theorem TX1_1 (k : Nat) : (TX1 k).1 = RX1 := by unfold TX1; split <;> rfl
theorem TX2_1 (k : Nat) : (TX2 k).1 = RX2 := by unfold TX2; split <;> rfl
theorem TX3_1 (k : Nat) : (TX3 k).1 = RX3 := by unfold TX3; split <;> rfl
section XR
variable {p : Program} {l : Launch} {e : Env} {R : Room} {s : State} {m : MethodId} {args : Array Value} {below : List Frame} {meth : Method} {c : Code} {H : Heap} {locs : List Loc} {cells slots : Nat} {Q : State → Prop}
variable {cc : ByteArray} {pc : Nat} {ls : Array Slot} {rest : List Value} {D : va_G} {cl : List vw_C} {A : Nat → Prop} {a : Nat} {tys : List (ClassId × FieldType)} {H0 : Heap}
/-- putfield over one cell: what else the heap holds stays -/
theorem xq_put (hexec : p.tables.exec = Jvm.exec) (hb : c.code = cc) {own ref C : String} {T : u_T} {N ci index : Nat} {Ts : List Cond} (hts : ∀ w ∈ Ts, w.before args s = true) (hin : ∀ w ∈ u_ws C T N, w ∈ Ts) (ty0 : Nat → FieldType) (hty : ∀ k, k < N → parseFieldDescriptor (T k).2.2.1 = some (ty0 k)) (hnm : ∀ a, a < N → ∀ b, b < N → a ≠ b → (T a).2.1 ≠ (T b).2.1) (hown : s.vm.findClass own = some m.cls) (hK : va_K D cl tys s) {fs : List Value} (hq : va_at D cl (a, .inr (ci, fs)) H) (hS0 : va_S A H0 H locs) (hA : A a) (hc : cl[ci]? = some (C, T, N)) (k : Nat) (hk : k < N) (hlink : (Cond.fieldLink own index ref (T k).2.1 (T k).2.2.1).before args s = true) (hsame : ∀ x, s.fieldFound? (T k).1 (T k).2.1 (T k).2.2.1 = some x → s.fieldFound? ref (T k).2.1 (T k).2.2.1 = some x) (hfin : (T k).2.2.2 = false) {v : Value} (hn : narrow (ty0 k) v = v) (hfit : fits (ty0 k) v = true) (hl : k < fs.length)
    (hdg : decode cc pc = .ok (.putfield index, 3)) (kk : ∀ (H1 : Heap) (locs1 : List Loc), va_at D cl (a, .inr (ci, fs.set k v)) H1 → (∀ q : Nat, q ≠ a → H1[q]? = H[q]?) → va_S A H0 H1 locs1 → W p l e R s m args below meth c H1 locs1 cells slots Q (F0 m (pc + 3) ls rest)) : W p l e R s m args below meth c H locs cells slots Q (F0 m pc ls (v :: .ref a :: rest)) := by
  have hap := va_apart (own := own) hts hin ty0 hty hnm hK hc
  obtain ⟨r, h1, cell, q1, q2, q3, q4⟩ := hq
  have hr : r = (C, T, N) := Option.some.inj (h1.symm.trans hc)
  subst hr
  obtain ⟨hS, hfc, kC, hkC, hkind⟩ := hK.1 ci _ hc
  obtain ⟨cf, kf, fi, f, hi, hsl⟩ := hS k hk
  have hlay := hts _ (hin _ (u_in_lay hk))
  unfold u_lay at hlay
  rw [if_neg (by rw [hfin]; decide)] at hlay
  have hst := (u_facts hfc hkC (u_lays hts hin hk) hi).1
  have h6 := u_store hfc hkC hkind hlay hi (hty k hk) hn hfit
  refine W.putK hexec hb (f := f) ⟨hown, hlink, ⟨_, _, _, hsame _ hi⟩, hst⟩ (by rw [q2]; exact h6) q1 q3 (by rw [hsl]; exact k2_hasslot (q4 k hk)) rfl rfl hdg fun H' e1 e2 e3 => ?_
  rw [hsl] at e1 ⊢
  exact kk H' _ ⟨_, hc, t_OB.to (V := updV (vp_V fs) k v) ⟨_, e1, q2, q3, t_set q4 hap hk v⟩ (fun j _ => vp_updV_set hl v j)⟩ e3 (hS0.put e2 e3 hA)
theorem xq_putN (hexec : p.tables.exec = Jvm.exec) (hb : c.code = cc) {own ref C host : String} {T : u_T} {N ci index : Nat} {Ts : List Cond} (hts : ∀ w ∈ Ts, w.before args s = true) (hin : ∀ w ∈ u_ws C T N, w ∈ Ts) (ty0 : Nat → FieldType) (hty : ∀ k, k < N → parseFieldDescriptor (T k).2.2.1 = some (ty0 k)) (hnm : ∀ a, a < N → ∀ b, b < N → a ≠ b → (T a).2.1 ≠ (T b).2.1) (hown : s.vm.findClass own = some m.cls) (hK : va_K D cl tys s) {fs : List Value} (hq : va_at D cl (a, .inr (ci, fs)) H) (hS0 : va_S A H0 H locs) (hA : A a) (hc : cl[ci]? = some (C, T, N)) (k : Nat) (hk : k < N) (hlink : (Cond.fieldLinkNest own index ref (T k).2.1 (T k).2.2.1 host).before args s = true) (hsame : ∀ x, s.fieldFound? (T k).1 (T k).2.1 (T k).2.2.1 = some x → s.fieldFound? ref (T k).2.1 (T k).2.2.1 = some x) (hfin : (T k).2.2.2 = false) {v : Value} (hn : narrow (ty0 k) v = v) (hfit : fits (ty0 k) v = true) (hl : k < fs.length)
    (hdg : decode cc pc = .ok (.putfield index, 3)) (kk : ∀ (H1 : Heap) (locs1 : List Loc), va_at D cl (a, .inr (ci, fs.set k v)) H1 → (∀ q : Nat, q ≠ a → H1[q]? = H[q]?) → va_S A H0 H1 locs1 → W p l e R s m args below meth c H1 locs1 cells slots Q (F0 m (pc + 3) ls rest)) : W p l e R s m args below meth c H locs cells slots Q (F0 m pc ls (v :: .ref a :: rest)) := by
  have hap := va_apart (own := own) hts hin ty0 hty hnm hK hc
  obtain ⟨r, h1, cell, q1, q2, q3, q4⟩ := hq
  have hr : r = (C, T, N) := Option.some.inj (h1.symm.trans hc)
  subst hr
  obtain ⟨hS, hfc, kC, hkC, hkind⟩ := hK.1 ci _ hc
  obtain ⟨cf, kf, fi, f, hi, hsl⟩ := hS k hk
  have hlay := hts _ (hin _ (u_in_lay hk))
  unfold u_lay at hlay
  rw [if_neg (by rw [hfin]; decide)] at hlay
  have hst := (u_facts hfc hkC (u_lays hts hin hk) hi).1
  have h6 := u_store hfc hkC hkind hlay hi (hty k hk) hn hfit
  refine va_WputK hexec hb (f := f) hown hlink (hsame _ hi) hst (by rw [q2]; exact h6) q1 q3 (by rw [hsl]; exact k2_hasslot (q4 k hk)) rfl rfl hdg fun H' e1 e2 e3 => ?_
  rw [hsl] at e1 ⊢
  exact kk H' _ ⟨_, hc, t_OB.to (V := updV (vp_V fs) k v) ⟨_, e1, q2, q3, t_set q4 hap hk v⟩ (fun j _ => vp_updV_set hl v j)⟩ e3 (hS0.put e2 e3 hA)
theorem xq_iast (hexec : p.tables.exec = Jvm.exec) (hb : c.code = cc) (hK : va_K D cl tys s) {cA : ClassId} {n : Nat} {f : Nat → Int32} (hq : va_at D cl (a, .inl (cA, n, .inl f)) H) (hS : va_S A H0 H locs) (hA : A a) (t0 : Nat) (ht : tys[t0]? = some (cA, .int)) {i : Int32} {x : Int32} (hin : vp_in i n) (hdg : decode cc pc = .ok (.iastore, 1))
    (kk : ∀ (H1 : Heap) (locs1 : List Loc), va_at D cl (a, .inl (cA, n, .inl (upd f i.toNatClampNeg x))) H1 → (∀ q : Nat, q ≠ a → H1[q]? = H[q]?) → va_S A H0 H1 locs1 → W p l e R s m args below meth c H1 locs1 cells slots Q (F0 m (pc + 1) ls rest)) : W p l e R s m args below meth c H locs cells slots Q (F0 m pc ls (.int x :: .int i :: .ref a :: rest)) := by
  refine W.iast hexec hb hq ((hK.2 t0 _ ht).1 n (fun j => .int (f j))) (fun q => by cases q) (by show ¬ (i < 0 ∨ (arrV _ _ _).slots.size ≤ _); rw [arrV_size]; exact hin) rfl rfl hdg fun H1 e z oq => ?_
  refine kk H1 _ ?_ oq (hS.put z oq hA)
  show H1[a]? = some (vp_cell _ _)
  rw [e]
  rw [vp_cell_i, vp_cell_i, arrV_store]
  congr 2
  funext q
  by_cases hq : q = i.toNatClampNeg
  · subst hq
    simp [updV, upd]
  · simp [updV, upd, hq]
theorem xq_zast (hexec : p.tables.exec = Jvm.exec) (hb : c.code = cc) (hK : va_K D cl tys s) {cA : ClassId} {n : Nat} {f : Nat → Int32} (hq : va_at D cl (a, .inl (cA, n, .inl f)) H) (hS : va_S A H0 H locs) (hA : A a) (t0 : Nat) (ht : tys[t0]? = some (cA, .boolean)) {i : Int32} {x : Int32} (hin : vp_in i n) (hx01 : vp_nar .boolean x = x) (hdg : decode cc pc = .ok (.bastore, 1))
    (kk : ∀ (H1 : Heap) (locs1 : List Loc), va_at D cl (a, .inl (cA, n, .inl (upd f i.toNatClampNeg x))) H1 → (∀ q : Nat, q ≠ a → H1[q]? = H[q]?) → va_S A H0 H1 locs1 → W p l e R s m args below meth c H1 locs1 cells slots Q (F0 m (pc + 1) ls rest)) : W p l e R s m args below meth c H locs cells slots Q (F0 m pc ls (.int x :: .int i :: .ref a :: rest)) := by
  refine W.zast hexec hb hq ((hK.2 t0 _ ht).1 n (fun j => .int (f j))) (fun q => by cases q) (by show ¬ (i < 0 ∨ (arrV _ _ _).slots.size ≤ _); rw [arrV_size]; exact hin) rfl rfl hdg fun H1 e z oq => ?_
  refine kk H1 _ ?_ oq (hS.put z oq hA)
  have hx9 : narrow .boolean (.int x) = .int x := by
    have h8 := hx01
    unfold vp_nar at h8
    revert h8
    cases hn : narrow .boolean (.int x) <;> simp_all [narrow]
  show H1[a]? = some (vp_cell _ _)
  rw [e]
  rw [vp_cell_i, vp_cell_i, arrV_store]
  congr 2
  funext q
  by_cases hq : q = i.toNatClampNeg
  · subst hq
    simp [updV, upd, hx9]
  · simp [updV, upd, hq]
/-- a loop that counts up: I at its head -/
theorem W_up (n : Nat) (I : Nat → Heap → List Loc → Array Slot → Prop)
    (hs : ∀ i H locs ls, i ≤ n → I i H locs ls → (i < n → ∀ H' locs' ls', I (i + 1) H' locs' ls' → W p l e R s m args below meth c H' locs' cells slots Q (F0 m pc ls' [])) → W p l e R s m args below meth c H locs cells slots Q (F0 m pc ls [])) :
    ∀ i, i ≤ n → ∀ H locs ls, I i H locs ls → W p l e R s m args below meth c H locs cells slots Q (F0 m pc ls []) := by
  have key : ∀ k i, i ≤ n → n - i = k → ∀ H locs ls, I i H locs ls → W p l e R s m args below meth c H locs cells slots Q (F0 m pc ls []) := by
    intro k
    induction k with
    | zero => exact fun i hi hk H locs ls h => hs i H locs ls hi h (fun hlt => absurd hlt (by omega))
    | succ k ih => exact fun i hi hk H locs ls h => hs i H locs ls hi h (fun hlt H' locs' ls' h' => ih (i + 1) (by omega) (by omega) H' locs' ls' h')
  exact fun i hi H locs ls h => key _ i hi rfl H locs ls h
end XR
section XV
variable {p : Program} {l : Launch} {e : Env} {R : Room} {s : State} {m : MethodId} {args : Array Value} {below : List Frame} {meth : Method} {c : Code} {H : Heap} {locs : List Loc} {cells slots : Nat} {Q : State → Prop}
variable {cc : ByteArray} {pc : Nat} {ls : Array Slot} {rest : List Value} {A : Nat → Prop} {H0 : Heap} {G : wG} {ad : Nat → Nat} {nH nP : Nat} {δ τ : wS} {Ts : List Cond} {own : String} {index : Nat}
/-- a House's field -/
theorem rH (k : Nat) (hexec : p.tables.exec = Jvm.exec) (hb : c.code = cc) (hts : ∀ w ∈ Ts, w.before args s = true) (hin : ∀ w ∈ wsX00, w ∈ Ts) (hown : s.vm.findClass own = some m.cls) (hK : wK G s) (hV : CVm G ad nH nP δ τ H) {h f : Nat} (hh : h < nH) (hn : nH ≤ 10) (h1 : 1 ≤ k) (h2 : k < 12) (hf : hcol k = f) {v : Int32} (hv : τ f h = v) (hlink : (Cond.fieldLink own index RX0 (TX0 k).2.1 (TX0 k).2.2.1).before args s = true) (hdg : decode cc pc = .ok (.getfield index, 3))
    (kk : W p l e R s m args below meth c H locs cells slots Q (F0 m (pc + 3) ls (.int v :: rest))) : W p l e R s m args below meth c H locs cells slots Q (F0 m pc ls (.ref (ad (3 + h)) :: rest)) := by
  subst hf
  refine va_get (ci := 0) (C := RX0) (T := TX0) (N := 12) hexec hb hts hin hown hK (va_P1 (hV.2.2.2.1 h (by omega))) 0 rfl rfl k h2 hlink (fun x h9 => by rw [TX0_1 k] at h9; exact h9) (hfs_get h1 h2) hdg ?_
  rw [wmx_r (wact_h (hcol_le k) hh), hv]
  exact kk
/-- a House's number -/
theorem rHn (hexec : p.tables.exec = Jvm.exec) (hb : c.code = cc) (hts : ∀ w ∈ Ts, w.before args s = true) (hin : ∀ w ∈ wsX00, w ∈ Ts) (hown : s.vm.findClass own = some m.cls) (hK : wK G s) (hV : CVm G ad nH nP δ τ H) {h : Nat} (hh : h < 10) (hlink : (Cond.fieldLink own index RX0 (TX0 0).2.1 (TX0 0).2.2.1).before args s = true) (hdg : decode cc pc = .ok (.getfield index, 3))
    (kk : W p l e R s m args below meth c H locs cells slots Q (F0 m (pc + 3) ls (.int (nI h) :: rest))) : W p l e R s m args below meth c H locs cells slots Q (F0 m pc ls (.ref (ad (3 + h)) :: rest)) :=
  va_get (ci := 0) (C := RX0) (T := TX0) (N := 12) hexec hb hts hin hown hK (va_P1 (hV.2.2.2.1 h hh)) 0 rfl rfl 0 (by omega) hlink (fun _ h9 => h9) rfl hdg kk
theorem rP (k : Nat) (hexec : p.tables.exec = Jvm.exec) (hb : c.code = cc) (hts : ∀ w ∈ Ts, w.before args s = true) (hin : ∀ w ∈ wsX10, w ∈ Ts) (hown : s.vm.findClass own = some m.cls) (hK : wK G s) (hV : CVm G ad nH nP δ τ H) {h f : Nat} (hh : h < nP) (hn : nP ≤ 3) (h1 : k ≠ 6) (h2 : k < 14) (hf : pcol k = f) {v : Int32} (hv : τ f h = v) (hlink : (Cond.fieldLink own index RX1 (TX1 k).2.1 (TX1 k).2.2.1).before args s = true) (hdg : decode cc pc = .ok (.getfield index, 3))
    (kk : W p l e R s m args below meth c H locs cells slots Q (F0 m (pc + 3) ls (.int v :: rest))) : W p l e R s m args below meth c H locs cells slots Q (F0 m pc ls (.ref (ad (13 + h)) :: rest)) := by
  subst hf
  have hp := pcol_in k
  refine va_get (ci := 1) (C := RX1) (T := TX1) (N := 14) hexec hb hts hin hown hK (va_P1 (hV.2.2.2.2.1 h (by omega))) 0 rfl rfl k h2 hlink (fun x h9 => by rw [TX1_1 k] at h9; exact h9) (pfs_get h1 h2) hdg ?_
  rw [wmx_r (wact_pp (by omega) hp.2 hh), hv]
  exact kk
theorem rPr (hexec : p.tables.exec = Jvm.exec) (hb : c.code = cc) (hts : ∀ w ∈ Ts, w.before args s = true) (hin : ∀ w ∈ wsX10, w ∈ Ts) (hown : s.vm.findClass own = some m.cls) (hK : wK G s) (hV : CVm G ad nH nP δ τ H) {h : Nat} (hh : h < 3) (hlink : (Cond.fieldLink own index RX1 (TX1 6).2.1 (TX1 6).2.2.1).before args s = true) (hdg : decode cc pc = .ok (.getfield index, 3))
    (kk : W p l e R s m args below meth c H locs cells slots Q (F0 m (pc + 3) ls (.ref (ad (16 + h)) :: rest))) : W p l e R s m args below meth c H locs cells slots Q (F0 m pc ls (.ref (ad (13 + h)) :: rest)) :=
  va_get (ci := 1) (C := RX1) (T := TX1) (N := 14) hexec hb hts hin hown hK (va_P1 (hV.2.2.2.2.1 h hh)) 0 rfl rfl 6 (by omega) hlink (fun _ h9 => h9) rfl hdg kk
theorem rV (k : Nat) (hexec : p.tables.exec = Jvm.exec) (hb : c.code = cc) (hts : ∀ w ∈ Ts, w.before args s = true) (hin : ∀ w ∈ wsX20, w ∈ Ts) (hown : s.vm.findClass own = some m.cls) (hK : wK G s) (hV : CVm G ad nH nP δ τ H) {f : Nat} (h1 : 2 ≤ k) (h2 : k < 6) (hf : vcol k = f) {v : Int32} (hv : τ f 0 = v) (hlink : (Cond.fieldLink own index RX2 (TX2 k).2.1 (TX2 k).2.2.1).before args s = true) (hdg : decode cc pc = .ok (.getfield index, 3))
    (kk : W p l e R s m args below meth c H locs cells slots Q (F0 m (pc + 3) ls (.int v :: rest))) : W p l e R s m args below meth c H locs cells slots Q (F0 m pc ls (.ref (ad 0) :: rest)) := by
  subst hf
  have hp := vcol_in k
  refine va_get (ci := 2) (C := RX2) (T := TX2) (N := 6) hexec hb hts hin hown hK (va_P1 hV.1) 0 rfl rfl k h2 hlink (fun x h9 => by rw [TX2_1 k] at h9; exact h9) (vfs_get h1 h2) hdg ?_
  rw [wmx_r (wact_v (by omega)), hv]
  exact kk
theorem rVh (hexec : p.tables.exec = Jvm.exec) (hb : c.code = cc) (hts : ∀ w ∈ Ts, w.before args s = true) (hin : ∀ w ∈ wsX20, w ∈ Ts) (hown : s.vm.findClass own = some m.cls) (hK : wK G s) (hV : CVm G ad nH nP δ τ H) (hlink : (Cond.fieldLink own index RX2 (TX2 0).2.1 (TX2 0).2.2.1).before args s = true) (hdg : decode cc pc = .ok (.getfield index, 3))
    (kk : W p l e R s m args below meth c H locs cells slots Q (F0 m (pc + 3) ls (.ref (ad 1) :: rest))) : W p l e R s m args below meth c H locs cells slots Q (F0 m pc ls (.ref (ad 0) :: rest)) :=
  va_get (ci := 2) (C := RX2) (T := TX2) (N := 6) hexec hb hts hin hown hK (va_P1 hV.1) 0 rfl rfl 0 (by omega) hlink (fun _ h9 => h9) rfl hdg kk
theorem rVp (hexec : p.tables.exec = Jvm.exec) (hb : c.code = cc) (hts : ∀ w ∈ Ts, w.before args s = true) (hin : ∀ w ∈ wsX20, w ∈ Ts) (hown : s.vm.findClass own = some m.cls) (hK : wK G s) (hV : CVm G ad nH nP δ τ H) (hlink : (Cond.fieldLink own index RX2 (TX2 1).2.1 (TX2 1).2.2.1).before args s = true) (hdg : decode cc pc = .ok (.getfield index, 3))
    (kk : W p l e R s m args below meth c H locs cells slots Q (F0 m (pc + 3) ls (.ref (ad 2) :: rest))) : W p l e R s m args below meth c H locs cells slots Q (F0 m pc ls (.ref (ad 0) :: rest)) :=
  va_get (ci := 2) (C := RX2) (T := TX2) (N := 6) hexec hb hts hin hown hK (va_P1 hV.1) 0 rfl rfl 1 (by omega) hlink (fun _ h9 => h9) rfl hdg kk
theorem rHA (hexec : p.tables.exec = Jvm.exec) (hb : c.code = cc) (hK : wK G s) (hV : CVm G ad nH nP δ τ H) {h : Nat} (hh : h < 10) (hdg : decode cc pc = .ok (.aaload, 1))
    (kk : W p l e R s m args below meth c H locs cells slots Q (F0 m (pc + 1) ls (.ref (ad (3 + h)) :: rest))) : W p l e R s m args below meth c H locs cells slots Q (F0 m pc ls (.int (nI h) :: .ref (ad 1) :: rest)) := by
  refine va_aldq hexec hb hK (va_P1 hV.2.1) 0 2 rfl rfl (vp_in_nI hh (by omega)) hdg ?_
  rw [nI_clamp (show h < 2 ^ 31 by omega)]
  exact kk
theorem rPA (hexec : p.tables.exec = Jvm.exec) (hb : c.code = cc) (hK : wK G s) (hV : CVm G ad nH nP δ τ H) {h : Nat} (hh : h < 3) (hdg : decode cc pc = .ok (.aaload, 1))
    (kk : W p l e R s m args below meth c H locs cells slots Q (F0 m (pc + 1) ls (.ref (ad (13 + h)) :: rest))) : W p l e R s m args below meth c H locs cells slots Q (F0 m pc ls (.int (nI h) :: .ref (ad 2) :: rest)) := by
  refine va_aldq hexec hb hK (va_P1 hV.2.2.1) 0 3 rfl rfl (vp_in_nI hh (by omega)) hdg ?_
  rw [nI_clamp (show h < 2 ^ 31 by omega)]
  exact kk
theorem rRo (hexec : p.tables.exec = Jvm.exec) (hb : c.code = cc) (hK : wK G s) (hV : CVm G ad nH nP δ τ H) {h k : Nat} (hh : h < nP) (hn : nP ≤ 3) (hk : k < 10) {v : Int32} (hv : τ (40 + h) k = v) (hdg : decode cc pc = .ok (.iaload, 1))
    (kk : W p l e R s m args below meth c H locs cells slots Q (F0 m (pc + 1) ls (.int v :: rest))) : W p l e R s m args below meth c H locs cells slots Q (F0 m pc ls (.int (nI k) :: .ref (ad (16 + h)) :: rest)) := by
  refine va_iald hexec hb hK (va_P1 (hV.2.2.2.2.2 h (by omega))) 0 0 rfl rfl (vp_in_nI hk (by omega)) hdg ?_
  rw [nI_clamp (show k < 2 ^ 31 by omega), wmx_r (wact_r hh hn), hv]
  exact kk
theorem wH (k : Nat) (hexec : p.tables.exec = Jvm.exec) (hb : c.code = cc) (hts : ∀ w ∈ Ts, w.before args s = true) (hin : ∀ w ∈ wsX00, w ∈ Ts) (hown : s.vm.findClass own = some m.cls) (hK : wK G s) (hI : adInj ad 19) (hV : CVm G ad nH nP δ τ H) (hS : va_S (AV ad 19) H0 H locs) {h f : Nat} {x : Int32} (hh : h < nH) (hn : nH ≤ 10) (h1 : 1 ≤ k) (h2 : k < 12) (hf : hcol k = f) (hlink : (Cond.fieldLink own index RX0 (TX0 k).2.1 (TX0 k).2.2.1).before args s = true) (hdg : decode cc pc = .ok (.putfield index, 3))
    (kk : ∀ (H1 : Heap) (locs1 : List Loc), CVm G ad nH nP δ (wst τ f h x) H1 → va_S (AV ad 19) H0 H1 locs1 → W p l e R s m args below meth c H1 locs1 cells slots Q (F0 m (pc + 3) ls rest)) : W p l e R s m args below meth c H locs cells slots Q (F0 m pc ls (.int x :: .ref (ad (3 + h)) :: rest)) := by
  subst hf
  have hty : tyX0 k = .int := by unfold tyX0; split <;> rfl
  refine xq_put (ci := 0) (C := RX0) (T := TX0) (N := 12) hexec hb hts hin tyX0 tyX0_ok nmX0 hown hK (hV.2.2.2.1 h (by omega)) hS ⟨3 + h, by omega, rfl⟩ rfl k h2 hlink (fun x h9 => by rw [TX0_1 k] at h9; exact h9) (by unfold TX0; split <;> first | rfl | omega) (by rw [hty]; rfl) (by rw [hty]; rfl) (show k < 12 from h2) hdg (fun H1 locs1 e1 e3 hS1 => ?_)
  have hV1 := CV.setH hI hV (by omega) h1 h2 e1 e3
  rw [wmx_w (wact_h (hcol_le k) hh)] at hV1
  exact kk H1 locs1 hV1 hS1
theorem wP (k : Nat) (hexec : p.tables.exec = Jvm.exec) (hb : c.code = cc) (hts : ∀ w ∈ Ts, w.before args s = true) (hin : ∀ w ∈ wsX10, w ∈ Ts) (hown : s.vm.findClass own = some m.cls) (hK : wK G s) (hI : adInj ad 19) (hV : CVm G ad nH nP δ τ H) (hS : va_S (AV ad 19) H0 H locs) {h f : Nat} {x : Int32} (hh : h < nP) (hn : nP ≤ 3) (h1 : k ≠ 6) (h2 : k < 14) (hf : pcol k = f) (hx1 : narrow (tyX1 k) (.int x) = .int x) (hx2 : fits (tyX1 k) (.int x) = true) (hlink : (Cond.fieldLink own index RX1 (TX1 k).2.1 (TX1 k).2.2.1).before args s = true) (hdg : decode cc pc = .ok (.putfield index, 3))
    (kk : ∀ (H1 : Heap) (locs1 : List Loc), CVm G ad nH nP δ (wst τ f h x) H1 → va_S (AV ad 19) H0 H1 locs1 → W p l e R s m args below meth c H1 locs1 cells slots Q (F0 m (pc + 3) ls rest)) : W p l e R s m args below meth c H locs cells slots Q (F0 m pc ls (.int x :: .ref (ad (13 + h)) :: rest)) := by
  subst hf
  have hp := pcol_in k
  refine xq_put (ci := 1) (C := RX1) (T := TX1) (N := 14) hexec hb hts hin tyX1 tyX1_ok nmX1 hown hK (hV.2.2.2.2.1 h (by omega)) hS ⟨13 + h, by omega, rfl⟩ rfl k h2 hlink (fun x h9 => by rw [TX1_1 k] at h9; exact h9) (by unfold TX1; split <;> first | rfl | omega) hx1 hx2 (show k < 14 from h2) hdg (fun H1 locs1 e1 e3 hS1 => ?_)
  have hV1 := CV.setP hI hV (by omega) h1 h2 e1 e3
  rw [wmx_w (wact_pp (by omega) hp.2 hh)] at hV1
  exact kk H1 locs1 hV1 hS1
theorem wV (k : Nat) (hexec : p.tables.exec = Jvm.exec) (hb : c.code = cc) (hts : ∀ w ∈ Ts, w.before args s = true) (hin : ∀ w ∈ wsX20, w ∈ Ts) (hown : s.vm.findClass own = some m.cls) (hK : wK G s) (hI : adInj ad 19) (hV : CVm G ad nH nP δ τ H) (hS : va_S (AV ad 19) H0 H locs) {f : Nat} {x : Int32} (h1 : 2 ≤ k) (h2 : k < 6) (hf : vcol k = f) (hlink : (Cond.fieldLink own index RX2 (TX2 k).2.1 (TX2 k).2.2.1).before args s = true) (hdg : decode cc pc = .ok (.putfield index, 3))
    (kk : ∀ (H1 : Heap) (locs1 : List Loc), CVm G ad nH nP δ (wst τ f 0 x) H1 → va_S (AV ad 19) H0 H1 locs1 → W p l e R s m args below meth c H1 locs1 cells slots Q (F0 m (pc + 3) ls rest)) : W p l e R s m args below meth c H locs cells slots Q (F0 m pc ls (.int x :: .ref (ad 0) :: rest)) := by
  subst hf
  have hp := vcol_in k
  have hty : tyX2 k = .int := by unfold tyX2; split <;> first | rfl | omega
  refine xq_put (ci := 2) (C := RX2) (T := TX2) (N := 6) hexec hb hts hin tyX2 tyX2_ok nmX2 hown hK hV.1 hS ⟨0, by omega, rfl⟩ rfl k h2 hlink (fun x h9 => by rw [TX2_1 k] at h9; exact h9) (by unfold TX2; split <;> first | rfl | omega) (by rw [hty]; rfl) (by rw [hty]; rfl) (show k < 6 from h2) hdg (fun H1 locs1 e1 e3 hS1 => ?_)
  have hV1 := CV.setV hI hV h1 h2 e1 e3
  rw [wmx_w (wact_v (by omega))] at hV1
  exact kk H1 locs1 hV1 hS1
theorem wRo (hexec : p.tables.exec = Jvm.exec) (hb : c.code = cc) (hK : wK G s) (hI : adInj ad 19) (hV : CVm G ad nH nP δ τ H) (hS : va_S (AV ad 19) H0 H locs) {h k : Nat} {x : Int32} (hh : h < nP) (hn : nP ≤ 3) (hk : k < 10) (hdg : decode cc pc = .ok (.iastore, 1))
    (kk : ∀ (H1 : Heap) (locs1 : List Loc), CVm G ad nH nP δ (wst τ (40 + h) k x) H1 → va_S (AV ad 19) H0 H1 locs1 → W p l e R s m args below meth c H1 locs1 cells slots Q (F0 m (pc + 1) ls rest)) : W p l e R s m args below meth c H locs cells slots Q (F0 m pc ls (.int x :: .int (nI k) :: .ref (ad (16 + h)) :: rest)) := by
  refine xq_iast hexec hb hK (hV.2.2.2.2.2 h (by omega)) hS ⟨16 + h, by omega, rfl⟩ 0 rfl (vp_in_nI hk (by omega)) hdg (fun H1 locs1 e1 e3 hS1 => ?_)
  rw [nI_clamp (show k < 2 ^ 31 by omega), rArr_upd] at e1
  have hV1 := CV.setR hI hV (by omega) e1 e3
  rw [wmx_w (wact_r hh hn)] at hV1
  exact kk H1 locs1 hV1 hS1
end XV
/-! ===== contracts over a village, and calls by them ===== -/
def Pc0 (G : wG) (av : List Value) (B : Heap → Prop) : Array Value → State → Prop := va_Pc av (fun U => B U.heap ∧ wK G U)
theorem Pc0.blind {G : wG} {av : List Value} {B : Heap → Prop} : FrameBlind (Pc0 G av B) := fun a U g mk q => ⟨q.1, q.2.1, va_K.moved (u := U) (U := U.calling g mk a) (Vm.Alike.refl U.vm) q.2.2⟩
def Qi0 (v : Int32) (B : Heap → Prop) (A : Nat → Prop) : Array Value → State → Outcome → State → Prop := va_Qi (S := Unit) (fun r _ => r = v) (fun _ t => B t.heap) A
def Ql0 (v : Int64) (B : Heap → Prop) (A : Nat → Prop) : Array Value → State → Outcome → State → Prop := va_Ql (S := Unit) (fun r _ => r = v) (fun _ t => B t.heap) A
def Qv0 (B : Heap → Prop) (A : Nat → Prop) : Array Value → State → Outcome → State → Prop := va_Qv (S := Unit) (fun _ => True) (fun _ t => B t.heap) A
theorem Pc0.pre {G : wG} {av : List Value} {B : Heap → Prop} {s : State} {H : Heap} (hB : B H) (hK : wK G s) : ∀ U : State, U.heap = H → s.WarmedH U.vm → Pc0 G av B av.toArray U := fun U hU hW => ⟨rfl, by rw [hU]; exact hB, va_K.moved hW.alike hK⟩
section XC
variable {p : Program} {l : Launch} {e : Env} {R : Room} {s : State} {m : MethodId} {args : Array Value} {below : List Frame} {meth : Method} {c : Code} {H : Heap} {locs : List Loc} {cells slots : Nat} {Q : State → Prop}
variable {pc : Nat} {ls : Array Slot} {rest st0 : List Value} {a : Array Value} {A0 A1 : Nat → Prop} {H0 : Heap} {mc ms : Nat} {free : Addr → Prop} {B : Heap → Prop}
theorem kI {v : Int32} (hr : va_Run p l e R s m args below meth c H locs cells slots mc ms (F0 m pc ls st0) rest (Qi0 v B A1 a) free) (hS : va_S A0 H0 H locs) (hA : ∀ q, q < H.size → A1 q → A0 q) (hf : ∀ q, free q → A0 q)
    (kk : ∀ (H1 : Heap) (locs1 : List Loc), B H1 → H.size ≤ H1.size → (∀ q : Nat, q < H.size → ¬ A1 q → H1[q]? = H[q]?) → va_S A0 H0 H1 locs1 → W p l e R s m args below meth c H1 locs1 (cells + mc) (slots + ms) Q (F0 m (pc + 3) ls (.int v :: rest))) : W p l e R s m args below meth c H locs cells slots Q (F0 m pc ls st0) := by
  refine va_calli hr hS hA hf (fun r u t H1 locs1 ht hvm hw hB hz1 hk1 hS1 => ?_)
  subst hw
  rw [ht] at hB
  exact kk H1 locs1 hB hz1 hk1 hS1
theorem kL {v : Int64} (hr : va_Run p l e R s m args below meth c H locs cells slots mc ms (F0 m pc ls st0) rest (Ql0 v B A1 a) free) (hS : va_S A0 H0 H locs) (hA : ∀ q, q < H.size → A1 q → A0 q) (hf : ∀ q, free q → A0 q)
    (kk : ∀ (H1 : Heap) (locs1 : List Loc), B H1 → H.size ≤ H1.size → (∀ q : Nat, q < H.size → ¬ A1 q → H1[q]? = H[q]?) → va_S A0 H0 H1 locs1 → W p l e R s m args below meth c H1 locs1 (cells + mc) (slots + ms) Q (F0 m (pc + 3) ls (.long v :: rest))) : W p l e R s m args below meth c H locs cells slots Q (F0 m pc ls st0) := by
  refine va_calll hr hS hA hf (fun r u t H1 locs1 ht hvm hw hB hz1 hk1 hS1 => ?_)
  subst hw
  rw [ht] at hB
  exact kk H1 locs1 hB hz1 hk1 hS1
theorem kV (hr : va_Run p l e R s m args below meth c H locs cells slots mc ms (F0 m pc ls st0) rest (Qv0 B A1 a) free) (hS : va_S A0 H0 H locs) (hA : ∀ q, q < H.size → A1 q → A0 q) (hf : ∀ q, free q → A0 q)
    (kk : ∀ (H1 : Heap) (locs1 : List Loc), B H1 → H.size ≤ H1.size → (∀ q : Nat, q < H.size → ¬ A1 q → H1[q]? = H[q]?) → va_S A0 H0 H1 locs1 → W p l e R s m args below meth c H1 locs1 (cells + mc) (slots + ms) Q (F0 m (pc + 3) ls rest)) : W p l e R s m args below meth c H locs cells slots Q (F0 m pc ls st0) := by
  refine va_callv hr hS hA hf (fun u t H1 locs1 ht hvm hw hB hz1 hk1 hS1 => ?_)
  rw [ht] at hB
  exact kk H1 locs1 hB hz1 hk1 hS1
end XC
section XE
variable {p : Program} {l : Launch} {e : Env} {R : Room} {s : State} {m : MethodId} {args : Array Value} {below : List Frame} {meth : Method} {c : Code} {H : Heap} {locs : List Loc} {cells slots : Nat}
variable {cc : ByteArray} {pc : Nat} {ls : Array Slot} {A free : Nat → Prop} {B : Heap → Prop}
theorem xI {v w : Int32} (hexec : p.tables.exec = Jvm.exec) (hb : c.code = cc) (hr : meth.sig.returnType = some .int) (hlocks : meth.locks = false) (hB : B H) (hS : va_S A s.heap H locs) (hv : v = w) (hdg : decode cc pc = .ok (.ireturn, 1)) :
    W p l e R s m args below meth c H locs cells slots (MQ below (Qi0 w B A) args s cells slots A) (F0 m pc ls [.int v]) := by
  subst hv
  exact W.iret hexec hb hr (fun t ht hW => ⟨⟨_, (), rfl, rfl, by show B t.heap; rw [ht]; exact hB⟩, hS.F ht⟩) hS.2.2 hdg
theorem xL {v w : Int64} (hexec : p.tables.exec = Jvm.exec) (hb : c.code = cc) (hr : meth.sig.returnType = some .long) (hlocks : meth.locks = false) (hB : B H) (hS : va_S A s.heap H locs) (hv : v = w) (hdg : decode cc pc = .ok (.lreturn, 1)) :
    W p l e R s m args below meth c H locs cells slots (MQ below (Ql0 w B A) args s cells slots A) (F0 m pc ls [.long v]) := by
  subst hv
  exact W.lret hexec hb hr (fun t ht hW => ⟨⟨_, (), rfl, rfl, by show B t.heap; rw [ht]; exact hB⟩, hS.F ht⟩) hS.2.2 hdg
theorem xZ {v w : Int32} (hexec : p.tables.exec = Jvm.exec) (hb : c.code = cc) (hr : meth.sig.returnType = some .boolean) (hlocks : meth.locks = false) (hB : B H) (hS : va_S A s.heap H locs) (hv : v = w) (h01 : narrow .boolean (.int v) = .int v) (hdg : decode cc pc = .ok (.ireturn, 1)) :
    W p l e R s m args below meth c H locs cells slots (MQ below (Qi0 w B A) args s cells slots A) (F0 m pc ls [.int v]) := by
  subst hv
  exact W.zret hexec hb hr h01 (fun t ht hW => ⟨⟨_, (), rfl, rfl, by show B t.heap; rw [ht]; exact hB⟩, hS.F ht⟩) hS.2.2 hdg
theorem xV (hexec : p.tables.exec = Jvm.exec) (hb : c.code = cc) (hr : meth.sig.returnType = none) (hlocks : meth.locks = false) (hB : B H) (hS : va_S A s.heap H locs) (hdg : decode cc pc = .ok (.return_, 1)) :
    W p l e R s m args below meth c H locs cells slots (MQ below (Qv0 B A) args s cells slots A) (F0 m pc ls []) :=
  W.vret hexec hb hr (fun t ht hW => ⟨⟨(), rfl, trivial, by show B t.heap; rw [ht]; exact hB⟩, hS.F ht⟩) hS.2.2 hdg
end XE
theorem b0 {P : Prop} [Decidable P] (h : (if P then (1 : Int32) else 0) = 0) : ¬ P := fun q => by rw [if_pos q] at h; exact absurd h (by decide)
theorem b1 {P : Prop} [Decidable P] (h : ¬ (if P then (1 : Int32) else 0) = 0) : P := by
  by_cases q : P
  · exact q
  · rw [if_neg q] at h; exact absurd rfl h
end
section
/-! ===== what a day does, in numbers ===== -/
/-- the first place below n where P holds, else n -/
def fnd (P : Nat → Bool) : Nat → Nat
  | 0 => 0
  | n + 1 => if fnd P n < n then fnd P n else if P n = true then n else n + 1
theorem fnd_le (P : Nat → Bool) : ∀ n, fnd P n ≤ n
  | 0 => Nat.le_refl 0
  | n + 1 => by
    have := fnd_le P n
    unfold fnd
    split
    · omega
    · split <;> omega
theorem fnd_lt (P : Nat → Bool) : ∀ n, fnd P n < n → P (fnd P n) = true ∧ ∀ j, j < fnd P n → P j = false
  | 0, h => absurd h (by omega)
  | n + 1, h => by
    have ih := fnd_lt P n
    have hl := fnd_le P n
    have key : ¬ fnd P n < n → ∀ j, j < n → P j = false := fun hn => fnd_ge P n (by omega)
    unfold fnd at h ⊢
    split
    · rename_i h1
      exact ih h1
    · rename_i h1
      split
      · rename_i h2
        exact ⟨h2, fun j hj => key h1 j hj⟩
      · rename_i h2
        rw [if_neg h1, if_neg h2] at h
        omega
where
  fnd_ge (P : Nat → Bool) : ∀ n, n ≤ fnd P n → ∀ j, j < n → P j = false
  | 0, _, j, hj => absurd hj (by omega)
  | n + 1, h, j, hj => by
    have hl := fnd_le P n
    unfold fnd at h
    split at h
    · omega
    · split at h
      · omega
      · rename_i h1 h2
        by_cases q : j = n
        · subst q
          exact Bool.eq_false_iff.mpr h2
        · exact fnd_ge P n (by omega) j (by omega)
theorem fnd_none {P : Nat → Bool} : ∀ {n : Nat}, (∀ j, j < n → P j = false) → fnd P n = n
  | 0, _ => rfl
  | n + 1, h => by
    have e := fnd_none (P := P) (n := n) (fun j hj => h j (by omega))
    unfold fnd
    rw [e, if_neg (by omega), if_neg (by rw [h n (by omega)]; decide)]
theorem fnd_hit {P : Nat → Bool} {k : Nat} (h : P k = true) (hb : ∀ j, j < k → P j = false) : ∀ {n : Nat}, k < n → fnd P n = k
  | 0, hk => absurd hk (by omega)
  | n + 1, hk => by
    unfold fnd
    by_cases q : k = n
    · subst q
      rw [fnd_none hb, if_neg (by omega), if_pos h]
    · rw [fnd_hit h hb (n := n) (by omega), if_pos (by omega)]
def plc (f : Nat → Int32) (x : Int32) (n : Nat) : Nat := fnd (fun k => decide (f k = x)) n
def plI (k n : Nat) : Int32 := if k < n then nI k else -1
theorem plc_hit {f : Nat → Int32} {x : Int32} {n k : Nat} (hk : k < n) (h : f k = x) (hb : ∀ j, j < k → ¬ f j = x) : plI (plc f x n) n = nI k := by
  have e : plc f x n = k := fnd_hit (by simpa using h) (fun j hj => by simpa using hb j hj) hk
  rw [e]
  exact if_pos hk
theorem plc_none {f : Nat → Int32} {x : Int32} {n : Nat} (hb : ∀ j, j < n → ¬ f j = x) : plI (plc f x n) n = -1 := by
  have e : plc f x n = n := fnd_none (fun j hj => by simpa using hb j hj)
  rw [e]
  exact if_neg (by omega)
/-- f at 0, 1 .. n - 1, one after the other -/
def itn (f : Nat → wS → wS) : Nat → wS → wS
  | 0, σ => σ
  | n + 1, σ => f n (itn f n σ)
theorem itn_s (f : Nat → wS → wS) (n : Nat) (σ : wS) : itn f (n + 1) σ = f n (itn f n σ) := rfl
def sm (f : Nat → Int32) : Nat → Int32
  | 0 => 0
  | n + 1 => sm f n + f n
def sz (σ : wS) (p : Nat) : Nat := (σ 26 p).toNatClampNeg
def tn (σ : wS) (p : Nat) : Nat := (σ 27 p).toNatClampNeg
def i32min (a b : Int32) : Int32 := if b < a then b else a
/-- the houses lay -/
def layF (h : Nat) (σ : wS) : wS := if σ 6 h = 0 then wst σ 3 h (σ 3 h + σ 1 h) else σ
/-- places g .. j - 1 of a roster come up -/
def shF (p g j : Nat) (σ : wS) : wS := fun f i => if f = 40 + p ∧ g ≤ i ∧ i < j then σ f (i + 1) else σ f i
def strT (g t n : Nat) : Nat := if n - 1 ≤ (if g < t then t - 1 else t) then 0 else (if g < t then t - 1 else t)
/-- place g of roster p is struck -/
def strkF (p g : Nat) (σ : wS) : wS := wst (wst (shF p g (sz σ p - 1) σ) 26 p (nI (sz σ p - 1))) 27 p (nI (strT g (tn σ p) (sz σ p)))
def strkH (h p : Nat) (σ : wS) : wS := if plc (σ (40 + p)) (nI h) (sz σ p) < sz σ p then strkF p (plc (σ (40 + p)) (nI h) (sz σ p)) σ else σ
/-- a fine -/
def paid (h : Nat) (e : Int32) (σ : wS) : Int32 := i32min e (σ 3 h)
def chg1 (h : Nat) (e : Int32) (σ : wS) : wS := wst (wst (wst σ 10 h (σ 10 h + e)) 3 h (σ 3 h - paid h e σ)) 53 0 (σ 53 0 + paid h e σ)
def chgF (nP h : Nat) (e : Int32) (σ : wS) : wS :=
  if paid h e σ < e ∧ σ 4 h < 3 then (if σ 4 h + 1 = 3 then itn (strkH h) nP (wst (chg1 h e σ) 4 h (σ 4 h + 1)) else wst (chg1 h e σ) 4 h (σ 4 h + 1)) else chg1 h e σ
/-- whose turn it is: how many places on from the turn -/
def dtyK (σ : wS) (p : Nat) : Nat := fnd (fun k => decide (σ 6 (σ (40 + p) ((tn σ p + k) % sz σ p)).toNatClampNeg = 0)) (sz σ p)
def dtyP (σ : wS) (p : Nat) : Nat := (tn σ p + dtyK σ p) % sz σ p
def dtyH (σ : wS) (p : Nat) : Nat := (σ (40 + p) (dtyP σ p)).toNatClampNeg
/-- the pump is opened by house h -/
def opnY (p h : Nat) (σ : wS) : wS := wst (wst (wst σ 25 p (nI h)) 28 p (σ 28 p + 1)) 7 h (σ 7 h + 1)
/-- does the one who has the key hand it on: the state, and whether -/
def hndF (nP p h : Nat) (σ : wS) : wS × Int32 :=
  if σ 25 p = -1 ∨ σ 25 p = nI h then (σ, 1)
  else if σ 6 (σ 25 p).toNatClampNeg = 0 then
    (if σ 9 (σ 25 p).toNatClampNeg + 1 - (σ 9 (σ 25 p).toNatClampNeg + 1) / σ 2 (σ 25 p).toNatClampNeg * σ 2 (σ 25 p).toNatClampNeg = 0 then (chgF nP (σ 25 p).toNatClampNeg 3 (wst σ 9 (σ 25 p).toNatClampNeg (σ 9 (σ 25 p).toNatClampNeg + 1)), 0) else (wst σ 9 (σ 25 p).toNatClampNeg (σ 9 (σ 25 p).toNatClampNeg + 1), 1))
  else (chgF nP (σ 25 p).toNatClampNeg 3 σ, 0)
def trnF (p : Nat) (σ : wS) : wS := wst σ 27 p (nI ((dtyP σ p + 1) % sz σ p))
def opnF (nP p : Nat) (σ : wS) : wS × Int32 :=
  if dtyK σ p < sz σ p then
    (if (hndF nP p (dtyH σ p) (trnF p σ)).2 = 1 then (opnY p (dtyH σ p) (hndF nP p (dtyH σ p) (trnF p σ)).1, 1) else ((hndF nP p (dtyH σ p) (trnF p σ)).1, 0))
  else (σ, 0)
/-- the keys of pump p -/
def keyF (nP p : Nat) (σ : wS) : wS :=
  if (opnF nP p (wst (wst σ 31 p 0) 32 p 0)).2 = 1 then wst (opnF nP p (wst (wst σ 31 p 0) 32 p 0)).1 31 p 1 else (opnF nP p (wst (wst σ 31 p 0) 32 p 0)).1
/-- what a house draws from pump q -/
def ownF (q : Nat) (left : Int32) (σ : wS) : Int32 := if σ 31 q = 0 ∨ ¬ σ 23 q = 0 then 0 else i32min left (σ 20 q)
def dr1 (q : Nat) (x : Int32) (σ : wS) : wS := wst (wst (wst σ 20 q (σ 20 q - x)) 29 q (σ 29 q + x)) 22 q (σ 22 q + x)
def drF (nP h q : Nat) (left : Int32) (σ : wS) : wS :=
  if ownF q left σ = 0 then σ
  else if σ 22 q + ownF q left σ < 100 then dr1 q (ownF q left σ) σ
  else chgF nP h 5 (wst (wst (wst (dr1 q (ownF q left σ) σ) 23 q 1) 32 q 1) 24 q 3)
def fq (nP h k : Nat) (σ : wS) : Nat := ((σ 5 h).toNatClampNeg + k) % nP
def ndF (σ : wS) (h : Nat) : Int32 := 2 + σ 0 h
/-- the pumps 0 .. k - 1 in the order of house h: the state, and what is left -/
def drI (nP h : Nat) : Nat → wS × Int32 → wS × Int32
  | 0, x => x
  | k + 1, x => (drF nP h (fq nP h k (drI nP h k x).1) (drI nP h k x).2 (drI nP h k x).1, (drI nP h k x).2 - ownF (fq nP h k (drI nP h k x).1) (drI nP h k x).2 (drI nP h k x).1)
def drwF (nP h : Nat) (σ : wS) : wS := if σ 6 h = 0 then wst (drI nP h nP (σ, ndF σ h)).1 8 h ((drI nP h nP (σ, ndF σ h)).1 8 h + (drI nP h nP (σ, ndF σ h)).2) else σ
/-- the handle of pump p -/
def w1F (p : Nat) (σ : wS) : wS := if 0 < σ 24 p then wst σ 24 p (σ 24 p - 1) else σ
def wrkF (p : Nat) (σ : wS) : wS :=
  if w1F p σ 24 p = 0 ∧ 10 ≤ σ 53 0 then wst (wst (wst (wst (w1F p σ) 53 0 (σ 53 0 - 10)) 23 p 0) 22 p 0) 30 p (σ 30 p + 1) else w1F p σ
def mndF (p : Nat) (σ : wS) : wS := if σ 23 p = 0 ∨ ¬ σ 32 p = 0 then σ else wrkF p σ
def filF (p : Nat) (σ : wS) : wS := wst σ 20 p (i32min 200 (σ 20 p + σ 21 p))
def unm (σ : wS) (n : Nat) : Int32 := sm (fun h => if σ 4 h = 0 then 1 else 0) n
def shrH (each : Int32) (h : Nat) (σ : wS) : wS := if σ 4 h = 0 then wst σ 3 h (σ 3 h + each) else σ
def eachF (nH : Nat) (σ : wS) : Int32 := (σ 53 0 - 20) / unm σ nH
def shrF (nH : Nat) (σ : wS) : wS :=
  if ¬ σ 50 0 - σ 50 0 / 7 * 7 = 6 ∨ σ 53 0 ≤ 20 ∨ unm σ nH = 0 then σ else wst (itn (shrH (eachF nH σ)) nH σ) 53 0 (σ 53 0 - eachF nH σ * unm σ nH)
def bckF (h : Nat) (σ : wS) : wS := if σ 6 h = 0 then σ else wst σ 6 h (σ 6 h - 1)
def endF (nH : Nat) (σ : wS) : wS := wst (itn bckF nH σ) 50 0 (σ 50 0 + 1)
/-- a day -/
def dayF (nH nP : Nat) (σ : wS) : wS := endF nH (shrF nH (itn filF nP (itn mndF nP (itn (drwF nP) nH (itn (keyF nP) nP (itn layF nH σ))))))
def dysF (nH nP : Nat) (n : Nat) (σ : wS) : wS := itn (fun _ => dayF nH nP) n σ
/-! ===== what holds of a village ===== -/
def InvP (nH : Nat) (τ : wS) (p : Nat) : Prop :=
  (τ 23 p = 0 ∨ τ 23 p = 1) ∧ (τ 23 p = 0 → τ 22 p < 100) ∧ (∃ k, k ≤ 3 ∧ τ 24 p = nI k) ∧ (τ 25 p = -1 ∨ ∃ k, k < nH ∧ τ 25 p = nI k) ∧
  (sz τ p ≤ 10 ∧ τ 26 p = nI (sz τ p)) ∧ (τ 27 p = nI (tn τ p) ∧ (tn τ p < sz τ p ∨ (sz τ p = 0 ∧ tn τ p = 0))) ∧
  (∀ k, k < sz τ p → ∃ h, h < nH ∧ τ (40 + p) k = nI h) ∧ ∀ j k, j < k → k < sz τ p → ¬ τ (40 + p) j = τ (40 + p) k
def InvH (nP : Nat) (τ : wS) (h : Nat) : Prop :=
  (∃ k, 1 ≤ k ∧ k ≤ 9 ∧ τ 2 h = nI k) ∧ (∃ k, k ≤ 30 ∧ τ 6 h = nI k) ∧ (∃ k, (k < nP ∨ k = 0) ∧ τ 5 h = nI k) ∧ ∃ k, k ≤ 3 ∧ τ 4 h = nI k
def Inv (nH nP : Nat) (τ : wS) : Prop := nH ≤ 10 ∧ nP ≤ 3 ∧ τ 51 0 = nI nH ∧ τ 52 0 = nI nP ∧ (∀ h, h < nH → InvH nP τ h) ∧ ∀ p, p < nP → InvP nH τ p
theorem InvP.congr {nH p : Nat} {σ τ : wS} (h : InvP nH σ p) (h1 : ∀ f, 22 ≤ f → f ≤ 27 → τ f p = σ f p) (h2 : τ (40 + p) = σ (40 + p)) : InvP nH τ p := by
  have e1 : sz τ p = sz σ p := by unfold sz; rw [h1 26 (by omega) (by omega)]
  have e2 : tn τ p = tn σ p := by unfold tn; rw [h1 27 (by omega) (by omega)]
  unfold InvP at h ⊢
  rw [e1, e2, h2, h1 22 (by omega) (by omega), h1 23 (by omega) (by omega), h1 24 (by omega) (by omega), h1 25 (by omega) (by omega), h1 26 (by omega) (by omega), h1 27 (by omega) (by omega)]
  exact h
theorem InvH.congr {nP i : Nat} {σ τ : wS} (h : InvH nP σ i) (h2 : τ 2 i = σ 2 i) (h4 : τ 4 i = σ 4 i) (h5 : τ 5 i = σ 5 i) (h6 : τ 6 i = σ 6 i) : InvH nP τ i := by
  unfold InvH at h ⊢
  rw [h2, h4, h5, h6]
  exact h
/-- a column that Inv doesn't speak of -/
theorem Inv.free {nH nP f i : Nat} {τ : wS} {x : Int32} (h : Inv nH nP τ) (hf : f = 0 ∨ f = 1 ∨ f = 3 ∨ f = 7 ∨ f = 8 ∨ f = 9 ∨ f = 10 ∨ f = 20 ∨ f = 21 ∨ f = 28 ∨ f = 29 ∨ f = 30 ∨ f = 31 ∨ f = 32 ∨ f = 50 ∨ f = 53) : Inv nH nP (wst τ f i x) := by
  obtain ⟨a, b, c, d, e, g⟩ := h
  refine ⟨a, b, by rw [wst_f (by omega)]; exact c, by rw [wst_f (by omega)]; exact d, fun k hk => (e k hk).congr (wst_f (by omega)) (wst_f (by omega)) (wst_f (by omega)) (wst_f (by omega)), fun p hp => (g p hp).congr (fun k h1 h2 => wst_f (by omega)) (funext fun k => wst_f (by omega))⟩
end
section
/-! ===== what a day keeps ===== -/
theorem itn_inv {P : wS → Prop} {f : Nat → wS → wS} {n : Nat} {σ : wS} (h0 : P σ) (hs : ∀ k, k < n → ∀ x, P x → P (f k x)) : P (itn f n σ) := by
  induction n with
  | zero => exact h0
  | succ n ih => exact hs n (by omega) _ (ih (fun k hk => hs k (by omega)))
theorem wst_self {σ : wS} {f i : Nat} {x : Int32} (h : σ f i = x) : wst σ f i x = σ := by
  funext g j
  unfold wst
  by_cases q : g = f ∧ j = i
  · obtain ⟨rfl, rfl⟩ := q
    rw [if_pos ⟨rfl, rfl⟩, h]
  · rw [if_neg q]
theorem wst_wst {σ : wS} {f i : Nat} {x y : Int32} : wst (wst σ f i x) f i y = wst σ f i y := by
  funext g j
  unfold wst
  by_cases q : g = f ∧ j = i
  · rw [if_pos q, if_pos q]
  · rw [if_neg q, if_neg q, if_neg q]
theorem wst_comm {σ : wS} {f g i j : Nat} {x y : Int32} (h : f = g → i ≠ j) : wst (wst σ f i x) g j y = wst (wst σ g j y) f i x := by
  funext a b
  unfold wst
  by_cases q : a = g ∧ b = j
  · obtain ⟨rfl, rfl⟩ := q
    rw [if_pos ⟨rfl, rfl⟩, if_neg (fun q => h q.1.symm q.2.symm), if_pos ⟨rfl, rfl⟩]
  · rw [if_neg q]
    by_cases r : a = f ∧ b = i
    · rw [if_pos r, if_pos r]
    · rw [if_neg r, if_neg r, if_neg q]
theorem Inv.setH {nH nP f i : Nat} {τ : wS} {x : Int32} (hv : Inv nH nP τ) (hf : f ≤ 10) (hi : i < nH → InvH nP (wst τ f i x) i) : Inv nH nP (wst τ f i x) := by
  obtain ⟨a, b, c, d, e, g⟩ := hv
  refine ⟨a, b, by rw [wst_f (by omega)]; exact c, by rw [wst_f (by omega)]; exact d, fun k hk => ?_, fun p hp => (g p hp).congr (fun k h1 h2 => wst_f (by omega)) (funext fun k => wst_f (by omega))⟩
  by_cases q : k = i
  · subst q
    exact hi hk
  · exact (e k hk).congr (wst_i q) (wst_i q) (wst_i q) (wst_i q)
theorem Inv.atP {nH nP : Nat} {τ ρ : wS} (p : Nat) (hv : Inv nH nP τ) (h1 : ∀ f i, f ≤ 10 → ρ f i = τ f i) (h2 : ρ 51 0 = τ 51 0) (h3 : ρ 52 0 = τ 52 0)
    (h4 : ∀ q, q ≠ p → (∀ f, 22 ≤ f → f ≤ 27 → ρ f q = τ f q) ∧ ρ (40 + q) = τ (40 + q)) (h5 : p < nP → InvP nH ρ p) : Inv nH nP ρ := by
  obtain ⟨a, b, c, d, e, g⟩ := hv
  refine ⟨a, b, by rw [h2]; exact c, by rw [h3]; exact d, fun k hk => (e k hk).congr (h1 _ _ (by omega)) (h1 _ _ (by omega)) (h1 _ _ (by omega)) (h1 _ _ (by omega)), fun q hq => ?_⟩
  by_cases r : q = p
  · subst r
    exact h5 hq
  · exact (g q hq).congr (h4 q r).1 (h4 q r).2
/-- one number of pump p, of the columns 22 .. 27 -/
theorem Inv.setP {nH nP f p : Nat} {τ : wS} {x : Int32} (hv : Inv nH nP τ) (hf : 22 ≤ f) (hg : f ≤ 27) (hi : p < nP → InvP nH (wst τ f p x) p) : Inv nH nP (wst τ f p x) :=
  hv.atP p (fun _ _ _ => wst_f (by omega)) (wst_f (by omega)) (wst_f (by omega)) (fun q hq => ⟨fun k _ _ => wst_i hq, funext fun k => wst_f (by omega)⟩) hi
theorem Inv.set4 {nH nP h k : Nat} {τ : wS} (hv : Inv nH nP τ) (hk : k ≤ 3) : Inv nH nP (wst τ 4 h (nI k)) := by
  refine hv.setH (by omega) (fun hh => ?_)
  obtain ⟨a, b, c, d⟩ := hv.2.2.2.2.1 h hh
  unfold InvH
  rw [wst_f (g := 2) (by omega), wst_f (g := 5) (by omega), wst_f (g := 6) (by omega), wst_s]
  exact ⟨a, b, c, k, hk, rfl⟩
theorem Inv.set6 {nH nP h k : Nat} {τ : wS} (hv : Inv nH nP τ) (hk : k ≤ 30) : Inv nH nP (wst τ 6 h (nI k)) := by
  refine hv.setH (by omega) (fun hh => ?_)
  obtain ⟨a, b, c, d⟩ := hv.2.2.2.2.1 h hh
  unfold InvH
  rw [wst_f (g := 2) (by omega), wst_f (g := 5) (by omega), wst_f (g := 4) (by omega), wst_s]
  exact ⟨a, ⟨k, hk, rfl⟩, c, d⟩
theorem Inv.set5 {nH nP h k : Nat} {τ : wS} (hv : Inv nH nP τ) (hk : k < nP ∨ k = 0) : Inv nH nP (wst τ 5 h (nI k)) := by
  refine hv.setH (by omega) (fun hh => ?_)
  obtain ⟨a, b, c, d⟩ := hv.2.2.2.2.1 h hh
  unfold InvH
  rw [wst_f (g := 2) (by omega), wst_f (g := 6) (by omega), wst_f (g := 4) (by omega), wst_s]
  exact ⟨a, b, ⟨k, hk, rfl⟩, d⟩
theorem Inv.oLay {nH nP h : Nat} {τ : wS} (hv : Inv nH nP τ) : Inv nH nP (layF h τ) := by
  unfold layF
  split
  · exact hv.free (by omega)
  · exact hv
theorem shF_o {p g j f i : Nat} {σ : wS} (h : f ≠ 40 + p) : shF p g j σ f i = σ f i := by unfold shF; rw [if_neg (fun q => h q.1)]
theorem shF_lo {p g j i : Nat} {σ : wS} (h : ¬ (g ≤ i ∧ i < j)) : shF p g j σ (40 + p) i = σ (40 + p) i := by unfold shF; rw [if_neg (fun q => h q.2)]
theorem shF_hi {p g j i : Nat} {σ : wS} (h : g ≤ i) (h2 : i < j) : shF p g j σ (40 + p) i = σ (40 + p) (i + 1) := by unfold shF; rw [if_pos ⟨rfl, h, h2⟩]
theorem shF_0 {p g : Nat} {σ : wS} : shF p g g σ = σ := by
  funext f i
  unfold shF
  rw [if_neg (by omega)]
theorem shF_s {p g j : Nat} {σ : wS} (h : g ≤ j) : wst (shF p g j σ) (40 + p) j (σ (40 + p) (j + 1)) = shF p g (j + 1) σ := by
  funext f i
  unfold wst
  by_cases q : f = 40 + p ∧ i = j
  · obtain ⟨rfl, rfl⟩ := q
    rw [if_pos ⟨rfl, rfl⟩, shF_hi h (by omega)]
  · rw [if_neg q]
    unfold shF
    by_cases r : f = 40 + p ∧ g ≤ i ∧ i < j
    · rw [if_pos r, if_pos (by omega)]
    · rw [if_neg r, if_neg (by omega)]
theorem strkF_eq {p g n t : Nat} {τ : wS} (hs : τ 26 p = nI n) (ht : τ 27 p = nI t) (hn : n ≤ 10) (htn : t ≤ 10) : strkF p g τ = wst (wst (shF p g (n - 1) τ) 26 p (nI (n - 1))) 27 p (nI (strT g t n)) := by
  have e1 : sz τ p = n := by unfold sz; rw [hs]; exact nI_clamp (by omega)
  have e2 : tn τ p = t := by unfold tn; rw [ht]; exact nI_clamp (by omega)
  unfold strkF
  rw [e1, e2]
theorem strT_lt {g t n : Nat} (h : t < n ∨ (n = 0 ∧ t = 0)) : strT g t n < n - 1 ∨ (n - 1 = 0 ∧ strT g t n = 0) := by
  unfold strT
  (repeat' split) <;> omega
theorem Inv.oStrk {nH nP p g : Nat} {τ : wS} (hv : Inv nH nP τ) (hp3 : p < nP) (hg : g < sz τ p) : Inv nH nP (strkF p g τ) := by
  refine hv.atP p (fun f i hf => ?_) ?_ ?_ (fun q hq => ⟨fun f h1 h2 => ?_, funext fun k => ?_⟩) (fun hp => ?_)
  · unfold strkF; rw [wst_f (by omega), wst_f (by omega), shF_o (by omega)]
  · unfold strkF; rw [wst_f (by omega), wst_f (by omega), shF_o (by have := hv.2.1; omega)]
  · unfold strkF; rw [wst_f (by omega), wst_f (by omega), shF_o (by have := hv.2.1; omega)]
  · unfold strkF; rw [wst_i hq, wst_i hq, shF_o (by omega)]
  · unfold strkF; rw [wst_f (by omega), wst_f (by omega), shF_o (by omega)]
  · obtain ⟨a, b, c, d, ⟨e1, e2⟩, ⟨f1, f2⟩, i1, i2⟩ := hv.2.2.2.2.2 p hp
    have ho : ∀ f i, f ≠ 26 → f ≠ 27 → f ≠ 40 + p → strkF p g τ f i = τ f i := fun f i h1 h2 h3 => by
      unfold strkF; rw [wst_f h2, wst_f h1, shF_o h3]
    have h26 : strkF p g τ 26 p = nI (sz τ p - 1) := by unfold strkF; rw [wst_f (by omega), wst_s]
    have h27 : strkF p g τ 27 p = nI (strT g (tn τ p) (sz τ p)) := by unfold strkF; rw [wst_s]
    have hr : ∀ k, strkF p g τ (40 + p) k = shF p g (sz τ p - 1) τ (40 + p) k := fun k => by
      unfold strkF; rw [wst_f (by omega), wst_f (by omega)]
    have hT := strT_lt (g := g) f2
    have s1 : sz (strkF p g τ) p = sz τ p - 1 := by show (strkF p g τ 26 p).toNatClampNeg = _; rw [h26]; exact nI_clamp (by omega)
    have s2 : tn (strkF p g τ) p = strT g (tn τ p) (sz τ p) := by unfold tn; rw [h27]; exact nI_clamp (by omega)
    unfold InvP
    rw [s1, s2, h26, h27, ho 22 p (by omega) (by omega) (by omega), ho 23 p (by omega) (by omega) (by omega), ho 24 p (by omega) (by omega) (by omega), ho 25 p (by omega) (by omega) (by omega)]
    refine ⟨a, b, c, d, ⟨by omega, rfl⟩, ⟨rfl, hT⟩, fun k hk => ?_, fun j k hj hk => ?_⟩
    · rw [hr]
      by_cases q : g ≤ k
      · rw [shF_hi q hk]
        exact i1 _ (by omega)
      · rw [shF_lo (by omega)]
        exact i1 _ (by omega)
    · rw [hr, hr]
      by_cases q : g ≤ k
      · rw [shF_hi q hk]
        by_cases r : g ≤ j
        · rw [shF_hi r (by omega)]
          exact i2 _ _ (by omega) (by omega)
        · rw [shF_lo (by omega)]
          exact i2 _ _ (by omega) (by omega)
      · rw [shF_lo (by omega), shF_lo (by omega)]
        exact i2 _ _ (by omega) (by omega)
theorem Inv.oStrkH {nH nP h p : Nat} {τ : wS} (hv : Inv nH nP τ) (hp : p < nP) : Inv nH nP (strkH h p τ) := by
  unfold strkH
  split
  · rename_i q
    exact hv.oStrk hp q
  · exact hv
theorem Inv.oChg1 {nH nP h : Nat} {e : Int32} {τ : wS} (hv : Inv nH nP τ) : Inv nH nP (chg1 h e τ) := ((hv.free (by omega)).free (by omega)).free (by omega)
theorem chg1_4 {h i : Nat} {e : Int32} {τ : wS} : chg1 h e τ 4 i = τ 4 i := by unfold chg1; rw [wst_f (by omega), wst_f (by omega), wst_f (by omega)]
theorem Inv.oChg {nH nP h : Nat} {e : Int32} {τ : wS} (hv : Inv nH nP τ) (hh : h < nH) : Inv nH nP (chgF nP h e τ) := by
  obtain ⟨-, -, -, k, hk, e4⟩ := hv.2.2.2.2.1 h hh
  have h1 := hv.oChg1 (h := h) (e := e)
  unfold chgF
  split
  · rename_i q
    have hk3 : k < 3 := by
      have := q.2
      rw [e4] at this
      exact (nI_ltI (b := 3) (by omega) (by omega)).mp this
    have h2 : Inv nH nP (wst (chg1 h e τ) 4 h (τ 4 h + 1)) := by
      rw [e4, nI_1]
      exact h1.set4 (by omega)
    split
    · exact itn_inv h2 (fun p hp x hx => hx.oStrkH hp)
    · exact h2
  · exact h1
theorem Inv.oKey {nH nP p : Nat} {τ : wS} (hv : Inv nH nP τ) (hp : p < nP) : τ 25 p = -1 ∨ ∃ k, k < nH ∧ τ 25 p = nI k := (hv.2.2.2.2.2 p hp).2.2.2.1
theorem Inv.oHnd {nH nP p d : Nat} {τ : wS} (hv : Inv nH nP τ) (hp : p < nP) : Inv nH nP (hndF nP p d τ).1 := by
  unfold hndF
  split
  · exact hv
  · rename_i q
    rcases hv.oKey hp with e | ⟨k, hk, e⟩
    · exact absurd (Or.inl e) q
    · have ek : (τ 25 p).toNatClampNeg = k := by rw [e]; exact nI_clamp (by have := hv.1; omega)
      rw [ek]
      split
      · split
        · exact (hv.free (by omega)).oChg hk
        · exact hv.free (by omega)
      · exact hv.oChg hk
theorem dtyP_lt {τ : wS} {p : Nat} (h : dtyK τ p < sz τ p) : dtyP τ p < sz τ p := Nat.mod_lt _ (by omega)
theorem Inv.oDtyH {nH nP p : Nat} {τ : wS} (hv : Inv nH nP τ) (hp : p < nP) (h : dtyK τ p < sz τ p) : dtyH τ p < nH ∧ τ (40 + p) (dtyP τ p) = nI (dtyH τ p) := by
  obtain ⟨-, -, -, -, -, -, i1, -⟩ := hv.2.2.2.2.2 p hp
  obtain ⟨k, hk, e⟩ := i1 _ (dtyP_lt h)
  unfold dtyH
  rw [e, nI_clamp (by have := hv.1; omega)]
  exact ⟨hk, rfl⟩
theorem Inv.oTrn {nH nP p : Nat} {τ : wS} (hv : Inv nH nP τ) (h : dtyK τ p < sz τ p) : Inv nH nP (trnF p τ) := by
  refine hv.setP (by omega) (by omega) (fun hp => ?_)
  obtain ⟨a, b, c, d, ⟨e1, e2⟩, ⟨f1, f2⟩, i1, i2⟩ := hv.2.2.2.2.2 p hp
  have hm : (dtyP τ p + 1) % sz τ p < sz τ p := Nat.mod_lt _ (by omega)
  have s1 : sz (wst τ 27 p (nI ((dtyP τ p + 1) % sz τ p))) p = sz τ p := by unfold sz; rw [wst_f (by omega)]
  have s2 : tn (wst τ 27 p (nI ((dtyP τ p + 1) % sz τ p))) p = (dtyP τ p + 1) % sz τ p := by unfold tn; rw [wst_s]; exact nI_clamp (by omega)
  unfold InvP
  rw [s1, s2, wst_s, wst_f (g := 22) (by omega), wst_f (g := 23) (by omega), wst_f (g := 24) (by omega), wst_f (g := 25) (by omega), wst_f (g := 26) (by omega)]
  refine ⟨a, b, c, d, ⟨e1, e2⟩, ⟨rfl, Or.inl hm⟩, fun k hk => ?_, fun j k hj hk => ?_⟩
  · rw [wst_f (by omega)]
    exact i1 k hk
  · rw [wst_f (by omega), wst_f (by omega)]
    exact i2 j k hj hk
theorem Inv.oOpnY {nH nP p d : Nat} {τ : wS} (hv : Inv nH nP τ) (hd : d < nH) : Inv nH nP (opnY p d τ) := by
  refine Inv.free (Inv.free (hv.setP (by omega) (by omega) (fun hp => ?_)) (by omega)) (by omega)
  obtain ⟨a, b, c, -, e, f, i1, i2⟩ := hv.2.2.2.2.2 p hp
  have s1 : sz (wst τ 25 p (nI d)) p = sz τ p := by unfold sz; rw [wst_f (by omega)]
  have s2 : tn (wst τ 25 p (nI d)) p = tn τ p := by unfold tn; rw [wst_f (by omega)]
  unfold InvP
  rw [s1, s2, wst_s, wst_f (g := 22) (by omega), wst_f (g := 23) (by omega), wst_f (g := 24) (by omega), wst_f (g := 27) (by omega), wst_f (g := 26) (by omega)]
  refine ⟨a, b, c, Or.inr ⟨d, hd, rfl⟩, e, f, fun k hk => ?_, fun j k hj hk => ?_⟩
  · rw [wst_f (by omega)]
    exact i1 k hk
  · rw [wst_f (by omega), wst_f (by omega)]
    exact i2 j k hj hk
theorem Inv.oOpn {nH nP p : Nat} {τ : wS} (hv : Inv nH nP τ) (hp : p < nP) : Inv nH nP (opnF nP p τ).1 := by
  unfold opnF
  split
  · rename_i h
    have h1 := (hv.oTrn h).oHnd (p := p) (d := dtyH τ p) hp
    split
    · exact h1.oOpnY (hv.oDtyH hp h).1
    · exact h1
  · exact hv
theorem Inv.oKeyF {nH nP p : Nat} {τ : wS} (hv : Inv nH nP τ) (hp : p < nP) : Inv nH nP (keyF nP p τ) := by
  have h1 : Inv nH nP (wst (wst τ 31 p 0) 32 p 0) := (hv.free (by omega)).free (by omega)
  unfold keyF
  split
  · exact (h1.oOpn hp).free (by omega)
  · exact h1.oOpn hp
end
section
theorem i32_nlt {a b : Int32} (h : a ≤ b) : ¬ b < a := by rw [Int32.lt_iff_toInt_lt]; rw [Int32.le_iff_toInt_le] at h; omega
theorem i32_nle {a b : Int32} (h : b < a) : ¬ a ≤ b := by rw [Int32.le_iff_toInt_le]; rw [Int32.lt_iff_toInt_lt] at h; omega
theorem i32_le {a b : Int32} (h : ¬ a < b) : b ≤ a := by rw [Int32.lt_iff_toInt_lt] at h; rw [Int32.le_iff_toInt_le]; omega
theorem i32_ltn {a b : Int32} (h : ¬ a ≤ b) : b < a := by rw [Int32.le_iff_toInt_le] at h; rw [Int32.lt_iff_toInt_lt]; omega
theorem i32_sh (a b c : Int32) : a - b * (c + 1) = a - b * c - b := by grind
theorem unm_s (σ : wS) (n : Nat) : unm σ (n + 1) = unm σ n + (if σ 4 n = 0 then 1 else 0) := rfl
theorem itn_col {f : Nat → wS → wS} {g j : Nat} (h : ∀ k x, f k x g j = x g j) {n : Nat} {σ : wS} : itn f n σ g j = σ g j := by
  induction n with
  | zero => rfl
  | succ n ih => exact (h n _).trans ih
theorem shr_4 {E : Int32} {n j : Nat} {τ : wS} : itn (shrH E) n τ 4 j = τ 4 j := itn_col (fun k x => by unfold shrH; split <;> first | rfl | exact wst_f (by omega))
theorem bck_50 {n : Nat} {τ : wS} : itn bckF n τ 50 0 = τ 50 0 := itn_col (fun k x => by unfold bckF; split <;> first | rfl | exact wst_f (by omega))
theorem w1F_53 {p : Nat} {τ : wS} : w1F p τ 53 0 = τ 53 0 := by unfold w1F; split <;> first | rfl | exact wst_f (by omega)
theorem w1F_30 {p : Nat} {τ : wS} : w1F p τ 30 p = τ 30 p := by unfold w1F; split <;> first | rfl | exact wst_f (by omega)
theorem InvP.put {nH p f : Nat} {τ : wS} {x : Int32} (h : InvP nH τ p) (h23 : (wst τ f p x 23 p = 0 ∨ wst τ f p x 23 p = 1) ∧ (wst τ f p x 23 p = 0 → wst τ f p x 22 p < 100)) (h24 : ∃ k, k ≤ 3 ∧ wst τ f p x 24 p = nI k) (hf : f = 22 ∨ f = 23 ∨ f = 24) : InvP nH (wst τ f p x) p := by
  obtain ⟨a, b, c, d, e, g, i1, i2⟩ := h
  have s1 : sz (wst τ f p x) p = sz τ p := by unfold sz; rw [wst_f (by omega)]
  have s2 : tn (wst τ f p x) p = tn τ p := by unfold tn; rw [wst_f (by omega)]
  refine ⟨h23.1, h23.2, h24, by rw [wst_f (by omega)]; exact d, by rw [s1, wst_f (by omega)]; exact e, by rw [s1, s2, wst_f (by omega)]; exact g, fun k hk => ?_, fun j k hj hk => ?_⟩
  · rw [s1] at hk
    rw [wst_f (by omega)]
    exact i1 k hk
  · rw [s1] at hk
    rw [wst_f (by omega), wst_f (by omega)]
    exact i2 j k hj hk
theorem Inv.set22 {nH nP p : Nat} {τ : wS} {x : Int32} (hv : Inv nH nP τ) (h : τ 23 p = 0 → x < 100) : Inv nH nP (wst τ 22 p x) := by
  refine hv.setP (by omega) (by omega) (fun hp => ?_)
  have h0 := hv.2.2.2.2.2 p hp
  refine h0.put ?_ ?_ (by omega)
  · rw [wst_f (g := 23) (by omega), wst_s]
    exact ⟨h0.1, h⟩
  · rw [wst_f (g := 24) (by omega)]
    exact h0.2.2.1
theorem Inv.set231 {nH nP p : Nat} {τ : wS} (hv : Inv nH nP τ) : Inv nH nP (wst τ 23 p 1) := by
  refine hv.setP (by omega) (by omega) (fun hp => ?_)
  have h0 := hv.2.2.2.2.2 p hp
  refine h0.put ?_ ?_ (by omega)
  · rw [wst_f (g := 22) (by omega), wst_s]
    exact ⟨Or.inr rfl, fun h => absurd h (by decide)⟩
  · rw [wst_f (g := 24) (by omega)]
    exact h0.2.2.1
theorem Inv.set230 {nH nP p : Nat} {τ : wS} (hv : Inv nH nP τ) (h : τ 22 p < 100) : Inv nH nP (wst τ 23 p 0) := by
  refine hv.setP (by omega) (by omega) (fun hp => ?_)
  have h0 := hv.2.2.2.2.2 p hp
  refine h0.put ?_ ?_ (by omega)
  · rw [wst_f (g := 22) (by omega), wst_s]
    exact ⟨Or.inl rfl, fun _ => h⟩
  · rw [wst_f (g := 24) (by omega)]
    exact h0.2.2.1
theorem Inv.set24 {nH nP p k : Nat} {τ : wS} (hv : Inv nH nP τ) (hk : k ≤ 3) : Inv nH nP (wst τ 24 p (nI k)) := by
  refine hv.setP (by omega) (by omega) (fun hp => ?_)
  have h0 := hv.2.2.2.2.2 p hp
  refine h0.put ?_ ?_ (by omega)
  · rw [wst_f (g := 22) (by omega), wst_f (g := 23) (by omega)]
    exact ⟨h0.1, h0.2.1⟩
  · rw [wst_s]
    exact ⟨k, hk, rfl⟩
theorem Inv.oW1 {nH nP p : Nat} {τ : wS} (hv : Inv nH nP τ) (hp : p < nP) : Inv nH nP (w1F p τ) := by
  obtain ⟨k, hk, e⟩ := (hv.2.2.2.2.2 p hp).2.2.1
  unfold w1F
  split
  · rename_i q
    rw [e] at q ⊢
    have h0 : 0 < k := (nI_ltI (a := 0) (b := k) (by omega) (by omega)).mp q
    rw [show nI k - 1 = nI (k - 1) from pk_sub (a := k) (b := 1) (by omega)]
    exact hv.set24 (by omega)
  · exact hv
theorem Inv.oMnd {nH nP p : Nat} {τ : wS} (hv : Inv nH nP τ) (hp : p < nP) : Inv nH nP (mndF p τ) := by
  unfold mndF
  split
  · exact hv
  · unfold wrkF
    split
    · refine Inv.free ?_ (by omega)
      rw [wst_comm (f := 23) (g := 22) (by omega)]
      refine Inv.set230 ?_ (by rw [wst_s]; decide)
      exact ((hv.oW1 hp).free (by omega)).set22 (fun _ => by decide)
    · exact hv.oW1 hp
theorem Inv.oBck {nH nP h : Nat} {τ : wS} (hv : Inv nH nP τ) (hh : h < nH) : Inv nH nP (bckF h τ) := by
  obtain ⟨-, ⟨k, hk, e⟩, -, -⟩ := hv.2.2.2.2.1 h hh
  unfold bckF
  split
  · exact hv
  · rename_i q
    have h0 : 0 < k := by
      rcases Nat.eq_zero_or_pos k with r | r
      · rw [e, r] at q
        exact absurd rfl q
      · exact r
    rw [e, show nI k - 1 = nI (k - 1) from pk_sub (a := k) (b := 1) (by omega)]
    exact hv.set6 (by omega)
theorem Inv.oShr {nH nP h : Nat} {E : Int32} {τ : wS} (hv : Inv nH nP τ) : Inv nH nP (shrH E h τ) := by
  unfold shrH
  split
  · exact hv.free (by omega)
  · exact hv
theorem Inv.oShrF {nH nP : Nat} {τ : wS} (hv : Inv nH nP τ) : Inv nH nP (shrF nH τ) := by
  unfold shrF
  split
  · exact hv
  · exact (itn_inv hv (fun k hk x hx => hx.oShr)).free (by omega)
theorem Inv.oDr {nH nP h q : Nat} {left : Int32} {τ : wS} (hv : Inv nH nP τ) (hh : h < nH) : Inv nH nP (drF nP h q left τ) := by
  unfold drF
  have e23 : ∀ x, wst (wst τ 20 q (τ 20 q - x)) 29 q (τ 29 q + x) 23 q = τ 23 q := fun x => by rw [wst_f (by omega), wst_f (by omega)]
  have h2 : ∀ x, Inv nH nP (wst (wst τ 20 q (τ 20 q - x)) 29 q (τ 29 q + x)) := fun x => (hv.free (by omega)).free (by omega)
  split
  · exact hv
  · split
    · rename_i r
      exact (h2 _).set22 (fun _ => r)
    · refine Inv.oChg ?_ hh
      refine Inv.set24 (k := 3) (Inv.free ?_ (by omega)) (by omega)
      unfold dr1
      rw [wst_comm (f := 22) (g := 23) (by omega)]
      refine Inv.set22 (h2 _).set231 (fun z => ?_)
      rw [wst_s] at z
      exact absurd z (by decide)
theorem Inv.oDrI {nH nP h : Nat} {left : Int32} {τ : wS} (hv : Inv nH nP τ) (hh : h < nH) : ∀ k, Inv nH nP (drI nP h k (τ, left)).1
  | 0 => hv
  | k + 1 => (Inv.oDrI hv hh k).oDr hh
theorem Inv.oDrw {nH nP h : Nat} {τ : wS} (hv : Inv nH nP τ) (hh : h < nH) : Inv nH nP (drwF nP h τ) := by
  unfold drwF
  split
  · exact (hv.oDrI hh nP).free (by omega)
  · exact hv
theorem Inv.oEnd {nH nP : Nat} {τ : wS} (hv : Inv nH nP τ) : Inv nH nP (endF nH τ) := (itn_inv hv (fun k hk x hx => hx.oBck hk)).free (by omega)
theorem Inv.oDay {nH nP : Nat} {τ : wS} (hv : Inv nH nP τ) : Inv nH nP (dayF nH nP τ) :=
  (itn_inv (itn_inv (itn_inv (itn_inv (itn_inv hv (fun _ _ _ hx => hx.oLay)) (fun k hk _ hx => hx.oKeyF hk)) (fun k hk _ hx => hx.oDrw hk)) (fun k hk _ hx => hx.oMnd hk)) (fun k hk _ hx => hx.free (by omega))).oShrF.oEnd
theorem Inv.oDys {nH nP n : Nat} {τ : wS} (hv : Inv nH nP τ) : Inv nH nP (dysF nH nP n τ) := itn_inv hv (fun _ _ _ hx => hx.oDay)
theorem et27 {nH nP p : Nat} {τ : wS} (hv : Inv nH nP τ) (hp : p < nP) : τ 27 p = nI ((tn τ p + 0) % sz τ p) := by
  obtain ⟨e, f⟩ := (hv.2.2.2.2.2 p hp).2.2.2.2.2.1
  rw [Nat.add_zero]
  rcases f with f | ⟨f, g⟩
  · rw [Nat.mod_eq_of_lt f]; exact e
  · rw [f, Nat.mod_zero]; exact e
theorem nI_nm1 {k : Nat} (h : k < 2 ^ 31) : ¬ nI k = -1 := fun q => by
  have e := nI_toInt h
  rw [q, show (-1 : Int32).toInt = -1 by decide] at e
  omega
theorem hnd_01 (nP p d : Nat) (τ : wS) : (hndF nP p d τ).2 = 0 ∨ (hndF nP p d τ).2 = 1 := by
  unfold hndF
  (repeat' split) <;> first | exact Or.inl rfl | exact Or.inr rfl
theorem Inv.oBrk {nH nP q : Nat} {x : Int32} {τ : wS} (hv : Inv nH nP τ) : Inv nH nP (wst (wst (wst (dr1 q x τ) 23 q 1) 32 q 1) 24 q 3) := by
  refine Inv.set24 (k := 3) (Inv.free ?_ (by omega)) (by omega)
  unfold dr1
  rw [wst_comm (f := 22) (g := 23) (by omega)]
  refine Inv.set22 (Inv.set231 ((hv.free (by omega)).free (by omega))) (fun z => ?_)
  rw [wst_s] at z
  exact absurd z (by decide)
/-- the number that drawAround's loop has at its head: one behind the last one tried -/
def yq (f nP k : Nat) : Nat := if k = 0 then f else (f + (k - 1)) % nP + 1
theorem yq_s (f nP k : Nat) : yq f nP (k + 1) = (f + k) % nP + 1 := rfl
theorem yq_lt {f nP k : Nat} (hf : f < nP ∨ f = 0) (h : yq f nP k < nP) : yq f nP k = (f + k) % nP := by
  unfold yq at h ⊢
  by_cases q : k = 0
  · subst q
    rw [if_pos rfl] at h ⊢
    rw [Nat.add_zero, Nat.mod_eq_of_lt h]
  · rw [if_neg q] at h ⊢
    obtain ⟨j, rfl⟩ : ∃ j, k = j + 1 := ⟨k - 1, by omega⟩
    rw [show j + 1 - 1 = j by omega] at h ⊢
    rw [show f + (j + 1) = f + j + 1 by omega, show (f + j + 1) % nP = ((f + j) % nP + 1) % nP from (Nat.mod_add_mod _ _ _).symm, Nat.mod_eq_of_lt h]
theorem yq_ge {f nP k : Nat} (hf : f < nP ∨ f = 0) (h0 : 0 < nP) (h : nP ≤ yq f nP k) : 0 = (f + k) % nP := by
  unfold yq at h
  by_cases q : k = 0
  · rw [if_pos q] at h
    omega
  · rw [if_neg q] at h
    obtain ⟨j, rfl⟩ : ∃ j, k = j + 1 := ⟨k - 1, by omega⟩
    rw [show j + 1 - 1 = j by omega] at h
    have hm : (f + j) % nP < nP := Nat.mod_lt _ h0
    rw [show f + (j + 1) = f + j + 1 by omega, show (f + j + 1) % nP = ((f + j) % nP + 1) % nP from (Nat.mod_add_mod _ _ _).symm, show (f + j) % nP + 1 = nP by omega, Nat.mod_self]
theorem strkH_5 {h p i : Nat} {σ : wS} : strkH h p σ 5 i = σ 5 i := by
  unfold strkH
  split
  · unfold strkF; rw [wst_f (by omega), wst_f (by omega), shF_o (by omega)]
  · rfl
theorem chg_5 {nP h i : Nat} {e : Int32} {σ : wS} : chgF nP h e σ 5 i = σ 5 i := by
  have h1 : chg1 h e σ 5 i = σ 5 i := by unfold chg1; rw [wst_f (by omega), wst_f (by omega), wst_f (by omega)]
  unfold chgF
  split
  · split
    · rw [itn_col (fun k x => strkH_5), wst_f (by omega)]; exact h1
    · rw [wst_f (by omega)]; exact h1
  · exact h1
theorem dr_5 {nP h q i : Nat} {x : Int32} {σ : wS} : drF nP h q x σ 5 i = σ 5 i := by
  have h1 : ∀ y, dr1 q y σ 5 i = σ 5 i := fun y => by unfold dr1; rw [wst_f (by omega), wst_f (by omega), wst_f (by omega)]
  unfold drF
  split
  · rfl
  · split
    · exact h1 _
    · rw [chg_5, wst_f (by omega), wst_f (by omega), wst_f (by omega)]; exact h1 _
theorem drI_5 {nP h i : Nat} {x : Int32} {σ : wS} : ∀ {k}, (drI nP h k (σ, x)).1 5 i = σ 5 i
  | 0 => rfl
  | k + 1 => dr_5.trans (drI_5 (k := k))
theorem fq_5 {nP h k f : Nat} {σ : wS} (e : σ 5 h = nI f) (hf : f < 2 ^ 31) : fq nP h k σ = (f + k) % nP := by
  unfold fq
  rw [e, nI_clamp hf]
theorem yq_le {f nP k : Nat} (hf : f < nP ∨ f = 0) (hP : nP ≤ 3) (hk : k ≤ nP) : yq f nP k ≤ 3 := by
  unfold yq
  split
  · omega
  · have : (f + (k - 1)) % nP < nP := Nat.mod_lt _ (by omega)
    omega
end
section
/-! ===== System.arraycopy between two rows of ints, and two villages side by side ===== -/
section XCP
variable {p : Program} {l : Launch} {e : Env} {R : Room} {s : State} {m : MethodId} {args : Array Value} {below : List Frame} {meth : Method} {c : Code} {H : Heap} {locs : List Loc} {cells slots : Nat} {Q : State → Prop}
variable {cc : ByteArray} {pc : Nat} {ls : Array Slot} {rest : List Value} {D : va_G} {cl : List vw_C} {A : Nat → Prop} {a : Nat} {tys : List (ClassId × FieldType)} {H0 : Heap}
theorem i32_cl {z : Int32} (hz : ¬ z < 0) : z.toInt = (z.toNatClampNeg : Int) := by
  have hz0 : (0 : Int) ≤ z.toInt := by
    have := Int32.not_lt.mp hz
    simpa using Int32.le_iff_toInt_le.mp this
  show z.toInt = ((z.toInt.toNat : Nat) : Int)
  omega
theorem xq_copyi (hexec : p.tables.exec = Jvm.exec) (hb : c.code = cc) (hml : c.maxLocals = ls.size) {own : String} {index : Nat} (hown : s.vm.findClass own = some m.cls) (hlink : (Cond.methodLink own index arraycopyName).before args s = true) (hnat : (Cond.native arraycopyName).before args s = true) (hstat : (Cond.static arraycopyName).before args s = true) (hini : (Cond.initialized "java/lang/System").before args s = true)
    (hK : va_K D cl tys s) {a0 : Nat} {c0 c1 : ClassId} {n0 n1 : Nat} {f g : Nat → Int32} (hq0 : va_at D cl (a0, .inl (c0, n0, .inl f)) H) (hq1 : va_at D cl (a, .inl (c1, n1, .inl g)) H) (hS : va_S A H0 H locs) (hA : A a) (t0 t1 : Nat) (ht0 : tys[t0]? = some (c0, .int)) (ht1 : tys[t1]? = some (c1, .int))
    {sp dp n : Int32} (h1 : ¬ sp < 0) (h2 : ¬ dp < 0) (h3 : ¬ n < 0) (h4 : sp.toNatClampNeg + n.toNatClampNeg ≤ n0) (h5 : dp.toNatClampNeg + n.toNatClampNeg ≤ n1)
    (hframes : 1 ≤ R.frames) (hlocals : (rest.map fun v => v.category).sum + (nativeFrameWords "java/lang/System" "arraycopy" 5 + 11) ≤ R.locals) (hdg : decode cc pc = .ok (.invokestatic index, 3))
    (kk : ∀ (H1 : Heap) (locs1 : List Loc), va_at D cl (a, .inl (c1, n1, .inl (va_cpy f g sp.toNatClampNeg dp.toNatClampNeg n.toNatClampNeg))) H1 → (∀ q : Nat, q ≠ a → H1[q]? = H[q]?) → va_S A H0 H1 locs1 → W p l e R s m args below meth c H1 locs1 cells slots Q (F0 m (pc + 3) ls rest)) : W p l e R s m args below meth c H locs cells slots Q (F0 m pc ls (.int n :: .int dp :: .ref a :: .int sp :: .ref a0 :: rest)) := by
  intro T hT X
  have hc0 : H[a0]? = some (vp_cell c0 (n0, .inl f)) := hq0
  have hc1 : H[a]? = some (vp_cell c1 (n1, .inl g)) := hq1
  obtain ⟨-, k0, hk0, cm0, hkk0⟩ := (hK.2 t0 _ ht0).1 n0 (fun j => .int (f j))
  obtain ⟨-, k1, hk1, cm1, hkk1⟩ := (hK.2 t1 _ ht1).1 n1 (fun j => .int (g j))
  obtain ⟨vm', X', step⟩ := X.arraycopy hexec hown hlink hnat hstat hini (src := a0) (dst := a) (cs := vp_cell c0 (n0, .inl f)) (cd := vp_cell c1 (n1, .inl g)) (srcPos := sp) (destPos := dp) (n := n) (by rw [hT]; exact hc0) (by rw [hT]; exact hc1)
    (fun _ h => by cases h) (fun _ h => by cases h) (fun h => by cases h) (fun h => by cases h) hk0 hk1 hkk0 hkk1 (by simp [refKind]) h1 h2 h3
    (by rw [i32_cl h1, i32_cl h3]; show ¬ _ > ((arrV c0 n0 (fun j => .int (f j))).slots.size : Int); rw [arrV_size]; omega)
    (by rw [i32_cl h2, i32_cl h3]; show ¬ _ > ((arrV c1 n1 (fun j => .int (g j))).slots.size : Int); rw [arrV_size]; omega)
    (fun vm₁ _ i hi => by
      have e : (vp_cell c0 (n0, .inl f)).slots.getD (sp.toNatClampNeg + i) .null = .int (f (sp.toNatClampNeg + i)) := by
        show (arrV c0 n0 (fun j => .int (f j))).slots.getD _ _ = _
        rw [Array.getD_eq_getD_getElem?, arrV_read _ _ (by omega)]
        rfl
      rw [e]
      exact ⟨rfl, trivial⟩)
    (g := F0 m pc ls (.int n :: .int dp :: .ref a :: .int sp :: .ref a0 :: rest)) rfl (by rw [hml]) (rest := rest) rfl (by rw [hb]; exact hdg) hframes (by show 2 * 0 + _ + _ ≤ _; omega)
  have e1 : copied (vp_cell c0 (n0, .inl f)) (vp_cell c1 (n1, .inl g)) sp dp n = vp_cell c1 (n1, .inl (va_cpy f g sp.toNatClampNeg dp.toNatClampNeg n.toNatClampNeg)) := va_copied (fun z => .int z) c0 c1 f g h4
  rw [e1] at X' step
  have hl : a < H.size := (Array.getElem?_eq_some_iff.mp hc1).1
  have oq : ∀ q : Nat, q ≠ a → (H.setIfInBounds a (vp_cell c1 (n1, .inl (va_cpy f g sp.toNatClampNeg dp.toNatClampNeg n.toNatClampNeg))))[q]? = H[q]? := fun q hq => by simp [Array.getElem?_setIfInBounds, Ne.symm hq]
  obtain ⟨t, a1, b1⟩ := kk _ _ (show (H.setIfInBounds a _)[a]? = some _ by simp [Array.getElem?_setIfInBounds, hl]) oq ⟨by simp; exact hS.1, fun q g1 g2 => by
      rw [oq q (fun e => g2 (by rw [e]; exact hA))]
      exact hS.2.1 q g1 g2, fun q hq => by
      rcases List.mem_append.mp hq with h | h
      · exact hS.2.2 q h
      · obtain ⟨z, -, hz⟩ := List.mem_map.mp h
        rw [← hz]
        exact hA⟩ _ (by rw [← hT]; rfl) X'
  exact ⟨t, step t a1, b1⟩
end XCP
theorem CV.lt {G : wG} {ad : Nat → Nat} {σ : wS} {H : Heap} (h : CV G ad σ H) {k : Nat} (hk : k < 19) : ad k < H.size := by
  obtain ⟨a, b, c, d, e, f⟩ := h
  rcases (show k = 0 ∨ k = 1 ∨ k = 2 ∨ (3 ≤ k ∧ k < 13) ∨ (13 ≤ k ∧ k < 16) ∨ (16 ≤ k) by omega) with rfl | rfl | rfl | q | q | q
  · exact a.lt
  · exact b.lt
  · exact c.lt
  · have := (d (k - 3) (by omega)).lt
    rwa [show 3 + (k - 3) = k by omega] at this
  · have := (e (k - 13) (by omega)).lt
    rwa [show 13 + (k - 13) = k by omega] at this
  · have := (f (k - 16) (by omega)).lt
    rwa [show 16 + (k - 16) = k by omega] at this
def adApart (ad ad2 : Nat → Nat) (n n2 : Nat) : Prop := ∀ i j, i < n → j < n2 → ad i ≠ ad2 j
/-- the other village stays -/
theorem CV.other {G : wG} {ad ad2 : Nat → Nat} {σ : wS} {H0 H : Heap} {locs : List Loc} (h : CV G ad2 σ H0) (hd : adApart ad ad2 19 19) (hS : va_S (AV ad 19) H0 H locs) : CV G ad2 σ H :=
  h.kept (fun k hk => hS.2.1 _ (h.lt hk) (fun ⟨j, hj, e⟩ => hd j k hj hk e.symm))
/-- a copied house, a copied pump -/
def cpH (h : Nat) (τ σ : wS) : wS := wst (wst (wst (wst (wst (wst (wst (wst (wst (wst (wst σ 0 h (τ 0 h)) 1 h (τ 1 h)) 2 h (τ 2 h)) 3 h (τ 3 h)) 4 h (τ 4 h)) 6 h (τ 6 h)) 5 h (τ 5 h)) 7 h (τ 7 h)) 8 h (τ 8 h)) 9 h (τ 9 h)) 10 h (τ 10 h)
def rosC (p : Nat) (τ σ : wS) : wS := fun f i => if f = 40 + p ∧ i < 10 then τ f i else σ f i
def cpP (p : Nat) (τ σ : wS) : wS :=
  wst (wst (wst (wst (wst (rosC p τ (wst (wst (wst (wst (wst (wst σ 20 p (τ 20 p)) 21 p (τ 21 p)) 22 p (τ 22 p)) 23 p (τ 23 p)) 24 p (τ 24 p)) 25 p (τ 25 p))) 26 p (τ 26 p)) 27 p (τ 27 p)) 28 p (τ 28 p)) 29 p (τ 29 p)) 30 p (τ 30 p)
/-- the rows of a roster come over -/
theorem rosC_arr {cI : ClassId} {p : Nat} {τ σ : wS} : (.inl (cI, 10, .inl (va_cpy (fun k => τ (40 + p) k) (fun k => σ (40 + p) k) 0 0 10)) : va_E) = rArr cI (rosC p τ σ) p := by
  have e : va_cpy (fun k => τ (40 + p) k) (fun k => σ (40 + p) k) 0 0 10 = fun k => rosC p τ σ (40 + p) k := by
    funext k
    unfold rosC
    by_cases q : k < 10
    · rw [pk_cpy_in (Nat.zero_le _) (by omega), if_pos ⟨rfl, q⟩, Nat.sub_zero, Nat.zero_add]
    · rw [pk_cpy_out (by omega), if_neg (fun z => q z.2)]
  rw [e]
theorem CV.setRC {G : wG} {ad : Nat → Nat} {τ σ : wS} {H H1 : Heap} {p : Nat} (hI : adInj ad 19) (hV : CV G ad σ H) (hp : p < 3)
    (e1 : va_at G.1 vwCl (ad (16 + p), rArr G.2.1 (rosC p τ σ) p) H1) (e3 : ∀ q : Nat, q ≠ ad (16 + p) → H1[q]? = H[q]?) : CV G ad (rosC p τ σ) H1 := by
  obtain ⟨a, b, c, d, e, f⟩ := hV
  have o : ∀ g i, g ≠ 40 + p → rosC p τ σ g i = σ g i := fun g i hg => by unfold rosC; rw [if_neg (fun z => hg z.1)]
  refine ⟨?_, b.kept (e3 _ (adNe hI (by omega) (by omega) (by omega))), c.kept (e3 _ (adNe hI (by omega) (by omega) (by omega))), fun h hh => ?_, fun p' hp' => ?_, fun p' hp' => ?_⟩
  · have e9 : vfs (ad 1) (ad 2) (rosC p τ σ) = vfs (ad 1) (ad 2) σ := by simp only [vfs, o 50 _ (by omega), o 51 _ (by omega), o 52 _ (by omega), o 53 _ (by omega)]
    rw [e9]
    exact a.kept (e3 _ (adNe hI (by omega) (by omega) (by omega)))
  · have e9 : hfs (rosC p τ σ) h = hfs σ h := by simp only [hfs, o 0 _ (by omega), o 1 _ (by omega), o 2 _ (by omega), o 3 _ (by omega), o 4 _ (by omega), o 5 _ (by omega), o 6 _ (by omega), o 7 _ (by omega), o 8 _ (by omega), o 9 _ (by omega), o 10 _ (by omega)]
    rw [e9]
    exact (d h hh).kept (e3 _ (adNe hI (by omega) (by omega) (by omega)))
  · have e9 : pfs (ad (16 + p')) (rosC p τ σ) p' = pfs (ad (16 + p')) σ p' := by
      simp only [pfs, o 20 _ (by omega), o 21 _ (by omega), o 22 _ (by omega), o 23 _ (by omega), o 24 _ (by omega), o 25 _ (by omega), o 26 _ (by omega), o 27 _ (by omega), o 28 _ (by omega), o 29 _ (by omega), o 30 _ (by omega), o 31 _ (by omega), o 32 _ (by omega)]
    rw [e9]
    exact (e p' hp').kept (e3 _ (adNe hI (by omega) (by omega) (by omega)))
  · by_cases q : p' = p
    · subst q
      exact e1
    · have e9 : rArr G.2.1 (rosC p τ σ) p' = rArr G.2.1 σ p' := by
        simp only [rArr, o (40 + p') _ (by omega)]
      rw [e9]
      exact (f p' hp').kept (e3 _ (adNe hI (by omega) (by omega) (by omega)))
section XRC
variable {p : Program} {l : Launch} {e : Env} {R : Room} {s : State} {m : MethodId} {args : Array Value} {below : List Frame} {meth : Method} {c : Code} {H : Heap} {locs : List Loc} {cells slots : Nat} {Q : State → Prop}
variable {cc : ByteArray} {pc : Nat} {ls : Array Slot} {rest : List Value} {H0 : Heap} {G : wG} {ad ad2 : Nat → Nat} {nH nP : Nat} {δ τ δ2 τ2 : wS} {own : String} {index : Nat}
/-- the copy of a roster, out of the other village -/
theorem wRC (hexec : p.tables.exec = Jvm.exec) (hb : c.code = cc) (hml : c.maxLocals = ls.size) (hown : s.vm.findClass own = some m.cls) (hlink : (Cond.methodLink own index arraycopyName).before args s = true) (hnat : (Cond.native arraycopyName).before args s = true) (hstat : (Cond.static arraycopyName).before args s = true) (hini : (Cond.initialized "java/lang/System").before args s = true)
    (hK : wK G s) (hI : adInj ad 19) (hV : CVm G ad 10 3 δ τ H) (hV2 : CVm G ad2 nH nP δ2 τ2 H) (hS : va_S (AV ad 19) H0 H locs) {h : Nat} (hh : h < nP) (hn : nP ≤ 3)
    (hframes : 1 ≤ R.frames) (hlocals : (rest.map fun v => v.category).sum + (nativeFrameWords "java/lang/System" "arraycopy" 5 + 11) ≤ R.locals) (hdg : decode cc pc = .ok (.invokestatic index, 3))
    (kk : ∀ (H1 : Heap) (locs1 : List Loc), CVm G ad 10 3 δ (rosC h τ2 τ) H1 → va_S (AV ad 19) H0 H1 locs1 → W p l e R s m args below meth c H1 locs1 cells slots Q (F0 m (pc + 3) ls rest)) : W p l e R s m args below meth c H locs cells slots Q (F0 m pc ls (.int 10 :: .int 0 :: .ref (ad (16 + h)) :: .int 0 :: .ref (ad2 (16 + h)) :: rest)) := by
  refine xq_copyi hexec hb hml hown hlink hnat hstat hini hK (hV2.2.2.2.2.2 h (by omega)) (hV.2.2.2.2.2 h (by omega)) hS ⟨16 + h, by omega, rfl⟩ 0 0 rfl rfl (by decide) (by decide) (by decide) (by decide) (by decide) hframes hlocals hdg (fun H1 locs1 e1 e3 hS1 => ?_)
  have e9 : wmx 10 3 δ (rosC h τ2 τ) = rosC h (wmx nH nP δ2 τ2) (wmx 10 3 δ τ) := by
    funext f i
    unfold rosC
    by_cases q : f = 40 + h ∧ i < 10
    · rw [if_pos q, q.1, wmx_r (wact_r hh hn), wmx_r (wact_r (by omega) (by omega)), if_pos ⟨rfl, q.2⟩]
    · rw [if_neg q]
      unfold wmx
      split
      · exact if_neg q
      · rfl
  refine kk H1 locs1 ?_ hS1
  show CV G ad (wmx 10 3 δ (rosC h τ2 τ)) H1
  rw [e9]
  refine CV.setRC hI hV (by omega) ?_ e3
  rw [← rosC_arr]
  exact e1
end XRC
theorem nar01 {x : Int32} (h : x = 0 ∨ x = 1) : narrow .boolean (.int x) = .int x := by rcases h with h | h <;> rw [h] <;> rfl
theorem fit01 {x : Int32} (h : x = 0 ∨ x = 1) : fits .boolean (.int x) = true := by rcases h with h | h <;> rw [h] <;> rfl
theorem cpH_v {h f j : Nat} {τ σ : wS} (hf : 11 ≤ f) : cpH h τ σ f j = σ f j := by
  unfold cpH
  rw [wst_f (by omega), wst_f (by omega), wst_f (by omega), wst_f (by omega), wst_f (by omega), wst_f (by omega), wst_f (by omega), wst_f (by omega), wst_f (by omega), wst_f (by omega), wst_f (by omega)]
theorem cpP_v {p f j : Nat} {τ σ : wS} (hf : f < 20 ∨ 31 ≤ f) (h2 : f ≠ 40 + p) : cpP p τ σ f j = σ f j := by
  unfold cpP
  rw [wst_f (by omega), wst_f (by omega), wst_f (by omega), wst_f (by omega), wst_f (by omega)]
  unfold rosC
  rw [if_neg (fun q => h2 q.1), wst_f (by omega), wst_f (by omega), wst_f (by omega), wst_f (by omega), wst_f (by omega), wst_f (by omega)]
theorem itn_colb {f : Nat → wS → wS} {g j : Nat} {n : Nat} {σ : wS} (h : ∀ k, k < n → ∀ x, f k x g j = x g j) : itn f n σ g j = σ g j := by
  induction n with
  | zero => rfl
  | succ n ih => exact (h n (by omega) _).trans (ih (fun k hk => h k (by omega)))
theorem itn_cpP {i f j : Nat} {τ σ : wS} (hi : i ≤ 3) (hf : 43 ≤ f) : itn (fun p => cpP p τ) i σ f j = σ f j := itn_colb (fun k hk x => cpP_v (by omega) (by omega))
/-- the checksum goes on over n numbers -/
def mxl (f : Nat → Int32) (d : Int64) : Nat → Int64
  | 0 => d
  | n + 1 => mxl f d n * 31 + (f n).toInt64
def hftF (nP : Nat) (τ : wS) (h k : Nat) : Int32 := match k with
  | 0 => τ 0 h
  | 1 => τ 1 h
  | 2 => τ 3 h
  | 3 => τ 4 h
  | 4 => τ 6 h
  | 5 => τ 5 h
  | 6 => τ 7 h
  | 7 => τ 8 h
  | 8 => τ 9 h
  | 9 => τ 10 h
  | _ => sm (fun p => if τ 25 p = nI h then 1 else 0) nP
def totF (nH nP : Nat) (τ : wS) (k : Nat) : Int32 := match k with
  | 0 => τ 50 0
  | 1 => τ 51 0
  | 2 => τ 52 0
  | 3 => τ 53 0
  | 4 => sm (fun h => τ 3 h) nH
  | 5 => sm (fun h => if τ 6 h = 0 then 0 else 1) nH
  | 6 => sm (fun h => τ 4 h) nH
  | 7 => sm (fun h => τ 8 h) nH
  | 8 => sm (fun h => if τ 6 h = 0 then ndF τ h else 0) nH
  | _ => sm (fun h => if τ 23 h = 0 then 0 else 1) nP
end
section
/-! ===== the object: two villages, and what a throw wants ===== -/
def XW (G : wG) (xa : Nat) (ad ad2 : Nat → Nat) (σ σ2 : wS) (H : Heap) : Prop := va_at G.1 vwCl (xa, .inr (3, [.ref (ad 0), .ref (ad2 0)])) H ∧ CV G ad σ H ∧ CV G ad2 σ2 H
def XI (xa : Nat) (ad ad2 : Nat → Nat) : Prop := adInj ad 19 ∧ adInj ad2 19 ∧ adApart ad ad2 19 19 ∧ (∀ k, k < 19 → xa ≠ ad k) ∧ ∀ k, k < 19 → xa ≠ ad2 k
/-- what a call may write: the villages, and what is new -/
def AX (ad ad2 : Nat → Nat) (sz : Nat) : Nat → Prop := fun q => AV ad 19 q ∨ AV ad2 19 q ∨ sz ≤ q
theorem adApart.symm {ad ad2 : Nat → Nat} (h : adApart ad ad2 19 19) : adApart ad2 ad 19 19 := fun i j hi hj e => h j i hj hi e.symm
theorem XW.main {G : wG} {xa : Nat} {ad ad2 : Nat → Nat} {σ σ2 ρ : wS} {H H1 : Heap} (hI : XI xa ad ad2) (h : XW G xa ad ad2 σ σ2 H) (hV : CV G ad ρ H1) (hk : ∀ q : Nat, q < H.size → ¬ AV ad 19 q → H1[q]? = H[q]?) : XW G xa ad ad2 ρ σ2 H1 :=
  ⟨h.1.kept (hk _ h.1.lt (fun ⟨k, hk, e⟩ => hI.2.2.2.1 k hk e)), hV, h.2.2.kept (fun k hk9 => hk _ (h.2.2.lt hk9) (fun ⟨j, hj, e⟩ => hI.2.2.1 j k hj hk9 e.symm))⟩
theorem XW.trial {G : wG} {xa : Nat} {ad ad2 : Nat → Nat} {σ σ2 ρ : wS} {H H1 : Heap} (hI : XI xa ad ad2) (h : XW G xa ad ad2 σ σ2 H) (hV : CV G ad2 ρ H1) (hk : ∀ q : Nat, q < H.size → ¬ AV ad2 19 q → H1[q]? = H[q]?) : XW G xa ad ad2 σ ρ H1 :=
  ⟨h.1.kept (hk _ h.1.lt (fun ⟨k, hk, e⟩ => hI.2.2.2.2 k hk e)), h.2.1.kept (fun k hk9 => hk _ (h.2.1.lt hk9) (fun ⟨j, hj, e⟩ => hI.2.2.1 k j hk9 hj e)), hV⟩
theorem XW.kept {G : wG} {xa : Nat} {ad ad2 : Nat → Nat} {σ σ2 : wS} {H H1 : Heap} (h : XW G xa ad ad2 σ σ2 H) (hk : ∀ q : Nat, q < H.size → H1[q]? = H[q]?) : XW G xa ad ad2 σ σ2 H1 :=
  ⟨h.1.kept (hk _ h.1.lt), h.2.1.kept (fun k hk9 => hk _ (h.2.1.lt hk9)), h.2.2.kept (fun k hk9 => hk _ (h.2.2.lt hk9))⟩
/-- the trial village as it is seen from outside: its 'open' and 'broke today' alone -/
def XWz (G : wG) (xa : Nat) (ad ad2 : Nat → Nat) (σ z : wS) (H : Heap) : Prop := ∃ σ2, XW G xa ad ad2 σ σ2 H ∧ ∀ i, i < 3 → σ2 31 i = z 31 i ∧ σ2 32 i = z 32 i
theorem XWz.kept {G : wG} {xa : Nat} {ad ad2 : Nat → Nat} {σ z : wS} {H H1 : Heap} (h : XWz G xa ad ad2 σ z H) (hk : ∀ q : Nat, q < H.size → H1[q]? = H[q]?) : XWz G xa ad ad2 σ z H1 := by
  obtain ⟨σ2, h1, h2⟩ := h
  exact ⟨σ2, h1.kept hk, h2⟩
abbrev nIAE : String := "java/lang/IllegalArgumentException"
abbrev nISE : String := "java/lang/IllegalStateException"
abbrev nIOB : String := "java/lang/IndexOutOfBoundsException"
abbrev xNames : List String := ["java/lang/RuntimeException", "java/lang/Exception"]
def XStr (U : State) : Prop := (∃ a, vk_R RX3 29 "no room for another house" a U) ∧ (∃ a, vk_R RX3 55 "no room for another pump" a U) ∧ (∃ a, vk_R RX3 90 "the house is on the roster" a U) ∧ (∃ a, vk_R RX3 95 "the house has too many marks" a U) ∧ (∃ a, vk_R RX3 180 "an argument is too small or too large" a U) ∧
  (∃ a, vk_R RX3 185 "nothing is told by this number" a U) ∧ (∃ a, vk_R RX3 192 "no such house" a U) ∧ (∃ a, vk_R RX3 197 "no such pump" a U) ∧ ∃ a, vk_R RX3 199 "no such place on the roster" a U
def XDe (U : State) : Prop := va_Nw (.declares (Bundle.initS "java/lang/RuntimeException")) U ∧ va_Nw (.declares (Bundle.initS "java/lang/Exception")) U ∧ va_Nw (.declares (Bundle.initS Bundle.tN)) U
def XCa (U : State) : Prop := va_Nw (.castable nIAE nIAE) U ∧ va_Nw (.castable nISE nISE) U ∧ va_Nw (.castable nIOB nIOB) U ∧ XDe U
def XK (A : Nat → Prop) (U : State) : Prop := (vx_Zq Bundle.tN "UNASSIGNED_STACK" Bundle.steD A U U.heap ∧ vx_Zq Bundle.tN "SUPPRESSED_SENTINEL" Bundle.listD A U U.heap) ∧ XCa U ∧ XStr U
theorem XStr.warm {s U : State} (hW : s.WarmedH U.vm) (h : XStr s) : XStr U := by
  obtain ⟨⟨a1, h1⟩, ⟨a2, h2⟩, ⟨a3, h3⟩, ⟨a4, h4⟩, ⟨a5, h5⟩, ⟨a6, h6⟩, ⟨a7, h7⟩, ⟨a8, h8⟩, ⟨a9, h9⟩⟩ := h
  exact ⟨⟨a1, h1.warm hW⟩, ⟨a2, h2.warm hW⟩, ⟨a3, h3.warm hW⟩, ⟨a4, h4.warm hW⟩, ⟨a5, h5.warm hW⟩, ⟨a6, h6.warm hW⟩, ⟨a7, h7.warm hW⟩, ⟨a8, h8.warm hW⟩, ⟨a9, h9.warm hW⟩⟩
theorem XCa.warm {s U : State} (hW : s.WarmedH U.vm) (h : XCa s) : XCa U := ⟨va_Nw.warmC hW h.1, va_Nw.warmC hW h.2.1, va_Nw.warmC hW h.2.2.1, va_Nw.warmD hW h.2.2.2.1, va_Nw.warmD hW h.2.2.2.2.1, va_Nw.warmD hW h.2.2.2.2.2⟩
/-- at a callee's start, from here -/
theorem XK.at {A A' : Nat → Prop} {s U : State} {H : Heap} {locs : List Loc} (h : XK A s) (hS : va_S A s.heap H locs) (hU : U.heap = H) (hW : s.WarmedH U.vm) (hA : ∀ q, A' q → A q) : XK A' U := by
  obtain ⟨⟨h1, h2⟩, h3, h4⟩ := h
  refine ⟨⟨?_, ?_⟩, h3.warm hW, h4.warm hW⟩
  · rw [hU]; exact ((h1.moved hW.alike).kept (fun a g1 g2 => hS.2.1 a g1 g2)).narrow hA
  · rw [hU]; exact ((h2.moved hW.alike).kept (fun a g1 g2 => hS.2.1 a g1 g2)).narrow hA
def Pc3 (G : wG) (av : List Value) (sz : Nat) (B : Heap → Prop) (A : Nat → Prop) : Array Value → State → Prop := va_Pc av (fun U => U.heap.size = sz ∧ B U.heap ∧ wK G U ∧ XK A U)
theorem Pc3.blind {G : wG} {av : List Value} {sz : Nat} {B : Heap → Prop} {A : Nat → Prop} : FrameBlind (Pc3 G av sz B A) := fun a U g mk q =>
  ⟨q.1, q.2.1, q.2.2.1, va_K.moved (u := U) (U := U.calling g mk a) (Vm.Alike.refl U.vm) q.2.2.2.1, by
    obtain ⟨⟨h1, h2⟩, h3, h4⟩ := q.2.2.2.2
    exact ⟨⟨h1.moved (U := U.calling g mk a) (Vm.Alike.refl U.vm), h2.moved (U := U.calling g mk a) (Vm.Alike.refl U.vm)⟩, h3.warm (U := U.calling g mk a) (State.WarmedH.refl U), h4.warm (U := U.calling g mk a) (State.WarmedH.refl U)⟩⟩
theorem Pc3.pre {G : wG} {av : List Value} {B : Heap → Prop} {A A' : Nat → Prop} {s : State} {H : Heap} {locs : List Loc} (hB : B H) (hK : wK G s) (hX : XK A s) (hS : va_S A s.heap H locs) (hA : ∀ q, A' q → A q) : ∀ U : State, U.heap = H → s.WarmedH U.vm → Pc3 G av H.size B A' av.toArray U :=
  fun U hU hW => ⟨rfl, by rw [hU], by rw [hU]; exact hB, va_K.moved hW.alike hK, hX.at hS hU hW hA⟩
def Qxi (P : Prop) (v : Int32) (B : Heap → Prop) (A : Nat → Prop) : Array Value → State → Outcome → State → Prop := va_Qi (S := Unit) (fun r _ => P ∧ r = v) (fun _ t => B t.heap) A
def Qxv (P : Prop) (B : Heap → Prop) (A : Nat → Prop) : Array Value → State → Outcome → State → Prop := va_Qv (S := Unit) (fun _ => P) (fun _ t => B t.heap) A
def Xx (P : String → Prop) (B : Heap → Prop) (A : Nat → Prop) : String → State → State → Prop := vx_X (S := Unit) (fun _ => True) (fun E _ t => P E ∧ B t.heap) A
section YR
variable {p : Program} {l : Launch} {e : Env} {R : Room} {s : State} {m : MethodId} {args : Array Value} {below : List Frame} {meth : Method} {c : Code} {H : Heap} {locs : List Loc} {cells slots : Nat} {Q : State → Prop}
variable {cc : ByteArray} {pc : Nat} {ls : Array Slot} {rest : List Value} {H0 : Heap} {G : wG} {xa sz : Nat} {ad ad2 : Nat → Nat} {nH nP : Nat} {δ τ σ σ2 : wS} {Ts : List Cond} {own : String} {index : Nat}
theorem rX0 (hexec : p.tables.exec = Jvm.exec) (hb : c.code = cc) (hts : ∀ w ∈ Ts, w.before args s = true) (hin : ∀ w ∈ wsX30, w ∈ Ts) (hown : s.vm.findClass own = some m.cls) (hK : wK G s) (hW : XW G xa ad ad2 σ σ2 H) (hlink : (Cond.fieldLink own index RX3 (TX3 0).2.1 (TX3 0).2.2.1).before args s = true) (hdg : decode cc pc = .ok (.getfield index, 3))
    (kk : W p l e R s m args below meth c H locs cells slots Q (F0 m (pc + 3) ls (.ref (ad 0) :: rest))) : W p l e R s m args below meth c H locs cells slots Q (F0 m pc ls (.ref xa :: rest)) :=
  va_get (ci := 3) (C := RX3) (T := TX3) (N := 2) hexec hb hts hin hown hK (va_P1 hW.1) 0 rfl rfl 0 (by omega) hlink (fun _ h9 => h9) rfl hdg kk
theorem rX1 (hexec : p.tables.exec = Jvm.exec) (hb : c.code = cc) (hts : ∀ w ∈ Ts, w.before args s = true) (hin : ∀ w ∈ wsX30, w ∈ Ts) (hown : s.vm.findClass own = some m.cls) (hK : wK G s) (hW : XW G xa ad ad2 σ σ2 H) (hlink : (Cond.fieldLink own index RX3 (TX3 1).2.1 (TX3 1).2.2.1).before args s = true) (hdg : decode cc pc = .ok (.getfield index, 3))
    (kk : W p l e R s m args below meth c H locs cells slots Q (F0 m (pc + 3) ls (.ref (ad2 0) :: rest))) : W p l e R s m args below meth c H locs cells slots Q (F0 m pc ls (.ref xa :: rest)) :=
  va_get (ci := 3) (C := RX3) (T := TX3) (N := 2) hexec hb hts hin hown hK (va_P1 hW.1) 0 rfl rfl 1 (by omega) hlink (fun _ h9 => h9) rfl hdg kk
theorem xH (k : Nat) (hexec : p.tables.exec = Jvm.exec) (hb : c.code = cc) (hts : ∀ w ∈ Ts, w.before args s = true) (hin : ∀ w ∈ wsX00, w ∈ Ts) (hown : s.vm.findClass own = some m.cls) (hK : wK G s) (hI : XI xa ad ad2) (hW : XW G xa ad ad2 (wmx nH nP δ τ) σ2 H) (hS : va_S (AX ad ad2 sz) H0 H locs) {h f : Nat} {x : Int32} (hh : h < nH) (hn : nH ≤ 10) (h1 : 1 ≤ k) (h2 : k < 12) (hf : hcol k = f) (hlink : (Cond.fieldLink own index RX0 (TX0 k).2.1 (TX0 k).2.2.1).before args s = true) (hdg : decode cc pc = .ok (.putfield index, 3))
    (kk : ∀ (H1 : Heap) (locs1 : List Loc), XW G xa ad ad2 (wmx nH nP δ (wst τ f h x)) σ2 H1 → va_S (AX ad ad2 sz) H0 H1 locs1 → W p l e R s m args below meth c H1 locs1 cells slots Q (F0 m (pc + 3) ls rest)) : W p l e R s m args below meth c H locs cells slots Q (F0 m pc ls (.int x :: .ref (ad (3 + h)) :: rest)) := by
  subst hf
  have hty : tyX0 k = .int := by unfold tyX0; split <;> rfl
  refine xq_put (ci := 0) (C := RX0) (T := TX0) (N := 12) hexec hb hts hin tyX0 tyX0_ok nmX0 hown hK (hW.2.1.2.2.2.1 h (by omega)) hS (Or.inl ⟨3 + h, by omega, rfl⟩) rfl k h2 hlink (fun x h9 => by rw [TX0_1 k] at h9; exact h9) (by unfold TX0; split <;> first | rfl | omega) (by rw [hty]; rfl) (by rw [hty]; rfl) (show k < 12 from h2) hdg (fun H1 locs1 e1 e3 hS1 => ?_)
  have hV1 := CV.setH hI.1 hW.2.1 (by omega) h1 h2 e1 e3
  rw [wmx_w (wact_h (hcol_le k) hh)] at hV1
  exact kk H1 locs1 (hW.main hI hV1 (fun q _ hq => e3 q (fun z => hq ⟨3 + h, by omega, z⟩))) hS1
/-- a House's field of the trial village -/
theorem xH2 (k : Nat) (hexec : p.tables.exec = Jvm.exec) (hb : c.code = cc) (hts : ∀ w ∈ Ts, w.before args s = true) (hin : ∀ w ∈ wsX00, w ∈ Ts) (hown : s.vm.findClass own = some m.cls) (hK : wK G s) (hI : XI xa ad ad2) (hW : XW G xa ad ad2 σ (wmx nH nP δ τ) H) (hS : va_S (AX ad ad2 sz) H0 H locs) {h f : Nat} {x : Int32} (hh : h < nH) (hn : nH ≤ 10) (h1 : 1 ≤ k) (h2 : k < 12) (hf : hcol k = f) (hlink : (Cond.fieldLink own index RX0 (TX0 k).2.1 (TX0 k).2.2.1).before args s = true) (hdg : decode cc pc = .ok (.putfield index, 3))
    (kk : ∀ (H1 : Heap) (locs1 : List Loc), XW G xa ad ad2 σ (wmx nH nP δ (wst τ f h x)) H1 → va_S (AX ad ad2 sz) H0 H1 locs1 → W p l e R s m args below meth c H1 locs1 cells slots Q (F0 m (pc + 3) ls rest)) : W p l e R s m args below meth c H locs cells slots Q (F0 m pc ls (.int x :: .ref (ad2 (3 + h)) :: rest)) := by
  subst hf
  have hty : tyX0 k = .int := by unfold tyX0; split <;> rfl
  refine xq_put (ci := 0) (C := RX0) (T := TX0) (N := 12) hexec hb hts hin tyX0 tyX0_ok nmX0 hown hK (hW.2.2.2.2.2.1 h (by omega)) hS (Or.inr (Or.inl ⟨3 + h, by omega, rfl⟩)) rfl k h2 hlink (fun x h9 => by rw [TX0_1 k] at h9; exact h9) (by unfold TX0; split <;> first | rfl | omega) (by rw [hty]; rfl) (by rw [hty]; rfl) (show k < 12 from h2) hdg (fun H1 locs1 e1 e3 hS1 => ?_)
  have hV1 := CV.setH hI.2.1 hW.2.2 (by omega) h1 h2 e1 e3
  rw [wmx_w (wact_h (hcol_le k) hh)] at hV1
  exact kk H1 locs1 (hW.trial hI hV1 (fun q _ hq => e3 q (fun z => hq ⟨3 + h, by omega, z⟩))) hS1
theorem xP (k : Nat) (hexec : p.tables.exec = Jvm.exec) (hb : c.code = cc) (hts : ∀ w ∈ Ts, w.before args s = true) (hin : ∀ w ∈ wsX10, w ∈ Ts) (hown : s.vm.findClass own = some m.cls) (hK : wK G s) (hI : XI xa ad ad2) (hW : XW G xa ad ad2 (wmx nH nP δ τ) σ2 H) (hS : va_S (AX ad ad2 sz) H0 H locs) {h f : Nat} {x : Int32} (hh : h < nP) (hn : nP ≤ 3) (h1 : k ≠ 6) (h2 : k < 14) (hf : pcol k = f) (hx1 : narrow (tyX1 k) (.int x) = .int x) (hx2 : fits (tyX1 k) (.int x) = true) (hlink : (Cond.fieldLink own index RX1 (TX1 k).2.1 (TX1 k).2.2.1).before args s = true) (hdg : decode cc pc = .ok (.putfield index, 3))
    (kk : ∀ (H1 : Heap) (locs1 : List Loc), XW G xa ad ad2 (wmx nH nP δ (wst τ f h x)) σ2 H1 → va_S (AX ad ad2 sz) H0 H1 locs1 → W p l e R s m args below meth c H1 locs1 cells slots Q (F0 m (pc + 3) ls rest)) : W p l e R s m args below meth c H locs cells slots Q (F0 m pc ls (.int x :: .ref (ad (13 + h)) :: rest)) := by
  subst hf
  have hp := pcol_in k
  refine xq_put (ci := 1) (C := RX1) (T := TX1) (N := 14) hexec hb hts hin tyX1 tyX1_ok nmX1 hown hK (hW.2.1.2.2.2.2.1 h (by omega)) hS (Or.inl ⟨13 + h, by omega, rfl⟩) rfl k h2 hlink (fun x h9 => by rw [TX1_1 k] at h9; exact h9) (by unfold TX1; split <;> first | rfl | omega) hx1 hx2 (show k < 14 from h2) hdg (fun H1 locs1 e1 e3 hS1 => ?_)
  have hV1 := CV.setP hI.1 hW.2.1 (by omega) h1 h2 e1 e3
  rw [wmx_w (wact_pp (by omega) hp.2 hh)] at hV1
  exact kk H1 locs1 (hW.main hI hV1 (fun q _ hq => e3 q (fun z => hq ⟨13 + h, by omega, z⟩))) hS1
theorem xVm (k : Nat) (hexec : p.tables.exec = Jvm.exec) (hb : c.code = cc) (hts : ∀ w ∈ Ts, w.before args s = true) (hin : ∀ w ∈ wsX20, w ∈ Ts) (hown : s.vm.findClass own = some m.cls) (hK : wK G s) (hI : XI xa ad ad2) (hW : XW G xa ad ad2 (wmx nH nP δ τ) σ2 H) (hS : va_S (AX ad ad2 sz) H0 H locs) {f : Nat} {x : Int32} (h1 : 2 ≤ k) (h2 : k < 6) (hf : vcol k = f) (hlink : (Cond.fieldLink own index RX2 (TX2 k).2.1 (TX2 k).2.2.1).before args s = true) (hdg : decode cc pc = .ok (.putfield index, 3))
    (kk : ∀ (H1 : Heap) (locs1 : List Loc), XW G xa ad ad2 (wmx nH nP δ (wst τ f 0 x)) σ2 H1 → va_S (AX ad ad2 sz) H0 H1 locs1 → W p l e R s m args below meth c H1 locs1 cells slots Q (F0 m (pc + 3) ls rest)) : W p l e R s m args below meth c H locs cells slots Q (F0 m pc ls (.int x :: .ref (ad 0) :: rest)) := by
  subst hf
  have hp := vcol_in k
  have hty : tyX2 k = .int := by unfold tyX2; split <;> first | rfl | omega
  refine xq_put (ci := 2) (C := RX2) (T := TX2) (N := 6) hexec hb hts hin tyX2 tyX2_ok nmX2 hown hK hW.2.1.1 hS (Or.inl ⟨0, by omega, rfl⟩) rfl k h2 hlink (fun x h9 => by rw [TX2_1 k] at h9; exact h9) (by unfold TX2; split <;> first | rfl | omega) (by rw [hty]; rfl) (by rw [hty]; rfl) (show k < 6 from h2) hdg (fun H1 locs1 e1 e3 hS1 => ?_)
  have hV1 := CV.setV hI.1 hW.2.1 h1 h2 e1 e3
  rw [wmx_w (wact_v (by omega))] at hV1
  exact kk H1 locs1 (hW.main hI hV1 (fun q _ hq => e3 q (fun z => hq ⟨0, by omega, z⟩))) hS1
theorem xRo (hexec : p.tables.exec = Jvm.exec) (hb : c.code = cc) (hK : wK G s) (hI : XI xa ad ad2) (hW : XW G xa ad ad2 (wmx nH nP δ τ) σ2 H) (hS : va_S (AX ad ad2 sz) H0 H locs) {h k : Nat} {x : Int32} (hh : h < nP) (hn : nP ≤ 3) (hk : k < 10) (hdg : decode cc pc = .ok (.iastore, 1))
    (kk : ∀ (H1 : Heap) (locs1 : List Loc), XW G xa ad ad2 (wmx nH nP δ (wst τ (40 + h) k x)) σ2 H1 → va_S (AX ad ad2 sz) H0 H1 locs1 → W p l e R s m args below meth c H1 locs1 cells slots Q (F0 m (pc + 1) ls rest)) : W p l e R s m args below meth c H locs cells slots Q (F0 m pc ls (.int x :: .int (nI k) :: .ref (ad (16 + h)) :: rest)) := by
  refine xq_iast hexec hb hK (hW.2.1.2.2.2.2.2 h (by omega)) hS (Or.inl ⟨16 + h, by omega, rfl⟩) 0 rfl (vp_in_nI hk (by omega)) hdg (fun H1 locs1 e1 e3 hS1 => ?_)
  rw [nI_clamp (show k < 2 ^ 31 by omega), rArr_upd] at e1
  have hV1 := CV.setR hI.1 hW.2.1 (by omega) e1 e3
  rw [wmx_w (wact_r hh hn)] at hV1
  exact kk H1 locs1 (hW.main hI hV1 (fun q _ hq => e3 q (fun z => hq ⟨16 + h, by omega, z⟩))) hS1
end YR
section YC
variable {p : Program} {l : Launch} {e : Env} {R : Room} {s : State} {m : MethodId} {args : Array Value} {below : List Frame} {meth : Method} {c : Code} {H : Heap} {locs : List Loc} {cells slots : Nat} {Q : State → Prop}
variable {pc : Nat} {ls : Array Slot} {rest st0 : List Value} {a : Array Value} {A0 A1 : Nat → Prop} {H0 : Heap} {mc ms : Nat} {free : Addr → Prop} {B BX : Heap → Prop} {AX9 : Nat → Prop} {P : Prop} {PX : String → Prop}
/-- a call that gives nothing or throws -/
theorem kXv (hr : vx_Run p l e R s m args below meth c H locs cells slots mc ms (F0 m pc ls st0) rest (Qxv P B A1 a) (Xx PX BX AX9) free) (hS : va_S A0 H0 H locs) (hA : ∀ q, A1 q → A0 q) (hf : ∀ q, free q → A0 q) (hAX : ∀ q, AX9 q → A0 q)
    (kx : ∀ (E : String) (ce : Cell) (q9 : Addr) (H1 : Heap) (locs1 : List Loc), PX E → BX H1 → (∀ q : Nat, q < H.size → ¬ AX9 q → H1[q]? = H[q]?) → va_S A0 H0 H1 locs1 → H1[q9]? = some ce → ce.vm = .none → s.vm.findClass E = some ce.cls → vx_W p l e R s m args below meth c H1 locs1 (cells + mc) (slots + ms) Q (F0 m pc ls rest) q9)
    (kk : ∀ (H1 : Heap) (locs1 : List Loc), P → B H1 → (∀ q : Nat, q < H.size → ¬ A1 q → H1[q]? = H[q]?) → va_S A0 H0 H1 locs1 → W p l e R s m args below meth c H1 locs1 (cells + mc) (slots + ms) Q (F0 m (pc + 3) ls rest)) : W p l e R s m args below meth c H locs cells slots Q (F0 m pc ls st0) := by
  refine vx_callv hr hS (fun q _ h => hA q h) hf (fun q _ h => hAX q h) (fun E ce q9 u t H1 locs1 ht hvm hp hB hz hk hS1 hc hv hcl => ?_) (fun u t H1 locs1 ht hvm hp hB hz hk hS1 => ?_)
  · have hB2 := hB.2
    rw [ht] at hB2
    exact kx E ce q9 H1 locs1 hB.1 hB2 hk hS1 hc hv hcl
  · rw [ht] at hB
    exact kk H1 locs1 hp hB hk hS1
end YC
section YE
variable {p : Program} {l : Launch} {e : Env} {R : Room} {s : State} {m : MethodId} {args : Array Value} {below : List Frame} {meth : Method} {c : Code} {H : Heap} {locs : List Loc} {cells slots : Nat}
variable {cc : ByteArray} {pc : Nat} {ls : Array Slot} {rest : List Value} {A free : Nat → Prop} {B BX : Heap → Prop} {XC : String → State → State → Prop} {mc ms : Nat} {Qc : Array Value → State → Outcome → State → Prop}
theorem yI {P : Prop} {v w : Int32} (hexec : p.tables.exec = Jvm.exec) (hb : c.code = cc) (hr : meth.sig.returnType = some .int) (hlocks : meth.locks = false) (hP : P) (hB : B H) (hS : va_S A s.heap H locs) (hv : v = w) (hc : cells ≤ mc) (hs : slots ≤ ms) (hdg : decode cc pc = .ok (.ireturn, 1)) :
    W p l e R s m args below meth c H locs cells slots (vx_MQ below (Qxi P w B A) XC args s mc ms A) (F0 m pc ls [.int v]) := by
  subst hv
  exact W.widen hc hs (vx_ret (W.iret hexec hb hr (fun t ht hW => ⟨⟨_, (), rfl, ⟨hP, rfl⟩, by show B t.heap; rw [ht]; exact hB⟩, hS.F ht⟩) hS.2.2 hdg))
theorem yV {P : Prop} (hexec : p.tables.exec = Jvm.exec) (hb : c.code = cc) (hr : meth.sig.returnType = none) (hlocks : meth.locks = false) (hP : P) (hB : B H) (hS : va_S A s.heap H locs) (hc : cells ≤ mc) (hs : slots ≤ ms) (hdg : decode cc pc = .ok (.return_, 1)) :
    W p l e R s m args below meth c H locs cells slots (vx_MQ below (Qxv P B A) XC args s mc ms A) (F0 m pc ls []) :=
  W.widen hc hs (vx_ret (W.vret hexec hb hr (fun t ht hW => ⟨⟨(), rfl, hP, by show B t.heap; rw [ht]; exact hB⟩, hS.F ht⟩) hS.2.2 hdg))
/-- not caught here -/
theorem yO {PX : String → Prop} {E : String} {ce : Cell} {q : Addr} (ht : ∀ x ∈ c.exceptionTable.toList, False) (hlocks : meth.locks = false) (hP : PX E) (hB : BX H) (hS : va_S A s.heap H locs) (hcell : H[q]? = some ce) (hv : ce.vm = .none) (hcl : s.vm.findClass E = some ce.cls) (hc : cells ≤ mc) (hs : slots ≤ ms) :
    vx_W p l e R s m args below meth c H locs cells slots (vx_MQ below Qc (Xx PX BX A) args s mc ms A) (F0 m pc ls rest) q :=
  vx_out (fun x hx => (ht x hx).elim) hlocks hcell hv hcl (fun t ht9 hvm => ⟨(), trivial, ⟨hP, by show BX t.heap; rw [ht9]; exact hB⟩, hS.F ht9⟩) hS.2.2 hc hs
end YE
end
section
/-! ===== a village by the numbers that count ===== -/
theorem wmx_self {nH nP : Nat} {σ : wS} : wmx nH nP σ σ = σ := by
  funext f i
  unfold wmx
  split <;> rfl
def wrel (f i : Nat) : Prop := (f ≤ 10 ∧ i < 10) ∨ (20 ≤ f ∧ f ≤ 32 ∧ i < 3) ∨ (40 ≤ f ∧ f ≤ 42 ∧ i < 10) ∨ (50 ≤ f ∧ f ≤ 53 ∧ i = 0)
theorem arr_same {cA : ClassId} {n : Nat} {f g : Nat → Int32} (h : ∀ j, j < n → f j = g j) : vp_cell cA (n, .inl f) = vp_cell cA (n, .inl g) := by
  rw [vp_cell_i, vp_cell_i]
  have e : ∀ k, (fun j => Value.int (f j)) k = (fun j => Value.int (g j)) k ∨ n ≤ k := fun k => by
    rcases Nat.lt_or_ge k n with q | q
    · exact Or.inl (by show Value.int (f k) = Value.int (g k); rw [h k q])
    · exact Or.inr q
  unfold arrV
  congr 1
  apply Array.ext
  · simp
  · intro i h1 h2
    simp only [Array.getElem_ofFn] <;> (simp at h1; simp [h i (by omega)])
theorem CV.congr {G : wG} {ad : Nat → Nat} {σ ρ : wS} {H : Heap} (hV : CV G ad σ H) (h : ∀ f i, wrel f i → ρ f i = σ f i) : CV G ad ρ H := by
  obtain ⟨a, b, c, d, e, g⟩ := hV
  refine ⟨?_, b, c, fun k hk => ?_, fun p hp => ?_, fun p hp => ?_⟩
  · have e9 : vfs (ad 1) (ad 2) ρ = vfs (ad 1) (ad 2) σ := by
      have o : ∀ f, 50 ≤ f → f ≤ 53 → ρ f 0 = σ f 0 := fun f h1 h2 => h f 0 (Or.inr (Or.inr (Or.inr ⟨h1, h2, rfl⟩)))
      simp only [vfs, o 50 (by omega) (by omega), o 51 (by omega) (by omega), o 52 (by omega) (by omega), o 53 (by omega) (by omega)]
    rw [e9]; exact a
  · have e9 : hfs ρ k = hfs σ k := by
      have o : ∀ f, f ≤ 10 → ρ f k = σ f k := fun f h1 => h f k (Or.inl ⟨h1, hk⟩)
      simp only [hfs, o 0 (by omega), o 1 (by omega), o 2 (by omega), o 3 (by omega), o 4 (by omega), o 5 (by omega), o 6 (by omega), o 7 (by omega), o 8 (by omega), o 9 (by omega), o 10 (by omega)]
    rw [e9]; exact d k hk
  · have e9 : pfs (ad (16 + p)) ρ p = pfs (ad (16 + p)) σ p := by
      have o : ∀ f, 20 ≤ f → f ≤ 32 → ρ f p = σ f p := fun f h1 h2 => h f p (Or.inr (Or.inl ⟨h1, h2, hp⟩))
      simp only [pfs, o 20 (by omega) (by omega), o 21 (by omega) (by omega), o 22 (by omega) (by omega), o 23 (by omega) (by omega), o 24 (by omega) (by omega), o 25 (by omega) (by omega), o 26 (by omega) (by omega), o 27 (by omega) (by omega), o 28 (by omega) (by omega), o 29 (by omega) (by omega), o 30 (by omega) (by omega), o 31 (by omega) (by omega), o 32 (by omega) (by omega)]
    rw [e9]; exact e p hp
  · have e9 : vp_cell G.2.1 (10, .inl (fun k => ρ (40 + p) k)) = vp_cell G.2.1 (10, .inl (fun k => σ (40 + p) k)) := arr_same (fun j hj => h _ _ (Or.inr (Or.inr (Or.inl ⟨by omega, by omega, hj⟩))))
    show H[ad (16 + p)]? = some (vp_cell _ _)
    rw [e9]
    exact g p hp
/-- what a looked-ahead day begins with: the village, its own 'open' and 'broke today' -/
def tkF (τ z : wS) : wS := fun f i => if f = 31 ∨ f = 32 then z f i else τ f i
theorem itn_cpH_hit {n f i : Nat} {τ σ : wS} (hf : f ≤ 10) : itn (fun h => cpH h τ) n σ f i = if i < n then τ f i else σ f i := by
  induction n with
  | zero => simp [itn]
  | succ n ih =>
    rw [itn_s]
    have key : ∀ x : wS, cpH n τ x f i = if i = n then τ f i else x f i := fun x => by
      unfold cpH
      by_cases q : i = n
      · subst q
        rw [if_pos rfl]
        rcases (show f = 0 ∨ f = 1 ∨ f = 2 ∨ f = 3 ∨ f = 4 ∨ f = 5 ∨ f = 6 ∨ f = 7 ∨ f = 8 ∨ f = 9 ∨ f = 10 by omega) with rfl | rfl | rfl | rfl | rfl | rfl | rfl | rfl | rfl | rfl | rfl <;> simp [wst]
      · rw [if_neg q, wst_i q, wst_i q, wst_i q, wst_i q, wst_i q, wst_i q, wst_i q, wst_i q, wst_i q, wst_i q, wst_i q]
    rw [key, ih]
    by_cases q : i = n
    · rw [if_pos q, if_pos (by omega)]
    · rw [if_neg q]
      by_cases r : i < n
      · rw [if_pos r, if_pos (by omega)]
      · rw [if_neg r, if_neg (by omega)]
theorem itn_cpP_hit {n f i : Nat} {τ σ : wS} (hf : 20 ≤ f) (hg : f ≤ 30) : itn (fun p => cpP p τ) n σ f i = if i < n then τ f i else σ f i := by
  induction n with
  | zero => simp [itn]
  | succ n ih =>
    rw [itn_s]
    have key : ∀ x : wS, cpP n τ x f i = if i = n then τ f i else x f i := fun x => by
      have ro : ∀ y : wS, rosC n τ y f i = y f i := fun y => by unfold rosC; rw [if_neg (by omega)]
      unfold cpP
      by_cases q : i = n
      · subst q
        rw [if_pos rfl]
        rcases (show f = 20 ∨ f = 21 ∨ f = 22 ∨ f = 23 ∨ f = 24 ∨ f = 25 ∨ f = 26 ∨ f = 27 ∨ f = 28 ∨ f = 29 ∨ f = 30 by omega) with rfl | rfl | rfl | rfl | rfl | rfl | rfl | rfl | rfl | rfl | rfl <;> simp [wst, ro]
      · rw [if_neg q, wst_i q, wst_i q, wst_i q, wst_i q, wst_i q, ro, wst_i q, wst_i q, wst_i q, wst_i q, wst_i q, wst_i q]
    rw [key, ih]
    by_cases q : i = n
    · rw [if_pos q, if_pos (by omega)]
    · rw [if_neg q]
      by_cases r : i < n
      · rw [if_pos r, if_pos (by omega)]
      · rw [if_neg r, if_neg (by omega)]
theorem itn_cpP_ros {n p i : Nat} {τ σ : wS} (hn : n ≤ 3) (hi : i < 10) : itn (fun p => cpP p τ) n σ (40 + p) i = if p < n then τ (40 + p) i else σ (40 + p) i := by
  induction n with
  | zero => simp [itn]
  | succ n ih =>
    rw [itn_s]
    have key : ∀ x : wS, cpP n τ x (40 + p) i = if p = n then τ (40 + p) i else x (40 + p) i := fun x => by
      unfold cpP
      rw [wst_f (by omega), wst_f (by omega), wst_f (by omega), wst_f (by omega), wst_f (by omega)]
      unfold rosC
      by_cases q : p = n
      · rw [if_pos q, if_pos ⟨by omega, hi⟩]
      · rw [if_neg q, if_neg (by omega), wst_f (by omega), wst_f (by omega), wst_f (by omega), wst_f (by omega), wst_f (by omega), wst_f (by omega)]
    rw [key, ih (by omega)]
    by_cases q : p = n
    · rw [if_pos q, if_pos (by omega)]
    · rw [if_neg q]
      by_cases r : p < n
      · rw [if_pos r, if_pos (by omega)]
      · rw [if_neg r, if_neg (by omega)]
def cpyF (nH nP : Nat) (τ σ : wS) : wS := itn (fun p => cpP p τ) nP (itn (fun h => cpH h τ) nH (wst (wst (wst (wst σ 51 0 (nI nH)) 52 0 (nI nP)) 53 0 (τ 53 0)) 50 0 (τ 50 0)))
/-- behind copyFrom: the village, by the numbers that count -/
theorem copy_view {G : wG} {ad : Nat → Nat} {nH nP : Nat} {σ τ z : wS} {H : Heap} (hv : Inv nH nP τ) (hz : ∀ i, i < 3 → σ 31 i = z 31 i ∧ σ 32 i = z 32 i) (h : CV G ad (wmx 10 3 σ (cpyF nH nP τ σ)) H) : CVm G ad nH nP (wmx 10 3 σ (cpyF nH nP τ σ)) (tkF τ z) H := by
  refine CV.congr h (fun f i hr => ?_)
  have hH := hv.1
  have hP := hv.2.1
  unfold wmx
  split
  · rename_i ha
    have e1 : ∀ f, f < 50 → wst (wst (wst (wst σ 51 0 (nI nH)) 52 0 (nI nP)) 53 0 (τ 53 0)) 50 0 (τ 50 0) f i = σ f i := fun f hf => by
      rw [wst_f (by omega), wst_f (by omega), wst_f (by omega), wst_f (by omega)]
    rcases hr with ⟨h1, h2⟩ | ⟨h1, h2, h3⟩ | ⟨h1, h2, h3⟩ | ⟨h1, h2, rfl⟩
    · have hi : i < nH := by
        unfold wact at ha
        rw [if_pos h1] at ha
        simpa using ha
      rw [if_pos (wact_h h1 h2)]
      unfold tkF cpyF
      rw [if_neg (by omega), itn_colb (fun k hk x => cpP_v (by omega) (by omega)), itn_cpH_hit h1, if_pos hi]
    · by_cases q : f ≤ 30
      · have hi : i < nP := by
          unfold wact at ha
          rw [if_neg (by omega), if_pos q] at ha
          simpa using ha
        rw [if_pos (wact_p (by omega) q h3)]
        unfold tkF cpyF
        rw [if_neg (by omega), itn_cpP_hit h1 q, if_pos hi]
      · rw [if_pos (wact_pp (by omega) h2 h3)]
        unfold tkF cpyF
        rw [if_pos (by omega), itn_colb (fun k hk x => cpP_v (by omega) (by omega)), itn_col (fun k x => cpH_v (by omega)), e1 f (by omega)]
        rcases (show f = 31 ∨ f = 32 by omega) with rfl | rfl
        · exact (hz i h3).1.symm
        · exact (hz i h3).2.symm
    · have hp : f - 40 < nP := by
        unfold wact at ha
        rw [if_neg (by omega), if_neg (by omega), if_pos h2] at ha
        have := of_decide_eq_true ha
        omega
      have ef : f = 40 + (f - 40) := by omega
      rw [ef, if_pos (wact_r (by omega) (by omega))]
      unfold tkF cpyF
      rw [if_neg (by omega), itn_cpP_ros hP h3, if_pos hp]
    · rw [if_pos (wact_v (by omega))]
      unfold tkF cpyF
      rw [if_neg (by omega), itn_colb (fun k hk x => cpP_v (by omega) (by omega)), itn_col (fun k x => cpH_v (by omega))]
      rcases (show f = 50 ∨ f = 51 ∨ f = 52 ∨ f = 53 by omega) with rfl | rfl | rfl | rfl
      · rw [wst_s]
      · rw [wst_f (by omega), wst_f (by omega), wst_f (by omega), wst_s]; exact hv.2.2.1
      · rw [wst_f (by omega), wst_f (by omega), wst_s]; exact hv.2.2.2.1
      · rw [wst_f (by omega), wst_s]
  · rfl
theorem Inv.tk {nH nP : Nat} {τ z : wS} (hv : Inv nH nP τ) : Inv nH nP (tkF τ z) := by
  have o : ∀ f i, f ≠ 31 → f ≠ 32 → tkF τ z f i = τ f i := fun f i h1 h2 => by unfold tkF; rw [if_neg (by omega)]
  obtain ⟨a, b, c, d, e, g⟩ := hv
  exact ⟨a, b, by rw [o _ _ (by omega) (by omega)]; exact c, by rw [o _ _ (by omega) (by omega)]; exact d, fun k hk => (e k hk).congr (o _ _ (by omega) (by omega)) (o _ _ (by omega) (by omega)) (o _ _ (by omega) (by omega)) (o _ _ (by omega) (by omega)),
    fun p hp => (g p hp).congr (fun k h1 h2 => o _ _ (by omega) (by omega)) (funext fun k => o _ _ (by omega) (by omega))⟩
end
section
section YT
variable {p : Program} {l : Launch} {e : Env} {R : Room} {s : State} {m : MethodId} {args : Array Value} {below : List Frame} {meth : Method} {c : Code} {H : Heap} {locs : List Loc} {cells slots : Nat}
variable {cc : ByteArray} {pc : Nat} {ls : Array Slot} {rest : List Value} {A : Nat → Prop} {BX : Heap → Prop} {mc ms : Nat} {Qc : Array Value → State → Outcome → State → Prop}
/-- the good words of a throw among a method's words, the others beside them -/
abbrev xBad (X : String) : List Cond := [Cond.castable X X, Cond.declares (Bundle.initS "java/lang/RuntimeException"), Cond.declares (Bundle.initS "java/lang/Exception"), Cond.declares (Bundle.initS Bundle.tN)]
theorem yHat {Ts : List Cond} {ic : Nat} {X : String} (hts : ∀ w ∈ Ts, w.before args s = true) (h1 : ∀ w ∈ (vx_atS RX3 ic X xNames).filter goodWord, w ∈ Ts) (h2 : ∀ w ∈ (vx_atS RX3 ic X xNames).filter (fun w => !goodWord w), w ∈ xBad X) (hc : va_Nw (.castable X X) s) (hd : XDe s) : ∀ w ∈ vx_atS RX3 ic X xNames, w.before args s = true :=
  vx_hat (B := xBad X) (fun w h => hts w (h1 w h)) h2 (vx_c (va_Nw.use rfl hc) (vx_c (va_Nw.use rfl hd.1) (vx_c (va_Nw.use rfl hd.2.1) (vx_c (va_Nw.use rfl hd.2.2) vx_n))))
theorem yT {PX : String → Prop} {cls text : String} {ik is ic sa : Nat} (hexec : p.tables.exec = Jvm.exec) (hb : c.code = cc) (hl : l.stackTraces = false) (hown : s.vm.findClass RX3 = some m.cls) (hcls : Bundle.fit cls = true)
    (hk : (Cond.classLink RX3 ik cls).before args s = true) (hini : (Cond.initialized cls).before args s = true) (hstr : vk_R RX3 is text sa s) (hat : ∀ w ∈ vx_atS RX3 ic cls xNames, w.before args s = true)
    (hgood : ∀ w ∈ Cond.classLink RX3 ik cls :: Cond.initialized cls :: vx_atS RX3 ic cls xNames, vx_ot w = true) (hX : XK A s) (hS : va_S A s.heap H locs) (hsize : ls.size = c.maxLocals)
    (d0 : decode cc pc = .ok (.new ik, 3)) (d3 : decode cc (pc + 3) = .ok (.dup, 1)) (d4 : decode cc (pc + 4) = .ok (.ldc is, 2)) (d6 : decode cc (pc + 6) = .ok (.invokespecial ic, 3)) (d9 : decode cc (pc + 9) = .ok (.athrow, 1))
    (ht : ∀ x ∈ c.exceptionTable.toList, False) (hRframes : 5 < R.frames) (hRlocals : (rest.map fun v => v.category).sum + 82 ≤ R.locals) (hRcells : cells + 1 ≤ R.cells) (hRslots : slots + 6 ≤ R.slots) (hlocks : meth.locks = false)
    (hP : PX cls) (hB : ∀ H1 : Heap, (∀ q : Nat, q < H.size → H1[q]? = H[q]?) → BX H1) (hc : cells + 1 ≤ mc) (hs : slots + 6 ≤ ms) :
    W p l e R s m args below meth c H locs cells slots (vx_MQ below Qc (Xx PX BX A) args s mc ms A) (F0 m pc ls rest) :=
  vx_throwS hexec hb hl hown hcls (by decide) hk hini hstr hat hgood hX.1.1 hX.1.2 hS hsize d0 d3 d4 d6 d9 (fun x hx => (ht x hx).elim) hRframes hRlocals hRcells hRslots hlocks
    (fun t _ hz hq => ⟨(), trivial, ⟨hP, hB _ hq⟩, Nat.le_trans hS.1 hz, fun q h1 h2 => (hq q (Nat.lt_of_lt_of_le h1 hS.1)).trans (hS.2.1 q h1 h2)⟩) hS.2.2 hc hs
theorem xG1 : ∀ w ∈ Cond.classLink RX3 178 nIAE :: Cond.initialized nIAE :: vx_atS RX3 182 nIAE xNames, vx_ot w = true := by decide +kernel
theorem xG2 : ∀ w ∈ Cond.classLink RX3 27 nISE :: Cond.initialized nISE :: vx_atS RX3 31 nISE xNames, vx_ot w = true := by decide +kernel
theorem xG3 : ∀ w ∈ Cond.classLink RX3 183 nIOB :: Cond.initialized nIOB :: vx_atS RX3 187 nIOB xNames, vx_ot w = true := by decide +kernel
theorem xB1 : ∀ w ∈ (vx_atS RX3 182 nIAE xNames).filter (fun w => !goodWord w), w ∈ xBad nIAE := by decide +kernel
theorem xB2 : ∀ w ∈ (vx_atS RX3 31 nISE xNames).filter (fun w => !goodWord w), w ∈ xBad nISE := by decide +kernel
theorem xB3 : ∀ w ∈ (vx_atS RX3 187 nIOB xNames).filter (fun w => !goodWord w), w ∈ xBad nIOB := by decide +kernel
end YT
/-! ===== what a call of the object checks ===== -/
abbrev cl (x : Int32) : Nat := x.toNatClampNeg
def hOk (nH : Nat) (x : Int32) : Prop := ¬ x < 0 ∧ ¬ nI nH ≤ x
def pOk (nP : Nat) (x : Int32) : Prop := ¬ x < 0 ∧ x < nI nP
def inn (lo hi v : Int32) : Prop := ¬ v < lo ∧ v ≤ hi
theorem hOk_nI {nH : Nat} {x : Int32} (h : hOk nH x) (hH : nH ≤ 10) : ∃ k, k < nH ∧ x = nI k := by
  obtain ⟨k, hk, e⟩ := nI_of h.1
  refine ⟨k, ?_, e⟩
  rw [e] at h
  exact Nat.not_le.mp (fun q => h.2 ((nI_leI (by omega) hk).mpr q))
theorem pOk_nI {nP : Nat} {x : Int32} (h : pOk nP x) (hP : nP < 2 ^ 31) : ∃ k, k < nP ∧ x = nI k := by
  obtain ⟨k, hk, e⟩ := nI_of h.1
  refine ⟨k, ?_, e⟩
  rw [e] at h
  exact (nI_ltI hk hP).mp h.2
theorem inn_nI {v : Int32} {lo hi : Nat} (h : inn (nI lo) (nI hi) v) (h2 : hi < 2 ^ 30) (h3 : lo ≤ hi) : ∃ k, lo ≤ k ∧ k ≤ hi ∧ v = nI k := by
  have h0 : ¬ v < 0 := fun q => h.1 (by
    rw [Int32.lt_iff_toInt_lt, nI_toInt (by omega)]
    rw [Int32.lt_iff_toInt_lt, Int32.toInt_zero] at q
    omega)
  obtain ⟨k, hk, e⟩ := nI_of h0
  rw [e] at h
  exact ⟨k, Nat.not_lt.mp (fun q => h.1 ((nI_ltI hk (by omega)).mpr q)), (nI_leI hk (by omega)).mp h.2, e⟩
/-- place y on the roster of pump x -/
def plOk (nP : Nat) (τ : wS) (x y : Int32) : Prop := pOk nP x ∧ ¬ y < 0 ∧ y < nI (sz τ (cl x))
theorem plOk_nI {nH nP : Nat} {τ : wS} {x y : Int32} (hv : Inv nH nP τ) (h : plOk nP τ x y) : ∃ p k, p < nP ∧ k < sz τ p ∧ x = nI p ∧ y = nI k := by
  have hP := hv.2.1
  obtain ⟨p, hp, rfl⟩ := pOk_nI h.1 (by omega)
  obtain ⟨k, hk, e⟩ := nI_of h.2.1
  have h3 := h.2.2
  rw [show cl (nI p) = p from nI_clamp (by omega), e] at h3
  have h10 := (hv.2.2.2.2.2 p hp).2.2.2.2.1.1
  exact ⟨p, k, hp, (nI_ltI hk (by omega)).mp h3, rfl, e⟩
theorem plOk_nI2 {nH nP p : Nat} {τ : wS} {y : Int32} (hv : Inv nH nP τ) (hp : p < nP) (h : plOk nP τ (nI p) y) : ∃ k, k < sz τ p ∧ y = nI k := by
  have hP := hv.2.1
  obtain ⟨k, hk, e⟩ := nI_of h.2.1
  have h3 := h.2.2
  rw [show cl (nI p) = p from nI_clamp (by omega), e] at h3
  have h10 := (hv.2.2.2.2.2 p hp).2.2.2.2.1.1
  exact ⟨k, (nI_ltI hk (by omega)).mp h3, e⟩
theorem plI_m1 {k n : Nat} (hn : n < 2 ^ 31) (h : plI k n = -1) : ¬ k < n := fun q => by
  rw [plI, if_pos q] at h
  exact nI_nm1 (by omega) h
theorem plI_k {k n : Nat} (h : ¬ plI k n = -1) : k < n := by
  by_cases q : k < n
  · exact q
  · exact absurd (if_neg q) h
/-- so many different houses: no more than there are -/
theorem pigeon : ∀ (m n : Nat) (f : Nat → Nat), (∀ i, i < n → f i < m) → (∀ i j, i < j → j < n → f i ≠ f j) → n ≤ m
  | 0, n, f, h1, _ => by
    rcases Nat.eq_zero_or_pos n with q | q
    · omega
    · exact absurd (h1 0 q) (by omega)
  | m + 1, n, f, h1, h2 => by
    by_cases hx : ∃ i, i < n ∧ f i = m
    · obtain ⟨i, hi, e⟩ := hx
      have := pigeon m (n - 1) (fun j => if j < i then f j else f (j + 1)) (fun j hj => by
          show (if j < i then f j else f (j + 1)) < m
          split
          · rename_i q
            have a := h1 j (by omega)
            have b := h2 j i q hi
            omega
          · rename_i q
            have a := h1 (j + 1) (by omega)
            have b := h2 i (j + 1) (by omega) (by omega)
            omega) (fun j k hjk hk => by
          show (if j < i then f j else f (j + 1)) ≠ (if k < i then f k else f (k + 1))
          split
          · split
            · exact h2 j k hjk (by omega)
            · exact h2 j (k + 1) (by omega) (by omega)
          · rw [if_neg (by omega)]
            exact h2 (j + 1) (k + 1) (by omega) (by omega))
      omega
    · have := pigeon m n f (fun i hi => by
          have a := h1 i hi
          have b : f i ≠ m := fun e => hx ⟨i, hi, e⟩
          omega) h2
      omega
theorem fnd_no {P : Nat → Bool} : ∀ {n : Nat}, n ≤ fnd P n → ∀ j, j < n → P j = false
  | 0, _, j, hj => absurd hj (by omega)
  | n + 1, h, j, hj => by
    have hl := fnd_le P n
    unfold fnd at h
    split at h
    · omega
    · split at h
      · omega
      · rename_i h1 h2
        by_cases q : j = n
        · subst q
          exact Bool.eq_false_iff.mpr h2
        · exact fnd_no (n := n) (by omega) j (by omega)
theorem plc_all {f : Nat → Int32} {x : Int32} {n : Nat} (h : ¬ plc f x n < n) : ∀ j, j < n → ¬ f j = x := by
  intro j hj q
  have := fnd_le (fun k => decide (f k = x)) n
  have e : plc f x n = fnd (fun k => decide (f k = x)) n := rfl
  have h9 := fnd_no (P := fun k => decide (f k = x)) (n := n) (by omega) j hj
  exact absurd q (of_decide_eq_false h9)
/-- a house that isn't on a roster finds a place there -/
theorem ros_room {nH nP p h : Nat} {τ : wS} (hv : Inv nH nP τ) (hp : p < nP) (hh : h < nH) (hn : ¬ plc (τ (40 + p)) (nI h) (sz τ p) < sz τ p) : sz τ p < 10 := by
  obtain ⟨-, -, -, -, -, -, i1, i2⟩ := hv.2.2.2.2.2 p hp
  have hH := hv.1
  have hno := plc_all hn
  have := pigeon nH (sz τ p + 1) (fun i => if i < sz τ p then cl (τ (40 + p) i) else h) (fun i hi => by
      show (if i < sz τ p then cl (τ (40 + p) i) else h) < nH
      split
      · rename_i q
        obtain ⟨k, hk, e⟩ := i1 i q
        rw [e, show cl (nI k) = k from nI_clamp (by omega)]
        exact hk
      · exact hh) (fun i j hij hj => by
      show (if i < sz τ p then cl (τ (40 + p) i) else h) ≠ (if j < sz τ p then cl (τ (40 + p) j) else h)
      rw [if_pos (by omega)]
      obtain ⟨k, hk, e⟩ := i1 i (by omega)
      rw [e, show cl (nI k) = k from nI_clamp (by omega)]
      split
      · rename_i q
        obtain ⟨k2, hk2, e2⟩ := i1 j q
        rw [e2, show cl (nI k2) = k2 from nI_clamp (by omega)]
        intro z
        exact i2 i j hij q (by rw [e, e2, z])
      · intro z
        exact hno i (by omega) (by rw [e, z]))
  omega
/-- a house more, a pump more: the numbers that a side had there count from now on -/
def addV (nH : Nat) (δ τ : wS) : wS := fun f i => if f ≤ 10 ∧ i = nH then δ f i else τ f i
def addW (nP : Nat) (δ τ : wS) : wS := fun f i => if (11 ≤ f ∧ f ≤ 30 ∧ i = nP) ∨ f = 40 + nP then δ f i else τ f i
theorem wmx_addV {nH nP : Nat} {δ τ : wS} : wmx (nH + 1) nP δ (addV nH δ τ) = wmx nH nP δ τ := by
  funext f i
  unfold wmx addV wact
  by_cases h1 : f ≤ 10
  · simp only [if_pos h1]
    by_cases h2 : i = nH
    · subst h2
      simp [h1]
    · by_cases h3 : i < nH
      · simp [h2, h3, show i < nH + 1 by omega]
      · simp [h3, show ¬ i < nH + 1 by omega]
  · have e : ¬ (f ≤ 10 ∧ i = nH) := fun q => h1 q.1
    simp only [if_neg h1, if_neg e]
theorem wmx_addW {nH nP : Nat} {δ τ : wS} (hP : nP < 3) : wmx nH (nP + 1) δ (addW nP δ τ) = wmx nH nP δ τ := by
  funext f i
  unfold wmx addW wact
  by_cases h1 : f ≤ 10
  · have e : ¬ ((11 ≤ f ∧ f ≤ 30 ∧ i = nP) ∨ f = 40 + nP) := by omega
    simp only [if_pos h1, if_neg e]
  · simp only [if_neg h1]
    by_cases h2 : f ≤ 30
    · simp only [if_pos h2]
      by_cases h3 : i = nP
      · subst h3
        simp [show 11 ≤ f by omega, h2]
      · by_cases h4 : i < nP
        · simp [h3, h4, show i < nP + 1 by omega, show ¬ f = 40 + nP by omega]
        · simp [h4, show ¬ i < nP + 1 by omega]
    · simp only [if_neg h2]
      by_cases h3 : f ≤ 42
      · simp only [if_pos h3]
        by_cases h4 : f = 40 + nP
        · subst h4
          simp
        · by_cases h5 : f < 40 + nP
          · simp [h4, h5, h2, show f < 40 + (nP + 1) by omega]
          · simp [h5, show ¬ f < 40 + (nP + 1) by omega]
      · simp only [if_neg h3]
        simp [h2, show ¬ f = 40 + nP by omega]
theorem wmx_31 {nH nP i : Nat} {δ τ : wS} : wmx nH nP δ τ 31 i = τ 31 i := by
  refine wmx_r ?_
  unfold wact
  rw [if_neg (by omega), if_neg (by omega), if_pos (by omega)]
  simp
  omega
theorem wmx_32 {nH nP i : Nat} {δ τ : wS} : wmx nH nP δ τ 32 i = τ 32 i := by
  refine wmx_r ?_
  unfold wact
  rw [if_neg (by omega), if_neg (by omega), if_pos (by omega)]
  simp
  omega
/-- how many duties lie ahead -/
def ahdF (τ : wS) (p h : Nat) : Int32 :=
  if plc (τ (40 + p)) (nI h) (sz τ p) < sz τ p then
    (if plc (τ (40 + p)) (nI h) (sz τ p) < tn τ p then nI (plc (τ (40 + p)) (nI h) (sz τ p)) - nI (tn τ p) + nI (sz τ p) else nI (plc (τ (40 + p)) (nI h) (sz τ p)) - nI (tn τ p))
  else -1
def fsX (nH nP : Nat) (τ z : wS) (n : Nat) : wS := dysF nH nP n (tkF τ z)
def fsF (nH nP : Nat) (τ z : wS) (n k : Nat) : Int32 := match k with
  | 0 => sm (fun h => fsX nH nP τ z n 8 h) nH - sm (fun h => τ 8 h) nH
  | 1 => fsX nH nP τ z n 53 0
  | 2 => sm (fun h => fsX nH nP τ z n 4 h) nH
  | _ => sm (fun h => if fsX nH nP τ z n 23 h = 0 then 0 else 1) nP
/-- the pumps 0 .. i - 1 tried: the best, its thirst, the trial village -/
def adX (nH nP : Nat) (τ z : wS) (h n i : Nat) : wS := dysF nH nP n (wst (tkF τ z) 5 h (nI i))
def adT (nH nP : Nat) (τ z : wS) (h n i : Nat) : Int32 := sm (fun j => adX nH nP τ z h n i 8 j) nH
def adI (nH nP : Nat) (τ z : wS) (h n : Nat) : Nat → Int32 × Int32 × wS
  | 0 => (-1, 0, z)
  | i + 1 =>
    if (adI nH nP τ z h n i).1 = -1 ∨ adT nH nP τ (adI nH nP τ z h n i).2.2 h n i < (adI nH nP τ z h n i).2.1 then (nI i, adT nH nP τ (adI nH nP τ z h n i).2.2 h n i, adX nH nP τ (adI nH nP τ z h n i).2.2 h n i)
    else ((adI nH nP τ z h n i).1, (adI nH nP τ z h n i).2.1, adX nH nP τ (adI nH nP τ z h n i).2.2 h n i)
def i32max (a b : Int32) : Int32 := if a < b then b else a
def unI (τ : wS) (p : Nat) : Nat → Int32 × Int32
  | 0 => (0, 2147483647)
  | h + 1 => if plc (τ (40 + p)) (nI h) (sz τ p) < sz τ p then (i32max (unI τ p h).1 (τ 7 h), i32min (unI τ p h).2 (τ 7 h)) else unI τ p h
def unF (nH : Nat) (τ : wS) (p : Nat) : Int32 := if sz τ p = 0 then 0 else (unI τ p nH).1 - (unI τ p nH).2
def dgH (nP : Nat) (τ : wS) (d : Int64) : Nat → Int64
  | 0 => d
  | i + 1 => mxl (hftF nP τ i) (dgH nP τ d i) 11
def dgP (τ : wS) (d : Int64) : Nat → Int64
  | 0 => d
  | i + 1 => mxl (τ (40 + i)) (mxl (fun k => τ (20 + k) i) (dgP τ d i) 11) (sz τ i)
def dgF (nH nP : Nat) (τ : wS) : Int64 := dgP τ (dgH nP τ (mxl (totF nH nP τ) 577 10) nH) nP
end
section
/-! ===== new rows of ints, PLACES, loops that make ===== -/
def vlN (L : List Int32) : Nat → Int32 := fun j => L.getD j 0
theorem vlN_upd {L : List Int32} {x : Int32} : ∀ N, L.length < N → ∀ j, j < N → upd (vlN L) L.length x j = vlN (L ++ [x]) j := by
  intro N hN j hj
  unfold upd vlN
  by_cases q : j = L.length
  · rw [if_pos q, q]
    simp [List.getD_eq_getElem?_getD]
  · rw [if_neg q]
    rcases Nat.lt_or_ge j L.length with h | h
    · simp [List.getD_eq_getElem?_getD, List.getElem?_append_left h]
    · rw [List.getD_eq_getElem?_getD, List.getD_eq_getElem?_getD, List.getElem?_eq_none h, List.getElem?_eq_none (by simp; omega)]
section NW
variable {p : Program} {l : Launch} {e : Env} {R : Room} {s : State} {m : MethodId} {args : Array Value} {below : List Frame} {meth : Method} {c : Code} {H : Heap} {locs : List Loc} {cells slots : Nat} {Q : State → Prop}
variable {cc : ByteArray} {pc : Nat} {ls : Array Slot} {rest : List Value} {A : Nat → Prop} {H0 : Heap} {G : wG}
theorem nwI {n : Int32} (N : Nat) (hexec : p.tables.exec = Jvm.exec) (hb : c.code = cc) (harr : (Cond.arrayClass .int).before args s = true) (hK : wK G s) (hS : va_S A H0 H locs) (hn : ¬ n < 0) (hN : n.toNatClampNeg = N) (hbytes : N * componentBytes .int ≤ 536870912) (hcells : cells + 1 ≤ R.cells) (hslots : slots + N ≤ R.slots) (hdg : decode cc pc = .ok (.newarray .int, 2))
    (kk : ∀ (n9 : Nat) (H1 : Heap), H.size = n9 → H0.size ≤ n9 → va_at G.1 vwCl (n9, .inl (G.2.1, N, .inl (vlN []))) H1 → (∀ q : Nat, q < H.size → H1[q]? = H[q]?) → va_S A H0 H1 locs → W p l e R s m args below meth c H1 locs (cells + 1) (slots + N) Q (F0 m (pc + 2) ls (.ref n9 :: rest))) : W p l e R s m args below meth c H locs cells slots Q (F0 m pc ls (.int n :: rest)) := by
  refine va_newaK (atype := .int) hexec hb harr rfl hdg rfl hn hN hbytes hcells hslots rfl fun H1 cA e1 z1 o1 hAr hNm => ?_
  have e9 : cA = G.2.1 := Option.some.inj (hNm.symm.trans (hK.2 0 _ rfl).2)
  subst e9
  refine kk H.size H1 rfl hS.1 ?_ o1 ⟨Nat.le_trans hS.1 (by omega), fun x h1 h2 => (o1 x (Nat.lt_of_lt_of_le h1 hS.1)).trans (hS.2.1 x h1 h2), hS.2.2⟩
  show H1[H.size]? = some (vp_cell _ _)
  rw [e1]
  rfl
/-- the next number of a row that is being filled -/
theorem nwSt {L : List Int32} {N n9 : Nat} {i x : Int32} (hexec : p.tables.exec = Jvm.exec) (hb : c.code = cc) (hK : wK G s) (hN : va_at G.1 vwCl (n9, .inl (G.2.1, N, .inl (vlN L))) H) (hS : va_S A H0 H locs) (hA : A n9) (hi : i = nI L.length) (hk : L.length < N) (hN2 : N < 2 ^ 31) (hdg : decode cc pc = .ok (.iastore, 1))
    (kk : ∀ (H1 : Heap) (locs1 : List Loc), va_at G.1 vwCl (n9, .inl (G.2.1, N, .inl (vlN (L ++ [x])))) H1 → (∀ q : Nat, q ≠ n9 → H1[q]? = H[q]?) → va_S A H0 H1 locs1 → W p l e R s m args below meth c H1 locs1 cells slots Q (F0 m (pc + 1) ls rest)) : W p l e R s m args below meth c H locs cells slots Q (F0 m pc ls (.int x :: .int i :: .ref n9 :: rest)) := by
  subst hi
  refine xq_iast hexec hb hK hN hS hA 0 rfl (vp_in_nI hk hN2) hdg (fun H1 locs1 e1 e3 hS1 => ?_)
  rw [nI_clamp (by omega)] at e1
  refine kk H1 locs1 ?_ e3 hS1
  show H1[n9]? = some (vp_cell _ _)
  rw [arr_same (f := vlN (L ++ [x])) (g := upd (vlN L) L.length x) (fun j hj => (vlN_upd N hk j hj).symm)]
  exact e1
theorem nwLd {L : List Int32} {N n9 k : Nat} {v : Int32} (hexec : p.tables.exec = Jvm.exec) (hb : c.code = cc) (hK : wK G s) (hN : va_at G.1 vwCl (n9, .inl (G.2.1, N, .inl (vlN L))) H) (hk : k < N) (hN2 : N < 2 ^ 31) (hv : vlN L k = v) (hdg : decode cc pc = .ok (.iaload, 1))
    (kk : W p l e R s m args below meth c H locs cells slots Q (F0 m (pc + 1) ls (.int v :: rest))) : W p l e R s m args below meth c H locs cells slots Q (F0 m pc ls (.int (nI k) :: .ref n9 :: rest)) := by
  refine va_iald hexec hb hK (va_P1 hN) 0 0 rfl rfl (vp_in_nI hk hN2) hdg ?_
  rw [nI_clamp (by omega), hv]
  exact kk
/-- a loop that counts up and makes k1 cells of k2 slots each time -/
theorem W_upc (k1 k2 : Nat) (n : Nat) (I : Nat → Heap → List Loc → Array Slot → Prop)
    (hs : ∀ i H locs ls, i ≤ n → I i H locs ls → (i < n → ∀ H' locs' ls', I (i + 1) H' locs' ls' → W p l e R s m args below meth c H' locs' (cells + (i + 1) * k1) (slots + (i + 1) * k2) Q (F0 m pc ls' [])) → W p l e R s m args below meth c H locs (cells + i * k1) (slots + i * k2) Q (F0 m pc ls [])) :
    ∀ i, i ≤ n → ∀ H locs ls, I i H locs ls → W p l e R s m args below meth c H locs (cells + i * k1) (slots + i * k2) Q (F0 m pc ls []) := by
  have key : ∀ k i, i ≤ n → n - i = k → ∀ H locs ls, I i H locs ls → W p l e R s m args below meth c H locs (cells + i * k1) (slots + i * k2) Q (F0 m pc ls []) := by
    intro k
    induction k with
    | zero => exact fun i hi hk H locs ls h => hs i H locs ls hi h (fun hlt => absurd hlt (by omega))
    | succ k ih => exact fun i hi hk H locs ls h => hs i H locs ls hi h (fun hlt H' locs' ls' h' => ih (i + 1) (by omega) (by omega) H' locs' ls' h')
  exact fun i hi H locs ls h => key _ i hi rfl H locs ls h
end NW
/-! ===== objects and rows that come: a cell at a time ===== -/
def dC : wS := fun f _ => match f with
  | 3 => 10
  | 25 => -1
  | _ => 0
def dR : wS := fun _ _ => 0
def zH : List Value := [.int 0, .int 0, .int 0, .int 0, .int 0, .int 0, .int 0, .int 0, .int 0, .int 0, .int 0, .int 0]
def zP : List Value := [.int 0, .int 0, .int 0, .int 0, .int 0, .int 0, .null, .int 0, .int 0, .int 0, .int 0, .int 0, .int 0, .int 0]
def zV : List Value := [.null, .null, .int 0, .int 0, .int 0, .int 0]
def zX : List Value := [.null, .null]
def zS : List Value := [.int 0, .int 0, .null, .int 0, .null, .null, .null, .null, .int 0]
def zM : List Value := [.int 0, .null, .null]
section NR
variable {p : Program} {l : Launch} {e : Env} {R : Room} {s : State} {m : MethodId} {args : Array Value} {below : List Frame} {meth : Method} {c : Code} {H : Heap} {locs : List Loc} {cells slots : Nat} {Q : State → Prop}
variable {cc : ByteArray} {pc : Nat} {ls : Array Slot} {rest : List Value} {A : Nat → Prop} {H0 : Heap} {G : wG} {D : va_G} {cl : List vw_C} {a : Nat} {tys : List (ClassId × FieldType)}
theorem vaS9 {H1 : Heap} (hS : va_S A H0 H locs) (z : H1.size = H.size + 1) (o1 : ∀ q : Nat, q < H.size → H1[q]? = H[q]?) : va_S A H0 H1 locs :=
  ⟨Nat.le_trans hS.1 (by omega), fun x h1 h2 => (o1 x (Nat.lt_of_lt_of_le h1 hS.1)).trans (hS.2.1 x h1 h2), hS.2.2⟩
theorem nwZ {n : Int32} (N : Nat) (hexec : p.tables.exec = Jvm.exec) (hb : c.code = cc) (harr : (Cond.arrayClass .boolean).before args s = true) (hK : wK G s) (hS : va_S A H0 H locs) (hn : ¬ n < 0) (hN : n.toNatClampNeg = N) (hbytes : N * componentBytes .boolean ≤ 536870912) (hcells : cells + 1 ≤ R.cells) (hslots : slots + N ≤ R.slots) (hdg : decode cc pc = .ok (.newarray .boolean, 2))
    (kk : ∀ (n9 : Nat) (H1 : Heap), H.size = n9 → H0.size ≤ n9 → va_at G.1 vwCl (n9, .inl (G.2.2.1, N, .inl (fun _ => 0))) H1 → (∀ q : Nat, q < H.size → H1[q]? = H[q]?) → va_S A H0 H1 locs → W p l e R s m args below meth c H1 locs (cells + 1) (slots + N) Q (F0 m (pc + 2) ls (.ref n9 :: rest))) : W p l e R s m args below meth c H locs cells slots Q (F0 m pc ls (.int n :: rest)) := by
  refine va_newaK (atype := .boolean) hexec hb harr rfl hdg rfl hn hN hbytes hcells hslots rfl fun H1 cA e1 z1 o1 hAr hNm => ?_
  have e9 : cA = G.2.2.1 := Option.some.inj (hNm.symm.trans (hK.2 1 _ rfl).2)
  subst e9
  refine kk H.size H1 rfl hS.1 ?_ o1 (vaS9 hS z1 o1)
  show H1[H.size]? = some (vp_cell _ _)
  rw [e1]
  rfl
theorem nwQ {C : String} {index t0 : Nat} {cQ : ClassId} {n : Int32} (N : Nat) (hexec : p.tables.exec = Jvm.exec) (hb : c.code = cc) {own : String} (hown : s.vm.findClass own = some m.cls) (hclink : (Cond.classLink own index C).before args s = true) (hover : va_AO C s) (hK : wK G s) (ht : (wT G)[t0]? = some (cQ, .object C)) (hS : va_S A H0 H locs) (hn : ¬ n < 0) (hN : n.toNatClampNeg = N) (hbytes : N * 4 ≤ 536870912) (hcells : cells + 1 ≤ R.cells) (hslots : slots + N ≤ R.slots) (hdg : decode cc pc = .ok (.anewarray index, 3))
    (kk : ∀ (n9 : Nat) (H1 : Heap), H.size = n9 → H0.size ≤ n9 → va_at G.1 vwCl (n9, .inl (cQ, N, .inr (.inr (.inr (.inr (fun _ => none)))))) H1 → (∀ q : Nat, q < H.size → H1[q]? = H[q]?) → va_S A H0 H1 locs → W p l e R s m args below meth c H1 locs (cells + 1) (slots + N) Q (F0 m (pc + 3) ls (.ref n9 :: rest))) : W p l e R s m args below meth c H locs cells slots Q (F0 m pc ls (.int n :: rest)) := by
  subst hN
  refine W.anew hexec hb hown hclink (va_AO.use hover) rfl hdg rfl hn hbytes hcells hslots fun cA kA comp f1 f2 f3 f4 => ?_
  obtain ⟨_, _, _, _, _, r4⟩ := (hK.2 t0 _ ht).2
  have e9 : cA = cQ := Option.some.inj (f1.symm.trans r4)
  subst e9
  generalize hH1 : H.push ({ cls := cA, slots := Array.replicate n.toNatClampNeg .null, vm := .none } : Cell) = H1
  have z1 : H1.size = H.size + 1 := by rw [← hH1, Array.size_push]
  have e1 : H1[H.size]? = some (arrV cA n.toNatClampNeg (fun _ => .null)) := by rw [← hH1, Array.getElem?_push_size, ← arrV_new]
  have o1 : ∀ q : Nat, q < H.size → H1[q]? = H[q]? := fun q hq => by rw [← hH1, Array.getElem?_push, if_neg (Nat.ne_of_lt hq)]
  refine kk H.size H1 rfl hS.1 ?_ o1 (vaS9 hS z1 o1)
  show H1[H.size]? = some (vp_cell _ _)
  rw [vp_cell_q]
  exact e1
theorem nwO {c0 : Code} (hexec : p.tables.exec = Jvm.exec) (hb : c0.code = cc) {own C : String} {T : u_T} {N ci index : Nat} {Ts : List Cond} (hts : ∀ w ∈ Ts, w.before args s = true) (hin : ∀ w ∈ u_ws C T N, w ∈ Ts) (ty : Nat → FieldType) (hty : ∀ k, k < N → parseFieldDescriptor (T k).2.2.1 = some (ty k)) (hown : s.vm.findClass own = some m.cls) (hcl : (Cond.classLink own index C).before args s = true) (hinst : (Cond.instantiable C N).before args s = true) (hini : (Cond.initialized C).before args s = true)
    (hK : wK G s) (hS : va_S A H0 H locs) (hc : vwCl[ci]? = some (C, T, N)) {fs : List Value} (hfs : ∀ j, j < N → defaultValue (ty j) = vp_V fs j) (hcells : cells + 1 ≤ R.cells) (hslots : slots + N ≤ R.slots) (hdg : decode cc pc = .ok (.new index, 3))
    (kk : ∀ (n9 : Nat) (H1 : Heap), H.size = n9 → H0.size ≤ n9 → va_at G.1 vwCl (n9, .inr (ci, fs)) H1 → (∀ q : Nat, q < H.size → H1[q]? = H[q]?) → va_S A H0 H1 locs →
      W p l e R s m args below meth c0 H1 locs (cells + 1) (slots + N) Q (F0 m (pc + 3) ls (.ref n9 :: rest))) : W p l e R s m args below meth c0 H locs cells slots Q (F0 m pc ls rest) := by
  have hKn := hK.1 ci _ hc
  refine W.newcK hexec hb hown hcl hinst hini rfl hdg hcells hslots hKn.2.1 rfl fun H1 kC hkC e1 z1 o1 => ?_
  exact kk H.size H1 rfl hS.1 ⟨_, hc, (u_born ty hts hin hKn hkC e1 hty).to hfs⟩ o1 (vaS9 hS z1 o1)
theorem xq_putF (hexec : p.tables.exec = Jvm.exec) (hb : c.code = cc) {own ref C : String} {T : u_T} {N ci index : Nat} {Ts : List Cond} (hts : ∀ w ∈ Ts, w.before args s = true) (hin : ∀ w ∈ u_ws C T N, w ∈ Ts) (ty0 : Nat → FieldType) (hty : ∀ k, k < N → parseFieldDescriptor (T k).2.2.1 = some (ty0 k)) (hnm : ∀ a, a < N → ∀ b, b < N → a ≠ b → (T a).2.1 ≠ (T b).2.1) (hown : s.vm.findClass own = some m.cls) (hK : va_K D cl tys s) {fs : List Value} (hq : va_at D cl (a, .inr (ci, fs)) H) (hS0 : va_S A H0 H locs) (hA : A a) (hc : cl[ci]? = some (C, T, N)) (k : Nat) (hk : k < N) (hlink : (Cond.fieldLink own index ref (T k).2.1 (T k).2.2.1).before args s = true) (hsame : ∀ x, s.fieldFound? (T k).1 (T k).2.1 (T k).2.2.1 = some x → s.fieldFound? ref (T k).2.1 (T k).2.2.1 = some x) (hfin : (T k).2.2.2 = true) (hin2 : meth.name = "<init>") (hdecl : (T k).1 = own) {ty : FieldType} {v : Value} (hd : parseFieldDescriptor (T k).2.2.1 = some ty) (hn : narrow ty v = v) (hfit : fits ty v = true) (hl : k < fs.length)
    (hdg : decode cc pc = .ok (.putfield index, 3)) (kk : ∀ (H1 : Heap) (locs1 : List Loc), va_at D cl (a, .inr (ci, fs.set k v)) H1 → (∀ q : Nat, q ≠ a → H1[q]? = H[q]?) → va_S A H0 H1 locs1 → W p l e R s m args below meth c H1 locs1 cells slots Q (F0 m (pc + 3) ls rest)) : W p l e R s m args below meth c H locs cells slots Q (F0 m pc ls (v :: .ref a :: rest)) := by
  have hap := va_apart (own := own) hts hin ty0 hty hnm hK hc
  obtain ⟨r, h1, cell, q1, q2, q3, q4⟩ := hq
  have hr : r = (C, T, N) := Option.some.inj (h1.symm.trans hc)
  subst hr
  obtain ⟨hS, hfc, kC, hkC, hkind⟩ := hK.1 ci _ hc
  obtain ⟨cf, kf, fi, f, hi, hsl⟩ := hS k hk
  have hlay := hts _ (hin _ (u_in_lay hk))
  unfold u_lay at hlay
  rw [if_pos hfin] at hlay
  have hst := (u_facts hfc hkC (u_lays hts hin hk) hi).1
  have hcf : m.cls = cf := by
    obtain ⟨_, _, c', _, _, _, -, -, hf', -, -, -, hown2, -⟩ := Cond.laysFinal_spec hlay
    have e1 : c' = cf := by have := hi.symm.trans hf'; simp at this; exact this.1.symm
    rw [hdecl] at hown2
    rw [← e1]; exact Option.some.inj (hown.symm.trans hown2)
  have h6 := u_fits hfc hkC hkind (Or.inr hlay) hi hd hn hfit
  refine W.putFinK hexec hb hown hlink (hsame _ hi) hst hcf hin2 (by rw [q2]; exact h6) q1 q3 (by rw [hsl]; exact k2_hasslot (q4 k hk)) rfl rfl hdg fun H' e1 e2 e3 => ?_
  rw [hsl] at e1 ⊢
  exact kk H' _ ⟨_, hc, t_OB.to (V := updV (vp_V fs) k v) ⟨_, e1, q2, q3, t_set q4 hap hk v⟩ (fun j _ => vp_updV_set hl v j)⟩ e3 (hS0.put e2 e3 hA)
theorem xq_astq (hexec : p.tables.exec = Jvm.exec) (hb : c.code = cc) (hK : va_K D cl tys s) (t0 ci : Nat) {cA : ClassId} {r : vw_C} {n v : Nat} {vs : List Value} {f : Nat → Option Nat} (ha : va_at D cl (a, .inl (cA, n, .inr (.inr (.inr (.inr f))))) H) (hv : va_at D cl (v, .inr (ci, vs)) H) (hS : va_S A H0 H locs) (hA : A a) (ht : tys[t0]? = some (cA, .object r.1)) (hc : cl[ci]? = some r) {i : Int32} (hin : vp_in i n) (hdg : decode cc pc = .ok (.aastore, 1))
    (kk : ∀ (H1 : Heap) (locs1 : List Loc), va_at D cl (a, .inl (cA, n, .inr (.inr (.inr (.inr (va_up f i.toNatClampNeg (some v))))))) H1 → (∀ q : Nat, q ≠ a → H1[q]? = H[q]?) → va_S A H0 H1 locs1 → W p l e R s m args below meth c H1 locs1 cells slots Q (F0 m (pc + 1) ls rest)) : W p l e R s m args below meth c H locs cells slots Q (F0 m pc ls (.ref v :: .int i :: .ref a :: rest)) := by
  have hlt : i.toNatClampNeg < n := Nat.not_le.mp fun q => hin (Or.inr q)
  have h0 : ¬ i < 0 := fun q => hin (Or.inl q)
  obtain ⟨r', hr', cellV, g1, g2, g3, -⟩ := hv
  have hcls := (hK.1 ci r hc).2
  obtain ⟨kA, comp, k1, k2, k3, -⟩ := (hK.2 t0 _ ht).2
  have hcomp : comp = D.1 ci := Option.some.inj (k3.symm.trans hcls.1)
  subst hcomp
  obtain ⟨kC, hkC, -⟩ := hcls.2
  refine W.aast hexec hb ha (fun q h => by cases h) (fun h => by cases h) k1 k2 rfl hkC ⟨h0, by show _ < (arrV _ _ _).slots.size; rw [arrV_size]; exact hlt⟩ g1 (fun q h => by rw [g3] at h; cases h) (by rw [g2]; exact hkC) (by rw [g2]; exact va_assign hcls) rfl rfl hdg fun H1 e z oq => ?_
  refine kk H1 _ ?_ oq (hS.put z oq hA)
  show H1[a]? = some (vp_cell _ _)
  rw [e]
  rw [vp_cell_q, vp_cell_q, arrV_store]
  congr 2
  funext q
  by_cases hq : q = i.toNatClampNeg
  · subst hq
    simp [updV, va_up, va_rf]
  · simp [updV, va_up, hq]
end NR
theorem arr_sameq {cA : ClassId} {n : Nat} {f g : Nat → Option Nat} (h : ∀ j, j < n → f j = g j) : vp_cell cA (n, .inr (.inr (.inr (.inr f)))) = vp_cell cA (n, .inr (.inr (.inr (.inr g)))) := by
  rw [vp_cell_q, vp_cell_q]
  unfold arrV
  congr 1
  apply Array.ext
  · simp
  · intro i h1 h2
    simp only [Array.getElem_ofFn] <;> (simp at h1; simp [h i (by omega)])
/-- a contract's start where the heap's size is known -/
def PcN (G : wG) (av : List Value) (nz : Nat) (B : Heap → Prop) (N : State → Prop) : Array Value → State → Prop := va_Pc av (fun U => U.heap.size = nz ∧ B U.heap ∧ wK G U ∧ N U)
theorem PcN.pre {G : wG} {av : List Value} {B : Heap → Prop} {N : State → Prop} {s : State} {H : Heap} (hB : B H) (hK : wK G s) (hN : ∀ U : State, s.WarmedH U.vm → N U) : ∀ U : State, U.heap = H → s.WarmedH U.vm → PcN G av H.size B N av.toArray U :=
  fun U hU hW => ⟨rfl, by rw [hU], by rw [hU]; exact hB, va_K.moved hW.alike hK, hN U hW⟩
theorem PcN.blind {G : wG} {av : List Value} {nz : Nat} {B : Heap → Prop} {N : State → Prop} (hN : ∀ u U : State, u.WarmedH U.vm → N u → N U) : FrameBlind (PcN G av nz B N) := fun a U g mk q =>
  ⟨q.1, q.2.1, q.2.2.1, va_K.moved (u := U) (U := U.calling g mk a) (Vm.Alike.refl U.vm) q.2.2.2.1, hN U (U.calling g mk a) (State.WarmedH.refl U) q.2.2.2.2⟩
end
section
/-! ===== a village behind each call: what holds of it still holds ===== -/
theorem InvP.mono {nH p : Nat} {τ : wS} (h : InvP nH τ p) : InvP (nH + 1) τ p := by
  obtain ⟨a, b, c, d, e, f, g, i⟩ := h
  exact ⟨a, b, c, d.imp id (fun ⟨k, hk, q⟩ => ⟨k, by omega, q⟩), e, f, fun k hk => by
    obtain ⟨h, hh, q⟩ := g k hk
    exact ⟨h, by omega, q⟩, i⟩
theorem InvH.mono {nP h : Nat} {τ : wS} (q : InvH nP τ h) : InvH (nP + 1) τ h := by
  obtain ⟨a, b, ⟨k, hk, e⟩, d⟩ := q
  exact ⟨a, b, ⟨k, by omega, e⟩, d⟩
abbrev aHF (nH : Nat) (τ : wS) (x y w : Int32) : wS := wst (wst (wst (wst (addV nH dC τ) 0 nH x) 1 nH y) 2 nH w) 51 0 (nI (nH + 1))
abbrev aPF (nP : Nat) (τ : wS) (x y : Int32) : wS := wst (wst (wst (addW nP dC τ) 20 nP x) 21 nP y) 52 0 (nI (nP + 1))
section IA
variable {nH nP D : Nat} {τ : wS} {x y w : Int32}
theorem addV_o {f i : Nat} {δ : wS} (h : ¬ (f ≤ 10 ∧ i = nH)) : addV nH δ τ f i = τ f i := if_neg h
theorem addW_o {f i : Nat} {δ : wS} (h : ¬ ((11 ≤ f ∧ f ≤ 30 ∧ i = nP) ∨ f = 40 + nP)) : addW nP δ τ f i = τ f i := if_neg h
theorem aHF_o {f i : Nat} (h : ¬ (f ≤ 10 ∧ i = nH)) (h2 : ¬ (f = 51 ∧ i = 0)) : aHF nH τ x y w f i = τ f i := by
  unfold aHF
  rw [wst_e (by omega), wst_e (by omega), wst_e (by omega), wst_e (by omega), addV_o h]
theorem aHF_n {f : Nat} (h : 3 ≤ f) (h2 : f ≤ 10) : aHF nH τ x y w f nH = dC f nH := by
  unfold aHF
  rw [wst_e (by omega), wst_e (by omega), wst_e (by omega), wst_e (by omega)]
  exact if_pos ⟨h2, rfl⟩
theorem Inv.addH (hv : Inv nH nP τ) (hn : nH < 10) (hw : inn 1 9 w) : Inv (nH + 1) nP (aHF nH τ x y w) := by
  obtain ⟨k, h1, h9, rfl⟩ := inn_nI (lo := 1) (hi := 9) hw (by omega) (by omega)
  obtain ⟨a, b, c, d, e, g⟩ := hv
  refine ⟨by omega, b, wst_s, (aHF_o (by omega) (by omega)).trans d, fun h hh => ?_, fun p hp => (g p hp).mono.congr (fun f h1 h2 => aHF_o (by omega) (by omega)) (funext fun i => aHF_o (by omega) (by omega))⟩
  by_cases q : h = nH
  · subst q
    refine ⟨⟨k, h1, h9, ?_⟩, ⟨0, by omega, (aHF_n (by omega) (by omega)).trans rfl⟩, ⟨0, Or.inr rfl, (aHF_n (by omega) (by omega)).trans rfl⟩, ⟨0, by omega, (aHF_n (by omega) (by omega)).trans rfl⟩⟩
    unfold aHF
    rw [wst_f (by omega), wst_s]
  · exact (e h (by omega)).congr (aHF_o (by omega) (by omega)) (aHF_o (by omega) (by omega)) (aHF_o (by omega) (by omega)) (aHF_o (by omega) (by omega))
theorem aPF_o {f i : Nat} (h : ¬ ((11 ≤ f ∧ f ≤ 30 ∧ i = nP) ∨ f = 40 + nP)) (h2 : ¬ (f = 52 ∧ i = 0)) : aPF nP τ x y f i = τ f i := by
  unfold aPF
  rw [wst_e (by omega), wst_e (by omega), wst_e (by omega), addW_o h]
theorem aPF_n {f : Nat} (h : 22 ≤ f) (h2 : f ≤ 30) : aPF nP τ x y f nP = dC f nP := by
  unfold aPF
  rw [wst_e (by omega), wst_e (by omega), wst_e (by omega)]
  exact if_pos (Or.inl ⟨by omega, by omega, rfl⟩)
theorem Inv.addP (hv : Inv nH nP τ) (hn : nP < 3) : Inv nH (nP + 1) (aPF nP τ x y) := by
  obtain ⟨a, b, c, d, e, g⟩ := hv
  refine ⟨a, by omega, (aPF_o (by omega) (by omega)).trans c, wst_s, fun h hh => (e h hh).mono.congr (aPF_o (by omega) (by omega)) (aPF_o (by omega) (by omega)) (aPF_o (by omega) (by omega)) (aPF_o (by omega) (by omega)), fun p hp => ?_⟩
  by_cases q : p = nP
  · subst q
    have e26 : sz (aPF p τ x y) p = 0 := by unfold sz; rw [aPF_n (by omega) (by omega)]; rfl
    have e27 : tn (aPF p τ x y) p = 0 := by unfold tn; rw [aPF_n (by omega) (by omega)]; rfl
    unfold InvP
    rw [e26, e27, aPF_n (f := 22) (by omega) (by omega), aPF_n (f := 23) (by omega) (by omega), aPF_n (f := 24) (by omega) (by omega), aPF_n (f := 25) (by omega) (by omega), aPF_n (f := 26) (by omega) (by omega), aPF_n (f := 27) (by omega) (by omega)]
    exact ⟨Or.inl rfl, fun _ => by show (0 : Int32) < 100; decide, ⟨0, by omega, rfl⟩, Or.inl rfl, ⟨by omega, rfl⟩, ⟨rfl, Or.inr ⟨rfl, rfl⟩⟩, fun k hk => absurd hk (by omega), fun j k _ hk => absurd hk (by omega)⟩
  · exact (g p (by omega)).congr (fun f h1 h2 => aPF_o (by omega) (by omega)) (funext fun i => aPF_o (by omega) (by omega))
/-- a house joins a roster -/
theorem Inv.enrol {p h : Nat} (hv : Inv nH nP τ) (hp : p < nP) (hh : h < nH) (hn : ¬ plc (τ (40 + p)) (nI h) (sz τ p) < sz τ p) : Inv nH nP (wst (wst τ (40 + p) (sz τ p) (nI h)) 26 p (nI (sz τ p + 1))) := by
  have hr := ros_room hv hp hh hn
  have hno := plc_all hn
  have hP := hv.2.1
  have hH := hv.1
  refine hv.atP p (fun f i hf => by rw [wst_f (by omega), wst_f (by omega)]) (by rw [wst_f (by omega), wst_f (by omega)]) (by rw [wst_f (by omega), wst_f (by omega)]) (fun q hq => ⟨fun f h1 h2 => by rw [wst_i hq, wst_f (by omega)], funext fun k => by rw [wst_f (by omega), wst_f (by omega)]⟩) (fun _ => ?_)
  obtain ⟨a, b, c, d, e, f, g, i⟩ := hv.2.2.2.2.2 p hp
  generalize hn9 : sz τ p = n at hr e f g i hno ⊢
  have e26 : sz (wst (wst τ (40 + p) n (nI h)) 26 p (nI (n + 1))) p = n + 1 := by unfold sz; rw [wst_s]; exact nI_clamp (by omega)
  have e27 : tn (wst (wst τ (40 + p) n (nI h)) 26 p (nI (n + 1))) p = tn τ p := by unfold tn; rw [wst_f (by omega), wst_f (by omega)]
  have o : ∀ g, 22 ≤ g → g ≤ 27 → g ≠ 26 → wst (wst τ (40 + p) n (nI h)) 26 p (nI (n + 1)) g p = τ g p := fun g h1 h2 h3 => by rw [wst_f h3, wst_f (by omega)]
  have r : ∀ k, k ≠ n → wst (wst τ (40 + p) n (nI h)) 26 p (nI (n + 1)) (40 + p) k = τ (40 + p) k := fun k hk => by rw [wst_f (by omega), wst_i hk]
  have rn : wst (wst τ (40 + p) n (nI h)) 26 p (nI (n + 1)) (40 + p) n = nI h := by rw [wst_f (by omega), wst_s]
  unfold InvP
  rw [e26, e27, o 22 (by omega) (by omega) (by omega), o 23 (by omega) (by omega) (by omega), o 24 (by omega) (by omega) (by omega), o 25 (by omega) (by omega) (by omega), o 27 (by omega) (by omega) (by omega)]
  refine ⟨a, b, c, d, ⟨by omega, wst_s⟩, ⟨f.1, by have := f.2; omega⟩, fun k hk => ?_, fun j k hjk hk => ?_⟩
  · by_cases q : k = n
    · subst q; exact ⟨h, hh, rn⟩
    · rw [r k q]; exact g k (by omega)
  · rw [r j (by omega)]
    by_cases q : k = n
    · subst q; rw [rn]; exact hno j (by omega)
    · rw [r k q]; exact i j k hjk (by omega)
end IA
theorem lg_cmp_self {x : Int64} : lg_cmp x x = 0 := by
  unfold lg_cmp
  rw [if_neg (fun q => by rw [gt_iff_lt, Int64.lt_iff_toInt_lt] at q; omega), if_pos rfl]
end
section
/-! ===== p22: which columns each step leaves ===== -/
def nCh (nP f : Nat) : Prop := (f < 40 ∨ 40 + nP ≤ f) ∧ f ≠ 3 ∧ f ≠ 4 ∧ f ≠ 10 ∧ f ≠ 26 ∧ f ≠ 27 ∧ f ≠ 53
section FR
variable {nH nP p q h d f i n : Nat} {e x : Int32} {σ : wS}
theorem strkF_f (h1 : f ≠ 26) (h2 : f ≠ 27) (h3 : f ≠ 40 + p) : strkF p q σ f i = σ f i := by
  unfold strkF
  rw [wst_f h2, wst_f h1, shF_o h3]
theorem strkH_f (h1 : f ≠ 26) (h2 : f ≠ 27) (h3 : f ≠ 40 + p) : strkH h p σ f i = σ f i := by
  unfold strkH
  split
  · exact strkF_f h1 h2 h3
  · rfl
theorem strkF_q (hq : i ≠ p) : strkF p q σ 26 i = σ 26 i := by
  unfold strkF
  rw [wst_f (by omega), wst_i hq, shF_o (by omega)]
theorem strkH_q (hq : i ≠ p) : strkH h p σ 26 i = σ 26 i := by
  unfold strkH
  split
  · exact strkF_q hq
  · rfl
theorem strks_f (hp : f < 40 ∨ 40 + nP ≤ f) (h1 : f ≠ 26) (h2 : f ≠ 27) : itn (strkH h) nP σ f i = σ f i :=
  itn_colb (fun k hk x => strkH_f h1 h2 (by omega))
theorem chg_c1 (hp : f < 40 ∨ 40 + nP ≤ f) (h4 : f ≠ 4) (h1 : f ≠ 26) (h2 : f ≠ 27) : chgF nP h e σ f i = chg1 h e σ f i := by
  unfold chgF
  split
  · split
    · rw [strks_f hp h1 h2, wst_f h4]
    · rw [wst_f h4]
  · rfl
theorem chg1_f (h3 : f ≠ 3) (h10 : f ≠ 10) (h53 : f ≠ 53) : chg1 h e σ f i = σ f i := by
  unfold chg1
  rw [wst_f h53, wst_f h3, wst_f h10]
theorem chg_f (hf : nCh nP f) : chgF nP h e σ f i = σ f i := by
  obtain ⟨a, b, c, g, j, k, l⟩ := hf
  rw [chg_c1 a c j k, chg1_f b g l]
theorem hnd_f (hf : nCh nP f) (h9 : f ≠ 9) : (hndF nP p d σ).1 f i = σ f i := by
  unfold hndF
  split
  · rfl
  · split
    · split
      · dsimp only
        rw [chg_f hf, wst_f h9]
      · dsimp only
        rw [wst_f h9]
    · dsimp only
      rw [chg_f hf]
theorem opn_f (hf : nCh nP f) (h9 : f ≠ 9) (h25 : f ≠ 25) (h28 : f ≠ 28) (h7 : f ≠ 7) : (opnF nP p σ).1 f i = σ f i := by
  have t : trnF p σ f i = σ f i := by unfold trnF; exact wst_f hf.2.2.2.2.2.1
  unfold opnF
  split
  · split
    · dsimp only
      unfold opnY
      rw [wst_f h7, wst_f h28, wst_f h25, hnd_f hf h9, t]
    · dsimp only
      rw [hnd_f hf h9, t]
  · rfl
theorem key_f (hf : nCh nP f) (h2 : f ≠ 9 ∧ f ≠ 25 ∧ f ≠ 28 ∧ f ≠ 7 ∧ f ≠ 31 ∧ f ≠ 32) : keyF nP p σ f i = σ f i := by
  obtain ⟨a, b, c, g, j, k⟩ := h2
  unfold keyF
  split
  · rw [wst_f j, opn_f hf a b c g, wst_f k, wst_f j]
  · rw [opn_f hf a b c g, wst_f k, wst_f j]
theorem dr1_f (h1 : f ≠ 20) (h2 : f ≠ 29) (h3 : f ≠ 22) : dr1 q x σ f i = σ f i := by
  unfold dr1
  rw [wst_f h3, wst_f h2, wst_f h1]
theorem dr_f (hf : nCh nP f) (h2 : f ≠ 20 ∧ f ≠ 29 ∧ f ≠ 22 ∧ f ≠ 23 ∧ f ≠ 32 ∧ f ≠ 24) : drF nP h q x σ f i = σ f i := by
  obtain ⟨a, b, c, g, j, k⟩ := h2
  unfold drF
  split
  · rfl
  · split
    · exact dr1_f a b c
    · rw [chg_f hf, wst_f k, wst_f j, wst_f g, dr1_f a b c]
theorem drI_f (hf : nCh nP f) (h2 : f ≠ 20 ∧ f ≠ 29 ∧ f ≠ 22 ∧ f ≠ 23 ∧ f ≠ 32 ∧ f ≠ 24) : ∀ {k}, (drI nP h k (σ, x)).1 f i = σ f i
  | 0 => rfl
  | k + 1 => (dr_f hf h2).trans (drI_f hf h2 (k := k))
theorem drw_f (hf : nCh nP f) (h2 : f ≠ 20 ∧ f ≠ 29 ∧ f ≠ 22 ∧ f ≠ 23 ∧ f ≠ 32 ∧ f ≠ 24) (h8 : f ≠ 8) : drwF nP h σ f i = σ f i := by
  unfold drwF
  split
  · rw [wst_f h8, drI_f hf h2]
  · rfl
theorem lay_f (h3 : f ≠ 3) : layF h σ f i = σ f i := by
  unfold layF
  split
  · exact wst_f h3
  · rfl
theorem w1_f (h24 : f ≠ 24) : w1F p σ f i = σ f i := by
  unfold w1F
  split
  · exact wst_f h24
  · rfl
theorem mnd_f (h2 : f ≠ 24 ∧ f ≠ 53 ∧ f ≠ 23 ∧ f ≠ 22 ∧ f ≠ 30) : mndF p σ f i = σ f i := by
  obtain ⟨a, b, c, g, j⟩ := h2
  unfold mndF wrkF
  split
  · rfl
  · split
    · rw [wst_f j, wst_f g, wst_f c, wst_f b, w1_f a]
    · exact w1_f a
theorem fil_f (h : f ≠ 20) : filF p σ f i = σ f i := wst_f h
theorem shrH_f (h3 : f ≠ 3) : shrH e h σ f i = σ f i := by
  unfold shrH
  split
  · exact wst_f h3
  · rfl
theorem shr_f (h3 : f ≠ 3) (h53 : f ≠ 53) : shrF nH σ f i = σ f i := by
  unfold shrF
  split
  · rfl
  · rw [wst_f h53]
    exact itn_col (fun k x => shrH_f h3)
theorem bck_f (h6 : f ≠ 6) : bckF h σ f i = σ f i := by
  unfold bckF
  split
  · rfl
  · exact wst_f h6
theorem end_f (h6 : f ≠ 6) (h50 : f ≠ 50) : endF nH σ f i = σ f i := by
  unfold endF
  rw [wst_f h50]
  exact itn_col (fun k x => bck_f h6)
/-- what a whole day leaves: lodgers, hens, the inflow -/
theorem day_f (hf : nCh nP f) (h2 : f ≠ 9 ∧ f ≠ 25 ∧ f ≠ 28 ∧ f ≠ 7 ∧ f ≠ 31 ∧ f ≠ 32) (h3 : f ≠ 20 ∧ f ≠ 29 ∧ f ≠ 22 ∧ f ≠ 23 ∧ f ≠ 32 ∧ f ≠ 24) (h8 : f ≠ 8) (h30 : f ≠ 30) (h6 : f ≠ 6) (h50 : f ≠ 50) : dayF nH nP σ f i = σ f i := by
  obtain ⟨a, b, c, g, j, k, l⟩ := id hf
  unfold dayF
  rw [end_f h6 h50, shr_f b l, itn_col (fun k x => fil_f h3.1), itn_col (fun k x => mnd_f ⟨h3.2.2.2.2.2, l, h3.2.2.2.1, h3.2.2.1, h30⟩), itn_col (fun k x => drw_f hf h3 h8), itn_col (fun k x => key_f hf h2), itn_col (fun k x => lay_f b)]
theorem day_50 (hP : nP ≤ 3) : dayF nH nP σ 50 0 = σ 50 0 + 1 := by
  have hf : nCh nP 50 := by unfold nCh; omega
  have h1 : ∀ x : wS, itn bckF nH x 50 0 = x 50 0 := fun x => itn_col (fun k y => bck_f (by omega))
  have h2 : shrF nH (itn filF nP (itn mndF nP (itn (drwF nP) nH (itn (keyF nP) nP (itn layF nH σ))))) 50 0 = σ 50 0 := by
    rw [shr_f (by omega) (by omega), itn_col (fun k x => fil_f (by omega)), itn_col (fun k x => mnd_f (by omega)), itn_col (fun k x => drw_f hf (by omega) (by omega)), itn_col (fun k x => key_f hf (by omega)), itn_col (fun k x => lay_f (by omega))]
  unfold dayF endF
  rw [wst_s, h2]
end FR
end
section
/-! ===== p22: sums of numbers; the eggs ===== -/
def nsm (f : Nat → Nat) : Nat → Nat
  | 0 => 0
  | n + 1 => nsm f n + f n
theorem nsm_congr {f g : Nat → Nat} : ∀ {n : Nat}, (∀ k, k < n → f k = g k) → nsm f n = nsm g n
  | 0, _ => rfl
  | n + 1, h => by
    show nsm f n + f n = nsm g n + g n
    rw [nsm_congr (n := n) (fun k hk => h k (by omega)), h n (by omega)]
theorem nsm_le {f : Nat → Nat} {b : Nat} : ∀ {n : Nat}, (∀ k, k < n → f k ≤ b) → nsm f n ≤ b * n
  | 0, _ => Nat.le_refl _
  | n + 1, h => by
    have a := nsm_le (n := n) (fun k hk => h k (by omega))
    have c := h n (by omega)
    show nsm f n + f n ≤ b * (n + 1)
    rw [Nat.mul_succ]
    omega
theorem nsm_mono {f g : Nat → Nat} : ∀ {n : Nat}, (∀ k, k < n → f k ≤ g k) → nsm f n ≤ nsm g n
  | 0, _ => Nat.le_refl _
  | n + 1, h => by
    have a := nsm_mono (n := n) (fun k hk => h k (by omega))
    have c := h n (by omega)
    show nsm f n + f n ≤ nsm g n + g n
    omega
theorem nsm_add {f g : Nat → Nat} : ∀ {n : Nat}, nsm (fun k => f k + g k) n = nsm f n + nsm g n
  | 0 => rfl
  | n + 1 => by
    show nsm (fun k => f k + g k) n + (f n + g n) = nsm f n + f n + (nsm g n + g n)
    rw [nsm_add (n := n)]
    omega
theorem nsm_mul {f : Nat → Nat} {c : Nat} : ∀ {n : Nat}, nsm (fun k => c * f k) n = c * nsm f n
  | 0 => rfl
  | n + 1 => by
    show nsm (fun k => c * f k) n + c * f n = c * (nsm f n + f n)
    rw [nsm_mul (n := n), Nat.mul_add]
theorem le_nsm {f : Nat → Nat} {k : Nat} : ∀ {n : Nat}, k < n → f k ≤ nsm f n
  | 0, h => absurd h (by omega)
  | n + 1, h => by
    show f k ≤ nsm f n + f n
    by_cases q : k = n
    · subst q; omega
    · have := le_nsm (f := f) (k := k) (n := n) (by omega)
      omega
theorem nsm_one {f : Nat → Nat} {h y : Nat} : ∀ {n : Nat}, h < n → nsm (fun k => if k = h then y else f k) n + f h = nsm f n + y
  | 0, hh => absurd hh (by omega)
  | n + 1, hh => by
    show nsm (fun k => if k = h then y else f k) n + (if n = h then y else f n) + f h = nsm f n + f n + y
    by_cases q : n = h
    · subst q
      rw [if_pos rfl, nsm_congr (f := fun k => if k = n then y else f k) (g := f) (fun k hk => if_neg (by omega))]
      omega
    · rw [if_neg q]
      have := nsm_one (f := f) (y := y) (n := n) (show h < n by omega)
      omega
theorem sm_congr {f g : Nat → Int32} : ∀ {n : Nat}, (∀ k, k < n → f k = g k) → sm f n = sm g n
  | 0, _ => rfl
  | n + 1, h => by
    show sm f n + f n = sm g n + g n
    rw [sm_congr (n := n) (fun k hk => h k (by omega)), h n (by omega)]
theorem sm_upd {σ : wS} {q f : Nat} {y : Int32} : ∀ {n : Nat}, q < n → sm (fun h => wst σ f q (σ f q + y) f h) n = sm (fun h => σ f h) n + y
  | 0, h => absurd h (by omega)
  | n + 1, h => by
    show sm (fun h => wst σ f q (σ f q + y) f h) n + wst σ f q (σ f q + y) f n = sm (fun h => σ f h) n + σ f n + y
    by_cases e : q = n
    · subst e
      rw [wst_s, sm_congr (f := fun h => wst σ f q (σ f q + y) f h) (g := fun h => σ f h) (fun k hk => wst_i (by omega)), Int32.add_assoc]
    · rw [sm_upd (n := n) (by omega), wst_i (by omega), Int32.add_assoc, Int32.add_assoc, Int32.add_comm y]
theorem sm_nI {f : Nat → Int32} {g : Nat → Nat} : ∀ {n : Nat}, (∀ k, k < n → f k = nI (g k)) → sm f n = nI (nsm g n)
  | 0, _ => rfl
  | n + 1, h => by
    show sm f n + f n = nI (nsm g n + g n)
    rw [sm_nI (n := n) (fun k hk => h k (by omega)), h n (by omega), nI_add]
theorem min_nI {a b : Nat} (ha : a < 2 ^ 31) (hb : b < 2 ^ 31) : ∃ m, m ≤ a ∧ m ≤ b ∧ (m = a ∨ m = b) ∧ i32min (nI a) (nI b) = nI m := by
  unfold i32min
  by_cases q : b < a
  · exact ⟨b, by omega, by omega, Or.inr rfl, if_pos ((nI_ltI hb ha).mpr q)⟩
  · exact ⟨a, by omega, by omega, Or.inl rfl, if_neg (fun z => q ((nI_ltI hb ha).mp z))⟩
/-- the eggs of the houses and of the chest: none is owed, and all together are no more than T -/
def EG (nH T : Nat) (τ : wS) : Prop := ∃ (e : Nat → Nat) (c : Nat), (∀ h, h < nH → τ 3 h = nI (e h)) ∧ τ 53 0 = nI c ∧ c + nsm e nH ≤ T
section EGs
variable {nH nP T h p q d n a : Nat} {σ τ : wS} {x : Int32}
theorem EG.same (he : EG nH T σ) (h3 : ∀ h, τ 3 h = σ 3 h) (h53 : τ 53 0 = σ 53 0) : EG nH T τ := by
  obtain ⟨e, c, A, b, g⟩ := he
  exact ⟨e, c, fun j hj => (h3 j).trans (A j hj), h53.trans b, g⟩
theorem EG.mono {U : Nat} (he : EG nH T σ) (h : T ≤ U) : EG nH U σ := by
  obtain ⟨e, c, A, b, g⟩ := he
  exact ⟨e, c, A, b, Nat.le_trans g h⟩
theorem EG.put {f i : Nat} (he : EG nH T σ) (h3 : f ≠ 3) (h53 : f ≠ 53) : EG nH T (wst σ f i x) := he.same (fun h => wst_f (Ne.symm h3)) (wst_f (Ne.symm h53))
theorem EG.lay {k : Nat} (he : EG nH T σ) (hh : h < nH) (h1 : σ 1 h = nI k) (hk : k ≤ 9) : EG nH (T + 9) (layF h σ) := by
  obtain ⟨e, c, A, b, g⟩ := he
  unfold layF
  split
  · refine ⟨fun j => if j = h then e h + k else e j, c, fun j hj => ?_, (wst_f (by decide)).trans b, ?_⟩
    · dsimp only
      by_cases q : j = h
      · subst q
        rw [wst_s, A j hj, h1, nI_add, if_pos rfl]
      · rw [wst_i q, if_neg q]
        exact A j hj
    · have z := nsm_one (f := e) (y := e h + k) hh
      omega
  · exact ⟨e, c, A, b, by omega⟩
theorem EG.lays (he : EG nH T σ) (h1 : ∀ h, h < nH → ∃ k, k ≤ 9 ∧ σ 1 h = nI k) : ∀ n, n ≤ nH → EG nH (T + 9 * n) (itn layF n σ)
  | 0, _ => he
  | n + 1, hn => by
    obtain ⟨k, hk, e⟩ := h1 n (by omega)
    have a := EG.lays he h1 n (by omega)
    rw [itn_s, Nat.mul_succ, ← Nat.add_assoc]
    exact a.lay (by omega) ((itn_col (fun j x => lay_f (by decide))).trans e) hk
theorem EG.chg (he : EG nH T σ) (hP : nP ≤ 3) (hh : h < nH) (hT : T < 2 ^ 31) (ha : a < 2 ^ 31) : EG nH T (chgF nP h (nI a) σ) := by
  obtain ⟨e, c, A, b, g⟩ := he
  have hle := le_nsm (f := e) hh
  obtain ⟨m, h1, h2, -, em⟩ := min_nI (a := a) (b := e h) ha (by omega)
  have ep : paid h (nI a) σ = nI m := by
    unfold paid
    rw [A h hh]
    exact em
  have e3 : ∀ j, chgF nP h (nI a) σ 3 j = wst σ 3 h (nI (e h - m)) 3 j := fun j => by
    rw [chg_c1 (by omega) (by decide) (by decide) (by decide)]
    unfold chg1
    rw [wst_f (by decide), ep, A h hh, pk_sub h2]
    by_cases q : j = h
    · subst q; rw [wst_s, wst_s]
    · rw [wst_i q, wst_i q, wst_i q]
  have e53 : chgF nP h (nI a) σ 53 0 = nI (c + m) := by
    rw [chg_c1 (by omega) (by decide) (by decide) (by decide)]
    unfold chg1
    rw [wst_s, ep, b, nI_add]
  refine ⟨fun j => if j = h then e h - m else e j, c + m, fun j hj => ?_, e53, ?_⟩
  · rw [e3]
    dsimp only
    by_cases q : j = h
    · subst q
      rw [wst_s, if_pos rfl]
    · rw [wst_i q, if_neg q]
      exact A j hj
  · have z := nsm_one (f := e) (y := e h - m) hh
    omega
theorem EG.hnd (he : EG nH T σ) (hv : Inv nH nP σ) (hp : p < nP) (hT : T < 2 ^ 31) : EG nH T (hndF nP p d σ).1 := by
  have hP := hv.2.1
  unfold hndF
  split
  · exact he
  · rename_i q
    rcases hv.oKey hp with e | ⟨k, hk, e⟩
    · exact absurd (Or.inl e) q
    · have ek : (σ 25 p).toNatClampNeg = k := by rw [e]; exact nI_clamp (by have := hv.1; omega)
      rw [ek]
      split
      · split
        · exact (he.put (by decide) (by decide)).chg (a := 3) hP hk hT (by omega)
        · exact he.put (by decide) (by decide)
      · exact he.chg (a := 3) hP hk hT (by omega)
theorem EG.opn (he : EG nH T σ) (hv : Inv nH nP σ) (hp : p < nP) (hT : T < 2 ^ 31) : EG nH T (opnF nP p σ).1 := by
  unfold opnF
  split
  · rename_i h
    have h0 : EG nH T (trnF p σ) := he.put (by decide) (by decide)
    have h1 := h0.hnd (hv.oTrn h) hp (d := dtyH σ p) hT
    split
    · exact ((h1.put (by decide) (by decide)).put (by decide) (by decide)).put (by decide) (by decide)
    · exact h1
  · exact he
theorem EG.key (he : EG nH T σ) (hv : Inv nH nP σ) (hp : p < nP) (hT : T < 2 ^ 31) : EG nH T (keyF nP p σ) := by
  have h1 : Inv nH nP (wst (wst σ 31 p 0) 32 p 0) := (hv.free (by omega)).free (by omega)
  have h2 : EG nH T (opnF nP p (wst (wst σ 31 p 0) 32 p 0)).1 := ((he.put (by decide) (by decide)).put (by decide) (by decide)).opn h1 hp hT
  unfold keyF
  split
  · exact h2.put (by decide) (by decide)
  · exact h2
theorem EG.dr (he : EG nH T σ) (hP : nP ≤ 3) (hh : h < nH) (hT : T < 2 ^ 31) : EG nH T (drF nP h q x σ) := by
  have h1 : ∀ y, EG nH T (dr1 q y σ) := fun y => ((he.put (by decide) (by decide)).put (by decide) (by decide)).put (by decide) (by decide)
  unfold drF
  split
  · exact he
  · split
    · exact h1 _
    · exact ((((h1 _).put (by decide) (by decide)).put (by decide) (by decide)).put (by decide) (by decide)).chg (a := 5) hP hh hT (by omega)
theorem EG.dri (he : EG nH T σ) (hP : nP ≤ 3) (hh : h < nH) (hT : T < 2 ^ 31) : ∀ k, EG nH T (drI nP h k (σ, x)).1
  | 0 => he
  | k + 1 => (EG.dri he hP hh hT k).dr hP hh hT
theorem EG.drw (he : EG nH T σ) (hP : nP ≤ 3) (hh : h < nH) (hT : T < 2 ^ 31) : EG nH T (drwF nP h σ) := by
  unfold drwF
  split
  · exact (he.dri hP hh hT nP).put (by decide) (by decide)
  · exact he
theorem EG.mnd (he : EG nH T σ) (hT : T < 2 ^ 31) : EG nH T (mndF p σ) := by
  have hw : EG nH T (w1F p σ) := he.same (fun h => w1_f (by decide)) (w1_f (by decide))
  unfold mndF wrkF
  split
  · exact he
  · split
    · rename_i q
      obtain ⟨e, c, A, b, g⟩ := he
      have hc : 10 ≤ c := by
        have h10 := q.2
        rw [b] at h10
        exact (nI_leI (a := 10) (b := c) (by omega) (by omega)).mp h10
      refine ⟨e, c - 10, fun j hj => ?_, ?_, by omega⟩
      · rw [wst_f (by decide), wst_f (by decide), wst_f (by decide), wst_f (by decide), w1_f (by decide)]
        exact A j hj
      · rw [wst_f (by decide), wst_f (by decide), wst_f (by decide), wst_s, b]
        exact pk_sub (a := c) (b := 10) hc
    · exact hw
theorem itn_shrH3 {E : Int32} : ∀ n j, itn (shrH E) n σ 3 j = if j < n ∧ σ 4 j = 0 then σ 3 j + E else σ 3 j
  | 0, j => by
    rw [if_neg (fun k => absurd k.1 (by omega))]
    rfl
  | n + 1, j => by
    have ih := itn_shrH3 (E := E) n j
    have e4 : itn (shrH E) n σ 4 n = σ 4 n := shr_4
    rw [itn_s]
    generalize itn (shrH E) n σ = y at ih e4 ⊢
    unfold shrH
    by_cases z : j = n
    · subst z
      rw [if_neg (fun k => absurd k.1 (by omega))] at ih
      rw [e4]
      by_cases w : σ 4 j = 0
      · rw [if_pos w, if_pos ⟨by omega, w⟩, wst_s, ih]
      · rw [if_neg w, if_neg (fun k => w k.2), ih]
    · have key : (if y 4 n = 0 then wst y 3 n (y 3 n + E) else y) 3 j = y 3 j := by
        split
        · exact wst_i z
        · rfl
      rw [key, ih]
      by_cases w : j < n
      · by_cases v : σ 4 j = 0
        · rw [if_pos ⟨w, v⟩, if_pos ⟨by omega, v⟩]
        · rw [if_neg (fun k => v k.2), if_neg (fun k => v k.2)]
      · rw [if_neg (fun k => w k.1), if_neg (fun k => absurd k.1 (by omega))]
theorem EG.shr (he : EG nH T σ) (hH : nH ≤ 10) (hT : T < 2 ^ 31) : EG nH T (shrF nH σ) := by
  obtain ⟨e, c, A, b, g⟩ := id he
  unfold shrF
  split
  · exact he
  · rename_i q
    have eu : unm σ nH = nI (nsm (fun h => if σ 4 h = 0 then 1 else 0) nH) := sm_nI (fun k _ => by split <;> rfl)
    have hu1 : nsm (fun h => if σ 4 h = 0 then 1 else 0) nH ≤ 1 * nH := nsm_le (fun k _ => by split <;> omega)
    have hc : ¬ c ≤ 20 := fun z => q (Or.inr (Or.inl (by rw [b]; exact (nI_leI (a := c) (b := 20) (by omega) (by omega)).mpr z)))
    have hu0 : ¬ nsm (fun h => if σ 4 h = 0 then 1 else 0) nH = 0 := fun z => q (Or.inr (Or.inr (by rw [eu, z]; rfl)))
    generalize hu : nsm (fun h => if σ 4 h = 0 then 1 else 0) nH = u at eu hu1 hu0
    have eE : eachF nH σ = nI ((c - 20) / u) := by
      unfold eachF
      rw [b, eu, show nI c - 20 = nI (c - 20) from pk_sub (a := c) (b := 20) (by omega)]
      exact pk_div (by omega) (by omega) (by omega)
    have hEu : (c - 20) / u * u ≤ c - 20 := Nat.div_mul_le_self _ _
    rw [eE, eu]
    generalize (c - 20) / u = E at hEu ⊢
    refine ⟨fun j => e j + E * (if σ 4 j = 0 then 1 else 0), c - E * u, fun j hj => ?_, ?_, ?_⟩
    · rw [wst_f (by decide), itn_shrH3]
      dsimp only
      by_cases w : σ 4 j = 0
      · rw [if_pos ⟨hj, w⟩, A j hj, nI_add, if_pos w, Nat.mul_one]
      · rw [if_neg (fun k => w k.2), A j hj, if_neg w, Nat.mul_zero, Nat.add_zero]
    · rw [wst_s, b, pk_mul, pk_sub (by omega)]
    · have s1 := nsm_add (f := e) (g := fun j => E * (if σ 4 j = 0 then 1 else 0)) (n := nH)
      have s2 := nsm_mul (f := fun j => if σ 4 j = 0 then 1 else 0) (c := E) (n := nH)
      rw [hu] at s2
      omega
theorem EG.fin (he : EG nH T σ) : EG nH T (endF nH σ) := he.same (fun h => end_f (by decide) (by decide)) (end_f (by decide) (by decide))
theorem EG.day (he : EG nH T σ) (hv : Inv nH nP σ) (h1 : ∀ h, h < nH → ∃ k, k ≤ 9 ∧ σ 1 h = nI k) (hT : T + 90 < 2 ^ 31) : EG nH (T + 90) (dayF nH nP σ) := by
  have hH := hv.1
  have hP := hv.2.1
  have v1 : Inv nH nP (itn layF nH σ) := itn_inv hv (fun _ _ _ hx => hx.oLay)
  have a1 : EG nH (T + 90) (itn layF nH σ) := (he.lays h1 nH (Nat.le_refl _)).mono (by omega)
  have a2 := itn_inv (P := fun x => Inv nH nP x ∧ EG nH (T + 90) x) (f := keyF nP) (n := nP) (σ := itn layF nH σ) ⟨v1, a1⟩ (fun k hk x hx => ⟨hx.1.oKeyF hk, hx.2.key hx.1 hk hT⟩)
  have a3 := itn_inv (P := fun x => EG nH (T + 90) x) (f := drwF nP) (n := nH) a2.2 (fun k hk x hx => hx.drw hP hk hT)
  have a4 := itn_inv (P := fun x => EG nH (T + 90) x) (f := mndF) (n := nP) a3 (fun k hk x hx => hx.mnd hT)
  have a5 := itn_inv (P := fun x => EG nH (T + 90) x) (f := filF) (n := nP) a4 (fun k hk x hx => hx.put (by decide) (by decide))
  exact (a5.shr hH hT).fin
end EGs
end
section
/-! ===== p22: the wells, what is drawn, the thirst ===== -/
/-- what is in a well and what was drawn from it are no more than K -/
def WT (nP : Nat) (K : Nat → Nat) (τ : wS) : Prop := ∀ p, p < nP → ∃ L X, L ≤ 200 ∧ L + X ≤ K p ∧ τ 20 p = nI L ∧ τ 29 p = nI X
def TH (nH : Nat) (D : Nat → Nat) (τ : wS) : Prop := ∀ h, h < nH → ∃ k, k ≤ D h ∧ τ 8 h = nI k
section WTs
variable {nH nP h p q d n r : Nat} {σ τ : wS} {x : Int32} {K D : Nat → Nat}
theorem WT.same (hw : WT nP K σ) (h1 : ∀ p, p < nP → τ 20 p = σ 20 p) (h2 : ∀ p, p < nP → τ 29 p = σ 29 p) : WT nP K τ := fun p hp => by
  obtain ⟨L, X, a, b, c, g⟩ := hw p hp
  exact ⟨L, X, a, b, (h1 p hp).trans c, (h2 p hp).trans g⟩
theorem WT.put {f i : Nat} (hw : WT nP K σ) (h1 : f ≠ 20) (h2 : f ≠ 29) : WT nP K (wst σ f i x) := hw.same (fun p _ => wst_f (Ne.symm h1)) (fun p _ => wst_f (Ne.symm h2))
theorem WT.chg {e : Int32} (hw : WT nP K σ) : WT nP K (chgF nP h e σ) := hw.same (fun p _ => chg_f (by unfold nCh; omega)) (fun p _ => chg_f (by unfold nCh; omega))
theorem TH.same (ht : TH nH D σ) (h1 : ∀ h, h < nH → τ 8 h = σ 8 h) : TH nH D τ := fun h hh => by
  obtain ⟨k, a, b⟩ := ht h hh
  exact ⟨k, a, (h1 h hh).trans b⟩
theorem TH.mono {E : Nat → Nat} (ht : TH nH D σ) (h : ∀ h, h < nH → D h ≤ E h) : TH nH E σ := fun j hj => by
  obtain ⟨k, a, b⟩ := ht j hj
  exact ⟨k, Nat.le_trans a (h j hj), b⟩
theorem TH.put {f i : Nat} (ht : TH nH D σ) (h1 : f ≠ 8) : TH nH D (wst σ f i x) := ht.same (fun h _ => wst_f (Ne.symm h1))
theorem WT.own (hw : WT nP K σ) (hq : q < nP) (hr : r < 2 ^ 31) : ∃ o L X, o ≤ r ∧ o ≤ L ∧ ownF q (nI r) σ = nI o ∧ L ≤ 200 ∧ L + X ≤ K q ∧ σ 20 q = nI L ∧ σ 29 q = nI X := by
  obtain ⟨L, X, a, b, c, g⟩ := hw q hq
  unfold ownF
  split
  · exact ⟨0, L, X, by omega, by omega, rfl, a, b, c, g⟩
  · obtain ⟨m, h1, h2, -, em⟩ := min_nI (a := r) (b := L) hr (by omega)
    exact ⟨m, L, X, h1, h2, by rw [c]; exact em, a, b, c, g⟩
theorem WT.dr (hw : WT nP K σ) (hq : q < nP) (hr : r < 2 ^ 31) : WT nP K (drF nP h q (nI r) σ) := by
  obtain ⟨o, L, X, h1, h2, eo, h3, h4, e20, e29⟩ := hw.own hq hr
  have hd : WT nP K (dr1 q (nI o) σ) := fun p hp => by
    unfold dr1
    by_cases z : p = q
    · subst z
      refine ⟨L - o, X + o, by omega, by omega, ?_, ?_⟩
      · rw [wst_f (by decide), wst_f (by decide), wst_s, e20, pk_sub h2]
      · rw [wst_f (by decide), wst_s, e29, nI_add]
    · obtain ⟨L', X', a, b, c, g⟩ := hw p hp
      exact ⟨L', X', a, b, by rw [wst_f (by decide), wst_f (by decide), wst_i z]; exact c, by rw [wst_f (by decide), wst_i z]; exact g⟩
  unfold drF
  rw [eo]
  split
  · exact hw
  · split
    · exact hd
    · exact (((hd.put (by decide) (by decide)).put (by decide) (by decide)).put (by decide) (by decide)).chg
theorem WT.dri (hw : WT nP K σ) (hr : r < 2 ^ 31) : ∀ k, k ≤ nP → WT nP K (drI nP h k (σ, nI r)).1 ∧ ∃ s, s ≤ r ∧ (drI nP h k (σ, nI r)).2 = nI s
  | 0, _ => ⟨hw, r, Nat.le_refl r, rfl⟩
  | k + 1, hk => by
    obtain ⟨a, s, hs, e⟩ := WT.dri hw hr k (by omega)
    show WT nP K (drF nP h (fq nP h k (drI nP h k (σ, nI r)).1) (drI nP h k (σ, nI r)).2 (drI nP h k (σ, nI r)).1) ∧ ∃ s, s ≤ r ∧ (drI nP h k (σ, nI r)).2 - ownF (fq nP h k (drI nP h k (σ, nI r)).1) (drI nP h k (σ, nI r)).2 (drI nP h k (σ, nI r)).1 = nI s
    have hq : fq nP h k (drI nP h k (σ, nI r)).1 < nP := Nat.mod_lt _ (by omega)
    rw [e]
    obtain ⟨o, L, X, h1, h2, eo, -⟩ := a.own hq (show s < 2 ^ 31 by omega)
    exact ⟨a.dr hq (by omega), s - o, by omega, by rw [eo, pk_sub h1]⟩
/-- a house draws: the wells keep their bound, its thirst grows by what it still needs -/
theorem WT.drw {l9 : Nat} (hw : WT nP K σ) (ht : TH nH D σ) (hl : l9 ≤ 9) (e0 : σ 0 h = nI l9) (hP : nP ≤ 3) : WT nP K (drwF nP h σ) ∧ TH nH (fun j => if j = h then D j + 11 else D j) (drwF nP h σ) := by
  have en : ndF σ h = nI (2 + l9) := by unfold ndF; rw [e0]; exact nI_add 2 l9
  unfold drwF
  split
  · rw [en]
    obtain ⟨a, s, hs, e⟩ := hw.dri (h := h) (r := 2 + l9) (by omega) nP (Nat.le_refl _)
    have e8 : ∀ j, (drI nP h nP (σ, nI (2 + l9))).1 8 j = σ 8 j := fun j => drI_f (by unfold nCh; omega) (by omega)
    refine ⟨a.put (by decide) (by decide), fun j hj => ?_⟩
    obtain ⟨k, hk, ek⟩ := ht j hj
    by_cases z : j = h
    · subst z
      exact ⟨k + s, by dsimp only; rw [if_pos rfl]; omega, by rw [wst_s, e8, ek, e, nI_add]⟩
    · exact ⟨k, by dsimp only; rw [if_neg z]; exact hk, by rw [wst_i z, e8, ek]⟩
  · exact ⟨hw, ht.mono (fun j _ => by split <;> omega)⟩
theorem WT.drws (hw : WT nP K σ) (ht : TH nH D σ) (hl : ∀ h, h < nH → ∃ k, k ≤ 9 ∧ σ 0 h = nI k) (hP : nP ≤ 3) : ∀ n, n ≤ nH → WT nP K (itn (drwF nP) n σ) ∧ TH nH (fun j => if j < n then D j + 11 else D j) (itn (drwF nP) n σ)
  | 0, _ => ⟨hw, ht.mono (fun j _ => by rw [if_neg (by omega)]; exact Nat.le_refl _)⟩
  | n + 1, hn => by
    obtain ⟨a, b⟩ := WT.drws hw ht hl hP n (by omega)
    obtain ⟨k, hk, e⟩ := hl n (by omega)
    have e0 : itn (drwF nP) n σ 0 n = nI k := (itn_col (fun j x => drw_f (by unfold nCh; omega) (by omega) (by decide))).trans e
    obtain ⟨c, g⟩ := a.drw (h := n) b hk e0 hP
    rw [itn_s]
    refine ⟨c, g.mono (fun j _ => ?_)⟩
    by_cases z : j = n
    · rw [if_pos z, if_neg (by omega), if_pos (by omega)]
      exact Nat.le_refl _
    · rw [if_neg z]
      by_cases w : j < n
      · rw [if_pos w, if_pos (by omega)]
        exact Nat.le_refl _
      · rw [if_neg w, if_neg (by omega)]
        exact Nat.le_refl _
/-- the inflow comes -/
theorem WT.fils {I : Nat → Nat} (hw : WT nP K σ) (hi : ∀ p, p < nP → I p ≤ 50 ∧ σ 21 p = nI (I p)) : ∀ n, n ≤ nP → WT nP (fun p => if p < n then K p + I p else K p) (itn filF n σ)
  | 0, _ => fun p hp => by
    obtain ⟨L, X, a, b, c, g⟩ := hw p hp
    exact ⟨L, X, a, by dsimp only; rw [if_neg (by omega)]; exact b, c, g⟩
  | n + 1, hn => fun p hp => by
    obtain ⟨L, X, a, b, c, g⟩ := WT.fils hw hi n (by omega) p hp
    have e21 : itn filF n σ 21 n = nI (I n) := (itn_col (fun j x => fil_f (by decide))).trans (hi n (by omega)).2
    have h50 := (hi n (by omega)).1
    dsimp only at b
    rw [itn_s]
    generalize itn filF n σ = y at c g e21 ⊢
    unfold filF
    by_cases z : p = n
    · subst z
      rw [if_neg (by omega)] at b
      obtain ⟨m, h1, h2, -, em⟩ := min_nI (a := 200) (b := L + I p) (by omega) (by omega)
      exact ⟨m, X, h1, by dsimp only; rw [if_pos (by omega)]; omega, by rw [wst_s, c, e21, nI_add]; exact em, by rw [wst_f (by decide)]; exact g⟩
    · refine ⟨L, X, a, ?_, by rw [wst_i z]; exact c, by rw [wst_f (by decide)]; exact g⟩
      dsimp only
      by_cases w : p < n
      · rw [if_pos w] at b
        rw [if_pos (by omega)]
        exact b
      · rw [if_neg w] at b
        rw [if_neg (by omega)]
        exact b
/-- a day of the wells and of the thirst -/
theorem WT.day {I : Nat → Nat} (hw : WT nP K σ) (ht : TH nH D σ) (hl : ∀ h, h < nH → ∃ k, k ≤ 9 ∧ σ 0 h = nI k) (hi : ∀ p, p < nP → I p ≤ 50 ∧ σ 21 p = nI (I p)) (hP : nP ≤ 3) : WT nP (fun p => K p + I p) (dayF nH nP σ) ∧ TH nH (fun j => D j + 11) (dayF nH nP σ) := by
  have e0 : ∀ f j, nCh nP f → (f ≠ 9 ∧ f ≠ 25 ∧ f ≠ 28 ∧ f ≠ 7 ∧ f ≠ 31 ∧ f ≠ 32) → f ≠ 3 → itn (keyF nP) nP (itn layF nH σ) f j = σ f j := fun f j h1 h2 h3 => by
    rw [itn_col (fun k x => key_f h1 h2), itn_col (fun k x => lay_f h3)]
  have w1 : WT nP K (itn (keyF nP) nP (itn layF nH σ)) := hw.same (fun p _ => e0 20 p (by unfold nCh; omega) (by omega) (by decide)) (fun p _ => e0 29 p (by unfold nCh; omega) (by omega) (by decide))
  have t1 : TH nH D (itn (keyF nP) nP (itn layF nH σ)) := ht.same (fun h _ => e0 8 h (by unfold nCh; omega) (by omega) (by decide))
  obtain ⟨w2, t2⟩ := w1.drws t1 (fun h hh => by
    obtain ⟨k, hk, e⟩ := hl h hh
    exact ⟨k, hk, (e0 0 h (by unfold nCh; omega) (by omega) (by decide)).trans e⟩) hP nH (Nat.le_refl _)
  have w3 : WT nP K (itn mndF nP (itn (drwF nP) nH (itn (keyF nP) nP (itn layF nH σ)))) := w2.same (fun p _ => itn_col (fun k x => mnd_f (by omega))) (fun p _ => itn_col (fun k x => mnd_f (by omega)))
  have w4 := w3.fils (I := I) (fun p hp => ⟨(hi p hp).1, by
    rw [itn_col (fun k x => mnd_f (by omega)), itn_col (fun k x => drw_f (by unfold nCh; omega) (by omega) (by decide)), e0 21 p (by unfold nCh; omega) (by omega) (by decide)]
    exact (hi p hp).2⟩) nP (Nat.le_refl _)
  refine ⟨fun p hp => ?_, fun h hh => ?_⟩
  · obtain ⟨L, X, a, b, c, g⟩ := w4 p hp
    dsimp only at b
    rw [if_pos hp] at b
    unfold dayF
    exact ⟨L, X, a, b, by rw [end_f (by decide) (by decide), shr_f (by decide) (by decide)]; exact c, by rw [end_f (by decide) (by decide), shr_f (by decide) (by decide)]; exact g⟩
  · obtain ⟨k, a, b⟩ := t2 h hh
    dsimp only at a
    rw [if_pos hh] at a
    unfold dayF
    exact ⟨k, a, by rw [end_f (by decide) (by decide), shr_f (by decide) (by decide), itn_col (fun k x => fil_f (by decide)), itn_col (fun k x => mnd_f (by omega))]; exact b⟩
end WTs
end
section
/-! ===== p22: duties are open days; no roster has a house with three marks ===== -/
def DU (nH nP : Nat) (τ : wS) : Prop := sm (fun p => τ 28 p) nP = sm (fun h => τ 7 h) nH
def RM (nP : Nat) (τ : wS) : Prop := ∀ p, p < nP → ∀ k, k < sz τ p → ¬ τ 4 (cl (τ (40 + p) k)) = 3
section DUs
variable {nH nP h p q d n : Nat} {σ τ : wS} {x e : Int32}
theorem DU.same (hd : DU nH nP σ) (h1 : ∀ p, p < nP → τ 28 p = σ 28 p) (h2 : ∀ h, h < nH → τ 7 h = σ 7 h) : DU nH nP τ :=
  (sm_congr (fun k hk => h1 k hk)).trans (hd.trans (sm_congr (fun k hk => (h2 k hk).symm)))
theorem DU.put {f i : Nat} (hd : DU nH nP σ) (h1 : f ≠ 28) (h2 : f ≠ 7) : DU nH nP (wst σ f i x) := hd.same (fun p _ => wst_f (Ne.symm h1)) (fun p _ => wst_f (Ne.symm h2))
theorem DU.opy (hd : DU nH nP σ) (hp : p < nP) (hh : h < nH) : DU nH nP (opnY p h σ) := by
  have a : sm (fun k => opnY p h σ 28 k) nP = sm (fun k => σ 28 k) nP + 1 := by
    rw [← sm_upd (σ := σ) (f := 28) (y := 1) hp]
    refine sm_congr (fun k _ => ?_)
    unfold opnY
    rw [wst_f (by decide)]
    unfold wst
    simp
  have b : sm (fun k => opnY p h σ 7 k) nH = sm (fun k => σ 7 k) nH + 1 := by
    rw [← sm_upd (σ := σ) (f := 7) (y := 1) hh]
    refine sm_congr (fun k _ => ?_)
    unfold opnY
    by_cases z : k = h
    · subst z; rw [wst_s, wst_s]
    · rw [wst_i z, wst_i z, wst_f (by decide), wst_f (by decide)]
  unfold DU at hd ⊢
  rw [a, b, hd]
theorem DU.hnd (hd : DU nH nP σ) : DU nH nP (hndF nP p d σ).1 := hd.same (fun q _ => hnd_f (by unfold nCh; omega) (by decide)) (fun q _ => hnd_f (by unfold nCh; omega) (by decide))
theorem DU.opn (hd : DU nH nP σ) (hv : Inv nH nP σ) (hp : p < nP) : DU nH nP (opnF nP p σ).1 := by
  unfold opnF
  split
  · rename_i h
    have h0 : DU nH nP (trnF p σ) := hd.put (by decide) (by decide)
    have h1 := h0.hnd (p := p) (d := dtyH σ p)
    split
    · exact h1.opy hp (hv.oDtyH hp h).1
    · exact h1
  · exact hd
theorem DU.key (hd : DU nH nP σ) (hv : Inv nH nP σ) (hp : p < nP) : DU nH nP (keyF nP p σ) := by
  have h1 : Inv nH nP (wst (wst σ 31 p 0) 32 p 0) := (hv.free (by omega)).free (by omega)
  have h2 := ((hd.put (f := 31) (i := p) (x := 0) (by decide) (by decide)).put (f := 32) (i := p) (x := 0) (by decide) (by decide)).opn h1 hp
  unfold keyF
  split
  · exact h2.put (by decide) (by decide)
  · exact h2
theorem DU.day (hd : DU nH nP σ) (hv : Inv nH nP σ) : DU nH nP (dayF nH nP σ) := by
  have v1 : Inv nH nP (itn layF nH σ) := itn_inv hv (fun _ _ _ hx => hx.oLay)
  have a1 : DU nH nP (itn layF nH σ) := hd.same (fun p _ => itn_col (fun k x => lay_f (by decide))) (fun p _ => itn_col (fun k x => lay_f (by decide)))
  have a2 := itn_inv (P := fun x => Inv nH nP x ∧ DU nH nP x) (f := keyF nP) (n := nP) ⟨v1, a1⟩ (fun k hk x hx => ⟨hx.1.oKeyF hk, hx.2.key hx.1 hk⟩)
  refine a2.2.same (fun p _ => ?_) (fun p _ => ?_)
  · unfold dayF
    rw [end_f (by decide) (by decide), shr_f (by decide) (by decide), itn_col (fun k x => fil_f (by decide)), itn_col (fun k x => mnd_f (by omega)), itn_col (fun k x => drw_f (by unfold nCh; omega) (by omega) (by decide))]
  · unfold dayF
    rw [end_f (by decide) (by decide), shr_f (by decide) (by decide), itn_col (fun k x => fil_f (by decide)), itn_col (fun k x => mnd_f (by omega)), itn_col (fun k x => drw_f (by unfold nCh; omega) (by omega) (by decide))]
/-! what a strike leaves on a roster -/
theorem strk_mem {g k : Nat} (hs : sz σ p ≤ 10) (hg : g < sz σ p) (hk : k < sz (strkF p g σ) p) : ∃ k', k' < sz σ p ∧ k' ≠ g ∧ strkF p g σ (40 + p) k = σ (40 + p) k' := by
  have e1 : sz (strkF p g σ) p = sz σ p - 1 := by
    show (strkF p g σ 26 p).toNatClampNeg = _
    unfold strkF
    rw [wst_f (by decide), wst_s]
    exact nI_clamp (by omega)
  have e2 : strkF p g σ (40 + p) k = shF p g (sz σ p - 1) σ (40 + p) k := by
    unfold strkF
    rw [wst_f (by omega), wst_f (by omega)]
  rw [e1] at hk
  rw [e2]
  by_cases z : g ≤ k
  · exact ⟨k + 1, by omega, by omega, shF_hi z (by omega)⟩
  · exact ⟨k, by omega, by omega, shF_lo (by omega)⟩
theorem strkH_mem {k : Nat} (hv : Inv nH nP σ) (hp : p < nP) (hk : k < sz (strkH h p σ) p) : ∃ k', k' < sz σ p ∧ strkH h p σ (40 + p) k = σ (40 + p) k' ∧ ¬ σ (40 + p) k' = nI h := by
  obtain ⟨-, -, -, -, e5, -, i1, i2⟩ := hv.2.2.2.2.2 p hp
  unfold strkH at hk ⊢
  by_cases z : plc (σ (40 + p)) (nI h) (sz σ p) < sz σ p
  · rw [if_pos z] at hk ⊢
    obtain ⟨k', a, b, c⟩ := strk_mem e5.1 z hk
    have hit := of_decide_eq_true (fnd_lt (fun k => decide (σ (40 + p) k = nI h)) (sz σ p) z).1
    refine ⟨k', a, c, fun w => ?_⟩
    have e9 : σ (40 + p) (plc (σ (40 + p)) (nI h) (sz σ p)) = σ (40 + p) k' := hit.trans w.symm
    rcases Nat.lt_or_gt_of_ne b with y | y
    · exact i2 _ _ y z e9.symm
    · exact i2 _ _ y a e9
  · rw [if_neg z] at hk ⊢
    exact ⟨k, hk, rfl, plc_all z k hk⟩
theorem strks_mem (hv : Inv nH nP σ) : ∀ n, n ≤ nP → ∀ p, p < nP → ∀ k, k < sz (itn (strkH h) n σ) p → ∃ k', k' < sz σ p ∧ itn (strkH h) n σ (40 + p) k = σ (40 + p) k' ∧ (p < n → ¬ σ (40 + p) k' = nI h)
  | 0, _, p, hp, k, hk => ⟨k, hk, rfl, fun z => absurd z (by omega)⟩
  | n + 1, hn, p, hp, k, hk => by
    have ih := strks_mem hv n (by omega) p hp
    have hvn : Inv nH nP (itn (strkH h) n σ) := itn_inv hv (fun j hj x hx => hx.oStrkH (by omega))
    rw [itn_s] at hk ⊢
    generalize itn (strkH h) n σ = y at ih hvn hk ⊢
    by_cases z : p = n
    · subst z
      obtain ⟨k1, a, b, c⟩ := strkH_mem hvn hp hk
      obtain ⟨k2, a2, b2, -⟩ := ih k1 a
      exact ⟨k2, a2, b.trans b2, fun _ => by rw [← b2]; exact c⟩
    · have e1 : sz (strkH h n y) p = sz y p := by unfold sz; rw [strkH_q z]
      have e2 : strkH h n y (40 + p) k = y (40 + p) k := strkH_f (by omega) (by omega) (by omega)
      rw [e1] at hk
      obtain ⟨k2, a2, b2, c2⟩ := ih k hk
      exact ⟨k2, a2, e2.trans b2, fun w => c2 (by omega)⟩
theorem RM.same (hr : RM nP σ) (h1 : ∀ h, τ 4 h = σ 4 h) (h2 : ∀ p, p < nP → τ 26 p = σ 26 p ∧ ∀ k, τ (40 + p) k = σ (40 + p) k) : RM nP τ := fun p hp k hk => by
  obtain ⟨a, b⟩ := h2 p hp
  unfold sz at hk
  rw [a] at hk
  rw [b k, h1]
  exact hr p hp k hk
theorem RM.put {f i : Nat} (hr : RM nP σ) (h1 : f ≠ 4) (h2 : f ≠ 26) (h3 : f < 40 ∨ 40 + nP ≤ f) : RM nP (wst σ f i x) :=
  hr.same (fun h => wst_f (Ne.symm h1)) (fun p hp => ⟨wst_f (Ne.symm h2), fun k => wst_f (by omega)⟩)
theorem RM.chg (hr : RM nP σ) (hv : Inv nH nP σ) (hh : h < nH) : RM nP (chgF nP h e σ) := by
  have hP := hv.2.1
  have hH := hv.1
  have h1 : RM nP (chg1 h e σ) := ((hr.put (by decide) (by decide) (by omega)).put (by decide) (by decide) (by omega)).put (by decide) (by decide) (by omega)
  have v1 : Inv nH nP (chg1 h e σ) := hv.oChg1
  obtain ⟨-, -, -, km, hkm, e4⟩ := hv.2.2.2.2.1 h hh
  /- a member that isn't h keeps its marks -/
  have mem : ∀ (ρ : wS) (y : Int32) (p k : Nat), Inv nH nP ρ → RM nP ρ → p < nP → k < sz ρ p → (¬ ρ (40 + p) k = nI h ∨ ¬ y = 3) → ¬ wst ρ 4 h y 4 (cl (ρ (40 + p) k)) = 3 := fun ρ y p k hρ hrρ hp hk hor => by
    obtain ⟨j, hj, ej⟩ := (hρ.2.2.2.2.2 p hp).2.2.2.2.2.2.1 k hk
    have old := hrρ p hp k hk
    have ecl : cl (ρ (40 + p) k) = j := by rw [ej]; exact nI_clamp (by omega)
    rw [ecl] at old ⊢
    by_cases z : j = h
    · subst z
      rw [wst_s]
      rcases hor with w | w
      · exact absurd ej w
      · exact w
    · rw [wst_i z]
      exact old
  unfold chgF
  split
  · rename_i q
    have hk3 : km < 3 := by
      have := q.2
      rw [e4] at this
      exact (nI_ltI (b := 3) (by omega) (by omega)).mp this
    have v2 : Inv nH nP (wst (chg1 h e σ) 4 h (σ 4 h + 1)) := by
      rw [e4, nI_1]
      exact v1.set4 (by omega)
    have es : ∀ p, sz (wst (chg1 h e σ) 4 h (σ 4 h + 1)) p = sz (chg1 h e σ) p := fun p => by unfold sz; rw [wst_f (by decide)]
    split
    · intro p hp k hk
      obtain ⟨k', a, b, c⟩ := strks_mem (h := h) v2 nP (Nat.le_refl _) p hp k hk
      have c' := c hp
      rw [es] at a
      rw [b, strks_f (by omega) (by decide) (by decide)]
      rw [wst_f (f := 4) (g := 40 + p) (by omega)] at c' ⊢
      exact mem _ _ p k' v1 h1 hp a (Or.inl c')
    · rename_i q3
      intro p hp k hk
      rw [es] at hk
      rw [wst_f (f := 4) (g := 40 + p) (by omega)]
      exact mem _ _ p k v1 h1 hp hk (Or.inr q3)
  · exact h1
theorem RM.hnd (hr : RM nP σ) (hv : Inv nH nP σ) (hp : p < nP) : RM nP (hndF nP p d σ).1 := by
  unfold hndF
  split
  · exact hr
  · rename_i q
    rcases hv.oKey hp with e | ⟨k, hk, e⟩
    · exact absurd (Or.inl e) q
    · have ek : (σ 25 p).toNatClampNeg = k := by rw [e]; exact nI_clamp (by have := hv.1; omega)
      rw [ek]
      split
      · split
        · exact (hr.put (by decide) (by decide) (by omega)).chg (hv.free (by omega)) hk
        · exact hr.put (by decide) (by decide) (by omega)
      · exact hr.chg hv hk
theorem RM.opn (hr : RM nP σ) (hv : Inv nH nP σ) (hp : p < nP) : RM nP (opnF nP p σ).1 := by
  unfold opnF
  split
  · rename_i h
    have h0 : RM nP (trnF p σ) := hr.put (by decide) (by decide) (by omega)
    have h1 := h0.hnd (hv.oTrn h) hp (d := dtyH σ p)
    split
    · exact ((h1.put (by decide) (by decide) (by omega)).put (by decide) (by decide) (by omega)).put (by decide) (by decide) (by omega)
    · exact h1
  · exact hr
theorem RM.key (hr : RM nP σ) (hv : Inv nH nP σ) (hp : p < nP) : RM nP (keyF nP p σ) := by
  have h1 : Inv nH nP (wst (wst σ 31 p 0) 32 p 0) := (hv.free (by omega)).free (by omega)
  have h2 := ((hr.put (f := 31) (i := p) (x := 0) (by decide) (by decide) (by omega)).put (f := 32) (i := p) (x := 0) (by decide) (by decide) (by omega)).opn h1 hp
  unfold keyF
  split
  · exact h2.put (by decide) (by decide) (by omega)
  · exact h2
theorem RM.dr (hr : RM nP σ) (hv : Inv nH nP σ) (hh : h < nH) : RM nP (drF nP h q x σ) := by
  have h1 : ∀ y, RM nP (dr1 q y σ) := fun y => ((hr.put (by decide) (by decide) (by omega)).put (by decide) (by decide) (by omega)).put (by decide) (by decide) (by omega)
  unfold drF
  split
  · exact hr
  · split
    · exact h1 _
    · exact ((((h1 _).put (by decide) (by decide) (by omega)).put (by decide) (by decide) (by omega)).put (by decide) (by decide) (by omega)).chg hv.oBrk hh
theorem RM.dri (hr : RM nP σ) (hv : Inv nH nP σ) (hh : h < nH) : ∀ k, RM nP (drI nP h k (σ, x)).1
  | 0 => hr
  | k + 1 => (RM.dri hr hv hh k).dr (hv.oDrI hh k) hh
theorem RM.drw (hr : RM nP σ) (hv : Inv nH nP σ) (hh : h < nH) : RM nP (drwF nP h σ) := by
  unfold drwF
  split
  · exact (hr.dri hv hh nP).put (by decide) (by decide) (by omega)
  · exact hr
theorem RM.day (hr : RM nP σ) (hv : Inv nH nP σ) : RM nP (dayF nH nP σ) := by
  have hP := hv.2.1
  have v1 : Inv nH nP (itn layF nH σ) := itn_inv hv (fun _ _ _ hx => hx.oLay)
  have a1 : RM nP (itn layF nH σ) := hr.same (fun h => itn_col (fun k x => lay_f (by decide))) (fun p hp => ⟨itn_col (fun k x => lay_f (by decide)), fun j => itn_col (fun k x => lay_f (by omega))⟩)
  have a2 := itn_inv (P := fun x => Inv nH nP x ∧ RM nP x) (f := keyF nP) (n := nP) ⟨v1, a1⟩ (fun k hk x hx => ⟨hx.1.oKeyF hk, hx.2.key hx.1 hk⟩)
  have a3 := itn_inv (P := fun x => Inv nH nP x ∧ RM nP x) (f := drwF nP) (n := nH) a2 (fun k hk x hx => ⟨hx.1.oDrw hk, hx.2.drw hx.1 hk⟩)
  refine a3.2.same (fun h => ?_) (fun p hp => ⟨?_, fun j => ?_⟩)
  · unfold dayF
    rw [end_f (by decide) (by decide), shr_f (by decide) (by decide), itn_col (fun k x => fil_f (by decide)), itn_col (fun k x => mnd_f (by omega))]
  · unfold dayF
    rw [end_f (by decide) (by decide), shr_f (by decide) (by decide), itn_col (fun k x => fil_f (by decide)), itn_col (fun k x => mnd_f (by omega))]
  · unfold dayF
    rw [end_f (by omega) (by omega), shr_f (by omega) (by omega), itn_col (fun k x => fil_f (by omega)), itn_col (fun k x => mnd_f (by omega))]
end DUs
end
section
/-! ===== p22: what is foreseen comes: 'open' and 'broke today' of another village make no difference ===== -/
/-- the village, but 'open' and 'broke today' from pump k on are another's -/
def TK (k : Nat) (z σ : wS) : wS := fun f i => if (f = 31 ∨ f = 32) ∧ ¬ i < k then z f i else σ f i
section TKs
variable {nH nP h p q d n k f i : Nat} {σ z : wS} {x e : Int32}
theorem tk_r (h1 : f ≠ 31) (h2 : f ≠ 32) : TK k z σ f i = σ f i := if_neg (fun w => w.1.elim h1 h2)
theorem tk_k (h1 : i < k) : TK k z σ f i = σ f i := if_neg (fun w => w.2 h1)
theorem tk_w (hc : (f ≠ 31 ∧ f ≠ 32) ∨ i < k) : wst (TK k z σ) f i x = TK k z (wst σ f i x) := by
  funext g j
  unfold wst TK
  dsimp only
  by_cases a : g = f ∧ j = i
  · obtain ⟨rfl, rfl⟩ := a
    rw [if_pos ⟨rfl, rfl⟩, if_neg (by omega), if_pos ⟨rfl, rfl⟩]
  · rw [if_neg a, if_neg a]
theorem tk_wr (h1 : f ≠ 31) (h2 : f ≠ 32) : wst (TK k z σ) f i x = TK k z (wst σ f i x) := tk_w (Or.inl ⟨h1, h2⟩)
theorem tk_itn {F : Nat → wS → wS} : ∀ {n : Nat} {σ : wS}, (∀ j x, j < n → F j (TK k z x) = TK k z (F j x)) → itn F n (TK k z σ) = TK k z (itn F n σ)
  | 0, _, _ => rfl
  | n + 1, σ, h => by rw [itn_s, tk_itn (n := n) (fun j x hj => h j x (by omega)), h n _ (by omega), itn_s]
theorem tk_sz : sz (TK k z σ) p = sz σ p := by unfold sz; rw [tk_r (by decide) (by decide)]
theorem tk_tn : tn (TK k z σ) p = tn σ p := by unfold tn; rw [tk_r (by decide) (by decide)]
theorem tk_ro : TK k z σ (40 + p) = σ (40 + p) := funext fun j => tk_r (by omega) (by omega)
theorem tk_sh {g j : Nat} : shF p g j (TK k z σ) = TK k z (shF p g j σ) := by
  funext f i
  unfold shF TK
  dsimp only
  by_cases a : f = 40 + p ∧ g ≤ i ∧ i < j
  · rw [if_pos a, if_neg (by omega), if_neg (by omega), if_pos a]
  · rw [if_neg a, if_neg a]
theorem tk_lay : layF h (TK k z σ) = TK k z (layF h σ) := by
  unfold layF
  rw [tk_r (f := 6) (by decide) (by decide)]
  split
  · rw [tk_r (f := 3) (by decide) (by decide), tk_r (f := 1) (by decide) (by decide), tk_wr (by decide) (by decide)]
  · rfl
theorem tk_strkF {g : Nat} : strkF p g (TK k z σ) = TK k z (strkF p g σ) := by
  unfold strkF
  rw [tk_sz, tk_tn, tk_sh, tk_wr (by decide) (by decide), tk_wr (by decide) (by decide)]
theorem tk_strkH : strkH h p (TK k z σ) = TK k z (strkH h p σ) := by
  unfold strkH
  rw [tk_sz, tk_ro]
  split
  · exact tk_strkF
  · rfl
theorem tk_paid : paid h e (TK k z σ) = paid h e σ := by unfold paid; rw [tk_r (by decide) (by decide)]
theorem tk_chg1 : chg1 h e (TK k z σ) = TK k z (chg1 h e σ) := by
  unfold chg1
  rw [tk_paid, tk_r (f := 10) (by decide) (by decide), tk_r (f := 3) (by decide) (by decide), tk_r (f := 53) (by decide) (by decide), tk_wr (by decide) (by decide), tk_wr (by decide) (by decide), tk_wr (by decide) (by decide)]
theorem tk_chg : chgF nP h e (TK k z σ) = TK k z (chgF nP h e σ) := by
  unfold chgF
  rw [tk_paid, tk_r (f := 4) (by decide) (by decide), tk_chg1]
  split
  · split
    · rw [tk_wr (by decide) (by decide), tk_itn (fun j x _ => tk_strkH)]
    · rw [tk_wr (by decide) (by decide)]
  · rfl
theorem tk_hnd : hndF nP p d (TK k z σ) = (TK k z (hndF nP p d σ).1, (hndF nP p d σ).2) := by
  have o : ∀ f j, f ≠ 31 → f ≠ 32 → TK k z σ f j = σ f j := fun f j a b => tk_r a b
  unfold hndF
  simp only [o 25 _ (by decide) (by decide), o 6 _ (by decide) (by decide), o 9 _ (by decide) (by decide), o 2 _ (by decide) (by decide)]
  split
  · rfl
  · split
    · split
      · rw [tk_wr (by decide) (by decide), tk_chg]
      · rw [tk_wr (by decide) (by decide)]
    · rw [tk_chg]
theorem tk_dtyK : dtyK (TK k z σ) p = dtyK σ p := by
  have o : ∀ f j, f ≠ 31 → f ≠ 32 → TK k z σ f j = σ f j := fun f j a b => tk_r a b
  unfold dtyK
  simp only [tk_sz, tk_tn, tk_ro, o 6 _ (by decide) (by decide)]
theorem tk_dtyP : dtyP (TK k z σ) p = dtyP σ p := by unfold dtyP; rw [tk_dtyK, tk_sz, tk_tn]
theorem tk_dtyH : dtyH (TK k z σ) p = dtyH σ p := by unfold dtyH; rw [tk_dtyP, tk_ro]
theorem tk_trn : trnF p (TK k z σ) = TK k z (trnF p σ) := by
  unfold trnF
  rw [tk_dtyP, tk_sz, tk_wr (by decide) (by decide)]
theorem tk_opnY : opnY p d (TK k z σ) = TK k z (opnY p d σ) := by
  unfold opnY
  rw [tk_r (f := 28) (by decide) (by decide), tk_r (f := 7) (by decide) (by decide), tk_wr (by decide) (by decide), tk_wr (by decide) (by decide), tk_wr (by decide) (by decide)]
theorem tk_opn : opnF nP p (TK k z σ) = (TK k z (opnF nP p σ).1, (opnF nP p σ).2) := by
  unfold opnF
  rw [tk_dtyK, tk_sz, tk_dtyH, tk_trn, tk_hnd]
  split
  · split
    · rw [tk_opnY]
    · rfl
  · rfl
/-- the keys of pump p: from then on its 'open' and 'broke today' are the village's own -/
theorem tk_key : keyF nP p (TK p z σ) = TK (p + 1) z (keyF nP p σ) := by
  have h0 : wst (wst (TK p z σ) 31 p 0) 32 p 0 = TK (p + 1) z (wst (wst σ 31 p 0) 32 p 0) := by
    funext f i
    unfold TK wst
    dsimp only
    by_cases a : i = p
    · subst a
      by_cases b : f = 32 <;> by_cases c : f = 31 <;> simp [b, c]
    · have e : i < p + 1 ↔ i < p := by omega
      simp only [a, and_false, if_false, e]
  unfold keyF
  rw [h0, tk_opn]
  split
  · rw [tk_w (Or.inr (by omega))]
  · rfl
theorem tk_keys : ∀ n, itn (keyF nP) n (TK 0 z σ) = TK n z (itn (keyF nP) n σ)
  | 0 => rfl
  | n + 1 => by rw [itn_s, tk_keys n, tk_key, itn_s]
theorem tk_own (hq : q < k) : ownF q x (TK k z σ) = ownF q x σ := by
  unfold ownF
  rw [tk_k hq, tk_k hq, tk_k hq]
theorem tk_dr1 : dr1 q x (TK k z σ) = TK k z (dr1 q x σ) := by
  unfold dr1
  rw [tk_r (f := 20) (by decide) (by decide), tk_r (f := 29) (by decide) (by decide), tk_r (f := 22) (by decide) (by decide), tk_wr (by decide) (by decide), tk_wr (by decide) (by decide), tk_wr (by decide) (by decide)]
theorem tk_dr (hq : q < k) : drF nP h q x (TK k z σ) = TK k z (drF nP h q x σ) := by
  unfold drF
  rw [tk_own hq, tk_r (f := 22) (by decide) (by decide), tk_dr1]
  split
  · rfl
  · split
    · rfl
    · rw [tk_wr (f := 23) (by decide) (by decide), tk_w (f := 32) (Or.inr hq), tk_wr (f := 24) (by decide) (by decide), tk_chg]
theorem tk_drI (hn : 0 < nP) : ∀ j, drI nP h j (TK nP z σ, x) = (TK nP z (drI nP h j (σ, x)).1, (drI nP h j (σ, x)).2)
  | 0 => rfl
  | j + 1 => by
    have ih := tk_drI hn j
    have ef : fq nP h j (TK nP z (drI nP h j (σ, x)).1) = fq nP h j (drI nP h j (σ, x)).1 := by unfold fq; rw [tk_r (by decide) (by decide)]
    have hq : fq nP h j (drI nP h j (σ, x)).1 < nP := Nat.mod_lt _ hn
    show (drF nP h (fq nP h j (drI nP h j (TK nP z σ, x)).1) (drI nP h j (TK nP z σ, x)).2 (drI nP h j (TK nP z σ, x)).1, (drI nP h j (TK nP z σ, x)).2 - ownF (fq nP h j (drI nP h j (TK nP z σ, x)).1) (drI nP h j (TK nP z σ, x)).2 (drI nP h j (TK nP z σ, x)).1) = (TK nP z (drF nP h (fq nP h j (drI nP h j (σ, x)).1) (drI nP h j (σ, x)).2 (drI nP h j (σ, x)).1), (drI nP h j (σ, x)).2 - ownF (fq nP h j (drI nP h j (σ, x)).1) (drI nP h j (σ, x)).2 (drI nP h j (σ, x)).1)
    rw [ih]
    dsimp only
    rw [ef, tk_dr hq, tk_own hq]
theorem tk_drw : drwF nP h (TK nP z σ) = TK nP z (drwF nP h σ) := by
  have en : ndF (TK nP z σ) h = ndF σ h := by unfold ndF; rw [tk_r (by decide) (by decide)]
  have ei : drI nP h nP (TK nP z σ, ndF σ h) = (TK nP z (drI nP h nP (σ, ndF σ h)).1, (drI nP h nP (σ, ndF σ h)).2) := by
    rcases Nat.eq_zero_or_pos nP with w | w
    · subst w; rfl
    · exact tk_drI w nP
  unfold drwF
  rw [tk_r (f := 6) (by decide) (by decide), en, ei]
  split
  · dsimp only
    rw [tk_r (f := 8) (by decide) (by decide), tk_wr (by decide) (by decide)]
  · rfl
theorem tk_w1 : w1F p (TK k z σ) = TK k z (w1F p σ) := by
  unfold w1F
  rw [tk_r (f := 24) (by decide) (by decide)]
  split
  · rw [tk_wr (by decide) (by decide)]
  · rfl
theorem tk_mnd (hp : p < k) : mndF p (TK k z σ) = TK k z (mndF p σ) := by
  unfold mndF wrkF
  rw [tk_k hp, tk_k hp, tk_w1, tk_r (f := 24) (by decide) (by decide), tk_r (f := 53) (by decide) (by decide), tk_r (f := 30) (by decide) (by decide)]
  split
  · rfl
  · split
    · rw [tk_wr (f := 53) (by decide) (by decide), tk_wr (f := 23) (by decide) (by decide), tk_wr (f := 22) (by decide) (by decide), tk_wr (f := 30) (by decide) (by decide)]
    · rfl
theorem tk_fil : filF p (TK k z σ) = TK k z (filF p σ) := by
  unfold filF
  rw [tk_r (f := 20) (by decide) (by decide), tk_r (f := 21) (by decide) (by decide), tk_wr (by decide) (by decide)]
theorem tk_shrH : shrH e h (TK k z σ) = TK k z (shrH e h σ) := by
  unfold shrH
  rw [tk_r (f := 4) (by decide) (by decide), tk_r (f := 3) (by decide) (by decide)]
  split
  · rw [tk_wr (by decide) (by decide)]
  · rfl
theorem tk_unm : unm (TK k z σ) n = unm σ n := by
  unfold unm
  exact sm_congr (fun j _ => by rw [tk_r (by decide) (by decide)])
theorem tk_shr : shrF nH (TK k z σ) = TK k z (shrF nH σ) := by
  have e1 : eachF nH (TK k z σ) = eachF nH σ := by unfold eachF; rw [tk_unm, tk_r (by decide) (by decide)]
  unfold shrF
  rw [tk_unm, e1, tk_r (f := 50) (by decide) (by decide), tk_r (f := 53) (by decide) (by decide)]
  split
  · rfl
  · rw [tk_itn (fun j x _ => tk_shrH), tk_wr (by decide) (by decide)]
theorem tk_bck : bckF h (TK k z σ) = TK k z (bckF h σ) := by
  unfold bckF
  rw [tk_r (f := 6) (by decide) (by decide)]
  split
  · rfl
  · rw [tk_wr (by decide) (by decide)]
theorem tk_end : endF nH (TK k z σ) = TK k z (endF nH σ) := by
  unfold endF
  rw [tk_itn (fun j x _ => tk_bck), tk_r (f := 50) (by decide) (by decide), tk_wr (by decide) (by decide)]
theorem tk_day : dayF nH nP (TK 0 z σ) = TK nP z (dayF nH nP σ) := by
  unfold dayF
  rw [tk_itn (fun j x _ => tk_lay), tk_keys, tk_itn (fun j x _ => tk_drw), tk_itn (fun j x hj => tk_mnd hj), tk_itn (fun j x _ => tk_fil), tk_shr, tk_end]
theorem tk_0 : TK k z σ = TK 0 (TK k z σ) σ := by
  funext f i
  unfold TK
  by_cases a : f = 31 ∨ f = 32
  · rw [if_pos (show (f = 31 ∨ f = 32) ∧ ¬ i < 0 from ⟨a, by omega⟩)]
  · rw [if_neg (fun w => a w.1), if_neg (fun w => a w.1)]
theorem tk_tkF : tkF σ z = TK 0 z σ := by
  funext f i
  unfold tkF TK
  by_cases a : f = 31 ∨ f = 32
  · rw [if_pos a, if_pos ⟨a, by omega⟩]
  · rw [if_neg a, if_neg (fun w => a w.1)]
theorem tk_dys : ∀ n, ∃ y, dysF nH nP n (tkF σ z) = TK 0 y (dysF nH nP n σ)
  | 0 => ⟨z, tk_tkF⟩
  | n + 1 => by
    obtain ⟨y, e⟩ := tk_dys n
    refine ⟨TK nP y (dayF nH nP (dysF nH nP n σ)), ?_⟩
    show dayF nH nP (dysF nH nP n (tkF σ z)) = TK 0 _ (dayF nH nP (dysF nH nP n σ))
    rw [e, tk_day]
    exact tk_0
/-- what is foreseen -/
theorem fs_0 : fsF nH nP σ z n 0 = sm (fun h => dysF nH nP n σ 8 h) nH - sm (fun h => σ 8 h) nH := by
  obtain ⟨y, e⟩ := tk_dys (nH := nH) (nP := nP) (σ := σ) (z := z) n
  show sm (fun h => fsX nH nP σ z n 8 h) nH - _ = _
  unfold fsX
  rw [e, sm_congr (f := fun h => TK 0 y (dysF nH nP n σ) 8 h) (g := fun h => dysF nH nP n σ 8 h) (fun j _ => tk_r (by decide) (by decide))]
theorem fs_1 : fsF nH nP σ z n 1 = dysF nH nP n σ 53 0 := by
  obtain ⟨y, e⟩ := tk_dys (nH := nH) (nP := nP) (σ := σ) (z := z) n
  show fsX nH nP σ z n 53 0 = _
  unfold fsX
  rw [e, tk_r (by decide) (by decide)]
end TKs
end
section
/-! ===== p22: what holds of the law's village behind d days ===== -/
def HL (nH nP : Nat) (τ : wS) : Prop := (∀ h, h < nH → ∃ k, k ≤ 9 ∧ τ 1 h = nI k) ∧ (∀ h, h < nH → ∃ k, k ≤ 9 ∧ τ 0 h = nI k) ∧ ∀ p, p < nP → cl (τ 21 p) ≤ 50 ∧ τ 21 p = nI (cl (τ 21 p))
def LQ (nH nP d : Nat) (τ : wS) : Prop :=
  Inv nH nP τ ∧ HL nH nP τ ∧ τ 50 0 = nI d ∧ EG nH (10 * nH + 90 * d) τ ∧ TH nH (fun _ => 11 * d) τ ∧ WT nP (fun _ => 200 + 50 * d) τ ∧ DU nH nP τ ∧ RM nP τ
section LQs
variable {nH nP h p d n : Nat} {τ : wS} {x : Int32}
theorem HL.same {ρ : wS} (hl : HL nH nP τ) (h0 : ∀ h, ρ 0 h = τ 0 h) (h1 : ∀ h, ρ 1 h = τ 1 h) (h2 : ∀ p, ρ 21 p = τ 21 p) : HL nH nP ρ := by
  obtain ⟨a, b, c⟩ := hl
  refine ⟨fun h hh => ?_, fun h hh => ?_, fun p hp => ?_⟩
  · rw [h1]; exact a h hh
  · rw [h0]; exact b h hh
  · rw [h2]; exact c p hp
theorem HL.day (hl : HL nH nP τ) : HL nH nP (dayF nH nP τ) :=
  hl.same (fun h => day_f (by unfold nCh; omega) (by omega) (by omega) (by decide) (by decide) (by decide) (by decide)) (fun h => day_f (by unfold nCh; omega) (by omega) (by omega) (by decide) (by decide) (by decide) (by decide)) (fun h => day_f (by unfold nCh; omega) (by omega) (by omega) (by decide) (by decide) (by decide) (by decide))
theorem LQ.day (hq : LQ nH nP d τ) (hd : d < 2 ^ 20) : LQ nH nP (d + 1) (dayF nH nP τ) := by
  obtain ⟨hv, hl, h50, he, ht, hw, hu, hr⟩ := hq
  have hH := hv.1
  have hP := hv.2.1
  obtain ⟨w1, t1⟩ := hw.day (I := fun p => cl (τ 21 p)) ht hl.2.1 hl.2.2 hP
  refine ⟨hv.oDay, hl.day, by rw [day_50 hP, h50, nI_1], (he.day hv hl.1 (by omega)).mono (by omega), t1.mono (fun h hh => by omega), fun p hp => ?_, hu.day hv, hr.day hv⟩
  obtain ⟨L, X, a, b, c, g⟩ := w1 p hp
  have := (hl.2.2 p hp).1
  exact ⟨L, X, a, by dsimp only at b ⊢; omega, c, g⟩
theorem LQ.dys (hq : LQ nH nP d τ) (hd : d + n < 2 ^ 20) : LQ nH nP (d + n) (dysF nH nP n τ) := by
  induction n with
  | zero => exact hq
  | succ n ih =>
    have a := (ih (by omega)).day (by omega)
    exact a
/-- what is drawn in n days and what is left came from the wells and from the inflow -/
theorem WT.dys {K : Nat → Nat} (hq : LQ nH nP d τ) (hd : d + n < 2 ^ 20) (hw : WT nP K τ) : WT nP (fun p => K p + n * cl (τ 21 p)) (dysF nH nP n τ) := by
  induction n with
  | zero =>
    intro p hp
    obtain ⟨L, X, a, b, c, g⟩ := hw p hp
    exact ⟨L, X, a, by dsimp only; omega, c, g⟩
  | succ n ih =>
    have q := hq.dys (n := n) (by omega)
    have e21 : ∀ p, dysF nH nP n τ 21 p = τ 21 p := fun p => itn_col (fun j x => day_f (by unfold nCh; omega) (by omega) (by omega) (by decide) (by decide) (by decide) (by decide))
    obtain ⟨w1, -⟩ := (ih (by omega)).day (I := fun p => cl (τ 21 p)) q.2.2.2.2.1 q.2.1.2.1 (fun p hp => by
      rw [e21]
      exact hq.2.1.2.2 p hp) hq.1.2.1
    intro p hp
    obtain ⟨L, X, a, b, c, g⟩ := w1 p hp
    refine ⟨L, X, a, ?_, c, g⟩
    dsimp only at b ⊢
    rw [Nat.succ_mul]
    omega
/-! calls of the law -/
theorem LQ.put6 {k : Nat} (hq : LQ nH nP d τ) (hk : k ≤ 30) : LQ nH nP d (wst τ 6 h (nI k)) := by
  obtain ⟨hv, hl, h50, he, ht, hw, hu, hr⟩ := hq
  have hP := hv.2.1
  exact ⟨hv.set6 hk, hl.same (fun h => wst_f (by decide)) (fun h => wst_f (by decide)) (fun h => wst_f (by decide)), (wst_f (by decide)).trans h50, he.put (by decide) (by decide), ht.put (by decide), hw.put (by decide) (by decide), hu.put (by decide) (by decide), hr.put (by decide) (by decide) (by omega)⟩
theorem LQ.put5 {k : Nat} (hq : LQ nH nP d τ) (hk : k < nP) : LQ nH nP d (wst τ 5 h (nI k)) := by
  obtain ⟨hv, hl, h50, he, ht, hw, hu, hr⟩ := hq
  have hP := hv.2.1
  exact ⟨hv.set5 (Or.inl hk), hl.same (fun h => wst_f (by decide)) (fun h => wst_f (by decide)) (fun h => wst_f (by decide)), (wst_f (by decide)).trans h50, he.put (by decide) (by decide), ht.put (by decide), hw.put (by decide) (by decide), hu.put (by decide) (by decide), hr.put (by decide) (by decide) (by omega)⟩
theorem LQ.put0 {k : Nat} (hq : LQ nH nP d τ) (hk : k ≤ 9) : LQ nH nP d (wst τ 0 h (nI k)) := by
  obtain ⟨hv, hl, h50, he, ht, hw, hu, hr⟩ := hq
  have hP := hv.2.1
  refine ⟨hv.free (Or.inl rfl), ⟨fun j hj => ?_, fun j hj => ?_, fun p hp => ?_⟩, (wst_f (by decide)).trans h50, he.put (by decide) (by decide), ht.put (by decide), hw.put (by decide) (by decide), hu.put (by decide) (by decide), hr.put (by decide) (by decide) (by omega)⟩
  · rw [wst_f (by decide)]; exact hl.1 j hj
  · by_cases z : j = h
    · subst z; exact ⟨k, hk, wst_s⟩
    · rw [wst_i z]; exact hl.2.1 j hj
  · rw [wst_f (by decide)]; exact hl.2.2 p hp
theorem LQ.fine {a : Nat} (hq : LQ nH nP d τ) (hh : h < nH) (ha : a ≤ 50) (hd : d < 2 ^ 20) : LQ nH nP d (chgF nP h (nI a) τ) := by
  obtain ⟨hv, hl, h50, he, ht, hw, hu, hr⟩ := hq
  have hH := hv.1
  have hP := hv.2.1
  exact ⟨hv.oChg hh, hl.same (fun j => chg_f (by unfold nCh; omega)) (fun j => chg_f (by unfold nCh; omega)) (fun j => chg_f (by unfold nCh; omega)), (chg_f (by unfold nCh; omega)).trans h50, he.chg hP hh (by omega) (by omega), ht.same (fun j _ => chg_f (by unfold nCh; omega)), hw.chg, hu.same (fun j _ => chg_f (by unfold nCh; omega)) (fun j _ => chg_f (by unfold nCh; omega)), hr.chg hv hh⟩
theorem RM.enrol (hr : RM nP τ) (hv : Inv nH nP τ) (hp : p < nP) (hh : h < nH) (hn : ¬ plc (τ (40 + p)) (nI h) (sz τ p) < sz τ p) (h4 : τ 4 h < 3) : RM nP (wst (wst τ (40 + p) (sz τ p) (nI h)) 26 p (nI (sz τ p + 1))) := by
  have hP := hv.2.1
  have hH := hv.1
  have h10 := ros_room hv hp hh hn
  generalize hn9 : sz τ p = n at h10 ⊢
  have e4 : ∀ j, wst (wst τ (40 + p) n (nI h)) 26 p (nI (n + 1)) 4 j = τ 4 j := fun j => by rw [wst_f (by decide), wst_f (by omega)]
  intro q hq k hk
  rw [e4]
  by_cases z : q = p
  · subst z
    have es : sz (wst (wst τ (40 + q) n (nI h)) 26 q (nI (n + 1))) q = n + 1 := by unfold sz; rw [wst_s]; exact nI_clamp (by omega)
    rw [es] at hk
    rw [wst_f (by omega)]
    by_cases y : k = n
    · subst y
      rw [wst_s, show cl (nI h) = h from nI_clamp (by omega)]
      intro w
      rw [w] at h4
      exact absurd h4 (by decide)
    · rw [wst_i y]
      exact hr q hq k (by omega)
  · have es : sz (wst (wst τ (40 + p) n (nI h)) 26 p (nI (n + 1))) q = sz τ q := by unfold sz; rw [wst_i z, wst_f (by omega)]
    rw [es] at hk
    rw [wst_f (by omega), wst_f (by omega)]
    exact hr q hq k hk
theorem LQ.enrol (hq : LQ nH nP d τ) (hp : p < nP) (hh : h < nH) (hn : ¬ plc (τ (40 + p)) (nI h) (sz τ p) < sz τ p) (h4 : τ 4 h < 3) : LQ nH nP d (wst (wst τ (40 + p) (sz τ p) (nI h)) 26 p (nI (sz τ p + 1))) := by
  obtain ⟨hv, hl, h50, he, ht, hw, hu, hr⟩ := hq
  have hP := hv.2.1
  have o : ∀ f i, f < 40 ∨ 43 ≤ f → f ≠ 26 → wst (wst τ (40 + p) (sz τ p) (nI h)) 26 p (nI (sz τ p + 1)) f i = τ f i := fun f i h1 h2 => by rw [wst_f h2, wst_f (by omega)]
  exact ⟨hv.enrol hp hh hn, hl.same (fun j => o 0 j (by omega) (by decide)) (fun j => o 1 j (by omega) (by decide)) (fun j => o 21 j (by omega) (by decide)), (o 50 0 (by omega) (by decide)).trans h50, he.same (fun j => o 3 j (by omega) (by decide)) (o 53 0 (by omega) (by decide)), ht.same (fun j _ => o 8 j (by omega) (by decide)), hw.same (fun j _ => o 20 j (by omega) (by decide)) (fun j _ => o 29 j (by omega) (by decide)), hu.same (fun j _ => o 28 j (by omega) (by decide)) (fun j _ => o 7 j (by omega) (by decide)), hr.enrol hv hp hh hn h4⟩
end LQs
/-! the village's beginning -/
section LQb
variable {nH nP k : Nat} {τ : wS} {x y w : Int32}
theorem LQ.zero : LQ 0 0 0 dC :=
  ⟨⟨by omega, by omega, rfl, rfl, fun h hh => absurd hh (by omega), fun p hp => absurd hp (by omega)⟩, ⟨fun h hh => absurd hh (by omega), fun h hh => absurd hh (by omega), fun p hp => absurd hp (by omega)⟩, rfl, ⟨fun _ => 0, 0, fun h hh => absurd hh (by omega), rfl, Nat.le_refl _⟩, fun h hh => absurd hh (by omega), fun p hp => absurd hp (by omega), rfl, fun p hp => absurd hp (by omega)⟩
theorem LQ.addH (hq : LQ nH 0 0 τ) (hn : nH < 10) {a b : Nat} (hx : x = nI a) (ha : a ≤ 9) (hy : y = nI b) (hb : b ≤ 9) (hw : inn 1 9 w) : LQ (nH + 1) 0 0 (aHF nH τ x y w) := by
  obtain ⟨hv, hl, h50, he, ht, hwt, hu, hr⟩ := hq
  have o : ∀ {f i : Nat}, ¬ (f ≤ 10 ∧ i = nH) → ¬ (f = 51 ∧ i = 0) → aHF nH τ x y w f i = τ f i := fun h1 h2 => aHF_o h1 h2
  refine ⟨hv.addH hn hw, ⟨fun h hh => ?_, fun h hh => ?_, fun p hp => absurd hp (by omega)⟩, (o (by omega) (by omega)).trans h50, ?_, fun h hh => ?_, fun p hp => absurd hp (by omega), ?_, fun p hp => absurd hp (by omega)⟩
  · by_cases z : h = nH
    · subst z
      refine ⟨b, hb, ?_⟩
      unfold aHF
      rw [wst_f (by decide), wst_f (by decide), wst_s, hy]
    · rw [o (by omega) (by omega)]; exact hl.1 h (by omega)
  · by_cases z : h = nH
    · subst z
      refine ⟨a, ha, ?_⟩
      unfold aHF
      rw [wst_f (by decide), wst_f (by decide), wst_f (by decide), wst_s, hx]
    · rw [o (by omega) (by omega)]; exact hl.2.1 h (by omega)
  · obtain ⟨e, c, A, b9, g⟩ := he
    refine ⟨fun j => if j = nH then 10 else e j, c, fun j hj => ?_, (o (by omega) (by omega)).trans b9, ?_⟩
    · dsimp only
      by_cases z : j = nH
      · subst z
        rw [if_pos rfl, aHF_n (by decide) (by decide)]
        rfl
      · rw [if_neg z, o (by omega) (by omega)]
        exact A j (by omega)
    · show c + (nsm (fun j => if j = nH then 10 else e j) nH + (if nH = nH then 10 else e nH)) ≤ _
      rw [if_pos rfl, nsm_congr (f := fun j => if j = nH then 10 else e j) (g := e) (fun j hj => if_neg (by omega))]
      omega
  · by_cases z : h = nH
    · subst z
      refine ⟨0, by omega, ?_⟩
      rw [aHF_n (by decide) (by decide)]
      rfl
    · obtain ⟨k, hk, e⟩ := ht h (by omega)
      exact ⟨k, hk, (o (by omega) (by omega)).trans e⟩
  · unfold DU at hu ⊢
    show (0 : Int32) = sm (fun h => aHF nH τ x y w 7 h) nH + aHF nH τ x y w 7 nH
    rw [aHF_n (by decide) (by decide), sm_congr (f := fun h => aHF nH τ x y w 7 h) (g := fun h => τ 7 h) (fun j hj => o (by omega) (by omega)), ← hu]
    rfl
theorem LQ.addP (hq : LQ nH nP 0 τ) (hn : nP < 3) {a b : Nat} (hx : x = nI a) (ha : a ≤ 200) (hy : y = nI b) (hb : b ≤ 50) : LQ nH (nP + 1) 0 (aPF nP τ x y) := by
  obtain ⟨hv, hl, h50, he, ht, hwt, hu, hr⟩ := hq
  have o : ∀ {f i : Nat}, ¬ ((11 ≤ f ∧ f ≤ 30 ∧ i = nP) ∨ f = 40 + nP) → ¬ (f = 52 ∧ i = 0) → aPF nP τ x y f i = τ f i := fun h1 h2 => aPF_o h1 h2
  have e21 : aPF nP τ x y 21 nP = nI b := by
    unfold aPF
    rw [wst_f (by decide), wst_s, hy]
  have e20 : aPF nP τ x y 20 nP = nI a := by
    unfold aPF
    rw [wst_f (by decide), wst_f (by decide), wst_s, hx]
  refine ⟨hv.addP hn, ⟨fun h hh => ?_, fun h hh => ?_, fun p hp => ?_⟩, (o (by omega) (by omega)).trans h50, he.same (fun j => o (by omega) (by omega)) (o (by omega) (by omega)), ht.same (fun j _ => o (by omega) (by omega)), fun p hp => ?_, ?_, fun p hp k hk => ?_⟩
  · rw [o (by omega) (by omega)]; exact hl.1 h hh
  · rw [o (by omega) (by omega)]; exact hl.2.1 h hh
  · by_cases z : p = nP
    · subst z
      rw [e21, show cl (nI b) = b from nI_clamp (by omega)]
      exact ⟨hb, rfl⟩
    · rw [o (by omega) (by omega)]; exact hl.2.2 p (by omega)
  · by_cases z : p = nP
    · subst z
      exact ⟨a, 0, ha, by dsimp only; omega, e20, (aPF_n (by decide) (by decide)).trans rfl⟩
    · obtain ⟨L, X, q1, q2, q3, q4⟩ := hwt p (by omega)
      exact ⟨L, X, q1, q2, (o (by omega) (by omega)).trans q3, (o (by omega) (by omega)).trans q4⟩
  · unfold DU at hu ⊢
    show sm (fun p => aPF nP τ x y 28 p) nP + aPF nP τ x y 28 nP = _
    rw [aPF_n (by decide) (by decide), sm_congr (f := fun p => aPF nP τ x y 28 p) (g := fun p => τ 28 p) (fun j hj => o (by omega) (by omega)), sm_congr (f := fun p => aPF nP τ x y 7 p) (g := fun p => τ 7 p) (fun j hj => o (by omega) (by omega)), hu]
    exact Int32.add_zero _
  · by_cases z : p = nP
    · subst z
      have e26 : sz (aPF p τ x y) p = 0 := by unfold sz; rw [aPF_n (by decide) (by decide)]; rfl
      rw [e26] at hk
      exact absurd hk (by omega)
    · have es : sz (aPF nP τ x y) p = sz τ p := by unfold sz; rw [o (by omega) (by omega)]
      rw [es] at hk
      rw [o (by omega) (by omega), o (by omega) (by omega)]
      exact hr p (by omega) k hk
end LQb
end
