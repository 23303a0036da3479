/-! ===== the object: two villages, and what a throw wants ===== -/
def XW (G : wG) (xa : Nat) (ad ad2 : Nat → Nat) (σ σ2 : wS) (H : Heap) : Prop := va_at G.1 vwCl (xa, .inr (3, [.ref (ad 0), .ref (ad2 0)])) H ∧ CV G ad σ H ∧ CV G ad2 σ2 H
def XI (xa : Nat) (ad ad2 : Nat → Nat) : Prop := adInj ad 19 ∧ adInj ad2 19 ∧ adApart ad ad2 19 19 ∧ (∀ k, k < 19 → xa ≠ ad k) ∧ ∀ k, k < 19 → xa ≠ ad2 k
/-- what a call may write: the villages, and what is new -/
def AX (ad ad2 : Nat → Nat) (sz : Nat) : Nat → Prop := fun q => AV ad 19 q ∨ AV ad2 19 q ∨ sz ≤ q
theorem adApart.symm {ad ad2 : Nat → Nat} (h : adApart ad ad2 19 19) : adApart ad2 ad 19 19 := fun i j hi hj e => h j i hj hi e.symm
theorem XW.main {G : wG} {xa : Nat} {ad ad2 : Nat → Nat} {σ σ2 ρ : wS} {H H1 : Heap} (hI : XI xa ad ad2) (h : XW G xa ad ad2 σ σ2 H) (hV : CV G ad ρ H1) (hk : ∀ q : Nat, q < H.size → ¬ AV ad 19 q → H1[q]? = H[q]?) : XW G xa ad ad2 ρ σ2 H1 :=
  ⟨h.1.kept (hk _ h.1.lt (fun ⟨k, hk, e⟩ => hI.2.2.2.1 k hk e)), hV, h.2.2.kept (fun k hk9 => hk _ (h.2.2.lt hk9) (fun ⟨j, hj, e⟩ => hI.2.2.1 j k hj hk9 e.symm))⟩
theorem XW.trial {G : wG} {xa : Nat} {ad ad2 : Nat → Nat} {σ σ2 ρ : wS} {H H1 : Heap} (hI : XI xa ad ad2) (h : XW G xa ad ad2 σ σ2 H) (hV : CV G ad2 ρ H1) (hk : ∀ q : Nat, q < H.size → ¬ AV ad2 19 q → H1[q]? = H[q]?) : XW G xa ad ad2 σ ρ H1 :=
  ⟨h.1.kept (hk _ h.1.lt (fun ⟨k, hk, e⟩ => hI.2.2.2.2 k hk e)), h.2.1.kept (fun k hk9 => hk _ (h.2.1.lt hk9) (fun ⟨j, hj, e⟩ => hI.2.2.1 k j hk9 hj e)), hV⟩
theorem XW.kept {G : wG} {xa : Nat} {ad ad2 : Nat → Nat} {σ σ2 : wS} {H H1 : Heap} (h : XW G xa ad ad2 σ σ2 H) (hk : ∀ q : Nat, q < H.size → H1[q]? = H[q]?) : XW G xa ad ad2 σ σ2 H1 :=
  ⟨h.1.kept (hk _ h.1.lt), h.2.1.kept (fun k hk9 => hk _ (h.2.1.lt hk9)), h.2.2.kept (fun k hk9 => hk _ (h.2.2.lt hk9))⟩
/-- the trial village as it is seen from outside: its 'open' and 'broke today' alone -/
def XWz (G : wG) (xa : Nat) (ad ad2 : Nat → Nat) (σ z : wS) (H : Heap) : Prop := ∃ σ2, XW G xa ad ad2 σ σ2 H ∧ ∀ i, i < 3 → σ2 31 i = z 31 i ∧ σ2 32 i = z 32 i
theorem XWz.kept {G : wG} {xa : Nat} {ad ad2 : Nat → Nat} {σ z : wS} {H H1 : Heap} (h : XWz G xa ad ad2 σ z H) (hk : ∀ q : Nat, q < H.size → H1[q]? = H[q]?) : XWz G xa ad ad2 σ z H1 := by
  obtain ⟨σ2, h1, h2⟩ := h
  exact ⟨σ2, h1.kept hk, h2⟩
abbrev nIAE : String := "java/lang/IllegalArgumentException"
abbrev nISE : String := "java/lang/IllegalStateException"
abbrev nIOB : String := "java/lang/IndexOutOfBoundsException"
abbrev xNames : List String := ["java/lang/RuntimeException", "java/lang/Exception"]
def XStr (U : State) : Prop := (∃ a, vk_R RX3 29 "no room for another house" a U) ∧ (∃ a, vk_R RX3 55 "no room for another pump" a U) ∧ (∃ a, vk_R RX3 90 "the house is on the roster" a U) ∧ (∃ a, vk_R RX3 95 "the house has too many marks" a U) ∧ (∃ a, vk_R RX3 180 "an argument is too small or too large" a U) ∧
  (∃ a, vk_R RX3 185 "nothing is told by this number" a U) ∧ (∃ a, vk_R RX3 192 "no such house" a U) ∧ (∃ a, vk_R RX3 197 "no such pump" a U) ∧ ∃ a, vk_R RX3 199 "no such place on the roster" a U
def XDe (U : State) : Prop := va_Nw (.declares (Bundle.initS "java/lang/RuntimeException")) U ∧ va_Nw (.declares (Bundle.initS "java/lang/Exception")) U ∧ va_Nw (.declares (Bundle.initS Bundle.tN)) U
def XCa (U : State) : Prop := va_Nw (.castable nIAE nIAE) U ∧ va_Nw (.castable nISE nISE) U ∧ va_Nw (.castable nIOB nIOB) U ∧ XDe U
def XK (A : Nat → Prop) (U : State) : Prop := (vx_Zq Bundle.tN "UNASSIGNED_STACK" Bundle.steD A U U.heap ∧ vx_Zq Bundle.tN "SUPPRESSED_SENTINEL" Bundle.listD A U U.heap) ∧ XCa U ∧ XStr U
theorem XStr.warm {s U : State} (hW : s.WarmedH U.vm) (h : XStr s) : XStr U := by
  obtain ⟨⟨a1, h1⟩, ⟨a2, h2⟩, ⟨a3, h3⟩, ⟨a4, h4⟩, ⟨a5, h5⟩, ⟨a6, h6⟩, ⟨a7, h7⟩, ⟨a8, h8⟩, ⟨a9, h9⟩⟩ := h
  exact ⟨⟨a1, h1.warm hW⟩, ⟨a2, h2.warm hW⟩, ⟨a3, h3.warm hW⟩, ⟨a4, h4.warm hW⟩, ⟨a5, h5.warm hW⟩, ⟨a6, h6.warm hW⟩, ⟨a7, h7.warm hW⟩, ⟨a8, h8.warm hW⟩, ⟨a9, h9.warm hW⟩⟩
theorem XCa.warm {s U : State} (hW : s.WarmedH U.vm) (h : XCa s) : XCa U := ⟨va_Nw.warmC hW h.1, va_Nw.warmC hW h.2.1, va_Nw.warmC hW h.2.2.1, va_Nw.warmD hW h.2.2.2.1, va_Nw.warmD hW h.2.2.2.2.1, va_Nw.warmD hW h.2.2.2.2.2⟩
/-- at a callee's start, from here -/
theorem XK.at {A A' : Nat → Prop} {s U : State} {H : Heap} {locs : List Loc} (h : XK A s) (hS : va_S A s.heap H locs) (hU : U.heap = H) (hW : s.WarmedH U.vm) (hA : ∀ q, A' q → A q) : XK A' U := by
  obtain ⟨⟨h1, h2⟩, h3, h4⟩ := h
  refine ⟨⟨?_, ?_⟩, h3.warm hW, h4.warm hW⟩
  · rw [hU]; exact ((h1.moved hW.alike).kept (fun a g1 g2 => hS.2.1 a g1 g2)).narrow hA
  · rw [hU]; exact ((h2.moved hW.alike).kept (fun a g1 g2 => hS.2.1 a g1 g2)).narrow hA
def Pc3 (G : wG) (av : List Value) (sz : Nat) (B : Heap → Prop) (A : Nat → Prop) : Array Value → State → Prop := va_Pc av (fun U => U.heap.size = sz ∧ B U.heap ∧ wK G U ∧ XK A U)
theorem Pc3.blind {G : wG} {av : List Value} {sz : Nat} {B : Heap → Prop} {A : Nat → Prop} : FrameBlind (Pc3 G av sz B A) := fun a U g mk q =>
  ⟨q.1, q.2.1, q.2.2.1, va_K.moved (u := U) (U := U.calling g mk a) (Vm.Alike.refl U.vm) q.2.2.2.1, by
    obtain ⟨⟨h1, h2⟩, h3, h4⟩ := q.2.2.2.2
    exact ⟨⟨h1.moved (U := U.calling g mk a) (Vm.Alike.refl U.vm), h2.moved (U := U.calling g mk a) (Vm.Alike.refl U.vm)⟩, h3.warm (U := U.calling g mk a) (State.WarmedH.refl U), h4.warm (U := U.calling g mk a) (State.WarmedH.refl U)⟩⟩
theorem Pc3.pre {G : wG} {av : List Value} {B : Heap → Prop} {A A' : Nat → Prop} {s : State} {H : Heap} {locs : List Loc} (hB : B H) (hK : wK G s) (hX : XK A s) (hS : va_S A s.heap H locs) (hA : ∀ q, A' q → A q) : ∀ U : State, U.heap = H → s.WarmedH U.vm → Pc3 G av H.size B A' av.toArray U :=
  fun U hU hW => ⟨rfl, by rw [hU], by rw [hU]; exact hB, va_K.moved hW.alike hK, hX.at hS hU hW hA⟩
def Qxi (P : Prop) (v : Int32) (B : Heap → Prop) (A : Nat → Prop) : Array Value → State → Outcome → State → Prop := va_Qi (S := Unit) (fun r _ => P ∧ r = v) (fun _ t => B t.heap) A
def Qxv (P : Prop) (B : Heap → Prop) (A : Nat → Prop) : Array Value → State → Outcome → State → Prop := va_Qv (S := Unit) (fun _ => P) (fun _ t => B t.heap) A
def Xx (P : String → Prop) (B : Heap → Prop) (A : Nat → Prop) : String → State → State → Prop := vx_X (S := Unit) (fun _ => True) (fun E _ t => P E ∧ B t.heap) A
section YR
variable {p : Program} {l : Launch} {e : Env} {R : Room} {s : State} {m : MethodId} {args : Array Value} {below : List Frame} {meth : Method} {c : Code} {H : Heap} {locs : List Loc} {cells slots : Nat} {Q : State → Prop}
variable {cc : ByteArray} {pc : Nat} {ls : Array Slot} {rest : List Value} {H0 : Heap} {G : wG} {xa sz : Nat} {ad ad2 : Nat → Nat} {nH nP : Nat} {δ τ σ σ2 : wS} {Ts : List Cond} {own : String} {index : Nat}
theorem rX0 (hexec : p.tables.exec = Jvm.exec) (hb : c.code = cc) (hts : ∀ w ∈ Ts, w.before args s = true) (hin : ∀ w ∈ wsX30, w ∈ Ts) (hown : s.vm.findClass own = some m.cls) (hK : wK G s) (hW : XW G xa ad ad2 σ σ2 H) (hlink : (Cond.fieldLink own index RX3 (TX3 0).2.1 (TX3 0).2.2.1).before args s = true) (hdg : decode cc pc = .ok (.getfield index, 3))
    (kk : W p l e R s m args below meth c H locs cells slots Q (F0 m (pc + 3) ls (.ref (ad 0) :: rest))) : W p l e R s m args below meth c H locs cells slots Q (F0 m pc ls (.ref xa :: rest)) :=
  va_get (ci := 3) (C := RX3) (T := TX3) (N := 2) hexec hb hts hin hown hK (va_P1 hW.1) 0 rfl rfl 0 (by omega) hlink (fun _ h9 => h9) rfl hdg kk
theorem rX1 (hexec : p.tables.exec = Jvm.exec) (hb : c.code = cc) (hts : ∀ w ∈ Ts, w.before args s = true) (hin : ∀ w ∈ wsX30, w ∈ Ts) (hown : s.vm.findClass own = some m.cls) (hK : wK G s) (hW : XW G xa ad ad2 σ σ2 H) (hlink : (Cond.fieldLink own index RX3 (TX3 1).2.1 (TX3 1).2.2.1).before args s = true) (hdg : decode cc pc = .ok (.getfield index, 3))
    (kk : W p l e R s m args below meth c H locs cells slots Q (F0 m (pc + 3) ls (.ref (ad2 0) :: rest))) : W p l e R s m args below meth c H locs cells slots Q (F0 m pc ls (.ref xa :: rest)) :=
  va_get (ci := 3) (C := RX3) (T := TX3) (N := 2) hexec hb hts hin hown hK (va_P1 hW.1) 0 rfl rfl 1 (by omega) hlink (fun _ h9 => h9) rfl hdg kk
theorem xH (k : Nat) (hexec : p.tables.exec = Jvm.exec) (hb : c.code = cc) (hts : ∀ w ∈ Ts, w.before args s = true) (hin : ∀ w ∈ wsX00, w ∈ Ts) (hown : s.vm.findClass own = some m.cls) (hK : wK G s) (hI : XI xa ad ad2) (hW : XW G xa ad ad2 (wmx nH nP δ τ) σ2 H) (hS : va_S (AX ad ad2 sz) H0 H locs) {h f : Nat} {x : Int32} (hh : h < nH) (hn : nH ≤ 10) (h1 : 1 ≤ k) (h2 : k < 12) (hf : hcol k = f) (hlink : (Cond.fieldLink own index RX0 (TX0 k).2.1 (TX0 k).2.2.1).before args s = true) (hdg : decode cc pc = .ok (.putfield index, 3))
    (kk : ∀ (H1 : Heap) (locs1 : List Loc), XW G xa ad ad2 (wmx nH nP δ (wst τ f h x)) σ2 H1 → va_S (AX ad ad2 sz) H0 H1 locs1 → W p l e R s m args below meth c H1 locs1 cells slots Q (F0 m (pc + 3) ls rest)) : W p l e R s m args below meth c H locs cells slots Q (F0 m pc ls (.int x :: .ref (ad (3 + h)) :: rest)) := by
  subst hf
  have hty : tyX0 k = .int := by unfold tyX0; split <;> rfl
  refine xq_put (ci := 0) (C := RX0) (T := TX0) (N := 12) hexec hb hts hin tyX0 tyX0_ok nmX0 hown hK (hW.2.1.2.2.2.1 h (by omega)) hS (Or.inl ⟨3 + h, by omega, rfl⟩) rfl k h2 hlink (fun x h9 => by rw [TX0_1 k] at h9; exact h9) (by unfold TX0; split <;> first | rfl | omega) (by rw [hty]; rfl) (by rw [hty]; rfl) (show k < 12 from h2) hdg (fun H1 locs1 e1 e3 hS1 => ?_)
  have hV1 := CV.setH hI.1 hW.2.1 (by omega) h1 h2 e1 e3
  rw [wmx_w (wact_h (hcol_le k) hh)] at hV1
  exact kk H1 locs1 (hW.main hI hV1 (fun q _ hq => e3 q (fun z => hq ⟨3 + h, by omega, z⟩))) hS1
/-- a House's field of the trial village -/
theorem xH2 (k : Nat) (hexec : p.tables.exec = Jvm.exec) (hb : c.code = cc) (hts : ∀ w ∈ Ts, w.before args s = true) (hin : ∀ w ∈ wsX00, w ∈ Ts) (hown : s.vm.findClass own = some m.cls) (hK : wK G s) (hI : XI xa ad ad2) (hW : XW G xa ad ad2 σ (wmx nH nP δ τ) H) (hS : va_S (AX ad ad2 sz) H0 H locs) {h f : Nat} {x : Int32} (hh : h < nH) (hn : nH ≤ 10) (h1 : 1 ≤ k) (h2 : k < 12) (hf : hcol k = f) (hlink : (Cond.fieldLink own index RX0 (TX0 k).2.1 (TX0 k).2.2.1).before args s = true) (hdg : decode cc pc = .ok (.putfield index, 3))
    (kk : ∀ (H1 : Heap) (locs1 : List Loc), XW G xa ad ad2 σ (wmx nH nP δ (wst τ f h x)) H1 → va_S (AX ad ad2 sz) H0 H1 locs1 → W p l e R s m args below meth c H1 locs1 cells slots Q (F0 m (pc + 3) ls rest)) : W p l e R s m args below meth c H locs cells slots Q (F0 m pc ls (.int x :: .ref (ad2 (3 + h)) :: rest)) := by
  subst hf
  have hty : tyX0 k = .int := by unfold tyX0; split <;> rfl
  refine xq_put (ci := 0) (C := RX0) (T := TX0) (N := 12) hexec hb hts hin tyX0 tyX0_ok nmX0 hown hK (hW.2.2.2.2.2.1 h (by omega)) hS (Or.inr (Or.inl ⟨3 + h, by omega, rfl⟩)) rfl k h2 hlink (fun x h9 => by rw [TX0_1 k] at h9; exact h9) (by unfold TX0; split <;> first | rfl | omega) (by rw [hty]; rfl) (by rw [hty]; rfl) (show k < 12 from h2) hdg (fun H1 locs1 e1 e3 hS1 => ?_)
  have hV1 := CV.setH hI.2.1 hW.2.2 (by omega) h1 h2 e1 e3
  rw [wmx_w (wact_h (hcol_le k) hh)] at hV1
  exact kk H1 locs1 (hW.trial hI hV1 (fun q _ hq => e3 q (fun z => hq ⟨3 + h, by omega, z⟩))) hS1
theorem xP (k : Nat) (hexec : p.tables.exec = Jvm.exec) (hb : c.code = cc) (hts : ∀ w ∈ Ts, w.before args s = true) (hin : ∀ w ∈ wsX10, w ∈ Ts) (hown : s.vm.findClass own = some m.cls) (hK : wK G s) (hI : XI xa ad ad2) (hW : XW G xa ad ad2 (wmx nH nP δ τ) σ2 H) (hS : va_S (AX ad ad2 sz) H0 H locs) {h f : Nat} {x : Int32} (hh : h < nP) (hn : nP ≤ 3) (h1 : k ≠ 6) (h2 : k < 14) (hf : pcol k = f) (hx1 : narrow (tyX1 k) (.int x) = .int x) (hx2 : fits (tyX1 k) (.int x) = true) (hlink : (Cond.fieldLink own index RX1 (TX1 k).2.1 (TX1 k).2.2.1).before args s = true) (hdg : decode cc pc = .ok (.putfield index, 3))
    (kk : ∀ (H1 : Heap) (locs1 : List Loc), XW G xa ad ad2 (wmx nH nP δ (wst τ f h x)) σ2 H1 → va_S (AX ad ad2 sz) H0 H1 locs1 → W p l e R s m args below meth c H1 locs1 cells slots Q (F0 m (pc + 3) ls rest)) : W p l e R s m args below meth c H locs cells slots Q (F0 m pc ls (.int x :: .ref (ad (13 + h)) :: rest)) := by
  subst hf
  have hp := pcol_in k
  refine xq_put (ci := 1) (C := RX1) (T := TX1) (N := 14) hexec hb hts hin tyX1 tyX1_ok nmX1 hown hK (hW.2.1.2.2.2.2.1 h (by omega)) hS (Or.inl ⟨13 + h, by omega, rfl⟩) rfl k h2 hlink (fun x h9 => by rw [TX1_1 k] at h9; exact h9) (by unfold TX1; split <;> first | rfl | omega) hx1 hx2 (show k < 14 from h2) hdg (fun H1 locs1 e1 e3 hS1 => ?_)
  have hV1 := CV.setP hI.1 hW.2.1 (by omega) h1 h2 e1 e3
  rw [wmx_w (wact_pp (by omega) hp.2 hh)] at hV1
  exact kk H1 locs1 (hW.main hI hV1 (fun q _ hq => e3 q (fun z => hq ⟨13 + h, by omega, z⟩))) hS1
theorem xVm (k : Nat) (hexec : p.tables.exec = Jvm.exec) (hb : c.code = cc) (hts : ∀ w ∈ Ts, w.before args s = true) (hin : ∀ w ∈ wsX20, w ∈ Ts) (hown : s.vm.findClass own = some m.cls) (hK : wK G s) (hI : XI xa ad ad2) (hW : XW G xa ad ad2 (wmx nH nP δ τ) σ2 H) (hS : va_S (AX ad ad2 sz) H0 H locs) {f : Nat} {x : Int32} (h1 : 2 ≤ k) (h2 : k < 6) (hf : vcol k = f) (hlink : (Cond.fieldLink own index RX2 (TX2 k).2.1 (TX2 k).2.2.1).before args s = true) (hdg : decode cc pc = .ok (.putfield index, 3))
    (kk : ∀ (H1 : Heap) (locs1 : List Loc), XW G xa ad ad2 (wmx nH nP δ (wst τ f 0 x)) σ2 H1 → va_S (AX ad ad2 sz) H0 H1 locs1 → W p l e R s m args below meth c H1 locs1 cells slots Q (F0 m (pc + 3) ls rest)) : W p l e R s m args below meth c H locs cells slots Q (F0 m pc ls (.int x :: .ref (ad 0) :: rest)) := by
  subst hf
  have hp := vcol_in k
  have hty : tyX2 k = .int := by unfold tyX2; split <;> first | rfl | omega
  refine xq_put (ci := 2) (C := RX2) (T := TX2) (N := 6) hexec hb hts hin tyX2 tyX2_ok nmX2 hown hK hW.2.1.1 hS (Or.inl ⟨0, by omega, rfl⟩) rfl k h2 hlink (fun x h9 => by rw [TX2_1 k] at h9; exact h9) (by unfold TX2; split <;> first | rfl | omega) (by rw [hty]; rfl) (by rw [hty]; rfl) (show k < 6 from h2) hdg (fun H1 locs1 e1 e3 hS1 => ?_)
  have hV1 := CV.setV hI.1 hW.2.1 h1 h2 e1 e3
  rw [wmx_w (wact_v (by omega))] at hV1
  exact kk H1 locs1 (hW.main hI hV1 (fun q _ hq => e3 q (fun z => hq ⟨0, by omega, z⟩))) hS1
theorem xRo (hexec : p.tables.exec = Jvm.exec) (hb : c.code = cc) (hK : wK G s) (hI : XI xa ad ad2) (hW : XW G xa ad ad2 (wmx nH nP δ τ) σ2 H) (hS : va_S (AX ad ad2 sz) H0 H locs) {h k : Nat} {x : Int32} (hh : h < nP) (hn : nP ≤ 3) (hk : k < 10) (hdg : decode cc pc = .ok (.iastore, 1))
    (kk : ∀ (H1 : Heap) (locs1 : List Loc), XW G xa ad ad2 (wmx nH nP δ (wst τ (40 + h) k x)) σ2 H1 → va_S (AX ad ad2 sz) H0 H1 locs1 → W p l e R s m args below meth c H1 locs1 cells slots Q (F0 m (pc + 1) ls rest)) : W p l e R s m args below meth c H locs cells slots Q (F0 m pc ls (.int x :: .int (nI k) :: .ref (ad (16 + h)) :: rest)) := by
  refine xq_iast hexec hb hK (hW.2.1.2.2.2.2.2 h (by omega)) hS (Or.inl ⟨16 + h, by omega, rfl⟩) 0 rfl (vp_in_nI hk (by omega)) hdg (fun H1 locs1 e1 e3 hS1 => ?_)
  rw [nI_clamp (show k < 2 ^ 31 by omega), rArr_upd] at e1
  have hV1 := CV.setR hI.1 hW.2.1 (by omega) e1 e3
  rw [wmx_w (wact_r hh hn)] at hV1
  exact kk H1 locs1 (hW.main hI hV1 (fun q _ hq => e3 q (fun z => hq ⟨16 + h, by omega, z⟩))) hS1
end YR
section YC
variable {p : Program} {l : Launch} {e : Env} {R : Room} {s : State} {m : MethodId} {args : Array Value} {below : List Frame} {meth : Method} {c : Code} {H : Heap} {locs : List Loc} {cells slots : Nat} {Q : State → Prop}
variable {pc : Nat} {ls : Array Slot} {rest st0 : List Value} {a : Array Value} {A0 A1 : Nat → Prop} {H0 : Heap} {mc ms : Nat} {free : Addr → Prop} {B BX : Heap → Prop} {AX9 : Nat → Prop} {P : Prop} {PX : String → Prop}
/-- a call that gives nothing or throws -/
theorem kXv (hr : vx_Run p l e R s m args below meth c H locs cells slots mc ms (F0 m pc ls st0) rest (Qxv P B A1 a) (Xx PX BX AX9) free) (hS : va_S A0 H0 H locs) (hA : ∀ q, A1 q → A0 q) (hf : ∀ q, free q → A0 q) (hAX : ∀ q, AX9 q → A0 q)
    (kx : ∀ (E : String) (ce : Cell) (q9 : Addr) (H1 : Heap) (locs1 : List Loc), PX E → BX H1 → (∀ q : Nat, q < H.size → ¬ AX9 q → H1[q]? = H[q]?) → va_S A0 H0 H1 locs1 → H1[q9]? = some ce → ce.vm = .none → s.vm.findClass E = some ce.cls → vx_W p l e R s m args below meth c H1 locs1 (cells + mc) (slots + ms) Q (F0 m pc ls rest) q9)
    (kk : ∀ (H1 : Heap) (locs1 : List Loc), P → B H1 → (∀ q : Nat, q < H.size → ¬ A1 q → H1[q]? = H[q]?) → va_S A0 H0 H1 locs1 → W p l e R s m args below meth c H1 locs1 (cells + mc) (slots + ms) Q (F0 m (pc + 3) ls rest)) : W p l e R s m args below meth c H locs cells slots Q (F0 m pc ls st0) := by
  refine vx_callv hr hS (fun q _ h => hA q h) hf (fun q _ h => hAX q h) (fun E ce q9 u t H1 locs1 ht hvm hp hB hz hk hS1 hc hv hcl => ?_) (fun u t H1 locs1 ht hvm hp hB hz hk hS1 => ?_)
  · have hB2 := hB.2
    rw [ht] at hB2
    exact kx E ce q9 H1 locs1 hB.1 hB2 hk hS1 hc hv hcl
  · rw [ht] at hB
    exact kk H1 locs1 hp hB hk hS1
end YC
section YE
variable {p : Program} {l : Launch} {e : Env} {R : Room} {s : State} {m : MethodId} {args : Array Value} {below : List Frame} {meth : Method} {c : Code} {H : Heap} {locs : List Loc} {cells slots : Nat}
variable {cc : ByteArray} {pc : Nat} {ls : Array Slot} {rest : List Value} {A free : Nat → Prop} {B BX : Heap → Prop} {XC : String → State → State → Prop} {mc ms : Nat} {Qc : Array Value → State → Outcome → State → Prop}
theorem yI {P : Prop} {v w : Int32} (hexec : p.tables.exec = Jvm.exec) (hb : c.code = cc) (hr : meth.sig.returnType = some .int) (hlocks : meth.locks = false) (hP : P) (hB : B H) (hS : va_S A s.heap H locs) (hv : v = w) (hc : cells ≤ mc) (hs : slots ≤ ms) (hdg : decode cc pc = .ok (.ireturn, 1)) :
    W p l e R s m args below meth c H locs cells slots (vx_MQ below (Qxi P w B A) XC args s mc ms A) (F0 m pc ls [.int v]) := by
  subst hv
  exact W.widen hc hs (vx_ret (W.iret hexec hb hr (fun t ht hW => ⟨⟨_, (), rfl, ⟨hP, rfl⟩, by show B t.heap; rw [ht]; exact hB⟩, hS.F ht⟩) hS.2.2 hdg))
theorem yV {P : Prop} (hexec : p.tables.exec = Jvm.exec) (hb : c.code = cc) (hr : meth.sig.returnType = none) (hlocks : meth.locks = false) (hP : P) (hB : B H) (hS : va_S A s.heap H locs) (hc : cells ≤ mc) (hs : slots ≤ ms) (hdg : decode cc pc = .ok (.return_, 1)) :
    W p l e R s m args below meth c H locs cells slots (vx_MQ below (Qxv P B A) XC args s mc ms A) (F0 m pc ls []) :=
  W.widen hc hs (vx_ret (W.vret hexec hb hr (fun t ht hW => ⟨⟨(), rfl, hP, by show B t.heap; rw [ht]; exact hB⟩, hS.F ht⟩) hS.2.2 hdg))
/-- not caught here -/
theorem yO {PX : String → Prop} {E : String} {ce : Cell} {q : Addr} (ht : ∀ x ∈ c.exceptionTable.toList, False) (hlocks : meth.locks = false) (hP : PX E) (hB : BX H) (hS : va_S A s.heap H locs) (hcell : H[q]? = some ce) (hv : ce.vm = .none) (hcl : s.vm.findClass E = some ce.cls) (hc : cells ≤ mc) (hs : slots ≤ ms) :
    vx_W p l e R s m args below meth c H locs cells slots (vx_MQ below Qc (Xx PX BX A) args s mc ms A) (F0 m pc ls rest) q :=
  vx_out (fun x hx => (ht x hx).elim) hlocks hcell hv hcl (fun t ht9 hvm => ⟨(), trivial, ⟨hP, by show BX t.heap; rw [ht9]; exact hB⟩, hS.F ht9⟩) hS.2.2 hc hs
end YE
