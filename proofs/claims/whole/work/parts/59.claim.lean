/-! THE CLAIM OUT OF ONE WALK OF THE LAW'S BODY. Your part is whole_start (and what it stands on); all else here is the same for every law, but numbers. -/
def R_law : String := "PumpRosterLaw"
def lw_P (b : Addr) (xs : List Int32) (args : Array Value) (s : State) : Prop := args = #[.ref b] ∧ s.IntsAt b xs ∧ xs.length ≤ 2048 ∧ (Jvm.Cond.and given_1 narrow_1).before args s = true
/-- what a walk over the start with the record d0 says of its end, said of the start itself -/
theorem lw_closed {s t : State} {o : Outcome} {d0 : Drawn} {L : List Loc} {k n : Nat} (hd0 : s.drawn.sameBut d0 lw_cs) (hv : ∃ v, o = .returned v) (hW : (s.setDrawn d0).WarmedH t.vm) (hs : (s.setDrawn d0).sameButNew ({ t with vm := s.vm } : State) L k n) : State.butDraws s t lw_cs (fun t1 => Framed s o t1 L k n) := by
  have h2 : t.drawn = d0 := congrArg State.drawn hs.1
  refine ⟨⟨hv, hW, State.sameButNew.setDrawn hs s.drawn⟩, ?_, by decide⟩
  rw [h2]
  exact hd0
def lw_Q (_ : Array Value) (s : State) (o : Outcome) (t : State) : Prop := o = .returned (some (.int 1)) ∧ State.butDraws s t lw_cs (fun t1 => Framed s o t1 [] 601024 7293034)
def lw_Z (below : List Frame) (a : Array Value) (s : State) : State → Prop := fun t => ∃ o, t.status = .running ∧ Ended t below o ∧ lw_Q a s o t
/-- the law's own end, with 1 on the stack, nothing written that was there before, its room as the claim has it; d0: the record of draws at this point (at the entry s.drawn: begin with 'refine W.base ?_' and 'have hd0 := Drawn.sameBut.refl s.drawn lw_cs') -/
theorem lw_ret {p : Program} {l : Launch} {e : Env} {s : State} {m : MethodId} {below : List Frame} {meth : Method} {c : Code} {b : Nat} {d0 : Drawn} (hd0 : s.drawn.sameBut d0 lw_cs) (hx : p.tables.exec = Jvm.exec) (hb : c.code = code) (hr : meth.sig.returnType = ret) (hlocks : meth.locks = false) {pc : Nat} {H : Heap} {ls : Array Slot} (hdg : decode code pc = .ok (.ireturn, 1)) : W p l e room_1 (s.setDrawn d0) m #[Value.ref b] below meth c H [] 601024 7293034 (lw_Z below #[Value.ref b] s) (F0 m pc ls [.int 1]) := by
  intro T hT X
  obtain ⟨fs, hret, hrun, hended, hW, hframe⟩ := X.leave (v := some (.int 1)) (hlocks := hlocks) (fun h => by rw [hr] at h; cases h)
  have hmeth' : T.vm.method? m = some meth := X.method'
  refine ⟨T.setFrames fs, ?_, .returned (some (.int 1)), hrun, hended, rfl, lw_closed hd0 ⟨_, rfl⟩ hW hframe⟩
  jvm_step X.here [X.here.top, hx, hb, hdg, hmeth', hr, ret, narrow_b1]
  (try refine ⟨rfl, ?_⟩); (try refine ⟨rfl, ?_⟩)
  first | (intro acts; rw [hret _ acts rfl rfl rfl]) | rw [hret _ _ rfl rfl rfl]
  exact Steps.refl _
/-- what holds at the law's entry: the machine, the code, the tables' words (any of lw_tbl by 'hts w (by decide +kernel)'), the script of L ints xs at the cell b, what the Statement gives of the start (any of its parts by flat_of_before) -/
def lw_At (p : Program) (s : State) (m : MethodId) (meth : Method) (c : Code) (b L : Nat) (xs : Nat → Int32) : Prop :=
  p.tables.exec = Jvm.exec ∧ c.code = code ∧ meth.sig.returnType = ret ∧ c.maxLocals = 9 ∧ s.vm.findClass R_law = some m.cls ∧ (∀ w ∈ lw_tbl, w.before #[Value.ref b] s = true) ∧ va_X b L xs s s.heap ∧ b < s.heap.size ∧ meth.locks = false ∧ (Jvm.Cond.and given_1 narrow_1).before #[Value.ref b] s = true

set_option maxHeartbeats 4000000 in
set_option maxRecDepth 100000 in
theorem law_loop {p : Program} {l : Launch} {e : Env} {s : State} {m : MethodId} {below : List Frame} {meth : Method} {c : Code} {b L : Nat} {xs : Nat → Int32} {G : wG} {cL : ClassId} {xa ma o9 pa : Nat} {ad ad2 bd bd2 : Nat → Nat} {d0 : Drawn} (hd0 : s.drawn.sameBut d0 lw_cs) (hr : meth.sig.returnType = ret) (hlocks : meth.locks = false) (CC : LwS p l (s.setDrawn d0) m c b L xs G cL xa ma o9 pa ad ad2 bd bd2) :
    ∀ j, j ≤ L / 4 → ∀ (H : Heap) (locs : List Loc) (ls : Array Slot), (LI G cL xa ma o9 ad ad2 bd bd2 j H ∧ va_S (fun q : Nat => (s.setDrawn d0).heap.size ≤ q) (s.setDrawn d0).heap H locs ∧ lv_has ls 9 [(0, .ref b), (1, .ref xa), (2, .ref ma), (3, .ref o9), (4, .int (nI (4 * j)))]) → W p l e room_1 (s.setDrawn d0) m #[Value.ref b] below meth c H locs (53 + j * 14) (804 + j * 124) (lw_Z below #[Value.ref b] s) (F0 m 23 ls []) := by
  refine W_upc (cells := 53) (slots := 804) 14 124 (L / 4) (fun j H locs ls => LI G cL xa ma o9 ad ad2 bd bd2 j H ∧ va_S (fun q : Nat => (s.setDrawn d0).heap.size ≤ q) (s.setDrawn d0).heap H locs ∧ lv_has ls 9 [(0, .ref b), (1, .ref xa), (2, .ref ma), (3, .ref o9), (4, .int (nI (4 * j)))]) ?_
  intro j H locs ls hj ⟨hLI, hS, hl⟩ ih
  obtain ⟨hx, hb, hml, hown, hts, hX, hbl, hL, -⟩ := id CC
  have hbA : ¬ (fun q : Nat => (s.setDrawn d0).heap.size ≤ q) b := Nat.not_le.mpr hbl
  refine lv_iload hx hb dL_law_23 (lv_at hl 4 rfl) ?_
  refine lv_aload_n hx hb dL_law_25 rfl (lv_at hl 0 rfl) ?_
  refine va_slen hx hb hX hbl hbA hS dL_law_26 ?_
  refine lv_iconst (v := 4) hx hb dL_law_27 (by decide) ?_
  refine lv_isub hx hb dL_law_28 ?_
  refine lv_icmp_gt (tgt := 1333) hx hb dL_law_29 (by decide) (fun c9 => ?_) (fun c9 => ?_)
  · refine lv_iconst (v := 1) hx hb dL_law_1333 (by decide) ?_
    refine va_forget (fun q hq => hS.2.2 q hq) ?_
    refine W.widen (k := 601024) (n := 7293034) (by omega) (by omega) ?_
    exact lw_ret hd0 hx hb hr hlocks dL_law_1334
  · have hlt : 4 * j + 4 ≤ L := by
      have e : (nI L - 4 : Int32).toInt = (L : Int) - 4 := pk_sub_toInt (a := L) (b := 4) (by omega) (by omega)
      have c8 : ¬ (nI L - 4 < nI (4 * j)) := c9
      rw [Int32.lt_iff_toInt_lt, e, nI_toInt (by omega)] at c8
      omega
    refine law_step CC hlt hLI hS hl (by omega) (by omega) (fun H1 locs1 ls1 hLI hS hl => ?_)
    refine lv_iinc (k := 4) (v := nI (4 * (j + 1))) (lv' := [(4, .int (nI (4 * (j + 1)))), (0, .ref b), (1, .ref xa), (2, .ref ma), (3, .ref o9)]) hx hb dL_law_1327 hl rfl ((nI_add (4 * j) 4).trans (by rw [Nat.mul_succ])) (by decide) rfl (fun ls hl => ?_)
    refine lv_goto (tgt := 23) hx hb dL_law_1330 (by decide) ?_
    refine W.widen (k := 53 + (j + 1) * 14) (n := 804 + (j + 1) * 124) (by omega) (by omega) ?_
    exact ih (by omega) _ _ _ ⟨hLI, hS, lv_sub hl [1, 2, 3, 4, 0] rfl⟩

set_option maxHeartbeats 4000000 in
set_option maxRecDepth 100000 in
theorem whole_start {p : Program} {e : Env} {s : State} {m : MethodId} {below : List Frame} {meth : Method} {c : Code} (l : Launch) (hflags : l.flags = flags0) {b L : Nat} {xs : Nat → Int32} (hL : L ≤ 2048) (C0 : lw_At p s m meth c b L xs) : W p l e room_1 s m #[Value.ref b] below meth c s.heap [] 0 0 (lw_Z below #[Value.ref b] s) (entryFrame m ([Value.ref b] : List Value).toArray 9) := by
  obtain ⟨hx, hb, hr, hml, hown, hts0, hX, hbl, hlocks, hgv⟩ := C0
  obtain ⟨G, cL, pa, hKL, hXK, hNc, hN, hPL, hX2, hX5⟩ := law_tables hts0 hgv
  have hK := hKL.k
  have hts : ∀ w ∈ wsL_law, w.before #[Value.ref b] s = true := fun w h => hts0 w (wsL_law_in w h)
  have hown : s.vm.findClass RL = some m.cls := hown
  have hfl : l.stackTraces = false := by
    unfold Launch.stackTraces
    rw [hflags]
    decide +kernel
  have hS : va_S (fun q : Nat => s.heap.size ≤ q) s.heap s.heap [] := va_S.rf
  have hl := lv_entry ([.ref b]) (n := 9) (Nat.le_of_ble_eq_true rfl)
  rw [lg_entry_eq]
  generalize (lg_sl ([.ref b]) ++ List.replicate (9 - (lg_sl ([.ref b])).length) Slot.unset).toArray = ls at hl ⊢
  have hl : lv_has ls 9 [(0, .ref b)] := hl
  refine nwO (ci := 3) (C := RX3) (T := TX3) (N := 2) (fs := zX) hx hb hts inlX3 tyX3 tyX3_ok hown (hts0 (.classLink RL 8 RX3) (by decide +kernel)) (hts0 (.instantiable RX3 2) (by decide +kernel)) (hts0 (.initialized RX3) (by decide +kernel)) hK hS rfl (fun j hj => by rcases (show j = 0 ∨ j = 1 by omega) with rfl | rfl <;> rfl) (Nat.le_of_ble_eq_true rfl) (Nat.le_of_ble_eq_true rfl) dL_law_0 (fun n0 H hn0 h00 hN0 hk9 hS => ?_)
  refine lv_dup hx hb dL_law_3 rfl ?_
  have h9 : n0 < _ := hN0.lt
  refine kV (va_runI (As := []) (rest := [.ref n0]) ⟨hx, hb, hml, hown, hts⟩ (c_X3_init l G n0 H.size hN0.lt) (cwI 0 hts gL_law_X3_init rfl rfl rfl (hts0 (.initialized RX3) (by decide +kernel)) (hts0 (.methodLink RL 69 yX3_init) (by decide +kernel)) (hts0 (.instanceMethod yX3_init) (by decide +kernel)) rfl (by decide +kernel) ⟨Nat.le_of_ble_eq_true rfl, Nat.le_of_ble_eq_true rfl⟩) ⟨PcN.blind (fun _ _ hW h => h.warm hW), PcN.pre hN0 hK (fun _ hW => hX2.warm hW)⟩ rfl rfl hl.1 rfl (lv_room (Nat.le_of_ble_eq_true rfl)) dL_law_4 ⟨Nat.le_of_ble_eq_true rfl, Nat.le_of_ble_eq_true rfl⟩) hS (fun q h9 h => by show s.heap.size ≤ q; rcases h with h | h <;> omega) (fun q h => by have := hS.1; show s.heap.size ≤ q; rcases h with h | h; exact Nat.le_trans h00 (Nat.le_of_eq (Eq.symm h)); exact Nat.le_trans this h) (fun H locs hB hz hk hS => ?_)
  obtain ⟨ad, ad2, hXI, hga, hga2, hXW⟩ := hB
  refine lv_astore_n (lv' := [(1, .ref n0), (0, .ref b)]) hx hb dL_law_7 rfl hl (by decide) rfl (fun ls hl => ?_)
  refine nwO (ci := 5) (C := RX5) (T := TX5) (N := 3) (fs := zM) hx hb hts inlX5 tyX5 tyX5_ok hown (hts0 (.classLink RL 70 RX5) (by decide +kernel)) (hts0 (.instantiable RX5 3) (by decide +kernel)) (hts0 (.initialized RX5) (by decide +kernel)) hK hS rfl (fun j hj => by rcases (show j = 0 ∨ j = 1 ∨ j = 2 by omega) with rfl | rfl | rfl <;> rfl) (Nat.le_of_ble_eq_true rfl) (Nat.le_of_ble_eq_true rfl) dL_law_8 (fun n1 H hn1 h01 hN1 hk9 hS => ?_)
  have hb0 : n0 < n1 := by rw [← hn1]; exact hXW.1.lt
  have hb1 : ∀ k, k < 19 → ad k < n1 := fun k hk => by rw [← hn1]; exact hXW.2.1.lt hk
  have hb2 : ∀ k, k < 19 → ad2 k < n1 := fun k hk => by rw [← hn1]; exact hXW.2.2.lt hk
  have hXW := hXW.keptB hb0 hb1 hb2 (fun q hq => hk9 q (by rw [hn1]; exact hq))
  refine lv_dup hx hb dL_law_11 rfl ?_
  have h8 : n1 < _ := hN1.lt
  refine kV (va_runI (As := []) (rest := [.ref n1]) ⟨hx, hb, hml, hown, hts⟩ (c_X5_init l G n1 H.size hN1.lt) (cwI 0 hts gL_law_X5_init rfl rfl rfl (hts0 (.initialized RX5) (by decide +kernel)) (hts0 (.methodLink RL 72 yX5_init) (by decide +kernel)) (hts0 (.instanceMethod yX5_init) (by decide +kernel)) rfl (by decide +kernel) ⟨Nat.le_of_ble_eq_true rfl, Nat.le_of_ble_eq_true rfl⟩) ⟨PcN.blind (fun _ _ hW h => h.warm hW), PcN.pre hN1 hK (fun _ hW => hX5.warm hW)⟩ rfl rfl hl.1 rfl (lv_room (Nat.le_of_ble_eq_true rfl)) dL_law_12 ⟨Nat.le_of_ble_eq_true rfl, Nat.le_of_ble_eq_true rfl⟩) hS (fun q h9 h => by show s.heap.size ≤ q; rcases h with h | h <;> omega) (fun q h => by have := hS.1; show s.heap.size ≤ q; rcases h with h | h; exact Nat.le_trans h01 (Nat.le_of_eq (Eq.symm h)); exact Nat.le_trans this h) (fun H locs hB hz hk hS => ?_)
  obtain ⟨bd, bd2, hMI, hgb, hgb2, hMW⟩ := hB
  have hXW := hXW.keptB hb0 hb1 hb2 (fun q hq => hk q (Nat.lt_trans hq h8) (fun hh => by rcases hh with hh | hh <;> omega))
  refine lv_astore_n (lv' := [(2, .ref n1), (1, .ref n0), (0, .ref b)]) hx hb dL_law_15 rfl hl (by decide) rfl (fun ls hl => ?_)
  refine lv_iconst (v := 1) hx hb dL_law_16 (by decide) ?_
  refine nwL hx hb (hts0 (.arrayClass .long) (by decide +kernel)) hKL hS (Nat.le_of_ble_eq_true rfl) (Nat.le_of_ble_eq_true rfl) dL_law_17 (fun o9 H hn2 h02 hO hk9 hS => ?_)
  have hc0 : n1 < o9 := by rw [← hn2]; exact hMW.1.lt
  have hc1 : ∀ k, k < 6 → bd k < o9 := fun k hk => by rw [← hn2]; exact hMW.2.1.lt hk
  have hc2 : ∀ k, k < 6 → bd2 k < o9 := fun k hk => by rw [← hn2]; exact hMW.2.2.lt hk
  have hMW := hMW.kept hk9
  have hXW := hXW.keptB hb0 hb1 hb2 (fun q hq => hk9 q (by rw [hn2]; omega))
  refine lv_astore_n (lv' := [(3, .ref o9), (2, .ref n1), (1, .ref n0), (0, .ref b)]) hx hb dL_law_19 rfl hl (by decide) rfl (fun ls hl => ?_)
  refine lv_iconst (v := nI (4 * 0)) hx hb dL_law_20 (by decide) ?_
  refine lv_istore (lv' := [(4, .int (nI (4 * 0))), (3, .ref o9), (2, .ref n1), (1, .ref n0), (0, .ref b)]) hx hb dL_law_21 hl (by decide) rfl (fun ls hl => ?_)
  have hF : LF n0 n1 o9 s.heap.size ad ad2 bd bd2 := ⟨hXI, hMI, hb0, fun k hk => ⟨⟨by have := hga k hk; omega, hb1 k hk⟩, by have := hga2 k hk; omega, hb2 k hk⟩, h01, hc0, fun k hk => ⟨⟨by have := hgb k hk; omega, hc1 k hk⟩, by have := hgb2 k hk; omega, hc2 k hk⟩⟩
  have CC : LwS p l s m c b L xs G cL n0 n1 o9 pa ad ad2 bd bd2 := ⟨hx, hb, hml, hown, hts, hX, hbl, hL, hfl, hKL, hXK, hNc, hN, hPL, hF⟩
  have hLI : LI G cL n0 n1 o9 ad ad2 bd bd2 0 H := ⟨0, 0, dR, dR, 0, 0, ⟨by omega, by omega, rfl, rfl, fun h hh => absurd hh (by omega), fun p hp => absurd hp (by omega)⟩, fun h hh => absurd hh (by omega), ⟨dC, by rw [wmx_dCR]; exact hXW, fun i _ => ⟨rfl, rfl⟩⟩, ⟨dR, by rw [wmx_self]; exact hMW, fun i _ => ⟨rfl, rfl⟩⟩, hO⟩
  have hd0 := Drawn.sameBut.refl s.drawn lw_cs
  refine W.widen (k := 53 + 0 * 14) (n := 804 + 0 * 124) (Nat.le_of_ble_eq_true rfl) (Nat.le_of_ble_eq_true rfl) ?_
  refine W.base ?_
  exact law_loop (d0 := s.drawn) hd0 hr hlocks CC 0 (Nat.zero_le _) H _ ls ⟨hLI, hS, lv_sub hl [4, 3, 2, 1, 0] rfl⟩

set_option maxHeartbeats 4000000 in
theorem lw_walk (l : Launch) (hflags : l.flags = flags0) (b : Addr) (xs : List Int32) : MetFree l x (headSpec (Jvm.Cond.code x code maxLocals ret :: tables_1) room_1) (lw_P b xs) (fun _ _ _ _ _ => True) lw_Q := by
  refine MetFree.of_bodyS (code := code) (maxLocals := maxLocals) (ret := ret) (by decide) ?_ ?_
  · intro args s m h hn
    obtain ⟨meth, c, h1, h2, h3, h4, h5, h6, -, -⟩ := Cond.code_spec hn (atoms_spec (ws := Jvm.Cond.code x code maxLocals ret :: tables_1) h _ List.mem_cons_self)
    exact ⟨meth, c, h1, h2, h3, h4, h5, h6⟩
  · intro p e s m args below meth c s₁ B hml0 hP _
    obtain ⟨rfl, hx, hbd, hgv⟩ := hP
    obtain ⟨scr, harrAt, hlist, hof, hsmall⟩ := hx
    obtain ⟨hcb, hkn, -, -⟩ := State.arrayAt?_spec harrAt
    have hown : s.vm.findClass R_law = some m.cls := findClass_of_methodNamed B.named
    have hts0 : ∀ c ∈ (Jvm.Cond.code x code maxLocals ret :: tables_1), c.before #[Value.ref b] s = true := atoms_spec (ws := Jvm.Cond.code x code maxLocals ret :: tables_1) B.pre
    have hts : ∀ w ∈ lw_tbl, w.before #[Value.ref b] s = true := k2_hts_sels lw_privs (fun w hw => hts0 w (List.mem_cons_of_mem _ hw)) lw_privs_ok
    have hml : c.maxLocals = 9 := B.maxLocals_eq (hts0 _ List.mem_cons_self)
    have X₀ : Stand p l e room_1 s m #[Value.ref b] below meth c s₁ [] 0 0 := Stand.of_body B
    have hh0 : s₁.heap = s.heap := by rw [B.state]; rfl
    have hsz : scr.slots.size = xs.length := by rw [← Array.length_toList, hlist, List.length_map]
    have hval : ∀ j : Nat, j < xs.length → scr.slots[j]? = some (.int (xs.getD j 0)) := fun j hj => by
      rw [← Array.getElem?_toList, hlist]
      simp [hj]
    have hbl : b < s.heap.size := (Array.getElem?_eq_some_iff.mp hcb).1
    have hX : va_X b xs.length (fun j => xs.getD j 0) s s.heap := ⟨scr, hcb, hof, hkn, hsz, hval⟩
    have K : W p l e room_1 s m #[Value.ref b] below meth c s₁.heap [] 0 0 (lw_Z below #[Value.ref b] s) (entryFrame m ([Value.ref b] : List Value).toArray 9) := by
      rw [hh0]
      exact whole_start l hflags hbd ⟨B.exec, B.bytes, B.returns, hml, hown, hts, hX, hbl, B.notSynchronized, hgv⟩
    obtain ⟨t, a1, o, b1, b2, b3⟩ := K s₁ rfl X₀
    exact ⟨t, o, a1, b1, b2, b3⟩
theorem lw_pre_spec {args : Array Value} {s : State} (h : (Jvm.Cond.and given_1 narrow_1).before args s = true) (hr : rest_1_c.before args s = true) : ∃ (b : Addr) (xs : List Int32), lw_P b xs args s := by
  have hs := flat_of_before _ h
  have hq := flat_of_before _ hr
  have hc : (Cond.count 1).before args s = true := hs _ (by decide +kernel)
  have harr : (Cond.arrayOf (.arg 0) .int).before args s = true := hs _ (by decide +kernel)
  have hle : (Cond.le (.length (.arg 0)) (.int 2048)).before args s = true := hs _ (by decide +kernel)
  have hlen : (Cond.isInt (.length (.arg 0))).before args s = true := hq _ (by decide +kernel)
  have hall : (Cond.all (.arg 0) (.isInt (.elem (.arg 0) (.index 0)))).before args s = true := hq _ (by decide +kernel)
  obtain ⟨b, xs, hb, hx⟩ := State.ints_of_pre rfl harr hlen hall
  have hsm : xs.length < 2 ^ 31 := hx.choose_spec.2.2.2
  have hev : (Term.length (.arg 0)).eval args s none [] s = some (.int xs.length.toInt32) := hx.length_eval hb
  have hv := Cond.le_ints hev (show (Term.int 2048).eval args s none [] s = some (.int 2048) from rfl)
  have hd : xs.length.toInt32 ≤ 2048 := by
    simpa [Cond.before, Cond.holds, hv] using hle
  have hN : xs.length ≤ 2048 := (Int32.ofNat_le_ofNat hsm (by decide)).mp (show Int32.ofNat xs.length ≤ Int32.ofNat 2048 from hd)
  exact ⟨b, xs, Cond.one_arg hc (show args[0]? = some (.ref b) from hb), hx, hN, h⟩
theorem lw_comes (l : Launch) (hflags : l.flags = flags0) : Comes l x (Jvm.Cond.code x code maxLocals ret :: tables_1) room_1 (fun tb e args s => Calls_1 tb e args s ∧ rest_1 tb e args s ∧ Pre_1 tb e args s)
    (fun _ _ args s o t => lw_Q args s o t) := by
  intro p e ha hc hk s m args below hf hfit hheap happ hpre
  obtain ⟨b, xs, hP⟩ := lw_pre_spec hpre.2.2 hpre.2.1
  obtain ⟨k, o, h1, h2, h3, hQ⟩ := lw_walk l hflags b xs p e ha hc hk s m args below hf ((Spec.applies_iff_loose hf).mp happ).1 hP trivial
  exact ⟨k, o, h1, h2, h3, hQ⟩
theorem lw_frame {s t : State} {o : Outcome} {args : Array Value} (h : State.butDraws s t lw_cs (fun t1 => Framed s o t1 [] 601024 7293034)) :
    State.butDraws s t [Jvm.Choice.named "NaN.bits"] (fun t1 => Framed s o t1 (fieldLocs frame_1_writes args s ++ arrayLocs frame_1_arrays args s ++ staticLocs frame_1_statics s) 601024 7293034) := h
theorem lw_limb (L : Cond) (hL : ∀ (args : Array Value) (s t : State), L.after args s (.returned (some (.int 1))) t = true) :
    ArmFor flags0 classFile x code maxLocals ret World_1 tables_1 room_1 Calls_1 rest_1 Pre_1
      (fun tb e a s o t => postC L tb e a s o t ∧ State.butDraws s t [Jvm.Choice.named "NaN.bits"] (fun t1 => Framed s o t1 (fieldLocs frame_1_writes a s ++ arrayLocs frame_1_arrays a s ++ staticLocs frame_1_statics s) 601024 7293034)) := by
  intro l hflags _ _ p e ha hc hk s m args below hf hfit hheap happ hpre
  obtain ⟨k, o, h1, h2, h3, rfl, hF⟩ := lw_comes l hflags p e ha hc hk s m args below hf hfit hheap happ hpre
  exact ⟨k, _, h1, h2, h3, hL args s _, lw_frame hF⟩
theorem i_vc : Claimed_1_1 ∧ Claimed_1_2 := ⟨lw_limb limb_1_1 (fun args s t => by simp [limb_1_1, Cond.after, Cond.holds, Cond.value]), lw_limb limb_1_2 (fun args s t => Cond.after_iff.mpr (by
  first | (rw [show limb_1_2 = Cond.eq .result (.int 1) from rfl, Cond.eq_ints (x := 1) (y := 1) rfl rfl]; simp; done) | (simp [limb_1_2, Cond.value, Term.eval]; done)))⟩
