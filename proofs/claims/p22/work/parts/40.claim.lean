set_option maxHeartbeats 4000000 in
theorem lw_step {p : Program} {l : Launch} {e : Env} {s : State} {m : MethodId} {below : List Frame} {meth : Method} {c : Code} {b L : Nat} {xs : Nat → Int32} {G : wG} {xa : Nat} {ad ad2 : Nat → Nat} {Q : State → Prop} (CC : LwS p l s m c b L xs G xa ad ad2) {nH nP d time : Nat} {τ : wS} (hq : LQ nH nP d τ) (ht : time < 45) (hd : d ≤ 3 * time) (h1H : 1 ≤ nH) (h1P : 1 ≤ nP) {H : Heap} {locs : List Loc} {cells slots : Nat} {ls : Array Slot} (hW : (∃ z, XWz G xa ad ad2 (wmx nH nP dC τ) z H)) (hS : va_S (fun q : Nat => s.heap.size ≤ q) s.heap H locs) (hl : lv_has ls 24 [(0, .ref b), (1, .ref xa), (2, .int (nI nH)), (3, .int (nI nP)), (4, .int (nI time))]) (hc : cells + 415 ≤ 702924) (hs : slots + 2490 ≤ 6992697)
    (kk : ∀ (H1 : Heap) (locs1 : List Loc) (ls1 : Array Slot) (τ1 : wS) (d1 : Nat), d1 ≤ 3 * (time + 1) → LQ nH nP d1 τ1 → (∃ z, XWz G xa ad ad2 (wmx nH nP dC τ1) z H1) → va_S (fun q : Nat => s.heap.size ≤ q) s.heap H1 locs1 → lv_has ls1 24 [(0, .ref b), (1, .ref xa), (2, .int (nI nH)), (3, .int (nI nP)), (4, .int (nI (time + 1)))] → W p l e room_1 s m #[Value.ref b] below meth c H1 locs1 (cells + 415) (slots + 2490) Q (F0 m 29 ls1 [])) : W p l e room_1 s m #[Value.ref b] below meth c H locs cells slots Q (F0 m 36 ls []) := by
  refine sg_A CC hq ht (by omega) h1H h1P hW hS hl (by omega) (by omega) (fun x5 hh τ1 H locs ls hhh hq1 hW hS hl => ?_)
  refine sg_B CC hq1 ht (by omega) hhh hW hS hl (by omega) (by omega) (fun dd H locs ls hd1 hd3 hW hS hl => ?_)
  refine sg_C CC hq1 hW hS hl (by omega) (by omega) (fun H locs ls hW hS hl => ?_)
  refine sg_D CC hq1 hd1 hd3 hW hS hl (by omega) (by omega) (fun H locs ls hW hS hl => ?_)
  have hq2 := hq1.dys (n := dd) (by omega)
  refine sg_E CC hq2 hW hS hl (by omega) (by omega) (fun H locs ls hW hS hl => ?_)
  refine sg_F CC hq2 ?_ (water_ok (n := dd) hq1 (by omega)) ?_ rfl hW hS (lv_sub hl [0, 1, 2, 3, 4, 5, 6, 7, 8, 9, 10, 14, 11, 12, 13, 15, 16] rfl) (by omega) (by omega) (fun H locs ls hW hS hl => ?_)
  · rw [saF_eq, sbF_eq]
    grind
  · grind
  refine sg_G CC hq2 (by omega) hW hS hl (by omega) (by omega) (fun H locs ls hW hS hl => ?_)
  refine sg_H CC hq2 (by omega) rfl hW hS hl (by omega) (by omega) (fun H locs ls hW hS hl => ?_)
  refine W.widen (k := cells + 415) (n := slots + 2490) (by omega) (by omega) ?_
  exact kk _ _ _ _ _ (by omega) hq2 hW hS hl
set_option maxHeartbeats 4000000 in
set_option maxRecDepth 100000 in
theorem lw_loop {p : Program} {l : Launch} {e : Env} {s : State} {m : MethodId} {below : List Frame} {meth : Method} {c : Code} {b L : Nat} {xs : Nat → Int32} {G : wG} {xa : Nat} {ad ad2 : Nat → Nat} {Q : State → Prop} (CC : LwS p l s m c b L xs G xa ad ad2) {nH nP : Nat} (h1H : 1 ≤ nH) (h1P : 1 ≤ nP)
    (kk : ∀ (H1 : Heap) (locs1 : List Loc) (ls1 : Array Slot), va_S (fun q : Nat => s.heap.size ≤ q) s.heap H1 locs1 → W p l e room_1 s m #[Value.ref b] below meth c H1 locs1 (300 + 45 * 415) (2000 + 45 * 2490) Q (F0 m 852 ls1 [])) :
    ∀ time, time ≤ 45 → ∀ (H : Heap) (locs : List Loc) (ls : Array Slot), (fun time H locs ls => (∃ τ d, d ≤ 3 * time ∧ LQ nH nP d τ ∧ (∃ z, XWz G xa ad ad2 (wmx nH nP dC τ) z H)) ∧ va_S (fun q : Nat => s.heap.size ≤ q) s.heap H locs ∧ lv_has ls 24 [(0, .ref b), (1, .ref xa), (2, .int (nI nH)), (3, .int (nI nP)), (4, .int (nI time))]) time H locs ls → W p l e room_1 s m #[Value.ref b] below meth c H locs (300 + time * 415) (2000 + time * 2490) Q (F0 m 29 ls []) := by
  refine W_upc (cells := 300) (slots := 2000) 415 2490 45 (fun time H locs ls => (∃ τ d, d ≤ 3 * time ∧ LQ nH nP d τ ∧ (∃ z, XWz G xa ad ad2 (wmx nH nP dC τ) z H)) ∧ va_S (fun q : Nat => s.heap.size ≤ q) s.heap H locs ∧ lv_has ls 24 [(0, .ref b), (1, .ref xa), (2, .int (nI nH)), (3, .int (nI nP)), (4, .int (nI time))]) ?_
  intro time H locs ls ht ⟨⟨τ, d, hd, hq, hW⟩, hS, hl⟩ ih
  obtain ⟨hx, hb, hml, hown, hts, -⟩ := id CC
  refine lv_iload hx hb dL_law_29 (lv_at hl 4 rfl) ?_
  refine lv_bipush (v := nI 45) hx hb dL_law_31 (by decide) ?_
  refine lv_icmp_ge (tgt := 852) hx hb dL_law_33 (by decide) (fun c => ?_) (fun c => ?_)
  · skip
    replace c := (nI_leI (a := 45) (b := time) (by omega) (by omega)).mp c
    obtain rfl : 45 = time := by omega
    exact kk _ _ _ hS
  · skip
    replace c : ¬ (45 ≤ time) := fun q => c ((nI_leI (a := 45) (b := time) (by omega) (by omega)).mpr q)
    refine lw_step CC hq (by omega) hd h1H h1P hW hS (lv_sub hl [0, 1, 2, 3, 4] rfl) (by omega) (by omega) (fun H locs ls τ d hd hq hW hS hl => ?_)
    refine W.widen (k := 300 + (time + 1) * 415) (n := 2000 + (time + 1) * 2490) (by omega) (by omega) ?_
    exact ih (by omega) _ _ _ ⟨⟨_, _, hd, hq, hW⟩, hS, hl⟩
set_option maxHeartbeats 8000000 in
set_option maxRecDepth 100000 in
theorem lw_start {p : Program} {l : Launch} {e : Env} {s : State} {m : MethodId} {below : List Frame} {meth : Method} {c : Code} {b L : Nat} {xs : Nat → Int32} {G : wG} {Q : State → Prop} (hx : p.tables.exec = Jvm.exec) (hb : c.code = cL_law) (hml : c.maxLocals = 24) (hown : s.vm.findClass RL = some m.cls) (hts : ∀ w ∈ wsL_law, w.before #[Value.ref b] s = true) (hX : va_X b L xs s s.heap) (hbl : b < s.heap.size) (hL : L ≤ 260) (hfl : l.stackTraces = false) (hK : wK G s) (hXK : XK (fun q : Nat => s.heap.size ≤ q) s) (hX2 : XN2 s) (htab : c.exceptionTable.toList = [(⟨166, 182, 185, 31⟩ : ExceptionTableEntry)])
    (kk : ∀ (H1 : Heap) (locs1 : List Loc) (ls1 : Array Slot), va_S (fun q : Nat => s.heap.size ≤ q) s.heap H1 locs1 → W p l e room_1 s m #[Value.ref b] below meth c H1 locs1 (300 + 45 * 415) (2000 + 45 * 2490) Q (F0 m 852 ls1 [])) : W p l e room_1 s m #[Value.ref b] below meth c s.heap [] 0 0 Q (entryFrame m ([Value.ref b] : List Value).toArray 24) := by
  have hbA : ¬ (fun q : Nat => s.heap.size ≤ q) b := Nat.not_le.mpr hbl
  have hS : va_S (fun q : Nat => s.heap.size ≤ q) s.heap s.heap [] := va_S.rf
  have hl := lv_entry ([.ref b]) (n := 24) (Nat.le_of_ble_eq_true rfl)
  rw [lg_entry_eq]
  generalize (lg_sl ([.ref b]) ++ List.replicate (24 - (lg_sl ([.ref b])).length) Slot.unset).toArray = ls at hl ⊢
  have hl : lv_has ls 24 [(0, .ref b)] := hl
  refine nwO (ci := 3) (C := RX3) (T := TX3) (N := 2) (fs := zX) hx hb hts inlX3 tyX3 tyX3_ok hown (hts (.classLink RL 20 RX3) (by decide +kernel)) (hts (.instantiable RX3 2) (by decide +kernel)) (hts (.initialized RX3) (by decide +kernel)) hK hS rfl (fun j hj => by rcases (show j = 0 ∨ j = 1 by omega) with rfl | rfl <;> rfl) (Nat.le_of_ble_eq_true rfl) (Nat.le_of_ble_eq_true rfl) dL_law_0 (fun xa H hn0 h00 hN0 hk9 hS => ?_)
  refine lv_dup hx hb dL_law_3 rfl ?_
  have h9 : xa < _ := hN0.lt
  refine kV (va_runI (As := []) (rest := [.ref xa]) ⟨hx, hb, hml, hown, hts⟩ (c_X3_init l G xa H.size hN0.lt) (cwI 0 hts gL_law_X3_init rfl rfl rfl (hts (.initialized RX3) (by decide +kernel)) (hts (.methodLink RL 41 yX3_init) (by decide +kernel)) (hts (.instanceMethod yX3_init) (by decide +kernel)) rfl (by decide +kernel) ⟨Nat.le_of_ble_eq_true rfl, Nat.le_of_ble_eq_true rfl⟩) ⟨PcN.blind (fun _ _ hW h => h.warm hW), PcN.pre hN0 hK (fun _ hW => hX2.warm hW)⟩ rfl rfl hl.1 rfl (lv_room (Nat.le_of_ble_eq_true rfl)) dL_law_4 ⟨Nat.le_of_ble_eq_true rfl, Nat.le_of_ble_eq_true rfl⟩) hS (fun q h9 h => by show s.heap.size ≤ q; rcases h with h | h <;> omega) (fun q h => by have := hS.1; show s.heap.size ≤ q; rcases h with h | h; exact Nat.le_trans h00 (Nat.le_of_eq (Eq.symm h)); exact Nat.le_trans this h) (fun H locs hB hz hk hS => ?_)
  obtain ⟨ad, ad2, hXI, hga, hga2, hXW⟩ := hB
  have hF : ∀ k, k < 19 → s.heap.size ≤ ad k ∧ s.heap.size ≤ ad2 k := fun k hk => ⟨by have := hga k hk; omega, by have := hga2 k hk; omega⟩
  have hW : XWz G xa ad ad2 (wmx 0 0 dC dC) dC H := ⟨dC, by rw [wmx_dC0]; exact hXW, fun i _ => ⟨rfl, rfl⟩⟩
  have CC : LwS p l s m c b L xs G xa ad ad2 := ⟨hx, hb, hml, hown, hts, hX, hbl, hL, hfl, hK, hXK, hXI, hF, htab⟩
  have hsub : ∀ {n9 : Nat}, s.heap.size ≤ n9 → ∀ q, AX ad ad2 n9 q → s.heap.size ≤ q := fun h q hq => lw_sub hF h hq
  refine lv_astore_n (lv' := [(1, .ref xa), (0, .ref b)]) hx hb dL_law_7 rfl hl (by decide) rfl (fun ls hl => ?_)
  refine lv_aload_n hx hb dL_law_8 rfl (lv_at hl 0 rfl) ?_
  refine lv_aload_n hx hb dL_law_9 rfl (lv_at hl 1 rfl) ?_
  refine vx_callr (vx_runSX (As := [.ref xa, .ref b]) (rest := []) ⟨hx, hb, hml, hown, hts⟩ (c_L_village l hfl G xa ad ad2 hXI dC b L xs hL H.size (fun q => Nat.not_le.mpr hbl (lw_sub hF hS.1 q))) (vx_cwSW 2 hts gL_law_L_village rfl rfl rfl (by decide +kernel) ⟨Nat.le_of_ble_eq_true rfl, Nat.le_of_ble_eq_true rfl⟩) ⟨PcV.blind, PcV.pre hW hK hXK hX hbl hbA hS (hsub hS.1)⟩ rfl rfl hl.1 rfl (lv_room (Nat.le_of_ble_eq_true rfl)) dL_law_10 ⟨Nat.le_of_ble_eq_true rfl, Nat.le_of_ble_eq_true rfl⟩) hS (fun q _ h => hsub hS.1 q h) (hsub hS.1) (fun q _ h => h.elim) (fun E ce q9 u t H1 locs1 ht hvm hp hB hz hk hS1 hc hv hcl => hp.elim) (fun u ra t H locs ht hvm hp hB hz hk hS => ?_)
  rw [ht] at hB
  obtain ⟨nH, nP, τ, z, h1H, h1P, hq, hW⟩ := hB
  have hv := hq.1
  have hH := hv.1
  have hP := hv.2.1
  refine lv_pop hx hb dL_law_13 rfl ?_
  refine lv_aload_n hx hb dL_law_14 rfl (lv_at hl 0 rfl) ?_
  refine lv_iconst (v := nI 1) hx hb dL_law_15 (by decide) ?_
  refine kXi (vx_runV (As := [.int (nI 1)]) (rest := []) ⟨hx, hb, hml, hown, hts⟩ (c_X3_count l hfl G xa ad ad2 hXI nH nP hH hP dC τ z H.size (nI 1) hv) (cwV 1 hts gL_law_X3_count rfl rfl rfl (by decide +kernel) ⟨Nat.le_of_ble_eq_true rfl, Nat.le_of_ble_eq_true rfl⟩) ⟨Pc3.blind, va_recv hK (va_P1 hW.choose_spec.1.1) (ci := 3) (q0 := 0) rfl rfl, Pc3.pre hW hK hXK hS (hsub hS.1)⟩ rfl rfl hl.1 rfl (lv_room (Nat.le_of_ble_eq_true rfl)) dL_law_16 ⟨by show 0 + 1 + 38 + 124 + 1 ≤ 702924; omega, by show 0 + 2 + 422 + 748 + 6 ≤ 6992697; omega⟩) hS (hsub hS.1) (hsub hS.1) (hsub hS.1) (fun E ce q9 H locs hE hBX hk9 hS hc9 hv9 hcl => ?_) (fun H locs ok hW hk9 hS => ?_)
  · skip
    exact absurd (inn_of (lo := 0) (hi := 9) (by omega) (show 1 ≤ 9 by omega) (by omega)) hE.2
  · skip
    refine lv_topi (fun y0 ey0 => ?_)
    obtain rfl : y0 = τ 51 0 := ey0.trans rfl
    refine lv_topi (fun y1 ey1 => ?_)
    obtain rfl : y1 = nI nH := ey1.trans hv.2.2.1
    refine lv_istore_n (lv' := [(2, .int (nI nH)), (1, .ref xa), (0, .ref b)]) hx hb dL_law_19 rfl hl (by decide) rfl (fun ls hl => ?_)
    refine lv_aload_n hx hb dL_law_20 rfl (lv_at hl 1 rfl) ?_
    refine lv_iconst (v := nI 2) hx hb dL_law_21 (by decide) ?_
    refine kXi (vx_runV (As := [.int (nI 2)]) (rest := []) ⟨hx, hb, hml, hown, hts⟩ (c_X3_count l hfl G xa ad ad2 hXI nH nP hH hP dC τ z H.size (nI 2) hv) (cwV 1 hts gL_law_X3_count rfl rfl rfl (by decide +kernel) ⟨Nat.le_of_ble_eq_true rfl, Nat.le_of_ble_eq_true rfl⟩) ⟨Pc3.blind, va_recv hK (va_P1 hW.choose_spec.1.1) (ci := 3) (q0 := 0) rfl rfl, Pc3.pre hW hK hXK hS (hsub hS.1)⟩ rfl rfl hl.1 rfl (lv_room (Nat.le_of_ble_eq_true rfl)) dL_law_22 ⟨by show 0 + 1 + 38 + 124 + 1 + 1 ≤ 702924; omega, by show 0 + 2 + 422 + 748 + 6 + 6 ≤ 6992697; omega⟩) hS (hsub hS.1) (hsub hS.1) (hsub hS.1) (fun E ce q9 H locs hE hBX hk9 hS hc9 hv9 hcl => ?_) (fun H locs ok hW hk9 hS => ?_)
    · skip
      exact absurd (inn_of (lo := 0) (hi := 9) (by omega) (show 2 ≤ 9 by omega) (by omega)) hE.2
    · skip
      refine lv_topi (fun y2 ey2 => ?_)
      obtain rfl : y2 = τ 52 0 := ey2.trans rfl
      refine lv_topi (fun y3 ey3 => ?_)
      obtain rfl : y3 = nI nP := ey3.trans hv.2.2.2.1
      refine lv_istore_n (lv' := [(3, .int (nI nP)), (2, .int (nI nH)), (1, .ref xa), (0, .ref b)]) hx hb dL_law_25 rfl hl (by decide) rfl (fun ls hl => ?_)
      refine lv_iconst (v := nI 0) hx hb dL_law_26 (by decide) ?_
      refine lv_istore (lv' := [(4, .int (nI 0)), (3, .int (nI nP)), (2, .int (nI nH)), (1, .ref xa), (0, .ref b)]) hx hb dL_law_27 hl (by decide) rfl (fun ls hl => ?_)
      refine W.widen (k := 300 + 0 * 415) (n := 2000 + 0 * 2490) (Nat.le_of_ble_eq_true rfl) (Nat.le_of_ble_eq_true rfl) ?_
      exact lw_loop CC h1H h1P kk 0 (Nat.zero_le _) _ _ _ ⟨⟨τ, 0, Nat.zero_le _, hq, z, hW⟩, hS, lv_sub hl [4, 3, 2, 1, 0] rfl⟩
/-- THE LAW, with the table of handlers that its class file has: from every start with the tables' words, on every script of at most 260 ints, it returns 1 and writes nothing old -/
def lwWs : List Cond := Cond.codeWith yL_law cL_law 24 (some .boolean) [(166, 182, 185, 31)] :: wsL_law
set_option maxHeartbeats 4000000 in
set_option maxRecDepth 100000 in
theorem p22_law (l : Launch) (hfl : l.stackTraces = false) (G : wG) (b L : Nat) (xs : Nat → Int32) (hL : L ≤ 260) (nz : Nat) : vx_Met l yL_law lwWs room_1 (va_Pc [.ref b] (fun U => U.heap.size = nz ∧ va_X b L xs U U.heap ∧ wK G U ∧ XK (fun q : Nat => nz ≤ q) U ∧ XN2 U)) (Qi0 1 (fun _ => True) (fun q : Nat => nz ≤ q)) XF 702924 6992697 (fun q : Nat => nz ≤ q) := by
  refine vx_ofWH (cc := cL_law) (maxL := 24) (ret := (some .boolean)) (hh := [(166, 182, 185, 31)]) (by decide) rfl ?_
  intro pg ev s mid args below meth cd s₁ B hml hv0
  obtain ⟨rfl, rfl, hX, hK, hXK, hX2⟩ := hv0
  have hx := B.exec
  have hb := B.bytes
  have hr := B.returns
  have hts := atoms_spec (ws := lwWs) B.pre
  have hown : s.vm.findClass RL = some mid.cls := findClass_of_methodNamed B.named
  have hlocks := B.notSynchronized
  have htab := vx_table (x := yL_law) B (hts _ (List.mem_cons_self : Cond.codeWith yL_law cL_law 24 (some .boolean) [(166, 182, 185, 31)] ∈ lwWs))
  have hbl : b < s.heap.size := by
    obtain ⟨scr, h1, -⟩ := hX
    exact (Array.getElem?_eq_some_iff.mp h1).1
  refine lw_start hx hb hml hown (fun w h => hts w (List.mem_cons_of_mem _ h)) hX hbl hL hfl hK hXK hX2 (htab.trans rfl) (fun H1 locs1 ls1 hS => ?_)
  refine lv_iconst (v := 1) hx hb dL_law_852 (by decide) ?_
  refine W.widen (k := 702924) (n := 6992697) (by omega) (by omega) ?_
  exact vx_ret (xZ hx hb hr hlocks trivial hS rfl rfl dL_law_853)
