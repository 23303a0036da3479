set_option maxHeartbeats 4000000 in
set_option maxRecDepth 100000 in
theorem sg_A {p : Program} {l : Launch} {e : Env} {s : State} {m : MethodId} {below : List Frame} {meth : Method} {c : Code} {b L : Nat} {xs : Nat → Int32} {G : wG} {xa : Nat} {ad ad2 : Nat → Nat} {Q : State → Prop} (CC : LwS p l s m c b L xs G xa ad ad2) {nH nP d : Nat} {τ : wS} {time : Nat} (hq : LQ nH nP d τ) (ht : time < 45) (hd : d < 2 ^ 12) (h1H : 1 ≤ nH) (h1P : 1 ≤ nP) {H : Heap} {locs : List Loc} {cells slots : Nat} {ls : Array Slot} (hW : (∃ z, XWz G xa ad ad2 (wmx nH nP dC τ) z H)) (hS : va_S (fun q : Nat => s.heap.size ≤ q) s.heap H locs) (hl : lv_has ls 24 [(0, .ref b), (1, .ref xa), (2, .int (nI nH)), (3, .int (nI nP)), (4, .int (nI time))]) (hc : cells + 7 ≤ 702924) (hs : slots + 42 ≤ 6992697)
    (kk : ∀ (x5 : Int32) (hh : Nat) (τ1 : wS) (H1 : Heap) (locs1 : List Loc) (ls1 : Array Slot), hh < nH → LQ nH nP d τ1 → (∃ z, XWz G xa ad ad2 (wmx nH nP dC τ1) z H1) → va_S (fun q : Nat => s.heap.size ≤ q) s.heap H1 locs1 → lv_has ls1 24 [(0, .ref b), (1, .ref xa), (2, .int (nI nH)), (3, .int (nI nP)), (4, .int (nI time)), (5, .int x5), (6, .int (nI hh))] → W p l e room_1 s m #[Value.ref b] below meth c H1 locs1 (cells + 7) (slots + 42) Q (F0 m 237 ls1 [])) : W p l e room_1 s m #[Value.ref b] below meth c H locs (cells) (slots) Q (F0 m 36 ls []) := by
  obtain ⟨hx, hb, hml, hown, hts, hX, hbl, hL, hfl, hK, hXK, hXI, hF, htab⟩ := CC
  have hv := hq.1
  have hH := hv.1
  have hP := hv.2.1
  have hbA : ¬ (fun q : Nat => s.heap.size ≤ q) b := Nat.not_le.mpr hbl
  have hsub : ∀ {n9 : Nat}, s.heap.size ≤ n9 → ∀ q, AX ad ad2 n9 q → s.heap.size ≤ q := fun h q hq => lw_sub hF h hq
  have hsubV : ∀ q, AV ad 19 q → s.heap.size ≤ q := fun q ⟨k, hk, e⟩ => by rw [e]; exact (hF k hk).1
  obtain ⟨z, hW⟩ := hW
  have kc31 := hts (.classLink RL 31 nISE) (by decide +kernel)
  refine lv_aload_n hx hb dL_law_36 rfl (lv_at hl 0 rfl) ?_
  refine lv_iload hx hb dL_law_37 (lv_at hl 4 rfl) ?_
  refine lv_bipush (v := nI 16) hx hb dL_law_39 (by decide) ?_
  refine lv_irem hx hb dL_law_41 (by decide) ?_
  refine lv_topi (fun y0 ey0 => ?_)
  obtain rfl : y0 = nI (time % 16) := ey0.trans (pk_rem (by omega) (by decide) (by decide))
  refine kI (va_runS (As := [.ref b, .int (nI (time % 16))]) (rest := []) ⟨hx, hb, hml, hown, hts⟩ (c_L_cell l b L xs (time % 16) (by omega) hL) (va_cwS 2 hts gL_law_L_cell rfl rfl rfl (by decide +kernel) ⟨Nat.le_of_ble_eq_true rfl, Nat.le_of_ble_eq_true rfl⟩) ⟨PcX.blind, PcX.pre hX hbl hbA hS⟩ rfl rfl hl.1 rfl (lv_room (Nat.le_of_ble_eq_true rfl)) dL_law_42 ⟨by show cells + 0 ≤ 702924; omega, by show slots + 0 ≤ 6992697; omega⟩) hS (fun q _ h => h.elim) (fun q h => h.elim) (fun H locs _ hz hk hS => ?_)
  have hW := hW.kept (fun q hq => hk q hq (fun h => h))
  refine lv_iload hx hb dL_law_45 (lv_at hl 4 rfl) ?_
  refine lv_bipush (v := nI 16) hx hb dL_law_47 (by decide) ?_
  refine lv_idiv hx hb dL_law_49 (by decide) ?_
  refine lv_topi (fun y1 ey1 => ?_)
  obtain rfl : y1 = nI (time / 16) := ey1.trans (pk_div (by omega) (by decide) (by decide))
  refine lv_bipush (v := nI 6) hx hb dL_law_50 (by decide) ?_
  refine lv_imul hx hb dL_law_52 ?_
  refine lv_topi (fun y2 ey2 => ?_)
  obtain rfl : y2 = nI ((time / 16) * 6) := ey2.trans (pk_mul (time / 16) 6)
  refine lv_ishr hx hb dL_law_53 ?_
  refine lv_topi (fun x5 ex5 => ?_)
  clear ex5
  refine lv_istore (lv' := [(5, .int x5), (0, .ref b), (1, .ref xa), (2, .int (nI nH)), (3, .int (nI nP)), (4, .int (nI time))]) hx hb dL_law_54 hl (by decide) rfl (fun ls hl => ?_)
  refine lv_iload hx hb dL_law_56 (lv_at hl 0 rfl) ?_
  refine lv_iconst (v := nI 3) hx hb dL_law_58 (by decide) ?_
  refine lv_ishr hx hb dL_law_59 ?_
  refine lv_iload_n hx hb dL_law_60 rfl (lv_at hl 3 rfl) ?_
  refine kI (va_runS (As := [.int (x5 >>> ((nI 3) &&& 31)), .int (nI nH)]) (rest := []) ⟨hx, hb, hml, hown, hts⟩ (c_L_below l (x5 >>> ((nI 3) &&& 31)) nH (by omega) (by omega)) (va_cwS 2 hts gL_law_L_below rfl rfl rfl (by decide +kernel) ⟨Nat.le_of_ble_eq_true rfl, Nat.le_of_ble_eq_true rfl⟩) ⟨Pc9.blind, Pc9.pre⟩ rfl rfl hl.1 rfl (lv_room (Nat.le_of_ble_eq_true rfl)) dL_law_61 ⟨by show cells + 0 + 0 ≤ 702924; omega, by show slots + 0 + 0 ≤ 6992697; omega⟩) hS (fun q _ h => h.elim) (fun q h => h.elim) (fun H locs _ hz hk hS => ?_)
  have q61 := blF_lt (v := (x5 >>> ((nI 3) &&& 31))) (n := nH) (by omega)
  generalize blF (x5 >>> ((nI 3) &&& 31)) nH = hh at q61 ⊢
  have hW := hW.kept (fun q hq => hk q hq (fun h => h))
  refine lv_istore (lv' := [(6, .int (nI hh)), (5, .int x5), (0, .ref b), (1, .ref xa), (2, .int (nI nH)), (3, .int (nI nP)), (4, .int (nI time))]) hx hb dL_law_64 hl (by decide) rfl (fun ls hl => ?_)
  refine lv_iload hx hb dL_law_66 (lv_at hl 1 rfl) ?_
  refine lv_bipush (v := nI 8) hx hb dL_law_68 (by decide) ?_
  refine kI (va_runS (As := [.int x5, .int (nI 8)]) (rest := []) ⟨hx, hb, hml, hown, hts⟩ (c_L_below l x5 8 (by omega) (by omega)) (va_cwS 2 hts gL_law_L_below rfl rfl rfl (by decide +kernel) ⟨Nat.le_of_ble_eq_true rfl, Nat.le_of_ble_eq_true rfl⟩) ⟨Pc9.blind, Pc9.pre⟩ rfl rfl hl.1 rfl (lv_room (Nat.le_of_ble_eq_true rfl)) dL_law_70 ⟨by show cells + 0 + 0 + 0 ≤ 702924; omega, by show slots + 0 + 0 + 0 ≤ 6992697; omega⟩) hS (fun q _ h => h.elim) (fun q h => h.elim) (fun H locs _ hz hk hS => ?_)
  have q70 := blF_lt (v := x5) (n := 8) (by omega)
  generalize blF x5 8 = sw at q70 ⊢
  have hW := hW.kept (fun q hq => hk q hq (fun h => h))
  rcases (show sw = 0 ∨ sw = 1 ∨ sw = 2 ∨ sw = 3 ∨ sw = 4 ∨ sw = 5 ∨ sw = 6 ∨ sw = 7 by omega) with rfl | rfl | rfl | rfl | rfl | rfl | rfl | rfl
  · skip
    refine lv_tableIn (off := 31) (tgt := 104) hx hb dL_law_73 (by decide) (by decide) rfl (by decide) ?_
    refine lv_aload_n hx hb dL_law_104 rfl (lv_at hl 3 rfl) ?_
    refine lv_iload hx hb dL_law_105 (lv_at hl 0 rfl) ?_
    refine lv_iload hx hb dL_law_107 (lv_at hl 1 rfl) ?_
    refine lv_bipush (v := nI 6) hx hb dL_law_109 (by decide) ?_
    refine lv_ishr hx hb dL_law_111 ?_
    refine lv_bipush (v := nI 9) hx hb dL_law_112 (by decide) ?_
    refine kI (va_runS (As := [.int (x5 >>> ((nI 6) &&& 31)), .int (nI 9)]) (rest := [.int (nI hh), .ref xa]) ⟨hx, hb, hml, hown, hts⟩ (c_L_below l (x5 >>> ((nI 6) &&& 31)) 9 (by omega) (by omega)) (va_cwS 2 hts gL_law_L_below rfl rfl rfl (by decide +kernel) ⟨Nat.le_of_ble_eq_true rfl, Nat.le_of_ble_eq_true rfl⟩) ⟨Pc9.blind, Pc9.pre⟩ rfl rfl hl.1 rfl (lv_room (Nat.le_of_ble_eq_true rfl)) dL_law_114 ⟨by show cells + 0 + 0 + 0 + 0 ≤ 702924; omega, by show slots + 0 + 0 + 0 + 0 ≤ 6992697; omega⟩) hS (fun q _ h => h.elim) (fun q h => h.elim) (fun H locs _ hz hk hS => ?_)
    have q114 := blF_lt (v := (x5 >>> ((nI 6) &&& 31))) (n := 9) (by omega)
    generalize blF (x5 >>> ((nI 6) &&& 31)) 9 = ka at q114 ⊢
    have hW := hW.kept (fun q hq => hk q hq (fun h => h))
    refine kXi (vx_runV (As := [.int (nI hh), .int (nI ka)]) (rest := []) ⟨hx, hb, hml, hown, hts⟩ (c_X3_leave l hfl G xa ad ad2 hXI nH nP hH hP dC τ z H.size (nI hh) (nI ka) hv) (cwV 2 hts gL_law_X3_leave rfl rfl rfl (by decide +kernel) ⟨Nat.le_of_ble_eq_true rfl, Nat.le_of_ble_eq_true rfl⟩) ⟨Pc3.blind, va_recv hK (va_P1 hW.choose_spec.1.1) (ci := 3) (q0 := 0) rfl rfl, Pc3.pre hW hK hXK hS (hsub hS.1)⟩ rfl rfl hl.1 rfl (lv_room (Nat.le_of_ble_eq_true rfl)) dL_law_117 ⟨by show cells + 0 + 0 + 0 + 0 + 2 ≤ 702924; omega, by show slots + 0 + 0 + 0 + 0 + 12 ≤ 6992697; omega⟩) hS (hsub hS.1) (hsub hS.1) (hsub hS.1) (fun E ce q9 H locs hE hBX hk9 hS hc9 hv9 hcl => ?_) (fun H locs ok hW hk9 hS => ?_)
    · skip
      rcases hE with t | t
      · exact absurd (hOk_of (show hh < nH by omega) hH) t.2
      · exact absurd (inn_of (lo := 0) (hi := 30) (show 0 ≤ ka by omega) (show ka ≤ 30 by omega) (by omega)) t.2.2
    · skip
      rw [show cl (nI hh) = hh from nI_clamp (by omega)] at hW
      refine lv_pop hx hb dL_law_120 rfl ?_
      refine lv_goto (tgt := 237) hx hb dL_law_121 (by decide) ?_
      refine W.widen (k := cells + 7) (n := slots + 42) (by omega) (by omega) ?_
      exact kk _ _ _ _ _ _ (show hh < nH by omega) (hq.put6 (show ka ≤ 30 by omega)) ⟨_, hW⟩ hS (lv_sub hl [2, 3, 4, 5, 6, 1, 0] rfl)
  · skip
    refine lv_tableIn (off := 51) (tgt := 124) hx hb dL_law_73 (by decide) (by decide) rfl (by decide) ?_
    refine lv_aload_n hx hb dL_law_124 rfl (lv_at hl 3 rfl) ?_
    refine lv_iload hx hb dL_law_125 (lv_at hl 0 rfl) ?_
    refine lv_iconst (v := nI 1) hx hb dL_law_127 (by decide) ?_
    refine lv_iload hx hb dL_law_128 (lv_at hl 1 rfl) ?_
    refine lv_bipush (v := nI 6) hx hb dL_law_130 (by decide) ?_
    refine lv_ishr hx hb dL_law_132 ?_
    refine lv_bipush (v := nI 50) hx hb dL_law_133 (by decide) ?_
    refine kI (va_runS (As := [.int (x5 >>> ((nI 6) &&& 31)), .int (nI 50)]) (rest := [.int (nI 1), .int (nI hh), .ref xa]) ⟨hx, hb, hml, hown, hts⟩ (c_L_below l (x5 >>> ((nI 6) &&& 31)) 50 (by omega) (by omega)) (va_cwS 2 hts gL_law_L_below rfl rfl rfl (by decide +kernel) ⟨Nat.le_of_ble_eq_true rfl, Nat.le_of_ble_eq_true rfl⟩) ⟨Pc9.blind, Pc9.pre⟩ rfl rfl hl.1 rfl (lv_room (Nat.le_of_ble_eq_true rfl)) dL_law_135 ⟨by show cells + 0 + 0 + 0 + 0 ≤ 702924; omega, by show slots + 0 + 0 + 0 + 0 ≤ 6992697; omega⟩) hS (fun q _ h => h.elim) (fun q h => h.elim) (fun H locs _ hz hk hS => ?_)
    have q135 := blF_lt (v := (x5 >>> ((nI 6) &&& 31))) (n := 50) (by omega)
    generalize blF (x5 >>> ((nI 6) &&& 31)) 50 = ka at q135 ⊢
    have hW := hW.kept (fun q hq => hk q hq (fun h => h))
    refine lv_iadd hx hb dL_law_138 ?_
    refine lv_topi (fun y3 ey3 => ?_)
    obtain rfl : y3 = nI (1 + ka) := ey3.trans (nI_add 1 ka)
    refine kXi (vx_runV (As := [.int (nI hh), .int (nI (1 + ka))]) (rest := []) ⟨hx, hb, hml, hown, hts⟩ (c_X3_fine l hfl G xa ad ad2 hXI nH nP hH hP dC τ z H.size (nI hh) (nI (1 + ka)) hv) (cwV 2 hts gL_law_X3_fine rfl rfl rfl (by decide +kernel) ⟨Nat.le_of_ble_eq_true rfl, Nat.le_of_ble_eq_true rfl⟩) ⟨Pc3.blind, va_recv hK (va_P1 hW.choose_spec.1.1) (ci := 3) (q0 := 0) rfl rfl, Pc3.pre hW hK hXK hS (hsub hS.1)⟩ rfl rfl hl.1 rfl (lv_room (Nat.le_of_ble_eq_true rfl)) dL_law_139 ⟨by show cells + 0 + 0 + 0 + 0 + 2 ≤ 702924; omega, by show slots + 0 + 0 + 0 + 0 + 12 ≤ 6992697; omega⟩) hS (hsub hS.1) (hsub hS.1) (hsub hS.1) (fun E ce q9 H locs hE hBX hk9 hS hc9 hv9 hcl => ?_) (fun H locs ok hW hk9 hS => ?_)
    · skip
      rcases hE with t | t
      · exact absurd (hOk_of (show hh < nH by omega) hH) t.2
      · exact absurd (inn_of (lo := 1) (hi := 50) (show 1 ≤ 1 + ka by omega) (show 1 + ka ≤ 50 by omega) (by omega)) t.2.2
    · skip
      rw [show cl (nI hh) = hh from nI_clamp (by omega)] at hW
      refine lv_pop hx hb dL_law_142 rfl ?_
      refine lv_goto (tgt := 237) hx hb dL_law_143 (by decide) ?_
      refine W.widen (k := cells + 7) (n := slots + 42) (by omega) (by omega) ?_
      exact kk _ _ _ _ _ _ (show hh < nH by omega) (hq.fine (show hh < nH by omega) (show 1 + ka ≤ 50 by omega) (by omega)) ⟨_, hW⟩ hS (lv_sub hl [2, 3, 4, 5, 6, 1, 0] rfl)
  · skip
    refine lv_tableIn (off := 73) (tgt := 146) hx hb dL_law_73 (by decide) (by decide) rfl (by decide) ?_
    refine lv_aload_n hx hb dL_law_146 rfl (lv_at hl 3 rfl) ?_
    refine lv_iload hx hb dL_law_147 (lv_at hl 0 rfl) ?_
    refine lv_iload hx hb dL_law_149 (lv_at hl 1 rfl) ?_
    refine lv_bipush (v := nI 6) hx hb dL_law_151 (by decide) ?_
    refine lv_ishr hx hb dL_law_153 ?_
    refine lv_bipush (v := nI 10) hx hb dL_law_154 (by decide) ?_
    refine kI (va_runS (As := [.int (x5 >>> ((nI 6) &&& 31)), .int (nI 10)]) (rest := [.int (nI hh), .ref xa]) ⟨hx, hb, hml, hown, hts⟩ (c_L_below l (x5 >>> ((nI 6) &&& 31)) 10 (by omega) (by omega)) (va_cwS 2 hts gL_law_L_below rfl rfl rfl (by decide +kernel) ⟨Nat.le_of_ble_eq_true rfl, Nat.le_of_ble_eq_true rfl⟩) ⟨Pc9.blind, Pc9.pre⟩ rfl rfl hl.1 rfl (lv_room (Nat.le_of_ble_eq_true rfl)) dL_law_156 ⟨by show cells + 0 + 0 + 0 + 0 ≤ 702924; omega, by show slots + 0 + 0 + 0 + 0 ≤ 6992697; omega⟩) hS (fun q _ h => h.elim) (fun q h => h.elim) (fun H locs _ hz hk hS => ?_)
    have q156 := blF_lt (v := (x5 >>> ((nI 6) &&& 31))) (n := 10) (by omega)
    generalize blF (x5 >>> ((nI 6) &&& 31)) 10 = ka at q156 ⊢
    have hW := hW.kept (fun q hq => hk q hq (fun h => h))
    refine kXi (vx_runV (As := [.int (nI hh), .int (nI ka)]) (rest := []) ⟨hx, hb, hml, hown, hts⟩ (c_X3_lodge l hfl G xa ad ad2 hXI nH nP hH hP dC τ z H.size (nI hh) (nI ka) hv) (cwV 2 hts gL_law_X3_lodge rfl rfl rfl (by decide +kernel) ⟨Nat.le_of_ble_eq_true rfl, Nat.le_of_ble_eq_true rfl⟩) ⟨Pc3.blind, va_recv hK (va_P1 hW.choose_spec.1.1) (ci := 3) (q0 := 0) rfl rfl, Pc3.pre hW hK hXK hS (hsub hS.1)⟩ rfl rfl hl.1 rfl (lv_room (Nat.le_of_ble_eq_true rfl)) dL_law_159 ⟨by show cells + 0 + 0 + 0 + 0 + 2 ≤ 702924; omega, by show slots + 0 + 0 + 0 + 0 + 12 ≤ 6992697; omega⟩) hS (hsub hS.1) (hsub hS.1) (hsub hS.1) (fun E ce q9 H locs hE hBX hk9 hS hc9 hv9 hcl => ?_) (fun H locs ok hW hk9 hS => ?_)
    · skip
      rcases hE with t | t
      · exact absurd (hOk_of (show hh < nH by omega) hH) t.2
      · exact absurd (inn_of (lo := 0) (hi := 9) (show 0 ≤ ka by omega) (show ka ≤ 9 by omega) (by omega)) t.2.2
    · skip
      rw [show cl (nI hh) = hh from nI_clamp (by omega)] at hW
      refine lv_pop hx hb dL_law_162 rfl ?_
      refine lv_goto (tgt := 237) hx hb dL_law_163 (by decide) ?_
      refine W.widen (k := cells + 7) (n := slots + 42) (by omega) (by omega) ?_
      exact kk _ _ _ _ _ _ (show hh < nH by omega) (hq.put0 (show ka ≤ 9 by omega)) ⟨_, hW⟩ hS (lv_sub hl [2, 3, 4, 5, 6, 1, 0] rfl)
  · skip
    refine lv_tableIn (off := 93) (tgt := 166) hx hb dL_law_73 (by decide) (by decide) rfl (by decide) ?_
    refine lv_aload_n hx hb dL_law_166 rfl (lv_at hl 3 rfl) ?_
    refine lv_iload hx hb dL_law_167 (lv_at hl 1 rfl) ?_
    refine lv_bipush (v := nI 6) hx hb dL_law_169 (by decide) ?_
    refine lv_ishr hx hb dL_law_171 ?_
    refine lv_iload_n hx hb dL_law_172 rfl (lv_at hl 5 rfl) ?_
    refine kI (va_runS (As := [.int (x5 >>> ((nI 6) &&& 31)), .int (nI nP)]) (rest := [.ref xa]) ⟨hx, hb, hml, hown, hts⟩ (c_L_below l (x5 >>> ((nI 6) &&& 31)) nP (by omega) (by omega)) (va_cwS 2 hts gL_law_L_below rfl rfl rfl (by decide +kernel) ⟨Nat.le_of_ble_eq_true rfl, Nat.le_of_ble_eq_true rfl⟩) ⟨Pc9.blind, Pc9.pre⟩ rfl rfl hl.1 rfl (lv_room (Nat.le_of_ble_eq_true rfl)) dL_law_173 ⟨by show cells + 0 + 0 + 0 + 0 ≤ 702924; omega, by show slots + 0 + 0 + 0 + 0 ≤ 6992697; omega⟩) hS (fun q _ h => h.elim) (fun q h => h.elim) (fun H locs _ hz hk hS => ?_)
    have q173 := blF_lt (v := (x5 >>> ((nI 6) &&& 31))) (n := nP) (by omega)
    generalize ekp : blF (x5 >>> ((nI 6) &&& 31)) nP = kp at q173 ⊢
    have hW := hW.kept (fun q hq => hk q hq (fun h => h))
    refine lv_iload hx hb dL_law_176 (lv_at hl 0 rfl) ?_
    refine kXi (vx_runV (As := [.int (nI kp), .int (nI hh)]) (rest := []) ⟨hx, hb, hml, hown, hts⟩ (c_X3_enrol l hfl G xa ad ad2 hXI nH nP hH hP dC τ z H.size (nI kp) (nI hh) hv) (cwV 2 hts gL_law_X3_enrol rfl rfl rfl (by decide +kernel) ⟨Nat.le_of_ble_eq_true rfl, Nat.le_of_ble_eq_true rfl⟩) ⟨Pc3.blind, va_recv hK (va_P1 hW.choose_spec.1.1) (ci := 3) (q0 := 0) rfl rfl, Pc3.pre hW hK hXK hS (hsub hS.1)⟩ rfl rfl hl.1 rfl (lv_room (Nat.le_of_ble_eq_true rfl)) dL_law_178 ⟨by show cells + 0 + 0 + 0 + 0 + 3 ≤ 702924; omega, by show slots + 0 + 0 + 0 + 0 + 18 ≤ 6992697; omega⟩) hS (hsub hS.1) (hsub hS.1) (hsub hS.1) (fun E ce q9 H locs hE hW hk9 hS hc9 hv9 hcl => ?_) (fun H locs ok hW hk9 hS => ?_)
    · skip
      have hc8 : E = nISE ∧ (plc (τ (40 + kp)) (nI hh) (sz τ kp) < sz τ kp ∨ ¬ τ 4 hh < 3) := by
        rcases hE with w | w | w | w
        · exact absurd (pOk_of (show kp < nP by omega) hP) w.2
        · exact absurd (hOk_of (show hh < nH by omega) hH) w.2.2
        · have w2 := w.2.2.2
          rw [show cl (nI kp) = kp from nI_clamp (by omega)] at w2
          exact ⟨w.1, Or.inl (Decidable.not_not.mp w2)⟩
        · have w2 := w.2.2.2.2
          rw [show cl (nI hh) = hh from nI_clamp (by omega)] at w2
          exact ⟨w.1, Or.inr w2⟩
      obtain ⟨rfl, hor⟩ := hc8
      refine vx_catch hown [] (⟨166, 182, 185, 31⟩ : ExceptionTableEntry) [] (htab.trans rfl) (fun z hz => absurd hz List.not_mem_nil) (by decide) (by decide) kc31 (va_Nw.use rfl hXK.2.1.2.1) hc9 hv9 hcl ?_
      refine lv_astore (lv' := [(7, .ref q9), (6, .int (nI hh)), (5, .int x5), (0, .ref b), (1, .ref xa), (2, .int (nI nH)), (3, .int (nI nP)), (4, .int (nI time))]) hx hb dL_law_185 hl (by decide) rfl (fun ls hl => ?_)
      refine lv_aload_n hx hb dL_law_187 rfl (lv_at hl 4 rfl) ?_
      refine lv_iload hx hb dL_law_188 (lv_at hl 1 rfl) ?_
      refine lv_iconst (v := nI 3) hx hb dL_law_190 (by decide) ?_
      refine kXi (vx_runV (As := [.int (nI hh), .int (nI 3)]) (rest := []) ⟨hx, hb, hml, hown, hts⟩ (c_X3_house l hfl G xa ad ad2 hXI nH nP hH hP dC τ z H.size (nI hh) (nI 3) hv) (cwV 2 hts gL_law_X3_house rfl rfl rfl (by decide +kernel) ⟨Nat.le_of_ble_eq_true rfl, Nat.le_of_ble_eq_true rfl⟩) ⟨Pc3.blind, va_recv hK (va_P1 hW.choose_spec.1.1) (ci := 3) (q0 := 0) rfl rfl, Pc3.pre hW hK hXK hS (hsub hS.1)⟩ rfl rfl hl.1 rfl (lv_room (Nat.le_of_ble_eq_true rfl)) dL_law_191 ⟨by show cells + 0 + 0 + 0 + 0 + 3 + 2 ≤ 702924; omega, by show slots + 0 + 0 + 0 + 0 + 18 + 12 ≤ 6992697; omega⟩) hS (hsub hS.1) (hsub hS.1) (hsub hS.1) (fun E ce q9 H locs hE hBX hk9 hS hc9 hv9 hcl => ?_) (fun H locs ok hW hk9 hS => ?_)
      · skip
        rcases hE with t | t
        · exact absurd (hOk_of (show hh < nH by omega) hH) t.2
        · exact absurd (inn_of (lo := 0) (hi := 10) (by omega) (show 3 ≤ 10 by omega) (by omega)) t.2.2
      · skip
        refine lv_topi (fun y3 ey3 => ?_)
        obtain rfl : y3 = τ 4 hh := ey3.trans (by rw [show cl (nI hh) = hh from nI_clamp (by omega)]; rfl)
        refine lv_iconst (v := nI 3) hx hb dL_law_194 (by decide) ?_
        refine lv_icmp_ge (tgt := 218) hx hb dL_law_195 (by decide) (fun c195 => ?_) (fun c195 => ?_)
        · skip
          refine lv_goto (tgt := 237) hx hb dL_law_218 (by decide) ?_
          refine W.widen (k := cells + 7) (n := slots + 42) (by omega) (by omega) ?_
          exact kk _ _ _ _ _ _ (show hh < nH by omega) hq ⟨_, hW⟩ hS (lv_sub hl [3, 4, 5, 6, 7, 2, 1] rfl)
        · skip
          refine lv_aload_n hx hb dL_law_198 rfl (lv_at hl 4 rfl) ?_
          refine lv_iload hx hb dL_law_199 (lv_at hl 2 rfl) ?_
          refine lv_bipush (v := nI 6) hx hb dL_law_201 (by decide) ?_
          refine lv_ishr hx hb dL_law_203 ?_
          refine lv_iload_n hx hb dL_law_204 rfl (lv_at hl 6 rfl) ?_
          refine kI (va_runS (As := [.int (x5 >>> ((nI 6) &&& 31)), .int (nI nP)]) (rest := [.ref xa]) ⟨hx, hb, hml, hown, hts⟩ (c_L_below l (x5 >>> ((nI 6) &&& 31)) nP (by omega) (by omega)) (va_cwS 2 hts gL_law_L_below rfl rfl rfl (by decide +kernel) ⟨Nat.le_of_ble_eq_true rfl, Nat.le_of_ble_eq_true rfl⟩) ⟨Pc9.blind, Pc9.pre⟩ rfl rfl hl.1 rfl (lv_room (Nat.le_of_ble_eq_true rfl)) dL_law_205 ⟨by show cells + 0 + 0 + 0 + 0 + 3 + 2 + 0 ≤ 702924; omega, by show slots + 0 + 0 + 0 + 0 + 18 + 12 + 0 ≤ 6992697; omega⟩) hS (fun q _ h => h.elim) (fun q h => h.elim) (fun H locs _ hz hk hS => ?_)
          rw [ekp]
          have hW := hW.kept (fun q hq => hk q hq (fun h => h))
          refine lv_iload hx hb dL_law_208 (lv_at hl 1 rfl) ?_
          refine kXi (vx_runV (As := [.int (nI kp), .int (nI hh)]) (rest := []) ⟨hx, hb, hml, hown, hts⟩ (c_X3_ahead l hfl G xa ad ad2 hXI nH nP hH hP dC τ z H.size (nI kp) (nI hh) hv) (cwV 2 hts gL_law_X3_ahead rfl rfl rfl (by decide +kernel) ⟨Nat.le_of_ble_eq_true rfl, Nat.le_of_ble_eq_true rfl⟩) ⟨Pc3.blind, va_recv hK (va_P1 hW.choose_spec.1.1) (ci := 3) (q0 := 0) rfl rfl, Pc3.pre hW hK hXK hS (hsub hS.1)⟩ rfl rfl hl.1 rfl (lv_room (Nat.le_of_ble_eq_true rfl)) dL_law_210 ⟨by show cells + 0 + 0 + 0 + 0 + 3 + 2 + 0 + 2 ≤ 702924; omega, by show slots + 0 + 0 + 0 + 0 + 18 + 12 + 0 + 12 ≤ 6992697; omega⟩) hS (hsub hS.1) (hsub hS.1) (hsub hS.1) (fun E ce q9 H locs hE hBX hk9 hS hc9 hv9 hcl => ?_) (fun H locs ok hW hk9 hS => ?_)
          · skip
            rcases hE with t | t
            · exact absurd (pOk_of (show kp < nP by omega) hP) t.2
            · exact absurd (hOk_of (show hh < nH by omega) hH) t.2.2
          · skip
            refine lv_topi (fun y4 ey4 => ?_)
            obtain rfl : y4 = ahdF τ kp hh := ey4.trans (by rw [show cl (nI kp) = kp from nI_clamp (by omega), show cl (nI hh) = hh from nI_clamp (by omega)])
            refine lv_if_ge (tgt := 218) hx hb dL_law_213 (by decide) (fun c9 => ?_) (fun c9 => absurd (ahd_pos hv (show kp < nP by omega) (hor.resolve_right (fun w => c195 (Int32.not_lt.mp w)))) c9)
            refine lv_goto (tgt := 237) hx hb dL_law_218 (by decide) ?_
            refine W.widen (k := cells + 7) (n := slots + 42) (by omega) (by omega) ?_
            exact kk _ _ _ _ _ _ (show hh < nH by omega) hq ⟨_, hW⟩ hS (lv_sub hl [3, 4, 5, 6, 7, 2, 1] rfl)
    · skip
      rw [show cl (nI kp) = kp from nI_clamp (by omega)] at hW
      obtain ⟨o1, o2, o3, o4⟩ := ok
      rw [show cl (nI kp) = kp from nI_clamp (by omega)] at o3
      rw [show cl (nI hh) = hh from nI_clamp (by omega)] at o4
      refine lv_pop hx hb dL_law_181 rfl ?_
      refine lv_goto (tgt := 237) hx hb dL_law_182 (by decide) ?_
      refine W.widen (k := cells + 7) (n := slots + 42) (by omega) (by omega) ?_
      exact kk _ _ _ _ _ _ (show hh < nH by omega) (hq.enrol (show kp < nP by omega) (show hh < nH by omega) o3 o4) ⟨_, hW⟩ hS (lv_sub hl [2, 3, 4, 5, 6, 1, 0] rfl)
  · skip
    refine lv_tableOut (tgt := 221) hx hb dL_law_73 (by decide) (by decide) ?_
    refine lv_aload_n hx hb dL_law_221 rfl (lv_at hl 3 rfl) ?_
    refine lv_iload hx hb dL_law_222 (lv_at hl 0 rfl) ?_
    refine lv_iload hx hb dL_law_224 (lv_at hl 1 rfl) ?_
    refine lv_bipush (v := nI 6) hx hb dL_law_226 (by decide) ?_
    refine lv_ishr hx hb dL_law_228 ?_
    refine lv_iload_n hx hb dL_law_229 rfl (lv_at hl 5 rfl) ?_
    refine kI (va_runS (As := [.int (x5 >>> ((nI 6) &&& 31)), .int (nI nP)]) (rest := [.int (nI hh), .ref xa]) ⟨hx, hb, hml, hown, hts⟩ (c_L_below l (x5 >>> ((nI 6) &&& 31)) nP (by omega) (by omega)) (va_cwS 2 hts gL_law_L_below rfl rfl rfl (by decide +kernel) ⟨Nat.le_of_ble_eq_true rfl, Nat.le_of_ble_eq_true rfl⟩) ⟨Pc9.blind, Pc9.pre⟩ rfl rfl hl.1 rfl (lv_room (Nat.le_of_ble_eq_true rfl)) dL_law_230 ⟨by show cells + 0 + 0 + 0 + 0 ≤ 702924; omega, by show slots + 0 + 0 + 0 + 0 ≤ 6992697; omega⟩) hS (fun q _ h => h.elim) (fun q h => h.elim) (fun H locs _ hz hk hS => ?_)
    have q230 := blF_lt (v := (x5 >>> ((nI 6) &&& 31))) (n := nP) (by omega)
    generalize blF (x5 >>> ((nI 6) &&& 31)) nP = ka at q230 ⊢
    have hW := hW.kept (fun q hq => hk q hq (fun h => h))
    refine kXi (vx_runV (As := [.int (nI hh), .int (nI ka)]) (rest := []) ⟨hx, hb, hml, hown, hts⟩ (c_X3_prefer l hfl G xa ad ad2 hXI nH nP hH hP dC τ z H.size (nI hh) (nI ka) hv) (cwV 2 hts gL_law_X3_prefer rfl rfl rfl (by decide +kernel) ⟨Nat.le_of_ble_eq_true rfl, Nat.le_of_ble_eq_true rfl⟩) ⟨Pc3.blind, va_recv hK (va_P1 hW.choose_spec.1.1) (ci := 3) (q0 := 0) rfl rfl, Pc3.pre hW hK hXK hS (hsub hS.1)⟩ rfl rfl hl.1 rfl (lv_room (Nat.le_of_ble_eq_true rfl)) dL_law_233 ⟨by show cells + 0 + 0 + 0 + 0 + 2 ≤ 702924; omega, by show slots + 0 + 0 + 0 + 0 + 12 ≤ 6992697; omega⟩) hS (hsub hS.1) (hsub hS.1) (hsub hS.1) (fun E ce q9 H locs hE hBX hk9 hS hc9 hv9 hcl => ?_) (fun H locs ok hW hk9 hS => ?_)
    · skip
      rcases hE with t | t
      · exact absurd (hOk_of (show hh < nH by omega) hH) t.2
      · exact absurd (pOk_of (show ka < nP by omega) hP) t.2.2
    · skip
      rw [show cl (nI hh) = hh from nI_clamp (by omega)] at hW
      refine lv_pop hx hb dL_law_236 rfl ?_
      refine W.widen (k := cells + 7) (n := slots + 42) (by omega) (by omega) ?_
      exact kk _ _ _ _ _ _ (show hh < nH by omega) (hq.put5 (show ka < nP by omega)) ⟨_, hW⟩ hS (lv_sub hl [2, 3, 4, 5, 6, 1, 0] rfl)
  · skip
    refine lv_tableOut (tgt := 221) hx hb dL_law_73 (by decide) (by decide) ?_
    refine lv_aload_n hx hb dL_law_221 rfl (lv_at hl 3 rfl) ?_
    refine lv_iload hx hb dL_law_222 (lv_at hl 0 rfl) ?_
    refine lv_iload hx hb dL_law_224 (lv_at hl 1 rfl) ?_
    refine lv_bipush (v := nI 6) hx hb dL_law_226 (by decide) ?_
    refine lv_ishr hx hb dL_law_228 ?_
    refine lv_iload_n hx hb dL_law_229 rfl (lv_at hl 5 rfl) ?_
    refine kI (va_runS (As := [.int (x5 >>> ((nI 6) &&& 31)), .int (nI nP)]) (rest := [.int (nI hh), .ref xa]) ⟨hx, hb, hml, hown, hts⟩ (c_L_below l (x5 >>> ((nI 6) &&& 31)) nP (by omega) (by omega)) (va_cwS 2 hts gL_law_L_below rfl rfl rfl (by decide +kernel) ⟨Nat.le_of_ble_eq_true rfl, Nat.le_of_ble_eq_true rfl⟩) ⟨Pc9.blind, Pc9.pre⟩ rfl rfl hl.1 rfl (lv_room (Nat.le_of_ble_eq_true rfl)) dL_law_230 ⟨by show cells + 0 + 0 + 0 + 0 ≤ 702924; omega, by show slots + 0 + 0 + 0 + 0 ≤ 6992697; omega⟩) hS (fun q _ h => h.elim) (fun q h => h.elim) (fun H locs _ hz hk hS => ?_)
    have q230 := blF_lt (v := (x5 >>> ((nI 6) &&& 31))) (n := nP) (by omega)
    generalize blF (x5 >>> ((nI 6) &&& 31)) nP = ka at q230 ⊢
    have hW := hW.kept (fun q hq => hk q hq (fun h => h))
    refine kXi (vx_runV (As := [.int (nI hh), .int (nI ka)]) (rest := []) ⟨hx, hb, hml, hown, hts⟩ (c_X3_prefer l hfl G xa ad ad2 hXI nH nP hH hP dC τ z H.size (nI hh) (nI ka) hv) (cwV 2 hts gL_law_X3_prefer rfl rfl rfl (by decide +kernel) ⟨Nat.le_of_ble_eq_true rfl, Nat.le_of_ble_eq_true rfl⟩) ⟨Pc3.blind, va_recv hK (va_P1 hW.choose_spec.1.1) (ci := 3) (q0 := 0) rfl rfl, Pc3.pre hW hK hXK hS (hsub hS.1)⟩ rfl rfl hl.1 rfl (lv_room (Nat.le_of_ble_eq_true rfl)) dL_law_233 ⟨by show cells + 0 + 0 + 0 + 0 + 2 ≤ 702924; omega, by show slots + 0 + 0 + 0 + 0 + 12 ≤ 6992697; omega⟩) hS (hsub hS.1) (hsub hS.1) (hsub hS.1) (fun E ce q9 H locs hE hBX hk9 hS hc9 hv9 hcl => ?_) (fun H locs ok hW hk9 hS => ?_)
    · skip
      rcases hE with t | t
      · exact absurd (hOk_of (show hh < nH by omega) hH) t.2
      · exact absurd (pOk_of (show ka < nP by omega) hP) t.2.2
    · skip
      rw [show cl (nI hh) = hh from nI_clamp (by omega)] at hW
      refine lv_pop hx hb dL_law_236 rfl ?_
      refine W.widen (k := cells + 7) (n := slots + 42) (by omega) (by omega) ?_
      exact kk _ _ _ _ _ _ (show hh < nH by omega) (hq.put5 (show ka < nP by omega)) ⟨_, hW⟩ hS (lv_sub hl [2, 3, 4, 5, 6, 1, 0] rfl)
  · skip
    refine lv_tableOut (tgt := 221) hx hb dL_law_73 (by decide) (by decide) ?_
    refine lv_aload_n hx hb dL_law_221 rfl (lv_at hl 3 rfl) ?_
    refine lv_iload hx hb dL_law_222 (lv_at hl 0 rfl) ?_
    refine lv_iload hx hb dL_law_224 (lv_at hl 1 rfl) ?_
    refine lv_bipush (v := nI 6) hx hb dL_law_226 (by decide) ?_
    refine lv_ishr hx hb dL_law_228 ?_
    refine lv_iload_n hx hb dL_law_229 rfl (lv_at hl 5 rfl) ?_
    refine kI (va_runS (As := [.int (x5 >>> ((nI 6) &&& 31)), .int (nI nP)]) (rest := [.int (nI hh), .ref xa]) ⟨hx, hb, hml, hown, hts⟩ (c_L_below l (x5 >>> ((nI 6) &&& 31)) nP (by omega) (by omega)) (va_cwS 2 hts gL_law_L_below rfl rfl rfl (by decide +kernel) ⟨Nat.le_of_ble_eq_true rfl, Nat.le_of_ble_eq_true rfl⟩) ⟨Pc9.blind, Pc9.pre⟩ rfl rfl hl.1 rfl (lv_room (Nat.le_of_ble_eq_true rfl)) dL_law_230 ⟨by show cells + 0 + 0 + 0 + 0 ≤ 702924; omega, by show slots + 0 + 0 + 0 + 0 ≤ 6992697; omega⟩) hS (fun q _ h => h.elim) (fun q h => h.elim) (fun H locs _ hz hk hS => ?_)
    have q230 := blF_lt (v := (x5 >>> ((nI 6) &&& 31))) (n := nP) (by omega)
    generalize blF (x5 >>> ((nI 6) &&& 31)) nP = ka at q230 ⊢
    have hW := hW.kept (fun q hq => hk q hq (fun h => h))
    refine kXi (vx_runV (As := [.int (nI hh), .int (nI ka)]) (rest := []) ⟨hx, hb, hml, hown, hts⟩ (c_X3_prefer l hfl G xa ad ad2 hXI nH nP hH hP dC τ z H.size (nI hh) (nI ka) hv) (cwV 2 hts gL_law_X3_prefer rfl rfl rfl (by decide +kernel) ⟨Nat.le_of_ble_eq_true rfl, Nat.le_of_ble_eq_true rfl⟩) ⟨Pc3.blind, va_recv hK (va_P1 hW.choose_spec.1.1) (ci := 3) (q0 := 0) rfl rfl, Pc3.pre hW hK hXK hS (hsub hS.1)⟩ rfl rfl hl.1 rfl (lv_room (Nat.le_of_ble_eq_true rfl)) dL_law_233 ⟨by show cells + 0 + 0 + 0 + 0 + 2 ≤ 702924; omega, by show slots + 0 + 0 + 0 + 0 + 12 ≤ 6992697; omega⟩) hS (hsub hS.1) (hsub hS.1) (hsub hS.1) (fun E ce q9 H locs hE hBX hk9 hS hc9 hv9 hcl => ?_) (fun H locs ok hW hk9 hS => ?_)
    · skip
      rcases hE with t | t
      · exact absurd (hOk_of (show hh < nH by omega) hH) t.2
      · exact absurd (pOk_of (show ka < nP by omega) hP) t.2.2
    · skip
      rw [show cl (nI hh) = hh from nI_clamp (by omega)] at hW
      refine lv_pop hx hb dL_law_236 rfl ?_
      refine W.widen (k := cells + 7) (n := slots + 42) (by omega) (by omega) ?_
      exact kk _ _ _ _ _ _ (show hh < nH by omega) (hq.put5 (show ka < nP by omega)) ⟨_, hW⟩ hS (lv_sub hl [2, 3, 4, 5, 6, 1, 0] rfl)
  · skip
    refine lv_tableOut (tgt := 221) hx hb dL_law_73 (by decide) (by decide) ?_
    refine lv_aload_n hx hb dL_law_221 rfl (lv_at hl 3 rfl) ?_
    refine lv_iload hx hb dL_law_222 (lv_at hl 0 rfl) ?_
    refine lv_iload hx hb dL_law_224 (lv_at hl 1 rfl) ?_
    refine lv_bipush (v := nI 6) hx hb dL_law_226 (by decide) ?_
    refine lv_ishr hx hb dL_law_228 ?_
    refine lv_iload_n hx hb dL_law_229 rfl (lv_at hl 5 rfl) ?_
    refine kI (va_runS (As := [.int (x5 >>> ((nI 6) &&& 31)), .int (nI nP)]) (rest := [.int (nI hh), .ref xa]) ⟨hx, hb, hml, hown, hts⟩ (c_L_below l (x5 >>> ((nI 6) &&& 31)) nP (by omega) (by omega)) (va_cwS 2 hts gL_law_L_below rfl rfl rfl (by decide +kernel) ⟨Nat.le_of_ble_eq_true rfl, Nat.le_of_ble_eq_true rfl⟩) ⟨Pc9.blind, Pc9.pre⟩ rfl rfl hl.1 rfl (lv_room (Nat.le_of_ble_eq_true rfl)) dL_law_230 ⟨by show cells + 0 + 0 + 0 + 0 ≤ 702924; omega, by show slots + 0 + 0 + 0 + 0 ≤ 6992697; omega⟩) hS (fun q _ h => h.elim) (fun q h => h.elim) (fun H locs _ hz hk hS => ?_)
    have q230 := blF_lt (v := (x5 >>> ((nI 6) &&& 31))) (n := nP) (by omega)
    generalize blF (x5 >>> ((nI 6) &&& 31)) nP = ka at q230 ⊢
    have hW := hW.kept (fun q hq => hk q hq (fun h => h))
    refine kXi (vx_runV (As := [.int (nI hh), .int (nI ka)]) (rest := []) ⟨hx, hb, hml, hown, hts⟩ (c_X3_prefer l hfl G xa ad ad2 hXI nH nP hH hP dC τ z H.size (nI hh) (nI ka) hv) (cwV 2 hts gL_law_X3_prefer rfl rfl rfl (by decide +kernel) ⟨Nat.le_of_ble_eq_true rfl, Nat.le_of_ble_eq_true rfl⟩) ⟨Pc3.blind, va_recv hK (va_P1 hW.choose_spec.1.1) (ci := 3) (q0 := 0) rfl rfl, Pc3.pre hW hK hXK hS (hsub hS.1)⟩ rfl rfl hl.1 rfl (lv_room (Nat.le_of_ble_eq_true rfl)) dL_law_233 ⟨by show cells + 0 + 0 + 0 + 0 + 2 ≤ 702924; omega, by show slots + 0 + 0 + 0 + 0 + 12 ≤ 6992697; omega⟩) hS (hsub hS.1) (hsub hS.1) (hsub hS.1) (fun E ce q9 H locs hE hBX hk9 hS hc9 hv9 hcl => ?_) (fun H locs ok hW hk9 hS => ?_)
    · skip
      rcases hE with t | t
      · exact absurd (hOk_of (show hh < nH by omega) hH) t.2
      · exact absurd (pOk_of (show ka < nP by omega) hP) t.2.2
    · skip
      rw [show cl (nI hh) = hh from nI_clamp (by omega)] at hW
      refine lv_pop hx hb dL_law_236 rfl ?_
      refine W.widen (k := cells + 7) (n := slots + 42) (by omega) (by omega) ?_
      exact kk _ _ _ _ _ _ (show hh < nH by omega) (hq.put5 (show ka < nP by omega)) ⟨_, hW⟩ hS (lv_sub hl [2, 3, 4, 5, 6, 1, 0] rfl)
