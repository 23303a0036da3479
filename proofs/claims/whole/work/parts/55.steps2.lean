set_option maxHeartbeats 4000000 in
set_option maxRecDepth 100000 in
theorem st_enrol {p : Program} {l : Launch} {e : Env} {s : State} {m : MethodId} {below : List Frame} {meth : Method} {c : Code} {b L : Nat} {xs : Nat → Int32} {G : wG} {cL : ClassId} {xa ma o9 pa : Nat} {ad ad2 bd bd2 : Nat → Nat} {Q : State → Prop} (CC : LwS p l s m c b L xs G cL xa ma o9 pa ad ad2 bd bd2) {j : Nat} (hj : 4 * j + 4 ≤ L) {H : Heap} {locs : List Loc} {cells slots : Nat} {ls : Array Slot} (hLI : LI G cL xa ma o9 ad ad2 bd bd2 j H) (hS : va_S (fun q : Nat => s.heap.size ≤ q) s.heap H locs) (hl : lv_has ls 9 [(0, .ref b), (1, .ref xa), (2, .ref ma), (3, .ref o9), (4, .int (nI (4 * j)))]) (hc : cells + 14 ≤ 601024) (hs : slots + 124 ≤ 7293034)
    (kk : ∀ (H1 : Heap) (locs1 : List Loc) (ls1 : Array Slot), LI G cL xa ma o9 ad ad2 bd bd2 (j + 1) H1 → va_S (fun q : Nat => s.heap.size ≤ q) s.heap H1 locs1 → lv_has ls1 9 [(0, .ref b), (1, .ref xa), (2, .ref ma), (3, .ref o9), (4, .int (nI (4 * j)))] → W p l e room_1 s m #[Value.ref b] below meth c H1 locs1 (cells + 14) (slots + 124) Q (F0 m 1327 ls1 [])) : W p l e room_1 s m #[Value.ref b] below meth c H locs cells slots Q (F0 m 548 ls []) := by
  obtain ⟨hx, hb, hml, hown, hts, hX, hbl, hL, hfl, hKL, hXK, hNc, hN, hPL, hF⟩ := CC
  obtain ⟨nH, nP, τ, z, t, d, hv, hd, hW, hM, hO⟩ := hLI
  have hH := hv.1
  have hP := hv.2.1
  have hK := hKL.k
  have hbA : ¬ (fun q : Nat => s.heap.size ≤ q) b := Nat.not_le.mpr hbl
  have hXI := hF.1
  have hMI := hF.2.1
  have hoa := hF.oa
  refine lv_aload_n hx hb dL_law_548 rfl (lv_at hl 1 rfl) ?_
  refine lv_aload_n hx hb dL_law_549 rfl (lv_at hl 0 rfl) ?_
  refine lv_iload hx hb dL_law_550 (lv_at hl 4 rfl) ?_
  refine lv_iconst (v := 1) hx hb dL_law_552 (by decide) ?_
  refine lv_iadd hx hb dL_law_553 ?_
  refine lv_topi (fun y ey => ?_)
  obtain rfl : y = nI (4 * j + 1) := ey.trans (nI_add (4 * j) 1)
  refine va_sld hx hb hX hbl hbA hS (vp_in_nI (show 4 * j + 1 < L by omega) (by omega)) dL_law_554 ?_
  rw [nI_clamp (show 4 * j + 1 < 2 ^ 31 by omega)]
  refine lv_aload_n hx hb dL_law_555 rfl (lv_at hl 0 rfl) ?_
  refine lv_iload hx hb dL_law_556 (lv_at hl 4 rfl) ?_
  refine lv_iconst (v := 2) hx hb dL_law_558 (by decide) ?_
  refine lv_iadd hx hb dL_law_559 ?_
  refine lv_topi (fun y ey => ?_)
  obtain rfl : y = nI (4 * j + 2) := ey.trans (nI_add (4 * j) 2)
  refine va_sld hx hb hX hbl hbA hS (vp_in_nI (show 4 * j + 2 < L by omega) (by omega)) dL_law_560 ?_
  rw [nI_clamp (show 4 * j + 2 < 2 ^ 31 by omega)]
  refine lv_aload_n hx hb dL_law_561 rfl (lv_at hl 3 rfl) ?_
  refine kW (vx_runSX (As := [.ref xa, .int (xs (4 * j + 1)), .int (xs (4 * j + 2)), .ref o9]) (rest := []) ⟨hx, hb, hml, hown, hts⟩ (c_L_enrol l hfl G cL xa ad ad2 hXI nH nP hH hP dC τ z H.size o9 d (xs (4 * j + 1)) (xs (4 * j + 2)) hv hoa hO.lt) (vx_cwSW 4 hts gL_law_L_enrol rfl rfl rfl (by decide +kernel) ⟨Nat.le_of_ble_eq_true rfl, Nat.le_of_ble_eq_true rfl⟩) ⟨PcW.blind, PcW.pre ⟨hW, hO⟩ hKL hXK hNc hS (hF.subO hS.1)⟩ rfl rfl hl.1 rfl (lv_room (Nat.le_of_ble_eq_true rfl)) dL_law_562 ⟨by show cells + 3 ≤ 601024; omega, by show slots + 18 ≤ 7293034; omega⟩) hS (fun q _ h => hF.subO hS.1 q h) (hF.subO hS.1) (fun u H locs hP1 hB hz hk hS => ?_)
  obtain ⟨hW, d2, hO, hd2⟩ := hB
  have hM := hF.keepM hM hk
  refine lv_istore (lv' := [(5, .int (nI u)), (0, .ref b), (1, .ref xa), (2, .ref ma), (3, .ref o9), (4, .int (nI (4 * j)))]) hx hb dL_law_565 hl (by decide) rfl (fun ls hl => ?_)
  refine lv_aload_n hx hb dL_law_567 rfl (lv_at hl 3 rfl) ?_
  refine lv_aload_n hx hb dL_law_568 rfl (lv_at hl 1 rfl) ?_
  refine lv_iload hx hb dL_law_569 (lv_at hl 5 rfl) ?_
  refine lv_iconst (v := 1) hx hb dL_law_571 (by decide) ?_
  refine lv_iadd hx hb dL_law_572 ?_
  refine lv_topi (fun y ey => ?_)
  obtain rfl : y = nI (4 * j + 1) := ey.trans (nI_add (4 * j) 1)
  refine va_sld hx hb hX hbl hbA hS (vp_in_nI (show 4 * j + 1 < L by omega) (by omega)) dL_law_573 ?_
  rw [nI_clamp (show 4 * j + 1 < 2 ^ 31 by omega)]
  refine lv_aload_n hx hb dL_law_574 rfl (lv_at hl 1 rfl) ?_
  refine lv_iload hx hb dL_law_575 (lv_at hl 5 rfl) ?_
  refine lv_iconst (v := 2) hx hb dL_law_577 (by decide) ?_
  refine lv_iadd hx hb dL_law_578 ?_
  refine lv_topi (fun y ey => ?_)
  obtain rfl : y = nI (4 * j + 2) := ey.trans (nI_add (4 * j) 2)
  refine va_sld hx hb hX hbl hbA hS (vp_in_nI (show 4 * j + 2 < L by omega) (by omega)) dL_law_579 ?_
  rw [nI_clamp (show 4 * j + 2 < 2 ^ 31 by omega)]
  refine kM (va_runV (As := [.int (xs (4 * j + 1)), .int (xs (4 * j + 2))]) (rest := []) ⟨hx, hb, hml, hown, hts⟩ (c_X5_enrol l G ma bd bd2 hMI nH nP hH hP dR τ z t H.size (xs (4 * j + 1)) (xs (4 * j + 2)) hv) (cwV 2 hts gL_law_X5_enrol rfl rfl rfl (by decide +kernel) ⟨Nat.le_of_ble_eq_true rfl, Nat.le_of_ble_eq_true rfl⟩) ⟨PcM.blind, va_recv hK (va_P1 hM.choose_spec.1.1) (ci := 5) (q0 := 0) rfl rfl, PcM.pre hM hK hN⟩ rfl rfl hl.1 rfl (lv_room (Nat.le_of_ble_eq_true rfl)) dL_law_580 ⟨by show cells + 3 + 0 ≤ 601024; omega, by show slots + 18 + 0 ≤ 7293034; omega⟩) hS (fun q _ h => hF.subM hS.1 q h) (hF.subM hS.1) (fun w r H locs hP2 hr hM hz hk hS => ?_)
  have hW := hF.keepX hW hk
  have hO := hF.keepO hO hk
  obtain rfl := uq2b hP1 hP2
  have hu : u ≤ 2 := by rcases hP1 with ⟨q1, ok⟩ | ⟨q1, -⟩ | ⟨q1, -⟩ <;> omega
  have ok : u = 0 → pOk nP (xs (4 * j + 1)) ∧ hOk nH (xs (4 * j + 2)) ∧ ¬ plc (τ (40 + cl (xs (4 * j + 1)))) (xs (4 * j + 2)) (sz τ (cl (xs (4 * j + 1)))) < sz τ (cl (xs (4 * j + 1))) ∧ τ 4 (cl (xs (4 * j + 2))) < 3 := fun q => by
    rcases hP1 with ⟨q1, ok⟩ | ⟨q1, -⟩ | ⟨q1, -⟩
    · exact ok
    · exact absurd q (by omega)
    · exact absurd q (by omega)
  simp only [sel_same] at hM
  have hv2 : Inv nH nP (sel u (wst (wst τ (40 + cl (xs (4 * j + 1))) (sz τ (cl (xs (4 * j + 1)))) (xs (4 * j + 2))) 26 (cl (xs (4 * j + 1))) (nI (sz τ (cl (xs (4 * j + 1))) + 1))) τ) := sel_inv0 hv (fun q => by
    obtain ⟨k, hk, ek⟩ := pOk_nI (ok q).1 (by omega)
    obtain ⟨h, hh, eh⟩ := hOk_nI (ok q).2.1 hH
    have h3 := (ok q).2.2.1
    rw [ek, eh, show cl (nI k) = k from nI_clamp (by omega)] at h3
    rw [ek, eh, show cl (nI k) = k from nI_clamp (by omega)]
    exact hv.enrol hk hh h3)
  have hd3 : DB nH (300 * (j + 1)) (sel u (wst (wst τ (40 + cl (xs (4 * j + 1))) (sz τ (cl (xs (4 * j + 1)))) (xs (4 * j + 2))) 26 (cl (xs (4 * j + 1))) (nI (sz τ (cl (xs (4 * j + 1))) + 1))) τ) := sel_db0 hd (fun _ => ((hd.put (by omega)).put (by decide)).mono (by omega)) (by omega)
  refine lv_istore (lv' := [(6, .int r), (5, .int (nI u)), (0, .ref b), (1, .ref xa), (2, .ref ma), (3, .ref o9), (4, .int (nI (4 * j)))]) hx hb dL_law_583 hl (by decide) rfl (fun ls hl => ?_)
  refine lv_aload_n hx hb dL_law_585 rfl (lv_at hl 4 rfl) ?_
  obtain ⟨σ2, hM2, hz2⟩ := hM
  refine kI (va_runV (As := []) (rest := []) ⟨hx, hb, hml, hown, hts⟩ (c_X5_thrown l G ma bd bd2 hMI nH nP hv2.1 hv2.2.1 dR (sel u (wst (wst τ (40 + cl (xs (4 * j + 1))) (sz τ (cl (xs (4 * j + 1)))) (xs (4 * j + 2))) 26 (cl (xs (4 * j + 1))) (nI (sz τ (cl (xs (4 * j + 1))) + 1))) τ) σ2 (nI u) H.size) (cwV 0 hts gL_law_X5_thrown rfl rfl rfl (by decide +kernel) ⟨Nat.le_of_ble_eq_true rfl, Nat.le_of_ble_eq_true rfl⟩) ⟨PcM.blind, va_recv hK (va_P1 hM2.1) (ci := 5) (q0 := 0) rfl rfl, PcM.pre hM2 hK hN⟩ rfl rfl hl.1 rfl (lv_room (Nat.le_of_ble_eq_true rfl)) dL_law_586 ⟨by show cells + 3 + 0 + 0 ≤ 601024; omega, by show slots + 18 + 0 + 0 ≤ 7293034; omega⟩) hS (fun q _ h => h.elim) (fun q h => h.elim) (fun H locs hM2 hz hk hS => ?_)
  have hW := hW.kept (fun q hq => hk q hq (fun h => h))
  have hO := hO.kept (hk _ hO.lt (fun h => h))
  have hM : MWz G ma bd bd2 (nI u) (wmx nH nP dR (sel u (wst (wst τ (40 + cl (xs (4 * j + 1))) (sz τ (cl (xs (4 * j + 1)))) (xs (4 * j + 2))) 26 (cl (xs (4 * j + 1))) (nI (sz τ (cl (xs (4 * j + 1))) + 1))) τ)) z H := ⟨σ2, hM2, hz2⟩
  refine lv_iload hx hb dL_law_589 (lv_at hl 1 rfl) ?_
  refine lv_icmp_eq (tgt := 596) hx hb dL_law_591 (by decide) (fun c => ?_) (fun c => absurd rfl c)
  refine lv_iload hx hb dL_law_596 (lv_at hl 1 rfl) ?_
  refine lv_if_ne (tgt := 613) hx hb dL_law_598 (by decide) (fun c => ?_) (fun c => ?_)
  · skip
    refine lv_goto (tgt := 1327) hx hb dL_law_613 (by decide) ?_
    refine W.widen (k := cells + 14) (n := slots + 124) (by omega) (by omega) ?_
    exact kk _ _ _ ⟨_, _, _, _, _, _, hv2, hd3, hW, hM, hO⟩ hS (lv_sub hl [2, 3, 4, 5, 6] rfl)
  · skip
    have hu0 : u = 0 := (nI_eq (a := u) (b := 0) (by omega) (by omega)).mp (by first | exact c | exact Decidable.not_not.mp c)
    refine lv_aload_n hx hb dL_law_601 rfl (lv_at hl 5 rfl) ?_
    refine lv_iconst (v := 0) hx hb dL_law_602 (by decide) ?_
    refine rO hx hb hKL hO dL_law_603 ?_
    refine lv_iload hx hb dL_law_604 (lv_at hl 0 rfl) ?_
    refine lv_i2l hx hb dL_law_606 rfl ?_
    refine W.lcmp hx hb dL_law_607 ?_
    refine lv_if_eq (tgt := 613) hx hb dL_law_608 (by decide) (fun c2 => ?_) (fun c2 => absurd (by rw [hd2 hu0, hr hu0]; exact lg_cmp_self) c2)
    refine lv_goto (tgt := 1327) hx hb dL_law_613 (by decide) ?_
    refine W.widen (k := cells + 14) (n := slots + 124) (by omega) (by omega) ?_
    exact kk _ _ _ ⟨_, _, _, _, _, _, hv2, hd3, hW, hM, hO⟩ hS (lv_sub hl [2, 3, 4, 5, 6] rfl)

set_option maxHeartbeats 4000000 in
set_option maxRecDepth 100000 in
theorem st_change {p : Program} {l : Launch} {e : Env} {s : State} {m : MethodId} {below : List Frame} {meth : Method} {c : Code} {b L : Nat} {xs : Nat → Int32} {G : wG} {cL : ClassId} {xa ma o9 pa : Nat} {ad ad2 bd bd2 : Nat → Nat} {Q : State → Prop} (CC : LwS p l s m c b L xs G cL xa ma o9 pa ad ad2 bd bd2) {j : Nat} (hj : 4 * j + 4 ≤ L) {H : Heap} {locs : List Loc} {cells slots : Nat} {ls : Array Slot} (hLI : LI G cL xa ma o9 ad ad2 bd bd2 j H) (hS : va_S (fun q : Nat => s.heap.size ≤ q) s.heap H locs) (hl : lv_has ls 9 [(0, .ref b), (1, .ref xa), (2, .ref ma), (3, .ref o9), (4, .int (nI (4 * j)))]) (hc : cells + 14 ≤ 601024) (hs : slots + 124 ≤ 7293034)
    (kk : ∀ (H1 : Heap) (locs1 : List Loc) (ls1 : Array Slot), LI G cL xa ma o9 ad ad2 bd bd2 (j + 1) H1 → va_S (fun q : Nat => s.heap.size ≤ q) s.heap H1 locs1 → lv_has ls1 9 [(0, .ref b), (1, .ref xa), (2, .ref ma), (3, .ref o9), (4, .int (nI (4 * j)))] → W p l e room_1 s m #[Value.ref b] below meth c H1 locs1 (cells + 14) (slots + 124) Q (F0 m 1327 ls1 [])) : W p l e room_1 s m #[Value.ref b] below meth c H locs cells slots Q (F0 m 616 ls []) := by
  obtain ⟨hx, hb, hml, hown, hts, hX, hbl, hL, hfl, hKL, hXK, hNc, hN, hPL, hF⟩ := CC
  obtain ⟨nH, nP, τ, z, t, d, hv, hd, hW, hM, hO⟩ := hLI
  have hH := hv.1
  have hP := hv.2.1
  have hK := hKL.k
  have hbA : ¬ (fun q : Nat => s.heap.size ≤ q) b := Nat.not_le.mpr hbl
  have hXI := hF.1
  have hMI := hF.2.1
  have hoa := hF.oa
  refine lv_aload_n hx hb dL_law_616 rfl (lv_at hl 1 rfl) ?_
  refine lv_aload_n hx hb dL_law_617 rfl (lv_at hl 0 rfl) ?_
  refine lv_iload hx hb dL_law_618 (lv_at hl 4 rfl) ?_
  refine lv_iconst (v := 1) hx hb dL_law_620 (by decide) ?_
  refine lv_iadd hx hb dL_law_621 ?_
  refine lv_topi (fun y ey => ?_)
  obtain rfl : y = nI (4 * j + 1) := ey.trans (nI_add (4 * j) 1)
  refine va_sld hx hb hX hbl hbA hS (vp_in_nI (show 4 * j + 1 < L by omega) (by omega)) dL_law_622 ?_
  rw [nI_clamp (show 4 * j + 1 < 2 ^ 31 by omega)]
  refine lv_aload_n hx hb dL_law_623 rfl (lv_at hl 0 rfl) ?_
  refine lv_iload hx hb dL_law_624 (lv_at hl 4 rfl) ?_
  refine lv_iconst (v := 2) hx hb dL_law_626 (by decide) ?_
  refine lv_iadd hx hb dL_law_627 ?_
  refine lv_topi (fun y ey => ?_)
  obtain rfl : y = nI (4 * j + 2) := ey.trans (nI_add (4 * j) 2)
  refine va_sld hx hb hX hbl hbA hS (vp_in_nI (show 4 * j + 2 < L by omega) (by omega)) dL_law_628 ?_
  rw [nI_clamp (show 4 * j + 2 < 2 ^ 31 by omega)]
  refine lv_aload_n hx hb dL_law_629 rfl (lv_at hl 0 rfl) ?_
  refine lv_iload hx hb dL_law_630 (lv_at hl 4 rfl) ?_
  refine lv_iconst (v := 3) hx hb dL_law_632 (by decide) ?_
  refine lv_iadd hx hb dL_law_633 ?_
  refine lv_topi (fun y ey => ?_)
  obtain rfl : y = nI (4 * j + 3) := ey.trans (nI_add (4 * j) 3)
  refine va_sld hx hb hX hbl hbA hS (vp_in_nI (show 4 * j + 3 < L by omega) (by omega)) dL_law_634 ?_
  rw [nI_clamp (show 4 * j + 3 < 2 ^ 31 by omega)]
  refine lv_aload_n hx hb dL_law_635 rfl (lv_at hl 3 rfl) ?_
  refine kW (vx_runSX (As := [.ref xa, .int (xs (4 * j + 1)), .int (xs (4 * j + 2)), .int (xs (4 * j + 3)), .ref o9]) (rest := []) ⟨hx, hb, hml, hown, hts⟩ (c_L_change l hfl G cL xa ad ad2 hXI nH nP hH hP dC τ z H.size o9 d (xs (4 * j + 1)) (xs (4 * j + 2)) (xs (4 * j + 3)) hv hoa hO.lt) (vx_cwSW 5 hts gL_law_L_change rfl rfl rfl (by decide +kernel) ⟨Nat.le_of_ble_eq_true rfl, Nat.le_of_ble_eq_true rfl⟩) ⟨PcW.blind, PcW.pre ⟨hW, hO⟩ hKL hXK hNc hS (hF.subO hS.1)⟩ rfl rfl hl.1 rfl (lv_room (Nat.le_of_ble_eq_true rfl)) dL_law_636 ⟨by show cells + 4 ≤ 601024; omega, by show slots + 24 ≤ 7293034; omega⟩) hS (fun q _ h => hF.subO hS.1 q h) (hF.subO hS.1) (fun u H locs hP1 hB hz hk hS => ?_)
  obtain ⟨hW, d2, hO, hd2⟩ := hB
  have hM := hF.keepM hM hk
  refine lv_istore (lv' := [(5, .int (nI u)), (0, .ref b), (1, .ref xa), (2, .ref ma), (3, .ref o9), (4, .int (nI (4 * j)))]) hx hb dL_law_639 hl (by decide) rfl (fun ls hl => ?_)
  refine lv_aload_n hx hb dL_law_641 rfl (lv_at hl 3 rfl) ?_
  refine lv_aload_n hx hb dL_law_642 rfl (lv_at hl 1 rfl) ?_
  refine lv_iload hx hb dL_law_643 (lv_at hl 5 rfl) ?_
  refine lv_iconst (v := 1) hx hb dL_law_645 (by decide) ?_
  refine lv_iadd hx hb dL_law_646 ?_
  refine lv_topi (fun y ey => ?_)
  obtain rfl : y = nI (4 * j + 1) := ey.trans (nI_add (4 * j) 1)
  refine va_sld hx hb hX hbl hbA hS (vp_in_nI (show 4 * j + 1 < L by omega) (by omega)) dL_law_647 ?_
  rw [nI_clamp (show 4 * j + 1 < 2 ^ 31 by omega)]
  refine lv_aload_n hx hb dL_law_648 rfl (lv_at hl 1 rfl) ?_
  refine lv_iload hx hb dL_law_649 (lv_at hl 5 rfl) ?_
  refine lv_iconst (v := 2) hx hb dL_law_651 (by decide) ?_
  refine lv_iadd hx hb dL_law_652 ?_
  refine lv_topi (fun y ey => ?_)
  obtain rfl : y = nI (4 * j + 2) := ey.trans (nI_add (4 * j) 2)
  refine va_sld hx hb hX hbl hbA hS (vp_in_nI (show 4 * j + 2 < L by omega) (by omega)) dL_law_653 ?_
  rw [nI_clamp (show 4 * j + 2 < 2 ^ 31 by omega)]
  refine lv_aload_n hx hb dL_law_654 rfl (lv_at hl 1 rfl) ?_
  refine lv_iload hx hb dL_law_655 (lv_at hl 5 rfl) ?_
  refine lv_iconst (v := 3) hx hb dL_law_657 (by decide) ?_
  refine lv_iadd hx hb dL_law_658 ?_
  refine lv_topi (fun y ey => ?_)
  obtain rfl : y = nI (4 * j + 3) := ey.trans (nI_add (4 * j) 3)
  refine va_sld hx hb hX hbl hbA hS (vp_in_nI (show 4 * j + 3 < L by omega) (by omega)) dL_law_659 ?_
  rw [nI_clamp (show 4 * j + 3 < 2 ^ 31 by omega)]
  refine kM (va_runV (As := [.int (xs (4 * j + 1)), .int (xs (4 * j + 2)), .int (xs (4 * j + 3))]) (rest := []) ⟨hx, hb, hml, hown, hts⟩ (c_X5_change l G ma bd bd2 hMI nH nP hH hP dR τ z t H.size (xs (4 * j + 1)) (xs (4 * j + 2)) (xs (4 * j + 3)) hv) (cwV 3 hts gL_law_X5_change rfl rfl rfl (by decide +kernel) ⟨Nat.le_of_ble_eq_true rfl, Nat.le_of_ble_eq_true rfl⟩) ⟨PcM.blind, va_recv hK (va_P1 hM.choose_spec.1.1) (ci := 5) (q0 := 0) rfl rfl, PcM.pre hM hK hN⟩ rfl rfl hl.1 rfl (lv_room (Nat.le_of_ble_eq_true rfl)) dL_law_660 ⟨by show cells + 4 + 0 ≤ 601024; omega, by show slots + 24 + 0 ≤ 7293034; omega⟩) hS (fun q _ h => hF.subM hS.1 q h) (hF.subM hS.1) (fun w r H locs hP2 hr hM hz hk hS => ?_)
  have hW := hF.keepX hW hk
  have hO := hF.keepO hO hk
  obtain rfl := uq1 hP1 hP2
  have hu : u ≤ 2 := by rcases hP1 with ⟨q1, ok⟩ | ⟨q1, -⟩ <;> omega
  have ok : u = 0 → plOk nP τ (xs (4 * j + 1)) (xs (4 * j + 2)) ∧ plOk nP τ (xs (4 * j + 1)) (xs (4 * j + 3)) := fun q => by
    rcases hP1 with ⟨q1, ok⟩ | ⟨q1, -⟩
    · exact ok
    · exact absurd q (by omega)
  simp only [sel_same] at hM
  have hv2 : Inv nH nP (sel u (wst (wst τ (40 + cl (xs (4 * j + 1))) (cl (xs (4 * j + 2))) (τ (40 + cl (xs (4 * j + 1))) (cl (xs (4 * j + 3))))) (40 + cl (xs (4 * j + 1))) (cl (xs (4 * j + 3))) (τ (40 + cl (xs (4 * j + 1))) (cl (xs (4 * j + 2))))) τ) := sel_inv0 hv (fun q => by
    obtain ⟨k, a, hk, ha, ek, ea⟩ := plOk_nI hv (ok q).1
    have h3 := (ok q).2
    rw [ek] at h3
    obtain ⟨b9, hb9, eb⟩ := plOk_nI2 hv hk h3
    have h10 := (hv.2.2.2.2.2 k hk).2.2.2.2.1.1
    rw [ek, ea, eb, show cl (nI k) = k from nI_clamp (by omega), show cl (nI a) = a from nI_clamp (by omega), show cl (nI b9) = b9 from nI_clamp (by omega)]
    exact hv.change hk ha hb9)
  have hd3 : DB nH (300 * (j + 1)) (sel u (wst (wst τ (40 + cl (xs (4 * j + 1))) (cl (xs (4 * j + 2))) (τ (40 + cl (xs (4 * j + 1))) (cl (xs (4 * j + 3))))) (40 + cl (xs (4 * j + 1))) (cl (xs (4 * j + 3))) (τ (40 + cl (xs (4 * j + 1))) (cl (xs (4 * j + 2))))) τ) := sel_db0 hd (fun _ => ((hd.put (by omega)).put (by omega)).mono (by omega)) (by omega)
  refine lv_istore (lv' := [(6, .int r), (5, .int (nI u)), (0, .ref b), (1, .ref xa), (2, .ref ma), (3, .ref o9), (4, .int (nI (4 * j)))]) hx hb dL_law_663 hl (by decide) rfl (fun ls hl => ?_)
  refine lv_aload_n hx hb dL_law_665 rfl (lv_at hl 4 rfl) ?_
  obtain ⟨σ2, hM2, hz2⟩ := hM
  refine kI (va_runV (As := []) (rest := []) ⟨hx, hb, hml, hown, hts⟩ (c_X5_thrown l G ma bd bd2 hMI nH nP hv2.1 hv2.2.1 dR (sel u (wst (wst τ (40 + cl (xs (4 * j + 1))) (cl (xs (4 * j + 2))) (τ (40 + cl (xs (4 * j + 1))) (cl (xs (4 * j + 3))))) (40 + cl (xs (4 * j + 1))) (cl (xs (4 * j + 3))) (τ (40 + cl (xs (4 * j + 1))) (cl (xs (4 * j + 2))))) τ) σ2 (nI u) H.size) (cwV 0 hts gL_law_X5_thrown rfl rfl rfl (by decide +kernel) ⟨Nat.le_of_ble_eq_true rfl, Nat.le_of_ble_eq_true rfl⟩) ⟨PcM.blind, va_recv hK (va_P1 hM2.1) (ci := 5) (q0 := 0) rfl rfl, PcM.pre hM2 hK hN⟩ rfl rfl hl.1 rfl (lv_room (Nat.le_of_ble_eq_true rfl)) dL_law_666 ⟨by show cells + 4 + 0 + 0 ≤ 601024; omega, by show slots + 24 + 0 + 0 ≤ 7293034; omega⟩) hS (fun q _ h => h.elim) (fun q h => h.elim) (fun H locs hM2 hz hk hS => ?_)
  have hW := hW.kept (fun q hq => hk q hq (fun h => h))
  have hO := hO.kept (hk _ hO.lt (fun h => h))
  have hM : MWz G ma bd bd2 (nI u) (wmx nH nP dR (sel u (wst (wst τ (40 + cl (xs (4 * j + 1))) (cl (xs (4 * j + 2))) (τ (40 + cl (xs (4 * j + 1))) (cl (xs (4 * j + 3))))) (40 + cl (xs (4 * j + 1))) (cl (xs (4 * j + 3))) (τ (40 + cl (xs (4 * j + 1))) (cl (xs (4 * j + 2))))) τ)) z H := ⟨σ2, hM2, hz2⟩
  refine lv_iload hx hb dL_law_669 (lv_at hl 1 rfl) ?_
  refine lv_icmp_eq (tgt := 676) hx hb dL_law_671 (by decide) (fun c => ?_) (fun c => absurd rfl c)
  refine lv_iload hx hb dL_law_676 (lv_at hl 1 rfl) ?_
  refine lv_if_ne (tgt := 693) hx hb dL_law_678 (by decide) (fun c => ?_) (fun c => ?_)
  · skip
    refine lv_goto (tgt := 1327) hx hb dL_law_693 (by decide) ?_
    refine W.widen (k := cells + 14) (n := slots + 124) (by omega) (by omega) ?_
    exact kk _ _ _ ⟨_, _, _, _, _, _, hv2, hd3, hW, hM, hO⟩ hS (lv_sub hl [2, 3, 4, 5, 6] rfl)
  · skip
    have hu0 : u = 0 := (nI_eq (a := u) (b := 0) (by omega) (by omega)).mp (by first | exact c | exact Decidable.not_not.mp c)
    refine lv_aload_n hx hb dL_law_681 rfl (lv_at hl 5 rfl) ?_
    refine lv_iconst (v := 0) hx hb dL_law_682 (by decide) ?_
    refine rO hx hb hKL hO dL_law_683 ?_
    refine lv_iload hx hb dL_law_684 (lv_at hl 0 rfl) ?_
    refine lv_i2l hx hb dL_law_686 rfl ?_
    refine W.lcmp hx hb dL_law_687 ?_
    refine lv_if_eq (tgt := 693) hx hb dL_law_688 (by decide) (fun c2 => ?_) (fun c2 => absurd (by rw [hd2 hu0, hr hu0]; exact lg_cmp_self) c2)
    refine lv_goto (tgt := 1327) hx hb dL_law_693 (by decide) ?_
    refine W.widen (k := cells + 14) (n := slots + 124) (by omega) (by omega) ?_
    exact kk _ _ _ ⟨_, _, _, _, _, _, hv2, hd3, hW, hM, hO⟩ hS (lv_sub hl [2, 3, 4, 5, 6] rfl)

set_option maxHeartbeats 4000000 in
set_option maxRecDepth 100000 in
theorem st_roster {p : Program} {l : Launch} {e : Env} {s : State} {m : MethodId} {below : List Frame} {meth : Method} {c : Code} {b L : Nat} {xs : Nat → Int32} {G : wG} {cL : ClassId} {xa ma o9 pa : Nat} {ad ad2 bd bd2 : Nat → Nat} {Q : State → Prop} (CC : LwS p l s m c b L xs G cL xa ma o9 pa ad ad2 bd bd2) {j : Nat} (hj : 4 * j + 4 ≤ L) {H : Heap} {locs : List Loc} {cells slots : Nat} {ls : Array Slot} (hLI : LI G cL xa ma o9 ad ad2 bd bd2 j H) (hS : va_S (fun q : Nat => s.heap.size ≤ q) s.heap H locs) (hl : lv_has ls 9 [(0, .ref b), (1, .ref xa), (2, .ref ma), (3, .ref o9), (4, .int (nI (4 * j)))]) (hc : cells + 14 ≤ 601024) (hs : slots + 124 ≤ 7293034)
    (kk : ∀ (H1 : Heap) (locs1 : List Loc) (ls1 : Array Slot), LI G cL xa ma o9 ad ad2 bd bd2 (j + 1) H1 → va_S (fun q : Nat => s.heap.size ≤ q) s.heap H1 locs1 → lv_has ls1 9 [(0, .ref b), (1, .ref xa), (2, .ref ma), (3, .ref o9), (4, .int (nI (4 * j)))] → W p l e room_1 s m #[Value.ref b] below meth c H1 locs1 (cells + 14) (slots + 124) Q (F0 m 1327 ls1 [])) : W p l e room_1 s m #[Value.ref b] below meth c H locs cells slots Q (F0 m 696 ls []) := by
  obtain ⟨hx, hb, hml, hown, hts, hX, hbl, hL, hfl, hKL, hXK, hNc, hN, hPL, hF⟩ := CC
  obtain ⟨nH, nP, τ, z, t, d, hv, hd, hW, hM, hO⟩ := hLI
  have hH := hv.1
  have hP := hv.2.1
  have hK := hKL.k
  have hbA : ¬ (fun q : Nat => s.heap.size ≤ q) b := Nat.not_le.mpr hbl
  have hXI := hF.1
  have hMI := hF.2.1
  have hoa := hF.oa
  refine lv_aload_n hx hb dL_law_696 rfl (lv_at hl 1 rfl) ?_
  refine lv_aload_n hx hb dL_law_697 rfl (lv_at hl 0 rfl) ?_
  refine lv_iload hx hb dL_law_698 (lv_at hl 4 rfl) ?_
  refine lv_iconst (v := 1) hx hb dL_law_700 (by decide) ?_
  refine lv_iadd hx hb dL_law_701 ?_
  refine lv_topi (fun y ey => ?_)
  obtain rfl : y = nI (4 * j + 1) := ey.trans (nI_add (4 * j) 1)
  refine va_sld hx hb hX hbl hbA hS (vp_in_nI (show 4 * j + 1 < L by omega) (by omega)) dL_law_702 ?_
  rw [nI_clamp (show 4 * j + 1 < 2 ^ 31 by omega)]
  refine lv_aload_n hx hb dL_law_703 rfl (lv_at hl 0 rfl) ?_
  refine lv_iload hx hb dL_law_704 (lv_at hl 4 rfl) ?_
  refine lv_iconst (v := 2) hx hb dL_law_706 (by decide) ?_
  refine lv_iadd hx hb dL_law_707 ?_
  refine lv_topi (fun y ey => ?_)
  obtain rfl : y = nI (4 * j + 2) := ey.trans (nI_add (4 * j) 2)
  refine va_sld hx hb hX hbl hbA hS (vp_in_nI (show 4 * j + 2 < L by omega) (by omega)) dL_law_708 ?_
  rw [nI_clamp (show 4 * j + 2 < 2 ^ 31 by omega)]
  refine lv_aload_n hx hb dL_law_709 rfl (lv_at hl 3 rfl) ?_
  refine kW (vx_runSX (As := [.ref xa, .int (xs (4 * j + 1)), .int (xs (4 * j + 2)), .ref o9]) (rest := []) ⟨hx, hb, hml, hown, hts⟩ (c_L_roster l hfl G cL xa ad ad2 hXI nH nP hH hP dC τ z H.size o9 d (xs (4 * j + 1)) (xs (4 * j + 2)) hv hoa hO.lt) (vx_cwSW 4 hts gL_law_L_roster rfl rfl rfl (by decide +kernel) ⟨Nat.le_of_ble_eq_true rfl, Nat.le_of_ble_eq_true rfl⟩) ⟨PcW.blind, PcW.pre ⟨hW, hO⟩ hKL hXK hNc hS (hF.subO hS.1)⟩ rfl rfl hl.1 rfl (lv_room (Nat.le_of_ble_eq_true rfl)) dL_law_710 ⟨by show cells + 2 ≤ 601024; omega, by show slots + 12 ≤ 7293034; omega⟩) hS (fun q _ h => hF.subO hS.1 q h) (hF.subO hS.1) (fun u H locs hP1 hB hz hk hS => ?_)
  obtain ⟨hW, d2, hO, hd2⟩ := hB
  have hM := hF.keepM hM hk
  refine lv_istore (lv' := [(5, .int (nI u)), (0, .ref b), (1, .ref xa), (2, .ref ma), (3, .ref o9), (4, .int (nI (4 * j)))]) hx hb dL_law_713 hl (by decide) rfl (fun ls hl => ?_)
  refine lv_aload_n hx hb dL_law_715 rfl (lv_at hl 3 rfl) ?_
  refine lv_aload_n hx hb dL_law_716 rfl (lv_at hl 1 rfl) ?_
  refine lv_iload hx hb dL_law_717 (lv_at hl 5 rfl) ?_
  refine lv_iconst (v := 1) hx hb dL_law_719 (by decide) ?_
  refine lv_iadd hx hb dL_law_720 ?_
  refine lv_topi (fun y ey => ?_)
  obtain rfl : y = nI (4 * j + 1) := ey.trans (nI_add (4 * j) 1)
  refine va_sld hx hb hX hbl hbA hS (vp_in_nI (show 4 * j + 1 < L by omega) (by omega)) dL_law_721 ?_
  rw [nI_clamp (show 4 * j + 1 < 2 ^ 31 by omega)]
  refine lv_aload_n hx hb dL_law_722 rfl (lv_at hl 1 rfl) ?_
  refine lv_iload hx hb dL_law_723 (lv_at hl 5 rfl) ?_
  refine lv_iconst (v := 2) hx hb dL_law_725 (by decide) ?_
  refine lv_iadd hx hb dL_law_726 ?_
  refine lv_topi (fun y ey => ?_)
  obtain rfl : y = nI (4 * j + 2) := ey.trans (nI_add (4 * j) 2)
  refine va_sld hx hb hX hbl hbA hS (vp_in_nI (show 4 * j + 2 < L by omega) (by omega)) dL_law_727 ?_
  rw [nI_clamp (show 4 * j + 2 < 2 ^ 31 by omega)]
  refine kM (va_runV (As := [.int (xs (4 * j + 1)), .int (xs (4 * j + 2))]) (rest := []) ⟨hx, hb, hml, hown, hts⟩ (c_X5_roster l G ma bd bd2 hMI nH nP hH hP dR τ z t H.size (xs (4 * j + 1)) (xs (4 * j + 2)) hv) (cwV 2 hts gL_law_X5_roster rfl rfl rfl (by decide +kernel) ⟨Nat.le_of_ble_eq_true rfl, Nat.le_of_ble_eq_true rfl⟩) ⟨PcM.blind, va_recv hK (va_P1 hM.choose_spec.1.1) (ci := 5) (q0 := 0) rfl rfl, PcM.pre hM hK hN⟩ rfl rfl hl.1 rfl (lv_room (Nat.le_of_ble_eq_true rfl)) dL_law_728 ⟨by show cells + 2 + 0 ≤ 601024; omega, by show slots + 12 + 0 ≤ 7293034; omega⟩) hS (fun q _ h => hF.subM hS.1 q h) (hF.subM hS.1) (fun w r H locs hP2 hr hM hz hk hS => ?_)
  have hW := hF.keepX hW hk
  have hO := hF.keepO hO hk
  obtain rfl := uq1 hP1 hP2
  have hu : u ≤ 2 := by rcases hP1 with ⟨q1, ok⟩ | ⟨q1, -⟩ <;> omega
  simp only [sel_same] at hM
  have hv2 : Inv nH nP τ := hv
  have hd3 : DB nH (300 * (j + 1)) τ := hd.mono (by omega)
  refine lv_istore (lv' := [(6, .int r), (5, .int (nI u)), (0, .ref b), (1, .ref xa), (2, .ref ma), (3, .ref o9), (4, .int (nI (4 * j)))]) hx hb dL_law_731 hl (by decide) rfl (fun ls hl => ?_)
  refine lv_aload_n hx hb dL_law_733 rfl (lv_at hl 4 rfl) ?_
  obtain ⟨σ2, hM2, hz2⟩ := hM
  refine kI (va_runV (As := []) (rest := []) ⟨hx, hb, hml, hown, hts⟩ (c_X5_thrown l G ma bd bd2 hMI nH nP hv2.1 hv2.2.1 dR τ σ2 (nI u) H.size) (cwV 0 hts gL_law_X5_thrown rfl rfl rfl (by decide +kernel) ⟨Nat.le_of_ble_eq_true rfl, Nat.le_of_ble_eq_true rfl⟩) ⟨PcM.blind, va_recv hK (va_P1 hM2.1) (ci := 5) (q0 := 0) rfl rfl, PcM.pre hM2 hK hN⟩ rfl rfl hl.1 rfl (lv_room (Nat.le_of_ble_eq_true rfl)) dL_law_734 ⟨by show cells + 2 + 0 + 0 ≤ 601024; omega, by show slots + 12 + 0 + 0 ≤ 7293034; omega⟩) hS (fun q _ h => h.elim) (fun q h => h.elim) (fun H locs hM2 hz hk hS => ?_)
  have hW := hW.kept (fun q hq => hk q hq (fun h => h))
  have hO := hO.kept (hk _ hO.lt (fun h => h))
  have hM : MWz G ma bd bd2 (nI u) (wmx nH nP dR τ) z H := ⟨σ2, hM2, hz2⟩
  refine lv_iload hx hb dL_law_737 (lv_at hl 1 rfl) ?_
  refine lv_icmp_eq (tgt := 744) hx hb dL_law_739 (by decide) (fun c => ?_) (fun c => absurd rfl c)
  refine lv_iload hx hb dL_law_744 (lv_at hl 1 rfl) ?_
  refine lv_if_ne (tgt := 761) hx hb dL_law_746 (by decide) (fun c => ?_) (fun c => ?_)
  · skip
    refine lv_goto (tgt := 1327) hx hb dL_law_761 (by decide) ?_
    refine W.widen (k := cells + 14) (n := slots + 124) (by omega) (by omega) ?_
    exact kk _ _ _ ⟨_, _, _, _, _, _, hv2, hd3, hW, hM, hO⟩ hS (lv_sub hl [2, 3, 4, 5, 6] rfl)
  · skip
    have hu0 : u = 0 := (nI_eq (a := u) (b := 0) (by omega) (by omega)).mp (by first | exact c | exact Decidable.not_not.mp c)
    refine lv_aload_n hx hb dL_law_749 rfl (lv_at hl 5 rfl) ?_
    refine lv_iconst (v := 0) hx hb dL_law_750 (by decide) ?_
    refine rO hx hb hKL hO dL_law_751 ?_
    refine lv_iload hx hb dL_law_752 (lv_at hl 0 rfl) ?_
    refine lv_i2l hx hb dL_law_754 rfl ?_
    refine W.lcmp hx hb dL_law_755 ?_
    refine lv_if_eq (tgt := 761) hx hb dL_law_756 (by decide) (fun c2 => ?_) (fun c2 => absurd (by rw [hd2 hu0, hr hu0]; exact lg_cmp_self) c2)
    refine lv_goto (tgt := 1327) hx hb dL_law_761 (by decide) ?_
    refine W.widen (k := cells + 14) (n := slots + 124) (by omega) (by omega) ?_
    exact kk _ _ _ ⟨_, _, _, _, _, _, hv2, hd3, hW, hM, hO⟩ hS (lv_sub hl [2, 3, 4, 5, 6] rfl)

set_option maxHeartbeats 4000000 in
set_option maxRecDepth 100000 in
theorem st_ahead {p : Program} {l : Launch} {e : Env} {s : State} {m : MethodId} {below : List Frame} {meth : Method} {c : Code} {b L : Nat} {xs : Nat → Int32} {G : wG} {cL : ClassId} {xa ma o9 pa : Nat} {ad ad2 bd bd2 : Nat → Nat} {Q : State → Prop} (CC : LwS p l s m c b L xs G cL xa ma o9 pa ad ad2 bd bd2) {j : Nat} (hj : 4 * j + 4 ≤ L) {H : Heap} {locs : List Loc} {cells slots : Nat} {ls : Array Slot} (hLI : LI G cL xa ma o9 ad ad2 bd bd2 j H) (hS : va_S (fun q : Nat => s.heap.size ≤ q) s.heap H locs) (hl : lv_has ls 9 [(0, .ref b), (1, .ref xa), (2, .ref ma), (3, .ref o9), (4, .int (nI (4 * j)))]) (hc : cells + 14 ≤ 601024) (hs : slots + 124 ≤ 7293034)
    (kk : ∀ (H1 : Heap) (locs1 : List Loc) (ls1 : Array Slot), LI G cL xa ma o9 ad ad2 bd bd2 (j + 1) H1 → va_S (fun q : Nat => s.heap.size ≤ q) s.heap H1 locs1 → lv_has ls1 9 [(0, .ref b), (1, .ref xa), (2, .ref ma), (3, .ref o9), (4, .int (nI (4 * j)))] → W p l e room_1 s m #[Value.ref b] below meth c H1 locs1 (cells + 14) (slots + 124) Q (F0 m 1327 ls1 [])) : W p l e room_1 s m #[Value.ref b] below meth c H locs cells slots Q (F0 m 764 ls []) := by
  obtain ⟨hx, hb, hml, hown, hts, hX, hbl, hL, hfl, hKL, hXK, hNc, hN, hPL, hF⟩ := CC
  obtain ⟨nH, nP, τ, z, t, d, hv, hd, hW, hM, hO⟩ := hLI
  have hH := hv.1
  have hP := hv.2.1
  have hK := hKL.k
  have hbA : ¬ (fun q : Nat => s.heap.size ≤ q) b := Nat.not_le.mpr hbl
  have hXI := hF.1
  have hMI := hF.2.1
  have hoa := hF.oa
  refine lv_aload_n hx hb dL_law_764 rfl (lv_at hl 1 rfl) ?_
  refine lv_aload_n hx hb dL_law_765 rfl (lv_at hl 0 rfl) ?_
  refine lv_iload hx hb dL_law_766 (lv_at hl 4 rfl) ?_
  refine lv_iconst (v := 1) hx hb dL_law_768 (by decide) ?_
  refine lv_iadd hx hb dL_law_769 ?_
  refine lv_topi (fun y ey => ?_)
  obtain rfl : y = nI (4 * j + 1) := ey.trans (nI_add (4 * j) 1)
  refine va_sld hx hb hX hbl hbA hS (vp_in_nI (show 4 * j + 1 < L by omega) (by omega)) dL_law_770 ?_
  rw [nI_clamp (show 4 * j + 1 < 2 ^ 31 by omega)]
  refine lv_aload_n hx hb dL_law_771 rfl (lv_at hl 0 rfl) ?_
  refine lv_iload hx hb dL_law_772 (lv_at hl 4 rfl) ?_
  refine lv_iconst (v := 2) hx hb dL_law_774 (by decide) ?_
  refine lv_iadd hx hb dL_law_775 ?_
  refine lv_topi (fun y ey => ?_)
  obtain rfl : y = nI (4 * j + 2) := ey.trans (nI_add (4 * j) 2)
  refine va_sld hx hb hX hbl hbA hS (vp_in_nI (show 4 * j + 2 < L by omega) (by omega)) dL_law_776 ?_
  rw [nI_clamp (show 4 * j + 2 < 2 ^ 31 by omega)]
  refine lv_aload_n hx hb dL_law_777 rfl (lv_at hl 3 rfl) ?_
  refine kW (vx_runSX (As := [.ref xa, .int (xs (4 * j + 1)), .int (xs (4 * j + 2)), .ref o9]) (rest := []) ⟨hx, hb, hml, hown, hts⟩ (c_L_ahead l hfl G cL xa ad ad2 hXI nH nP hH hP dC τ z H.size o9 d (xs (4 * j + 1)) (xs (4 * j + 2)) hv hoa hO.lt) (vx_cwSW 4 hts gL_law_L_ahead rfl rfl rfl (by decide +kernel) ⟨Nat.le_of_ble_eq_true rfl, Nat.le_of_ble_eq_true rfl⟩) ⟨PcW.blind, PcW.pre ⟨hW, hO⟩ hKL hXK hNc hS (hF.subO hS.1)⟩ rfl rfl hl.1 rfl (lv_room (Nat.le_of_ble_eq_true rfl)) dL_law_778 ⟨by show cells + 2 ≤ 601024; omega, by show slots + 12 ≤ 7293034; omega⟩) hS (fun q _ h => hF.subO hS.1 q h) (hF.subO hS.1) (fun u H locs hP1 hB hz hk hS => ?_)
  obtain ⟨hW, d2, hO, hd2⟩ := hB
  have hM := hF.keepM hM hk
  refine lv_istore (lv' := [(5, .int (nI u)), (0, .ref b), (1, .ref xa), (2, .ref ma), (3, .ref o9), (4, .int (nI (4 * j)))]) hx hb dL_law_781 hl (by decide) rfl (fun ls hl => ?_)
  refine lv_aload_n hx hb dL_law_783 rfl (lv_at hl 3 rfl) ?_
  refine lv_aload_n hx hb dL_law_784 rfl (lv_at hl 1 rfl) ?_
  refine lv_iload hx hb dL_law_785 (lv_at hl 5 rfl) ?_
  refine lv_iconst (v := 1) hx hb dL_law_787 (by decide) ?_
  refine lv_iadd hx hb dL_law_788 ?_
  refine lv_topi (fun y ey => ?_)
  obtain rfl : y = nI (4 * j + 1) := ey.trans (nI_add (4 * j) 1)
  refine va_sld hx hb hX hbl hbA hS (vp_in_nI (show 4 * j + 1 < L by omega) (by omega)) dL_law_789 ?_
  rw [nI_clamp (show 4 * j + 1 < 2 ^ 31 by omega)]
  refine lv_aload_n hx hb dL_law_790 rfl (lv_at hl 1 rfl) ?_
  refine lv_iload hx hb dL_law_791 (lv_at hl 5 rfl) ?_
  refine lv_iconst (v := 2) hx hb dL_law_793 (by decide) ?_
  refine lv_iadd hx hb dL_law_794 ?_
  refine lv_topi (fun y ey => ?_)
  obtain rfl : y = nI (4 * j + 2) := ey.trans (nI_add (4 * j) 2)
  refine va_sld hx hb hX hbl hbA hS (vp_in_nI (show 4 * j + 2 < L by omega) (by omega)) dL_law_795 ?_
  rw [nI_clamp (show 4 * j + 2 < 2 ^ 31 by omega)]
  refine kM (va_runV (As := [.int (xs (4 * j + 1)), .int (xs (4 * j + 2))]) (rest := []) ⟨hx, hb, hml, hown, hts⟩ (c_X5_ahead l G ma bd bd2 hMI nH nP hH hP dR τ z t H.size (xs (4 * j + 1)) (xs (4 * j + 2)) hv) (cwV 2 hts gL_law_X5_ahead rfl rfl rfl (by decide +kernel) ⟨Nat.le_of_ble_eq_true rfl, Nat.le_of_ble_eq_true rfl⟩) ⟨PcM.blind, va_recv hK (va_P1 hM.choose_spec.1.1) (ci := 5) (q0 := 0) rfl rfl, PcM.pre hM hK hN⟩ rfl rfl hl.1 rfl (lv_room (Nat.le_of_ble_eq_true rfl)) dL_law_796 ⟨by show cells + 2 + 0 ≤ 601024; omega, by show slots + 12 + 0 ≤ 7293034; omega⟩) hS (fun q _ h => hF.subM hS.1 q h) (hF.subM hS.1) (fun w r H locs hP2 hr hM hz hk hS => ?_)
  have hW := hF.keepX hW hk
  have hO := hF.keepO hO hk
  obtain rfl := uq1 hP1 hP2
  have hu : u ≤ 2 := by rcases hP1 with ⟨q1, ok⟩ | ⟨q1, -⟩ <;> omega
  simp only [sel_same] at hM
  have hv2 : Inv nH nP τ := hv
  have hd3 : DB nH (300 * (j + 1)) τ := hd.mono (by omega)
  refine lv_istore (lv' := [(6, .int r), (5, .int (nI u)), (0, .ref b), (1, .ref xa), (2, .ref ma), (3, .ref o9), (4, .int (nI (4 * j)))]) hx hb dL_law_799 hl (by decide) rfl (fun ls hl => ?_)
  refine lv_aload_n hx hb dL_law_801 rfl (lv_at hl 4 rfl) ?_
  obtain ⟨σ2, hM2, hz2⟩ := hM
  refine kI (va_runV (As := []) (rest := []) ⟨hx, hb, hml, hown, hts⟩ (c_X5_thrown l G ma bd bd2 hMI nH nP hv2.1 hv2.2.1 dR τ σ2 (nI u) H.size) (cwV 0 hts gL_law_X5_thrown rfl rfl rfl (by decide +kernel) ⟨Nat.le_of_ble_eq_true rfl, Nat.le_of_ble_eq_true rfl⟩) ⟨PcM.blind, va_recv hK (va_P1 hM2.1) (ci := 5) (q0 := 0) rfl rfl, PcM.pre hM2 hK hN⟩ rfl rfl hl.1 rfl (lv_room (Nat.le_of_ble_eq_true rfl)) dL_law_802 ⟨by show cells + 2 + 0 + 0 ≤ 601024; omega, by show slots + 12 + 0 + 0 ≤ 7293034; omega⟩) hS (fun q _ h => h.elim) (fun q h => h.elim) (fun H locs hM2 hz hk hS => ?_)
  have hW := hW.kept (fun q hq => hk q hq (fun h => h))
  have hO := hO.kept (hk _ hO.lt (fun h => h))
  have hM : MWz G ma bd bd2 (nI u) (wmx nH nP dR τ) z H := ⟨σ2, hM2, hz2⟩
  refine lv_iload hx hb dL_law_805 (lv_at hl 1 rfl) ?_
  refine lv_icmp_eq (tgt := 812) hx hb dL_law_807 (by decide) (fun c => ?_) (fun c => absurd rfl c)
  refine lv_iload hx hb dL_law_812 (lv_at hl 1 rfl) ?_
  refine lv_if_ne (tgt := 829) hx hb dL_law_814 (by decide) (fun c => ?_) (fun c => ?_)
  · skip
    refine lv_goto (tgt := 1327) hx hb dL_law_829 (by decide) ?_
    refine W.widen (k := cells + 14) (n := slots + 124) (by omega) (by omega) ?_
    exact kk _ _ _ ⟨_, _, _, _, _, _, hv2, hd3, hW, hM, hO⟩ hS (lv_sub hl [2, 3, 4, 5, 6] rfl)
  · skip
    have hu0 : u = 0 := (nI_eq (a := u) (b := 0) (by omega) (by omega)).mp (by first | exact c | exact Decidable.not_not.mp c)
    refine lv_aload_n hx hb dL_law_817 rfl (lv_at hl 5 rfl) ?_
    refine lv_iconst (v := 0) hx hb dL_law_818 (by decide) ?_
    refine rO hx hb hKL hO dL_law_819 ?_
    refine lv_iload hx hb dL_law_820 (lv_at hl 0 rfl) ?_
    refine lv_i2l hx hb dL_law_822 rfl ?_
    refine W.lcmp hx hb dL_law_823 ?_
    refine lv_if_eq (tgt := 829) hx hb dL_law_824 (by decide) (fun c2 => ?_) (fun c2 => absurd (by rw [hd2 hu0, hr hu0]; exact lg_cmp_self) c2)
    refine lv_goto (tgt := 1327) hx hb dL_law_829 (by decide) ?_
    refine W.widen (k := cells + 14) (n := slots + 124) (by omega) (by omega) ?_
    exact kk _ _ _ ⟨_, _, _, _, _, _, hv2, hd3, hW, hM, hO⟩ hS (lv_sub hl [2, 3, 4, 5, 6] rfl)

set_option maxHeartbeats 4000000 in
set_option maxRecDepth 100000 in
theorem st_house {p : Program} {l : Launch} {e : Env} {s : State} {m : MethodId} {below : List Frame} {meth : Method} {c : Code} {b L : Nat} {xs : Nat → Int32} {G : wG} {cL : ClassId} {xa ma o9 pa : Nat} {ad ad2 bd bd2 : Nat → Nat} {Q : State → Prop} (CC : LwS p l s m c b L xs G cL xa ma o9 pa ad ad2 bd bd2) {j : Nat} (hj : 4 * j + 4 ≤ L) {H : Heap} {locs : List Loc} {cells slots : Nat} {ls : Array Slot} (hLI : LI G cL xa ma o9 ad ad2 bd bd2 j H) (hS : va_S (fun q : Nat => s.heap.size ≤ q) s.heap H locs) (hl : lv_has ls 9 [(0, .ref b), (1, .ref xa), (2, .ref ma), (3, .ref o9), (4, .int (nI (4 * j)))]) (hc : cells + 14 ≤ 601024) (hs : slots + 124 ≤ 7293034)
    (kk : ∀ (H1 : Heap) (locs1 : List Loc) (ls1 : Array Slot), LI G cL xa ma o9 ad ad2 bd bd2 (j + 1) H1 → va_S (fun q : Nat => s.heap.size ≤ q) s.heap H1 locs1 → lv_has ls1 9 [(0, .ref b), (1, .ref xa), (2, .ref ma), (3, .ref o9), (4, .int (nI (4 * j)))] → W p l e room_1 s m #[Value.ref b] below meth c H1 locs1 (cells + 14) (slots + 124) Q (F0 m 1327 ls1 [])) : W p l e room_1 s m #[Value.ref b] below meth c H locs cells slots Q (F0 m 832 ls []) := by
  obtain ⟨hx, hb, hml, hown, hts, hX, hbl, hL, hfl, hKL, hXK, hNc, hN, hPL, hF⟩ := CC
  obtain ⟨nH, nP, τ, z, t, d, hv, hd, hW, hM, hO⟩ := hLI
  have hH := hv.1
  have hP := hv.2.1
  have hK := hKL.k
  have hbA : ¬ (fun q : Nat => s.heap.size ≤ q) b := Nat.not_le.mpr hbl
  have hXI := hF.1
  have hMI := hF.2.1
  have hoa := hF.oa
  refine lv_aload_n hx hb dL_law_832 rfl (lv_at hl 1 rfl) ?_
  refine lv_aload_n hx hb dL_law_833 rfl (lv_at hl 0 rfl) ?_
  refine lv_iload hx hb dL_law_834 (lv_at hl 4 rfl) ?_
  refine lv_iconst (v := 1) hx hb dL_law_836 (by decide) ?_
  refine lv_iadd hx hb dL_law_837 ?_
  refine lv_topi (fun y ey => ?_)
  obtain rfl : y = nI (4 * j + 1) := ey.trans (nI_add (4 * j) 1)
  refine va_sld hx hb hX hbl hbA hS (vp_in_nI (show 4 * j + 1 < L by omega) (by omega)) dL_law_838 ?_
  rw [nI_clamp (show 4 * j + 1 < 2 ^ 31 by omega)]
  refine lv_aload_n hx hb dL_law_839 rfl (lv_at hl 0 rfl) ?_
  refine lv_iload hx hb dL_law_840 (lv_at hl 4 rfl) ?_
  refine lv_iconst (v := 2) hx hb dL_law_842 (by decide) ?_
  refine lv_iadd hx hb dL_law_843 ?_
  refine lv_topi (fun y ey => ?_)
  obtain rfl : y = nI (4 * j + 2) := ey.trans (nI_add (4 * j) 2)
  refine va_sld hx hb hX hbl hbA hS (vp_in_nI (show 4 * j + 2 < L by omega) (by omega)) dL_law_844 ?_
  rw [nI_clamp (show 4 * j + 2 < 2 ^ 31 by omega)]
  refine lv_aload_n hx hb dL_law_845 rfl (lv_at hl 3 rfl) ?_
  refine kW (vx_runSX (As := [.ref xa, .int (xs (4 * j + 1)), .int (xs (4 * j + 2)), .ref o9]) (rest := []) ⟨hx, hb, hml, hown, hts⟩ (c_L_house l hfl G cL xa ad ad2 hXI nH nP hH hP dC τ z H.size o9 d (xs (4 * j + 1)) (xs (4 * j + 2)) hv hoa hO.lt) (vx_cwSW 4 hts gL_law_L_house rfl rfl rfl (by decide +kernel) ⟨Nat.le_of_ble_eq_true rfl, Nat.le_of_ble_eq_true rfl⟩) ⟨PcW.blind, PcW.pre ⟨hW, hO⟩ hKL hXK hNc hS (hF.subO hS.1)⟩ rfl rfl hl.1 rfl (lv_room (Nat.le_of_ble_eq_true rfl)) dL_law_846 ⟨by show cells + 2 ≤ 601024; omega, by show slots + 12 ≤ 7293034; omega⟩) hS (fun q _ h => hF.subO hS.1 q h) (hF.subO hS.1) (fun u H locs hP1 hB hz hk hS => ?_)
  obtain ⟨hW, d2, hO, hd2⟩ := hB
  have hM := hF.keepM hM hk
  refine lv_istore (lv' := [(5, .int (nI u)), (0, .ref b), (1, .ref xa), (2, .ref ma), (3, .ref o9), (4, .int (nI (4 * j)))]) hx hb dL_law_849 hl (by decide) rfl (fun ls hl => ?_)
  refine lv_aload_n hx hb dL_law_851 rfl (lv_at hl 3 rfl) ?_
  refine lv_aload_n hx hb dL_law_852 rfl (lv_at hl 1 rfl) ?_
  refine lv_iload hx hb dL_law_853 (lv_at hl 5 rfl) ?_
  refine lv_iconst (v := 1) hx hb dL_law_855 (by decide) ?_
  refine lv_iadd hx hb dL_law_856 ?_
  refine lv_topi (fun y ey => ?_)
  obtain rfl : y = nI (4 * j + 1) := ey.trans (nI_add (4 * j) 1)
  refine va_sld hx hb hX hbl hbA hS (vp_in_nI (show 4 * j + 1 < L by omega) (by omega)) dL_law_857 ?_
  rw [nI_clamp (show 4 * j + 1 < 2 ^ 31 by omega)]
  refine lv_aload_n hx hb dL_law_858 rfl (lv_at hl 1 rfl) ?_
  refine lv_iload hx hb dL_law_859 (lv_at hl 5 rfl) ?_
  refine lv_iconst (v := 2) hx hb dL_law_861 (by decide) ?_
  refine lv_iadd hx hb dL_law_862 ?_
  refine lv_topi (fun y ey => ?_)
  obtain rfl : y = nI (4 * j + 2) := ey.trans (nI_add (4 * j) 2)
  refine va_sld hx hb hX hbl hbA hS (vp_in_nI (show 4 * j + 2 < L by omega) (by omega)) dL_law_863 ?_
  rw [nI_clamp (show 4 * j + 2 < 2 ^ 31 by omega)]
  refine kM (va_runV (As := [.int (xs (4 * j + 1)), .int (xs (4 * j + 2))]) (rest := []) ⟨hx, hb, hml, hown, hts⟩ (c_X5_house l G ma bd bd2 hMI nH nP hH hP dR τ z t H.size (xs (4 * j + 1)) (xs (4 * j + 2)) pa hv) (cwV 2 hts gL_law_X5_house rfl rfl rfl (by decide +kernel) ⟨Nat.le_of_ble_eq_true rfl, Nat.le_of_ble_eq_true rfl⟩) ⟨PcP.blind, va_recv hK (va_P1 hM.choose_spec.1.1) (ci := 5) (q0 := 0) rfl rfl, PcP.pre hM hK hN hPL hS (hF.subM hS.1)⟩ rfl rfl hl.1 rfl (lv_room (Nat.le_of_ble_eq_true rfl)) dL_law_864 ⟨by show cells + 2 + 0 ≤ 601024; omega, by show slots + 12 + 0 ≤ 7293034; omega⟩) hS (fun q _ h => hF.subM hS.1 q h) (hF.subM hS.1) (fun w r H locs hP2 hr hM hz hk hS => ?_)
  have hW := hF.keepX hW hk
  have hO := hF.keepO hO hk
  obtain rfl := uq1 hP1 hP2
  have hu : u ≤ 2 := by rcases hP1 with ⟨q1, ok⟩ | ⟨q1, -⟩ <;> omega
  simp only [sel_same] at hM
  have hv2 : Inv nH nP τ := hv
  have hd3 : DB nH (300 * (j + 1)) τ := hd.mono (by omega)
  refine lv_istore (lv' := [(6, .int r), (5, .int (nI u)), (0, .ref b), (1, .ref xa), (2, .ref ma), (3, .ref o9), (4, .int (nI (4 * j)))]) hx hb dL_law_867 hl (by decide) rfl (fun ls hl => ?_)
  refine lv_aload_n hx hb dL_law_869 rfl (lv_at hl 4 rfl) ?_
  obtain ⟨σ2, hM2, hz2⟩ := hM
  refine kI (va_runV (As := []) (rest := []) ⟨hx, hb, hml, hown, hts⟩ (c_X5_thrown l G ma bd bd2 hMI nH nP hv2.1 hv2.2.1 dR τ σ2 (nI u) H.size) (cwV 0 hts gL_law_X5_thrown rfl rfl rfl (by decide +kernel) ⟨Nat.le_of_ble_eq_true rfl, Nat.le_of_ble_eq_true rfl⟩) ⟨PcM.blind, va_recv hK (va_P1 hM2.1) (ci := 5) (q0 := 0) rfl rfl, PcM.pre hM2 hK hN⟩ rfl rfl hl.1 rfl (lv_room (Nat.le_of_ble_eq_true rfl)) dL_law_870 ⟨by show cells + 2 + 0 + 0 ≤ 601024; omega, by show slots + 12 + 0 + 0 ≤ 7293034; omega⟩) hS (fun q _ h => h.elim) (fun q h => h.elim) (fun H locs hM2 hz hk hS => ?_)
  have hW := hW.kept (fun q hq => hk q hq (fun h => h))
  have hO := hO.kept (hk _ hO.lt (fun h => h))
  have hM : MWz G ma bd bd2 (nI u) (wmx nH nP dR τ) z H := ⟨σ2, hM2, hz2⟩
  refine lv_iload hx hb dL_law_873 (lv_at hl 1 rfl) ?_
  refine lv_icmp_eq (tgt := 880) hx hb dL_law_875 (by decide) (fun c => ?_) (fun c => absurd rfl c)
  refine lv_iload hx hb dL_law_880 (lv_at hl 1 rfl) ?_
  refine lv_if_ne (tgt := 897) hx hb dL_law_882 (by decide) (fun c => ?_) (fun c => ?_)
  · skip
    refine lv_goto (tgt := 1327) hx hb dL_law_897 (by decide) ?_
    refine W.widen (k := cells + 14) (n := slots + 124) (by omega) (by omega) ?_
    exact kk _ _ _ ⟨_, _, _, _, _, _, hv2, hd3, hW, hM, hO⟩ hS (lv_sub hl [2, 3, 4, 5, 6] rfl)
  · skip
    have hu0 : u = 0 := (nI_eq (a := u) (b := 0) (by omega) (by omega)).mp (by first | exact c | exact Decidable.not_not.mp c)
    refine lv_aload_n hx hb dL_law_885 rfl (lv_at hl 5 rfl) ?_
    refine lv_iconst (v := 0) hx hb dL_law_886 (by decide) ?_
    refine rO hx hb hKL hO dL_law_887 ?_
    refine lv_iload hx hb dL_law_888 (lv_at hl 0 rfl) ?_
    refine lv_i2l hx hb dL_law_890 rfl ?_
    refine W.lcmp hx hb dL_law_891 ?_
    refine lv_if_eq (tgt := 897) hx hb dL_law_892 (by decide) (fun c2 => ?_) (fun c2 => absurd (by rw [hd2 hu0, hr hu0]; exact lg_cmp_self) c2)
    refine lv_goto (tgt := 1327) hx hb dL_law_897 (by decide) ?_
    refine W.widen (k := cells + 14) (n := slots + 124) (by omega) (by omega) ?_
    exact kk _ _ _ ⟨_, _, _, _, _, _, hv2, hd3, hW, hM, hO⟩ hS (lv_sub hl [2, 3, 4, 5, 6] rfl)

set_option maxHeartbeats 4000000 in
set_option maxRecDepth 100000 in
theorem st_pump {p : Program} {l : Launch} {e : Env} {s : State} {m : MethodId} {below : List Frame} {meth : Method} {c : Code} {b L : Nat} {xs : Nat → Int32} {G : wG} {cL : ClassId} {xa ma o9 pa : Nat} {ad ad2 bd bd2 : Nat → Nat} {Q : State → Prop} (CC : LwS p l s m c b L xs G cL xa ma o9 pa ad ad2 bd bd2) {j : Nat} (hj : 4 * j + 4 ≤ L) {H : Heap} {locs : List Loc} {cells slots : Nat} {ls : Array Slot} (hLI : LI G cL xa ma o9 ad ad2 bd bd2 j H) (hS : va_S (fun q : Nat => s.heap.size ≤ q) s.heap H locs) (hl : lv_has ls 9 [(0, .ref b), (1, .ref xa), (2, .ref ma), (3, .ref o9), (4, .int (nI (4 * j)))]) (hc : cells + 14 ≤ 601024) (hs : slots + 124 ≤ 7293034)
    (kk : ∀ (H1 : Heap) (locs1 : List Loc) (ls1 : Array Slot), LI G cL xa ma o9 ad ad2 bd bd2 (j + 1) H1 → va_S (fun q : Nat => s.heap.size ≤ q) s.heap H1 locs1 → lv_has ls1 9 [(0, .ref b), (1, .ref xa), (2, .ref ma), (3, .ref o9), (4, .int (nI (4 * j)))] → W p l e room_1 s m #[Value.ref b] below meth c H1 locs1 (cells + 14) (slots + 124) Q (F0 m 1327 ls1 [])) : W p l e room_1 s m #[Value.ref b] below meth c H locs cells slots Q (F0 m 900 ls []) := by
  obtain ⟨hx, hb, hml, hown, hts, hX, hbl, hL, hfl, hKL, hXK, hNc, hN, hPL, hF⟩ := CC
  obtain ⟨nH, nP, τ, z, t, d, hv, hd, hW, hM, hO⟩ := hLI
  have hH := hv.1
  have hP := hv.2.1
  have hK := hKL.k
  have hbA : ¬ (fun q : Nat => s.heap.size ≤ q) b := Nat.not_le.mpr hbl
  have hXI := hF.1
  have hMI := hF.2.1
  have hoa := hF.oa
  refine lv_aload_n hx hb dL_law_900 rfl (lv_at hl 1 rfl) ?_
  refine lv_aload_n hx hb dL_law_901 rfl (lv_at hl 0 rfl) ?_
  refine lv_iload hx hb dL_law_902 (lv_at hl 4 rfl) ?_
  refine lv_iconst (v := 1) hx hb dL_law_904 (by decide) ?_
  refine lv_iadd hx hb dL_law_905 ?_
  refine lv_topi (fun y ey => ?_)
  obtain rfl : y = nI (4 * j + 1) := ey.trans (nI_add (4 * j) 1)
  refine va_sld hx hb hX hbl hbA hS (vp_in_nI (show 4 * j + 1 < L by omega) (by omega)) dL_law_906 ?_
  rw [nI_clamp (show 4 * j + 1 < 2 ^ 31 by omega)]
  refine lv_aload_n hx hb dL_law_907 rfl (lv_at hl 0 rfl) ?_
  refine lv_iload hx hb dL_law_908 (lv_at hl 4 rfl) ?_
  refine lv_iconst (v := 2) hx hb dL_law_910 (by decide) ?_
  refine lv_iadd hx hb dL_law_911 ?_
  refine lv_topi (fun y ey => ?_)
  obtain rfl : y = nI (4 * j + 2) := ey.trans (nI_add (4 * j) 2)
  refine va_sld hx hb hX hbl hbA hS (vp_in_nI (show 4 * j + 2 < L by omega) (by omega)) dL_law_912 ?_
  rw [nI_clamp (show 4 * j + 2 < 2 ^ 31 by omega)]
  refine lv_aload_n hx hb dL_law_913 rfl (lv_at hl 3 rfl) ?_
  refine kW (vx_runSX (As := [.ref xa, .int (xs (4 * j + 1)), .int (xs (4 * j + 2)), .ref o9]) (rest := []) ⟨hx, hb, hml, hown, hts⟩ (c_L_pump l hfl G cL xa ad ad2 hXI nH nP hH hP dC τ z H.size o9 d (xs (4 * j + 1)) (xs (4 * j + 2)) hv hoa hO.lt) (vx_cwSW 4 hts gL_law_L_pump rfl rfl rfl (by decide +kernel) ⟨Nat.le_of_ble_eq_true rfl, Nat.le_of_ble_eq_true rfl⟩) ⟨PcW.blind, PcW.pre ⟨hW, hO⟩ hKL hXK hNc hS (hF.subO hS.1)⟩ rfl rfl hl.1 rfl (lv_room (Nat.le_of_ble_eq_true rfl)) dL_law_914 ⟨by show cells + 2 ≤ 601024; omega, by show slots + 12 ≤ 7293034; omega⟩) hS (fun q _ h => hF.subO hS.1 q h) (hF.subO hS.1) (fun u H locs hP1 hB hz hk hS => ?_)
  obtain ⟨hW, d2, hO, hd2⟩ := hB
  have hM := hF.keepM hM hk
  refine lv_istore (lv' := [(5, .int (nI u)), (0, .ref b), (1, .ref xa), (2, .ref ma), (3, .ref o9), (4, .int (nI (4 * j)))]) hx hb dL_law_917 hl (by decide) rfl (fun ls hl => ?_)
  refine lv_aload_n hx hb dL_law_919 rfl (lv_at hl 3 rfl) ?_
  refine lv_aload_n hx hb dL_law_920 rfl (lv_at hl 1 rfl) ?_
  refine lv_iload hx hb dL_law_921 (lv_at hl 5 rfl) ?_
  refine lv_iconst (v := 1) hx hb dL_law_923 (by decide) ?_
  refine lv_iadd hx hb dL_law_924 ?_
  refine lv_topi (fun y ey => ?_)
  obtain rfl : y = nI (4 * j + 1) := ey.trans (nI_add (4 * j) 1)
  refine va_sld hx hb hX hbl hbA hS (vp_in_nI (show 4 * j + 1 < L by omega) (by omega)) dL_law_925 ?_
  rw [nI_clamp (show 4 * j + 1 < 2 ^ 31 by omega)]
  refine lv_aload_n hx hb dL_law_926 rfl (lv_at hl 1 rfl) ?_
  refine lv_iload hx hb dL_law_927 (lv_at hl 5 rfl) ?_
  refine lv_iconst (v := 2) hx hb dL_law_929 (by decide) ?_
  refine lv_iadd hx hb dL_law_930 ?_
  refine lv_topi (fun y ey => ?_)
  obtain rfl : y = nI (4 * j + 2) := ey.trans (nI_add (4 * j) 2)
  refine va_sld hx hb hX hbl hbA hS (vp_in_nI (show 4 * j + 2 < L by omega) (by omega)) dL_law_931 ?_
  rw [nI_clamp (show 4 * j + 2 < 2 ^ 31 by omega)]
  refine kM (va_runV (As := [.int (xs (4 * j + 1)), .int (xs (4 * j + 2))]) (rest := []) ⟨hx, hb, hml, hown, hts⟩ (c_X5_pump l G ma bd bd2 hMI nH nP hH hP dR τ z t H.size (xs (4 * j + 1)) (xs (4 * j + 2)) hv) (cwV 2 hts gL_law_X5_pump rfl rfl rfl (by decide +kernel) ⟨Nat.le_of_ble_eq_true rfl, Nat.le_of_ble_eq_true rfl⟩) ⟨PcM.blind, va_recv hK (va_P1 hM.choose_spec.1.1) (ci := 5) (q0 := 0) rfl rfl, PcM.pre hM hK hN⟩ rfl rfl hl.1 rfl (lv_room (Nat.le_of_ble_eq_true rfl)) dL_law_932 ⟨by show cells + 2 + 0 ≤ 601024; omega, by show slots + 12 + 0 ≤ 7293034; omega⟩) hS (fun q _ h => hF.subM hS.1 q h) (hF.subM hS.1) (fun w r H locs hP2 hr hM hz hk hS => ?_)
  have hW := hF.keepX hW hk
  have hO := hF.keepO hO hk
  obtain rfl := uq1 hP1 hP2
  have hu : u ≤ 2 := by rcases hP1 with ⟨q1, ok⟩ | ⟨q1, -⟩ <;> omega
  simp only [sel_same] at hM
  have hv2 : Inv nH nP τ := hv
  have hd3 : DB nH (300 * (j + 1)) τ := hd.mono (by omega)
  refine lv_istore (lv' := [(6, .int r), (5, .int (nI u)), (0, .ref b), (1, .ref xa), (2, .ref ma), (3, .ref o9), (4, .int (nI (4 * j)))]) hx hb dL_law_935 hl (by decide) rfl (fun ls hl => ?_)
  refine lv_aload_n hx hb dL_law_937 rfl (lv_at hl 4 rfl) ?_
  obtain ⟨σ2, hM2, hz2⟩ := hM
  refine kI (va_runV (As := []) (rest := []) ⟨hx, hb, hml, hown, hts⟩ (c_X5_thrown l G ma bd bd2 hMI nH nP hv2.1 hv2.2.1 dR τ σ2 (nI u) H.size) (cwV 0 hts gL_law_X5_thrown rfl rfl rfl (by decide +kernel) ⟨Nat.le_of_ble_eq_true rfl, Nat.le_of_ble_eq_true rfl⟩) ⟨PcM.blind, va_recv hK (va_P1 hM2.1) (ci := 5) (q0 := 0) rfl rfl, PcM.pre hM2 hK hN⟩ rfl rfl hl.1 rfl (lv_room (Nat.le_of_ble_eq_true rfl)) dL_law_938 ⟨by show cells + 2 + 0 + 0 ≤ 601024; omega, by show slots + 12 + 0 + 0 ≤ 7293034; omega⟩) hS (fun q _ h => h.elim) (fun q h => h.elim) (fun H locs hM2 hz hk hS => ?_)
  have hW := hW.kept (fun q hq => hk q hq (fun h => h))
  have hO := hO.kept (hk _ hO.lt (fun h => h))
  have hM : MWz G ma bd bd2 (nI u) (wmx nH nP dR τ) z H := ⟨σ2, hM2, hz2⟩
  refine lv_iload hx hb dL_law_941 (lv_at hl 1 rfl) ?_
  refine lv_icmp_eq (tgt := 948) hx hb dL_law_943 (by decide) (fun c => ?_) (fun c => absurd rfl c)
  refine lv_iload hx hb dL_law_948 (lv_at hl 1 rfl) ?_
  refine lv_if_ne (tgt := 965) hx hb dL_law_950 (by decide) (fun c => ?_) (fun c => ?_)
  · skip
    refine lv_goto (tgt := 1327) hx hb dL_law_965 (by decide) ?_
    refine W.widen (k := cells + 14) (n := slots + 124) (by omega) (by omega) ?_
    exact kk _ _ _ ⟨_, _, _, _, _, _, hv2, hd3, hW, hM, hO⟩ hS (lv_sub hl [2, 3, 4, 5, 6] rfl)
  · skip
    have hu0 : u = 0 := (nI_eq (a := u) (b := 0) (by omega) (by omega)).mp (by first | exact c | exact Decidable.not_not.mp c)
    refine lv_aload_n hx hb dL_law_953 rfl (lv_at hl 5 rfl) ?_
    refine lv_iconst (v := 0) hx hb dL_law_954 (by decide) ?_
    refine rO hx hb hKL hO dL_law_955 ?_
    refine lv_iload hx hb dL_law_956 (lv_at hl 0 rfl) ?_
    refine lv_i2l hx hb dL_law_958 rfl ?_
    refine W.lcmp hx hb dL_law_959 ?_
    refine lv_if_eq (tgt := 965) hx hb dL_law_960 (by decide) (fun c2 => ?_) (fun c2 => absurd (by rw [hd2 hu0, hr hu0]; exact lg_cmp_self) c2)
    refine lv_goto (tgt := 1327) hx hb dL_law_965 (by decide) ?_
    refine W.widen (k := cells + 14) (n := slots + 124) (by omega) (by omega) ?_
    exact kk _ _ _ ⟨_, _, _, _, _, _, hv2, hd3, hW, hM, hO⟩ hS (lv_sub hl [2, 3, 4, 5, 6] rfl)
