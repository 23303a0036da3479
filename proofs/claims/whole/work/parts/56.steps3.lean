set_option maxHeartbeats 4000000 in
set_option maxRecDepth 100000 in
theorem st_pass {p : Program} {l : Launch} {e : Env} {s : State} {m : MethodId} {below : List Frame} {meth : Method} {c : Code} {b L : Nat} {xs : Nat → Int32} {G : wG} {cL : ClassId} {xa ma o9 pa : Nat} {ad ad2 bd bd2 : Nat → Nat} {Q : State → Prop} (CC : LwS p l s m c b L xs G cL xa ma o9 pa ad ad2 bd bd2) {j : Nat} (hj : 4 * j + 4 ≤ L) {H : Heap} {locs : List Loc} {cells slots : Nat} {ls : Array Slot} (hLI : LI G cL xa ma o9 ad ad2 bd bd2 j H) (hS : va_S (fun q : Nat => s.heap.size ≤ q) s.heap H locs) (hl : lv_has ls 9 [(0, .ref b), (1, .ref xa), (2, .ref ma), (3, .ref o9), (4, .int (nI (4 * j)))]) (hc : cells + 14 ≤ 601024) (hs : slots + 124 ≤ 7293034)
    (kk : ∀ (H1 : Heap) (locs1 : List Loc) (ls1 : Array Slot), LI G cL xa ma o9 ad ad2 bd bd2 (j + 1) H1 → va_S (fun q : Nat => s.heap.size ≤ q) s.heap H1 locs1 → lv_has ls1 9 [(0, .ref b), (1, .ref xa), (2, .ref ma), (3, .ref o9), (4, .int (nI (4 * j)))] → W p l e room_1 s m #[Value.ref b] below meth c H1 locs1 (cells + 14) (slots + 124) Q (F0 m 1327 ls1 [])) : W p l e room_1 s m #[Value.ref b] below meth c H locs cells slots Q (F0 m 968 ls []) := by
  obtain ⟨hx, hb, hml, hown, hts, hX, hbl, hL, hfl, hKL, hXK, hNc, hN, hPL, hF⟩ := CC
  obtain ⟨nH, nP, τ, z, t, d, hv, hd, hW, hM, hO⟩ := hLI
  have hH := hv.1
  have hP := hv.2.1
  have hK := hKL.k
  have hbA : ¬ (fun q : Nat => s.heap.size ≤ q) b := Nat.not_le.mpr hbl
  have hXI := hF.1
  have hMI := hF.2.1
  have hoa := hF.oa
  refine lv_aload_n hx hb dL_law_968 rfl (lv_at hl 1 rfl) ?_
  refine lv_aload_n hx hb dL_law_969 rfl (lv_at hl 0 rfl) ?_
  refine lv_iload hx hb dL_law_970 (lv_at hl 4 rfl) ?_
  refine lv_iconst (v := 1) hx hb dL_law_972 (by decide) ?_
  refine lv_iadd hx hb dL_law_973 ?_
  refine lv_topi (fun y ey => ?_)
  obtain rfl : y = nI (4 * j + 1) := ey.trans (nI_add (4 * j) 1)
  refine va_sld hx hb hX hbl hbA hS (vp_in_nI (show 4 * j + 1 < L by omega) (by omega)) dL_law_974 ?_
  rw [nI_clamp (show 4 * j + 1 < 2 ^ 31 by omega)]
  refine lv_aload_n hx hb dL_law_975 rfl (lv_at hl 3 rfl) ?_
  refine kW (vx_runSX (As := [.ref xa, .int (xs (4 * j + 1)), .ref o9]) (rest := []) ⟨hx, hb, hml, hown, hts⟩ (c_L_pass l hfl G cL xa ad ad2 hXI nH nP hH hP dC τ z H.size o9 d (xs (4 * j + 1)) hv hoa hO.lt) (vx_cwSW 3 hts gL_law_L_pass rfl rfl rfl (by decide +kernel) ⟨Nat.le_of_ble_eq_true rfl, Nat.le_of_ble_eq_true rfl⟩) ⟨PcW.blind, PcW.pre ⟨hW, hO⟩ hKL hXK hNc hS (hF.subO hS.1)⟩ rfl rfl hl.1 rfl (lv_room (Nat.le_of_ble_eq_true rfl)) dL_law_976 ⟨by show cells + 1 ≤ 601024; omega, by show slots + 6 ≤ 7293034; omega⟩) hS (fun q _ h => hF.subO hS.1 q h) (hF.subO hS.1) (fun u H locs hP1 hB hz hk hS => ?_)
  obtain ⟨hW, d2, hO, hd2⟩ := hB
  have hM := hF.keepM hM hk
  refine lv_istore (lv' := [(5, .int (nI u)), (0, .ref b), (1, .ref xa), (2, .ref ma), (3, .ref o9), (4, .int (nI (4 * j)))]) hx hb dL_law_979 hl (by decide) rfl (fun ls hl => ?_)
  refine lv_aload_n hx hb dL_law_981 rfl (lv_at hl 3 rfl) ?_
  refine lv_aload_n hx hb dL_law_982 rfl (lv_at hl 1 rfl) ?_
  refine lv_iload hx hb dL_law_983 (lv_at hl 5 rfl) ?_
  refine lv_iconst (v := 1) hx hb dL_law_985 (by decide) ?_
  refine lv_iadd hx hb dL_law_986 ?_
  refine lv_topi (fun y ey => ?_)
  obtain rfl : y = nI (4 * j + 1) := ey.trans (nI_add (4 * j) 1)
  refine va_sld hx hb hX hbl hbA hS (vp_in_nI (show 4 * j + 1 < L by omega) (by omega)) dL_law_987 ?_
  rw [nI_clamp (show 4 * j + 1 < 2 ^ 31 by omega)]
  refine kM (va_runV (As := [.int (xs (4 * j + 1))]) (rest := []) ⟨hx, hb, hml, hown, hts⟩ (c_X5_pass_ l G ma bd bd2 hMI nH nP hH hP dR τ z t H.size (xs (4 * j + 1)) hv) (cwV 1 hts gL_law_X5_pass_ rfl rfl rfl (by decide +kernel) ⟨Nat.le_of_ble_eq_true rfl, Nat.le_of_ble_eq_true rfl⟩) ⟨PcM.blind, va_recv hK (va_P1 hM.choose_spec.1.1) (ci := 5) (q0 := 0) rfl rfl, PcM.pre hM hK hN⟩ rfl rfl hl.1 rfl (lv_room (Nat.le_of_ble_eq_true rfl)) dL_law_988 ⟨by show cells + 1 + 0 ≤ 601024; omega, by show slots + 6 + 0 ≤ 7293034; omega⟩) hS (fun q _ h => hF.subM hS.1 q h) (hF.subM hS.1) (fun w r H locs hP2 hr hM hz hk hS => ?_)
  have hW := hF.keepX hW hk
  have hO := hF.keepO hO hk
  obtain rfl := uq1 hP1 hP2
  have hu : u ≤ 2 := by rcases hP1 with ⟨q1, ok⟩ | ⟨q1, -⟩ <;> omega
  have ok : u = 0 → inn 1 100 (xs (4 * j + 1)) := fun q => by
    rcases hP1 with ⟨q1, ok⟩ | ⟨q1, -⟩
    · exact ok
    · exact absurd q (by omega)
  simp only [sel_same] at hM
  have hv2 : Inv nH nP (sel u (dysF nH nP (cl (xs (4 * j + 1))) τ) τ) := sel_inv0 hv (fun _ => hv.oDys)
  have hd3 : DB nH (300 * (j + 1)) (sel u (dysF nH nP (cl (xs (4 * j + 1))) τ) τ) := sel_db0 hd (fun q => by
    obtain ⟨k, -, hk, ek⟩ := inn_nI (lo := 1) (hi := 100) (ok q) (by omega) (by omega)
    rw [ek, show cl (nI k) = k from nI_clamp (by omega)]
    exact (hd.dys (nP := nP) (n := k)).mono (by have := Nat.mul_le_mul hP hk; omega)) (by omega)
  refine lv_istore (lv' := [(6, .int r), (5, .int (nI u)), (0, .ref b), (1, .ref xa), (2, .ref ma), (3, .ref o9), (4, .int (nI (4 * j)))]) hx hb dL_law_991 hl (by decide) rfl (fun ls hl => ?_)
  refine lv_aload_n hx hb dL_law_993 rfl (lv_at hl 4 rfl) ?_
  obtain ⟨σ2, hM2, hz2⟩ := hM
  refine kI (va_runV (As := []) (rest := []) ⟨hx, hb, hml, hown, hts⟩ (c_X5_thrown l G ma bd bd2 hMI nH nP hv2.1 hv2.2.1 dR (sel u (dysF nH nP (cl (xs (4 * j + 1))) τ) τ) σ2 (nI u) H.size) (cwV 0 hts gL_law_X5_thrown rfl rfl rfl (by decide +kernel) ⟨Nat.le_of_ble_eq_true rfl, Nat.le_of_ble_eq_true rfl⟩) ⟨PcM.blind, va_recv hK (va_P1 hM2.1) (ci := 5) (q0 := 0) rfl rfl, PcM.pre hM2 hK hN⟩ rfl rfl hl.1 rfl (lv_room (Nat.le_of_ble_eq_true rfl)) dL_law_994 ⟨by show cells + 1 + 0 + 0 ≤ 601024; omega, by show slots + 6 + 0 + 0 ≤ 7293034; omega⟩) hS (fun q _ h => h.elim) (fun q h => h.elim) (fun H locs hM2 hz hk hS => ?_)
  have hW := hW.kept (fun q hq => hk q hq (fun h => h))
  have hO := hO.kept (hk _ hO.lt (fun h => h))
  have hM : MWz G ma bd bd2 (nI u) (wmx nH nP dR (sel u (dysF nH nP (cl (xs (4 * j + 1))) τ) τ)) z H := ⟨σ2, hM2, hz2⟩
  refine lv_iload hx hb dL_law_997 (lv_at hl 1 rfl) ?_
  refine lv_icmp_eq (tgt := 1004) hx hb dL_law_999 (by decide) (fun c => ?_) (fun c => absurd rfl c)
  refine lv_iload hx hb dL_law_1004 (lv_at hl 1 rfl) ?_
  refine lv_if_ne (tgt := 1021) hx hb dL_law_1006 (by decide) (fun c => ?_) (fun c => ?_)
  · skip
    refine lv_goto (tgt := 1327) hx hb dL_law_1021 (by decide) ?_
    refine W.widen (k := cells + 14) (n := slots + 124) (by omega) (by omega) ?_
    exact kk _ _ _ ⟨_, _, _, _, _, _, hv2, hd3, hW, hM, hO⟩ hS (lv_sub hl [2, 3, 4, 5, 6] rfl)
  · skip
    have hu0 : u = 0 := (nI_eq (a := u) (b := 0) (by omega) (by omega)).mp (by first | exact c | exact Decidable.not_not.mp c)
    refine lv_aload_n hx hb dL_law_1009 rfl (lv_at hl 5 rfl) ?_
    refine lv_iconst (v := 0) hx hb dL_law_1010 (by decide) ?_
    refine rO hx hb hKL hO dL_law_1011 ?_
    refine lv_iload hx hb dL_law_1012 (lv_at hl 0 rfl) ?_
    refine lv_i2l hx hb dL_law_1014 rfl ?_
    refine W.lcmp hx hb dL_law_1015 ?_
    refine lv_if_eq (tgt := 1021) hx hb dL_law_1016 (by decide) (fun c2 => ?_) (fun c2 => absurd (by rw [hd2 hu0, hr hu0]; exact lg_cmp_self) c2)
    refine lv_goto (tgt := 1327) hx hb dL_law_1021 (by decide) ?_
    refine W.widen (k := cells + 14) (n := slots + 124) (by omega) (by omega) ?_
    exact kk _ _ _ ⟨_, _, _, _, _, _, hv2, hd3, hW, hM, hO⟩ hS (lv_sub hl [2, 3, 4, 5, 6] rfl)

set_option maxHeartbeats 4000000 in
set_option maxRecDepth 100000 in
theorem st_count {p : Program} {l : Launch} {e : Env} {s : State} {m : MethodId} {below : List Frame} {meth : Method} {c : Code} {b L : Nat} {xs : Nat → Int32} {G : wG} {cL : ClassId} {xa ma o9 pa : Nat} {ad ad2 bd bd2 : Nat → Nat} {Q : State → Prop} (CC : LwS p l s m c b L xs G cL xa ma o9 pa ad ad2 bd bd2) {j : Nat} (hj : 4 * j + 4 ≤ L) {H : Heap} {locs : List Loc} {cells slots : Nat} {ls : Array Slot} (hLI : LI G cL xa ma o9 ad ad2 bd bd2 j H) (hS : va_S (fun q : Nat => s.heap.size ≤ q) s.heap H locs) (hl : lv_has ls 9 [(0, .ref b), (1, .ref xa), (2, .ref ma), (3, .ref o9), (4, .int (nI (4 * j)))]) (hc : cells + 14 ≤ 601024) (hs : slots + 124 ≤ 7293034)
    (kk : ∀ (H1 : Heap) (locs1 : List Loc) (ls1 : Array Slot), LI G cL xa ma o9 ad ad2 bd bd2 (j + 1) H1 → va_S (fun q : Nat => s.heap.size ≤ q) s.heap H1 locs1 → lv_has ls1 9 [(0, .ref b), (1, .ref xa), (2, .ref ma), (3, .ref o9), (4, .int (nI (4 * j)))] → W p l e room_1 s m #[Value.ref b] below meth c H1 locs1 (cells + 14) (slots + 124) Q (F0 m 1327 ls1 [])) : W p l e room_1 s m #[Value.ref b] below meth c H locs cells slots Q (F0 m 1024 ls []) := by
  obtain ⟨hx, hb, hml, hown, hts, hX, hbl, hL, hfl, hKL, hXK, hNc, hN, hPL, hF⟩ := CC
  obtain ⟨nH, nP, τ, z, t, d, hv, hd, hW, hM, hO⟩ := hLI
  have hH := hv.1
  have hP := hv.2.1
  have hK := hKL.k
  have hbA : ¬ (fun q : Nat => s.heap.size ≤ q) b := Nat.not_le.mpr hbl
  have hXI := hF.1
  have hMI := hF.2.1
  have hoa := hF.oa
  refine lv_aload_n hx hb dL_law_1024 rfl (lv_at hl 1 rfl) ?_
  refine lv_aload_n hx hb dL_law_1025 rfl (lv_at hl 0 rfl) ?_
  refine lv_iload hx hb dL_law_1026 (lv_at hl 4 rfl) ?_
  refine lv_iconst (v := 1) hx hb dL_law_1028 (by decide) ?_
  refine lv_iadd hx hb dL_law_1029 ?_
  refine lv_topi (fun y ey => ?_)
  obtain rfl : y = nI (4 * j + 1) := ey.trans (nI_add (4 * j) 1)
  refine va_sld hx hb hX hbl hbA hS (vp_in_nI (show 4 * j + 1 < L by omega) (by omega)) dL_law_1030 ?_
  rw [nI_clamp (show 4 * j + 1 < 2 ^ 31 by omega)]
  refine lv_aload_n hx hb dL_law_1031 rfl (lv_at hl 3 rfl) ?_
  refine kW (vx_runSX (As := [.ref xa, .int (xs (4 * j + 1)), .ref o9]) (rest := []) ⟨hx, hb, hml, hown, hts⟩ (c_L_count l hfl G cL xa ad ad2 hXI nH nP hH hP dC τ z H.size o9 d (xs (4 * j + 1)) hv hoa hO.lt) (vx_cwSW 3 hts gL_law_L_count rfl rfl rfl (by decide +kernel) ⟨Nat.le_of_ble_eq_true rfl, Nat.le_of_ble_eq_true rfl⟩) ⟨PcW.blind, PcW.pre ⟨hW, hO⟩ hKL hXK hNc hS (hF.subO hS.1)⟩ rfl rfl hl.1 rfl (lv_room (Nat.le_of_ble_eq_true rfl)) dL_law_1032 ⟨by show cells + 1 ≤ 601024; omega, by show slots + 6 ≤ 7293034; omega⟩) hS (fun q _ h => hF.subO hS.1 q h) (hF.subO hS.1) (fun u H locs hP1 hB hz hk hS => ?_)
  obtain ⟨hW, d2, hO, hd2⟩ := hB
  have hM := hF.keepM hM hk
  refine lv_istore (lv' := [(5, .int (nI u)), (0, .ref b), (1, .ref xa), (2, .ref ma), (3, .ref o9), (4, .int (nI (4 * j)))]) hx hb dL_law_1035 hl (by decide) rfl (fun ls hl => ?_)
  refine lv_aload_n hx hb dL_law_1037 rfl (lv_at hl 3 rfl) ?_
  refine lv_aload_n hx hb dL_law_1038 rfl (lv_at hl 1 rfl) ?_
  refine lv_iload hx hb dL_law_1039 (lv_at hl 5 rfl) ?_
  refine lv_iconst (v := 1) hx hb dL_law_1041 (by decide) ?_
  refine lv_iadd hx hb dL_law_1042 ?_
  refine lv_topi (fun y ey => ?_)
  obtain rfl : y = nI (4 * j + 1) := ey.trans (nI_add (4 * j) 1)
  refine va_sld hx hb hX hbl hbA hS (vp_in_nI (show 4 * j + 1 < L by omega) (by omega)) dL_law_1043 ?_
  rw [nI_clamp (show 4 * j + 1 < 2 ^ 31 by omega)]
  refine kM (va_runV (As := [.int (xs (4 * j + 1))]) (rest := []) ⟨hx, hb, hml, hown, hts⟩ (c_X5_count l G ma bd bd2 hMI nH nP hH hP dR τ z t H.size (xs (4 * j + 1)) hv) (cwV 1 hts gL_law_X5_count rfl rfl rfl (by decide +kernel) ⟨Nat.le_of_ble_eq_true rfl, Nat.le_of_ble_eq_true rfl⟩) ⟨PcM.blind, va_recv hK (va_P1 hM.choose_spec.1.1) (ci := 5) (q0 := 0) rfl rfl, PcM.pre hM hK hN⟩ rfl rfl hl.1 rfl (lv_room (Nat.le_of_ble_eq_true rfl)) dL_law_1044 ⟨by show cells + 1 + 1 ≤ 601024; omega, by show slots + 6 + 10 ≤ 7293034; omega⟩) hS (fun q _ h => hF.subM hS.1 q h) (hF.subM hS.1) (fun w r H locs hP2 hr hM hz hk hS => ?_)
  have hW := hF.keepX hW hk
  have hO := hF.keepO hO hk
  obtain rfl := uq1 hP1 hP2
  have hu : u ≤ 2 := by rcases hP1 with ⟨q1, ok⟩ | ⟨q1, -⟩ <;> omega
  simp only [sel_same] at hM
  have hv2 : Inv nH nP τ := hv
  have hd3 : DB nH (300 * (j + 1)) τ := hd.mono (by omega)
  refine lv_istore (lv' := [(6, .int r), (5, .int (nI u)), (0, .ref b), (1, .ref xa), (2, .ref ma), (3, .ref o9), (4, .int (nI (4 * j)))]) hx hb dL_law_1047 hl (by decide) rfl (fun ls hl => ?_)
  refine lv_aload_n hx hb dL_law_1049 rfl (lv_at hl 4 rfl) ?_
  obtain ⟨σ2, hM2, hz2⟩ := hM
  refine kI (va_runV (As := []) (rest := []) ⟨hx, hb, hml, hown, hts⟩ (c_X5_thrown l G ma bd bd2 hMI nH nP hv2.1 hv2.2.1 dR τ σ2 (nI u) H.size) (cwV 0 hts gL_law_X5_thrown rfl rfl rfl (by decide +kernel) ⟨Nat.le_of_ble_eq_true rfl, Nat.le_of_ble_eq_true rfl⟩) ⟨PcM.blind, va_recv hK (va_P1 hM2.1) (ci := 5) (q0 := 0) rfl rfl, PcM.pre hM2 hK hN⟩ rfl rfl hl.1 rfl (lv_room (Nat.le_of_ble_eq_true rfl)) dL_law_1050 ⟨by show cells + 1 + 1 + 0 ≤ 601024; omega, by show slots + 6 + 10 + 0 ≤ 7293034; omega⟩) hS (fun q _ h => h.elim) (fun q h => h.elim) (fun H locs hM2 hz hk hS => ?_)
  have hW := hW.kept (fun q hq => hk q hq (fun h => h))
  have hO := hO.kept (hk _ hO.lt (fun h => h))
  have hM : MWz G ma bd bd2 (nI u) (wmx nH nP dR τ) z H := ⟨σ2, hM2, hz2⟩
  refine lv_iload hx hb dL_law_1053 (lv_at hl 1 rfl) ?_
  refine lv_icmp_eq (tgt := 1060) hx hb dL_law_1055 (by decide) (fun c => ?_) (fun c => absurd rfl c)
  refine lv_iload hx hb dL_law_1060 (lv_at hl 1 rfl) ?_
  refine lv_if_ne (tgt := 1077) hx hb dL_law_1062 (by decide) (fun c => ?_) (fun c => ?_)
  · skip
    refine lv_goto (tgt := 1327) hx hb dL_law_1077 (by decide) ?_
    refine W.widen (k := cells + 14) (n := slots + 124) (by omega) (by omega) ?_
    exact kk _ _ _ ⟨_, _, _, _, _, _, hv2, hd3, hW, hM, hO⟩ hS (lv_sub hl [2, 3, 4, 5, 6] rfl)
  · skip
    have hu0 : u = 0 := (nI_eq (a := u) (b := 0) (by omega) (by omega)).mp (by first | exact c | exact Decidable.not_not.mp c)
    refine lv_aload_n hx hb dL_law_1065 rfl (lv_at hl 5 rfl) ?_
    refine lv_iconst (v := 0) hx hb dL_law_1066 (by decide) ?_
    refine rO hx hb hKL hO dL_law_1067 ?_
    refine lv_iload hx hb dL_law_1068 (lv_at hl 0 rfl) ?_
    refine lv_i2l hx hb dL_law_1070 rfl ?_
    refine W.lcmp hx hb dL_law_1071 ?_
    refine lv_if_eq (tgt := 1077) hx hb dL_law_1072 (by decide) (fun c2 => ?_) (fun c2 => absurd (by rw [hd2 hu0, hr hu0]; exact lg_cmp_self) c2)
    refine lv_goto (tgt := 1327) hx hb dL_law_1077 (by decide) ?_
    refine W.widen (k := cells + 14) (n := slots + 124) (by omega) (by omega) ?_
    exact kk _ _ _ ⟨_, _, _, _, _, _, hv2, hd3, hW, hM, hO⟩ hS (lv_sub hl [2, 3, 4, 5, 6] rfl)

set_option maxHeartbeats 4000000 in
set_option maxRecDepth 100000 in
theorem st_foresee {p : Program} {l : Launch} {e : Env} {s : State} {m : MethodId} {below : List Frame} {meth : Method} {c : Code} {b L : Nat} {xs : Nat → Int32} {G : wG} {cL : ClassId} {xa ma o9 pa : Nat} {ad ad2 bd bd2 : Nat → Nat} {Q : State → Prop} (CC : LwS p l s m c b L xs G cL xa ma o9 pa ad ad2 bd bd2) {j : Nat} (hj : 4 * j + 4 ≤ L) {H : Heap} {locs : List Loc} {cells slots : Nat} {ls : Array Slot} (hLI : LI G cL xa ma o9 ad ad2 bd bd2 j H) (hS : va_S (fun q : Nat => s.heap.size ≤ q) s.heap H locs) (hl : lv_has ls 9 [(0, .ref b), (1, .ref xa), (2, .ref ma), (3, .ref o9), (4, .int (nI (4 * j)))]) (hc : cells + 14 ≤ 601024) (hs : slots + 124 ≤ 7293034)
    (kk : ∀ (H1 : Heap) (locs1 : List Loc) (ls1 : Array Slot), LI G cL xa ma o9 ad ad2 bd bd2 (j + 1) H1 → va_S (fun q : Nat => s.heap.size ≤ q) s.heap H1 locs1 → lv_has ls1 9 [(0, .ref b), (1, .ref xa), (2, .ref ma), (3, .ref o9), (4, .int (nI (4 * j)))] → W p l e room_1 s m #[Value.ref b] below meth c H1 locs1 (cells + 14) (slots + 124) Q (F0 m 1327 ls1 [])) : W p l e room_1 s m #[Value.ref b] below meth c H locs cells slots Q (F0 m 1080 ls []) := by
  obtain ⟨hx, hb, hml, hown, hts, hX, hbl, hL, hfl, hKL, hXK, hNc, hN, hPL, hF⟩ := CC
  obtain ⟨nH, nP, τ, z, t, d, hv, hd, hW, hM, hO⟩ := hLI
  have hH := hv.1
  have hP := hv.2.1
  have hK := hKL.k
  have hbA : ¬ (fun q : Nat => s.heap.size ≤ q) b := Nat.not_le.mpr hbl
  have hXI := hF.1
  have hMI := hF.2.1
  have hoa := hF.oa
  refine lv_aload_n hx hb dL_law_1080 rfl (lv_at hl 1 rfl) ?_
  refine lv_aload_n hx hb dL_law_1081 rfl (lv_at hl 0 rfl) ?_
  refine lv_iload hx hb dL_law_1082 (lv_at hl 4 rfl) ?_
  refine lv_iconst (v := 1) hx hb dL_law_1084 (by decide) ?_
  refine lv_iadd hx hb dL_law_1085 ?_
  refine lv_topi (fun y ey => ?_)
  obtain rfl : y = nI (4 * j + 1) := ey.trans (nI_add (4 * j) 1)
  refine va_sld hx hb hX hbl hbA hS (vp_in_nI (show 4 * j + 1 < L by omega) (by omega)) dL_law_1086 ?_
  rw [nI_clamp (show 4 * j + 1 < 2 ^ 31 by omega)]
  refine lv_aload_n hx hb dL_law_1087 rfl (lv_at hl 0 rfl) ?_
  refine lv_iload hx hb dL_law_1088 (lv_at hl 4 rfl) ?_
  refine lv_iconst (v := 2) hx hb dL_law_1090 (by decide) ?_
  refine lv_iadd hx hb dL_law_1091 ?_
  refine lv_topi (fun y ey => ?_)
  obtain rfl : y = nI (4 * j + 2) := ey.trans (nI_add (4 * j) 2)
  refine va_sld hx hb hX hbl hbA hS (vp_in_nI (show 4 * j + 2 < L by omega) (by omega)) dL_law_1092 ?_
  rw [nI_clamp (show 4 * j + 2 < 2 ^ 31 by omega)]
  refine lv_aload_n hx hb dL_law_1093 rfl (lv_at hl 3 rfl) ?_
  refine kW (vx_runSX (As := [.ref xa, .int (xs (4 * j + 1)), .int (xs (4 * j + 2)), .ref o9]) (rest := []) ⟨hx, hb, hml, hown, hts⟩ (c_L_foresee l hfl G cL xa ad ad2 hXI nH nP hH hP dC τ z H.size o9 d (xs (4 * j + 1)) (xs (4 * j + 2)) hv hoa hO.lt) (vx_cwSW 4 hts gL_law_L_foresee rfl rfl rfl (by decide +kernel) ⟨Nat.le_of_ble_eq_true rfl, Nat.le_of_ble_eq_true rfl⟩) ⟨PcW.blind, PcW.pre ⟨hW, hO⟩ hKL hXK hNc hS (hF.subO hS.1)⟩ rfl rfl hl.1 rfl (lv_room (Nat.le_of_ble_eq_true rfl)) dL_law_1094 ⟨by show cells + 2 ≤ 601024; omega, by show slots + 12 ≤ 7293034; omega⟩) hS (fun q _ h => hF.subO hS.1 q h) (hF.subO hS.1) (fun u H locs hP1 hB hz hk hS => ?_)
  obtain ⟨hW, d2, hO, hd2⟩ := hB
  have hM := hF.keepM hM hk
  refine lv_istore (lv' := [(5, .int (nI u)), (0, .ref b), (1, .ref xa), (2, .ref ma), (3, .ref o9), (4, .int (nI (4 * j)))]) hx hb dL_law_1097 hl (by decide) rfl (fun ls hl => ?_)
  refine lv_aload_n hx hb dL_law_1099 rfl (lv_at hl 3 rfl) ?_
  refine lv_aload_n hx hb dL_law_1100 rfl (lv_at hl 1 rfl) ?_
  refine lv_iload hx hb dL_law_1101 (lv_at hl 5 rfl) ?_
  refine lv_iconst (v := 1) hx hb dL_law_1103 (by decide) ?_
  refine lv_iadd hx hb dL_law_1104 ?_
  refine lv_topi (fun y ey => ?_)
  obtain rfl : y = nI (4 * j + 1) := ey.trans (nI_add (4 * j) 1)
  refine va_sld hx hb hX hbl hbA hS (vp_in_nI (show 4 * j + 1 < L by omega) (by omega)) dL_law_1105 ?_
  rw [nI_clamp (show 4 * j + 1 < 2 ^ 31 by omega)]
  refine lv_aload_n hx hb dL_law_1106 rfl (lv_at hl 1 rfl) ?_
  refine lv_iload hx hb dL_law_1107 (lv_at hl 5 rfl) ?_
  refine lv_iconst (v := 2) hx hb dL_law_1109 (by decide) ?_
  refine lv_iadd hx hb dL_law_1110 ?_
  refine lv_topi (fun y ey => ?_)
  obtain rfl : y = nI (4 * j + 2) := ey.trans (nI_add (4 * j) 2)
  refine va_sld hx hb hX hbl hbA hS (vp_in_nI (show 4 * j + 2 < L by omega) (by omega)) dL_law_1111 ?_
  rw [nI_clamp (show 4 * j + 2 < 2 ^ 31 by omega)]
  refine kM (va_runV (As := [.int (xs (4 * j + 1)), .int (xs (4 * j + 2))]) (rest := []) ⟨hx, hb, hml, hown, hts⟩ (c_X5_foresee l G ma bd bd2 hMI nH nP hH hP dR τ z t H.size (xs (4 * j + 1)) (xs (4 * j + 2)) hv) (cwV 2 hts gL_law_X5_foresee rfl rfl rfl (by decide +kernel) ⟨Nat.le_of_ble_eq_true rfl, Nat.le_of_ble_eq_true rfl⟩) ⟨PcM.blind, va_recv hK (va_P1 hM.choose_spec.1.1) (ci := 5) (q0 := 0) rfl rfl, PcM.pre hM hK hN⟩ rfl rfl hl.1 rfl (lv_room (Nat.le_of_ble_eq_true rfl)) dL_law_1112 ⟨by show cells + 2 + 0 ≤ 601024; omega, by show slots + 12 + 0 ≤ 7293034; omega⟩) hS (fun q _ h => hF.subM hS.1 q h) (hF.subM hS.1) (fun w r H locs hP2 hr hM hz hk hS => ?_)
  have hW := hF.keepX hW hk
  have hO := hF.keepO hO hk
  obtain rfl := uq2 hP1 hP2
  have hu : u ≤ 2 := by rcases hP1 with ⟨q1, ok⟩ | ⟨q1, -⟩ | ⟨q1, -⟩ <;> omega
  simp only [sel_same] at hM
  have hv2 : Inv nH nP τ := hv
  have hd3 : DB nH (300 * (j + 1)) τ := hd.mono (by omega)
  refine lv_istore (lv' := [(6, .int r), (5, .int (nI u)), (0, .ref b), (1, .ref xa), (2, .ref ma), (3, .ref o9), (4, .int (nI (4 * j)))]) hx hb dL_law_1115 hl (by decide) rfl (fun ls hl => ?_)
  refine lv_aload_n hx hb dL_law_1117 rfl (lv_at hl 4 rfl) ?_
  obtain ⟨σ2, hM2, hz2⟩ := hM
  refine kI (va_runV (As := []) (rest := []) ⟨hx, hb, hml, hown, hts⟩ (c_X5_thrown l G ma bd bd2 hMI nH nP hv2.1 hv2.2.1 dR τ σ2 (nI u) H.size) (cwV 0 hts gL_law_X5_thrown rfl rfl rfl (by decide +kernel) ⟨Nat.le_of_ble_eq_true rfl, Nat.le_of_ble_eq_true rfl⟩) ⟨PcM.blind, va_recv hK (va_P1 hM2.1) (ci := 5) (q0 := 0) rfl rfl, PcM.pre hM2 hK hN⟩ rfl rfl hl.1 rfl (lv_room (Nat.le_of_ble_eq_true rfl)) dL_law_1118 ⟨by show cells + 2 + 0 + 0 ≤ 601024; omega, by show slots + 12 + 0 + 0 ≤ 7293034; omega⟩) hS (fun q _ h => h.elim) (fun q h => h.elim) (fun H locs hM2 hz hk hS => ?_)
  have hW := hW.kept (fun q hq => hk q hq (fun h => h))
  have hO := hO.kept (hk _ hO.lt (fun h => h))
  have hM : MWz G ma bd bd2 (nI u) (wmx nH nP dR τ) (sel u (fsX nH nP τ z (cl (xs (4 * j + 1)))) z) H := ⟨σ2, hM2, hz2⟩
  refine lv_iload hx hb dL_law_1121 (lv_at hl 1 rfl) ?_
  refine lv_icmp_eq (tgt := 1128) hx hb dL_law_1123 (by decide) (fun c => ?_) (fun c => absurd rfl c)
  refine lv_iload hx hb dL_law_1128 (lv_at hl 1 rfl) ?_
  refine lv_if_ne (tgt := 1145) hx hb dL_law_1130 (by decide) (fun c => ?_) (fun c => ?_)
  · skip
    refine lv_goto (tgt := 1327) hx hb dL_law_1145 (by decide) ?_
    refine W.widen (k := cells + 14) (n := slots + 124) (by omega) (by omega) ?_
    exact kk _ _ _ ⟨_, _, _, _, _, _, hv2, hd3, hW, hM, hO⟩ hS (lv_sub hl [2, 3, 4, 5, 6] rfl)
  · skip
    have hu0 : u = 0 := (nI_eq (a := u) (b := 0) (by omega) (by omega)).mp (by first | exact c | exact Decidable.not_not.mp c)
    refine lv_aload_n hx hb dL_law_1133 rfl (lv_at hl 5 rfl) ?_
    refine lv_iconst (v := 0) hx hb dL_law_1134 (by decide) ?_
    refine rO hx hb hKL hO dL_law_1135 ?_
    refine lv_iload hx hb dL_law_1136 (lv_at hl 0 rfl) ?_
    refine lv_i2l hx hb dL_law_1138 rfl ?_
    refine W.lcmp hx hb dL_law_1139 ?_
    refine lv_if_eq (tgt := 1145) hx hb dL_law_1140 (by decide) (fun c2 => ?_) (fun c2 => absurd (by rw [hd2 hu0, hr hu0]; exact lg_cmp_self) c2)
    refine lv_goto (tgt := 1327) hx hb dL_law_1145 (by decide) ?_
    refine W.widen (k := cells + 14) (n := slots + 124) (by omega) (by omega) ?_
    exact kk _ _ _ ⟨_, _, _, _, _, _, hv2, hd3, hW, hM, hO⟩ hS (lv_sub hl [2, 3, 4, 5, 6] rfl)

set_option maxHeartbeats 4000000 in
set_option maxRecDepth 100000 in
theorem st_advise {p : Program} {l : Launch} {e : Env} {s : State} {m : MethodId} {below : List Frame} {meth : Method} {c : Code} {b L : Nat} {xs : Nat → Int32} {G : wG} {cL : ClassId} {xa ma o9 pa : Nat} {ad ad2 bd bd2 : Nat → Nat} {Q : State → Prop} (CC : LwS p l s m c b L xs G cL xa ma o9 pa ad ad2 bd bd2) {j : Nat} (hj : 4 * j + 4 ≤ L) {H : Heap} {locs : List Loc} {cells slots : Nat} {ls : Array Slot} (hLI : LI G cL xa ma o9 ad ad2 bd bd2 j H) (hS : va_S (fun q : Nat => s.heap.size ≤ q) s.heap H locs) (hl : lv_has ls 9 [(0, .ref b), (1, .ref xa), (2, .ref ma), (3, .ref o9), (4, .int (nI (4 * j)))]) (hc : cells + 14 ≤ 601024) (hs : slots + 124 ≤ 7293034)
    (kk : ∀ (H1 : Heap) (locs1 : List Loc) (ls1 : Array Slot), LI G cL xa ma o9 ad ad2 bd bd2 (j + 1) H1 → va_S (fun q : Nat => s.heap.size ≤ q) s.heap H1 locs1 → lv_has ls1 9 [(0, .ref b), (1, .ref xa), (2, .ref ma), (3, .ref o9), (4, .int (nI (4 * j)))] → W p l e room_1 s m #[Value.ref b] below meth c H1 locs1 (cells + 14) (slots + 124) Q (F0 m 1327 ls1 [])) : W p l e room_1 s m #[Value.ref b] below meth c H locs cells slots Q (F0 m 1148 ls []) := by
  obtain ⟨hx, hb, hml, hown, hts, hX, hbl, hL, hfl, hKL, hXK, hNc, hN, hPL, hF⟩ := CC
  obtain ⟨nH, nP, τ, z, t, d, hv, hd, hW, hM, hO⟩ := hLI
  have hH := hv.1
  have hP := hv.2.1
  have hK := hKL.k
  have hbA : ¬ (fun q : Nat => s.heap.size ≤ q) b := Nat.not_le.mpr hbl
  have hXI := hF.1
  have hMI := hF.2.1
  have hoa := hF.oa
  refine lv_aload_n hx hb dL_law_1148 rfl (lv_at hl 1 rfl) ?_
  refine lv_aload_n hx hb dL_law_1149 rfl (lv_at hl 0 rfl) ?_
  refine lv_iload hx hb dL_law_1150 (lv_at hl 4 rfl) ?_
  refine lv_iconst (v := 1) hx hb dL_law_1152 (by decide) ?_
  refine lv_iadd hx hb dL_law_1153 ?_
  refine lv_topi (fun y ey => ?_)
  obtain rfl : y = nI (4 * j + 1) := ey.trans (nI_add (4 * j) 1)
  refine va_sld hx hb hX hbl hbA hS (vp_in_nI (show 4 * j + 1 < L by omega) (by omega)) dL_law_1154 ?_
  rw [nI_clamp (show 4 * j + 1 < 2 ^ 31 by omega)]
  refine lv_aload_n hx hb dL_law_1155 rfl (lv_at hl 0 rfl) ?_
  refine lv_iload hx hb dL_law_1156 (lv_at hl 4 rfl) ?_
  refine lv_iconst (v := 2) hx hb dL_law_1158 (by decide) ?_
  refine lv_iadd hx hb dL_law_1159 ?_
  refine lv_topi (fun y ey => ?_)
  obtain rfl : y = nI (4 * j + 2) := ey.trans (nI_add (4 * j) 2)
  refine va_sld hx hb hX hbl hbA hS (vp_in_nI (show 4 * j + 2 < L by omega) (by omega)) dL_law_1160 ?_
  rw [nI_clamp (show 4 * j + 2 < 2 ^ 31 by omega)]
  refine lv_aload_n hx hb dL_law_1161 rfl (lv_at hl 3 rfl) ?_
  refine kW (vx_runSX (As := [.ref xa, .int (xs (4 * j + 1)), .int (xs (4 * j + 2)), .ref o9]) (rest := []) ⟨hx, hb, hml, hown, hts⟩ (c_L_advise l hfl G cL xa ad ad2 hXI nH nP hH hP dC τ z H.size o9 d (xs (4 * j + 1)) (xs (4 * j + 2)) hv hoa hO.lt) (vx_cwSW 4 hts gL_law_L_advise rfl rfl rfl (by decide +kernel) ⟨Nat.le_of_ble_eq_true rfl, Nat.le_of_ble_eq_true rfl⟩) ⟨PcW.blind, PcW.pre ⟨hW, hO⟩ hKL hXK hNc hS (hF.subO hS.1)⟩ rfl rfl hl.1 rfl (lv_room (Nat.le_of_ble_eq_true rfl)) dL_law_1162 ⟨by show cells + 2 ≤ 601024; omega, by show slots + 12 ≤ 7293034; omega⟩) hS (fun q _ h => hF.subO hS.1 q h) (hF.subO hS.1) (fun u H locs hP1 hB hz hk hS => ?_)
  obtain ⟨hW, d2, hO, hd2⟩ := hB
  have hM := hF.keepM hM hk
  refine lv_istore (lv' := [(5, .int (nI u)), (0, .ref b), (1, .ref xa), (2, .ref ma), (3, .ref o9), (4, .int (nI (4 * j)))]) hx hb dL_law_1165 hl (by decide) rfl (fun ls hl => ?_)
  refine lv_aload_n hx hb dL_law_1167 rfl (lv_at hl 3 rfl) ?_
  refine lv_aload_n hx hb dL_law_1168 rfl (lv_at hl 1 rfl) ?_
  refine lv_iload hx hb dL_law_1169 (lv_at hl 5 rfl) ?_
  refine lv_iconst (v := 1) hx hb dL_law_1171 (by decide) ?_
  refine lv_iadd hx hb dL_law_1172 ?_
  refine lv_topi (fun y ey => ?_)
  obtain rfl : y = nI (4 * j + 1) := ey.trans (nI_add (4 * j) 1)
  refine va_sld hx hb hX hbl hbA hS (vp_in_nI (show 4 * j + 1 < L by omega) (by omega)) dL_law_1173 ?_
  rw [nI_clamp (show 4 * j + 1 < 2 ^ 31 by omega)]
  refine lv_aload_n hx hb dL_law_1174 rfl (lv_at hl 1 rfl) ?_
  refine lv_iload hx hb dL_law_1175 (lv_at hl 5 rfl) ?_
  refine lv_iconst (v := 2) hx hb dL_law_1177 (by decide) ?_
  refine lv_iadd hx hb dL_law_1178 ?_
  refine lv_topi (fun y ey => ?_)
  obtain rfl : y = nI (4 * j + 2) := ey.trans (nI_add (4 * j) 2)
  refine va_sld hx hb hX hbl hbA hS (vp_in_nI (show 4 * j + 2 < L by omega) (by omega)) dL_law_1179 ?_
  rw [nI_clamp (show 4 * j + 2 < 2 ^ 31 by omega)]
  refine kM (va_runV (As := [.int (xs (4 * j + 1)), .int (xs (4 * j + 2))]) (rest := []) ⟨hx, hb, hml, hown, hts⟩ (c_X5_advise l G ma bd bd2 hMI nH nP hH hP dR τ z t H.size (xs (4 * j + 1)) (xs (4 * j + 2)) hv) (cwV 2 hts gL_law_X5_advise rfl rfl rfl (by decide +kernel) ⟨Nat.le_of_ble_eq_true rfl, Nat.le_of_ble_eq_true rfl⟩) ⟨PcM.blind, va_recv hK (va_P1 hM.choose_spec.1.1) (ci := 5) (q0 := 0) rfl rfl, PcM.pre hM hK hN⟩ rfl rfl hl.1 rfl (lv_room (Nat.le_of_ble_eq_true rfl)) dL_law_1180 ⟨by show cells + 2 + 0 ≤ 601024; omega, by show slots + 12 + 0 ≤ 7293034; omega⟩) hS (fun q _ h => hF.subM hS.1 q h) (hF.subM hS.1) (fun w r H locs hP2 hr hM hz hk hS => ?_)
  have hW := hF.keepX hW hk
  have hO := hF.keepO hO hk
  obtain rfl := uq2 hP1 hP2
  have hu : u ≤ 2 := by rcases hP1 with ⟨q1, ok⟩ | ⟨q1, -⟩ | ⟨q1, -⟩ <;> omega
  simp only [sel_same] at hM
  have hv2 : Inv nH nP τ := hv
  have hd3 : DB nH (300 * (j + 1)) τ := hd.mono (by omega)
  refine lv_istore (lv' := [(6, .int r), (5, .int (nI u)), (0, .ref b), (1, .ref xa), (2, .ref ma), (3, .ref o9), (4, .int (nI (4 * j)))]) hx hb dL_law_1183 hl (by decide) rfl (fun ls hl => ?_)
  refine lv_aload_n hx hb dL_law_1185 rfl (lv_at hl 4 rfl) ?_
  obtain ⟨σ2, hM2, hz2⟩ := hM
  refine kI (va_runV (As := []) (rest := []) ⟨hx, hb, hml, hown, hts⟩ (c_X5_thrown l G ma bd bd2 hMI nH nP hv2.1 hv2.2.1 dR τ σ2 (nI u) H.size) (cwV 0 hts gL_law_X5_thrown rfl rfl rfl (by decide +kernel) ⟨Nat.le_of_ble_eq_true rfl, Nat.le_of_ble_eq_true rfl⟩) ⟨PcM.blind, va_recv hK (va_P1 hM2.1) (ci := 5) (q0 := 0) rfl rfl, PcM.pre hM2 hK hN⟩ rfl rfl hl.1 rfl (lv_room (Nat.le_of_ble_eq_true rfl)) dL_law_1186 ⟨by show cells + 2 + 0 + 0 ≤ 601024; omega, by show slots + 12 + 0 + 0 ≤ 7293034; omega⟩) hS (fun q _ h => h.elim) (fun q h => h.elim) (fun H locs hM2 hz hk hS => ?_)
  have hW := hW.kept (fun q hq => hk q hq (fun h => h))
  have hO := hO.kept (hk _ hO.lt (fun h => h))
  have hM : MWz G ma bd bd2 (nI u) (wmx nH nP dR τ) (sel u ((adI nH nP τ z (cl (xs (4 * j + 1))) (cl (xs (4 * j + 2))) nP).2.2) z) H := ⟨σ2, hM2, hz2⟩
  refine lv_iload hx hb dL_law_1189 (lv_at hl 1 rfl) ?_
  refine lv_icmp_eq (tgt := 1196) hx hb dL_law_1191 (by decide) (fun c => ?_) (fun c => absurd rfl c)
  refine lv_iload hx hb dL_law_1196 (lv_at hl 1 rfl) ?_
  refine lv_if_ne (tgt := 1213) hx hb dL_law_1198 (by decide) (fun c => ?_) (fun c => ?_)
  · skip
    refine lv_goto (tgt := 1327) hx hb dL_law_1213 (by decide) ?_
    refine W.widen (k := cells + 14) (n := slots + 124) (by omega) (by omega) ?_
    exact kk _ _ _ ⟨_, _, _, _, _, _, hv2, hd3, hW, hM, hO⟩ hS (lv_sub hl [2, 3, 4, 5, 6] rfl)
  · skip
    have hu0 : u = 0 := (nI_eq (a := u) (b := 0) (by omega) (by omega)).mp (by first | exact c | exact Decidable.not_not.mp c)
    refine lv_aload_n hx hb dL_law_1201 rfl (lv_at hl 5 rfl) ?_
    refine lv_iconst (v := 0) hx hb dL_law_1202 (by decide) ?_
    refine rO hx hb hKL hO dL_law_1203 ?_
    refine lv_iload hx hb dL_law_1204 (lv_at hl 0 rfl) ?_
    refine lv_i2l hx hb dL_law_1206 rfl ?_
    refine W.lcmp hx hb dL_law_1207 ?_
    refine lv_if_eq (tgt := 1213) hx hb dL_law_1208 (by decide) (fun c2 => ?_) (fun c2 => absurd (by rw [hd2 hu0, hr hu0]; exact lg_cmp_self) c2)
    refine lv_goto (tgt := 1327) hx hb dL_law_1213 (by decide) ?_
    refine W.widen (k := cells + 14) (n := slots + 124) (by omega) (by omega) ?_
    exact kk _ _ _ ⟨_, _, _, _, _, _, hv2, hd3, hW, hM, hO⟩ hS (lv_sub hl [2, 3, 4, 5, 6] rfl)

set_option maxHeartbeats 4000000 in
set_option maxRecDepth 100000 in
theorem st_unfair {p : Program} {l : Launch} {e : Env} {s : State} {m : MethodId} {below : List Frame} {meth : Method} {c : Code} {b L : Nat} {xs : Nat → Int32} {G : wG} {cL : ClassId} {xa ma o9 pa : Nat} {ad ad2 bd bd2 : Nat → Nat} {Q : State → Prop} (CC : LwS p l s m c b L xs G cL xa ma o9 pa ad ad2 bd bd2) {j : Nat} (hj : 4 * j + 4 ≤ L) {H : Heap} {locs : List Loc} {cells slots : Nat} {ls : Array Slot} (hLI : LI G cL xa ma o9 ad ad2 bd bd2 j H) (hS : va_S (fun q : Nat => s.heap.size ≤ q) s.heap H locs) (hl : lv_has ls 9 [(0, .ref b), (1, .ref xa), (2, .ref ma), (3, .ref o9), (4, .int (nI (4 * j)))]) (hc : cells + 14 ≤ 601024) (hs : slots + 124 ≤ 7293034)
    (kk : ∀ (H1 : Heap) (locs1 : List Loc) (ls1 : Array Slot), LI G cL xa ma o9 ad ad2 bd bd2 (j + 1) H1 → va_S (fun q : Nat => s.heap.size ≤ q) s.heap H1 locs1 → lv_has ls1 9 [(0, .ref b), (1, .ref xa), (2, .ref ma), (3, .ref o9), (4, .int (nI (4 * j)))] → W p l e room_1 s m #[Value.ref b] below meth c H1 locs1 (cells + 14) (slots + 124) Q (F0 m 1327 ls1 [])) : W p l e room_1 s m #[Value.ref b] below meth c H locs cells slots Q (F0 m 1216 ls []) := by
  obtain ⟨hx, hb, hml, hown, hts, hX, hbl, hL, hfl, hKL, hXK, hNc, hN, hPL, hF⟩ := CC
  obtain ⟨nH, nP, τ, z, t, d, hv, hd, hW, hM, hO⟩ := hLI
  have hH := hv.1
  have hP := hv.2.1
  have hK := hKL.k
  have hbA : ¬ (fun q : Nat => s.heap.size ≤ q) b := Nat.not_le.mpr hbl
  have hXI := hF.1
  have hMI := hF.2.1
  have hoa := hF.oa
  refine lv_aload_n hx hb dL_law_1216 rfl (lv_at hl 1 rfl) ?_
  refine lv_aload_n hx hb dL_law_1217 rfl (lv_at hl 0 rfl) ?_
  refine lv_iload hx hb dL_law_1218 (lv_at hl 4 rfl) ?_
  refine lv_iconst (v := 1) hx hb dL_law_1220 (by decide) ?_
  refine lv_iadd hx hb dL_law_1221 ?_
  refine lv_topi (fun y ey => ?_)
  obtain rfl : y = nI (4 * j + 1) := ey.trans (nI_add (4 * j) 1)
  refine va_sld hx hb hX hbl hbA hS (vp_in_nI (show 4 * j + 1 < L by omega) (by omega)) dL_law_1222 ?_
  rw [nI_clamp (show 4 * j + 1 < 2 ^ 31 by omega)]
  refine lv_aload_n hx hb dL_law_1223 rfl (lv_at hl 3 rfl) ?_
  refine kW (vx_runSX (As := [.ref xa, .int (xs (4 * j + 1)), .ref o9]) (rest := []) ⟨hx, hb, hml, hown, hts⟩ (c_L_unfair l hfl G cL xa ad ad2 hXI nH nP hH hP dC τ z H.size o9 d (xs (4 * j + 1)) hv hoa hO.lt) (vx_cwSW 3 hts gL_law_L_unfair rfl rfl rfl (by decide +kernel) ⟨Nat.le_of_ble_eq_true rfl, Nat.le_of_ble_eq_true rfl⟩) ⟨PcW.blind, PcW.pre ⟨hW, hO⟩ hKL hXK hNc hS (hF.subO hS.1)⟩ rfl rfl hl.1 rfl (lv_room (Nat.le_of_ble_eq_true rfl)) dL_law_1224 ⟨by show cells + 1 ≤ 601024; omega, by show slots + 6 ≤ 7293034; omega⟩) hS (fun q _ h => hF.subO hS.1 q h) (hF.subO hS.1) (fun u H locs hP1 hB hz hk hS => ?_)
  obtain ⟨hW, d2, hO, hd2⟩ := hB
  have hM := hF.keepM hM hk
  refine lv_istore (lv' := [(5, .int (nI u)), (0, .ref b), (1, .ref xa), (2, .ref ma), (3, .ref o9), (4, .int (nI (4 * j)))]) hx hb dL_law_1227 hl (by decide) rfl (fun ls hl => ?_)
  refine lv_aload_n hx hb dL_law_1229 rfl (lv_at hl 3 rfl) ?_
  refine lv_aload_n hx hb dL_law_1230 rfl (lv_at hl 1 rfl) ?_
  refine lv_iload hx hb dL_law_1231 (lv_at hl 5 rfl) ?_
  refine lv_iconst (v := 1) hx hb dL_law_1233 (by decide) ?_
  refine lv_iadd hx hb dL_law_1234 ?_
  refine lv_topi (fun y ey => ?_)
  obtain rfl : y = nI (4 * j + 1) := ey.trans (nI_add (4 * j) 1)
  refine va_sld hx hb hX hbl hbA hS (vp_in_nI (show 4 * j + 1 < L by omega) (by omega)) dL_law_1235 ?_
  rw [nI_clamp (show 4 * j + 1 < 2 ^ 31 by omega)]
  refine kM (va_runV (As := [.int (xs (4 * j + 1))]) (rest := []) ⟨hx, hb, hml, hown, hts⟩ (c_X5_unfair l G ma bd bd2 hMI nH nP hH hP dR τ z t H.size (xs (4 * j + 1)) (300 * j) (by omega) hd hv) (cwV 1 hts gL_law_X5_unfair rfl rfl rfl (by decide +kernel) ⟨Nat.le_of_ble_eq_true rfl, Nat.le_of_ble_eq_true rfl⟩) ⟨PcM.blind, va_recv hK (va_P1 hM.choose_spec.1.1) (ci := 5) (q0 := 0) rfl rfl, PcM.pre hM hK hN⟩ rfl rfl hl.1 rfl (lv_room (Nat.le_of_ble_eq_true rfl)) dL_law_1236 ⟨by show cells + 1 + 0 ≤ 601024; omega, by show slots + 6 + 0 ≤ 7293034; omega⟩) hS (fun q _ h => hF.subM hS.1 q h) (hF.subM hS.1) (fun w r H locs hP2 hr hM hz hk hS => ?_)
  have hW := hF.keepX hW hk
  have hO := hF.keepO hO hk
  obtain rfl := uq1 hP1 hP2
  have hu : u ≤ 2 := by rcases hP1 with ⟨q1, ok⟩ | ⟨q1, -⟩ <;> omega
  simp only [sel_same] at hM
  have hv2 : Inv nH nP τ := hv
  have hd3 : DB nH (300 * (j + 1)) τ := hd.mono (by omega)
  refine lv_istore (lv' := [(6, .int r), (5, .int (nI u)), (0, .ref b), (1, .ref xa), (2, .ref ma), (3, .ref o9), (4, .int (nI (4 * j)))]) hx hb dL_law_1239 hl (by decide) rfl (fun ls hl => ?_)
  refine lv_aload_n hx hb dL_law_1241 rfl (lv_at hl 4 rfl) ?_
  obtain ⟨σ2, hM2, hz2⟩ := hM
  refine kI (va_runV (As := []) (rest := []) ⟨hx, hb, hml, hown, hts⟩ (c_X5_thrown l G ma bd bd2 hMI nH nP hv2.1 hv2.2.1 dR τ σ2 (nI u) H.size) (cwV 0 hts gL_law_X5_thrown rfl rfl rfl (by decide +kernel) ⟨Nat.le_of_ble_eq_true rfl, Nat.le_of_ble_eq_true rfl⟩) ⟨PcM.blind, va_recv hK (va_P1 hM2.1) (ci := 5) (q0 := 0) rfl rfl, PcM.pre hM2 hK hN⟩ rfl rfl hl.1 rfl (lv_room (Nat.le_of_ble_eq_true rfl)) dL_law_1242 ⟨by show cells + 1 + 0 + 0 ≤ 601024; omega, by show slots + 6 + 0 + 0 ≤ 7293034; omega⟩) hS (fun q _ h => h.elim) (fun q h => h.elim) (fun H locs hM2 hz hk hS => ?_)
  have hW := hW.kept (fun q hq => hk q hq (fun h => h))
  have hO := hO.kept (hk _ hO.lt (fun h => h))
  have hM : MWz G ma bd bd2 (nI u) (wmx nH nP dR τ) z H := ⟨σ2, hM2, hz2⟩
  refine lv_iload hx hb dL_law_1245 (lv_at hl 1 rfl) ?_
  refine lv_icmp_eq (tgt := 1252) hx hb dL_law_1247 (by decide) (fun c => ?_) (fun c => absurd rfl c)
  refine lv_iload hx hb dL_law_1252 (lv_at hl 1 rfl) ?_
  refine lv_if_ne (tgt := 1269) hx hb dL_law_1254 (by decide) (fun c => ?_) (fun c => ?_)
  · skip
    refine lv_goto (tgt := 1327) hx hb dL_law_1269 (by decide) ?_
    refine W.widen (k := cells + 14) (n := slots + 124) (by omega) (by omega) ?_
    exact kk _ _ _ ⟨_, _, _, _, _, _, hv2, hd3, hW, hM, hO⟩ hS (lv_sub hl [2, 3, 4, 5, 6] rfl)
  · skip
    have hu0 : u = 0 := (nI_eq (a := u) (b := 0) (by omega) (by omega)).mp (by first | exact c | exact Decidable.not_not.mp c)
    refine lv_aload_n hx hb dL_law_1257 rfl (lv_at hl 5 rfl) ?_
    refine lv_iconst (v := 0) hx hb dL_law_1258 (by decide) ?_
    refine rO hx hb hKL hO dL_law_1259 ?_
    refine lv_iload hx hb dL_law_1260 (lv_at hl 0 rfl) ?_
    refine lv_i2l hx hb dL_law_1262 rfl ?_
    refine W.lcmp hx hb dL_law_1263 ?_
    refine lv_if_eq (tgt := 1269) hx hb dL_law_1264 (by decide) (fun c2 => ?_) (fun c2 => absurd (by rw [hd2 hu0, hr hu0]; exact lg_cmp_self) c2)
    refine lv_goto (tgt := 1327) hx hb dL_law_1269 (by decide) ?_
    refine W.widen (k := cells + 14) (n := slots + 124) (by omega) (by omega) ?_
    exact kk _ _ _ ⟨_, _, _, _, _, _, hv2, hd3, hW, hM, hO⟩ hS (lv_sub hl [2, 3, 4, 5, 6] rfl)
