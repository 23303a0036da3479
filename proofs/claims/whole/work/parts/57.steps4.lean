set_option maxHeartbeats 4000000 in
set_option maxRecDepth 100000 in
theorem st_daily {p : Program} {l : Launch} {e : Env} {s : State} {m : MethodId} {below : List Frame} {meth : Method} {c : Code} {b L : Nat} {xs : Nat → Int32} {G : wG} {cL : ClassId} {xa ma o9 pa : Nat} {ad ad2 bd bd2 : Nat → Nat} {Q : State → Prop} (CC : LwS p l s m c b L xs G cL xa ma o9 pa ad ad2 bd bd2) {j : Nat} (hj : 4 * j + 4 ≤ L) {H : Heap} {locs : List Loc} {cells slots : Nat} {ls : Array Slot} (hLI : LI G cL xa ma o9 ad ad2 bd bd2 j H) (hS : va_S (fun q : Nat => s.heap.size ≤ q) s.heap H locs) (hl : lv_has ls 9 [(0, .ref b), (1, .ref xa), (2, .ref ma), (3, .ref o9), (4, .int (nI (4 * j)))]) (hc : cells + 14 ≤ 601024) (hs : slots + 124 ≤ 7293034)
    (kk : ∀ (H1 : Heap) (locs1 : List Loc) (ls1 : Array Slot), LI G cL xa ma o9 ad ad2 bd bd2 (j + 1) H1 → va_S (fun q : Nat => s.heap.size ≤ q) s.heap H1 locs1 → lv_has ls1 9 [(0, .ref b), (1, .ref xa), (2, .ref ma), (3, .ref o9), (4, .int (nI (4 * j)))] → W p l e room_1 s m #[Value.ref b] below meth c H1 locs1 (cells + 14) (slots + 124) Q (F0 m 1327 ls1 [])) : W p l e room_1 s m #[Value.ref b] below meth c H locs cells slots Q (F0 m 1272 ls []) := by
  obtain ⟨hx, hb, hml, hown, hts, hX, hbl, hL, hfl, hKL, hXK, hNc, hN, hPL, hF⟩ := CC
  obtain ⟨nH, nP, τ, z, t, d, hv, hd, hW, hM, hO⟩ := hLI
  have hH := hv.1
  have hP := hv.2.1
  have hK := hKL.k
  have hbA : ¬ (fun q : Nat => s.heap.size ≤ q) b := Nat.not_le.mpr hbl
  have hXI := hF.1
  have hMI := hF.2.1
  have hoa := hF.oa
  refine lv_aload_n hx hb dL_law_1272 rfl (lv_at hl 1 rfl) ?_
  refine kD (va_runV (As := []) (rest := []) ⟨hx, hb, hml, hown, hts⟩ (c_X3_daily l G xa ad ad2 hXI nH nP hH hP dC τ z hv) (cwV 0 hts gL_law_X3_daily rfl rfl rfl (by decide +kernel) ⟨Nat.le_of_ble_eq_true rfl, Nat.le_of_ble_eq_true rfl⟩) ⟨Pc0.blind, va_recv hK (va_P1 hW.choose_spec.1.1) (ci := 3) (q0 := 0) rfl rfl, Pc0.pre hW hK⟩ rfl rfl hl.1 rfl (lv_room (Nat.le_of_ble_eq_true rfl)) dL_law_1273 ⟨by show cells + 0 ≤ 601024; omega, by show slots + 0 ≤ 7293034; omega⟩) hS (fun q _ h => hF.subV q h) hF.subV (fun H locs hW hz hk hS => ?_)
  have hM := hF.keepMV hM hk
  have hO := hF.keepOV hO hk
  refine lv_dstore (lv' := [(5, .double (dlyF nP τ)), (0, .ref b), (1, .ref xa), (2, .ref ma), (3, .ref o9), (4, .int (nI (4 * j)))]) hx hb dL_law_1276 hl (by decide) rfl (fun ls hl => ?_)
  refine lv_aload_n hx hb dL_law_1278 rfl (lv_at hl 3 rfl) ?_
  refine kD (va_runV (As := []) (rest := []) ⟨hx, hb, hml, hown, hts⟩ (c_X5_daily l G ma bd bd2 hMI nH nP hH hP dR τ z t H.size hv) (cwV 0 hts gL_law_X5_daily rfl rfl rfl (by decide +kernel) ⟨Nat.le_of_ble_eq_true rfl, Nat.le_of_ble_eq_true rfl⟩) ⟨PcM.blind, va_recv hK (va_P1 hM.choose_spec.1.1) (ci := 5) (q0 := 0) rfl rfl, PcM.pre hM hK hN⟩ rfl rfl hl.1 rfl (lv_room (Nat.le_of_ble_eq_true rfl)) dL_law_1279 ⟨by show cells + 0 + 0 ≤ 601024; omega, by show slots + 0 + 0 ≤ 7293034; omega⟩) hS (fun q _ h => hF.subM hS.1 q h) (hF.subM hS.1) (fun H locs hM hz hk hS => ?_)
  have hW := hF.keepX hW hk
  have hO := hF.keepO hO hk
  refine lv_dstore (lv' := [(7, .double (dlyF nP τ)), (5, .double (dlyF nP τ)), (0, .ref b), (1, .ref xa), (2, .ref ma), (3, .ref o9), (4, .int (nI (4 * j)))]) hx hb dL_law_1282 hl (by decide) rfl (fun ls hl => ?_)
  refine lv_dload hx hb dL_law_1284 (lv_at hl 1 rfl) ?_
  refine lv_dload hx hb dL_law_1286 (lv_at hl 0 rfl) ?_
  refine lv_dcmp hx hb dL_law_1288 ?_
  refine lv_if_eq (tgt := 1310) hx hb dL_law_1289 (by decide) (fun c => ?_) (fun c => ?_)
  · skip
    refine lv_goto (tgt := 1327) hx hb dL_law_1310 (by decide) ?_
    refine W.widen (k := cells + 14) (n := slots + 124) (by omega) (by omega) ?_
    exact kk _ _ _ ⟨_, _, _, _, _, _, hv, hd.mono (by omega), hW, hM, hO⟩ hS (lv_sub hl [2, 3, 4, 5, 6] rfl)
  · skip
    refine lv_dload hx hb dL_law_1292 (lv_at hl 1 rfl) ?_
    refine lv_dload hx hb dL_law_1294 (lv_at hl 1 rfl) ?_
    refine lv_dcmp hx hb dL_law_1296 ?_
    refine lv_if_eq (tgt := 1308) hx hb dL_law_1297 (by decide) (fun c2 => absurd c2 c) (fun c2 => ?_)
    refine lv_dload hx hb dL_law_1300 (lv_at hl 0 rfl) ?_
    refine lv_dload hx hb dL_law_1302 (lv_at hl 0 rfl) ?_
    refine lv_dcmp hx hb dL_law_1304 ?_
    refine lv_if_ne (tgt := 1310) hx hb dL_law_1305 (by decide) (fun c3 => ?_) (fun c3 => absurd (by first | exact c3 | exact Decidable.not_not.mp c3) c)
    refine lv_goto (tgt := 1327) hx hb dL_law_1310 (by decide) ?_
    refine W.widen (k := cells + 14) (n := slots + 124) (by omega) (by omega) ?_
    exact kk _ _ _ ⟨_, _, _, _, _, _, hv, hd.mono (by omega), hW, hM, hO⟩ hS (lv_sub hl [2, 3, 4, 5, 6] rfl)

set_option maxHeartbeats 4000000 in
set_option maxRecDepth 100000 in
theorem st_digest {p : Program} {l : Launch} {e : Env} {s : State} {m : MethodId} {below : List Frame} {meth : Method} {c : Code} {b L : Nat} {xs : Nat → Int32} {G : wG} {cL : ClassId} {xa ma o9 pa : Nat} {ad ad2 bd bd2 : Nat → Nat} {Q : State → Prop} (CC : LwS p l s m c b L xs G cL xa ma o9 pa ad ad2 bd bd2) {j : Nat} (hj : 4 * j + 4 ≤ L) {H : Heap} {locs : List Loc} {cells slots : Nat} {ls : Array Slot} (hLI : LI G cL xa ma o9 ad ad2 bd bd2 j H) (hS : va_S (fun q : Nat => s.heap.size ≤ q) s.heap H locs) (hl : lv_has ls 9 [(0, .ref b), (1, .ref xa), (2, .ref ma), (3, .ref o9), (4, .int (nI (4 * j)))]) (hc : cells + 14 ≤ 601024) (hs : slots + 124 ≤ 7293034)
    (kk : ∀ (H1 : Heap) (locs1 : List Loc) (ls1 : Array Slot), LI G cL xa ma o9 ad ad2 bd bd2 (j + 1) H1 → va_S (fun q : Nat => s.heap.size ≤ q) s.heap H1 locs1 → lv_has ls1 9 [(0, .ref b), (1, .ref xa), (2, .ref ma), (3, .ref o9), (4, .int (nI (4 * j)))] → W p l e room_1 s m #[Value.ref b] below meth c H1 locs1 (cells + 14) (slots + 124) Q (F0 m 1327 ls1 [])) : W p l e room_1 s m #[Value.ref b] below meth c H locs cells slots Q (F0 m 1313 ls []) := by
  obtain ⟨hx, hb, hml, hown, hts, hX, hbl, hL, hfl, hKL, hXK, hNc, hN, hPL, hF⟩ := CC
  obtain ⟨nH, nP, τ, z, t, d, hv, hd, hW, hM, hO⟩ := hLI
  have hH := hv.1
  have hP := hv.2.1
  have hK := hKL.k
  have hbA : ¬ (fun q : Nat => s.heap.size ≤ q) b := Nat.not_le.mpr hbl
  have hXI := hF.1
  have hMI := hF.2.1
  have hoa := hF.oa
  refine lv_aload_n hx hb dL_law_1313 rfl (lv_at hl 1 rfl) ?_
  refine kL (va_runV (As := []) (rest := []) ⟨hx, hb, hml, hown, hts⟩ (c_X3_digest l G xa ad ad2 hXI nH nP hH hP dC τ z hv) (cwV 0 hts gL_law_X3_digest rfl rfl rfl (by decide +kernel) ⟨Nat.le_of_ble_eq_true rfl, Nat.le_of_ble_eq_true rfl⟩) ⟨Pc0.blind, va_recv hK (va_P1 hW.choose_spec.1.1) (ci := 3) (q0 := 0) rfl rfl, Pc0.pre hW hK⟩ rfl rfl hl.1 rfl (lv_room (Nat.le_of_ble_eq_true rfl)) dL_law_1314 ⟨by show cells + 0 ≤ 601024; omega, by show slots + 0 ≤ 7293034; omega⟩) hS (fun q _ h => hF.subV q h) hF.subV (fun H locs hW hz hk hS => ?_)
  have hM := hF.keepMV hM hk
  have hO := hF.keepOV hO hk
  refine lv_aload_n hx hb dL_law_1317 rfl (lv_at hl 2 rfl) ?_
  refine kL (va_runV (As := []) (rest := [.long (dgF nH nP τ)]) ⟨hx, hb, hml, hown, hts⟩ (c_X5_digest l G ma bd bd2 hMI nH nP hH hP dR τ z t H.size pa hv) (cwV 0 hts gL_law_X5_digest rfl rfl rfl (by decide +kernel) ⟨Nat.le_of_ble_eq_true rfl, Nat.le_of_ble_eq_true rfl⟩) ⟨PcP.blind, va_recv hK (va_P1 hM.choose_spec.1.1) (ci := 5) (q0 := 0) rfl rfl, PcP.pre hM hK hN hPL hS (hF.subM hS.1)⟩ rfl rfl hl.1 rfl (lv_room (Nat.le_of_ble_eq_true rfl)) dL_law_1318 ⟨by show cells + 0 + 10 ≤ 601024; omega, by show slots + 0 + 100 ≤ 7293034; omega⟩) hS (fun q _ h => hF.subM hS.1 q h) (hF.subM hS.1) (fun H locs hM hz hk hS => ?_)
  have hW := hF.keepX hW hk
  have hO := hF.keepO hO hk
  refine W.lcmp hx hb dL_law_1321 ?_
  refine lv_if_eq (tgt := 1327) hx hb dL_law_1322 (by decide) (fun c => ?_) (fun c => absurd lg_cmp_self c)
  refine W.widen (k := cells + 14) (n := slots + 124) (by omega) (by omega) ?_
  exact kk _ _ _ ⟨_, _, _, _, _, _, hv, hd.mono (by omega), hW, hM, hO⟩ hS (lv_sub hl [0, 1, 2, 3, 4] rfl)

set_option maxHeartbeats 4000000 in
set_option maxRecDepth 100000 in
theorem law_step {p : Program} {l : Launch} {e : Env} {s : State} {m : MethodId} {below : List Frame} {meth : Method} {c : Code} {b L : Nat} {xs : Nat → Int32} {G : wG} {cL : ClassId} {xa ma o9 pa : Nat} {ad ad2 bd bd2 : Nat → Nat} {Q : State → Prop} (CC : LwS p l s m c b L xs G cL xa ma o9 pa ad ad2 bd bd2) {j : Nat} (hj : 4 * j + 4 ≤ L) {H : Heap} {locs : List Loc} {cells slots : Nat} {ls : Array Slot} (hLI : LI G cL xa ma o9 ad ad2 bd bd2 j H) (hS : va_S (fun q : Nat => s.heap.size ≤ q) s.heap H locs) (hl : lv_has ls 9 [(0, .ref b), (1, .ref xa), (2, .ref ma), (3, .ref o9), (4, .int (nI (4 * j)))]) (hc : cells + 14 ≤ 601024) (hs : slots + 124 ≤ 7293034)
    (kk : ∀ (H1 : Heap) (locs1 : List Loc) (ls1 : Array Slot), LI G cL xa ma o9 ad ad2 bd bd2 (j + 1) H1 → va_S (fun q : Nat => s.heap.size ≤ q) s.heap H1 locs1 → lv_has ls1 9 [(0, .ref b), (1, .ref xa), (2, .ref ma), (3, .ref o9), (4, .int (nI (4 * j)))] → W p l e room_1 s m #[Value.ref b] below meth c H1 locs1 (cells + 14) (slots + 124) Q (F0 m 1327 ls1 [])) : W p l e room_1 s m #[Value.ref b] below meth c H locs cells slots Q (F0 m 32 ls []) := by
  obtain ⟨hx, hb, hml, hown, hts, hX, hbl, hL, -⟩ := id CC
  have hbA : ¬ (fun q : Nat => s.heap.size ≤ q) b := Nat.not_le.mpr hbl
  refine lv_aload_n hx hb dL_law_32 rfl (lv_at hl 0 rfl) ?_
  refine lv_iload hx hb dL_law_33 (lv_at hl 4 rfl) ?_
  refine va_sld hx hb hX hbl hbA hS (vp_in_nI (show 4 * j < L by omega) (by omega)) dL_law_35 ?_
  rw [nI_clamp (show 4 * j < 2 ^ 31 by omega)]
  refine lv_bipush (v := 31) hx hb dL_law_36 (by decide) ?_
  refine lv_iand hx hb dL_law_38 ?_
  obtain ⟨k, hk, ek⟩ := pk_andE (xs (4 * j)) (m := 31) 5 (by decide)
  rw [ek]
  by_cases h18 : k ≤ 18
  · rcases (show k = 0 ∨ k = 1 ∨ k = 2 ∨ k = 3 ∨ k = 4 ∨ k = 5 ∨ k = 6 ∨ k = 7 ∨ k = 8 ∨ k = 9 ∨ k = 10 ∨ k = 11 ∨ k = 12 ∨ k = 13 ∨ k = 14 ∨ k = 15 ∨ k = 16 ∨ k = 17 ∨ k = 18 by omega) with rfl | rfl | rfl | rfl | rfl | rfl | rfl | rfl | rfl | rfl | rfl | rfl | rfl | rfl | rfl | rfl | rfl | rfl | rfl
    · refine lv_tableIn (off := 89) (tgt := 128) hx hb dL_law_39 (by decide) (by decide) rfl (by decide) ?_
      exact st_addHouse CC hj hLI hS hl hc hs kk
    · refine lv_tableIn (off := 169) (tgt := 208) hx hb dL_law_39 (by decide) (by decide) rfl (by decide) ?_
      exact st_addPump CC hj hLI hS hl hc hs kk
    · refine lv_tableIn (off := 237) (tgt := 276) hx hb dL_law_39 (by decide) (by decide) rfl (by decide) ?_
      exact st_lodge CC hj hLI hS hl hc hs kk
    · refine lv_tableIn (off := 305) (tgt := 344) hx hb dL_law_39 (by decide) (by decide) rfl (by decide) ?_
      exact st_prefer CC hj hLI hS hl hc hs kk
    · refine lv_tableIn (off := 373) (tgt := 412) hx hb dL_law_39 (by decide) (by decide) rfl (by decide) ?_
      exact st_leave CC hj hLI hS hl hc hs kk
    · refine lv_tableIn (off := 441) (tgt := 480) hx hb dL_law_39 (by decide) (by decide) rfl (by decide) ?_
      exact st_fine CC hj hLI hS hl hc hs kk
    · refine lv_tableIn (off := 509) (tgt := 548) hx hb dL_law_39 (by decide) (by decide) rfl (by decide) ?_
      exact st_enrol CC hj hLI hS hl hc hs kk
    · refine lv_tableIn (off := 577) (tgt := 616) hx hb dL_law_39 (by decide) (by decide) rfl (by decide) ?_
      exact st_change CC hj hLI hS hl hc hs kk
    · refine lv_tableIn (off := 657) (tgt := 696) hx hb dL_law_39 (by decide) (by decide) rfl (by decide) ?_
      exact st_roster CC hj hLI hS hl hc hs kk
    · refine lv_tableIn (off := 725) (tgt := 764) hx hb dL_law_39 (by decide) (by decide) rfl (by decide) ?_
      exact st_ahead CC hj hLI hS hl hc hs kk
    · refine lv_tableIn (off := 793) (tgt := 832) hx hb dL_law_39 (by decide) (by decide) rfl (by decide) ?_
      exact st_house CC hj hLI hS hl hc hs kk
    · refine lv_tableIn (off := 861) (tgt := 900) hx hb dL_law_39 (by decide) (by decide) rfl (by decide) ?_
      exact st_pump CC hj hLI hS hl hc hs kk
    · refine lv_tableIn (off := 929) (tgt := 968) hx hb dL_law_39 (by decide) (by decide) rfl (by decide) ?_
      exact st_pass CC hj hLI hS hl hc hs kk
    · refine lv_tableIn (off := 985) (tgt := 1024) hx hb dL_law_39 (by decide) (by decide) rfl (by decide) ?_
      exact st_count CC hj hLI hS hl hc hs kk
    · refine lv_tableIn (off := 1041) (tgt := 1080) hx hb dL_law_39 (by decide) (by decide) rfl (by decide) ?_
      exact st_foresee CC hj hLI hS hl hc hs kk
    · refine lv_tableIn (off := 1109) (tgt := 1148) hx hb dL_law_39 (by decide) (by decide) rfl (by decide) ?_
      exact st_advise CC hj hLI hS hl hc hs kk
    · refine lv_tableIn (off := 1177) (tgt := 1216) hx hb dL_law_39 (by decide) (by decide) rfl (by decide) ?_
      exact st_unfair CC hj hLI hS hl hc hs kk
    · refine lv_tableIn (off := 1233) (tgt := 1272) hx hb dL_law_39 (by decide) (by decide) rfl (by decide) ?_
      exact st_daily CC hj hLI hS hl hc hs kk
    · refine lv_tableIn (off := 1274) (tgt := 1313) hx hb dL_law_39 (by decide) (by decide) rfl (by decide) ?_
      exact st_digest CC hj hLI hS hl hc hs kk
  · refine lv_tableOut (tgt := 1327) hx hb dL_law_39 (by rcases (show k = 19 ∨ k = 20 ∨ k = 21 ∨ k = 22 ∨ k = 23 ∨ k = 24 ∨ k = 25 ∨ k = 26 ∨ k = 27 ∨ k = 28 ∨ k = 29 ∨ k = 30 ∨ k = 31 by omega) with rfl | rfl | rfl | rfl | rfl | rfl | rfl | rfl | rfl | rfl | rfl | rfl | rfl <;> decide) (by decide) ?_
    obtain ⟨nH, nP, τ, z, t, d, hv, hd, hW, hM, hO⟩ := hLI
    refine W.widen (k := cells + 14) (n := slots + 124) (by omega) (by omega) ?_
    exact kk _ _ _ ⟨_, _, _, _, _, _, hv, hd.mono (by omega), hW, hM, hO⟩ hS hl
