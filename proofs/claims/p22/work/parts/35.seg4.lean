set_option maxHeartbeats 4000000 in
set_option maxRecDepth 100000 in
theorem sg_D {p : Program} {l : Launch} {e : Env} {s : State} {m : MethodId} {below : List Frame} {meth : Method} {c : Code} {b L : Nat} {xs : Nat → Int32} {G : wG} {xa : Nat} {ad ad2 : Nat → Nat} {Q : State → Prop} (CC : LwS p l s m c b L xs G xa ad ad2) {nH nP d : Nat} {τ : wS} {time hh dd : Nat} {x5 w10 w11 w12 w13 w14 : Int32} (hq : LQ nH nP d τ) (hd1 : 1 ≤ dd) (hd3 : dd ≤ 3) {H : Heap} {locs : List Loc} {cells slots : Nat} {ls : Array Slot} (hW : (∃ z, XWz G xa ad ad2 (wmx nH nP dC τ) z H)) (hS : va_S (fun q : Nat => s.heap.size ≤ q) s.heap H locs) (hl : lv_has ls 24 [(0, .ref b), (1, .ref xa), (2, .int (nI nH)), (3, .int (nI nP)), (4, .int (nI time)), (5, .int x5), (6, .int (nI hh)), (7, .int (nI dd)), (10, .int w10), (11, .int w11), (12, .int w12), (13, .int w13), (14, .int w14)]) (hc : cells + 2 ≤ 702924) (hs : slots + 12 ≤ 6992697)
    (kk : ∀ (H1 : Heap) (locs1 : List Loc) (ls1 : Array Slot), (∃ z, XWz G xa ad ad2 (wmx nH nP dC (dysF nH nP dd τ)) z H1) → va_S (fun q : Nat => s.heap.size ≤ q) s.heap H1 locs1 → lv_has ls1 24 [(0, .ref b), (1, .ref xa), (2, .int (nI nH)), (3, .int (nI nP)), (4, .int (nI time)), (5, .int x5), (6, .int (nI hh)), (7, .int (nI dd)), (10, .int w10), (11, .int w11), (12, .int w12), (13, .int w13), (14, .int w14), (15, .int (sm (fun h => τ 8 h) nH)), (16, .int (sm (fun h => dysF nH nP dd τ 29 h) nP - sm (fun h => τ 29 h) nP))] → W p l e room_1 s m #[Value.ref b] below meth c H1 locs1 (cells + 2) (slots + 12) Q (F0 m 391 ls1 [])) : W p l e room_1 s m #[Value.ref b] below meth c H locs (cells) (slots) Q (F0 m 375 ls []) := by
  obtain ⟨hx, hb, hml, hown, hts, hX, hbl, hL, hfl, hK, hXK, hXI, hF, htab⟩ := CC
  have hv := hq.1
  have hH := hv.1
  have hP := hv.2.1
  have hbA : ¬ (fun q : Nat => s.heap.size ≤ q) b := Nat.not_le.mpr hbl
  have hsub : ∀ {n9 : Nat}, s.heap.size ≤ n9 → ∀ q, AX ad ad2 n9 q → s.heap.size ≤ q := fun h q hq => lw_sub hF h hq
  have hsubV : ∀ q, AV ad 19 q → s.heap.size ≤ q := fun q ⟨k, hk, e⟩ => by rw [e]; exact (hF k hk).1
  obtain ⟨z, hW⟩ := hW
  refine lv_aload_n hx hb dL_law_375 rfl (lv_at hl 1 rfl) ?_
  refine lv_bipush (v := nI 7) hx hb dL_law_376 (by decide) ?_
  refine kXi (vx_runV (As := [.int (nI 7)]) (rest := []) ⟨hx, hb, hml, hown, hts⟩ (c_X3_count l hfl G xa ad ad2 hXI nH nP hH hP dC τ z H.size (nI 7) hv) (cwV 1 hts gL_law_X3_count rfl rfl rfl (by decide +kernel) ⟨Nat.le_of_ble_eq_true rfl, Nat.le_of_ble_eq_true rfl⟩) ⟨Pc3.blind, va_recv hK (va_P1 hW.choose_spec.1.1) (ci := 3) (q0 := 0) rfl rfl, Pc3.pre hW hK hXK hS (hsub hS.1)⟩ rfl rfl hl.1 rfl (lv_room (Nat.le_of_ble_eq_true rfl)) dL_law_378 ⟨by show cells + 1 ≤ 702924; omega, by show slots + 6 ≤ 6992697; omega⟩) hS (hsub hS.1) (hsub hS.1) (hsub hS.1) (fun E ce q9 H locs hE hBX hk9 hS hc9 hv9 hcl => ?_) (fun H locs ok hW hk9 hS => ?_)
  · skip
    exact absurd (inn_of (lo := 0) (hi := 9) (by omega) (show 7 ≤ 9 by omega) (by omega)) hE.2
  · skip
    refine lv_topi (fun y0 ey0 => ?_)
    obtain rfl : y0 = sm (fun h => τ 8 h) nH := ey0.trans rfl
    refine lv_istore (lv' := [(15, .int (sm (fun h => τ 8 h) nH)), (0, .ref b), (1, .ref xa), (2, .int (nI nH)), (3, .int (nI nP)), (4, .int (nI time)), (5, .int x5), (6, .int (nI hh)), (7, .int (nI dd)), (10, .int w10), (11, .int w11), (12, .int w12), (13, .int w13), (14, .int w14)]) hx hb dL_law_381 hl (by decide) rfl (fun ls hl => ?_)
    refine lv_aload_n hx hb dL_law_383 rfl (lv_at hl 2 rfl) ?_
    refine lv_iload hx hb dL_law_384 (lv_at hl 8 rfl) ?_
    refine kXi (vx_runV (As := [.int (nI dd)]) (rest := []) ⟨hx, hb, hml, hown, hts⟩ (c_X3_pass l hfl G xa ad ad2 hXI nH nP hH hP dC τ z H.size (nI dd) hv) (cwV 1 hts gL_law_X3_pass rfl rfl rfl (by decide +kernel) ⟨Nat.le_of_ble_eq_true rfl, Nat.le_of_ble_eq_true rfl⟩) ⟨Pc3.blind, va_recv hK (va_P1 hW.choose_spec.1.1) (ci := 3) (q0 := 0) rfl rfl, Pc3.pre hW hK hXK hS (hsub hS.1)⟩ rfl rfl hl.1 rfl (lv_room (Nat.le_of_ble_eq_true rfl)) dL_law_386 ⟨by show cells + 1 + 1 ≤ 702924; omega, by show slots + 6 + 6 ≤ 6992697; omega⟩) hS (hsub hS.1) (hsub hS.1) (hsub hS.1) (fun E ce q9 H locs hE hBX hk9 hS hc9 hv9 hcl => ?_) (fun H locs ok hW hk9 hS => ?_)
    · skip
      exact absurd (inn_of (lo := 1) (hi := 100) (by omega) (show dd ≤ 100 by omega) (by omega)) hE.2
    · skip
      refine lv_topi (fun y1 ey1 => ?_)
      obtain rfl : y1 = sm (fun h => dysF nH nP dd τ 29 h) nP - sm (fun h => τ 29 h) nP := ey1.trans (by rw [show cl (nI dd) = dd from nI_clamp (by omega)])
      rw [show cl (nI dd) = dd from nI_clamp (by omega)] at hW
      refine lv_istore (lv' := [(16, .int (sm (fun h => dysF nH nP dd τ 29 h) nP - sm (fun h => τ 29 h) nP)), (15, .int (sm (fun h => τ 8 h) nH)), (0, .ref b), (1, .ref xa), (2, .int (nI nH)), (3, .int (nI nP)), (4, .int (nI time)), (5, .int x5), (6, .int (nI hh)), (7, .int (nI dd)), (10, .int w10), (11, .int w11), (12, .int w12), (13, .int w13), (14, .int w14)]) hx hb dL_law_389 hl (by decide) rfl (fun ls hl => ?_)
      refine W.widen (k := cells + 2) (n := slots + 12) (by omega) (by omega) ?_
      exact kk _ _ _ ⟨_, hW⟩ hS (lv_sub hl [2, 3, 4, 5, 6, 7, 8, 9, 10, 11, 12, 13, 14, 1, 0] rfl)
