set_option maxHeartbeats 4000000 in
set_option maxRecDepth 100000 in
theorem sg_F {p : Program} {l : Launch} {e : Env} {s : State} {m : MethodId} {below : List Frame} {meth : Method} {c : Code} {b L : Nat} {xs : Nat → Int32} {G : wG} {xa : Nat} {ad ad2 : Nat → Nat} {Q : State → Prop} (CC : LwS p l s m c b L xs G xa ad ad2) {nH nP d : Nat} {τ : wS} {time hh dd : Nat} {x5 w10 w11 w12 w13 w14 w15 w16 w17 w18 : Int32} (hq : LQ nH nP d τ) (f1 : w16 = w13) (f2 : ¬ w12 + w14 - w16 < w17) (f3 : sm (fun h => τ 8 h) nH = w15 + w10) (f4 : τ 53 0 = w11) {H : Heap} {locs : List Loc} {cells slots : Nat} {ls : Array Slot} (hW : (∃ z, XWz G xa ad ad2 (wmx nH nP dC τ) z H)) (hS : va_S (fun q : Nat => s.heap.size ≤ q) s.heap H locs) (hl : lv_has ls 24 [(0, .ref b), (1, .ref xa), (2, .int (nI nH)), (3, .int (nI nP)), (4, .int (nI time)), (5, .int x5), (6, .int (nI hh)), (7, .int (nI dd)), (10, .int w10), (11, .int w11), (12, .int w12), (13, .int w13), (14, .int w14), (15, .int w15), (16, .int w16), (17, .int w17), (18, .int w18)]) (hc : cells + 2 ≤ 702924) (hs : slots + 12 ≤ 6992697)
    (kk : ∀ (H1 : Heap) (locs1 : List Loc) (ls1 : Array Slot), (∃ z, XWz G xa ad ad2 (wmx nH nP dC τ) z H1) → va_S (fun q : Nat => s.heap.size ≤ q) s.heap H1 locs1 → lv_has ls1 24 [(0, .ref b), (1, .ref xa), (2, .int (nI nH)), (3, .int (nI nP)), (4, .int (nI time)), (18, .int w18)] → W p l e room_1 s m #[Value.ref b] below meth c H1 locs1 (cells + 2) (slots + 12) Q (F0 m 681 ls1 [])) : W p l e room_1 s m #[Value.ref b] below meth c H locs (cells) (slots) Q (F0 m 635 ls []) := by
  obtain ⟨hx, hb, hml, hown, hts, hX, hbl, hL, hfl, hK, hXK, hXI, hF, htab⟩ := CC
  have hv := hq.1
  have hH := hv.1
  have hP := hv.2.1
  have hbA : ¬ (fun q : Nat => s.heap.size ≤ q) b := Nat.not_le.mpr hbl
  have hsub : ∀ {n9 : Nat}, s.heap.size ≤ n9 → ∀ q, AX ad ad2 n9 q → s.heap.size ≤ q := fun h q hq => lw_sub hF h hq
  have hsubV : ∀ q, AV ad 19 q → s.heap.size ≤ q := fun q ⟨k, hk, e⟩ => by rw [e]; exact (hF k hk).1
  obtain ⟨z, hW⟩ := hW
  refine lv_iload hx hb dL_law_635 (lv_at hl 14 rfl) ?_
  refine lv_iload hx hb dL_law_637 (lv_at hl 11 rfl) ?_
  refine lv_icmp_ne (tgt := 679) hx hb dL_law_639 (by decide) (fun c9 => absurd c9 (fun w => w f1)) (fun c9 => ?_)
  refine lv_iload hx hb dL_law_642 (lv_at hl 15 rfl) ?_
  refine lv_iload hx hb dL_law_644 (lv_at hl 10 rfl) ?_
  refine lv_iload hx hb dL_law_646 (lv_at hl 12 rfl) ?_
  refine lv_iadd hx hb dL_law_648 ?_
  refine lv_iload hx hb dL_law_649 (lv_at hl 14 rfl) ?_
  refine lv_isub hx hb dL_law_651 ?_
  refine lv_icmp_gt (tgt := 679) hx hb dL_law_652 (by decide) (fun c9 => absurd c9 f2) (fun c9 => ?_)
  refine lv_aload_n hx hb dL_law_655 rfl (lv_at hl 1 rfl) ?_
  refine lv_bipush (v := nI 7) hx hb dL_law_656 (by decide) ?_
  refine kXi (vx_runV (As := [.int (nI 7)]) (rest := []) ⟨hx, hb, hml, hown, hts⟩ (c_X3_count l hfl G xa ad ad2 hXI nH nP hH hP dC τ z H.size (nI 7) hv) (cwV 1 hts gL_law_X3_count rfl rfl rfl (by decide +kernel) ⟨Nat.le_of_ble_eq_true rfl, Nat.le_of_ble_eq_true rfl⟩) ⟨Pc3.blind, va_recv hK (va_P1 hW.choose_spec.1.1) (ci := 3) (q0 := 0) rfl rfl, Pc3.pre hW hK hXK hS (hsub hS.1)⟩ rfl rfl hl.1 rfl (lv_room (Nat.le_of_ble_eq_true rfl)) dL_law_658 ⟨by show cells + 1 ≤ 702924; omega, by show slots + 6 ≤ 6992697; omega⟩) hS (hsub hS.1) (hsub hS.1) (hsub hS.1) (fun E ce q9 H locs hE hBX hk9 hS hc9 hv9 hcl => ?_) (fun H locs ok hW hk9 hS => ?_)
  · skip
    exact absurd (inn_of (lo := 0) (hi := 9) (by omega) (show 7 ≤ 9 by omega) (by omega)) hE.2
  · skip
    refine lv_topi (fun y0 ey0 => ?_)
    obtain rfl : y0 = sm (fun h => τ 8 h) nH := ey0.trans rfl
    refine lv_iload hx hb dL_law_661 (lv_at hl 13 rfl) ?_
    refine lv_iload hx hb dL_law_663 (lv_at hl 8 rfl) ?_
    refine lv_iadd hx hb dL_law_665 ?_
    refine lv_icmp_ne (tgt := 679) hx hb dL_law_666 (by decide) (fun c9 => absurd c9 (fun w => w f3)) (fun c9 => ?_)
    refine lv_aload_n hx hb dL_law_669 rfl (lv_at hl 1 rfl) ?_
    refine lv_iconst (v := nI 3) hx hb dL_law_670 (by decide) ?_
    refine kXi (vx_runV (As := [.int (nI 3)]) (rest := []) ⟨hx, hb, hml, hown, hts⟩ (c_X3_count l hfl G xa ad ad2 hXI nH nP hH hP dC τ z H.size (nI 3) hv) (cwV 1 hts gL_law_X3_count rfl rfl rfl (by decide +kernel) ⟨Nat.le_of_ble_eq_true rfl, Nat.le_of_ble_eq_true rfl⟩) ⟨Pc3.blind, va_recv hK (va_P1 hW.choose_spec.1.1) (ci := 3) (q0 := 0) rfl rfl, Pc3.pre hW hK hXK hS (hsub hS.1)⟩ rfl rfl hl.1 rfl (lv_room (Nat.le_of_ble_eq_true rfl)) dL_law_671 ⟨by show cells + 1 + 1 ≤ 702924; omega, by show slots + 6 + 6 ≤ 6992697; omega⟩) hS (hsub hS.1) (hsub hS.1) (hsub hS.1) (fun E ce q9 H locs hE hBX hk9 hS hc9 hv9 hcl => ?_) (fun H locs ok hW hk9 hS => ?_)
    · skip
      exact absurd (inn_of (lo := 0) (hi := 9) (by omega) (show 3 ≤ 9 by omega) (by omega)) hE.2
    · skip
      refine lv_topi (fun y1 ey1 => ?_)
      obtain rfl : y1 = τ 53 0 := ey1.trans rfl
      refine lv_iload hx hb dL_law_674 (lv_at hl 9 rfl) ?_
      refine lv_icmp_eq (tgt := 681) hx hb dL_law_676 (by decide) (fun c9 => ?_) (fun c9 => absurd f4 c9)
      refine W.widen (k := cells + 2) (n := slots + 12) (by omega) (by omega) ?_
      exact kk _ _ _ ⟨_, hW⟩ hS (lv_sub hl [0, 1, 2, 3, 4, 16] rfl)
