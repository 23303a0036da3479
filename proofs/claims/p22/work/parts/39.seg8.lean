set_option maxHeartbeats 4000000 in
set_option maxRecDepth 100000 in
theorem sg_H {p : Program} {l : Launch} {e : Env} {s : State} {m : MethodId} {below : List Frame} {meth : Method} {c : Code} {b L : Nat} {xs : Nat → Int32} {G : wG} {xa : Nat} {ad ad2 : Nat → Nat} {Q : State → Prop} (CC : LwS p l s m c b L xs G xa ad ad2) {nH nP d : Nat} {τ : wS} {time : Nat} {w18 : Int32} (hq : LQ nH nP d τ) (hd : d < 2 ^ 12) (f5 : w18 = sm (fun h => τ 28 h) nP) {H : Heap} {locs : List Loc} {cells slots : Nat} {ls : Array Slot} (hW : (∃ z, XWz G xa ad ad2 (wmx nH nP dC τ) z H)) (hS : va_S (fun q : Nat => s.heap.size ≤ q) s.heap H locs) (hl : lv_has ls 24 [(0, .ref b), (1, .ref xa), (2, .int (nI nH)), (3, .int (nI nP)), (4, .int (nI time)), (18, .int (sbF w18 (fun h => τ 7 h) nH)), (19, .int (sm (fun h => hftF nP τ h 10) nH)), (20, .int (sm (fun h => τ 3 h) nH))]) (hc : cells + 2 ≤ 702924) (hs : slots + 12 ≤ 6992697)
    (kk : ∀ (H1 : Heap) (locs1 : List Loc) (ls1 : Array Slot), (∃ z, XWz G xa ad ad2 (wmx nH nP dC τ) z H1) → va_S (fun q : Nat => s.heap.size ≤ q) s.heap H1 locs1 → lv_has ls1 24 [(0, .ref b), (1, .ref xa), (2, .int (nI nH)), (3, .int (nI nP)), (4, .int (nI (time + 1)))] → W p l e room_1 s m #[Value.ref b] below meth c H1 locs1 (cells + 2) (slots + 12) Q (F0 m 29 ls1 [])) : W p l e room_1 s m #[Value.ref b] below meth c H locs (cells) (slots) Q (F0 m 806 ls []) := by
  obtain ⟨hx, hb, hml, hown, hts, hX, hbl, hL, hfl, hK, hXK, hXI, hF, htab⟩ := CC
  have hv := hq.1
  have hH := hv.1
  have hP := hv.2.1
  have hbA : ¬ (fun q : Nat => s.heap.size ≤ q) b := Nat.not_le.mpr hbl
  have hsub : ∀ {n9 : Nat}, s.heap.size ≤ n9 → ∀ q, AX ad ad2 n9 q → s.heap.size ≤ q := fun h q hq => lw_sub hF h hq
  have hsubV : ∀ q, AV ad 19 q → s.heap.size ≤ q := fun q ⟨k, hk, e⟩ => by rw [e]; exact (hF k hk).1
  obtain ⟨z, hW⟩ := hW
  refine lv_iload hx hb dL_law_806 (lv_at hl 6 rfl) ?_
  refine lv_iload_n hx hb dL_law_808 rfl (lv_at hl 3 rfl) ?_
  refine lv_icmp_gt (tgt := 844) hx hb dL_law_809 (by decide) (fun c9 => absurd c9 (keys_le hv)) (fun c9 => ?_)
  refine lv_iload hx hb dL_law_812 (lv_at hl 7 rfl) ?_
  refine lv_aload_n hx hb dL_law_814 rfl (lv_at hl 1 rfl) ?_
  refine lv_iconst (v := nI 4) hx hb dL_law_815 (by decide) ?_
  refine kXi (vx_runV (As := [.int (nI 4)]) (rest := [.int (sm (fun h => τ 3 h) nH)]) ⟨hx, hb, hml, hown, hts⟩ (c_X3_count l hfl G xa ad ad2 hXI nH nP hH hP dC τ z H.size (nI 4) hv) (cwV 1 hts gL_law_X3_count rfl rfl rfl (by decide +kernel) ⟨Nat.le_of_ble_eq_true rfl, Nat.le_of_ble_eq_true rfl⟩) ⟨Pc3.blind, va_recv hK (va_P1 hW.choose_spec.1.1) (ci := 3) (q0 := 0) rfl rfl, Pc3.pre hW hK hXK hS (hsub hS.1)⟩ rfl rfl hl.1 rfl (lv_room (Nat.le_of_ble_eq_true rfl)) dL_law_816 ⟨by show cells + 1 ≤ 702924; omega, by show slots + 6 ≤ 6992697; omega⟩) hS (hsub hS.1) (hsub hS.1) (hsub hS.1) (fun E ce q9 H locs hE hBX hk9 hS hc9 hv9 hcl => ?_) (fun H locs ok hW hk9 hS => ?_)
  · skip
    exact absurd (inn_of (lo := 0) (hi := 9) (by omega) (show 4 ≤ 9 by omega) (by omega)) hE.2
  · skip
    refine lv_topi (fun y0 ey0 => ?_)
    obtain rfl : y0 = sm (fun h => τ 3 h) nH := ey0.trans rfl
    refine lv_icmp_ne (tgt := 844) hx hb dL_law_819 (by decide) (fun c9 => absurd c9 (fun w => w rfl)) (fun c9 => ?_)
    refine lv_iload hx hb dL_law_822 (lv_at hl 5 rfl) ?_
    refine lv_if_ne (tgt := 844) hx hb dL_law_824 (by decide) (fun c9 => absurd c9 (fun w => w (by rw [sbF_eq, f5, hq.2.2.2.2.2.2.1]; exact Int32.sub_self _))) (fun c9 => ?_)
    refine lv_aload_n hx hb dL_law_827 rfl (lv_at hl 1 rfl) ?_
    refine lv_iconst (v := nI 3) hx hb dL_law_828 (by decide) ?_
    refine kXi (vx_runV (As := [.int (nI 3)]) (rest := []) ⟨hx, hb, hml, hown, hts⟩ (c_X3_count l hfl G xa ad ad2 hXI nH nP hH hP dC τ z H.size (nI 3) hv) (cwV 1 hts gL_law_X3_count rfl rfl rfl (by decide +kernel) ⟨Nat.le_of_ble_eq_true rfl, Nat.le_of_ble_eq_true rfl⟩) ⟨Pc3.blind, va_recv hK (va_P1 hW.choose_spec.1.1) (ci := 3) (q0 := 0) rfl rfl, Pc3.pre hW hK hXK hS (hsub hS.1)⟩ rfl rfl hl.1 rfl (lv_room (Nat.le_of_ble_eq_true rfl)) dL_law_829 ⟨by show cells + 1 + 1 ≤ 702924; omega, by show slots + 6 + 6 ≤ 6992697; omega⟩) hS (hsub hS.1) (hsub hS.1) (hsub hS.1) (fun E ce q9 H locs hE hBX hk9 hS hc9 hv9 hcl => ?_) (fun H locs ok hW hk9 hS => ?_)
    · skip
      exact absurd (inn_of (lo := 0) (hi := 9) (by omega) (show 3 ≤ 9 by omega) (by omega)) hE.2
    · skip
      refine lv_topi (fun y1 ey1 => ?_)
      obtain rfl : y1 = τ 53 0 := ey1.trans rfl
      refine lv_if_lt (tgt := 844) hx hb dL_law_832 (by decide) (fun c9 => absurd c9 (chest_pos hq (by omega))) (fun c9 => ?_)
      refine lv_aload_n hx hb dL_law_835 rfl (lv_at hl 1 rfl) ?_
      refine kD (va_runV (As := []) (rest := []) ⟨hx, hb, hml, hown, hts⟩ (c_X3_daily l G xa ad ad2 hXI nH nP hH hP dC τ z hv) (cwV 0 hts gL_law_X3_daily rfl rfl rfl (by decide +kernel) ⟨Nat.le_of_ble_eq_true rfl, Nat.le_of_ble_eq_true rfl⟩) ⟨Pc0.blind, va_recv hK (va_P1 hW.choose_spec.1.1) (ci := 3) (q0 := 0) rfl rfl, Pc0.pre hW hK⟩ rfl rfl hl.1 rfl (lv_room (Nat.le_of_ble_eq_true rfl)) dL_law_836 ⟨by show cells + 1 + 1 + 0 ≤ 702924; omega, by show slots + 6 + 6 + 0 ≤ 6992697; omega⟩) hS (fun q _ h => hsubV q h) hsubV (fun H locs hW hz hk hS => ?_)
      refine lv_dconst0 hx hb dL_law_839 ?_
      refine lv_dcmp hx hb dL_law_840 ?_
      refine lv_if_ge (tgt := 846) hx hb dL_law_841 (by decide) (fun c9 => ?_) (fun c9 => absurd (daily_pos hq (by omega)) c9)
      refine lv_iinc (k := 4) (v := nI (time + 1)) (lv' := [(4, .int (nI (time + 1))), (0, .ref b), (1, .ref xa), (2, .int (nI nH)), (3, .int (nI nP)), (18, .int (sbF w18 (fun h => τ 7 h) nH)), (19, .int (sm (fun h => hftF nP τ h 10) nH)), (20, .int (sm (fun h => τ 3 h) nH))]) hx hb dL_law_846 hl rfl (nI_add time 1) (by decide) rfl (fun ls hl => ?_)
      refine lv_goto (tgt := 29) hx hb dL_law_849 (by decide) ?_
      refine W.widen (k := cells + 2) (n := slots + 12) (by omega) (by omega) ?_
      exact kk _ _ _ ⟨_, hW⟩ hS (lv_sub hl [1, 2, 3, 4, 0] rfl)
