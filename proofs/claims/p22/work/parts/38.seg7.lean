set_option maxHeartbeats 4000000 in
set_option maxRecDepth 100000 in
theorem sg_G {p : Program} {l : Launch} {e : Env} {s : State} {m : MethodId} {below : List Frame} {meth : Method} {c : Code} {b L : Nat} {xs : Nat → Int32} {G : wG} {xa : Nat} {ad ad2 : Nat → Nat} {Q : State → Prop} (CC : LwS p l s m c b L xs G xa ad ad2) {nH nP d : Nat} {τ : wS} {time : Nat} {w18 : Int32} (hq : LQ nH nP d τ) (hd : d < 2 ^ 12) {H : Heap} {locs : List Loc} {cells slots : Nat} {ls : Array Slot} (hW : (∃ z, XWz G xa ad ad2 (wmx nH nP dC τ) z H)) (hS : va_S (fun q : Nat => s.heap.size ≤ q) s.heap H locs) (hl : lv_has ls 24 [(0, .ref b), (1, .ref xa), (2, .int (nI nH)), (3, .int (nI nP)), (4, .int (nI time)), (18, .int w18)]) (hc : cells + 180 ≤ 702924) (hs : slots + 1080 ≤ 6992697)
    (kk : ∀ (H1 : Heap) (locs1 : List Loc) (ls1 : Array Slot), (∃ z, XWz G xa ad ad2 (wmx nH nP dC τ) z H1) → va_S (fun q : Nat => s.heap.size ≤ q) s.heap H1 locs1 → lv_has ls1 24 [(0, .ref b), (1, .ref xa), (2, .int (nI nH)), (3, .int (nI nP)), (4, .int (nI time)), (18, .int (sbF w18 (fun h => τ 7 h) nH)), (19, .int (sm (fun h => hftF nP τ h 10) nH)), (20, .int (sm (fun h => τ 3 h) nH))] → W p l e room_1 s m #[Value.ref b] below meth c H1 locs1 (cells + 180) (slots + 1080) Q (F0 m 806 ls1 [])) : W p l e room_1 s m #[Value.ref b] below meth c H locs (cells) (slots) Q (F0 m 681 ls []) := by
  obtain ⟨hx, hb, hml, hown, hts, hX, hbl, hL, hfl, hK, hXK, hXI, hF, htab⟩ := CC
  have hv := hq.1
  have hH := hv.1
  have hP := hv.2.1
  have hbA : ¬ (fun q : Nat => s.heap.size ≤ q) b := Nat.not_le.mpr hbl
  have hsub : ∀ {n9 : Nat}, s.heap.size ≤ n9 → ∀ q, AX ad ad2 n9 q → s.heap.size ≤ q := fun h q hq => lw_sub hF h hq
  have hsubV : ∀ q, AV ad 19 q → s.heap.size ≤ q := fun q ⟨k, hk, e⟩ => by rw [e]; exact (hF k hk).1
  obtain ⟨z, hW⟩ := hW
  refine lv_iconst (v := sm (fun h => hftF nP τ h 10) 0) hx hb dL_law_681 rfl ?_
  refine lv_istore (lv' := [(19, .int (sm (fun h => hftF nP τ h 10) 0)), (0, .ref b), (1, .ref xa), (2, .int (nI nH)), (3, .int (nI nP)), (4, .int (nI time)), (18, .int w18)]) hx hb dL_law_682 hl (by decide) rfl (fun ls hl => ?_)
  refine lv_iconst (v := sm (fun h => τ 3 h) 0) hx hb dL_law_684 rfl ?_
  refine lv_istore (lv' := [(20, .int (sm (fun h => τ 3 h) 0)), (19, .int (sm (fun h => hftF nP τ h 10) 0)), (0, .ref b), (1, .ref xa), (2, .int (nI nH)), (3, .int (nI nP)), (4, .int (nI time)), (18, .int w18)]) hx hb dL_law_685 hl (by decide) rfl (fun ls hl => ?_)
  refine lv_iconst (v := nI 0) hx hb dL_law_687 (by decide) ?_
  refine lv_istore (lv' := [(21, .int (nI 0)), (20, .int (sm (fun h => τ 3 h) 0)), (19, .int (sm (fun h => hftF nP τ h 10) 0)), (0, .ref b), (1, .ref xa), (2, .int (nI nH)), (3, .int (nI nP)), (4, .int (nI time)), (18, .int w18)]) hx hb dL_law_688 hl (by decide) rfl (fun ls hl => ?_)
  refine W.widen (k := cells + 0 * 18) (n := slots + 0 * 108) (by omega) (by omega) ?_
  refine W_upc (pc := 690) (cells := cells) (slots := slots) 18 108 nH (fun i H locs ls => (∃ z, XWz G xa ad ad2 (wmx nH nP dC τ) z H) ∧ va_S (fun q : Nat => s.heap.size ≤ q) s.heap H locs ∧ lv_has ls 24 [(0, .ref b), (1, .ref xa), (2, .int (nI nH)), (3, .int (nI nP)), (4, .int (nI time)), (18, .int (sbF w18 (fun h => τ 7 h) i)), (19, .int (sm (fun h => hftF nP τ h 10) i)), (20, .int (sm (fun h => τ 3 h) i)), (21, .int (nI i))]) ?_ 0 (Nat.zero_le _) _ _ _ ⟨⟨z, hW⟩, hS, lv_sub hl [3, 4, 5, 6, 7, 8, 2, 1, 0] rfl⟩
  intro i H locs ls hi ⟨⟨z, hW⟩, hS, hl⟩ ih
  refine lv_iload hx hb dL_law_690 (lv_at hl 8 rfl) ?_
  refine lv_iload_n hx hb dL_law_692 rfl (lv_at hl 2 rfl) ?_
  refine lv_icmp_ge (tgt := 806) hx hb dL_law_693 (by decide) (fun c => ?_) (fun c => ?_)
  · skip
    replace c := (nI_leI (a := nH) (b := i) (by omega) (by omega)).mp c
    obtain rfl : nH = i := by omega
    refine W.widen (k := cells + 180) (n := slots + 1080) (by omega) (by omega) ?_
    exact kk _ _ _ ⟨z, hW⟩ hS (lv_sub hl [0, 1, 2, 3, 4, 5, 6, 7] rfl)
  · skip
    replace c : ¬ (nH ≤ i) := fun q => c ((nI_leI (a := nH) (b := i) (by omega) (by omega)).mpr q)
    obtain ⟨-, ⟨ka, hka, e6⟩, -, ⟨km, hkm, e4⟩⟩ := hv.2.2.2.2.1 i (show i < nH by omega)
    refine lv_iload hx hb dL_law_696 (lv_at hl 6 rfl) ?_
    refine lv_aload_n hx hb dL_law_698 rfl (lv_at hl 1 rfl) ?_
    refine lv_iload hx hb dL_law_699 (lv_at hl 8 rfl) ?_
    refine lv_bipush (v := nI 10) hx hb dL_law_701 (by decide) ?_
    refine kXi (vx_runV (As := [.int (nI i), .int (nI 10)]) (rest := [.int (sm (fun h => hftF nP τ h 10) i)]) ⟨hx, hb, hml, hown, hts⟩ (c_X3_house l hfl G xa ad ad2 hXI nH nP hH hP dC τ z H.size (nI i) (nI 10) hv) (cwV 2 hts gL_law_X3_house rfl rfl rfl (by decide +kernel) ⟨Nat.le_of_ble_eq_true rfl, Nat.le_of_ble_eq_true rfl⟩) ⟨Pc3.blind, va_recv hK (va_P1 hW.choose_spec.1.1) (ci := 3) (q0 := 0) rfl rfl, Pc3.pre hW hK hXK hS (hsub hS.1)⟩ rfl rfl hl.1 rfl (lv_room (Nat.le_of_ble_eq_true rfl)) dL_law_703 ⟨by show cells + i * 18 + 2 ≤ 702924; omega, by show slots + i * 108 + 12 ≤ 6992697; omega⟩) hS (hsub hS.1) (hsub hS.1) (hsub hS.1) (fun E ce q9 H locs hE hBX hk9 hS hc9 hv9 hcl => ?_) (fun H locs ok hW hk9 hS => ?_)
    · skip
      rcases hE with t | t
      · exact absurd (hOk_of (show i < nH by omega) hH) t.2
      · exact absurd (inn_of (lo := 0) (hi := 10) (by omega) (show 10 ≤ 10 by omega) (by omega)) t.2.2
    · skip
      refine lv_topi (fun y0 ey0 => ?_)
      obtain rfl : y0 = hftF nP τ i 10 := ey0.trans (by rw [show cl (nI i) = i from nI_clamp (by omega)]; rfl)
      refine lv_iadd hx hb dL_law_706 ?_
      refine lv_topi (fun y1 ey1 => ?_)
      obtain rfl : y1 = sm (fun h => hftF nP τ h 10) (i + 1) := ey1.trans rfl
      refine lv_istore (lv' := [(19, .int (sm (fun h => hftF nP τ h 10) (i + 1))), (0, .ref b), (1, .ref xa), (2, .int (nI nH)), (3, .int (nI nP)), (4, .int (nI time)), (18, .int (sbF w18 (fun h => τ 7 h) i)), (20, .int (sm (fun h => τ 3 h) i)), (21, .int (nI i))]) hx hb dL_law_707 hl (by decide) rfl (fun ls hl => ?_)
      refine lv_iload hx hb dL_law_709 (lv_at hl 7 rfl) ?_
      refine lv_aload_n hx hb dL_law_711 rfl (lv_at hl 2 rfl) ?_
      refine lv_iload hx hb dL_law_712 (lv_at hl 8 rfl) ?_
      refine lv_iconst (v := nI 2) hx hb dL_law_714 (by decide) ?_
      refine kXi (vx_runV (As := [.int (nI i), .int (nI 2)]) (rest := [.int (sm (fun h => τ 3 h) i)]) ⟨hx, hb, hml, hown, hts⟩ (c_X3_house l hfl G xa ad ad2 hXI nH nP hH hP dC τ z H.size (nI i) (nI 2) hv) (cwV 2 hts gL_law_X3_house rfl rfl rfl (by decide +kernel) ⟨Nat.le_of_ble_eq_true rfl, Nat.le_of_ble_eq_true rfl⟩) ⟨Pc3.blind, va_recv hK (va_P1 hW.choose_spec.1.1) (ci := 3) (q0 := 0) rfl rfl, Pc3.pre hW hK hXK hS (hsub hS.1)⟩ rfl rfl hl.1 rfl (lv_room (Nat.le_of_ble_eq_true rfl)) dL_law_715 ⟨by show cells + i * 18 + 2 + 2 ≤ 702924; omega, by show slots + i * 108 + 12 + 12 ≤ 6992697; omega⟩) hS (hsub hS.1) (hsub hS.1) (hsub hS.1) (fun E ce q9 H locs hE hBX hk9 hS hc9 hv9 hcl => ?_) (fun H locs ok hW hk9 hS => ?_)
      · skip
        rcases hE with t | t
        · exact absurd (hOk_of (show i < nH by omega) hH) t.2
        · exact absurd (inn_of (lo := 0) (hi := 10) (by omega) (show 2 ≤ 10 by omega) (by omega)) t.2.2
      · skip
        refine lv_topi (fun y2 ey2 => ?_)
        obtain rfl : y2 = τ 3 i := ey2.trans (by rw [show cl (nI i) = i from nI_clamp (by omega)]; rfl)
        refine lv_iadd hx hb dL_law_718 ?_
        refine lv_topi (fun y3 ey3 => ?_)
        obtain rfl : y3 = sm (fun h => τ 3 h) (i + 1) := ey3.trans rfl
        refine lv_istore (lv' := [(20, .int (sm (fun h => τ 3 h) (i + 1))), (19, .int (sm (fun h => hftF nP τ h 10) (i + 1))), (0, .ref b), (1, .ref xa), (2, .int (nI nH)), (3, .int (nI nP)), (4, .int (nI time)), (18, .int (sbF w18 (fun h => τ 7 h) i)), (21, .int (nI i))]) hx hb dL_law_719 hl (by decide) rfl (fun ls hl => ?_)
        refine lv_iload hx hb dL_law_721 (lv_at hl 7 rfl) ?_
        refine lv_aload_n hx hb dL_law_723 rfl (lv_at hl 3 rfl) ?_
        refine lv_iload hx hb dL_law_724 (lv_at hl 8 rfl) ?_
        refine lv_bipush (v := nI 6) hx hb dL_law_726 (by decide) ?_
        refine kXi (vx_runV (As := [.int (nI i), .int (nI 6)]) (rest := [.int (sbF w18 (fun h => τ 7 h) i)]) ⟨hx, hb, hml, hown, hts⟩ (c_X3_house l hfl G xa ad ad2 hXI nH nP hH hP dC τ z H.size (nI i) (nI 6) hv) (cwV 2 hts gL_law_X3_house rfl rfl rfl (by decide +kernel) ⟨Nat.le_of_ble_eq_true rfl, Nat.le_of_ble_eq_true rfl⟩) ⟨Pc3.blind, va_recv hK (va_P1 hW.choose_spec.1.1) (ci := 3) (q0 := 0) rfl rfl, Pc3.pre hW hK hXK hS (hsub hS.1)⟩ rfl rfl hl.1 rfl (lv_room (Nat.le_of_ble_eq_true rfl)) dL_law_728 ⟨by show cells + i * 18 + 2 + 2 + 2 ≤ 702924; omega, by show slots + i * 108 + 12 + 12 + 12 ≤ 6992697; omega⟩) hS (hsub hS.1) (hsub hS.1) (hsub hS.1) (fun E ce q9 H locs hE hBX hk9 hS hc9 hv9 hcl => ?_) (fun H locs ok hW hk9 hS => ?_)
        · skip
          rcases hE with t | t
          · exact absurd (hOk_of (show i < nH by omega) hH) t.2
          · exact absurd (inn_of (lo := 0) (hi := 10) (by omega) (show 6 ≤ 10 by omega) (by omega)) t.2.2
        · skip
          refine lv_topi (fun y4 ey4 => ?_)
          obtain rfl : y4 = τ 7 i := ey4.trans (by rw [show cl (nI i) = i from nI_clamp (by omega)]; rfl)
          refine lv_isub hx hb dL_law_731 ?_
          refine lv_topi (fun y5 ey5 => ?_)
          obtain rfl : y5 = sbF w18 (fun h => τ 7 h) (i + 1) := ey5.trans rfl
          refine lv_istore (lv' := [(18, .int (sbF w18 (fun h => τ 7 h) (i + 1))), (20, .int (sm (fun h => τ 3 h) (i + 1))), (19, .int (sm (fun h => hftF nP τ h 10) (i + 1))), (0, .ref b), (1, .ref xa), (2, .int (nI nH)), (3, .int (nI nP)), (4, .int (nI time)), (21, .int (nI i))]) hx hb dL_law_732 hl (by decide) rfl (fun ls hl => ?_)
          refine lv_aload_n hx hb dL_law_734 rfl (lv_at hl 4 rfl) ?_
          refine lv_iload hx hb dL_law_735 (lv_at hl 8 rfl) ?_
          refine lv_iconst (v := nI 2) hx hb dL_law_737 (by decide) ?_
          refine kXi (vx_runV (As := [.int (nI i), .int (nI 2)]) (rest := []) ⟨hx, hb, hml, hown, hts⟩ (c_X3_house l hfl G xa ad ad2 hXI nH nP hH hP dC τ z H.size (nI i) (nI 2) hv) (cwV 2 hts gL_law_X3_house rfl rfl rfl (by decide +kernel) ⟨Nat.le_of_ble_eq_true rfl, Nat.le_of_ble_eq_true rfl⟩) ⟨Pc3.blind, va_recv hK (va_P1 hW.choose_spec.1.1) (ci := 3) (q0 := 0) rfl rfl, Pc3.pre hW hK hXK hS (hsub hS.1)⟩ rfl rfl hl.1 rfl (lv_room (Nat.le_of_ble_eq_true rfl)) dL_law_738 ⟨by show cells + i * 18 + 2 + 2 + 2 + 2 ≤ 702924; omega, by show slots + i * 108 + 12 + 12 + 12 + 12 ≤ 6992697; omega⟩) hS (hsub hS.1) (hsub hS.1) (hsub hS.1) (fun E ce q9 H locs hE hBX hk9 hS hc9 hv9 hcl => ?_) (fun H locs ok hW hk9 hS => ?_)
          · skip
            rcases hE with t | t
            · exact absurd (hOk_of (show i < nH by omega) hH) t.2
            · exact absurd (inn_of (lo := 0) (hi := 10) (by omega) (show 2 ≤ 10 by omega) (by omega)) t.2.2
          · skip
            refine lv_topi (fun y6 ey6 => ?_)
            obtain rfl : y6 = τ 3 i := ey6.trans (by rw [show cl (nI i) = i from nI_clamp (by omega)]; rfl)
            refine lv_if_lt (tgt := 798) hx hb dL_law_741 (by decide) (fun c9 => absurd c9 (eggs_pos hq (by omega) (show i < nH by omega))) (fun c9 => ?_)
            refine lv_aload_n hx hb dL_law_744 rfl (lv_at hl 4 rfl) ?_
            refine lv_iload hx hb dL_law_745 (lv_at hl 8 rfl) ?_
            refine lv_iconst (v := nI 3) hx hb dL_law_747 (by decide) ?_
            refine kXi (vx_runV (As := [.int (nI i), .int (nI 3)]) (rest := []) ⟨hx, hb, hml, hown, hts⟩ (c_X3_house l hfl G xa ad ad2 hXI nH nP hH hP dC τ z H.size (nI i) (nI 3) hv) (cwV 2 hts gL_law_X3_house rfl rfl rfl (by decide +kernel) ⟨Nat.le_of_ble_eq_true rfl, Nat.le_of_ble_eq_true rfl⟩) ⟨Pc3.blind, va_recv hK (va_P1 hW.choose_spec.1.1) (ci := 3) (q0 := 0) rfl rfl, Pc3.pre hW hK hXK hS (hsub hS.1)⟩ rfl rfl hl.1 rfl (lv_room (Nat.le_of_ble_eq_true rfl)) dL_law_748 ⟨by show cells + i * 18 + 2 + 2 + 2 + 2 + 2 ≤ 702924; omega, by show slots + i * 108 + 12 + 12 + 12 + 12 + 12 ≤ 6992697; omega⟩) hS (hsub hS.1) (hsub hS.1) (hsub hS.1) (fun E ce q9 H locs hE hBX hk9 hS hc9 hv9 hcl => ?_) (fun H locs ok hW hk9 hS => ?_)
            · skip
              rcases hE with t | t
              · exact absurd (hOk_of (show i < nH by omega) hH) t.2
              · exact absurd (inn_of (lo := 0) (hi := 10) (by omega) (show 3 ≤ 10 by omega) (by omega)) t.2.2
            · skip
              refine lv_topi (fun y7 ey7 => ?_)
              obtain rfl : y7 = τ 4 i := ey7.trans (by rw [show cl (nI i) = i from nI_clamp (by omega)]; rfl)
              refine lv_if_lt (tgt := 798) hx hb dL_law_751 (by decide) (fun c9 => absurd c9 (by rw [e4]; exact nI_pos (by omega))) (fun c9 => ?_)
              refine lv_aload_n hx hb dL_law_754 rfl (lv_at hl 4 rfl) ?_
              refine lv_iload hx hb dL_law_755 (lv_at hl 8 rfl) ?_
              refine lv_iconst (v := nI 3) hx hb dL_law_757 (by decide) ?_
              refine kXi (vx_runV (As := [.int (nI i), .int (nI 3)]) (rest := []) ⟨hx, hb, hml, hown, hts⟩ (c_X3_house l hfl G xa ad ad2 hXI nH nP hH hP dC τ z H.size (nI i) (nI 3) hv) (cwV 2 hts gL_law_X3_house rfl rfl rfl (by decide +kernel) ⟨Nat.le_of_ble_eq_true rfl, Nat.le_of_ble_eq_true rfl⟩) ⟨Pc3.blind, va_recv hK (va_P1 hW.choose_spec.1.1) (ci := 3) (q0 := 0) rfl rfl, Pc3.pre hW hK hXK hS (hsub hS.1)⟩ rfl rfl hl.1 rfl (lv_room (Nat.le_of_ble_eq_true rfl)) dL_law_758 ⟨by show cells + i * 18 + 2 + 2 + 2 + 2 + 2 + 2 ≤ 702924; omega, by show slots + i * 108 + 12 + 12 + 12 + 12 + 12 + 12 ≤ 6992697; omega⟩) hS (hsub hS.1) (hsub hS.1) (hsub hS.1) (fun E ce q9 H locs hE hBX hk9 hS hc9 hv9 hcl => ?_) (fun H locs ok hW hk9 hS => ?_)
              · skip
                rcases hE with t | t
                · exact absurd (hOk_of (show i < nH by omega) hH) t.2
                · exact absurd (inn_of (lo := 0) (hi := 10) (by omega) (show 3 ≤ 10 by omega) (by omega)) t.2.2
              · skip
                refine lv_topi (fun y8 ey8 => ?_)
                obtain rfl : y8 = τ 4 i := ey8.trans (by rw [show cl (nI i) = i from nI_clamp (by omega)]; rfl)
                refine lv_iconst (v := nI 3) hx hb dL_law_761 (by decide) ?_
                refine lv_icmp_gt (tgt := 798) hx hb dL_law_762 (by decide) (fun c9 => absurd c9 (by rw [e4]; exact nI_nlt (by omega) (by omega))) (fun c9 => ?_)
                refine lv_aload_n hx hb dL_law_765 rfl (lv_at hl 4 rfl) ?_
                refine lv_iload hx hb dL_law_766 (lv_at hl 8 rfl) ?_
                refine lv_iconst (v := nI 4) hx hb dL_law_768 (by decide) ?_
                refine kXi (vx_runV (As := [.int (nI i), .int (nI 4)]) (rest := []) ⟨hx, hb, hml, hown, hts⟩ (c_X3_house l hfl G xa ad ad2 hXI nH nP hH hP dC τ z H.size (nI i) (nI 4) hv) (cwV 2 hts gL_law_X3_house rfl rfl rfl (by decide +kernel) ⟨Nat.le_of_ble_eq_true rfl, Nat.le_of_ble_eq_true rfl⟩) ⟨Pc3.blind, va_recv hK (va_P1 hW.choose_spec.1.1) (ci := 3) (q0 := 0) rfl rfl, Pc3.pre hW hK hXK hS (hsub hS.1)⟩ rfl rfl hl.1 rfl (lv_room (Nat.le_of_ble_eq_true rfl)) dL_law_769 ⟨by show cells + i * 18 + 2 + 2 + 2 + 2 + 2 + 2 + 2 ≤ 702924; omega, by show slots + i * 108 + 12 + 12 + 12 + 12 + 12 + 12 + 12 ≤ 6992697; omega⟩) hS (hsub hS.1) (hsub hS.1) (hsub hS.1) (fun E ce q9 H locs hE hBX hk9 hS hc9 hv9 hcl => ?_) (fun H locs ok hW hk9 hS => ?_)
                · skip
                  rcases hE with t | t
                  · exact absurd (hOk_of (show i < nH by omega) hH) t.2
                  · exact absurd (inn_of (lo := 0) (hi := 10) (by omega) (show 4 ≤ 10 by omega) (by omega)) t.2.2
                · skip
                  refine lv_topi (fun y9 ey9 => ?_)
                  obtain rfl : y9 = τ 6 i := ey9.trans (by rw [show cl (nI i) = i from nI_clamp (by omega)]; rfl)
                  refine lv_if_lt (tgt := 798) hx hb dL_law_772 (by decide) (fun c9 => absurd c9 (by rw [e6]; exact nI_pos (by omega))) (fun c9 => ?_)
                  refine lv_aload_n hx hb dL_law_775 rfl (lv_at hl 4 rfl) ?_
                  refine lv_iload hx hb dL_law_776 (lv_at hl 8 rfl) ?_
                  refine lv_iconst (v := nI 4) hx hb dL_law_778 (by decide) ?_
                  refine kXi (vx_runV (As := [.int (nI i), .int (nI 4)]) (rest := []) ⟨hx, hb, hml, hown, hts⟩ (c_X3_house l hfl G xa ad ad2 hXI nH nP hH hP dC τ z H.size (nI i) (nI 4) hv) (cwV 2 hts gL_law_X3_house rfl rfl rfl (by decide +kernel) ⟨Nat.le_of_ble_eq_true rfl, Nat.le_of_ble_eq_true rfl⟩) ⟨Pc3.blind, va_recv hK (va_P1 hW.choose_spec.1.1) (ci := 3) (q0 := 0) rfl rfl, Pc3.pre hW hK hXK hS (hsub hS.1)⟩ rfl rfl hl.1 rfl (lv_room (Nat.le_of_ble_eq_true rfl)) dL_law_779 ⟨by show cells + i * 18 + 2 + 2 + 2 + 2 + 2 + 2 + 2 + 2 ≤ 702924; omega, by show slots + i * 108 + 12 + 12 + 12 + 12 + 12 + 12 + 12 + 12 ≤ 6992697; omega⟩) hS (hsub hS.1) (hsub hS.1) (hsub hS.1) (fun E ce q9 H locs hE hBX hk9 hS hc9 hv9 hcl => ?_) (fun H locs ok hW hk9 hS => ?_)
                  · skip
                    rcases hE with t | t
                    · exact absurd (hOk_of (show i < nH by omega) hH) t.2
                    · exact absurd (inn_of (lo := 0) (hi := 10) (by omega) (show 4 ≤ 10 by omega) (by omega)) t.2.2
                  · skip
                    refine lv_topi (fun y10 ey10 => ?_)
                    obtain rfl : y10 = τ 6 i := ey10.trans (by rw [show cl (nI i) = i from nI_clamp (by omega)]; rfl)
                    refine lv_bipush (v := nI 30) hx hb dL_law_782 (by decide) ?_
                    refine lv_icmp_gt (tgt := 798) hx hb dL_law_784 (by decide) (fun c9 => absurd c9 (by rw [e6]; exact nI_nlt (by omega) (by omega))) (fun c9 => ?_)
                    refine lv_aload_n hx hb dL_law_787 rfl (lv_at hl 4 rfl) ?_
                    refine lv_iload hx hb dL_law_788 (lv_at hl 8 rfl) ?_
                    refine lv_bipush (v := nI 7) hx hb dL_law_790 (by decide) ?_
                    refine kXi (vx_runV (As := [.int (nI i), .int (nI 7)]) (rest := []) ⟨hx, hb, hml, hown, hts⟩ (c_X3_house l hfl G xa ad ad2 hXI nH nP hH hP dC τ z H.size (nI i) (nI 7) hv) (cwV 2 hts gL_law_X3_house rfl rfl rfl (by decide +kernel) ⟨Nat.le_of_ble_eq_true rfl, Nat.le_of_ble_eq_true rfl⟩) ⟨Pc3.blind, va_recv hK (va_P1 hW.choose_spec.1.1) (ci := 3) (q0 := 0) rfl rfl, Pc3.pre hW hK hXK hS (hsub hS.1)⟩ rfl rfl hl.1 rfl (lv_room (Nat.le_of_ble_eq_true rfl)) dL_law_792 ⟨by show cells + i * 18 + 2 + 2 + 2 + 2 + 2 + 2 + 2 + 2 + 2 ≤ 702924; omega, by show slots + i * 108 + 12 + 12 + 12 + 12 + 12 + 12 + 12 + 12 + 12 ≤ 6992697; omega⟩) hS (hsub hS.1) (hsub hS.1) (hsub hS.1) (fun E ce q9 H locs hE hBX hk9 hS hc9 hv9 hcl => ?_) (fun H locs ok hW hk9 hS => ?_)
                    · skip
                      rcases hE with t | t
                      · exact absurd (hOk_of (show i < nH by omega) hH) t.2
                      · exact absurd (inn_of (lo := 0) (hi := 10) (by omega) (show 7 ≤ 10 by omega) (by omega)) t.2.2
                    · skip
                      refine lv_topi (fun y11 ey11 => ?_)
                      obtain rfl : y11 = τ 8 i := ey11.trans (by rw [show cl (nI i) = i from nI_clamp (by omega)]; rfl)
                      refine lv_if_ge (tgt := 800) hx hb dL_law_795 (by decide) (fun c9 => ?_) (fun c9 => absurd (thirst_pos hq (by omega) (show i < nH by omega)) c9)
                      refine lv_iinc (k := 8) (v := nI (i + 1)) (lv' := [(21, .int (nI (i + 1))), (18, .int (sbF w18 (fun h => τ 7 h) (i + 1))), (20, .int (sm (fun h => τ 3 h) (i + 1))), (19, .int (sm (fun h => hftF nP τ h 10) (i + 1))), (0, .ref b), (1, .ref xa), (2, .int (nI nH)), (3, .int (nI nP)), (4, .int (nI time))]) hx hb dL_law_800 hl rfl (nI_add i 1) (by decide) rfl (fun ls hl => ?_)
                      refine lv_goto (tgt := 690) hx hb dL_law_803 (by decide) ?_
                      refine W.widen (k := cells + (i + 1) * 18) (n := slots + (i + 1) * 108) (by omega) (by omega) ?_
                      exact ih (by omega) _ _ _ ⟨⟨_, hW⟩, hS, lv_sub hl [4, 5, 6, 7, 8, 1, 3, 2, 0] rfl⟩
