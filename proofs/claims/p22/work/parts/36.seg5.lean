set_option maxHeartbeats 4000000 in
set_option maxRecDepth 100000 in
theorem sg_E {p : Program} {l : Launch} {e : Env} {s : State} {m : MethodId} {below : List Frame} {meth : Method} {c : Code} {b L : Nat} {xs : Nat → Int32} {G : wG} {xa : Nat} {ad ad2 : Nat → Nat} {Q : State → Prop} (CC : LwS p l s m c b L xs G xa ad ad2) {nH nP d : Nat} {τ : wS} {time hh dd : Nat} {x5 w10 w11 w12 w13 w14 w15 w16 : Int32} (hq : LQ nH nP d τ) {H : Heap} {locs : List Loc} {cells slots : Nat} {ls : Array Slot} (hW : (∃ z, XWz G xa ad ad2 (wmx nH nP dC τ) z H)) (hS : va_S (fun q : Nat => s.heap.size ≤ q) s.heap H locs) (hl : lv_has ls 24 [(0, .ref b), (1, .ref xa), (2, .int (nI nH)), (3, .int (nI nP)), (4, .int (nI time)), (5, .int x5), (6, .int (nI hh)), (7, .int (nI dd)), (10, .int w10), (11, .int w11), (12, .int w12), (13, .int w13), (14, .int w14), (15, .int w15), (16, .int w16)]) (hc : cells + 198 ≤ 702924) (hs : slots + 1188 ≤ 6992697)
    (kk : ∀ (H1 : Heap) (locs1 : List Loc) (ls1 : Array Slot), (∃ z, XWz G xa ad ad2 (wmx nH nP dC τ) z H1) → va_S (fun q : Nat => s.heap.size ≤ q) s.heap H1 locs1 → lv_has ls1 24 [(0, .ref b), (1, .ref xa), (2, .int (nI nH)), (3, .int (nI nP)), (4, .int (nI time)), (5, .int x5), (6, .int (nI hh)), (7, .int (nI dd)), (10, .int w10), (11, .int w11), (12, .int w12), (14, .int w14), (15, .int w15), (16, .int w16), (13, .int (saF w13 (fun p => τ 29 p) nP)), (17, .int (sm (fun p => τ 20 p) nP)), (18, .int (sm (fun p => τ 28 p) nP))] → W p l e room_1 s m #[Value.ref b] below meth c H1 locs1 (cells + 198) (slots + 1188) Q (F0 m 635 ls1 [])) : W p l e room_1 s m #[Value.ref b] below meth c H locs (cells) (slots) Q (F0 m 391 ls []) := by
  obtain ⟨hx, hb, hml, hown, hts, hX, hbl, hL, hfl, hK, hXK, hXI, hF, htab⟩ := CC
  have hv := hq.1
  have hH := hv.1
  have hP := hv.2.1
  have hbA : ¬ (fun q : Nat => s.heap.size ≤ q) b := Nat.not_le.mpr hbl
  have hsub : ∀ {n9 : Nat}, s.heap.size ≤ n9 → ∀ q, AX ad ad2 n9 q → s.heap.size ≤ q := fun h q hq => lw_sub hF h hq
  have hsubV : ∀ q, AV ad 19 q → s.heap.size ≤ q := fun q ⟨k, hk, e⟩ => by rw [e]; exact (hF k hk).1
  obtain ⟨z, hW⟩ := hW
  refine lv_iconst (v := sm (fun p => τ 20 p) 0) hx hb dL_law_391 rfl ?_
  refine lv_istore (lv' := [(17, .int (sm (fun p => τ 20 p) 0)), (0, .ref b), (1, .ref xa), (2, .int (nI nH)), (3, .int (nI nP)), (4, .int (nI time)), (5, .int x5), (6, .int (nI hh)), (7, .int (nI dd)), (10, .int w10), (11, .int w11), (12, .int w12), (13, .int w13), (14, .int w14), (15, .int w15), (16, .int w16)]) hx hb dL_law_392 hl (by decide) rfl (fun ls hl => ?_)
  refine lv_iconst (v := sm (fun p => τ 28 p) 0) hx hb dL_law_394 rfl ?_
  refine lv_istore (lv' := [(18, .int (sm (fun p => τ 28 p) 0)), (17, .int (sm (fun p => τ 20 p) 0)), (0, .ref b), (1, .ref xa), (2, .int (nI nH)), (3, .int (nI nP)), (4, .int (nI time)), (5, .int x5), (6, .int (nI hh)), (7, .int (nI dd)), (10, .int w10), (11, .int w11), (12, .int w12), (13, .int w13), (14, .int w14), (15, .int w15), (16, .int w16)]) hx hb dL_law_395 hl (by decide) rfl (fun ls hl => ?_)
  refine lv_iconst (v := nI 0) hx hb dL_law_397 (by decide) ?_
  refine lv_istore (lv' := [(19, .int (nI 0)), (18, .int (sm (fun p => τ 28 p) 0)), (17, .int (sm (fun p => τ 20 p) 0)), (0, .ref b), (1, .ref xa), (2, .int (nI nH)), (3, .int (nI nP)), (4, .int (nI time)), (5, .int x5), (6, .int (nI hh)), (7, .int (nI dd)), (10, .int w10), (11, .int w11), (12, .int w12), (13, .int w13), (14, .int w14), (15, .int w15), (16, .int w16)]) hx hb dL_law_398 hl (by decide) rfl (fun ls hl => ?_)
  refine W.widen (k := cells + 0 * 66) (n := slots + 0 * 396) (by omega) (by omega) ?_
  refine W_upc (pc := 400) (cells := cells) (slots := slots) 66 396 nP (fun i H locs ls => (∃ z, XWz G xa ad ad2 (wmx nH nP dC τ) z H) ∧ va_S (fun q : Nat => s.heap.size ≤ q) s.heap H locs ∧ lv_has ls 24 [(0, .ref b), (1, .ref xa), (2, .int (nI nH)), (3, .int (nI nP)), (4, .int (nI time)), (5, .int x5), (6, .int (nI hh)), (7, .int (nI dd)), (10, .int w10), (11, .int w11), (12, .int w12), (14, .int w14), (15, .int w15), (16, .int w16), (13, .int (saF w13 (fun p => τ 29 p) i)), (17, .int (sm (fun p => τ 20 p) i)), (18, .int (sm (fun p => τ 28 p) i)), (19, .int (nI i))]) ?_ 0 (Nat.zero_le _) _ _ _ ⟨⟨z, hW⟩, hS, lv_sub hl [3, 4, 5, 6, 7, 8, 9, 10, 11, 12, 13, 15, 16, 17, 14, 2, 1, 0] rfl⟩
  intro i H locs ls hi ⟨⟨z, hW⟩, hS, hl⟩ ih
  refine lv_iload hx hb dL_law_400 (lv_at hl 17 rfl) ?_
  refine lv_iload_n hx hb dL_law_402 rfl (lv_at hl 3 rfl) ?_
  refine lv_icmp_ge (tgt := 635) hx hb dL_law_403 (by decide) (fun c => ?_) (fun c => ?_)
  · skip
    replace c := (nI_leI (a := nP) (b := i) (by omega) (by omega)).mp c
    obtain rfl : nP = i := by omega
    refine W.widen (k := cells + 198) (n := slots + 1188) (by omega) (by omega) ?_
    exact kk _ _ _ ⟨z, hW⟩ hS (lv_sub hl [0, 1, 2, 3, 4, 5, 6, 7, 8, 9, 10, 11, 12, 13, 14, 15, 16] rfl)
  · skip
    replace c : ¬ (nP ≤ i) := fun q => c ((nI_leI (a := nP) (b := i) (by omega) (by omega)).mpr q)
    obtain ⟨a23, b22, ⟨k24, h24, e24⟩, -, ⟨h10, e26⟩, ⟨e27, hturn⟩, i1, i2⟩ := hv.2.2.2.2.2 i (show i < nP by omega)
    obtain ⟨lv, dr, hlv, -, e20, -⟩ := hq.2.2.2.2.2.1 i (show i < nP by omega)
    generalize hsz : sz τ i = n at h10 e26 hturn i1 i2
    generalize tn τ i = tt at e27 hturn
    refine lv_iload hx hb dL_law_406 (lv_at hl 15 rfl) ?_
    refine lv_aload_n hx hb dL_law_408 rfl (lv_at hl 1 rfl) ?_
    refine lv_iload hx hb dL_law_409 (lv_at hl 17 rfl) ?_
    refine lv_iconst (v := nI 0) hx hb dL_law_411 (by decide) ?_
    refine kXi (vx_runV (As := [.int (nI i), .int (nI 0)]) (rest := [.int (sm (fun p => τ 20 p) i)]) ⟨hx, hb, hml, hown, hts⟩ (c_X3_pump l hfl G xa ad ad2 hXI nH nP hH hP dC τ z H.size (nI i) (nI 0) hv) (cwV 2 hts gL_law_X3_pump rfl rfl rfl (by decide +kernel) ⟨Nat.le_of_ble_eq_true rfl, Nat.le_of_ble_eq_true rfl⟩) ⟨Pc3.blind, va_recv hK (va_P1 hW.choose_spec.1.1) (ci := 3) (q0 := 0) rfl rfl, Pc3.pre hW hK hXK hS (hsub hS.1)⟩ rfl rfl hl.1 rfl (lv_room (Nat.le_of_ble_eq_true rfl)) dL_law_412 ⟨by show cells + i * 66 + 2 ≤ 702924; omega, by show slots + i * 396 + 12 ≤ 6992697; omega⟩) hS (hsub hS.1) (hsub hS.1) (hsub hS.1) (fun E ce q9 H locs hE hBX hk9 hS hc9 hv9 hcl => ?_) (fun H locs ok hW hk9 hS => ?_)
    · skip
      rcases hE with t | t
      · exact absurd (pOk_of (show i < nP by omega) hP) t.2
      · exact absurd (inn_of (lo := 0) (hi := 10) (by omega) (show 0 ≤ 10 by omega) (by omega)) t.2.2
    · skip
      refine lv_topi (fun y0 ey0 => ?_)
      obtain rfl : y0 = τ 20 i := ey0.trans (by rw [show cl (nI i) = i from nI_clamp (by omega)]; rfl)
      refine lv_iadd hx hb dL_law_415 ?_
      refine lv_topi (fun y1 ey1 => ?_)
      obtain rfl : y1 = sm (fun p => τ 20 p) (i + 1) := ey1.trans rfl
      refine lv_istore (lv' := [(17, .int (sm (fun p => τ 20 p) (i + 1))), (0, .ref b), (1, .ref xa), (2, .int (nI nH)), (3, .int (nI nP)), (4, .int (nI time)), (5, .int x5), (6, .int (nI hh)), (7, .int (nI dd)), (10, .int w10), (11, .int w11), (12, .int w12), (14, .int w14), (15, .int w15), (16, .int w16), (13, .int (saF w13 (fun p => τ 29 p) i)), (18, .int (sm (fun p => τ 28 p) i)), (19, .int (nI i))]) hx hb dL_law_416 hl (by decide) rfl (fun ls hl => ?_)
      refine lv_iload hx hb dL_law_418 (lv_at hl 15 rfl) ?_
      refine lv_aload_n hx hb dL_law_420 rfl (lv_at hl 2 rfl) ?_
      refine lv_iload hx hb dL_law_421 (lv_at hl 17 rfl) ?_
      refine lv_bipush (v := nI 9) hx hb dL_law_423 (by decide) ?_
      refine kXi (vx_runV (As := [.int (nI i), .int (nI 9)]) (rest := [.int (saF w13 (fun p => τ 29 p) i)]) ⟨hx, hb, hml, hown, hts⟩ (c_X3_pump l hfl G xa ad ad2 hXI nH nP hH hP dC τ z H.size (nI i) (nI 9) hv) (cwV 2 hts gL_law_X3_pump rfl rfl rfl (by decide +kernel) ⟨Nat.le_of_ble_eq_true rfl, Nat.le_of_ble_eq_true rfl⟩) ⟨Pc3.blind, va_recv hK (va_P1 hW.choose_spec.1.1) (ci := 3) (q0 := 0) rfl rfl, Pc3.pre hW hK hXK hS (hsub hS.1)⟩ rfl rfl hl.1 rfl (lv_room (Nat.le_of_ble_eq_true rfl)) dL_law_425 ⟨by show cells + i * 66 + 2 + 2 ≤ 702924; omega, by show slots + i * 396 + 12 + 12 ≤ 6992697; omega⟩) hS (hsub hS.1) (hsub hS.1) (hsub hS.1) (fun E ce q9 H locs hE hBX hk9 hS hc9 hv9 hcl => ?_) (fun H locs ok hW hk9 hS => ?_)
      · skip
        rcases hE with t | t
        · exact absurd (pOk_of (show i < nP by omega) hP) t.2
        · exact absurd (inn_of (lo := 0) (hi := 10) (by omega) (show 9 ≤ 10 by omega) (by omega)) t.2.2
      · skip
        refine lv_topi (fun y2 ey2 => ?_)
        obtain rfl : y2 = τ 29 i := ey2.trans (by rw [show cl (nI i) = i from nI_clamp (by omega)]; rfl)
        refine lv_iadd hx hb dL_law_428 ?_
        refine lv_topi (fun y3 ey3 => ?_)
        obtain rfl : y3 = saF w13 (fun p => τ 29 p) (i + 1) := ey3.trans rfl
        refine lv_istore (lv' := [(13, .int (saF w13 (fun p => τ 29 p) (i + 1))), (17, .int (sm (fun p => τ 20 p) (i + 1))), (0, .ref b), (1, .ref xa), (2, .int (nI nH)), (3, .int (nI nP)), (4, .int (nI time)), (5, .int x5), (6, .int (nI hh)), (7, .int (nI dd)), (10, .int w10), (11, .int w11), (12, .int w12), (14, .int w14), (15, .int w15), (16, .int w16), (18, .int (sm (fun p => τ 28 p) i)), (19, .int (nI i))]) hx hb dL_law_429 hl (by decide) rfl (fun ls hl => ?_)
        refine lv_iload hx hb dL_law_431 (lv_at hl 16 rfl) ?_
        refine lv_aload_n hx hb dL_law_433 rfl (lv_at hl 3 rfl) ?_
        refine lv_iload hx hb dL_law_434 (lv_at hl 17 rfl) ?_
        refine lv_bipush (v := nI 8) hx hb dL_law_436 (by decide) ?_
        refine kXi (vx_runV (As := [.int (nI i), .int (nI 8)]) (rest := [.int (sm (fun p => τ 28 p) i)]) ⟨hx, hb, hml, hown, hts⟩ (c_X3_pump l hfl G xa ad ad2 hXI nH nP hH hP dC τ z H.size (nI i) (nI 8) hv) (cwV 2 hts gL_law_X3_pump rfl rfl rfl (by decide +kernel) ⟨Nat.le_of_ble_eq_true rfl, Nat.le_of_ble_eq_true rfl⟩) ⟨Pc3.blind, va_recv hK (va_P1 hW.choose_spec.1.1) (ci := 3) (q0 := 0) rfl rfl, Pc3.pre hW hK hXK hS (hsub hS.1)⟩ rfl rfl hl.1 rfl (lv_room (Nat.le_of_ble_eq_true rfl)) dL_law_438 ⟨by show cells + i * 66 + 2 + 2 + 2 ≤ 702924; omega, by show slots + i * 396 + 12 + 12 + 12 ≤ 6992697; omega⟩) hS (hsub hS.1) (hsub hS.1) (hsub hS.1) (fun E ce q9 H locs hE hBX hk9 hS hc9 hv9 hcl => ?_) (fun H locs ok hW hk9 hS => ?_)
        · skip
          rcases hE with t | t
          · exact absurd (pOk_of (show i < nP by omega) hP) t.2
          · exact absurd (inn_of (lo := 0) (hi := 10) (by omega) (show 8 ≤ 10 by omega) (by omega)) t.2.2
        · skip
          refine lv_topi (fun y4 ey4 => ?_)
          obtain rfl : y4 = τ 28 i := ey4.trans (by rw [show cl (nI i) = i from nI_clamp (by omega)]; rfl)
          refine lv_iadd hx hb dL_law_441 ?_
          refine lv_topi (fun y5 ey5 => ?_)
          obtain rfl : y5 = sm (fun p => τ 28 p) (i + 1) := ey5.trans rfl
          refine lv_istore (lv' := [(18, .int (sm (fun p => τ 28 p) (i + 1))), (13, .int (saF w13 (fun p => τ 29 p) (i + 1))), (17, .int (sm (fun p => τ 20 p) (i + 1))), (0, .ref b), (1, .ref xa), (2, .int (nI nH)), (3, .int (nI nP)), (4, .int (nI time)), (5, .int x5), (6, .int (nI hh)), (7, .int (nI dd)), (10, .int w10), (11, .int w11), (12, .int w12), (14, .int w14), (15, .int w15), (16, .int w16), (19, .int (nI i))]) hx hb dL_law_442 hl (by decide) rfl (fun ls hl => ?_)
          refine lv_aload_n hx hb dL_law_444 rfl (lv_at hl 4 rfl) ?_
          refine lv_iload hx hb dL_law_445 (lv_at hl 17 rfl) ?_
          refine lv_bipush (v := nI 6) hx hb dL_law_447 (by decide) ?_
          refine kXi (vx_runV (As := [.int (nI i), .int (nI 6)]) (rest := []) ⟨hx, hb, hml, hown, hts⟩ (c_X3_pump l hfl G xa ad ad2 hXI nH nP hH hP dC τ z H.size (nI i) (nI 6) hv) (cwV 2 hts gL_law_X3_pump rfl rfl rfl (by decide +kernel) ⟨Nat.le_of_ble_eq_true rfl, Nat.le_of_ble_eq_true rfl⟩) ⟨Pc3.blind, va_recv hK (va_P1 hW.choose_spec.1.1) (ci := 3) (q0 := 0) rfl rfl, Pc3.pre hW hK hXK hS (hsub hS.1)⟩ rfl rfl hl.1 rfl (lv_room (Nat.le_of_ble_eq_true rfl)) dL_law_449 ⟨by show cells + i * 66 + 2 + 2 + 2 + 2 ≤ 702924; omega, by show slots + i * 396 + 12 + 12 + 12 + 12 ≤ 6992697; omega⟩) hS (hsub hS.1) (hsub hS.1) (hsub hS.1) (fun E ce q9 H locs hE hBX hk9 hS hc9 hv9 hcl => ?_) (fun H locs ok hW hk9 hS => ?_)
          · skip
            rcases hE with t | t
            · exact absurd (pOk_of (show i < nP by omega) hP) t.2
            · exact absurd (inn_of (lo := 0) (hi := 10) (by omega) (show 6 ≤ 10 by omega) (by omega)) t.2.2
          · skip
            refine lv_topi (fun y6 ey6 => ?_)
            obtain rfl : y6 = τ 26 i := ey6.trans (by rw [show cl (nI i) = i from nI_clamp (by omega)]; rfl)
            refine lv_topi (fun y7 ey7 => ?_)
            obtain rfl : y7 = nI n := ey7.trans e26
            refine lv_istore (lv' := [(20, .int (nI n)), (18, .int (sm (fun p => τ 28 p) (i + 1))), (13, .int (saF w13 (fun p => τ 29 p) (i + 1))), (17, .int (sm (fun p => τ 20 p) (i + 1))), (0, .ref b), (1, .ref xa), (2, .int (nI nH)), (3, .int (nI nP)), (4, .int (nI time)), (5, .int x5), (6, .int (nI hh)), (7, .int (nI dd)), (10, .int w10), (11, .int w11), (12, .int w12), (14, .int w14), (15, .int w15), (16, .int w16), (19, .int (nI i))]) hx hb dL_law_452 hl (by decide) rfl (fun ls hl => ?_)
            refine lv_aload_n hx hb dL_law_454 rfl (lv_at hl 5 rfl) ?_
            refine lv_iload hx hb dL_law_455 (lv_at hl 18 rfl) ?_
            refine lv_iconst (v := nI 0) hx hb dL_law_457 (by decide) ?_
            refine kXi (vx_runV (As := [.int (nI i), .int (nI 0)]) (rest := []) ⟨hx, hb, hml, hown, hts⟩ (c_X3_pump l hfl G xa ad ad2 hXI nH nP hH hP dC τ z H.size (nI i) (nI 0) hv) (cwV 2 hts gL_law_X3_pump rfl rfl rfl (by decide +kernel) ⟨Nat.le_of_ble_eq_true rfl, Nat.le_of_ble_eq_true rfl⟩) ⟨Pc3.blind, va_recv hK (va_P1 hW.choose_spec.1.1) (ci := 3) (q0 := 0) rfl rfl, Pc3.pre hW hK hXK hS (hsub hS.1)⟩ rfl rfl hl.1 rfl (lv_room (Nat.le_of_ble_eq_true rfl)) dL_law_458 ⟨by show cells + i * 66 + 2 + 2 + 2 + 2 + 2 ≤ 702924; omega, by show slots + i * 396 + 12 + 12 + 12 + 12 + 12 ≤ 6992697; omega⟩) hS (hsub hS.1) (hsub hS.1) (hsub hS.1) (fun E ce q9 H locs hE hBX hk9 hS hc9 hv9 hcl => ?_) (fun H locs ok hW hk9 hS => ?_)
            · skip
              rcases hE with t | t
              · exact absurd (pOk_of (show i < nP by omega) hP) t.2
              · exact absurd (inn_of (lo := 0) (hi := 10) (by omega) (show 0 ≤ 10 by omega) (by omega)) t.2.2
            · skip
              refine lv_topi (fun y8 ey8 => ?_)
              obtain rfl : y8 = τ 20 i := ey8.trans (by rw [show cl (nI i) = i from nI_clamp (by omega)]; rfl)
              refine lv_if_lt (tgt := 565) hx hb dL_law_461 (by decide) (fun c9 => absurd c9 (by rw [e20]; exact nI_pos (by omega))) (fun c9 => ?_)
              refine lv_aload_n hx hb dL_law_464 rfl (lv_at hl 5 rfl) ?_
              refine lv_iload hx hb dL_law_465 (lv_at hl 18 rfl) ?_
              refine lv_iconst (v := nI 0) hx hb dL_law_467 (by decide) ?_
              refine kXi (vx_runV (As := [.int (nI i), .int (nI 0)]) (rest := []) ⟨hx, hb, hml, hown, hts⟩ (c_X3_pump l hfl G xa ad ad2 hXI nH nP hH hP dC τ z H.size (nI i) (nI 0) hv) (cwV 2 hts gL_law_X3_pump rfl rfl rfl (by decide +kernel) ⟨Nat.le_of_ble_eq_true rfl, Nat.le_of_ble_eq_true rfl⟩) ⟨Pc3.blind, va_recv hK (va_P1 hW.choose_spec.1.1) (ci := 3) (q0 := 0) rfl rfl, Pc3.pre hW hK hXK hS (hsub hS.1)⟩ rfl rfl hl.1 rfl (lv_room (Nat.le_of_ble_eq_true rfl)) dL_law_468 ⟨by show cells + i * 66 + 2 + 2 + 2 + 2 + 2 + 2 ≤ 702924; omega, by show slots + i * 396 + 12 + 12 + 12 + 12 + 12 + 12 ≤ 6992697; omega⟩) hS (hsub hS.1) (hsub hS.1) (hsub hS.1) (fun E ce q9 H locs hE hBX hk9 hS hc9 hv9 hcl => ?_) (fun H locs ok hW hk9 hS => ?_)
              · skip
                rcases hE with t | t
                · exact absurd (pOk_of (show i < nP by omega) hP) t.2
                · exact absurd (inn_of (lo := 0) (hi := 10) (by omega) (show 0 ≤ 10 by omega) (by omega)) t.2.2
              · skip
                refine lv_topi (fun y9 ey9 => ?_)
                obtain rfl : y9 = τ 20 i := ey9.trans (by rw [show cl (nI i) = i from nI_clamp (by omega)]; rfl)
                refine lv_sipush (v := nI 200) hx hb dL_law_471 (by decide) ?_
                refine lv_icmp_gt (tgt := 565) hx hb dL_law_474 (by decide) (fun c9 => absurd c9 (by rw [e20]; exact nI_nlt (by omega) (by omega))) (fun c9 => ?_)
                refine lv_aload_n hx hb dL_law_477 rfl (lv_at hl 5 rfl) ?_
                refine lv_iload hx hb dL_law_478 (lv_at hl 18 rfl) ?_
                refine lv_iconst (v := nI 4) hx hb dL_law_480 (by decide) ?_
                refine kXi (vx_runV (As := [.int (nI i), .int (nI 4)]) (rest := []) ⟨hx, hb, hml, hown, hts⟩ (c_X3_pump l hfl G xa ad ad2 hXI nH nP hH hP dC τ z H.size (nI i) (nI 4) hv) (cwV 2 hts gL_law_X3_pump rfl rfl rfl (by decide +kernel) ⟨Nat.le_of_ble_eq_true rfl, Nat.le_of_ble_eq_true rfl⟩) ⟨Pc3.blind, va_recv hK (va_P1 hW.choose_spec.1.1) (ci := 3) (q0 := 0) rfl rfl, Pc3.pre hW hK hXK hS (hsub hS.1)⟩ rfl rfl hl.1 rfl (lv_room (Nat.le_of_ble_eq_true rfl)) dL_law_481 ⟨by show cells + i * 66 + 2 + 2 + 2 + 2 + 2 + 2 + 2 ≤ 702924; omega, by show slots + i * 396 + 12 + 12 + 12 + 12 + 12 + 12 + 12 ≤ 6992697; omega⟩) hS (hsub hS.1) (hsub hS.1) (hsub hS.1) (fun E ce q9 H locs hE hBX hk9 hS hc9 hv9 hcl => ?_) (fun H locs ok hW hk9 hS => ?_)
                · skip
                  rcases hE with t | t
                  · exact absurd (pOk_of (show i < nP by omega) hP) t.2
                  · exact absurd (inn_of (lo := 0) (hi := 10) (by omega) (show 4 ≤ 10 by omega) (by omega)) t.2.2
                · skip
                  refine lv_topi (fun y10 ey10 => ?_)
                  obtain rfl : y10 = τ 24 i := ey10.trans (by rw [show cl (nI i) = i from nI_clamp (by omega)]; rfl)
                  refine lv_if_lt (tgt := 565) hx hb dL_law_484 (by decide) (fun c9 => absurd c9 (by rw [e24]; exact nI_pos (by omega))) (fun c9 => ?_)
                  refine lv_aload_n hx hb dL_law_487 rfl (lv_at hl 5 rfl) ?_
                  refine lv_iload hx hb dL_law_488 (lv_at hl 18 rfl) ?_
                  refine lv_iconst (v := nI 4) hx hb dL_law_490 (by decide) ?_
                  refine kXi (vx_runV (As := [.int (nI i), .int (nI 4)]) (rest := []) ⟨hx, hb, hml, hown, hts⟩ (c_X3_pump l hfl G xa ad ad2 hXI nH nP hH hP dC τ z H.size (nI i) (nI 4) hv) (cwV 2 hts gL_law_X3_pump rfl rfl rfl (by decide +kernel) ⟨Nat.le_of_ble_eq_true rfl, Nat.le_of_ble_eq_true rfl⟩) ⟨Pc3.blind, va_recv hK (va_P1 hW.choose_spec.1.1) (ci := 3) (q0 := 0) rfl rfl, Pc3.pre hW hK hXK hS (hsub hS.1)⟩ rfl rfl hl.1 rfl (lv_room (Nat.le_of_ble_eq_true rfl)) dL_law_491 ⟨by show cells + i * 66 + 2 + 2 + 2 + 2 + 2 + 2 + 2 + 2 ≤ 702924; omega, by show slots + i * 396 + 12 + 12 + 12 + 12 + 12 + 12 + 12 + 12 ≤ 6992697; omega⟩) hS (hsub hS.1) (hsub hS.1) (hsub hS.1) (fun E ce q9 H locs hE hBX hk9 hS hc9 hv9 hcl => ?_) (fun H locs ok hW hk9 hS => ?_)
                  · skip
                    rcases hE with t | t
                    · exact absurd (pOk_of (show i < nP by omega) hP) t.2
                    · exact absurd (inn_of (lo := 0) (hi := 10) (by omega) (show 4 ≤ 10 by omega) (by omega)) t.2.2
                  · skip
                    refine lv_topi (fun y11 ey11 => ?_)
                    obtain rfl : y11 = τ 24 i := ey11.trans (by rw [show cl (nI i) = i from nI_clamp (by omega)]; rfl)
                    refine lv_iconst (v := nI 3) hx hb dL_law_494 (by decide) ?_
                    refine lv_icmp_gt (tgt := 565) hx hb dL_law_495 (by decide) (fun c9 => absurd c9 (by rw [e24]; exact nI_nlt (by omega) (by omega))) (fun c9 => ?_)
                    refine lv_aload_n hx hb dL_law_498 rfl (lv_at hl 5 rfl) ?_
                    refine lv_iload hx hb dL_law_499 (lv_at hl 18 rfl) ?_
                    refine lv_iconst (v := nI 3) hx hb dL_law_501 (by decide) ?_
                    refine kXi (vx_runV (As := [.int (nI i), .int (nI 3)]) (rest := []) ⟨hx, hb, hml, hown, hts⟩ (c_X3_pump l hfl G xa ad ad2 hXI nH nP hH hP dC τ z H.size (nI i) (nI 3) hv) (cwV 2 hts gL_law_X3_pump rfl rfl rfl (by decide +kernel) ⟨Nat.le_of_ble_eq_true rfl, Nat.le_of_ble_eq_true rfl⟩) ⟨Pc3.blind, va_recv hK (va_P1 hW.choose_spec.1.1) (ci := 3) (q0 := 0) rfl rfl, Pc3.pre hW hK hXK hS (hsub hS.1)⟩ rfl rfl hl.1 rfl (lv_room (Nat.le_of_ble_eq_true rfl)) dL_law_502 ⟨by show cells + i * 66 + 2 + 2 + 2 + 2 + 2 + 2 + 2 + 2 + 2 ≤ 702924; omega, by show slots + i * 396 + 12 + 12 + 12 + 12 + 12 + 12 + 12 + 12 + 12 ≤ 6992697; omega⟩) hS (hsub hS.1) (hsub hS.1) (hsub hS.1) (fun E ce q9 H locs hE hBX hk9 hS hc9 hv9 hcl => ?_) (fun H locs ok hW hk9 hS => ?_)
                    · skip
                      rcases hE with t | t
                      · exact absurd (pOk_of (show i < nP by omega) hP) t.2
                      · exact absurd (inn_of (lo := 0) (hi := 10) (by omega) (show 3 ≤ 10 by omega) (by omega)) t.2.2
                    · skip
                      refine lv_topi (fun y12 ey12 => ?_)
                      obtain rfl : y12 = τ 23 i := ey12.trans (by rw [show cl (nI i) = i from nI_clamp (by omega)]; rfl)
                      refine W_meet 520 (cells + i * 66 + 2 + 2 + 2 + 2 + 2 + 2 + 2 + 2 + 2 + 2) (slots + i * 396 + 12 + 12 + 12 + 12 + 12 + 12 + 12 + 12 + 12 + 12) (fun H locs ls => (∃ z, XWz G xa ad ad2 (wmx nH nP dC τ) z H) ∧ va_S (fun q : Nat => s.heap.size ≤ q) s.heap H locs ∧ lv_has ls 24 [(20, .int (nI n)), (18, .int (sm (fun p => τ 28 p) (i + 1))), (13, .int (saF w13 (fun p => τ 29 p) (i + 1))), (17, .int (sm (fun p => τ 20 p) (i + 1))), (0, .ref b), (1, .ref xa), (2, .int (nI nH)), (3, .int (nI nP)), (4, .int (nI time)), (5, .int x5), (6, .int (nI hh)), (7, .int (nI dd)), (10, .int w10), (11, .int w11), (12, .int w12), (14, .int w14), (15, .int w15), (16, .int w16), (19, .int (nI i))]) ?_ (fun K520 => ?_)
                      · skip
                        intro H locs ls ⟨⟨z, hW⟩, hS, hl⟩
                        refine lv_iload hx hb dL_law_520 (lv_at hl 0 rfl) ?_
                        refine W_meet 538 (cells + i * 66 + 2 + 2 + 2 + 2 + 2 + 2 + 2 + 2 + 2 + 2 + 2) (slots + i * 396 + 12 + 12 + 12 + 12 + 12 + 12 + 12 + 12 + 12 + 12 + 12) (fun H locs ls => (∃ z, XWz G xa ad ad2 (wmx nH nP dC τ) z H) ∧ va_S (fun q : Nat => s.heap.size ≤ q) s.heap H locs ∧ lv_has ls 24 [(20, .int (nI n)), (18, .int (sm (fun p => τ 28 p) (i + 1))), (13, .int (saF w13 (fun p => τ 29 p) (i + 1))), (17, .int (sm (fun p => τ 20 p) (i + 1))), (0, .ref b), (1, .ref xa), (2, .int (nI nH)), (3, .int (nI nP)), (4, .int (nI time)), (5, .int x5), (6, .int (nI hh)), (7, .int (nI dd)), (10, .int w10), (11, .int w11), (12, .int w12), (14, .int w14), (15, .int w15), (16, .int w16), (19, .int (nI i))]) ?_ (fun K538 => ?_)
                        · skip
                          intro H locs ls ⟨⟨z, hW⟩, hS, hl⟩
                          refine lv_iload hx hb dL_law_538 (lv_at hl 0 rfl) ?_
                          refine W_meet 554 (cells + i * 66 + 2 + 2 + 2 + 2 + 2 + 2 + 2 + 2 + 2 + 2 + 2 + 2) (slots + i * 396 + 12 + 12 + 12 + 12 + 12 + 12 + 12 + 12 + 12 + 12 + 12 + 12) (fun H locs ls => (∃ z, XWz G xa ad ad2 (wmx nH nP dC τ) z H) ∧ va_S (fun q : Nat => s.heap.size ≤ q) s.heap H locs ∧ lv_has ls 24 [(20, .int (nI n)), (18, .int (sm (fun p => τ 28 p) (i + 1))), (13, .int (saF w13 (fun p => τ 29 p) (i + 1))), (17, .int (sm (fun p => τ 20 p) (i + 1))), (0, .ref b), (1, .ref xa), (2, .int (nI nH)), (3, .int (nI nP)), (4, .int (nI time)), (5, .int x5), (6, .int (nI hh)), (7, .int (nI dd)), (10, .int w10), (11, .int w11), (12, .int w12), (14, .int w14), (15, .int w15), (16, .int w16), (19, .int (nI i))]) ?_ (fun K554 => ?_)
                          · skip
                            intro H locs ls ⟨⟨z, hW⟩, hS, hl⟩
                            refine lv_aload_n hx hb dL_law_554 rfl (lv_at hl 5 rfl) ?_
                            refine lv_iload hx hb dL_law_555 (lv_at hl 18 rfl) ?_
                            refine lv_iconst (v := nI 5) hx hb dL_law_557 (by decide) ?_
                            refine kXi (vx_runV (As := [.int (nI i), .int (nI 5)]) (rest := []) ⟨hx, hb, hml, hown, hts⟩ (c_X3_pump l hfl G xa ad ad2 hXI nH nP hH hP dC τ z H.size (nI i) (nI 5) hv) (cwV 2 hts gL_law_X3_pump rfl rfl rfl (by decide +kernel) ⟨Nat.le_of_ble_eq_true rfl, Nat.le_of_ble_eq_true rfl⟩) ⟨Pc3.blind, va_recv hK (va_P1 hW.choose_spec.1.1) (ci := 3) (q0 := 0) rfl rfl, Pc3.pre hW hK hXK hS (hsub hS.1)⟩ rfl rfl hl.1 rfl (lv_room (Nat.le_of_ble_eq_true rfl)) dL_law_558 ⟨by show cells + i * 66 + 2 + 2 + 2 + 2 + 2 + 2 + 2 + 2 + 2 + 2 + 2 + 2 + 2 ≤ 702924; omega, by show slots + i * 396 + 12 + 12 + 12 + 12 + 12 + 12 + 12 + 12 + 12 + 12 + 12 + 12 + 12 ≤ 6992697; omega⟩) hS (hsub hS.1) (hsub hS.1) (hsub hS.1) (fun E ce q9 H locs hE hBX hk9 hS hc9 hv9 hcl => ?_) (fun H locs ok hW hk9 hS => ?_)
                            · skip
                              rcases hE with t | t
                              · exact absurd (pOk_of (show i < nP by omega) hP) t.2
                              · exact absurd (inn_of (lo := 0) (hi := 10) (by omega) (show 5 ≤ 10 by omega) (by omega)) t.2.2
                            · skip
                              refine lv_topi (fun y13 ey13 => ?_)
                              obtain rfl : y13 = τ 25 i := ey13.trans (by rw [show cl (nI i) = i from nI_clamp (by omega)]; rfl)
                              refine lv_iload_n hx hb dL_law_561 rfl (lv_at hl 6 rfl) ?_
                              refine lv_icmp_lt (tgt := 567) hx hb dL_law_562 (by decide) (fun c9 => ?_) (fun c9 => absurd (key_lt hv (show i < nP by omega)) c9)
                              refine lv_iconst (v := onF (τ (40 + i)) 0) hx hb dL_law_567 rfl ?_
                              refine lv_istore (lv' := [(21, .int (onF (τ (40 + i)) 0)), (20, .int (nI n)), (18, .int (sm (fun p => τ 28 p) (i + 1))), (13, .int (saF w13 (fun p => τ 29 p) (i + 1))), (17, .int (sm (fun p => τ 20 p) (i + 1))), (0, .ref b), (1, .ref xa), (2, .int (nI nH)), (3, .int (nI nP)), (4, .int (nI time)), (5, .int x5), (6, .int (nI hh)), (7, .int (nI dd)), (10, .int w10), (11, .int w11), (12, .int w12), (14, .int w14), (15, .int w15), (16, .int w16), (19, .int (nI i))]) hx hb dL_law_568 hl (by decide) rfl (fun ls hl => ?_)
                              refine lv_iconst (v := nI 0) hx hb dL_law_570 (by decide) ?_
                              refine lv_istore (lv' := [(22, .int (nI 0)), (21, .int (onF (τ (40 + i)) 0)), (20, .int (nI n)), (18, .int (sm (fun p => τ 28 p) (i + 1))), (13, .int (saF w13 (fun p => τ 29 p) (i + 1))), (17, .int (sm (fun p => τ 20 p) (i + 1))), (0, .ref b), (1, .ref xa), (2, .int (nI nH)), (3, .int (nI nP)), (4, .int (nI time)), (5, .int x5), (6, .int (nI hh)), (7, .int (nI dd)), (10, .int w10), (11, .int w11), (12, .int w12), (14, .int w14), (15, .int w15), (16, .int w16), (19, .int (nI i))]) hx hb dL_law_571 hl (by decide) rfl (fun ls hl => ?_)
                              refine W.widen (k := (cells + i * 66 + 2 + 2 + 2 + 2 + 2 + 2 + 2 + 2 + 2 + 2 + 2 + 2 + 2) + 0 * 4) (n := (slots + i * 396 + 12 + 12 + 12 + 12 + 12 + 12 + 12 + 12 + 12 + 12 + 12 + 12 + 12) + 0 * 24) (by omega) (by omega) ?_
                              refine W_upc (pc := 573) (cells := cells + i * 66 + 2 + 2 + 2 + 2 + 2 + 2 + 2 + 2 + 2 + 2 + 2 + 2 + 2) (slots := slots + i * 396 + 12 + 12 + 12 + 12 + 12 + 12 + 12 + 12 + 12 + 12 + 12 + 12 + 12) 4 24 n (fun j H locs ls => (∃ z, XWz G xa ad ad2 (wmx nH nP dC τ) z H) ∧ va_S (fun q : Nat => s.heap.size ≤ q) s.heap H locs ∧ lv_has ls 24 [(20, .int (nI n)), (18, .int (sm (fun p => τ 28 p) (i + 1))), (13, .int (saF w13 (fun p => τ 29 p) (i + 1))), (17, .int (sm (fun p => τ 20 p) (i + 1))), (0, .ref b), (1, .ref xa), (2, .int (nI nH)), (3, .int (nI nP)), (4, .int (nI time)), (5, .int x5), (6, .int (nI hh)), (7, .int (nI dd)), (10, .int w10), (11, .int w11), (12, .int w12), (14, .int w14), (15, .int w15), (16, .int w16), (19, .int (nI i)), (21, .int (onF (τ (40 + i)) j)), (22, .int (nI j))]) ?_ 0 (Nat.zero_le _) _ _ _ ⟨⟨z, hW⟩, hS, lv_sub hl [2, 3, 4, 5, 6, 7, 8, 9, 10, 11, 12, 13, 14, 15, 16, 17, 18, 19, 20, 1, 0] rfl⟩
                              intro j H locs ls hj ⟨⟨z, hW⟩, hS, hl⟩ ih2
                              refine lv_iload hx hb dL_law_573 (lv_at hl 20 rfl) ?_
                              refine lv_iload hx hb dL_law_575 (lv_at hl 0 rfl) ?_
                              refine lv_icmp_ge (tgt := 629) hx hb dL_law_577 (by decide) (fun c2 => ?_) (fun c2 => ?_)
                              · skip
                                replace c2 := (nI_leI (a := n) (b := j) (by omega) (by omega)).mp c2
                                obtain rfl : n = j := by omega
                                refine lv_iinc (k := 18) (v := nI (i + 1)) (lv' := [(19, .int (nI (i + 1))), (20, .int (nI n)), (18, .int (sm (fun p => τ 28 p) (i + 1))), (13, .int (saF w13 (fun p => τ 29 p) (i + 1))), (17, .int (sm (fun p => τ 20 p) (i + 1))), (0, .ref b), (1, .ref xa), (2, .int (nI nH)), (3, .int (nI nP)), (4, .int (nI time)), (5, .int x5), (6, .int (nI hh)), (7, .int (nI dd)), (10, .int w10), (11, .int w11), (12, .int w12), (14, .int w14), (15, .int w15), (16, .int w16), (21, .int (onF (τ (40 + i)) n)), (22, .int (nI n))]) hx hb dL_law_629 hl rfl (nI_add i 1) (by decide) rfl (fun ls hl => ?_)
                                refine lv_goto (tgt := 400) hx hb dL_law_632 (by decide) ?_
                                refine W.widen (k := cells + (i + 1) * 66) (n := slots + (i + 1) * 396) (by omega) (by omega) ?_
                                exact ih (by omega) _ _ _ ⟨⟨_, hW⟩, hS, lv_sub hl [5, 6, 7, 8, 9, 10, 11, 12, 13, 14, 15, 16, 17, 18, 3, 4, 2, 0] rfl⟩
                              · skip
                                replace c2 : ¬ (n ≤ j) := fun q => c2 ((nI_leI (a := n) (b := j) (by omega) (by omega)).mpr q)
                                have hk : j < sz τ i := by omega
                                obtain ⟨mm, hmm, em⟩ := i1 j (by omega)
                                have h10 : sz τ i ≤ 10 := by omega
                                refine lv_aload_n hx hb dL_law_580 rfl (lv_at hl 5 rfl) ?_
                                refine lv_iload hx hb dL_law_581 (lv_at hl 18 rfl) ?_
                                refine lv_iload hx hb dL_law_583 (lv_at hl 20 rfl) ?_
                                refine kXi (vx_runV (As := [.int (nI i), .int (nI j)]) (rest := []) ⟨hx, hb, hml, hown, hts⟩ (c_X3_roster l hfl G xa ad ad2 hXI nH nP hH hP dC τ z H.size (nI i) (nI j) hv) (cwV 2 hts gL_law_X3_roster rfl rfl rfl (by decide +kernel) ⟨Nat.le_of_ble_eq_true rfl, Nat.le_of_ble_eq_true rfl⟩) ⟨Pc3.blind, va_recv hK (va_P1 hW.choose_spec.1.1) (ci := 3) (q0 := 0) rfl rfl, Pc3.pre hW hK hXK hS (hsub hS.1)⟩ rfl rfl hl.1 rfl (lv_room (Nat.le_of_ble_eq_true rfl)) dL_law_585 ⟨by show (cells + i * 66 + 2 + 2 + 2 + 2 + 2 + 2 + 2 + 2 + 2 + 2 + 2 + 2 + 2) + j * 4 + 2 ≤ 702924; omega, by show (slots + i * 396 + 12 + 12 + 12 + 12 + 12 + 12 + 12 + 12 + 12 + 12 + 12 + 12 + 12) + j * 24 + 12 ≤ 6992697; omega⟩) hS (hsub hS.1) (hsub hS.1) (hsub hS.1) (fun E ce q9 H locs hE hBX hk9 hS hc9 hv9 hcl => ?_) (fun H locs ok hW hk9 hS => ?_)
                                · skip
                                  exact absurd (plOk_of (show i < nP by omega) hP hk h10) hE.2
                                · skip
                                  refine lv_topi (fun y14 ey14 => ?_)
                                  obtain rfl : y14 = τ (40 + i) j := ey14.trans (by rw [show cl (nI i) = i from nI_clamp (by omega), show cl (nI j) = j from nI_clamp (by omega)])
                                  refine lv_topi (fun y15 ey15 => ?_)
                                  obtain rfl : y15 = nI mm := ey15.trans em
                                  refine lv_istore (lv' := [(23, .int (nI mm)), (20, .int (nI n)), (18, .int (sm (fun p => τ 28 p) (i + 1))), (13, .int (saF w13 (fun p => τ 29 p) (i + 1))), (17, .int (sm (fun p => τ 20 p) (i + 1))), (0, .ref b), (1, .ref xa), (2, .int (nI nH)), (3, .int (nI nP)), (4, .int (nI time)), (5, .int x5), (6, .int (nI hh)), (7, .int (nI dd)), (10, .int w10), (11, .int w11), (12, .int w12), (14, .int w14), (15, .int w15), (16, .int w16), (19, .int (nI i)), (21, .int (onF (τ (40 + i)) j)), (22, .int (nI j))]) hx hb dL_law_588 hl (by decide) rfl (fun ls hl => ?_)
                                  refine lv_iload hx hb dL_law_590 (lv_at hl 20 rfl) ?_
                                  refine lv_iload hx hb dL_law_592 (lv_at hl 0 rfl) ?_
                                  refine lv_ishr hx hb dL_law_594 ?_
                                  refine lv_iconst (v := nI 1) hx hb dL_law_595 (by decide) ?_
                                  refine lv_iand hx hb dL_law_596 ?_
                                  refine lv_iconst (v := nI 1) hx hb dL_law_597 (by decide) ?_
                                  refine lv_icmp_eq (tgt := 612) hx hb dL_law_598 (by decide) (fun c9 => absurd c9 (on_free (fun a ha => (i1 a (by omega)).imp (fun m9 h9 => ⟨by omega, h9.2⟩)) (show mm < 10 by omega) (fun a ha e9 => i2 a j ha (by omega) (e9.trans em.symm)))) (fun c9 => ?_)
                                  refine lv_aload_n hx hb dL_law_601 rfl (lv_at hl 6 rfl) ?_
                                  refine lv_iload hx hb dL_law_602 (lv_at hl 0 rfl) ?_
                                  refine lv_iconst (v := nI 3) hx hb dL_law_604 (by decide) ?_
                                  refine kXi (vx_runV (As := [.int (nI mm), .int (nI 3)]) (rest := []) ⟨hx, hb, hml, hown, hts⟩ (c_X3_house l hfl G xa ad ad2 hXI nH nP hH hP dC τ z H.size (nI mm) (nI 3) hv) (cwV 2 hts gL_law_X3_house rfl rfl rfl (by decide +kernel) ⟨Nat.le_of_ble_eq_true rfl, Nat.le_of_ble_eq_true rfl⟩) ⟨Pc3.blind, va_recv hK (va_P1 hW.choose_spec.1.1) (ci := 3) (q0 := 0) rfl rfl, Pc3.pre hW hK hXK hS (hsub hS.1)⟩ rfl rfl hl.1 rfl (lv_room (Nat.le_of_ble_eq_true rfl)) dL_law_605 ⟨by show (cells + i * 66 + 2 + 2 + 2 + 2 + 2 + 2 + 2 + 2 + 2 + 2 + 2 + 2 + 2) + j * 4 + 2 + 2 ≤ 702924; omega, by show (slots + i * 396 + 12 + 12 + 12 + 12 + 12 + 12 + 12 + 12 + 12 + 12 + 12 + 12 + 12) + j * 24 + 12 + 12 ≤ 6992697; omega⟩) hS (hsub hS.1) (hsub hS.1) (hsub hS.1) (fun E ce q9 H locs hE hBX hk9 hS hc9 hv9 hcl => ?_) (fun H locs ok hW hk9 hS => ?_)
                                  · skip
                                    rcases hE with t | t
                                    · exact absurd (hOk_of (show mm < nH by omega) hH) t.2
                                    · exact absurd (inn_of (lo := 0) (hi := 10) (by omega) (show 3 ≤ 10 by omega) (by omega)) t.2.2
                                  · skip
                                    refine lv_topi (fun y16 ey16 => ?_)
                                    obtain rfl : y16 = τ 4 mm := ey16.trans (by rw [show cl (nI mm) = mm from nI_clamp (by omega)]; rfl)
                                    refine lv_iconst (v := nI 2) hx hb dL_law_608 (by decide) ?_
                                    refine lv_icmp_le (tgt := 614) hx hb dL_law_609 (by decide) (fun c9 => ?_) (fun c9 => absurd (marks_2 hq (show i < nP by omega) hk em hmm) c9)
                                    refine lv_iload hx hb dL_law_614 (lv_at hl 20 rfl) ?_
                                    refine lv_iconst (v := nI 1) hx hb dL_law_616 (by decide) ?_
                                    refine lv_iload hx hb dL_law_617 (lv_at hl 0 rfl) ?_
                                    refine lv_ishl hx hb dL_law_619 ?_
                                    refine lv_ior hx hb dL_law_620 ?_
                                    refine lv_topi (fun y17 ey17 => ?_)
                                    obtain rfl : y17 = onF (τ (40 + i)) (j + 1) := ey17.trans (by rw [← em]; rfl)
                                    refine lv_istore (lv' := [(21, .int (onF (τ (40 + i)) (j + 1))), (23, .int (nI mm)), (20, .int (nI n)), (18, .int (sm (fun p => τ 28 p) (i + 1))), (13, .int (saF w13 (fun p => τ 29 p) (i + 1))), (17, .int (sm (fun p => τ 20 p) (i + 1))), (0, .ref b), (1, .ref xa), (2, .int (nI nH)), (3, .int (nI nP)), (4, .int (nI time)), (5, .int x5), (6, .int (nI hh)), (7, .int (nI dd)), (10, .int w10), (11, .int w11), (12, .int w12), (14, .int w14), (15, .int w15), (16, .int w16), (19, .int (nI i)), (22, .int (nI j))]) hx hb dL_law_621 hl (by decide) rfl (fun ls hl => ?_)
                                    refine lv_iinc (k := 21) (v := nI (j + 1)) (lv' := [(22, .int (nI (j + 1))), (21, .int (onF (τ (40 + i)) (j + 1))), (23, .int (nI mm)), (20, .int (nI n)), (18, .int (sm (fun p => τ 28 p) (i + 1))), (13, .int (saF w13 (fun p => τ 29 p) (i + 1))), (17, .int (sm (fun p => τ 20 p) (i + 1))), (0, .ref b), (1, .ref xa), (2, .int (nI nH)), (3, .int (nI nP)), (4, .int (nI time)), (5, .int x5), (6, .int (nI hh)), (7, .int (nI dd)), (10, .int w10), (11, .int w11), (12, .int w12), (14, .int w14), (15, .int w15), (16, .int w16), (19, .int (nI i))]) hx hb dL_law_623 hl rfl (nI_add j 1) (by decide) rfl (fun ls hl => ?_)
                                    refine lv_goto (tgt := 573) hx hb dL_law_626 (by decide) ?_
                                    refine W.widen (k := (cells + i * 66 + 2 + 2 + 2 + 2 + 2 + 2 + 2 + 2 + 2 + 2 + 2 + 2 + 2) + (j + 1) * 4) (n := (slots + i * 396 + 12 + 12 + 12 + 12 + 12 + 12 + 12 + 12 + 12 + 12 + 12 + 12 + 12) + (j + 1) * 24) (by omega) (by omega) ?_
                                    exact ih2 (by omega) _ _ _ ⟨⟨_, hW⟩, hS, lv_sub hl [3, 4, 5, 6, 7, 8, 9, 10, 11, 12, 13, 14, 15, 16, 17, 18, 19, 20, 21, 1, 0] rfl⟩
                          · skip
                            refine lv_if_ne (tgt := 554) hx hb dL_law_540 (by decide) (fun c540 => ?_) (fun c540 => ?_)
                            · skip
                              refine W.widen (k := cells + i * 66 + 2 + 2 + 2 + 2 + 2 + 2 + 2 + 2 + 2 + 2 + 2 + 2) (n := slots + i * 396 + 12 + 12 + 12 + 12 + 12 + 12 + 12 + 12 + 12 + 12 + 12 + 12) (by omega) (by omega) ?_
                              exact K554 _ _ _ ⟨⟨_, hW⟩, hS, lv_sub hl [0, 1, 2, 3, 4, 5, 6, 7, 8, 9, 10, 11, 12, 13, 14, 15, 16, 17, 18] rfl⟩
                            · skip
                              refine lv_aload_n hx hb dL_law_543 rfl (lv_at hl 5 rfl) ?_
                              refine lv_iload hx hb dL_law_544 (lv_at hl 18 rfl) ?_
                              refine lv_bipush (v := nI 7) hx hb dL_law_546 (by decide) ?_
                              refine kXi (vx_runV (As := [.int (nI i), .int (nI 7)]) (rest := []) ⟨hx, hb, hml, hown, hts⟩ (c_X3_pump l hfl G xa ad ad2 hXI nH nP hH hP dC τ z H.size (nI i) (nI 7) hv) (cwV 2 hts gL_law_X3_pump rfl rfl rfl (by decide +kernel) ⟨Nat.le_of_ble_eq_true rfl, Nat.le_of_ble_eq_true rfl⟩) ⟨Pc3.blind, va_recv hK (va_P1 hW.choose_spec.1.1) (ci := 3) (q0 := 0) rfl rfl, Pc3.pre hW hK hXK hS (hsub hS.1)⟩ rfl rfl hl.1 rfl (lv_room (Nat.le_of_ble_eq_true rfl)) dL_law_548 ⟨by show cells + i * 66 + 2 + 2 + 2 + 2 + 2 + 2 + 2 + 2 + 2 + 2 + 2 + 2 ≤ 702924; omega, by show slots + i * 396 + 12 + 12 + 12 + 12 + 12 + 12 + 12 + 12 + 12 + 12 + 12 + 12 ≤ 6992697; omega⟩) hS (hsub hS.1) (hsub hS.1) (hsub hS.1) (fun E ce q9 H locs hE hBX hk9 hS hc9 hv9 hcl => ?_) (fun H locs ok hW hk9 hS => ?_)
                              · skip
                                rcases hE with t | t
                                · exact absurd (pOk_of (show i < nP by omega) hP) t.2
                                · exact absurd (inn_of (lo := 0) (hi := 10) (by omega) (show 7 ≤ 10 by omega) (by omega)) t.2.2
                              · skip
                                refine lv_topi (fun y13 ey13 => ?_)
                                obtain rfl : y13 = τ 27 i := ey13.trans (by rw [show cl (nI i) = i from nI_clamp (by omega)]; rfl)
                                refine lv_if_ne (tgt := 565) hx hb dL_law_551 (by decide) (fun c9 => absurd c9 (fun w => w (by rw [e27]; have h0 := (nI_eq (a := n) (b := 0) (by omega) (by omega)).mp c540; rw [show tt = 0 by omega]; rfl))) (fun c9 => ?_)
                                refine W.widen (k := cells + i * 66 + 2 + 2 + 2 + 2 + 2 + 2 + 2 + 2 + 2 + 2 + 2 + 2) (n := slots + i * 396 + 12 + 12 + 12 + 12 + 12 + 12 + 12 + 12 + 12 + 12 + 12 + 12) (by omega) (by omega) ?_
                                exact K554 _ _ _ ⟨⟨_, hW⟩, hS, lv_sub hl [0, 1, 2, 3, 4, 5, 6, 7, 8, 9, 10, 11, 12, 13, 14, 15, 16, 17, 18] rfl⟩
                        · skip
                          refine lv_if_le (tgt := 538) hx hb dL_law_522 (by decide) (fun c522 => ?_) (fun c522 => ?_)
                          · skip
                            refine W.widen (k := cells + i * 66 + 2 + 2 + 2 + 2 + 2 + 2 + 2 + 2 + 2 + 2 + 2) (n := slots + i * 396 + 12 + 12 + 12 + 12 + 12 + 12 + 12 + 12 + 12 + 12 + 12) (by omega) (by omega) ?_
                            exact K538 _ _ _ ⟨⟨_, hW⟩, hS, lv_sub hl [0, 1, 2, 3, 4, 5, 6, 7, 8, 9, 10, 11, 12, 13, 14, 15, 16, 17, 18] rfl⟩
                          · skip
                            refine lv_aload_n hx hb dL_law_525 rfl (lv_at hl 5 rfl) ?_
                            refine lv_iload hx hb dL_law_526 (lv_at hl 18 rfl) ?_
                            refine lv_bipush (v := nI 7) hx hb dL_law_528 (by decide) ?_
                            refine kXi (vx_runV (As := [.int (nI i), .int (nI 7)]) (rest := []) ⟨hx, hb, hml, hown, hts⟩ (c_X3_pump l hfl G xa ad ad2 hXI nH nP hH hP dC τ z H.size (nI i) (nI 7) hv) (cwV 2 hts gL_law_X3_pump rfl rfl rfl (by decide +kernel) ⟨Nat.le_of_ble_eq_true rfl, Nat.le_of_ble_eq_true rfl⟩) ⟨Pc3.blind, va_recv hK (va_P1 hW.choose_spec.1.1) (ci := 3) (q0 := 0) rfl rfl, Pc3.pre hW hK hXK hS (hsub hS.1)⟩ rfl rfl hl.1 rfl (lv_room (Nat.le_of_ble_eq_true rfl)) dL_law_530 ⟨by show cells + i * 66 + 2 + 2 + 2 + 2 + 2 + 2 + 2 + 2 + 2 + 2 + 2 ≤ 702924; omega, by show slots + i * 396 + 12 + 12 + 12 + 12 + 12 + 12 + 12 + 12 + 12 + 12 + 12 ≤ 6992697; omega⟩) hS (hsub hS.1) (hsub hS.1) (hsub hS.1) (fun E ce q9 H locs hE hBX hk9 hS hc9 hv9 hcl => ?_) (fun H locs ok hW hk9 hS => ?_)
                            · skip
                              rcases hE with t | t
                              · exact absurd (pOk_of (show i < nP by omega) hP) t.2
                              · exact absurd (inn_of (lo := 0) (hi := 10) (by omega) (show 7 ≤ 10 by omega) (by omega)) t.2.2
                            · skip
                              refine lv_topi (fun y13 ey13 => ?_)
                              obtain rfl : y13 = τ 27 i := ey13.trans (by rw [show cl (nI i) = i from nI_clamp (by omega)]; rfl)
                              refine lv_iload hx hb dL_law_533 (lv_at hl 0 rfl) ?_
                              refine lv_icmp_ge (tgt := 565) hx hb dL_law_535 (by decide) (fun c9 => absurd c9 (by rw [e27]; have h0 : ¬ n = 0 := fun w => c522 (by rw [w]; exact Int32.le_refl _); exact nI_ge (show tt < n by omega) (by omega))) (fun c9 => ?_)
                              refine W.widen (k := cells + i * 66 + 2 + 2 + 2 + 2 + 2 + 2 + 2 + 2 + 2 + 2 + 2) (n := slots + i * 396 + 12 + 12 + 12 + 12 + 12 + 12 + 12 + 12 + 12 + 12 + 12) (by omega) (by omega) ?_
                              exact K538 _ _ _ ⟨⟨_, hW⟩, hS, lv_sub hl [0, 1, 2, 3, 4, 5, 6, 7, 8, 9, 10, 11, 12, 13, 14, 15, 16, 17, 18] rfl⟩
                      · skip
                        refine lv_if_ne (tgt := 520) hx hb dL_law_505 (by decide) (fun c505 => ?_) (fun c505 => ?_)
                        · skip
                          refine W.widen (k := cells + i * 66 + 2 + 2 + 2 + 2 + 2 + 2 + 2 + 2 + 2 + 2) (n := slots + i * 396 + 12 + 12 + 12 + 12 + 12 + 12 + 12 + 12 + 12 + 12) (by omega) (by omega) ?_
                          exact K520 _ _ _ ⟨⟨_, hW⟩, hS, lv_sub hl [0, 1, 2, 3, 4, 5, 6, 7, 8, 9, 10, 11, 12, 13, 14, 15, 16, 17, 18] rfl⟩
                        · skip
                          refine lv_aload_n hx hb dL_law_508 rfl (lv_at hl 5 rfl) ?_
                          refine lv_iload hx hb dL_law_509 (lv_at hl 18 rfl) ?_
                          refine lv_iconst (v := nI 2) hx hb dL_law_511 (by decide) ?_
                          refine kXi (vx_runV (As := [.int (nI i), .int (nI 2)]) (rest := []) ⟨hx, hb, hml, hown, hts⟩ (c_X3_pump l hfl G xa ad ad2 hXI nH nP hH hP dC τ z H.size (nI i) (nI 2) hv) (cwV 2 hts gL_law_X3_pump rfl rfl rfl (by decide +kernel) ⟨Nat.le_of_ble_eq_true rfl, Nat.le_of_ble_eq_true rfl⟩) ⟨Pc3.blind, va_recv hK (va_P1 hW.choose_spec.1.1) (ci := 3) (q0 := 0) rfl rfl, Pc3.pre hW hK hXK hS (hsub hS.1)⟩ rfl rfl hl.1 rfl (lv_room (Nat.le_of_ble_eq_true rfl)) dL_law_512 ⟨by show cells + i * 66 + 2 + 2 + 2 + 2 + 2 + 2 + 2 + 2 + 2 + 2 ≤ 702924; omega, by show slots + i * 396 + 12 + 12 + 12 + 12 + 12 + 12 + 12 + 12 + 12 + 12 ≤ 6992697; omega⟩) hS (hsub hS.1) (hsub hS.1) (hsub hS.1) (fun E ce q9 H locs hE hBX hk9 hS hc9 hv9 hcl => ?_) (fun H locs ok hW hk9 hS => ?_)
                          · skip
                            rcases hE with t | t
                            · exact absurd (pOk_of (show i < nP by omega) hP) t.2
                            · exact absurd (inn_of (lo := 0) (hi := 10) (by omega) (show 2 ≤ 10 by omega) (by omega)) t.2.2
                          · skip
                            refine lv_topi (fun y13 ey13 => ?_)
                            obtain rfl : y13 = τ 22 i := ey13.trans (by rw [show cl (nI i) = i from nI_clamp (by omega)]; rfl)
                            refine lv_bipush (v := nI 99) hx hb dL_law_515 (by decide) ?_
                            refine lv_icmp_gt (tgt := 565) hx hb dL_law_517 (by decide) (fun c9 => absurd c9 (lt100 (b22 c505))) (fun c9 => ?_)
                            refine W.widen (k := cells + i * 66 + 2 + 2 + 2 + 2 + 2 + 2 + 2 + 2 + 2 + 2) (n := slots + i * 396 + 12 + 12 + 12 + 12 + 12 + 12 + 12 + 12 + 12 + 12) (by omega) (by omega) ?_
                            exact K520 _ _ _ ⟨⟨_, hW⟩, hS, lv_sub hl [0, 1, 2, 3, 4, 5, 6, 7, 8, 9, 10, 11, 12, 13, 14, 15, 16, 17, 18] rfl⟩
