set_option maxHeartbeats 4000000 in
set_option maxRecDepth 100000 in
theorem sg_C {p : Program} {l : Launch} {e : Env} {s : State} {m : MethodId} {below : List Frame} {meth : Method} {c : Code} {b L : Nat} {xs : Nat → Int32} {G : wG} {xa : Nat} {ad ad2 : Nat → Nat} {Q : State → Prop} (CC : LwS p l s m c b L xs G xa ad ad2) {nH nP d : Nat} {τ : wS} {time hh dd : Nat} {x5 w10 w11 : Int32} (hq : LQ nH nP d τ) {H : Heap} {locs : List Loc} {cells slots : Nat} {ls : Array Slot} (hW : (∃ z, XWz G xa ad ad2 (wmx nH nP dC τ) z H)) (hS : va_S (fun q : Nat => s.heap.size ≤ q) s.heap H locs) (hl : lv_has ls 24 [(0, .ref b), (1, .ref xa), (2, .int (nI nH)), (3, .int (nI nP)), (4, .int (nI time)), (5, .int x5), (6, .int (nI hh)), (7, .int (nI dd)), (10, .int w10), (11, .int w11)]) (hc : cells + 18 ≤ 702924) (hs : slots + 108 ≤ 6992697)
    (kk : ∀ (H1 : Heap) (locs1 : List Loc) (ls1 : Array Slot), (∃ z, XWz G xa ad ad2 (wmx nH nP dC τ) z H1) → va_S (fun q : Nat => s.heap.size ≤ q) s.heap H1 locs1 → lv_has ls1 24 [(0, .ref b), (1, .ref xa), (2, .int (nI nH)), (3, .int (nI nP)), (4, .int (nI time)), (5, .int x5), (6, .int (nI hh)), (7, .int (nI dd)), (10, .int w10), (11, .int w11), (12, .int (sm (fun p => τ 20 p) nP)), (13, .int (sbF 0 (fun p => τ 29 p) nP)), (14, .int (sm (fun p => nI dd * τ 21 p) nP))] → W p l e room_1 s m #[Value.ref b] below meth c H1 locs1 (cells + 18) (slots + 108) Q (F0 m 375 ls1 [])) : W p l e room_1 s m #[Value.ref b] below meth c H locs (cells) (slots) Q (F0 m 311 ls []) := by
  obtain ⟨hx, hb, hml, hown, hts, hX, hbl, hL, hfl, hK, hXK, hXI, hF, htab⟩ := CC
  have hv := hq.1
  have hH := hv.1
  have hP := hv.2.1
  have hbA : ¬ (fun q : Nat => s.heap.size ≤ q) b := Nat.not_le.mpr hbl
  have hsub : ∀ {n9 : Nat}, s.heap.size ≤ n9 → ∀ q, AX ad ad2 n9 q → s.heap.size ≤ q := fun h q hq => lw_sub hF h hq
  have hsubV : ∀ q, AV ad 19 q → s.heap.size ≤ q := fun q ⟨k, hk, e⟩ => by rw [e]; exact (hF k hk).1
  obtain ⟨z, hW⟩ := hW
  refine lv_iconst (v := sm (fun p => τ 20 p) 0) hx hb dL_law_311 rfl ?_
  refine lv_istore (lv' := [(12, .int (sm (fun p => τ 20 p) 0)), (0, .ref b), (1, .ref xa), (2, .int (nI nH)), (3, .int (nI nP)), (4, .int (nI time)), (5, .int x5), (6, .int (nI hh)), (7, .int (nI dd)), (10, .int w10), (11, .int w11)]) hx hb dL_law_312 hl (by decide) rfl (fun ls hl => ?_)
  refine lv_iconst (v := sbF 0 (fun p => τ 29 p) 0) hx hb dL_law_314 rfl ?_
  refine lv_istore (lv' := [(13, .int (sbF 0 (fun p => τ 29 p) 0)), (12, .int (sm (fun p => τ 20 p) 0)), (0, .ref b), (1, .ref xa), (2, .int (nI nH)), (3, .int (nI nP)), (4, .int (nI time)), (5, .int x5), (6, .int (nI hh)), (7, .int (nI dd)), (10, .int w10), (11, .int w11)]) hx hb dL_law_315 hl (by decide) rfl (fun ls hl => ?_)
  refine lv_iconst (v := sm (fun p => nI dd * τ 21 p) 0) hx hb dL_law_317 rfl ?_
  refine lv_istore (lv' := [(14, .int (sm (fun p => nI dd * τ 21 p) 0)), (13, .int (sbF 0 (fun p => τ 29 p) 0)), (12, .int (sm (fun p => τ 20 p) 0)), (0, .ref b), (1, .ref xa), (2, .int (nI nH)), (3, .int (nI nP)), (4, .int (nI time)), (5, .int x5), (6, .int (nI hh)), (7, .int (nI dd)), (10, .int w10), (11, .int w11)]) hx hb dL_law_318 hl (by decide) rfl (fun ls hl => ?_)
  refine lv_iconst (v := nI 0) hx hb dL_law_320 (by decide) ?_
  refine lv_istore (lv' := [(15, .int (nI 0)), (14, .int (sm (fun p => nI dd * τ 21 p) 0)), (13, .int (sbF 0 (fun p => τ 29 p) 0)), (12, .int (sm (fun p => τ 20 p) 0)), (0, .ref b), (1, .ref xa), (2, .int (nI nH)), (3, .int (nI nP)), (4, .int (nI time)), (5, .int x5), (6, .int (nI hh)), (7, .int (nI dd)), (10, .int w10), (11, .int w11)]) hx hb dL_law_321 hl (by decide) rfl (fun ls hl => ?_)
  refine W.widen (k := cells + 0 * 6) (n := slots + 0 * 36) (by omega) (by omega) ?_
  refine W_upc (pc := 323) (cells := cells) (slots := slots) 6 36 nP (fun i H locs ls => (∃ z, XWz G xa ad ad2 (wmx nH nP dC τ) z H) ∧ va_S (fun q : Nat => s.heap.size ≤ q) s.heap H locs ∧ lv_has ls 24 [(0, .ref b), (1, .ref xa), (2, .int (nI nH)), (3, .int (nI nP)), (4, .int (nI time)), (5, .int x5), (6, .int (nI hh)), (7, .int (nI dd)), (10, .int w10), (11, .int w11), (12, .int (sm (fun p => τ 20 p) i)), (13, .int (sbF 0 (fun p => τ 29 p) i)), (14, .int (sm (fun p => nI dd * τ 21 p) i)), (15, .int (nI i))]) ?_ 0 (Nat.zero_le _) _ _ _ ⟨⟨z, hW⟩, hS, lv_sub hl [4, 5, 6, 7, 8, 9, 10, 11, 12, 13, 3, 2, 1, 0] rfl⟩
  intro i H locs ls hi ⟨⟨z, hW⟩, hS, hl⟩ ih
  refine lv_iload hx hb dL_law_323 (lv_at hl 13 rfl) ?_
  refine lv_iload_n hx hb dL_law_325 rfl (lv_at hl 3 rfl) ?_
  refine lv_icmp_ge (tgt := 375) hx hb dL_law_326 (by decide) (fun c => ?_) (fun c => ?_)
  · skip
    replace c := (nI_leI (a := nP) (b := i) (by omega) (by omega)).mp c
    obtain rfl : nP = i := by omega
    refine W.widen (k := cells + 18) (n := slots + 108) (by omega) (by omega) ?_
    exact kk _ _ _ ⟨z, hW⟩ hS (lv_sub hl [0, 1, 2, 3, 4, 5, 6, 7, 8, 9, 10, 11, 12] rfl)
  · skip
    replace c : ¬ (nP ≤ i) := fun q => c ((nI_leI (a := nP) (b := i) (by omega) (by omega)).mpr q)
    refine lv_iload hx hb dL_law_329 (lv_at hl 10 rfl) ?_
    refine lv_aload_n hx hb dL_law_331 rfl (lv_at hl 1 rfl) ?_
    refine lv_iload hx hb dL_law_332 (lv_at hl 13 rfl) ?_
    refine lv_iconst (v := nI 0) hx hb dL_law_334 (by decide) ?_
    refine kXi (vx_runV (As := [.int (nI i), .int (nI 0)]) (rest := [.int (sm (fun p => τ 20 p) i)]) ⟨hx, hb, hml, hown, hts⟩ (c_X3_pump l hfl G xa ad ad2 hXI nH nP hH hP dC τ z H.size (nI i) (nI 0) hv) (cwV 2 hts gL_law_X3_pump rfl rfl rfl (by decide +kernel) ⟨Nat.le_of_ble_eq_true rfl, Nat.le_of_ble_eq_true rfl⟩) ⟨Pc3.blind, va_recv hK (va_P1 hW.choose_spec.1.1) (ci := 3) (q0 := 0) rfl rfl, Pc3.pre hW hK hXK hS (hsub hS.1)⟩ rfl rfl hl.1 rfl (lv_room (Nat.le_of_ble_eq_true rfl)) dL_law_335 ⟨by show cells + i * 6 + 2 ≤ 702924; omega, by show slots + i * 36 + 12 ≤ 6992697; omega⟩) hS (hsub hS.1) (hsub hS.1) (hsub hS.1) (fun E ce q9 H locs hE hBX hk9 hS hc9 hv9 hcl => ?_) (fun H locs ok hW hk9 hS => ?_)
    · skip
      rcases hE with t | t
      · exact absurd (pOk_of (show i < nP by omega) hP) t.2
      · exact absurd (inn_of (lo := 0) (hi := 10) (by omega) (show 0 ≤ 10 by omega) (by omega)) t.2.2
    · skip
      refine lv_topi (fun y0 ey0 => ?_)
      obtain rfl : y0 = τ 20 i := ey0.trans (by rw [show cl (nI i) = i from nI_clamp (by omega)]; rfl)
      refine lv_iadd hx hb dL_law_338 ?_
      refine lv_topi (fun y1 ey1 => ?_)
      obtain rfl : y1 = sm (fun p => τ 20 p) (i + 1) := ey1.trans rfl
      refine lv_istore (lv' := [(12, .int (sm (fun p => τ 20 p) (i + 1))), (0, .ref b), (1, .ref xa), (2, .int (nI nH)), (3, .int (nI nP)), (4, .int (nI time)), (5, .int x5), (6, .int (nI hh)), (7, .int (nI dd)), (10, .int w10), (11, .int w11), (13, .int (sbF 0 (fun p => τ 29 p) i)), (14, .int (sm (fun p => nI dd * τ 21 p) i)), (15, .int (nI i))]) hx hb dL_law_339 hl (by decide) rfl (fun ls hl => ?_)
      refine lv_iload hx hb dL_law_341 (lv_at hl 11 rfl) ?_
      refine lv_aload_n hx hb dL_law_343 rfl (lv_at hl 2 rfl) ?_
      refine lv_iload hx hb dL_law_344 (lv_at hl 13 rfl) ?_
      refine lv_bipush (v := nI 9) hx hb dL_law_346 (by decide) ?_
      refine kXi (vx_runV (As := [.int (nI i), .int (nI 9)]) (rest := [.int (sbF 0 (fun p => τ 29 p) i)]) ⟨hx, hb, hml, hown, hts⟩ (c_X3_pump l hfl G xa ad ad2 hXI nH nP hH hP dC τ z H.size (nI i) (nI 9) hv) (cwV 2 hts gL_law_X3_pump rfl rfl rfl (by decide +kernel) ⟨Nat.le_of_ble_eq_true rfl, Nat.le_of_ble_eq_true rfl⟩) ⟨Pc3.blind, va_recv hK (va_P1 hW.choose_spec.1.1) (ci := 3) (q0 := 0) rfl rfl, Pc3.pre hW hK hXK hS (hsub hS.1)⟩ rfl rfl hl.1 rfl (lv_room (Nat.le_of_ble_eq_true rfl)) dL_law_348 ⟨by show cells + i * 6 + 2 + 2 ≤ 702924; omega, by show slots + i * 36 + 12 + 12 ≤ 6992697; omega⟩) hS (hsub hS.1) (hsub hS.1) (hsub hS.1) (fun E ce q9 H locs hE hBX hk9 hS hc9 hv9 hcl => ?_) (fun H locs ok hW hk9 hS => ?_)
      · skip
        rcases hE with t | t
        · exact absurd (pOk_of (show i < nP by omega) hP) t.2
        · exact absurd (inn_of (lo := 0) (hi := 10) (by omega) (show 9 ≤ 10 by omega) (by omega)) t.2.2
      · skip
        refine lv_topi (fun y2 ey2 => ?_)
        obtain rfl : y2 = τ 29 i := ey2.trans (by rw [show cl (nI i) = i from nI_clamp (by omega)]; rfl)
        refine lv_isub hx hb dL_law_351 ?_
        refine lv_topi (fun y3 ey3 => ?_)
        obtain rfl : y3 = sbF 0 (fun p => τ 29 p) (i + 1) := ey3.trans rfl
        refine lv_istore (lv' := [(13, .int (sbF 0 (fun p => τ 29 p) (i + 1))), (12, .int (sm (fun p => τ 20 p) (i + 1))), (0, .ref b), (1, .ref xa), (2, .int (nI nH)), (3, .int (nI nP)), (4, .int (nI time)), (5, .int x5), (6, .int (nI hh)), (7, .int (nI dd)), (10, .int w10), (11, .int w11), (14, .int (sm (fun p => nI dd * τ 21 p) i)), (15, .int (nI i))]) hx hb dL_law_352 hl (by decide) rfl (fun ls hl => ?_)
        refine lv_iload hx hb dL_law_354 (lv_at hl 12 rfl) ?_
        refine lv_iload hx hb dL_law_356 (lv_at hl 9 rfl) ?_
        refine lv_aload_n hx hb dL_law_358 rfl (lv_at hl 3 rfl) ?_
        refine lv_iload hx hb dL_law_359 (lv_at hl 13 rfl) ?_
        refine lv_iconst (v := nI 1) hx hb dL_law_361 (by decide) ?_
        refine kXi (vx_runV (As := [.int (nI i), .int (nI 1)]) (rest := [.int (nI dd), .int (sm (fun p => nI dd * τ 21 p) i)]) ⟨hx, hb, hml, hown, hts⟩ (c_X3_pump l hfl G xa ad ad2 hXI nH nP hH hP dC τ z H.size (nI i) (nI 1) hv) (cwV 2 hts gL_law_X3_pump rfl rfl rfl (by decide +kernel) ⟨Nat.le_of_ble_eq_true rfl, Nat.le_of_ble_eq_true rfl⟩) ⟨Pc3.blind, va_recv hK (va_P1 hW.choose_spec.1.1) (ci := 3) (q0 := 0) rfl rfl, Pc3.pre hW hK hXK hS (hsub hS.1)⟩ rfl rfl hl.1 rfl (lv_room (Nat.le_of_ble_eq_true rfl)) dL_law_362 ⟨by show cells + i * 6 + 2 + 2 + 2 ≤ 702924; omega, by show slots + i * 36 + 12 + 12 + 12 ≤ 6992697; omega⟩) hS (hsub hS.1) (hsub hS.1) (hsub hS.1) (fun E ce q9 H locs hE hBX hk9 hS hc9 hv9 hcl => ?_) (fun H locs ok hW hk9 hS => ?_)
        · skip
          rcases hE with t | t
          · exact absurd (pOk_of (show i < nP by omega) hP) t.2
          · exact absurd (inn_of (lo := 0) (hi := 10) (by omega) (show 1 ≤ 10 by omega) (by omega)) t.2.2
        · skip
          refine lv_topi (fun y4 ey4 => ?_)
          obtain rfl : y4 = τ 21 i := ey4.trans (by rw [show cl (nI i) = i from nI_clamp (by omega)]; rfl)
          refine lv_imul hx hb dL_law_365 ?_
          refine lv_iadd hx hb dL_law_366 ?_
          refine lv_topi (fun y5 ey5 => ?_)
          obtain rfl : y5 = sm (fun p => nI dd * τ 21 p) (i + 1) := ey5.trans rfl
          refine lv_istore (lv' := [(14, .int (sm (fun p => nI dd * τ 21 p) (i + 1))), (13, .int (sbF 0 (fun p => τ 29 p) (i + 1))), (12, .int (sm (fun p => τ 20 p) (i + 1))), (0, .ref b), (1, .ref xa), (2, .int (nI nH)), (3, .int (nI nP)), (4, .int (nI time)), (5, .int x5), (6, .int (nI hh)), (7, .int (nI dd)), (10, .int w10), (11, .int w11), (15, .int (nI i))]) hx hb dL_law_367 hl (by decide) rfl (fun ls hl => ?_)
          refine lv_iinc (k := 13) (v := nI (i + 1)) (lv' := [(15, .int (nI (i + 1))), (14, .int (sm (fun p => nI dd * τ 21 p) (i + 1))), (13, .int (sbF 0 (fun p => τ 29 p) (i + 1))), (12, .int (sm (fun p => τ 20 p) (i + 1))), (0, .ref b), (1, .ref xa), (2, .int (nI nH)), (3, .int (nI nP)), (4, .int (nI time)), (5, .int x5), (6, .int (nI hh)), (7, .int (nI dd)), (10, .int w10), (11, .int w11)]) hx hb dL_law_369 hl rfl (nI_add i 1) (by decide) rfl (fun ls hl => ?_)
          refine lv_goto (tgt := 323) hx hb dL_law_372 (by decide) ?_
          refine W.widen (k := cells + (i + 1) * 6) (n := slots + (i + 1) * 36) (by omega) (by omega) ?_
          exact ih (by omega) _ _ _ ⟨⟨_, hW⟩, hS, lv_sub hl [4, 5, 6, 7, 8, 9, 10, 11, 12, 13, 3, 2, 1, 0] rfl⟩
