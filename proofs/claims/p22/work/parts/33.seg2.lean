set_option maxHeartbeats 4000000 in
set_option maxRecDepth 100000 in
theorem sg_B {p : Program} {l : Launch} {e : Env} {s : State} {m : MethodId} {below : List Frame} {meth : Method} {c : Code} {b L : Nat} {xs : Nat → Int32} {G : wG} {xa : Nat} {ad ad2 : Nat → Nat} {Q : State → Prop} (CC : LwS p l s m c b L xs G xa ad ad2) {nH nP d : Nat} {τ : wS} {time hh : Nat} {x5 : Int32} (hq : LQ nH nP d τ) (ht : time < 45) (hd : d < 2 ^ 12) (hhh : hh < nH) {H : Heap} {locs : List Loc} {cells slots : Nat} {ls : Array Slot} (hW : (∃ z, XWz G xa ad ad2 (wmx nH nP dC τ) z H)) (hS : va_S (fun q : Nat => s.heap.size ≤ q) s.heap H locs) (hl : lv_has ls 24 [(0, .ref b), (1, .ref xa), (2, .int (nI nH)), (3, .int (nI nP)), (4, .int (nI time)), (5, .int x5), (6, .int (nI hh))]) (hc : cells + 6 ≤ 702924) (hs : slots + 36 ≤ 6992697)
    (kk : ∀ (dd : Nat) (H1 : Heap) (locs1 : List Loc) (ls1 : Array Slot), 1 ≤ dd → dd ≤ 3 → (∃ z, XWz G xa ad ad2 (wmx nH nP dC τ) z H1) → va_S (fun q : Nat => s.heap.size ≤ q) s.heap H1 locs1 → lv_has ls1 24 [(0, .ref b), (1, .ref xa), (2, .int (nI nH)), (3, .int (nI nP)), (4, .int (nI time)), (5, .int x5), (6, .int (nI hh)), (7, .int (nI dd)), (10, .int (sm (fun h => dysF nH nP dd τ 8 h) nH - sm (fun h => τ 8 h) nH)), (11, .int (dysF nH nP dd τ 53 0))] → W p l e room_1 s m #[Value.ref b] below meth c H1 locs1 (cells + 6) (slots + 36) Q (F0 m 311 ls1 [])) : W p l e room_1 s m #[Value.ref b] below meth c H locs (cells) (slots) Q (F0 m 237 ls []) := by
  obtain ⟨hx, hb, hml, hown, hts, hX, hbl, hL, hfl, hK, hXK, hXI, hF, htab⟩ := CC
  have hv := hq.1
  have hH := hv.1
  have hP := hv.2.1
  have hbA : ¬ (fun q : Nat => s.heap.size ≤ q) b := Nat.not_le.mpr hbl
  have hsub : ∀ {n9 : Nat}, s.heap.size ≤ n9 → ∀ q, AX ad ad2 n9 q → s.heap.size ≤ q := fun h q hq => lw_sub hF h hq
  have hsubV : ∀ q, AV ad 19 q → s.heap.size ≤ q := fun q ⟨k, hk, e⟩ => by rw [e]; exact (hF k hk).1
  obtain ⟨z, hW⟩ := hW
  refine lv_iconst (v := nI 1) hx hb dL_law_237 (by decide) ?_
  refine lv_iload hx hb dL_law_238 (lv_at hl 5 rfl) ?_
  refine lv_iconst (v := nI 5) hx hb dL_law_240 (by decide) ?_
  refine lv_ishr hx hb dL_law_241 ?_
  refine lv_iconst (v := nI 3) hx hb dL_law_242 (by decide) ?_
  refine kI (va_runS (As := [.int (x5 >>> ((nI 5) &&& 31)), .int (nI 3)]) (rest := [.int (nI 1)]) ⟨hx, hb, hml, hown, hts⟩ (c_L_below l (x5 >>> ((nI 5) &&& 31)) 3 (by omega) (by omega)) (va_cwS 2 hts gL_law_L_below rfl rfl rfl (by decide +kernel) ⟨Nat.le_of_ble_eq_true rfl, Nat.le_of_ble_eq_true rfl⟩) ⟨Pc9.blind, Pc9.pre⟩ rfl rfl hl.1 rfl (lv_room (Nat.le_of_ble_eq_true rfl)) dL_law_243 ⟨by show cells + 0 ≤ 702924; omega, by show slots + 0 ≤ 6992697; omega⟩) hS (fun q _ h => h.elim) (fun q h => h.elim) (fun H locs _ hz hk hS => ?_)
  have q243 := blF_lt (v := (x5 >>> ((nI 5) &&& 31))) (n := 3) (by omega)
  generalize blF (x5 >>> ((nI 5) &&& 31)) 3 = k243 at q243 ⊢
  have hW := hW.kept (fun q hq => hk q hq (fun h => h))
  obtain ⟨dd, hdd⟩ : ∃ dd, dd = 1 + k243 := ⟨_, rfl⟩
  refine lv_iadd hx hb dL_law_246 ?_
  refine lv_topi (fun y0 ey0 => ?_)
  obtain rfl : y0 = nI dd := ey0.trans ((nI_add 1 k243).trans (by rw [hdd]))
  refine lv_istore (lv' := [(7, .int (nI dd)), (0, .ref b), (1, .ref xa), (2, .int (nI nH)), (3, .int (nI nP)), (4, .int (nI time)), (5, .int x5), (6, .int (nI hh))]) hx hb dL_law_247 hl (by decide) rfl (fun ls hl => ?_)
  refine lv_aload_n hx hb dL_law_249 rfl (lv_at hl 2 rfl) ?_
  refine kL (va_runV (As := []) (rest := []) ⟨hx, hb, hml, hown, hts⟩ (c_X3_digest l G xa ad ad2 hXI nH nP hH hP dC τ z hv) (cwV 0 hts gL_law_X3_digest rfl rfl rfl (by decide +kernel) ⟨Nat.le_of_ble_eq_true rfl, Nat.le_of_ble_eq_true rfl⟩) ⟨Pc0.blind, va_recv hK (va_P1 hW.choose_spec.1.1) (ci := 3) (q0 := 0) rfl rfl, Pc0.pre hW hK⟩ rfl rfl hl.1 rfl (lv_room (Nat.le_of_ble_eq_true rfl)) dL_law_250 ⟨by show cells + 0 + 0 ≤ 702924; omega, by show slots + 0 + 0 ≤ 6992697; omega⟩) hS (fun q _ h => hsubV q h) hsubV (fun H locs hW hz hk hS => ?_)
  refine lv_lstore (lv' := [(8, .long (dgF nH nP τ)), (7, .int (nI dd)), (0, .ref b), (1, .ref xa), (2, .int (nI nH)), (3, .int (nI nP)), (4, .int (nI time)), (5, .int x5), (6, .int (nI hh))]) hx hb dL_law_253 hl (by decide) rfl (fun ls hl => ?_)
  refine lv_aload_n hx hb dL_law_255 rfl (lv_at hl 3 rfl) ?_
  refine lv_iload hx hb dL_law_256 (lv_at hl 1 rfl) ?_
  refine lv_iconst (v := nI 0) hx hb dL_law_258 (by decide) ?_
  refine kXi (vx_runV (As := [.int (nI dd), .int (nI 0)]) (rest := []) ⟨hx, hb, hml, hown, hts⟩ (c_X3_foresee l hfl G xa ad ad2 hXI nH nP hH hP dC τ z H.size (nI dd) (nI 0) hv) (cwV 2 hts gL_law_X3_foresee rfl rfl rfl (by decide +kernel) ⟨Nat.le_of_ble_eq_true rfl, Nat.le_of_ble_eq_true rfl⟩) ⟨Pc3.blind, va_recv hK (va_P1 hW.choose_spec.1.1) (ci := 3) (q0 := 0) rfl rfl, Pc3.pre hW hK hXK hS (hsub hS.1)⟩ rfl rfl hl.1 rfl (lv_room (Nat.le_of_ble_eq_true rfl)) dL_law_259 ⟨by show cells + 0 + 0 + 2 ≤ 702924; omega, by show slots + 0 + 0 + 12 ≤ 6992697; omega⟩) hS (hsub hS.1) (hsub hS.1) (hsub hS.1) (fun E ce q9 H locs hE hBX hk9 hS hc9 hv9 hcl => ?_) (fun H locs ok hW hk9 hS => ?_)
  · skip
    rcases hE with t | t
    · exact absurd (inn_of (lo := 1) (hi := 100) (by omega) (show dd ≤ 100 by omega) (by omega)) t.2
    · exact absurd (inn_of (lo := 0) (hi := 3) (by omega) (show 0 ≤ 3 by omega) (by omega)) t.2.2
  · skip
    refine lv_topi (fun y1 ey1 => ?_)
    obtain rfl : y1 = sm (fun h => dysF nH nP dd τ 8 h) nH - sm (fun h => τ 8 h) nH := ey1.trans (by rw [show cl (nI dd) = dd from nI_clamp (by omega)]; exact fs_0)
    obtain ⟨z, hW⟩ : ∃ z, XWz G xa ad ad2 (wmx nH nP dC τ) z H := ⟨_, hW⟩
    refine lv_istore (lv' := [(10, .int (sm (fun h => dysF nH nP dd τ 8 h) nH - sm (fun h => τ 8 h) nH)), (8, .long (dgF nH nP τ)), (7, .int (nI dd)), (0, .ref b), (1, .ref xa), (2, .int (nI nH)), (3, .int (nI nP)), (4, .int (nI time)), (5, .int x5), (6, .int (nI hh))]) hx hb dL_law_262 hl (by decide) rfl (fun ls hl => ?_)
    refine lv_aload_n hx hb dL_law_264 rfl (lv_at hl 4 rfl) ?_
    refine lv_iload hx hb dL_law_265 (lv_at hl 2 rfl) ?_
    refine lv_iconst (v := nI 1) hx hb dL_law_267 (by decide) ?_
    refine kXi (vx_runV (As := [.int (nI dd), .int (nI 1)]) (rest := []) ⟨hx, hb, hml, hown, hts⟩ (c_X3_foresee l hfl G xa ad ad2 hXI nH nP hH hP dC τ z H.size (nI dd) (nI 1) hv) (cwV 2 hts gL_law_X3_foresee rfl rfl rfl (by decide +kernel) ⟨Nat.le_of_ble_eq_true rfl, Nat.le_of_ble_eq_true rfl⟩) ⟨Pc3.blind, va_recv hK (va_P1 hW.choose_spec.1.1) (ci := 3) (q0 := 0) rfl rfl, Pc3.pre hW hK hXK hS (hsub hS.1)⟩ rfl rfl hl.1 rfl (lv_room (Nat.le_of_ble_eq_true rfl)) dL_law_268 ⟨by show cells + 0 + 0 + 2 + 2 ≤ 702924; omega, by show slots + 0 + 0 + 12 + 12 ≤ 6992697; omega⟩) hS (hsub hS.1) (hsub hS.1) (hsub hS.1) (fun E ce q9 H locs hE hBX hk9 hS hc9 hv9 hcl => ?_) (fun H locs ok hW hk9 hS => ?_)
    · skip
      rcases hE with t | t
      · exact absurd (inn_of (lo := 1) (hi := 100) (by omega) (show dd ≤ 100 by omega) (by omega)) t.2
      · exact absurd (inn_of (lo := 0) (hi := 3) (by omega) (show 1 ≤ 3 by omega) (by omega)) t.2.2
    · skip
      refine lv_topi (fun y2 ey2 => ?_)
      obtain rfl : y2 = dysF nH nP dd τ 53 0 := ey2.trans (by rw [show cl (nI dd) = dd from nI_clamp (by omega)]; exact fs_1)
      obtain ⟨z, hW⟩ : ∃ z, XWz G xa ad ad2 (wmx nH nP dC τ) z H := ⟨_, hW⟩
      refine lv_istore (lv' := [(11, .int (dysF nH nP dd τ 53 0)), (10, .int (sm (fun h => dysF nH nP dd τ 8 h) nH - sm (fun h => τ 8 h) nH)), (8, .long (dgF nH nP τ)), (7, .int (nI dd)), (0, .ref b), (1, .ref xa), (2, .int (nI nH)), (3, .int (nI nP)), (4, .int (nI time)), (5, .int x5), (6, .int (nI hh))]) hx hb dL_law_271 hl (by decide) rfl (fun ls hl => ?_)
      refine lv_iload hx hb dL_law_273 (lv_at hl 8 rfl) ?_
      refine lv_bipush (v := nI 6) hx hb dL_law_275 (by decide) ?_
      refine lv_irem hx hb dL_law_277 (by decide) ?_
      refine lv_topi (fun y3 ey3 => ?_)
      obtain rfl : y3 = nI (time % 6) := ey3.trans (pk_rem (by omega) (by decide) (by decide))
      refine W_meet 299 (cells + 0 + 0 + 2 + 2 + 2) (slots + 0 + 0 + 12 + 12 + 12) (fun H locs ls => (∃ z, XWz G xa ad ad2 (wmx nH nP dC τ) z H) ∧ va_S (fun q : Nat => s.heap.size ≤ q) s.heap H locs ∧ lv_has ls 24 [(11, .int (dysF nH nP dd τ 53 0)), (10, .int (sm (fun h => dysF nH nP dd τ 8 h) nH - sm (fun h => τ 8 h) nH)), (8, .long (dgF nH nP τ)), (7, .int (nI dd)), (0, .ref b), (1, .ref xa), (2, .int (nI nH)), (3, .int (nI nP)), (4, .int (nI time)), (5, .int x5), (6, .int (nI hh))]) ?_ (fun K299 => ?_)
      · skip
        intro H locs ls ⟨⟨z, hW⟩, hS, hl⟩
        refine lv_aload_n hx hb dL_law_299 rfl (lv_at hl 5 rfl) ?_
        refine kL (va_runV (As := []) (rest := []) ⟨hx, hb, hml, hown, hts⟩ (c_X3_digest l G xa ad ad2 hXI nH nP hH hP dC τ z hv) (cwV 0 hts gL_law_X3_digest rfl rfl rfl (by decide +kernel) ⟨Nat.le_of_ble_eq_true rfl, Nat.le_of_ble_eq_true rfl⟩) ⟨Pc0.blind, va_recv hK (va_P1 hW.choose_spec.1.1) (ci := 3) (q0 := 0) rfl rfl, Pc0.pre hW hK⟩ rfl rfl hl.1 rfl (lv_room (Nat.le_of_ble_eq_true rfl)) dL_law_300 ⟨by show cells + 0 + 0 + 2 + 2 + 2 + 0 ≤ 702924; omega, by show slots + 0 + 0 + 12 + 12 + 12 + 0 ≤ 6992697; omega⟩) hS (fun q _ h => hsubV q h) hsubV (fun H locs hW hz hk hS => ?_)
        refine lv_lload hx hb dL_law_303 (lv_at hl 2 rfl) ?_
        refine W.lcmp hx hb dL_law_305 ?_
        refine lv_if_eq (tgt := 311) hx hb dL_law_306 (by decide) (fun c9 => ?_) (fun c9 => absurd lg_cmp_self c9)
        refine W.widen (k := cells + 6) (n := slots + 36) (by omega) (by omega) ?_
        exact kk _ _ _ _ (show 1 ≤ dd by omega) (show dd ≤ 3 by omega) ⟨_, hW⟩ hS (lv_sub hl [4, 5, 6, 7, 8, 9, 10, 3, 1, 0] rfl)
      · skip
        refine lv_if_ne (tgt := 299) hx hb dL_law_278 (by decide) (fun c278 => ?_) (fun c278 => ?_)
        · skip
          refine W.widen (k := cells + 0 + 0 + 2 + 2 + 2) (n := slots + 0 + 0 + 12 + 12 + 12) (by omega) (by omega) ?_
          exact K299 _ _ _ ⟨⟨_, hW⟩, hS, lv_sub hl [0, 1, 2, 3, 4, 5, 6, 7, 8, 9, 10] rfl⟩
        · skip
          refine lv_aload_n hx hb dL_law_281 rfl (lv_at hl 5 rfl) ?_
          refine lv_iload hx hb dL_law_282 (lv_at hl 10 rfl) ?_
          refine lv_iconst (v := nI 1) hx hb dL_law_284 (by decide) ?_
          refine lv_iload hx hb dL_law_285 (lv_at hl 9 rfl) ?_
          refine lv_iconst (v := nI 4) hx hb dL_law_287 (by decide) ?_
          refine lv_ishr hx hb dL_law_288 ?_
          refine lv_bipush (v := nI 8) hx hb dL_law_289 (by decide) ?_
          refine kI (va_runS (As := [.int (x5 >>> ((nI 4) &&& 31)), .int (nI 8)]) (rest := [.int (nI 1), .int (nI hh), .ref xa]) ⟨hx, hb, hml, hown, hts⟩ (c_L_below l (x5 >>> ((nI 4) &&& 31)) 8 (by omega) (by omega)) (va_cwS 2 hts gL_law_L_below rfl rfl rfl (by decide +kernel) ⟨Nat.le_of_ble_eq_true rfl, Nat.le_of_ble_eq_true rfl⟩) ⟨Pc9.blind, Pc9.pre⟩ rfl rfl hl.1 rfl (lv_room (Nat.le_of_ble_eq_true rfl)) dL_law_291 ⟨by show cells + 0 + 0 + 2 + 2 + 0 ≤ 702924; omega, by show slots + 0 + 0 + 12 + 12 + 0 ≤ 6992697; omega⟩) hS (fun q _ h => h.elim) (fun q h => h.elim) (fun H locs _ hz hk hS => ?_)
          have q291 := blF_lt (v := (x5 >>> ((nI 4) &&& 31))) (n := 8) (by omega)
          generalize blF (x5 >>> ((nI 4) &&& 31)) 8 = ka at q291 ⊢
          have hW := hW.kept (fun q hq => hk q hq (fun h => h))
          refine lv_iadd hx hb dL_law_294 ?_
          refine lv_topi (fun y4 ey4 => ?_)
          obtain rfl : y4 = nI (1 + ka) := ey4.trans (nI_add 1 ka)
          refine kXi (vx_runV (As := [.int (nI hh), .int (nI (1 + ka))]) (rest := []) ⟨hx, hb, hml, hown, hts⟩ (c_X3_advise l hfl G xa ad ad2 hXI nH nP hH hP dC τ z H.size (nI hh) (nI (1 + ka)) hv) (cwV 2 hts gL_law_X3_advise rfl rfl rfl (by decide +kernel) ⟨Nat.le_of_ble_eq_true rfl, Nat.le_of_ble_eq_true rfl⟩) ⟨Pc3.blind, va_recv hK (va_P1 hW.choose_spec.1.1) (ci := 3) (q0 := 0) rfl rfl, Pc3.pre hW hK hXK hS (hsub hS.1)⟩ rfl rfl hl.1 rfl (lv_room (Nat.le_of_ble_eq_true rfl)) dL_law_295 ⟨by show cells + 0 + 0 + 2 + 2 + 0 + 2 ≤ 702924; omega, by show slots + 0 + 0 + 12 + 12 + 0 + 12 ≤ 6992697; omega⟩) hS (hsub hS.1) (hsub hS.1) (hsub hS.1) (fun E ce q9 H locs hE hBX hk9 hS hc9 hv9 hcl => ?_) (fun H locs ok hW hk9 hS => ?_)
          · skip
            rcases hE with t | t
            · exact absurd (hOk_of (show hh < nH by omega) hH) t.2
            · exact absurd (inn_of (lo := 1) (hi := 50) (show 1 ≤ 1 + ka by omega) (show 1 + ka ≤ 50 by omega) (by omega)) t.2.2
          · skip
            obtain ⟨z, hW⟩ : ∃ z, XWz G xa ad ad2 (wmx nH nP dC τ) z H := ⟨_, hW⟩
            refine lv_pop hx hb dL_law_298 rfl ?_
            refine W.widen (k := cells + 0 + 0 + 2 + 2 + 2) (n := slots + 0 + 0 + 12 + 12 + 12) (by omega) (by omega) ?_
            exact K299 _ _ _ ⟨⟨_, hW⟩, hS, lv_sub hl [0, 1, 2, 3, 4, 5, 6, 7, 8, 9, 10] rfl⟩
