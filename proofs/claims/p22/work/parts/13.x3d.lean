set_option maxHeartbeats 4000000 in
set_option maxRecDepth 100000 in
theorem c_X3_advise (l : Launch) (hfl : l.stackTraces = false) (G : wG) (xa : Nat) (ad ad2 : Nat → Nat) (hI : XI xa ad ad2) (nH nP : Nat) (hH : nH ≤ 10) (hP : nP ≤ 3) (δ τ z : wS) (nz : Nat) (x y : Int32) (hv : Inv nH nP τ) : vx_Met l yX3_advise wsX3_advise ({ frames := 7, cells := 2, slots := 12, locals := 138 } : Room) (Pc3 G [.ref xa, .int x, .int y] nz (XWz G xa ad ad2 (wmx nH nP δ τ) z) (AX ad ad2 nz)) (Qxi (hOk nH x ∧ inn 1 50 y) ((adI nH nP τ z (cl x) (cl y) nP).1) (XWz G xa ad ad2 (wmx nH nP δ τ) ((adI nH nP τ z (cl x) (cl y) nP).2.2)) (AX ad ad2 nz)) (Xx (fun E => (E = nIOB ∧ ¬ (hOk nH x)) ∨ (E = nIAE ∧ hOk nH x ∧ ¬ (inn 1 50 y))) (XWz G xa ad ad2 (wmx nH nP δ τ) z) (AX ad ad2 nz)) 2 12 (AX ad ad2 nz) := by
  refine vx_ofW (cc := cX3_advise) (maxL := 7) (ret := (some .int)) (by decide) rfl ?_
  intro pg ev s mid args below meth cd s₁ B hml htab hv0
  obtain ⟨rfl, rfl, hW, hK, hX⟩ := hv0
  have hx := B.exec
  have hb := B.bytes
  have hr := B.returns
  have hts := atoms_spec (ws := wsX3_advise) B.pre
  have hown : s.vm.findClass RX3 = some mid.cls := findClass_of_methodNamed B.named
  have hlocks := B.notSynchronized
  have hi0 : ∀ w ∈ wsX00, w ∈ wsX3_advise := by decide +kernel
  have hi2 : ∀ w ∈ wsX20, w ∈ wsX3_advise := by decide +kernel
  have hi3 : ∀ w ∈ wsX30, w ∈ wsX3_advise := by decide +kernel
  have k10 := hts (.fieldLink RX3 10 "PumpRoster" "village" "LPumpRoster$Village;") (by decide +kernel)
  have k52 := hts (.fieldLink RX3 52 "PumpRoster$Village" "pumpCount" "I") (by decide +kernel)
  have k16 := hts (.fieldLink RX3 16 "PumpRoster" "trial" "LPumpRoster$Village;") (by decide +kernel)
  have k34 := hts (.fieldLink RX3 34 "PumpRoster$Village" "houses" "[LPumpRoster$House;") (by decide +kernel)
  have k76 := hts (.fieldLink RX3 76 "PumpRoster$House" "firstPump" "I") (by decide +kernel)
  have hS : va_S (AX ad ad2 s.heap.size) s.heap s.heap [] := va_S.rf
  have hl := lv_entry ([.ref xa, .int x, .int y]) (n := 7) (Nat.le_of_ble_eq_true rfl)
  rw [lg_entry_eq]
  generalize (lg_sl ([.ref xa, .int x, .int y]) ++ List.replicate (7 - (lg_sl ([.ref xa, .int x, .int y])).length) Slot.unset).toArray = ls at hl ⊢
  have hl : lv_has ls 7 [(0, .ref xa), (1, .int x), (2, .int y)] := hl
  obtain ⟨σ2, hW, hz⟩ := hW
  refine lv_aload_n hx hb dX3_advise_0 rfl (lv_at hl 0 rfl) ?_
  refine lv_iload_n hx hb dX3_advise_1 rfl (lv_at hl 1 rfl) ?_
  refine kXv (vx_runV (As := [.int x]) (rest := []) ⟨hx, hb, hml, hown, hts⟩ (c_X3_requireHouse l hfl G xa ad ad2 hI nH nP hH hP δ τ σ2 s.heap.size x hv) (cwV 1 hts gX3_advise_X3_requireHouse rfl rfl rfl (by decide +kernel) ⟨Nat.le_of_ble_eq_true rfl, Nat.le_of_ble_eq_true rfl⟩) ⟨Pc3.blind, va_recv hK (va_P1 hW.1) (ci := 3) (q0 := 0) rfl rfl, Pc3.pre hW hK hX hS (fun q h => Or.inr (Or.inr (Nat.le_trans hS.1 h)))⟩ rfl rfl hl.1 rfl (lv_room (Nat.le_of_ble_eq_true rfl)) dX3_advise_2 ⟨Nat.le_of_ble_eq_true rfl, Nat.le_of_ble_eq_true rfl⟩) hS (fun q h => Or.inr (Or.inr (Nat.le_trans hS.1 h))) (fun q h => Or.inr (Or.inr (Nat.le_trans hS.1 h))) (fun q h => Or.inr (Or.inr (Nat.le_trans hS.1 h))) (fun E ce q9 H locs hE hBX hk hS hc hv9 hcl => ?_) (fun H locs ok hBX hk hS => ?_)
  · skip
    exact yO htab hlocks (Or.inl ⟨hE.1, hE.2⟩) ⟨_, hW.kept (fun q hq => hk q hq (Nat.not_le.mpr hq)), hz⟩ hS hc hv9 hcl (Nat.le_of_ble_eq_true rfl) (Nat.le_of_ble_eq_true rfl)
  · skip
    have hW := hW.kept (fun q hq => hk q hq (Nat.not_le.mpr hq))
    have o1 := ok
    obtain ⟨h, hh, rfl⟩ := hOk_nI ok hH
    refine lv_iload_n hx hb dX3_advise_5 rfl (lv_at hl 2 rfl) ?_
    refine lv_iconst (v := 1) hx hb dX3_advise_6 (by decide) ?_
    refine lv_bipush (v := 50) hx hb dX3_advise_7 (by decide) ?_
    refine kXv (vx_runS (As := [.int y, .int 1, .int 50]) (rest := []) ⟨hx, hb, hml, hown, hts⟩ (c_X3_requireArgument l hfl G H.size y 1 50) (va_cwS 3 hts gX3_advise_X3_requireArgument rfl rfl rfl (by decide +kernel) ⟨Nat.le_of_ble_eq_true rfl, Nat.le_of_ble_eq_true rfl⟩) ⟨Pc3.blind, Pc3.pre trivial hK hX hS (fun q h => Or.inr (Or.inr (Nat.le_trans hS.1 h)))⟩ rfl rfl hl.1 rfl (lv_room (Nat.le_of_ble_eq_true rfl)) dX3_advise_9 ⟨Nat.le_of_ble_eq_true rfl, Nat.le_of_ble_eq_true rfl⟩) hS (fun q h => Or.inr (Or.inr (Nat.le_trans hS.1 h))) (fun q h => Or.inr (Or.inr (Nat.le_trans hS.1 h))) (fun q h => Or.inr (Or.inr (Nat.le_trans hS.1 h))) (fun E ce q9 H locs hE hBX hk hS hc hv9 hcl => ?_) (fun H locs ok hBX hk hS => ?_)
    · skip
      exact yO htab hlocks (Or.inr (⟨hE.1, o1, hE.2⟩)) ⟨_, hW.kept (fun q hq => hk q hq (Nat.not_le.mpr hq)), hz⟩ hS hc hv9 hcl (Nat.le_of_ble_eq_true rfl) (Nat.le_of_ble_eq_true rfl)
    · skip
      have hW := hW.kept (fun q hq => hk q hq (Nat.not_le.mpr hq))
      have o2 := ok
      obtain ⟨n, hlon, hhin, rfl⟩ := inn_nI (lo := 1) (hi := 50) ok (by omega) (by omega)
      refine lv_iconst (v := (-1)) hx hb dX3_advise_12 (by decide) ?_
      refine lv_istore_n (lv' := [(3, .int (-1)), (0, .ref xa), (1, .int (nI h)), (2, .int (nI n))]) hx hb dX3_advise_13 rfl hl (by decide) rfl (fun ls hl => ?_)
      refine lv_iconst (v := 0) hx hb dX3_advise_14 (by decide) ?_
      refine lv_istore (lv' := [(4, .int 0), (3, .int (-1)), (0, .ref xa), (1, .int (nI h)), (2, .int (nI n))]) hx hb dX3_advise_15 hl (by decide) rfl (fun ls hl => ?_)
      refine lv_iconst (v := nI 0) hx hb dX3_advise_17 (by decide) ?_
      refine lv_istore (lv' := [(5, .int (nI 0)), (4, .int 0), (3, .int (-1)), (0, .ref xa), (1, .int (nI h)), (2, .int (nI n))]) hx hb dX3_advise_18 hl (by decide) rfl (fun ls hl => ?_)
      refine W_up nP (fun i H locs ls => (XWz G xa ad ad2 (wmx nH nP δ τ) (adI nH nP τ z h n i).2.2) H ∧ va_S (AX ad ad2 s.heap.size) s.heap H locs ∧ lv_has ls 7 [(0, .ref xa), (1, .int (nI h)), (2, .int (nI n)), (3, .int ((adI nH nP τ z h n i).1)), (4, .int ((adI nH nP τ z h n i).2.1)), (5, .int (nI i))]) ?_ 0 (by omega) _ _ _ ⟨⟨_, hW, hz⟩, hS, lv_sub hl [3, 4, 5, 2, 1, 0] rfl⟩
      intro i H locs ls hi ⟨hWz, hS, hl⟩ ih
      obtain ⟨σ2, hW, hz⟩ := hWz
      refine lv_iload hx hb dX3_advise_20 (lv_at hl 5 rfl) ?_
      refine lv_aload_n hx hb dX3_advise_22 rfl (lv_at hl 0 rfl) ?_
      refine rX0 hx hb hts hi3 hown hK hW k10 dX3_advise_23 ?_
      refine rV 3 (f := 52) (v := nI nP) hx hb hts hi2 hown hK hW.2.1 (by decide) (by decide) rfl hv.2.2.2.1 k52 dX3_advise_26 ?_
      refine lv_icmp_ge (tgt := 100) hx hb dX3_advise_29 (by decide) (fun c29 => ?_) (fun c29 => ?_)
      · skip
        replace c29 := (nI_leI (a := nP) (b := i) (by omega) (by omega)).mp c29
        obtain rfl : nP = i := by omega
        refine lv_iload_n hx hb dX3_advise_100 rfl (lv_at hl 3 rfl) ?_
        exact yI hx hb hr hlocks (⟨o1, o2⟩) (by rw [show cl (nI h) = h from nI_clamp (by omega), show cl (nI n) = n from nI_clamp (by omega)]; exact ⟨_, hW, hz⟩) hS (by rw [show cl (nI h) = h from nI_clamp (by omega), show cl (nI n) = n from nI_clamp (by omega)]) (Nat.le_of_ble_eq_true rfl) (Nat.le_of_ble_eq_true rfl) dX3_advise_101
      · skip
        replace c29 : ¬ (nP ≤ i) := fun q => c29 ((nI_leI (a := nP) (b := i) (by omega) (by omega)).mpr q)
        refine lv_aload_n hx hb dX3_advise_32 rfl (lv_at hl 0 rfl) ?_
        refine rX1 hx hb hts hi3 hown hK hW k16 dX3_advise_33 ?_
        refine lv_aload_n hx hb dX3_advise_36 rfl (lv_at hl 0 rfl) ?_
        refine rX0 hx hb hts hi3 hown hK hW k10 dX3_advise_37 ?_
        refine kV (va_runV (As := [.ref (ad 0)]) (rest := []) ⟨hx, hb, hml, hown, hts⟩ (c_X2_copyFrom l G ad2 ad hI.2.1 hI.2.2.1.symm nH nP hH hP σ2 σ2 δ τ hv) (cwV 1 hts gX3_advise_X2_copyFrom rfl rfl rfl (by decide +kernel) ⟨Nat.le_of_ble_eq_true rfl, Nat.le_of_ble_eq_true rfl⟩) ⟨Pc0.blind, va_recv hK (va_P1 (hW.2.2.1)) (ci := 2) (q0 := 0) rfl rfl, Pc0.pre (show (fun H => CVm G ad2 10 3 σ2 σ2 H ∧ CVm G ad nH nP δ τ H) _ from ⟨by show CV G ad2 (wmx 10 3 σ2 σ2) _; rw [wmx_self]; exact hW.2.2, hW.2.1⟩) hK⟩ rfl rfl hl.1 rfl (lv_room (Nat.le_of_ble_eq_true rfl)) dX3_advise_40 ⟨Nat.le_of_ble_eq_true rfl, Nat.le_of_ble_eq_true rfl⟩) hS (fun q _ h => Or.inr (Or.inl h)) (fun q h => Or.inr (Or.inl h)) (fun H locs hB _ hk hS => ?_)
        have hW := hW.trial hI hB hk
        have hW : XW G xa ad ad2 (wmx nH nP δ τ) (wmx nH nP (wmx 10 3 σ2 (cpyF nH nP τ σ2)) (tkF τ (adI nH nP τ z h n i).2.2)) H := ⟨hW.1, hW.2.1, copy_view hv hz hW.2.2⟩
        obtain ⟨δ2, hδ2⟩ : ∃ d, d = wmx 10 3 σ2 (cpyF nH nP τ σ2) := ⟨_, rfl⟩
        rw [← hδ2] at hW
        refine lv_aload_n hx hb dX3_advise_43 rfl (lv_at hl 0 rfl) ?_
        refine rX1 hx hb hts hi3 hown hK hW k16 dX3_advise_44 ?_
        refine rVh hx hb hts hi2 hown hK hW.2.2 k34 dX3_advise_47 ?_
        refine lv_iload_n hx hb dX3_advise_50 rfl (lv_at hl 1 rfl) ?_
        refine rHA (h := h) hx hb hK hW.2.2 (by omega) dX3_advise_51 ?_
        refine lv_iload hx hb dX3_advise_52 (lv_at hl 5 rfl) ?_
        refine xH2 7 (f := 5) (h := h) hx hb hts hi0 hown hK hI hW hS (by omega) hH (by decide) (by decide) rfl k76 dX3_advise_54 (fun H locs hW hS => ?_)
        refine lv_aload_n hx hb dX3_advise_57 rfl (lv_at hl 0 rfl) ?_
        refine rX1 hx hb hts hi3 hown hK hW k16 dX3_advise_58 ?_
        refine lv_iload_n hx hb dX3_advise_61 rfl (lv_at hl 2 rfl) ?_
        refine kI (va_runV (As := [.int (nI n)]) (rest := []) ⟨hx, hb, hml, hown, hts⟩ (c_X2_runDays l G ad2 hI.2.1 nH nP hH hP δ2 (wst (tkF τ ((adI nH nP τ z h n i).2.2)) 5 h (nI i)) n (hv.tk.set5 (Or.inl (by omega))) (by omega)) (cwV 1 hts gX3_advise_X2_runDays rfl rfl rfl (by decide +kernel) ⟨Nat.le_of_ble_eq_true rfl, Nat.le_of_ble_eq_true rfl⟩) ⟨Pc0.blind, va_recv hK (va_P1 (hW.2.2.1)) (ci := 2) (q0 := 0) rfl rfl, Pc0.pre hW.2.2 hK⟩ rfl rfl hl.1 rfl (lv_room (Nat.le_of_ble_eq_true rfl)) dX3_advise_62 ⟨Nat.le_of_ble_eq_true rfl, Nat.le_of_ble_eq_true rfl⟩) hS (fun q _ h => Or.inr (Or.inl h)) (fun q h => Or.inr (Or.inl h)) (fun H locs hB _ hk hS => ?_)
        have hW := hW.trial hI hB hk
        refine lv_pop hx hb dX3_advise_65 rfl ?_
        refine lv_aload_n hx hb dX3_advise_66 rfl (lv_at hl 0 rfl) ?_
        refine rX1 hx hb hts hi3 hown hK hW k16 dX3_advise_67 ?_
        refine kI (va_runV (As := []) (rest := []) ⟨hx, hb, hml, hown, hts⟩ (c_X2_allThirst l G ad2 hI.2.1 nH nP hH hP δ2 (dysF nH nP n (wst (tkF τ ((adI nH nP τ z h n i).2.2)) 5 h (nI i))) (hv.tk.set5 (Or.inl (by omega))).oDys) (cwV 0 hts gX3_advise_X2_allThirst rfl rfl rfl (by decide +kernel) ⟨Nat.le_of_ble_eq_true rfl, Nat.le_of_ble_eq_true rfl⟩) ⟨Pc0.blind, va_recv hK (va_P1 (hW.2.2.1)) (ci := 2) (q0 := 0) rfl rfl, Pc0.pre hW.2.2 hK⟩ rfl rfl hl.1 rfl (lv_room (Nat.le_of_ble_eq_true rfl)) dX3_advise_70 ⟨Nat.le_of_ble_eq_true rfl, Nat.le_of_ble_eq_true rfl⟩) hS (fun q _ h => Or.inr (Or.inl h)) (fun q h => Or.inr (Or.inl h)) (fun H locs hB _ hk hS => ?_)
        have hW := hW.trial hI hB hk
        refine lv_istore (lv' := [(6, .int (sm (fun j9 => (dysF nH nP n (wst (tkF τ ((adI nH nP τ z h n i).2.2)) 5 h (nI i))) 8 j9) nH)), (0, .ref xa), (1, .int (nI h)), (2, .int (nI n)), (3, .int ((adI nH nP τ z h n i).1)), (4, .int ((adI nH nP τ z h n i).2.1)), (5, .int (nI i))]) hx hb dX3_advise_73 hl (by decide) rfl (fun ls hl => ?_)
        refine lv_iload_n hx hb dX3_advise_75 rfl (lv_at hl 4 rfl) ?_
        refine lv_iconst (v := (-1)) hx hb dX3_advise_76 (by decide) ?_
        refine lv_icmp_eq (tgt := 87) hx hb dX3_advise_77 (by decide) (fun c77 => ?_) (fun c77 => ?_)
        · skip
          refine lv_iload hx hb dX3_advise_87 (lv_at hl 6 rfl) ?_
          refine lv_istore_n (lv' := [(3, .int (nI i)), (6, .int (sm (fun j9 => (dysF nH nP n (wst (tkF τ ((adI nH nP τ z h n i).2.2)) 5 h (nI i))) 8 j9) nH)), (0, .ref xa), (1, .int (nI h)), (2, .int (nI n)), (4, .int ((adI nH nP τ z h n i).2.1)), (5, .int (nI i))]) hx hb dX3_advise_89 rfl hl (by decide) rfl (fun ls hl => ?_)
          refine lv_iload hx hb dX3_advise_90 (lv_at hl 1 rfl) ?_
          refine lv_istore (lv' := [(4, .int (sm (fun j9 => (dysF nH nP n (wst (tkF τ ((adI nH nP τ z h n i).2.2)) 5 h (nI i))) 8 j9) nH)), (3, .int (nI i)), (6, .int (sm (fun j9 => (dysF nH nP n (wst (tkF τ ((adI nH nP τ z h n i).2.2)) 5 h (nI i))) 8 j9) nH)), (0, .ref xa), (1, .int (nI h)), (2, .int (nI n)), (5, .int (nI i))]) hx hb dX3_advise_92 hl (by decide) rfl (fun ls hl => ?_)
          refine lv_iinc (k := 6) (v := nI (i + 1)) (lv' := [(5, .int (nI (i + 1))), (4, .int (sm (fun j9 => (dysF nH nP n (wst (tkF τ ((adI nH nP τ z h n i).2.2)) 5 h (nI i))) 8 j9) nH)), (3, .int (nI i)), (6, .int (sm (fun j9 => (dysF nH nP n (wst (tkF τ ((adI nH nP τ z h n i).2.2)) 5 h (nI i))) 8 j9) nH)), (0, .ref xa), (1, .int (nI h)), (2, .int (nI n))]) hx hb dX3_advise_94 hl rfl (nI_add i 1) (by decide) rfl (fun ls hl => ?_)
          refine lv_goto (tgt := 20) hx hb dX3_advise_97 (by decide) ?_
          have e9 : adI nH nP τ z h n (i + 1) = (nI i, adT nH nP τ (adI nH nP τ z h n i).2.2 h n i, adX nH nP τ (adI nH nP τ z h n i).2.2 h n i) := if_pos (Or.inl c77)
          have ih := fun hlt H locs ls q => ih hlt H locs ls (by rw [e9]; exact q)
          exact ih (by omega) _ _ _ ⟨⟨_, hW, fun i hi => ⟨wmx_31, wmx_32⟩⟩, hS, lv_sub hl [4, 5, 6, 2, 1, 0] rfl⟩
        · skip
          refine lv_iload hx hb dX3_advise_80 (lv_at hl 0 rfl) ?_
          refine lv_iload hx hb dX3_advise_82 (lv_at hl 5 rfl) ?_
          refine lv_icmp_ge (tgt := 94) hx hb dX3_advise_84 (by decide) (fun c84 => ?_) (fun c84 => ?_)
          · skip
            refine lv_iinc (k := 6) (v := nI (i + 1)) (lv' := [(5, .int (nI (i + 1))), (6, .int (sm (fun j9 => (dysF nH nP n (wst (tkF τ ((adI nH nP τ z h n i).2.2)) 5 h (nI i))) 8 j9) nH)), (0, .ref xa), (1, .int (nI h)), (2, .int (nI n)), (3, .int ((adI nH nP τ z h n i).1)), (4, .int ((adI nH nP τ z h n i).2.1))]) hx hb dX3_advise_94 hl rfl (nI_add i 1) (by decide) rfl (fun ls hl => ?_)
            refine lv_goto (tgt := 20) hx hb dX3_advise_97 (by decide) ?_
            have e9 : adI nH nP τ z h n (i + 1) = ((adI nH nP τ z h n i).1, (adI nH nP τ z h n i).2.1, adX nH nP τ (adI nH nP τ z h n i).2.2 h n i) := if_neg (fun q => q.elim c77 (fun q9 => absurd c84 (Int32.not_le.mpr q9)))
            have ih := fun hlt H locs ls q => ih hlt H locs ls (by rw [e9]; exact q)
            exact ih (by omega) _ _ _ ⟨⟨_, hW, fun i hi => ⟨wmx_31, wmx_32⟩⟩, hS, lv_sub hl [2, 3, 4, 5, 6, 0] rfl⟩
          · skip
            refine lv_iload hx hb dX3_advise_87 (lv_at hl 6 rfl) ?_
            refine lv_istore_n (lv' := [(3, .int (nI i)), (6, .int (sm (fun j9 => (dysF nH nP n (wst (tkF τ ((adI nH nP τ z h n i).2.2)) 5 h (nI i))) 8 j9) nH)), (0, .ref xa), (1, .int (nI h)), (2, .int (nI n)), (4, .int ((adI nH nP τ z h n i).2.1)), (5, .int (nI i))]) hx hb dX3_advise_89 rfl hl (by decide) rfl (fun ls hl => ?_)
            refine lv_iload hx hb dX3_advise_90 (lv_at hl 1 rfl) ?_
            refine lv_istore (lv' := [(4, .int (sm (fun j9 => (dysF nH nP n (wst (tkF τ ((adI nH nP τ z h n i).2.2)) 5 h (nI i))) 8 j9) nH)), (3, .int (nI i)), (6, .int (sm (fun j9 => (dysF nH nP n (wst (tkF τ ((adI nH nP τ z h n i).2.2)) 5 h (nI i))) 8 j9) nH)), (0, .ref xa), (1, .int (nI h)), (2, .int (nI n)), (5, .int (nI i))]) hx hb dX3_advise_92 hl (by decide) rfl (fun ls hl => ?_)
            refine lv_iinc (k := 6) (v := nI (i + 1)) (lv' := [(5, .int (nI (i + 1))), (4, .int (sm (fun j9 => (dysF nH nP n (wst (tkF τ ((adI nH nP τ z h n i).2.2)) 5 h (nI i))) 8 j9) nH)), (3, .int (nI i)), (6, .int (sm (fun j9 => (dysF nH nP n (wst (tkF τ ((adI nH nP τ z h n i).2.2)) 5 h (nI i))) 8 j9) nH)), (0, .ref xa), (1, .int (nI h)), (2, .int (nI n))]) hx hb dX3_advise_94 hl rfl (nI_add i 1) (by decide) rfl (fun ls hl => ?_)
            refine lv_goto (tgt := 20) hx hb dX3_advise_97 (by decide) ?_
            have e9 : adI nH nP τ z h n (i + 1) = (nI i, adT nH nP τ (adI nH nP τ z h n i).2.2 h n i, adX nH nP τ (adI nH nP τ z h n i).2.2 h n i) := if_pos (Or.inr (Int32.not_le.mp c84))
            have ih := fun hlt H locs ls q => ih hlt H locs ls (by rw [e9]; exact q)
            exact ih (by omega) _ _ _ ⟨⟨_, hW, fun i hi => ⟨wmx_31, wmx_32⟩⟩, hS, lv_sub hl [4, 5, 6, 2, 1, 0] rfl⟩

