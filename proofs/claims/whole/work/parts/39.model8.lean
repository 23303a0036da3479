set_option maxHeartbeats 4000000 in
set_option maxRecDepth 100000 in
theorem c_X5_advise (l : Launch) (G : wG) (ma : Nat) (ad ad2 : Nat → Nat) (hI : MI ma ad ad2) (nH nP : Nat) (hH : nH ≤ 10) (hP : nP ≤ 3) (δ τ z : wS) (t : Int32) (nz : Nat) (x y : Int32) (hv : Inv nH nP τ) : Met l yX5_advise wsX5_advise ({ frames := 5, cells := 0, slots := 0, locals := 120 } : Room) (PcM G [.ref ma, .int x, .int y] nz (MWz G ma ad ad2 t (wmx nH nP δ τ) z)) (Qmi (fun u => (u = 0 ∧ hOk nH x ∧ inn 1 50 y) ∨ (u = 1 ∧ ¬ (hOk nH x)) ∨ (u = 2 ∧ hOk nH x ∧ ¬ (inn 1 50 y))) ((adI nH nP τ z (cl x) (cl y) nP).1) (fun u => MWz G ma ad ad2 (nI u) (wmx nH nP δ (sel u (τ) τ)) (sel u ((adI nH nP τ z (cl x) (cl y) nP).2.2) z)) (AM ma ad ad2 nz)) 0 0 (AM ma ad ad2 nz) := by
  refine Met.ofW (cc := cX5_advise) (maxL := 6) (ret := (some .int)) (by decide) rfl ?_
  intro pg ev s mid args below meth cd s₁ B hml hv0
  obtain ⟨rfl, rfl, hW, hK, hN⟩ := hv0
  have hx := B.exec
  have hb := B.bytes
  have hr := B.returns
  have hts := atoms_spec (ws := wsX5_advise) B.pre
  have hown : s.vm.findClass RX5 = some mid.cls := findClass_of_methodNamed B.named
  have hlocks := B.notSynchronized
  have hi4 : ∀ w ∈ wsX40, w ∈ wsX5_advise := by decide +kernel
  have hi5 : ∀ w ∈ wsX50, w ∈ wsX5_advise := by decide +kernel
  have k19 := hts (.fieldLink RX5 19 "PumpRosterModel" "thrown" "I") (by decide +kernel)
  have k10 := hts (.fieldLink RX5 10 "PumpRosterModel" "s" "LPumpRosterModel$State;") (by decide +kernel)
  have k16 := hts (.fieldLink RX5 16 "PumpRosterModel" "ahead" "LPumpRosterModel$State;") (by decide +kernel)
  have hS : va_S (AM ma ad ad2 s.heap.size) s.heap s.heap [] := va_S.rf
  have hl := lv_entry ([.ref ma, .int x, .int y]) (n := 6) (Nat.le_of_ble_eq_true rfl)
  rw [lg_entry_eq]
  generalize (lg_sl ([.ref ma, .int x, .int y]) ++ List.replicate (6 - (lg_sl ([.ref ma, .int x, .int y])).length) Slot.unset).toArray = ls at hl ⊢
  have hl : lv_has ls 6 [(0, .ref ma), (1, .int x), (2, .int y)] := hl
  obtain ⟨σ2, hW, hz⟩ := hW
  refine lv_aload_n hx hb dX5_advise_0 rfl (lv_at hl 0 rfl) ?_
  refine lv_iconst (v := 0) hx hb dX5_advise_1 (by decide) ?_
  refine wMt hx hb hts hi5 hown hK hI hW hS (Or.inr (Or.inr (Or.inl rfl))) k19 dX5_advise_2 (fun H locs hW hS => ?_)
  refine lv_aload_n hx hb dX5_advise_5 rfl (lv_at hl 0 rfl) ?_
  refine lv_iload_n hx hb dX5_advise_6 rfl (lv_at hl 1 rfl) ?_
  refine kI (va_runV (As := [.int x]) (rest := []) ⟨hx, hb, hml, hown, hts⟩ (c_X5_isHouse l G ma ad ad2 hI nH nP hH hP δ τ σ2 0 H.size x hv.2.2.1) (cwV 1 hts gX5_advise_X5_isHouse rfl rfl rfl (by decide +kernel) ⟨Nat.le_of_ble_eq_true rfl, Nat.le_of_ble_eq_true rfl⟩) ⟨PcM.blind, va_recv hK (va_P1 (hW.1)) (ci := 5) (q0 := 0) rfl rfl, PcM.pre hW hK hN⟩ rfl rfl hl.1 rfl (lv_room (Nat.le_of_ble_eq_true rfl)) dX5_advise_7 ⟨Nat.le_of_ble_eq_true rfl, Nat.le_of_ble_eq_true rfl⟩) hS (fun q _ h => h.elim) (fun q h => h.elim) (fun H locs hB _ hk hS => ?_)
  have hW := hW.kept (fun q hq => hk q hq (fun h => h))
  refine lv_if_ne (tgt := 19) hx hb dX5_advise_10 (by decide) (fun c10 => ?_) (fun c10 => ?_)
  · skip
    replace c10 := b1 c10
    have o1 : hOk nH x := c10
    obtain ⟨h, hh, rfl⟩ := hOk_nI o1 hH
    refine lv_iload_n hx hb dX5_advise_19 rfl (lv_at hl 2 rfl) ?_
    refine lv_iconst (v := 1) hx hb dX5_advise_20 (by decide) ?_
    refine lv_bipush (v := 50) hx hb dX5_advise_21 (by decide) ?_
    refine kI (va_runS (As := [.int y, .int 1, .int 50]) (rest := []) ⟨hx, hb, hml, hown, hts⟩ (c_X5_isIn l G y 1 50) (va_cwS 3 hts gX5_advise_X5_isIn rfl rfl rfl (by decide +kernel) ⟨Nat.le_of_ble_eq_true rfl, Nat.le_of_ble_eq_true rfl⟩) ⟨Pc0.blind, Pc0.pre trivial hK⟩ rfl rfl hl.1 rfl (lv_room (Nat.le_of_ble_eq_true rfl)) dX5_advise_23 ⟨Nat.le_of_ble_eq_true rfl, Nat.le_of_ble_eq_true rfl⟩) hS (fun q _ h => h.elim) (fun q h => h.elim) (fun H locs hB _ hk hS => ?_)
    have hW := hW.kept (fun q hq => hk q hq (fun h => h))
    refine lv_if_ne (tgt := 35) hx hb dX5_advise_26 (by decide) (fun c26 => ?_) (fun c26 => ?_)
    · skip
      replace c26 := b1 c26
      have o2 : inn 1 50 y := c26
      obtain ⟨n, hlon, hhin, rfl⟩ := inn_nI (lo := 1) (hi := 50) o2 (by omega) (by omega)
      refine lv_iconst (v := (-1)) hx hb dX5_advise_35 (by decide) ?_
      refine lv_istore_n (lv' := [(3, .int (-1)), (0, .ref ma), (1, .int (nI h)), (2, .int (nI n))]) hx hb dX5_advise_36 rfl hl (by decide) rfl (fun ls hl => ?_)
      refine lv_iconst (v := 0) hx hb dX5_advise_37 (by decide) ?_
      refine lv_istore (lv' := [(4, .int 0), (3, .int (-1)), (0, .ref ma), (1, .int (nI h)), (2, .int (nI n))]) hx hb dX5_advise_38 hl (by decide) rfl (fun ls hl => ?_)
      refine lv_iconst (v := nI 0) hx hb dX5_advise_40 (by decide) ?_
      refine lv_istore (lv' := [(5, .int (nI 0)), (4, .int 0), (3, .int (-1)), (0, .ref ma), (1, .int (nI h)), (2, .int (nI n))]) hx hb dX5_advise_41 hl (by decide) rfl (fun ls hl => ?_)
      refine W_up nP (fun i H locs ls => (MWz G ma ad ad2 0 (wmx nH nP δ τ) (adI nH nP τ z h n i).2.2) H ∧ va_S (AM ma ad ad2 s.heap.size) s.heap H locs ∧ lv_has ls 6 [(0, .ref ma), (1, .int (nI h)), (2, .int (nI n)), (3, .int ((adI nH nP τ z h n i).1)), (4, .int ((adI nH nP τ z h n i).2.1)), (5, .int (nI i))]) ?_ 0 (by omega) _ _ _ ⟨⟨_, hW, hz⟩, hS, lv_sub hl [3, 4, 5, 2, 1, 0] rfl⟩
      intro i H locs ls hi ⟨hWz, hS, hl⟩ ih
      obtain ⟨σ2, hW, hz⟩ := hWz
      refine lv_iload hx hb dX5_advise_43 (lv_at hl 5 rfl) ?_
      refine lv_aload_n hx hb dX5_advise_45 rfl (lv_at hl 0 rfl) ?_
      refine rM0 hx hb hts hi5 hown hK hW k10 dX5_advise_46 ?_
      refine rSiN 3 (f := 52) (v := nI nP) hx hb hts hi4 hown hK hW.2.1 (by decide) rfl hv.2.2.2.1 (va_Nw.use rfl hN.2.2.2.1) dX5_advise_49 ?_
      refine lv_icmp_ge (tgt := 133) hx hb dX5_advise_52 (by decide) (fun c52 => ?_) (fun c52 => ?_)
      · skip
        replace c52 := (nI_leI (a := nP) (b := i) (by omega) (by omega)).mp c52
        obtain rfl : nP = i := by omega
        refine lv_iload_n hx hb dX5_advise_133 rfl (lv_at hl 3 rfl) ?_
        exact zI 0 hx hb hr hlocks (Or.inl ⟨rfl, o1, o2⟩) ((by show MWz G ma ad ad2 (nI 0) (wmx nH nP δ τ) (adI nH nP τ z (cl (nI h)) (cl (nI n)) nP).2.2 H; rw [show cl (nI h) = h from nI_clamp (by omega), show cl (nI n) = n from nI_clamp (by omega)]; exact ⟨_, hW, hz⟩)) hS (fun q => (by rw [show cl (nI h) = h from nI_clamp (by omega), show cl (nI n) = n from nI_clamp (by omega)])) dX5_advise_134
      · skip
        replace c52 : ¬ (nP ≤ i) := fun q => c52 ((nI_leI (a := nP) (b := i) (by omega) (by omega)).mpr q)
        refine lv_aload_n hx hb dX5_advise_55 rfl (lv_at hl 0 rfl) ?_
        refine rM1 hx hb hts hi5 hown hK hW k16 dX5_advise_56 ?_
        refine lv_aload_n hx hb dX5_advise_59 rfl (lv_at hl 0 rfl) ?_
        refine rM0 hx hb hts hi5 hown hK hW k10 dX5_advise_60 ?_
        refine kV (va_runV (As := [.ref (ad 0)]) (rest := []) ⟨hx, hb, hml, hown, hts⟩ (c_X4_become l G ad2 ad hI.2.1 (fun i j hi hj e => hI.2.2.1 j i hj hi e.symm) nH nP hH hP σ2 δ τ) (cwV 1 hts gX5_advise_X4_become rfl rfl rfl (by decide +kernel) ⟨Nat.le_of_ble_eq_true rfl, Nat.le_of_ble_eq_true rfl⟩) ⟨Pc0.blind, va_recv hK (va_P1 (hW.2.2.1)) (ci := 4) (q0 := 0) rfl rfl, Pc0.pre (show (fun H => RV G ad2 σ2 H ∧ RVm G ad nH nP δ τ H) _ from ⟨hW.2.2, hW.2.1⟩) hK⟩ rfl rfl hl.1 rfl (lv_room (Nat.le_of_ble_eq_true rfl)) dX5_advise_63 ⟨Nat.le_of_ble_eq_true rfl, Nat.le_of_ble_eq_true rfl⟩) hS (fun q _ h => Or.inr (Or.inl h)) (fun q h => Or.inr (Or.inl h)) (fun H locs hB _ hk hS => ?_)
        have hW := hW.trial hI (tk_view (z := (adI nH nP τ z h n i).2.2) hz hB) hk
        refine lv_aload_n hx hb dX5_advise_66 rfl (lv_at hl 0 rfl) ?_
        refine rM1 hx hb hts hi5 hown hK hW k16 dX5_advise_67 ?_
        refine rSfN 2 (j := 1) hx hb hts hi4 hown hK hW.2.2 (by decide) rfl (va_Nw.use rfl hN.2.2.1) dX5_advise_70 ?_
        refine lv_bipush (v := 11) hx hb dX5_advise_73 (by decide) ?_
        refine lv_iload_n hx hb dX5_advise_75 rfl (lv_at hl 1 rfl) ?_
        refine lv_imul hx hb dX5_advise_76 ?_
        refine lv_topi (fun y1 ey1 => ?_)
        obtain rfl : y1 = nI (11 * h) := ey1.trans (pk_mul 11 h)
        refine lv_iconst (v := 5) hx hb dX5_advise_77 (by decide) ?_
        refine lv_iadd hx hb dX5_advise_78 ?_
        refine lv_topi (fun y2 ey2 => ?_)
        obtain rfl : y2 = nI (11 * h + 5) := ey2.trans (nI_add (11 * h) 5)
        refine lv_iload hx hb dX5_advise_79 (lv_at hl 5 rfl) ?_
        refine wSh (h := h) (f := 5) hx hb hK hI.2.1 hW.2.2 hS (fun _ q => Or.inr (Or.inl q)) (by omega) (by omega) (by omega) hH dX5_advise_81 (fun H locs hV hk hS => ?_)
        have hW := hW.trial hI hV hk
        refine lv_aload_n hx hb dX5_advise_82 rfl (lv_at hl 0 rfl) ?_
        refine rM1 hx hb hts hi5 hown hK hW k16 dX5_advise_83 ?_
        refine lv_iload_n hx hb dX5_advise_86 rfl (lv_at hl 2 rfl) ?_
        refine kI (va_runS (As := [.ref (ad2 0), .int (nI n)]) (rest := []) ⟨hx, hb, hml, hown, hts⟩ (c_X5_pass l G ad2 hI.2.1 nH nP hH hP δ (wst (tkF τ ((adI nH nP τ z h n i).2.2)) 5 h (nI i)) n (hv.tk.set5 (Or.inl (by omega))) (by omega)) (va_cwS 2 hts gX5_advise_X5_pass rfl rfl rfl (by decide +kernel) ⟨Nat.le_of_ble_eq_true rfl, Nat.le_of_ble_eq_true rfl⟩) ⟨Pc0.blind, Pc0.pre hW.2.2 hK⟩ rfl rfl hl.1 rfl (lv_room (Nat.le_of_ble_eq_true rfl)) dX5_advise_87 ⟨Nat.le_of_ble_eq_true rfl, Nat.le_of_ble_eq_true rfl⟩) hS (fun q _ h => Or.inr (Or.inl h)) (fun q h => Or.inr (Or.inl h)) (fun H locs hB _ hk hS => ?_)
        have hW := hW.trial hI hB hk
        refine lv_pop hx hb dX5_advise_90 rfl ?_
        refine lv_iload_n hx hb dX5_advise_91 rfl (lv_at hl 3 rfl) ?_
        refine lv_iconst (v := (-1)) hx hb dX5_advise_92 (by decide) ?_
        refine lv_icmp_eq (tgt := 113) hx hb dX5_advise_93 (by decide) (fun c93 => ?_) (fun c93 => ?_)
        · skip
          refine lv_iload hx hb dX5_advise_113 (lv_at hl 5 rfl) ?_
          refine lv_istore_n (lv' := [(3, .int (nI i)), (0, .ref ma), (1, .int (nI h)), (2, .int (nI n)), (4, .int ((adI nH nP τ z h n i).2.1)), (5, .int (nI i))]) hx hb dX5_advise_115 rfl hl (by decide) rfl (fun ls hl => ?_)
          refine lv_aload_n hx hb dX5_advise_116 rfl (lv_at hl 1 rfl) ?_
          refine rM1 hx hb hts hi5 hown hK hW k16 dX5_advise_117 ?_
          refine lv_bipush (v := nI 8) hx hb dX5_advise_120 (by decide) ?_
          refine kI (va_runV (As := [.int (nI 8)]) (rest := []) ⟨hx, hb, hml, hown, hts⟩ (c_X4_over l G ad2 hI.2.1 nH nP hH hP δ (dysF nH nP n (wst (tkF τ ((adI nH nP τ z h n i).2.2)) 5 h (nI i))) 8 (hv.tk.set5 (Or.inl (by omega))).oDys (by omega)) (cwV 1 hts gX5_advise_X4_over rfl rfl rfl (by decide +kernel) ⟨Nat.le_of_ble_eq_true rfl, Nat.le_of_ble_eq_true rfl⟩) ⟨Pc0.blind, va_recv hK (va_P1 (hW.2.2.1)) (ci := 4) (q0 := 0) rfl rfl, Pc0.pre hW.2.2 hK⟩ rfl rfl hl.1 rfl (lv_room (Nat.le_of_ble_eq_true rfl)) dX5_advise_122 ⟨Nat.le_of_ble_eq_true rfl, Nat.le_of_ble_eq_true rfl⟩) hS (fun q _ h => Or.inr (Or.inl h)) (fun q h => Or.inr (Or.inl h)) (fun H locs hB _ hk hS => ?_)
          have hW := hW.trial hI hB hk
          refine lv_istore (lv' := [(4, .int (sm (fun j9 => (dysF nH nP n (wst (tkF τ ((adI nH nP τ z h n i).2.2)) 5 h (nI i))) 8 j9) nH)), (3, .int (nI i)), (0, .ref ma), (1, .int (nI h)), (2, .int (nI n)), (5, .int (nI i))]) hx hb dX5_advise_125 hl (by decide) rfl (fun ls hl => ?_)
          refine lv_iinc (k := 5) (v := nI (i + 1)) (lv' := [(5, .int (nI (i + 1))), (4, .int (sm (fun j9 => (dysF nH nP n (wst (tkF τ ((adI nH nP τ z h n i).2.2)) 5 h (nI i))) 8 j9) nH)), (3, .int (nI i)), (0, .ref ma), (1, .int (nI h)), (2, .int (nI n))]) hx hb dX5_advise_127 hl rfl (nI_add i 1) (by decide) rfl (fun ls hl => ?_)
          refine lv_goto (tgt := 43) hx hb dX5_advise_130 (by decide) ?_
          have e9 : adI nH nP τ z h n (i + 1) = (nI i, adT nH nP τ (adI nH nP τ z h n i).2.2 h n i, adX nH nP τ (adI nH nP τ z h n i).2.2 h n i) := if_pos (by first | exact Or.inl c93 | exact Or.inr c107)
          have ih := fun hlt H locs ls q => ih hlt H locs ls (by rw [e9]; exact q)
          exact ih (by omega) _ _ _ ⟨⟨_, hW, fun i hi => ⟨wmx_31, wmx_32⟩⟩, hS, lv_sub hl [3, 4, 5, 2, 1, 0] rfl⟩
        · skip
          refine lv_aload_n hx hb dX5_advise_96 rfl (lv_at hl 0 rfl) ?_
          refine rM1 hx hb hts hi5 hown hK hW k16 dX5_advise_97 ?_
          refine lv_bipush (v := nI 8) hx hb dX5_advise_100 (by decide) ?_
          refine kI (va_runV (As := [.int (nI 8)]) (rest := []) ⟨hx, hb, hml, hown, hts⟩ (c_X4_over l G ad2 hI.2.1 nH nP hH hP δ (dysF nH nP n (wst (tkF τ ((adI nH nP τ z h n i).2.2)) 5 h (nI i))) 8 (hv.tk.set5 (Or.inl (by omega))).oDys (by omega)) (cwV 1 hts gX5_advise_X4_over rfl rfl rfl (by decide +kernel) ⟨Nat.le_of_ble_eq_true rfl, Nat.le_of_ble_eq_true rfl⟩) ⟨Pc0.blind, va_recv hK (va_P1 (hW.2.2.1)) (ci := 4) (q0 := 0) rfl rfl, Pc0.pre hW.2.2 hK⟩ rfl rfl hl.1 rfl (lv_room (Nat.le_of_ble_eq_true rfl)) dX5_advise_102 ⟨Nat.le_of_ble_eq_true rfl, Nat.le_of_ble_eq_true rfl⟩) hS (fun q _ h => Or.inr (Or.inl h)) (fun q h => Or.inr (Or.inl h)) (fun H locs hB _ hk hS => ?_)
          have hW := hW.trial hI hB hk
          refine lv_iload hx hb dX5_advise_105 (lv_at hl 4 rfl) ?_
          refine lv_icmp_lt (tgt := 113) hx hb dX5_advise_107 (by decide) (fun c107 => ?_) (fun c107 => ?_)
          · skip
            refine lv_iload hx hb dX5_advise_113 (lv_at hl 5 rfl) ?_
            refine lv_istore_n (lv' := [(3, .int (nI i)), (0, .ref ma), (1, .int (nI h)), (2, .int (nI n)), (4, .int ((adI nH nP τ z h n i).2.1)), (5, .int (nI i))]) hx hb dX5_advise_115 rfl hl (by decide) rfl (fun ls hl => ?_)
            refine lv_aload_n hx hb dX5_advise_116 rfl (lv_at hl 1 rfl) ?_
            refine rM1 hx hb hts hi5 hown hK hW k16 dX5_advise_117 ?_
            refine lv_bipush (v := nI 8) hx hb dX5_advise_120 (by decide) ?_
            refine kI (va_runV (As := [.int (nI 8)]) (rest := []) ⟨hx, hb, hml, hown, hts⟩ (c_X4_over l G ad2 hI.2.1 nH nP hH hP δ (dysF nH nP n (wst (tkF τ ((adI nH nP τ z h n i).2.2)) 5 h (nI i))) 8 (hv.tk.set5 (Or.inl (by omega))).oDys (by omega)) (cwV 1 hts gX5_advise_X4_over rfl rfl rfl (by decide +kernel) ⟨Nat.le_of_ble_eq_true rfl, Nat.le_of_ble_eq_true rfl⟩) ⟨Pc0.blind, va_recv hK (va_P1 (hW.2.2.1)) (ci := 4) (q0 := 0) rfl rfl, Pc0.pre hW.2.2 hK⟩ rfl rfl hl.1 rfl (lv_room (Nat.le_of_ble_eq_true rfl)) dX5_advise_122 ⟨Nat.le_of_ble_eq_true rfl, Nat.le_of_ble_eq_true rfl⟩) hS (fun q _ h => Or.inr (Or.inl h)) (fun q h => Or.inr (Or.inl h)) (fun H locs hB _ hk hS => ?_)
            have hW := hW.trial hI hB hk
            refine lv_istore (lv' := [(4, .int (sm (fun j9 => (dysF nH nP n (wst (tkF τ ((adI nH nP τ z h n i).2.2)) 5 h (nI i))) 8 j9) nH)), (3, .int (nI i)), (0, .ref ma), (1, .int (nI h)), (2, .int (nI n)), (5, .int (nI i))]) hx hb dX5_advise_125 hl (by decide) rfl (fun ls hl => ?_)
            refine lv_iinc (k := 5) (v := nI (i + 1)) (lv' := [(5, .int (nI (i + 1))), (4, .int (sm (fun j9 => (dysF nH nP n (wst (tkF τ ((adI nH nP τ z h n i).2.2)) 5 h (nI i))) 8 j9) nH)), (3, .int (nI i)), (0, .ref ma), (1, .int (nI h)), (2, .int (nI n))]) hx hb dX5_advise_127 hl rfl (nI_add i 1) (by decide) rfl (fun ls hl => ?_)
            refine lv_goto (tgt := 43) hx hb dX5_advise_130 (by decide) ?_
            have e9 : adI nH nP τ z h n (i + 1) = (nI i, adT nH nP τ (adI nH nP τ z h n i).2.2 h n i, adX nH nP τ (adI nH nP τ z h n i).2.2 h n i) := if_pos (by first | exact Or.inl c93 | exact Or.inr c107)
            have ih := fun hlt H locs ls q => ih hlt H locs ls (by rw [e9]; exact q)
            exact ih (by omega) _ _ _ ⟨⟨_, hW, fun i hi => ⟨wmx_31, wmx_32⟩⟩, hS, lv_sub hl [3, 4, 5, 2, 1, 0] rfl⟩
          · skip
            refine lv_goto (tgt := 127) hx hb dX5_advise_110 (by decide) ?_
            refine lv_iinc (k := 5) (v := nI (i + 1)) (lv' := [(5, .int (nI (i + 1))), (0, .ref ma), (1, .int (nI h)), (2, .int (nI n)), (3, .int ((adI nH nP τ z h n i).1)), (4, .int ((adI nH nP τ z h n i).2.1))]) hx hb dX5_advise_127 hl rfl (nI_add i 1) (by decide) rfl (fun ls hl => ?_)
            refine lv_goto (tgt := 43) hx hb dX5_advise_130 (by decide) ?_
            have e9 : adI nH nP τ z h n (i + 1) = ((adI nH nP τ z h n i).1, (adI nH nP τ z h n i).2.1, adX nH nP τ (adI nH nP τ z h n i).2.2 h n i) := if_neg (fun q => q.elim c93 c107)
            have ih := fun hlt H locs ls q => ih hlt H locs ls (by rw [e9]; exact q)
            exact ih (by omega) _ _ _ ⟨⟨_, hW, fun i hi => ⟨wmx_31, wmx_32⟩⟩, hS, lv_sub hl [1, 2, 3, 4, 5, 0] rfl⟩
    · skip
      replace c26 := b0 c26
      refine lv_aload_n hx hb dX5_advise_29 rfl (lv_at hl 0 rfl) ?_
      refine lv_iconst (v := 2) hx hb dX5_advise_30 (by decide) ?_
      refine kI (va_runV (As := [.int 2]) (rest := []) ⟨hx, hb, hml, hown, hts⟩ (c_X5_no l G ma ad ad2 hI nH nP hH hP δ τ σ2 0 H.size 2) (cwV 1 hts gX5_advise_X5_no rfl rfl rfl (by decide +kernel) ⟨Nat.le_of_ble_eq_true rfl, Nat.le_of_ble_eq_true rfl⟩) ⟨PcM.blind, va_recv hK (va_P1 (hW.1)) (ci := 5) (q0 := 0) rfl rfl, PcM.pre hW hK hN⟩ rfl rfl hl.1 rfl (lv_room (Nat.le_of_ble_eq_true rfl)) dX5_advise_31 ⟨Nat.le_of_ble_eq_true rfl, Nat.le_of_ble_eq_true rfl⟩) hS (fun q _ h => AM_sub hS h) (fun q h => AM_sub hS h) (fun H locs hB _ hk hS => ?_)
      have hW := hB
      exact zI 2 hx hb hr hlocks (Or.inr (Or.inr ⟨rfl, o1, c26⟩)) (⟨_, hW, hz⟩) hS (fun q => absurd q (by decide)) dX5_advise_34
  · skip
    replace c10 := b0 c10
    refine lv_aload_n hx hb dX5_advise_13 rfl (lv_at hl 0 rfl) ?_
    refine lv_iconst (v := 1) hx hb dX5_advise_14 (by decide) ?_
    refine kI (va_runV (As := [.int 1]) (rest := []) ⟨hx, hb, hml, hown, hts⟩ (c_X5_no l G ma ad ad2 hI nH nP hH hP δ τ σ2 0 H.size 1) (cwV 1 hts gX5_advise_X5_no rfl rfl rfl (by decide +kernel) ⟨Nat.le_of_ble_eq_true rfl, Nat.le_of_ble_eq_true rfl⟩) ⟨PcM.blind, va_recv hK (va_P1 (hW.1)) (ci := 5) (q0 := 0) rfl rfl, PcM.pre hW hK hN⟩ rfl rfl hl.1 rfl (lv_room (Nat.le_of_ble_eq_true rfl)) dX5_advise_15 ⟨Nat.le_of_ble_eq_true rfl, Nat.le_of_ble_eq_true rfl⟩) hS (fun q _ h => AM_sub hS h) (fun q h => AM_sub hS h) (fun H locs hB _ hk hS => ?_)
    have hW := hB
    exact zI 1 hx hb hr hlocks (Or.inr (Or.inl ⟨rfl, c10⟩)) (⟨_, hW, hz⟩) hS (fun q => absurd q (by decide)) dX5_advise_18
