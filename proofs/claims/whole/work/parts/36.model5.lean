theorem tk_view {G : wG} {ad : Nat → Nat} {nH nP : Nat} {δ τ σ z : wS} {H : Heap} (hz : ∀ i, i < 3 → σ 31 i = z 31 i ∧ σ 32 i = z 32 i) (h : RVm G ad nH nP δ (tkF τ σ) H) : RVm G ad nH nP δ (tkF τ z) H := by
  refine RV.congr h (fun f i hr => ?_)
  unfold wmx tkF
  by_cases q : f = 31 ∨ f = 32
  · have hi : i < 3 := by
      rcases hr with ⟨h1, h2⟩ | ⟨h1, h2, h3⟩ | ⟨h1, h2, h3⟩ | ⟨h1, h2, h3⟩ <;> omega
    rw [if_pos q, if_pos q]
    rcases q with rfl | rfl
    · rw [(hz i hi).1]
    · rw [(hz i hi).2]
  · rw [if_neg q, if_neg q]

set_option maxHeartbeats 4000000 in
set_option maxRecDepth 100000 in
theorem c_X5_foresee (l : Launch) (G : wG) (ma : Nat) (ad ad2 : Nat → Nat) (hI : MI ma ad ad2) (nH nP : Nat) (hH : nH ≤ 10) (hP : nP ≤ 3) (δ τ z : wS) (t : Int32) (nz : Nat) (x y : Int32) (hv : Inv nH nP τ) : Met l yX5_foresee wsX5_foresee ({ frames := 5, cells := 0, slots := 0, locals := 120 } : Room) (PcM G [.ref ma, .int x, .int y] nz (MWz G ma ad ad2 t (wmx nH nP δ τ) z)) (Qmi (fun u => (u = 0 ∧ inn 1 100 x ∧ inn 0 3 y) ∨ (u = 1 ∧ ¬ (inn 1 100 x)) ∨ (u = 2 ∧ inn 1 100 x ∧ ¬ (inn 0 3 y))) (fsF nH nP τ z (cl x) (cl y)) (fun u => MWz G ma ad ad2 (nI u) (wmx nH nP δ (sel u (τ) τ)) (sel u (fsX nH nP τ z (cl x)) z)) (AM ma ad ad2 nz)) 0 0 (AM ma ad ad2 nz) := by
  refine Met.ofW (cc := cX5_foresee) (maxL := 3) (ret := (some .int)) (by decide) rfl ?_
  intro pg ev s mid args below meth cd s₁ B hml hv0
  obtain ⟨rfl, rfl, hW, hK, hN⟩ := hv0
  have hx := B.exec
  have hb := B.bytes
  have hr := B.returns
  have hts := atoms_spec (ws := wsX5_foresee) B.pre
  have hown : s.vm.findClass RX5 = some mid.cls := findClass_of_methodNamed B.named
  have hlocks := B.notSynchronized
  have hi4 : ∀ w ∈ wsX40, w ∈ wsX5_foresee := by decide +kernel
  have hi5 : ∀ w ∈ wsX50, w ∈ wsX5_foresee := by decide +kernel
  have k19 := hts (.fieldLink RX5 19 "PumpRosterModel" "thrown" "I") (by decide +kernel)
  have k16 := hts (.fieldLink RX5 16 "PumpRosterModel" "ahead" "LPumpRosterModel$State;") (by decide +kernel)
  have k10 := hts (.fieldLink RX5 10 "PumpRosterModel" "s" "LPumpRosterModel$State;") (by decide +kernel)
  have hS : va_S (AM ma ad ad2 s.heap.size) s.heap s.heap [] := va_S.rf
  have hl := lv_entry ([.ref ma, .int x, .int y]) (n := 3) (Nat.le_of_ble_eq_true rfl)
  rw [lg_entry_eq]
  generalize (lg_sl ([.ref ma, .int x, .int y]) ++ List.replicate (3 - (lg_sl ([.ref ma, .int x, .int y])).length) Slot.unset).toArray = ls at hl ⊢
  have hl : lv_has ls 3 [(0, .ref ma), (1, .int x), (2, .int y)] := hl
  obtain ⟨σ2, hW, hz⟩ := hW
  refine lv_aload_n hx hb dX5_foresee_0 rfl (lv_at hl 0 rfl) ?_
  refine lv_iconst (v := 0) hx hb dX5_foresee_1 (by decide) ?_
  refine wMt hx hb hts hi5 hown hK hI hW hS (Or.inr (Or.inr (Or.inl rfl))) k19 dX5_foresee_2 (fun H locs hW hS => ?_)
  refine lv_iload_n hx hb dX5_foresee_5 rfl (lv_at hl 1 rfl) ?_
  refine lv_iconst (v := 1) hx hb dX5_foresee_6 (by decide) ?_
  refine lv_bipush (v := 100) hx hb dX5_foresee_7 (by decide) ?_
  refine kI (va_runS (As := [.int x, .int 1, .int 100]) (rest := []) ⟨hx, hb, hml, hown, hts⟩ (c_X5_isIn l G x 1 100) (va_cwS 3 hts gX5_foresee_X5_isIn rfl rfl rfl (by decide +kernel) ⟨Nat.le_of_ble_eq_true rfl, Nat.le_of_ble_eq_true rfl⟩) ⟨Pc0.blind, Pc0.pre trivial hK⟩ rfl rfl hl.1 rfl (lv_room (Nat.le_of_ble_eq_true rfl)) dX5_foresee_9 ⟨Nat.le_of_ble_eq_true rfl, Nat.le_of_ble_eq_true rfl⟩) hS (fun q _ h => h.elim) (fun q h => h.elim) (fun H locs hB _ hk hS => ?_)
  have hW := hW.kept (fun q hq => hk q hq (fun h => h))
  refine lv_if_ne (tgt := 21) hx hb dX5_foresee_12 (by decide) (fun c12 => ?_) (fun c12 => ?_)
  · skip
    replace c12 := b1 c12
    have o1 : inn 1 100 x := c12
    obtain ⟨n, hlon, hhin, rfl⟩ := inn_nI (lo := 1) (hi := 100) o1 (by omega) (by omega)
    refine lv_iload_n hx hb dX5_foresee_21 rfl (lv_at hl 2 rfl) ?_
    refine lv_iconst (v := 0) hx hb dX5_foresee_22 (by decide) ?_
    refine lv_iconst (v := 3) hx hb dX5_foresee_23 (by decide) ?_
    refine kI (va_runS (As := [.int y, .int 0, .int 3]) (rest := []) ⟨hx, hb, hml, hown, hts⟩ (c_X5_isIn l G y 0 3) (va_cwS 3 hts gX5_foresee_X5_isIn rfl rfl rfl (by decide +kernel) ⟨Nat.le_of_ble_eq_true rfl, Nat.le_of_ble_eq_true rfl⟩) ⟨Pc0.blind, Pc0.pre trivial hK⟩ rfl rfl hl.1 rfl (lv_room (Nat.le_of_ble_eq_true rfl)) dX5_foresee_24 ⟨Nat.le_of_ble_eq_true rfl, Nat.le_of_ble_eq_true rfl⟩) hS (fun q _ h => h.elim) (fun q h => h.elim) (fun H locs hB _ hk hS => ?_)
    have hW := hW.kept (fun q hq => hk q hq (fun h => h))
    refine lv_if_ne (tgt := 36) hx hb dX5_foresee_27 (by decide) (fun c27 => ?_) (fun c27 => ?_)
    · skip
      replace c27 := b1 c27
      have o2 : inn 0 3 y := c27
      obtain ⟨k, hlok, hhik, rfl⟩ := inn_nI (lo := 0) (hi := 3) o2 (by omega) (by omega)
      refine lv_aload_n hx hb dX5_foresee_36 rfl (lv_at hl 0 rfl) ?_
      refine rM1 hx hb hts hi5 hown hK hW k16 dX5_foresee_37 ?_
      refine lv_aload_n hx hb dX5_foresee_40 rfl (lv_at hl 0 rfl) ?_
      refine rM0 hx hb hts hi5 hown hK hW k10 dX5_foresee_41 ?_
      refine kV (va_runV (As := [.ref (ad 0)]) (rest := []) ⟨hx, hb, hml, hown, hts⟩ (c_X4_become l G ad2 ad hI.2.1 (fun i j hi hj e => hI.2.2.1 j i hj hi e.symm) nH nP hH hP σ2 δ τ) (cwV 1 hts gX5_foresee_X4_become rfl rfl rfl (by decide +kernel) ⟨Nat.le_of_ble_eq_true rfl, Nat.le_of_ble_eq_true rfl⟩) ⟨Pc0.blind, va_recv hK (va_P1 (hW.2.2.1)) (ci := 4) (q0 := 0) rfl rfl, Pc0.pre (show (fun H => RV G ad2 σ2 H ∧ RVm G ad nH nP δ τ H) _ from ⟨hW.2.2, hW.2.1⟩) hK⟩ rfl rfl hl.1 rfl (lv_room (Nat.le_of_ble_eq_true rfl)) dX5_foresee_44 ⟨Nat.le_of_ble_eq_true rfl, Nat.le_of_ble_eq_true rfl⟩) hS (fun q _ h => Or.inr (Or.inl h)) (fun q h => Or.inr (Or.inl h)) (fun H locs hB _ hk hS => ?_)
      have hW := hW.trial hI (tk_view (z := z) hz hB) hk
      refine lv_aload_n hx hb dX5_foresee_47 rfl (lv_at hl 0 rfl) ?_
      refine rM1 hx hb hts hi5 hown hK hW k16 dX5_foresee_48 ?_
      refine lv_iload_n hx hb dX5_foresee_51 rfl (lv_at hl 1 rfl) ?_
      refine kI (va_runS (As := [.ref (ad2 0), .int (nI n)]) (rest := []) ⟨hx, hb, hml, hown, hts⟩ (c_X5_pass l G ad2 hI.2.1 nH nP hH hP δ (tkF τ z) n hv.tk (by omega)) (va_cwS 2 hts gX5_foresee_X5_pass rfl rfl rfl (by decide +kernel) ⟨Nat.le_of_ble_eq_true rfl, Nat.le_of_ble_eq_true rfl⟩) ⟨Pc0.blind, Pc0.pre hW.2.2 hK⟩ rfl rfl hl.1 rfl (lv_room (Nat.le_of_ble_eq_true rfl)) dX5_foresee_52 ⟨Nat.le_of_ble_eq_true rfl, Nat.le_of_ble_eq_true rfl⟩) hS (fun q _ h => Or.inr (Or.inl h)) (fun q h => Or.inr (Or.inl h)) (fun H locs hB _ hk hS => ?_)
      have hW := hW.trial hI hB hk
      refine lv_pop hx hb dX5_foresee_55 rfl ?_
      refine lv_iload_n hx hb dX5_foresee_56 rfl (lv_at hl 2 rfl) ?_
      refine lv_if_ne (tgt := 82) hx hb dX5_foresee_57 (by decide) (fun c57 => ?_) (fun c57 => ?_)
      · skip
        replace c57 : ¬ (k = 0) := fun q => c57 ((nI_eq (a := k) (b := 0) (by omega) (by omega)).mpr q)
        refine lv_iload_n hx hb dX5_foresee_82 rfl (lv_at hl 2 rfl) ?_
        refine lv_iconst (v := 1) hx hb dX5_foresee_83 (by decide) ?_
        refine lv_icmp_ne (tgt := 97) hx hb dX5_foresee_84 (by decide) (fun c84 => ?_) (fun c84 => ?_)
        · skip
          replace c84 : ¬ (k = 1) := fun q => c84 ((nI_eq (a := k) (b := 1) (by omega) (by omega)).mpr q)
          refine lv_iload_n hx hb dX5_foresee_97 rfl (lv_at hl 2 rfl) ?_
          refine lv_iconst (v := 2) hx hb dX5_foresee_98 (by decide) ?_
          refine lv_icmp_ne (tgt := 113) hx hb dX5_foresee_99 (by decide) (fun c99 => ?_) (fun c99 => ?_)
          · skip
            replace c99 : ¬ (k = 2) := fun q => c99 ((nI_eq (a := k) (b := 2) (by omega) (by omega)).mpr q)
            refine lv_aload_n hx hb dX5_foresee_113 rfl (lv_at hl 0 rfl) ?_
            refine rM1 hx hb hts hi5 hown hK hW k16 dX5_foresee_114 ?_
            refine kI (va_runV (As := []) (rest := []) ⟨hx, hb, hml, hown, hts⟩ (c_X4_broken l G ad2 hI.2.1 nH nP hH hP δ (dysF nH nP n (tkF τ z)) hv.tk.oDys) (cwV 0 hts gX5_foresee_X4_broken rfl rfl rfl (by decide +kernel) ⟨Nat.le_of_ble_eq_true rfl, Nat.le_of_ble_eq_true rfl⟩) ⟨Pc0.blind, va_recv hK (va_P1 (hW.2.2.1)) (ci := 4) (q0 := 0) rfl rfl, Pc0.pre hW.2.2 hK⟩ rfl rfl hl.1 rfl (lv_room (Nat.le_of_ble_eq_true rfl)) dX5_foresee_117 ⟨Nat.le_of_ble_eq_true rfl, Nat.le_of_ble_eq_true rfl⟩) hS (fun q _ h => Or.inr (Or.inl h)) (fun q h => Or.inr (Or.inl h)) (fun H locs hB _ hk hS => ?_)
            have hW := hW.trial hI hB hk
            exact zI 0 hx hb hr hlocks (Or.inl ⟨rfl, o1, o2⟩) ((by show MWz G ma ad ad2 (nI 0) (wmx nH nP δ τ) (fsX nH nP τ z (cl (nI n))) H; rw [show cl (nI n) = n from nI_clamp (by omega)]; exact ⟨_, hW, fun i hi => ⟨wmx_31, wmx_32⟩⟩)) hS (fun q => (by rw [show cl (nI n) = n from nI_clamp (by omega), show cl (nI k) = k from nI_clamp (by omega)]; first | (rw [c57]; rfl) | (rw [c84]; rfl) | (rw [c99]; rfl) | (rw [show k = 3 by omega]; rfl))) dX5_foresee_120
          · skip
            replace c99 := (nI_eq (a := k) (b := 2) (by omega) (by omega)).mp c99
            refine lv_aload_n hx hb dX5_foresee_102 rfl (lv_at hl 0 rfl) ?_
            refine rM1 hx hb hts hi5 hown hK hW k16 dX5_foresee_103 ?_
            refine lv_iconst (v := nI 4) hx hb dX5_foresee_106 (by decide) ?_
            refine kI (va_runV (As := [.int (nI 4)]) (rest := []) ⟨hx, hb, hml, hown, hts⟩ (c_X4_over l G ad2 hI.2.1 nH nP hH hP δ (dysF nH nP n (tkF τ z)) 4 hv.tk.oDys (by omega)) (cwV 1 hts gX5_foresee_X4_over rfl rfl rfl (by decide +kernel) ⟨Nat.le_of_ble_eq_true rfl, Nat.le_of_ble_eq_true rfl⟩) ⟨Pc0.blind, va_recv hK (va_P1 (hW.2.2.1)) (ci := 4) (q0 := 0) rfl rfl, Pc0.pre hW.2.2 hK⟩ rfl rfl hl.1 rfl (lv_room (Nat.le_of_ble_eq_true rfl)) dX5_foresee_107 ⟨Nat.le_of_ble_eq_true rfl, Nat.le_of_ble_eq_true rfl⟩) hS (fun q _ h => Or.inr (Or.inl h)) (fun q h => Or.inr (Or.inl h)) (fun H locs hB _ hk hS => ?_)
            have hW := hW.trial hI hB hk
            refine lv_goto (tgt := 120) hx hb dX5_foresee_110 (by decide) ?_
            exact zI 0 hx hb hr hlocks (Or.inl ⟨rfl, o1, o2⟩) ((by show MWz G ma ad ad2 (nI 0) (wmx nH nP δ τ) (fsX nH nP τ z (cl (nI n))) H; rw [show cl (nI n) = n from nI_clamp (by omega)]; exact ⟨_, hW, fun i hi => ⟨wmx_31, wmx_32⟩⟩)) hS (fun q => (by rw [show cl (nI n) = n from nI_clamp (by omega), show cl (nI k) = k from nI_clamp (by omega)]; first | (rw [c57]; rfl) | (rw [c84]; rfl) | (rw [c99]; rfl) | (rw [show k = 3 by omega]; rfl))) dX5_foresee_120
        · skip
          replace c84 := (nI_eq (a := k) (b := 1) (by omega) (by omega)).mp c84
          refine lv_aload_n hx hb dX5_foresee_87 rfl (lv_at hl 0 rfl) ?_
          refine rM1 hx hb hts hi5 hown hK hW k16 dX5_foresee_88 ?_
          refine rSiN 8 (f := 53) (v := (dysF nH nP n (tkF τ z)) 53 0) hx hb hts hi4 hown hK hW.2.2 (by decide) rfl rfl (va_Nw.use rfl hN.2.2.2.2.2.2) dX5_foresee_91 ?_
          refine lv_goto (tgt := 120) hx hb dX5_foresee_94 (by decide) ?_
          exact zI 0 hx hb hr hlocks (Or.inl ⟨rfl, o1, o2⟩) ((by show MWz G ma ad ad2 (nI 0) (wmx nH nP δ τ) (fsX nH nP τ z (cl (nI n))) H; rw [show cl (nI n) = n from nI_clamp (by omega)]; exact ⟨_, hW, fun i hi => ⟨wmx_31, wmx_32⟩⟩)) hS (fun q => (by rw [show cl (nI n) = n from nI_clamp (by omega), show cl (nI k) = k from nI_clamp (by omega)]; first | (rw [c57]; rfl) | (rw [c84]; rfl) | (rw [c99]; rfl) | (rw [show k = 3 by omega]; rfl))) dX5_foresee_120
      · skip
        replace c57 := (nI_eq (a := k) (b := 0) (by omega) (by omega)).mp c57
        refine lv_aload_n hx hb dX5_foresee_60 rfl (lv_at hl 0 rfl) ?_
        refine rM1 hx hb hts hi5 hown hK hW k16 dX5_foresee_61 ?_
        refine lv_bipush (v := nI 8) hx hb dX5_foresee_64 (by decide) ?_
        refine kI (va_runV (As := [.int (nI 8)]) (rest := []) ⟨hx, hb, hml, hown, hts⟩ (c_X4_over l G ad2 hI.2.1 nH nP hH hP δ (dysF nH nP n (tkF τ z)) 8 hv.tk.oDys (by omega)) (cwV 1 hts gX5_foresee_X4_over rfl rfl rfl (by decide +kernel) ⟨Nat.le_of_ble_eq_true rfl, Nat.le_of_ble_eq_true rfl⟩) ⟨Pc0.blind, va_recv hK (va_P1 (hW.2.2.1)) (ci := 4) (q0 := 0) rfl rfl, Pc0.pre hW.2.2 hK⟩ rfl rfl hl.1 rfl (lv_room (Nat.le_of_ble_eq_true rfl)) dX5_foresee_66 ⟨Nat.le_of_ble_eq_true rfl, Nat.le_of_ble_eq_true rfl⟩) hS (fun q _ h => Or.inr (Or.inl h)) (fun q h => Or.inr (Or.inl h)) (fun H locs hB _ hk hS => ?_)
        have hW := hW.trial hI hB hk
        refine lv_aload_n hx hb dX5_foresee_69 rfl (lv_at hl 0 rfl) ?_
        refine rM0 hx hb hts hi5 hown hK hW k10 dX5_foresee_70 ?_
        refine lv_bipush (v := nI 8) hx hb dX5_foresee_73 (by decide) ?_
        refine kI (va_runV (As := [.int (nI 8)]) (rest := [.int (sm (fun j9 => (dysF nH nP n (tkF τ z)) 8 j9) nH)]) ⟨hx, hb, hml, hown, hts⟩ (c_X4_over l G ad hI.1 nH nP hH hP δ τ 8 hv (by omega)) (cwV 1 hts gX5_foresee_X4_over rfl rfl rfl (by decide +kernel) ⟨Nat.le_of_ble_eq_true rfl, Nat.le_of_ble_eq_true rfl⟩) ⟨Pc0.blind, va_recv hK (va_P1 (hW.2.1.1)) (ci := 4) (q0 := 0) rfl rfl, Pc0.pre hW.2.1 hK⟩ rfl rfl hl.1 rfl (lv_room (Nat.le_of_ble_eq_true rfl)) dX5_foresee_75 ⟨Nat.le_of_ble_eq_true rfl, Nat.le_of_ble_eq_true rfl⟩) hS (fun q _ h => Or.inl h) (fun q h => Or.inl h) (fun H locs hB _ hk hS => ?_)
        have hW := hW.main hI hB hk
        refine lv_isub hx hb dX5_foresee_78 ?_
        refine lv_goto (tgt := 120) hx hb dX5_foresee_79 (by decide) ?_
        exact zI 0 hx hb hr hlocks (Or.inl ⟨rfl, o1, o2⟩) ((by show MWz G ma ad ad2 (nI 0) (wmx nH nP δ τ) (fsX nH nP τ z (cl (nI n))) H; rw [show cl (nI n) = n from nI_clamp (by omega)]; exact ⟨_, hW, fun i hi => ⟨wmx_31, wmx_32⟩⟩)) hS (fun q => (by rw [show cl (nI n) = n from nI_clamp (by omega), show cl (nI k) = k from nI_clamp (by omega)]; first | (rw [c57]; rfl) | (rw [c84]; rfl) | (rw [c99]; rfl) | (rw [show k = 3 by omega]; rfl))) dX5_foresee_120
    · skip
      replace c27 := b0 c27
      refine lv_aload_n hx hb dX5_foresee_30 rfl (lv_at hl 0 rfl) ?_
      refine lv_iconst (v := 2) hx hb dX5_foresee_31 (by decide) ?_
      refine kI (va_runV (As := [.int 2]) (rest := []) ⟨hx, hb, hml, hown, hts⟩ (c_X5_no l G ma ad ad2 hI nH nP hH hP δ τ σ2 0 H.size 2) (cwV 1 hts gX5_foresee_X5_no rfl rfl rfl (by decide +kernel) ⟨Nat.le_of_ble_eq_true rfl, Nat.le_of_ble_eq_true rfl⟩) ⟨PcM.blind, va_recv hK (va_P1 (hW.1)) (ci := 5) (q0 := 0) rfl rfl, PcM.pre hW hK hN⟩ rfl rfl hl.1 rfl (lv_room (Nat.le_of_ble_eq_true rfl)) dX5_foresee_32 ⟨Nat.le_of_ble_eq_true rfl, Nat.le_of_ble_eq_true rfl⟩) hS (fun q _ h => AM_sub hS h) (fun q h => AM_sub hS h) (fun H locs hB _ hk hS => ?_)
      have hW := hB
      exact zI 2 hx hb hr hlocks (Or.inr (Or.inr ⟨rfl, o1, c27⟩)) (⟨_, hW, hz⟩) hS (fun q => absurd q (by decide)) dX5_foresee_35
  · skip
    replace c12 := b0 c12
    refine lv_aload_n hx hb dX5_foresee_15 rfl (lv_at hl 0 rfl) ?_
    refine lv_iconst (v := 1) hx hb dX5_foresee_16 (by decide) ?_
    refine kI (va_runV (As := [.int 1]) (rest := []) ⟨hx, hb, hml, hown, hts⟩ (c_X5_no l G ma ad ad2 hI nH nP hH hP δ τ σ2 0 H.size 1) (cwV 1 hts gX5_foresee_X5_no rfl rfl rfl (by decide +kernel) ⟨Nat.le_of_ble_eq_true rfl, Nat.le_of_ble_eq_true rfl⟩) ⟨PcM.blind, va_recv hK (va_P1 (hW.1)) (ci := 5) (q0 := 0) rfl rfl, PcM.pre hW hK hN⟩ rfl rfl hl.1 rfl (lv_room (Nat.le_of_ble_eq_true rfl)) dX5_foresee_17 ⟨Nat.le_of_ble_eq_true rfl, Nat.le_of_ble_eq_true rfl⟩) hS (fun q _ h => AM_sub hS h) (fun q h => AM_sub hS h) (fun H locs hB _ hk hS => ?_)
    have hW := hB
    exact zI 1 hx hb hr hlocks (Or.inr (Or.inl ⟨rfl, c12⟩)) (⟨_, hW, hz⟩) hS (fun q => absurd q (by decide)) dX5_foresee_20
