theorem ahd_eq {a b n : Nat} (ha : a < n) (hb : b < n) (hn : n ≤ 10) : nI a - nI b + nI n - (nI a - nI b + nI n) / nI n * nI n = if a < b then nI a - nI b + nI n else nI a - nI b := by
  have e : nI a - nI b + nI n = nI (a + n - b) := by
    rw [← pk_sub (a := a + n) (b := b) (by omega), ← nI_add a n, Int32.sub_eq_add_neg, Int32.sub_eq_add_neg, Int32.add_assoc, Int32.add_comm (-nI b), ← Int32.add_assoc]
  rw [e, pk_rem (by omega) (by omega) (by omega)]
  by_cases q : a < b
  · rw [if_pos q, Nat.mod_eq_of_lt (by omega)]
  · rw [if_neg q, show a + n - b = a - b + n by omega, Nat.add_mod_right, Nat.mod_eq_of_lt (by omega), ← pk_sub (a := a) (b := b) (by omega)]

set_option maxHeartbeats 4000000 in
set_option maxRecDepth 100000 in
theorem c_X5_enrol (l : Launch) (G : wG) (ma : Nat) (ad ad2 : Nat → Nat) (hI : MI ma ad ad2) (nH nP : Nat) (hH : nH ≤ 10) (hP : nP ≤ 3) (δ τ z : wS) (t : Int32) (nz : Nat) (x y : Int32) (hv : Inv nH nP τ) : Met l yX5_enrol wsX5_enrol ({ frames := 2, cells := 0, slots := 0, locals := 43 } : Room) (PcM G [.ref ma, .int x, .int y] nz (MWz G ma ad ad2 t (wmx nH nP δ τ) z)) (Qmi (fun u => (u = 0 ∧ pOk nP x ∧ hOk nH y ∧ ¬ plc (τ (40 + cl x)) y (sz τ (cl x)) < sz τ (cl x) ∧ τ 4 (cl y) < 3) ∨ (u = 1 ∧ ¬ (pOk nP x ∧ hOk nH y)) ∨ (u = 2 ∧ pOk nP x ∧ hOk nH y ∧ ¬ (¬ plc (τ (40 + cl x)) y (sz τ (cl x)) < sz τ (cl x) ∧ τ 4 (cl y) < 3))) (nI (sz τ (cl x) + 1)) (fun u => MWz G ma ad ad2 (nI u) (wmx nH nP δ (sel u (wst (wst τ (40 + cl x) (sz τ (cl x)) y) 26 (cl x) (nI (sz τ (cl x) + 1))) τ)) (sel u (z) z)) (AM ma ad ad2 nz)) 0 0 (AM ma ad ad2 nz) := by
  refine Met.ofW (cc := cX5_enrol) (maxL := 4) (ret := (some .int)) (by decide) rfl ?_
  intro pg ev s mid args below meth cd s₁ B hml hv0
  obtain ⟨rfl, rfl, hW, hK, hN⟩ := hv0
  have hx := B.exec
  have hb := B.bytes
  have hr := B.returns
  have hts := atoms_spec (ws := wsX5_enrol) B.pre
  have hown : s.vm.findClass RX5 = some mid.cls := findClass_of_methodNamed B.named
  have hlocks := B.notSynchronized
  have hi4 : ∀ w ∈ wsX40, w ∈ wsX5_enrol := by decide +kernel
  have hi5 : ∀ w ∈ wsX50, w ∈ wsX5_enrol := by decide +kernel
  have k19 := hts (.fieldLink RX5 19 "PumpRosterModel" "thrown" "I") (by decide +kernel)
  have k10 := hts (.fieldLink RX5 10 "PumpRosterModel" "s" "LPumpRosterModel$State;") (by decide +kernel)
  have hS : va_S (AM ma ad ad2 s.heap.size) s.heap s.heap [] := va_S.rf
  have hl := lv_entry ([.ref ma, .int x, .int y]) (n := 4) (Nat.le_of_ble_eq_true rfl)
  rw [lg_entry_eq]
  generalize (lg_sl ([.ref ma, .int x, .int y]) ++ List.replicate (4 - (lg_sl ([.ref ma, .int x, .int y])).length) Slot.unset).toArray = ls at hl ⊢
  have hl : lv_has ls 4 [(0, .ref ma), (1, .int x), (2, .int y)] := hl
  obtain ⟨σ2, hW, hz⟩ := hW
  refine lv_aload_n hx hb dX5_enrol_0 rfl (lv_at hl 0 rfl) ?_
  refine lv_iconst (v := 0) hx hb dX5_enrol_1 (by decide) ?_
  refine wMt hx hb hts hi5 hown hK hI hW hS (Or.inr (Or.inr (Or.inl rfl))) k19 dX5_enrol_2 (fun H locs hW hS => ?_)
  refine lv_aload_n hx hb dX5_enrol_5 rfl (lv_at hl 0 rfl) ?_
  refine lv_iload_n hx hb dX5_enrol_6 rfl (lv_at hl 1 rfl) ?_
  refine kI (va_runV (As := [.int x]) (rest := []) ⟨hx, hb, hml, hown, hts⟩ (c_X5_isPump l G ma ad ad2 hI nH nP hH hP δ τ σ2 0 H.size x hv.2.2.2.1) (cwV 1 hts gX5_enrol_X5_isPump rfl rfl rfl (by decide +kernel) ⟨Nat.le_of_ble_eq_true rfl, Nat.le_of_ble_eq_true rfl⟩) ⟨PcM.blind, va_recv hK (va_P1 (hW.1)) (ci := 5) (q0 := 0) rfl rfl, PcM.pre hW hK hN⟩ rfl rfl hl.1 rfl (lv_room (Nat.le_of_ble_eq_true rfl)) dX5_enrol_7 ⟨Nat.le_of_ble_eq_true rfl, Nat.le_of_ble_eq_true rfl⟩) hS (fun q _ h => h.elim) (fun q h => h.elim) (fun H locs hB _ hk hS => ?_)
  have hW := hW.kept (fun q hq => hk q hq (fun h => h))
  refine lv_if_eq (tgt := 21) hx hb dX5_enrol_10 (by decide) (fun c10 => ?_) (fun c10 => ?_)
  · skip
    replace c10 := b0 c10
    refine lv_aload_n hx hb dX5_enrol_21 rfl (lv_at hl 0 rfl) ?_
    refine lv_iconst (v := 1) hx hb dX5_enrol_22 (by decide) ?_
    refine kI (va_runV (As := [.int 1]) (rest := []) ⟨hx, hb, hml, hown, hts⟩ (c_X5_no l G ma ad ad2 hI nH nP hH hP δ τ σ2 0 H.size 1) (cwV 1 hts gX5_enrol_X5_no rfl rfl rfl (by decide +kernel) ⟨Nat.le_of_ble_eq_true rfl, Nat.le_of_ble_eq_true rfl⟩) ⟨PcM.blind, va_recv hK (va_P1 (hW.1)) (ci := 5) (q0 := 0) rfl rfl, PcM.pre hW hK hN⟩ rfl rfl hl.1 rfl (lv_room (Nat.le_of_ble_eq_true rfl)) dX5_enrol_23 ⟨Nat.le_of_ble_eq_true rfl, Nat.le_of_ble_eq_true rfl⟩) hS (fun q _ h => AM_sub hS h) (fun q h => AM_sub hS h) (fun H locs hB _ hk hS => ?_)
    have hW := hB
    exact zI 1 hx hb hr hlocks (Or.inr (Or.inl ⟨rfl, fun q => c10 q.1⟩)) (⟨_, hW, hz⟩) hS (fun q => absurd q (by decide)) dX5_enrol_26
  · skip
    replace c10 := b1 c10
    have o1 : pOk nP x := c10
    obtain ⟨h, hh, rfl⟩ := pOk_nI o1 (by omega)
    have h10 := (hv.2.2.2.2.2 h hh).2.2.2.2.1.1
    have ht10 : tn τ h ≤ 10 := by have h8 := (hv.2.2.2.2.2 h hh).2.2.2.2.2.1.2; omega
    refine lv_aload_n hx hb dX5_enrol_13 rfl (lv_at hl 0 rfl) ?_
    refine lv_iload_n hx hb dX5_enrol_14 rfl (lv_at hl 2 rfl) ?_
    refine kI (va_runV (As := [.int y]) (rest := []) ⟨hx, hb, hml, hown, hts⟩ (c_X5_isHouse l G ma ad ad2 hI nH nP hH hP δ τ σ2 0 H.size y hv.2.2.1) (cwV 1 hts gX5_enrol_X5_isHouse rfl rfl rfl (by decide +kernel) ⟨Nat.le_of_ble_eq_true rfl, Nat.le_of_ble_eq_true rfl⟩) ⟨PcM.blind, va_recv hK (va_P1 (hW.1)) (ci := 5) (q0 := 0) rfl rfl, PcM.pre hW hK hN⟩ rfl rfl hl.1 rfl (lv_room (Nat.le_of_ble_eq_true rfl)) dX5_enrol_15 ⟨Nat.le_of_ble_eq_true rfl, Nat.le_of_ble_eq_true rfl⟩) hS (fun q _ h => h.elim) (fun q h => h.elim) (fun H locs hB _ hk hS => ?_)
    have hW := hW.kept (fun q hq => hk q hq (fun h => h))
    refine lv_if_ne (tgt := 27) hx hb dX5_enrol_18 (by decide) (fun c18 => ?_) (fun c18 => ?_)
    · skip
      replace c18 := b1 c18
      have o2 : hOk nH y := c18
      obtain ⟨k, hkH, rfl⟩ := hOk_nI o2 hH
      obtain ⟨-, -, -, km, hkm, e4⟩ := hv.2.2.2.2.1 k hkH
      refine lv_aload_n hx hb dX5_enrol_27 rfl (lv_at hl 0 rfl) ?_
      refine rM0 hx hb hts hi5 hown hK hW k10 dX5_enrol_28 ?_
      refine lv_iload_n hx hb dX5_enrol_31 rfl (lv_at hl 1 rfl) ?_
      refine lv_iload_n hx hb dX5_enrol_32 rfl (lv_at hl 2 rfl) ?_
      refine kI (va_runV (As := [.int (nI h), .int (nI k)]) (rest := []) ⟨hx, hb, hml, hown, hts⟩ (c_X4_placeOf l G ad hI.1 nH nP hH hP δ τ h (sz τ h) (nI k) (by omega) (hv.2.2.2.2.2 h hh).2.2.2.2.1.2 (hv.2.2.2.2.2 h hh).2.2.2.2.1.1) (cwV 2 hts gX5_enrol_X4_placeOf rfl rfl rfl (by decide +kernel) ⟨Nat.le_of_ble_eq_true rfl, Nat.le_of_ble_eq_true rfl⟩) ⟨Pc0.blind, va_recv hK (va_P1 (hW.2.1.1)) (ci := 4) (q0 := 0) rfl rfl, Pc0.pre hW.2.1 hK⟩ rfl rfl hl.1 rfl (lv_room (Nat.le_of_ble_eq_true rfl)) dX5_enrol_33 ⟨Nat.le_of_ble_eq_true rfl, Nat.le_of_ble_eq_true rfl⟩) hS (fun q _ h => Or.inl h) (fun q h => Or.inl h) (fun H locs hB _ hk hS => ?_)
      have hW := hW.main hI hB hk
      refine lv_iconst (v := (-1)) hx hb dX5_enrol_36 (by decide) ?_
      refine lv_icmp_ne (tgt := 58) hx hb dX5_enrol_37 (by decide) (fun c37 => ?_) (fun c37 => ?_)
      · skip
        refine lv_aload_n hx hb dX5_enrol_58 rfl (lv_at hl 0 rfl) ?_
        refine lv_iconst (v := 2) hx hb dX5_enrol_59 (by decide) ?_
        refine kI (va_runV (As := [.int 2]) (rest := []) ⟨hx, hb, hml, hown, hts⟩ (c_X5_no l G ma ad ad2 hI nH nP hH hP δ τ σ2 0 H.size 2) (cwV 1 hts gX5_enrol_X5_no rfl rfl rfl (by decide +kernel) ⟨Nat.le_of_ble_eq_true rfl, Nat.le_of_ble_eq_true rfl⟩) ⟨PcM.blind, va_recv hK (va_P1 (hW.1)) (ci := 5) (q0 := 0) rfl rfl, PcM.pre hW hK hN⟩ rfl rfl hl.1 rfl (lv_room (Nat.le_of_ble_eq_true rfl)) dX5_enrol_60 ⟨Nat.le_of_ble_eq_true rfl, Nat.le_of_ble_eq_true rfl⟩) hS (fun q _ h => AM_sub hS h) (fun q h => AM_sub hS h) (fun H locs hB _ hk hS => ?_)
        have hW := hB
        exact zI 2 hx hb hr hlocks (Or.inr (Or.inr ⟨rfl, o1, o2, fun q => by have q1 := q.1; rw [show cl (nI h) = h from nI_clamp (by omega)] at q1; exact q1 (plI_k c37)⟩)) (⟨_, hW, hz⟩) hS (fun q => absurd q (by decide)) dX5_enrol_63
      · skip
        have o3 : ¬ plc (τ (40 + cl (nI h))) (nI k) (sz τ (cl (nI h))) < sz τ (cl (nI h)) := by rw [show cl (nI h) = h from nI_clamp (by omega)]; exact plI_m1 (by omega) c37
        refine lv_aload_n hx hb dX5_enrol_40 rfl (lv_at hl 0 rfl) ?_
        refine rM0 hx hb hts hi5 hown hK hW k10 dX5_enrol_41 ?_
        refine rSfN 2 (j := 1) hx hb hts hi4 hown hK hW.2.1 (by decide) rfl (va_Nw.use rfl hN.2.2.1) dX5_enrol_44 ?_
        refine lv_bipush (v := 11) hx hb dX5_enrol_47 (by decide) ?_
        refine lv_iload_n hx hb dX5_enrol_49 rfl (lv_at hl 2 rfl) ?_
        refine lv_imul hx hb dX5_enrol_50 ?_
        refine lv_topi (fun y1 ey1 => ?_)
        obtain rfl : y1 = nI (11 * k) := ey1.trans (pk_mul 11 k)
        refine lv_iconst (v := 4) hx hb dX5_enrol_51 (by decide) ?_
        refine lv_iadd hx hb dX5_enrol_52 ?_
        refine lv_topi (fun y2 ey2 => ?_)
        obtain rfl : y2 = nI (11 * k + 4) := ey2.trans (nI_add (11 * k) 4)
        refine rSh (h := k) (f := 4) (v := nI km) hx hb hK hW.2.1 (by omega) (by omega) (by omega) hH e4 dX5_enrol_53 ?_
        refine lv_iconst (v := 3) hx hb dX5_enrol_54 (by decide) ?_
        refine lv_icmp_ne (tgt := 64) hx hb dX5_enrol_55 (by decide) (fun c55 => ?_) (fun c55 => ?_)
        · skip
          replace c55 : ¬ (km = 3) := fun q => c55 ((nI_eq (a := km) (b := 3) (by omega) (by omega)).mpr q)
          have o4 : τ 4 (cl (nI k)) < 3 := by rw [show cl (nI k) = k from nI_clamp (by omega), e4]; exact (nI_ltI (a := km) (b := 3) (by omega) (by omega)).mpr (by omega)
          have hroom := ros_room hv hh hkH (by rw [show cl (nI h) = h from nI_clamp (by omega)] at o3; exact o3)
          refine lv_bipush (v := 11) hx hb dX5_enrol_64 (by decide) ?_
          refine lv_iload_n hx hb dX5_enrol_66 rfl (lv_at hl 1 rfl) ?_
          refine lv_imul hx hb dX5_enrol_67 ?_
          refine lv_topi (fun y3 ey3 => ?_)
          obtain rfl : y3 = nI (11 * h) := ey3.trans (pk_mul 11 h)
          refine lv_bipush (v := 6) hx hb dX5_enrol_68 (by decide) ?_
          refine lv_iadd hx hb dX5_enrol_70 ?_
          refine lv_topi (fun y4 ey4 => ?_)
          obtain rfl : y4 = nI (11 * h + 6) := ey4.trans (nI_add (11 * h) 6)
          refine lv_istore_n (lv' := [(3, .int (nI (11 * h + 6))), (0, .ref ma), (1, .int (nI h)), (2, .int (nI k))]) hx hb dX5_enrol_71 rfl hl (by decide) rfl (fun ls hl => ?_)
          refine lv_aload_n hx hb dX5_enrol_72 rfl (lv_at hl 1 rfl) ?_
          refine rM0 hx hb hts hi5 hown hK hW k10 dX5_enrol_73 ?_
          refine rSfN 5 (j := 3) hx hb hts hi4 hown hK hW.2.1 (by decide) rfl (va_Nw.use rfl hN.2.2.2.2.2.1) dX5_enrol_76 ?_
          refine lv_bipush (v := 10) hx hb dX5_enrol_79 (by decide) ?_
          refine lv_iload_n hx hb dX5_enrol_81 rfl (lv_at hl 2 rfl) ?_
          refine lv_imul hx hb dX5_enrol_82 ?_
          refine lv_topi (fun y5 ey5 => ?_)
          obtain rfl : y5 = nI (10 * h) := ey5.trans (pk_mul 10 h)
          refine lv_aload_n hx hb dX5_enrol_83 rfl (lv_at hl 1 rfl) ?_
          refine rM0 hx hb hts hi5 hown hK hW k10 dX5_enrol_84 ?_
          refine rSfN 4 (j := 2) hx hb hts hi4 hown hK hW.2.1 (by decide) rfl (va_Nw.use rfl hN.2.2.2.2.1) dX5_enrol_87 ?_
          refine lv_iload_n hx hb dX5_enrol_90 rfl (lv_at hl 0 rfl) ?_
          refine rSp (h := h) (f := 6) (g := 26) (v := nI (sz τ h)) hx hb hK hW.2.1 (by omega) (by omega) (by omega) (by omega) hP (hv.2.2.2.2.2 h hh).2.2.2.2.1.2 dX5_enrol_91 ?_
          refine lv_iadd hx hb dX5_enrol_92 ?_
          refine lv_topi (fun y6 ey6 => ?_)
          obtain rfl : y6 = nI (10 * h + (sz τ h)) := ey6.trans (nI_add (10 * h) (sz τ h))
          refine lv_iload_n hx hb dX5_enrol_93 rfl (lv_at hl 3 rfl) ?_
          refine wSq (h := h) (k := (sz τ h)) hx hb hK hI.1 hW.2.1 hS (fun _ q => Or.inl q) (by omega) (by omega) (by omega) hP dX5_enrol_94 (fun H locs hV hk hS => ?_)
          have hW := hW.main hI hV hk
          refine lv_aload_n hx hb dX5_enrol_95 rfl (lv_at hl 1 rfl) ?_
          refine rM0 hx hb hts hi5 hown hK hW k10 dX5_enrol_96 ?_
          refine rSfN 4 (j := 2) hx hb hts hi4 hown hK hW.2.1 (by decide) rfl (va_Nw.use rfl hN.2.2.2.2.1) dX5_enrol_99 ?_
          refine lv_iload_n hx hb dX5_enrol_102 rfl (lv_at hl 0 rfl) ?_
          refine lv_dup2_11 hx hb dX5_enrol_103 rfl rfl ?_
          refine rSp (h := h) (f := 6) (g := 26) (v := nI (sz τ h)) hx hb hK hW.2.1 (by omega) (by omega) (by omega) (by omega) hP ((wst_f (by omega)).trans ((hv.2.2.2.2.2 h hh).2.2.2.2.1.2)) dX5_enrol_104 ?_
          refine lv_iconst (v := 1) hx hb dX5_enrol_105 (by decide) ?_
          refine lv_iadd hx hb dX5_enrol_106 ?_
          refine lv_topi (fun y7 ey7 => ?_)
          obtain rfl : y7 = nI (sz τ h + 1) := ey7.trans (nI_add (sz τ h) 1)
          refine wSp (h := h) (f := 6) (g := 26) hx hb hK hI.1 hW.2.1 hS (fun _ q => Or.inl q) (by omega) (by omega) (by omega) (by omega) hP dX5_enrol_107 (fun H locs hV hk hS => ?_)
          have hW := hW.main hI hV hk
          refine lv_aload_n hx hb dX5_enrol_108 rfl (lv_at hl 1 rfl) ?_
          refine rM0 hx hb hts hi5 hown hK hW k10 dX5_enrol_109 ?_
          refine rSfN 4 (j := 2) hx hb hts hi4 hown hK hW.2.1 (by decide) rfl (va_Nw.use rfl hN.2.2.2.2.1) dX5_enrol_112 ?_
          refine lv_iload_n hx hb dX5_enrol_115 rfl (lv_at hl 0 rfl) ?_
          refine rSp (h := h) (f := 6) (g := 26) (v := nI (sz τ h + 1)) hx hb hK hW.2.1 (by omega) (by omega) (by omega) (by omega) hP wst_s dX5_enrol_116 ?_
          exact zI 0 hx hb hr hlocks (Or.inl ⟨rfl, o1, o2, o3, o4⟩) ((by show MWz G ma ad ad2 (nI 0) (wmx nH nP δ (wst (wst τ (40 + cl (nI h)) (sz τ (cl (nI h))) (nI k)) 26 (cl (nI h)) (nI (sz τ (cl (nI h)) + 1)))) z H; rw [show cl (nI h) = h from nI_clamp (by omega)]; exact ⟨_, hW, hz⟩)) hS (fun q => (by rw [show cl (nI h) = h from nI_clamp (by omega)])) dX5_enrol_117
        · skip
          replace c55 := (nI_eq (a := km) (b := 3) (by omega) (by omega)).mp c55
          refine lv_aload_n hx hb dX5_enrol_58 rfl (lv_at hl 0 rfl) ?_
          refine lv_iconst (v := 2) hx hb dX5_enrol_59 (by decide) ?_
          refine kI (va_runV (As := [.int 2]) (rest := []) ⟨hx, hb, hml, hown, hts⟩ (c_X5_no l G ma ad ad2 hI nH nP hH hP δ τ σ2 0 H.size 2) (cwV 1 hts gX5_enrol_X5_no rfl rfl rfl (by decide +kernel) ⟨Nat.le_of_ble_eq_true rfl, Nat.le_of_ble_eq_true rfl⟩) ⟨PcM.blind, va_recv hK (va_P1 (hW.1)) (ci := 5) (q0 := 0) rfl rfl, PcM.pre hW hK hN⟩ rfl rfl hl.1 rfl (lv_room (Nat.le_of_ble_eq_true rfl)) dX5_enrol_60 ⟨Nat.le_of_ble_eq_true rfl, Nat.le_of_ble_eq_true rfl⟩) hS (fun q _ h => AM_sub hS h) (fun q h => AM_sub hS h) (fun H locs hB _ hk hS => ?_)
          have hW := hB
          exact zI 2 hx hb hr hlocks (Or.inr (Or.inr ⟨rfl, o1, o2, fun q => by have q2 := q.2; rw [show cl (nI k) = k from nI_clamp (by omega), e4] at q2; have q3 := (nI_ltI (a := km) (b := 3) (by omega) (by omega)).mp q2; omega⟩)) (⟨_, hW, hz⟩) hS (fun q => absurd q (by decide)) dX5_enrol_63
    · skip
      replace c18 := b0 c18
      refine lv_aload_n hx hb dX5_enrol_21 rfl (lv_at hl 0 rfl) ?_
      refine lv_iconst (v := 1) hx hb dX5_enrol_22 (by decide) ?_
      refine kI (va_runV (As := [.int 1]) (rest := []) ⟨hx, hb, hml, hown, hts⟩ (c_X5_no l G ma ad ad2 hI nH nP hH hP δ τ σ2 0 H.size 1) (cwV 1 hts gX5_enrol_X5_no rfl rfl rfl (by decide +kernel) ⟨Nat.le_of_ble_eq_true rfl, Nat.le_of_ble_eq_true rfl⟩) ⟨PcM.blind, va_recv hK (va_P1 (hW.1)) (ci := 5) (q0 := 0) rfl rfl, PcM.pre hW hK hN⟩ rfl rfl hl.1 rfl (lv_room (Nat.le_of_ble_eq_true rfl)) dX5_enrol_23 ⟨Nat.le_of_ble_eq_true rfl, Nat.le_of_ble_eq_true rfl⟩) hS (fun q _ h => AM_sub hS h) (fun q h => AM_sub hS h) (fun H locs hB _ hk hS => ?_)
      have hW := hB
      exact zI 1 hx hb hr hlocks (Or.inr (Or.inl ⟨rfl, fun q => c18 q.2⟩)) (⟨_, hW, hz⟩) hS (fun q => absurd q (by decide)) dX5_enrol_26

set_option maxHeartbeats 4000000 in
set_option maxRecDepth 100000 in
theorem c_X5_ahead (l : Launch) (G : wG) (ma : Nat) (ad ad2 : Nat → Nat) (hI : MI ma ad ad2) (nH nP : Nat) (hH : nH ≤ 10) (hP : nP ≤ 3) (δ τ z : wS) (t : Int32) (nz : Nat) (x y : Int32) (hv : Inv nH nP τ) : Met l yX5_ahead wsX5_ahead ({ frames := 2, cells := 0, slots := 0, locals := 43 } : Room) (PcM G [.ref ma, .int x, .int y] nz (MWz G ma ad ad2 t (wmx nH nP δ τ) z)) (Qmi (fun u => (u = 0 ∧ pOk nP x ∧ hOk nH y) ∨ (u = 1 ∧ ¬ (pOk nP x ∧ hOk nH y))) (ahdF τ (cl x) (cl y)) (fun u => MWz G ma ad ad2 (nI u) (wmx nH nP δ (sel u (τ) τ)) (sel u (z) z)) (AM ma ad ad2 nz)) 0 0 (AM ma ad ad2 nz) := by
  refine Met.ofW (cc := cX5_ahead) (maxL := 5) (ret := (some .int)) (by decide) rfl ?_
  intro pg ev s mid args below meth cd s₁ B hml hv0
  obtain ⟨rfl, rfl, hW, hK, hN⟩ := hv0
  have hx := B.exec
  have hb := B.bytes
  have hr := B.returns
  have hts := atoms_spec (ws := wsX5_ahead) B.pre
  have hown : s.vm.findClass RX5 = some mid.cls := findClass_of_methodNamed B.named
  have hlocks := B.notSynchronized
  have hi4 : ∀ w ∈ wsX40, w ∈ wsX5_ahead := by decide +kernel
  have hi5 : ∀ w ∈ wsX50, w ∈ wsX5_ahead := by decide +kernel
  have k19 := hts (.fieldLink RX5 19 "PumpRosterModel" "thrown" "I") (by decide +kernel)
  have k10 := hts (.fieldLink RX5 10 "PumpRosterModel" "s" "LPumpRosterModel$State;") (by decide +kernel)
  have hS : va_S (AM ma ad ad2 s.heap.size) s.heap s.heap [] := va_S.rf
  have hl := lv_entry ([.ref ma, .int x, .int y]) (n := 5) (Nat.le_of_ble_eq_true rfl)
  rw [lg_entry_eq]
  generalize (lg_sl ([.ref ma, .int x, .int y]) ++ List.replicate (5 - (lg_sl ([.ref ma, .int x, .int y])).length) Slot.unset).toArray = ls at hl ⊢
  have hl : lv_has ls 5 [(0, .ref ma), (1, .int x), (2, .int y)] := hl
  obtain ⟨σ2, hW, hz⟩ := hW
  refine lv_aload_n hx hb dX5_ahead_0 rfl (lv_at hl 0 rfl) ?_
  refine lv_iconst (v := 0) hx hb dX5_ahead_1 (by decide) ?_
  refine wMt hx hb hts hi5 hown hK hI hW hS (Or.inr (Or.inr (Or.inl rfl))) k19 dX5_ahead_2 (fun H locs hW hS => ?_)
  refine lv_aload_n hx hb dX5_ahead_5 rfl (lv_at hl 0 rfl) ?_
  refine lv_iload_n hx hb dX5_ahead_6 rfl (lv_at hl 1 rfl) ?_
  refine kI (va_runV (As := [.int x]) (rest := []) ⟨hx, hb, hml, hown, hts⟩ (c_X5_isPump l G ma ad ad2 hI nH nP hH hP δ τ σ2 0 H.size x hv.2.2.2.1) (cwV 1 hts gX5_ahead_X5_isPump rfl rfl rfl (by decide +kernel) ⟨Nat.le_of_ble_eq_true rfl, Nat.le_of_ble_eq_true rfl⟩) ⟨PcM.blind, va_recv hK (va_P1 (hW.1)) (ci := 5) (q0 := 0) rfl rfl, PcM.pre hW hK hN⟩ rfl rfl hl.1 rfl (lv_room (Nat.le_of_ble_eq_true rfl)) dX5_ahead_7 ⟨Nat.le_of_ble_eq_true rfl, Nat.le_of_ble_eq_true rfl⟩) hS (fun q _ h => h.elim) (fun q h => h.elim) (fun H locs hB _ hk hS => ?_)
  have hW := hW.kept (fun q hq => hk q hq (fun h => h))
  refine lv_if_eq (tgt := 21) hx hb dX5_ahead_10 (by decide) (fun c10 => ?_) (fun c10 => ?_)
  · skip
    replace c10 := b0 c10
    refine lv_aload_n hx hb dX5_ahead_21 rfl (lv_at hl 0 rfl) ?_
    refine lv_iconst (v := 1) hx hb dX5_ahead_22 (by decide) ?_
    refine kI (va_runV (As := [.int 1]) (rest := []) ⟨hx, hb, hml, hown, hts⟩ (c_X5_no l G ma ad ad2 hI nH nP hH hP δ τ σ2 0 H.size 1) (cwV 1 hts gX5_ahead_X5_no rfl rfl rfl (by decide +kernel) ⟨Nat.le_of_ble_eq_true rfl, Nat.le_of_ble_eq_true rfl⟩) ⟨PcM.blind, va_recv hK (va_P1 (hW.1)) (ci := 5) (q0 := 0) rfl rfl, PcM.pre hW hK hN⟩ rfl rfl hl.1 rfl (lv_room (Nat.le_of_ble_eq_true rfl)) dX5_ahead_23 ⟨Nat.le_of_ble_eq_true rfl, Nat.le_of_ble_eq_true rfl⟩) hS (fun q _ h => AM_sub hS h) (fun q h => AM_sub hS h) (fun H locs hB _ hk hS => ?_)
    have hW := hB
    exact zI 1 hx hb hr hlocks (Or.inr ⟨rfl, fun q => c10 q.1⟩) (⟨_, hW, hz⟩) hS (fun q => absurd q (by decide)) dX5_ahead_26
  · skip
    replace c10 := b1 c10
    have o1 : pOk nP x := c10
    obtain ⟨h, hh, rfl⟩ := pOk_nI o1 (by omega)
    have h10 := (hv.2.2.2.2.2 h hh).2.2.2.2.1.1
    have ht10 : tn τ h ≤ 10 := by have h8 := (hv.2.2.2.2.2 h hh).2.2.2.2.2.1.2; omega
    refine lv_aload_n hx hb dX5_ahead_13 rfl (lv_at hl 0 rfl) ?_
    refine lv_iload_n hx hb dX5_ahead_14 rfl (lv_at hl 2 rfl) ?_
    refine kI (va_runV (As := [.int y]) (rest := []) ⟨hx, hb, hml, hown, hts⟩ (c_X5_isHouse l G ma ad ad2 hI nH nP hH hP δ τ σ2 0 H.size y hv.2.2.1) (cwV 1 hts gX5_ahead_X5_isHouse rfl rfl rfl (by decide +kernel) ⟨Nat.le_of_ble_eq_true rfl, Nat.le_of_ble_eq_true rfl⟩) ⟨PcM.blind, va_recv hK (va_P1 (hW.1)) (ci := 5) (q0 := 0) rfl rfl, PcM.pre hW hK hN⟩ rfl rfl hl.1 rfl (lv_room (Nat.le_of_ble_eq_true rfl)) dX5_ahead_15 ⟨Nat.le_of_ble_eq_true rfl, Nat.le_of_ble_eq_true rfl⟩) hS (fun q _ h => h.elim) (fun q h => h.elim) (fun H locs hB _ hk hS => ?_)
    have hW := hW.kept (fun q hq => hk q hq (fun h => h))
    refine lv_if_ne (tgt := 27) hx hb dX5_ahead_18 (by decide) (fun c18 => ?_) (fun c18 => ?_)
    · skip
      replace c18 := b1 c18
      have o2 : hOk nH y := c18
      obtain ⟨k, hkH, rfl⟩ := hOk_nI o2 hH
      obtain ⟨-, -, -, km, hkm, e4⟩ := hv.2.2.2.2.1 k hkH
      refine lv_aload_n hx hb dX5_ahead_27 rfl (lv_at hl 0 rfl) ?_
      refine rM0 hx hb hts hi5 hown hK hW k10 dX5_ahead_28 ?_
      refine lv_iload_n hx hb dX5_ahead_31 rfl (lv_at hl 1 rfl) ?_
      refine lv_iload_n hx hb dX5_ahead_32 rfl (lv_at hl 2 rfl) ?_
      refine kI (va_runV (As := [.int (nI h), .int (nI k)]) (rest := []) ⟨hx, hb, hml, hown, hts⟩ (c_X4_placeOf l G ad hI.1 nH nP hH hP δ τ h (sz τ h) (nI k) (by omega) (hv.2.2.2.2.2 h hh).2.2.2.2.1.2 (hv.2.2.2.2.2 h hh).2.2.2.2.1.1) (cwV 2 hts gX5_ahead_X4_placeOf rfl rfl rfl (by decide +kernel) ⟨Nat.le_of_ble_eq_true rfl, Nat.le_of_ble_eq_true rfl⟩) ⟨Pc0.blind, va_recv hK (va_P1 (hW.2.1.1)) (ci := 4) (q0 := 0) rfl rfl, Pc0.pre hW.2.1 hK⟩ rfl rfl hl.1 rfl (lv_room (Nat.le_of_ble_eq_true rfl)) dX5_ahead_33 ⟨Nat.le_of_ble_eq_true rfl, Nat.le_of_ble_eq_true rfl⟩) hS (fun q _ h => Or.inl h) (fun q h => Or.inl h) (fun H locs hB _ hk hS => ?_)
      have hW := hW.main hI hB hk
      refine lv_istore_n (lv' := [(3, .int (plI (plc (τ (40 + h)) (nI k) (sz τ h)) (sz τ h))), (0, .ref ma), (1, .int (nI h)), (2, .int (nI k))]) hx hb dX5_ahead_36 rfl hl (by decide) rfl (fun ls hl => ?_)
      refine lv_aload_n hx hb dX5_ahead_37 rfl (lv_at hl 1 rfl) ?_
      refine rM0 hx hb hts hi5 hown hK hW k10 dX5_ahead_38 ?_
      refine rSfN 4 (j := 2) hx hb hts hi4 hown hK hW.2.1 (by decide) rfl (va_Nw.use rfl hN.2.2.2.2.1) dX5_ahead_41 ?_
      refine lv_bipush (v := 11) hx hb dX5_ahead_44 (by decide) ?_
      refine lv_iload_n hx hb dX5_ahead_46 rfl (lv_at hl 2 rfl) ?_
      refine lv_imul hx hb dX5_ahead_47 ?_
      refine lv_topi (fun y1 ey1 => ?_)
      obtain rfl : y1 = nI (11 * h) := ey1.trans (pk_mul 11 h)
      refine lv_bipush (v := 6) hx hb dX5_ahead_48 (by decide) ?_
      refine lv_iadd hx hb dX5_ahead_50 ?_
      refine lv_topi (fun y2 ey2 => ?_)
      obtain rfl : y2 = nI (11 * h + 6) := ey2.trans (nI_add (11 * h) 6)
      refine rSp (h := h) (f := 6) (g := 26) (v := nI (sz τ h)) hx hb hK hW.2.1 (by omega) (by omega) (by omega) (by omega) hP (hv.2.2.2.2.2 h hh).2.2.2.2.1.2 dX5_ahead_51 ?_
      refine lv_istore (lv' := [(4, .int (nI (sz τ h))), (3, .int (plI (plc (τ (40 + h)) (nI k) (sz τ h)) (sz τ h))), (0, .ref ma), (1, .int (nI h)), (2, .int (nI k))]) hx hb dX5_ahead_52 hl (by decide) rfl (fun ls hl => ?_)
      refine lv_iload_n hx hb dX5_ahead_54 rfl (lv_at hl 1 rfl) ?_
      refine lv_iconst (v := (-1)) hx hb dX5_ahead_55 (by decide) ?_
      refine lv_icmp_ne (tgt := 63) hx hb dX5_ahead_56 (by decide) (fun c56 => ?_) (fun c56 => ?_)
      · skip
        have hkl := plI_k c56
        have epl : plI (plc (τ (40 + h)) (nI k) (sz τ h)) (sz τ h) = nI (plc (τ (40 + h)) (nI k) (sz τ h)) := if_pos hkl
        rw [epl] at hl
        refine lv_iload_n hx hb dX5_ahead_63 rfl (lv_at hl 1 rfl) ?_
        refine lv_aload_n hx hb dX5_ahead_64 rfl (lv_at hl 2 rfl) ?_
        refine rM0 hx hb hts hi5 hown hK hW k10 dX5_ahead_65 ?_
        refine rSfN 4 (j := 2) hx hb hts hi4 hown hK hW.2.1 (by decide) rfl (va_Nw.use rfl hN.2.2.2.2.1) dX5_ahead_68 ?_
        refine lv_bipush (v := 11) hx hb dX5_ahead_71 (by decide) ?_
        refine lv_iload_n hx hb dX5_ahead_73 rfl (lv_at hl 3 rfl) ?_
        refine lv_imul hx hb dX5_ahead_74 ?_
        refine lv_topi (fun y3 ey3 => ?_)
        obtain rfl : y3 = nI (11 * h) := ey3.trans (pk_mul 11 h)
        refine lv_bipush (v := 7) hx hb dX5_ahead_75 (by decide) ?_
        refine lv_iadd hx hb dX5_ahead_77 ?_
        refine lv_topi (fun y4 ey4 => ?_)
        obtain rfl : y4 = nI (11 * h + 7) := ey4.trans (nI_add (11 * h) 7)
        refine rSp (h := h) (f := 7) (g := 27) (v := nI (tn τ h)) hx hb hK hW.2.1 (by omega) (by omega) (by omega) (by omega) hP (hv.2.2.2.2.2 h hh).2.2.2.2.2.1.1 dX5_ahead_78 ?_
        refine lv_isub hx hb dX5_ahead_79 ?_
        refine lv_iload hx hb dX5_ahead_80 (lv_at hl 0 rfl) ?_
        refine lv_iadd hx hb dX5_ahead_82 ?_
        refine lv_topi (fun y5 ey5 => ?_)
        obtain rfl : y5 = nI (plc (τ (40 + h)) (nI k) (sz τ h)) - nI (tn τ h) + nI (sz τ h) := ey5.trans rfl
        refine lv_iload hx hb dX5_ahead_83 (lv_at hl 0 rfl) ?_
        refine lv_irem hx hb dX5_ahead_85 (nI_ne0 (by omega) (by omega)) ?_
        refine lv_topi (fun y6 ey6 => ?_)
        obtain rfl : y6 = ahdF τ h k := ey6.trans ((ahd_eq hkl (by have h8 := (hv.2.2.2.2.2 h hh).2.2.2.2.2.1.2; omega) h10).trans (by rw [ahdF, if_pos hkl]))
        exact zI 0 hx hb hr hlocks (Or.inl ⟨rfl, o1, o2⟩) (⟨_, hW, hz⟩) hS (fun q => (by rw [show cl (nI h) = h from nI_clamp (by omega), show cl (nI k) = k from nI_clamp (by omega)])) dX5_ahead_86
      · skip
        refine lv_iconst (v := (-1)) hx hb dX5_ahead_59 (by decide) ?_
        refine lv_goto (tgt := 86) hx hb dX5_ahead_60 (by decide) ?_
        exact zI 0 hx hb hr hlocks (Or.inl ⟨rfl, o1, o2⟩) (⟨_, hW, hz⟩) hS (fun q => (by rw [show cl (nI h) = h from nI_clamp (by omega), show cl (nI k) = k from nI_clamp (by omega), ahdF, if_neg (plI_m1 (by omega) c56)])) dX5_ahead_86
    · skip
      replace c18 := b0 c18
      refine lv_aload_n hx hb dX5_ahead_21 rfl (lv_at hl 0 rfl) ?_
      refine lv_iconst (v := 1) hx hb dX5_ahead_22 (by decide) ?_
      refine kI (va_runV (As := [.int 1]) (rest := []) ⟨hx, hb, hml, hown, hts⟩ (c_X5_no l G ma ad ad2 hI nH nP hH hP δ τ σ2 0 H.size 1) (cwV 1 hts gX5_ahead_X5_no rfl rfl rfl (by decide +kernel) ⟨Nat.le_of_ble_eq_true rfl, Nat.le_of_ble_eq_true rfl⟩) ⟨PcM.blind, va_recv hK (va_P1 (hW.1)) (ci := 5) (q0 := 0) rfl rfl, PcM.pre hW hK hN⟩ rfl rfl hl.1 rfl (lv_room (Nat.le_of_ble_eq_true rfl)) dX5_ahead_23 ⟨Nat.le_of_ble_eq_true rfl, Nat.le_of_ble_eq_true rfl⟩) hS (fun q _ h => AM_sub hS h) (fun q h => AM_sub hS h) (fun H locs hB _ hk hS => ?_)
      have hW := hB
      exact zI 1 hx hb hr hlocks (Or.inr ⟨rfl, fun q => c18 q.2⟩) (⟨_, hW, hz⟩) hS (fun q => absurd q (by decide)) dX5_ahead_26
