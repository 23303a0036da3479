set_option maxHeartbeats 4000000 in
set_option maxRecDepth 100000 in
theorem c_X3_roster (l : Launch) (hfl : l.stackTraces = false) (G : wG) (xa : Nat) (ad ad2 : Nat → Nat) (hI : XI xa ad ad2) (nH nP : Nat) (hH : nH ≤ 10) (hP : nP ≤ 3) (δ τ z : wS) (nz : Nat) (x y : Int32) (hv : Inv nH nP τ) : vx_Met l yX3_roster wsX3_roster ({ frames := 8, cells := 2, slots := 12, locals := 125 } : Room) (Pc3 G [.ref xa, .int x, .int y] nz (XWz G xa ad ad2 (wmx nH nP δ τ) z) (AX ad ad2 nz)) (Qxi (plOk nP τ x y) (τ (40 + cl x) (cl y)) (XWz G xa ad ad2 (wmx nH nP δ τ) z) (AX ad ad2 nz)) (Xx (fun E => (E = nIOB ∧ ¬ (plOk nP τ x y))) (XWz G xa ad ad2 (wmx nH nP δ τ) z) (AX ad ad2 nz)) 2 12 (AX ad ad2 nz) := by
  refine vx_ofW (cc := cX3_roster) (maxL := 3) (ret := (some .int)) (by decide) rfl ?_
  intro pg ev s mid args below meth cd s₁ B hml htab hv0
  obtain ⟨rfl, rfl, hW, hK, hX⟩ := hv0
  have hx := B.exec
  have hb := B.bytes
  have hr := B.returns
  have hts := atoms_spec (ws := wsX3_roster) B.pre
  have hown : s.vm.findClass RX3 = some mid.cls := findClass_of_methodNamed B.named
  have hlocks := B.notSynchronized
  have hi2 : ∀ w ∈ wsX20, w ∈ wsX3_roster := by decide +kernel
  have hi3 : ∀ w ∈ wsX30, w ∈ wsX3_roster := by decide +kernel
  have k10 := hts (.fieldLink RX3 10 "PumpRoster" "village" "LPumpRoster$Village;") (by decide +kernel)
  have k57 := hts (.fieldLink RX3 57 "PumpRoster$Village" "pumps" "[LPumpRoster$Pump;") (by decide +kernel)
  have hS : va_S (AX ad ad2 s.heap.size) s.heap s.heap [] := va_S.rf
  have hl := lv_entry ([.ref xa, .int x, .int y]) (n := 3) (Nat.le_of_ble_eq_true rfl)
  rw [lg_entry_eq]
  generalize (lg_sl ([.ref xa, .int x, .int y]) ++ List.replicate (3 - (lg_sl ([.ref xa, .int x, .int y])).length) Slot.unset).toArray = ls at hl ⊢
  have hl : lv_has ls 3 [(0, .ref xa), (1, .int x), (2, .int y)] := hl
  obtain ⟨σ2, hW, hz⟩ := hW
  refine lv_aload_n hx hb dX3_roster_0 rfl (lv_at hl 0 rfl) ?_
  refine lv_iload_n hx hb dX3_roster_1 rfl (lv_at hl 1 rfl) ?_
  refine lv_iload_n hx hb dX3_roster_2 rfl (lv_at hl 2 rfl) ?_
  refine kXv (vx_runV (As := [.int x, .int y]) (rest := []) ⟨hx, hb, hml, hown, hts⟩ (c_X3_requirePlace l hfl G xa ad ad2 hI nH nP hH hP δ τ σ2 s.heap.size x y hv) (cwV 2 hts gX3_roster_X3_requirePlace rfl rfl rfl (by decide +kernel) ⟨Nat.le_of_ble_eq_true rfl, Nat.le_of_ble_eq_true rfl⟩) ⟨Pc3.blind, va_recv hK (va_P1 hW.1) (ci := 3) (q0 := 0) rfl rfl, Pc3.pre hW hK hX hS (fun q h => Or.inr (Or.inr (Nat.le_trans hS.1 h)))⟩ rfl rfl hl.1 rfl (lv_room (Nat.le_of_ble_eq_true rfl)) dX3_roster_3 ⟨Nat.le_of_ble_eq_true rfl, Nat.le_of_ble_eq_true rfl⟩) hS (fun q h => Or.inr (Or.inr (Nat.le_trans hS.1 h))) (fun q h => Or.inr (Or.inr (Nat.le_trans hS.1 h))) (fun q h => Or.inr (Or.inr (Nat.le_trans hS.1 h))) (fun E ce q9 H locs hE hBX hk hS hc hv9 hcl => ?_) (fun H locs ok hBX hk hS => ?_)
  · skip
    exact yO htab hlocks (⟨hE.1, hE.2⟩) ⟨_, hW.kept (fun q hq => hk q hq (Nat.not_le.mpr hq)), hz⟩ hS hc hv9 hcl (Nat.le_of_ble_eq_true rfl) (Nat.le_of_ble_eq_true rfl)
  · skip
    have hW := hW.kept (fun q hq => hk q hq (Nat.not_le.mpr hq))
    have o1 := ok
    obtain ⟨h, k, hh, hk, rfl, rfl⟩ := plOk_nI hv ok
    have h10 := (hv.2.2.2.2.2 h hh).2.2.2.2.1.1
    refine lv_aload_n hx hb dX3_roster_6 rfl (lv_at hl 0 rfl) ?_
    refine rX0 hx hb hts hi3 hown hK hW k10 dX3_roster_7 ?_
    refine rVp hx hb hts hi2 hown hK hW.2.1 k57 dX3_roster_10 ?_
    refine lv_iload_n hx hb dX3_roster_13 rfl (lv_at hl 1 rfl) ?_
    refine rPA (h := h) hx hb hK hW.2.1 (by omega) dX3_roster_14 ?_
    refine lv_iload_n hx hb dX3_roster_15 rfl (lv_at hl 2 rfl) ?_
    refine kI (va_runV (As := [.int (nI k)]) (rest := []) ⟨hx, hb, hml, hown, hts⟩ (c_X1_houseAt l G ad hI.1 nH nP hH hP δ τ h (sz τ h) k hh (hv.2.2.2.2.2 h hh).2.2.2.2.1.2 (hv.2.2.2.2.2 h hh).2.2.2.2.1.1 hk) (cwV 1 hts gX3_roster_X1_houseAt rfl rfl rfl (by decide +kernel) ⟨Nat.le_of_ble_eq_true rfl, Nat.le_of_ble_eq_true rfl⟩) ⟨Pc0.blind, va_recv hK (va_P1 (hW.2.1.2.2.2.2.1 h (by omega))) (ci := 1) (q0 := 0) rfl rfl, Pc0.pre hW.2.1 hK⟩ rfl rfl hl.1 rfl (lv_room (Nat.le_of_ble_eq_true rfl)) dX3_roster_16 ⟨Nat.le_of_ble_eq_true rfl, Nat.le_of_ble_eq_true rfl⟩) hS (fun q _ h => Or.inl h) (fun q h => Or.inl h) (fun H locs hB _ hk hS => ?_)
    have hW := hW.main hI hB hk
    exact yI hx hb hr hlocks o1 (⟨_, hW, hz⟩) hS (by rw [show cl (nI h) = h from nI_clamp (by omega), show cl (nI k) = k from nI_clamp (by omega)]) (Nat.le_of_ble_eq_true rfl) (Nat.le_of_ble_eq_true rfl) dX3_roster_19

set_option maxHeartbeats 4000000 in
set_option maxRecDepth 100000 in
theorem c_X3_enrol (l : Launch) (hfl : l.stackTraces = false) (G : wG) (xa : Nat) (ad ad2 : Nat → Nat) (hI : XI xa ad ad2) (nH nP : Nat) (hH : nH ≤ 10) (hP : nP ≤ 3) (δ τ z : wS) (nz : Nat) (x y : Int32) (hv : Inv nH nP τ) : vx_Met l yX3_enrol wsX3_enrol ({ frames := 7, cells := 3, slots := 18, locals := 103 } : Room) (Pc3 G [.ref xa, .int x, .int y] nz (XWz G xa ad ad2 (wmx nH nP δ τ) z) (AX ad ad2 nz)) (Qxi (pOk nP x ∧ hOk nH y ∧ ¬ plc (τ (40 + cl x)) y (sz τ (cl x)) < sz τ (cl x) ∧ τ 4 (cl y) < 3) (nI (sz τ (cl x) + 1)) (XWz G xa ad ad2 (wmx nH nP δ (wst (wst τ (40 + cl x) (sz τ (cl x)) y) 26 (cl x) (nI (sz τ (cl x) + 1)))) z) (AX ad ad2 nz)) (Xx (fun E => (E = nIOB ∧ ¬ (pOk nP x)) ∨ (E = nIOB ∧ pOk nP x ∧ ¬ (hOk nH y)) ∨ (E = nISE ∧ pOk nP x ∧ hOk nH y ∧ ¬ (¬ plc (τ (40 + cl x)) y (sz τ (cl x)) < sz τ (cl x))) ∨ (E = nISE ∧ pOk nP x ∧ hOk nH y ∧ ¬ plc (τ (40 + cl x)) y (sz τ (cl x)) < sz τ (cl x) ∧ ¬ (τ 4 (cl y) < 3))) (XWz G xa ad ad2 (wmx nH nP δ τ) z) (AX ad ad2 nz)) 3 18 (AX ad ad2 nz) := by
  refine vx_ofW (cc := cX3_enrol) (maxL := 4) (ret := (some .int)) (by decide) rfl ?_
  intro pg ev s mid args below meth cd s₁ B hml htab hv0
  obtain ⟨rfl, rfl, hW, hK, hX⟩ := hv0
  have hx := B.exec
  have hb := B.bytes
  have hr := B.returns
  have hts := atoms_spec (ws := wsX3_enrol) B.pre
  have hown : s.vm.findClass RX3 = some mid.cls := findClass_of_methodNamed B.named
  have hlocks := B.notSynchronized
  have hi0 : ∀ w ∈ wsX00, w ∈ wsX3_enrol := by decide +kernel
  have hi1 : ∀ w ∈ wsX10, w ∈ wsX3_enrol := by decide +kernel
  have hi2 : ∀ w ∈ wsX20, w ∈ wsX3_enrol := by decide +kernel
  have hi3 : ∀ w ∈ wsX30, w ∈ wsX3_enrol := by decide +kernel
  have k10 := hts (.fieldLink RX3 10 "PumpRoster" "village" "LPumpRoster$Village;") (by decide +kernel)
  have k57 := hts (.fieldLink RX3 57 "PumpRoster$Village" "pumps" "[LPumpRoster$Pump;") (by decide +kernel)
  have k34 := hts (.fieldLink RX3 34 "PumpRoster$Village" "houses" "[LPumpRoster$House;") (by decide +kernel)
  have k92 := hts (.fieldLink RX3 92 "PumpRoster$House" "marks" "I") (by decide +kernel)
  have k100 := hts (.fieldLink RX3 100 "PumpRoster$Pump" "rosterSize" "I") (by decide +kernel)
  have kcl27 := hts (.classLink RX3 27 nISE) (by decide +kernel)
  have kin2 := hts (.initialized nISE) (by decide +kernel)
  have hat2 := yHat (ic := 31) (X := nISE) hts (by decide +kernel) xB2 hX.2.1.2.1 hX.2.1.2.2.2
  have hS : va_S (AX ad ad2 s.heap.size) s.heap s.heap [] := va_S.rf
  have hl := lv_entry ([.ref xa, .int x, .int y]) (n := 4) (Nat.le_of_ble_eq_true rfl)
  rw [lg_entry_eq]
  generalize (lg_sl ([.ref xa, .int x, .int y]) ++ List.replicate (4 - (lg_sl ([.ref xa, .int x, .int y])).length) Slot.unset).toArray = ls at hl ⊢
  have hl : lv_has ls 4 [(0, .ref xa), (1, .int x), (2, .int y)] := hl
  obtain ⟨σ2, hW, hz⟩ := hW
  refine lv_aload_n hx hb dX3_enrol_0 rfl (lv_at hl 0 rfl) ?_
  refine lv_iload_n hx hb dX3_enrol_1 rfl (lv_at hl 1 rfl) ?_
  refine kXv (vx_runV (As := [.int x]) (rest := []) ⟨hx, hb, hml, hown, hts⟩ (c_X3_requirePump l hfl G xa ad ad2 hI nH nP hH hP δ τ σ2 s.heap.size x hv) (cwV 1 hts gX3_enrol_X3_requirePump rfl rfl rfl (by decide +kernel) ⟨Nat.le_of_ble_eq_true rfl, Nat.le_of_ble_eq_true rfl⟩) ⟨Pc3.blind, va_recv hK (va_P1 hW.1) (ci := 3) (q0 := 0) rfl rfl, Pc3.pre hW hK hX hS (fun q h => Or.inr (Or.inr (Nat.le_trans hS.1 h)))⟩ rfl rfl hl.1 rfl (lv_room (Nat.le_of_ble_eq_true rfl)) dX3_enrol_2 ⟨Nat.le_of_ble_eq_true rfl, Nat.le_of_ble_eq_true rfl⟩) hS (fun q h => Or.inr (Or.inr (Nat.le_trans hS.1 h))) (fun q h => Or.inr (Or.inr (Nat.le_trans hS.1 h))) (fun q h => Or.inr (Or.inr (Nat.le_trans hS.1 h))) (fun E ce q9 H locs hE hBX hk hS hc hv9 hcl => ?_) (fun H locs ok hBX hk hS => ?_)
  · skip
    exact yO htab hlocks (Or.inl ⟨hE.1, hE.2⟩) ⟨_, hW.kept (fun q hq => hk q hq (Nat.not_le.mpr hq)), hz⟩ hS hc hv9 hcl (Nat.le_of_ble_eq_true rfl) (Nat.le_of_ble_eq_true rfl)
  · skip
    have hW := hW.kept (fun q hq => hk q hq (Nat.not_le.mpr hq))
    have o1 := ok
    obtain ⟨h, hh, rfl⟩ := pOk_nI ok (by omega)
    refine lv_aload_n hx hb dX3_enrol_5 rfl (lv_at hl 0 rfl) ?_
    refine lv_iload_n hx hb dX3_enrol_6 rfl (lv_at hl 2 rfl) ?_
    refine kXv (vx_runV (As := [.int y]) (rest := []) ⟨hx, hb, hml, hown, hts⟩ (c_X3_requireHouse l hfl G xa ad ad2 hI nH nP hH hP δ τ σ2 H.size y hv) (cwV 1 hts gX3_enrol_X3_requireHouse rfl rfl rfl (by decide +kernel) ⟨Nat.le_of_ble_eq_true rfl, Nat.le_of_ble_eq_true rfl⟩) ⟨Pc3.blind, va_recv hK (va_P1 hW.1) (ci := 3) (q0 := 0) rfl rfl, Pc3.pre hW hK hX hS (fun q h => Or.inr (Or.inr (Nat.le_trans hS.1 h)))⟩ rfl rfl hl.1 rfl (lv_room (Nat.le_of_ble_eq_true rfl)) dX3_enrol_7 ⟨Nat.le_of_ble_eq_true rfl, Nat.le_of_ble_eq_true rfl⟩) hS (fun q h => Or.inr (Or.inr (Nat.le_trans hS.1 h))) (fun q h => Or.inr (Or.inr (Nat.le_trans hS.1 h))) (fun q h => Or.inr (Or.inr (Nat.le_trans hS.1 h))) (fun E ce q9 H locs hE hBX hk hS hc hv9 hcl => ?_) (fun H locs ok hBX hk hS => ?_)
    · skip
      exact yO htab hlocks (Or.inr (Or.inl ⟨hE.1, o1, hE.2⟩)) ⟨_, hW.kept (fun q hq => hk q hq (Nat.not_le.mpr hq)), hz⟩ hS hc hv9 hcl (Nat.le_of_ble_eq_true rfl) (Nat.le_of_ble_eq_true rfl)
    · skip
      have hW := hW.kept (fun q hq => hk q hq (Nat.not_le.mpr hq))
      have o2 := ok
      obtain ⟨k, hkH, rfl⟩ := hOk_nI ok hH
      have h10 := (hv.2.2.2.2.2 h hh).2.2.2.2.1.1
      have ht10 : tn τ h ≤ 10 := by have h8 := (hv.2.2.2.2.2 h hh).2.2.2.2.2.1.2; omega
      refine lv_aload_n hx hb dX3_enrol_10 rfl (lv_at hl 0 rfl) ?_
      refine rX0 hx hb hts hi3 hown hK hW k10 dX3_enrol_11 ?_
      refine rVp hx hb hts hi2 hown hK hW.2.1 k57 dX3_enrol_14 ?_
      refine lv_iload_n hx hb dX3_enrol_17 rfl (lv_at hl 1 rfl) ?_
      refine rPA (h := h) hx hb hK hW.2.1 (by omega) dX3_enrol_18 ?_
      refine lv_astore_n (lv' := [(3, .ref (ad (13 + h))), (0, .ref xa), (1, .int (nI h)), (2, .int (nI k))]) hx hb dX3_enrol_19 rfl hl (by decide) rfl (fun ls hl => ?_)
      refine lv_aload_n hx hb dX3_enrol_20 rfl (lv_at hl 0 rfl) ?_
      refine lv_iload_n hx hb dX3_enrol_21 rfl (lv_at hl 3 rfl) ?_
      refine kI (va_runV (As := [.int (nI k)]) (rest := []) ⟨hx, hb, hml, hown, hts⟩ (c_X1_placeOf l G ad hI.1 nH nP hH hP δ τ h (sz τ h) (nI k) (by omega) (hv.2.2.2.2.2 h hh).2.2.2.2.1.2 (hv.2.2.2.2.2 h hh).2.2.2.2.1.1) (cwV 1 hts gX3_enrol_X1_placeOf rfl rfl rfl (by decide +kernel) ⟨Nat.le_of_ble_eq_true rfl, Nat.le_of_ble_eq_true rfl⟩) ⟨Pc0.blind, va_recv hK (va_P1 (hW.2.1.2.2.2.2.1 h (by omega))) (ci := 1) (q0 := 0) rfl rfl, Pc0.pre hW.2.1 hK⟩ rfl rfl hl.1 rfl (lv_room (Nat.le_of_ble_eq_true rfl)) dX3_enrol_22 ⟨Nat.le_of_ble_eq_true rfl, Nat.le_of_ble_eq_true rfl⟩) hS (fun q _ h => Or.inl h) (fun q h => Or.inl h) (fun H locs hB _ hk hS => ?_)
      have hW := hW.main hI hB hk
      refine lv_iconst (v := (-1)) hx hb dX3_enrol_25 (by decide) ?_
      refine lv_icmp_eq (tgt := 39) hx hb dX3_enrol_26 (by decide) (fun c26 => ?_) (fun c26 => ?_)
      · skip
        have o3 : ¬ plc (τ (40 + cl (nI h))) (nI k) (sz τ (cl (nI h))) < sz τ (cl (nI h)) := by rw [show cl (nI h) = h from nI_clamp (by omega)]; exact plI_m1 (by omega) c26
        refine lv_aload_n hx hb dX3_enrol_39 rfl (lv_at hl 1 rfl) ?_
        refine rX0 hx hb hts hi3 hown hK hW k10 dX3_enrol_40 ?_
        refine rVh hx hb hts hi2 hown hK hW.2.1 k34 dX3_enrol_43 ?_
        refine lv_iload_n hx hb dX3_enrol_46 rfl (lv_at hl 3 rfl) ?_
        refine rHA (h := k) hx hb hK hW.2.1 (by omega) dX3_enrol_47 ?_
        refine rH 5 (f := 4) (h := k) (v := τ 4 k) hx hb hts hi0 hown hK hW.2.1 (by omega) hH (by decide) (by decide) rfl rfl k92 dX3_enrol_48 ?_
        refine lv_iconst (v := 3) hx hb dX3_enrol_51 (by decide) ?_
        refine lv_icmp_lt (tgt := 65) hx hb dX3_enrol_52 (by decide) (fun c52 => ?_) (fun c52 => ?_)
        · skip
          have o4 : τ 4 (cl (nI k)) < 3 := by rw [show cl (nI k) = k from nI_clamp (by omega)]; exact c52
          have hroom := ros_room hv hh hkH (by rw [show cl (nI h) = h from nI_clamp (by omega)] at o3; exact o3)
          refine lv_aload_n hx hb dX3_enrol_65 rfl (lv_at hl 0 rfl) ?_
          refine lv_iload_n hx hb dX3_enrol_66 rfl (lv_at hl 3 rfl) ?_
          refine kV (va_runV (As := [.int (nI k)]) (rest := []) ⟨hx, hb, hml, hown, hts⟩ (c_X1_append l G ad hI.1 nH nP hH hP δ τ h (sz τ h) (nI k) (by omega) (hv.2.2.2.2.2 h hh).2.2.2.2.1.2 hroom) (cwV 1 hts gX3_enrol_X1_append rfl rfl rfl (by decide +kernel) ⟨Nat.le_of_ble_eq_true rfl, Nat.le_of_ble_eq_true rfl⟩) ⟨Pc0.blind, va_recv hK (va_P1 (hW.2.1.2.2.2.2.1 h (by omega))) (ci := 1) (q0 := 0) rfl rfl, Pc0.pre hW.2.1 hK⟩ rfl rfl hl.1 rfl (lv_room (Nat.le_of_ble_eq_true rfl)) dX3_enrol_67 ⟨Nat.le_of_ble_eq_true rfl, Nat.le_of_ble_eq_true rfl⟩) hS (fun q _ h => Or.inl h) (fun q h => Or.inl h) (fun H locs hB _ hk hS => ?_)
          have hW := hW.main hI hB hk
          refine lv_aload_n hx hb dX3_enrol_70 rfl (lv_at hl 0 rfl) ?_
          refine rP 7 (f := 26) (h := h) (v := nI (sz τ h + 1)) hx hb hts hi1 hown hK hW.2.1 (by omega) hP (by decide) (by decide) rfl wst_s k100 dX3_enrol_71 ?_
          exact yI hx hb hr hlocks (⟨o1, o2, o3, o4⟩) (by rw [show cl (nI h) = h from nI_clamp (by omega)]; exact ⟨_, hW, hz⟩) hS (by rw [show cl (nI h) = h from nI_clamp (by omega)]) (Nat.le_of_ble_eq_true rfl) (Nat.le_of_ble_eq_true rfl) dX3_enrol_74
        · skip
          obtain ⟨sa, hsa⟩ := hX.2.2.2.2.2.1
          exact yT hx hb hfl hown (by decide) kcl27 kin2 hsa hat2 xG2 hX hS (hl.1.trans hml.symm) dX3_enrol_55 dX3_enrol_58 dX3_enrol_59 dX3_enrol_61 dX3_enrol_64 htab (Nat.le_of_ble_eq_true rfl) (Nat.le_of_ble_eq_true rfl) (Nat.le_of_ble_eq_true rfl) (Nat.le_of_ble_eq_true rfl) hlocks (Or.inr (Or.inr (Or.inr (⟨rfl, o1, o2, o3, (fun q => by rw [show cl (nI k) = k from nI_clamp (by omega)] at q; exact c52 q)⟩)))) (fun H1 hq => ⟨_, hW.kept hq, hz⟩) (Nat.le_of_ble_eq_true rfl) (Nat.le_of_ble_eq_true rfl)
      · skip
        obtain ⟨sa, hsa⟩ := hX.2.2.2.2.1
        exact yT hx hb hfl hown (by decide) kcl27 kin2 hsa hat2 xG2 hX hS (hl.1.trans hml.symm) dX3_enrol_29 dX3_enrol_32 dX3_enrol_33 dX3_enrol_35 dX3_enrol_38 htab (Nat.le_of_ble_eq_true rfl) (Nat.le_of_ble_eq_true rfl) (Nat.le_of_ble_eq_true rfl) (Nat.le_of_ble_eq_true rfl) hlocks (Or.inr (Or.inr (Or.inl ⟨rfl, o1, o2, (fun q => by rw [show cl (nI h) = h from nI_clamp (by omega)] at q; exact q (plI_k c26))⟩))) (fun H1 hq => ⟨_, hW.kept hq, hz⟩) (Nat.le_of_ble_eq_true rfl) (Nat.le_of_ble_eq_true rfl)

set_option maxHeartbeats 4000000 in
set_option maxRecDepth 100000 in
theorem c_X3_ahead (l : Launch) (hfl : l.stackTraces = false) (G : wG) (xa : Nat) (ad ad2 : Nat → Nat) (hI : XI xa ad ad2) (nH nP : Nat) (hH : nH ≤ 10) (hP : nP ≤ 3) (δ τ z : wS) (nz : Nat) (x y : Int32) (hv : Inv nH nP τ) : vx_Met l yX3_ahead wsX3_ahead ({ frames := 7, cells := 2, slots := 12, locals := 103 } : Room) (Pc3 G [.ref xa, .int x, .int y] nz (XWz G xa ad ad2 (wmx nH nP δ τ) z) (AX ad ad2 nz)) (Qxi (pOk nP x ∧ hOk nH y) (ahdF τ (cl x) (cl y)) (XWz G xa ad ad2 (wmx nH nP δ τ) z) (AX ad ad2 nz)) (Xx (fun E => (E = nIOB ∧ ¬ (pOk nP x)) ∨ (E = nIOB ∧ pOk nP x ∧ ¬ (hOk nH y))) (XWz G xa ad ad2 (wmx nH nP δ τ) z) (AX ad ad2 nz)) 2 12 (AX ad ad2 nz) := by
  refine vx_ofW (cc := cX3_ahead) (maxL := 5) (ret := (some .int)) (by decide) rfl ?_
  intro pg ev s mid args below meth cd s₁ B hml htab hv0
  obtain ⟨rfl, rfl, hW, hK, hX⟩ := hv0
  have hx := B.exec
  have hb := B.bytes
  have hr := B.returns
  have hts := atoms_spec (ws := wsX3_ahead) B.pre
  have hown : s.vm.findClass RX3 = some mid.cls := findClass_of_methodNamed B.named
  have hlocks := B.notSynchronized
  have hi1 : ∀ w ∈ wsX10, w ∈ wsX3_ahead := by decide +kernel
  have hi2 : ∀ w ∈ wsX20, w ∈ wsX3_ahead := by decide +kernel
  have hi3 : ∀ w ∈ wsX30, w ∈ wsX3_ahead := by decide +kernel
  have k10 := hts (.fieldLink RX3 10 "PumpRoster" "village" "LPumpRoster$Village;") (by decide +kernel)
  have k57 := hts (.fieldLink RX3 57 "PumpRoster$Village" "pumps" "[LPumpRoster$Pump;") (by decide +kernel)
  have k111 := hts (.fieldLink RX3 111 "PumpRoster$Pump" "turn" "I") (by decide +kernel)
  have k100 := hts (.fieldLink RX3 100 "PumpRoster$Pump" "rosterSize" "I") (by decide +kernel)
  have hS : va_S (AX ad ad2 s.heap.size) s.heap s.heap [] := va_S.rf
  have hl := lv_entry ([.ref xa, .int x, .int y]) (n := 5) (Nat.le_of_ble_eq_true rfl)
  rw [lg_entry_eq]
  generalize (lg_sl ([.ref xa, .int x, .int y]) ++ List.replicate (5 - (lg_sl ([.ref xa, .int x, .int y])).length) Slot.unset).toArray = ls at hl ⊢
  have hl : lv_has ls 5 [(0, .ref xa), (1, .int x), (2, .int y)] := hl
  obtain ⟨σ2, hW, hz⟩ := hW
  refine lv_aload_n hx hb dX3_ahead_0 rfl (lv_at hl 0 rfl) ?_
  refine lv_iload_n hx hb dX3_ahead_1 rfl (lv_at hl 1 rfl) ?_
  refine kXv (vx_runV (As := [.int x]) (rest := []) ⟨hx, hb, hml, hown, hts⟩ (c_X3_requirePump l hfl G xa ad ad2 hI nH nP hH hP δ τ σ2 s.heap.size x hv) (cwV 1 hts gX3_ahead_X3_requirePump rfl rfl rfl (by decide +kernel) ⟨Nat.le_of_ble_eq_true rfl, Nat.le_of_ble_eq_true rfl⟩) ⟨Pc3.blind, va_recv hK (va_P1 hW.1) (ci := 3) (q0 := 0) rfl rfl, Pc3.pre hW hK hX hS (fun q h => Or.inr (Or.inr (Nat.le_trans hS.1 h)))⟩ rfl rfl hl.1 rfl (lv_room (Nat.le_of_ble_eq_true rfl)) dX3_ahead_2 ⟨Nat.le_of_ble_eq_true rfl, Nat.le_of_ble_eq_true rfl⟩) hS (fun q h => Or.inr (Or.inr (Nat.le_trans hS.1 h))) (fun q h => Or.inr (Or.inr (Nat.le_trans hS.1 h))) (fun q h => Or.inr (Or.inr (Nat.le_trans hS.1 h))) (fun E ce q9 H locs hE hBX hk hS hc hv9 hcl => ?_) (fun H locs ok hBX hk hS => ?_)
  · skip
    exact yO htab hlocks (Or.inl ⟨hE.1, hE.2⟩) ⟨_, hW.kept (fun q hq => hk q hq (Nat.not_le.mpr hq)), hz⟩ hS hc hv9 hcl (Nat.le_of_ble_eq_true rfl) (Nat.le_of_ble_eq_true rfl)
  · skip
    have hW := hW.kept (fun q hq => hk q hq (Nat.not_le.mpr hq))
    have o1 := ok
    obtain ⟨h, hh, rfl⟩ := pOk_nI ok (by omega)
    refine lv_aload_n hx hb dX3_ahead_5 rfl (lv_at hl 0 rfl) ?_
    refine lv_iload_n hx hb dX3_ahead_6 rfl (lv_at hl 2 rfl) ?_
    refine kXv (vx_runV (As := [.int y]) (rest := []) ⟨hx, hb, hml, hown, hts⟩ (c_X3_requireHouse l hfl G xa ad ad2 hI nH nP hH hP δ τ σ2 H.size y hv) (cwV 1 hts gX3_ahead_X3_requireHouse rfl rfl rfl (by decide +kernel) ⟨Nat.le_of_ble_eq_true rfl, Nat.le_of_ble_eq_true rfl⟩) ⟨Pc3.blind, va_recv hK (va_P1 hW.1) (ci := 3) (q0 := 0) rfl rfl, Pc3.pre hW hK hX hS (fun q h => Or.inr (Or.inr (Nat.le_trans hS.1 h)))⟩ rfl rfl hl.1 rfl (lv_room (Nat.le_of_ble_eq_true rfl)) dX3_ahead_7 ⟨Nat.le_of_ble_eq_true rfl, Nat.le_of_ble_eq_true rfl⟩) hS (fun q h => Or.inr (Or.inr (Nat.le_trans hS.1 h))) (fun q h => Or.inr (Or.inr (Nat.le_trans hS.1 h))) (fun q h => Or.inr (Or.inr (Nat.le_trans hS.1 h))) (fun E ce q9 H locs hE hBX hk hS hc hv9 hcl => ?_) (fun H locs ok hBX hk hS => ?_)
    · skip
      exact yO htab hlocks (Or.inr (⟨hE.1, o1, hE.2⟩)) ⟨_, hW.kept (fun q hq => hk q hq (Nat.not_le.mpr hq)), hz⟩ hS hc hv9 hcl (Nat.le_of_ble_eq_true rfl) (Nat.le_of_ble_eq_true rfl)
    · skip
      have hW := hW.kept (fun q hq => hk q hq (Nat.not_le.mpr hq))
      have o2 := ok
      obtain ⟨k, hkH, rfl⟩ := hOk_nI ok hH
      have h10 := (hv.2.2.2.2.2 h hh).2.2.2.2.1.1
      have ht10 : tn τ h ≤ 10 := by have h8 := (hv.2.2.2.2.2 h hh).2.2.2.2.2.1.2; omega
      refine lv_aload_n hx hb dX3_ahead_10 rfl (lv_at hl 0 rfl) ?_
      refine rX0 hx hb hts hi3 hown hK hW k10 dX3_ahead_11 ?_
      refine rVp hx hb hts hi2 hown hK hW.2.1 k57 dX3_ahead_14 ?_
      refine lv_iload_n hx hb dX3_ahead_17 rfl (lv_at hl 1 rfl) ?_
      refine rPA (h := h) hx hb hK hW.2.1 (by omega) dX3_ahead_18 ?_
      refine lv_astore_n (lv' := [(3, .ref (ad (13 + h))), (0, .ref xa), (1, .int (nI h)), (2, .int (nI k))]) hx hb dX3_ahead_19 rfl hl (by decide) rfl (fun ls hl => ?_)
      refine lv_aload_n hx hb dX3_ahead_20 rfl (lv_at hl 0 rfl) ?_
      refine lv_iload_n hx hb dX3_ahead_21 rfl (lv_at hl 3 rfl) ?_
      refine kI (va_runV (As := [.int (nI k)]) (rest := []) ⟨hx, hb, hml, hown, hts⟩ (c_X1_placeOf l G ad hI.1 nH nP hH hP δ τ h (sz τ h) (nI k) (by omega) (hv.2.2.2.2.2 h hh).2.2.2.2.1.2 (hv.2.2.2.2.2 h hh).2.2.2.2.1.1) (cwV 1 hts gX3_ahead_X1_placeOf rfl rfl rfl (by decide +kernel) ⟨Nat.le_of_ble_eq_true rfl, Nat.le_of_ble_eq_true rfl⟩) ⟨Pc0.blind, va_recv hK (va_P1 (hW.2.1.2.2.2.2.1 h (by omega))) (ci := 1) (q0 := 0) rfl rfl, Pc0.pre hW.2.1 hK⟩ rfl rfl hl.1 rfl (lv_room (Nat.le_of_ble_eq_true rfl)) dX3_ahead_22 ⟨Nat.le_of_ble_eq_true rfl, Nat.le_of_ble_eq_true rfl⟩) hS (fun q _ h => Or.inl h) (fun q h => Or.inl h) (fun H locs hB _ hk hS => ?_)
      have hW := hW.main hI hB hk
      refine lv_istore (lv' := [(4, .int (plI (plc (τ (40 + h)) (nI k) (sz τ h)) (sz τ h))), (3, .ref (ad (13 + h))), (0, .ref xa), (1, .int (nI h)), (2, .int (nI k))]) hx hb dX3_ahead_25 hl (by decide) rfl (fun ls hl => ?_)
      refine lv_iload hx hb dX3_ahead_27 (lv_at hl 0 rfl) ?_
      refine lv_iconst (v := (-1)) hx hb dX3_ahead_29 (by decide) ?_
      refine lv_icmp_ne (tgt := 35) hx hb dX3_ahead_30 (by decide) (fun c30 => ?_) (fun c30 => ?_)
      · skip
        have hkl := plI_k c30
        have epl : plI (plc (τ (40 + h)) (nI k) (sz τ h)) (sz τ h) = nI (plc (τ (40 + h)) (nI k) (sz τ h)) := if_pos hkl
        rw [epl] at hl
        refine lv_iload hx hb dX3_ahead_35 (lv_at hl 0 rfl) ?_
        refine lv_aload_n hx hb dX3_ahead_37 rfl (lv_at hl 1 rfl) ?_
        refine rP 8 (f := 27) (h := h) (v := nI (tn τ h)) hx hb hts hi1 hown hK hW.2.1 (by omega) hP (by decide) (by decide) rfl (hv.2.2.2.2.2 h hh).2.2.2.2.2.1.1 k111 dX3_ahead_38 ?_
        refine lv_icmp_lt (tgt := 54) hx hb dX3_ahead_41 (by decide) (fun c41 => ?_) (fun c41 => ?_)
        · skip
          replace c41 := (nI_ltI (a := plc (τ (40 + h)) (nI k) (sz τ h)) (b := tn τ h) (by omega) (by omega)).mp c41
          refine lv_iload hx hb dX3_ahead_54 (lv_at hl 0 rfl) ?_
          refine lv_aload_n hx hb dX3_ahead_56 rfl (lv_at hl 1 rfl) ?_
          refine rP 8 (f := 27) (h := h) (v := nI (tn τ h)) hx hb hts hi1 hown hK hW.2.1 (by omega) hP (by decide) (by decide) rfl (hv.2.2.2.2.2 h hh).2.2.2.2.2.1.1 k111 dX3_ahead_57 ?_
          refine lv_isub hx hb dX3_ahead_60 ?_
          refine lv_aload_n hx hb dX3_ahead_61 rfl (lv_at hl 1 rfl) ?_
          refine rP 7 (f := 26) (h := h) (v := nI (sz τ h)) hx hb hts hi1 hown hK hW.2.1 (by omega) hP (by decide) (by decide) rfl (hv.2.2.2.2.2 h hh).2.2.2.2.1.2 k100 dX3_ahead_62 ?_
          refine lv_iadd hx hb dX3_ahead_65 ?_
          refine lv_topi (fun y1 ey1 => ?_)
          obtain rfl : y1 = nI (plc (τ (40 + h)) (nI k) (sz τ h)) - nI (tn τ h) + nI (sz τ h) := ey1.trans rfl
          exact yI hx hb hr hlocks (⟨o1, o2⟩) (⟨_, hW, hz⟩) hS (by rw [show cl (nI h) = h from nI_clamp (by omega), show cl (nI k) = k from nI_clamp (by omega), ahdF, if_pos hkl, if_pos c41]) (Nat.le_of_ble_eq_true rfl) (Nat.le_of_ble_eq_true rfl) dX3_ahead_66
        · skip
          replace c41 : ¬ (plc (τ (40 + h)) (nI k) (sz τ h) < tn τ h) := fun q => c41 ((nI_ltI (a := plc (τ (40 + h)) (nI k) (sz τ h)) (b := tn τ h) (by omega) (by omega)).mpr q)
          refine lv_iload hx hb dX3_ahead_44 (lv_at hl 0 rfl) ?_
          refine lv_aload_n hx hb dX3_ahead_46 rfl (lv_at hl 1 rfl) ?_
          refine rP 8 (f := 27) (h := h) (v := nI (tn τ h)) hx hb hts hi1 hown hK hW.2.1 (by omega) hP (by decide) (by decide) rfl (hv.2.2.2.2.2 h hh).2.2.2.2.2.1.1 k111 dX3_ahead_47 ?_
          refine lv_isub hx hb dX3_ahead_50 ?_
          refine lv_goto (tgt := 66) hx hb dX3_ahead_51 (by decide) ?_
          exact yI hx hb hr hlocks (⟨o1, o2⟩) (⟨_, hW, hz⟩) hS (by rw [show cl (nI h) = h from nI_clamp (by omega), show cl (nI k) = k from nI_clamp (by omega), ahdF, if_pos hkl, if_neg c41]) (Nat.le_of_ble_eq_true rfl) (Nat.le_of_ble_eq_true rfl) dX3_ahead_66
      · skip
        refine lv_iconst (v := (-1)) hx hb dX3_ahead_33 (by decide) ?_
        exact yI hx hb hr hlocks (⟨o1, o2⟩) (⟨_, hW, hz⟩) hS (by rw [show cl (nI h) = h from nI_clamp (by omega), show cl (nI k) = k from nI_clamp (by omega), ahdF, if_neg (plI_m1 (by omega) c30)]) (Nat.le_of_ble_eq_true rfl) (Nat.le_of_ble_eq_true rfl) dX3_ahead_34

set_option maxHeartbeats 4000000 in
set_option maxRecDepth 100000 in
theorem c_X3_addHouse (l : Launch) (hfl : l.stackTraces = false) (G : wG) (xa : Nat) (ad ad2 : Nat → Nat) (hI : XI xa ad ad2) (nH nP : Nat) (hH : nH ≤ 10) (hP : nP ≤ 3) (δ τ z : wS) (nz : Nat) (x y w : Int32) (hv : Inv nH nP τ) : vx_Met l yX3_addHouse wsX3_addHouse ({ frames := 7, cells := 4, slots := 24, locals := 104 } : Room) (Pc3 G [.ref xa, .int x, .int y, .int w] nz (XWz G xa ad ad2 (wmx nH nP δ τ) z) (AX ad ad2 nz)) (Qxi (inn 0 9 x ∧ inn 0 9 y ∧ inn 1 9 w ∧ nH < 10) (nI nH) (XWz G xa ad ad2 (wmx (nH + 1) nP δ (wst (wst (wst (wst (addV nH δ τ) 0 nH x) 1 nH y) 2 nH w) 51 0 (nI (nH + 1)))) z) (AX ad ad2 nz)) (Xx (fun E => (E = nIAE ∧ ¬ (inn 0 9 x)) ∨ (E = nIAE ∧ inn 0 9 x ∧ ¬ (inn 0 9 y)) ∨ (E = nIAE ∧ inn 0 9 x ∧ inn 0 9 y ∧ ¬ (inn 1 9 w)) ∨ (E = nISE ∧ inn 0 9 x ∧ inn 0 9 y ∧ inn 1 9 w ∧ ¬ (nH < 10))) (XWz G xa ad ad2 (wmx nH nP δ τ) z) (AX ad ad2 nz)) 4 24 (AX ad ad2 nz) := by
  refine vx_ofW (cc := cX3_addHouse) (maxL := 5) (ret := (some .int)) (by decide) rfl ?_
  intro pg ev s mid args below meth cd s₁ B hml htab hv0
  obtain ⟨rfl, rfl, hW, hK, hX⟩ := hv0
  have hx := B.exec
  have hb := B.bytes
  have hr := B.returns
  have hts := atoms_spec (ws := wsX3_addHouse) B.pre
  have hown : s.vm.findClass RX3 = some mid.cls := findClass_of_methodNamed B.named
  have hlocks := B.notSynchronized
  have hi0 : ∀ w ∈ wsX00, w ∈ wsX3_addHouse := by decide +kernel
  have hi2 : ∀ w ∈ wsX20, w ∈ wsX3_addHouse := by decide +kernel
  have hi3 : ∀ w ∈ wsX30, w ∈ wsX3_addHouse := by decide +kernel
  have k10 := hts (.fieldLink RX3 10 "PumpRoster" "village" "LPumpRoster$Village;") (by decide +kernel)
  have k23 := hts (.fieldLink RX3 23 "PumpRoster$Village" "houseCount" "I") (by decide +kernel)
  have k34 := hts (.fieldLink RX3 34 "PumpRoster$Village" "houses" "[LPumpRoster$House;") (by decide +kernel)
  have k38 := hts (.fieldLink RX3 38 "PumpRoster$House" "lodgers" "I") (by decide +kernel)
  have k43 := hts (.fieldLink RX3 43 "PumpRoster$House" "hens" "I") (by decide +kernel)
  have k46 := hts (.fieldLink RX3 46 "PumpRoster$House" "forgets" "I") (by decide +kernel)
  have k49 := hts (.fieldLink RX3 49 "PumpRoster$House" "number" "I") (by decide +kernel)
  have kcl27 := hts (.classLink RX3 27 nISE) (by decide +kernel)
  have kin2 := hts (.initialized nISE) (by decide +kernel)
  have hat2 := yHat (ic := 31) (X := nISE) hts (by decide +kernel) xB2 hX.2.1.2.1 hX.2.1.2.2.2
  have hS : va_S (AX ad ad2 s.heap.size) s.heap s.heap [] := va_S.rf
  have hl := lv_entry ([.ref xa, .int x, .int y, .int w]) (n := 5) (Nat.le_of_ble_eq_true rfl)
  rw [lg_entry_eq]
  generalize (lg_sl ([.ref xa, .int x, .int y, .int w]) ++ List.replicate (5 - (lg_sl ([.ref xa, .int x, .int y, .int w])).length) Slot.unset).toArray = ls at hl ⊢
  have hl : lv_has ls 5 [(0, .ref xa), (1, .int x), (2, .int y), (3, .int w)] := hl
  obtain ⟨σ2, hW, hz⟩ := hW
  refine lv_iload_n hx hb dX3_addHouse_0 rfl (lv_at hl 1 rfl) ?_
  refine lv_iconst (v := 0) hx hb dX3_addHouse_1 (by decide) ?_
  refine lv_bipush (v := 9) hx hb dX3_addHouse_2 (by decide) ?_
  refine kXv (vx_runS (As := [.int x, .int 0, .int 9]) (rest := []) ⟨hx, hb, hml, hown, hts⟩ (c_X3_requireArgument l hfl G s.heap.size x 0 9) (va_cwS 3 hts gX3_addHouse_X3_requireArgument rfl rfl rfl (by decide +kernel) ⟨Nat.le_of_ble_eq_true rfl, Nat.le_of_ble_eq_true rfl⟩) ⟨Pc3.blind, Pc3.pre trivial hK hX hS (fun q h => Or.inr (Or.inr (Nat.le_trans hS.1 h)))⟩ rfl rfl hl.1 rfl (lv_room (Nat.le_of_ble_eq_true rfl)) dX3_addHouse_4 ⟨Nat.le_of_ble_eq_true rfl, Nat.le_of_ble_eq_true rfl⟩) hS (fun q h => Or.inr (Or.inr (Nat.le_trans hS.1 h))) (fun q h => Or.inr (Or.inr (Nat.le_trans hS.1 h))) (fun q h => Or.inr (Or.inr (Nat.le_trans hS.1 h))) (fun E ce q9 H locs hE hBX hk hS hc hv9 hcl => ?_) (fun H locs ok hBX hk hS => ?_)
  · skip
    exact yO htab hlocks (Or.inl ⟨hE.1, hE.2⟩) ⟨_, hW.kept (fun q hq => hk q hq (Nat.not_le.mpr hq)), hz⟩ hS hc hv9 hcl (Nat.le_of_ble_eq_true rfl) (Nat.le_of_ble_eq_true rfl)
  · skip
    have hW := hW.kept (fun q hq => hk q hq (Nat.not_le.mpr hq))
    have o1 := ok
    refine lv_iload_n hx hb dX3_addHouse_7 rfl (lv_at hl 2 rfl) ?_
    refine lv_iconst (v := 0) hx hb dX3_addHouse_8 (by decide) ?_
    refine lv_bipush (v := 9) hx hb dX3_addHouse_9 (by decide) ?_
    refine kXv (vx_runS (As := [.int y, .int 0, .int 9]) (rest := []) ⟨hx, hb, hml, hown, hts⟩ (c_X3_requireArgument l hfl G H.size y 0 9) (va_cwS 3 hts gX3_addHouse_X3_requireArgument rfl rfl rfl (by decide +kernel) ⟨Nat.le_of_ble_eq_true rfl, Nat.le_of_ble_eq_true rfl⟩) ⟨Pc3.blind, Pc3.pre trivial hK hX hS (fun q h => Or.inr (Or.inr (Nat.le_trans hS.1 h)))⟩ rfl rfl hl.1 rfl (lv_room (Nat.le_of_ble_eq_true rfl)) dX3_addHouse_11 ⟨Nat.le_of_ble_eq_true rfl, Nat.le_of_ble_eq_true rfl⟩) hS (fun q h => Or.inr (Or.inr (Nat.le_trans hS.1 h))) (fun q h => Or.inr (Or.inr (Nat.le_trans hS.1 h))) (fun q h => Or.inr (Or.inr (Nat.le_trans hS.1 h))) (fun E ce q9 H locs hE hBX hk hS hc hv9 hcl => ?_) (fun H locs ok hBX hk hS => ?_)
    · skip
      exact yO htab hlocks (Or.inr (Or.inl ⟨hE.1, o1, hE.2⟩)) ⟨_, hW.kept (fun q hq => hk q hq (Nat.not_le.mpr hq)), hz⟩ hS hc hv9 hcl (Nat.le_of_ble_eq_true rfl) (Nat.le_of_ble_eq_true rfl)
    · skip
      have hW := hW.kept (fun q hq => hk q hq (Nat.not_le.mpr hq))
      have o2 := ok
      refine lv_iload_n hx hb dX3_addHouse_14 rfl (lv_at hl 3 rfl) ?_
      refine lv_iconst (v := 1) hx hb dX3_addHouse_15 (by decide) ?_
      refine lv_bipush (v := 9) hx hb dX3_addHouse_16 (by decide) ?_
      refine kXv (vx_runS (As := [.int w, .int 1, .int 9]) (rest := []) ⟨hx, hb, hml, hown, hts⟩ (c_X3_requireArgument l hfl G H.size w 1 9) (va_cwS 3 hts gX3_addHouse_X3_requireArgument rfl rfl rfl (by decide +kernel) ⟨Nat.le_of_ble_eq_true rfl, Nat.le_of_ble_eq_true rfl⟩) ⟨Pc3.blind, Pc3.pre trivial hK hX hS (fun q h => Or.inr (Or.inr (Nat.le_trans hS.1 h)))⟩ rfl rfl hl.1 rfl (lv_room (Nat.le_of_ble_eq_true rfl)) dX3_addHouse_18 ⟨Nat.le_of_ble_eq_true rfl, Nat.le_of_ble_eq_true rfl⟩) hS (fun q h => Or.inr (Or.inr (Nat.le_trans hS.1 h))) (fun q h => Or.inr (Or.inr (Nat.le_trans hS.1 h))) (fun q h => Or.inr (Or.inr (Nat.le_trans hS.1 h))) (fun E ce q9 H locs hE hBX hk hS hc hv9 hcl => ?_) (fun H locs ok hBX hk hS => ?_)
      · skip
        exact yO htab hlocks (Or.inr (Or.inr (Or.inl ⟨hE.1, o1, o2, hE.2⟩))) ⟨_, hW.kept (fun q hq => hk q hq (Nat.not_le.mpr hq)), hz⟩ hS hc hv9 hcl (Nat.le_of_ble_eq_true rfl) (Nat.le_of_ble_eq_true rfl)
      · skip
        have hW := hW.kept (fun q hq => hk q hq (Nat.not_le.mpr hq))
        have o3 := ok
        refine lv_aload_n hx hb dX3_addHouse_21 rfl (lv_at hl 0 rfl) ?_
        refine rX0 hx hb hts hi3 hown hK hW k10 dX3_addHouse_22 ?_
        refine rV 2 (f := 51) (v := nI nH) hx hb hts hi2 hown hK hW.2.1 (by decide) (by decide) rfl hv.2.2.1 k23 dX3_addHouse_25 ?_
        refine lv_bipush (v := 10) hx hb dX3_addHouse_28 (by decide) ?_
        refine lv_icmp_lt (tgt := 43) hx hb dX3_addHouse_30 (by decide) (fun c30 => ?_) (fun c30 => ?_)
        · skip
          replace c30 := (nI_ltI (a := nH) (b := 10) (by omega) (by omega)).mp c30
          have o4 : nH < 10 := c30
          have hW : XW G xa ad ad2 (wmx (nH + 1) nP δ (addV nH δ τ)) σ2 H := by rw [wmx_addV]; exact hW
          refine lv_aload_n hx hb dX3_addHouse_43 rfl (lv_at hl 0 rfl) ?_
          refine rX0 hx hb hts hi3 hown hK hW k10 dX3_addHouse_44 ?_
          refine rVh hx hb hts hi2 hown hK hW.2.1 k34 dX3_addHouse_47 ?_
          refine lv_aload_n hx hb dX3_addHouse_50 rfl (lv_at hl 0 rfl) ?_
          refine rX0 hx hb hts hi3 hown hK hW k10 dX3_addHouse_51 ?_
          refine rV 2 (f := 51) (v := nI nH) hx hb hts hi2 hown hK hW.2.1 (by decide) (by decide) rfl hv.2.2.1 k23 dX3_addHouse_54 ?_
          refine rHA (h := nH) hx hb hK hW.2.1 (by omega) dX3_addHouse_57 ?_
          refine lv_astore (lv' := [(4, .ref (ad (3 + nH))), (0, .ref xa), (1, .int x), (2, .int y), (3, .int w)]) hx hb dX3_addHouse_58 hl (by decide) rfl (fun ls hl => ?_)
          refine lv_aload hx hb dX3_addHouse_60 (lv_at hl 0 rfl) ?_
          refine lv_iload_n hx hb dX3_addHouse_62 rfl (lv_at hl 2 rfl) ?_
          refine xH 1 (f := 0) (h := nH) hx hb hts hi0 hown hK hI hW hS (by omega) (show nH + 1 ≤ 10 by omega) (by decide) (by decide) rfl k38 dX3_addHouse_63 (fun H locs hW hS => ?_)
          refine lv_aload hx hb dX3_addHouse_66 (lv_at hl 0 rfl) ?_
          refine lv_iload_n hx hb dX3_addHouse_68 rfl (lv_at hl 3 rfl) ?_
          refine xH 2 (f := 1) (h := nH) hx hb hts hi0 hown hK hI hW hS (by omega) (show nH + 1 ≤ 10 by omega) (by decide) (by decide) rfl k43 dX3_addHouse_69 (fun H locs hW hS => ?_)
          refine lv_aload hx hb dX3_addHouse_72 (lv_at hl 0 rfl) ?_
          refine lv_iload_n hx hb dX3_addHouse_74 rfl (lv_at hl 4 rfl) ?_
          refine xH 3 (f := 2) (h := nH) hx hb hts hi0 hown hK hI hW hS (by omega) (show nH + 1 ≤ 10 by omega) (by decide) (by decide) rfl k46 dX3_addHouse_75 (fun H locs hW hS => ?_)
          refine lv_aload_n hx hb dX3_addHouse_78 rfl (lv_at hl 1 rfl) ?_
          refine rX0 hx hb hts hi3 hown hK hW k10 dX3_addHouse_79 ?_
          refine lv_dup hx hb dX3_addHouse_82 rfl ?_
          refine rV 2 (f := 51) (v := nI nH) hx hb hts hi2 hown hK hW.2.1 (by decide) (by decide) rfl (((wst_f (by decide)).trans ((wst_f (by decide)).trans (wst_f (by decide)))).trans hv.2.2.1) k23 dX3_addHouse_83 ?_
          refine lv_iconst (v := 1) hx hb dX3_addHouse_86 (by decide) ?_
          refine lv_iadd hx hb dX3_addHouse_87 ?_
          refine lv_topi (fun y1 ey1 => ?_)
          obtain rfl : y1 = nI (nH + 1) := ey1.trans (nI_add nH 1)
          refine xVm 2 (f := 51) hx hb hts hi2 hown hK hI hW hS (by decide) (by decide) rfl k23 dX3_addHouse_88 (fun H locs hW hS => ?_)
          refine lv_aload hx hb dX3_addHouse_91 (lv_at hl 0 rfl) ?_
          refine rHn (h := nH) hx hb hts hi0 hown hK hW.2.1 (by omega) k49 dX3_addHouse_93 ?_
          exact yI hx hb hr hlocks (⟨o1, o2, o3, o4⟩) (⟨_, hW, hz⟩) hS rfl (Nat.le_of_ble_eq_true rfl) (Nat.le_of_ble_eq_true rfl) dX3_addHouse_96
        · skip
          replace c30 : ¬ (nH < 10) := fun q => c30 ((nI_ltI (a := nH) (b := 10) (by omega) (by omega)).mpr q)
          obtain ⟨sa, hsa⟩ := hX.2.2.1
          exact yT hx hb hfl hown (by decide) kcl27 kin2 hsa hat2 xG2 hX hS (hl.1.trans hml.symm) dX3_addHouse_33 dX3_addHouse_36 dX3_addHouse_37 dX3_addHouse_39 dX3_addHouse_42 htab (Nat.le_of_ble_eq_true rfl) (Nat.le_of_ble_eq_true rfl) (Nat.le_of_ble_eq_true rfl) (Nat.le_of_ble_eq_true rfl) hlocks (Or.inr (Or.inr (Or.inr (⟨rfl, o1, o2, o3, (fun q => c30 q)⟩)))) (fun H1 hq => ⟨_, hW.kept hq, hz⟩) (Nat.le_of_ble_eq_true rfl) (Nat.le_of_ble_eq_true rfl)

set_option maxHeartbeats 4000000 in
set_option maxRecDepth 100000 in
theorem c_X3_addPump (l : Launch) (hfl : l.stackTraces = false) (G : wG) (xa : Nat) (ad ad2 : Nat → Nat) (hI : XI xa ad ad2) (nH nP : Nat) (hH : nH ≤ 10) (hP : nP ≤ 3) (δ τ z : wS) (nz : Nat) (x y : Int32) (hv : Inv nH nP τ) : vx_Met l yX3_addPump wsX3_addPump ({ frames := 7, cells := 3, slots := 18, locals := 104 } : Room) (Pc3 G [.ref xa, .int x, .int y] nz (XWz G xa ad ad2 (wmx nH nP δ τ) z) (AX ad ad2 nz)) (Qxi (inn 0 200 x ∧ inn 0 50 y ∧ nP < 3) (nI nP) (XWz G xa ad ad2 (wmx nH (nP + 1) δ (wst (wst (wst (addW nP δ τ) 20 nP x) 21 nP y) 52 0 (nI (nP + 1)))) z) (AX ad ad2 nz)) (Xx (fun E => (E = nIAE ∧ ¬ (inn 0 200 x)) ∨ (E = nIAE ∧ inn 0 200 x ∧ ¬ (inn 0 50 y)) ∨ (E = nISE ∧ inn 0 200 x ∧ inn 0 50 y ∧ ¬ (nP < 3))) (XWz G xa ad ad2 (wmx nH nP δ τ) z) (AX ad ad2 nz)) 3 18 (AX ad ad2 nz) := by
  refine vx_ofW (cc := cX3_addPump) (maxL := 5) (ret := (some .int)) (by decide) rfl ?_
  intro pg ev s mid args below meth cd s₁ B hml htab hv0
  obtain ⟨rfl, rfl, hW, hK, hX⟩ := hv0
  have hx := B.exec
  have hb := B.bytes
  have hr := B.returns
  have hts := atoms_spec (ws := wsX3_addPump) B.pre
  have hown : s.vm.findClass RX3 = some mid.cls := findClass_of_methodNamed B.named
  have hlocks := B.notSynchronized
  have hi1 : ∀ w ∈ wsX10, w ∈ wsX3_addPump := by decide +kernel
  have hi2 : ∀ w ∈ wsX20, w ∈ wsX3_addPump := by decide +kernel
  have hi3 : ∀ w ∈ wsX30, w ∈ wsX3_addPump := by decide +kernel
  have k10 := hts (.fieldLink RX3 10 "PumpRoster" "village" "LPumpRoster$Village;") (by decide +kernel)
  have k52 := hts (.fieldLink RX3 52 "PumpRoster$Village" "pumpCount" "I") (by decide +kernel)
  have k57 := hts (.fieldLink RX3 57 "PumpRoster$Village" "pumps" "[LPumpRoster$Pump;") (by decide +kernel)
  have k61 := hts (.fieldLink RX3 61 "PumpRoster$Pump" "level" "I") (by decide +kernel)
  have k66 := hts (.fieldLink RX3 66 "PumpRoster$Pump" "inflow" "I") (by decide +kernel)
  have kcl27 := hts (.classLink RX3 27 nISE) (by decide +kernel)
  have kin2 := hts (.initialized nISE) (by decide +kernel)
  have hat2 := yHat (ic := 31) (X := nISE) hts (by decide +kernel) xB2 hX.2.1.2.1 hX.2.1.2.2.2
  have hS : va_S (AX ad ad2 s.heap.size) s.heap s.heap [] := va_S.rf
  have hl := lv_entry ([.ref xa, .int x, .int y]) (n := 5) (Nat.le_of_ble_eq_true rfl)
  rw [lg_entry_eq]
  generalize (lg_sl ([.ref xa, .int x, .int y]) ++ List.replicate (5 - (lg_sl ([.ref xa, .int x, .int y])).length) Slot.unset).toArray = ls at hl ⊢
  have hl : lv_has ls 5 [(0, .ref xa), (1, .int x), (2, .int y)] := hl
  obtain ⟨σ2, hW, hz⟩ := hW
  refine lv_iload_n hx hb dX3_addPump_0 rfl (lv_at hl 1 rfl) ?_
  refine lv_iconst (v := 0) hx hb dX3_addPump_1 (by decide) ?_
  refine lv_sipush (v := 200) hx hb dX3_addPump_2 (by decide) ?_
  refine kXv (vx_runS (As := [.int x, .int 0, .int 200]) (rest := []) ⟨hx, hb, hml, hown, hts⟩ (c_X3_requireArgument l hfl G s.heap.size x 0 200) (va_cwS 3 hts gX3_addPump_X3_requireArgument rfl rfl rfl (by decide +kernel) ⟨Nat.le_of_ble_eq_true rfl, Nat.le_of_ble_eq_true rfl⟩) ⟨Pc3.blind, Pc3.pre trivial hK hX hS (fun q h => Or.inr (Or.inr (Nat.le_trans hS.1 h)))⟩ rfl rfl hl.1 rfl (lv_room (Nat.le_of_ble_eq_true rfl)) dX3_addPump_5 ⟨Nat.le_of_ble_eq_true rfl, Nat.le_of_ble_eq_true rfl⟩) hS (fun q h => Or.inr (Or.inr (Nat.le_trans hS.1 h))) (fun q h => Or.inr (Or.inr (Nat.le_trans hS.1 h))) (fun q h => Or.inr (Or.inr (Nat.le_trans hS.1 h))) (fun E ce q9 H locs hE hBX hk hS hc hv9 hcl => ?_) (fun H locs ok hBX hk hS => ?_)
  · skip
    exact yO htab hlocks (Or.inl ⟨hE.1, hE.2⟩) ⟨_, hW.kept (fun q hq => hk q hq (Nat.not_le.mpr hq)), hz⟩ hS hc hv9 hcl (Nat.le_of_ble_eq_true rfl) (Nat.le_of_ble_eq_true rfl)
  · skip
    have hW := hW.kept (fun q hq => hk q hq (Nat.not_le.mpr hq))
    have o1 := ok
    refine lv_iload_n hx hb dX3_addPump_8 rfl (lv_at hl 2 rfl) ?_
    refine lv_iconst (v := 0) hx hb dX3_addPump_9 (by decide) ?_
    refine lv_bipush (v := 50) hx hb dX3_addPump_10 (by decide) ?_
    refine kXv (vx_runS (As := [.int y, .int 0, .int 50]) (rest := []) ⟨hx, hb, hml, hown, hts⟩ (c_X3_requireArgument l hfl G H.size y 0 50) (va_cwS 3 hts gX3_addPump_X3_requireArgument rfl rfl rfl (by decide +kernel) ⟨Nat.le_of_ble_eq_true rfl, Nat.le_of_ble_eq_true rfl⟩) ⟨Pc3.blind, Pc3.pre trivial hK hX hS (fun q h => Or.inr (Or.inr (Nat.le_trans hS.1 h)))⟩ rfl rfl hl.1 rfl (lv_room (Nat.le_of_ble_eq_true rfl)) dX3_addPump_12 ⟨Nat.le_of_ble_eq_true rfl, Nat.le_of_ble_eq_true rfl⟩) hS (fun q h => Or.inr (Or.inr (Nat.le_trans hS.1 h))) (fun q h => Or.inr (Or.inr (Nat.le_trans hS.1 h))) (fun q h => Or.inr (Or.inr (Nat.le_trans hS.1 h))) (fun E ce q9 H locs hE hBX hk hS hc hv9 hcl => ?_) (fun H locs ok hBX hk hS => ?_)
    · skip
      exact yO htab hlocks (Or.inr (Or.inl ⟨hE.1, o1, hE.2⟩)) ⟨_, hW.kept (fun q hq => hk q hq (Nat.not_le.mpr hq)), hz⟩ hS hc hv9 hcl (Nat.le_of_ble_eq_true rfl) (Nat.le_of_ble_eq_true rfl)
    · skip
      have hW := hW.kept (fun q hq => hk q hq (Nat.not_le.mpr hq))
      have o2 := ok
      refine lv_aload_n hx hb dX3_addPump_15 rfl (lv_at hl 0 rfl) ?_
      refine rX0 hx hb hts hi3 hown hK hW k10 dX3_addPump_16 ?_
      refine rV 3 (f := 52) (v := nI nP) hx hb hts hi2 hown hK hW.2.1 (by decide) (by decide) rfl hv.2.2.2.1 k52 dX3_addPump_19 ?_
      refine lv_iconst (v := 3) hx hb dX3_addPump_22 (by decide) ?_
      refine lv_icmp_lt (tgt := 36) hx hb dX3_addPump_23 (by decide) (fun c23 => ?_) (fun c23 => ?_)
      · skip
        replace c23 := (nI_ltI (a := nP) (b := 3) (by omega) (by omega)).mp c23
        have o3 : nP < 3 := c23
        have hW : XW G xa ad ad2 (wmx nH (nP + 1) δ (addW nP δ τ)) σ2 H := by rw [wmx_addW o3]; exact hW
        have e52 : addW nP δ τ 52 0 = nI nP := by unfold addW; rw [if_neg (by omega)]; exact hv.2.2.2.1
        refine lv_aload_n hx hb dX3_addPump_36 rfl (lv_at hl 0 rfl) ?_
        refine rX0 hx hb hts hi3 hown hK hW k10 dX3_addPump_37 ?_
        refine rV 3 (f := 52) (v := nI nP) hx hb hts hi2 hown hK hW.2.1 (by decide) (by decide) rfl e52 k52 dX3_addPump_40 ?_
        refine lv_istore_n (lv' := [(3, .int (nI nP)), (0, .ref xa), (1, .int x), (2, .int y)]) hx hb dX3_addPump_43 rfl hl (by decide) rfl (fun ls hl => ?_)
        refine lv_aload_n hx hb dX3_addPump_44 rfl (lv_at hl 1 rfl) ?_
        refine rX0 hx hb hts hi3 hown hK hW k10 dX3_addPump_45 ?_
        refine rVp hx hb hts hi2 hown hK hW.2.1 k57 dX3_addPump_48 ?_
        refine lv_iload_n hx hb dX3_addPump_51 rfl (lv_at hl 0 rfl) ?_
        refine rPA (h := nP) hx hb hK hW.2.1 (by omega) dX3_addPump_52 ?_
        refine lv_astore (lv' := [(4, .ref (ad (13 + nP))), (3, .int (nI nP)), (0, .ref xa), (1, .int x), (2, .int y)]) hx hb dX3_addPump_53 hl (by decide) rfl (fun ls hl => ?_)
        refine lv_aload hx hb dX3_addPump_55 (lv_at hl 0 rfl) ?_
        refine lv_iload_n hx hb dX3_addPump_57 rfl (lv_at hl 3 rfl) ?_
        refine xP 0 (f := 20) (h := nP) hx hb hts hi1 hown hK hI hW hS (by omega) (show nP + 1 ≤ 3 by omega) (by decide) (by decide) rfl rfl rfl k61 dX3_addPump_58 (fun H locs hW hS => ?_)
        refine lv_aload hx hb dX3_addPump_61 (lv_at hl 0 rfl) ?_
        refine lv_iload_n hx hb dX3_addPump_63 rfl (lv_at hl 4 rfl) ?_
        refine xP 1 (f := 21) (h := nP) hx hb hts hi1 hown hK hI hW hS (by omega) (show nP + 1 ≤ 3 by omega) (by decide) (by decide) rfl rfl rfl k66 dX3_addPump_64 (fun H locs hW hS => ?_)
        refine lv_aload_n hx hb dX3_addPump_67 rfl (lv_at hl 2 rfl) ?_
        refine rX0 hx hb hts hi3 hown hK hW k10 dX3_addPump_68 ?_
        refine lv_dup hx hb dX3_addPump_71 rfl ?_
        refine rV 3 (f := 52) (v := nI nP) hx hb hts hi2 hown hK hW.2.1 (by decide) (by decide) rfl (((wst_f (by decide)).trans (wst_f (by decide))).trans e52) k52 dX3_addPump_72 ?_
        refine lv_iconst (v := 1) hx hb dX3_addPump_75 (by decide) ?_
        refine lv_iadd hx hb dX3_addPump_76 ?_
        refine lv_topi (fun y1 ey1 => ?_)
        obtain rfl : y1 = nI (nP + 1) := ey1.trans (nI_add nP 1)
        refine xVm 3 (f := 52) hx hb hts hi2 hown hK hI hW hS (by decide) (by decide) rfl k52 dX3_addPump_77 (fun H locs hW hS => ?_)
        refine lv_iload_n hx hb dX3_addPump_80 rfl (lv_at hl 1 rfl) ?_
        exact yI hx hb hr hlocks (⟨o1, o2, o3⟩) (⟨_, hW, hz⟩) hS rfl (Nat.le_of_ble_eq_true rfl) (Nat.le_of_ble_eq_true rfl) dX3_addPump_81
      · skip
        replace c23 : ¬ (nP < 3) := fun q => c23 ((nI_ltI (a := nP) (b := 3) (by omega) (by omega)).mpr q)
        obtain ⟨sa, hsa⟩ := hX.2.2.2.1
        exact yT hx hb hfl hown (by decide) kcl27 kin2 hsa hat2 xG2 hX hS (hl.1.trans hml.symm) dX3_addPump_26 dX3_addPump_29 dX3_addPump_30 dX3_addPump_32 dX3_addPump_35 htab (Nat.le_of_ble_eq_true rfl) (Nat.le_of_ble_eq_true rfl) (Nat.le_of_ble_eq_true rfl) (Nat.le_of_ble_eq_true rfl) hlocks (Or.inr (Or.inr (⟨rfl, o1, o2, (fun q => c23 q)⟩))) (fun H1 hq => ⟨_, hW.kept hq, hz⟩) (Nat.le_of_ble_eq_true rfl) (Nat.le_of_ble_eq_true rfl)

set_option maxHeartbeats 4000000 in
set_option maxRecDepth 100000 in
theorem c_X3_foresee (l : Launch) (hfl : l.stackTraces = false) (G : wG) (xa : Nat) (ad ad2 : Nat → Nat) (hI : XI xa ad ad2) (nH nP : Nat) (hH : nH ≤ 10) (hP : nP ≤ 3) (δ τ z : wS) (nz : Nat) (x y : Int32) (hv : Inv nH nP τ) : vx_Met l yX3_foresee wsX3_foresee ({ frames := 7, cells := 2, slots := 12, locals := 138 } : Room) (Pc3 G [.ref xa, .int x, .int y] nz (XWz G xa ad ad2 (wmx nH nP δ τ) z) (AX ad ad2 nz)) (Qxi (inn 1 100 x ∧ inn 0 3 y) (fsF nH nP τ z (cl x) (cl y)) (XWz G xa ad ad2 (wmx nH nP δ τ) (fsX nH nP τ z (cl x))) (AX ad ad2 nz)) (Xx (fun E => (E = nIAE ∧ ¬ (inn 1 100 x)) ∨ (E = nIOB ∧ inn 1 100 x ∧ ¬ (inn 0 3 y))) (XWz G xa ad ad2 (wmx nH nP δ τ) z) (AX ad ad2 nz)) 2 12 (AX ad ad2 nz) := by
  refine vx_ofW (cc := cX3_foresee) (maxL := 3) (ret := (some .int)) (by decide) rfl ?_
  intro pg ev s mid args below meth cd s₁ B hml htab hv0
  obtain ⟨rfl, rfl, hW, hK, hX⟩ := hv0
  have hx := B.exec
  have hb := B.bytes
  have hr := B.returns
  have hts := atoms_spec (ws := wsX3_foresee) B.pre
  have hown : s.vm.findClass RX3 = some mid.cls := findClass_of_methodNamed B.named
  have hlocks := B.notSynchronized
  have hi2 : ∀ w ∈ wsX20, w ∈ wsX3_foresee := by decide +kernel
  have hi3 : ∀ w ∈ wsX30, w ∈ wsX3_foresee := by decide +kernel
  have k16 := hts (.fieldLink RX3 16 "PumpRoster" "trial" "LPumpRoster$Village;") (by decide +kernel)
  have k10 := hts (.fieldLink RX3 10 "PumpRoster" "village" "LPumpRoster$Village;") (by decide +kernel)
  have k140 := hts (.fieldLink RX3 140 "PumpRoster$Village" "chest" "I") (by decide +kernel)
  have hS : va_S (AX ad ad2 s.heap.size) s.heap s.heap [] := va_S.rf
  have hl := lv_entry ([.ref xa, .int x, .int y]) (n := 3) (Nat.le_of_ble_eq_true rfl)
  rw [lg_entry_eq]
  generalize (lg_sl ([.ref xa, .int x, .int y]) ++ List.replicate (3 - (lg_sl ([.ref xa, .int x, .int y])).length) Slot.unset).toArray = ls at hl ⊢
  have hl : lv_has ls 3 [(0, .ref xa), (1, .int x), (2, .int y)] := hl
  obtain ⟨σ2, hW, hz⟩ := hW
  refine lv_iload_n hx hb dX3_foresee_0 rfl (lv_at hl 1 rfl) ?_
  refine lv_iconst (v := 1) hx hb dX3_foresee_1 (by decide) ?_
  refine lv_bipush (v := 100) hx hb dX3_foresee_2 (by decide) ?_
  refine kXv (vx_runS (As := [.int x, .int 1, .int 100]) (rest := []) ⟨hx, hb, hml, hown, hts⟩ (c_X3_requireArgument l hfl G s.heap.size x 1 100) (va_cwS 3 hts gX3_foresee_X3_requireArgument rfl rfl rfl (by decide +kernel) ⟨Nat.le_of_ble_eq_true rfl, Nat.le_of_ble_eq_true rfl⟩) ⟨Pc3.blind, Pc3.pre trivial hK hX hS (fun q h => Or.inr (Or.inr (Nat.le_trans hS.1 h)))⟩ rfl rfl hl.1 rfl (lv_room (Nat.le_of_ble_eq_true rfl)) dX3_foresee_4 ⟨Nat.le_of_ble_eq_true rfl, Nat.le_of_ble_eq_true rfl⟩) hS (fun q h => Or.inr (Or.inr (Nat.le_trans hS.1 h))) (fun q h => Or.inr (Or.inr (Nat.le_trans hS.1 h))) (fun q h => Or.inr (Or.inr (Nat.le_trans hS.1 h))) (fun E ce q9 H locs hE hBX hk hS hc hv9 hcl => ?_) (fun H locs ok hBX hk hS => ?_)
  · skip
    exact yO htab hlocks (Or.inl ⟨hE.1, hE.2⟩) ⟨_, hW.kept (fun q hq => hk q hq (Nat.not_le.mpr hq)), hz⟩ hS hc hv9 hcl (Nat.le_of_ble_eq_true rfl) (Nat.le_of_ble_eq_true rfl)
  · skip
    have hW := hW.kept (fun q hq => hk q hq (Nat.not_le.mpr hq))
    have o1 := ok
    obtain ⟨n, hlon, hhin, rfl⟩ := inn_nI (lo := 1) (hi := 100) ok (by omega) (by omega)
    refine lv_iload_n hx hb dX3_foresee_7 rfl (lv_at hl 2 rfl) ?_
    refine lv_iconst (v := 3) hx hb dX3_foresee_8 (by decide) ?_
    refine kXv (vx_runS (As := [.int y, .int 3]) (rest := []) ⟨hx, hb, hml, hown, hts⟩ (c_X3_requireIndex l hfl G H.size y 3) (va_cwS 2 hts gX3_foresee_X3_requireIndex rfl rfl rfl (by decide +kernel) ⟨Nat.le_of_ble_eq_true rfl, Nat.le_of_ble_eq_true rfl⟩) ⟨Pc3.blind, Pc3.pre trivial hK hX hS (fun q h => Or.inr (Or.inr (Nat.le_trans hS.1 h)))⟩ rfl rfl hl.1 rfl (lv_room (Nat.le_of_ble_eq_true rfl)) dX3_foresee_9 ⟨Nat.le_of_ble_eq_true rfl, Nat.le_of_ble_eq_true rfl⟩) hS (fun q h => Or.inr (Or.inr (Nat.le_trans hS.1 h))) (fun q h => Or.inr (Or.inr (Nat.le_trans hS.1 h))) (fun q h => Or.inr (Or.inr (Nat.le_trans hS.1 h))) (fun E ce q9 H locs hE hBX hk hS hc hv9 hcl => ?_) (fun H locs ok hBX hk hS => ?_)
    · skip
      exact yO htab hlocks (Or.inr (⟨hE.1, o1, hE.2⟩)) ⟨_, hW.kept (fun q hq => hk q hq (Nat.not_le.mpr hq)), hz⟩ hS hc hv9 hcl (Nat.le_of_ble_eq_true rfl) (Nat.le_of_ble_eq_true rfl)
    · skip
      have hW := hW.kept (fun q hq => hk q hq (Nat.not_le.mpr hq))
      have o2 := ok
      obtain ⟨k, hlok, hhik, rfl⟩ := inn_nI (lo := 0) (hi := 3) ok (by omega) (by omega)
      refine lv_aload_n hx hb dX3_foresee_12 rfl (lv_at hl 0 rfl) ?_
      refine rX1 hx hb hts hi3 hown hK hW k16 dX3_foresee_13 ?_
      refine lv_aload_n hx hb dX3_foresee_16 rfl (lv_at hl 0 rfl) ?_
      refine rX0 hx hb hts hi3 hown hK hW k10 dX3_foresee_17 ?_
      refine kV (va_runV (As := [.ref (ad 0)]) (rest := []) ⟨hx, hb, hml, hown, hts⟩ (c_X2_copyFrom l G ad2 ad hI.2.1 hI.2.2.1.symm nH nP hH hP σ2 σ2 δ τ hv) (cwV 1 hts gX3_foresee_X2_copyFrom rfl rfl rfl (by decide +kernel) ⟨Nat.le_of_ble_eq_true rfl, Nat.le_of_ble_eq_true rfl⟩) ⟨Pc0.blind, va_recv hK (va_P1 (hW.2.2.1)) (ci := 2) (q0 := 0) rfl rfl, Pc0.pre (show (fun H => CVm G ad2 10 3 σ2 σ2 H ∧ CVm G ad nH nP δ τ H) _ from ⟨by show CV G ad2 (wmx 10 3 σ2 σ2) _; rw [wmx_self]; exact hW.2.2, hW.2.1⟩) hK⟩ rfl rfl hl.1 rfl (lv_room (Nat.le_of_ble_eq_true rfl)) dX3_foresee_20 ⟨Nat.le_of_ble_eq_true rfl, Nat.le_of_ble_eq_true rfl⟩) hS (fun q _ h => Or.inr (Or.inl h)) (fun q h => Or.inr (Or.inl h)) (fun H locs hB _ hk hS => ?_)
      have hW := hW.trial hI hB hk
      have hW : XW G xa ad ad2 (wmx nH nP δ τ) (wmx nH nP (wmx 10 3 σ2 (cpyF nH nP τ σ2)) (tkF τ z)) H := ⟨hW.1, hW.2.1, copy_view hv hz hW.2.2⟩
      obtain ⟨δ2, hδ2⟩ : ∃ d, d = wmx 10 3 σ2 (cpyF nH nP τ σ2) := ⟨_, rfl⟩
      rw [← hδ2] at hW
      refine lv_aload_n hx hb dX3_foresee_23 rfl (lv_at hl 0 rfl) ?_
      refine rX1 hx hb hts hi3 hown hK hW k16 dX3_foresee_24 ?_
      refine lv_iload_n hx hb dX3_foresee_27 rfl (lv_at hl 1 rfl) ?_
      refine kI (va_runV (As := [.int (nI n)]) (rest := []) ⟨hx, hb, hml, hown, hts⟩ (c_X2_runDays l G ad2 hI.2.1 nH nP hH hP δ2 (tkF τ z) n hv.tk (by omega)) (cwV 1 hts gX3_foresee_X2_runDays rfl rfl rfl (by decide +kernel) ⟨Nat.le_of_ble_eq_true rfl, Nat.le_of_ble_eq_true rfl⟩) ⟨Pc0.blind, va_recv hK (va_P1 (hW.2.2.1)) (ci := 2) (q0 := 0) rfl rfl, Pc0.pre hW.2.2 hK⟩ rfl rfl hl.1 rfl (lv_room (Nat.le_of_ble_eq_true rfl)) dX3_foresee_28 ⟨Nat.le_of_ble_eq_true rfl, Nat.le_of_ble_eq_true rfl⟩) hS (fun q _ h => Or.inr (Or.inl h)) (fun q h => Or.inr (Or.inl h)) (fun H locs hB _ hk hS => ?_)
      have hW := hW.trial hI hB hk
      refine lv_pop hx hb dX3_foresee_31 rfl ?_
      refine lv_iload_n hx hb dX3_foresee_32 rfl (lv_at hl 2 rfl) ?_
      rcases (show k = 0 ∨ k = 1 ∨ k = 2 ∨ k = 3 by omega) with rfl | rfl | rfl | rfl
      · skip
        refine lv_tableIn (off := 27) (tgt := 60) hx hb dX3_foresee_33 (by decide) (by decide) rfl (by decide) ?_
        refine lv_aload_n hx hb dX3_foresee_60 rfl (lv_at hl 0 rfl) ?_
        refine rX1 hx hb hts hi3 hown hK hW k16 dX3_foresee_61 ?_
        refine kI (va_runV (As := []) (rest := []) ⟨hx, hb, hml, hown, hts⟩ (c_X2_allThirst l G ad2 hI.2.1 nH nP hH hP δ2 (dysF nH nP n (tkF τ z)) hv.tk.oDys) (cwV 0 hts gX3_foresee_X2_allThirst rfl rfl rfl (by decide +kernel) ⟨Nat.le_of_ble_eq_true rfl, Nat.le_of_ble_eq_true rfl⟩) ⟨Pc0.blind, va_recv hK (va_P1 (hW.2.2.1)) (ci := 2) (q0 := 0) rfl rfl, Pc0.pre hW.2.2 hK⟩ rfl rfl hl.1 rfl (lv_room (Nat.le_of_ble_eq_true rfl)) dX3_foresee_64 ⟨Nat.le_of_ble_eq_true rfl, Nat.le_of_ble_eq_true rfl⟩) hS (fun q _ h => Or.inr (Or.inl h)) (fun q h => Or.inr (Or.inl h)) (fun H locs hB _ hk hS => ?_)
        have hW := hW.trial hI hB hk
        refine lv_aload_n hx hb dX3_foresee_67 rfl (lv_at hl 0 rfl) ?_
        refine rX0 hx hb hts hi3 hown hK hW k10 dX3_foresee_68 ?_
        refine kI (va_runV (As := []) (rest := [.int (sm (fun j9 => (dysF nH nP n (tkF τ z)) 8 j9) nH)]) ⟨hx, hb, hml, hown, hts⟩ (c_X2_allThirst l G ad hI.1 nH nP hH hP δ τ hv) (cwV 0 hts gX3_foresee_X2_allThirst rfl rfl rfl (by decide +kernel) ⟨Nat.le_of_ble_eq_true rfl, Nat.le_of_ble_eq_true rfl⟩) ⟨Pc0.blind, va_recv hK (va_P1 (hW.2.1.1)) (ci := 2) (q0 := 0) rfl rfl, Pc0.pre hW.2.1 hK⟩ rfl rfl hl.1 rfl (lv_room (Nat.le_of_ble_eq_true rfl)) dX3_foresee_71 ⟨Nat.le_of_ble_eq_true rfl, Nat.le_of_ble_eq_true rfl⟩) hS (fun q _ h => Or.inl h) (fun q h => Or.inl h) (fun H locs hB _ hk hS => ?_)
        have hW := hW.main hI hB hk
        refine lv_isub hx hb dX3_foresee_74 ?_
        exact yI hx hb hr hlocks (⟨o1, o2⟩) (by rw [show cl (nI n) = n from nI_clamp (by omega)]; exact ⟨_, hW, fun i hi => ⟨wmx_31, wmx_32⟩⟩) hS (by rw [show cl (nI n) = n from nI_clamp (by omega)]; rfl) (Nat.le_of_ble_eq_true rfl) (Nat.le_of_ble_eq_true rfl) dX3_foresee_75
      · skip
        refine lv_tableIn (off := 43) (tgt := 76) hx hb dX3_foresee_33 (by decide) (by decide) rfl (by decide) ?_
        refine lv_aload_n hx hb dX3_foresee_76 rfl (lv_at hl 0 rfl) ?_
        refine rX1 hx hb hts hi3 hown hK hW k16 dX3_foresee_77 ?_
        refine rV 4 (f := 53) (v := (dysF nH nP n (tkF τ z)) 53 0) hx hb hts hi2 hown hK hW.2.2 (by decide) (by decide) rfl rfl k140 dX3_foresee_80 ?_
        exact yI hx hb hr hlocks (⟨o1, o2⟩) (by rw [show cl (nI n) = n from nI_clamp (by omega)]; exact ⟨_, hW, fun i hi => ⟨wmx_31, wmx_32⟩⟩) hS (by rw [show cl (nI n) = n from nI_clamp (by omega)]; rfl) (Nat.le_of_ble_eq_true rfl) (Nat.le_of_ble_eq_true rfl) dX3_foresee_83
      · skip
        refine lv_tableIn (off := 51) (tgt := 84) hx hb dX3_foresee_33 (by decide) (by decide) rfl (by decide) ?_
        refine lv_aload_n hx hb dX3_foresee_84 rfl (lv_at hl 0 rfl) ?_
        refine rX1 hx hb hts hi3 hown hK hW k16 dX3_foresee_85 ?_
        refine kI (va_runV (As := []) (rest := []) ⟨hx, hb, hml, hown, hts⟩ (c_X2_allMarks l G ad2 hI.2.1 nH nP hH hP δ2 (dysF nH nP n (tkF τ z)) hv.tk.oDys) (cwV 0 hts gX3_foresee_X2_allMarks rfl rfl rfl (by decide +kernel) ⟨Nat.le_of_ble_eq_true rfl, Nat.le_of_ble_eq_true rfl⟩) ⟨Pc0.blind, va_recv hK (va_P1 (hW.2.2.1)) (ci := 2) (q0 := 0) rfl rfl, Pc0.pre hW.2.2 hK⟩ rfl rfl hl.1 rfl (lv_room (Nat.le_of_ble_eq_true rfl)) dX3_foresee_88 ⟨Nat.le_of_ble_eq_true rfl, Nat.le_of_ble_eq_true rfl⟩) hS (fun q _ h => Or.inr (Or.inl h)) (fun q h => Or.inr (Or.inl h)) (fun H locs hB _ hk hS => ?_)
        have hW := hW.trial hI hB hk
        exact yI hx hb hr hlocks (⟨o1, o2⟩) (by rw [show cl (nI n) = n from nI_clamp (by omega)]; exact ⟨_, hW, fun i hi => ⟨wmx_31, wmx_32⟩⟩) hS (by rw [show cl (nI n) = n from nI_clamp (by omega)]; rfl) (Nat.le_of_ble_eq_true rfl) (Nat.le_of_ble_eq_true rfl) dX3_foresee_91
      · skip
        refine lv_tableOut (tgt := 92) hx hb dX3_foresee_33 (by decide) (by decide) ?_
        refine lv_aload_n hx hb dX3_foresee_92 rfl (lv_at hl 0 rfl) ?_
        refine rX1 hx hb hts hi3 hown hK hW k16 dX3_foresee_93 ?_
        refine kI (va_runV (As := []) (rest := []) ⟨hx, hb, hml, hown, hts⟩ (c_X2_brokenHandles l G ad2 hI.2.1 nH nP hH hP δ2 (dysF nH nP n (tkF τ z)) hv.tk.oDys) (cwV 0 hts gX3_foresee_X2_brokenHandles rfl rfl rfl (by decide +kernel) ⟨Nat.le_of_ble_eq_true rfl, Nat.le_of_ble_eq_true rfl⟩) ⟨Pc0.blind, va_recv hK (va_P1 (hW.2.2.1)) (ci := 2) (q0 := 0) rfl rfl, Pc0.pre hW.2.2 hK⟩ rfl rfl hl.1 rfl (lv_room (Nat.le_of_ble_eq_true rfl)) dX3_foresee_96 ⟨Nat.le_of_ble_eq_true rfl, Nat.le_of_ble_eq_true rfl⟩) hS (fun q _ h => Or.inr (Or.inl h)) (fun q h => Or.inr (Or.inl h)) (fun H locs hB _ hk hS => ?_)
        have hW := hW.trial hI hB hk
        exact yI hx hb hr hlocks (⟨o1, o2⟩) (by rw [show cl (nI n) = n from nI_clamp (by omega)]; exact ⟨_, hW, fun i hi => ⟨wmx_31, wmx_32⟩⟩) hS (by rw [show cl (nI n) = n from nI_clamp (by omega)]; rfl) (Nat.le_of_ble_eq_true rfl) (Nat.le_of_ble_eq_true rfl) dX3_foresee_99
