set_option maxHeartbeats 4000000 in
set_option maxRecDepth 100000 in
theorem c_X3_lodge (l : Launch) (hfl : l.stackTraces = false) (G : wG) (xa : Nat) (ad ad2 : Nat → Nat) (hI : XI xa ad ad2) (nH nP : Nat) (hH : nH ≤ 10) (hP : nP ≤ 3) (δ τ z : wS) (nz : Nat) (x y : Int32) (hv : Inv nH nP τ) : vx_Met l yX3_lodge wsX3_lodge ({ frames := 7, cells := 2, slots := 12, locals := 104 } : Room) (Pc3 G [.ref xa, .int x, .int y] nz (XWz G xa ad ad2 (wmx nH nP δ τ) z) (AX ad ad2 nz)) (Qxi (hOk nH x ∧ inn 0 9 y) (τ 0 (cl x)) (XWz G xa ad ad2 (wmx nH nP δ (wst τ 0 (cl x) y)) z) (AX ad ad2 nz)) (Xx (fun E => (E = nIOB ∧ ¬ (hOk nH x)) ∨ (E = nIAE ∧ hOk nH x ∧ ¬ (inn 0 9 y))) (XWz G xa ad ad2 (wmx nH nP δ τ) z) (AX ad ad2 nz)) 2 12 (AX ad ad2 nz) := by
  refine vx_ofW (cc := cX3_lodge) (maxL := 5) (ret := (some .int)) (by decide) rfl ?_
  intro pg ev s mid args below meth cd s₁ B hml htab hv0
  obtain ⟨rfl, rfl, hW, hK, hX⟩ := hv0
  have hx := B.exec
  have hb := B.bytes
  have hr := B.returns
  have hts := atoms_spec (ws := wsX3_lodge) B.pre
  have hown : s.vm.findClass RX3 = some mid.cls := findClass_of_methodNamed B.named
  have hlocks := B.notSynchronized
  have hi0 : ∀ w ∈ wsX00, w ∈ wsX3_lodge := by decide +kernel
  have hi2 : ∀ w ∈ wsX20, w ∈ wsX3_lodge := by decide +kernel
  have hi3 : ∀ w ∈ wsX30, w ∈ wsX3_lodge := by decide +kernel
  have k10 := hts (.fieldLink RX3 10 "PumpRoster" "village" "LPumpRoster$Village;") (by decide +kernel)
  have k34 := hts (.fieldLink RX3 34 "PumpRoster$Village" "houses" "[LPumpRoster$House;") (by decide +kernel)
  have k38 := hts (.fieldLink RX3 38 "PumpRoster$House" "lodgers" "I") (by decide +kernel)
  have hS : va_S (AX ad ad2 s.heap.size) s.heap s.heap [] := va_S.rf
  have hl := lv_entry ([.ref xa, .int x, .int y]) (n := 5) (Nat.le_of_ble_eq_true rfl)
  rw [lg_entry_eq]
  generalize (lg_sl ([.ref xa, .int x, .int y]) ++ List.replicate (5 - (lg_sl ([.ref xa, .int x, .int y])).length) Slot.unset).toArray = ls at hl ⊢
  have hl : lv_has ls 5 [(0, .ref xa), (1, .int x), (2, .int y)] := hl
  obtain ⟨σ2, hW, hz⟩ := hW
  refine lv_aload_n hx hb dX3_lodge_0 rfl (lv_at hl 0 rfl) ?_
  refine lv_iload_n hx hb dX3_lodge_1 rfl (lv_at hl 1 rfl) ?_
  refine kXv (vx_runV (As := [.int x]) (rest := []) ⟨hx, hb, hml, hown, hts⟩ (c_X3_requireHouse l hfl G xa ad ad2 hI nH nP hH hP δ τ σ2 s.heap.size x hv) (cwV 1 hts gX3_lodge_X3_requireHouse rfl rfl rfl (by decide +kernel) ⟨Nat.le_of_ble_eq_true rfl, Nat.le_of_ble_eq_true rfl⟩) ⟨Pc3.blind, va_recv hK (va_P1 hW.1) (ci := 3) (q0 := 0) rfl rfl, Pc3.pre hW hK hX hS (fun q h => Or.inr (Or.inr (Nat.le_trans hS.1 h)))⟩ rfl rfl hl.1 rfl (lv_room (Nat.le_of_ble_eq_true rfl)) dX3_lodge_2 ⟨Nat.le_of_ble_eq_true rfl, Nat.le_of_ble_eq_true rfl⟩) hS (fun q h => Or.inr (Or.inr (Nat.le_trans hS.1 h))) (fun q h => Or.inr (Or.inr (Nat.le_trans hS.1 h))) (fun q h => Or.inr (Or.inr (Nat.le_trans hS.1 h))) (fun E ce q9 H locs hE hBX hk hS hc hv9 hcl => ?_) (fun H locs ok hBX hk hS => ?_)
  · skip
    exact yO htab hlocks (Or.inl ⟨hE.1, hE.2⟩) ⟨_, hW.kept (fun q hq => hk q hq (Nat.not_le.mpr hq)), hz⟩ hS hc hv9 hcl (Nat.le_of_ble_eq_true rfl) (Nat.le_of_ble_eq_true rfl)
  · skip
    have hW := hW.kept (fun q hq => hk q hq (Nat.not_le.mpr hq))
    have o1 := ok
    obtain ⟨h, hh, rfl⟩ := hOk_nI ok hH
    refine lv_iload_n hx hb dX3_lodge_5 rfl (lv_at hl 2 rfl) ?_
    refine lv_iconst (v := 0) hx hb dX3_lodge_6 (by decide) ?_
    refine lv_bipush (v := 9) hx hb dX3_lodge_7 (by decide) ?_
    refine kXv (vx_runS (As := [.int y, .int 0, .int 9]) (rest := []) ⟨hx, hb, hml, hown, hts⟩ (c_X3_requireArgument l hfl G H.size y 0 9) (va_cwS 3 hts gX3_lodge_X3_requireArgument rfl rfl rfl (by decide +kernel) ⟨Nat.le_of_ble_eq_true rfl, Nat.le_of_ble_eq_true rfl⟩) ⟨Pc3.blind, Pc3.pre trivial hK hX hS (fun q h => Or.inr (Or.inr (Nat.le_trans hS.1 h)))⟩ rfl rfl hl.1 rfl (lv_room (Nat.le_of_ble_eq_true rfl)) dX3_lodge_9 ⟨Nat.le_of_ble_eq_true rfl, Nat.le_of_ble_eq_true rfl⟩) hS (fun q h => Or.inr (Or.inr (Nat.le_trans hS.1 h))) (fun q h => Or.inr (Or.inr (Nat.le_trans hS.1 h))) (fun q h => Or.inr (Or.inr (Nat.le_trans hS.1 h))) (fun E ce q9 H locs hE hBX hk hS hc hv9 hcl => ?_) (fun H locs ok hBX hk hS => ?_)
    · skip
      exact yO htab hlocks (Or.inr (⟨hE.1, o1, hE.2⟩)) ⟨_, hW.kept (fun q hq => hk q hq (Nat.not_le.mpr hq)), hz⟩ hS hc hv9 hcl (Nat.le_of_ble_eq_true rfl) (Nat.le_of_ble_eq_true rfl)
    · skip
      have hW := hW.kept (fun q hq => hk q hq (Nat.not_le.mpr hq))
      have o2 := ok
      refine lv_aload_n hx hb dX3_lodge_12 rfl (lv_at hl 0 rfl) ?_
      refine rX0 hx hb hts hi3 hown hK hW k10 dX3_lodge_13 ?_
      refine rVh hx hb hts hi2 hown hK hW.2.1 k34 dX3_lodge_16 ?_
      refine lv_iload_n hx hb dX3_lodge_19 rfl (lv_at hl 1 rfl) ?_
      refine rHA (h := h) hx hb hK hW.2.1 (by omega) dX3_lodge_20 ?_
      refine lv_astore_n (lv' := [(3, .ref (ad (3 + h))), (0, .ref xa), (1, .int (nI h)), (2, .int y)]) hx hb dX3_lodge_21 rfl hl (by decide) rfl (fun ls hl => ?_)
      refine lv_aload_n hx hb dX3_lodge_22 rfl (lv_at hl 0 rfl) ?_
      refine rH 1 (f := 0) (h := h) (v := τ 0 h) hx hb hts hi0 hown hK hW.2.1 (by omega) hH (by decide) (by decide) rfl rfl k38 dX3_lodge_23 ?_
      refine lv_istore (lv' := [(4, .int (τ 0 h)), (3, .ref (ad (3 + h))), (0, .ref xa), (1, .int (nI h)), (2, .int y)]) hx hb dX3_lodge_26 hl (by decide) rfl (fun ls hl => ?_)
      refine lv_aload_n hx hb dX3_lodge_28 rfl (lv_at hl 1 rfl) ?_
      refine lv_iload_n hx hb dX3_lodge_29 rfl (lv_at hl 4 rfl) ?_
      refine xH 1 (f := 0) (h := h) hx hb hts hi0 hown hK hI hW hS (by omega) hH (by decide) (by decide) rfl k38 dX3_lodge_30 (fun H locs hW hS => ?_)
      refine lv_iload hx hb dX3_lodge_33 (lv_at hl 0 rfl) ?_
      exact yI hx hb hr hlocks (⟨o1, o2⟩) (by rw [show cl (nI h) = h from nI_clamp (by omega)]; exact ⟨_, hW, hz⟩) hS (by rw [show cl (nI h) = h from nI_clamp (by omega)]) (Nat.le_of_ble_eq_true rfl) (Nat.le_of_ble_eq_true rfl) dX3_lodge_35

set_option maxHeartbeats 4000000 in
set_option maxRecDepth 100000 in
theorem c_X3_leave (l : Launch) (hfl : l.stackTraces = false) (G : wG) (xa : Nat) (ad ad2 : Nat → Nat) (hI : XI xa ad ad2) (nH nP : Nat) (hH : nH ≤ 10) (hP : nP ≤ 3) (δ τ z : wS) (nz : Nat) (x y : Int32) (hv : Inv nH nP τ) : vx_Met l yX3_leave wsX3_leave ({ frames := 7, cells := 2, slots := 12, locals := 104 } : Room) (Pc3 G [.ref xa, .int x, .int y] nz (XWz G xa ad ad2 (wmx nH nP δ τ) z) (AX ad ad2 nz)) (Qxi (hOk nH x ∧ inn 0 30 y) (τ 6 (cl x)) (XWz G xa ad ad2 (wmx nH nP δ (wst τ 6 (cl x) y)) z) (AX ad ad2 nz)) (Xx (fun E => (E = nIOB ∧ ¬ (hOk nH x)) ∨ (E = nIAE ∧ hOk nH x ∧ ¬ (inn 0 30 y))) (XWz G xa ad ad2 (wmx nH nP δ τ) z) (AX ad ad2 nz)) 2 12 (AX ad ad2 nz) := by
  refine vx_ofW (cc := cX3_leave) (maxL := 5) (ret := (some .int)) (by decide) rfl ?_
  intro pg ev s mid args below meth cd s₁ B hml htab hv0
  obtain ⟨rfl, rfl, hW, hK, hX⟩ := hv0
  have hx := B.exec
  have hb := B.bytes
  have hr := B.returns
  have hts := atoms_spec (ws := wsX3_leave) B.pre
  have hown : s.vm.findClass RX3 = some mid.cls := findClass_of_methodNamed B.named
  have hlocks := B.notSynchronized
  have hi0 : ∀ w ∈ wsX00, w ∈ wsX3_leave := by decide +kernel
  have hi2 : ∀ w ∈ wsX20, w ∈ wsX3_leave := by decide +kernel
  have hi3 : ∀ w ∈ wsX30, w ∈ wsX3_leave := by decide +kernel
  have k10 := hts (.fieldLink RX3 10 "PumpRoster" "village" "LPumpRoster$Village;") (by decide +kernel)
  have k34 := hts (.fieldLink RX3 34 "PumpRoster$Village" "houses" "[LPumpRoster$House;") (by decide +kernel)
  have k79 := hts (.fieldLink RX3 79 "PumpRoster$House" "daysAway" "I") (by decide +kernel)
  have hS : va_S (AX ad ad2 s.heap.size) s.heap s.heap [] := va_S.rf
  have hl := lv_entry ([.ref xa, .int x, .int y]) (n := 5) (Nat.le_of_ble_eq_true rfl)
  rw [lg_entry_eq]
  generalize (lg_sl ([.ref xa, .int x, .int y]) ++ List.replicate (5 - (lg_sl ([.ref xa, .int x, .int y])).length) Slot.unset).toArray = ls at hl ⊢
  have hl : lv_has ls 5 [(0, .ref xa), (1, .int x), (2, .int y)] := hl
  obtain ⟨σ2, hW, hz⟩ := hW
  refine lv_aload_n hx hb dX3_leave_0 rfl (lv_at hl 0 rfl) ?_
  refine lv_iload_n hx hb dX3_leave_1 rfl (lv_at hl 1 rfl) ?_
  refine kXv (vx_runV (As := [.int x]) (rest := []) ⟨hx, hb, hml, hown, hts⟩ (c_X3_requireHouse l hfl G xa ad ad2 hI nH nP hH hP δ τ σ2 s.heap.size x hv) (cwV 1 hts gX3_leave_X3_requireHouse rfl rfl rfl (by decide +kernel) ⟨Nat.le_of_ble_eq_true rfl, Nat.le_of_ble_eq_true rfl⟩) ⟨Pc3.blind, va_recv hK (va_P1 hW.1) (ci := 3) (q0 := 0) rfl rfl, Pc3.pre hW hK hX hS (fun q h => Or.inr (Or.inr (Nat.le_trans hS.1 h)))⟩ rfl rfl hl.1 rfl (lv_room (Nat.le_of_ble_eq_true rfl)) dX3_leave_2 ⟨Nat.le_of_ble_eq_true rfl, Nat.le_of_ble_eq_true rfl⟩) hS (fun q h => Or.inr (Or.inr (Nat.le_trans hS.1 h))) (fun q h => Or.inr (Or.inr (Nat.le_trans hS.1 h))) (fun q h => Or.inr (Or.inr (Nat.le_trans hS.1 h))) (fun E ce q9 H locs hE hBX hk hS hc hv9 hcl => ?_) (fun H locs ok hBX hk hS => ?_)
  · skip
    exact yO htab hlocks (Or.inl ⟨hE.1, hE.2⟩) ⟨_, hW.kept (fun q hq => hk q hq (Nat.not_le.mpr hq)), hz⟩ hS hc hv9 hcl (Nat.le_of_ble_eq_true rfl) (Nat.le_of_ble_eq_true rfl)
  · skip
    have hW := hW.kept (fun q hq => hk q hq (Nat.not_le.mpr hq))
    have o1 := ok
    obtain ⟨h, hh, rfl⟩ := hOk_nI ok hH
    refine lv_iload_n hx hb dX3_leave_5 rfl (lv_at hl 2 rfl) ?_
    refine lv_iconst (v := 0) hx hb dX3_leave_6 (by decide) ?_
    refine lv_bipush (v := 30) hx hb dX3_leave_7 (by decide) ?_
    refine kXv (vx_runS (As := [.int y, .int 0, .int 30]) (rest := []) ⟨hx, hb, hml, hown, hts⟩ (c_X3_requireArgument l hfl G H.size y 0 30) (va_cwS 3 hts gX3_leave_X3_requireArgument rfl rfl rfl (by decide +kernel) ⟨Nat.le_of_ble_eq_true rfl, Nat.le_of_ble_eq_true rfl⟩) ⟨Pc3.blind, Pc3.pre trivial hK hX hS (fun q h => Or.inr (Or.inr (Nat.le_trans hS.1 h)))⟩ rfl rfl hl.1 rfl (lv_room (Nat.le_of_ble_eq_true rfl)) dX3_leave_9 ⟨Nat.le_of_ble_eq_true rfl, Nat.le_of_ble_eq_true rfl⟩) hS (fun q h => Or.inr (Or.inr (Nat.le_trans hS.1 h))) (fun q h => Or.inr (Or.inr (Nat.le_trans hS.1 h))) (fun q h => Or.inr (Or.inr (Nat.le_trans hS.1 h))) (fun E ce q9 H locs hE hBX hk hS hc hv9 hcl => ?_) (fun H locs ok hBX hk hS => ?_)
    · skip
      exact yO htab hlocks (Or.inr (⟨hE.1, o1, hE.2⟩)) ⟨_, hW.kept (fun q hq => hk q hq (Nat.not_le.mpr hq)), hz⟩ hS hc hv9 hcl (Nat.le_of_ble_eq_true rfl) (Nat.le_of_ble_eq_true rfl)
    · skip
      have hW := hW.kept (fun q hq => hk q hq (Nat.not_le.mpr hq))
      have o2 := ok
      refine lv_aload_n hx hb dX3_leave_12 rfl (lv_at hl 0 rfl) ?_
      refine rX0 hx hb hts hi3 hown hK hW k10 dX3_leave_13 ?_
      refine rVh hx hb hts hi2 hown hK hW.2.1 k34 dX3_leave_16 ?_
      refine lv_iload_n hx hb dX3_leave_19 rfl (lv_at hl 1 rfl) ?_
      refine rHA (h := h) hx hb hK hW.2.1 (by omega) dX3_leave_20 ?_
      refine lv_astore_n (lv' := [(3, .ref (ad (3 + h))), (0, .ref xa), (1, .int (nI h)), (2, .int y)]) hx hb dX3_leave_21 rfl hl (by decide) rfl (fun ls hl => ?_)
      refine lv_aload_n hx hb dX3_leave_22 rfl (lv_at hl 0 rfl) ?_
      refine rH 6 (f := 6) (h := h) (v := τ 6 h) hx hb hts hi0 hown hK hW.2.1 (by omega) hH (by decide) (by decide) rfl rfl k79 dX3_leave_23 ?_
      refine lv_istore (lv' := [(4, .int (τ 6 h)), (3, .ref (ad (3 + h))), (0, .ref xa), (1, .int (nI h)), (2, .int y)]) hx hb dX3_leave_26 hl (by decide) rfl (fun ls hl => ?_)
      refine lv_aload_n hx hb dX3_leave_28 rfl (lv_at hl 1 rfl) ?_
      refine lv_iload_n hx hb dX3_leave_29 rfl (lv_at hl 4 rfl) ?_
      refine xH 6 (f := 6) (h := h) hx hb hts hi0 hown hK hI hW hS (by omega) hH (by decide) (by decide) rfl k79 dX3_leave_30 (fun H locs hW hS => ?_)
      refine lv_iload hx hb dX3_leave_33 (lv_at hl 0 rfl) ?_
      exact yI hx hb hr hlocks (⟨o1, o2⟩) (by rw [show cl (nI h) = h from nI_clamp (by omega)]; exact ⟨_, hW, hz⟩) hS (by rw [show cl (nI h) = h from nI_clamp (by omega)]) (Nat.le_of_ble_eq_true rfl) (Nat.le_of_ble_eq_true rfl) dX3_leave_35

set_option maxHeartbeats 4000000 in
set_option maxRecDepth 100000 in
theorem c_X3_prefer (l : Launch) (hfl : l.stackTraces = false) (G : wG) (xa : Nat) (ad ad2 : Nat → Nat) (hI : XI xa ad ad2) (nH nP : Nat) (hH : nH ≤ 10) (hP : nP ≤ 3) (δ τ z : wS) (nz : Nat) (x y : Int32) (hv : Inv nH nP τ) : vx_Met l yX3_prefer wsX3_prefer ({ frames := 7, cells := 2, slots := 12, locals := 103 } : Room) (Pc3 G [.ref xa, .int x, .int y] nz (XWz G xa ad ad2 (wmx nH nP δ τ) z) (AX ad ad2 nz)) (Qxi (hOk nH x ∧ pOk nP y) (τ 5 (cl x)) (XWz G xa ad ad2 (wmx nH nP δ (wst τ 5 (cl x) y)) z) (AX ad ad2 nz)) (Xx (fun E => (E = nIOB ∧ ¬ (hOk nH x)) ∨ (E = nIOB ∧ hOk nH x ∧ ¬ (pOk nP y))) (XWz G xa ad ad2 (wmx nH nP δ τ) z) (AX ad ad2 nz)) 2 12 (AX ad ad2 nz) := by
  refine vx_ofW (cc := cX3_prefer) (maxL := 5) (ret := (some .int)) (by decide) rfl ?_
  intro pg ev s mid args below meth cd s₁ B hml htab hv0
  obtain ⟨rfl, rfl, hW, hK, hX⟩ := hv0
  have hx := B.exec
  have hb := B.bytes
  have hr := B.returns
  have hts := atoms_spec (ws := wsX3_prefer) B.pre
  have hown : s.vm.findClass RX3 = some mid.cls := findClass_of_methodNamed B.named
  have hlocks := B.notSynchronized
  have hi0 : ∀ w ∈ wsX00, w ∈ wsX3_prefer := by decide +kernel
  have hi2 : ∀ w ∈ wsX20, w ∈ wsX3_prefer := by decide +kernel
  have hi3 : ∀ w ∈ wsX30, w ∈ wsX3_prefer := by decide +kernel
  have k10 := hts (.fieldLink RX3 10 "PumpRoster" "village" "LPumpRoster$Village;") (by decide +kernel)
  have k34 := hts (.fieldLink RX3 34 "PumpRoster$Village" "houses" "[LPumpRoster$House;") (by decide +kernel)
  have k76 := hts (.fieldLink RX3 76 "PumpRoster$House" "firstPump" "I") (by decide +kernel)
  have hS : va_S (AX ad ad2 s.heap.size) s.heap s.heap [] := va_S.rf
  have hl := lv_entry ([.ref xa, .int x, .int y]) (n := 5) (Nat.le_of_ble_eq_true rfl)
  rw [lg_entry_eq]
  generalize (lg_sl ([.ref xa, .int x, .int y]) ++ List.replicate (5 - (lg_sl ([.ref xa, .int x, .int y])).length) Slot.unset).toArray = ls at hl ⊢
  have hl : lv_has ls 5 [(0, .ref xa), (1, .int x), (2, .int y)] := hl
  obtain ⟨σ2, hW, hz⟩ := hW
  refine lv_aload_n hx hb dX3_prefer_0 rfl (lv_at hl 0 rfl) ?_
  refine lv_iload_n hx hb dX3_prefer_1 rfl (lv_at hl 1 rfl) ?_
  refine kXv (vx_runV (As := [.int x]) (rest := []) ⟨hx, hb, hml, hown, hts⟩ (c_X3_requireHouse l hfl G xa ad ad2 hI nH nP hH hP δ τ σ2 s.heap.size x hv) (cwV 1 hts gX3_prefer_X3_requireHouse rfl rfl rfl (by decide +kernel) ⟨Nat.le_of_ble_eq_true rfl, Nat.le_of_ble_eq_true rfl⟩) ⟨Pc3.blind, va_recv hK (va_P1 hW.1) (ci := 3) (q0 := 0) rfl rfl, Pc3.pre hW hK hX hS (fun q h => Or.inr (Or.inr (Nat.le_trans hS.1 h)))⟩ rfl rfl hl.1 rfl (lv_room (Nat.le_of_ble_eq_true rfl)) dX3_prefer_2 ⟨Nat.le_of_ble_eq_true rfl, Nat.le_of_ble_eq_true rfl⟩) hS (fun q h => Or.inr (Or.inr (Nat.le_trans hS.1 h))) (fun q h => Or.inr (Or.inr (Nat.le_trans hS.1 h))) (fun q h => Or.inr (Or.inr (Nat.le_trans hS.1 h))) (fun E ce q9 H locs hE hBX hk hS hc hv9 hcl => ?_) (fun H locs ok hBX hk hS => ?_)
  · skip
    exact yO htab hlocks (Or.inl ⟨hE.1, hE.2⟩) ⟨_, hW.kept (fun q hq => hk q hq (Nat.not_le.mpr hq)), hz⟩ hS hc hv9 hcl (Nat.le_of_ble_eq_true rfl) (Nat.le_of_ble_eq_true rfl)
  · skip
    have hW := hW.kept (fun q hq => hk q hq (Nat.not_le.mpr hq))
    have o1 := ok
    obtain ⟨h, hh, rfl⟩ := hOk_nI ok hH
    refine lv_aload_n hx hb dX3_prefer_5 rfl (lv_at hl 0 rfl) ?_
    refine lv_iload_n hx hb dX3_prefer_6 rfl (lv_at hl 2 rfl) ?_
    refine kXv (vx_runV (As := [.int y]) (rest := []) ⟨hx, hb, hml, hown, hts⟩ (c_X3_requirePump l hfl G xa ad ad2 hI nH nP hH hP δ τ σ2 H.size y hv) (cwV 1 hts gX3_prefer_X3_requirePump rfl rfl rfl (by decide +kernel) ⟨Nat.le_of_ble_eq_true rfl, Nat.le_of_ble_eq_true rfl⟩) ⟨Pc3.blind, va_recv hK (va_P1 hW.1) (ci := 3) (q0 := 0) rfl rfl, Pc3.pre hW hK hX hS (fun q h => Or.inr (Or.inr (Nat.le_trans hS.1 h)))⟩ rfl rfl hl.1 rfl (lv_room (Nat.le_of_ble_eq_true rfl)) dX3_prefer_7 ⟨Nat.le_of_ble_eq_true rfl, Nat.le_of_ble_eq_true rfl⟩) hS (fun q h => Or.inr (Or.inr (Nat.le_trans hS.1 h))) (fun q h => Or.inr (Or.inr (Nat.le_trans hS.1 h))) (fun q h => Or.inr (Or.inr (Nat.le_trans hS.1 h))) (fun E ce q9 H locs hE hBX hk hS hc hv9 hcl => ?_) (fun H locs ok hBX hk hS => ?_)
    · skip
      exact yO htab hlocks (Or.inr (⟨hE.1, o1, hE.2⟩)) ⟨_, hW.kept (fun q hq => hk q hq (Nat.not_le.mpr hq)), hz⟩ hS hc hv9 hcl (Nat.le_of_ble_eq_true rfl) (Nat.le_of_ble_eq_true rfl)
    · skip
      have hW := hW.kept (fun q hq => hk q hq (Nat.not_le.mpr hq))
      have o2 := ok
      refine lv_aload_n hx hb dX3_prefer_10 rfl (lv_at hl 0 rfl) ?_
      refine rX0 hx hb hts hi3 hown hK hW k10 dX3_prefer_11 ?_
      refine rVh hx hb hts hi2 hown hK hW.2.1 k34 dX3_prefer_14 ?_
      refine lv_iload_n hx hb dX3_prefer_17 rfl (lv_at hl 1 rfl) ?_
      refine rHA (h := h) hx hb hK hW.2.1 (by omega) dX3_prefer_18 ?_
      refine lv_astore_n (lv' := [(3, .ref (ad (3 + h))), (0, .ref xa), (1, .int (nI h)), (2, .int y)]) hx hb dX3_prefer_19 rfl hl (by decide) rfl (fun ls hl => ?_)
      refine lv_aload_n hx hb dX3_prefer_20 rfl (lv_at hl 0 rfl) ?_
      refine rH 7 (f := 5) (h := h) (v := τ 5 h) hx hb hts hi0 hown hK hW.2.1 (by omega) hH (by decide) (by decide) rfl rfl k76 dX3_prefer_21 ?_
      refine lv_istore (lv' := [(4, .int (τ 5 h)), (3, .ref (ad (3 + h))), (0, .ref xa), (1, .int (nI h)), (2, .int y)]) hx hb dX3_prefer_24 hl (by decide) rfl (fun ls hl => ?_)
      refine lv_aload_n hx hb dX3_prefer_26 rfl (lv_at hl 1 rfl) ?_
      refine lv_iload_n hx hb dX3_prefer_27 rfl (lv_at hl 4 rfl) ?_
      refine xH 7 (f := 5) (h := h) hx hb hts hi0 hown hK hI hW hS (by omega) hH (by decide) (by decide) rfl k76 dX3_prefer_28 (fun H locs hW hS => ?_)
      refine lv_iload hx hb dX3_prefer_31 (lv_at hl 0 rfl) ?_
      exact yI hx hb hr hlocks (⟨o1, o2⟩) (by rw [show cl (nI h) = h from nI_clamp (by omega)]; exact ⟨_, hW, hz⟩) hS (by rw [show cl (nI h) = h from nI_clamp (by omega)]) (Nat.le_of_ble_eq_true rfl) (Nat.le_of_ble_eq_true rfl) dX3_prefer_33

set_option maxHeartbeats 4000000 in
set_option maxRecDepth 100000 in
theorem c_X3_fine (l : Launch) (hfl : l.stackTraces = false) (G : wG) (xa : Nat) (ad ad2 : Nat → Nat) (hI : XI xa ad ad2) (nH nP : Nat) (hH : nH ≤ 10) (hP : nP ≤ 3) (δ τ z : wS) (nz : Nat) (x y : Int32) (hv : Inv nH nP τ) : vx_Met l yX3_fine wsX3_fine ({ frames := 7, cells := 2, slots := 12, locals := 104 } : Room) (Pc3 G [.ref xa, .int x, .int y] nz (XWz G xa ad ad2 (wmx nH nP δ τ) z) (AX ad ad2 nz)) (Qxi (hOk nH x ∧ inn 1 50 y) (paid (cl x) y τ) (XWz G xa ad ad2 (wmx nH nP δ (chgF nP (cl x) y τ)) z) (AX ad ad2 nz)) (Xx (fun E => (E = nIOB ∧ ¬ (hOk nH x)) ∨ (E = nIAE ∧ hOk nH x ∧ ¬ (inn 1 50 y))) (XWz G xa ad ad2 (wmx nH nP δ τ) z) (AX ad ad2 nz)) 2 12 (AX ad ad2 nz) := by
  refine vx_ofW (cc := cX3_fine) (maxL := 3) (ret := (some .int)) (by decide) rfl ?_
  intro pg ev s mid args below meth cd s₁ B hml htab hv0
  obtain ⟨rfl, rfl, hW, hK, hX⟩ := hv0
  have hx := B.exec
  have hb := B.bytes
  have hr := B.returns
  have hts := atoms_spec (ws := wsX3_fine) B.pre
  have hown : s.vm.findClass RX3 = some mid.cls := findClass_of_methodNamed B.named
  have hlocks := B.notSynchronized
  have hi2 : ∀ w ∈ wsX20, w ∈ wsX3_fine := by decide +kernel
  have hi3 : ∀ w ∈ wsX30, w ∈ wsX3_fine := by decide +kernel
  have k10 := hts (.fieldLink RX3 10 "PumpRoster" "village" "LPumpRoster$Village;") (by decide +kernel)
  have k34 := hts (.fieldLink RX3 34 "PumpRoster$Village" "houses" "[LPumpRoster$House;") (by decide +kernel)
  have hS : va_S (AX ad ad2 s.heap.size) s.heap s.heap [] := va_S.rf
  have hl := lv_entry ([.ref xa, .int x, .int y]) (n := 3) (Nat.le_of_ble_eq_true rfl)
  rw [lg_entry_eq]
  generalize (lg_sl ([.ref xa, .int x, .int y]) ++ List.replicate (3 - (lg_sl ([.ref xa, .int x, .int y])).length) Slot.unset).toArray = ls at hl ⊢
  have hl : lv_has ls 3 [(0, .ref xa), (1, .int x), (2, .int y)] := hl
  obtain ⟨σ2, hW, hz⟩ := hW
  refine lv_aload_n hx hb dX3_fine_0 rfl (lv_at hl 0 rfl) ?_
  refine lv_iload_n hx hb dX3_fine_1 rfl (lv_at hl 1 rfl) ?_
  refine kXv (vx_runV (As := [.int x]) (rest := []) ⟨hx, hb, hml, hown, hts⟩ (c_X3_requireHouse l hfl G xa ad ad2 hI nH nP hH hP δ τ σ2 s.heap.size x hv) (cwV 1 hts gX3_fine_X3_requireHouse rfl rfl rfl (by decide +kernel) ⟨Nat.le_of_ble_eq_true rfl, Nat.le_of_ble_eq_true rfl⟩) ⟨Pc3.blind, va_recv hK (va_P1 hW.1) (ci := 3) (q0 := 0) rfl rfl, Pc3.pre hW hK hX hS (fun q h => Or.inr (Or.inr (Nat.le_trans hS.1 h)))⟩ rfl rfl hl.1 rfl (lv_room (Nat.le_of_ble_eq_true rfl)) dX3_fine_2 ⟨Nat.le_of_ble_eq_true rfl, Nat.le_of_ble_eq_true rfl⟩) hS (fun q h => Or.inr (Or.inr (Nat.le_trans hS.1 h))) (fun q h => Or.inr (Or.inr (Nat.le_trans hS.1 h))) (fun q h => Or.inr (Or.inr (Nat.le_trans hS.1 h))) (fun E ce q9 H locs hE hBX hk hS hc hv9 hcl => ?_) (fun H locs ok hBX hk hS => ?_)
  · skip
    exact yO htab hlocks (Or.inl ⟨hE.1, hE.2⟩) ⟨_, hW.kept (fun q hq => hk q hq (Nat.not_le.mpr hq)), hz⟩ hS hc hv9 hcl (Nat.le_of_ble_eq_true rfl) (Nat.le_of_ble_eq_true rfl)
  · skip
    have hW := hW.kept (fun q hq => hk q hq (Nat.not_le.mpr hq))
    have o1 := ok
    obtain ⟨h, hh, rfl⟩ := hOk_nI ok hH
    refine lv_iload_n hx hb dX3_fine_5 rfl (lv_at hl 2 rfl) ?_
    refine lv_iconst (v := 1) hx hb dX3_fine_6 (by decide) ?_
    refine lv_bipush (v := 50) hx hb dX3_fine_7 (by decide) ?_
    refine kXv (vx_runS (As := [.int y, .int 1, .int 50]) (rest := []) ⟨hx, hb, hml, hown, hts⟩ (c_X3_requireArgument l hfl G H.size y 1 50) (va_cwS 3 hts gX3_fine_X3_requireArgument rfl rfl rfl (by decide +kernel) ⟨Nat.le_of_ble_eq_true rfl, Nat.le_of_ble_eq_true rfl⟩) ⟨Pc3.blind, Pc3.pre trivial hK hX hS (fun q h => Or.inr (Or.inr (Nat.le_trans hS.1 h)))⟩ rfl rfl hl.1 rfl (lv_room (Nat.le_of_ble_eq_true rfl)) dX3_fine_9 ⟨Nat.le_of_ble_eq_true rfl, Nat.le_of_ble_eq_true rfl⟩) hS (fun q h => Or.inr (Or.inr (Nat.le_trans hS.1 h))) (fun q h => Or.inr (Or.inr (Nat.le_trans hS.1 h))) (fun q h => Or.inr (Or.inr (Nat.le_trans hS.1 h))) (fun E ce q9 H locs hE hBX hk hS hc hv9 hcl => ?_) (fun H locs ok hBX hk hS => ?_)
    · skip
      exact yO htab hlocks (Or.inr (⟨hE.1, o1, hE.2⟩)) ⟨_, hW.kept (fun q hq => hk q hq (Nat.not_le.mpr hq)), hz⟩ hS hc hv9 hcl (Nat.le_of_ble_eq_true rfl) (Nat.le_of_ble_eq_true rfl)
    · skip
      have hW := hW.kept (fun q hq => hk q hq (Nat.not_le.mpr hq))
      have o2 := ok
      refine lv_aload_n hx hb dX3_fine_12 rfl (lv_at hl 0 rfl) ?_
      refine rX0 hx hb hts hi3 hown hK hW k10 dX3_fine_13 ?_
      refine lv_aload_n hx hb dX3_fine_16 rfl (lv_at hl 0 rfl) ?_
      refine rX0 hx hb hts hi3 hown hK hW k10 dX3_fine_17 ?_
      refine rVh hx hb hts hi2 hown hK hW.2.1 k34 dX3_fine_20 ?_
      refine lv_iload_n hx hb dX3_fine_23 rfl (lv_at hl 1 rfl) ?_
      refine rHA (h := h) hx hb hK hW.2.1 (by omega) dX3_fine_24 ?_
      refine lv_iload_n hx hb dX3_fine_25 rfl (lv_at hl 2 rfl) ?_
      refine kI (va_runV (As := [.ref (ad (3 + h)), .int y]) (rest := []) ⟨hx, hb, hml, hown, hts⟩ (c_X2_charge l G ad hI.1 nH nP hH hP δ τ h y hv (by omega)) (cwV 2 hts gX3_fine_X2_charge rfl rfl rfl (by decide +kernel) ⟨Nat.le_of_ble_eq_true rfl, Nat.le_of_ble_eq_true rfl⟩) ⟨Pc0.blind, va_recv hK (va_P1 (hW.2.1.1)) (ci := 2) (q0 := 0) rfl rfl, Pc0.pre hW.2.1 hK⟩ rfl rfl hl.1 rfl (lv_room (Nat.le_of_ble_eq_true rfl)) dX3_fine_26 ⟨Nat.le_of_ble_eq_true rfl, Nat.le_of_ble_eq_true rfl⟩) hS (fun q _ h => Or.inl h) (fun q h => Or.inl h) (fun H locs hB _ hk hS => ?_)
      have hW := hW.main hI hB hk
      exact yI hx hb hr hlocks (⟨o1, o2⟩) (by rw [show cl (nI h) = h from nI_clamp (by omega)]; exact ⟨_, hW, hz⟩) hS (by rw [show cl (nI h) = h from nI_clamp (by omega)]) (Nat.le_of_ble_eq_true rfl) (Nat.le_of_ble_eq_true rfl) dX3_fine_29

set_option maxHeartbeats 4000000 in
set_option maxRecDepth 100000 in
theorem c_X3_house (l : Launch) (hfl : l.stackTraces = false) (G : wG) (xa : Nat) (ad ad2 : Nat → Nat) (hI : XI xa ad ad2) (nH nP : Nat) (hH : nH ≤ 10) (hP : nP ≤ 3) (δ τ z : wS) (nz : Nat) (x y : Int32) (hv : Inv nH nP τ) : vx_Met l yX3_house wsX3_house ({ frames := 7, cells := 2, slots := 12, locals := 103 } : Room) (Pc3 G [.ref xa, .int x, .int y] nz (XWz G xa ad ad2 (wmx nH nP δ τ) z) (AX ad ad2 nz)) (Qxi (hOk nH x ∧ inn 0 10 y) (hftF nP τ (cl x) (cl y)) (XWz G xa ad ad2 (wmx nH nP δ τ) z) (AX ad ad2 nz)) (Xx (fun E => (E = nIOB ∧ ¬ (hOk nH x)) ∨ (E = nIOB ∧ hOk nH x ∧ ¬ (inn 0 10 y))) (XWz G xa ad ad2 (wmx nH nP δ τ) z) (AX ad ad2 nz)) 2 12 (AX ad ad2 nz) := by
  refine vx_ofW (cc := cX3_house) (maxL := 3) (ret := (some .int)) (by decide) rfl ?_
  intro pg ev s mid args below meth cd s₁ B hml htab hv0
  obtain ⟨rfl, rfl, hW, hK, hX⟩ := hv0
  have hx := B.exec
  have hb := B.bytes
  have hr := B.returns
  have hts := atoms_spec (ws := wsX3_house) B.pre
  have hown : s.vm.findClass RX3 = some mid.cls := findClass_of_methodNamed B.named
  have hlocks := B.notSynchronized
  have hi2 : ∀ w ∈ wsX20, w ∈ wsX3_house := by decide +kernel
  have hi3 : ∀ w ∈ wsX30, w ∈ wsX3_house := by decide +kernel
  have k10 := hts (.fieldLink RX3 10 "PumpRoster" "village" "LPumpRoster$Village;") (by decide +kernel)
  have k34 := hts (.fieldLink RX3 34 "PumpRoster$Village" "houses" "[LPumpRoster$House;") (by decide +kernel)
  have hS : va_S (AX ad ad2 s.heap.size) s.heap s.heap [] := va_S.rf
  have hl := lv_entry ([.ref xa, .int x, .int y]) (n := 3) (Nat.le_of_ble_eq_true rfl)
  rw [lg_entry_eq]
  generalize (lg_sl ([.ref xa, .int x, .int y]) ++ List.replicate (3 - (lg_sl ([.ref xa, .int x, .int y])).length) Slot.unset).toArray = ls at hl ⊢
  have hl : lv_has ls 3 [(0, .ref xa), (1, .int x), (2, .int y)] := hl
  obtain ⟨σ2, hW, hz⟩ := hW
  refine lv_aload_n hx hb dX3_house_0 rfl (lv_at hl 0 rfl) ?_
  refine lv_iload_n hx hb dX3_house_1 rfl (lv_at hl 1 rfl) ?_
  refine kXv (vx_runV (As := [.int x]) (rest := []) ⟨hx, hb, hml, hown, hts⟩ (c_X3_requireHouse l hfl G xa ad ad2 hI nH nP hH hP δ τ σ2 s.heap.size x hv) (cwV 1 hts gX3_house_X3_requireHouse rfl rfl rfl (by decide +kernel) ⟨Nat.le_of_ble_eq_true rfl, Nat.le_of_ble_eq_true rfl⟩) ⟨Pc3.blind, va_recv hK (va_P1 hW.1) (ci := 3) (q0 := 0) rfl rfl, Pc3.pre hW hK hX hS (fun q h => Or.inr (Or.inr (Nat.le_trans hS.1 h)))⟩ rfl rfl hl.1 rfl (lv_room (Nat.le_of_ble_eq_true rfl)) dX3_house_2 ⟨Nat.le_of_ble_eq_true rfl, Nat.le_of_ble_eq_true rfl⟩) hS (fun q h => Or.inr (Or.inr (Nat.le_trans hS.1 h))) (fun q h => Or.inr (Or.inr (Nat.le_trans hS.1 h))) (fun q h => Or.inr (Or.inr (Nat.le_trans hS.1 h))) (fun E ce q9 H locs hE hBX hk hS hc hv9 hcl => ?_) (fun H locs ok hBX hk hS => ?_)
  · skip
    exact yO htab hlocks (Or.inl ⟨hE.1, hE.2⟩) ⟨_, hW.kept (fun q hq => hk q hq (Nat.not_le.mpr hq)), hz⟩ hS hc hv9 hcl (Nat.le_of_ble_eq_true rfl) (Nat.le_of_ble_eq_true rfl)
  · skip
    have hW := hW.kept (fun q hq => hk q hq (Nat.not_le.mpr hq))
    have o1 := ok
    obtain ⟨h, hh, rfl⟩ := hOk_nI ok hH
    refine lv_iload_n hx hb dX3_house_5 rfl (lv_at hl 2 rfl) ?_
    refine lv_bipush (v := 10) hx hb dX3_house_6 (by decide) ?_
    refine kXv (vx_runS (As := [.int y, .int 10]) (rest := []) ⟨hx, hb, hml, hown, hts⟩ (c_X3_requireIndex l hfl G H.size y 10) (va_cwS 2 hts gX3_house_X3_requireIndex rfl rfl rfl (by decide +kernel) ⟨Nat.le_of_ble_eq_true rfl, Nat.le_of_ble_eq_true rfl⟩) ⟨Pc3.blind, Pc3.pre trivial hK hX hS (fun q h => Or.inr (Or.inr (Nat.le_trans hS.1 h)))⟩ rfl rfl hl.1 rfl (lv_room (Nat.le_of_ble_eq_true rfl)) dX3_house_8 ⟨Nat.le_of_ble_eq_true rfl, Nat.le_of_ble_eq_true rfl⟩) hS (fun q h => Or.inr (Or.inr (Nat.le_trans hS.1 h))) (fun q h => Or.inr (Or.inr (Nat.le_trans hS.1 h))) (fun q h => Or.inr (Or.inr (Nat.le_trans hS.1 h))) (fun E ce q9 H locs hE hBX hk hS hc hv9 hcl => ?_) (fun H locs ok hBX hk hS => ?_)
    · skip
      exact yO htab hlocks (Or.inr (⟨hE.1, o1, hE.2⟩)) ⟨_, hW.kept (fun q hq => hk q hq (Nat.not_le.mpr hq)), hz⟩ hS hc hv9 hcl (Nat.le_of_ble_eq_true rfl) (Nat.le_of_ble_eq_true rfl)
    · skip
      have hW := hW.kept (fun q hq => hk q hq (Nat.not_le.mpr hq))
      have o2 := ok
      obtain ⟨k, hlok, hhik, rfl⟩ := inn_nI (lo := 0) (hi := 10) ok (by omega) (by omega)
      refine lv_aload_n hx hb dX3_house_11 rfl (lv_at hl 0 rfl) ?_
      refine rX0 hx hb hts hi3 hown hK hW k10 dX3_house_12 ?_
      refine lv_aload_n hx hb dX3_house_15 rfl (lv_at hl 0 rfl) ?_
      refine rX0 hx hb hts hi3 hown hK hW k10 dX3_house_16 ?_
      refine rVh hx hb hts hi2 hown hK hW.2.1 k34 dX3_house_19 ?_
      refine lv_iload_n hx hb dX3_house_22 rfl (lv_at hl 1 rfl) ?_
      refine rHA (h := h) hx hb hK hW.2.1 (by omega) dX3_house_23 ?_
      refine lv_iload_n hx hb dX3_house_24 rfl (lv_at hl 2 rfl) ?_
      refine kI (va_runV (As := [.ref (ad (3 + h)), .int (nI k)]) (rest := []) ⟨hx, hb, hml, hown, hts⟩ (c_X2_houseFact l G ad hI.1 nH nP hH hP δ τ h k hv (by omega) (by omega)) (cwV 2 hts gX3_house_X2_houseFact rfl rfl rfl (by decide +kernel) ⟨Nat.le_of_ble_eq_true rfl, Nat.le_of_ble_eq_true rfl⟩) ⟨Pc0.blind, va_recv hK (va_P1 (hW.2.1.1)) (ci := 2) (q0 := 0) rfl rfl, Pc0.pre hW.2.1 hK⟩ rfl rfl hl.1 rfl (lv_room (Nat.le_of_ble_eq_true rfl)) dX3_house_25 ⟨Nat.le_of_ble_eq_true rfl, Nat.le_of_ble_eq_true rfl⟩) hS (fun q _ h => Or.inl h) (fun q h => Or.inl h) (fun H locs hB _ hk hS => ?_)
      have hW := hW.main hI hB hk
      exact yI hx hb hr hlocks (⟨o1, o2⟩) (⟨_, hW, hz⟩) hS (by rw [show cl (nI h) = h from nI_clamp (by omega), show cl (nI k) = k from nI_clamp (by omega)]) (Nat.le_of_ble_eq_true rfl) (Nat.le_of_ble_eq_true rfl) dX3_house_28

set_option maxHeartbeats 4000000 in
set_option maxRecDepth 100000 in
theorem c_X3_pump (l : Launch) (hfl : l.stackTraces = false) (G : wG) (xa : Nat) (ad ad2 : Nat → Nat) (hI : XI xa ad ad2) (nH nP : Nat) (hH : nH ≤ 10) (hP : nP ≤ 3) (δ τ z : wS) (nz : Nat) (x y : Int32) (hv : Inv nH nP τ) : vx_Met l yX3_pump wsX3_pump ({ frames := 7, cells := 2, slots := 12, locals := 103 } : Room) (Pc3 G [.ref xa, .int x, .int y] nz (XWz G xa ad ad2 (wmx nH nP δ τ) z) (AX ad ad2 nz)) (Qxi (pOk nP x ∧ inn 0 10 y) (τ (20 + cl y) (cl x)) (XWz G xa ad ad2 (wmx nH nP δ τ) z) (AX ad ad2 nz)) (Xx (fun E => (E = nIOB ∧ ¬ (pOk nP x)) ∨ (E = nIOB ∧ pOk nP x ∧ ¬ (inn 0 10 y))) (XWz G xa ad ad2 (wmx nH nP δ τ) z) (AX ad ad2 nz)) 2 12 (AX ad ad2 nz) := by
  refine vx_ofW (cc := cX3_pump) (maxL := 3) (ret := (some .int)) (by decide) rfl ?_
  intro pg ev s mid args below meth cd s₁ B hml htab hv0
  obtain ⟨rfl, rfl, hW, hK, hX⟩ := hv0
  have hx := B.exec
  have hb := B.bytes
  have hr := B.returns
  have hts := atoms_spec (ws := wsX3_pump) B.pre
  have hown : s.vm.findClass RX3 = some mid.cls := findClass_of_methodNamed B.named
  have hlocks := B.notSynchronized
  have hi2 : ∀ w ∈ wsX20, w ∈ wsX3_pump := by decide +kernel
  have hi3 : ∀ w ∈ wsX30, w ∈ wsX3_pump := by decide +kernel
  have k10 := hts (.fieldLink RX3 10 "PumpRoster" "village" "LPumpRoster$Village;") (by decide +kernel)
  have k57 := hts (.fieldLink RX3 57 "PumpRoster$Village" "pumps" "[LPumpRoster$Pump;") (by decide +kernel)
  have hS : va_S (AX ad ad2 s.heap.size) s.heap s.heap [] := va_S.rf
  have hl := lv_entry ([.ref xa, .int x, .int y]) (n := 3) (Nat.le_of_ble_eq_true rfl)
  rw [lg_entry_eq]
  generalize (lg_sl ([.ref xa, .int x, .int y]) ++ List.replicate (3 - (lg_sl ([.ref xa, .int x, .int y])).length) Slot.unset).toArray = ls at hl ⊢
  have hl : lv_has ls 3 [(0, .ref xa), (1, .int x), (2, .int y)] := hl
  obtain ⟨σ2, hW, hz⟩ := hW
  refine lv_aload_n hx hb dX3_pump_0 rfl (lv_at hl 0 rfl) ?_
  refine lv_iload_n hx hb dX3_pump_1 rfl (lv_at hl 1 rfl) ?_
  refine kXv (vx_runV (As := [.int x]) (rest := []) ⟨hx, hb, hml, hown, hts⟩ (c_X3_requirePump l hfl G xa ad ad2 hI nH nP hH hP δ τ σ2 s.heap.size x hv) (cwV 1 hts gX3_pump_X3_requirePump rfl rfl rfl (by decide +kernel) ⟨Nat.le_of_ble_eq_true rfl, Nat.le_of_ble_eq_true rfl⟩) ⟨Pc3.blind, va_recv hK (va_P1 hW.1) (ci := 3) (q0 := 0) rfl rfl, Pc3.pre hW hK hX hS (fun q h => Or.inr (Or.inr (Nat.le_trans hS.1 h)))⟩ rfl rfl hl.1 rfl (lv_room (Nat.le_of_ble_eq_true rfl)) dX3_pump_2 ⟨Nat.le_of_ble_eq_true rfl, Nat.le_of_ble_eq_true rfl⟩) hS (fun q h => Or.inr (Or.inr (Nat.le_trans hS.1 h))) (fun q h => Or.inr (Or.inr (Nat.le_trans hS.1 h))) (fun q h => Or.inr (Or.inr (Nat.le_trans hS.1 h))) (fun E ce q9 H locs hE hBX hk hS hc hv9 hcl => ?_) (fun H locs ok hBX hk hS => ?_)
  · skip
    exact yO htab hlocks (Or.inl ⟨hE.1, hE.2⟩) ⟨_, hW.kept (fun q hq => hk q hq (Nat.not_le.mpr hq)), hz⟩ hS hc hv9 hcl (Nat.le_of_ble_eq_true rfl) (Nat.le_of_ble_eq_true rfl)
  · skip
    have hW := hW.kept (fun q hq => hk q hq (Nat.not_le.mpr hq))
    have o1 := ok
    obtain ⟨h, hh, rfl⟩ := pOk_nI ok (by omega)
    refine lv_iload_n hx hb dX3_pump_5 rfl (lv_at hl 2 rfl) ?_
    refine lv_bipush (v := 10) hx hb dX3_pump_6 (by decide) ?_
    refine kXv (vx_runS (As := [.int y, .int 10]) (rest := []) ⟨hx, hb, hml, hown, hts⟩ (c_X3_requireIndex l hfl G H.size y 10) (va_cwS 2 hts gX3_pump_X3_requireIndex rfl rfl rfl (by decide +kernel) ⟨Nat.le_of_ble_eq_true rfl, Nat.le_of_ble_eq_true rfl⟩) ⟨Pc3.blind, Pc3.pre trivial hK hX hS (fun q h => Or.inr (Or.inr (Nat.le_trans hS.1 h)))⟩ rfl rfl hl.1 rfl (lv_room (Nat.le_of_ble_eq_true rfl)) dX3_pump_8 ⟨Nat.le_of_ble_eq_true rfl, Nat.le_of_ble_eq_true rfl⟩) hS (fun q h => Or.inr (Or.inr (Nat.le_trans hS.1 h))) (fun q h => Or.inr (Or.inr (Nat.le_trans hS.1 h))) (fun q h => Or.inr (Or.inr (Nat.le_trans hS.1 h))) (fun E ce q9 H locs hE hBX hk hS hc hv9 hcl => ?_) (fun H locs ok hBX hk hS => ?_)
    · skip
      exact yO htab hlocks (Or.inr (⟨hE.1, o1, hE.2⟩)) ⟨_, hW.kept (fun q hq => hk q hq (Nat.not_le.mpr hq)), hz⟩ hS hc hv9 hcl (Nat.le_of_ble_eq_true rfl) (Nat.le_of_ble_eq_true rfl)
    · skip
      have hW := hW.kept (fun q hq => hk q hq (Nat.not_le.mpr hq))
      have o2 := ok
      obtain ⟨k, hlok, hhik, rfl⟩ := inn_nI (lo := 0) (hi := 10) ok (by omega) (by omega)
      refine lv_aload_n hx hb dX3_pump_11 rfl (lv_at hl 0 rfl) ?_
      refine rX0 hx hb hts hi3 hown hK hW k10 dX3_pump_12 ?_
      refine rVp hx hb hts hi2 hown hK hW.2.1 k57 dX3_pump_15 ?_
      refine lv_iload_n hx hb dX3_pump_18 rfl (lv_at hl 1 rfl) ?_
      refine rPA (h := h) hx hb hK hW.2.1 (by omega) dX3_pump_19 ?_
      refine lv_iload_n hx hb dX3_pump_20 rfl (lv_at hl 2 rfl) ?_
      refine kI (va_runV (As := [.int (nI k)]) (rest := []) ⟨hx, hb, hml, hown, hts⟩ (c_X1_fact l G ad hI.1 nH nP hH hP δ τ h k (by omega) (hv.2.2.2.2.2 h (by omega)).1 (by omega)) (cwV 1 hts gX3_pump_X1_fact rfl rfl rfl (by decide +kernel) ⟨Nat.le_of_ble_eq_true rfl, Nat.le_of_ble_eq_true rfl⟩) ⟨Pc0.blind, va_recv hK (va_P1 (hW.2.1.2.2.2.2.1 h (by omega))) (ci := 1) (q0 := 0) rfl rfl, Pc0.pre hW.2.1 hK⟩ rfl rfl hl.1 rfl (lv_room (Nat.le_of_ble_eq_true rfl)) dX3_pump_21 ⟨Nat.le_of_ble_eq_true rfl, Nat.le_of_ble_eq_true rfl⟩) hS (fun q _ h => Or.inl h) (fun q h => Or.inl h) (fun H locs hB _ hk hS => ?_)
      have hW := hW.main hI hB hk
      exact yI hx hb hr hlocks (⟨o1, o2⟩) (⟨_, hW, hz⟩) hS (by rw [show cl (nI h) = h from nI_clamp (by omega), show cl (nI k) = k from nI_clamp (by omega)]) (Nat.le_of_ble_eq_true rfl) (Nat.le_of_ble_eq_true rfl) dX3_pump_24

set_option maxHeartbeats 4000000 in
set_option maxRecDepth 100000 in
theorem c_X3_count (l : Launch) (hfl : l.stackTraces = false) (G : wG) (xa : Nat) (ad ad2 : Nat → Nat) (hI : XI xa ad ad2) (nH nP : Nat) (hH : nH ≤ 10) (hP : nP ≤ 3) (δ τ z : wS) (nz : Nat) (y : Int32) (hv : Inv nH nP τ) : vx_Met l yX3_count wsX3_count ({ frames := 7, cells := 1, slots := 6, locals := 103 } : Room) (Pc3 G [.ref xa, .int y] nz (XWz G xa ad ad2 (wmx nH nP δ τ) z) (AX ad ad2 nz)) (Qxi (inn 0 9 y) (totF nH nP τ (cl y)) (XWz G xa ad ad2 (wmx nH nP δ τ) z) (AX ad ad2 nz)) (Xx (fun E => (E = nIOB ∧ ¬ (inn 0 9 y))) (XWz G xa ad ad2 (wmx nH nP δ τ) z) (AX ad ad2 nz)) 1 6 (AX ad ad2 nz) := by
  refine vx_ofW (cc := cX3_count) (maxL := 2) (ret := (some .int)) (by decide) rfl ?_
  intro pg ev s mid args below meth cd s₁ B hml htab hv0
  obtain ⟨rfl, rfl, hW, hK, hX⟩ := hv0
  have hx := B.exec
  have hb := B.bytes
  have hr := B.returns
  have hts := atoms_spec (ws := wsX3_count) B.pre
  have hown : s.vm.findClass RX3 = some mid.cls := findClass_of_methodNamed B.named
  have hlocks := B.notSynchronized
  have hi3 : ∀ w ∈ wsX30, w ∈ wsX3_count := by decide +kernel
  have k10 := hts (.fieldLink RX3 10 "PumpRoster" "village" "LPumpRoster$Village;") (by decide +kernel)
  have hS : va_S (AX ad ad2 s.heap.size) s.heap s.heap [] := va_S.rf
  have hl := lv_entry ([.ref xa, .int y]) (n := 2) (Nat.le_of_ble_eq_true rfl)
  rw [lg_entry_eq]
  generalize (lg_sl ([.ref xa, .int y]) ++ List.replicate (2 - (lg_sl ([.ref xa, .int y])).length) Slot.unset).toArray = ls at hl ⊢
  have hl : lv_has ls 2 [(0, .ref xa), (1, .int y)] := hl
  obtain ⟨σ2, hW, hz⟩ := hW
  refine lv_iload_n hx hb dX3_count_0 rfl (lv_at hl 1 rfl) ?_
  refine lv_bipush (v := 9) hx hb dX3_count_1 (by decide) ?_
  refine kXv (vx_runS (As := [.int y, .int 9]) (rest := []) ⟨hx, hb, hml, hown, hts⟩ (c_X3_requireIndex l hfl G s.heap.size y 9) (va_cwS 2 hts gX3_count_X3_requireIndex rfl rfl rfl (by decide +kernel) ⟨Nat.le_of_ble_eq_true rfl, Nat.le_of_ble_eq_true rfl⟩) ⟨Pc3.blind, Pc3.pre trivial hK hX hS (fun q h => Or.inr (Or.inr (Nat.le_trans hS.1 h)))⟩ rfl rfl hl.1 rfl (lv_room (Nat.le_of_ble_eq_true rfl)) dX3_count_3 ⟨Nat.le_of_ble_eq_true rfl, Nat.le_of_ble_eq_true rfl⟩) hS (fun q h => Or.inr (Or.inr (Nat.le_trans hS.1 h))) (fun q h => Or.inr (Or.inr (Nat.le_trans hS.1 h))) (fun q h => Or.inr (Or.inr (Nat.le_trans hS.1 h))) (fun E ce q9 H locs hE hBX hk hS hc hv9 hcl => ?_) (fun H locs ok hBX hk hS => ?_)
  · skip
    exact yO htab hlocks (⟨hE.1, hE.2⟩) ⟨_, hW.kept (fun q hq => hk q hq (Nat.not_le.mpr hq)), hz⟩ hS hc hv9 hcl (Nat.le_of_ble_eq_true rfl) (Nat.le_of_ble_eq_true rfl)
  · skip
    have hW := hW.kept (fun q hq => hk q hq (Nat.not_le.mpr hq))
    have o1 := ok
    obtain ⟨k, hlok, hhik, rfl⟩ := inn_nI (lo := 0) (hi := 9) ok (by omega) (by omega)
    refine lv_aload_n hx hb dX3_count_6 rfl (lv_at hl 0 rfl) ?_
    refine rX0 hx hb hts hi3 hown hK hW k10 dX3_count_7 ?_
    refine lv_iload_n hx hb dX3_count_10 rfl (lv_at hl 1 rfl) ?_
    refine kI (va_runV (As := [.int (nI k)]) (rest := []) ⟨hx, hb, hml, hown, hts⟩ (c_X2_total l G ad hI.1 nH nP hH hP δ τ k hv (by omega)) (cwV 1 hts gX3_count_X2_total rfl rfl rfl (by decide +kernel) ⟨Nat.le_of_ble_eq_true rfl, Nat.le_of_ble_eq_true rfl⟩) ⟨Pc0.blind, va_recv hK (va_P1 (hW.2.1.1)) (ci := 2) (q0 := 0) rfl rfl, Pc0.pre hW.2.1 hK⟩ rfl rfl hl.1 rfl (lv_room (Nat.le_of_ble_eq_true rfl)) dX3_count_11 ⟨Nat.le_of_ble_eq_true rfl, Nat.le_of_ble_eq_true rfl⟩) hS (fun q _ h => Or.inl h) (fun q h => Or.inl h) (fun H locs hB _ hk hS => ?_)
    have hW := hW.main hI hB hk
    exact yI hx hb hr hlocks o1 (⟨_, hW, hz⟩) hS (by rw [show cl (nI k) = k from nI_clamp (by omega)]) (Nat.le_of_ble_eq_true rfl) (Nat.le_of_ble_eq_true rfl) dX3_count_14

set_option maxHeartbeats 4000000 in
set_option maxRecDepth 100000 in
theorem c_X3_pass (l : Launch) (hfl : l.stackTraces = false) (G : wG) (xa : Nat) (ad ad2 : Nat → Nat) (hI : XI xa ad ad2) (nH nP : Nat) (hH : nH ≤ 10) (hP : nP ≤ 3) (δ τ z : wS) (nz : Nat) (y : Int32) (hv : Inv nH nP τ) : vx_Met l yX3_pass wsX3_pass ({ frames := 7, cells := 1, slots := 6, locals := 138 } : Room) (Pc3 G [.ref xa, .int y] nz (XWz G xa ad ad2 (wmx nH nP δ τ) z) (AX ad ad2 nz)) (Qxi (inn 1 100 y) (sm (fun h => dysF nH nP (cl y) τ 29 h) nP - sm (fun h => τ 29 h) nP) (XWz G xa ad ad2 (wmx nH nP δ (dysF nH nP (cl y) τ)) z) (AX ad ad2 nz)) (Xx (fun E => (E = nIAE ∧ ¬ (inn 1 100 y))) (XWz G xa ad ad2 (wmx nH nP δ τ) z) (AX ad ad2 nz)) 1 6 (AX ad ad2 nz) := by
  refine vx_ofW (cc := cX3_pass) (maxL := 2) (ret := (some .int)) (by decide) rfl ?_
  intro pg ev s mid args below meth cd s₁ B hml htab hv0
  obtain ⟨rfl, rfl, hW, hK, hX⟩ := hv0
  have hx := B.exec
  have hb := B.bytes
  have hr := B.returns
  have hts := atoms_spec (ws := wsX3_pass) B.pre
  have hown : s.vm.findClass RX3 = some mid.cls := findClass_of_methodNamed B.named
  have hlocks := B.notSynchronized
  have hi3 : ∀ w ∈ wsX30, w ∈ wsX3_pass := by decide +kernel
  have k10 := hts (.fieldLink RX3 10 "PumpRoster" "village" "LPumpRoster$Village;") (by decide +kernel)
  have hS : va_S (AX ad ad2 s.heap.size) s.heap s.heap [] := va_S.rf
  have hl := lv_entry ([.ref xa, .int y]) (n := 2) (Nat.le_of_ble_eq_true rfl)
  rw [lg_entry_eq]
  generalize (lg_sl ([.ref xa, .int y]) ++ List.replicate (2 - (lg_sl ([.ref xa, .int y])).length) Slot.unset).toArray = ls at hl ⊢
  have hl : lv_has ls 2 [(0, .ref xa), (1, .int y)] := hl
  obtain ⟨σ2, hW, hz⟩ := hW
  refine lv_iload_n hx hb dX3_pass_0 rfl (lv_at hl 1 rfl) ?_
  refine lv_iconst (v := 1) hx hb dX3_pass_1 (by decide) ?_
  refine lv_bipush (v := 100) hx hb dX3_pass_2 (by decide) ?_
  refine kXv (vx_runS (As := [.int y, .int 1, .int 100]) (rest := []) ⟨hx, hb, hml, hown, hts⟩ (c_X3_requireArgument l hfl G s.heap.size y 1 100) (va_cwS 3 hts gX3_pass_X3_requireArgument rfl rfl rfl (by decide +kernel) ⟨Nat.le_of_ble_eq_true rfl, Nat.le_of_ble_eq_true rfl⟩) ⟨Pc3.blind, Pc3.pre trivial hK hX hS (fun q h => Or.inr (Or.inr (Nat.le_trans hS.1 h)))⟩ rfl rfl hl.1 rfl (lv_room (Nat.le_of_ble_eq_true rfl)) dX3_pass_4 ⟨Nat.le_of_ble_eq_true rfl, Nat.le_of_ble_eq_true rfl⟩) hS (fun q h => Or.inr (Or.inr (Nat.le_trans hS.1 h))) (fun q h => Or.inr (Or.inr (Nat.le_trans hS.1 h))) (fun q h => Or.inr (Or.inr (Nat.le_trans hS.1 h))) (fun E ce q9 H locs hE hBX hk hS hc hv9 hcl => ?_) (fun H locs ok hBX hk hS => ?_)
  · skip
    exact yO htab hlocks (⟨hE.1, hE.2⟩) ⟨_, hW.kept (fun q hq => hk q hq (Nat.not_le.mpr hq)), hz⟩ hS hc hv9 hcl (Nat.le_of_ble_eq_true rfl) (Nat.le_of_ble_eq_true rfl)
  · skip
    have hW := hW.kept (fun q hq => hk q hq (Nat.not_le.mpr hq))
    have o1 := ok
    obtain ⟨k, hlok, hhik, rfl⟩ := inn_nI (lo := 1) (hi := 100) ok (by omega) (by omega)
    refine lv_aload_n hx hb dX3_pass_7 rfl (lv_at hl 0 rfl) ?_
    refine rX0 hx hb hts hi3 hown hK hW k10 dX3_pass_8 ?_
    refine lv_iload_n hx hb dX3_pass_11 rfl (lv_at hl 1 rfl) ?_
    refine kI (va_runV (As := [.int (nI k)]) (rest := []) ⟨hx, hb, hml, hown, hts⟩ (c_X2_runDays l G ad hI.1 nH nP hH hP δ τ k hv (by omega)) (cwV 1 hts gX3_pass_X2_runDays rfl rfl rfl (by decide +kernel) ⟨Nat.le_of_ble_eq_true rfl, Nat.le_of_ble_eq_true rfl⟩) ⟨Pc0.blind, va_recv hK (va_P1 (hW.2.1.1)) (ci := 2) (q0 := 0) rfl rfl, Pc0.pre hW.2.1 hK⟩ rfl rfl hl.1 rfl (lv_room (Nat.le_of_ble_eq_true rfl)) dX3_pass_12 ⟨Nat.le_of_ble_eq_true rfl, Nat.le_of_ble_eq_true rfl⟩) hS (fun q _ h => Or.inl h) (fun q h => Or.inl h) (fun H locs hB _ hk hS => ?_)
    have hW := hW.main hI hB hk
    exact yI hx hb hr hlocks o1 (by rw [show cl (nI k) = k from nI_clamp (by omega)]; exact ⟨_, hW, hz⟩) hS (by rw [show cl (nI k) = k from nI_clamp (by omega)]) (Nat.le_of_ble_eq_true rfl) (Nat.le_of_ble_eq_true rfl) dX3_pass_15

set_option maxHeartbeats 4000000 in
set_option maxRecDepth 100000 in
theorem c_X3_requirePlace (l : Launch) (hfl : l.stackTraces = false) (G : wG) (xa : Nat) (ad ad2 : Nat → Nat) (hI : XI xa ad ad2) (nH nP : Nat) (hH : nH ≤ 10) (hP : nP ≤ 3) (δ τ σ2 : wS) (nz : Nat) (x y : Int32) (hv : Inv nH nP τ) : vx_Met l yX3_requirePlace wsX3_requirePlace ({ frames := 7, cells := 2, slots := 12, locals := 103 } : Room) (Pc3 G [.ref xa, .int x, .int y] nz (XW G xa ad ad2 (wmx nH nP δ τ) σ2) (fun q => nz ≤ q)) (Qxv (plOk nP τ x y) (XW G xa ad ad2 (wmx nH nP δ τ) σ2) (fun q => nz ≤ q)) (Xx (fun E => (E = nIOB ∧ ¬ (plOk nP τ x y))) (XW G xa ad ad2 (wmx nH nP δ τ) σ2) (fun q => nz ≤ q)) 2 12 (fun q => nz ≤ q) := by
  refine vx_ofW (cc := cX3_requirePlace) (maxL := 3) (ret := none) (by decide) rfl ?_
  intro pg ev s mid args below meth cd s₁ B hml htab hv0
  obtain ⟨rfl, rfl, hW, hK, hX⟩ := hv0
  have hx := B.exec
  have hb := B.bytes
  have hr := B.returns
  have hts := atoms_spec (ws := wsX3_requirePlace) B.pre
  have hown : s.vm.findClass RX3 = some mid.cls := findClass_of_methodNamed B.named
  have hlocks := B.notSynchronized
  have hi1 : ∀ w ∈ wsX10, w ∈ wsX3_requirePlace := by decide +kernel
  have hi2 : ∀ w ∈ wsX20, w ∈ wsX3_requirePlace := by decide +kernel
  have hi3 : ∀ w ∈ wsX30, w ∈ wsX3_requirePlace := by decide +kernel
  have kcl183 := hts (.classLink RX3 183 nIOB) (by decide +kernel)
  have kin3 := hts (.initialized nIOB) (by decide +kernel)
  have hat3 := yHat (ic := 187) (X := nIOB) hts (by decide +kernel) xB3 hX.2.1.2.2.1 hX.2.1.2.2.2
  have k10 := hts (.fieldLink RX3 10 "PumpRoster" "village" "LPumpRoster$Village;") (by decide +kernel)
  have k57 := hts (.fieldLink RX3 57 "PumpRoster$Village" "pumps" "[LPumpRoster$Pump;") (by decide +kernel)
  have k100 := hts (.fieldLink RX3 100 "PumpRoster$Pump" "rosterSize" "I") (by decide +kernel)
  have hS : va_S (fun q => s.heap.size ≤ q) s.heap s.heap [] := va_S.rf
  have hl := lv_entry ([.ref xa, .int x, .int y]) (n := 3) (Nat.le_of_ble_eq_true rfl)
  rw [lg_entry_eq]
  generalize (lg_sl ([.ref xa, .int x, .int y]) ++ List.replicate (3 - (lg_sl ([.ref xa, .int x, .int y])).length) Slot.unset).toArray = ls at hl ⊢
  have hl : lv_has ls 3 [(0, .ref xa), (1, .int x), (2, .int y)] := hl
  refine lv_aload_n hx hb dX3_requirePlace_0 rfl (lv_at hl 0 rfl) ?_
  refine lv_iload_n hx hb dX3_requirePlace_1 rfl (lv_at hl 1 rfl) ?_
  refine kXv (vx_runV (As := [.int x]) (rest := []) ⟨hx, hb, hml, hown, hts⟩ (c_X3_requirePump l hfl G xa ad ad2 hI nH nP hH hP δ τ σ2 s.heap.size x hv) (cwV 1 hts gX3_requirePlace_X3_requirePump rfl rfl rfl (by decide +kernel) ⟨Nat.le_of_ble_eq_true rfl, Nat.le_of_ble_eq_true rfl⟩) ⟨Pc3.blind, va_recv hK (va_P1 hW.1) (ci := 3) (q0 := 0) rfl rfl, Pc3.pre hW hK hX hS (fun q h => Nat.le_trans hS.1 h)⟩ rfl rfl hl.1 rfl (lv_room (Nat.le_of_ble_eq_true rfl)) dX3_requirePlace_2 ⟨Nat.le_of_ble_eq_true rfl, Nat.le_of_ble_eq_true rfl⟩) hS (fun q h => Nat.le_trans hS.1 h) (fun q h => Nat.le_trans hS.1 h) (fun q h => Nat.le_trans hS.1 h) (fun E ce q9 H locs hE hBX hk hS hc hv9 hcl => ?_) (fun H locs ok hBX hk hS => ?_)
  · skip
    exact yO htab hlocks (⟨hE.1, fun q => hE.2 q.1⟩) (hW.kept (fun q hq => hk q hq (Nat.not_le.mpr hq))) hS hc hv9 hcl (Nat.le_of_ble_eq_true rfl) (Nat.le_of_ble_eq_true rfl)
  · skip
    have hW := hW.kept (fun q hq => hk q hq (Nat.not_le.mpr hq))
    have o1 := ok
    obtain ⟨h, hh, rfl⟩ := pOk_nI ok (by omega)
    refine lv_iload_n hx hb dX3_requirePlace_5 rfl (lv_at hl 2 rfl) ?_
    refine lv_if_lt (tgt := 25) hx hb dX3_requirePlace_6 (by decide) (fun c6 => ?_) (fun c6 => ?_)
    · skip
      obtain ⟨sa, hsa⟩ := hX.2.2.2.2.2.2.2.2.2.2
      exact yT hx hb hfl hown (by decide) kcl183 kin3 hsa hat3 xG3 hX hS (hl.1.trans hml.symm) dX3_requirePlace_25 dX3_requirePlace_28 dX3_requirePlace_29 dX3_requirePlace_31 dX3_requirePlace_34 htab (Nat.le_of_ble_eq_true rfl) (Nat.le_of_ble_eq_true rfl) (Nat.le_of_ble_eq_true rfl) (Nat.le_of_ble_eq_true rfl) hlocks (⟨rfl, (by first | exact fun q => q.2.1 c6 | exact fun q => c22 (by have q2 := q.2.2; rw [show cl (nI h) = h from nI_clamp (by omega)] at q2; exact q2))⟩) (fun H1 hq => hW.kept hq) (Nat.le_of_ble_eq_true rfl) (Nat.le_of_ble_eq_true rfl)
    · skip
      refine lv_iload_n hx hb dX3_requirePlace_9 rfl (lv_at hl 2 rfl) ?_
      refine lv_aload_n hx hb dX3_requirePlace_10 rfl (lv_at hl 0 rfl) ?_
      refine rX0 hx hb hts hi3 hown hK hW k10 dX3_requirePlace_11 ?_
      refine rVp hx hb hts hi2 hown hK hW.2.1 k57 dX3_requirePlace_14 ?_
      refine lv_iload_n hx hb dX3_requirePlace_17 rfl (lv_at hl 1 rfl) ?_
      refine rPA (h := h) hx hb hK hW.2.1 (by omega) dX3_requirePlace_18 ?_
      refine rP 7 (f := 26) (h := h) (v := nI (sz τ h)) hx hb hts hi1 hown hK hW.2.1 (by omega) hP (by decide) (by decide) rfl (hv.2.2.2.2.2 h hh).2.2.2.2.1.2 k100 dX3_requirePlace_19 ?_
      refine lv_icmp_lt (tgt := 35) hx hb dX3_requirePlace_22 (by decide) (fun c22 => ?_) (fun c22 => ?_)
      · skip
        exact yV hx hb hr hlocks (⟨o1, c6, by rw [show cl (nI h) = h from nI_clamp (by omega)]; exact c22⟩) hW hS (Nat.le_of_ble_eq_true rfl) (Nat.le_of_ble_eq_true rfl) dX3_requirePlace_35
      · skip
        obtain ⟨sa, hsa⟩ := hX.2.2.2.2.2.2.2.2.2.2
        exact yT hx hb hfl hown (by decide) kcl183 kin3 hsa hat3 xG3 hX hS (hl.1.trans hml.symm) dX3_requirePlace_25 dX3_requirePlace_28 dX3_requirePlace_29 dX3_requirePlace_31 dX3_requirePlace_34 htab (Nat.le_of_ble_eq_true rfl) (Nat.le_of_ble_eq_true rfl) (Nat.le_of_ble_eq_true rfl) (Nat.le_of_ble_eq_true rfl) hlocks (⟨rfl, (by first | exact fun q => q.2.1 c6 | exact fun q => c22 (by have q2 := q.2.2; rw [show cl (nI h) = h from nI_clamp (by omega)] at q2; exact q2))⟩) (fun H1 hq => hW.kept hq) (Nat.le_of_ble_eq_true rfl) (Nat.le_of_ble_eq_true rfl)
