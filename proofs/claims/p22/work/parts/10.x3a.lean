set_option maxHeartbeats 4000000 in
set_option maxRecDepth 100000 in
theorem c_X3_requireArgument (l : Launch) (hfl : l.stackTraces = false) (G : wG) (nz : Nat) (v lo hi : Int32)  : vx_Met l yX3_requireArgument wsX3_requireArgument ({ frames := 6, cells := 1, slots := 6, locals := 82 } : Room) (Pc3 G [.int v, .int lo, .int hi] nz (fun _ => True) (fun q => nz ≤ q)) (Qxv (inn lo hi v) (fun _ => True) (fun q => nz ≤ q)) (Xx (fun E => (E = nIAE ∧ ¬ (inn lo hi v))) (fun _ => True) (fun q => nz ≤ q)) 1 6 (fun q => nz ≤ q) := by
  refine vx_ofW (cc := cX3_requireArgument) (maxL := 3) (ret := none) (by decide) rfl ?_
  intro pg ev s mid args below meth cd s₁ B hml htab hv0
  obtain ⟨rfl, rfl, hW, hK, hX⟩ := hv0
  have hx := B.exec
  have hb := B.bytes
  have hr := B.returns
  have hts := atoms_spec (ws := wsX3_requireArgument) B.pre
  have hown : s.vm.findClass RX3 = some mid.cls := findClass_of_methodNamed B.named
  have hlocks := B.notSynchronized
  have kcl178 := hts (.classLink RX3 178 nIAE) (by decide +kernel)
  have kin1 := hts (.initialized nIAE) (by decide +kernel)
  have hat1 := yHat (ic := 182) (X := nIAE) hts (by decide +kernel) xB1 hX.2.1.1 hX.2.1.2.2.2
  have hS : va_S (fun q => s.heap.size ≤ q) s.heap s.heap [] := va_S.rf
  have hl := lv_entry ([.int v, .int lo, .int hi]) (n := 3) (Nat.le_of_ble_eq_true rfl)
  rw [lg_entry_eq]
  generalize (lg_sl ([.int v, .int lo, .int hi]) ++ List.replicate (3 - (lg_sl ([.int v, .int lo, .int hi])).length) Slot.unset).toArray = ls at hl ⊢
  have hl : lv_has ls 3 [(0, .int v), (1, .int lo), (2, .int hi)] := hl
  refine lv_iload_n hx hb dX3_requireArgument_0 rfl (lv_at hl 0 rfl) ?_
  refine lv_iload_n hx hb dX3_requireArgument_1 rfl (lv_at hl 1 rfl) ?_
  refine lv_icmp_lt (tgt := 10) hx hb dX3_requireArgument_2 (by decide) (fun c2 => ?_) (fun c2 => ?_)
  · skip
    obtain ⟨sa, hsa⟩ := hX.2.2.2.2.2.2.1
    exact yT hx hb hfl hown (by decide) kcl178 kin1 hsa hat1 xG1 hX hS (hl.1.trans hml.symm) dX3_requireArgument_10 dX3_requireArgument_13 dX3_requireArgument_14 dX3_requireArgument_16 dX3_requireArgument_19 htab (Nat.le_of_ble_eq_true rfl) (Nat.le_of_ble_eq_true rfl) (Nat.le_of_ble_eq_true rfl) (Nat.le_of_ble_eq_true rfl) hlocks (⟨rfl, (by first | exact fun q => q.1 c2 | exact fun q => c7 q.2)⟩) (fun H1 hq => trivial) (Nat.le_of_ble_eq_true rfl) (Nat.le_of_ble_eq_true rfl)
  · skip
    refine lv_iload_n hx hb dX3_requireArgument_5 rfl (lv_at hl 0 rfl) ?_
    refine lv_iload_n hx hb dX3_requireArgument_6 rfl (lv_at hl 2 rfl) ?_
    refine lv_icmp_le (tgt := 20) hx hb dX3_requireArgument_7 (by decide) (fun c7 => ?_) (fun c7 => ?_)
    · skip
      exact yV hx hb hr hlocks (⟨c2, c7⟩) trivial hS (Nat.le_of_ble_eq_true rfl) (Nat.le_of_ble_eq_true rfl) dX3_requireArgument_20
    · skip
      obtain ⟨sa, hsa⟩ := hX.2.2.2.2.2.2.1
      exact yT hx hb hfl hown (by decide) kcl178 kin1 hsa hat1 xG1 hX hS (hl.1.trans hml.symm) dX3_requireArgument_10 dX3_requireArgument_13 dX3_requireArgument_14 dX3_requireArgument_16 dX3_requireArgument_19 htab (Nat.le_of_ble_eq_true rfl) (Nat.le_of_ble_eq_true rfl) (Nat.le_of_ble_eq_true rfl) (Nat.le_of_ble_eq_true rfl) hlocks (⟨rfl, (by first | exact fun q => q.1 c2 | exact fun q => c7 q.2)⟩) (fun H1 hq => trivial) (Nat.le_of_ble_eq_true rfl) (Nat.le_of_ble_eq_true rfl)

set_option maxHeartbeats 4000000 in
set_option maxRecDepth 100000 in
theorem c_X3_requireIndex (l : Launch) (hfl : l.stackTraces = false) (G : wG) (nz : Nat) (v hi : Int32)  : vx_Met l yX3_requireIndex wsX3_requireIndex ({ frames := 6, cells := 1, slots := 6, locals := 82 } : Room) (Pc3 G [.int v, .int hi] nz (fun _ => True) (fun q => nz ≤ q)) (Qxv (inn 0 hi v) (fun _ => True) (fun q => nz ≤ q)) (Xx (fun E => (E = nIOB ∧ ¬ (inn 0 hi v))) (fun _ => True) (fun q => nz ≤ q)) 1 6 (fun q => nz ≤ q) := by
  refine vx_ofW (cc := cX3_requireIndex) (maxL := 2) (ret := none) (by decide) rfl ?_
  intro pg ev s mid args below meth cd s₁ B hml htab hv0
  obtain ⟨rfl, rfl, hW, hK, hX⟩ := hv0
  have hx := B.exec
  have hb := B.bytes
  have hr := B.returns
  have hts := atoms_spec (ws := wsX3_requireIndex) B.pre
  have hown : s.vm.findClass RX3 = some mid.cls := findClass_of_methodNamed B.named
  have hlocks := B.notSynchronized
  have kcl183 := hts (.classLink RX3 183 nIOB) (by decide +kernel)
  have kin3 := hts (.initialized nIOB) (by decide +kernel)
  have hat3 := yHat (ic := 187) (X := nIOB) hts (by decide +kernel) xB3 hX.2.1.2.2.1 hX.2.1.2.2.2
  have hS : va_S (fun q => s.heap.size ≤ q) s.heap s.heap [] := va_S.rf
  have hl := lv_entry ([.int v, .int hi]) (n := 2) (Nat.le_of_ble_eq_true rfl)
  rw [lg_entry_eq]
  generalize (lg_sl ([.int v, .int hi]) ++ List.replicate (2 - (lg_sl ([.int v, .int hi])).length) Slot.unset).toArray = ls at hl ⊢
  have hl : lv_has ls 2 [(0, .int v), (1, .int hi)] := hl
  refine lv_iload_n hx hb dX3_requireIndex_0 rfl (lv_at hl 0 rfl) ?_
  refine lv_if_lt (tgt := 9) hx hb dX3_requireIndex_1 (by decide) (fun c1 => ?_) (fun c1 => ?_)
  · skip
    obtain ⟨sa, hsa⟩ := hX.2.2.2.2.2.2.2.1
    exact yT hx hb hfl hown (by decide) kcl183 kin3 hsa hat3 xG3 hX hS (hl.1.trans hml.symm) dX3_requireIndex_9 dX3_requireIndex_12 dX3_requireIndex_13 dX3_requireIndex_15 dX3_requireIndex_18 htab (Nat.le_of_ble_eq_true rfl) (Nat.le_of_ble_eq_true rfl) (Nat.le_of_ble_eq_true rfl) (Nat.le_of_ble_eq_true rfl) hlocks (⟨rfl, (by first | exact fun q => q.1 c1 | exact fun q => c6 q.2)⟩) (fun H1 hq => trivial) (Nat.le_of_ble_eq_true rfl) (Nat.le_of_ble_eq_true rfl)
  · skip
    refine lv_iload_n hx hb dX3_requireIndex_4 rfl (lv_at hl 0 rfl) ?_
    refine lv_iload_n hx hb dX3_requireIndex_5 rfl (lv_at hl 1 rfl) ?_
    refine lv_icmp_le (tgt := 19) hx hb dX3_requireIndex_6 (by decide) (fun c6 => ?_) (fun c6 => ?_)
    · skip
      exact yV hx hb hr hlocks (⟨c1, c6⟩) trivial hS (Nat.le_of_ble_eq_true rfl) (Nat.le_of_ble_eq_true rfl) dX3_requireIndex_19
    · skip
      obtain ⟨sa, hsa⟩ := hX.2.2.2.2.2.2.2.1
      exact yT hx hb hfl hown (by decide) kcl183 kin3 hsa hat3 xG3 hX hS (hl.1.trans hml.symm) dX3_requireIndex_9 dX3_requireIndex_12 dX3_requireIndex_13 dX3_requireIndex_15 dX3_requireIndex_18 htab (Nat.le_of_ble_eq_true rfl) (Nat.le_of_ble_eq_true rfl) (Nat.le_of_ble_eq_true rfl) (Nat.le_of_ble_eq_true rfl) hlocks (⟨rfl, (by first | exact fun q => q.1 c1 | exact fun q => c6 q.2)⟩) (fun H1 hq => trivial) (Nat.le_of_ble_eq_true rfl) (Nat.le_of_ble_eq_true rfl)

set_option maxHeartbeats 4000000 in
set_option maxRecDepth 100000 in
theorem c_X2_isHouseP (l : Launch) (G : wG) (ad : Nat → Nat) (hI : adInj ad 19) (nH nP : Nat) (hH : nH ≤ 10) (hP : nP ≤ 3) (δ τ : wS) (x : Int32) (h51 : τ 51 0 = nI nH) : Met l yX2_isHouse wsX2_isHouse ({ frames := 0, cells := 0, slots := 0, locals := 0 } : Room) (Pc0 G [.ref (ad 0), .int x] (CVm G ad nH nP δ τ)) (Qi0 (if x < 0 ∨ nI nH ≤ x then 0 else 1) (CVm G ad nH nP δ τ) (fun _ : Nat => False)) 0 0 (fun _ : Nat => False) := by
  refine Met.ofW (cc := cX2_isHouse) (maxL := 2) (ret := (some .boolean)) (by decide) rfl ?_
  intro pg ev s mid args below meth cd s₁ B hml hv0
  obtain ⟨rfl, hV, hK⟩ := hv0
  have hx := B.exec
  have hb := B.bytes
  have hr := B.returns
  have hts := atoms_spec (ws := wsX2_isHouse) B.pre
  have hown : s.vm.findClass RX2 = some mid.cls := findClass_of_methodNamed B.named
  have hlocks := B.notSynchronized
  have hi2 : ∀ w ∈ wsX20, w ∈ wsX2_isHouse := by decide +kernel
  have k27 := hts (.fieldLink RX2 27 "PumpRoster$Village" "houseCount" "I") (by decide +kernel)
  have hS : va_S (fun _ : Nat => False) s.heap s.heap [] := va_S.rf
  have hl := lv_entry ([.ref (ad 0), .int x]) (n := 2) (Nat.le_of_ble_eq_true rfl)
  rw [lg_entry_eq]
  generalize (lg_sl ([.ref (ad 0), .int x]) ++ List.replicate (2 - (lg_sl ([.ref (ad 0), .int x])).length) Slot.unset).toArray = ls at hl ⊢
  have hl : lv_has ls 2 [(0, .ref (ad 0)), (1, .int x)] := hl
  refine lv_iload_n hx hb dX2_isHouse_0 rfl (lv_at hl 1 rfl) ?_
  refine lv_if_lt (tgt := 16) hx hb dX2_isHouse_1 (by decide) (fun c1 => ?_) (fun c1 => ?_)
  · skip
    refine lv_iconst (v := 0) hx hb dX2_isHouse_16 (by decide) ?_
    exact xZ hx hb hr hlocks hV hS (by first | exact (if_pos (Or.inl c1)).symm | exact (if_pos (Or.inr c9)).symm | exact (if_neg (fun q => q.elim c1 c9)).symm) rfl dX2_isHouse_17
  · skip
    refine lv_iload_n hx hb dX2_isHouse_4 rfl (lv_at hl 1 rfl) ?_
    refine lv_aload_n hx hb dX2_isHouse_5 rfl (lv_at hl 0 rfl) ?_
    refine rV 2 (f := 51) (v := nI nH) hx hb hts hi2 hown hK hV (by decide) (by decide) rfl h51 k27 dX2_isHouse_6 ?_
    refine lv_icmp_ge (tgt := 16) hx hb dX2_isHouse_9 (by decide) (fun c9 => ?_) (fun c9 => ?_)
    · skip
      refine lv_iconst (v := 0) hx hb dX2_isHouse_16 (by decide) ?_
      exact xZ hx hb hr hlocks hV hS (by first | exact (if_pos (Or.inl c1)).symm | exact (if_pos (Or.inr c9)).symm | exact (if_neg (fun q => q.elim c1 c9)).symm) rfl dX2_isHouse_17
    · skip
      refine lv_iconst (v := 1) hx hb dX2_isHouse_12 (by decide) ?_
      refine lv_goto (tgt := 17) hx hb dX2_isHouse_13 (by decide) ?_
      exact xZ hx hb hr hlocks hV hS (by first | exact (if_pos (Or.inl c1)).symm | exact (if_pos (Or.inr c9)).symm | exact (if_neg (fun q => q.elim c1 c9)).symm) rfl dX2_isHouse_17

set_option maxHeartbeats 4000000 in
set_option maxRecDepth 100000 in
theorem c_X2_isPumpP (l : Launch) (G : wG) (ad : Nat → Nat) (hI : adInj ad 19) (nH nP : Nat) (hH : nH ≤ 10) (hP : nP ≤ 3) (δ τ : wS) (x : Int32) (h52 : τ 52 0 = nI nP) : Met l yX2_isPump wsX2_isPump ({ frames := 0, cells := 0, slots := 0, locals := 0 } : Room) (Pc0 G [.ref (ad 0), .int x] (CVm G ad nH nP δ τ)) (Qi0 (if x < 0 ∨ nI nP ≤ x then 0 else 1) (CVm G ad nH nP δ τ) (fun _ : Nat => False)) 0 0 (fun _ : Nat => False) := by
  refine Met.ofW (cc := cX2_isPump) (maxL := 2) (ret := (some .boolean)) (by decide) rfl ?_
  intro pg ev s mid args below meth cd s₁ B hml hv0
  obtain ⟨rfl, hV, hK⟩ := hv0
  have hx := B.exec
  have hb := B.bytes
  have hr := B.returns
  have hts := atoms_spec (ws := wsX2_isPump) B.pre
  have hown : s.vm.findClass RX2 = some mid.cls := findClass_of_methodNamed B.named
  have hlocks := B.notSynchronized
  have hi2 : ∀ w ∈ wsX20, w ∈ wsX2_isPump := by decide +kernel
  have k31 := hts (.fieldLink RX2 31 "PumpRoster$Village" "pumpCount" "I") (by decide +kernel)
  have hS : va_S (fun _ : Nat => False) s.heap s.heap [] := va_S.rf
  have hl := lv_entry ([.ref (ad 0), .int x]) (n := 2) (Nat.le_of_ble_eq_true rfl)
  rw [lg_entry_eq]
  generalize (lg_sl ([.ref (ad 0), .int x]) ++ List.replicate (2 - (lg_sl ([.ref (ad 0), .int x])).length) Slot.unset).toArray = ls at hl ⊢
  have hl : lv_has ls 2 [(0, .ref (ad 0)), (1, .int x)] := hl
  refine lv_iload_n hx hb dX2_isPump_0 rfl (lv_at hl 1 rfl) ?_
  refine lv_if_lt (tgt := 16) hx hb dX2_isPump_1 (by decide) (fun c1 => ?_) (fun c1 => ?_)
  · skip
    refine lv_iconst (v := 0) hx hb dX2_isPump_16 (by decide) ?_
    exact xZ hx hb hr hlocks hV hS (by first | exact (if_pos (Or.inl c1)).symm | exact (if_pos (Or.inr c9)).symm | exact (if_neg (fun q => q.elim c1 c9)).symm) rfl dX2_isPump_17
  · skip
    refine lv_iload_n hx hb dX2_isPump_4 rfl (lv_at hl 1 rfl) ?_
    refine lv_aload_n hx hb dX2_isPump_5 rfl (lv_at hl 0 rfl) ?_
    refine rV 3 (f := 52) (v := nI nP) hx hb hts hi2 hown hK hV (by decide) (by decide) rfl h52 k31 dX2_isPump_6 ?_
    refine lv_icmp_ge (tgt := 16) hx hb dX2_isPump_9 (by decide) (fun c9 => ?_) (fun c9 => ?_)
    · skip
      refine lv_iconst (v := 0) hx hb dX2_isPump_16 (by decide) ?_
      exact xZ hx hb hr hlocks hV hS (by first | exact (if_pos (Or.inl c1)).symm | exact (if_pos (Or.inr c9)).symm | exact (if_neg (fun q => q.elim c1 c9)).symm) rfl dX2_isPump_17
    · skip
      refine lv_iconst (v := 1) hx hb dX2_isPump_12 (by decide) ?_
      refine lv_goto (tgt := 17) hx hb dX2_isPump_13 (by decide) ?_
      exact xZ hx hb hr hlocks hV hS (by first | exact (if_pos (Or.inl c1)).symm | exact (if_pos (Or.inr c9)).symm | exact (if_neg (fun q => q.elim c1 c9)).symm) rfl dX2_isPump_17

set_option maxHeartbeats 4000000 in
set_option maxRecDepth 100000 in
theorem c_X3_requireHouse (l : Launch) (hfl : l.stackTraces = false) (G : wG) (xa : Nat) (ad ad2 : Nat → Nat) (hI : XI xa ad ad2) (nH nP : Nat) (hH : nH ≤ 10) (hP : nP ≤ 3) (δ τ σ2 : wS) (nz : Nat) (x : Int32) (hv : Inv nH nP τ) : vx_Met l yX3_requireHouse wsX3_requireHouse ({ frames := 6, cells := 1, slots := 6, locals := 82 } : Room) (Pc3 G [.ref xa, .int x] nz (XW G xa ad ad2 (wmx nH nP δ τ) σ2) (fun q => nz ≤ q)) (Qxv (hOk nH x) (XW G xa ad ad2 (wmx nH nP δ τ) σ2) (fun q => nz ≤ q)) (Xx (fun E => (E = nIOB ∧ ¬ (hOk nH x))) (XW G xa ad ad2 (wmx nH nP δ τ) σ2) (fun q => nz ≤ q)) 1 6 (fun q => nz ≤ q) := by
  refine vx_ofW (cc := cX3_requireHouse) (maxL := 2) (ret := none) (by decide) rfl ?_
  intro pg ev s mid args below meth cd s₁ B hml htab hv0
  obtain ⟨rfl, rfl, hW, hK, hX⟩ := hv0
  have hx := B.exec
  have hb := B.bytes
  have hr := B.returns
  have hts := atoms_spec (ws := wsX3_requireHouse) B.pre
  have hown : s.vm.findClass RX3 = some mid.cls := findClass_of_methodNamed B.named
  have hlocks := B.notSynchronized
  have hi3 : ∀ w ∈ wsX30, w ∈ wsX3_requireHouse := by decide +kernel
  have k10 := hts (.fieldLink RX3 10 "PumpRoster" "village" "LPumpRoster$Village;") (by decide +kernel)
  have kcl183 := hts (.classLink RX3 183 nIOB) (by decide +kernel)
  have kin3 := hts (.initialized nIOB) (by decide +kernel)
  have hat3 := yHat (ic := 187) (X := nIOB) hts (by decide +kernel) xB3 hX.2.1.2.2.1 hX.2.1.2.2.2
  have hS : va_S (fun q => s.heap.size ≤ q) s.heap s.heap [] := va_S.rf
  have hl := lv_entry ([.ref xa, .int x]) (n := 2) (Nat.le_of_ble_eq_true rfl)
  rw [lg_entry_eq]
  generalize (lg_sl ([.ref xa, .int x]) ++ List.replicate (2 - (lg_sl ([.ref xa, .int x])).length) Slot.unset).toArray = ls at hl ⊢
  have hl : lv_has ls 2 [(0, .ref xa), (1, .int x)] := hl
  refine lv_aload_n hx hb dX3_requireHouse_0 rfl (lv_at hl 0 rfl) ?_
  refine rX0 hx hb hts hi3 hown hK hW k10 dX3_requireHouse_1 ?_
  refine lv_iload_n hx hb dX3_requireHouse_4 rfl (lv_at hl 1 rfl) ?_
  refine kI (va_runV (As := [.int x]) (rest := []) ⟨hx, hb, hml, hown, hts⟩ (c_X2_isHouseP l G ad hI.1 nH nP hH hP δ τ x hv.2.2.1) (cwV 1 hts gX3_requireHouse_X2_isHouse rfl rfl rfl (by decide +kernel) ⟨Nat.le_of_ble_eq_true rfl, Nat.le_of_ble_eq_true rfl⟩) ⟨Pc0.blind, va_recv hK (va_P1 (hW.2.1.1)) (ci := 2) (q0 := 0) rfl rfl, Pc0.pre hW.2.1 hK⟩ rfl rfl hl.1 rfl (lv_room (Nat.le_of_ble_eq_true rfl)) dX3_requireHouse_5 ⟨Nat.le_of_ble_eq_true rfl, Nat.le_of_ble_eq_true rfl⟩) hS (fun q _ h => h.elim) (fun q h => h.elim) (fun H locs hB _ hk hS => ?_)
  have hW := hW.kept (fun q hq => hk q hq (fun h => h))
  refine lv_if_ne (tgt := 21) hx hb dX3_requireHouse_8 (by decide) (fun c8 => ?_) (fun c8 => ?_)
  · skip
    exact yV hx hb hr hlocks (⟨fun z => c8 (if_pos (Or.inl z)), fun z => c8 (if_pos (Or.inr z))⟩) hW hS (Nat.le_of_ble_eq_true rfl) (Nat.le_of_ble_eq_true rfl) dX3_requireHouse_21
  · skip
    obtain ⟨sa, hsa⟩ := hX.2.2.2.2.2.2.2.2.1
    exact yT hx hb hfl hown (by decide) kcl183 kin3 hsa hat3 xG3 hX hS (hl.1.trans hml.symm) dX3_requireHouse_11 dX3_requireHouse_14 dX3_requireHouse_15 dX3_requireHouse_17 dX3_requireHouse_20 htab (Nat.le_of_ble_eq_true rfl) (Nat.le_of_ble_eq_true rfl) (Nat.le_of_ble_eq_true rfl) (Nat.le_of_ble_eq_true rfl) hlocks (⟨rfl, (fun q => by rw [if_neg (fun z => z.elim q.1 q.2)] at c8; exact absurd c8 (by decide))⟩) (fun H1 hq => hW.kept hq) (Nat.le_of_ble_eq_true rfl) (Nat.le_of_ble_eq_true rfl)

set_option maxHeartbeats 4000000 in
set_option maxRecDepth 100000 in
theorem c_X3_requirePump (l : Launch) (hfl : l.stackTraces = false) (G : wG) (xa : Nat) (ad ad2 : Nat → Nat) (hI : XI xa ad ad2) (nH nP : Nat) (hH : nH ≤ 10) (hP : nP ≤ 3) (δ τ σ2 : wS) (nz : Nat) (x : Int32) (hv : Inv nH nP τ) : vx_Met l yX3_requirePump wsX3_requirePump ({ frames := 6, cells := 1, slots := 6, locals := 82 } : Room) (Pc3 G [.ref xa, .int x] nz (XW G xa ad ad2 (wmx nH nP δ τ) σ2) (fun q => nz ≤ q)) (Qxv (pOk nP x) (XW G xa ad ad2 (wmx nH nP δ τ) σ2) (fun q => nz ≤ q)) (Xx (fun E => (E = nIOB ∧ ¬ (pOk nP x))) (XW G xa ad ad2 (wmx nH nP δ τ) σ2) (fun q => nz ≤ q)) 1 6 (fun q => nz ≤ q) := by
  refine vx_ofW (cc := cX3_requirePump) (maxL := 2) (ret := none) (by decide) rfl ?_
  intro pg ev s mid args below meth cd s₁ B hml htab hv0
  obtain ⟨rfl, rfl, hW, hK, hX⟩ := hv0
  have hx := B.exec
  have hb := B.bytes
  have hr := B.returns
  have hts := atoms_spec (ws := wsX3_requirePump) B.pre
  have hown : s.vm.findClass RX3 = some mid.cls := findClass_of_methodNamed B.named
  have hlocks := B.notSynchronized
  have hi3 : ∀ w ∈ wsX30, w ∈ wsX3_requirePump := by decide +kernel
  have k10 := hts (.fieldLink RX3 10 "PumpRoster" "village" "LPumpRoster$Village;") (by decide +kernel)
  have kcl183 := hts (.classLink RX3 183 nIOB) (by decide +kernel)
  have kin3 := hts (.initialized nIOB) (by decide +kernel)
  have hat3 := yHat (ic := 187) (X := nIOB) hts (by decide +kernel) xB3 hX.2.1.2.2.1 hX.2.1.2.2.2
  have hS : va_S (fun q => s.heap.size ≤ q) s.heap s.heap [] := va_S.rf
  have hl := lv_entry ([.ref xa, .int x]) (n := 2) (Nat.le_of_ble_eq_true rfl)
  rw [lg_entry_eq]
  generalize (lg_sl ([.ref xa, .int x]) ++ List.replicate (2 - (lg_sl ([.ref xa, .int x])).length) Slot.unset).toArray = ls at hl ⊢
  have hl : lv_has ls 2 [(0, .ref xa), (1, .int x)] := hl
  refine lv_aload_n hx hb dX3_requirePump_0 rfl (lv_at hl 0 rfl) ?_
  refine rX0 hx hb hts hi3 hown hK hW k10 dX3_requirePump_1 ?_
  refine lv_iload_n hx hb dX3_requirePump_4 rfl (lv_at hl 1 rfl) ?_
  refine kI (va_runV (As := [.int x]) (rest := []) ⟨hx, hb, hml, hown, hts⟩ (c_X2_isPumpP l G ad hI.1 nH nP hH hP δ τ x hv.2.2.2.1) (cwV 1 hts gX3_requirePump_X2_isPump rfl rfl rfl (by decide +kernel) ⟨Nat.le_of_ble_eq_true rfl, Nat.le_of_ble_eq_true rfl⟩) ⟨Pc0.blind, va_recv hK (va_P1 (hW.2.1.1)) (ci := 2) (q0 := 0) rfl rfl, Pc0.pre hW.2.1 hK⟩ rfl rfl hl.1 rfl (lv_room (Nat.le_of_ble_eq_true rfl)) dX3_requirePump_5 ⟨Nat.le_of_ble_eq_true rfl, Nat.le_of_ble_eq_true rfl⟩) hS (fun q _ h => h.elim) (fun q h => h.elim) (fun H locs hB _ hk hS => ?_)
  have hW := hW.kept (fun q hq => hk q hq (fun h => h))
  refine lv_if_ne (tgt := 21) hx hb dX3_requirePump_8 (by decide) (fun c8 => ?_) (fun c8 => ?_)
  · skip
    exact yV hx hb hr hlocks (⟨fun z => c8 (if_pos (Or.inl z)), Int32.not_le.mp (fun z => c8 (if_pos (Or.inr z)))⟩) hW hS (Nat.le_of_ble_eq_true rfl) (Nat.le_of_ble_eq_true rfl) dX3_requirePump_21
  · skip
    obtain ⟨sa, hsa⟩ := hX.2.2.2.2.2.2.2.2.2.1
    exact yT hx hb hfl hown (by decide) kcl183 kin3 hsa hat3 xG3 hX hS (hl.1.trans hml.symm) dX3_requirePump_11 dX3_requirePump_14 dX3_requirePump_15 dX3_requirePump_17 dX3_requirePump_20 htab (Nat.le_of_ble_eq_true rfl) (Nat.le_of_ble_eq_true rfl) (Nat.le_of_ble_eq_true rfl) (Nat.le_of_ble_eq_true rfl) hlocks (⟨rfl, (fun q => by rw [if_neg (fun z => z.elim q.1 (Int32.not_le.mpr q.2))] at c8; exact absurd c8 (by decide))⟩) (fun H1 hq => hW.kept hq) (Nat.le_of_ble_eq_true rfl) (Nat.le_of_ble_eq_true rfl)
