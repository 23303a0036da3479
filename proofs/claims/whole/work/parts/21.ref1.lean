theorem b01 {x : Int32} (h : x = 0 ∨ x = 1) : x = if x = 0 then 0 else 1 := by
  rcases h with h | h
  · rw [h]; rfl
  · rw [h]; rfl
theorem shF_wst {p g j f i : Nat} {x : Int32} {σ : wS} (h : f ≠ 40 + p) : shF p g j (wst σ f i x) = wst (shF p g j σ) f i x := by
  funext f2 i2
  unfold shF wst
  by_cases q : f2 = 40 + p ∧ g ≤ i2 ∧ i2 < j
  · rw [if_pos q, if_neg (by omega), if_neg (by omega)]
    exact (if_pos q).symm
  · rw [if_neg q]
    by_cases r : f2 = f ∧ i2 = i
    · rw [if_pos r, if_pos r]
    · rw [if_neg r, if_neg r]
      exact (if_neg q).symm

set_option maxHeartbeats 4000000 in
set_option maxRecDepth 100000 in
theorem c_X4_isThere (l : Launch) (G : wG) (ad : Nat → Nat) (hI : adInj ad 6) (nH nP : Nat) (hH : nH ≤ 10) (hP : nP ≤ 3) (δ τ : wS) (h : Nat) (hh : h < nH) : Met l yX4_isThere wsX4_isThere ({ frames := 0, cells := 0, slots := 0, locals := 0 } : Room) (Pc0 G [.ref (ad 0), .int (nI h)] (RVm G ad nH nP δ τ)) (Qi0 (if τ 6 h = 0 then 1 else 0) (RVm G ad nH nP δ τ) (AV ad 6)) 0 0 (AV ad 6) := by
  refine Met.ofW (cc := cX4_isThere) (maxL := 2) (ret := (some .boolean)) (by decide) rfl ?_
  intro pg ev s mid args below meth cd s₁ B hml hv0
  obtain ⟨rfl, hV, hK⟩ := hv0
  have hx := B.exec
  have hb := B.bytes
  have hr := B.returns
  have hts := atoms_spec (ws := wsX4_isThere) B.pre
  have hown : s.vm.findClass RX4 = some mid.cls := findClass_of_methodNamed B.named
  have hlocks := B.notSynchronized
  have hi4 : ∀ w ∈ wsX40, w ∈ wsX4_isThere := by decide +kernel
  have k9 := hts (.fieldLink RX4 9 "PumpRosterModel$State" "house" "[I") (by decide +kernel)
  have hS : va_S (AV ad 6) s.heap s.heap [] := va_S.rf
  have hl := lv_entry ([.ref (ad 0), .int (nI h)]) (n := 2) (Nat.le_of_ble_eq_true rfl)
  rw [lg_entry_eq]
  generalize (lg_sl ([.ref (ad 0), .int (nI h)]) ++ List.replicate (2 - (lg_sl ([.ref (ad 0), .int (nI h)])).length) Slot.unset).toArray = ls at hl ⊢
  have hl : lv_has ls 2 [(0, .ref (ad 0)), (1, .int (nI h))] := hl
  refine lv_aload_n hx hb dX4_isThere_0 rfl (lv_at hl 0 rfl) ?_
  refine rSf 2 (j := 1) hx hb hts hi4 hown hK hV (by decide) rfl k9 dX4_isThere_1 ?_
  refine lv_bipush (v := 11) hx hb dX4_isThere_4 (by decide) ?_
  refine lv_iload_n hx hb dX4_isThere_6 rfl (lv_at hl 1 rfl) ?_
  refine lv_imul hx hb dX4_isThere_7 ?_
  refine lv_topi (fun y1 ey1 => ?_)
  obtain rfl : y1 = nI (11 * h) := ey1.trans (pk_mul 11 h)
  refine lv_bipush (v := 6) hx hb dX4_isThere_8 (by decide) ?_
  refine lv_iadd hx hb dX4_isThere_10 ?_
  refine lv_topi (fun y2 ey2 => ?_)
  obtain rfl : y2 = nI (11 * h + 6) := ey2.trans (nI_add (11 * h) 6)
  refine rSh (h := h) (f := 6) (v := τ 6 h) hx hb hK hV (by omega) (by omega) (by omega) hH rfl dX4_isThere_11 ?_
  refine lv_if_ne (tgt := 19) hx hb dX4_isThere_12 (by decide) (fun c12 => ?_) (fun c12 => ?_)
  · skip
    refine lv_iconst (v := 0) hx hb dX4_isThere_19 (by decide) ?_
    exact xZ hx hb hr hlocks hV hS ((if_neg c12).symm) rfl dX4_isThere_20
  · skip
    refine lv_iconst (v := 1) hx hb dX4_isThere_15 (by decide) ?_
    refine lv_goto (tgt := 20) hx hb dX4_isThere_16 (by decide) ?_
    exact xZ hx hb hr hlocks hV hS ((if_pos c12).symm) rfl dX4_isThere_20

set_option maxHeartbeats 4000000 in
set_option maxRecDepth 100000 in
theorem c_X4_needs (l : Launch) (G : wG) (ad : Nat → Nat) (hI : adInj ad 6) (nH nP : Nat) (hH : nH ≤ 10) (hP : nP ≤ 3) (δ τ : wS) (h : Nat) (hh : h < nH) : Met l yX4_needs wsX4_needs ({ frames := 1, cells := 0, slots := 0, locals := 21 } : Room) (Pc0 G [.ref (ad 0), .int (nI h)] (RVm G ad nH nP δ τ)) (Qi0 (if τ 6 h = 0 then ndF τ h else 0) (RVm G ad nH nP δ τ) (AV ad 6)) 0 0 (AV ad 6) := by
  refine Met.ofW (cc := cX4_needs) (maxL := 2) (ret := (some .int)) (by decide) rfl ?_
  intro pg ev s mid args below meth cd s₁ B hml hv0
  obtain ⟨rfl, hV, hK⟩ := hv0
  have hx := B.exec
  have hb := B.bytes
  have hr := B.returns
  have hts := atoms_spec (ws := wsX4_needs) B.pre
  have hown : s.vm.findClass RX4 = some mid.cls := findClass_of_methodNamed B.named
  have hlocks := B.notSynchronized
  have hi4 : ∀ w ∈ wsX40, w ∈ wsX4_needs := by decide +kernel
  have k9 := hts (.fieldLink RX4 9 "PumpRosterModel$State" "house" "[I") (by decide +kernel)
  have hS : va_S (AV ad 6) s.heap s.heap [] := va_S.rf
  have hl := lv_entry ([.ref (ad 0), .int (nI h)]) (n := 2) (Nat.le_of_ble_eq_true rfl)
  rw [lg_entry_eq]
  generalize (lg_sl ([.ref (ad 0), .int (nI h)]) ++ List.replicate (2 - (lg_sl ([.ref (ad 0), .int (nI h)])).length) Slot.unset).toArray = ls at hl ⊢
  have hl : lv_has ls 2 [(0, .ref (ad 0)), (1, .int (nI h))] := hl
  refine lv_aload_n hx hb dX4_needs_0 rfl (lv_at hl 0 rfl) ?_
  refine lv_iload_n hx hb dX4_needs_1 rfl (lv_at hl 1 rfl) ?_
  refine kI (va_runV (As := [.int (nI h)]) (rest := []) ⟨hx, hb, hml, hown, hts⟩ (c_X4_isThere l G ad hI nH nP hH hP δ τ h (by omega)) (cwV 1 hts gX4_needs_X4_isThere rfl rfl rfl (by decide +kernel) ⟨Nat.le_of_ble_eq_true rfl, Nat.le_of_ble_eq_true rfl⟩) ⟨Pc0.blind, va_recv hK (va_P1 (hV.1)) (ci := 4) (q0 := 0) rfl rfl, Pc0.pre hV hK⟩ rfl rfl hl.1 rfl (lv_room (Nat.le_of_ble_eq_true rfl)) dX4_needs_2 ⟨Nat.zero_le _, Nat.zero_le _⟩) hS (fun _ _ q => q) (fun _ q => q) (fun H locs hV _ _ hS => ?_)
  refine lv_if_eq (tgt := 22) hx hb dX4_needs_5 (by decide) (fun c5 => ?_) (fun c5 => ?_)
  · skip
    replace c5 := b0 c5
    refine lv_iconst (v := 0) hx hb dX4_needs_22 (by decide) ?_
    exact xI hx hb hr hlocks hV hS ((if_neg c5).symm) dX4_needs_23
  · skip
    replace c5 := b1 c5
    refine lv_iconst (v := 2) hx hb dX4_needs_8 (by decide) ?_
    refine lv_aload_n hx hb dX4_needs_9 rfl (lv_at hl 0 rfl) ?_
    refine rSf 2 (j := 1) hx hb hts hi4 hown hK hV (by decide) rfl k9 dX4_needs_10 ?_
    refine lv_bipush (v := 11) hx hb dX4_needs_13 (by decide) ?_
    refine lv_iload_n hx hb dX4_needs_15 rfl (lv_at hl 1 rfl) ?_
    refine lv_imul hx hb dX4_needs_16 ?_
    refine lv_topi (fun y1 ey1 => ?_)
    obtain rfl : y1 = nI (11 * h) := ey1.trans (pk_mul 11 h)
    refine rSh (h := h) (f := 0) (v := τ 0 h) hx hb hK hV (by omega) (by omega) (by omega) hH rfl dX4_needs_17 ?_
    refine lv_iadd hx hb dX4_needs_18 ?_
    refine lv_goto (tgt := 23) hx hb dX4_needs_19 (by decide) ?_
    exact xI hx hb hr hlocks hV hS ((if_pos c5).symm) dX4_needs_23

set_option maxHeartbeats 4000000 in
set_option maxRecDepth 100000 in
theorem c_X4_over (l : Launch) (G : wG) (ad : Nat → Nat) (hI : adInj ad 6) (nH nP : Nat) (hH : nH ≤ 10) (hP : nP ≤ 3) (δ τ : wS) (k : Nat) (hv : Inv nH nP τ) (hk : k ≤ 10) : Met l yX4_over wsX4_over ({ frames := 0, cells := 0, slots := 0, locals := 0 } : Room) (Pc0 G [.ref (ad 0), .int (nI k)] (RVm G ad nH nP δ τ)) (Qi0 (sm (fun h => τ k h) nH) (RVm G ad nH nP δ τ) (AV ad 6)) 0 0 (AV ad 6) := by
  refine Met.ofW (cc := cX4_over) (maxL := 4) (ret := (some .int)) (by decide) rfl ?_
  intro pg ev s mid args below meth cd s₁ B hml hv0
  obtain ⟨rfl, hV, hK⟩ := hv0
  have hx := B.exec
  have hb := B.bytes
  have hr := B.returns
  have hts := atoms_spec (ws := wsX4_over) B.pre
  have hown : s.vm.findClass RX4 = some mid.cls := findClass_of_methodNamed B.named
  have hlocks := B.notSynchronized
  have hi4 : ∀ w ∈ wsX40, w ∈ wsX4_over := by decide +kernel
  have k32 := hts (.fieldLink RX4 32 "PumpRosterModel$State" "houses" "I") (by decide +kernel)
  have k9 := hts (.fieldLink RX4 9 "PumpRosterModel$State" "house" "[I") (by decide +kernel)
  have hS : va_S (AV ad 6) s.heap s.heap [] := va_S.rf
  have hl := lv_entry ([.ref (ad 0), .int (nI k)]) (n := 4) (Nat.le_of_ble_eq_true rfl)
  rw [lg_entry_eq]
  generalize (lg_sl ([.ref (ad 0), .int (nI k)]) ++ List.replicate (4 - (lg_sl ([.ref (ad 0), .int (nI k)])).length) Slot.unset).toArray = ls at hl ⊢
  have hl : lv_has ls 4 [(0, .ref (ad 0)), (1, .int (nI k))] := hl
  refine lv_iconst (v := 0) hx hb dX4_over_0 (by decide) ?_
  refine lv_istore_n (lv' := [(2, .int 0), (0, .ref (ad 0)), (1, .int (nI k))]) hx hb dX4_over_1 rfl hl (by decide) rfl (fun ls hl => ?_)
  refine lv_iconst (v := nI 0) hx hb dX4_over_2 (by decide) ?_
  refine lv_istore_n (lv' := [(3, .int (nI 0)), (2, .int 0), (0, .ref (ad 0)), (1, .int (nI k))]) hx hb dX4_over_3 rfl hl (by decide) rfl (fun ls hl => ?_)
  refine W_up nH (fun i H locs ls => RVm G ad nH nP δ τ H ∧ va_S (AV ad 6) s.heap H locs ∧ lv_has ls 4 [(0, .ref (ad 0)), (1, .int (nI k)), (2, .int (sm (fun h => τ k h) i)), (3, .int (nI i))]) ?_ 0 (by omega) _ _ _ ⟨hV, hS, lv_sub hl [2, 3, 1, 0] rfl⟩
  intro i H locs ls hi ⟨hV, hS, hl⟩ ih
  refine lv_iload_n hx hb dX4_over_4 rfl (lv_at hl 3 rfl) ?_
  refine lv_aload_n hx hb dX4_over_5 rfl (lv_at hl 0 rfl) ?_
  refine rSi 1 (f := 51) (v := nI nH) hx hb hts hi4 hown hK hV (by decide) rfl hv.2.2.1 k32 dX4_over_6 ?_
  refine lv_icmp_ge (tgt := 32) hx hb dX4_over_9 (by decide) (fun c9 => ?_) (fun c9 => ?_)
  · skip
    replace c9 := (nI_leI (a := nH) (b := i) (by omega) (by omega)).mp c9
    obtain rfl : nH = i := by omega
    refine lv_iload_n hx hb dX4_over_32 rfl (lv_at hl 2 rfl) ?_
    exact xI hx hb hr hlocks hV hS rfl dX4_over_33
  · skip
    replace c9 : ¬ (nH ≤ i) := fun q => c9 ((nI_leI (a := nH) (b := i) (by omega) (by omega)).mpr q)
    refine lv_iload_n hx hb dX4_over_12 rfl (lv_at hl 2 rfl) ?_
    refine lv_aload_n hx hb dX4_over_13 rfl (lv_at hl 0 rfl) ?_
    refine rSf 2 (j := 1) hx hb hts hi4 hown hK hV (by decide) rfl k9 dX4_over_14 ?_
    refine lv_bipush (v := 11) hx hb dX4_over_17 (by decide) ?_
    refine lv_iload_n hx hb dX4_over_19 rfl (lv_at hl 3 rfl) ?_
    refine lv_imul hx hb dX4_over_20 ?_
    refine lv_topi (fun y1 ey1 => ?_)
    obtain rfl : y1 = nI (11 * i) := ey1.trans (pk_mul 11 i)
    refine lv_iload_n hx hb dX4_over_21 rfl (lv_at hl 1 rfl) ?_
    refine lv_iadd hx hb dX4_over_22 ?_
    refine lv_topi (fun y2 ey2 => ?_)
    obtain rfl : y2 = nI (11 * i + k) := ey2.trans (nI_add (11 * i) k)
    refine rSh (h := i) (f := k) (v := τ k i) hx hb hK hV (by omega) (by omega) (by omega) hH rfl dX4_over_23 ?_
    refine lv_iadd hx hb dX4_over_24 ?_
    refine lv_istore_n (lv' := [(2, .int ((sm (fun h => τ k h) i) + (τ k i))), (0, .ref (ad 0)), (1, .int (nI k)), (3, .int (nI i))]) hx hb dX4_over_25 rfl hl (by decide) rfl (fun ls hl => ?_)
    refine lv_iinc (k := 3) (v := nI (i + 1)) (lv' := [(3, .int (nI (i + 1))), (2, .int ((sm (fun h => τ k h) i) + (τ k i))), (0, .ref (ad 0)), (1, .int (nI k))]) hx hb dX4_over_26 hl rfl (nI_add i 1) (by decide) rfl (fun ls hl => ?_)
    refine lv_goto (tgt := 4) hx hb dX4_over_29 (by decide) ?_
    exact ih (by omega) _ _ _ ⟨hV, hS, lv_sub hl [2, 3, 1, 0] rfl⟩

set_option maxHeartbeats 4000000 in
set_option maxRecDepth 100000 in
theorem c_X4_broken (l : Launch) (G : wG) (ad : Nat → Nat) (hI : adInj ad 6) (nH nP : Nat) (hH : nH ≤ 10) (hP : nP ≤ 3) (δ τ : wS)  (hv : Inv nH nP τ) : Met l yX4_broken wsX4_broken ({ frames := 0, cells := 0, slots := 0, locals := 0 } : Room) (Pc0 G [.ref (ad 0)] (RVm G ad nH nP δ τ)) (Qi0 (sm (fun h => if τ 23 h = 0 then 0 else 1) nP) (RVm G ad nH nP δ τ) (AV ad 6)) 0 0 (AV ad 6) := by
  refine Met.ofW (cc := cX4_broken) (maxL := 3) (ret := (some .int)) (by decide) rfl ?_
  intro pg ev s mid args below meth cd s₁ B hml hv0
  obtain ⟨rfl, hV, hK⟩ := hv0
  have hx := B.exec
  have hb := B.bytes
  have hr := B.returns
  have hts := atoms_spec (ws := wsX4_broken) B.pre
  have hown : s.vm.findClass RX4 = some mid.cls := findClass_of_methodNamed B.named
  have hlocks := B.notSynchronized
  have hi4 : ∀ w ∈ wsX40, w ∈ wsX4_broken := by decide +kernel
  have k35 := hts (.fieldLink RX4 35 "PumpRosterModel$State" "pumps" "I") (by decide +kernel)
  have k15 := hts (.fieldLink RX4 15 "PumpRosterModel$State" "pump" "[I") (by decide +kernel)
  have hS : va_S (AV ad 6) s.heap s.heap [] := va_S.rf
  have hl := lv_entry ([.ref (ad 0)]) (n := 3) (Nat.le_of_ble_eq_true rfl)
  rw [lg_entry_eq]
  generalize (lg_sl ([.ref (ad 0)]) ++ List.replicate (3 - (lg_sl ([.ref (ad 0)])).length) Slot.unset).toArray = ls at hl ⊢
  have hl : lv_has ls 3 [(0, .ref (ad 0))] := hl
  refine lv_iconst (v := 0) hx hb dX4_broken_0 (by decide) ?_
  refine lv_istore_n (lv' := [(1, .int 0), (0, .ref (ad 0))]) hx hb dX4_broken_1 rfl hl (by decide) rfl (fun ls hl => ?_)
  refine lv_iconst (v := nI 0) hx hb dX4_broken_2 (by decide) ?_
  refine lv_istore_n (lv' := [(2, .int (nI 0)), (1, .int 0), (0, .ref (ad 0))]) hx hb dX4_broken_3 rfl hl (by decide) rfl (fun ls hl => ?_)
  refine W_up nP (fun i H locs ls => RVm G ad nH nP δ τ H ∧ va_S (AV ad 6) s.heap H locs ∧ lv_has ls 3 [(0, .ref (ad 0)), (1, .int (sm (fun h => if τ 23 h = 0 then 0 else 1) i)), (2, .int (nI i))]) ?_ 0 (by omega) _ _ _ ⟨hV, hS, lv_sub hl [2, 1, 0] rfl⟩
  intro i H locs ls hi ⟨hV, hS, hl⟩ ih
  refine lv_iload_n hx hb dX4_broken_4 rfl (lv_at hl 2 rfl) ?_
  refine lv_aload_n hx hb dX4_broken_5 rfl (lv_at hl 0 rfl) ?_
  refine rSi 3 (f := 52) (v := nI nP) hx hb hts hi4 hown hK hV (by decide) rfl hv.2.2.2.1 k35 dX4_broken_6 ?_
  refine lv_icmp_ge (tgt := 32) hx hb dX4_broken_9 (by decide) (fun c9 => ?_) (fun c9 => ?_)
  · skip
    replace c9 := (nI_leI (a := nP) (b := i) (by omega) (by omega)).mp c9
    obtain rfl : nP = i := by omega
    refine lv_iload_n hx hb dX4_broken_32 rfl (lv_at hl 1 rfl) ?_
    exact xI hx hb hr hlocks hV hS rfl dX4_broken_33
  · skip
    replace c9 : ¬ (nP ≤ i) := fun q => c9 ((nI_leI (a := nP) (b := i) (by omega) (by omega)).mpr q)
    refine lv_iload_n hx hb dX4_broken_12 rfl (lv_at hl 1 rfl) ?_
    refine lv_aload_n hx hb dX4_broken_13 rfl (lv_at hl 0 rfl) ?_
    refine rSf 4 (j := 2) hx hb hts hi4 hown hK hV (by decide) rfl k15 dX4_broken_14 ?_
    refine lv_bipush (v := 11) hx hb dX4_broken_17 (by decide) ?_
    refine lv_iload_n hx hb dX4_broken_19 rfl (lv_at hl 2 rfl) ?_
    refine lv_imul hx hb dX4_broken_20 ?_
    refine lv_topi (fun y1 ey1 => ?_)
    obtain rfl : y1 = nI (11 * i) := ey1.trans (pk_mul 11 i)
    refine lv_iconst (v := 3) hx hb dX4_broken_21 (by decide) ?_
    refine lv_iadd hx hb dX4_broken_22 ?_
    refine lv_topi (fun y2 ey2 => ?_)
    obtain rfl : y2 = nI (11 * i + 3) := ey2.trans (nI_add (11 * i) 3)
    refine rSp (h := i) (f := 3) (g := 23) (v := if τ 23 i = 0 then 0 else 1) hx hb hK hV (by omega) (by omega) (by omega) (by omega) hP (b01 (hv.2.2.2.2.2 i (by omega)).1) dX4_broken_23 ?_
    refine lv_iadd hx hb dX4_broken_24 ?_
    refine lv_istore_n (lv' := [(1, .int ((sm (fun h => if τ 23 h = 0 then 0 else 1) i) + (if τ 23 i = 0 then 0 else 1))), (0, .ref (ad 0)), (2, .int (nI i))]) hx hb dX4_broken_25 rfl hl (by decide) rfl (fun ls hl => ?_)
    refine lv_iinc (k := 2) (v := nI (i + 1)) (lv' := [(2, .int (nI (i + 1))), (1, .int ((sm (fun h => if τ 23 h = 0 then 0 else 1) i) + (if τ 23 i = 0 then 0 else 1))), (0, .ref (ad 0))]) hx hb dX4_broken_26 hl rfl (nI_add i 1) (by decide) rfl (fun ls hl => ?_)
    refine lv_goto (tgt := 4) hx hb dX4_broken_29 (by decide) ?_
    exact ih (by omega) _ _ _ ⟨hV, hS, lv_sub hl [2, 1, 0] rfl⟩

set_option maxHeartbeats 4000000 in
set_option maxRecDepth 100000 in
theorem c_X4_placeOf (l : Launch) (G : wG) (ad : Nat → Nat) (hI : adInj ad 6) (nH nP : Nat) (hH : nH ≤ 10) (hP : nP ≤ 3) (δ τ : wS) (p n : Nat) (x : Int32) (hp : p < nP) (hs : τ 26 p = nI n) (hn : n ≤ 10) : Met l yX4_placeOf wsX4_placeOf ({ frames := 0, cells := 0, slots := 0, locals := 0 } : Room) (Pc0 G [.ref (ad 0), .int (nI p), .int x] (RVm G ad nH nP δ τ)) (Qi0 (plI (plc (τ (40 + p)) x n) n) (RVm G ad nH nP δ τ) (AV ad 6)) 0 0 (AV ad 6) := by
  refine Met.ofW (cc := cX4_placeOf) (maxL := 4) (ret := (some .int)) (by decide) rfl ?_
  intro pg ev s mid args below meth cd s₁ B hml hv0
  obtain ⟨rfl, hV, hK⟩ := hv0
  have hx := B.exec
  have hb := B.bytes
  have hr := B.returns
  have hts := atoms_spec (ws := wsX4_placeOf) B.pre
  have hown : s.vm.findClass RX4 = some mid.cls := findClass_of_methodNamed B.named
  have hlocks := B.notSynchronized
  have hi4 : ∀ w ∈ wsX40, w ∈ wsX4_placeOf := by decide +kernel
  have k15 := hts (.fieldLink RX4 15 "PumpRosterModel$State" "pump" "[I") (by decide +kernel)
  have k18 := hts (.fieldLink RX4 18 "PumpRosterModel$State" "roster" "[I") (by decide +kernel)
  have hS : va_S (AV ad 6) s.heap s.heap [] := va_S.rf
  have hl := lv_entry ([.ref (ad 0), .int (nI p), .int x]) (n := 4) (Nat.le_of_ble_eq_true rfl)
  rw [lg_entry_eq]
  generalize (lg_sl ([.ref (ad 0), .int (nI p), .int x]) ++ List.replicate (4 - (lg_sl ([.ref (ad 0), .int (nI p), .int x])).length) Slot.unset).toArray = ls at hl ⊢
  have hl : lv_has ls 4 [(0, .ref (ad 0)), (1, .int (nI p)), (2, .int x)] := hl
  refine lv_iconst (v := nI 0) hx hb dX4_placeOf_0 (by decide) ?_
  refine lv_istore_n (lv' := [(3, .int (nI 0)), (0, .ref (ad 0)), (1, .int (nI p)), (2, .int x)]) hx hb dX4_placeOf_1 rfl hl (by decide) rfl (fun ls hl => ?_)
  refine W_up n (fun i H locs ls => RVm G ad nH nP δ τ H ∧ va_S (AV ad 6) s.heap H locs ∧ lv_has ls 4 [(0, .ref (ad 0)), (1, .int (nI p)), (2, .int x), (3, .int (nI i))] ∧ (∀ j, j < i → ¬ τ (40 + p) j = x)) ?_ 0 (by omega) _ _ _ ⟨hV, hS, lv_sub hl [1, 2, 3, 0] rfl, (fun j hj => absurd hj (by omega))⟩
  intro i H locs ls hi ⟨hV, hS, hl, hx0⟩ ih
  refine lv_iload_n hx hb dX4_placeOf_2 rfl (lv_at hl 3 rfl) ?_
  refine lv_aload_n hx hb dX4_placeOf_3 rfl (lv_at hl 0 rfl) ?_
  refine rSf 4 (j := 2) hx hb hts hi4 hown hK hV (by decide) rfl k15 dX4_placeOf_4 ?_
  refine lv_bipush (v := 11) hx hb dX4_placeOf_7 (by decide) ?_
  refine lv_iload_n hx hb dX4_placeOf_9 rfl (lv_at hl 1 rfl) ?_
  refine lv_imul hx hb dX4_placeOf_10 ?_
  refine lv_topi (fun y1 ey1 => ?_)
  obtain rfl : y1 = nI (11 * p) := ey1.trans (pk_mul 11 p)
  refine lv_bipush (v := 6) hx hb dX4_placeOf_11 (by decide) ?_
  refine lv_iadd hx hb dX4_placeOf_13 ?_
  refine lv_topi (fun y2 ey2 => ?_)
  obtain rfl : y2 = nI (11 * p + 6) := ey2.trans (nI_add (11 * p) 6)
  refine rSp (h := p) (f := 6) (g := 26) (v := nI n) hx hb hK hV (by omega) (by omega) (by omega) (by omega) hP hs dX4_placeOf_14 ?_
  refine lv_icmp_ge (tgt := 41) hx hb dX4_placeOf_15 (by decide) (fun c15 => ?_) (fun c15 => ?_)
  · skip
    replace c15 := (nI_leI (a := n) (b := i) (by omega) (by omega)).mp c15
    refine lv_iconst (v := (-1)) hx hb dX4_placeOf_41 (by decide) ?_
    exact xI hx hb hr hlocks hV hS ((plc_none (fun j hj => hx0 j (by omega))).symm) dX4_placeOf_42
  · skip
    replace c15 : ¬ (n ≤ i) := fun q => c15 ((nI_leI (a := n) (b := i) (by omega) (by omega)).mpr q)
    refine lv_aload_n hx hb dX4_placeOf_18 rfl (lv_at hl 0 rfl) ?_
    refine rSf 5 (j := 3) hx hb hts hi4 hown hK hV (by decide) rfl k18 dX4_placeOf_19 ?_
    refine lv_bipush (v := 10) hx hb dX4_placeOf_22 (by decide) ?_
    refine lv_iload_n hx hb dX4_placeOf_24 rfl (lv_at hl 1 rfl) ?_
    refine lv_imul hx hb dX4_placeOf_25 ?_
    refine lv_topi (fun y3 ey3 => ?_)
    obtain rfl : y3 = nI (10 * p) := ey3.trans (pk_mul 10 p)
    refine lv_iload_n hx hb dX4_placeOf_26 rfl (lv_at hl 3 rfl) ?_
    refine lv_iadd hx hb dX4_placeOf_27 ?_
    refine lv_topi (fun y4 ey4 => ?_)
    obtain rfl : y4 = nI (10 * p + i) := ey4.trans (nI_add (10 * p) i)
    refine rSq (h := p) (k := i) (v := τ (40 + p) i) hx hb hK hV (by omega) (by omega) (by omega) hP rfl dX4_placeOf_28 ?_
    refine lv_iload_n hx hb dX4_placeOf_29 rfl (lv_at hl 2 rfl) ?_
    refine lv_icmp_ne (tgt := 35) hx hb dX4_placeOf_30 (by decide) (fun c30 => ?_) (fun c30 => ?_)
    · skip
      refine lv_iinc (k := 3) (v := nI (i + 1)) (lv' := [(3, .int (nI (i + 1))), (0, .ref (ad 0)), (1, .int (nI p)), (2, .int x)]) hx hb dX4_placeOf_35 hl rfl (nI_add i 1) (by decide) rfl (fun ls hl => ?_)
      refine lv_goto (tgt := 2) hx hb dX4_placeOf_38 (by decide) ?_
      exact ih (by omega) _ _ _ ⟨hV, hS, lv_sub hl [1, 2, 3, 0] rfl, (fun j hj => by
                rcases Nat.lt_or_ge j i with q | q
                · exact hx0 j q
                · have e : j = i := by omega
                  rw [e]; exact c30)⟩
    · skip
      refine lv_iload_n hx hb dX4_placeOf_33 rfl (lv_at hl 3 rfl) ?_
      exact xI hx hb hr hlocks hV hS ((plc_hit (by omega) c30 hx0).symm) dX4_placeOf_34

set_option maxHeartbeats 4000000 in
set_option maxRecDepth 100000 in
theorem c_X4_strike (l : Launch) (G : wG) (ad : Nat → Nat) (hI : adInj ad 6) (nH nP : Nat) (hH : nH ≤ 10) (hP : nP ≤ 3) (δ τ : wS) (p n t g : Nat) (hp : p < nP) (hs : τ 26 p = nI n) (hn : n ≤ 10) (ht : τ 27 p = nI t) (htn : t ≤ 10) (hg : g < n) : Met l yX4_strike wsX4_strike ({ frames := 0, cells := 0, slots := 0, locals := 0 } : Room) (Pc0 G [.ref (ad 0), .int (nI p), .int (nI g)] (RVm G ad nH nP δ τ)) (Qv0 (RVm G ad nH nP δ (strkF p g τ)) (AV ad 6)) 0 0 (AV ad 6) := by
  refine Met.ofW (cc := cX4_strike) (maxL := 5) (ret := none) (by decide) rfl ?_
  intro pg ev s mid args below meth cd s₁ B hml hv0
  obtain ⟨rfl, hV, hK⟩ := hv0
  have hx := B.exec
  have hb := B.bytes
  have hr := B.returns
  have hts := atoms_spec (ws := wsX4_strike) B.pre
  have hown : s.vm.findClass RX4 = some mid.cls := findClass_of_methodNamed B.named
  have hlocks := B.notSynchronized
  have hi4 : ∀ w ∈ wsX40, w ∈ wsX4_strike := by decide +kernel
  have k15 := hts (.fieldLink RX4 15 "PumpRosterModel$State" "pump" "[I") (by decide +kernel)
  have k18 := hts (.fieldLink RX4 18 "PumpRosterModel$State" "roster" "[I") (by decide +kernel)
  have hS : va_S (AV ad 6) s.heap s.heap [] := va_S.rf
  have hl := lv_entry ([.ref (ad 0), .int (nI p), .int (nI g)]) (n := 5) (Nat.le_of_ble_eq_true rfl)
  rw [lg_entry_eq]
  generalize (lg_sl ([.ref (ad 0), .int (nI p), .int (nI g)]) ++ List.replicate (5 - (lg_sl ([.ref (ad 0), .int (nI p), .int (nI g)])).length) Slot.unset).toArray = ls at hl ⊢
  have hl : lv_has ls 5 [(0, .ref (ad 0)), (1, .int (nI p)), (2, .int (nI g))] := hl
  refine lv_bipush (v := 11) hx hb dX4_strike_0 (by decide) ?_
  refine lv_iload_n hx hb dX4_strike_2 rfl (lv_at hl 1 rfl) ?_
  refine lv_imul hx hb dX4_strike_3 ?_
  refine lv_topi (fun y1 ey1 => ?_)
  obtain rfl : y1 = nI (11 * p) := ey1.trans (pk_mul 11 p)
  refine lv_istore_n (lv' := [(3, .int (nI (11 * p))), (0, .ref (ad 0)), (1, .int (nI p)), (2, .int (nI g))]) hx hb dX4_strike_4 rfl hl (by decide) rfl (fun ls hl => ?_)
  refine lv_aload_n hx hb dX4_strike_5 rfl (lv_at hl 1 rfl) ?_
  refine rSf 4 (j := 2) hx hb hts hi4 hown hK hV (by decide) rfl k15 dX4_strike_6 ?_
  refine lv_iload_n hx hb dX4_strike_9 rfl (lv_at hl 0 rfl) ?_
  refine lv_bipush (v := 6) hx hb dX4_strike_10 (by decide) ?_
  refine lv_iadd hx hb dX4_strike_12 ?_
  refine lv_topi (fun y2 ey2 => ?_)
  obtain rfl : y2 = nI (11 * p + 6) := ey2.trans (nI_add (11 * p) 6)
  refine lv_dup2_11 hx hb dX4_strike_13 rfl rfl ?_
  refine rSp (h := p) (f := 6) (g := 26) (v := nI n) hx hb hK hV (by omega) (by omega) (by omega) (by omega) hP hs dX4_strike_14 ?_
  refine lv_iconst (v := 1) hx hb dX4_strike_15 (by decide) ?_
  refine lv_isub hx hb dX4_strike_16 ?_
  refine lv_topi (fun y3 ey3 => ?_)
  obtain rfl : y3 = nI (n - 1) := ey3.trans (pk_sub (a := n) (b := 1) (by omega))
  refine wSp (h := p) (f := 6) (g := 26) hx hb hK hI hV hS (fun _ q => q) (by omega) (by omega) (by omega) (by omega) hP dX4_strike_17 (fun H locs hV _ hS => ?_)
  refine lv_iload_n hx hb dX4_strike_18 rfl (lv_at hl 3 rfl) ?_
  refine lv_istore (lv' := [(4, .int (nI g)), (3, .int (nI (11 * p))), (0, .ref (ad 0)), (1, .int (nI p)), (2, .int (nI g))]) hx hb dX4_strike_19 hl (by decide) rfl (fun ls hl => ?_)
  refine W_up (n - 1) (fun i H locs ls => RVm G ad nH nP δ (shF p g i (wst τ 26 p (nI (n - 1)))) H ∧ va_S (AV ad 6) s.heap H locs ∧ lv_has ls 5 [(0, .ref (ad 0)), (1, .int (nI p)), (2, .int (nI g)), (3, .int (nI (11 * p))), (4, .int (nI i))] ∧ (g ≤ i)) ?_ g (by omega) _ _ _ ⟨(by rw [shF_0]; exact hV), hS, lv_sub hl [2, 3, 4, 1, 0] rfl, (Nat.le_refl g)⟩
  intro i H locs ls hi ⟨hV, hS, hl, hx0⟩ ih
  refine lv_iload hx hb dX4_strike_21 (lv_at hl 4 rfl) ?_
  refine lv_aload_n hx hb dX4_strike_23 rfl (lv_at hl 0 rfl) ?_
  refine rSf 4 (j := 2) hx hb hts hi4 hown hK hV (by decide) rfl k15 dX4_strike_24 ?_
  refine lv_iload_n hx hb dX4_strike_27 rfl (lv_at hl 3 rfl) ?_
  refine lv_bipush (v := 6) hx hb dX4_strike_28 (by decide) ?_
  refine lv_iadd hx hb dX4_strike_30 ?_
  refine lv_topi (fun y4 ey4 => ?_)
  obtain rfl : y4 = nI (11 * p + 6) := ey4.trans (nI_add (11 * p) 6)
  refine rSp (h := p) (f := 6) (g := 26) (v := nI (n - 1)) hx hb hK hV (by omega) (by omega) (by omega) (by omega) hP ((shF_o (by omega)).trans wst_s) dX4_strike_31 ?_
  refine lv_icmp_ge (tgt := 67) hx hb dX4_strike_32 (by decide) (fun c32 => ?_) (fun c32 => ?_)
  · skip
    replace c32 := (nI_leI (a := n - 1) (b := i) (by omega) (by omega)).mp c32
    obtain rfl : i = n - 1 := by omega
    rw [shF_wst (by omega)] at hV
    refine lv_aload_n hx hb dX4_strike_67 rfl (lv_at hl 0 rfl) ?_
    refine rSf 4 (j := 2) hx hb hts hi4 hown hK hV (by decide) rfl k15 dX4_strike_68 ?_
    refine lv_iload_n hx hb dX4_strike_71 rfl (lv_at hl 3 rfl) ?_
    refine lv_bipush (v := 7) hx hb dX4_strike_72 (by decide) ?_
    refine lv_iadd hx hb dX4_strike_74 ?_
    refine lv_topi (fun y5 ey5 => ?_)
    obtain rfl : y5 = nI (11 * p + 7) := ey5.trans (nI_add (11 * p) 7)
    refine rSp (h := p) (f := 7) (g := 27) (v := nI t) hx hb hK hV (by omega) (by omega) (by omega) (by omega) hP ((wst_f (by decide)).trans ((shF_o (by omega)).trans ht)) dX4_strike_75 ?_
    refine lv_iload_n hx hb dX4_strike_76 rfl (lv_at hl 2 rfl) ?_
    refine lv_icmp_le (tgt := 93) hx hb dX4_strike_77 (by decide) (fun c77 => ?_) (fun c77 => ?_)
    · skip
      replace c77 := (nI_leI (a := t) (b := g) (by omega) (by omega)).mp c77
      refine lv_aload_n hx hb dX4_strike_93 rfl (lv_at hl 0 rfl) ?_
      refine rSf 4 (j := 2) hx hb hts hi4 hown hK hV (by decide) rfl k15 dX4_strike_94 ?_
      refine lv_iload_n hx hb dX4_strike_97 rfl (lv_at hl 3 rfl) ?_
      refine lv_bipush (v := 7) hx hb dX4_strike_98 (by decide) ?_
      refine lv_iadd hx hb dX4_strike_100 ?_
      refine lv_topi (fun y6 ey6 => ?_)
      obtain rfl : y6 = nI (11 * p + 7) := ey6.trans (nI_add (11 * p) 7)
      refine rSp (h := p) (f := 7) (g := 27) (v := nI t) hx hb hK hV (by omega) (by omega) (by omega) (by omega) hP ((wst_f (by decide)).trans ((shF_o (by omega)).trans ht)) dX4_strike_101 ?_
      refine lv_aload_n hx hb dX4_strike_102 rfl (lv_at hl 0 rfl) ?_
      refine rSf 4 (j := 2) hx hb hts hi4 hown hK hV (by decide) rfl k15 dX4_strike_103 ?_
      refine lv_iload_n hx hb dX4_strike_106 rfl (lv_at hl 3 rfl) ?_
      refine lv_bipush (v := 6) hx hb dX4_strike_107 (by decide) ?_
      refine lv_iadd hx hb dX4_strike_109 ?_
      refine lv_topi (fun y7 ey7 => ?_)
      obtain rfl : y7 = nI (11 * p + 6) := ey7.trans (nI_add (11 * p) 6)
      refine rSp (h := p) (f := 6) (g := 26) (v := nI (n - 1)) hx hb hK hV (by omega) (by omega) (by omega) (by omega) hP wst_s dX4_strike_110 ?_
      refine lv_icmp_lt (tgt := 124) hx hb dX4_strike_111 (by decide) (fun c111 => ?_) (fun c111 => ?_)
      · skip
        replace c111 := (nI_ltI (a := t) (b := n - 1) (by omega) (by omega)).mp c111
        exact xV hx hb hr hlocks (by rw [strkF_eq hs ht hn htn, show strT g t n = t from by unfold strT; (repeat' split) <;> omega, wst_self (by rw [wst_f (by decide), shF_o (by omega)]; exact ht)]; exact hV) hS dX4_strike_124
      · skip
        replace c111 : ¬ (t < n - 1) := fun q => c111 ((nI_ltI (a := t) (b := n - 1) (by omega) (by omega)).mpr q)
        refine lv_aload_n hx hb dX4_strike_114 rfl (lv_at hl 0 rfl) ?_
        refine rSf 4 (j := 2) hx hb hts hi4 hown hK hV (by decide) rfl k15 dX4_strike_115 ?_
        refine lv_iload_n hx hb dX4_strike_118 rfl (lv_at hl 3 rfl) ?_
        refine lv_bipush (v := 7) hx hb dX4_strike_119 (by decide) ?_
        refine lv_iadd hx hb dX4_strike_121 ?_
        refine lv_topi (fun y8 ey8 => ?_)
        obtain rfl : y8 = nI (11 * p + 7) := ey8.trans (nI_add (11 * p) 7)
        refine lv_iconst (v := nI 0) hx hb dX4_strike_122 (by decide) ?_
        refine wSp (h := p) (f := 7) (g := 27) hx hb hK hI hV hS (fun _ q => q) (by omega) (by omega) (by omega) (by omega) hP dX4_strike_123 (fun H locs hV _ hS => ?_)
        exact xV hx hb hr hlocks (by rw [strkF_eq hs ht hn htn, show strT g t n = 0 from by unfold strT; (repeat' split) <;> omega]; exact hV) hS dX4_strike_124
    · skip
      replace c77 : ¬ (t ≤ g) := fun q => c77 ((nI_leI (a := t) (b := g) (by omega) (by omega)).mpr q)
      refine lv_aload_n hx hb dX4_strike_80 rfl (lv_at hl 0 rfl) ?_
      refine rSf 4 (j := 2) hx hb hts hi4 hown hK hV (by decide) rfl k15 dX4_strike_81 ?_
      refine lv_iload_n hx hb dX4_strike_84 rfl (lv_at hl 3 rfl) ?_
      refine lv_bipush (v := 7) hx hb dX4_strike_85 (by decide) ?_
      refine lv_iadd hx hb dX4_strike_87 ?_
      refine lv_topi (fun y9 ey9 => ?_)
      obtain rfl : y9 = nI (11 * p + 7) := ey9.trans (nI_add (11 * p) 7)
      refine lv_dup2_11 hx hb dX4_strike_88 rfl rfl ?_
      refine rSp (h := p) (f := 7) (g := 27) (v := nI t) hx hb hK hV (by omega) (by omega) (by omega) (by omega) hP ((wst_f (by decide)).trans ((shF_o (by omega)).trans ht)) dX4_strike_89 ?_
      refine lv_iconst (v := 1) hx hb dX4_strike_90 (by decide) ?_
      refine lv_isub hx hb dX4_strike_91 ?_
      refine lv_topi (fun y10 ey10 => ?_)
      obtain rfl : y10 = nI (t - 1) := ey10.trans (pk_sub (a := t) (b := 1) (by omega))
      refine wSp (h := p) (f := 7) (g := 27) hx hb hK hI hV hS (fun _ q => q) (by omega) (by omega) (by omega) (by omega) hP dX4_strike_92 (fun H locs hV _ hS => ?_)
      refine lv_aload_n hx hb dX4_strike_93 rfl (lv_at hl 0 rfl) ?_
      refine rSf 4 (j := 2) hx hb hts hi4 hown hK hV (by decide) rfl k15 dX4_strike_94 ?_
      refine lv_iload_n hx hb dX4_strike_97 rfl (lv_at hl 3 rfl) ?_
      refine lv_bipush (v := 7) hx hb dX4_strike_98 (by decide) ?_
      refine lv_iadd hx hb dX4_strike_100 ?_
      refine lv_topi (fun y11 ey11 => ?_)
      obtain rfl : y11 = nI (11 * p + 7) := ey11.trans (nI_add (11 * p) 7)
      refine rSp (h := p) (f := 7) (g := 27) (v := nI (t - 1)) hx hb hK hV (by omega) (by omega) (by omega) (by omega) hP wst_s dX4_strike_101 ?_
      refine lv_aload_n hx hb dX4_strike_102 rfl (lv_at hl 0 rfl) ?_
      refine rSf 4 (j := 2) hx hb hts hi4 hown hK hV (by decide) rfl k15 dX4_strike_103 ?_
      refine lv_iload_n hx hb dX4_strike_106 rfl (lv_at hl 3 rfl) ?_
      refine lv_bipush (v := 6) hx hb dX4_strike_107 (by decide) ?_
      refine lv_iadd hx hb dX4_strike_109 ?_
      refine lv_topi (fun y12 ey12 => ?_)
      obtain rfl : y12 = nI (11 * p + 6) := ey12.trans (nI_add (11 * p) 6)
      refine rSp (h := p) (f := 6) (g := 26) (v := nI (n - 1)) hx hb hK hV (by omega) (by omega) (by omega) (by omega) hP ((wst_f (by decide)).trans wst_s) dX4_strike_110 ?_
      refine lv_icmp_lt (tgt := 124) hx hb dX4_strike_111 (by decide) (fun c111 => ?_) (fun c111 => ?_)
      · skip
        replace c111 := (nI_ltI (a := t - 1) (b := n - 1) (by omega) (by omega)).mp c111
        exact xV hx hb hr hlocks (by rw [strkF_eq hs ht hn htn, show strT g t n = t - 1 from by unfold strT; (repeat' split) <;> omega]; exact hV) hS dX4_strike_124
      · skip
        replace c111 : ¬ (t - 1 < n - 1) := fun q => c111 ((nI_ltI (a := t - 1) (b := n - 1) (by omega) (by omega)).mpr q)
        refine lv_aload_n hx hb dX4_strike_114 rfl (lv_at hl 0 rfl) ?_
        refine rSf 4 (j := 2) hx hb hts hi4 hown hK hV (by decide) rfl k15 dX4_strike_115 ?_
        refine lv_iload_n hx hb dX4_strike_118 rfl (lv_at hl 3 rfl) ?_
        refine lv_bipush (v := 7) hx hb dX4_strike_119 (by decide) ?_
        refine lv_iadd hx hb dX4_strike_121 ?_
        refine lv_topi (fun y13 ey13 => ?_)
        obtain rfl : y13 = nI (11 * p + 7) := ey13.trans (nI_add (11 * p) 7)
        refine lv_iconst (v := nI 0) hx hb dX4_strike_122 (by decide) ?_
        refine wSp (h := p) (f := 7) (g := 27) hx hb hK hI hV hS (fun _ q => q) (by omega) (by omega) (by omega) (by omega) hP dX4_strike_123 (fun H locs hV _ hS => ?_)
        exact xV hx hb hr hlocks (by rw [strkF_eq hs ht hn htn, show strT g t n = 0 from by unfold strT; (repeat' split) <;> omega]; rw [wst_wst] at hV; exact hV) hS dX4_strike_124
  · skip
    replace c32 : ¬ (n - 1 ≤ i) := fun q => c32 ((nI_leI (a := n - 1) (b := i) (by omega) (by omega)).mpr q)
    refine lv_aload_n hx hb dX4_strike_35 rfl (lv_at hl 0 rfl) ?_
    refine rSf 5 (j := 3) hx hb hts hi4 hown hK hV (by decide) rfl k18 dX4_strike_36 ?_
    refine lv_bipush (v := 10) hx hb dX4_strike_39 (by decide) ?_
    refine lv_iload_n hx hb dX4_strike_41 rfl (lv_at hl 1 rfl) ?_
    refine lv_imul hx hb dX4_strike_42 ?_
    refine lv_topi (fun y14 ey14 => ?_)
    obtain rfl : y14 = nI (10 * p) := ey14.trans (pk_mul 10 p)
    refine lv_iload hx hb dX4_strike_43 (lv_at hl 4 rfl) ?_
    refine lv_iadd hx hb dX4_strike_45 ?_
    refine lv_topi (fun y15 ey15 => ?_)
    obtain rfl : y15 = nI (10 * p + i) := ey15.trans (nI_add (10 * p) i)
    refine lv_aload_n hx hb dX4_strike_46 rfl (lv_at hl 0 rfl) ?_
    refine rSf 5 (j := 3) hx hb hts hi4 hown hK hV (by decide) rfl k18 dX4_strike_47 ?_
    refine lv_bipush (v := 10) hx hb dX4_strike_50 (by decide) ?_
    refine lv_iload_n hx hb dX4_strike_52 rfl (lv_at hl 1 rfl) ?_
    refine lv_imul hx hb dX4_strike_53 ?_
    refine lv_topi (fun y16 ey16 => ?_)
    obtain rfl : y16 = nI (10 * p) := ey16.trans (pk_mul 10 p)
    refine lv_iload hx hb dX4_strike_54 (lv_at hl 4 rfl) ?_
    refine lv_iadd hx hb dX4_strike_56 ?_
    refine lv_topi (fun y17 ey17 => ?_)
    obtain rfl : y17 = nI (10 * p + i) := ey17.trans (nI_add (10 * p) i)
    refine lv_iconst (v := 1) hx hb dX4_strike_57 (by decide) ?_
    refine lv_iadd hx hb dX4_strike_58 ?_
    refine lv_topi (fun y18 ey18 => ?_)
    obtain rfl : y18 = nI (10 * p + i + 1) := ey18.trans (nI_add (10 * p + i) 1)
    refine rSq (h := p) (k := i + 1) (v := τ (40 + p) (i + 1)) hx hb hK hV (by omega) (by omega) (by omega) hP ((shF_lo (by omega)).trans (wst_f (by omega))) dX4_strike_59 ?_
    refine wSq (h := p) (k := i) hx hb hK hI hV hS (fun _ q => q) (by omega) (by omega) (by omega) hP dX4_strike_60 (fun H locs hV _ hS => ?_)
    refine lv_iinc (k := 4) (v := nI (i + 1)) (lv' := [(4, .int (nI (i + 1))), (0, .ref (ad 0)), (1, .int (nI p)), (2, .int (nI g)), (3, .int (nI (11 * p)))]) hx hb dX4_strike_61 hl rfl (nI_add i 1) (by decide) rfl (fun ls hl => ?_)
    refine lv_goto (tgt := 21) hx hb dX4_strike_64 (by decide) ?_
    exact ih (by omega) _ _ _ ⟨(by rw [← shF_s hx0, wst_f (show 40 + p ≠ 26 by omega)]; exact hV), hS, lv_sub hl [1, 2, 3, 4, 0] rfl, (by omega)⟩
