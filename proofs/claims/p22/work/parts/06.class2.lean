set_option maxHeartbeats 4000000 in
set_option maxRecDepth 100000 in
theorem c_X2_isHouse (l : Launch) (G : wG) (ad : Nat → Nat) (hI : adInj ad 19) (nH nP : Nat) (hH : nH ≤ 10) (hP : nP ≤ 3) (δ τ : wS) (x : Int32) (h51 : τ 51 0 = nI nH) : Met l yX2_isHouse wsX2_isHouse ({ frames := 0, cells := 0, slots := 0, locals := 0 } : Room) (Pc0 G [.ref (ad 0), .int x] (CVm G ad nH nP δ τ)) (Qi0 (if x < 0 ∨ nI nH ≤ x then 0 else 1) (CVm G ad nH nP δ τ) (AV ad 19)) 0 0 (AV ad 19) := by
  refine Met.ofW (cc := cX2_isHouse) (maxL := 2) (ret := (some .boolean)) (by decide) rfl ?_
  intro pg ev s mid args below meth cd s₁ B hml hv0
  obtain ⟨rfl, hV, hK⟩ := hv0
  have hx := B.exec
  have hb := B.bytes
  have hr := B.returns
  have hts := atoms_spec (ws := wsX2_isHouse) B.pre
  have hown : s.vm.findClass RX2 = some mid.cls := findClass_of_methodNamed B.named
  have hlocks := B.notSynchronized
  have hi2 : ∀ w ∈ wsX20, w ∈ wsX2_isHouse := by decide +kernel
  have k27 := hts (.fieldLink RX2 27 "PumpRoster$Village" "houseCount" "I") (by decide +kernel)
  have hS : va_S (AV ad 19) s.heap s.heap [] := va_S.rf
  have hl := lv_entry ([.ref (ad 0), .int x]) (n := 2) (Nat.le_of_ble_eq_true rfl)
  rw [lg_entry_eq]
  generalize (lg_sl ([.ref (ad 0), .int x]) ++ List.replicate (2 - (lg_sl ([.ref (ad 0), .int x])).length) Slot.unset).toArray = ls at hl ⊢
  have hl : lv_has ls 2 [(0, .ref (ad 0)), (1, .int x)] := hl
  refine lv_iload_n hx hb dX2_isHouse_0 rfl (lv_at hl 1 rfl) ?_
  refine lv_if_lt (tgt := 16) hx hb dX2_isHouse_1 (by decide) (fun c1 => ?_) (fun c1 => ?_)
  · skip
    refine lv_iconst (v := 0) hx hb dX2_isHouse_16 (by decide) ?_
    exact xZ hx hb hr hlocks hV hS (by first | exact (if_pos (Or.inl c1)).symm | exact (if_pos (Or.inr c9)).symm | exact (if_neg (fun q => q.elim c1 c9)).symm) rfl dX2_isHouse_17
  · skip
    refine lv_iload_n hx hb dX2_isHouse_4 rfl (lv_at hl 1 rfl) ?_
    refine lv_aload_n hx hb dX2_isHouse_5 rfl (lv_at hl 0 rfl) ?_
    refine rV 2 (f := 51) (v := nI nH) hx hb hts hi2 hown hK hV (by decide) (by decide) rfl h51 k27 dX2_isHouse_6 ?_
    refine lv_icmp_ge (tgt := 16) hx hb dX2_isHouse_9 (by decide) (fun c9 => ?_) (fun c9 => ?_)
    · skip
      refine lv_iconst (v := 0) hx hb dX2_isHouse_16 (by decide) ?_
      exact xZ hx hb hr hlocks hV hS (by first | exact (if_pos (Or.inl c1)).symm | exact (if_pos (Or.inr c9)).symm | exact (if_neg (fun q => q.elim c1 c9)).symm) rfl dX2_isHouse_17
    · skip
      refine lv_iconst (v := 1) hx hb dX2_isHouse_12 (by decide) ?_
      refine lv_goto (tgt := 17) hx hb dX2_isHouse_13 (by decide) ?_
      exact xZ hx hb hr hlocks hV hS (by first | exact (if_pos (Or.inl c1)).symm | exact (if_pos (Or.inr c9)).symm | exact (if_neg (fun q => q.elim c1 c9)).symm) rfl dX2_isHouse_17

set_option maxHeartbeats 4000000 in
set_option maxRecDepth 100000 in
theorem c_X2_isPump (l : Launch) (G : wG) (ad : Nat → Nat) (hI : adInj ad 19) (nH nP : Nat) (hH : nH ≤ 10) (hP : nP ≤ 3) (δ τ : wS) (x : Int32) (h52 : τ 52 0 = nI nP) : Met l yX2_isPump wsX2_isPump ({ frames := 0, cells := 0, slots := 0, locals := 0 } : Room) (Pc0 G [.ref (ad 0), .int x] (CVm G ad nH nP δ τ)) (Qi0 (if x < 0 ∨ nI nP ≤ x then 0 else 1) (CVm G ad nH nP δ τ) (AV ad 19)) 0 0 (AV ad 19) := by
  refine Met.ofW (cc := cX2_isPump) (maxL := 2) (ret := (some .boolean)) (by decide) rfl ?_
  intro pg ev s mid args below meth cd s₁ B hml hv0
  obtain ⟨rfl, hV, hK⟩ := hv0
  have hx := B.exec
  have hb := B.bytes
  have hr := B.returns
  have hts := atoms_spec (ws := wsX2_isPump) B.pre
  have hown : s.vm.findClass RX2 = some mid.cls := findClass_of_methodNamed B.named
  have hlocks := B.notSynchronized
  have hi2 : ∀ w ∈ wsX20, w ∈ wsX2_isPump := by decide +kernel
  have k31 := hts (.fieldLink RX2 31 "PumpRoster$Village" "pumpCount" "I") (by decide +kernel)
  have hS : va_S (AV ad 19) s.heap s.heap [] := va_S.rf
  have hl := lv_entry ([.ref (ad 0), .int x]) (n := 2) (Nat.le_of_ble_eq_true rfl)
  rw [lg_entry_eq]
  generalize (lg_sl ([.ref (ad 0), .int x]) ++ List.replicate (2 - (lg_sl ([.ref (ad 0), .int x])).length) Slot.unset).toArray = ls at hl ⊢
  have hl : lv_has ls 2 [(0, .ref (ad 0)), (1, .int x)] := hl
  refine lv_iload_n hx hb dX2_isPump_0 rfl (lv_at hl 1 rfl) ?_
  refine lv_if_lt (tgt := 16) hx hb dX2_isPump_1 (by decide) (fun c1 => ?_) (fun c1 => ?_)
  · skip
    refine lv_iconst (v := 0) hx hb dX2_isPump_16 (by decide) ?_
    exact xZ hx hb hr hlocks hV hS (by first | exact (if_pos (Or.inl c1)).symm | exact (if_pos (Or.inr c9)).symm | exact (if_neg (fun q => q.elim c1 c9)).symm) rfl dX2_isPump_17
  · skip
    refine lv_iload_n hx hb dX2_isPump_4 rfl (lv_at hl 1 rfl) ?_
    refine lv_aload_n hx hb dX2_isPump_5 rfl (lv_at hl 0 rfl) ?_
    refine rV 3 (f := 52) (v := nI nP) hx hb hts hi2 hown hK hV (by decide) (by decide) rfl h52 k31 dX2_isPump_6 ?_
    refine lv_icmp_ge (tgt := 16) hx hb dX2_isPump_9 (by decide) (fun c9 => ?_) (fun c9 => ?_)
    · skip
      refine lv_iconst (v := 0) hx hb dX2_isPump_16 (by decide) ?_
      exact xZ hx hb hr hlocks hV hS (by first | exact (if_pos (Or.inl c1)).symm | exact (if_pos (Or.inr c9)).symm | exact (if_neg (fun q => q.elim c1 c9)).symm) rfl dX2_isPump_17
    · skip
      refine lv_iconst (v := 1) hx hb dX2_isPump_12 (by decide) ?_
      refine lv_goto (tgt := 17) hx hb dX2_isPump_13 (by decide) ?_
      exact xZ hx hb hr hlocks hV hS (by first | exact (if_pos (Or.inl c1)).symm | exact (if_pos (Or.inr c9)).symm | exact (if_neg (fun q => q.elim c1 c9)).symm) rfl dX2_isPump_17

set_option maxHeartbeats 4000000 in
set_option maxRecDepth 100000 in
theorem c_X2_allEggs (l : Launch) (G : wG) (ad : Nat → Nat) (hI : adInj ad 19) (nH nP : Nat) (hH : nH ≤ 10) (hP : nP ≤ 3) (δ τ : wS)  (hv : Inv nH nP τ) : Met l yX2_allEggs wsX2_allEggs ({ frames := 0, cells := 0, slots := 0, locals := 0 } : Room) (Pc0 G [.ref (ad 0)] (CVm G ad nH nP δ τ)) (Qi0 (sm (fun h => τ 3 h) nH) (CVm G ad nH nP δ τ) (AV ad 19)) 0 0 (AV ad 19) := by
  refine Met.ofW (cc := cX2_allEggs) (maxL := 3) (ret := (some .int)) (by decide) rfl ?_
  intro pg ev s mid args below meth cd s₁ B hml hv0
  obtain ⟨rfl, hV, hK⟩ := hv0
  have hx := B.exec
  have hb := B.bytes
  have hr := B.returns
  have hts := atoms_spec (ws := wsX2_allEggs) B.pre
  have hown : s.vm.findClass RX2 = some mid.cls := findClass_of_methodNamed B.named
  have hlocks := B.notSynchronized
  have hi0 : ∀ w ∈ wsX00, w ∈ wsX2_allEggs := by decide +kernel
  have hi2 : ∀ w ∈ wsX20, w ∈ wsX2_allEggs := by decide +kernel
  have k27 := hts (.fieldLink RX2 27 "PumpRoster$Village" "houseCount" "I") (by decide +kernel)
  have k11 := hts (.fieldLink RX2 11 "PumpRoster$Village" "houses" "[LPumpRoster$House;") (by decide +kernel)
  have k50 := hts (.fieldLink RX2 50 "PumpRoster$House" "eggs" "I") (by decide +kernel)
  have hS : va_S (AV ad 19) s.heap s.heap [] := va_S.rf
  have hl := lv_entry ([.ref (ad 0)]) (n := 3) (Nat.le_of_ble_eq_true rfl)
  rw [lg_entry_eq]
  generalize (lg_sl ([.ref (ad 0)]) ++ List.replicate (3 - (lg_sl ([.ref (ad 0)])).length) Slot.unset).toArray = ls at hl ⊢
  have hl : lv_has ls 3 [(0, .ref (ad 0))] := hl
  refine lv_iconst (v := 0) hx hb dX2_allEggs_0 (by decide) ?_
  refine lv_istore_n (lv' := [(1, .int 0), (0, .ref (ad 0))]) hx hb dX2_allEggs_1 rfl hl (by decide) rfl (fun ls hl => ?_)
  refine lv_iconst (v := nI 0) hx hb dX2_allEggs_2 (by decide) ?_
  refine lv_istore_n (lv' := [(2, .int (nI 0)), (1, .int 0), (0, .ref (ad 0))]) hx hb dX2_allEggs_3 rfl hl (by decide) rfl (fun ls hl => ?_)
  refine W_up nH (fun i H locs ls => CVm G ad nH nP δ τ H ∧ va_S (AV ad 19) s.heap H locs ∧ lv_has ls 3 [(0, .ref (ad 0)), (1, .int (sm (fun h => τ 3 h) i)), (2, .int (nI i))]) ?_ 0 (by omega) _ _ _ ⟨hV, hS, lv_sub hl [2, 1, 0] rfl⟩
  intro i H locs ls hi ⟨hV, hS, hl⟩ ih
  refine lv_iload_n hx hb dX2_allEggs_4 rfl (lv_at hl 2 rfl) ?_
  refine lv_aload_n hx hb dX2_allEggs_5 rfl (lv_at hl 0 rfl) ?_
  refine rV 2 (f := 51) (v := nI nH) hx hb hts hi2 hown hK hV (by decide) (by decide) rfl hv.2.2.1 k27 dX2_allEggs_6 ?_
  refine lv_icmp_ge (tgt := 30) hx hb dX2_allEggs_9 (by decide) (fun c9 => ?_) (fun c9 => ?_)
  · skip
    replace c9 := (nI_leI (a := nH) (b := i) (by omega) (by omega)).mp c9
    obtain rfl : nH = i := by omega
    refine lv_iload_n hx hb dX2_allEggs_30 rfl (lv_at hl 1 rfl) ?_
    exact xI hx hb hr hlocks hV hS rfl dX2_allEggs_31
  · skip
    replace c9 : ¬ (nH ≤ i) := fun q => c9 ((nI_leI (a := nH) (b := i) (by omega) (by omega)).mpr q)
    refine lv_iload_n hx hb dX2_allEggs_12 rfl (lv_at hl 1 rfl) ?_
    refine lv_aload_n hx hb dX2_allEggs_13 rfl (lv_at hl 0 rfl) ?_
    refine rVh hx hb hts hi2 hown hK hV k11 dX2_allEggs_14 ?_
    refine lv_iload_n hx hb dX2_allEggs_17 rfl (lv_at hl 2 rfl) ?_
    refine rHA (h := i) hx hb hK hV (by omega) dX2_allEggs_18 ?_
    refine rH 4 (f := 3) (h := i) (v := τ 3 i) hx hb hts hi0 hown hK hV (by omega) hH (by decide) (by decide) rfl rfl k50 dX2_allEggs_19 ?_
    refine lv_iadd hx hb dX2_allEggs_22 ?_
    refine lv_istore_n (lv' := [(1, .int ((sm (fun h => τ 3 h) i) + (τ 3 i))), (0, .ref (ad 0)), (2, .int (nI i))]) hx hb dX2_allEggs_23 rfl hl (by decide) rfl (fun ls hl => ?_)
    refine lv_iinc (k := 2) (v := nI (i + 1)) (lv' := [(2, .int (nI (i + 1))), (1, .int ((sm (fun h => τ 3 h) i) + (τ 3 i))), (0, .ref (ad 0))]) hx hb dX2_allEggs_24 hl rfl (nI_add i 1) (by decide) rfl (fun ls hl => ?_)
    refine lv_goto (tgt := 4) hx hb dX2_allEggs_27 (by decide) ?_
    exact ih (by omega) _ _ _ ⟨hV, hS, lv_sub hl [2, 1, 0] rfl⟩

set_option maxHeartbeats 4000000 in
set_option maxRecDepth 100000 in
theorem c_X2_allMarks (l : Launch) (G : wG) (ad : Nat → Nat) (hI : adInj ad 19) (nH nP : Nat) (hH : nH ≤ 10) (hP : nP ≤ 3) (δ τ : wS)  (hv : Inv nH nP τ) : Met l yX2_allMarks wsX2_allMarks ({ frames := 0, cells := 0, slots := 0, locals := 0 } : Room) (Pc0 G [.ref (ad 0)] (CVm G ad nH nP δ τ)) (Qi0 (sm (fun h => τ 4 h) nH) (CVm G ad nH nP δ τ) (AV ad 19)) 0 0 (AV ad 19) := by
  refine Met.ofW (cc := cX2_allMarks) (maxL := 3) (ret := (some .int)) (by decide) rfl ?_
  intro pg ev s mid args below meth cd s₁ B hml hv0
  obtain ⟨rfl, hV, hK⟩ := hv0
  have hx := B.exec
  have hb := B.bytes
  have hr := B.returns
  have hts := atoms_spec (ws := wsX2_allMarks) B.pre
  have hown : s.vm.findClass RX2 = some mid.cls := findClass_of_methodNamed B.named
  have hlocks := B.notSynchronized
  have hi0 : ∀ w ∈ wsX00, w ∈ wsX2_allMarks := by decide +kernel
  have hi2 : ∀ w ∈ wsX20, w ∈ wsX2_allMarks := by decide +kernel
  have k27 := hts (.fieldLink RX2 27 "PumpRoster$Village" "houseCount" "I") (by decide +kernel)
  have k11 := hts (.fieldLink RX2 11 "PumpRoster$Village" "houses" "[LPumpRoster$House;") (by decide +kernel)
  have k59 := hts (.fieldLink RX2 59 "PumpRoster$House" "marks" "I") (by decide +kernel)
  have hS : va_S (AV ad 19) s.heap s.heap [] := va_S.rf
  have hl := lv_entry ([.ref (ad 0)]) (n := 3) (Nat.le_of_ble_eq_true rfl)
  rw [lg_entry_eq]
  generalize (lg_sl ([.ref (ad 0)]) ++ List.replicate (3 - (lg_sl ([.ref (ad 0)])).length) Slot.unset).toArray = ls at hl ⊢
  have hl : lv_has ls 3 [(0, .ref (ad 0))] := hl
  refine lv_iconst (v := 0) hx hb dX2_allMarks_0 (by decide) ?_
  refine lv_istore_n (lv' := [(1, .int 0), (0, .ref (ad 0))]) hx hb dX2_allMarks_1 rfl hl (by decide) rfl (fun ls hl => ?_)
  refine lv_iconst (v := nI 0) hx hb dX2_allMarks_2 (by decide) ?_
  refine lv_istore_n (lv' := [(2, .int (nI 0)), (1, .int 0), (0, .ref (ad 0))]) hx hb dX2_allMarks_3 rfl hl (by decide) rfl (fun ls hl => ?_)
  refine W_up nH (fun i H locs ls => CVm G ad nH nP δ τ H ∧ va_S (AV ad 19) s.heap H locs ∧ lv_has ls 3 [(0, .ref (ad 0)), (1, .int (sm (fun h => τ 4 h) i)), (2, .int (nI i))]) ?_ 0 (by omega) _ _ _ ⟨hV, hS, lv_sub hl [2, 1, 0] rfl⟩
  intro i H locs ls hi ⟨hV, hS, hl⟩ ih
  refine lv_iload_n hx hb dX2_allMarks_4 rfl (lv_at hl 2 rfl) ?_
  refine lv_aload_n hx hb dX2_allMarks_5 rfl (lv_at hl 0 rfl) ?_
  refine rV 2 (f := 51) (v := nI nH) hx hb hts hi2 hown hK hV (by decide) (by decide) rfl hv.2.2.1 k27 dX2_allMarks_6 ?_
  refine lv_icmp_ge (tgt := 30) hx hb dX2_allMarks_9 (by decide) (fun c9 => ?_) (fun c9 => ?_)
  · skip
    replace c9 := (nI_leI (a := nH) (b := i) (by omega) (by omega)).mp c9
    obtain rfl : nH = i := by omega
    refine lv_iload_n hx hb dX2_allMarks_30 rfl (lv_at hl 1 rfl) ?_
    exact xI hx hb hr hlocks hV hS rfl dX2_allMarks_31
  · skip
    replace c9 : ¬ (nH ≤ i) := fun q => c9 ((nI_leI (a := nH) (b := i) (by omega) (by omega)).mpr q)
    refine lv_iload_n hx hb dX2_allMarks_12 rfl (lv_at hl 1 rfl) ?_
    refine lv_aload_n hx hb dX2_allMarks_13 rfl (lv_at hl 0 rfl) ?_
    refine rVh hx hb hts hi2 hown hK hV k11 dX2_allMarks_14 ?_
    refine lv_iload_n hx hb dX2_allMarks_17 rfl (lv_at hl 2 rfl) ?_
    refine rHA (h := i) hx hb hK hV (by omega) dX2_allMarks_18 ?_
    refine rH 5 (f := 4) (h := i) (v := τ 4 i) hx hb hts hi0 hown hK hV (by omega) hH (by decide) (by decide) rfl rfl k59 dX2_allMarks_19 ?_
    refine lv_iadd hx hb dX2_allMarks_22 ?_
    refine lv_istore_n (lv' := [(1, .int ((sm (fun h => τ 4 h) i) + (τ 4 i))), (0, .ref (ad 0)), (2, .int (nI i))]) hx hb dX2_allMarks_23 rfl hl (by decide) rfl (fun ls hl => ?_)
    refine lv_iinc (k := 2) (v := nI (i + 1)) (lv' := [(2, .int (nI (i + 1))), (1, .int ((sm (fun h => τ 4 h) i) + (τ 4 i))), (0, .ref (ad 0))]) hx hb dX2_allMarks_24 hl rfl (nI_add i 1) (by decide) rfl (fun ls hl => ?_)
    refine lv_goto (tgt := 4) hx hb dX2_allMarks_27 (by decide) ?_
    exact ih (by omega) _ _ _ ⟨hV, hS, lv_sub hl [2, 1, 0] rfl⟩

set_option maxHeartbeats 4000000 in
set_option maxRecDepth 100000 in
theorem c_X2_allThirst (l : Launch) (G : wG) (ad : Nat → Nat) (hI : adInj ad 19) (nH nP : Nat) (hH : nH ≤ 10) (hP : nP ≤ 3) (δ τ : wS)  (hv : Inv nH nP τ) : Met l yX2_allThirst wsX2_allThirst ({ frames := 0, cells := 0, slots := 0, locals := 0 } : Room) (Pc0 G [.ref (ad 0)] (CVm G ad nH nP δ τ)) (Qi0 (sm (fun h => τ 8 h) nH) (CVm G ad nH nP δ τ) (AV ad 19)) 0 0 (AV ad 19) := by
  refine Met.ofW (cc := cX2_allThirst) (maxL := 3) (ret := (some .int)) (by decide) rfl ?_
  intro pg ev s mid args below meth cd s₁ B hml hv0
  obtain ⟨rfl, hV, hK⟩ := hv0
  have hx := B.exec
  have hb := B.bytes
  have hr := B.returns
  have hts := atoms_spec (ws := wsX2_allThirst) B.pre
  have hown : s.vm.findClass RX2 = some mid.cls := findClass_of_methodNamed B.named
  have hlocks := B.notSynchronized
  have hi0 : ∀ w ∈ wsX00, w ∈ wsX2_allThirst := by decide +kernel
  have hi2 : ∀ w ∈ wsX20, w ∈ wsX2_allThirst := by decide +kernel
  have k27 := hts (.fieldLink RX2 27 "PumpRoster$Village" "houseCount" "I") (by decide +kernel)
  have k11 := hts (.fieldLink RX2 11 "PumpRoster$Village" "houses" "[LPumpRoster$House;") (by decide +kernel)
  have k170 := hts (.fieldLink RX2 170 "PumpRoster$House" "thirst" "I") (by decide +kernel)
  have hS : va_S (AV ad 19) s.heap s.heap [] := va_S.rf
  have hl := lv_entry ([.ref (ad 0)]) (n := 3) (Nat.le_of_ble_eq_true rfl)
  rw [lg_entry_eq]
  generalize (lg_sl ([.ref (ad 0)]) ++ List.replicate (3 - (lg_sl ([.ref (ad 0)])).length) Slot.unset).toArray = ls at hl ⊢
  have hl : lv_has ls 3 [(0, .ref (ad 0))] := hl
  refine lv_iconst (v := 0) hx hb dX2_allThirst_0 (by decide) ?_
  refine lv_istore_n (lv' := [(1, .int 0), (0, .ref (ad 0))]) hx hb dX2_allThirst_1 rfl hl (by decide) rfl (fun ls hl => ?_)
  refine lv_iconst (v := nI 0) hx hb dX2_allThirst_2 (by decide) ?_
  refine lv_istore_n (lv' := [(2, .int (nI 0)), (1, .int 0), (0, .ref (ad 0))]) hx hb dX2_allThirst_3 rfl hl (by decide) rfl (fun ls hl => ?_)
  refine W_up nH (fun i H locs ls => CVm G ad nH nP δ τ H ∧ va_S (AV ad 19) s.heap H locs ∧ lv_has ls 3 [(0, .ref (ad 0)), (1, .int (sm (fun h => τ 8 h) i)), (2, .int (nI i))]) ?_ 0 (by omega) _ _ _ ⟨hV, hS, lv_sub hl [2, 1, 0] rfl⟩
  intro i H locs ls hi ⟨hV, hS, hl⟩ ih
  refine lv_iload_n hx hb dX2_allThirst_4 rfl (lv_at hl 2 rfl) ?_
  refine lv_aload_n hx hb dX2_allThirst_5 rfl (lv_at hl 0 rfl) ?_
  refine rV 2 (f := 51) (v := nI nH) hx hb hts hi2 hown hK hV (by decide) (by decide) rfl hv.2.2.1 k27 dX2_allThirst_6 ?_
  refine lv_icmp_ge (tgt := 30) hx hb dX2_allThirst_9 (by decide) (fun c9 => ?_) (fun c9 => ?_)
  · skip
    replace c9 := (nI_leI (a := nH) (b := i) (by omega) (by omega)).mp c9
    obtain rfl : nH = i := by omega
    refine lv_iload_n hx hb dX2_allThirst_30 rfl (lv_at hl 1 rfl) ?_
    exact xI hx hb hr hlocks hV hS rfl dX2_allThirst_31
  · skip
    replace c9 : ¬ (nH ≤ i) := fun q => c9 ((nI_leI (a := nH) (b := i) (by omega) (by omega)).mpr q)
    refine lv_iload_n hx hb dX2_allThirst_12 rfl (lv_at hl 1 rfl) ?_
    refine lv_aload_n hx hb dX2_allThirst_13 rfl (lv_at hl 0 rfl) ?_
    refine rVh hx hb hts hi2 hown hK hV k11 dX2_allThirst_14 ?_
    refine lv_iload_n hx hb dX2_allThirst_17 rfl (lv_at hl 2 rfl) ?_
    refine rHA (h := i) hx hb hK hV (by omega) dX2_allThirst_18 ?_
    refine rH 9 (f := 8) (h := i) (v := τ 8 i) hx hb hts hi0 hown hK hV (by omega) hH (by decide) (by decide) rfl rfl k170 dX2_allThirst_19 ?_
    refine lv_iadd hx hb dX2_allThirst_22 ?_
    refine lv_istore_n (lv' := [(1, .int ((sm (fun h => τ 8 h) i) + (τ 8 i))), (0, .ref (ad 0)), (2, .int (nI i))]) hx hb dX2_allThirst_23 rfl hl (by decide) rfl (fun ls hl => ?_)
    refine lv_iinc (k := 2) (v := nI (i + 1)) (lv' := [(2, .int (nI (i + 1))), (1, .int ((sm (fun h => τ 8 h) i) + (τ 8 i))), (0, .ref (ad 0))]) hx hb dX2_allThirst_24 hl rfl (nI_add i 1) (by decide) rfl (fun ls hl => ?_)
    refine lv_goto (tgt := 4) hx hb dX2_allThirst_27 (by decide) ?_
    exact ih (by omega) _ _ _ ⟨hV, hS, lv_sub hl [2, 1, 0] rfl⟩

set_option maxHeartbeats 4000000 in
set_option maxRecDepth 100000 in
theorem c_X2_allDrawn (l : Launch) (G : wG) (ad : Nat → Nat) (hI : adInj ad 19) (nH nP : Nat) (hH : nH ≤ 10) (hP : nP ≤ 3) (δ τ : wS)  (hv : Inv nH nP τ) : Met l yX2_allDrawn wsX2_allDrawn ({ frames := 0, cells := 0, slots := 0, locals := 0 } : Room) (Pc0 G [.ref (ad 0)] (CVm G ad nH nP δ τ)) (Qi0 (sm (fun h => τ 29 h) nP) (CVm G ad nH nP δ τ) (AV ad 19)) 0 0 (AV ad 19) := by
  refine Met.ofW (cc := cX2_allDrawn) (maxL := 3) (ret := (some .int)) (by decide) rfl ?_
  intro pg ev s mid args below meth cd s₁ B hml hv0
  obtain ⟨rfl, hV, hK⟩ := hv0
  have hx := B.exec
  have hb := B.bytes
  have hr := B.returns
  have hts := atoms_spec (ws := wsX2_allDrawn) B.pre
  have hown : s.vm.findClass RX2 = some mid.cls := findClass_of_methodNamed B.named
  have hlocks := B.notSynchronized
  have hi1 : ∀ w ∈ wsX10, w ∈ wsX2_allDrawn := by decide +kernel
  have hi2 : ∀ w ∈ wsX20, w ∈ wsX2_allDrawn := by decide +kernel
  have k31 := hts (.fieldLink RX2 31 "PumpRoster$Village" "pumpCount" "I") (by decide +kernel)
  have k19 := hts (.fieldLink RX2 19 "PumpRoster$Village" "pumps" "[LPumpRoster$Pump;") (by decide +kernel)
  have k179 := hts (.fieldLink RX2 179 "PumpRoster$Pump" "drawn" "I") (by decide +kernel)
  have hS : va_S (AV ad 19) s.heap s.heap [] := va_S.rf
  have hl := lv_entry ([.ref (ad 0)]) (n := 3) (Nat.le_of_ble_eq_true rfl)
  rw [lg_entry_eq]
  generalize (lg_sl ([.ref (ad 0)]) ++ List.replicate (3 - (lg_sl ([.ref (ad 0)])).length) Slot.unset).toArray = ls at hl ⊢
  have hl : lv_has ls 3 [(0, .ref (ad 0))] := hl
  refine lv_iconst (v := 0) hx hb dX2_allDrawn_0 (by decide) ?_
  refine lv_istore_n (lv' := [(1, .int 0), (0, .ref (ad 0))]) hx hb dX2_allDrawn_1 rfl hl (by decide) rfl (fun ls hl => ?_)
  refine lv_iconst (v := nI 0) hx hb dX2_allDrawn_2 (by decide) ?_
  refine lv_istore_n (lv' := [(2, .int (nI 0)), (1, .int 0), (0, .ref (ad 0))]) hx hb dX2_allDrawn_3 rfl hl (by decide) rfl (fun ls hl => ?_)
  refine W_up nP (fun i H locs ls => CVm G ad nH nP δ τ H ∧ va_S (AV ad 19) s.heap H locs ∧ lv_has ls 3 [(0, .ref (ad 0)), (1, .int (sm (fun h => τ 29 h) i)), (2, .int (nI i))]) ?_ 0 (by omega) _ _ _ ⟨hV, hS, lv_sub hl [2, 1, 0] rfl⟩
  intro i H locs ls hi ⟨hV, hS, hl⟩ ih
  refine lv_iload_n hx hb dX2_allDrawn_4 rfl (lv_at hl 2 rfl) ?_
  refine lv_aload_n hx hb dX2_allDrawn_5 rfl (lv_at hl 0 rfl) ?_
  refine rV 3 (f := 52) (v := nI nP) hx hb hts hi2 hown hK hV (by decide) (by decide) rfl hv.2.2.2.1 k31 dX2_allDrawn_6 ?_
  refine lv_icmp_ge (tgt := 30) hx hb dX2_allDrawn_9 (by decide) (fun c9 => ?_) (fun c9 => ?_)
  · skip
    replace c9 := (nI_leI (a := nP) (b := i) (by omega) (by omega)).mp c9
    obtain rfl : nP = i := by omega
    refine lv_iload_n hx hb dX2_allDrawn_30 rfl (lv_at hl 1 rfl) ?_
    exact xI hx hb hr hlocks hV hS rfl dX2_allDrawn_31
  · skip
    replace c9 : ¬ (nP ≤ i) := fun q => c9 ((nI_leI (a := nP) (b := i) (by omega) (by omega)).mpr q)
    refine lv_iload_n hx hb dX2_allDrawn_12 rfl (lv_at hl 1 rfl) ?_
    refine lv_aload_n hx hb dX2_allDrawn_13 rfl (lv_at hl 0 rfl) ?_
    refine rVp hx hb hts hi2 hown hK hV k19 dX2_allDrawn_14 ?_
    refine lv_iload_n hx hb dX2_allDrawn_17 rfl (lv_at hl 2 rfl) ?_
    refine rPA (h := i) hx hb hK hV (by omega) dX2_allDrawn_18 ?_
    refine rP 10 (f := 29) (h := i) (v := τ 29 i) hx hb hts hi1 hown hK hV (by omega) hP (by decide) (by decide) rfl rfl k179 dX2_allDrawn_19 ?_
    refine lv_iadd hx hb dX2_allDrawn_22 ?_
    refine lv_istore_n (lv' := [(1, .int ((sm (fun h => τ 29 h) i) + (τ 29 i))), (0, .ref (ad 0)), (2, .int (nI i))]) hx hb dX2_allDrawn_23 rfl hl (by decide) rfl (fun ls hl => ?_)
    refine lv_iinc (k := 2) (v := nI (i + 1)) (lv' := [(2, .int (nI (i + 1))), (1, .int ((sm (fun h => τ 29 h) i) + (τ 29 i))), (0, .ref (ad 0))]) hx hb dX2_allDrawn_24 hl rfl (nI_add i 1) (by decide) rfl (fun ls hl => ?_)
    refine lv_goto (tgt := 4) hx hb dX2_allDrawn_27 (by decide) ?_
    exact ih (by omega) _ _ _ ⟨hV, hS, lv_sub hl [2, 1, 0] rfl⟩

set_option maxHeartbeats 4000000 in
set_option maxRecDepth 100000 in
theorem c_X2_unmarkedHouses (l : Launch) (G : wG) (ad : Nat → Nat) (hI : adInj ad 19) (nH nP : Nat) (hH : nH ≤ 10) (hP : nP ≤ 3) (δ τ : wS)  (hv : Inv nH nP τ) : Met l yX2_unmarkedHouses wsX2_unmarkedHouses ({ frames := 0, cells := 0, slots := 0, locals := 0 } : Room) (Pc0 G [.ref (ad 0)] (CVm G ad nH nP δ τ)) (Qi0 (sm (fun h => if τ 4 h = 0 then 1 else 0) nH) (CVm G ad nH nP δ τ) (AV ad 19)) 0 0 (AV ad 19) := by
  refine Met.ofW (cc := cX2_unmarkedHouses) (maxL := 3) (ret := (some .int)) (by decide) rfl ?_
  intro pg ev s mid args below meth cd s₁ B hml hv0
  obtain ⟨rfl, hV, hK⟩ := hv0
  have hx := B.exec
  have hb := B.bytes
  have hr := B.returns
  have hts := atoms_spec (ws := wsX2_unmarkedHouses) B.pre
  have hown : s.vm.findClass RX2 = some mid.cls := findClass_of_methodNamed B.named
  have hlocks := B.notSynchronized
  have hi0 : ∀ w ∈ wsX00, w ∈ wsX2_unmarkedHouses := by decide +kernel
  have hi2 : ∀ w ∈ wsX20, w ∈ wsX2_unmarkedHouses := by decide +kernel
  have k27 := hts (.fieldLink RX2 27 "PumpRoster$Village" "houseCount" "I") (by decide +kernel)
  have k11 := hts (.fieldLink RX2 11 "PumpRoster$Village" "houses" "[LPumpRoster$House;") (by decide +kernel)
  have k59 := hts (.fieldLink RX2 59 "PumpRoster$House" "marks" "I") (by decide +kernel)
  have hS : va_S (AV ad 19) s.heap s.heap [] := va_S.rf
  have hl := lv_entry ([.ref (ad 0)]) (n := 3) (Nat.le_of_ble_eq_true rfl)
  rw [lg_entry_eq]
  generalize (lg_sl ([.ref (ad 0)]) ++ List.replicate (3 - (lg_sl ([.ref (ad 0)])).length) Slot.unset).toArray = ls at hl ⊢
  have hl : lv_has ls 3 [(0, .ref (ad 0))] := hl
  refine lv_iconst (v := 0) hx hb dX2_unmarkedHouses_0 (by decide) ?_
  refine lv_istore_n (lv' := [(1, .int 0), (0, .ref (ad 0))]) hx hb dX2_unmarkedHouses_1 rfl hl (by decide) rfl (fun ls hl => ?_)
  refine lv_iconst (v := nI 0) hx hb dX2_unmarkedHouses_2 (by decide) ?_
  refine lv_istore_n (lv' := [(2, .int (nI 0)), (1, .int 0), (0, .ref (ad 0))]) hx hb dX2_unmarkedHouses_3 rfl hl (by decide) rfl (fun ls hl => ?_)
  refine W_up nH (fun i H locs ls => CVm G ad nH nP δ τ H ∧ va_S (AV ad 19) s.heap H locs ∧ lv_has ls 3 [(0, .ref (ad 0)), (1, .int (sm (fun h => if τ 4 h = 0 then 1 else 0) i)), (2, .int (nI i))]) ?_ 0 (by omega) _ _ _ ⟨hV, hS, lv_sub hl [2, 1, 0] rfl⟩
  intro i H locs ls hi ⟨hV, hS, hl⟩ ih
  refine lv_iload_n hx hb dX2_unmarkedHouses_4 rfl (lv_at hl 2 rfl) ?_
  refine lv_aload_n hx hb dX2_unmarkedHouses_5 rfl (lv_at hl 0 rfl) ?_
  refine rV 2 (f := 51) (v := nI nH) hx hb hts hi2 hown hK hV (by decide) (by decide) rfl hv.2.2.1 k27 dX2_unmarkedHouses_6 ?_
  refine lv_icmp_ge (tgt := 38) hx hb dX2_unmarkedHouses_9 (by decide) (fun c9 => ?_) (fun c9 => ?_)
  · skip
    replace c9 := (nI_leI (a := nH) (b := i) (by omega) (by omega)).mp c9
    obtain rfl : nH = i := by omega
    refine lv_iload_n hx hb dX2_unmarkedHouses_38 rfl (lv_at hl 1 rfl) ?_
    exact xI hx hb hr hlocks hV hS rfl dX2_unmarkedHouses_39
  · skip
    replace c9 : ¬ (nH ≤ i) := fun q => c9 ((nI_leI (a := nH) (b := i) (by omega) (by omega)).mpr q)
    refine lv_iload_n hx hb dX2_unmarkedHouses_12 rfl (lv_at hl 1 rfl) ?_
    refine lv_aload_n hx hb dX2_unmarkedHouses_13 rfl (lv_at hl 0 rfl) ?_
    refine rVh hx hb hts hi2 hown hK hV k11 dX2_unmarkedHouses_14 ?_
    refine lv_iload_n hx hb dX2_unmarkedHouses_17 rfl (lv_at hl 2 rfl) ?_
    refine rHA (h := i) hx hb hK hV (by omega) dX2_unmarkedHouses_18 ?_
    refine rH 5 (f := 4) (h := i) (v := τ 4 i) hx hb hts hi0 hown hK hV (by omega) hH (by decide) (by decide) rfl rfl k59 dX2_unmarkedHouses_19 ?_
    refine lv_if_ne (tgt := 29) hx hb dX2_unmarkedHouses_22 (by decide) (fun c22 => ?_) (fun c22 => ?_)
    · skip
      refine lv_iconst (v := 0) hx hb dX2_unmarkedHouses_29 (by decide) ?_
      refine lv_topi (fun yy eyy => ?_)
      obtain rfl : yy = if τ 4 i = 0 then 1 else 0 := eyy.trans (if_neg c22).symm
      refine lv_iadd hx hb dX2_unmarkedHouses_30 ?_
      refine lv_istore_n (lv' := [(1, .int ((sm (fun h => if τ 4 h = 0 then 1 else 0) i) + (if τ 4 i = 0 then 1 else 0))), (0, .ref (ad 0)), (2, .int (nI i))]) hx hb dX2_unmarkedHouses_31 rfl hl (by decide) rfl (fun ls hl => ?_)
      refine lv_iinc (k := 2) (v := nI (i + 1)) (lv' := [(2, .int (nI (i + 1))), (1, .int ((sm (fun h => if τ 4 h = 0 then 1 else 0) i) + (if τ 4 i = 0 then 1 else 0))), (0, .ref (ad 0))]) hx hb dX2_unmarkedHouses_32 hl rfl (nI_add i 1) (by decide) rfl (fun ls hl => ?_)
      refine lv_goto (tgt := 4) hx hb dX2_unmarkedHouses_35 (by decide) ?_
      exact ih (by omega) _ _ _ ⟨hV, hS, lv_sub hl [2, 1, 0] rfl⟩
    · skip
      refine lv_iconst (v := 1) hx hb dX2_unmarkedHouses_25 (by decide) ?_
      refine lv_goto (tgt := 30) hx hb dX2_unmarkedHouses_26 (by decide) ?_
      refine lv_topi (fun yy eyy => ?_)
      obtain rfl : yy = if τ 4 i = 0 then 1 else 0 := eyy.trans (if_pos c22).symm
      refine lv_iadd hx hb dX2_unmarkedHouses_30 ?_
      refine lv_istore_n (lv' := [(1, .int ((sm (fun h => if τ 4 h = 0 then 1 else 0) i) + (if τ 4 i = 0 then 1 else 0))), (0, .ref (ad 0)), (2, .int (nI i))]) hx hb dX2_unmarkedHouses_31 rfl hl (by decide) rfl (fun ls hl => ?_)
      refine lv_iinc (k := 2) (v := nI (i + 1)) (lv' := [(2, .int (nI (i + 1))), (1, .int ((sm (fun h => if τ 4 h = 0 then 1 else 0) i) + (if τ 4 i = 0 then 1 else 0))), (0, .ref (ad 0))]) hx hb dX2_unmarkedHouses_32 hl rfl (nI_add i 1) (by decide) rfl (fun ls hl => ?_)
      refine lv_goto (tgt := 4) hx hb dX2_unmarkedHouses_35 (by decide) ?_
      exact ih (by omega) _ _ _ ⟨hV, hS, lv_sub hl [2, 1, 0] rfl⟩

set_option maxHeartbeats 4000000 in
set_option maxRecDepth 100000 in
theorem c_X2_housesAway (l : Launch) (G : wG) (ad : Nat → Nat) (hI : adInj ad 19) (nH nP : Nat) (hH : nH ≤ 10) (hP : nP ≤ 3) (δ τ : wS)  (hv : Inv nH nP τ) : Met l yX2_housesAway wsX2_housesAway ({ frames := 1, cells := 0, slots := 0, locals := 20 } : Room) (Pc0 G [.ref (ad 0)] (CVm G ad nH nP δ τ)) (Qi0 (sm (fun h => if τ 6 h = 0 then 0 else 1) nH) (CVm G ad nH nP δ τ) (AV ad 19)) 0 0 (AV ad 19) := by
  refine Met.ofW (cc := cX2_housesAway) (maxL := 3) (ret := (some .int)) (by decide) rfl ?_
  intro pg ev s mid args below meth cd s₁ B hml hv0
  obtain ⟨rfl, hV, hK⟩ := hv0
  have hx := B.exec
  have hb := B.bytes
  have hr := B.returns
  have hts := atoms_spec (ws := wsX2_housesAway) B.pre
  have hown : s.vm.findClass RX2 = some mid.cls := findClass_of_methodNamed B.named
  have hlocks := B.notSynchronized
  have hi2 : ∀ w ∈ wsX20, w ∈ wsX2_housesAway := by decide +kernel
  have k27 := hts (.fieldLink RX2 27 "PumpRoster$Village" "houseCount" "I") (by decide +kernel)
  have k11 := hts (.fieldLink RX2 11 "PumpRoster$Village" "houses" "[LPumpRoster$House;") (by decide +kernel)
  have hS : va_S (AV ad 19) s.heap s.heap [] := va_S.rf
  have hl := lv_entry ([.ref (ad 0)]) (n := 3) (Nat.le_of_ble_eq_true rfl)
  rw [lg_entry_eq]
  generalize (lg_sl ([.ref (ad 0)]) ++ List.replicate (3 - (lg_sl ([.ref (ad 0)])).length) Slot.unset).toArray = ls at hl ⊢
  have hl : lv_has ls 3 [(0, .ref (ad 0))] := hl
  refine lv_iconst (v := 0) hx hb dX2_housesAway_0 (by decide) ?_
  refine lv_istore_n (lv' := [(1, .int 0), (0, .ref (ad 0))]) hx hb dX2_housesAway_1 rfl hl (by decide) rfl (fun ls hl => ?_)
  refine lv_iconst (v := nI 0) hx hb dX2_housesAway_2 (by decide) ?_
  refine lv_istore_n (lv' := [(2, .int (nI 0)), (1, .int 0), (0, .ref (ad 0))]) hx hb dX2_housesAway_3 rfl hl (by decide) rfl (fun ls hl => ?_)
  refine W_up nH (fun i H locs ls => CVm G ad nH nP δ τ H ∧ va_S (AV ad 19) s.heap H locs ∧ lv_has ls 3 [(0, .ref (ad 0)), (1, .int (sm (fun h => if τ 6 h = 0 then 0 else 1) i)), (2, .int (nI i))]) ?_ 0 (by omega) _ _ _ ⟨hV, hS, lv_sub hl [2, 1, 0] rfl⟩
  intro i H locs ls hi ⟨hV, hS, hl⟩ ih
  refine lv_iload_n hx hb dX2_housesAway_4 rfl (lv_at hl 2 rfl) ?_
  refine lv_aload_n hx hb dX2_housesAway_5 rfl (lv_at hl 0 rfl) ?_
  refine rV 2 (f := 51) (v := nI nH) hx hb hts hi2 hown hK hV (by decide) (by decide) rfl hv.2.2.1 k27 dX2_housesAway_6 ?_
  refine lv_icmp_ge (tgt := 38) hx hb dX2_housesAway_9 (by decide) (fun c9 => ?_) (fun c9 => ?_)
  · skip
    replace c9 := (nI_leI (a := nH) (b := i) (by omega) (by omega)).mp c9
    obtain rfl : nH = i := by omega
    refine lv_iload_n hx hb dX2_housesAway_38 rfl (lv_at hl 1 rfl) ?_
    exact xI hx hb hr hlocks hV hS rfl dX2_housesAway_39
  · skip
    replace c9 : ¬ (nH ≤ i) := fun q => c9 ((nI_leI (a := nH) (b := i) (by omega) (by omega)).mpr q)
    refine lv_iload_n hx hb dX2_housesAway_12 rfl (lv_at hl 1 rfl) ?_
    refine lv_aload_n hx hb dX2_housesAway_13 rfl (lv_at hl 0 rfl) ?_
    refine rVh hx hb hts hi2 hown hK hV k11 dX2_housesAway_14 ?_
    refine lv_iload_n hx hb dX2_housesAway_17 rfl (lv_at hl 2 rfl) ?_
    refine rHA (h := i) hx hb hK hV (by omega) dX2_housesAway_18 ?_
    refine kI (va_runV (As := []) (rest := [.int (sm (fun h => if τ 6 h = 0 then 0 else 1) i)]) ⟨hx, hb, hml, hown, hts⟩ (c_X0_isThere l G ad hI nH nP hH hP δ τ i (by omega)) (cwV 0 hts gX2_housesAway_X0_isThere rfl rfl rfl (by decide +kernel) ⟨Nat.le_of_ble_eq_true rfl, Nat.le_of_ble_eq_true rfl⟩) ⟨Pc0.blind, va_recv hK (va_P1 (hV.2.2.2.1 i (by omega))) (ci := 0) (q0 := 0) rfl rfl, Pc0.pre hV hK⟩ rfl rfl hl.1 rfl (lv_room (Nat.le_of_ble_eq_true rfl)) dX2_housesAway_19 ⟨Nat.zero_le _, Nat.zero_le _⟩) hS (fun _ _ q => q) (fun _ q => q) (fun H locs hV _ _ hS => ?_)
    refine lv_if_eq (tgt := 29) hx hb dX2_housesAway_22 (by decide) (fun c22 => ?_) (fun c22 => ?_)
    · skip
      replace c22 := b0 c22
      refine lv_iconst (v := 1) hx hb dX2_housesAway_29 (by decide) ?_
      refine lv_topi (fun yy eyy => ?_)
      obtain rfl : yy = if τ 6 i = 0 then 0 else 1 := eyy.trans (if_neg c22).symm
      refine lv_iadd hx hb dX2_housesAway_30 ?_
      refine lv_istore_n (lv' := [(1, .int ((sm (fun h => if τ 6 h = 0 then 0 else 1) i) + (if τ 6 i = 0 then 0 else 1))), (0, .ref (ad 0)), (2, .int (nI i))]) hx hb dX2_housesAway_31 rfl hl (by decide) rfl (fun ls hl => ?_)
      refine lv_iinc (k := 2) (v := nI (i + 1)) (lv' := [(2, .int (nI (i + 1))), (1, .int ((sm (fun h => if τ 6 h = 0 then 0 else 1) i) + (if τ 6 i = 0 then 0 else 1))), (0, .ref (ad 0))]) hx hb dX2_housesAway_32 hl rfl (nI_add i 1) (by decide) rfl (fun ls hl => ?_)
      refine lv_goto (tgt := 4) hx hb dX2_housesAway_35 (by decide) ?_
      exact ih (by omega) _ _ _ ⟨hV, hS, lv_sub hl [2, 1, 0] rfl⟩
    · skip
      replace c22 := b1 c22
      refine lv_iconst (v := 0) hx hb dX2_housesAway_25 (by decide) ?_
      refine lv_goto (tgt := 30) hx hb dX2_housesAway_26 (by decide) ?_
      refine lv_topi (fun yy eyy => ?_)
      obtain rfl : yy = if τ 6 i = 0 then 0 else 1 := eyy.trans (if_pos c22).symm
      refine lv_iadd hx hb dX2_housesAway_30 ?_
      refine lv_istore_n (lv' := [(1, .int ((sm (fun h => if τ 6 h = 0 then 0 else 1) i) + (if τ 6 i = 0 then 0 else 1))), (0, .ref (ad 0)), (2, .int (nI i))]) hx hb dX2_housesAway_31 rfl hl (by decide) rfl (fun ls hl => ?_)
      refine lv_iinc (k := 2) (v := nI (i + 1)) (lv' := [(2, .int (nI (i + 1))), (1, .int ((sm (fun h => if τ 6 h = 0 then 0 else 1) i) + (if τ 6 i = 0 then 0 else 1))), (0, .ref (ad 0))]) hx hb dX2_housesAway_32 hl rfl (nI_add i 1) (by decide) rfl (fun ls hl => ?_)
      refine lv_goto (tgt := 4) hx hb dX2_housesAway_35 (by decide) ?_
      exact ih (by omega) _ _ _ ⟨hV, hS, lv_sub hl [2, 1, 0] rfl⟩

set_option maxHeartbeats 4000000 in
set_option maxRecDepth 100000 in
theorem c_X2_brokenHandles (l : Launch) (G : wG) (ad : Nat → Nat) (hI : adInj ad 19) (nH nP : Nat) (hH : nH ≤ 10) (hP : nP ≤ 3) (δ τ : wS)  (hv : Inv nH nP τ) : Met l yX2_brokenHandles wsX2_brokenHandles ({ frames := 0, cells := 0, slots := 0, locals := 0 } : Room) (Pc0 G [.ref (ad 0)] (CVm G ad nH nP δ τ)) (Qi0 (sm (fun h => if τ 23 h = 0 then 0 else 1) nP) (CVm G ad nH nP δ τ) (AV ad 19)) 0 0 (AV ad 19) := by
  refine Met.ofW (cc := cX2_brokenHandles) (maxL := 3) (ret := (some .int)) (by decide) rfl ?_
  intro pg ev s mid args below meth cd s₁ B hml hv0
  obtain ⟨rfl, hV, hK⟩ := hv0
  have hx := B.exec
  have hb := B.bytes
  have hr := B.returns
  have hts := atoms_spec (ws := wsX2_brokenHandles) B.pre
  have hown : s.vm.findClass RX2 = some mid.cls := findClass_of_methodNamed B.named
  have hlocks := B.notSynchronized
  have hi1 : ∀ w ∈ wsX10, w ∈ wsX2_brokenHandles := by decide +kernel
  have hi2 : ∀ w ∈ wsX20, w ∈ wsX2_brokenHandles := by decide +kernel
  have k31 := hts (.fieldLink RX2 31 "PumpRoster$Village" "pumpCount" "I") (by decide +kernel)
  have k19 := hts (.fieldLink RX2 19 "PumpRoster$Village" "pumps" "[LPumpRoster$Pump;") (by decide +kernel)
  have k173 := hts (.fieldLink RX2 173 "PumpRoster$Pump" "broken" "Z") (by decide +kernel)
  have hS : va_S (AV ad 19) s.heap s.heap [] := va_S.rf
  have hl := lv_entry ([.ref (ad 0)]) (n := 3) (Nat.le_of_ble_eq_true rfl)
  rw [lg_entry_eq]
  generalize (lg_sl ([.ref (ad 0)]) ++ List.replicate (3 - (lg_sl ([.ref (ad 0)])).length) Slot.unset).toArray = ls at hl ⊢
  have hl : lv_has ls 3 [(0, .ref (ad 0))] := hl
  refine lv_iconst (v := 0) hx hb dX2_brokenHandles_0 (by decide) ?_
  refine lv_istore_n (lv' := [(1, .int 0), (0, .ref (ad 0))]) hx hb dX2_brokenHandles_1 rfl hl (by decide) rfl (fun ls hl => ?_)
  refine lv_iconst (v := nI 0) hx hb dX2_brokenHandles_2 (by decide) ?_
  refine lv_istore_n (lv' := [(2, .int (nI 0)), (1, .int 0), (0, .ref (ad 0))]) hx hb dX2_brokenHandles_3 rfl hl (by decide) rfl (fun ls hl => ?_)
  refine W_up nP (fun i H locs ls => CVm G ad nH nP δ τ H ∧ va_S (AV ad 19) s.heap H locs ∧ lv_has ls 3 [(0, .ref (ad 0)), (1, .int (sm (fun h => if τ 23 h = 0 then 0 else 1) i)), (2, .int (nI i))]) ?_ 0 (by omega) _ _ _ ⟨hV, hS, lv_sub hl [2, 1, 0] rfl⟩
  intro i H locs ls hi ⟨hV, hS, hl⟩ ih
  refine lv_iload_n hx hb dX2_brokenHandles_4 rfl (lv_at hl 2 rfl) ?_
  refine lv_aload_n hx hb dX2_brokenHandles_5 rfl (lv_at hl 0 rfl) ?_
  refine rV 3 (f := 52) (v := nI nP) hx hb hts hi2 hown hK hV (by decide) (by decide) rfl hv.2.2.2.1 k31 dX2_brokenHandles_6 ?_
  refine lv_icmp_ge (tgt := 38) hx hb dX2_brokenHandles_9 (by decide) (fun c9 => ?_) (fun c9 => ?_)
  · skip
    replace c9 := (nI_leI (a := nP) (b := i) (by omega) (by omega)).mp c9
    obtain rfl : nP = i := by omega
    refine lv_iload_n hx hb dX2_brokenHandles_38 rfl (lv_at hl 1 rfl) ?_
    exact xI hx hb hr hlocks hV hS rfl dX2_brokenHandles_39
  · skip
    replace c9 : ¬ (nP ≤ i) := fun q => c9 ((nI_leI (a := nP) (b := i) (by omega) (by omega)).mpr q)
    refine lv_iload_n hx hb dX2_brokenHandles_12 rfl (lv_at hl 1 rfl) ?_
    refine lv_aload_n hx hb dX2_brokenHandles_13 rfl (lv_at hl 0 rfl) ?_
    refine rVp hx hb hts hi2 hown hK hV k19 dX2_brokenHandles_14 ?_
    refine lv_iload_n hx hb dX2_brokenHandles_17 rfl (lv_at hl 2 rfl) ?_
    refine rPA (h := i) hx hb hK hV (by omega) dX2_brokenHandles_18 ?_
    refine rP 3 (f := 23) (h := i) (v := τ 23 i) hx hb hts hi1 hown hK hV (by omega) hP (by decide) (by decide) rfl rfl k173 dX2_brokenHandles_19 ?_
    refine lv_if_eq (tgt := 29) hx hb dX2_brokenHandles_22 (by decide) (fun c22 => ?_) (fun c22 => ?_)
    · skip
      refine lv_iconst (v := 0) hx hb dX2_brokenHandles_29 (by decide) ?_
      refine lv_topi (fun yy eyy => ?_)
      obtain rfl : yy = if τ 23 i = 0 then 0 else 1 := eyy.trans (if_pos c22).symm
      refine lv_iadd hx hb dX2_brokenHandles_30 ?_
      refine lv_istore_n (lv' := [(1, .int ((sm (fun h => if τ 23 h = 0 then 0 else 1) i) + (if τ 23 i = 0 then 0 else 1))), (0, .ref (ad 0)), (2, .int (nI i))]) hx hb dX2_brokenHandles_31 rfl hl (by decide) rfl (fun ls hl => ?_)
      refine lv_iinc (k := 2) (v := nI (i + 1)) (lv' := [(2, .int (nI (i + 1))), (1, .int ((sm (fun h => if τ 23 h = 0 then 0 else 1) i) + (if τ 23 i = 0 then 0 else 1))), (0, .ref (ad 0))]) hx hb dX2_brokenHandles_32 hl rfl (nI_add i 1) (by decide) rfl (fun ls hl => ?_)
      refine lv_goto (tgt := 4) hx hb dX2_brokenHandles_35 (by decide) ?_
      exact ih (by omega) _ _ _ ⟨hV, hS, lv_sub hl [2, 1, 0] rfl⟩
    · skip
      refine lv_iconst (v := 1) hx hb dX2_brokenHandles_25 (by decide) ?_
      refine lv_goto (tgt := 30) hx hb dX2_brokenHandles_26 (by decide) ?_
      refine lv_topi (fun yy eyy => ?_)
      obtain rfl : yy = if τ 23 i = 0 then 0 else 1 := eyy.trans (if_neg c22).symm
      refine lv_iadd hx hb dX2_brokenHandles_30 ?_
      refine lv_istore_n (lv' := [(1, .int ((sm (fun h => if τ 23 h = 0 then 0 else 1) i) + (if τ 23 i = 0 then 0 else 1))), (0, .ref (ad 0)), (2, .int (nI i))]) hx hb dX2_brokenHandles_31 rfl hl (by decide) rfl (fun ls hl => ?_)
      refine lv_iinc (k := 2) (v := nI (i + 1)) (lv' := [(2, .int (nI (i + 1))), (1, .int ((sm (fun h => if τ 23 h = 0 then 0 else 1) i) + (if τ 23 i = 0 then 0 else 1))), (0, .ref (ad 0))]) hx hb dX2_brokenHandles_32 hl rfl (nI_add i 1) (by decide) rfl (fun ls hl => ?_)
      refine lv_goto (tgt := 4) hx hb dX2_brokenHandles_35 (by decide) ?_
      exact ih (by omega) _ _ _ ⟨hV, hS, lv_sub hl [2, 1, 0] rfl⟩

set_option maxHeartbeats 4000000 in
set_option maxRecDepth 100000 in
theorem c_X2_allDailyNeed (l : Launch) (G : wG) (ad : Nat → Nat) (hI : adInj ad 19) (nH nP : Nat) (hH : nH ≤ 10) (hP : nP ≤ 3) (δ τ : wS)  (hv : Inv nH nP τ) : Met l yX2_allDailyNeed wsX2_allDailyNeed ({ frames := 1, cells := 0, slots := 0, locals := 20 } : Room) (Pc0 G [.ref (ad 0)] (CVm G ad nH nP δ τ)) (Qi0 (sm (fun h => if τ 6 h = 0 then ndF τ h else 0) nH) (CVm G ad nH nP δ τ) (AV ad 19)) 0 0 (AV ad 19) := by
  refine Met.ofW (cc := cX2_allDailyNeed) (maxL := 3) (ret := (some .int)) (by decide) rfl ?_
  intro pg ev s mid args below meth cd s₁ B hml hv0
  obtain ⟨rfl, hV, hK⟩ := hv0
  have hx := B.exec
  have hb := B.bytes
  have hr := B.returns
  have hts := atoms_spec (ws := wsX2_allDailyNeed) B.pre
  have hown : s.vm.findClass RX2 = some mid.cls := findClass_of_methodNamed B.named
  have hlocks := B.notSynchronized
  have hi2 : ∀ w ∈ wsX20, w ∈ wsX2_allDailyNeed := by decide +kernel
  have k27 := hts (.fieldLink RX2 27 "PumpRoster$Village" "houseCount" "I") (by decide +kernel)
  have k11 := hts (.fieldLink RX2 11 "PumpRoster$Village" "houses" "[LPumpRoster$House;") (by decide +kernel)
  have hS : va_S (AV ad 19) s.heap s.heap [] := va_S.rf
  have hl := lv_entry ([.ref (ad 0)]) (n := 3) (Nat.le_of_ble_eq_true rfl)
  rw [lg_entry_eq]
  generalize (lg_sl ([.ref (ad 0)]) ++ List.replicate (3 - (lg_sl ([.ref (ad 0)])).length) Slot.unset).toArray = ls at hl ⊢
  have hl : lv_has ls 3 [(0, .ref (ad 0))] := hl
  refine lv_iconst (v := 0) hx hb dX2_allDailyNeed_0 (by decide) ?_
  refine lv_istore_n (lv' := [(1, .int 0), (0, .ref (ad 0))]) hx hb dX2_allDailyNeed_1 rfl hl (by decide) rfl (fun ls hl => ?_)
  refine lv_iconst (v := nI 0) hx hb dX2_allDailyNeed_2 (by decide) ?_
  refine lv_istore_n (lv' := [(2, .int (nI 0)), (1, .int 0), (0, .ref (ad 0))]) hx hb dX2_allDailyNeed_3 rfl hl (by decide) rfl (fun ls hl => ?_)
  refine W_up nH (fun i H locs ls => CVm G ad nH nP δ τ H ∧ va_S (AV ad 19) s.heap H locs ∧ lv_has ls 3 [(0, .ref (ad 0)), (1, .int (sm (fun h => if τ 6 h = 0 then ndF τ h else 0) i)), (2, .int (nI i))]) ?_ 0 (by omega) _ _ _ ⟨hV, hS, lv_sub hl [2, 1, 0] rfl⟩
  intro i H locs ls hi ⟨hV, hS, hl⟩ ih
  refine lv_iload_n hx hb dX2_allDailyNeed_4 rfl (lv_at hl 2 rfl) ?_
  refine lv_aload_n hx hb dX2_allDailyNeed_5 rfl (lv_at hl 0 rfl) ?_
  refine rV 2 (f := 51) (v := nI nH) hx hb hts hi2 hown hK hV (by decide) (by decide) rfl hv.2.2.1 k27 dX2_allDailyNeed_6 ?_
  refine lv_icmp_ge (tgt := 46) hx hb dX2_allDailyNeed_9 (by decide) (fun c9 => ?_) (fun c9 => ?_)
  · skip
    replace c9 := (nI_leI (a := nH) (b := i) (by omega) (by omega)).mp c9
    obtain rfl : nH = i := by omega
    refine lv_iload_n hx hb dX2_allDailyNeed_46 rfl (lv_at hl 1 rfl) ?_
    exact xI hx hb hr hlocks hV hS rfl dX2_allDailyNeed_47
  · skip
    replace c9 : ¬ (nH ≤ i) := fun q => c9 ((nI_leI (a := nH) (b := i) (by omega) (by omega)).mpr q)
    refine lv_iload_n hx hb dX2_allDailyNeed_12 rfl (lv_at hl 1 rfl) ?_
    refine lv_aload_n hx hb dX2_allDailyNeed_13 rfl (lv_at hl 0 rfl) ?_
    refine rVh hx hb hts hi2 hown hK hV k11 dX2_allDailyNeed_14 ?_
    refine lv_iload_n hx hb dX2_allDailyNeed_17 rfl (lv_at hl 2 rfl) ?_
    refine rHA (h := i) hx hb hK hV (by omega) dX2_allDailyNeed_18 ?_
    refine kI (va_runV (As := []) (rest := [.int (sm (fun h => if τ 6 h = 0 then ndF τ h else 0) i)]) ⟨hx, hb, hml, hown, hts⟩ (c_X0_isThere l G ad hI nH nP hH hP δ τ i (by omega)) (cwV 0 hts gX2_allDailyNeed_X0_isThere rfl rfl rfl (by decide +kernel) ⟨Nat.le_of_ble_eq_true rfl, Nat.le_of_ble_eq_true rfl⟩) ⟨Pc0.blind, va_recv hK (va_P1 (hV.2.2.2.1 i (by omega))) (ci := 0) (q0 := 0) rfl rfl, Pc0.pre hV hK⟩ rfl rfl hl.1 rfl (lv_room (Nat.le_of_ble_eq_true rfl)) dX2_allDailyNeed_19 ⟨Nat.zero_le _, Nat.zero_le _⟩) hS (fun _ _ q => q) (fun _ q => q) (fun H locs hV _ _ hS => ?_)
    refine lv_if_eq (tgt := 37) hx hb dX2_allDailyNeed_22 (by decide) (fun c22 => ?_) (fun c22 => ?_)
    · skip
      replace c22 := b0 c22
      refine lv_iconst (v := 0) hx hb dX2_allDailyNeed_37 (by decide) ?_
      refine lv_topi (fun yy eyy => ?_)
      obtain rfl : yy = if τ 6 i = 0 then ndF τ i else 0 := eyy.trans (if_neg c22).symm
      refine lv_iadd hx hb dX2_allDailyNeed_38 ?_
      refine lv_istore_n (lv' := [(1, .int ((sm (fun h => if τ 6 h = 0 then ndF τ h else 0) i) + (if τ 6 i = 0 then ndF τ i else 0))), (0, .ref (ad 0)), (2, .int (nI i))]) hx hb dX2_allDailyNeed_39 rfl hl (by decide) rfl (fun ls hl => ?_)
      refine lv_iinc (k := 2) (v := nI (i + 1)) (lv' := [(2, .int (nI (i + 1))), (1, .int ((sm (fun h => if τ 6 h = 0 then ndF τ h else 0) i) + (if τ 6 i = 0 then ndF τ i else 0))), (0, .ref (ad 0))]) hx hb dX2_allDailyNeed_40 hl rfl (nI_add i 1) (by decide) rfl (fun ls hl => ?_)
      refine lv_goto (tgt := 4) hx hb dX2_allDailyNeed_43 (by decide) ?_
      exact ih (by omega) _ _ _ ⟨hV, hS, lv_sub hl [2, 1, 0] rfl⟩
    · skip
      replace c22 := b1 c22
      refine lv_aload_n hx hb dX2_allDailyNeed_25 rfl (lv_at hl 0 rfl) ?_
      refine rVh hx hb hts hi2 hown hK hV k11 dX2_allDailyNeed_26 ?_
      refine lv_iload_n hx hb dX2_allDailyNeed_29 rfl (lv_at hl 2 rfl) ?_
      refine rHA (h := i) hx hb hK hV (by omega) dX2_allDailyNeed_30 ?_
      refine kI (va_runV (As := []) (rest := [.int (sm (fun h => if τ 6 h = 0 then ndF τ h else 0) i)]) ⟨hx, hb, hml, hown, hts⟩ (c_X0_dailyNeed l G ad hI nH nP hH hP δ τ i (by omega)) (cwV 0 hts gX2_allDailyNeed_X0_dailyNeed rfl rfl rfl (by decide +kernel) ⟨Nat.le_of_ble_eq_true rfl, Nat.le_of_ble_eq_true rfl⟩) ⟨Pc0.blind, va_recv hK (va_P1 (hV.2.2.2.1 i (by omega))) (ci := 0) (q0 := 0) rfl rfl, Pc0.pre hV hK⟩ rfl rfl hl.1 rfl (lv_room (Nat.le_of_ble_eq_true rfl)) dX2_allDailyNeed_31 ⟨Nat.zero_le _, Nat.zero_le _⟩) hS (fun _ _ q => q) (fun _ q => q) (fun H locs hV _ _ hS => ?_)
      refine lv_goto (tgt := 38) hx hb dX2_allDailyNeed_34 (by decide) ?_
      refine lv_topi (fun yy eyy => ?_)
      obtain rfl : yy = if τ 6 i = 0 then ndF τ i else 0 := eyy.trans (if_pos c22).symm
      refine lv_iadd hx hb dX2_allDailyNeed_38 ?_
      refine lv_istore_n (lv' := [(1, .int ((sm (fun h => if τ 6 h = 0 then ndF τ h else 0) i) + (if τ 6 i = 0 then ndF τ i else 0))), (0, .ref (ad 0)), (2, .int (nI i))]) hx hb dX2_allDailyNeed_39 rfl hl (by decide) rfl (fun ls hl => ?_)
      refine lv_iinc (k := 2) (v := nI (i + 1)) (lv' := [(2, .int (nI (i + 1))), (1, .int ((sm (fun h => if τ 6 h = 0 then ndF τ h else 0) i) + (if τ 6 i = 0 then ndF τ i else 0))), (0, .ref (ad 0))]) hx hb dX2_allDailyNeed_40 hl rfl (nI_add i 1) (by decide) rfl (fun ls hl => ?_)
      refine lv_goto (tgt := 4) hx hb dX2_allDailyNeed_43 (by decide) ?_
      exact ih (by omega) _ _ _ ⟨hV, hS, lv_sub hl [2, 1, 0] rfl⟩

set_option maxHeartbeats 4000000 in
set_option maxRecDepth 100000 in
theorem c_X2_keysHeldBy (l : Launch) (G : wG) (ad : Nat → Nat) (hI : adInj ad 19) (nH nP : Nat) (hH : nH ≤ 10) (hP : nP ≤ 3) (δ τ : wS) (x : Int32) (hv : Inv nH nP τ) : Met l yX2_keysHeldBy wsX2_keysHeldBy ({ frames := 0, cells := 0, slots := 0, locals := 0 } : Room) (Pc0 G [.ref (ad 0), .int x] (CVm G ad nH nP δ τ)) (Qi0 (sm (fun h => if τ 25 h = x then 1 else 0) nP) (CVm G ad nH nP δ τ) (AV ad 19)) 0 0 (AV ad 19) := by
  refine Met.ofW (cc := cX2_keysHeldBy) (maxL := 4) (ret := (some .int)) (by decide) rfl ?_
  intro pg ev s mid args below meth cd s₁ B hml hv0
  obtain ⟨rfl, hV, hK⟩ := hv0
  have hx := B.exec
  have hb := B.bytes
  have hr := B.returns
  have hts := atoms_spec (ws := wsX2_keysHeldBy) B.pre
  have hown : s.vm.findClass RX2 = some mid.cls := findClass_of_methodNamed B.named
  have hlocks := B.notSynchronized
  have hi1 : ∀ w ∈ wsX10, w ∈ wsX2_keysHeldBy := by decide +kernel
  have hi2 : ∀ w ∈ wsX20, w ∈ wsX2_keysHeldBy := by decide +kernel
  have k31 := hts (.fieldLink RX2 31 "PumpRoster$Village" "pumpCount" "I") (by decide +kernel)
  have k19 := hts (.fieldLink RX2 19 "PumpRoster$Village" "pumps" "[LPumpRoster$Pump;") (by decide +kernel)
  have k123 := hts (.fieldLink RX2 123 "PumpRoster$Pump" "keyHolder" "I") (by decide +kernel)
  have hS : va_S (AV ad 19) s.heap s.heap [] := va_S.rf
  have hl := lv_entry ([.ref (ad 0), .int x]) (n := 4) (Nat.le_of_ble_eq_true rfl)
  rw [lg_entry_eq]
  generalize (lg_sl ([.ref (ad 0), .int x]) ++ List.replicate (4 - (lg_sl ([.ref (ad 0), .int x])).length) Slot.unset).toArray = ls at hl ⊢
  have hl : lv_has ls 4 [(0, .ref (ad 0)), (1, .int x)] := hl
  refine lv_iconst (v := 0) hx hb dX2_keysHeldBy_0 (by decide) ?_
  refine lv_istore_n (lv' := [(2, .int 0), (0, .ref (ad 0)), (1, .int x)]) hx hb dX2_keysHeldBy_1 rfl hl (by decide) rfl (fun ls hl => ?_)
  refine lv_iconst (v := nI 0) hx hb dX2_keysHeldBy_2 (by decide) ?_
  refine lv_istore_n (lv' := [(3, .int (nI 0)), (2, .int 0), (0, .ref (ad 0)), (1, .int x)]) hx hb dX2_keysHeldBy_3 rfl hl (by decide) rfl (fun ls hl => ?_)
  refine W_up nP (fun i H locs ls => CVm G ad nH nP δ τ H ∧ va_S (AV ad 19) s.heap H locs ∧ lv_has ls 4 [(0, .ref (ad 0)), (1, .int x), (2, .int (sm (fun h => if τ 25 h = x then 1 else 0) i)), (3, .int (nI i))]) ?_ 0 (by omega) _ _ _ ⟨hV, hS, lv_sub hl [2, 3, 1, 0] rfl⟩
  intro i H locs ls hi ⟨hV, hS, hl⟩ ih
  refine lv_iload_n hx hb dX2_keysHeldBy_4 rfl (lv_at hl 3 rfl) ?_
  refine lv_aload_n hx hb dX2_keysHeldBy_5 rfl (lv_at hl 0 rfl) ?_
  refine rV 3 (f := 52) (v := nI nP) hx hb hts hi2 hown hK hV (by decide) (by decide) rfl hv.2.2.2.1 k31 dX2_keysHeldBy_6 ?_
  refine lv_icmp_ge (tgt := 39) hx hb dX2_keysHeldBy_9 (by decide) (fun c9 => ?_) (fun c9 => ?_)
  · skip
    replace c9 := (nI_leI (a := nP) (b := i) (by omega) (by omega)).mp c9
    obtain rfl : nP = i := by omega
    refine lv_iload_n hx hb dX2_keysHeldBy_39 rfl (lv_at hl 2 rfl) ?_
    exact xI hx hb hr hlocks hV hS rfl dX2_keysHeldBy_40
  · skip
    replace c9 : ¬ (nP ≤ i) := fun q => c9 ((nI_leI (a := nP) (b := i) (by omega) (by omega)).mpr q)
    refine lv_iload_n hx hb dX2_keysHeldBy_12 rfl (lv_at hl 2 rfl) ?_
    refine lv_aload_n hx hb dX2_keysHeldBy_13 rfl (lv_at hl 0 rfl) ?_
    refine rVp hx hb hts hi2 hown hK hV k19 dX2_keysHeldBy_14 ?_
    refine lv_iload_n hx hb dX2_keysHeldBy_17 rfl (lv_at hl 3 rfl) ?_
    refine rPA (h := i) hx hb hK hV (by omega) dX2_keysHeldBy_18 ?_
    refine rP 5 (f := 25) (h := i) (v := τ 25 i) hx hb hts hi1 hown hK hV (by omega) hP (by decide) (by decide) rfl rfl k123 dX2_keysHeldBy_19 ?_
    refine lv_iload_n hx hb dX2_keysHeldBy_22 rfl (lv_at hl 1 rfl) ?_
    refine lv_icmp_ne (tgt := 30) hx hb dX2_keysHeldBy_23 (by decide) (fun c23 => ?_) (fun c23 => ?_)
    · skip
      refine lv_iconst (v := 0) hx hb dX2_keysHeldBy_30 (by decide) ?_
      refine lv_topi (fun yy eyy => ?_)
      obtain rfl : yy = if τ 25 i = x then 1 else 0 := eyy.trans (if_neg c23).symm
      refine lv_iadd hx hb dX2_keysHeldBy_31 ?_
      refine lv_istore_n (lv' := [(2, .int ((sm (fun h => if τ 25 h = x then 1 else 0) i) + (if τ 25 i = x then 1 else 0))), (0, .ref (ad 0)), (1, .int x), (3, .int (nI i))]) hx hb dX2_keysHeldBy_32 rfl hl (by decide) rfl (fun ls hl => ?_)
      refine lv_iinc (k := 3) (v := nI (i + 1)) (lv' := [(3, .int (nI (i + 1))), (2, .int ((sm (fun h => if τ 25 h = x then 1 else 0) i) + (if τ 25 i = x then 1 else 0))), (0, .ref (ad 0)), (1, .int x)]) hx hb dX2_keysHeldBy_33 hl rfl (nI_add i 1) (by decide) rfl (fun ls hl => ?_)
      refine lv_goto (tgt := 4) hx hb dX2_keysHeldBy_36 (by decide) ?_
      exact ih (by omega) _ _ _ ⟨hV, hS, lv_sub hl [2, 3, 1, 0] rfl⟩
    · skip
      refine lv_iconst (v := 1) hx hb dX2_keysHeldBy_26 (by decide) ?_
      refine lv_goto (tgt := 31) hx hb dX2_keysHeldBy_27 (by decide) ?_
      refine lv_topi (fun yy eyy => ?_)
      obtain rfl : yy = if τ 25 i = x then 1 else 0 := eyy.trans (if_pos c23).symm
      refine lv_iadd hx hb dX2_keysHeldBy_31 ?_
      refine lv_istore_n (lv' := [(2, .int ((sm (fun h => if τ 25 h = x then 1 else 0) i) + (if τ 25 i = x then 1 else 0))), (0, .ref (ad 0)), (1, .int x), (3, .int (nI i))]) hx hb dX2_keysHeldBy_32 rfl hl (by decide) rfl (fun ls hl => ?_)
      refine lv_iinc (k := 3) (v := nI (i + 1)) (lv' := [(3, .int (nI (i + 1))), (2, .int ((sm (fun h => if τ 25 h = x then 1 else 0) i) + (if τ 25 i = x then 1 else 0))), (0, .ref (ad 0)), (1, .int x)]) hx hb dX2_keysHeldBy_33 hl rfl (nI_add i 1) (by decide) rfl (fun ls hl => ?_)
      refine lv_goto (tgt := 4) hx hb dX2_keysHeldBy_36 (by decide) ?_
      exact ih (by omega) _ _ _ ⟨hV, hS, lv_sub hl [2, 3, 1, 0] rfl⟩

set_option maxHeartbeats 4000000 in
set_option maxRecDepth 100000 in
theorem c_X2_layEggs (l : Launch) (G : wG) (ad : Nat → Nat) (hI : adInj ad 19) (nH nP : Nat) (hH : nH ≤ 10) (hP : nP ≤ 3) (δ τ : wS)  (hv : Inv nH nP τ) : Met l yX2_layEggs wsX2_layEggs ({ frames := 1, cells := 0, slots := 0, locals := 20 } : Room) (Pc0 G [.ref (ad 0)] (CVm G ad nH nP δ τ)) (Qv0 (CVm G ad nH nP δ (itn layF nH τ)) (AV ad 19)) 0 0 (AV ad 19) := by
  refine Met.ofW (cc := cX2_layEggs) (maxL := 2) (ret := none) (by decide) rfl ?_
  intro pg ev s mid args below meth cd s₁ B hml hv0
  obtain ⟨rfl, hV, hK⟩ := hv0
  have hx := B.exec
  have hb := B.bytes
  have hr := B.returns
  have hts := atoms_spec (ws := wsX2_layEggs) B.pre
  have hown : s.vm.findClass RX2 = some mid.cls := findClass_of_methodNamed B.named
  have hlocks := B.notSynchronized
  have hi0 : ∀ w ∈ wsX00, w ∈ wsX2_layEggs := by decide +kernel
  have hi2 : ∀ w ∈ wsX20, w ∈ wsX2_layEggs := by decide +kernel
  have k27 := hts (.fieldLink RX2 27 "PumpRoster$Village" "houseCount" "I") (by decide +kernel)
  have k11 := hts (.fieldLink RX2 11 "PumpRoster$Village" "houses" "[LPumpRoster$House;") (by decide +kernel)
  have k50 := hts (.fieldLink RX2 50 "PumpRoster$House" "eggs" "I") (by decide +kernel)
  have k101 := hts (.fieldLink RX2 101 "PumpRoster$House" "hens" "I") (by decide +kernel)
  have hS : va_S (AV ad 19) s.heap s.heap [] := va_S.rf
  have hl := lv_entry ([.ref (ad 0)]) (n := 2) (Nat.le_of_ble_eq_true rfl)
  rw [lg_entry_eq]
  generalize (lg_sl ([.ref (ad 0)]) ++ List.replicate (2 - (lg_sl ([.ref (ad 0)])).length) Slot.unset).toArray = ls at hl ⊢
  have hl : lv_has ls 2 [(0, .ref (ad 0))] := hl
  refine lv_iconst (v := nI 0) hx hb dX2_layEggs_0 (by decide) ?_
  refine lv_istore_n (lv' := [(1, .int (nI 0)), (0, .ref (ad 0))]) hx hb dX2_layEggs_1 rfl hl (by decide) rfl (fun ls hl => ?_)
  refine W_up nH (fun i H locs ls => CVm G ad nH nP δ (itn layF i τ) H ∧ va_S (AV ad 19) s.heap H locs ∧ lv_has ls 2 [(0, .ref (ad 0)), (1, .int (nI i))]) ?_ 0 (by omega) _ _ _ ⟨hV, hS, lv_sub hl [1, 0] rfl⟩
  intro i H locs ls hi ⟨hV, hS, hl⟩ ih
  have hvi : Inv nH nP (itn layF i τ) := itn_inv hv (fun k hk x hx => hx.oLay)
  refine lv_iload_n hx hb dX2_layEggs_2 rfl (lv_at hl 1 rfl) ?_
  refine lv_aload_n hx hb dX2_layEggs_3 rfl (lv_at hl 0 rfl) ?_
  refine rV 2 (f := 51) (v := nI nH) hx hb hts hi2 hown hK hV (by decide) (by decide) rfl hvi.2.2.1 k27 dX2_layEggs_4 ?_
  refine lv_icmp_ge (tgt := 51) hx hb dX2_layEggs_7 (by decide) (fun c7 => ?_) (fun c7 => ?_)
  · skip
    replace c7 := (nI_leI (a := nH) (b := i) (by omega) (by omega)).mp c7
    obtain rfl : nH = i := by omega
    exact xV hx hb hr hlocks hV hS dX2_layEggs_51
  · skip
    replace c7 : ¬ (nH ≤ i) := fun q => c7 ((nI_leI (a := nH) (b := i) (by omega) (by omega)).mpr q)
    refine lv_aload_n hx hb dX2_layEggs_10 rfl (lv_at hl 0 rfl) ?_
    refine rVh hx hb hts hi2 hown hK hV k11 dX2_layEggs_11 ?_
    refine lv_iload_n hx hb dX2_layEggs_14 rfl (lv_at hl 1 rfl) ?_
    refine rHA (h := i) hx hb hK hV (by omega) dX2_layEggs_15 ?_
    refine kI (va_runV (As := []) (rest := []) ⟨hx, hb, hml, hown, hts⟩ (c_X0_isThere l G ad hI nH nP hH hP δ (itn layF i τ) i (by omega)) (cwV 0 hts gX2_layEggs_X0_isThere rfl rfl rfl (by decide +kernel) ⟨Nat.le_of_ble_eq_true rfl, Nat.le_of_ble_eq_true rfl⟩) ⟨Pc0.blind, va_recv hK (va_P1 (hV.2.2.2.1 i (by omega))) (ci := 0) (q0 := 0) rfl rfl, Pc0.pre hV hK⟩ rfl rfl hl.1 rfl (lv_room (Nat.le_of_ble_eq_true rfl)) dX2_layEggs_16 ⟨Nat.zero_le _, Nat.zero_le _⟩) hS (fun _ _ q => q) (fun _ q => q) (fun H locs hV _ _ hS => ?_)
    refine lv_if_eq (tgt := 45) hx hb dX2_layEggs_19 (by decide) (fun c19 => ?_) (fun c19 => ?_)
    · skip
      replace c19 := b0 c19
      refine lv_iinc (k := 1) (v := nI (i + 1)) (lv' := [(1, .int (nI (i + 1))), (0, .ref (ad 0))]) hx hb dX2_layEggs_45 hl rfl (nI_add i 1) (by decide) rfl (fun ls hl => ?_)
      refine lv_goto (tgt := 2) hx hb dX2_layEggs_48 (by decide) ?_
      exact ih (by omega) _ _ _ ⟨(by rw [itn_s, layF, if_neg c19]; exact hV), hS, lv_sub hl [1, 0] rfl⟩
    · skip
      replace c19 := b1 c19
      refine lv_aload_n hx hb dX2_layEggs_22 rfl (lv_at hl 0 rfl) ?_
      refine rVh hx hb hts hi2 hown hK hV k11 dX2_layEggs_23 ?_
      refine lv_iload_n hx hb dX2_layEggs_26 rfl (lv_at hl 1 rfl) ?_
      refine rHA (h := i) hx hb hK hV (by omega) dX2_layEggs_27 ?_
      refine lv_dup hx hb dX2_layEggs_28 rfl ?_
      refine rH 4 (f := 3) (h := i) (v := (itn layF i τ) 3 i) hx hb hts hi0 hown hK hV (by omega) hH (by decide) (by decide) rfl rfl k50 dX2_layEggs_29 ?_
      refine lv_aload_n hx hb dX2_layEggs_32 rfl (lv_at hl 0 rfl) ?_
      refine rVh hx hb hts hi2 hown hK hV k11 dX2_layEggs_33 ?_
      refine lv_iload_n hx hb dX2_layEggs_36 rfl (lv_at hl 1 rfl) ?_
      refine rHA (h := i) hx hb hK hV (by omega) dX2_layEggs_37 ?_
      refine rH 2 (f := 1) (h := i) (v := (itn layF i τ) 1 i) hx hb hts hi0 hown hK hV (by omega) hH (by decide) (by decide) rfl rfl k101 dX2_layEggs_38 ?_
      refine lv_iadd hx hb dX2_layEggs_41 ?_
      refine wH 4 (f := 3) (h := i) hx hb hts hi0 hown hK hI hV hS (by omega) hH (by decide) (by decide) rfl k50 dX2_layEggs_42 (fun H locs hV hS => ?_)
      refine lv_iinc (k := 1) (v := nI (i + 1)) (lv' := [(1, .int (nI (i + 1))), (0, .ref (ad 0))]) hx hb dX2_layEggs_45 hl rfl (nI_add i 1) (by decide) rfl (fun ls hl => ?_)
      refine lv_goto (tgt := 2) hx hb dX2_layEggs_48 (by decide) ?_
      exact ih (by omega) _ _ _ ⟨(by rw [itn_s, layF, if_pos c19]; exact hV), hS, lv_sub hl [1, 0] rfl⟩

set_option maxHeartbeats 4000000 in
set_option maxRecDepth 100000 in
theorem c_X2_fillWells (l : Launch) (G : wG) (ad : Nat → Nat) (hI : adInj ad 19) (nH nP : Nat) (hH : nH ≤ 10) (hP : nP ≤ 3) (δ τ : wS)  (hv : Inv nH nP τ) : Met l yX2_fillWells wsX2_fillWells ({ frames := 1, cells := 0, slots := 0, locals := 14 } : Room) (Pc0 G [.ref (ad 0)] (CVm G ad nH nP δ τ)) (Qv0 (CVm G ad nH nP δ (itn filF nP τ)) (AV ad 19)) 0 0 (AV ad 19) := by
  refine Met.ofW (cc := cX2_fillWells) (maxL := 2) (ret := none) (by decide) rfl ?_
  intro pg ev s mid args below meth cd s₁ B hml hv0
  obtain ⟨rfl, hV, hK⟩ := hv0
  have hx := B.exec
  have hb := B.bytes
  have hr := B.returns
  have hts := atoms_spec (ws := wsX2_fillWells) B.pre
  have hown : s.vm.findClass RX2 = some mid.cls := findClass_of_methodNamed B.named
  have hlocks := B.notSynchronized
  have hi1 : ∀ w ∈ wsX10, w ∈ wsX2_fillWells := by decide +kernel
  have hi2 : ∀ w ∈ wsX20, w ∈ wsX2_fillWells := by decide +kernel
  have k31 := hts (.fieldLink RX2 31 "PumpRoster$Village" "pumpCount" "I") (by decide +kernel)
  have k19 := hts (.fieldLink RX2 19 "PumpRoster$Village" "pumps" "[LPumpRoster$Pump;") (by decide +kernel)
  have k176 := hts (.fieldLink RX2 176 "PumpRoster$Pump" "level" "I") (by decide +kernel)
  have k197 := hts (.fieldLink RX2 197 "PumpRoster$Pump" "inflow" "I") (by decide +kernel)
  have km53 := hts (.methodLink RX2 53 Lib.Math.min.name) (by decide +kernel)
  have ksmin := hts (.static Lib.Math.min.name) (by decide +kernel)
  have kmath := hts (.initialized "java/lang/Math") (by decide +kernel)
  have kcmin := hts (.code Lib.Math.min.name Lib.Math.min.code 2 (some .int)) (by decide +kernel)
  have hS : va_S (AV ad 19) s.heap s.heap [] := va_S.rf
  have hl := lv_entry ([.ref (ad 0)]) (n := 2) (Nat.le_of_ble_eq_true rfl)
  rw [lg_entry_eq]
  generalize (lg_sl ([.ref (ad 0)]) ++ List.replicate (2 - (lg_sl ([.ref (ad 0)])).length) Slot.unset).toArray = ls at hl ⊢
  have hl : lv_has ls 2 [(0, .ref (ad 0))] := hl
  refine lv_iconst (v := nI 0) hx hb dX2_fillWells_0 (by decide) ?_
  refine lv_istore_n (lv' := [(1, .int (nI 0)), (0, .ref (ad 0))]) hx hb dX2_fillWells_1 rfl hl (by decide) rfl (fun ls hl => ?_)
  refine W_up nP (fun i H locs ls => CVm G ad nH nP δ (itn filF i τ) H ∧ va_S (AV ad 19) s.heap H locs ∧ lv_has ls 2 [(0, .ref (ad 0)), (1, .int (nI i))]) ?_ 0 (by omega) _ _ _ ⟨hV, hS, lv_sub hl [1, 0] rfl⟩
  intro i H locs ls hi ⟨hV, hS, hl⟩ ih
  have hvi : Inv nH nP (itn filF i τ) := itn_inv hv (fun k hk x hx => hx.free (by omega))
  refine lv_iload_n hx hb dX2_fillWells_2 rfl (lv_at hl 1 rfl) ?_
  refine lv_aload_n hx hb dX2_fillWells_3 rfl (lv_at hl 0 rfl) ?_
  refine rV 3 (f := 52) (v := nI nP) hx hb hts hi2 hown hK hV (by decide) (by decide) rfl hvi.2.2.2.1 k31 dX2_fillWells_4 ?_
  refine lv_icmp_ge (tgt := 50) hx hb dX2_fillWells_7 (by decide) (fun c7 => ?_) (fun c7 => ?_)
  · skip
    replace c7 := (nI_leI (a := nP) (b := i) (by omega) (by omega)).mp c7
    obtain rfl : nP = i := by omega
    exact xV hx hb hr hlocks hV hS dX2_fillWells_50
  · skip
    replace c7 : ¬ (nP ≤ i) := fun q => c7 ((nI_leI (a := nP) (b := i) (by omega) (by omega)).mpr q)
    refine lv_aload_n hx hb dX2_fillWells_10 rfl (lv_at hl 0 rfl) ?_
    refine rVp hx hb hts hi2 hown hK hV k19 dX2_fillWells_11 ?_
    refine lv_iload_n hx hb dX2_fillWells_14 rfl (lv_at hl 1 rfl) ?_
    refine rPA (h := i) hx hb hK hV (by omega) dX2_fillWells_15 ?_
    refine lv_sipush (v := 200) hx hb dX2_fillWells_16 (by decide) ?_
    refine lv_aload_n hx hb dX2_fillWells_19 rfl (lv_at hl 0 rfl) ?_
    refine rVp hx hb hts hi2 hown hK hV k19 dX2_fillWells_20 ?_
    refine lv_iload_n hx hb dX2_fillWells_23 rfl (lv_at hl 1 rfl) ?_
    refine rPA (h := i) hx hb hK hV (by omega) dX2_fillWells_24 ?_
    refine rP 0 (f := 20) (h := i) (v := (itn filF i τ) 20 i) hx hb hts hi1 hown hK hV (by omega) hP (by decide) (by decide) rfl rfl k176 dX2_fillWells_25 ?_
    refine lv_aload_n hx hb dX2_fillWells_28 rfl (lv_at hl 0 rfl) ?_
    refine rVp hx hb hts hi2 hown hK hV k19 dX2_fillWells_29 ?_
    refine lv_iload_n hx hb dX2_fillWells_32 rfl (lv_at hl 1 rfl) ?_
    refine rPA (h := i) hx hb hK hV (by omega) dX2_fillWells_33 ?_
    refine rP 1 (f := 21) (h := i) (v := (itn filF i τ) 21 i) hx hb hts hi1 hown hK hV (by omega) hP (by decide) (by decide) rfl rfl k197 dX2_fillWells_34 ?_
    refine lv_iadd hx hb dX2_fillWells_37 ?_
    refine va_mmin hx hb (hml.trans hl.1.symm) hown km53 ksmin kmath kcmin (Nat.le_of_ble_eq_true rfl) (Nat.le_of_ble_eq_true rfl) (Nat.zero_le _) (Nat.zero_le _) dX2_fillWells_38 ?_
    refine lv_topi (fun y1 ey1 => ?_)
    obtain rfl : y1 = i32min 200 (itn filF i τ 20 i + itn filF i τ 21 i) := ey1.trans rfl
    refine wP 0 (f := 20) (h := i) hx hb hts hi1 hown hK hI hV hS (by omega) hP (by decide) (by decide) rfl rfl rfl k176 dX2_fillWells_41 (fun H locs hV hS => ?_)
    refine lv_iinc (k := 1) (v := nI (i + 1)) (lv' := [(1, .int (nI (i + 1))), (0, .ref (ad 0))]) hx hb dX2_fillWells_44 hl rfl (nI_add i 1) (by decide) rfl (fun ls hl => ?_)
    refine lv_goto (tgt := 2) hx hb dX2_fillWells_47 (by decide) ?_
    exact ih (by omega) _ _ _ ⟨(by rw [itn_s, filF]; exact hV), hS, lv_sub hl [1, 0] rfl⟩

set_option maxHeartbeats 4000000 in
set_option maxRecDepth 100000 in
theorem c_X2_workOnHandle (l : Launch) (G : wG) (ad : Nat → Nat) (hI : adInj ad 19) (nH nP : Nat) (hH : nH ≤ 10) (hP : nP ≤ 3) (δ τ : wS) (p : Nat) (hp : p < nP) : Met l yX2_workOnHandle wsX2_workOnHandle ({ frames := 1, cells := 0, slots := 0, locals := 20 } : Room) (Pc0 G [.ref (ad 0), .ref (ad (13 + p))] (CVm G ad nH nP δ τ)) (Qv0 (CVm G ad nH nP δ (wrkF p τ)) (AV ad 19)) 0 0 (AV ad 19) := by
  refine Met.ofW (cc := cX2_workOnHandle) (maxL := 2) (ret := none) (by decide) rfl ?_
  intro pg ev s mid args below meth cd s₁ B hml hv0
  obtain ⟨rfl, hV, hK⟩ := hv0
  have hx := B.exec
  have hb := B.bytes
  have hr := B.returns
  have hts := atoms_spec (ws := wsX2_workOnHandle) B.pre
  have hown : s.vm.findClass RX2 = some mid.cls := findClass_of_methodNamed B.named
  have hlocks := B.notSynchronized
  have hi1 : ∀ w ∈ wsX10, w ∈ wsX2_workOnHandle := by decide +kernel
  have hi2 : ∀ w ∈ wsX20, w ∈ wsX2_workOnHandle := by decide +kernel
  have k191 := hts (.fieldLink RX2 191 "PumpRoster$Pump" "daysToWait" "I") (by decide +kernel)
  have k34 := hts (.fieldLink RX2 34 "PumpRoster$Village" "chest" "I") (by decide +kernel)
  have hS : va_S (AV ad 19) s.heap s.heap [] := va_S.rf
  have hl := lv_entry ([.ref (ad 0), .ref (ad (13 + p))]) (n := 2) (Nat.le_of_ble_eq_true rfl)
  rw [lg_entry_eq]
  generalize (lg_sl ([.ref (ad 0), .ref (ad (13 + p))]) ++ List.replicate (2 - (lg_sl ([.ref (ad 0), .ref (ad (13 + p))])).length) Slot.unset).toArray = ls at hl ⊢
  have hl : lv_has ls 2 [(0, .ref (ad 0)), (1, .ref (ad (13 + p)))] := hl
  refine lv_aload_n hx hb dX2_workOnHandle_0 rfl (lv_at hl 1 rfl) ?_
  refine rP 4 (f := 24) (h := p) (v := τ 24 p) hx hb hts hi1 hown hK hV (by omega) hP (by decide) (by decide) rfl rfl k191 dX2_workOnHandle_1 ?_
  refine lv_if_le (tgt := 17) hx hb dX2_workOnHandle_4 (by decide) (fun c4 => ?_) (fun c4 => ?_)
  · skip
    have c4' : ¬ 0 < τ 24 p := i32_nlt c4
    have ew : τ = w1F p τ := (if_neg c4').symm
    rw [ew] at hV
    refine lv_aload_n hx hb dX2_workOnHandle_17 rfl (lv_at hl 1 rfl) ?_
    refine rP 4 (f := 24) (h := p) (v := (w1F p τ) 24 p) hx hb hts hi1 hown hK hV (by omega) hP (by decide) (by decide) rfl rfl k191 dX2_workOnHandle_18 ?_
    refine lv_if_ne (tgt := 48) hx hb dX2_workOnHandle_21 (by decide) (fun c21 => ?_) (fun c21 => ?_)
    · skip
      exact xV hx hb hr hlocks (by rw [wrkF, if_neg (fun q => c21 q.1)]; exact hV) hS dX2_workOnHandle_48
    · skip
      refine lv_aload_n hx hb dX2_workOnHandle_24 rfl (lv_at hl 0 rfl) ?_
      refine rV 4 (f := 53) (v := τ 53 0) hx hb hts hi2 hown hK hV (by decide) (by decide) rfl w1F_53 k34 dX2_workOnHandle_25 ?_
      refine lv_bipush (v := 10) hx hb dX2_workOnHandle_28 (by decide) ?_
      refine lv_icmp_lt (tgt := 48) hx hb dX2_workOnHandle_30 (by decide) (fun c30 => ?_) (fun c30 => ?_)
      · skip
        exact xV hx hb hr hlocks (by rw [wrkF, if_neg (fun q => i32_nle c30 q.2)]; exact hV) hS dX2_workOnHandle_48
      · skip
        refine lv_aload_n hx hb dX2_workOnHandle_33 rfl (lv_at hl 0 rfl) ?_
        refine lv_dup hx hb dX2_workOnHandle_34 rfl ?_
        refine rV 4 (f := 53) (v := τ 53 0) hx hb hts hi2 hown hK hV (by decide) (by decide) rfl w1F_53 k34 dX2_workOnHandle_35 ?_
        refine lv_bipush (v := 10) hx hb dX2_workOnHandle_38 (by decide) ?_
        refine lv_isub hx hb dX2_workOnHandle_40 ?_
        refine wV 4 (f := 53) hx hb hts hi2 hown hK hI hV hS (by decide) (by decide) rfl k34 dX2_workOnHandle_41 (fun H locs hV hS => ?_)
        refine lv_aload_n hx hb dX2_workOnHandle_44 rfl (lv_at hl 1 rfl) ?_
        refine kV (va_runV (As := []) (rest := []) ⟨hx, hb, hml, hown, hts⟩ (c_X1_mendHandle l G ad hI nH nP hH hP δ (wst (w1F p τ) 53 0 ((τ 53 0) - 10)) p (by omega)) (cwV 0 hts gX2_workOnHandle_X1_mendHandle rfl rfl rfl (by decide +kernel) ⟨Nat.le_of_ble_eq_true rfl, Nat.le_of_ble_eq_true rfl⟩) ⟨Pc0.blind, va_recv hK (va_P1 (hV.2.2.2.2.1 p (by omega))) (ci := 1) (q0 := 0) rfl rfl, Pc0.pre hV hK⟩ rfl rfl hl.1 rfl (lv_room (Nat.le_of_ble_eq_true rfl)) dX2_workOnHandle_45 ⟨Nat.zero_le _, Nat.zero_le _⟩) hS (fun _ _ q => q) (fun _ q => q) (fun H locs hV _ _ hS => ?_)
        exact xV hx hb hr hlocks (by rw [wrkF, if_pos ⟨c21, i32_le c30⟩]; rw [wst_f (f := 53) (g := 30) (by decide), w1F_30] at hV; exact hV) hS dX2_workOnHandle_48
  · skip
    have c4' : 0 < τ 24 p := i32_ltn c4
    refine lv_aload_n hx hb dX2_workOnHandle_7 rfl (lv_at hl 1 rfl) ?_
    refine lv_dup hx hb dX2_workOnHandle_8 rfl ?_
    refine rP 4 (f := 24) (h := p) (v := τ 24 p) hx hb hts hi1 hown hK hV (by omega) hP (by decide) (by decide) rfl rfl k191 dX2_workOnHandle_9 ?_
    refine lv_iconst (v := 1) hx hb dX2_workOnHandle_12 (by decide) ?_
    refine lv_isub hx hb dX2_workOnHandle_13 ?_
    refine wP 4 (f := 24) (h := p) hx hb hts hi1 hown hK hI hV hS (by omega) hP (by decide) (by decide) rfl rfl rfl k191 dX2_workOnHandle_14 (fun H locs hV hS => ?_)
    have ew : wst τ 24 p ((τ 24 p) - 1) = w1F p τ := (if_pos c4').symm
    rw [ew] at hV
    refine lv_aload_n hx hb dX2_workOnHandle_17 rfl (lv_at hl 1 rfl) ?_
    refine rP 4 (f := 24) (h := p) (v := (w1F p τ) 24 p) hx hb hts hi1 hown hK hV (by omega) hP (by decide) (by decide) rfl rfl k191 dX2_workOnHandle_18 ?_
    refine lv_if_ne (tgt := 48) hx hb dX2_workOnHandle_21 (by decide) (fun c21 => ?_) (fun c21 => ?_)
    · skip
      exact xV hx hb hr hlocks (by rw [wrkF, if_neg (fun q => c21 q.1)]; exact hV) hS dX2_workOnHandle_48
    · skip
      refine lv_aload_n hx hb dX2_workOnHandle_24 rfl (lv_at hl 0 rfl) ?_
      refine rV 4 (f := 53) (v := τ 53 0) hx hb hts hi2 hown hK hV (by decide) (by decide) rfl w1F_53 k34 dX2_workOnHandle_25 ?_
      refine lv_bipush (v := 10) hx hb dX2_workOnHandle_28 (by decide) ?_
      refine lv_icmp_lt (tgt := 48) hx hb dX2_workOnHandle_30 (by decide) (fun c30 => ?_) (fun c30 => ?_)
      · skip
        exact xV hx hb hr hlocks (by rw [wrkF, if_neg (fun q => i32_nle c30 q.2)]; exact hV) hS dX2_workOnHandle_48
      · skip
        refine lv_aload_n hx hb dX2_workOnHandle_33 rfl (lv_at hl 0 rfl) ?_
        refine lv_dup hx hb dX2_workOnHandle_34 rfl ?_
        refine rV 4 (f := 53) (v := τ 53 0) hx hb hts hi2 hown hK hV (by decide) (by decide) rfl w1F_53 k34 dX2_workOnHandle_35 ?_
        refine lv_bipush (v := 10) hx hb dX2_workOnHandle_38 (by decide) ?_
        refine lv_isub hx hb dX2_workOnHandle_40 ?_
        refine wV 4 (f := 53) hx hb hts hi2 hown hK hI hV hS (by decide) (by decide) rfl k34 dX2_workOnHandle_41 (fun H locs hV hS => ?_)
        refine lv_aload_n hx hb dX2_workOnHandle_44 rfl (lv_at hl 1 rfl) ?_
        refine kV (va_runV (As := []) (rest := []) ⟨hx, hb, hml, hown, hts⟩ (c_X1_mendHandle l G ad hI nH nP hH hP δ (wst (w1F p τ) 53 0 ((τ 53 0) - 10)) p (by omega)) (cwV 0 hts gX2_workOnHandle_X1_mendHandle rfl rfl rfl (by decide +kernel) ⟨Nat.le_of_ble_eq_true rfl, Nat.le_of_ble_eq_true rfl⟩) ⟨Pc0.blind, va_recv hK (va_P1 (hV.2.2.2.2.1 p (by omega))) (ci := 1) (q0 := 0) rfl rfl, Pc0.pre hV hK⟩ rfl rfl hl.1 rfl (lv_room (Nat.le_of_ble_eq_true rfl)) dX2_workOnHandle_45 ⟨Nat.zero_le _, Nat.zero_le _⟩) hS (fun _ _ q => q) (fun _ q => q) (fun H locs hV _ _ hS => ?_)
        exact xV hx hb hr hlocks (by rw [wrkF, if_pos ⟨c21, i32_le c30⟩]; rw [wst_f (f := 53) (g := 30) (by decide), w1F_30] at hV; exact hV) hS dX2_workOnHandle_48

set_option maxHeartbeats 4000000 in
set_option maxRecDepth 100000 in
theorem c_X2_mendHandles (l : Launch) (G : wG) (ad : Nat → Nat) (hI : adInj ad 19) (nH nP : Nat) (hH : nH ≤ 10) (hP : nP ≤ 3) (δ τ : wS)  (hv : Inv nH nP τ) : Met l yX2_mendHandles wsX2_mendHandles ({ frames := 2, cells := 0, slots := 0, locals := 41 } : Room) (Pc0 G [.ref (ad 0)] (CVm G ad nH nP δ τ)) (Qv0 (CVm G ad nH nP δ (itn mndF nP τ)) (AV ad 19)) 0 0 (AV ad 19) := by
  refine Met.ofW (cc := cX2_mendHandles) (maxL := 2) (ret := none) (by decide) rfl ?_
  intro pg ev s mid args below meth cd s₁ B hml hv0
  obtain ⟨rfl, hV, hK⟩ := hv0
  have hx := B.exec
  have hb := B.bytes
  have hr := B.returns
  have hts := atoms_spec (ws := wsX2_mendHandles) B.pre
  have hown : s.vm.findClass RX2 = some mid.cls := findClass_of_methodNamed B.named
  have hlocks := B.notSynchronized
  have hi1 : ∀ w ∈ wsX10, w ∈ wsX2_mendHandles := by decide +kernel
  have hi2 : ∀ w ∈ wsX20, w ∈ wsX2_mendHandles := by decide +kernel
  have k31 := hts (.fieldLink RX2 31 "PumpRoster$Village" "pumpCount" "I") (by decide +kernel)
  have k19 := hts (.fieldLink RX2 19 "PumpRoster$Village" "pumps" "[LPumpRoster$Pump;") (by decide +kernel)
  have k173 := hts (.fieldLink RX2 173 "PumpRoster$Pump" "broken" "Z") (by decide +kernel)
  have k108 := hts (.fieldLink RX2 108 "PumpRoster$Pump" "brokeToday" "Z") (by decide +kernel)
  have hS : va_S (AV ad 19) s.heap s.heap [] := va_S.rf
  have hl := lv_entry ([.ref (ad 0)]) (n := 2) (Nat.le_of_ble_eq_true rfl)
  rw [lg_entry_eq]
  generalize (lg_sl ([.ref (ad 0)]) ++ List.replicate (2 - (lg_sl ([.ref (ad 0)])).length) Slot.unset).toArray = ls at hl ⊢
  have hl : lv_has ls 2 [(0, .ref (ad 0))] := hl
  refine lv_iconst (v := nI 0) hx hb dX2_mendHandles_0 (by decide) ?_
  refine lv_istore_n (lv' := [(1, .int (nI 0)), (0, .ref (ad 0))]) hx hb dX2_mendHandles_1 rfl hl (by decide) rfl (fun ls hl => ?_)
  refine W_up nP (fun i H locs ls => CVm G ad nH nP δ (itn mndF i τ) H ∧ va_S (AV ad 19) s.heap H locs ∧ lv_has ls 2 [(0, .ref (ad 0)), (1, .int (nI i))]) ?_ 0 (by omega) _ _ _ ⟨hV, hS, lv_sub hl [1, 0] rfl⟩
  intro i H locs ls hi ⟨hV, hS, hl⟩ ih
  have hvi : Inv nH nP (itn mndF i τ) := itn_inv hv (fun k hk x hx => hx.oMnd (by omega))
  refine lv_iload_n hx hb dX2_mendHandles_2 rfl (lv_at hl 1 rfl) ?_
  refine lv_aload_n hx hb dX2_mendHandles_3 rfl (lv_at hl 0 rfl) ?_
  refine rV 3 (f := 52) (v := nI nP) hx hb hts hi2 hown hK hV (by decide) (by decide) rfl hvi.2.2.2.1 k31 dX2_mendHandles_4 ?_
  refine lv_icmp_ge (tgt := 50) hx hb dX2_mendHandles_7 (by decide) (fun c7 => ?_) (fun c7 => ?_)
  · skip
    replace c7 := (nI_leI (a := nP) (b := i) (by omega) (by omega)).mp c7
    obtain rfl : nP = i := by omega
    exact xV hx hb hr hlocks hV hS dX2_mendHandles_50
  · skip
    replace c7 : ¬ (nP ≤ i) := fun q => c7 ((nI_leI (a := nP) (b := i) (by omega) (by omega)).mpr q)
    refine lv_aload_n hx hb dX2_mendHandles_10 rfl (lv_at hl 0 rfl) ?_
    refine rVp hx hb hts hi2 hown hK hV k19 dX2_mendHandles_11 ?_
    refine lv_iload_n hx hb dX2_mendHandles_14 rfl (lv_at hl 1 rfl) ?_
    refine rPA (h := i) hx hb hK hV (by omega) dX2_mendHandles_15 ?_
    refine rP 3 (f := 23) (h := i) (v := (itn mndF i τ) 23 i) hx hb hts hi1 hown hK hV (by omega) hP (by decide) (by decide) rfl rfl k173 dX2_mendHandles_16 ?_
    refine lv_if_eq (tgt := 44) hx hb dX2_mendHandles_19 (by decide) (fun c19 => ?_) (fun c19 => ?_)
    · skip
      refine lv_iinc (k := 1) (v := nI (i + 1)) (lv' := [(1, .int (nI (i + 1))), (0, .ref (ad 0))]) hx hb dX2_mendHandles_44 hl rfl (nI_add i 1) (by decide) rfl (fun ls hl => ?_)
      refine lv_goto (tgt := 2) hx hb dX2_mendHandles_47 (by decide) ?_
      exact ih (by omega) _ _ _ ⟨(by rw [itn_s, mndF, if_pos (Or.inl c19)]; exact hV), hS, lv_sub hl [1, 0] rfl⟩
    · skip
      refine lv_aload_n hx hb dX2_mendHandles_22 rfl (lv_at hl 0 rfl) ?_
      refine rVp hx hb hts hi2 hown hK hV k19 dX2_mendHandles_23 ?_
      refine lv_iload_n hx hb dX2_mendHandles_26 rfl (lv_at hl 1 rfl) ?_
      refine rPA (h := i) hx hb hK hV (by omega) dX2_mendHandles_27 ?_
      refine rP 13 (f := 32) (h := i) (v := (itn mndF i τ) 32 i) hx hb hts hi1 hown hK hV (by omega) hP (by decide) (by decide) rfl rfl k108 dX2_mendHandles_28 ?_
      refine lv_if_ne (tgt := 44) hx hb dX2_mendHandles_31 (by decide) (fun c31 => ?_) (fun c31 => ?_)
      · skip
        refine lv_iinc (k := 1) (v := nI (i + 1)) (lv' := [(1, .int (nI (i + 1))), (0, .ref (ad 0))]) hx hb dX2_mendHandles_44 hl rfl (nI_add i 1) (by decide) rfl (fun ls hl => ?_)
        refine lv_goto (tgt := 2) hx hb dX2_mendHandles_47 (by decide) ?_
        exact ih (by omega) _ _ _ ⟨(by rw [itn_s, mndF, if_pos (Or.inr c31)]; exact hV), hS, lv_sub hl [1, 0] rfl⟩
      · skip
        refine lv_aload_n hx hb dX2_mendHandles_34 rfl (lv_at hl 0 rfl) ?_
        refine lv_aload_n hx hb dX2_mendHandles_35 rfl (lv_at hl 0 rfl) ?_
        refine rVp hx hb hts hi2 hown hK hV k19 dX2_mendHandles_36 ?_
        refine lv_iload_n hx hb dX2_mendHandles_39 rfl (lv_at hl 1 rfl) ?_
        refine rPA (h := i) hx hb hK hV (by omega) dX2_mendHandles_40 ?_
        refine kV (va_runV (As := [.ref (ad (13 + i))]) (rest := []) ⟨hx, hb, hml, hown, hts⟩ (c_X2_workOnHandle l G ad hI nH nP hH hP δ (itn mndF i τ) i (by omega)) (cwV 1 hts gX2_mendHandles_X2_workOnHandle rfl rfl rfl (by decide +kernel) ⟨Nat.le_of_ble_eq_true rfl, Nat.le_of_ble_eq_true rfl⟩) ⟨Pc0.blind, va_recv hK (va_P1 (hV.1)) (ci := 2) (q0 := 0) rfl rfl, Pc0.pre hV hK⟩ rfl rfl hl.1 rfl (lv_room (Nat.le_of_ble_eq_true rfl)) dX2_mendHandles_41 ⟨Nat.zero_le _, Nat.zero_le _⟩) hS (fun _ _ q => q) (fun _ q => q) (fun H locs hV _ _ hS => ?_)
        refine lv_iinc (k := 1) (v := nI (i + 1)) (lv' := [(1, .int (nI (i + 1))), (0, .ref (ad 0))]) hx hb dX2_mendHandles_44 hl rfl (nI_add i 1) (by decide) rfl (fun ls hl => ?_)
        refine lv_goto (tgt := 2) hx hb dX2_mendHandles_47 (by decide) ?_
        exact ih (by omega) _ _ _ ⟨(by rw [itn_s, mndF, if_neg (fun q => q.elim c19 (fun z => z c31))]; exact hV), hS, lv_sub hl [1, 0] rfl⟩

set_option maxHeartbeats 4000000 in
set_option maxRecDepth 100000 in
theorem c_X2_endDay (l : Launch) (G : wG) (ad : Nat → Nat) (hI : adInj ad 19) (nH nP : Nat) (hH : nH ≤ 10) (hP : nP ≤ 3) (δ τ : wS)  (hv : Inv nH nP τ) : Met l yX2_endDay wsX2_endDay ({ frames := 1, cells := 0, slots := 0, locals := 20 } : Room) (Pc0 G [.ref (ad 0)] (CVm G ad nH nP δ τ)) (Qv0 (CVm G ad nH nP δ (endF nH τ)) (AV ad 19)) 0 0 (AV ad 19) := by
  refine Met.ofW (cc := cX2_endDay) (maxL := 2) (ret := none) (by decide) rfl ?_
  intro pg ev s mid args below meth cd s₁ B hml hv0
  obtain ⟨rfl, hV, hK⟩ := hv0
  have hx := B.exec
  have hb := B.bytes
  have hr := B.returns
  have hts := atoms_spec (ws := wsX2_endDay) B.pre
  have hown : s.vm.findClass RX2 = some mid.cls := findClass_of_methodNamed B.named
  have hlocks := B.notSynchronized
  have hi0 : ∀ w ∈ wsX00, w ∈ wsX2_endDay := by decide +kernel
  have hi2 : ∀ w ∈ wsX20, w ∈ wsX2_endDay := by decide +kernel
  have k27 := hts (.fieldLink RX2 27 "PumpRoster$Village" "houseCount" "I") (by decide +kernel)
  have k37 := hts (.fieldLink RX2 37 "PumpRoster$Village" "day" "I") (by decide +kernel)
  have k11 := hts (.fieldLink RX2 11 "PumpRoster$Village" "houses" "[LPumpRoster$House;") (by decide +kernel)
  have k203 := hts (.fieldLink RX2 203 "PumpRoster$House" "daysAway" "I") (by decide +kernel)
  have hS : va_S (AV ad 19) s.heap s.heap [] := va_S.rf
  have hl := lv_entry ([.ref (ad 0)]) (n := 2) (Nat.le_of_ble_eq_true rfl)
  rw [lg_entry_eq]
  generalize (lg_sl ([.ref (ad 0)]) ++ List.replicate (2 - (lg_sl ([.ref (ad 0)])).length) Slot.unset).toArray = ls at hl ⊢
  have hl : lv_has ls 2 [(0, .ref (ad 0))] := hl
  refine lv_iconst (v := nI 0) hx hb dX2_endDay_0 (by decide) ?_
  refine lv_istore_n (lv' := [(1, .int (nI 0)), (0, .ref (ad 0))]) hx hb dX2_endDay_1 rfl hl (by decide) rfl (fun ls hl => ?_)
  refine W_up nH (fun i H locs ls => CVm G ad nH nP δ (itn bckF i τ) H ∧ va_S (AV ad 19) s.heap H locs ∧ lv_has ls 2 [(0, .ref (ad 0)), (1, .int (nI i))]) ?_ 0 (by omega) _ _ _ ⟨hV, hS, lv_sub hl [1, 0] rfl⟩
  intro i H locs ls hi ⟨hV, hS, hl⟩ ih
  have hvi : Inv nH nP (itn bckF i τ) := itn_inv hv (fun k hk x hx => hx.oBck (by omega))
  refine lv_iload_n hx hb dX2_endDay_2 rfl (lv_at hl 1 rfl) ?_
  refine lv_aload_n hx hb dX2_endDay_3 rfl (lv_at hl 0 rfl) ?_
  refine rV 2 (f := 51) (v := nI nH) hx hb hts hi2 hown hK hV (by decide) (by decide) rfl hvi.2.2.1 k27 dX2_endDay_4 ?_
  refine lv_icmp_ge (tgt := 43) hx hb dX2_endDay_7 (by decide) (fun c7 => ?_) (fun c7 => ?_)
  · skip
    replace c7 := (nI_leI (a := nH) (b := i) (by omega) (by omega)).mp c7
    obtain rfl : nH = i := by omega
    refine lv_aload_n hx hb dX2_endDay_43 rfl (lv_at hl 0 rfl) ?_
    refine lv_dup hx hb dX2_endDay_44 rfl ?_
    refine rV 5 (f := 50) (v := τ 50 0) hx hb hts hi2 hown hK hV (by decide) (by decide) rfl bck_50 k37 dX2_endDay_45 ?_
    refine lv_iconst (v := 1) hx hb dX2_endDay_48 (by decide) ?_
    refine lv_iadd hx hb dX2_endDay_49 ?_
    refine wV 5 (f := 50) hx hb hts hi2 hown hK hI hV hS (by decide) (by decide) rfl k37 dX2_endDay_50 (fun H locs hV hS => ?_)
    exact xV hx hb hr hlocks (by rw [endF]; exact hV) hS dX2_endDay_53
  · skip
    replace c7 : ¬ (nH ≤ i) := fun q => c7 ((nI_leI (a := nH) (b := i) (by omega) (by omega)).mpr q)
    refine lv_aload_n hx hb dX2_endDay_10 rfl (lv_at hl 0 rfl) ?_
    refine rVh hx hb hts hi2 hown hK hV k11 dX2_endDay_11 ?_
    refine lv_iload_n hx hb dX2_endDay_14 rfl (lv_at hl 1 rfl) ?_
    refine rHA (h := i) hx hb hK hV (by omega) dX2_endDay_15 ?_
    refine kI (va_runV (As := []) (rest := []) ⟨hx, hb, hml, hown, hts⟩ (c_X0_isThere l G ad hI nH nP hH hP δ (itn bckF i τ) i (by omega)) (cwV 0 hts gX2_endDay_X0_isThere rfl rfl rfl (by decide +kernel) ⟨Nat.le_of_ble_eq_true rfl, Nat.le_of_ble_eq_true rfl⟩) ⟨Pc0.blind, va_recv hK (va_P1 (hV.2.2.2.1 i (by omega))) (ci := 0) (q0 := 0) rfl rfl, Pc0.pre hV hK⟩ rfl rfl hl.1 rfl (lv_room (Nat.le_of_ble_eq_true rfl)) dX2_endDay_16 ⟨Nat.zero_le _, Nat.zero_le _⟩) hS (fun _ _ q => q) (fun _ q => q) (fun H locs hV _ _ hS => ?_)
    refine lv_if_ne (tgt := 37) hx hb dX2_endDay_19 (by decide) (fun c19 => ?_) (fun c19 => ?_)
    · skip
      replace c19 := b1 c19
      refine lv_iinc (k := 1) (v := nI (i + 1)) (lv' := [(1, .int (nI (i + 1))), (0, .ref (ad 0))]) hx hb dX2_endDay_37 hl rfl (nI_add i 1) (by decide) rfl (fun ls hl => ?_)
      refine lv_goto (tgt := 2) hx hb dX2_endDay_40 (by decide) ?_
      exact ih (by omega) _ _ _ ⟨(by rw [itn_s, bckF, if_pos c19]; exact hV), hS, lv_sub hl [1, 0] rfl⟩
    · skip
      replace c19 := b0 c19
      refine lv_aload_n hx hb dX2_endDay_22 rfl (lv_at hl 0 rfl) ?_
      refine rVh hx hb hts hi2 hown hK hV k11 dX2_endDay_23 ?_
      refine lv_iload_n hx hb dX2_endDay_26 rfl (lv_at hl 1 rfl) ?_
      refine rHA (h := i) hx hb hK hV (by omega) dX2_endDay_27 ?_
      refine lv_dup hx hb dX2_endDay_28 rfl ?_
      refine rH 6 (f := 6) (h := i) (v := (itn bckF i τ) 6 i) hx hb hts hi0 hown hK hV (by omega) hH (by decide) (by decide) rfl rfl k203 dX2_endDay_29 ?_
      refine lv_iconst (v := 1) hx hb dX2_endDay_32 (by decide) ?_
      refine lv_isub hx hb dX2_endDay_33 ?_
      refine wH 6 (f := 6) (h := i) hx hb hts hi0 hown hK hI hV hS (by omega) hH (by decide) (by decide) rfl k203 dX2_endDay_34 (fun H locs hV hS => ?_)
      refine lv_iinc (k := 1) (v := nI (i + 1)) (lv' := [(1, .int (nI (i + 1))), (0, .ref (ad 0))]) hx hb dX2_endDay_37 hl rfl (nI_add i 1) (by decide) rfl (fun ls hl => ?_)
      refine lv_goto (tgt := 2) hx hb dX2_endDay_40 (by decide) ?_
      exact ih (by omega) _ _ _ ⟨(by rw [itn_s, bckF, if_neg c19]; exact hV), hS, lv_sub hl [1, 0] rfl⟩

set_option maxHeartbeats 4000000 in
set_option maxRecDepth 100000 in
theorem c_X2_shareChest (l : Launch) (G : wG) (ad : Nat → Nat) (hI : adInj ad 19) (nH nP : Nat) (hH : nH ≤ 10) (hP : nP ≤ 3) (δ τ : wS)  (hv : Inv nH nP τ) : Met l yX2_shareChest wsX2_shareChest ({ frames := 1, cells := 0, slots := 0, locals := 22 } : Room) (Pc0 G [.ref (ad 0)] (CVm G ad nH nP δ τ)) (Qv0 (CVm G ad nH nP δ (shrF nH τ)) (AV ad 19)) 0 0 (AV ad 19) := by
  refine Met.ofW (cc := cX2_shareChest) (maxL := 4) (ret := none) (by decide) rfl ?_
  intro pg ev s mid args below meth cd s₁ B hml hv0
  obtain ⟨rfl, hV, hK⟩ := hv0
  have hx := B.exec
  have hb := B.bytes
  have hr := B.returns
  have hts := atoms_spec (ws := wsX2_shareChest) B.pre
  have hown : s.vm.findClass RX2 = some mid.cls := findClass_of_methodNamed B.named
  have hlocks := B.notSynchronized
  have hi0 : ∀ w ∈ wsX00, w ∈ wsX2_shareChest := by decide +kernel
  have hi2 : ∀ w ∈ wsX20, w ∈ wsX2_shareChest := by decide +kernel
  have k37 := hts (.fieldLink RX2 37 "PumpRoster$Village" "day" "I") (by decide +kernel)
  have k34 := hts (.fieldLink RX2 34 "PumpRoster$Village" "chest" "I") (by decide +kernel)
  have k27 := hts (.fieldLink RX2 27 "PumpRoster$Village" "houseCount" "I") (by decide +kernel)
  have k11 := hts (.fieldLink RX2 11 "PumpRoster$Village" "houses" "[LPumpRoster$House;") (by decide +kernel)
  have k59 := hts (.fieldLink RX2 59 "PumpRoster$House" "marks" "I") (by decide +kernel)
  have k50 := hts (.fieldLink RX2 50 "PumpRoster$House" "eggs" "I") (by decide +kernel)
  have hS : va_S (AV ad 19) s.heap s.heap [] := va_S.rf
  have hl := lv_entry ([.ref (ad 0)]) (n := 4) (Nat.le_of_ble_eq_true rfl)
  rw [lg_entry_eq]
  generalize (lg_sl ([.ref (ad 0)]) ++ List.replicate (4 - (lg_sl ([.ref (ad 0)])).length) Slot.unset).toArray = ls at hl ⊢
  have hl : lv_has ls 4 [(0, .ref (ad 0))] := hl
  refine lv_aload_n hx hb dX2_shareChest_0 rfl (lv_at hl 0 rfl) ?_
  refine rV 5 (f := 50) (v := τ 50 0) hx hb hts hi2 hown hK hV (by decide) (by decide) rfl rfl k37 dX2_shareChest_1 ?_
  refine lv_bipush (v := 7) hx hb dX2_shareChest_4 (by decide) ?_
  refine lv_irem hx hb dX2_shareChest_6 (by decide) ?_
  refine lv_bipush (v := 6) hx hb dX2_shareChest_7 (by decide) ?_
  refine lv_icmp_ne (tgt := 21) hx hb dX2_shareChest_9 (by decide) (fun c9 => ?_) (fun c9 => ?_)
  · skip
    exact xV hx hb hr hlocks (by rw [shrF, if_pos (Or.inl c9)]; exact hV) hS dX2_shareChest_21
  · skip
    refine lv_aload_n hx hb dX2_shareChest_12 rfl (lv_at hl 0 rfl) ?_
    refine rV 4 (f := 53) (v := τ 53 0) hx hb hts hi2 hown hK hV (by decide) (by decide) rfl rfl k34 dX2_shareChest_13 ?_
    refine lv_bipush (v := 20) hx hb dX2_shareChest_16 (by decide) ?_
    refine lv_icmp_gt (tgt := 22) hx hb dX2_shareChest_18 (by decide) (fun c18 => ?_) (fun c18 => ?_)
    · skip
      refine lv_aload_n hx hb dX2_shareChest_22 rfl (lv_at hl 0 rfl) ?_
      refine kI (va_runV (As := []) (rest := []) ⟨hx, hb, hml, hown, hts⟩ (c_X2_unmarkedHouses l G ad hI nH nP hH hP δ τ hv) (cwV 0 hts gX2_shareChest_X2_unmarkedHouses rfl rfl rfl (by decide +kernel) ⟨Nat.le_of_ble_eq_true rfl, Nat.le_of_ble_eq_true rfl⟩) ⟨Pc0.blind, va_recv hK (va_P1 (hV.1)) (ci := 2) (q0 := 0) rfl rfl, Pc0.pre hV hK⟩ rfl rfl hl.1 rfl (lv_room (Nat.le_of_ble_eq_true rfl)) dX2_shareChest_23 ⟨Nat.zero_le _, Nat.zero_le _⟩) hS (fun _ _ q => q) (fun _ q => q) (fun H locs hV _ _ hS => ?_)
      refine lv_istore_n (lv' := [(1, .int (unm τ nH)), (0, .ref (ad 0))]) hx hb dX2_shareChest_26 rfl hl (by decide) rfl (fun ls hl => ?_)
      refine lv_iload_n hx hb dX2_shareChest_27 rfl (lv_at hl 0 rfl) ?_
      refine lv_if_ne (tgt := 32) hx hb dX2_shareChest_28 (by decide) (fun c28 => ?_) (fun c28 => ?_)
      · skip
        refine lv_aload_n hx hb dX2_shareChest_32 rfl (lv_at hl 1 rfl) ?_
        refine rV 4 (f := 53) (v := τ 53 0) hx hb hts hi2 hown hK hV (by decide) (by decide) rfl rfl k34 dX2_shareChest_33 ?_
        refine lv_bipush (v := 20) hx hb dX2_shareChest_36 (by decide) ?_
        refine lv_isub hx hb dX2_shareChest_38 ?_
        refine lv_iload_n hx hb dX2_shareChest_39 rfl (lv_at hl 0 rfl) ?_
        refine lv_idiv hx hb dX2_shareChest_40 c28 ?_
        refine lv_topi (fun y1 ey1 => ?_)
        obtain rfl : y1 = eachF nH τ := ey1.trans rfl
        refine lv_istore_n (lv' := [(2, .int (eachF nH τ)), (1, .int (unm τ nH)), (0, .ref (ad 0))]) hx hb dX2_shareChest_41 rfl hl (by decide) rfl (fun ls hl => ?_)
        refine lv_iconst (v := nI 0) hx hb dX2_shareChest_42 (by decide) ?_
        refine lv_istore_n (lv' := [(3, .int (nI 0)), (2, .int (eachF nH τ)), (1, .int (unm τ nH)), (0, .ref (ad 0))]) hx hb dX2_shareChest_43 rfl hl (by decide) rfl (fun ls hl => ?_)
        refine W_up nH (fun i H locs ls => CVm G ad nH nP δ (wst (itn (shrH (eachF nH τ)) i τ) 53 0 (τ 53 0 - eachF nH τ * unm τ i)) H ∧ va_S (AV ad 19) s.heap H locs ∧ lv_has ls 4 [(0, .ref (ad 0)), (2, .int (eachF nH τ)), (3, .int (nI i))]) ?_ 0 (by omega) _ _ _ ⟨(by rw [show wst (itn (shrH (eachF nH τ)) 0 τ) 53 0 (τ 53 0 - eachF nH τ * unm τ 0) = τ from wst_self (by show τ 53 0 = τ 53 0 - eachF nH τ * 0; simp)]; exact hV), hS, lv_sub hl [3, 1, 0] rfl⟩
        intro i H locs ls hi ⟨hV, hS, hl⟩ ih
        have hvi : Inv nH nP (itn (shrH (eachF nH τ)) i τ) := itn_inv hv (fun k hk x hx => hx.oShr)
        refine lv_iload_n hx hb dX2_shareChest_44 rfl (lv_at hl 2 rfl) ?_
        refine lv_aload_n hx hb dX2_shareChest_45 rfl (lv_at hl 0 rfl) ?_
        refine rV 2 (f := 51) (v := nI nH) hx hb hts hi2 hown hK hV (by decide) (by decide) rfl ((wst_f (by decide)).trans hvi.2.2.1) k27 dX2_shareChest_46 ?_
        refine lv_icmp_ge (tgt := 95) hx hb dX2_shareChest_49 (by decide) (fun c49 => ?_) (fun c49 => ?_)
        · skip
          replace c49 := (nI_leI (a := nH) (b := i) (by omega) (by omega)).mp c49
          obtain rfl : nH = i := by omega
          exact xV hx hb hr hlocks (by rw [shrF, if_neg (by rintro (q | q | q); exact q c9; exact i32_nle c18 q; exact c28 q)]; exact hV) hS dX2_shareChest_95
        · skip
          replace c49 : ¬ (nH ≤ i) := fun q => c49 ((nI_leI (a := nH) (b := i) (by omega) (by omega)).mpr q)
          refine lv_aload_n hx hb dX2_shareChest_52 rfl (lv_at hl 0 rfl) ?_
          refine rVh hx hb hts hi2 hown hK hV k11 dX2_shareChest_53 ?_
          refine lv_iload_n hx hb dX2_shareChest_56 rfl (lv_at hl 2 rfl) ?_
          refine rHA (h := i) hx hb hK hV (by omega) dX2_shareChest_57 ?_
          refine rH 5 (f := 4) (h := i) (v := τ 4 i) hx hb hts hi0 hown hK hV (by omega) hH (by decide) (by decide) rfl ((wst_f (by decide)).trans shr_4) k59 dX2_shareChest_58 ?_
          refine lv_if_ne (tgt := 89) hx hb dX2_shareChest_61 (by decide) (fun c61 => ?_) (fun c61 => ?_)
          · skip
            refine lv_iinc (k := 2) (v := nI (i + 1)) (lv' := [(3, .int (nI (i + 1))), (0, .ref (ad 0)), (2, .int (eachF nH τ))]) hx hb dX2_shareChest_89 hl rfl (nI_add i 1) (by decide) rfl (fun ls hl => ?_)
            refine lv_goto (tgt := 44) hx hb dX2_shareChest_92 (by decide) ?_
            exact ih (by omega) _ _ _ ⟨(by rw [itn_s, shrH, if_neg (by rw [shr_4]; exact c61), unm_s, if_neg c61, show unm τ i + 0 = unm τ i by simp]; exact hV), hS, lv_sub hl [1, 2, 0] rfl⟩
          · skip
            refine lv_aload_n hx hb dX2_shareChest_64 rfl (lv_at hl 0 rfl) ?_
            refine rVh hx hb hts hi2 hown hK hV k11 dX2_shareChest_65 ?_
            refine lv_iload_n hx hb dX2_shareChest_68 rfl (lv_at hl 2 rfl) ?_
            refine rHA (h := i) hx hb hK hV (by omega) dX2_shareChest_69 ?_
            refine lv_dup hx hb dX2_shareChest_70 rfl ?_
            refine rH 4 (f := 3) (h := i) (v := (itn (shrH (eachF nH τ)) i τ) 3 i) hx hb hts hi0 hown hK hV (by omega) hH (by decide) (by decide) rfl (wst_f (by decide)) k50 dX2_shareChest_71 ?_
            refine lv_iload_n hx hb dX2_shareChest_74 rfl (lv_at hl 1 rfl) ?_
            refine lv_iadd hx hb dX2_shareChest_75 ?_
            refine wH 4 (f := 3) (h := i) hx hb hts hi0 hown hK hI hV hS (by omega) hH (by decide) (by decide) rfl k50 dX2_shareChest_76 (fun H locs hV hS => ?_)
            refine lv_aload_n hx hb dX2_shareChest_79 rfl (lv_at hl 0 rfl) ?_
            refine lv_dup hx hb dX2_shareChest_80 rfl ?_
            refine rV 4 (f := 53) (v := τ 53 0 - eachF nH τ * unm τ i) hx hb hts hi2 hown hK hV (by decide) (by decide) rfl ((wst_f (by decide)).trans wst_s) k34 dX2_shareChest_81 ?_
            refine lv_iload_n hx hb dX2_shareChest_84 rfl (lv_at hl 1 rfl) ?_
            refine lv_isub hx hb dX2_shareChest_85 ?_
            refine wV 4 (f := 53) hx hb hts hi2 hown hK hI hV hS (by decide) (by decide) rfl k34 dX2_shareChest_86 (fun H locs hV hS => ?_)
            refine lv_iinc (k := 2) (v := nI (i + 1)) (lv' := [(3, .int (nI (i + 1))), (0, .ref (ad 0)), (2, .int (eachF nH τ))]) hx hb dX2_shareChest_89 hl rfl (nI_add i 1) (by decide) rfl (fun ls hl => ?_)
            refine lv_goto (tgt := 44) hx hb dX2_shareChest_92 (by decide) ?_
            exact ih (by omega) _ _ _ ⟨(by rw [itn_s, shrH, if_pos (by rw [shr_4]; exact c61), unm_s, if_pos c61]; rw [wst_comm (f := 53) (g := 3) (by omega), wst_wst] at hV; rw [show τ 53 0 - eachF nH τ * (unm τ i + 1) = τ 53 0 - eachF nH τ * unm τ i - eachF nH τ from i32_sh _ _ _]; exact hV), hS, lv_sub hl [1, 2, 0] rfl⟩
      · skip
        exact xV hx hb hr hlocks (by rw [shrF, if_pos (Or.inr (Or.inr c28))]; exact hV) hS dX2_shareChest_31
    · skip
      exact xV hx hb hr hlocks (by rw [shrF, if_pos (Or.inr (Or.inl (i32_le c18)))]; exact hV) hS dX2_shareChest_21
