set_option maxHeartbeats 4000000 in
set_option maxRecDepth 100000 in
theorem c_X0_isThere (l : Launch) (G : wG) (ad : Nat → Nat) (hI : adInj ad 19) (nH nP : Nat) (hH : nH ≤ 10) (hP : nP ≤ 3) (δ τ : wS) (h : Nat) (hh : h < nH) : Met l yX0_isThere wsX0_isThere ({ frames := 0, cells := 0, slots := 0, locals := 0 } : Room) (Pc0 G [.ref (ad (3 + h))] (CVm G ad nH nP δ τ)) (Qi0 (if τ 6 h = 0 then 1 else 0) (CVm G ad nH nP δ τ) (AV ad 19)) 0 0 (AV ad 19) := by
  refine Met.ofW (cc := cX0_isThere) (maxL := 1) (ret := (some .boolean)) (by decide) rfl ?_
  intro pg ev s mid args below meth cd s₁ B hml hv0
  obtain ⟨rfl, hV, hK⟩ := hv0
  have hx := B.exec
  have hb := B.bytes
  have hr := B.returns
  have hts := atoms_spec (ws := wsX0_isThere) B.pre
  have hown : s.vm.findClass RX0 = some mid.cls := findClass_of_methodNamed B.named
  have hlocks := B.notSynchronized
  have hi0 : ∀ w ∈ wsX00, w ∈ wsX0_isThere := by decide +kernel
  have k30 := hts (.fieldLink RX0 30 "PumpRoster$House" "daysAway" "I") (by decide +kernel)
  have hS : va_S (AV ad 19) s.heap s.heap [] := va_S.rf
  have hl := lv_entry ([.ref (ad (3 + h))]) (n := 1) (Nat.le_of_ble_eq_true rfl)
  rw [lg_entry_eq]
  generalize (lg_sl ([.ref (ad (3 + h))]) ++ List.replicate (1 - (lg_sl ([.ref (ad (3 + h))])).length) Slot.unset).toArray = ls at hl ⊢
  have hl : lv_has ls 1 [(0, .ref (ad (3 + h)))] := hl
  refine lv_aload_n hx hb dX0_isThere_0 rfl (lv_at hl 0 rfl) ?_
  refine rH 6 (f := 6) (h := h) (v := τ 6 h) hx hb hts hi0 hown hK hV (by omega) hH (by decide) (by decide) rfl rfl k30 dX0_isThere_1 ?_
  refine lv_if_ne (tgt := 11) hx hb dX0_isThere_4 (by decide) (fun c4 => ?_) (fun c4 => ?_)
  · skip
    refine lv_iconst (v := 0) hx hb dX0_isThere_11 (by decide) ?_
    exact xZ hx hb hr hlocks hV hS (by simp only [c4, if_true, if_false]) rfl dX0_isThere_12
  · skip
    refine lv_iconst (v := 1) hx hb dX0_isThere_7 (by decide) ?_
    refine lv_goto (tgt := 12) hx hb dX0_isThere_8 (by decide) ?_
    exact xZ hx hb hr hlocks hV hS (by simp only [c4, if_true, if_false]) rfl dX0_isThere_12

set_option maxHeartbeats 4000000 in
set_option maxRecDepth 100000 in
theorem c_X0_dailyNeed (l : Launch) (G : wG) (ad : Nat → Nat) (hI : adInj ad 19) (nH nP : Nat) (hH : nH ≤ 10) (hP : nP ≤ 3) (δ τ : wS) (h : Nat) (hh : h < nH) : Met l yX0_dailyNeed wsX0_dailyNeed ({ frames := 0, cells := 0, slots := 0, locals := 0 } : Room) (Pc0 G [.ref (ad (3 + h))] (CVm G ad nH nP δ τ)) (Qi0 (ndF τ h) (CVm G ad nH nP δ τ) (AV ad 19)) 0 0 (AV ad 19) := by
  refine Met.ofW (cc := cX0_dailyNeed) (maxL := 1) (ret := (some .int)) (by decide) rfl ?_
  intro pg ev s mid args below meth cd s₁ B hml hv0
  obtain ⟨rfl, hV, hK⟩ := hv0
  have hx := B.exec
  have hb := B.bytes
  have hr := B.returns
  have hts := atoms_spec (ws := wsX0_dailyNeed) B.pre
  have hown : s.vm.findClass RX0 = some mid.cls := findClass_of_methodNamed B.named
  have hlocks := B.notSynchronized
  have hi0 : ∀ w ∈ wsX00, w ∈ wsX0_dailyNeed := by decide +kernel
  have k18 := hts (.fieldLink RX0 18 "PumpRoster$House" "lodgers" "I") (by decide +kernel)
  have hS : va_S (AV ad 19) s.heap s.heap [] := va_S.rf
  have hl := lv_entry ([.ref (ad (3 + h))]) (n := 1) (Nat.le_of_ble_eq_true rfl)
  rw [lg_entry_eq]
  generalize (lg_sl ([.ref (ad (3 + h))]) ++ List.replicate (1 - (lg_sl ([.ref (ad (3 + h))])).length) Slot.unset).toArray = ls at hl ⊢
  have hl : lv_has ls 1 [(0, .ref (ad (3 + h)))] := hl
  refine lv_iconst (v := 2) hx hb dX0_dailyNeed_0 (by decide) ?_
  refine lv_aload_n hx hb dX0_dailyNeed_1 rfl (lv_at hl 0 rfl) ?_
  refine rH 1 (f := 0) (h := h) (v := τ 0 h) hx hb hts hi0 hown hK hV (by omega) hH (by decide) (by decide) rfl rfl k18 dX0_dailyNeed_2 ?_
  refine lv_iadd hx hb dX0_dailyNeed_5 ?_
  exact xI hx hb hr hlocks hV hS rfl dX0_dailyNeed_6

set_option maxHeartbeats 4000000 in
set_option maxRecDepth 100000 in
theorem c_X0_forgetsThisKey (l : Launch) (G : wG) (ad : Nat → Nat) (hI : adInj ad 19) (nH nP : Nat) (hH : nH ≤ 10) (hP : nP ≤ 3) (δ τ : wS) (h : Nat) (hh : h < nH) (hf : ∃ k, 1 ≤ k ∧ k ≤ 9 ∧ τ 2 h = nI k) : Met l yX0_forgetsThisKey wsX0_forgetsThisKey ({ frames := 0, cells := 0, slots := 0, locals := 0 } : Room) (Pc0 G [.ref (ad (3 + h))] (CVm G ad nH nP δ τ)) (Qi0 (if τ 9 h - τ 9 h / τ 2 h * τ 2 h = 0 then 1 else 0) (CVm G ad nH nP δ τ) (AV ad 19)) 0 0 (AV ad 19) := by
  refine Met.ofW (cc := cX0_forgetsThisKey) (maxL := 1) (ret := (some .boolean)) (by decide) rfl ?_
  intro pg ev s mid args below meth cd s₁ B hml hv0
  obtain ⟨rfl, hV, hK⟩ := hv0
  have hx := B.exec
  have hb := B.bytes
  have hr := B.returns
  have hts := atoms_spec (ws := wsX0_forgetsThisKey) B.pre
  have hown : s.vm.findClass RX0 = some mid.cls := findClass_of_methodNamed B.named
  have hlocks := B.notSynchronized
  have hi0 : ∀ w ∈ wsX00, w ∈ wsX0_forgetsThisKey := by decide +kernel
  have k24 := hts (.fieldLink RX0 24 "PumpRoster$House" "forgets" "I") (by decide +kernel)
  have k42 := hts (.fieldLink RX0 42 "PumpRoster$House" "keysToHandOn" "I") (by decide +kernel)
  have hS : va_S (AV ad 19) s.heap s.heap [] := va_S.rf
  have hl := lv_entry ([.ref (ad (3 + h))]) (n := 1) (Nat.le_of_ble_eq_true rfl)
  rw [lg_entry_eq]
  generalize (lg_sl ([.ref (ad (3 + h))]) ++ List.replicate (1 - (lg_sl ([.ref (ad (3 + h))])).length) Slot.unset).toArray = ls at hl ⊢
  have hl : lv_has ls 1 [(0, .ref (ad (3 + h)))] := hl
  obtain ⟨kf, hf1, hf9, hf0⟩ := hf
  refine lv_aload_n hx hb dX0_forgetsThisKey_0 rfl (lv_at hl 0 rfl) ?_
  refine rH 3 (f := 2) (h := h) (v := τ 2 h) hx hb hts hi0 hown hK hV (by omega) hH (by decide) (by decide) rfl rfl k24 dX0_forgetsThisKey_1 ?_
  refine lv_if_le (tgt := 23) hx hb dX0_forgetsThisKey_4 (by decide) (fun c4 => ?_) (fun c4 => ?_)
  · skip
    exact absurd c4 (by rw [hf0]; exact nI_nle (by omega) (by omega))
  · skip
    refine lv_aload_n hx hb dX0_forgetsThisKey_7 rfl (lv_at hl 0 rfl) ?_
    refine rH 10 (f := 9) (h := h) (v := τ 9 h) hx hb hts hi0 hown hK hV (by omega) hH (by decide) (by decide) rfl rfl k42 dX0_forgetsThisKey_8 ?_
    refine lv_aload_n hx hb dX0_forgetsThisKey_11 rfl (lv_at hl 0 rfl) ?_
    refine rH 3 (f := 2) (h := h) (v := τ 2 h) hx hb hts hi0 hown hK hV (by omega) hH (by decide) (by decide) rfl rfl k24 dX0_forgetsThisKey_12 ?_
    refine lv_irem hx hb dX0_forgetsThisKey_15 (by rw [hf0]; exact nI_ne0 (by omega) (by omega)) ?_
    refine lv_if_ne (tgt := 23) hx hb dX0_forgetsThisKey_16 (by decide) (fun c16 => ?_) (fun c16 => ?_)
    · skip
      refine lv_iconst (v := 0) hx hb dX0_forgetsThisKey_23 (by decide) ?_
      exact xZ hx hb hr hlocks hV hS (by simp only [c16, if_true, if_false]) rfl dX0_forgetsThisKey_24
    · skip
      refine lv_iconst (v := 1) hx hb dX0_forgetsThisKey_19 (by decide) ?_
      refine lv_goto (tgt := 24) hx hb dX0_forgetsThisKey_20 (by decide) ?_
      exact xZ hx hb hr hlocks hV hS (by simp only [c16, if_true, if_false]) rfl dX0_forgetsThisKey_24

set_option maxHeartbeats 4000000 in
set_option maxRecDepth 100000 in
theorem c_X1_placeOf (l : Launch) (G : wG) (ad : Nat → Nat) (hI : adInj ad 19) (nH nP : Nat) (hH : nH ≤ 10) (hP : nP ≤ 3) (δ τ : wS) (p n : Nat) (x : Int32) (hp : p < nP) (hs : τ 26 p = nI n) (hn : n ≤ 10) : Met l yX1_placeOf wsX1_placeOf ({ frames := 0, cells := 0, slots := 0, locals := 0 } : Room) (Pc0 G [.ref (ad (13 + p)), .int x] (CVm G ad nH nP δ τ)) (Qi0 (plI (plc (τ (40 + p)) x n) n) (CVm G ad nH nP δ τ) (AV ad 19)) 0 0 (AV ad 19) := by
  refine Met.ofW (cc := cX1_placeOf) (maxL := 3) (ret := (some .int)) (by decide) rfl ?_
  intro pg ev s mid args below meth cd s₁ B hml hv0
  obtain ⟨rfl, hV, hK⟩ := hv0
  have hx := B.exec
  have hb := B.bytes
  have hr := B.returns
  have hts := atoms_spec (ws := wsX1_placeOf) B.pre
  have hown : s.vm.findClass RX1 = some mid.cls := findClass_of_methodNamed B.named
  have hlocks := B.notSynchronized
  have hi1 : ∀ w ∈ wsX10, w ∈ wsX1_placeOf := by decide +kernel
  have k41 := hts (.fieldLink RX1 41 "PumpRoster$Pump" "rosterSize" "I") (by decide +kernel)
  have k15 := hts (.fieldLink RX1 15 "PumpRoster$Pump" "roster" "[I") (by decide +kernel)
  have hS : va_S (AV ad 19) s.heap s.heap [] := va_S.rf
  have hl := lv_entry ([.ref (ad (13 + p)), .int x]) (n := 3) (Nat.le_of_ble_eq_true rfl)
  rw [lg_entry_eq]
  generalize (lg_sl ([.ref (ad (13 + p)), .int x]) ++ List.replicate (3 - (lg_sl ([.ref (ad (13 + p)), .int x])).length) Slot.unset).toArray = ls at hl ⊢
  have hl : lv_has ls 3 [(0, .ref (ad (13 + p))), (1, .int x)] := hl
  refine lv_iconst (v := nI 0) hx hb dX1_placeOf_0 (by decide) ?_
  refine lv_istore_n (lv' := [(2, .int (nI 0)), (0, .ref (ad (13 + p))), (1, .int x)]) hx hb dX1_placeOf_1 rfl hl (by decide) rfl (fun ls hl => ?_)
  refine W_up n (fun i H locs ls => CVm G ad nH nP δ τ H ∧ va_S (AV ad 19) s.heap H locs ∧ lv_has ls 3 [(0, .ref (ad (13 + p))), (1, .int x), (2, .int (nI i))] ∧ (∀ j, j < i → ¬ τ (40 + p) j = x)) ?_ 0 (by omega) _ _ _ ⟨hV, hS, lv_sub hl [1, 2, 0] rfl, (fun j hj => absurd hj (by omega))⟩
  intro i H locs ls hi ⟨hV, hS, hl, hx0⟩ ih
  refine lv_iload_n hx hb dX1_placeOf_2 rfl (lv_at hl 2 rfl) ?_
  refine lv_aload_n hx hb dX1_placeOf_3 rfl (lv_at hl 0 rfl) ?_
  refine rP 7 (f := 26) (h := p) (v := nI n) hx hb hts hi1 hown hK hV (by omega) hP (by decide) (by decide) rfl hs k41 dX1_placeOf_4 ?_
  refine lv_icmp_ge (tgt := 28) hx hb dX1_placeOf_7 (by decide) (fun c7 => ?_) (fun c7 => ?_)
  · skip
    replace c7 := (nI_leI (a := n) (b := i) (by omega) (by omega)).mp c7
    refine lv_iconst (v := (-1)) hx hb dX1_placeOf_28 (by decide) ?_
    exact xI hx hb hr hlocks hV hS ((plc_none (fun j hj => hx0 j (by omega))).symm) dX1_placeOf_29
  · skip
    replace c7 : ¬ (n ≤ i) := fun q => c7 ((nI_leI (a := n) (b := i) (by omega) (by omega)).mpr q)
    refine lv_aload_n hx hb dX1_placeOf_10 rfl (lv_at hl 0 rfl) ?_
    refine rPr (h := p) hx hb hts hi1 hown hK hV (by omega) k15 dX1_placeOf_11 ?_
    refine lv_iload_n hx hb dX1_placeOf_14 rfl (lv_at hl 2 rfl) ?_
    refine rRo (h := p) (k := i) (v := τ (40 + p) i) hx hb hK hV (by omega) hP (by omega) rfl dX1_placeOf_15 ?_
    refine lv_iload_n hx hb dX1_placeOf_16 rfl (lv_at hl 1 rfl) ?_
    refine lv_icmp_ne (tgt := 22) hx hb dX1_placeOf_17 (by decide) (fun c17 => ?_) (fun c17 => ?_)
    · skip
      refine lv_iinc (k := 2) (v := nI (i + 1)) (lv' := [(2, .int (nI (i + 1))), (0, .ref (ad (13 + p))), (1, .int x)]) hx hb dX1_placeOf_22 hl rfl (nI_add i 1) (by decide) rfl (fun ls hl => ?_)
      refine lv_goto (tgt := 2) hx hb dX1_placeOf_25 (by decide) ?_
      exact ih (by omega) _ _ _ ⟨hV, hS, lv_sub hl [1, 2, 0] rfl, (fun j hj => by
                rcases Nat.lt_or_ge j i with q | q
                · exact hx0 j q
                · have e : j = i := by omega
                  rw [e]; exact c17)⟩
    · skip
      refine lv_iload_n hx hb dX1_placeOf_20 rfl (lv_at hl 2 rfl) ?_
      exact xI hx hb hr hlocks hV hS ((plc_hit (by omega) c17 hx0).symm) dX1_placeOf_21

set_option maxHeartbeats 4000000 in
set_option maxRecDepth 100000 in
theorem c_X1_houseAt (l : Launch) (G : wG) (ad : Nat → Nat) (hI : adInj ad 19) (nH nP : Nat) (hH : nH ≤ 10) (hP : nP ≤ 3) (δ τ : wS) (p n k : Nat) (hp : p < nP) (hs : τ 26 p = nI n) (hn : n ≤ 10) (hk : k < n) : Met l yX1_houseAt wsX1_houseAt ({ frames := 0, cells := 0, slots := 0, locals := 0 } : Room) (Pc0 G [.ref (ad (13 + p)), .int (nI k)] (CVm G ad nH nP δ τ)) (Qi0 (τ (40 + p) k) (CVm G ad nH nP δ τ) (AV ad 19)) 0 0 (AV ad 19) := by
  refine Met.ofW (cc := cX1_houseAt) (maxL := 2) (ret := (some .int)) (by decide) rfl ?_
  intro pg ev s mid args below meth cd s₁ B hml hv0
  obtain ⟨rfl, hV, hK⟩ := hv0
  have hx := B.exec
  have hb := B.bytes
  have hr := B.returns
  have hts := atoms_spec (ws := wsX1_houseAt) B.pre
  have hown : s.vm.findClass RX1 = some mid.cls := findClass_of_methodNamed B.named
  have hlocks := B.notSynchronized
  have hi1 : ∀ w ∈ wsX10, w ∈ wsX1_houseAt := by decide +kernel
  have k41 := hts (.fieldLink RX1 41 "PumpRoster$Pump" "rosterSize" "I") (by decide +kernel)
  have k15 := hts (.fieldLink RX1 15 "PumpRoster$Pump" "roster" "[I") (by decide +kernel)
  have hS : va_S (AV ad 19) s.heap s.heap [] := va_S.rf
  have hl := lv_entry ([.ref (ad (13 + p)), .int (nI k)]) (n := 2) (Nat.le_of_ble_eq_true rfl)
  rw [lg_entry_eq]
  generalize (lg_sl ([.ref (ad (13 + p)), .int (nI k)]) ++ List.replicate (2 - (lg_sl ([.ref (ad (13 + p)), .int (nI k)])).length) Slot.unset).toArray = ls at hl ⊢
  have hl : lv_has ls 2 [(0, .ref (ad (13 + p))), (1, .int (nI k))] := hl
  refine lv_iload_n hx hb dX1_houseAt_0 rfl (lv_at hl 1 rfl) ?_
  refine lv_if_lt (tgt := 21) hx hb dX1_houseAt_1 (by decide) (fun c1 => ?_) (fun c1 => ?_)
  · skip
    replace c1 := (nI_ltI (a := k) (b := 0) (by omega) (by omega)).mp c1
    exact absurd c1 (by omega)
  · skip
    replace c1 : ¬ (k < 0) := fun q => c1 ((nI_ltI (a := k) (b := 0) (by omega) (by omega)).mpr q)
    refine lv_iload_n hx hb dX1_houseAt_4 rfl (lv_at hl 1 rfl) ?_
    refine lv_aload_n hx hb dX1_houseAt_5 rfl (lv_at hl 0 rfl) ?_
    refine rP 7 (f := 26) (h := p) (v := nI n) hx hb hts hi1 hown hK hV (by omega) hP (by decide) (by decide) rfl hs k41 dX1_houseAt_6 ?_
    refine lv_icmp_ge (tgt := 21) hx hb dX1_houseAt_9 (by decide) (fun c9 => ?_) (fun c9 => ?_)
    · skip
      replace c9 := (nI_leI (a := n) (b := k) (by omega) (by omega)).mp c9
      exact absurd c9 (by omega)
    · skip
      replace c9 : ¬ (n ≤ k) := fun q => c9 ((nI_leI (a := n) (b := k) (by omega) (by omega)).mpr q)
      refine lv_aload_n hx hb dX1_houseAt_12 rfl (lv_at hl 0 rfl) ?_
      refine rPr (h := p) hx hb hts hi1 hown hK hV (by omega) k15 dX1_houseAt_13 ?_
      refine lv_iload_n hx hb dX1_houseAt_16 rfl (lv_at hl 1 rfl) ?_
      refine rRo (h := p) (k := k) (v := τ (40 + p) k) hx hb hK hV (by omega) hP (by omega) rfl dX1_houseAt_17 ?_
      refine lv_goto (tgt := 22) hx hb dX1_houseAt_18 (by decide) ?_
      exact xI hx hb hr hlocks hV hS rfl dX1_houseAt_22

set_option maxHeartbeats 4000000 in
set_option maxRecDepth 100000 in
theorem c_X1_append (l : Launch) (G : wG) (ad : Nat → Nat) (hI : adInj ad 19) (nH nP : Nat) (hH : nH ≤ 10) (hP : nP ≤ 3) (δ τ : wS) (p n : Nat) (x : Int32) (hp : p < nP) (hs : τ 26 p = nI n) (hn : n < 10) : Met l yX1_append wsX1_append ({ frames := 0, cells := 0, slots := 0, locals := 0 } : Room) (Pc0 G [.ref (ad (13 + p)), .int x] (CVm G ad nH nP δ τ)) (Qv0 (CVm G ad nH nP δ (wst (wst τ (40 + p) n x) 26 p (nI (n + 1)))) (AV ad 19)) 0 0 (AV ad 19) := by
  refine Met.ofW (cc := cX1_append) (maxL := 2) (ret := none) (by decide) rfl ?_
  intro pg ev s mid args below meth cd s₁ B hml hv0
  obtain ⟨rfl, hV, hK⟩ := hv0
  have hx := B.exec
  have hb := B.bytes
  have hr := B.returns
  have hts := atoms_spec (ws := wsX1_append) B.pre
  have hown : s.vm.findClass RX1 = some mid.cls := findClass_of_methodNamed B.named
  have hlocks := B.notSynchronized
  have hi1 : ∀ w ∈ wsX10, w ∈ wsX1_append := by decide +kernel
  have k41 := hts (.fieldLink RX1 41 "PumpRoster$Pump" "rosterSize" "I") (by decide +kernel)
  have k15 := hts (.fieldLink RX1 15 "PumpRoster$Pump" "roster" "[I") (by decide +kernel)
  have hS : va_S (AV ad 19) s.heap s.heap [] := va_S.rf
  have hl := lv_entry ([.ref (ad (13 + p)), .int x]) (n := 2) (Nat.le_of_ble_eq_true rfl)
  rw [lg_entry_eq]
  generalize (lg_sl ([.ref (ad (13 + p)), .int x]) ++ List.replicate (2 - (lg_sl ([.ref (ad (13 + p)), .int x])).length) Slot.unset).toArray = ls at hl ⊢
  have hl : lv_has ls 2 [(0, .ref (ad (13 + p))), (1, .int x)] := hl
  refine lv_aload_n hx hb dX1_append_0 rfl (lv_at hl 0 rfl) ?_
  refine rP 7 (f := 26) (h := p) (v := nI n) hx hb hts hi1 hown hK hV (by omega) hP (by decide) (by decide) rfl hs k41 dX1_append_1 ?_
  refine lv_bipush (v := 10) hx hb dX1_append_4 (by decide) ?_
  refine lv_icmp_ge (tgt := 29) hx hb dX1_append_6 (by decide) (fun c6 => ?_) (fun c6 => ?_)
  · skip
    replace c6 := (nI_leI (a := 10) (b := n) (by omega) (by omega)).mp c6
    exact absurd c6 (by omega)
  · skip
    replace c6 : ¬ (10 ≤ n) := fun q => c6 ((nI_leI (a := 10) (b := n) (by omega) (by omega)).mpr q)
    refine lv_aload_n hx hb dX1_append_9 rfl (lv_at hl 0 rfl) ?_
    refine rPr (h := p) hx hb hts hi1 hown hK hV (by omega) k15 dX1_append_10 ?_
    refine lv_aload_n hx hb dX1_append_13 rfl (lv_at hl 0 rfl) ?_
    refine rP 7 (f := 26) (h := p) (v := nI n) hx hb hts hi1 hown hK hV (by omega) hP (by decide) (by decide) rfl hs k41 dX1_append_14 ?_
    refine lv_iload_n hx hb dX1_append_17 rfl (lv_at hl 1 rfl) ?_
    refine wRo (h := p) (k := n) hx hb hK hI hV hS (by omega) hP (by omega) dX1_append_18 (fun H locs hV hS => ?_)
    refine lv_aload_n hx hb dX1_append_19 rfl (lv_at hl 0 rfl) ?_
    refine lv_dup hx hb dX1_append_20 rfl ?_
    refine rP 7 (f := 26) (h := p) (v := nI n) hx hb hts hi1 hown hK hV (by omega) hP (by decide) (by decide) rfl ((wst_f (by omega)).trans hs) k41 dX1_append_21 ?_
    refine lv_iconst (v := 1) hx hb dX1_append_24 (by decide) ?_
    refine lv_iadd hx hb dX1_append_25 ?_
    refine lv_topi (fun y1 ey1 => ?_)
    obtain rfl : y1 = nI (n + 1) := ey1.trans (nI_add n 1)
    refine wP 7 (f := 26) (h := p) hx hb hts hi1 hown hK hI hV hS (by omega) hP (by decide) (by decide) rfl rfl rfl k41 dX1_append_26 (fun H locs hV hS => ?_)
    exact xV hx hb hr hlocks hV hS dX1_append_29

set_option maxHeartbeats 4000000 in
set_option maxRecDepth 100000 in
theorem c_X1_strikeOff (l : Launch) (G : wG) (ad : Nat → Nat) (hI : adInj ad 19) (nH nP : Nat) (hH : nH ≤ 10) (hP : nP ≤ 3) (δ τ : wS) (p n t g : Nat) (hp : p < nP) (hs : τ 26 p = nI n) (hn : n ≤ 10) (ht : τ 27 p = nI t) (htn : t ≤ 10) (hg : g < n) : Met l yX1_strikeOff wsX1_strikeOff ({ frames := 0, cells := 0, slots := 0, locals := 0 } : Room) (Pc0 G [.ref (ad (13 + p)), .int (nI g)] (CVm G ad nH nP δ τ)) (Qv0 (CVm G ad nH nP δ (strkF p g τ)) (AV ad 19)) 0 0 (AV ad 19) := by
  refine Met.ofW (cc := cX1_strikeOff) (maxL := 3) (ret := none) (by decide) rfl ?_
  intro pg ev s mid args below meth cd s₁ B hml hv0
  obtain ⟨rfl, hV, hK⟩ := hv0
  have hx := B.exec
  have hb := B.bytes
  have hr := B.returns
  have hts := atoms_spec (ws := wsX1_strikeOff) B.pre
  have hown : s.vm.findClass RX1 = some mid.cls := findClass_of_methodNamed B.named
  have hlocks := B.notSynchronized
  have hi1 : ∀ w ∈ wsX10, w ∈ wsX1_strikeOff := by decide +kernel
  have k41 := hts (.fieldLink RX1 41 "PumpRoster$Pump" "rosterSize" "I") (by decide +kernel)
  have k44 := hts (.fieldLink RX1 44 "PumpRoster$Pump" "turn" "I") (by decide +kernel)
  have k15 := hts (.fieldLink RX1 15 "PumpRoster$Pump" "roster" "[I") (by decide +kernel)
  have hS : va_S (AV ad 19) s.heap s.heap [] := va_S.rf
  have hl := lv_entry ([.ref (ad (13 + p)), .int (nI g)]) (n := 3) (Nat.le_of_ble_eq_true rfl)
  rw [lg_entry_eq]
  generalize (lg_sl ([.ref (ad (13 + p)), .int (nI g)]) ++ List.replicate (3 - (lg_sl ([.ref (ad (13 + p)), .int (nI g)])).length) Slot.unset).toArray = ls at hl ⊢
  have hl : lv_has ls 3 [(0, .ref (ad (13 + p))), (1, .int (nI g))] := hl
  refine lv_iload_n hx hb dX1_strikeOff_0 rfl (lv_at hl 1 rfl) ?_
  refine lv_if_lt (tgt := 12) hx hb dX1_strikeOff_1 (by decide) (fun c1 => ?_) (fun c1 => ?_)
  · skip
    replace c1 := (nI_ltI (a := g) (b := 0) (by omega) (by omega)).mp c1
    exact absurd c1 (by omega)
  · skip
    replace c1 : ¬ (g < 0) := fun q => c1 ((nI_ltI (a := g) (b := 0) (by omega) (by omega)).mpr q)
    refine lv_iload_n hx hb dX1_strikeOff_4 rfl (lv_at hl 1 rfl) ?_
    refine lv_aload_n hx hb dX1_strikeOff_5 rfl (lv_at hl 0 rfl) ?_
    refine rP 7 (f := 26) (h := p) (v := nI n) hx hb hts hi1 hown hK hV (by omega) hP (by decide) (by decide) rfl hs k41 dX1_strikeOff_6 ?_
    refine lv_icmp_lt (tgt := 13) hx hb dX1_strikeOff_9 (by decide) (fun c9 => ?_) (fun c9 => ?_)
    · skip
      replace c9 := (nI_ltI (a := g) (b := n) (by omega) (by omega)).mp c9
      refine lv_iload_n hx hb dX1_strikeOff_13 rfl (lv_at hl 1 rfl) ?_
      refine lv_iconst (v := 1) hx hb dX1_strikeOff_14 (by decide) ?_
      refine lv_iadd hx hb dX1_strikeOff_15 ?_
      refine lv_topi (fun y1 ey1 => ?_)
      obtain rfl : y1 = nI (g + 1) := ey1.trans (nI_add g 1)
      refine lv_istore_n (lv' := [(2, .int (nI (g + 1))), (0, .ref (ad (13 + p))), (1, .int (nI g))]) hx hb dX1_strikeOff_16 rfl hl (by decide) rfl (fun ls hl => ?_)
      refine W_up (n - 1) (fun i H locs ls => CVm G ad nH nP δ (shF p g i τ) H ∧ va_S (AV ad 19) s.heap H locs ∧ lv_has ls 3 [(0, .ref (ad (13 + p))), (1, .int (nI g)), (2, .int (nI (i + 1)))] ∧ (g ≤ i)) ?_ g (by omega) _ _ _ ⟨(by rw [shF_0]; exact hV), hS, lv_sub hl [1, 2, 0] rfl, (Nat.le_refl g)⟩
      intro i H locs ls hi ⟨hV, hS, hl, hx0⟩ ih
      refine lv_iload_n hx hb dX1_strikeOff_17 rfl (lv_at hl 2 rfl) ?_
      refine lv_aload_n hx hb dX1_strikeOff_18 rfl (lv_at hl 0 rfl) ?_
      refine rP 7 (f := 26) (h := p) (v := nI n) hx hb hts hi1 hown hK hV (by omega) hP (by decide) (by decide) rfl ((shF_o (by omega)).trans hs) k41 dX1_strikeOff_19 ?_
      refine lv_icmp_ge (tgt := 45) hx hb dX1_strikeOff_22 (by decide) (fun c22 => ?_) (fun c22 => ?_)
      · skip
        replace c22 := (nI_leI (a := n) (b := i + 1) (by omega) (by omega)).mp c22
        obtain rfl : i = n - 1 := by omega
        refine lv_aload_n hx hb dX1_strikeOff_45 rfl (lv_at hl 0 rfl) ?_
        refine lv_dup hx hb dX1_strikeOff_46 rfl ?_
        refine rP 7 (f := 26) (h := p) (v := nI n) hx hb hts hi1 hown hK hV (by omega) hP (by decide) (by decide) rfl ((shF_o (by omega)).trans hs) k41 dX1_strikeOff_47 ?_
        refine lv_iconst (v := 1) hx hb dX1_strikeOff_50 (by decide) ?_
        refine lv_isub hx hb dX1_strikeOff_51 ?_
        refine lv_topi (fun y2 ey2 => ?_)
        obtain rfl : y2 = nI (n - 1) := ey2.trans (pk_sub (a := n) (b := 1) (by omega))
        refine wP 7 (f := 26) (h := p) hx hb hts hi1 hown hK hI hV hS (by omega) hP (by decide) (by decide) rfl rfl rfl k41 dX1_strikeOff_52 (fun H locs hV hS => ?_)
        refine lv_aload_n hx hb dX1_strikeOff_55 rfl (lv_at hl 0 rfl) ?_
        refine rP 8 (f := 27) (h := p) (v := nI t) hx hb hts hi1 hown hK hV (by omega) hP (by decide) (by decide) rfl ((wst_f (by decide)).trans ((shF_o (by omega)).trans ht)) k44 dX1_strikeOff_56 ?_
        refine lv_iload_n hx hb dX1_strikeOff_59 rfl (lv_at hl 1 rfl) ?_
        refine lv_icmp_le (tgt := 73) hx hb dX1_strikeOff_60 (by decide) (fun c60 => ?_) (fun c60 => ?_)
        · skip
          replace c60 := (nI_leI (a := t) (b := g) (by omega) (by omega)).mp c60
          refine lv_aload_n hx hb dX1_strikeOff_73 rfl (lv_at hl 0 rfl) ?_
          refine rP 8 (f := 27) (h := p) (v := nI t) hx hb hts hi1 hown hK hV (by omega) hP (by decide) (by decide) rfl ((wst_f (by decide)).trans ((shF_o (by omega)).trans ht)) k44 dX1_strikeOff_74 ?_
          refine lv_aload_n hx hb dX1_strikeOff_77 rfl (lv_at hl 0 rfl) ?_
          refine rP 7 (f := 26) (h := p) (v := nI (n - 1)) hx hb hts hi1 hown hK hV (by omega) hP (by decide) (by decide) rfl wst_s k41 dX1_strikeOff_78 ?_
          refine lv_icmp_lt (tgt := 89) hx hb dX1_strikeOff_81 (by decide) (fun c81 => ?_) (fun c81 => ?_)
          · skip
            replace c81 := (nI_ltI (a := t) (b := n - 1) (by omega) (by omega)).mp c81
            exact xV hx hb hr hlocks (by rw [strkF_eq hs ht hn htn, show strT g t n = t from by unfold strT; (repeat' split) <;> omega, wst_self (by rw [wst_f (by decide), shF_o (by omega)]; exact ht)]; exact hV) hS dX1_strikeOff_89
          · skip
            replace c81 : ¬ (t < n - 1) := fun q => c81 ((nI_ltI (a := t) (b := n - 1) (by omega) (by omega)).mpr q)
            refine lv_aload_n hx hb dX1_strikeOff_84 rfl (lv_at hl 0 rfl) ?_
            refine lv_iconst (v := nI 0) hx hb dX1_strikeOff_85 (by decide) ?_
            refine wP 8 (f := 27) (h := p) hx hb hts hi1 hown hK hI hV hS (by omega) hP (by decide) (by decide) rfl rfl rfl k44 dX1_strikeOff_86 (fun H locs hV hS => ?_)
            exact xV hx hb hr hlocks (by rw [strkF_eq hs ht hn htn, show strT g t n = 0 from by unfold strT; (repeat' split) <;> omega]; exact hV) hS dX1_strikeOff_89
        · skip
          replace c60 : ¬ (t ≤ g) := fun q => c60 ((nI_leI (a := t) (b := g) (by omega) (by omega)).mpr q)
          refine lv_aload_n hx hb dX1_strikeOff_63 rfl (lv_at hl 0 rfl) ?_
          refine lv_dup hx hb dX1_strikeOff_64 rfl ?_
          refine rP 8 (f := 27) (h := p) (v := nI t) hx hb hts hi1 hown hK hV (by omega) hP (by decide) (by decide) rfl ((wst_f (by decide)).trans ((shF_o (by omega)).trans ht)) k44 dX1_strikeOff_65 ?_
          refine lv_iconst (v := 1) hx hb dX1_strikeOff_68 (by decide) ?_
          refine lv_isub hx hb dX1_strikeOff_69 ?_
          refine lv_topi (fun y3 ey3 => ?_)
          obtain rfl : y3 = nI (t - 1) := ey3.trans (pk_sub (a := t) (b := 1) (by omega))
          refine wP 8 (f := 27) (h := p) hx hb hts hi1 hown hK hI hV hS (by omega) hP (by decide) (by decide) rfl rfl rfl k44 dX1_strikeOff_70 (fun H locs hV hS => ?_)
          refine lv_aload_n hx hb dX1_strikeOff_73 rfl (lv_at hl 0 rfl) ?_
          refine rP 8 (f := 27) (h := p) (v := nI (t - 1)) hx hb hts hi1 hown hK hV (by omega) hP (by decide) (by decide) rfl wst_s k44 dX1_strikeOff_74 ?_
          refine lv_aload_n hx hb dX1_strikeOff_77 rfl (lv_at hl 0 rfl) ?_
          refine rP 7 (f := 26) (h := p) (v := nI (n - 1)) hx hb hts hi1 hown hK hV (by omega) hP (by decide) (by decide) rfl ((wst_f (by decide)).trans wst_s) k41 dX1_strikeOff_78 ?_
          refine lv_icmp_lt (tgt := 89) hx hb dX1_strikeOff_81 (by decide) (fun c81 => ?_) (fun c81 => ?_)
          · skip
            replace c81 := (nI_ltI (a := t - 1) (b := n - 1) (by omega) (by omega)).mp c81
            exact xV hx hb hr hlocks (by rw [strkF_eq hs ht hn htn, show strT g t n = t - 1 from by unfold strT; (repeat' split) <;> omega]; exact hV) hS dX1_strikeOff_89
          · skip
            replace c81 : ¬ (t - 1 < n - 1) := fun q => c81 ((nI_ltI (a := t - 1) (b := n - 1) (by omega) (by omega)).mpr q)
            refine lv_aload_n hx hb dX1_strikeOff_84 rfl (lv_at hl 0 rfl) ?_
            refine lv_iconst (v := nI 0) hx hb dX1_strikeOff_85 (by decide) ?_
            refine wP 8 (f := 27) (h := p) hx hb hts hi1 hown hK hI hV hS (by omega) hP (by decide) (by decide) rfl rfl rfl k44 dX1_strikeOff_86 (fun H locs hV hS => ?_)
            exact xV hx hb hr hlocks (by rw [strkF_eq hs ht hn htn, show strT g t n = 0 from by unfold strT; (repeat' split) <;> omega]; rw [wst_wst] at hV; exact hV) hS dX1_strikeOff_89
      · skip
        replace c22 : ¬ (n ≤ i + 1) := fun q => c22 ((nI_leI (a := n) (b := i + 1) (by omega) (by omega)).mpr q)
        refine lv_aload_n hx hb dX1_strikeOff_25 rfl (lv_at hl 0 rfl) ?_
        refine rPr (h := p) hx hb hts hi1 hown hK hV (by omega) k15 dX1_strikeOff_26 ?_
        refine lv_iload_n hx hb dX1_strikeOff_29 rfl (lv_at hl 2 rfl) ?_
        refine lv_iconst (v := 1) hx hb dX1_strikeOff_30 (by decide) ?_
        refine lv_isub hx hb dX1_strikeOff_31 ?_
        refine lv_topi (fun y4 ey4 => ?_)
        obtain rfl : y4 = nI i := ey4.trans (pk_sub (a := i + 1) (b := 1) (by omega))
        refine lv_aload_n hx hb dX1_strikeOff_32 rfl (lv_at hl 0 rfl) ?_
        refine rPr (h := p) hx hb hts hi1 hown hK hV (by omega) k15 dX1_strikeOff_33 ?_
        refine lv_iload_n hx hb dX1_strikeOff_36 rfl (lv_at hl 2 rfl) ?_
        refine rRo (h := p) (k := i + 1) (v := τ (40 + p) (i + 1)) hx hb hK hV (by omega) hP (by omega) (shF_lo (by omega)) dX1_strikeOff_37 ?_
        refine wRo (h := p) (k := i) hx hb hK hI hV hS (by omega) hP (by omega) dX1_strikeOff_38 (fun H locs hV hS => ?_)
        refine lv_iinc (k := 2) (v := nI (i + 2)) (lv' := [(2, .int (nI (i + 2))), (0, .ref (ad (13 + p))), (1, .int (nI g))]) hx hb dX1_strikeOff_39 hl rfl (nI_add (i + 1) 1) (by decide) rfl (fun ls hl => ?_)
        refine lv_goto (tgt := 17) hx hb dX1_strikeOff_42 (by decide) ?_
        exact ih (by omega) _ _ _ ⟨(by rw [← shF_s hx0]; exact hV), hS, lv_sub hl [1, 2, 0] rfl, (by omega)⟩
    · skip
      replace c9 : ¬ (g < n) := fun q => c9 ((nI_ltI (a := g) (b := n) (by omega) (by omega)).mpr q)
      exact absurd c9 (by omega)

set_option maxHeartbeats 4000000 in
set_option maxRecDepth 100000 in
theorem c_X1_strikeOff0 (l : Launch) (G : wG) (ad : Nat → Nat) (hI : adInj ad 19) (nH nP : Nat) (hH : nH ≤ 10) (hP : nP ≤ 3) (δ τ : wS) (p n : Nat) (hp : p < nP) (hs : τ 26 p = nI n) (hn : n ≤ 10) : Met l yX1_strikeOff wsX1_strikeOff ({ frames := 0, cells := 0, slots := 0, locals := 0 } : Room) (Pc0 G [.ref (ad (13 + p)), .int (-1)] (CVm G ad nH nP δ τ)) (Qv0 (CVm G ad nH nP δ τ) (AV ad 19)) 0 0 (AV ad 19) := by
  refine Met.ofW (cc := cX1_strikeOff) (maxL := 3) (ret := none) (by decide) rfl ?_
  intro pg ev s mid args below meth cd s₁ B hml hv0
  obtain ⟨rfl, hV, hK⟩ := hv0
  have hx := B.exec
  have hb := B.bytes
  have hr := B.returns
  have hts := atoms_spec (ws := wsX1_strikeOff) B.pre
  have hown : s.vm.findClass RX1 = some mid.cls := findClass_of_methodNamed B.named
  have hlocks := B.notSynchronized
  have hS : va_S (AV ad 19) s.heap s.heap [] := va_S.rf
  have hl := lv_entry ([.ref (ad (13 + p)), .int (-1)]) (n := 3) (Nat.le_of_ble_eq_true rfl)
  rw [lg_entry_eq]
  generalize (lg_sl ([.ref (ad (13 + p)), .int (-1)]) ++ List.replicate (3 - (lg_sl ([.ref (ad (13 + p)), .int (-1)])).length) Slot.unset).toArray = ls at hl ⊢
  have hl : lv_has ls 3 [(0, .ref (ad (13 + p))), (1, .int (-1))] := hl
  refine lv_iload_n hx hb dX1_strikeOff_0 rfl (lv_at hl 1 rfl) ?_
  refine lv_if_lt (tgt := 12) hx hb dX1_strikeOff_1 (by decide) (fun c1 => ?_) (fun c1 => ?_)
  · skip
    exact xV hx hb hr hlocks hV hS dX1_strikeOff_12
  · skip
    exact absurd (by decide) c1

set_option maxHeartbeats 4000000 in
set_option maxRecDepth 100000 in
theorem c_X1_placeBehind (l : Launch) (G : wG) (ad : Nat → Nat) (hI : adInj ad 19) (nH nP : Nat) (hH : nH ≤ 10) (hP : nP ≤ 3) (δ τ : wS) (p n k : Nat) (hp : p < nP) (hs : τ 26 p = nI n) (hn : n ≤ 10) (hk : k < n) : Met l yX1_placeBehind wsX1_placeBehind ({ frames := 0, cells := 0, slots := 0, locals := 0 } : Room) (Pc0 G [.ref (ad (13 + p)), .int (nI k)] (CVm G ad nH nP δ τ)) (Qi0 (nI ((k + 1) % n)) (CVm G ad nH nP δ τ) (AV ad 19)) 0 0 (AV ad 19) := by
  refine Met.ofW (cc := cX1_placeBehind) (maxL := 2) (ret := (some .int)) (by decide) rfl ?_
  intro pg ev s mid args below meth cd s₁ B hml hv0
  obtain ⟨rfl, hV, hK⟩ := hv0
  have hx := B.exec
  have hb := B.bytes
  have hr := B.returns
  have hts := atoms_spec (ws := wsX1_placeBehind) B.pre
  have hown : s.vm.findClass RX1 = some mid.cls := findClass_of_methodNamed B.named
  have hlocks := B.notSynchronized
  have hi1 : ∀ w ∈ wsX10, w ∈ wsX1_placeBehind := by decide +kernel
  have k41 := hts (.fieldLink RX1 41 "PumpRoster$Pump" "rosterSize" "I") (by decide +kernel)
  have hS : va_S (AV ad 19) s.heap s.heap [] := va_S.rf
  have hl := lv_entry ([.ref (ad (13 + p)), .int (nI k)]) (n := 2) (Nat.le_of_ble_eq_true rfl)
  rw [lg_entry_eq]
  generalize (lg_sl ([.ref (ad (13 + p)), .int (nI k)]) ++ List.replicate (2 - (lg_sl ([.ref (ad (13 + p)), .int (nI k)])).length) Slot.unset).toArray = ls at hl ⊢
  have hl : lv_has ls 2 [(0, .ref (ad (13 + p))), (1, .int (nI k))] := hl
  refine lv_iload_n hx hb dX1_placeBehind_0 rfl (lv_at hl 1 rfl) ?_
  refine lv_iconst (v := 1) hx hb dX1_placeBehind_1 (by decide) ?_
  refine lv_iadd hx hb dX1_placeBehind_2 ?_
  refine lv_topi (fun y1 ey1 => ?_)
  obtain rfl : y1 = nI (k + 1) := ey1.trans (nI_add k 1)
  refine lv_aload_n hx hb dX1_placeBehind_3 rfl (lv_at hl 0 rfl) ?_
  refine rP 7 (f := 26) (h := p) (v := nI n) hx hb hts hi1 hown hK hV (by omega) hP (by decide) (by decide) rfl hs k41 dX1_placeBehind_4 ?_
  refine lv_icmp_ge (tgt := 16) hx hb dX1_placeBehind_7 (by decide) (fun c7 => ?_) (fun c7 => ?_)
  · skip
    replace c7 := (nI_leI (a := n) (b := k + 1) (by omega) (by omega)).mp c7
    refine lv_iconst (v := nI 0) hx hb dX1_placeBehind_16 (by decide) ?_
    exact xI hx hb hr hlocks hV hS (by rw [show k + 1 = n by omega, Nat.mod_self]) dX1_placeBehind_17
  · skip
    replace c7 : ¬ (n ≤ k + 1) := fun q => c7 ((nI_leI (a := n) (b := k + 1) (by omega) (by omega)).mpr q)
    refine lv_iload_n hx hb dX1_placeBehind_10 rfl (lv_at hl 1 rfl) ?_
    refine lv_iconst (v := 1) hx hb dX1_placeBehind_11 (by decide) ?_
    refine lv_iadd hx hb dX1_placeBehind_12 ?_
    refine lv_topi (fun y2 ey2 => ?_)
    obtain rfl : y2 = nI (k + 1) := ey2.trans (nI_add k 1)
    refine lv_goto (tgt := 17) hx hb dX1_placeBehind_13 (by decide) ?_
    exact xI hx hb hr hlocks hV hS (by rw [Nat.mod_eq_of_lt (by omega)]) dX1_placeBehind_17

set_option maxHeartbeats 4000000 in
set_option maxRecDepth 100000 in
theorem c_X1_breakHandle (l : Launch) (G : wG) (ad : Nat → Nat) (hI : adInj ad 19) (nH nP : Nat) (hH : nH ≤ 10) (hP : nP ≤ 3) (δ τ : wS) (p : Nat) (hp : p < nP) : Met l yX1_breakHandle wsX1_breakHandle ({ frames := 0, cells := 0, slots := 0, locals := 0 } : Room) (Pc0 G [.ref (ad (13 + p))] (CVm G ad nH nP δ τ)) (Qv0 (CVm G ad nH nP δ (wst (wst (wst τ 23 p 1) 32 p 1) 24 p 3)) (AV ad 19)) 0 0 (AV ad 19) := by
  refine Met.ofW (cc := cX1_breakHandle) (maxL := 1) (ret := none) (by decide) rfl ?_
  intro pg ev s mid args below meth cd s₁ B hml hv0
  obtain ⟨rfl, hV, hK⟩ := hv0
  have hx := B.exec
  have hb := B.bytes
  have hr := B.returns
  have hts := atoms_spec (ws := wsX1_breakHandle) B.pre
  have hown : s.vm.findClass RX1 = some mid.cls := findClass_of_methodNamed B.named
  have hlocks := B.notSynchronized
  have hi1 : ∀ w ∈ wsX10, w ∈ wsX1_breakHandle := by decide +kernel
  have k28 := hts (.fieldLink RX1 28 "PumpRoster$Pump" "broken" "Z") (by decide +kernel)
  have k56 := hts (.fieldLink RX1 56 "PumpRoster$Pump" "brokeToday" "Z") (by decide +kernel)
  have k32 := hts (.fieldLink RX1 32 "PumpRoster$Pump" "daysToWait" "I") (by decide +kernel)
  have hS : va_S (AV ad 19) s.heap s.heap [] := va_S.rf
  have hl := lv_entry ([.ref (ad (13 + p))]) (n := 1) (Nat.le_of_ble_eq_true rfl)
  rw [lg_entry_eq]
  generalize (lg_sl ([.ref (ad (13 + p))]) ++ List.replicate (1 - (lg_sl ([.ref (ad (13 + p))])).length) Slot.unset).toArray = ls at hl ⊢
  have hl : lv_has ls 1 [(0, .ref (ad (13 + p)))] := hl
  refine lv_aload_n hx hb dX1_breakHandle_0 rfl (lv_at hl 0 rfl) ?_
  refine lv_iconst (v := 1) hx hb dX1_breakHandle_1 (by decide) ?_
  refine wP 3 (f := 23) (h := p) hx hb hts hi1 hown hK hI hV hS (by omega) hP (by decide) (by decide) rfl rfl rfl k28 dX1_breakHandle_2 (fun H locs hV hS => ?_)
  refine lv_aload_n hx hb dX1_breakHandle_5 rfl (lv_at hl 0 rfl) ?_
  refine lv_iconst (v := 1) hx hb dX1_breakHandle_6 (by decide) ?_
  refine wP 13 (f := 32) (h := p) hx hb hts hi1 hown hK hI hV hS (by omega) hP (by decide) (by decide) rfl rfl rfl k56 dX1_breakHandle_7 (fun H locs hV hS => ?_)
  refine lv_aload_n hx hb dX1_breakHandle_10 rfl (lv_at hl 0 rfl) ?_
  refine lv_iconst (v := 3) hx hb dX1_breakHandle_11 (by decide) ?_
  refine wP 4 (f := 24) (h := p) hx hb hts hi1 hown hK hI hV hS (by omega) hP (by decide) (by decide) rfl rfl rfl k32 dX1_breakHandle_12 (fun H locs hV hS => ?_)
  exact xV hx hb hr hlocks hV hS dX1_breakHandle_15

set_option maxHeartbeats 4000000 in
set_option maxRecDepth 100000 in
theorem c_X1_mendHandle (l : Launch) (G : wG) (ad : Nat → Nat) (hI : adInj ad 19) (nH nP : Nat) (hH : nH ≤ 10) (hP : nP ≤ 3) (δ τ : wS) (p : Nat) (hp : p < nP) : Met l yX1_mendHandle wsX1_mendHandle ({ frames := 0, cells := 0, slots := 0, locals := 0 } : Room) (Pc0 G [.ref (ad (13 + p))] (CVm G ad nH nP δ τ)) (Qv0 (CVm G ad nH nP δ (wst (wst (wst τ 23 p 0) 22 p 0) 30 p (τ 30 p + 1))) (AV ad 19)) 0 0 (AV ad 19) := by
  refine Met.ofW (cc := cX1_mendHandle) (maxL := 1) (ret := none) (by decide) rfl ?_
  intro pg ev s mid args below meth cd s₁ B hml hv0
  obtain ⟨rfl, hV, hK⟩ := hv0
  have hx := B.exec
  have hb := B.bytes
  have hr := B.returns
  have hts := atoms_spec (ws := wsX1_mendHandle) B.pre
  have hown : s.vm.findClass RX1 = some mid.cls := findClass_of_methodNamed B.named
  have hlocks := B.notSynchronized
  have hi1 : ∀ w ∈ wsX10, w ∈ wsX1_mendHandle := by decide +kernel
  have k28 := hts (.fieldLink RX1 28 "PumpRoster$Pump" "broken" "Z") (by decide +kernel)
  have k25 := hts (.fieldLink RX1 25 "PumpRoster$Pump" "wear" "I") (by decide +kernel)
  have k53 := hts (.fieldLink RX1 53 "PumpRoster$Pump" "timesMended" "I") (by decide +kernel)
  have hS : va_S (AV ad 19) s.heap s.heap [] := va_S.rf
  have hl := lv_entry ([.ref (ad (13 + p))]) (n := 1) (Nat.le_of_ble_eq_true rfl)
  rw [lg_entry_eq]
  generalize (lg_sl ([.ref (ad (13 + p))]) ++ List.replicate (1 - (lg_sl ([.ref (ad (13 + p))])).length) Slot.unset).toArray = ls at hl ⊢
  have hl : lv_has ls 1 [(0, .ref (ad (13 + p)))] := hl
  refine lv_aload_n hx hb dX1_mendHandle_0 rfl (lv_at hl 0 rfl) ?_
  refine lv_iconst (v := 0) hx hb dX1_mendHandle_1 (by decide) ?_
  refine wP 3 (f := 23) (h := p) hx hb hts hi1 hown hK hI hV hS (by omega) hP (by decide) (by decide) rfl rfl rfl k28 dX1_mendHandle_2 (fun H locs hV hS => ?_)
  refine lv_aload_n hx hb dX1_mendHandle_5 rfl (lv_at hl 0 rfl) ?_
  refine lv_iconst (v := 0) hx hb dX1_mendHandle_6 (by decide) ?_
  refine wP 2 (f := 22) (h := p) hx hb hts hi1 hown hK hI hV hS (by omega) hP (by decide) (by decide) rfl rfl rfl k25 dX1_mendHandle_7 (fun H locs hV hS => ?_)
  refine lv_aload_n hx hb dX1_mendHandle_10 rfl (lv_at hl 0 rfl) ?_
  refine lv_dup hx hb dX1_mendHandle_11 rfl ?_
  refine rP 11 (f := 30) (h := p) (v := τ 30 p) hx hb hts hi1 hown hK hV (by omega) hP (by decide) (by decide) rfl ((wst_f (by decide)).trans (wst_f (by decide))) k53 dX1_mendHandle_12 ?_
  refine lv_iconst (v := 1) hx hb dX1_mendHandle_15 (by decide) ?_
  refine lv_iadd hx hb dX1_mendHandle_16 ?_
  refine wP 11 (f := 30) (h := p) hx hb hts hi1 hown hK hI hV hS (by omega) hP (by decide) (by decide) rfl rfl rfl k53 dX1_mendHandle_17 (fun H locs hV hS => ?_)
  exact xV hx hb hr hlocks hV hS dX1_mendHandle_20
