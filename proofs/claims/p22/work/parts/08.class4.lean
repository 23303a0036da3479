set_option maxHeartbeats 4000000 in
set_option maxRecDepth 100000 in
theorem c_X1_fact (l : Launch) (G : wG) (ad : Nat → Nat) (hI : adInj ad 19) (nH nP : Nat) (hH : nH ≤ 10) (hP : nP ≤ 3) (δ τ : wS) (p k : Nat) (hp : p < nP) (hb01 : τ 23 p = 0 ∨ τ 23 p = 1) (hk : k ≤ 10) : Met l yX1_fact wsX1_fact ({ frames := 0, cells := 0, slots := 0, locals := 0 } : Room) (Pc0 G [.ref (ad (13 + p)), .int (nI k)] (CVm G ad nH nP δ τ)) (Qi0 (τ (20 + k) p) (CVm G ad nH nP δ τ) (AV ad 19)) 0 0 (AV ad 19) := by
  refine Met.ofW (cc := cX1_fact) (maxL := 2) (ret := (some .int)) (by decide) rfl ?_
  intro pg ev s mid args below meth cd s₁ B hml hv0
  obtain ⟨rfl, hV, hK⟩ := hv0
  have hx := B.exec
  have hb := B.bytes
  have hr := B.returns
  have hts := atoms_spec (ws := wsX1_fact) B.pre
  have hown : s.vm.findClass RX1 = some mid.cls := findClass_of_methodNamed B.named
  have hlocks := B.notSynchronized
  have hi1 : ∀ w ∈ wsX10, w ∈ wsX1_fact := by decide +kernel
  have k19 := hts (.fieldLink RX1 19 "PumpRoster$Pump" "level" "I") (by decide +kernel)
  have k22 := hts (.fieldLink RX1 22 "PumpRoster$Pump" "inflow" "I") (by decide +kernel)
  have k25 := hts (.fieldLink RX1 25 "PumpRoster$Pump" "wear" "I") (by decide +kernel)
  have k28 := hts (.fieldLink RX1 28 "PumpRoster$Pump" "broken" "Z") (by decide +kernel)
  have k32 := hts (.fieldLink RX1 32 "PumpRoster$Pump" "daysToWait" "I") (by decide +kernel)
  have k9 := hts (.fieldLink RX1 9 "PumpRoster$Pump" "keyHolder" "I") (by decide +kernel)
  have k41 := hts (.fieldLink RX1 41 "PumpRoster$Pump" "rosterSize" "I") (by decide +kernel)
  have k44 := hts (.fieldLink RX1 44 "PumpRoster$Pump" "turn" "I") (by decide +kernel)
  have k47 := hts (.fieldLink RX1 47 "PumpRoster$Pump" "daysOpen" "I") (by decide +kernel)
  have k50 := hts (.fieldLink RX1 50 "PumpRoster$Pump" "drawn" "I") (by decide +kernel)
  have k53 := hts (.fieldLink RX1 53 "PumpRoster$Pump" "timesMended" "I") (by decide +kernel)
  have hS : va_S (AV ad 19) s.heap s.heap [] := va_S.rf
  have hl := lv_entry ([.ref (ad (13 + p)), .int (nI k)]) (n := 2) (Nat.le_of_ble_eq_true rfl)
  rw [lg_entry_eq]
  generalize (lg_sl ([.ref (ad (13 + p)), .int (nI k)]) ++ List.replicate (2 - (lg_sl ([.ref (ad (13 + p)), .int (nI k)])).length) Slot.unset).toArray = ls at hl ⊢
  have hl : lv_has ls 2 [(0, .ref (ad (13 + p))), (1, .int (nI k))] := hl
  refine lv_iload_n hx hb dX1_fact_0 rfl (lv_at hl 1 rfl) ?_
  rcases (show k = 0 ∨ k = 1 ∨ k = 2 ∨ k = 3 ∨ k = 4 ∨ k = 5 ∨ k = 6 ∨ k = 7 ∨ k = 8 ∨ k = 9 ∨ k = 10 by omega) with rfl | rfl | rfl | rfl | rfl | rfl | rfl | rfl | rfl | rfl | rfl
  · skip
    refine lv_tableIn (off := 55) (tgt := 56) hx hb dX1_fact_1 (by decide) (by decide) rfl (by decide) ?_
    refine lv_aload_n hx hb dX1_fact_56 rfl (lv_at hl 0 rfl) ?_
    refine rP 0 (f := 20) (h := p) (v := τ 20 p) hx hb hts hi1 hown hK hV (by omega) hP (by decide) (by decide) rfl rfl k19 dX1_fact_57 ?_
    exact xI hx hb hr hlocks hV hS rfl dX1_fact_60
  · skip
    refine lv_tableIn (off := 60) (tgt := 61) hx hb dX1_fact_1 (by decide) (by decide) rfl (by decide) ?_
    refine lv_aload_n hx hb dX1_fact_61 rfl (lv_at hl 0 rfl) ?_
    refine rP 1 (f := 21) (h := p) (v := τ 21 p) hx hb hts hi1 hown hK hV (by omega) hP (by decide) (by decide) rfl rfl k22 dX1_fact_62 ?_
    exact xI hx hb hr hlocks hV hS rfl dX1_fact_65
  · skip
    refine lv_tableIn (off := 65) (tgt := 66) hx hb dX1_fact_1 (by decide) (by decide) rfl (by decide) ?_
    refine lv_aload_n hx hb dX1_fact_66 rfl (lv_at hl 0 rfl) ?_
    refine rP 2 (f := 22) (h := p) (v := τ 22 p) hx hb hts hi1 hown hK hV (by omega) hP (by decide) (by decide) rfl rfl k25 dX1_fact_67 ?_
    exact xI hx hb hr hlocks hV hS rfl dX1_fact_70
  · skip
    refine lv_tableIn (off := 70) (tgt := 71) hx hb dX1_fact_1 (by decide) (by decide) rfl (by decide) ?_
    refine lv_aload_n hx hb dX1_fact_71 rfl (lv_at hl 0 rfl) ?_
    refine rP 3 (f := 23) (h := p) (v := τ 23 p) hx hb hts hi1 hown hK hV (by omega) hP (by decide) (by decide) rfl rfl k28 dX1_fact_72 ?_
    refine lv_if_eq (tgt := 82) hx hb dX1_fact_75 (by decide) (fun c75 => ?_) (fun c75 => ?_)
    · skip
      refine lv_iconst (v := 0) hx hb dX1_fact_82 (by decide) ?_
      exact xI hx hb hr hlocks hV hS c75.symm dX1_fact_83
    · skip
      refine lv_iconst (v := 1) hx hb dX1_fact_78 (by decide) ?_
      refine lv_goto (tgt := 83) hx hb dX1_fact_79 (by decide) ?_
      exact xI hx hb hr hlocks hV hS ((hb01.resolve_left c75).symm) dX1_fact_83
  · skip
    refine lv_tableIn (off := 83) (tgt := 84) hx hb dX1_fact_1 (by decide) (by decide) rfl (by decide) ?_
    refine lv_aload_n hx hb dX1_fact_84 rfl (lv_at hl 0 rfl) ?_
    refine rP 4 (f := 24) (h := p) (v := τ 24 p) hx hb hts hi1 hown hK hV (by omega) hP (by decide) (by decide) rfl rfl k32 dX1_fact_85 ?_
    exact xI hx hb hr hlocks hV hS rfl dX1_fact_88
  · skip
    refine lv_tableIn (off := 88) (tgt := 89) hx hb dX1_fact_1 (by decide) (by decide) rfl (by decide) ?_
    refine lv_aload_n hx hb dX1_fact_89 rfl (lv_at hl 0 rfl) ?_
    refine rP 5 (f := 25) (h := p) (v := τ 25 p) hx hb hts hi1 hown hK hV (by omega) hP (by decide) (by decide) rfl rfl k9 dX1_fact_90 ?_
    exact xI hx hb hr hlocks hV hS rfl dX1_fact_93
  · skip
    refine lv_tableIn (off := 93) (tgt := 94) hx hb dX1_fact_1 (by decide) (by decide) rfl (by decide) ?_
    refine lv_aload_n hx hb dX1_fact_94 rfl (lv_at hl 0 rfl) ?_
    refine rP 7 (f := 26) (h := p) (v := τ 26 p) hx hb hts hi1 hown hK hV (by omega) hP (by decide) (by decide) rfl rfl k41 dX1_fact_95 ?_
    exact xI hx hb hr hlocks hV hS rfl dX1_fact_98
  · skip
    refine lv_tableIn (off := 98) (tgt := 99) hx hb dX1_fact_1 (by decide) (by decide) rfl (by decide) ?_
    refine lv_aload_n hx hb dX1_fact_99 rfl (lv_at hl 0 rfl) ?_
    refine rP 8 (f := 27) (h := p) (v := τ 27 p) hx hb hts hi1 hown hK hV (by omega) hP (by decide) (by decide) rfl rfl k44 dX1_fact_100 ?_
    exact xI hx hb hr hlocks hV hS rfl dX1_fact_103
  · skip
    refine lv_tableIn (off := 103) (tgt := 104) hx hb dX1_fact_1 (by decide) (by decide) rfl (by decide) ?_
    refine lv_aload_n hx hb dX1_fact_104 rfl (lv_at hl 0 rfl) ?_
    refine rP 9 (f := 28) (h := p) (v := τ 28 p) hx hb hts hi1 hown hK hV (by omega) hP (by decide) (by decide) rfl rfl k47 dX1_fact_105 ?_
    exact xI hx hb hr hlocks hV hS rfl dX1_fact_108
  · skip
    refine lv_tableIn (off := 108) (tgt := 109) hx hb dX1_fact_1 (by decide) (by decide) rfl (by decide) ?_
    refine lv_aload_n hx hb dX1_fact_109 rfl (lv_at hl 0 rfl) ?_
    refine rP 10 (f := 29) (h := p) (v := τ 29 p) hx hb hts hi1 hown hK hV (by omega) hP (by decide) (by decide) rfl rfl k50 dX1_fact_110 ?_
    exact xI hx hb hr hlocks hV hS rfl dX1_fact_113
  · skip
    refine lv_tableOut (tgt := 114) hx hb dX1_fact_1 (by decide) (by decide) ?_
    refine lv_aload_n hx hb dX1_fact_114 rfl (lv_at hl 0 rfl) ?_
    refine rP 11 (f := 30) (h := p) (v := τ 30 p) hx hb hts hi1 hown hK hV (by omega) hP (by decide) (by decide) rfl rfl k53 dX1_fact_115 ?_
    exact xI hx hb hr hlocks hV hS rfl dX1_fact_118

set_option maxHeartbeats 4000000 in
set_option maxRecDepth 100000 in
theorem c_X1_mixInto (l : Launch) (G : wG) (ad : Nat → Nat) (hI : adInj ad 19) (nH nP : Nat) (hH : nH ≤ 10) (hP : nP ≤ 3) (δ τ : wS) (p n : Nat) (d : Int64) (hp : p < nP) (hb01 : τ 23 p = 0 ∨ τ 23 p = 1) (hs : τ 26 p = nI n) (hn : n ≤ 10) : Met l yX1_mixInto wsX1_mixInto ({ frames := 1, cells := 0, slots := 0, locals := 21 } : Room) (Pc0 G [.ref (ad (13 + p)), .long d] (CVm G ad nH nP δ τ)) (Ql0 (mxl (τ (40 + p)) (mxl (fun k => τ (20 + k) p) d 11) n) (CVm G ad nH nP δ τ) (AV ad 19)) 0 0 (AV ad 19) := by
  refine Met.ofW (cc := cX1_mixInto) (maxL := 6) (ret := (some .long)) (by decide) rfl ?_
  intro pg ev s mid args below meth cd s₁ B hml hv0
  obtain ⟨rfl, hV, hK⟩ := hv0
  have hx := B.exec
  have hb := B.bytes
  have hr := B.returns
  have hts := atoms_spec (ws := wsX1_mixInto) B.pre
  have hown : s.vm.findClass RX1 = some mid.cls := findClass_of_methodNamed B.named
  have hlocks := B.notSynchronized
  have hi1 : ∀ w ∈ wsX10, w ∈ wsX1_mixInto := by decide +kernel
  have k41 := hts (.fieldLink RX1 41 "PumpRoster$Pump" "rosterSize" "I") (by decide +kernel)
  have k59 := hts (.constantLong RX1 59 (31)) (by decide +kernel)
  have k15 := hts (.fieldLink RX1 15 "PumpRoster$Pump" "roster" "[I") (by decide +kernel)
  have hS : va_S (AV ad 19) s.heap s.heap [] := va_S.rf
  have hl := lv_entry ([.ref (ad (13 + p)), .long d]) (n := 6) (Nat.le_of_ble_eq_true rfl)
  rw [lg_entry_eq]
  generalize (lg_sl ([.ref (ad (13 + p)), .long d]) ++ List.replicate (6 - (lg_sl ([.ref (ad (13 + p)), .long d])).length) Slot.unset).toArray = ls at hl ⊢
  have hl : lv_has ls 6 [(0, .ref (ad (13 + p))), (1, .long d)] := hl
  refine lv_lload_n hx hb dX1_mixInto_0 rfl (lv_at hl 1 rfl) ?_
  refine lv_lstore_n (lv' := [(3, .long d), (0, .ref (ad (13 + p))), (1, .long d)]) hx hb dX1_mixInto_1 rfl hl (by decide) rfl (fun ls hl => ?_)
  refine lv_iconst (v := nI 0) hx hb dX1_mixInto_2 (by decide) ?_
  refine lv_istore (lv' := [(5, .int (nI 0)), (3, .long d), (0, .ref (ad (13 + p))), (1, .long d)]) hx hb dX1_mixInto_3 hl (by decide) rfl (fun ls hl => ?_)
  refine W_up 11 (fun i H locs ls => CVm G ad nH nP δ τ H ∧ va_S (AV ad 19) s.heap H locs ∧ lv_has ls 6 [(0, .ref (ad (13 + p))), (3, .long (mxl (fun k => τ (20 + k) p) d i)), (5, .int (nI i))]) ?_ 0 (by omega) _ _ _ ⟨hV, hS, lv_sub hl [2, 1, 0] rfl⟩
  intro i H locs ls hi ⟨hV, hS, hl⟩ ih
  refine lv_iload hx hb dX1_mixInto_5 (lv_at hl 2 rfl) ?_
  refine lv_bipush (v := 10) hx hb dX1_mixInto_7 (by decide) ?_
  refine lv_icmp_gt (tgt := 32) hx hb dX1_mixInto_9 (by decide) (fun c9 => ?_) (fun c9 => ?_)
  · skip
    replace c9 := (nI_ltI (a := 10) (b := i) (by omega) (by omega)).mp c9
    obtain rfl : 11 = i := by omega
    refine lv_iconst (v := nI 0) hx hb dX1_mixInto_32 (by decide) ?_
    refine lv_istore (lv' := [(5, .int (nI 0)), (0, .ref (ad (13 + p))), (3, .long (mxl (fun k => τ (20 + k) p) d 11))]) hx hb dX1_mixInto_33 hl (by decide) rfl (fun ls hl => ?_)
    refine W_up n (fun i H locs ls => CVm G ad nH nP δ τ H ∧ va_S (AV ad 19) s.heap H locs ∧ lv_has ls 6 [(0, .ref (ad (13 + p))), (3, .long (mxl (τ (40 + p)) (mxl (fun k => τ (20 + k) p) d 11) i)), (5, .int (nI i))]) ?_ 0 (by omega) _ _ _ ⟨hV, hS, lv_sub hl [1, 2, 0] rfl⟩
    intro i H locs ls hi ⟨hV, hS, hl⟩ ih
    refine lv_iload hx hb dX1_mixInto_35 (lv_at hl 2 rfl) ?_
    refine lv_aload_n hx hb dX1_mixInto_37 rfl (lv_at hl 0 rfl) ?_
    refine rP 7 (f := 26) (h := p) (v := nI n) hx hb hts hi1 hown hK hV (by omega) hP (by decide) (by decide) rfl hs k41 dX1_mixInto_38 ?_
    refine lv_icmp_ge (tgt := 65) hx hb dX1_mixInto_41 (by decide) (fun c41 => ?_) (fun c41 => ?_)
    · skip
      replace c41 := (nI_leI (a := n) (b := i) (by omega) (by omega)).mp c41
      obtain rfl : n = i := by omega
      refine lv_lload_n hx hb dX1_mixInto_65 rfl (lv_at hl 1 rfl) ?_
      exact xL hx hb hr hlocks hV hS rfl dX1_mixInto_66
    · skip
      replace c41 : ¬ (n ≤ i) := fun q => c41 ((nI_leI (a := n) (b := i) (by omega) (by omega)).mpr q)
      refine lv_lload_n hx hb dX1_mixInto_44 rfl (lv_at hl 1 rfl) ?_
      refine lv_ldc2 (v := 31) hx hb hown k59 dX1_mixInto_45 ?_
      refine lv_lmul hx hb dX1_mixInto_48 ?_
      refine lv_aload_n hx hb dX1_mixInto_49 rfl (lv_at hl 0 rfl) ?_
      refine rPr (h := p) hx hb hts hi1 hown hK hV (by omega) k15 dX1_mixInto_50 ?_
      refine lv_iload hx hb dX1_mixInto_53 (lv_at hl 2 rfl) ?_
      refine rRo (h := p) (k := i) (v := τ (40 + p) i) hx hb hK hV (by omega) hP (by omega) rfl dX1_mixInto_55 ?_
      refine lv_i2l hx hb dX1_mixInto_56 rfl ?_
      refine lv_ladd hx hb dX1_mixInto_57 ?_
      refine lv_lstore_n (lv' := [(3, .long (((mxl (τ (40 + p)) (mxl (fun k => τ (20 + k) p) d 11) i) * 31) + (Int32.toInt64 (τ (40 + p) i)))), (0, .ref (ad (13 + p))), (5, .int (nI i))]) hx hb dX1_mixInto_58 rfl hl (by decide) rfl (fun ls hl => ?_)
      refine lv_iinc (k := 2) (v := nI (i + 1)) (lv' := [(5, .int (nI (i + 1))), (3, .long (((mxl (τ (40 + p)) (mxl (fun k => τ (20 + k) p) d 11) i) * 31) + (Int32.toInt64 (τ (40 + p) i)))), (0, .ref (ad (13 + p)))]) hx hb dX1_mixInto_59 hl rfl (nI_add i 1) (by decide) rfl (fun ls hl => ?_)
      refine lv_goto (tgt := 35) hx hb dX1_mixInto_62 (by decide) ?_
      exact ih (by omega) _ _ _ ⟨hV, hS, lv_sub hl [2, 1, 0] rfl⟩
  · skip
    replace c9 : ¬ (10 < i) := fun q => c9 ((nI_ltI (a := 10) (b := i) (by omega) (by omega)).mpr q)
    refine lv_lload_n hx hb dX1_mixInto_12 rfl (lv_at hl 1 rfl) ?_
    refine lv_ldc2 (v := 31) hx hb hown k59 dX1_mixInto_13 ?_
    refine lv_lmul hx hb dX1_mixInto_16 ?_
    refine lv_aload_n hx hb dX1_mixInto_17 rfl (lv_at hl 0 rfl) ?_
    refine lv_iload hx hb dX1_mixInto_18 (lv_at hl 2 rfl) ?_
    refine kI (va_runV (As := [.int (nI i)]) (rest := [.long ((mxl (fun k => τ (20 + k) p) d i) * 31)]) ⟨hx, hb, hml, hown, hts⟩ (c_X1_fact l G ad hI nH nP hH hP δ τ p i (by omega) hb01 (by omega)) (cwV 1 hts gX1_mixInto_X1_fact rfl rfl rfl (by decide +kernel) ⟨Nat.le_of_ble_eq_true rfl, Nat.le_of_ble_eq_true rfl⟩) ⟨Pc0.blind, va_recv hK (va_P1 (hV.2.2.2.2.1 p (by omega))) (ci := 1) (q0 := 0) rfl rfl, Pc0.pre hV hK⟩ rfl rfl hl.1 rfl (lv_room (Nat.le_of_ble_eq_true rfl)) dX1_mixInto_20 ⟨Nat.zero_le _, Nat.zero_le _⟩) hS (fun _ _ q => q) (fun _ q => q) (fun H locs hV _ _ hS => ?_)
    refine lv_i2l hx hb dX1_mixInto_23 rfl ?_
    refine lv_ladd hx hb dX1_mixInto_24 ?_
    refine lv_lstore_n (lv' := [(3, .long (((mxl (fun k => τ (20 + k) p) d i) * 31) + (Int32.toInt64 (τ (20 + i) p)))), (0, .ref (ad (13 + p))), (5, .int (nI i))]) hx hb dX1_mixInto_25 rfl hl (by decide) rfl (fun ls hl => ?_)
    refine lv_iinc (k := 2) (v := nI (i + 1)) (lv' := [(5, .int (nI (i + 1))), (3, .long (((mxl (fun k => τ (20 + k) p) d i) * 31) + (Int32.toInt64 (τ (20 + i) p)))), (0, .ref (ad (13 + p)))]) hx hb dX1_mixInto_26 hl rfl (nI_add i 1) (by decide) rfl (fun ls hl => ?_)
    refine lv_goto (tgt := 5) hx hb dX1_mixInto_29 (by decide) ?_
    exact ih (by omega) _ _ _ ⟨hV, hS, lv_sub hl [2, 1, 0] rfl⟩

set_option maxHeartbeats 4000000 in
set_option maxRecDepth 100000 in
theorem c_X2_houseFact (l : Launch) (G : wG) (ad : Nat → Nat) (hI : adInj ad 19) (nH nP : Nat) (hH : nH ≤ 10) (hP : nP ≤ 3) (δ τ : wS) (h k : Nat) (hv : Inv nH nP τ) (hh : h < nH) (hk : k ≤ 10) : Met l yX2_houseFact wsX2_houseFact ({ frames := 1, cells := 0, slots := 0, locals := 23 } : Room) (Pc0 G [.ref (ad 0), .ref (ad (3 + h)), .int (nI k)] (CVm G ad nH nP δ τ)) (Qi0 (hftF nP τ h k) (CVm G ad nH nP δ τ) (AV ad 19)) 0 0 (AV ad 19) := by
  refine Met.ofW (cc := cX2_houseFact) (maxL := 3) (ret := (some .int)) (by decide) rfl ?_
  intro pg ev s mid args below meth cd s₁ B hml hv0
  obtain ⟨rfl, hV, hK⟩ := hv0
  have hx := B.exec
  have hb := B.bytes
  have hr := B.returns
  have hts := atoms_spec (ws := wsX2_houseFact) B.pre
  have hown : s.vm.findClass RX2 = some mid.cls := findClass_of_methodNamed B.named
  have hlocks := B.notSynchronized
  have hi0 : ∀ w ∈ wsX00, w ∈ wsX2_houseFact := by decide +kernel
  have k206 := hts (.fieldLink RX2 206 "PumpRoster$House" "lodgers" "I") (by decide +kernel)
  have k101 := hts (.fieldLink RX2 101 "PumpRoster$House" "hens" "I") (by decide +kernel)
  have k50 := hts (.fieldLink RX2 50 "PumpRoster$House" "eggs" "I") (by decide +kernel)
  have k59 := hts (.fieldLink RX2 59 "PumpRoster$House" "marks" "I") (by decide +kernel)
  have k203 := hts (.fieldLink RX2 203 "PumpRoster$House" "daysAway" "I") (by decide +kernel)
  have k160 := hts (.fieldLink RX2 160 "PumpRoster$House" "firstPump" "I") (by decide +kernel)
  have k129 := hts (.fieldLink RX2 129 "PumpRoster$House" "duties" "I") (by decide +kernel)
  have k170 := hts (.fieldLink RX2 170 "PumpRoster$House" "thirst" "I") (by decide +kernel)
  have k144 := hts (.fieldLink RX2 144 "PumpRoster$House" "keysToHandOn" "I") (by decide +kernel)
  have k47 := hts (.fieldLink RX2 47 "PumpRoster$House" "finesTold" "I") (by decide +kernel)
  have k62 := hts (.fieldLink RX2 62 "PumpRoster$House" "number" "I") (by decide +kernel)
  have hS : va_S (AV ad 19) s.heap s.heap [] := va_S.rf
  have hl := lv_entry ([.ref (ad 0), .ref (ad (3 + h)), .int (nI k)]) (n := 3) (Nat.le_of_ble_eq_true rfl)
  rw [lg_entry_eq]
  generalize (lg_sl ([.ref (ad 0), .ref (ad (3 + h)), .int (nI k)]) ++ List.replicate (3 - (lg_sl ([.ref (ad 0), .ref (ad (3 + h)), .int (nI k)])).length) Slot.unset).toArray = ls at hl ⊢
  have hl : lv_has ls 3 [(0, .ref (ad 0)), (1, .ref (ad (3 + h))), (2, .int (nI k))] := hl
  refine lv_iload_n hx hb dX2_houseFact_0 rfl (lv_at hl 2 rfl) ?_
  rcases (show k = 0 ∨ k = 1 ∨ k = 2 ∨ k = 3 ∨ k = 4 ∨ k = 5 ∨ k = 6 ∨ k = 7 ∨ k = 8 ∨ k = 9 ∨ k = 10 by omega) with rfl | rfl | rfl | rfl | rfl | rfl | rfl | rfl | rfl | rfl | rfl
  · skip
    refine lv_tableIn (off := 55) (tgt := 56) hx hb dX2_houseFact_1 (by decide) (by decide) rfl (by decide) ?_
    refine lv_aload_n hx hb dX2_houseFact_56 rfl (lv_at hl 1 rfl) ?_
    refine rH 1 (f := 0) (h := h) (v := τ 0 h) hx hb hts hi0 hown hK hV (by omega) hH (by decide) (by decide) rfl rfl k206 dX2_houseFact_57 ?_
    exact xI hx hb hr hlocks hV hS rfl dX2_houseFact_60
  · skip
    refine lv_tableIn (off := 60) (tgt := 61) hx hb dX2_houseFact_1 (by decide) (by decide) rfl (by decide) ?_
    refine lv_aload_n hx hb dX2_houseFact_61 rfl (lv_at hl 1 rfl) ?_
    refine rH 2 (f := 1) (h := h) (v := τ 1 h) hx hb hts hi0 hown hK hV (by omega) hH (by decide) (by decide) rfl rfl k101 dX2_houseFact_62 ?_
    exact xI hx hb hr hlocks hV hS rfl dX2_houseFact_65
  · skip
    refine lv_tableIn (off := 65) (tgt := 66) hx hb dX2_houseFact_1 (by decide) (by decide) rfl (by decide) ?_
    refine lv_aload_n hx hb dX2_houseFact_66 rfl (lv_at hl 1 rfl) ?_
    refine rH 4 (f := 3) (h := h) (v := τ 3 h) hx hb hts hi0 hown hK hV (by omega) hH (by decide) (by decide) rfl rfl k50 dX2_houseFact_67 ?_
    exact xI hx hb hr hlocks hV hS rfl dX2_houseFact_70
  · skip
    refine lv_tableIn (off := 70) (tgt := 71) hx hb dX2_houseFact_1 (by decide) (by decide) rfl (by decide) ?_
    refine lv_aload_n hx hb dX2_houseFact_71 rfl (lv_at hl 1 rfl) ?_
    refine rH 5 (f := 4) (h := h) (v := τ 4 h) hx hb hts hi0 hown hK hV (by omega) hH (by decide) (by decide) rfl rfl k59 dX2_houseFact_72 ?_
    exact xI hx hb hr hlocks hV hS rfl dX2_houseFact_75
  · skip
    refine lv_tableIn (off := 75) (tgt := 76) hx hb dX2_houseFact_1 (by decide) (by decide) rfl (by decide) ?_
    refine lv_aload_n hx hb dX2_houseFact_76 rfl (lv_at hl 1 rfl) ?_
    refine rH 6 (f := 6) (h := h) (v := τ 6 h) hx hb hts hi0 hown hK hV (by omega) hH (by decide) (by decide) rfl rfl k203 dX2_houseFact_77 ?_
    exact xI hx hb hr hlocks hV hS rfl dX2_houseFact_80
  · skip
    refine lv_tableIn (off := 80) (tgt := 81) hx hb dX2_houseFact_1 (by decide) (by decide) rfl (by decide) ?_
    refine lv_aload_n hx hb dX2_houseFact_81 rfl (lv_at hl 1 rfl) ?_
    refine rH 7 (f := 5) (h := h) (v := τ 5 h) hx hb hts hi0 hown hK hV (by omega) hH (by decide) (by decide) rfl rfl k160 dX2_houseFact_82 ?_
    exact xI hx hb hr hlocks hV hS rfl dX2_houseFact_85
  · skip
    refine lv_tableIn (off := 85) (tgt := 86) hx hb dX2_houseFact_1 (by decide) (by decide) rfl (by decide) ?_
    refine lv_aload_n hx hb dX2_houseFact_86 rfl (lv_at hl 1 rfl) ?_
    refine rH 8 (f := 7) (h := h) (v := τ 7 h) hx hb hts hi0 hown hK hV (by omega) hH (by decide) (by decide) rfl rfl k129 dX2_houseFact_87 ?_
    exact xI hx hb hr hlocks hV hS rfl dX2_houseFact_90
  · skip
    refine lv_tableIn (off := 90) (tgt := 91) hx hb dX2_houseFact_1 (by decide) (by decide) rfl (by decide) ?_
    refine lv_aload_n hx hb dX2_houseFact_91 rfl (lv_at hl 1 rfl) ?_
    refine rH 9 (f := 8) (h := h) (v := τ 8 h) hx hb hts hi0 hown hK hV (by omega) hH (by decide) (by decide) rfl rfl k170 dX2_houseFact_92 ?_
    exact xI hx hb hr hlocks hV hS rfl dX2_houseFact_95
  · skip
    refine lv_tableIn (off := 95) (tgt := 96) hx hb dX2_houseFact_1 (by decide) (by decide) rfl (by decide) ?_
    refine lv_aload_n hx hb dX2_houseFact_96 rfl (lv_at hl 1 rfl) ?_
    refine rH 10 (f := 9) (h := h) (v := τ 9 h) hx hb hts hi0 hown hK hV (by omega) hH (by decide) (by decide) rfl rfl k144 dX2_houseFact_97 ?_
    exact xI hx hb hr hlocks hV hS rfl dX2_houseFact_100
  · skip
    refine lv_tableIn (off := 100) (tgt := 101) hx hb dX2_houseFact_1 (by decide) (by decide) rfl (by decide) ?_
    refine lv_aload_n hx hb dX2_houseFact_101 rfl (lv_at hl 1 rfl) ?_
    refine rH 11 (f := 10) (h := h) (v := τ 10 h) hx hb hts hi0 hown hK hV (by omega) hH (by decide) (by decide) rfl rfl k47 dX2_houseFact_102 ?_
    exact xI hx hb hr hlocks hV hS rfl dX2_houseFact_105
  · skip
    refine lv_tableOut (tgt := 106) hx hb dX2_houseFact_1 (by decide) (by decide) ?_
    refine lv_aload_n hx hb dX2_houseFact_106 rfl (lv_at hl 0 rfl) ?_
    refine lv_aload_n hx hb dX2_houseFact_107 rfl (lv_at hl 1 rfl) ?_
    refine rHn (h := h) hx hb hts hi0 hown hK hV (by omega) k62 dX2_houseFact_108 ?_
    refine kI (va_runV (As := [.int (nI h)]) (rest := []) ⟨hx, hb, hml, hown, hts⟩ (c_X2_keysHeldBy l G ad hI nH nP hH hP δ τ (nI h) hv) (cwV 1 hts gX2_houseFact_X2_keysHeldBy rfl rfl rfl (by decide +kernel) ⟨Nat.le_of_ble_eq_true rfl, Nat.le_of_ble_eq_true rfl⟩) ⟨Pc0.blind, va_recv hK (va_P1 (hV.1)) (ci := 2) (q0 := 0) rfl rfl, Pc0.pre hV hK⟩ rfl rfl hl.1 rfl (lv_room (Nat.le_of_ble_eq_true rfl)) dX2_houseFact_111 ⟨Nat.zero_le _, Nat.zero_le _⟩) hS (fun _ _ q => q) (fun _ q => q) (fun H locs hV _ _ hS => ?_)
    exact xI hx hb hr hlocks hV hS rfl dX2_houseFact_114

set_option maxHeartbeats 4000000 in
set_option maxRecDepth 100000 in
theorem c_X2_total (l : Launch) (G : wG) (ad : Nat → Nat) (hI : adInj ad 19) (nH nP : Nat) (hH : nH ≤ 10) (hP : nP ≤ 3) (δ τ : wS) (k : Nat) (hv : Inv nH nP τ) (hk : k ≤ 9) : Met l yX2_total wsX2_total ({ frames := 2, cells := 0, slots := 0, locals := 42 } : Room) (Pc0 G [.ref (ad 0), .int (nI k)] (CVm G ad nH nP δ τ)) (Qi0 (totF nH nP τ k) (CVm G ad nH nP δ τ) (AV ad 19)) 0 0 (AV ad 19) := by
  refine Met.ofW (cc := cX2_total) (maxL := 2) (ret := (some .int)) (by decide) rfl ?_
  intro pg ev s mid args below meth cd s₁ B hml hv0
  obtain ⟨rfl, hV, hK⟩ := hv0
  have hx := B.exec
  have hb := B.bytes
  have hr := B.returns
  have hts := atoms_spec (ws := wsX2_total) B.pre
  have hown : s.vm.findClass RX2 = some mid.cls := findClass_of_methodNamed B.named
  have hlocks := B.notSynchronized
  have hi2 : ∀ w ∈ wsX20, w ∈ wsX2_total := by decide +kernel
  have k37 := hts (.fieldLink RX2 37 "PumpRoster$Village" "day" "I") (by decide +kernel)
  have k27 := hts (.fieldLink RX2 27 "PumpRoster$Village" "houseCount" "I") (by decide +kernel)
  have k31 := hts (.fieldLink RX2 31 "PumpRoster$Village" "pumpCount" "I") (by decide +kernel)
  have k34 := hts (.fieldLink RX2 34 "PumpRoster$Village" "chest" "I") (by decide +kernel)
  have hS : va_S (AV ad 19) s.heap s.heap [] := va_S.rf
  have hl := lv_entry ([.ref (ad 0), .int (nI k)]) (n := 2) (Nat.le_of_ble_eq_true rfl)
  rw [lg_entry_eq]
  generalize (lg_sl ([.ref (ad 0), .int (nI k)]) ++ List.replicate (2 - (lg_sl ([.ref (ad 0), .int (nI k)])).length) Slot.unset).toArray = ls at hl ⊢
  have hl : lv_has ls 2 [(0, .ref (ad 0)), (1, .int (nI k))] := hl
  refine lv_iload_n hx hb dX2_total_0 rfl (lv_at hl 1 rfl) ?_
  rcases (show k = 0 ∨ k = 1 ∨ k = 2 ∨ k = 3 ∨ k = 4 ∨ k = 5 ∨ k = 6 ∨ k = 7 ∨ k = 8 ∨ k = 9 by omega) with rfl | rfl | rfl | rfl | rfl | rfl | rfl | rfl | rfl | rfl
  · skip
    refine lv_tableIn (off := 51) (tgt := 52) hx hb dX2_total_1 (by decide) (by decide) rfl (by decide) ?_
    refine lv_aload_n hx hb dX2_total_52 rfl (lv_at hl 0 rfl) ?_
    refine rV 5 (f := 50) (v := τ 50 0) hx hb hts hi2 hown hK hV (by decide) (by decide) rfl rfl k37 dX2_total_53 ?_
    exact xI hx hb hr hlocks hV hS rfl dX2_total_56
  · skip
    refine lv_tableIn (off := 56) (tgt := 57) hx hb dX2_total_1 (by decide) (by decide) rfl (by decide) ?_
    refine lv_aload_n hx hb dX2_total_57 rfl (lv_at hl 0 rfl) ?_
    refine rV 2 (f := 51) (v := τ 51 0) hx hb hts hi2 hown hK hV (by decide) (by decide) rfl rfl k27 dX2_total_58 ?_
    exact xI hx hb hr hlocks hV hS rfl dX2_total_61
  · skip
    refine lv_tableIn (off := 61) (tgt := 62) hx hb dX2_total_1 (by decide) (by decide) rfl (by decide) ?_
    refine lv_aload_n hx hb dX2_total_62 rfl (lv_at hl 0 rfl) ?_
    refine rV 3 (f := 52) (v := τ 52 0) hx hb hts hi2 hown hK hV (by decide) (by decide) rfl rfl k31 dX2_total_63 ?_
    exact xI hx hb hr hlocks hV hS rfl dX2_total_66
  · skip
    refine lv_tableIn (off := 66) (tgt := 67) hx hb dX2_total_1 (by decide) (by decide) rfl (by decide) ?_
    refine lv_aload_n hx hb dX2_total_67 rfl (lv_at hl 0 rfl) ?_
    refine rV 4 (f := 53) (v := τ 53 0) hx hb hts hi2 hown hK hV (by decide) (by decide) rfl rfl k34 dX2_total_68 ?_
    exact xI hx hb hr hlocks hV hS rfl dX2_total_71
  · skip
    refine lv_tableIn (off := 71) (tgt := 72) hx hb dX2_total_1 (by decide) (by decide) rfl (by decide) ?_
    refine lv_aload_n hx hb dX2_total_72 rfl (lv_at hl 0 rfl) ?_
    refine kI (va_runV (As := []) (rest := []) ⟨hx, hb, hml, hown, hts⟩ (c_X2_allEggs l G ad hI nH nP hH hP δ τ hv) (cwV 0 hts gX2_total_X2_allEggs rfl rfl rfl (by decide +kernel) ⟨Nat.le_of_ble_eq_true rfl, Nat.le_of_ble_eq_true rfl⟩) ⟨Pc0.blind, va_recv hK (va_P1 (hV.1)) (ci := 2) (q0 := 0) rfl rfl, Pc0.pre hV hK⟩ rfl rfl hl.1 rfl (lv_room (Nat.le_of_ble_eq_true rfl)) dX2_total_73 ⟨Nat.zero_le _, Nat.zero_le _⟩) hS (fun _ _ q => q) (fun _ q => q) (fun H locs hV _ _ hS => ?_)
    exact xI hx hb hr hlocks hV hS rfl dX2_total_76
  · skip
    refine lv_tableIn (off := 76) (tgt := 77) hx hb dX2_total_1 (by decide) (by decide) rfl (by decide) ?_
    refine lv_aload_n hx hb dX2_total_77 rfl (lv_at hl 0 rfl) ?_
    refine kI (va_runV (As := []) (rest := []) ⟨hx, hb, hml, hown, hts⟩ (c_X2_housesAway l G ad hI nH nP hH hP δ τ hv) (cwV 0 hts gX2_total_X2_housesAway rfl rfl rfl (by decide +kernel) ⟨Nat.le_of_ble_eq_true rfl, Nat.le_of_ble_eq_true rfl⟩) ⟨Pc0.blind, va_recv hK (va_P1 (hV.1)) (ci := 2) (q0 := 0) rfl rfl, Pc0.pre hV hK⟩ rfl rfl hl.1 rfl (lv_room (Nat.le_of_ble_eq_true rfl)) dX2_total_78 ⟨Nat.zero_le _, Nat.zero_le _⟩) hS (fun _ _ q => q) (fun _ q => q) (fun H locs hV _ _ hS => ?_)
    exact xI hx hb hr hlocks hV hS rfl dX2_total_81
  · skip
    refine lv_tableIn (off := 81) (tgt := 82) hx hb dX2_total_1 (by decide) (by decide) rfl (by decide) ?_
    refine lv_aload_n hx hb dX2_total_82 rfl (lv_at hl 0 rfl) ?_
    refine kI (va_runV (As := []) (rest := []) ⟨hx, hb, hml, hown, hts⟩ (c_X2_allMarks l G ad hI nH nP hH hP δ τ hv) (cwV 0 hts gX2_total_X2_allMarks rfl rfl rfl (by decide +kernel) ⟨Nat.le_of_ble_eq_true rfl, Nat.le_of_ble_eq_true rfl⟩) ⟨Pc0.blind, va_recv hK (va_P1 (hV.1)) (ci := 2) (q0 := 0) rfl rfl, Pc0.pre hV hK⟩ rfl rfl hl.1 rfl (lv_room (Nat.le_of_ble_eq_true rfl)) dX2_total_83 ⟨Nat.zero_le _, Nat.zero_le _⟩) hS (fun _ _ q => q) (fun _ q => q) (fun H locs hV _ _ hS => ?_)
    exact xI hx hb hr hlocks hV hS rfl dX2_total_86
  · skip
    refine lv_tableIn (off := 86) (tgt := 87) hx hb dX2_total_1 (by decide) (by decide) rfl (by decide) ?_
    refine lv_aload_n hx hb dX2_total_87 rfl (lv_at hl 0 rfl) ?_
    refine kI (va_runV (As := []) (rest := []) ⟨hx, hb, hml, hown, hts⟩ (c_X2_allThirst l G ad hI nH nP hH hP δ τ hv) (cwV 0 hts gX2_total_X2_allThirst rfl rfl rfl (by decide +kernel) ⟨Nat.le_of_ble_eq_true rfl, Nat.le_of_ble_eq_true rfl⟩) ⟨Pc0.blind, va_recv hK (va_P1 (hV.1)) (ci := 2) (q0 := 0) rfl rfl, Pc0.pre hV hK⟩ rfl rfl hl.1 rfl (lv_room (Nat.le_of_ble_eq_true rfl)) dX2_total_88 ⟨Nat.zero_le _, Nat.zero_le _⟩) hS (fun _ _ q => q) (fun _ q => q) (fun H locs hV _ _ hS => ?_)
    exact xI hx hb hr hlocks hV hS rfl dX2_total_91
  · skip
    refine lv_tableIn (off := 91) (tgt := 92) hx hb dX2_total_1 (by decide) (by decide) rfl (by decide) ?_
    refine lv_aload_n hx hb dX2_total_92 rfl (lv_at hl 0 rfl) ?_
    refine kI (va_runV (As := []) (rest := []) ⟨hx, hb, hml, hown, hts⟩ (c_X2_allDailyNeed l G ad hI nH nP hH hP δ τ hv) (cwV 0 hts gX2_total_X2_allDailyNeed rfl rfl rfl (by decide +kernel) ⟨Nat.le_of_ble_eq_true rfl, Nat.le_of_ble_eq_true rfl⟩) ⟨Pc0.blind, va_recv hK (va_P1 (hV.1)) (ci := 2) (q0 := 0) rfl rfl, Pc0.pre hV hK⟩ rfl rfl hl.1 rfl (lv_room (Nat.le_of_ble_eq_true rfl)) dX2_total_93 ⟨Nat.zero_le _, Nat.zero_le _⟩) hS (fun _ _ q => q) (fun _ q => q) (fun H locs hV _ _ hS => ?_)
    exact xI hx hb hr hlocks hV hS rfl dX2_total_96
  · skip
    refine lv_tableOut (tgt := 97) hx hb dX2_total_1 (by decide) (by decide) ?_
    refine lv_aload_n hx hb dX2_total_97 rfl (lv_at hl 0 rfl) ?_
    refine kI (va_runV (As := []) (rest := []) ⟨hx, hb, hml, hown, hts⟩ (c_X2_brokenHandles l G ad hI nH nP hH hP δ τ hv) (cwV 0 hts gX2_total_X2_brokenHandles rfl rfl rfl (by decide +kernel) ⟨Nat.le_of_ble_eq_true rfl, Nat.le_of_ble_eq_true rfl⟩) ⟨Pc0.blind, va_recv hK (va_P1 (hV.1)) (ci := 2) (q0 := 0) rfl rfl, Pc0.pre hV hK⟩ rfl rfl hl.1 rfl (lv_room (Nat.le_of_ble_eq_true rfl)) dX2_total_98 ⟨Nat.zero_le _, Nat.zero_le _⟩) hS (fun _ _ q => q) (fun _ q => q) (fun H locs hV _ _ hS => ?_)
    exact xI hx hb hr hlocks hV hS rfl dX2_total_101

set_option maxHeartbeats 4000000 in
set_option maxRecDepth 100000 in
theorem c_X0_copyFrom (l : Launch) (G : wG) (ad ad2 : Nat → Nat) (hI : adInj ad 19) (hdis : adApart ad ad2 19 19) (nH nP : Nat) (hH : nH ≤ 10) (hP : nP ≤ 3) (δ τ δ2 τ2 : wS) (h : Nat) (hh : h < nH) : Met l yX0_copyFrom wsX0_copyFrom ({ frames := 0, cells := 0, slots := 0, locals := 0 } : Room) (Pc0 G [.ref (ad (3 + h)), .ref (ad2 (3 + h))] (fun H => CVm G ad 10 3 δ τ H ∧ CVm G ad2 nH nP δ2 τ2 H)) (Qv0 (CVm G ad 10 3 δ (cpH h τ2 τ)) (AV ad 19)) 0 0 (AV ad 19) := by
  refine Met.ofW (cc := cX0_copyFrom) (maxL := 2) (ret := none) (by decide) rfl ?_
  intro pg ev s mid args below meth cd s₁ B hml hv0
  obtain ⟨rfl, hV, hK⟩ := hv0
  have hx := B.exec
  have hb := B.bytes
  have hr := B.returns
  have hts := atoms_spec (ws := wsX0_copyFrom) B.pre
  have hown : s.vm.findClass RX0 = some mid.cls := findClass_of_methodNamed B.named
  have hlocks := B.notSynchronized
  have hi0 : ∀ w ∈ wsX00, w ∈ wsX0_copyFrom := by decide +kernel
  have k18 := hts (.fieldLink RX0 18 "PumpRoster$House" "lodgers" "I") (by decide +kernel)
  have k21 := hts (.fieldLink RX0 21 "PumpRoster$House" "hens" "I") (by decide +kernel)
  have k24 := hts (.fieldLink RX0 24 "PumpRoster$House" "forgets" "I") (by decide +kernel)
  have k9 := hts (.fieldLink RX0 9 "PumpRoster$House" "eggs" "I") (by decide +kernel)
  have k27 := hts (.fieldLink RX0 27 "PumpRoster$House" "marks" "I") (by decide +kernel)
  have k30 := hts (.fieldLink RX0 30 "PumpRoster$House" "daysAway" "I") (by decide +kernel)
  have k33 := hts (.fieldLink RX0 33 "PumpRoster$House" "firstPump" "I") (by decide +kernel)
  have k36 := hts (.fieldLink RX0 36 "PumpRoster$House" "duties" "I") (by decide +kernel)
  have k39 := hts (.fieldLink RX0 39 "PumpRoster$House" "thirst" "I") (by decide +kernel)
  have k42 := hts (.fieldLink RX0 42 "PumpRoster$House" "keysToHandOn" "I") (by decide +kernel)
  have k45 := hts (.fieldLink RX0 45 "PumpRoster$House" "finesTold" "I") (by decide +kernel)
  have hS : va_S (AV ad 19) s.heap s.heap [] := va_S.rf
  have hl := lv_entry ([.ref (ad (3 + h)), .ref (ad2 (3 + h))]) (n := 2) (Nat.le_of_ble_eq_true rfl)
  rw [lg_entry_eq]
  generalize (lg_sl ([.ref (ad (3 + h)), .ref (ad2 (3 + h))]) ++ List.replicate (2 - (lg_sl ([.ref (ad (3 + h)), .ref (ad2 (3 + h))])).length) Slot.unset).toArray = ls at hl ⊢
  have hl : lv_has ls 2 [(0, .ref (ad (3 + h))), (1, .ref (ad2 (3 + h)))] := hl
  obtain ⟨hV, hV20⟩ := hV
  have hV2 := hV20
  refine lv_aload_n hx hb dX0_copyFrom_0 rfl (lv_at hl 0 rfl) ?_
  refine lv_aload_n hx hb dX0_copyFrom_1 rfl (lv_at hl 1 rfl) ?_
  refine rH 1 (f := 0) (h := h) (v := τ2 0 h) hx hb hts hi0 hown hK hV2 (by omega) hH (by decide) (by decide) rfl rfl k18 dX0_copyFrom_2 ?_
  refine wH 1 (f := 0) (h := h) hx hb hts hi0 hown hK hI hV hS (by omega) (Nat.le_refl 10) (by decide) (by decide) rfl k18 dX0_copyFrom_5 (fun H locs hV hS => ?_)
  have hV2 := hV20.other hdis hS
  refine lv_aload_n hx hb dX0_copyFrom_8 rfl (lv_at hl 0 rfl) ?_
  refine lv_aload_n hx hb dX0_copyFrom_9 rfl (lv_at hl 1 rfl) ?_
  refine rH 2 (f := 1) (h := h) (v := τ2 1 h) hx hb hts hi0 hown hK hV2 (by omega) hH (by decide) (by decide) rfl rfl k21 dX0_copyFrom_10 ?_
  refine wH 2 (f := 1) (h := h) hx hb hts hi0 hown hK hI hV hS (by omega) (Nat.le_refl 10) (by decide) (by decide) rfl k21 dX0_copyFrom_13 (fun H locs hV hS => ?_)
  have hV2 := hV20.other hdis hS
  refine lv_aload_n hx hb dX0_copyFrom_16 rfl (lv_at hl 0 rfl) ?_
  refine lv_aload_n hx hb dX0_copyFrom_17 rfl (lv_at hl 1 rfl) ?_
  refine rH 3 (f := 2) (h := h) (v := τ2 2 h) hx hb hts hi0 hown hK hV2 (by omega) hH (by decide) (by decide) rfl rfl k24 dX0_copyFrom_18 ?_
  refine wH 3 (f := 2) (h := h) hx hb hts hi0 hown hK hI hV hS (by omega) (Nat.le_refl 10) (by decide) (by decide) rfl k24 dX0_copyFrom_21 (fun H locs hV hS => ?_)
  have hV2 := hV20.other hdis hS
  refine lv_aload_n hx hb dX0_copyFrom_24 rfl (lv_at hl 0 rfl) ?_
  refine lv_aload_n hx hb dX0_copyFrom_25 rfl (lv_at hl 1 rfl) ?_
  refine rH 4 (f := 3) (h := h) (v := τ2 3 h) hx hb hts hi0 hown hK hV2 (by omega) hH (by decide) (by decide) rfl rfl k9 dX0_copyFrom_26 ?_
  refine wH 4 (f := 3) (h := h) hx hb hts hi0 hown hK hI hV hS (by omega) (Nat.le_refl 10) (by decide) (by decide) rfl k9 dX0_copyFrom_29 (fun H locs hV hS => ?_)
  have hV2 := hV20.other hdis hS
  refine lv_aload_n hx hb dX0_copyFrom_32 rfl (lv_at hl 0 rfl) ?_
  refine lv_aload_n hx hb dX0_copyFrom_33 rfl (lv_at hl 1 rfl) ?_
  refine rH 5 (f := 4) (h := h) (v := τ2 4 h) hx hb hts hi0 hown hK hV2 (by omega) hH (by decide) (by decide) rfl rfl k27 dX0_copyFrom_34 ?_
  refine wH 5 (f := 4) (h := h) hx hb hts hi0 hown hK hI hV hS (by omega) (Nat.le_refl 10) (by decide) (by decide) rfl k27 dX0_copyFrom_37 (fun H locs hV hS => ?_)
  have hV2 := hV20.other hdis hS
  refine lv_aload_n hx hb dX0_copyFrom_40 rfl (lv_at hl 0 rfl) ?_
  refine lv_aload_n hx hb dX0_copyFrom_41 rfl (lv_at hl 1 rfl) ?_
  refine rH 6 (f := 6) (h := h) (v := τ2 6 h) hx hb hts hi0 hown hK hV2 (by omega) hH (by decide) (by decide) rfl rfl k30 dX0_copyFrom_42 ?_
  refine wH 6 (f := 6) (h := h) hx hb hts hi0 hown hK hI hV hS (by omega) (Nat.le_refl 10) (by decide) (by decide) rfl k30 dX0_copyFrom_45 (fun H locs hV hS => ?_)
  have hV2 := hV20.other hdis hS
  refine lv_aload_n hx hb dX0_copyFrom_48 rfl (lv_at hl 0 rfl) ?_
  refine lv_aload_n hx hb dX0_copyFrom_49 rfl (lv_at hl 1 rfl) ?_
  refine rH 7 (f := 5) (h := h) (v := τ2 5 h) hx hb hts hi0 hown hK hV2 (by omega) hH (by decide) (by decide) rfl rfl k33 dX0_copyFrom_50 ?_
  refine wH 7 (f := 5) (h := h) hx hb hts hi0 hown hK hI hV hS (by omega) (Nat.le_refl 10) (by decide) (by decide) rfl k33 dX0_copyFrom_53 (fun H locs hV hS => ?_)
  have hV2 := hV20.other hdis hS
  refine lv_aload_n hx hb dX0_copyFrom_56 rfl (lv_at hl 0 rfl) ?_
  refine lv_aload_n hx hb dX0_copyFrom_57 rfl (lv_at hl 1 rfl) ?_
  refine rH 8 (f := 7) (h := h) (v := τ2 7 h) hx hb hts hi0 hown hK hV2 (by omega) hH (by decide) (by decide) rfl rfl k36 dX0_copyFrom_58 ?_
  refine wH 8 (f := 7) (h := h) hx hb hts hi0 hown hK hI hV hS (by omega) (Nat.le_refl 10) (by decide) (by decide) rfl k36 dX0_copyFrom_61 (fun H locs hV hS => ?_)
  have hV2 := hV20.other hdis hS
  refine lv_aload_n hx hb dX0_copyFrom_64 rfl (lv_at hl 0 rfl) ?_
  refine lv_aload_n hx hb dX0_copyFrom_65 rfl (lv_at hl 1 rfl) ?_
  refine rH 9 (f := 8) (h := h) (v := τ2 8 h) hx hb hts hi0 hown hK hV2 (by omega) hH (by decide) (by decide) rfl rfl k39 dX0_copyFrom_66 ?_
  refine wH 9 (f := 8) (h := h) hx hb hts hi0 hown hK hI hV hS (by omega) (Nat.le_refl 10) (by decide) (by decide) rfl k39 dX0_copyFrom_69 (fun H locs hV hS => ?_)
  have hV2 := hV20.other hdis hS
  refine lv_aload_n hx hb dX0_copyFrom_72 rfl (lv_at hl 0 rfl) ?_
  refine lv_aload_n hx hb dX0_copyFrom_73 rfl (lv_at hl 1 rfl) ?_
  refine rH 10 (f := 9) (h := h) (v := τ2 9 h) hx hb hts hi0 hown hK hV2 (by omega) hH (by decide) (by decide) rfl rfl k42 dX0_copyFrom_74 ?_
  refine wH 10 (f := 9) (h := h) hx hb hts hi0 hown hK hI hV hS (by omega) (Nat.le_refl 10) (by decide) (by decide) rfl k42 dX0_copyFrom_77 (fun H locs hV hS => ?_)
  have hV2 := hV20.other hdis hS
  refine lv_aload_n hx hb dX0_copyFrom_80 rfl (lv_at hl 0 rfl) ?_
  refine lv_aload_n hx hb dX0_copyFrom_81 rfl (lv_at hl 1 rfl) ?_
  refine rH 11 (f := 10) (h := h) (v := τ2 10 h) hx hb hts hi0 hown hK hV2 (by omega) hH (by decide) (by decide) rfl rfl k45 dX0_copyFrom_82 ?_
  refine wH 11 (f := 10) (h := h) hx hb hts hi0 hown hK hI hV hS (by omega) (Nat.le_refl 10) (by decide) (by decide) rfl k45 dX0_copyFrom_85 (fun H locs hV hS => ?_)
  have hV2 := hV20.other hdis hS
  exact xV hx hb hr hlocks hV hS dX0_copyFrom_88

set_option maxHeartbeats 4000000 in
set_option maxRecDepth 100000 in
theorem c_X1_copyFrom (l : Launch) (G : wG) (ad ad2 : Nat → Nat) (hI : adInj ad 19) (hdis : adApart ad ad2 19 19) (nH nP : Nat) (hH : nH ≤ 10) (hP : nP ≤ 3) (δ τ δ2 τ2 : wS) (p : Nat) (hp : p < nP) (hb01 : τ2 23 p = 0 ∨ τ2 23 p = 1) : Met l yX1_copyFrom wsX1_copyFrom ({ frames := 1, cells := 0, slots := 0, locals := 24 } : Room) (Pc0 G [.ref (ad (13 + p)), .ref (ad2 (13 + p))] (fun H => CVm G ad 10 3 δ τ H ∧ CVm G ad2 nH nP δ2 τ2 H)) (Qv0 (CVm G ad 10 3 δ (cpP p τ2 τ)) (AV ad 19)) 0 0 (AV ad 19) := by
  refine Met.ofW (cc := cX1_copyFrom) (maxL := 2) (ret := none) (by decide) rfl ?_
  intro pg ev s mid args below meth cd s₁ B hml hv0
  obtain ⟨rfl, hV, hK⟩ := hv0
  have hx := B.exec
  have hb := B.bytes
  have hr := B.returns
  have hts := atoms_spec (ws := wsX1_copyFrom) B.pre
  have hown : s.vm.findClass RX1 = some mid.cls := findClass_of_methodNamed B.named
  have hlocks := B.notSynchronized
  have hi1 : ∀ w ∈ wsX10, w ∈ wsX1_copyFrom := by decide +kernel
  have k19 := hts (.fieldLink RX1 19 "PumpRoster$Pump" "level" "I") (by decide +kernel)
  have k22 := hts (.fieldLink RX1 22 "PumpRoster$Pump" "inflow" "I") (by decide +kernel)
  have k25 := hts (.fieldLink RX1 25 "PumpRoster$Pump" "wear" "I") (by decide +kernel)
  have k28 := hts (.fieldLink RX1 28 "PumpRoster$Pump" "broken" "Z") (by decide +kernel)
  have k32 := hts (.fieldLink RX1 32 "PumpRoster$Pump" "daysToWait" "I") (by decide +kernel)
  have k9 := hts (.fieldLink RX1 9 "PumpRoster$Pump" "keyHolder" "I") (by decide +kernel)
  have k15 := hts (.fieldLink RX1 15 "PumpRoster$Pump" "roster" "[I") (by decide +kernel)
  have km35 := hts (.methodLink RX1 35 arraycopyName) (by decide +kernel)
  have knat := hts (.native arraycopyName) (by decide +kernel)
  have kstat := hts (.static arraycopyName) (by decide +kernel)
  have ksys := hts (.initialized "java/lang/System") (by decide +kernel)
  have k41 := hts (.fieldLink RX1 41 "PumpRoster$Pump" "rosterSize" "I") (by decide +kernel)
  have k44 := hts (.fieldLink RX1 44 "PumpRoster$Pump" "turn" "I") (by decide +kernel)
  have k47 := hts (.fieldLink RX1 47 "PumpRoster$Pump" "daysOpen" "I") (by decide +kernel)
  have k50 := hts (.fieldLink RX1 50 "PumpRoster$Pump" "drawn" "I") (by decide +kernel)
  have k53 := hts (.fieldLink RX1 53 "PumpRoster$Pump" "timesMended" "I") (by decide +kernel)
  have hS : va_S (AV ad 19) s.heap s.heap [] := va_S.rf
  have hl := lv_entry ([.ref (ad (13 + p)), .ref (ad2 (13 + p))]) (n := 2) (Nat.le_of_ble_eq_true rfl)
  rw [lg_entry_eq]
  generalize (lg_sl ([.ref (ad (13 + p)), .ref (ad2 (13 + p))]) ++ List.replicate (2 - (lg_sl ([.ref (ad (13 + p)), .ref (ad2 (13 + p))])).length) Slot.unset).toArray = ls at hl ⊢
  have hl : lv_has ls 2 [(0, .ref (ad (13 + p))), (1, .ref (ad2 (13 + p)))] := hl
  obtain ⟨hV, hV20⟩ := hV
  have hV2 := hV20
  refine lv_aload_n hx hb dX1_copyFrom_0 rfl (lv_at hl 0 rfl) ?_
  refine lv_aload_n hx hb dX1_copyFrom_1 rfl (lv_at hl 1 rfl) ?_
  refine rP 0 (f := 20) (h := p) (v := τ2 20 p) hx hb hts hi1 hown hK hV2 (by omega) hP (by decide) (by decide) rfl rfl k19 dX1_copyFrom_2 ?_
  refine wP 0 (f := 20) (h := p) hx hb hts hi1 hown hK hI hV hS (by omega) (Nat.le_refl 3) (by decide) (by decide) rfl rfl rfl k19 dX1_copyFrom_5 (fun H locs hV hS => ?_)
  have hV2 := hV20.other hdis hS
  refine lv_aload_n hx hb dX1_copyFrom_8 rfl (lv_at hl 0 rfl) ?_
  refine lv_aload_n hx hb dX1_copyFrom_9 rfl (lv_at hl 1 rfl) ?_
  refine rP 1 (f := 21) (h := p) (v := τ2 21 p) hx hb hts hi1 hown hK hV2 (by omega) hP (by decide) (by decide) rfl rfl k22 dX1_copyFrom_10 ?_
  refine wP 1 (f := 21) (h := p) hx hb hts hi1 hown hK hI hV hS (by omega) (Nat.le_refl 3) (by decide) (by decide) rfl rfl rfl k22 dX1_copyFrom_13 (fun H locs hV hS => ?_)
  have hV2 := hV20.other hdis hS
  refine lv_aload_n hx hb dX1_copyFrom_16 rfl (lv_at hl 0 rfl) ?_
  refine lv_aload_n hx hb dX1_copyFrom_17 rfl (lv_at hl 1 rfl) ?_
  refine rP 2 (f := 22) (h := p) (v := τ2 22 p) hx hb hts hi1 hown hK hV2 (by omega) hP (by decide) (by decide) rfl rfl k25 dX1_copyFrom_18 ?_
  refine wP 2 (f := 22) (h := p) hx hb hts hi1 hown hK hI hV hS (by omega) (Nat.le_refl 3) (by decide) (by decide) rfl rfl rfl k25 dX1_copyFrom_21 (fun H locs hV hS => ?_)
  have hV2 := hV20.other hdis hS
  refine lv_aload_n hx hb dX1_copyFrom_24 rfl (lv_at hl 0 rfl) ?_
  refine lv_aload_n hx hb dX1_copyFrom_25 rfl (lv_at hl 1 rfl) ?_
  refine rP 3 (f := 23) (h := p) (v := τ2 23 p) hx hb hts hi1 hown hK hV2 (by omega) hP (by decide) (by decide) rfl rfl k28 dX1_copyFrom_26 ?_
  refine wP 3 (f := 23) (h := p) hx hb hts hi1 hown hK hI hV hS (by omega) (Nat.le_refl 3) (by decide) (by decide) rfl (nar01 hb01) (fit01 hb01) k28 dX1_copyFrom_29 (fun H locs hV hS => ?_)
  have hV2 := hV20.other hdis hS
  refine lv_aload_n hx hb dX1_copyFrom_32 rfl (lv_at hl 0 rfl) ?_
  refine lv_aload_n hx hb dX1_copyFrom_33 rfl (lv_at hl 1 rfl) ?_
  refine rP 4 (f := 24) (h := p) (v := τ2 24 p) hx hb hts hi1 hown hK hV2 (by omega) hP (by decide) (by decide) rfl rfl k32 dX1_copyFrom_34 ?_
  refine wP 4 (f := 24) (h := p) hx hb hts hi1 hown hK hI hV hS (by omega) (Nat.le_refl 3) (by decide) (by decide) rfl rfl rfl k32 dX1_copyFrom_37 (fun H locs hV hS => ?_)
  have hV2 := hV20.other hdis hS
  refine lv_aload_n hx hb dX1_copyFrom_40 rfl (lv_at hl 0 rfl) ?_
  refine lv_aload_n hx hb dX1_copyFrom_41 rfl (lv_at hl 1 rfl) ?_
  refine rP 5 (f := 25) (h := p) (v := τ2 25 p) hx hb hts hi1 hown hK hV2 (by omega) hP (by decide) (by decide) rfl rfl k9 dX1_copyFrom_42 ?_
  refine wP 5 (f := 25) (h := p) hx hb hts hi1 hown hK hI hV hS (by omega) (Nat.le_refl 3) (by decide) (by decide) rfl rfl rfl k9 dX1_copyFrom_45 (fun H locs hV hS => ?_)
  have hV2 := hV20.other hdis hS
  refine lv_aload_n hx hb dX1_copyFrom_48 rfl (lv_at hl 1 rfl) ?_
  refine rPr (h := p) hx hb hts hi1 hown hK hV2 (by omega) k15 dX1_copyFrom_49 ?_
  refine lv_iconst (v := 0) hx hb dX1_copyFrom_52 (by decide) ?_
  refine lv_aload_n hx hb dX1_copyFrom_53 rfl (lv_at hl 0 rfl) ?_
  refine rPr (h := p) hx hb hts hi1 hown hK hV (by omega) k15 dX1_copyFrom_54 ?_
  refine lv_iconst (v := 0) hx hb dX1_copyFrom_57 (by decide) ?_
  refine lv_bipush (v := 10) hx hb dX1_copyFrom_58 (by decide) ?_
  refine wRC hx hb (hml.trans hl.1.symm) hown km35 knat kstat ksys hK hI hV hV2 hS (by omega) hP (Nat.le_of_ble_eq_true rfl) (by decide) dX1_copyFrom_60 (fun H locs hV hS => ?_)
  have hV2 := hV20.other hdis hS
  refine lv_aload_n hx hb dX1_copyFrom_63 rfl (lv_at hl 0 rfl) ?_
  refine lv_aload_n hx hb dX1_copyFrom_64 rfl (lv_at hl 1 rfl) ?_
  refine rP 7 (f := 26) (h := p) (v := τ2 26 p) hx hb hts hi1 hown hK hV2 (by omega) hP (by decide) (by decide) rfl rfl k41 dX1_copyFrom_65 ?_
  refine wP 7 (f := 26) (h := p) hx hb hts hi1 hown hK hI hV hS (by omega) (Nat.le_refl 3) (by decide) (by decide) rfl rfl rfl k41 dX1_copyFrom_68 (fun H locs hV hS => ?_)
  have hV2 := hV20.other hdis hS
  refine lv_aload_n hx hb dX1_copyFrom_71 rfl (lv_at hl 0 rfl) ?_
  refine lv_aload_n hx hb dX1_copyFrom_72 rfl (lv_at hl 1 rfl) ?_
  refine rP 8 (f := 27) (h := p) (v := τ2 27 p) hx hb hts hi1 hown hK hV2 (by omega) hP (by decide) (by decide) rfl rfl k44 dX1_copyFrom_73 ?_
  refine wP 8 (f := 27) (h := p) hx hb hts hi1 hown hK hI hV hS (by omega) (Nat.le_refl 3) (by decide) (by decide) rfl rfl rfl k44 dX1_copyFrom_76 (fun H locs hV hS => ?_)
  have hV2 := hV20.other hdis hS
  refine lv_aload_n hx hb dX1_copyFrom_79 rfl (lv_at hl 0 rfl) ?_
  refine lv_aload_n hx hb dX1_copyFrom_80 rfl (lv_at hl 1 rfl) ?_
  refine rP 9 (f := 28) (h := p) (v := τ2 28 p) hx hb hts hi1 hown hK hV2 (by omega) hP (by decide) (by decide) rfl rfl k47 dX1_copyFrom_81 ?_
  refine wP 9 (f := 28) (h := p) hx hb hts hi1 hown hK hI hV hS (by omega) (Nat.le_refl 3) (by decide) (by decide) rfl rfl rfl k47 dX1_copyFrom_84 (fun H locs hV hS => ?_)
  have hV2 := hV20.other hdis hS
  refine lv_aload_n hx hb dX1_copyFrom_87 rfl (lv_at hl 0 rfl) ?_
  refine lv_aload_n hx hb dX1_copyFrom_88 rfl (lv_at hl 1 rfl) ?_
  refine rP 10 (f := 29) (h := p) (v := τ2 29 p) hx hb hts hi1 hown hK hV2 (by omega) hP (by decide) (by decide) rfl rfl k50 dX1_copyFrom_89 ?_
  refine wP 10 (f := 29) (h := p) hx hb hts hi1 hown hK hI hV hS (by omega) (Nat.le_refl 3) (by decide) (by decide) rfl rfl rfl k50 dX1_copyFrom_92 (fun H locs hV hS => ?_)
  have hV2 := hV20.other hdis hS
  refine lv_aload_n hx hb dX1_copyFrom_95 rfl (lv_at hl 0 rfl) ?_
  refine lv_aload_n hx hb dX1_copyFrom_96 rfl (lv_at hl 1 rfl) ?_
  refine rP 11 (f := 30) (h := p) (v := τ2 30 p) hx hb hts hi1 hown hK hV2 (by omega) hP (by decide) (by decide) rfl rfl k53 dX1_copyFrom_97 ?_
  refine wP 11 (f := 30) (h := p) hx hb hts hi1 hown hK hI hV hS (by omega) (Nat.le_refl 3) (by decide) (by decide) rfl rfl rfl k53 dX1_copyFrom_100 (fun H locs hV hS => ?_)
  have hV2 := hV20.other hdis hS
  exact xV hx hb hr hlocks hV hS dX1_copyFrom_103

set_option maxHeartbeats 4000000 in
set_option maxRecDepth 100000 in
theorem c_X2_copyFrom (l : Launch) (G : wG) (ad ad2 : Nat → Nat) (hI : adInj ad 19) (hdis : adApart ad ad2 19 19) (nH nP : Nat) (hH : nH ≤ 10) (hP : nP ≤ 3) (δ τ δ2 τ2 : wS)  (hv : Inv nH nP τ2) : Met l yX2_copyFrom wsX2_copyFrom ({ frames := 2, cells := 0, slots := 0, locals := 45 } : Room) (Pc0 G [.ref (ad 0), .ref (ad2 0)] (fun H => CVm G ad 10 3 δ τ H ∧ CVm G ad2 nH nP δ2 τ2 H)) (Qv0 (CVm G ad 10 3 δ (itn (fun p => cpP p τ2) nP (itn (fun h => cpH h τ2) nH (wst (wst (wst (wst τ 51 0 (nI nH)) 52 0 (nI nP)) 53 0 (τ2 53 0)) 50 0 (τ2 50 0))))) (AV ad 19)) 0 0 (AV ad 19) := by
  refine Met.ofW (cc := cX2_copyFrom) (maxL := 3) (ret := none) (by decide) rfl ?_
  intro pg ev s mid args below meth cd s₁ B hml hv0
  obtain ⟨rfl, hV, hK⟩ := hv0
  have hx := B.exec
  have hb := B.bytes
  have hr := B.returns
  have hts := atoms_spec (ws := wsX2_copyFrom) B.pre
  have hown : s.vm.findClass RX2 = some mid.cls := findClass_of_methodNamed B.named
  have hlocks := B.notSynchronized
  have hi2 : ∀ w ∈ wsX20, w ∈ wsX2_copyFrom := by decide +kernel
  have k27 := hts (.fieldLink RX2 27 "PumpRoster$Village" "houseCount" "I") (by decide +kernel)
  have k31 := hts (.fieldLink RX2 31 "PumpRoster$Village" "pumpCount" "I") (by decide +kernel)
  have k34 := hts (.fieldLink RX2 34 "PumpRoster$Village" "chest" "I") (by decide +kernel)
  have k37 := hts (.fieldLink RX2 37 "PumpRoster$Village" "day" "I") (by decide +kernel)
  have k19 := hts (.fieldLink RX2 19 "PumpRoster$Village" "pumps" "[LPumpRoster$Pump;") (by decide +kernel)
  have k11 := hts (.fieldLink RX2 11 "PumpRoster$Village" "houses" "[LPumpRoster$House;") (by decide +kernel)
  have hS : va_S (AV ad 19) s.heap s.heap [] := va_S.rf
  have hl := lv_entry ([.ref (ad 0), .ref (ad2 0)]) (n := 3) (Nat.le_of_ble_eq_true rfl)
  rw [lg_entry_eq]
  generalize (lg_sl ([.ref (ad 0), .ref (ad2 0)]) ++ List.replicate (3 - (lg_sl ([.ref (ad 0), .ref (ad2 0)])).length) Slot.unset).toArray = ls at hl ⊢
  have hl : lv_has ls 3 [(0, .ref (ad 0)), (1, .ref (ad2 0))] := hl
  obtain ⟨hV, hV20⟩ := hV
  have hV2 := hV20
  refine lv_aload_n hx hb dX2_copyFrom_0 rfl (lv_at hl 0 rfl) ?_
  refine lv_aload_n hx hb dX2_copyFrom_1 rfl (lv_at hl 1 rfl) ?_
  refine rV 2 (f := 51) (v := nI nH) hx hb hts hi2 hown hK hV2 (by decide) (by decide) rfl hv.2.2.1 k27 dX2_copyFrom_2 ?_
  refine wV 2 (f := 51) hx hb hts hi2 hown hK hI hV hS (by decide) (by decide) rfl k27 dX2_copyFrom_5 (fun H locs hV hS => ?_)
  have hV2 := hV20.other hdis hS
  refine lv_aload_n hx hb dX2_copyFrom_8 rfl (lv_at hl 0 rfl) ?_
  refine lv_aload_n hx hb dX2_copyFrom_9 rfl (lv_at hl 1 rfl) ?_
  refine rV 3 (f := 52) (v := nI nP) hx hb hts hi2 hown hK hV2 (by decide) (by decide) rfl hv.2.2.2.1 k31 dX2_copyFrom_10 ?_
  refine wV 3 (f := 52) hx hb hts hi2 hown hK hI hV hS (by decide) (by decide) rfl k31 dX2_copyFrom_13 (fun H locs hV hS => ?_)
  have hV2 := hV20.other hdis hS
  refine lv_aload_n hx hb dX2_copyFrom_16 rfl (lv_at hl 0 rfl) ?_
  refine lv_aload_n hx hb dX2_copyFrom_17 rfl (lv_at hl 1 rfl) ?_
  refine rV 4 (f := 53) (v := τ2 53 0) hx hb hts hi2 hown hK hV2 (by decide) (by decide) rfl rfl k34 dX2_copyFrom_18 ?_
  refine wV 4 (f := 53) hx hb hts hi2 hown hK hI hV hS (by decide) (by decide) rfl k34 dX2_copyFrom_21 (fun H locs hV hS => ?_)
  have hV2 := hV20.other hdis hS
  refine lv_aload_n hx hb dX2_copyFrom_24 rfl (lv_at hl 0 rfl) ?_
  refine lv_aload_n hx hb dX2_copyFrom_25 rfl (lv_at hl 1 rfl) ?_
  refine rV 5 (f := 50) (v := τ2 50 0) hx hb hts hi2 hown hK hV2 (by decide) (by decide) rfl rfl k37 dX2_copyFrom_26 ?_
  refine wV 5 (f := 50) hx hb hts hi2 hown hK hI hV hS (by decide) (by decide) rfl k37 dX2_copyFrom_29 (fun H locs hV hS => ?_)
  have hV2 := hV20.other hdis hS
  refine lv_iconst (v := nI 0) hx hb dX2_copyFrom_32 (by decide) ?_
  refine lv_istore_n (lv' := [(2, .int (nI 0)), (0, .ref (ad 0)), (1, .ref (ad2 0))]) hx hb dX2_copyFrom_33 rfl hl (by decide) rfl (fun ls hl => ?_)
  refine W_up nH (fun i H locs ls => CVm G ad 10 3 δ (itn (fun h => cpH h τ2) i (wst (wst (wst (wst τ 51 0 (nI nH)) 52 0 (nI nP)) 53 0 (τ2 53 0)) 50 0 (τ2 50 0))) H ∧ va_S (AV ad 19) s.heap H locs ∧ lv_has ls 3 [(0, .ref (ad 0)), (1, .ref (ad2 0)), (2, .int (nI i))]) ?_ 0 (by omega) _ _ _ ⟨hV, hS, lv_sub hl [1, 2, 0] rfl⟩
  intro i H locs ls hi ⟨hV, hS, hl⟩ ih
  have hV2 := hV20.other hdis hS
  have h51 : itn (fun h => cpH h τ2) i (wst (wst (wst (wst τ 51 0 (nI nH)) 52 0 (nI nP)) 53 0 (τ2 53 0)) 50 0 (τ2 50 0)) 51 0 = nI nH := (itn_col (fun k x => cpH_v (by omega))).trans (by rw [wst_f (by decide), wst_f (by decide), wst_f (by decide), wst_s])
  refine lv_iload_n hx hb dX2_copyFrom_34 rfl (lv_at hl 2 rfl) ?_
  refine lv_aload_n hx hb dX2_copyFrom_35 rfl (lv_at hl 0 rfl) ?_
  refine rV 2 (f := 51) (v := nI nH) hx hb hts hi2 hown hK hV (by decide) (by decide) rfl h51 k27 dX2_copyFrom_36 ?_
  refine lv_icmp_ge (tgt := 63) hx hb dX2_copyFrom_39 (by decide) (fun c39 => ?_) (fun c39 => ?_)
  · skip
    replace c39 := (nI_leI (a := nH) (b := i) (by omega) (by omega)).mp c39
    obtain rfl : nH = i := by omega
    refine lv_iconst (v := nI 0) hx hb dX2_copyFrom_63 (by decide) ?_
    refine lv_istore_n (lv' := [(2, .int (nI 0)), (0, .ref (ad 0)), (1, .ref (ad2 0))]) hx hb dX2_copyFrom_64 rfl hl (by decide) rfl (fun ls hl => ?_)
    refine W_up nP (fun i H locs ls => CVm G ad 10 3 δ (itn (fun p => cpP p τ2) i (itn (fun h => cpH h τ2) nH (wst (wst (wst (wst τ 51 0 (nI nH)) 52 0 (nI nP)) 53 0 (τ2 53 0)) 50 0 (τ2 50 0)))) H ∧ va_S (AV ad 19) s.heap H locs ∧ lv_has ls 3 [(0, .ref (ad 0)), (1, .ref (ad2 0)), (2, .int (nI i))]) ?_ 0 (by omega) _ _ _ ⟨hV, hS, lv_sub hl [1, 2, 0] rfl⟩
    intro i H locs ls hi ⟨hV, hS, hl⟩ ih
    have hV2 := hV20.other hdis hS
    have h52 : itn (fun p => cpP p τ2) i (itn (fun h => cpH h τ2) nH (wst (wst (wst (wst τ 51 0 (nI nH)) 52 0 (nI nP)) 53 0 (τ2 53 0)) 50 0 (τ2 50 0))) 52 0 = nI nP := (itn_cpP (by omega) (by omega)).trans ((itn_col (fun k x => cpH_v (by omega))).trans (by rw [wst_f (by decide), wst_f (by decide), wst_s]))
    refine lv_iload_n hx hb dX2_copyFrom_65 rfl (lv_at hl 2 rfl) ?_
    refine lv_aload_n hx hb dX2_copyFrom_66 rfl (lv_at hl 0 rfl) ?_
    refine rV 3 (f := 52) (v := nI nP) hx hb hts hi2 hown hK hV (by decide) (by decide) rfl h52 k31 dX2_copyFrom_67 ?_
    refine lv_icmp_ge (tgt := 94) hx hb dX2_copyFrom_70 (by decide) (fun c70 => ?_) (fun c70 => ?_)
    · skip
      replace c70 := (nI_leI (a := nP) (b := i) (by omega) (by omega)).mp c70
      obtain rfl : nP = i := by omega
      exact xV hx hb hr hlocks hV hS dX2_copyFrom_94
    · skip
      replace c70 : ¬ (nP ≤ i) := fun q => c70 ((nI_leI (a := nP) (b := i) (by omega) (by omega)).mpr q)
      refine lv_aload_n hx hb dX2_copyFrom_73 rfl (lv_at hl 0 rfl) ?_
      refine rVp hx hb hts hi2 hown hK hV k19 dX2_copyFrom_74 ?_
      refine lv_iload_n hx hb dX2_copyFrom_77 rfl (lv_at hl 2 rfl) ?_
      refine rPA (h := i) hx hb hK hV (by omega) dX2_copyFrom_78 ?_
      refine lv_aload_n hx hb dX2_copyFrom_79 rfl (lv_at hl 1 rfl) ?_
      refine rVp hx hb hts hi2 hown hK hV2 k19 dX2_copyFrom_80 ?_
      refine lv_iload_n hx hb dX2_copyFrom_83 rfl (lv_at hl 2 rfl) ?_
      refine rPA (h := i) hx hb hK hV2 (by omega) dX2_copyFrom_84 ?_
      refine kV (va_runV (As := [.ref (ad2 (13 + i))]) (rest := []) ⟨hx, hb, hml, hown, hts⟩ (c_X1_copyFrom l G ad ad2 hI hdis nH nP hH hP δ (itn (fun p => cpP p τ2) i (itn (fun h => cpH h τ2) nH (wst (wst (wst (wst τ 51 0 (nI nH)) 52 0 (nI nP)) 53 0 (τ2 53 0)) 50 0 (τ2 50 0)))) δ2 τ2 i (by omega) (hv.2.2.2.2.2 i (by omega)).1) (cwV 1 hts gX2_copyFrom_X1_copyFrom rfl rfl rfl (by decide +kernel) ⟨Nat.le_of_ble_eq_true rfl, Nat.le_of_ble_eq_true rfl⟩) ⟨Pc0.blind, va_recv hK (va_P1 (hV.2.2.2.2.1 i (by omega))) (ci := 1) (q0 := 0) rfl rfl, Pc0.pre (show (fun H => CVm G ad 10 3 δ (itn (fun p => cpP p τ2) i (itn (fun h => cpH h τ2) nH (wst (wst (wst (wst τ 51 0 (nI nH)) 52 0 (nI nP)) 53 0 (τ2 53 0)) 50 0 (τ2 50 0)))) H ∧ CVm G ad2 nH nP δ2 τ2 H) _ from ⟨hV, hV2⟩) hK⟩ rfl rfl hl.1 rfl (lv_room (Nat.le_of_ble_eq_true rfl)) dX2_copyFrom_85 ⟨Nat.zero_le _, Nat.zero_le _⟩) hS (fun _ _ q => q) (fun _ q => q) (fun H locs hV _ _ hS => ?_)
      have hV2 := hV20.other hdis hS
      refine lv_iinc (k := 2) (v := nI (i + 1)) (lv' := [(2, .int (nI (i + 1))), (0, .ref (ad 0)), (1, .ref (ad2 0))]) hx hb dX2_copyFrom_88 hl rfl (nI_add i 1) (by decide) rfl (fun ls hl => ?_)
      refine lv_goto (tgt := 65) hx hb dX2_copyFrom_91 (by decide) ?_
      exact ih (by omega) _ _ _ ⟨hV, hS, lv_sub hl [1, 2, 0] rfl⟩
  · skip
    replace c39 : ¬ (nH ≤ i) := fun q => c39 ((nI_leI (a := nH) (b := i) (by omega) (by omega)).mpr q)
    refine lv_aload_n hx hb dX2_copyFrom_42 rfl (lv_at hl 0 rfl) ?_
    refine rVh hx hb hts hi2 hown hK hV k11 dX2_copyFrom_43 ?_
    refine lv_iload_n hx hb dX2_copyFrom_46 rfl (lv_at hl 2 rfl) ?_
    refine rHA (h := i) hx hb hK hV (by omega) dX2_copyFrom_47 ?_
    refine lv_aload_n hx hb dX2_copyFrom_48 rfl (lv_at hl 1 rfl) ?_
    refine rVh hx hb hts hi2 hown hK hV2 k11 dX2_copyFrom_49 ?_
    refine lv_iload_n hx hb dX2_copyFrom_52 rfl (lv_at hl 2 rfl) ?_
    refine rHA (h := i) hx hb hK hV2 (by omega) dX2_copyFrom_53 ?_
    refine kV (va_runV (As := [.ref (ad2 (3 + i))]) (rest := []) ⟨hx, hb, hml, hown, hts⟩ (c_X0_copyFrom l G ad ad2 hI hdis nH nP hH hP δ (itn (fun h => cpH h τ2) i (wst (wst (wst (wst τ 51 0 (nI nH)) 52 0 (nI nP)) 53 0 (τ2 53 0)) 50 0 (τ2 50 0))) δ2 τ2 i (by omega)) (cwV 1 hts gX2_copyFrom_X0_copyFrom rfl rfl rfl (by decide +kernel) ⟨Nat.le_of_ble_eq_true rfl, Nat.le_of_ble_eq_true rfl⟩) ⟨Pc0.blind, va_recv hK (va_P1 (hV.2.2.2.1 i (by omega))) (ci := 0) (q0 := 0) rfl rfl, Pc0.pre (show (fun H => CVm G ad 10 3 δ (itn (fun h => cpH h τ2) i (wst (wst (wst (wst τ 51 0 (nI nH)) 52 0 (nI nP)) 53 0 (τ2 53 0)) 50 0 (τ2 50 0))) H ∧ CVm G ad2 nH nP δ2 τ2 H) _ from ⟨hV, hV2⟩) hK⟩ rfl rfl hl.1 rfl (lv_room (Nat.le_of_ble_eq_true rfl)) dX2_copyFrom_54 ⟨Nat.zero_le _, Nat.zero_le _⟩) hS (fun _ _ q => q) (fun _ q => q) (fun H locs hV _ _ hS => ?_)
    have hV2 := hV20.other hdis hS
    refine lv_iinc (k := 2) (v := nI (i + 1)) (lv' := [(2, .int (nI (i + 1))), (0, .ref (ad 0)), (1, .ref (ad2 0))]) hx hb dX2_copyFrom_57 hl rfl (nI_add i 1) (by decide) rfl (fun ls hl => ?_)
    refine lv_goto (tgt := 34) hx hb dX2_copyFrom_60 (by decide) ?_
    exact ih (by omega) _ _ _ ⟨hV, hS, lv_sub hl [1, 2, 0] rfl⟩
