theorem strkH_v {h k f j : Nat} {x : wS} (hf : f < 26) : strkH h k x f j = x f j := by
  unfold strkH
  split
  · unfold strkF
    rw [wst_f (by omega), wst_f (by omega), shF_o (by omega)]
  · rfl

set_option maxHeartbeats 4000000 in
set_option maxRecDepth 100000 in
theorem c_X4_fine (l : Launch) (G : wG) (ad : Nat → Nat) (hI : adInj ad 6) (nH nP : Nat) (hH : nH ≤ 10) (hP : nP ≤ 3) (δ τ : wS) (h : Nat) (e : Int32) (hv : Inv nH nP τ) (hh : h < nH) : Met l yX4_fine wsX4_fine ({ frames := 1, cells := 0, slots := 0, locals := 24 } : Room) (Pc0 G [.ref (ad 0), .int (nI h), .int e] (RVm G ad nH nP δ τ)) (Qi0 (paid h e τ) (RVm G ad nH nP δ (chgF nP h e τ)) (AV ad 6)) 0 0 (AV ad 6) := by
  refine Met.ofW (cc := cX4_fine) (maxL := 6) (ret := (some .int)) (by decide) rfl ?_
  intro pg ev s mid args below meth cd s₁ B hml hv0
  obtain ⟨rfl, hV, hK⟩ := hv0
  have hx := B.exec
  have hb := B.bytes
  have hr := B.returns
  have hts := atoms_spec (ws := wsX4_fine) B.pre
  have hown : s.vm.findClass RX4 = some mid.cls := findClass_of_methodNamed B.named
  have hlocks := B.notSynchronized
  have hi4 : ∀ w ∈ wsX40, w ∈ wsX4_fine := by decide +kernel
  have k9 := hts (.fieldLink RX4 9 "PumpRosterModel$State" "house" "[I") (by decide +kernel)
  have km51 := hts (.methodLink RX4 51 Lib.Math.min.name) (by decide +kernel)
  have ksmin := hts (.static Lib.Math.min.name) (by decide +kernel)
  have kmath := hts (.initialized "java/lang/Math") (by decide +kernel)
  have kcmin := hts (.code Lib.Math.min.name Lib.Math.min.code 2 (some .int)) (by decide +kernel)
  have k38 := hts (.fieldLink RX4 38 "PumpRosterModel$State" "chest" "I") (by decide +kernel)
  have k35 := hts (.fieldLink RX4 35 "PumpRosterModel$State" "pumps" "I") (by decide +kernel)
  have hS : va_S (AV ad 6) s.heap s.heap [] := va_S.rf
  have hl := lv_entry ([.ref (ad 0), .int (nI h), .int e]) (n := 6) (Nat.le_of_ble_eq_true rfl)
  rw [lg_entry_eq]
  generalize (lg_sl ([.ref (ad 0), .int (nI h), .int e]) ++ List.replicate (6 - (lg_sl ([.ref (ad 0), .int (nI h), .int e])).length) Slot.unset).toArray = ls at hl ⊢
  have hl : lv_has ls 6 [(0, .ref (ad 0)), (1, .int (nI h)), (2, .int e)] := hl
  obtain ⟨-, -, -, km, hkm, e4⟩ := hv.2.2.2.2.1 h hh
  refine lv_bipush (v := 11) hx hb dX4_fine_0 (by decide) ?_
  refine lv_iload_n hx hb dX4_fine_2 rfl (lv_at hl 1 rfl) ?_
  refine lv_imul hx hb dX4_fine_3 ?_
  refine lv_topi (fun y1 ey1 => ?_)
  obtain rfl : y1 = nI (11 * h) := ey1.trans (pk_mul 11 h)
  refine lv_istore_n (lv' := [(3, .int (nI (11 * h))), (0, .ref (ad 0)), (1, .int (nI h)), (2, .int e)]) hx hb dX4_fine_4 rfl hl (by decide) rfl (fun ls hl => ?_)
  refine lv_iload_n hx hb dX4_fine_5 rfl (lv_at hl 3 rfl) ?_
  refine lv_aload_n hx hb dX4_fine_6 rfl (lv_at hl 1 rfl) ?_
  refine rSf 2 (j := 1) hx hb hts hi4 hown hK hV (by decide) rfl k9 dX4_fine_7 ?_
  refine lv_iload_n hx hb dX4_fine_10 rfl (lv_at hl 0 rfl) ?_
  refine lv_iconst (v := 3) hx hb dX4_fine_11 (by decide) ?_
  refine lv_iadd hx hb dX4_fine_12 ?_
  refine lv_topi (fun y2 ey2 => ?_)
  obtain rfl : y2 = nI (11 * h + 3) := ey2.trans (nI_add (11 * h) 3)
  refine rSh (h := h) (f := 3) (v := τ 3 h) hx hb hK hV (by omega) (by omega) (by omega) hH rfl dX4_fine_13 ?_
  refine va_mmin hx hb (hml.trans hl.1.symm) hown km51 ksmin kmath kcmin (Nat.le_of_ble_eq_true rfl) (Nat.le_of_ble_eq_true rfl) (Nat.zero_le _) (Nat.zero_le _) dX4_fine_14 ?_
  refine lv_topi (fun y3 ey3 => ?_)
  obtain rfl : y3 = paid h e τ := ey3.trans rfl
  refine lv_istore (lv' := [(4, .int (paid h e τ)), (3, .int (nI (11 * h))), (0, .ref (ad 0)), (1, .int (nI h)), (2, .int e)]) hx hb dX4_fine_17 hl (by decide) rfl (fun ls hl => ?_)
  refine lv_aload_n hx hb dX4_fine_19 rfl (lv_at hl 2 rfl) ?_
  refine rSf 2 (j := 1) hx hb hts hi4 hown hK hV (by decide) rfl k9 dX4_fine_20 ?_
  refine lv_iload_n hx hb dX4_fine_23 rfl (lv_at hl 1 rfl) ?_
  refine lv_bipush (v := 10) hx hb dX4_fine_24 (by decide) ?_
  refine lv_iadd hx hb dX4_fine_26 ?_
  refine lv_topi (fun y4 ey4 => ?_)
  obtain rfl : y4 = nI (11 * h + 10) := ey4.trans (nI_add (11 * h) 10)
  refine lv_dup2_11 hx hb dX4_fine_27 rfl rfl ?_
  refine rSh (h := h) (f := 10) (v := τ 10 h) hx hb hK hV (by omega) (by omega) (by omega) hH rfl dX4_fine_28 ?_
  refine lv_iload_n hx hb dX4_fine_29 rfl (lv_at hl 4 rfl) ?_
  refine lv_iadd hx hb dX4_fine_30 ?_
  refine wSh (h := h) (f := 10) hx hb hK hI hV hS (fun _ q => q) (by omega) (by omega) (by omega) hH dX4_fine_31 (fun H locs hV _ hS => ?_)
  refine lv_aload_n hx hb dX4_fine_32 rfl (lv_at hl 2 rfl) ?_
  refine rSf 2 (j := 1) hx hb hts hi4 hown hK hV (by decide) rfl k9 dX4_fine_33 ?_
  refine lv_iload_n hx hb dX4_fine_36 rfl (lv_at hl 1 rfl) ?_
  refine lv_iconst (v := 3) hx hb dX4_fine_37 (by decide) ?_
  refine lv_iadd hx hb dX4_fine_38 ?_
  refine lv_topi (fun y5 ey5 => ?_)
  obtain rfl : y5 = nI (11 * h + 3) := ey5.trans (nI_add (11 * h) 3)
  refine lv_dup2_11 hx hb dX4_fine_39 rfl rfl ?_
  refine rSh (h := h) (f := 3) (v := τ 3 h) hx hb hK hV (by omega) (by omega) (by omega) hH (wst_f (by decide)) dX4_fine_40 ?_
  refine lv_iload hx hb dX4_fine_41 (lv_at hl 0 rfl) ?_
  refine lv_isub hx hb dX4_fine_43 ?_
  refine wSh (h := h) (f := 3) hx hb hK hI hV hS (fun _ q => q) (by omega) (by omega) (by omega) hH dX4_fine_44 (fun H locs hV _ hS => ?_)
  refine lv_aload_n hx hb dX4_fine_45 rfl (lv_at hl 2 rfl) ?_
  refine lv_dup hx hb dX4_fine_46 rfl ?_
  refine rSi 8 (f := 53) (v := τ 53 0) hx hb hts hi4 hown hK hV (by decide) rfl ((wst_f (by decide)).trans (wst_f (by decide))) k38 dX4_fine_47 ?_
  refine lv_iload hx hb dX4_fine_50 (lv_at hl 0 rfl) ?_
  refine lv_iadd hx hb dX4_fine_52 ?_
  refine wSi 8 (f := 53) hx hb hts hi4 hown hK hI hV hS (fun _ q => q) (by decide) rfl k38 dX4_fine_53 (fun H locs hV _ hS => ?_)
  refine lv_iload hx hb dX4_fine_56 (lv_at hl 0 rfl) ?_
  refine lv_iload_n hx hb dX4_fine_58 rfl (lv_at hl 4 rfl) ?_
  refine lv_icmp_ge (tgt := 140) hx hb dX4_fine_59 (by decide) (fun c59 => ?_) (fun c59 => ?_)
  · skip
    have ec : chgF nP h e τ = chg1 h e τ := by rw [chgF, if_neg (fun q => i32_nlt c59 q.1)]
    refine lv_iload hx hb dX4_fine_140 (lv_at hl 0 rfl) ?_
    exact xI hx hb hr hlocks (by rw [ec]; exact hV) hS rfl dX4_fine_142
  · skip
    have c59p : paid h e τ < e := i32_ltn c59
    refine lv_aload_n hx hb dX4_fine_62 rfl (lv_at hl 2 rfl) ?_
    refine rSf 2 (j := 1) hx hb hts hi4 hown hK hV (by decide) rfl k9 dX4_fine_63 ?_
    refine lv_iload_n hx hb dX4_fine_66 rfl (lv_at hl 1 rfl) ?_
    refine lv_iconst (v := 4) hx hb dX4_fine_67 (by decide) ?_
    refine lv_iadd hx hb dX4_fine_68 ?_
    refine lv_topi (fun y6 ey6 => ?_)
    obtain rfl : y6 = nI (11 * h + 4) := ey6.trans (nI_add (11 * h) 4)
    refine rSh (h := h) (f := 4) (v := nI km) hx hb hK hV (by omega) (by omega) (by omega) hH (((wst_f (by decide)).trans ((wst_f (by decide)).trans (wst_f (by decide)))).trans e4) dX4_fine_69 ?_
    refine lv_iconst (v := 3) hx hb dX4_fine_70 (by decide) ?_
    refine lv_icmp_ge (tgt := 140) hx hb dX4_fine_71 (by decide) (fun c71 => ?_) (fun c71 => ?_)
    · skip
      replace c71 := (nI_leI (a := 3) (b := km) (by omega) (by omega)).mp c71
      have ec : chgF nP h e τ = chg1 h e τ := by rw [chgF, if_neg (fun q => by have q2 := q.2; rw [e4] at q2; have q3 := (nI_ltI (a := km) (b := 3) (by omega) (by omega)).mp q2; omega)]
      refine lv_iload hx hb dX4_fine_140 (lv_at hl 0 rfl) ?_
      exact xI hx hb hr hlocks (by rw [ec]; exact hV) hS rfl dX4_fine_142
    · skip
      replace c71 : ¬ (3 ≤ km) := fun q => c71 ((nI_leI (a := 3) (b := km) (by omega) (by omega)).mpr q)
      have c71p : paid h e τ < e ∧ τ 4 h < 3 := ⟨c59p, by rw [e4]; exact (nI_ltI (a := km) (b := 3) (by omega) (by omega)).mpr (by omega)⟩
      have hv4 : Inv nH nP (wst (chg1 h e τ) 4 h (nI (km + 1))) := hv.oChg1.set4 (by omega)
      refine lv_aload_n hx hb dX4_fine_74 rfl (lv_at hl 2 rfl) ?_
      refine rSf 2 (j := 1) hx hb hts hi4 hown hK hV (by decide) rfl k9 dX4_fine_75 ?_
      refine lv_iload_n hx hb dX4_fine_78 rfl (lv_at hl 1 rfl) ?_
      refine lv_iconst (v := 4) hx hb dX4_fine_79 (by decide) ?_
      refine lv_iadd hx hb dX4_fine_80 ?_
      refine lv_topi (fun y7 ey7 => ?_)
      obtain rfl : y7 = nI (11 * h + 4) := ey7.trans (nI_add (11 * h) 4)
      refine lv_dup2_11 hx hb dX4_fine_81 rfl rfl ?_
      refine rSh (h := h) (f := 4) (v := nI km) hx hb hK hV (by omega) (by omega) (by omega) hH (((wst_f (by decide)).trans ((wst_f (by decide)).trans (wst_f (by decide)))).trans e4) dX4_fine_82 ?_
      refine lv_iconst (v := 1) hx hb dX4_fine_83 (by decide) ?_
      refine lv_iadd hx hb dX4_fine_84 ?_
      refine lv_topi (fun y8 ey8 => ?_)
      obtain rfl : y8 = nI (km + 1) := ey8.trans (nI_add km 1)
      refine wSh (h := h) (f := 4) hx hb hK hI hV hS (fun _ q => q) (by omega) (by omega) (by omega) hH dX4_fine_85 (fun H locs hV _ hS => ?_)
      by_cases hk3 : km + 1 = 3
      · skip
        have ec : chgF nP h e τ = itn (strkH h) nP (wst (chg1 h e τ) 4 h (nI (km + 1))) := by rw [chgF, if_pos c71p, e4, nI_1, if_pos (show nI (km + 1) = 3 from (nI_eq (a := km + 1) (b := 3) (by omega) (by omega)).mpr hk3)]
        refine lv_iconst (v := nI 0) hx hb dX4_fine_86 (by decide) ?_
        refine lv_istore (lv' := [(5, .int (nI 0)), (4, .int (paid h e τ)), (3, .int (nI (11 * h))), (0, .ref (ad 0)), (1, .int (nI h)), (2, .int e)]) hx hb dX4_fine_87 hl (by decide) rfl (fun ls hl => ?_)
        refine W_up nP (fun i H locs ls => RVm G ad nH nP δ (itn (strkH h) i (wst (chg1 h e τ) 4 h (nI (km + 1)))) H ∧ va_S (AV ad 6) s.heap H locs ∧ lv_has ls 6 [(0, .ref (ad 0)), (1, .int (nI h)), (2, .int e), (3, .int (nI (11 * h))), (4, .int (paid h e τ)), (5, .int (nI i))]) ?_ 0 (by omega) _ _ _ ⟨hV, hS, lv_sub hl [3, 4, 5, 2, 1, 0] rfl⟩
        intro i H locs ls hi ⟨hV, hS, hl⟩ ih
        have hvi : Inv nH nP (itn (strkH h) i (wst (chg1 h e τ) 4 h (nI (km + 1)))) := itn_inv hv4 (fun k hk x hx => hx.oStrkH (by omega))
        have h43 : itn (strkH h) i (wst (chg1 h e τ) 4 h (nI (km + 1))) 4 h = nI (km + 1) := (itn_col (fun k x => strkH_v (by omega))).trans wst_s
        refine lv_iload hx hb dX4_fine_89 (lv_at hl 5 rfl) ?_
        refine lv_aload_n hx hb dX4_fine_91 rfl (lv_at hl 0 rfl) ?_
        refine rSi 3 (f := 52) (v := nI nP) hx hb hts hi4 hown hK hV (by decide) rfl hvi.2.2.2.1 k35 dX4_fine_92 ?_
        refine lv_icmp_ge (tgt := 140) hx hb dX4_fine_95 (by decide) (fun c95 => ?_) (fun c95 => ?_)
        · skip
          replace c95 := (nI_leI (a := nP) (b := i) (by omega) (by omega)).mp c95
          obtain rfl : nP = i := by omega
          refine lv_iload hx hb dX4_fine_140 (lv_at hl 4 rfl) ?_
          exact xI hx hb hr hlocks (by rw [ec]; exact hV) hS rfl dX4_fine_142
        · skip
          replace c95 : ¬ (nP ≤ i) := fun q => c95 ((nI_leI (a := nP) (b := i) (by omega) (by omega)).mpr q)
          refine lv_aload_n hx hb dX4_fine_98 rfl (lv_at hl 0 rfl) ?_
          refine rSf 2 (j := 1) hx hb hts hi4 hown hK hV (by decide) rfl k9 dX4_fine_99 ?_
          refine lv_iload_n hx hb dX4_fine_102 rfl (lv_at hl 3 rfl) ?_
          refine lv_iconst (v := 4) hx hb dX4_fine_103 (by decide) ?_
          refine lv_iadd hx hb dX4_fine_104 ?_
          refine lv_topi (fun y9 ey9 => ?_)
          obtain rfl : y9 = nI (11 * h + 4) := ey9.trans (nI_add (11 * h) 4)
          refine rSh (h := h) (f := 4) (v := nI (km + 1)) hx hb hK hV (by omega) (by omega) (by omega) hH h43 dX4_fine_105 ?_
          refine lv_iconst (v := 3) hx hb dX4_fine_106 (by decide) ?_
          refine lv_icmp_ne (tgt := 140) hx hb dX4_fine_107 (by decide) (fun c107 => ?_) (fun c107 => ?_)
          · skip
            replace c107 : ¬ (km + 1 = 3) := fun q => c107 ((nI_eq (a := km + 1) (b := 3) (by omega) (by omega)).mpr q)
            exact absurd hk3 c107
          · skip
            replace c107 := (nI_eq (a := km + 1) (b := 3) (by omega) (by omega)).mp c107
            refine lv_aload_n hx hb dX4_fine_110 rfl (lv_at hl 0 rfl) ?_
            refine lv_iload hx hb dX4_fine_111 (lv_at hl 5 rfl) ?_
            refine lv_iload_n hx hb dX4_fine_113 rfl (lv_at hl 1 rfl) ?_
            refine kI (va_runV (As := [.int (nI i), .int (nI h)]) (rest := []) ⟨hx, hb, hml, hown, hts⟩ (c_X4_placeOf l G ad hI nH nP hH hP δ (itn (strkH h) i (wst (chg1 h e τ) 4 h (nI (km + 1)))) i (sz (itn (strkH h) i (wst (chg1 h e τ) 4 h (nI (km + 1)))) i) (nI h) (by omega) (hvi.2.2.2.2.2 i (by omega)).2.2.2.2.1.2 (hvi.2.2.2.2.2 i (by omega)).2.2.2.2.1.1) (cwV 2 hts gX4_fine_X4_placeOf rfl rfl rfl (by decide +kernel) ⟨Nat.le_of_ble_eq_true rfl, Nat.le_of_ble_eq_true rfl⟩) ⟨Pc0.blind, va_recv hK (va_P1 (hV.1)) (ci := 4) (q0 := 0) rfl rfl, Pc0.pre hV hK⟩ rfl rfl hl.1 rfl (lv_room (Nat.le_of_ble_eq_true rfl)) dX4_fine_114 ⟨Nat.zero_le _, Nat.zero_le _⟩) hS (fun _ _ q => q) (fun _ q => q) (fun H locs hV _ _ hS => ?_)
            refine lv_iconst (v := (-1)) hx hb dX4_fine_117 (by decide) ?_
            refine lv_icmp_eq (tgt := 134) hx hb dX4_fine_118 (by decide) (fun c118 => ?_) (fun c118 => ?_)
            · skip
              have hg : ¬ plc ((itn (strkH h) i (wst (chg1 h e τ) 4 h (nI (km + 1)))) (40 + i)) (nI h) (sz (itn (strkH h) i (wst (chg1 h e τ) 4 h (nI (km + 1)))) i) < sz (itn (strkH h) i (wst (chg1 h e τ) 4 h (nI (km + 1)))) i := plI_m1 (by have h8 := (hvi.2.2.2.2.2 i (by omega)).2.2.2.2.1.1; omega) c118
              refine lv_iinc (k := 5) (v := nI (i + 1)) (lv' := [(5, .int (nI (i + 1))), (0, .ref (ad 0)), (1, .int (nI h)), (2, .int e), (3, .int (nI (11 * h))), (4, .int (paid h e τ))]) hx hb dX4_fine_134 hl rfl (nI_add i 1) (by decide) rfl (fun ls hl => ?_)
              refine lv_goto (tgt := 89) hx hb dX4_fine_137 (by decide) ?_
              exact ih (by omega) _ _ _ ⟨(by rw [itn_s, strkH, if_neg hg]; exact hV), hS, lv_sub hl [1, 2, 3, 4, 5, 0] rfl⟩
            · skip
              have hg : plc ((itn (strkH h) i (wst (chg1 h e τ) 4 h (nI (km + 1)))) (40 + i)) (nI h) (sz (itn (strkH h) i (wst (chg1 h e τ) 4 h (nI (km + 1)))) i) < sz (itn (strkH h) i (wst (chg1 h e τ) 4 h (nI (km + 1)))) i := plI_k c118
              refine lv_aload_n hx hb dX4_fine_121 rfl (lv_at hl 0 rfl) ?_
              refine lv_iload hx hb dX4_fine_122 (lv_at hl 5 rfl) ?_
              refine lv_aload_n hx hb dX4_fine_124 rfl (lv_at hl 0 rfl) ?_
              refine lv_iload hx hb dX4_fine_125 (lv_at hl 5 rfl) ?_
              refine lv_iload_n hx hb dX4_fine_127 rfl (lv_at hl 1 rfl) ?_
              refine kI (va_runV (As := [.int (nI i), .int (nI h)]) (rest := [.int (nI i), .ref (ad 0)]) ⟨hx, hb, hml, hown, hts⟩ (c_X4_placeOf l G ad hI nH nP hH hP δ (itn (strkH h) i (wst (chg1 h e τ) 4 h (nI (km + 1)))) i (sz (itn (strkH h) i (wst (chg1 h e τ) 4 h (nI (km + 1)))) i) (nI h) (by omega) (hvi.2.2.2.2.2 i (by omega)).2.2.2.2.1.2 (hvi.2.2.2.2.2 i (by omega)).2.2.2.2.1.1) (cwV 2 hts gX4_fine_X4_placeOf rfl rfl rfl (by decide +kernel) ⟨Nat.le_of_ble_eq_true rfl, Nat.le_of_ble_eq_true rfl⟩) ⟨Pc0.blind, va_recv hK (va_P1 (hV.1)) (ci := 4) (q0 := 0) rfl rfl, Pc0.pre hV hK⟩ rfl rfl hl.1 rfl (lv_room (Nat.le_of_ble_eq_true rfl)) dX4_fine_128 ⟨Nat.zero_le _, Nat.zero_le _⟩) hS (fun _ _ q => q) (fun _ q => q) (fun H locs hV _ _ hS => ?_)
              refine lv_topi (fun yy eyy => ?_)
              obtain rfl : yy = nI (plc ((itn (strkH h) i (wst (chg1 h e τ) 4 h (nI (km + 1)))) (40 + i)) (nI h) (sz (itn (strkH h) i (wst (chg1 h e τ) 4 h (nI (km + 1)))) i)) := eyy.trans (if_pos hg)
              refine kV (va_runV (As := [.int (nI i), .int (nI (plc ((itn (strkH h) i (wst (chg1 h e τ) 4 h (nI (km + 1)))) (40 + i)) (nI h) (sz (itn (strkH h) i (wst (chg1 h e τ) 4 h (nI (km + 1)))) i)))]) (rest := []) ⟨hx, hb, hml, hown, hts⟩ (c_X4_strike l G ad hI nH nP hH hP δ (itn (strkH h) i (wst (chg1 h e τ) 4 h (nI (km + 1)))) i (sz (itn (strkH h) i (wst (chg1 h e τ) 4 h (nI (km + 1)))) i) (tn (itn (strkH h) i (wst (chg1 h e τ) 4 h (nI (km + 1)))) i) (plc ((itn (strkH h) i (wst (chg1 h e τ) 4 h (nI (km + 1)))) (40 + i)) (nI h) (sz (itn (strkH h) i (wst (chg1 h e τ) 4 h (nI (km + 1)))) i)) (by omega) (hvi.2.2.2.2.2 i (by omega)).2.2.2.2.1.2 (hvi.2.2.2.2.2 i (by omega)).2.2.2.2.1.1 (hvi.2.2.2.2.2 i (by omega)).2.2.2.2.2.1.1 (by have h8 := (hvi.2.2.2.2.2 i (by omega)).2.2.2.2.2.1.2; have h9 := (hvi.2.2.2.2.2 i (by omega)).2.2.2.2.1.1; omega) hg) (cwV 2 hts gX4_fine_X4_strike rfl rfl rfl (by decide +kernel) ⟨Nat.le_of_ble_eq_true rfl, Nat.le_of_ble_eq_true rfl⟩) ⟨Pc0.blind, va_recv hK (va_P1 (hV.1)) (ci := 4) (q0 := 0) rfl rfl, Pc0.pre hV hK⟩ rfl rfl hl.1 rfl (lv_room (Nat.le_of_ble_eq_true rfl)) dX4_fine_131 ⟨Nat.zero_le _, Nat.zero_le _⟩) hS (fun _ _ q => q) (fun _ q => q) (fun H locs hV _ _ hS => ?_)
              refine lv_iinc (k := 5) (v := nI (i + 1)) (lv' := [(5, .int (nI (i + 1))), (0, .ref (ad 0)), (1, .int (nI h)), (2, .int e), (3, .int (nI (11 * h))), (4, .int (paid h e τ))]) hx hb dX4_fine_134 hl rfl (nI_add i 1) (by decide) rfl (fun ls hl => ?_)
              refine lv_goto (tgt := 89) hx hb dX4_fine_137 (by decide) ?_
              exact ih (by omega) _ _ _ ⟨(by rw [itn_s, strkH, if_pos hg]; exact hV), hS, lv_sub hl [1, 2, 3, 4, 5, 0] rfl⟩
      · skip
        have ec : chgF nP h e τ = wst (chg1 h e τ) 4 h (nI (km + 1)) := by rw [chgF, if_pos c71p, e4, nI_1, if_neg (show ¬ nI (km + 1) = 3 from fun q => hk3 ((nI_eq (a := km + 1) (b := 3) (by omega) (by omega)).mp q))]
        refine lv_iconst (v := nI 0) hx hb dX4_fine_86 (by decide) ?_
        refine lv_istore (lv' := [(5, .int (nI 0)), (4, .int (paid h e τ)), (3, .int (nI (11 * h))), (0, .ref (ad 0)), (1, .int (nI h)), (2, .int e)]) hx hb dX4_fine_87 hl (by decide) rfl (fun ls hl => ?_)
        refine W_up nP (fun i H locs ls => RVm G ad nH nP δ (wst (chg1 h e τ) 4 h (nI (km + 1))) H ∧ va_S (AV ad 6) s.heap H locs ∧ lv_has ls 6 [(0, .ref (ad 0)), (1, .int (nI h)), (2, .int e), (3, .int (nI (11 * h))), (4, .int (paid h e τ)), (5, .int (nI i))]) ?_ 0 (by omega) _ _ _ ⟨hV, hS, lv_sub hl [3, 4, 5, 2, 1, 0] rfl⟩
        intro i H locs ls hi ⟨hV, hS, hl⟩ ih
        have hvi : Inv nH nP (wst (chg1 h e τ) 4 h (nI (km + 1))) := hv4
        refine lv_iload hx hb dX4_fine_89 (lv_at hl 5 rfl) ?_
        refine lv_aload_n hx hb dX4_fine_91 rfl (lv_at hl 0 rfl) ?_
        refine rSi 3 (f := 52) (v := nI nP) hx hb hts hi4 hown hK hV (by decide) rfl hvi.2.2.2.1 k35 dX4_fine_92 ?_
        refine lv_icmp_ge (tgt := 140) hx hb dX4_fine_95 (by decide) (fun c95 => ?_) (fun c95 => ?_)
        · skip
          replace c95 := (nI_leI (a := nP) (b := i) (by omega) (by omega)).mp c95
          obtain rfl : nP = i := by omega
          refine lv_iload hx hb dX4_fine_140 (lv_at hl 4 rfl) ?_
          exact xI hx hb hr hlocks (by rw [ec]; exact hV) hS rfl dX4_fine_142
        · skip
          replace c95 : ¬ (nP ≤ i) := fun q => c95 ((nI_leI (a := nP) (b := i) (by omega) (by omega)).mpr q)
          refine lv_aload_n hx hb dX4_fine_98 rfl (lv_at hl 0 rfl) ?_
          refine rSf 2 (j := 1) hx hb hts hi4 hown hK hV (by decide) rfl k9 dX4_fine_99 ?_
          refine lv_iload_n hx hb dX4_fine_102 rfl (lv_at hl 3 rfl) ?_
          refine lv_iconst (v := 4) hx hb dX4_fine_103 (by decide) ?_
          refine lv_iadd hx hb dX4_fine_104 ?_
          refine lv_topi (fun y10 ey10 => ?_)
          obtain rfl : y10 = nI (11 * h + 4) := ey10.trans (nI_add (11 * h) 4)
          refine rSh (h := h) (f := 4) (v := nI (km + 1)) hx hb hK hV (by omega) (by omega) (by omega) hH wst_s dX4_fine_105 ?_
          refine lv_iconst (v := 3) hx hb dX4_fine_106 (by decide) ?_
          refine lv_icmp_ne (tgt := 140) hx hb dX4_fine_107 (by decide) (fun c107 => ?_) (fun c107 => ?_)
          · skip
            replace c107 : ¬ (km + 1 = 3) := fun q => c107 ((nI_eq (a := km + 1) (b := 3) (by omega) (by omega)).mpr q)
            refine lv_iload hx hb dX4_fine_140 (lv_at hl 4 rfl) ?_
            exact xI hx hb hr hlocks (by rw [ec]; exact hV) hS rfl dX4_fine_142
          · skip
            replace c107 := (nI_eq (a := km + 1) (b := 3) (by omega) (by omega)).mp c107
            exact absurd c107 hk3
