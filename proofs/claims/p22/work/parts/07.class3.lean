set_option maxHeartbeats 4000000 in
set_option maxRecDepth 100000 in
theorem c_X2_charge (l : Launch) (G : wG) (ad : Nat → Nat) (hI : adInj ad 19) (nH nP : Nat) (hH : nH ≤ 10) (hP : nP ≤ 3) (δ τ : wS) (h : Nat) (e : Int32) (hv : Inv nH nP τ) (hh : h < nH) : Met l yX2_charge wsX2_charge ({ frames := 1, cells := 0, slots := 0, locals := 22 } : Room) (Pc0 G [.ref (ad 0), .ref (ad (3 + h)), .int e] (CVm G ad nH nP δ τ)) (Qi0 (paid h e τ) (CVm G ad nH nP δ (chgF nP h e τ)) (AV ad 19)) 0 0 (AV ad 19) := by
  refine Met.ofW (cc := cX2_charge) (maxL := 5) (ret := (some .int)) (by decide) rfl ?_
  intro pg ev s mid args below meth cd s₁ B hml hv0
  obtain ⟨rfl, hV, hK⟩ := hv0
  have hx := B.exec
  have hb := B.bytes
  have hr := B.returns
  have hts := atoms_spec (ws := wsX2_charge) B.pre
  have hown : s.vm.findClass RX2 = some mid.cls := findClass_of_methodNamed B.named
  have hlocks := B.notSynchronized
  have hi0 : ∀ w ∈ wsX00, w ∈ wsX2_charge := by decide +kernel
  have hi2 : ∀ w ∈ wsX20, w ∈ wsX2_charge := by decide +kernel
  have k47 := hts (.fieldLink RX2 47 "PumpRoster$House" "finesTold" "I") (by decide +kernel)
  have k50 := hts (.fieldLink RX2 50 "PumpRoster$House" "eggs" "I") (by decide +kernel)
  have km53 := hts (.methodLink RX2 53 Lib.Math.min.name) (by decide +kernel)
  have ksmin := hts (.static Lib.Math.min.name) (by decide +kernel)
  have kmath := hts (.initialized "java/lang/Math") (by decide +kernel)
  have kcmin := hts (.code Lib.Math.min.name Lib.Math.min.code 2 (some .int)) (by decide +kernel)
  have k34 := hts (.fieldLink RX2 34 "PumpRoster$Village" "chest" "I") (by decide +kernel)
  have k59 := hts (.fieldLink RX2 59 "PumpRoster$House" "marks" "I") (by decide +kernel)
  have k31 := hts (.fieldLink RX2 31 "PumpRoster$Village" "pumpCount" "I") (by decide +kernel)
  have k19 := hts (.fieldLink RX2 19 "PumpRoster$Village" "pumps" "[LPumpRoster$Pump;") (by decide +kernel)
  have k62 := hts (.fieldLink RX2 62 "PumpRoster$House" "number" "I") (by decide +kernel)
  have hS : va_S (AV ad 19) s.heap s.heap [] := va_S.rf
  have hl := lv_entry ([.ref (ad 0), .ref (ad (3 + h)), .int e]) (n := 5) (Nat.le_of_ble_eq_true rfl)
  rw [lg_entry_eq]
  generalize (lg_sl ([.ref (ad 0), .ref (ad (3 + h)), .int e]) ++ List.replicate (5 - (lg_sl ([.ref (ad 0), .ref (ad (3 + h)), .int e])).length) Slot.unset).toArray = ls at hl ⊢
  have hl : lv_has ls 5 [(0, .ref (ad 0)), (1, .ref (ad (3 + h))), (2, .int e)] := hl
  obtain ⟨-, -, -, km, hkm, e4⟩ := hv.2.2.2.2.1 h hh
  refine lv_aload_n hx hb dX2_charge_0 rfl (lv_at hl 1 rfl) ?_
  refine lv_dup hx hb dX2_charge_1 rfl ?_
  refine rH 11 (f := 10) (h := h) (v := τ 10 h) hx hb hts hi0 hown hK hV (by omega) hH (by decide) (by decide) rfl rfl k47 dX2_charge_2 ?_
  refine lv_iload_n hx hb dX2_charge_5 rfl (lv_at hl 2 rfl) ?_
  refine lv_iadd hx hb dX2_charge_6 ?_
  refine wH 11 (f := 10) (h := h) hx hb hts hi0 hown hK hI hV hS (by omega) hH (by decide) (by decide) rfl k47 dX2_charge_7 (fun H locs hV hS => ?_)
  refine lv_iload_n hx hb dX2_charge_10 rfl (lv_at hl 2 rfl) ?_
  refine lv_aload_n hx hb dX2_charge_11 rfl (lv_at hl 1 rfl) ?_
  refine rH 4 (f := 3) (h := h) (v := τ 3 h) hx hb hts hi0 hown hK hV (by omega) hH (by decide) (by decide) rfl (wst_f (by decide)) k50 dX2_charge_12 ?_
  refine va_mmin hx hb (hml.trans hl.1.symm) hown km53 ksmin kmath kcmin (Nat.le_of_ble_eq_true rfl) (Nat.le_of_ble_eq_true rfl) (Nat.zero_le _) (Nat.zero_le _) dX2_charge_15 ?_
  refine lv_topi (fun y1 ey1 => ?_)
  obtain rfl : y1 = paid h e τ := ey1.trans rfl
  refine lv_istore_n (lv' := [(3, .int (paid h e τ)), (0, .ref (ad 0)), (1, .ref (ad (3 + h))), (2, .int e)]) hx hb dX2_charge_18 rfl hl (by decide) rfl (fun ls hl => ?_)
  refine lv_aload_n hx hb dX2_charge_19 rfl (lv_at hl 2 rfl) ?_
  refine lv_dup hx hb dX2_charge_20 rfl ?_
  refine rH 4 (f := 3) (h := h) (v := τ 3 h) hx hb hts hi0 hown hK hV (by omega) hH (by decide) (by decide) rfl (wst_f (by decide)) k50 dX2_charge_21 ?_
  refine lv_iload_n hx hb dX2_charge_24 rfl (lv_at hl 0 rfl) ?_
  refine lv_isub hx hb dX2_charge_25 ?_
  refine wH 4 (f := 3) (h := h) hx hb hts hi0 hown hK hI hV hS (by omega) hH (by decide) (by decide) rfl k50 dX2_charge_26 (fun H locs hV hS => ?_)
  refine lv_aload_n hx hb dX2_charge_29 rfl (lv_at hl 1 rfl) ?_
  refine lv_dup hx hb dX2_charge_30 rfl ?_
  refine rV 4 (f := 53) (v := τ 53 0) hx hb hts hi2 hown hK hV (by decide) (by decide) rfl ((wst_f (by decide)).trans (wst_f (by decide))) k34 dX2_charge_31 ?_
  refine lv_iload_n hx hb dX2_charge_34 rfl (lv_at hl 0 rfl) ?_
  refine lv_iadd hx hb dX2_charge_35 ?_
  refine wV 4 (f := 53) hx hb hts hi2 hown hK hI hV hS (by decide) (by decide) rfl k34 dX2_charge_36 (fun H locs hV hS => ?_)
  refine lv_iload_n hx hb dX2_charge_39 rfl (lv_at hl 0 rfl) ?_
  refine lv_iload_n hx hb dX2_charge_40 rfl (lv_at hl 3 rfl) ?_
  refine lv_icmp_ge (tgt := 112) hx hb dX2_charge_41 (by decide) (fun c41 => ?_) (fun c41 => ?_)
  · skip
    have ec : chgF nP h e τ = chg1 h e τ := by rw [chgF, if_neg (fun q => i32_nlt c41 q.1)]
    refine lv_iload_n hx hb dX2_charge_112 rfl (lv_at hl 0 rfl) ?_
    exact xI hx hb hr hlocks (by rw [ec]; exact hV) hS rfl dX2_charge_113
  · skip
    have c41p : paid h e τ < e := i32_ltn c41
    refine lv_aload_n hx hb dX2_charge_44 rfl (lv_at hl 2 rfl) ?_
    refine rH 5 (f := 4) (h := h) (v := nI km) hx hb hts hi0 hown hK hV (by omega) hH (by decide) (by decide) rfl (((wst_f (by decide)).trans ((wst_f (by decide)).trans (wst_f (by decide)))).trans e4) k59 dX2_charge_45 ?_
    refine lv_iconst (v := 3) hx hb dX2_charge_48 (by decide) ?_
    refine lv_icmp_ge (tgt := 112) hx hb dX2_charge_49 (by decide) (fun c49 => ?_) (fun c49 => ?_)
    · skip
      replace c49 := (nI_leI (a := 3) (b := km) (by omega) (by omega)).mp c49
      have ec : chgF nP h e τ = chg1 h e τ := by rw [chgF, if_neg (fun q => by have q2 := q.2; rw [e4] at q2; have q3 := (nI_ltI (a := km) (b := 3) (by omega) (by omega)).mp q2; omega)]
      refine lv_iload_n hx hb dX2_charge_112 rfl (lv_at hl 0 rfl) ?_
      exact xI hx hb hr hlocks (by rw [ec]; exact hV) hS rfl dX2_charge_113
    · skip
      replace c49 : ¬ (3 ≤ km) := fun q => c49 ((nI_leI (a := 3) (b := km) (by omega) (by omega)).mpr q)
      have c49p : paid h e τ < e ∧ τ 4 h < 3 := ⟨c41p, by rw [e4]; exact (nI_ltI (a := km) (b := 3) (by omega) (by omega)).mpr (by omega)⟩
      have hv4 : Inv nH nP (wst (chg1 h e τ) 4 h (nI (km + 1))) := hv.oChg1.set4 (by omega)
      refine lv_aload_n hx hb dX2_charge_52 rfl (lv_at hl 2 rfl) ?_
      refine lv_dup hx hb dX2_charge_53 rfl ?_
      refine rH 5 (f := 4) (h := h) (v := nI km) hx hb hts hi0 hown hK hV (by omega) hH (by decide) (by decide) rfl (((wst_f (by decide)).trans ((wst_f (by decide)).trans (wst_f (by decide)))).trans e4) k59 dX2_charge_54 ?_
      refine lv_iconst (v := 1) hx hb dX2_charge_57 (by decide) ?_
      refine lv_iadd hx hb dX2_charge_58 ?_
      refine lv_topi (fun y2 ey2 => ?_)
      obtain rfl : y2 = nI (km + 1) := ey2.trans (nI_add km 1)
      refine wH 5 (f := 4) (h := h) hx hb hts hi0 hown hK hI hV hS (by omega) hH (by decide) (by decide) rfl k59 dX2_charge_59 (fun H locs hV hS => ?_)
      refine lv_aload_n hx hb dX2_charge_62 rfl (lv_at hl 2 rfl) ?_
      refine rH 5 (f := 4) (h := h) (v := nI (km + 1)) hx hb hts hi0 hown hK hV (by omega) hH (by decide) (by decide) rfl wst_s k59 dX2_charge_63 ?_
      refine lv_iconst (v := 3) hx hb dX2_charge_66 (by decide) ?_
      refine lv_icmp_ne (tgt := 112) hx hb dX2_charge_67 (by decide) (fun c67 => ?_) (fun c67 => ?_)
      · skip
        replace c67 : ¬ (km + 1 = 3) := fun q => c67 ((nI_eq (a := km + 1) (b := 3) (by omega) (by omega)).mpr q)
        have ec : chgF nP h e τ = wst (chg1 h e τ) 4 h (nI (km + 1)) := by rw [chgF, if_pos c49p, e4, nI_1, if_neg (show ¬ nI (km + 1) = 3 from fun q => c67 ((nI_eq (a := km + 1) (b := 3) (by omega) (by omega)).mp q))]
        refine lv_iload_n hx hb dX2_charge_112 rfl (lv_at hl 0 rfl) ?_
        exact xI hx hb hr hlocks (by rw [ec]; exact hV) hS rfl dX2_charge_113
      · skip
        replace c67 := (nI_eq (a := km + 1) (b := 3) (by omega) (by omega)).mp c67
        have ec : chgF nP h e τ = itn (strkH h) nP (wst (chg1 h e τ) 4 h (nI (km + 1))) := by rw [chgF, if_pos c49p, e4, nI_1, if_pos (show nI (km + 1) = 3 from (nI_eq (a := km + 1) (b := 3) (by omega) (by omega)).mpr c67)]
        refine lv_iconst (v := nI 0) hx hb dX2_charge_70 (by decide) ?_
        refine lv_istore (lv' := [(4, .int (nI 0)), (3, .int (paid h e τ)), (0, .ref (ad 0)), (1, .ref (ad (3 + h))), (2, .int e)]) hx hb dX2_charge_71 hl (by decide) rfl (fun ls hl => ?_)
        refine W_up nP (fun i H locs ls => CVm G ad nH nP δ (itn (strkH h) i (wst (chg1 h e τ) 4 h (nI (km + 1)))) H ∧ va_S (AV ad 19) s.heap H locs ∧ lv_has ls 5 [(0, .ref (ad 0)), (1, .ref (ad (3 + h))), (2, .int e), (3, .int (paid h e τ)), (4, .int (nI i))]) ?_ 0 (by omega) _ _ _ ⟨hV, hS, lv_sub hl [2, 3, 4, 1, 0] rfl⟩
        intro i H locs ls hi ⟨hV, hS, hl⟩ ih
        have hvi : Inv nH nP (itn (strkH h) i (wst (chg1 h e τ) 4 h (nI (km + 1)))) := itn_inv hv4 (fun k hk x hx => hx.oStrkH (by omega))
        refine lv_iload hx hb dX2_charge_73 (lv_at hl 4 rfl) ?_
        refine lv_aload_n hx hb dX2_charge_75 rfl (lv_at hl 0 rfl) ?_
        refine rV 3 (f := 52) (v := nI nP) hx hb hts hi2 hown hK hV (by decide) (by decide) rfl hvi.2.2.2.1 k31 dX2_charge_76 ?_
        refine lv_icmp_ge (tgt := 112) hx hb dX2_charge_79 (by decide) (fun c79 => ?_) (fun c79 => ?_)
        · skip
          replace c79 := (nI_leI (a := nP) (b := i) (by omega) (by omega)).mp c79
          obtain rfl : nP = i := by omega
          refine lv_iload_n hx hb dX2_charge_112 rfl (lv_at hl 3 rfl) ?_
          exact xI hx hb hr hlocks (by rw [ec]; exact hV) hS rfl dX2_charge_113
        · skip
          replace c79 : ¬ (nP ≤ i) := fun q => c79 ((nI_leI (a := nP) (b := i) (by omega) (by omega)).mpr q)
          refine lv_aload_n hx hb dX2_charge_82 rfl (lv_at hl 0 rfl) ?_
          refine rVp hx hb hts hi2 hown hK hV k19 dX2_charge_83 ?_
          refine lv_iload hx hb dX2_charge_86 (lv_at hl 4 rfl) ?_
          refine rPA (h := i) hx hb hK hV (by omega) dX2_charge_88 ?_
          refine lv_aload_n hx hb dX2_charge_89 rfl (lv_at hl 0 rfl) ?_
          refine rVp hx hb hts hi2 hown hK hV k19 dX2_charge_90 ?_
          refine lv_iload hx hb dX2_charge_93 (lv_at hl 4 rfl) ?_
          refine rPA (h := i) hx hb hK hV (by omega) dX2_charge_95 ?_
          refine lv_aload_n hx hb dX2_charge_96 rfl (lv_at hl 1 rfl) ?_
          refine rHn (h := h) hx hb hts hi0 hown hK hV (by omega) k62 dX2_charge_97 ?_
          refine kI (va_runV (As := [.int (nI h)]) (rest := [.ref (ad (13 + i))]) ⟨hx, hb, hml, hown, hts⟩ (c_X1_placeOf l G ad hI nH nP hH hP δ (itn (strkH h) i (wst (chg1 h e τ) 4 h (nI (km + 1)))) i (sz (itn (strkH h) i (wst (chg1 h e τ) 4 h (nI (km + 1)))) i) (nI h) (by omega) (hvi.2.2.2.2.2 i (by omega)).2.2.2.2.1.2 (hvi.2.2.2.2.2 i (by omega)).2.2.2.2.1.1) (cwV 1 hts gX2_charge_X1_placeOf rfl rfl rfl (by decide +kernel) ⟨Nat.le_of_ble_eq_true rfl, Nat.le_of_ble_eq_true rfl⟩) ⟨Pc0.blind, va_recv hK (va_P1 (hV.2.2.2.2.1 i (by omega))) (ci := 1) (q0 := 0) rfl rfl, Pc0.pre hV hK⟩ rfl rfl hl.1 rfl (lv_room (Nat.le_of_ble_eq_true rfl)) dX2_charge_100 ⟨Nat.zero_le _, Nat.zero_le _⟩) hS (fun _ _ q => q) (fun _ q => q) (fun H locs hV _ _ hS => ?_)
          by_cases hg : plc ((itn (strkH h) i (wst (chg1 h e τ) 4 h (nI (km + 1)))) (40 + i)) (nI h) (sz (itn (strkH h) i (wst (chg1 h e τ) 4 h (nI (km + 1)))) i) < sz (itn (strkH h) i (wst (chg1 h e τ) 4 h (nI (km + 1)))) i
          · skip
            refine lv_topi (fun yy eyy => ?_)
            obtain rfl : yy = nI (plc ((itn (strkH h) i (wst (chg1 h e τ) 4 h (nI (km + 1)))) (40 + i)) (nI h) (sz (itn (strkH h) i (wst (chg1 h e τ) 4 h (nI (km + 1)))) i)) := eyy.trans (if_pos hg)
            refine kV (va_runV (As := [.int (nI (plc ((itn (strkH h) i (wst (chg1 h e τ) 4 h (nI (km + 1)))) (40 + i)) (nI h) (sz (itn (strkH h) i (wst (chg1 h e τ) 4 h (nI (km + 1)))) i)))]) (rest := []) ⟨hx, hb, hml, hown, hts⟩ (c_X1_strikeOff l G ad hI nH nP hH hP δ (itn (strkH h) i (wst (chg1 h e τ) 4 h (nI (km + 1)))) i (sz (itn (strkH h) i (wst (chg1 h e τ) 4 h (nI (km + 1)))) i) (tn (itn (strkH h) i (wst (chg1 h e τ) 4 h (nI (km + 1)))) i) (plc ((itn (strkH h) i (wst (chg1 h e τ) 4 h (nI (km + 1)))) (40 + i)) (nI h) (sz (itn (strkH h) i (wst (chg1 h e τ) 4 h (nI (km + 1)))) i)) (by omega) (hvi.2.2.2.2.2 i (by omega)).2.2.2.2.1.2 (hvi.2.2.2.2.2 i (by omega)).2.2.2.2.1.1 (hvi.2.2.2.2.2 i (by omega)).2.2.2.2.2.1.1 (by have h8 := (hvi.2.2.2.2.2 i (by omega)).2.2.2.2.2.1.2; have h9 := (hvi.2.2.2.2.2 i (by omega)).2.2.2.2.1.1; omega) hg) (cwV 1 hts gX2_charge_X1_strikeOff rfl rfl rfl (by decide +kernel) ⟨Nat.le_of_ble_eq_true rfl, Nat.le_of_ble_eq_true rfl⟩) ⟨Pc0.blind, va_recv hK (va_P1 (hV.2.2.2.2.1 i (by omega))) (ci := 1) (q0 := 0) rfl rfl, Pc0.pre hV hK⟩ rfl rfl hl.1 rfl (lv_room (Nat.le_of_ble_eq_true rfl)) dX2_charge_103 ⟨Nat.zero_le _, Nat.zero_le _⟩) hS (fun _ _ q => q) (fun _ q => q) (fun H locs hV _ _ hS => ?_)
            refine lv_iinc (k := 4) (v := nI (i + 1)) (lv' := [(4, .int (nI (i + 1))), (0, .ref (ad 0)), (1, .ref (ad (3 + h))), (2, .int e), (3, .int (paid h e τ))]) hx hb dX2_charge_106 hl rfl (nI_add i 1) (by decide) rfl (fun ls hl => ?_)
            refine lv_goto (tgt := 73) hx hb dX2_charge_109 (by decide) ?_
            exact ih (by omega) _ _ _ ⟨(by rw [itn_s, strkH, if_pos hg]; exact hV), hS, lv_sub hl [1, 2, 3, 4, 0] rfl⟩
          · skip
            refine lv_topi (fun yy eyy => ?_)
            obtain rfl : yy = -1 := eyy.trans (if_neg hg)
            refine kV (va_runV (As := [.int (-1)]) (rest := []) ⟨hx, hb, hml, hown, hts⟩ (c_X1_strikeOff0 l G ad hI nH nP hH hP δ (itn (strkH h) i (wst (chg1 h e τ) 4 h (nI (km + 1)))) i (sz (itn (strkH h) i (wst (chg1 h e τ) 4 h (nI (km + 1)))) i) (by omega) (hvi.2.2.2.2.2 i (by omega)).2.2.2.2.1.2 (hvi.2.2.2.2.2 i (by omega)).2.2.2.2.1.1) (cwV 1 hts gX2_charge_X1_strikeOff rfl rfl rfl (by decide +kernel) ⟨Nat.le_of_ble_eq_true rfl, Nat.le_of_ble_eq_true rfl⟩) ⟨Pc0.blind, va_recv hK (va_P1 (hV.2.2.2.2.1 i (by omega))) (ci := 1) (q0 := 0) rfl rfl, Pc0.pre hV hK⟩ rfl rfl hl.1 rfl (lv_room (Nat.le_of_ble_eq_true rfl)) dX2_charge_103 ⟨Nat.zero_le _, Nat.zero_le _⟩) hS (fun _ _ q => q) (fun _ q => q) (fun H locs hV _ _ hS => ?_)
            refine lv_iinc (k := 4) (v := nI (i + 1)) (lv' := [(4, .int (nI (i + 1))), (0, .ref (ad 0)), (1, .ref (ad (3 + h))), (2, .int e), (3, .int (paid h e τ))]) hx hb dX2_charge_106 hl rfl (nI_add i 1) (by decide) rfl (fun ls hl => ?_)
            refine lv_goto (tgt := 73) hx hb dX2_charge_109 (by decide) ?_
            exact ih (by omega) _ _ _ ⟨(by rw [itn_s, strkH, if_neg hg]; exact hV), hS, lv_sub hl [1, 2, 3, 4, 0] rfl⟩

set_option maxHeartbeats 4000000 in
set_option maxRecDepth 100000 in
theorem c_X2_takeTurn (l : Launch) (G : wG) (ad : Nat → Nat) (hI : adInj ad 19) (nH nP : Nat) (hH : nH ≤ 10) (hP : nP ≤ 3) (δ τ : wS) (p : Nat) (hv : Inv nH nP τ) (hp : p < nP) : Met l yX2_takeTurn wsX2_takeTurn ({ frames := 1, cells := 0, slots := 0, locals := 21 } : Room) (Pc0 G [.ref (ad 0), .ref (ad (13 + p))] (CVm G ad nH nP δ τ)) (Qi0 (if dtyK τ p < sz τ p then nI (dtyH τ p) else -1) (CVm G ad nH nP δ (if dtyK τ p < sz τ p then trnF p τ else τ)) (AV ad 19)) 0 0 (AV ad 19) := by
  refine Met.ofW (cc := cX2_takeTurn) (maxL := 5) (ret := (some .int)) (by decide) rfl ?_
  intro pg ev s mid args below meth cd s₁ B hml hv0
  obtain ⟨rfl, hV, hK⟩ := hv0
  have hx := B.exec
  have hb := B.bytes
  have hr := B.returns
  have hts := atoms_spec (ws := wsX2_takeTurn) B.pre
  have hown : s.vm.findClass RX2 = some mid.cls := findClass_of_methodNamed B.named
  have hlocks := B.notSynchronized
  have hi1 : ∀ w ∈ wsX10, w ∈ wsX2_takeTurn := by decide +kernel
  have hi2 : ∀ w ∈ wsX20, w ∈ wsX2_takeTurn := by decide +kernel
  have k132 := hts (.fieldLink RX2 132 "PumpRoster$Pump" "turn" "I") (by decide +kernel)
  have k135 := hts (.fieldLink RX2 135 "PumpRoster$Pump" "rosterSize" "I") (by decide +kernel)
  have k11 := hts (.fieldLink RX2 11 "PumpRoster$Village" "houses" "[LPumpRoster$House;") (by decide +kernel)
  have hS : va_S (AV ad 19) s.heap s.heap [] := va_S.rf
  have hl := lv_entry ([.ref (ad 0), .ref (ad (13 + p))]) (n := 5) (Nat.le_of_ble_eq_true rfl)
  rw [lg_entry_eq]
  generalize (lg_sl ([.ref (ad 0), .ref (ad (13 + p))]) ++ List.replicate (5 - (lg_sl ([.ref (ad 0), .ref (ad (13 + p))])).length) Slot.unset).toArray = ls at hl ⊢
  have hl : lv_has ls 5 [(0, .ref (ad 0)), (1, .ref (ad (13 + p)))] := hl
  refine lv_aload_n hx hb dX2_takeTurn_0 rfl (lv_at hl 1 rfl) ?_
  refine rP 8 (f := 27) (h := p) (v := nI ((tn τ p + 0) % sz τ p)) hx hb hts hi1 hown hK hV (by omega) hP (by decide) (by decide) rfl (et27 hv hp) k132 dX2_takeTurn_1 ?_
  refine lv_istore_n (lv' := [(2, .int (nI ((tn τ p + 0) % sz τ p))), (0, .ref (ad 0)), (1, .ref (ad (13 + p)))]) hx hb dX2_takeTurn_4 rfl hl (by decide) rfl (fun ls hl => ?_)
  refine lv_iconst (v := nI 0) hx hb dX2_takeTurn_5 (by decide) ?_
  refine lv_istore_n (lv' := [(3, .int (nI 0)), (2, .int (nI ((tn τ p + 0) % sz τ p))), (0, .ref (ad 0)), (1, .ref (ad (13 + p)))]) hx hb dX2_takeTurn_6 rfl hl (by decide) rfl (fun ls hl => ?_)
  refine W_up (sz τ p) (fun i H locs ls => CVm G ad nH nP δ τ H ∧ va_S (AV ad 19) s.heap H locs ∧ lv_has ls 5 [(0, .ref (ad 0)), (1, .ref (ad (13 + p))), (2, .int (nI ((tn τ p + i) % sz τ p))), (3, .int (nI i))] ∧ (∀ j, j < i → ¬ τ 6 (τ (40 + p) ((tn τ p + j) % sz τ p)).toNatClampNeg = 0)) ?_ 0 (by omega) _ _ _ ⟨hV, hS, lv_sub hl [2, 3, 1, 0] rfl, (fun j hj => absurd hj (by omega))⟩
  intro i H locs ls hi ⟨hV, hS, hl, hx0⟩ ih
  have hn10 := (hv.2.2.2.2.2 p (by omega)).2.2.2.2.1.1
  refine lv_iload_n hx hb dX2_takeTurn_7 rfl (lv_at hl 3 rfl) ?_
  refine lv_aload_n hx hb dX2_takeTurn_8 rfl (lv_at hl 1 rfl) ?_
  refine rP 7 (f := 26) (h := p) (v := nI (sz τ p)) hx hb hts hi1 hown hK hV (by omega) hP (by decide) (by decide) rfl (hv.2.2.2.2.2 p (by omega)).2.2.2.2.1.2 k135 dX2_takeTurn_9 ?_
  refine lv_icmp_ge (tgt := 64) hx hb dX2_takeTurn_12 (by decide) (fun c12 => ?_) (fun c12 => ?_)
  · skip
    replace c12 := (nI_leI (a := sz τ p) (b := i) (by omega) (by omega)).mp c12
    obtain rfl : sz τ p = i := by omega
    have ek : dtyK τ p = sz τ p := fnd_none (fun j hj => by simpa using hx0 j hj)
    refine lv_iconst (v := (-1)) hx hb dX2_takeTurn_64 (by decide) ?_
    exact xI hx hb hr hlocks (by rw [if_neg (by rw [ek]; omega)]; exact hV) hS (by rw [if_neg (by rw [ek]; omega)]) dX2_takeTurn_65
  · skip
    replace c12 : ¬ (sz τ p ≤ i) := fun q => c12 ((nI_leI (a := sz τ p) (b := i) (by omega) (by omega)).mpr q)
    have hm : (tn τ p + i) % sz τ p < sz τ p := Nat.mod_lt _ (by omega)
    refine lv_aload_n hx hb dX2_takeTurn_15 rfl (lv_at hl 1 rfl) ?_
    refine lv_iload_n hx hb dX2_takeTurn_16 rfl (lv_at hl 2 rfl) ?_
    refine kI (va_runV (As := [.int (nI ((tn τ p + i) % sz τ p))]) (rest := []) ⟨hx, hb, hml, hown, hts⟩ (c_X1_houseAt l G ad hI nH nP hH hP δ τ p (sz τ p) ((tn τ p + i) % sz τ p) (by omega) (hv.2.2.2.2.2 p (by omega)).2.2.2.2.1.2 (hv.2.2.2.2.2 p (by omega)).2.2.2.2.1.1 hm) (cwV 1 hts gX2_takeTurn_X1_houseAt rfl rfl rfl (by decide +kernel) ⟨Nat.le_of_ble_eq_true rfl, Nat.le_of_ble_eq_true rfl⟩) ⟨Pc0.blind, va_recv hK (va_P1 (hV.2.2.2.2.1 p (by omega))) (ci := 1) (q0 := 0) rfl rfl, Pc0.pre hV hK⟩ rfl rfl hl.1 rfl (lv_room (Nat.le_of_ble_eq_true rfl)) dX2_takeTurn_17 ⟨Nat.zero_le _, Nat.zero_le _⟩) hS (fun _ _ q => q) (fun _ q => q) (fun H locs hV _ _ hS => ?_)
    obtain ⟨hh, hhl, ehh⟩ := (hv.2.2.2.2.2 p (by omega)).2.2.2.2.2.2.1 ((tn τ p + i) % sz τ p) hm
    refine lv_topi (fun yy eyy => ?_)
    obtain rfl : yy = nI hh := eyy.trans ehh
    refine lv_istore (lv' := [(4, .int (nI hh)), (0, .ref (ad 0)), (1, .ref (ad (13 + p))), (2, .int (nI ((tn τ p + i) % sz τ p))), (3, .int (nI i))]) hx hb dX2_takeTurn_20 hl (by decide) rfl (fun ls hl => ?_)
    refine lv_aload_n hx hb dX2_takeTurn_22 rfl (lv_at hl 2 rfl) ?_
    refine lv_iload_n hx hb dX2_takeTurn_23 rfl (lv_at hl 3 rfl) ?_
    refine kI (va_runV (As := [.int (nI ((tn τ p + i) % sz τ p))]) (rest := []) ⟨hx, hb, hml, hown, hts⟩ (c_X1_placeBehind l G ad hI nH nP hH hP δ τ p (sz τ p) ((tn τ p + i) % sz τ p) (by omega) (hv.2.2.2.2.2 p (by omega)).2.2.2.2.1.2 (hv.2.2.2.2.2 p (by omega)).2.2.2.2.1.1 hm) (cwV 1 hts gX2_takeTurn_X1_placeBehind rfl rfl rfl (by decide +kernel) ⟨Nat.le_of_ble_eq_true rfl, Nat.le_of_ble_eq_true rfl⟩) ⟨Pc0.blind, va_recv hK (va_P1 (hV.2.2.2.2.1 p (by omega))) (ci := 1) (q0 := 0) rfl rfl, Pc0.pre hV hK⟩ rfl rfl hl.1 rfl (lv_room (Nat.le_of_ble_eq_true rfl)) dX2_takeTurn_24 ⟨Nat.zero_le _, Nat.zero_le _⟩) hS (fun _ _ q => q) (fun _ q => q) (fun H locs hV _ _ hS => ?_)
    refine lv_topi (fun yy eyy => ?_)
    obtain rfl : yy = nI ((tn τ p + i + 1) % sz τ p) := eyy.trans (by rw [Nat.mod_add_mod])
    refine lv_istore_n (lv' := [(2, .int (nI ((tn τ p + i + 1) % sz τ p))), (4, .int (nI hh)), (0, .ref (ad 0)), (1, .ref (ad (13 + p))), (3, .int (nI i))]) hx hb dX2_takeTurn_27 rfl hl (by decide) rfl (fun ls hl => ?_)
    refine lv_aload_n hx hb dX2_takeTurn_28 rfl (lv_at hl 2 rfl) ?_
    refine lv_iload hx hb dX2_takeTurn_29 (lv_at hl 1 rfl) ?_
    refine kI (va_runV (As := [.int (nI hh)]) (rest := []) ⟨hx, hb, hml, hown, hts⟩ (c_X2_isHouse l G ad hI nH nP hH hP δ τ (nI hh) hv.2.2.1) (cwV 1 hts gX2_takeTurn_X2_isHouse rfl rfl rfl (by decide +kernel) ⟨Nat.le_of_ble_eq_true rfl, Nat.le_of_ble_eq_true rfl⟩) ⟨Pc0.blind, va_recv hK (va_P1 (hV.1)) (ci := 2) (q0 := 0) rfl rfl, Pc0.pre hV hK⟩ rfl rfl hl.1 rfl (lv_room (Nat.le_of_ble_eq_true rfl)) dX2_takeTurn_31 ⟨Nat.zero_le _, Nat.zero_le _⟩) hS (fun _ _ q => q) (fun _ q => q) (fun H locs hV _ _ hS => ?_)
    refine lv_topi (fun yy eyy => ?_)
    obtain rfl : yy = 1 := eyy.trans (if_neg (fun q => q.elim (nI_pos (by omega)) (nI_ge (by omega) (by omega))))
    refine lv_if_eq (tgt := 58) hx hb dX2_takeTurn_34 (by decide) (fun c34 => ?_) (fun c34 => ?_)
    · skip
      exact absurd c34 (by decide)
    · skip
      refine lv_aload_n hx hb dX2_takeTurn_37 rfl (lv_at hl 2 rfl) ?_
      refine rVh hx hb hts hi2 hown hK hV k11 dX2_takeTurn_38 ?_
      refine lv_iload hx hb dX2_takeTurn_41 (lv_at hl 1 rfl) ?_
      refine rHA (h := hh) hx hb hK hV (by omega) dX2_takeTurn_43 ?_
      refine kI (va_runV (As := []) (rest := []) ⟨hx, hb, hml, hown, hts⟩ (c_X0_isThere l G ad hI nH nP hH hP δ τ hh (by omega)) (cwV 0 hts gX2_takeTurn_X0_isThere rfl rfl rfl (by decide +kernel) ⟨Nat.le_of_ble_eq_true rfl, Nat.le_of_ble_eq_true rfl⟩) ⟨Pc0.blind, va_recv hK (va_P1 (hV.2.2.2.1 hh (by omega))) (ci := 0) (q0 := 0) rfl rfl, Pc0.pre hV hK⟩ rfl rfl hl.1 rfl (lv_room (Nat.le_of_ble_eq_true rfl)) dX2_takeTurn_44 ⟨Nat.zero_le _, Nat.zero_le _⟩) hS (fun _ _ q => q) (fun _ q => q) (fun H locs hV _ _ hS => ?_)
      refine lv_if_eq (tgt := 58) hx hb dX2_takeTurn_47 (by decide) (fun c47 => ?_) (fun c47 => ?_)
      · skip
        replace c47 := b0 c47
        refine lv_iinc (k := 4) (v := nI (i + 1)) (lv' := [(3, .int (nI (i + 1))), (2, .int (nI ((tn τ p + i + 1) % sz τ p))), (4, .int (nI hh)), (0, .ref (ad 0)), (1, .ref (ad (13 + p)))]) hx hb dX2_takeTurn_58 hl rfl (nI_add i 1) (by decide) rfl (fun ls hl => ?_)
        refine lv_goto (tgt := 7) hx hb dX2_takeTurn_61 (by decide) ?_
        exact ih (by omega) _ _ _ ⟨hV, hS, lv_sub hl [3, 4, 1, 0] rfl, (fun j hj => by
                  rcases Nat.lt_or_ge j i with q | q
                  · exact hx0 j q
                  · have e : j = i := by omega
                    rw [e, ehh, nI_clamp (by omega)]; exact c47)⟩
      · skip
        replace c47 := b1 c47
        have ek : dtyK τ p = i := fnd_hit (by simp only [ehh, nI_clamp (show hh < 2 ^ 31 by omega)]; simpa using c47) (fun j hj => by simpa using hx0 j hj) (by omega)
        have eP : dtyP τ p = (tn τ p + i) % sz τ p := by unfold dtyP; rw [ek]
        have eH : nI (dtyH τ p) = nI hh := by unfold dtyH; rw [eP, ehh, nI_clamp (by omega)]
        refine lv_aload_n hx hb dX2_takeTurn_50 rfl (lv_at hl 3 rfl) ?_
        refine lv_iload_n hx hb dX2_takeTurn_51 rfl (lv_at hl 0 rfl) ?_
        refine wP 8 (f := 27) (h := p) hx hb hts hi1 hown hK hI hV hS (by omega) hP (by decide) (by decide) rfl rfl rfl k132 dX2_takeTurn_52 (fun H locs hV hS => ?_)
        refine lv_iload hx hb dX2_takeTurn_55 (lv_at hl 1 rfl) ?_
        exact xI hx hb hr hlocks (by rw [if_pos (show dtyK τ p < sz τ p by omega), trnF, eP, Nat.mod_add_mod]; exact hV) hS (by rw [if_pos (show dtyK τ p < sz τ p by omega), eH]) dX2_takeTurn_57

set_option maxHeartbeats 4000000 in
set_option maxRecDepth 100000 in
theorem c_X2_handOnKey0 (l : Launch) (G : wG) (ad : Nat → Nat) (hI : adInj ad 19) (nH nP : Nat) (hH : nH ≤ 10) (hP : nP ≤ 3) (δ τ : wS) (p d : Nat) (hv : Inv nH nP τ) (hp : p < nP) (hd : d < nH) (e25 : τ 25 p = -1) : Met l yX2_handOnKey wsX2_handOnKey ({ frames := 2, cells := 0, slots := 0, locals := 46 } : Room) (Pc0 G [.ref (ad 0), .ref (ad (13 + p)), .int (nI d)] (CVm G ad nH nP δ τ)) (Qi0 ((hndF nP p d τ).2) (CVm G ad nH nP δ ((hndF nP p d τ).1)) (AV ad 19)) 0 0 (AV ad 19) := by
  refine Met.ofW (cc := cX2_handOnKey) (maxL := 4) (ret := (some .boolean)) (by decide) rfl ?_
  intro pg ev s mid args below meth cd s₁ B hml hv0
  obtain ⟨rfl, hV, hK⟩ := hv0
  have hx := B.exec
  have hb := B.bytes
  have hr := B.returns
  have hts := atoms_spec (ws := wsX2_handOnKey) B.pre
  have hown : s.vm.findClass RX2 = some mid.cls := findClass_of_methodNamed B.named
  have hlocks := B.notSynchronized
  have hi1 : ∀ w ∈ wsX10, w ∈ wsX2_handOnKey := by decide +kernel
  have k123 := hts (.fieldLink RX2 123 "PumpRoster$Pump" "keyHolder" "I") (by decide +kernel)
  have hS : va_S (AV ad 19) s.heap s.heap [] := va_S.rf
  have hl := lv_entry ([.ref (ad 0), .ref (ad (13 + p)), .int (nI d)]) (n := 4) (Nat.le_of_ble_eq_true rfl)
  rw [lg_entry_eq]
  generalize (lg_sl ([.ref (ad 0), .ref (ad (13 + p)), .int (nI d)]) ++ List.replicate (4 - (lg_sl ([.ref (ad 0), .ref (ad (13 + p)), .int (nI d)])).length) Slot.unset).toArray = ls at hl ⊢
  have hl : lv_has ls 4 [(0, .ref (ad 0)), (1, .ref (ad (13 + p))), (2, .int (nI d))] := hl
  refine lv_aload_n hx hb dX2_handOnKey_0 rfl (lv_at hl 1 rfl) ?_
  refine rP 5 (f := 25) (h := p) (v := (-1)) hx hb hts hi1 hown hK hV (by omega) hP (by decide) (by decide) rfl e25 k123 dX2_handOnKey_1 ?_
  refine lv_iload_n hx hb dX2_handOnKey_4 rfl (lv_at hl 2 rfl) ?_
  refine lv_icmp_eq (tgt := 19) hx hb dX2_handOnKey_5 (by decide) (fun c5 => ?_) (fun c5 => ?_)
  · skip
    refine lv_iconst (v := 1) hx hb dX2_handOnKey_19 (by decide) ?_
    exact xZ hx hb hr hlocks (by rw [hndF, if_pos (Or.inl e25)]; exact hV) hS (by rw [hndF, if_pos (Or.inl e25)]) rfl dX2_handOnKey_20
  · skip
    refine lv_aload_n hx hb dX2_handOnKey_8 rfl (lv_at hl 0 rfl) ?_
    refine lv_aload_n hx hb dX2_handOnKey_9 rfl (lv_at hl 1 rfl) ?_
    refine rP 5 (f := 25) (h := p) (v := (-1)) hx hb hts hi1 hown hK hV (by omega) hP (by decide) (by decide) rfl e25 k123 dX2_handOnKey_10 ?_
    refine kI (va_runV (As := [.int (-1)]) (rest := []) ⟨hx, hb, hml, hown, hts⟩ (c_X2_isHouse l G ad hI nH nP hH hP δ τ (-1) hv.2.2.1) (cwV 1 hts gX2_handOnKey_X2_isHouse rfl rfl rfl (by decide +kernel) ⟨Nat.le_of_ble_eq_true rfl, Nat.le_of_ble_eq_true rfl⟩) ⟨Pc0.blind, va_recv hK (va_P1 (hV.1)) (ci := 2) (q0 := 0) rfl rfl, Pc0.pre hV hK⟩ rfl rfl hl.1 rfl (lv_room (Nat.le_of_ble_eq_true rfl)) dX2_handOnKey_13 ⟨Nat.zero_le _, Nat.zero_le _⟩) hS (fun _ _ q => q) (fun _ q => q) (fun H locs hV _ _ hS => ?_)
    refine lv_topi (fun yy eyy => ?_)
    obtain rfl : yy = 0 := eyy.trans (if_pos (Or.inl (by decide)))
    refine lv_if_ne (tgt := 21) hx hb dX2_handOnKey_16 (by decide) (fun c16 => ?_) (fun c16 => ?_)
    · skip
      exact absurd rfl c16
    · skip
      refine lv_iconst (v := 1) hx hb dX2_handOnKey_19 (by decide) ?_
      exact xZ hx hb hr hlocks (by rw [hndF, if_pos (Or.inl e25)]; exact hV) hS (by rw [hndF, if_pos (Or.inl e25)]) rfl dX2_handOnKey_20

set_option maxHeartbeats 4000000 in
set_option maxRecDepth 100000 in
theorem c_X2_handOnKey1 (l : Launch) (G : wG) (ad : Nat → Nat) (hI : adInj ad 19) (nH nP : Nat) (hH : nH ≤ 10) (hP : nP ≤ 3) (δ τ : wS) (p d k : Nat) (hv : Inv nH nP τ) (hp : p < nP) (hd : d < nH) (hk : k < nH) (e25 : τ 25 p = nI k) : Met l yX2_handOnKey wsX2_handOnKey ({ frames := 2, cells := 0, slots := 0, locals := 46 } : Room) (Pc0 G [.ref (ad 0), .ref (ad (13 + p)), .int (nI d)] (CVm G ad nH nP δ τ)) (Qi0 ((hndF nP p d τ).2) (CVm G ad nH nP δ ((hndF nP p d τ).1)) (AV ad 19)) 0 0 (AV ad 19) := by
  refine Met.ofW (cc := cX2_handOnKey) (maxL := 4) (ret := (some .boolean)) (by decide) rfl ?_
  intro pg ev s mid args below meth cd s₁ B hml hv0
  obtain ⟨rfl, hV, hK⟩ := hv0
  have hx := B.exec
  have hb := B.bytes
  have hr := B.returns
  have hts := atoms_spec (ws := wsX2_handOnKey) B.pre
  have hown : s.vm.findClass RX2 = some mid.cls := findClass_of_methodNamed B.named
  have hlocks := B.notSynchronized
  have hi0 : ∀ w ∈ wsX00, w ∈ wsX2_handOnKey := by decide +kernel
  have hi1 : ∀ w ∈ wsX10, w ∈ wsX2_handOnKey := by decide +kernel
  have hi2 : ∀ w ∈ wsX20, w ∈ wsX2_handOnKey := by decide +kernel
  have k123 := hts (.fieldLink RX2 123 "PumpRoster$Pump" "keyHolder" "I") (by decide +kernel)
  have k11 := hts (.fieldLink RX2 11 "PumpRoster$Village" "houses" "[LPumpRoster$House;") (by decide +kernel)
  have k144 := hts (.fieldLink RX2 144 "PumpRoster$House" "keysToHandOn" "I") (by decide +kernel)
  have hS : va_S (AV ad 19) s.heap s.heap [] := va_S.rf
  have hl := lv_entry ([.ref (ad 0), .ref (ad (13 + p)), .int (nI d)]) (n := 4) (Nat.le_of_ble_eq_true rfl)
  rw [lg_entry_eq]
  generalize (lg_sl ([.ref (ad 0), .ref (ad (13 + p)), .int (nI d)]) ++ List.replicate (4 - (lg_sl ([.ref (ad 0), .ref (ad (13 + p)), .int (nI d)])).length) Slot.unset).toArray = ls at hl ⊢
  have hl : lv_has ls 4 [(0, .ref (ad 0)), (1, .ref (ad (13 + p))), (2, .int (nI d))] := hl
  refine lv_aload_n hx hb dX2_handOnKey_0 rfl (lv_at hl 1 rfl) ?_
  refine rP 5 (f := 25) (h := p) (v := nI k) hx hb hts hi1 hown hK hV (by omega) hP (by decide) (by decide) rfl e25 k123 dX2_handOnKey_1 ?_
  refine lv_iload_n hx hb dX2_handOnKey_4 rfl (lv_at hl 2 rfl) ?_
  refine lv_icmp_eq (tgt := 19) hx hb dX2_handOnKey_5 (by decide) (fun c5 => ?_) (fun c5 => ?_)
  · skip
    replace c5 := (nI_eq (a := k) (b := d) (by omega) (by omega)).mp c5
    have eh : hndF nP p d τ = (τ, 1) := by rw [hndF, if_pos (Or.inr (by rw [e25, c5]))]
    refine lv_iconst (v := 1) hx hb dX2_handOnKey_19 (by decide) ?_
    exact xZ hx hb hr hlocks (by rw [eh]; exact hV) hS (by rw [eh]) rfl dX2_handOnKey_20
  · skip
    replace c5 : ¬ (k = d) := fun q => c5 ((nI_eq (a := k) (b := d) (by omega) (by omega)).mpr q)
    have eN : ¬ (τ 25 p = -1 ∨ τ 25 p = nI d) := fun q => q.elim (fun q => nI_nm1 (by omega) (e25.symm.trans q)) (fun q => c5 ((nI_eq (by omega) (by omega)).mp (e25.symm.trans q)))
    refine lv_aload_n hx hb dX2_handOnKey_8 rfl (lv_at hl 0 rfl) ?_
    refine lv_aload_n hx hb dX2_handOnKey_9 rfl (lv_at hl 1 rfl) ?_
    refine rP 5 (f := 25) (h := p) (v := nI k) hx hb hts hi1 hown hK hV (by omega) hP (by decide) (by decide) rfl e25 k123 dX2_handOnKey_10 ?_
    refine kI (va_runV (As := [.int (nI k)]) (rest := []) ⟨hx, hb, hml, hown, hts⟩ (c_X2_isHouse l G ad hI nH nP hH hP δ τ (nI k) hv.2.2.1) (cwV 1 hts gX2_handOnKey_X2_isHouse rfl rfl rfl (by decide +kernel) ⟨Nat.le_of_ble_eq_true rfl, Nat.le_of_ble_eq_true rfl⟩) ⟨Pc0.blind, va_recv hK (va_P1 (hV.1)) (ci := 2) (q0 := 0) rfl rfl, Pc0.pre hV hK⟩ rfl rfl hl.1 rfl (lv_room (Nat.le_of_ble_eq_true rfl)) dX2_handOnKey_13 ⟨Nat.zero_le _, Nat.zero_le _⟩) hS (fun _ _ q => q) (fun _ q => q) (fun H locs hV _ _ hS => ?_)
    refine lv_topi (fun yy eyy => ?_)
    obtain rfl : yy = 1 := eyy.trans (if_neg (fun q => q.elim (nI_pos (by omega)) (nI_ge (by omega) (by omega))))
    refine lv_if_ne (tgt := 21) hx hb dX2_handOnKey_16 (by decide) (fun c16 => ?_) (fun c16 => ?_)
    · skip
      refine lv_aload_n hx hb dX2_handOnKey_21 rfl (lv_at hl 0 rfl) ?_
      refine rVh hx hb hts hi2 hown hK hV k11 dX2_handOnKey_22 ?_
      refine lv_aload_n hx hb dX2_handOnKey_25 rfl (lv_at hl 1 rfl) ?_
      refine rP 5 (f := 25) (h := p) (v := nI k) hx hb hts hi1 hown hK hV (by omega) hP (by decide) (by decide) rfl e25 k123 dX2_handOnKey_26 ?_
      refine rHA (h := k) hx hb hK hV (by omega) dX2_handOnKey_29 ?_
      refine lv_astore_n (lv' := [(3, .ref (ad (3 + k))), (0, .ref (ad 0)), (1, .ref (ad (13 + p))), (2, .int (nI d))]) hx hb dX2_handOnKey_30 rfl hl (by decide) rfl (fun ls hl => ?_)
      refine lv_aload_n hx hb dX2_handOnKey_31 rfl (lv_at hl 0 rfl) ?_
      refine kI (va_runV (As := []) (rest := []) ⟨hx, hb, hml, hown, hts⟩ (c_X0_isThere l G ad hI nH nP hH hP δ τ k (by omega)) (cwV 0 hts gX2_handOnKey_X0_isThere rfl rfl rfl (by decide +kernel) ⟨Nat.le_of_ble_eq_true rfl, Nat.le_of_ble_eq_true rfl⟩) ⟨Pc0.blind, va_recv hK (va_P1 (hV.2.2.2.1 k (by omega))) (ci := 0) (q0 := 0) rfl rfl, Pc0.pre hV hK⟩ rfl rfl hl.1 rfl (lv_room (Nat.le_of_ble_eq_true rfl)) dX2_handOnKey_32 ⟨Nat.zero_le _, Nat.zero_le _⟩) hS (fun _ _ q => q) (fun _ q => q) (fun H locs hV _ _ hS => ?_)
      refine lv_if_eq (tgt := 57) hx hb dX2_handOnKey_35 (by decide) (fun c35 => ?_) (fun c35 => ?_)
      · skip
        replace c35 := b0 c35
        have eh : hndF nP p d τ = (chgF nP k 3 τ, 0) := by rw [hndF, if_neg eN, e25, nI_clamp (by omega), if_neg c35]
        refine lv_aload_n hx hb dX2_handOnKey_57 rfl (lv_at hl 1 rfl) ?_
        refine lv_aload_n hx hb dX2_handOnKey_58 rfl (lv_at hl 0 rfl) ?_
        refine lv_iconst (v := 3) hx hb dX2_handOnKey_59 (by decide) ?_
        refine kI (va_runV (As := [.ref (ad (3 + k)), .int 3]) (rest := []) ⟨hx, hb, hml, hown, hts⟩ (c_X2_charge l G ad hI nH nP hH hP δ τ k 3 hv (by omega)) (cwV 2 hts gX2_handOnKey_X2_charge rfl rfl rfl (by decide +kernel) ⟨Nat.le_of_ble_eq_true rfl, Nat.le_of_ble_eq_true rfl⟩) ⟨Pc0.blind, va_recv hK (va_P1 (hV.1)) (ci := 2) (q0 := 0) rfl rfl, Pc0.pre hV hK⟩ rfl rfl hl.1 rfl (lv_room (Nat.le_of_ble_eq_true rfl)) dX2_handOnKey_60 ⟨Nat.zero_le _, Nat.zero_le _⟩) hS (fun _ _ q => q) (fun _ q => q) (fun H locs hV _ _ hS => ?_)
        refine lv_pop hx hb dX2_handOnKey_63 rfl ?_
        refine lv_iconst (v := 0) hx hb dX2_handOnKey_64 (by decide) ?_
        exact xZ hx hb hr hlocks (by rw [eh]; exact hV) hS (by rw [eh]) rfl dX2_handOnKey_65
      · skip
        replace c35 := b1 c35
        have hv9 : Inv nH nP (wst τ 9 k (τ 9 k + 1)) := hv.free (by omega)
        refine lv_aload_n hx hb dX2_handOnKey_38 rfl (lv_at hl 0 rfl) ?_
        refine lv_dup hx hb dX2_handOnKey_39 rfl ?_
        refine rH 10 (f := 9) (h := k) (v := τ 9 k) hx hb hts hi0 hown hK hV (by omega) hH (by decide) (by decide) rfl rfl k144 dX2_handOnKey_40 ?_
        refine lv_iconst (v := 1) hx hb dX2_handOnKey_43 (by decide) ?_
        refine lv_iadd hx hb dX2_handOnKey_44 ?_
        refine wH 10 (f := 9) (h := k) hx hb hts hi0 hown hK hI hV hS (by omega) hH (by decide) (by decide) rfl k144 dX2_handOnKey_45 (fun H locs hV hS => ?_)
        refine lv_aload_n hx hb dX2_handOnKey_48 rfl (lv_at hl 0 rfl) ?_
        refine kI (va_runV (As := []) (rest := []) ⟨hx, hb, hml, hown, hts⟩ (c_X0_forgetsThisKey l G ad hI nH nP hH hP δ (wst τ 9 k ((τ 9 k) + 1)) k (by omega) (by rw [wst_f (by decide)]; exact (hv.2.2.2.2.1 k hk).1)) (cwV 0 hts gX2_handOnKey_X0_forgetsThisKey rfl rfl rfl (by decide +kernel) ⟨Nat.le_of_ble_eq_true rfl, Nat.le_of_ble_eq_true rfl⟩) ⟨Pc0.blind, va_recv hK (va_P1 (hV.2.2.2.1 k (by omega))) (ci := 0) (q0 := 0) rfl rfl, Pc0.pre hV hK⟩ rfl rfl hl.1 rfl (lv_room (Nat.le_of_ble_eq_true rfl)) dX2_handOnKey_49 ⟨Nat.zero_le _, Nat.zero_le _⟩) hS (fun _ _ q => q) (fun _ q => q) (fun H locs hV _ _ hS => ?_)
        refine lv_if_ne (tgt := 57) hx hb dX2_handOnKey_52 (by decide) (fun c52 => ?_) (fun c52 => ?_)
        · skip
          replace c52 := b1 c52
          rw [wst_s, wst_f (f := 9) (g := 2) (by decide)] at c52
          have eh : hndF nP p d τ = (chgF nP k 3 (wst τ 9 k (τ 9 k + 1)), 0) := by rw [hndF, if_neg eN, e25, nI_clamp (by omega), if_pos c35, if_pos c52]
          refine lv_aload_n hx hb dX2_handOnKey_57 rfl (lv_at hl 1 rfl) ?_
          refine lv_aload_n hx hb dX2_handOnKey_58 rfl (lv_at hl 0 rfl) ?_
          refine lv_iconst (v := 3) hx hb dX2_handOnKey_59 (by decide) ?_
          refine kI (va_runV (As := [.ref (ad (3 + k)), .int 3]) (rest := []) ⟨hx, hb, hml, hown, hts⟩ (c_X2_charge l G ad hI nH nP hH hP δ (wst τ 9 k ((τ 9 k) + 1)) k 3 hv9 (by omega)) (cwV 2 hts gX2_handOnKey_X2_charge rfl rfl rfl (by decide +kernel) ⟨Nat.le_of_ble_eq_true rfl, Nat.le_of_ble_eq_true rfl⟩) ⟨Pc0.blind, va_recv hK (va_P1 (hV.1)) (ci := 2) (q0 := 0) rfl rfl, Pc0.pre hV hK⟩ rfl rfl hl.1 rfl (lv_room (Nat.le_of_ble_eq_true rfl)) dX2_handOnKey_60 ⟨Nat.zero_le _, Nat.zero_le _⟩) hS (fun _ _ q => q) (fun _ q => q) (fun H locs hV _ _ hS => ?_)
          refine lv_pop hx hb dX2_handOnKey_63 rfl ?_
          refine lv_iconst (v := 0) hx hb dX2_handOnKey_64 (by decide) ?_
          exact xZ hx hb hr hlocks (by rw [eh]; exact hV) hS (by rw [eh]) rfl dX2_handOnKey_65
        · skip
          replace c52 := b0 c52
          rw [wst_s, wst_f (f := 9) (g := 2) (by decide)] at c52
          have eh : hndF nP p d τ = (wst τ 9 k (τ 9 k + 1), 1) := by rw [hndF, if_neg eN, e25, nI_clamp (by omega), if_pos c35, if_neg c52]
          refine lv_iconst (v := 1) hx hb dX2_handOnKey_55 (by decide) ?_
          exact xZ hx hb hr hlocks (by rw [eh]; exact hV) hS (by rw [eh]) rfl dX2_handOnKey_56
    · skip
      exact absurd c16 (by decide)

theorem c_X2_handOnKey (l : Launch) (G : wG) (ad : Nat → Nat) (hI : adInj ad 19) (nH nP : Nat) (hH : nH ≤ 10) (hP : nP ≤ 3) (δ τ : wS) (p d : Nat) (hv : Inv nH nP τ) (hp : p < nP) (hd : d < nH) : Met l yX2_handOnKey wsX2_handOnKey ({ frames := 2, cells := 0, slots := 0, locals := 46 } : Room) (Pc0 G [.ref (ad 0), .ref (ad (13 + p)), .int (nI d)] (CVm G ad nH nP δ τ)) (Qi0 ((hndF nP p d τ).2) (CVm G ad nH nP δ (hndF nP p d τ).1) (AV ad 19)) 0 0 (AV ad 19) := by
  rcases hv.oKey hp with e | ⟨k, hk, e⟩
  · exact c_X2_handOnKey0 l G ad hI nH nP hH hP δ τ p d hv hp hd e
  · exact c_X2_handOnKey1 l G ad hI nH nP hH hP δ τ p d k hv hp hd hk e

set_option maxHeartbeats 4000000 in
set_option maxRecDepth 100000 in
theorem c_X2_passKeys (l : Launch) (G : wG) (ad : Nat → Nat) (hI : adInj ad 19) (nH nP : Nat) (hH : nH ≤ 10) (hP : nP ≤ 3) (δ τ : wS)  (hv : Inv nH nP τ) : Met l yX2_passKeys wsX2_passKeys ({ frames := 3, cells := 0, slots := 0, locals := 69 } : Room) (Pc0 G [.ref (ad 0)] (CVm G ad nH nP δ τ)) (Qv0 (CVm G ad nH nP δ (itn (keyF nP) nP τ)) (AV ad 19)) 0 0 (AV ad 19) := by
  refine Met.ofW (cc := cX2_passKeys) (maxL := 4) (ret := none) (by decide) rfl ?_
  intro pg ev s mid args below meth cd s₁ B hml hv0
  obtain ⟨rfl, hV, hK⟩ := hv0
  have hx := B.exec
  have hb := B.bytes
  have hr := B.returns
  have hts := atoms_spec (ws := wsX2_passKeys) B.pre
  have hown : s.vm.findClass RX2 = some mid.cls := findClass_of_methodNamed B.named
  have hlocks := B.notSynchronized
  have hi0 : ∀ w ∈ wsX00, w ∈ wsX2_passKeys := by decide +kernel
  have hi1 : ∀ w ∈ wsX10, w ∈ wsX2_passKeys := by decide +kernel
  have hi2 : ∀ w ∈ wsX20, w ∈ wsX2_passKeys := by decide +kernel
  have k31 := hts (.fieldLink RX2 31 "PumpRoster$Village" "pumpCount" "I") (by decide +kernel)
  have k19 := hts (.fieldLink RX2 19 "PumpRoster$Village" "pumps" "[LPumpRoster$Pump;") (by decide +kernel)
  have k104 := hts (.fieldLink RX2 104 "PumpRoster$Pump" "open" "Z") (by decide +kernel)
  have k108 := hts (.fieldLink RX2 108 "PumpRoster$Pump" "brokeToday" "Z") (by decide +kernel)
  have k123 := hts (.fieldLink RX2 123 "PumpRoster$Pump" "keyHolder" "I") (by decide +kernel)
  have k126 := hts (.fieldLink RX2 126 "PumpRoster$Pump" "daysOpen" "I") (by decide +kernel)
  have k11 := hts (.fieldLink RX2 11 "PumpRoster$Village" "houses" "[LPumpRoster$House;") (by decide +kernel)
  have k129 := hts (.fieldLink RX2 129 "PumpRoster$House" "duties" "I") (by decide +kernel)
  have hS : va_S (AV ad 19) s.heap s.heap [] := va_S.rf
  have hl := lv_entry ([.ref (ad 0)]) (n := 4) (Nat.le_of_ble_eq_true rfl)
  rw [lg_entry_eq]
  generalize (lg_sl ([.ref (ad 0)]) ++ List.replicate (4 - (lg_sl ([.ref (ad 0)])).length) Slot.unset).toArray = ls at hl ⊢
  have hl : lv_has ls 4 [(0, .ref (ad 0))] := hl
  refine lv_iconst (v := nI 0) hx hb dX2_passKeys_0 (by decide) ?_
  refine lv_istore_n (lv' := [(1, .int (nI 0)), (0, .ref (ad 0))]) hx hb dX2_passKeys_1 rfl hl (by decide) rfl (fun ls hl => ?_)
  refine W_up nP (fun i H locs ls => CVm G ad nH nP δ (itn (keyF nP) i τ) H ∧ va_S (AV ad 19) s.heap H locs ∧ lv_has ls 4 [(0, .ref (ad 0)), (1, .int (nI i))]) ?_ 0 (by omega) _ _ _ ⟨hV, hS, lv_sub hl [1, 0] rfl⟩
  intro i H locs ls hi ⟨hV, hS, hl⟩ ih
  have hvi : Inv nH nP (itn (keyF nP) i τ) := itn_inv hv (fun k hk x hx => hx.oKeyF (by omega))
  have hv0 : Inv nH nP (wst (wst (itn (keyF nP) i τ) 31 i 0) 32 i 0) := (hvi.free (by omega)).free (by omega)
  refine lv_iload_n hx hb dX2_passKeys_2 rfl (lv_at hl 1 rfl) ?_
  refine lv_aload_n hx hb dX2_passKeys_3 rfl (lv_at hl 0 rfl) ?_
  refine rV 3 (f := 52) (v := nI nP) hx hb hts hi2 hown hK hV (by decide) (by decide) rfl hvi.2.2.2.1 k31 dX2_passKeys_4 ?_
  refine lv_icmp_ge (tgt := 91) hx hb dX2_passKeys_7 (by decide) (fun c7 => ?_) (fun c7 => ?_)
  · skip
    replace c7 := (nI_leI (a := nP) (b := i) (by omega) (by omega)).mp c7
    obtain rfl : nP = i := by omega
    exact xV hx hb hr hlocks hV hS dX2_passKeys_91
  · skip
    replace c7 : ¬ (nP ≤ i) := fun q => c7 ((nI_leI (a := nP) (b := i) (by omega) (by omega)).mpr q)
    refine lv_aload_n hx hb dX2_passKeys_10 rfl (lv_at hl 0 rfl) ?_
    refine rVp hx hb hts hi2 hown hK hV k19 dX2_passKeys_11 ?_
    refine lv_iload_n hx hb dX2_passKeys_14 rfl (lv_at hl 1 rfl) ?_
    refine rPA (h := i) hx hb hK hV (by omega) dX2_passKeys_15 ?_
    refine lv_astore_n (lv' := [(2, .ref (ad (13 + i))), (0, .ref (ad 0)), (1, .int (nI i))]) hx hb dX2_passKeys_16 rfl hl (by decide) rfl (fun ls hl => ?_)
    refine lv_aload_n hx hb dX2_passKeys_17 rfl (lv_at hl 0 rfl) ?_
    refine lv_iconst (v := 0) hx hb dX2_passKeys_18 (by decide) ?_
    refine wP 12 (f := 31) (h := i) hx hb hts hi1 hown hK hI hV hS (by omega) hP (by decide) (by decide) rfl rfl rfl k104 dX2_passKeys_19 (fun H locs hV hS => ?_)
    refine lv_aload_n hx hb dX2_passKeys_22 rfl (lv_at hl 0 rfl) ?_
    refine lv_iconst (v := 0) hx hb dX2_passKeys_23 (by decide) ?_
    refine wP 13 (f := 32) (h := i) hx hb hts hi1 hown hK hI hV hS (by omega) hP (by decide) (by decide) rfl rfl rfl k108 dX2_passKeys_24 (fun H locs hV hS => ?_)
    refine lv_aload_n hx hb dX2_passKeys_27 rfl (lv_at hl 1 rfl) ?_
    refine lv_aload_n hx hb dX2_passKeys_28 rfl (lv_at hl 0 rfl) ?_
    refine kI (va_runV (As := [.ref (ad (13 + i))]) (rest := []) ⟨hx, hb, hml, hown, hts⟩ (c_X2_takeTurn l G ad hI nH nP hH hP δ (wst (wst (itn (keyF nP) i τ) 31 i 0) 32 i 0) i hv0 (by omega)) (cwV 1 hts gX2_passKeys_X2_takeTurn rfl rfl rfl (by decide +kernel) ⟨Nat.le_of_ble_eq_true rfl, Nat.le_of_ble_eq_true rfl⟩) ⟨Pc0.blind, va_recv hK (va_P1 (hV.1)) (ci := 2) (q0 := 0) rfl rfl, Pc0.pre hV hK⟩ rfl rfl hl.1 rfl (lv_room (Nat.le_of_ble_eq_true rfl)) dX2_passKeys_29 ⟨Nat.zero_le _, Nat.zero_le _⟩) hS (fun _ _ q => q) (fun _ q => q) (fun H locs hV _ _ hS => ?_)
    by_cases hd : dtyK (wst (wst (itn (keyF nP) i τ) 31 i 0) 32 i 0) i < sz (wst (wst (itn (keyF nP) i τ) 31 i 0) 32 i 0) i
    · skip
      rw [if_pos hd] at hV
      refine lv_topi (fun yy eyy => ?_)
      obtain rfl : yy = nI (dtyH (wst (wst (itn (keyF nP) i τ) 31 i 0) 32 i 0) i) := eyy.trans (if_pos hd)
      have hdl : dtyH (wst (wst (itn (keyF nP) i τ) 31 i 0) 32 i 0) i < nH := (hv0.oDtyH (by omega) hd).1
      have hv1 : Inv nH nP (trnF i (wst (wst (itn (keyF nP) i τ) 31 i 0) 32 i 0)) := hv0.oTrn hd
      refine lv_istore_n (lv' := [(3, .int (nI (dtyH (wst (wst (itn (keyF nP) i τ) 31 i 0) 32 i 0) i))), (2, .ref (ad (13 + i))), (0, .ref (ad 0)), (1, .int (nI i))]) hx hb dX2_passKeys_32 rfl hl (by decide) rfl (fun ls hl => ?_)
      refine lv_aload_n hx hb dX2_passKeys_33 rfl (lv_at hl 2 rfl) ?_
      refine lv_iload_n hx hb dX2_passKeys_34 rfl (lv_at hl 0 rfl) ?_
      refine kI (va_runV (As := [.int (nI (dtyH (wst (wst (itn (keyF nP) i τ) 31 i 0) 32 i 0) i))]) (rest := []) ⟨hx, hb, hml, hown, hts⟩ (c_X2_isHouse l G ad hI nH nP hH hP δ (trnF i (wst (wst (itn (keyF nP) i τ) 31 i 0) 32 i 0)) (nI (dtyH (wst (wst (itn (keyF nP) i τ) 31 i 0) 32 i 0) i)) hv1.2.2.1) (cwV 1 hts gX2_passKeys_X2_isHouse rfl rfl rfl (by decide +kernel) ⟨Nat.le_of_ble_eq_true rfl, Nat.le_of_ble_eq_true rfl⟩) ⟨Pc0.blind, va_recv hK (va_P1 (hV.1)) (ci := 2) (q0 := 0) rfl rfl, Pc0.pre hV hK⟩ rfl rfl hl.1 rfl (lv_room (Nat.le_of_ble_eq_true rfl)) dX2_passKeys_35 ⟨Nat.zero_le _, Nat.zero_le _⟩) hS (fun _ _ q => q) (fun _ q => q) (fun H locs hV _ _ hS => ?_)
      refine lv_topi (fun yy eyy => ?_)
      obtain rfl : yy = 1 := eyy.trans (if_neg (fun q => q.elim (nI_pos (by omega)) (nI_ge (by omega) (by omega))))
      refine lv_if_eq (tgt := 85) hx hb dX2_passKeys_38 (by decide) (fun c38 => ?_) (fun c38 => ?_)
      · skip
        exact absurd c38 (by decide)
      · skip
        refine lv_aload_n hx hb dX2_passKeys_41 rfl (lv_at hl 2 rfl) ?_
        refine lv_aload_n hx hb dX2_passKeys_42 rfl (lv_at hl 1 rfl) ?_
        refine lv_iload_n hx hb dX2_passKeys_43 rfl (lv_at hl 0 rfl) ?_
        refine kI (va_runV (As := [.ref (ad (13 + i)), .int (nI (dtyH (wst (wst (itn (keyF nP) i τ) 31 i 0) 32 i 0) i))]) (rest := []) ⟨hx, hb, hml, hown, hts⟩ (c_X2_handOnKey l G ad hI nH nP hH hP δ (trnF i (wst (wst (itn (keyF nP) i τ) 31 i 0) 32 i 0)) i (dtyH (wst (wst (itn (keyF nP) i τ) 31 i 0) 32 i 0) i) hv1 (by omega) hdl) (cwV 2 hts gX2_passKeys_X2_handOnKey rfl rfl rfl (by decide +kernel) ⟨Nat.le_of_ble_eq_true rfl, Nat.le_of_ble_eq_true rfl⟩) ⟨Pc0.blind, va_recv hK (va_P1 (hV.1)) (ci := 2) (q0 := 0) rfl rfl, Pc0.pre hV hK⟩ rfl rfl hl.1 rfl (lv_room (Nat.le_of_ble_eq_true rfl)) dX2_passKeys_44 ⟨Nat.zero_le _, Nat.zero_le _⟩) hS (fun _ _ q => q) (fun _ q => q) (fun H locs hV _ _ hS => ?_)
        refine lv_if_eq (tgt := 85) hx hb dX2_passKeys_47 (by decide) (fun c47 => ?_) (fun c47 => ?_)
        · skip
          have eo : opnF nP i (wst (wst (itn (keyF nP) i τ) 31 i 0) 32 i 0) = ((hndF nP i (dtyH (wst (wst (itn (keyF nP) i τ) 31 i 0) 32 i 0) i) (trnF i (wst (wst (itn (keyF nP) i τ) 31 i 0) 32 i 0))).1, 0) := by rw [opnF, if_pos hd, if_neg (by rw [c47]; decide)]
          refine lv_iinc (k := 3) (v := nI (i + 1)) (lv' := [(1, .int (nI (i + 1))), (3, .int (nI (dtyH (wst (wst (itn (keyF nP) i τ) 31 i 0) 32 i 0) i))), (2, .ref (ad (13 + i))), (0, .ref (ad 0))]) hx hb dX2_passKeys_85 hl rfl (nI_add i 1) (by decide) rfl (fun ls hl => ?_)
          refine lv_goto (tgt := 2) hx hb dX2_passKeys_88 (by decide) ?_
          exact ih (by omega) _ _ _ ⟨(by rw [itn_s, keyF, eo, if_neg (show ¬ (0 : Int32) = 1 by decide)]; exact hV), hS, lv_sub hl [3, 0] rfl⟩
        · skip
          have c47b : (hndF nP i (dtyH (wst (wst (itn (keyF nP) i τ) 31 i 0) 32 i 0) i) (trnF i (wst (wst (itn (keyF nP) i τ) 31 i 0) 32 i 0))).2 = 1 := (hnd_01 _ _ _ _).resolve_left c47
          have eo : opnF nP i (wst (wst (itn (keyF nP) i τ) 31 i 0) 32 i 0) = (opnY i (dtyH (wst (wst (itn (keyF nP) i τ) 31 i 0) 32 i 0) i) (hndF nP i (dtyH (wst (wst (itn (keyF nP) i τ) 31 i 0) 32 i 0) i) (trnF i (wst (wst (itn (keyF nP) i τ) 31 i 0) 32 i 0))).1, 1) := by rw [opnF, if_pos hd, if_pos c47b]
          have hv2 : Inv nH nP (hndF nP i (dtyH (wst (wst (itn (keyF nP) i τ) 31 i 0) 32 i 0) i) (trnF i (wst (wst (itn (keyF nP) i τ) 31 i 0) 32 i 0))).1 := hv1.oHnd (by omega)
          refine lv_aload_n hx hb dX2_passKeys_50 rfl (lv_at hl 1 rfl) ?_
          refine lv_iload_n hx hb dX2_passKeys_51 rfl (lv_at hl 0 rfl) ?_
          refine wP 5 (f := 25) (h := i) hx hb hts hi1 hown hK hI hV hS (by omega) hP (by decide) (by decide) rfl rfl rfl k123 dX2_passKeys_52 (fun H locs hV hS => ?_)
          refine lv_aload_n hx hb dX2_passKeys_55 rfl (lv_at hl 1 rfl) ?_
          refine lv_iconst (v := 1) hx hb dX2_passKeys_56 (by decide) ?_
          refine wP 12 (f := 31) (h := i) hx hb hts hi1 hown hK hI hV hS (by omega) hP (by decide) (by decide) rfl rfl rfl k104 dX2_passKeys_57 (fun H locs hV hS => ?_)
          refine lv_aload_n hx hb dX2_passKeys_60 rfl (lv_at hl 1 rfl) ?_
          refine lv_dup hx hb dX2_passKeys_61 rfl ?_
          refine rP 9 (f := 28) (h := i) (v := ((hndF nP i (dtyH (wst (wst (itn (keyF nP) i τ) 31 i 0) 32 i 0) i) (trnF i (wst (wst (itn (keyF nP) i τ) 31 i 0) 32 i 0))).1) 28 i) hx hb hts hi1 hown hK hV (by omega) hP (by decide) (by decide) rfl ((wst_f (by decide)).trans (wst_f (by decide))) k126 dX2_passKeys_62 ?_
          refine lv_iconst (v := 1) hx hb dX2_passKeys_65 (by decide) ?_
          refine lv_iadd hx hb dX2_passKeys_66 ?_
          refine wP 9 (f := 28) (h := i) hx hb hts hi1 hown hK hI hV hS (by omega) hP (by decide) (by decide) rfl rfl rfl k126 dX2_passKeys_67 (fun H locs hV hS => ?_)
          refine lv_aload_n hx hb dX2_passKeys_70 rfl (lv_at hl 2 rfl) ?_
          refine rVh hx hb hts hi2 hown hK hV k11 dX2_passKeys_71 ?_
          refine lv_iload_n hx hb dX2_passKeys_74 rfl (lv_at hl 0 rfl) ?_
          refine rHA (h := dtyH (wst (wst (itn (keyF nP) i τ) 31 i 0) 32 i 0) i) hx hb hK hV (by omega) dX2_passKeys_75 ?_
          refine lv_dup hx hb dX2_passKeys_76 rfl ?_
          refine rH 8 (f := 7) (h := dtyH (wst (wst (itn (keyF nP) i τ) 31 i 0) 32 i 0) i) (v := ((hndF nP i (dtyH (wst (wst (itn (keyF nP) i τ) 31 i 0) 32 i 0) i) (trnF i (wst (wst (itn (keyF nP) i τ) 31 i 0) 32 i 0))).1) 7 (dtyH (wst (wst (itn (keyF nP) i τ) 31 i 0) 32 i 0) i)) hx hb hts hi0 hown hK hV (by omega) hH (by decide) (by decide) rfl ((wst_f (by decide)).trans ((wst_f (by decide)).trans (wst_f (by decide)))) k129 dX2_passKeys_77 ?_
          refine lv_iconst (v := 1) hx hb dX2_passKeys_80 (by decide) ?_
          refine lv_iadd hx hb dX2_passKeys_81 ?_
          refine wH 8 (f := 7) (h := dtyH (wst (wst (itn (keyF nP) i τ) 31 i 0) 32 i 0) i) hx hb hts hi0 hown hK hI hV hS (by omega) hH (by decide) (by decide) rfl k129 dX2_passKeys_82 (fun H locs hV hS => ?_)
          refine lv_iinc (k := 3) (v := nI (i + 1)) (lv' := [(1, .int (nI (i + 1))), (3, .int (nI (dtyH (wst (wst (itn (keyF nP) i τ) 31 i 0) 32 i 0) i))), (2, .ref (ad (13 + i))), (0, .ref (ad 0))]) hx hb dX2_passKeys_85 hl rfl (nI_add i 1) (by decide) rfl (fun ls hl => ?_)
          refine lv_goto (tgt := 2) hx hb dX2_passKeys_88 (by decide) ?_
          exact ih (by omega) _ _ _ ⟨(by rw [itn_s, keyF, eo, if_pos rfl]; unfold opnY; rw [wst_comm (f := 31) (g := 28) (by omega), wst_comm (f := 31) (g := 7) (by omega)] at hV; exact hV), hS, lv_sub hl [3, 0] rfl⟩
    · skip
      rw [if_neg hd] at hV
      refine lv_topi (fun yy eyy => ?_)
      obtain rfl : yy = -1 := eyy.trans (if_neg hd)
      refine lv_istore_n (lv' := [(3, .int (-1)), (2, .ref (ad (13 + i))), (0, .ref (ad 0)), (1, .int (nI i))]) hx hb dX2_passKeys_32 rfl hl (by decide) rfl (fun ls hl => ?_)
      refine lv_aload_n hx hb dX2_passKeys_33 rfl (lv_at hl 2 rfl) ?_
      refine lv_iload_n hx hb dX2_passKeys_34 rfl (lv_at hl 0 rfl) ?_
      refine kI (va_runV (As := [.int (-1)]) (rest := []) ⟨hx, hb, hml, hown, hts⟩ (c_X2_isHouse l G ad hI nH nP hH hP δ (wst (wst (itn (keyF nP) i τ) 31 i 0) 32 i 0) (-1) hv0.2.2.1) (cwV 1 hts gX2_passKeys_X2_isHouse rfl rfl rfl (by decide +kernel) ⟨Nat.le_of_ble_eq_true rfl, Nat.le_of_ble_eq_true rfl⟩) ⟨Pc0.blind, va_recv hK (va_P1 (hV.1)) (ci := 2) (q0 := 0) rfl rfl, Pc0.pre hV hK⟩ rfl rfl hl.1 rfl (lv_room (Nat.le_of_ble_eq_true rfl)) dX2_passKeys_35 ⟨Nat.zero_le _, Nat.zero_le _⟩) hS (fun _ _ q => q) (fun _ q => q) (fun H locs hV _ _ hS => ?_)
      refine lv_topi (fun yy eyy => ?_)
      obtain rfl : yy = 0 := eyy.trans (if_pos (Or.inl (by decide)))
      refine lv_if_eq (tgt := 85) hx hb dX2_passKeys_38 (by decide) (fun c38 => ?_) (fun c38 => ?_)
      · skip
        have eo : opnF nP i (wst (wst (itn (keyF nP) i τ) 31 i 0) 32 i 0) = (wst (wst (itn (keyF nP) i τ) 31 i 0) 32 i 0, 0) := by rw [opnF, if_neg hd]
        refine lv_iinc (k := 3) (v := nI (i + 1)) (lv' := [(1, .int (nI (i + 1))), (3, .int (-1)), (2, .ref (ad (13 + i))), (0, .ref (ad 0))]) hx hb dX2_passKeys_85 hl rfl (nI_add i 1) (by decide) rfl (fun ls hl => ?_)
        refine lv_goto (tgt := 2) hx hb dX2_passKeys_88 (by decide) ?_
        exact ih (by omega) _ _ _ ⟨(by rw [itn_s, keyF, eo, if_neg (show ¬ (0 : Int32) = 1 by decide)]; exact hV), hS, lv_sub hl [3, 0] rfl⟩
      · skip
        exact absurd rfl c38

set_option maxHeartbeats 4000000 in
set_option maxRecDepth 100000 in
theorem c_X2_drawFrom (l : Launch) (G : wG) (ad : Nat → Nat) (hI : adInj ad 19) (nH nP : Nat) (hH : nH ≤ 10) (hP : nP ≤ 3) (δ τ : wS) (p h : Nat) (x : Int32) (hv : Inv nH nP τ) (hp : p < nP) (hh : h < nH) : Met l yX2_drawFrom wsX2_drawFrom ({ frames := 2, cells := 0, slots := 0, locals := 46 } : Room) (Pc0 G [.ref (ad 0), .ref (ad (13 + p)), .ref (ad (3 + h)), .int x] (CVm G ad nH nP δ τ)) (Qi0 (ownF p x τ) (CVm G ad nH nP δ (drF nP h p x τ)) (AV ad 19)) 0 0 (AV ad 19) := by
  refine Met.ofW (cc := cX2_drawFrom) (maxL := 5) (ret := (some .int)) (by decide) rfl ?_
  intro pg ev s mid args below meth cd s₁ B hml hv0
  obtain ⟨rfl, hV, hK⟩ := hv0
  have hx := B.exec
  have hb := B.bytes
  have hr := B.returns
  have hts := atoms_spec (ws := wsX2_drawFrom) B.pre
  have hown : s.vm.findClass RX2 = some mid.cls := findClass_of_methodNamed B.named
  have hlocks := B.notSynchronized
  have hi1 : ∀ w ∈ wsX10, w ∈ wsX2_drawFrom := by decide +kernel
  have k104 := hts (.fieldLink RX2 104 "PumpRoster$Pump" "open" "Z") (by decide +kernel)
  have k173 := hts (.fieldLink RX2 173 "PumpRoster$Pump" "broken" "Z") (by decide +kernel)
  have k176 := hts (.fieldLink RX2 176 "PumpRoster$Pump" "level" "I") (by decide +kernel)
  have km53 := hts (.methodLink RX2 53 Lib.Math.min.name) (by decide +kernel)
  have ksmin := hts (.static Lib.Math.min.name) (by decide +kernel)
  have kmath := hts (.initialized "java/lang/Math") (by decide +kernel)
  have kcmin := hts (.code Lib.Math.min.name Lib.Math.min.code 2 (some .int)) (by decide +kernel)
  have k179 := hts (.fieldLink RX2 179 "PumpRoster$Pump" "drawn" "I") (by decide +kernel)
  have k182 := hts (.fieldLink RX2 182 "PumpRoster$Pump" "wear" "I") (by decide +kernel)
  have hS : va_S (AV ad 19) s.heap s.heap [] := va_S.rf
  have hl := lv_entry ([.ref (ad 0), .ref (ad (13 + p)), .ref (ad (3 + h)), .int x]) (n := 5) (Nat.le_of_ble_eq_true rfl)
  rw [lg_entry_eq]
  generalize (lg_sl ([.ref (ad 0), .ref (ad (13 + p)), .ref (ad (3 + h)), .int x]) ++ List.replicate (5 - (lg_sl ([.ref (ad 0), .ref (ad (13 + p)), .ref (ad (3 + h)), .int x])).length) Slot.unset).toArray = ls at hl ⊢
  have hl : lv_has ls 5 [(0, .ref (ad 0)), (1, .ref (ad (13 + p))), (2, .ref (ad (3 + h))), (3, .int x)] := hl
  refine lv_aload_n hx hb dX2_drawFrom_0 rfl (lv_at hl 1 rfl) ?_
  refine rP 12 (f := 31) (h := p) (v := τ 31 p) hx hb hts hi1 hown hK hV (by omega) hP (by decide) (by decide) rfl rfl k104 dX2_drawFrom_1 ?_
  refine lv_if_eq (tgt := 14) hx hb dX2_drawFrom_4 (by decide) (fun c4 => ?_) (fun c4 => ?_)
  · skip
    refine lv_iconst (v := 0) hx hb dX2_drawFrom_14 (by decide) ?_
    exact xI hx hb hr hlocks (by rw [drF, if_pos (show ownF p x τ = 0 from if_pos (Or.inl c4))]; exact hV) hS ((if_pos (Or.inl c4)).symm) dX2_drawFrom_15
  · skip
    refine lv_aload_n hx hb dX2_drawFrom_7 rfl (lv_at hl 1 rfl) ?_
    refine rP 3 (f := 23) (h := p) (v := τ 23 p) hx hb hts hi1 hown hK hV (by omega) hP (by decide) (by decide) rfl rfl k173 dX2_drawFrom_8 ?_
    refine lv_if_eq (tgt := 16) hx hb dX2_drawFrom_11 (by decide) (fun c11 => ?_) (fun c11 => ?_)
    · skip
      have c01 : ¬ (τ 31 p = 0 ∨ ¬ τ 23 p = 0) := fun q => q.elim c4 (fun q => q c11)
      refine lv_iload_n hx hb dX2_drawFrom_16 rfl (lv_at hl 3 rfl) ?_
      refine lv_aload_n hx hb dX2_drawFrom_17 rfl (lv_at hl 1 rfl) ?_
      refine rP 0 (f := 20) (h := p) (v := τ 20 p) hx hb hts hi1 hown hK hV (by omega) hP (by decide) (by decide) rfl rfl k176 dX2_drawFrom_18 ?_
      refine va_mmin hx hb (hml.trans hl.1.symm) hown km53 ksmin kmath kcmin (Nat.le_of_ble_eq_true rfl) (Nat.le_of_ble_eq_true rfl) (Nat.zero_le _) (Nat.zero_le _) dX2_drawFrom_21 ?_
      refine lv_topi (fun y1 ey1 => ?_)
      obtain rfl : y1 = ownF p x τ := ey1.trans (if_neg c01).symm
      refine lv_istore (lv' := [(4, .int (ownF p x τ)), (0, .ref (ad 0)), (1, .ref (ad (13 + p))), (2, .ref (ad (3 + h))), (3, .int x)]) hx hb dX2_drawFrom_24 hl (by decide) rfl (fun ls hl => ?_)
      refine lv_aload_n hx hb dX2_drawFrom_26 rfl (lv_at hl 2 rfl) ?_
      refine lv_dup hx hb dX2_drawFrom_27 rfl ?_
      refine rP 0 (f := 20) (h := p) (v := τ 20 p) hx hb hts hi1 hown hK hV (by omega) hP (by decide) (by decide) rfl rfl k176 dX2_drawFrom_28 ?_
      refine lv_iload hx hb dX2_drawFrom_31 (lv_at hl 0 rfl) ?_
      refine lv_isub hx hb dX2_drawFrom_33 ?_
      refine wP 0 (f := 20) (h := p) hx hb hts hi1 hown hK hI hV hS (by omega) hP (by decide) (by decide) rfl rfl rfl k176 dX2_drawFrom_34 (fun H locs hV hS => ?_)
      refine lv_aload_n hx hb dX2_drawFrom_37 rfl (lv_at hl 2 rfl) ?_
      refine lv_dup hx hb dX2_drawFrom_38 rfl ?_
      refine rP 10 (f := 29) (h := p) (v := τ 29 p) hx hb hts hi1 hown hK hV (by omega) hP (by decide) (by decide) rfl (wst_f (by decide)) k179 dX2_drawFrom_39 ?_
      refine lv_iload hx hb dX2_drawFrom_42 (lv_at hl 0 rfl) ?_
      refine lv_iadd hx hb dX2_drawFrom_44 ?_
      refine wP 10 (f := 29) (h := p) hx hb hts hi1 hown hK hI hV hS (by omega) hP (by decide) (by decide) rfl rfl rfl k179 dX2_drawFrom_45 (fun H locs hV hS => ?_)
      refine lv_aload_n hx hb dX2_drawFrom_48 rfl (lv_at hl 2 rfl) ?_
      refine lv_dup hx hb dX2_drawFrom_49 rfl ?_
      refine rP 2 (f := 22) (h := p) (v := τ 22 p) hx hb hts hi1 hown hK hV (by omega) hP (by decide) (by decide) rfl ((wst_f (by decide)).trans (wst_f (by decide))) k182 dX2_drawFrom_50 ?_
      refine lv_iload hx hb dX2_drawFrom_53 (lv_at hl 0 rfl) ?_
      refine lv_iadd hx hb dX2_drawFrom_55 ?_
      refine wP 2 (f := 22) (h := p) hx hb hts hi1 hown hK hI hV hS (by omega) hP (by decide) (by decide) rfl rfl rfl k182 dX2_drawFrom_56 (fun H locs hV hS => ?_)
      refine lv_aload_n hx hb dX2_drawFrom_59 rfl (lv_at hl 2 rfl) ?_
      refine rP 2 (f := 22) (h := p) (v := (τ 22 p) + (ownF p x τ)) hx hb hts hi1 hown hK hV (by omega) hP (by decide) (by decide) rfl wst_s k182 dX2_drawFrom_60 ?_
      refine lv_bipush (v := 100) hx hb dX2_drawFrom_63 (by decide) ?_
      refine lv_icmp_lt (tgt := 79) hx hb dX2_drawFrom_65 (by decide) (fun c65 => ?_) (fun c65 => ?_)
      · skip
        have ed : drF nP h p x τ = dr1 p (ownF p x τ) τ := by
          by_cases h0 : ownF p x τ = 0
          · rw [drF, if_pos h0, h0]
            unfold dr1
            rw [wst_self (f := 20) (by simp), wst_self (f := 29) (by simp), wst_self (f := 22) (by simp)]
          · rw [drF, if_neg h0, if_pos c65]
        refine lv_iload hx hb dX2_drawFrom_79 (lv_at hl 0 rfl) ?_
        exact xI hx hb hr hlocks (by rw [ed]; exact hV) hS rfl dX2_drawFrom_81
      · skip
        have c65b : 100 ≤ τ 22 p + ownF p x τ := i32_le c65
        have h0 : ¬ ownF p x τ = 0 := fun q => by
          rw [q, Int32.add_zero] at c65b
          exact i32_nlt c65b ((hv.2.2.2.2.2 p hp).2.1 c11)
        have ed : drF nP h p x τ = chgF nP h 5 (wst (wst (wst (dr1 p (ownF p x τ) τ) 23 p 1) 32 p 1) 24 p 3) := by rw [drF, if_neg h0, if_neg c65]
        have hvb : Inv nH nP (wst (wst (wst (dr1 p (ownF p x τ) τ) 23 p 1) 32 p 1) 24 p 3) := hv.oBrk
        refine lv_aload_n hx hb dX2_drawFrom_68 rfl (lv_at hl 2 rfl) ?_
        refine kV (va_runV (As := []) (rest := []) ⟨hx, hb, hml, hown, hts⟩ (c_X1_breakHandle l G ad hI nH nP hH hP δ (wst (wst (wst τ 20 p ((τ 20 p) - (ownF p x τ))) 29 p ((τ 29 p) + (ownF p x τ))) 22 p ((τ 22 p) + (ownF p x τ))) p (by omega)) (cwV 0 hts gX2_drawFrom_X1_breakHandle rfl rfl rfl (by decide +kernel) ⟨Nat.le_of_ble_eq_true rfl, Nat.le_of_ble_eq_true rfl⟩) ⟨Pc0.blind, va_recv hK (va_P1 (hV.2.2.2.2.1 p (by omega))) (ci := 1) (q0 := 0) rfl rfl, Pc0.pre hV hK⟩ rfl rfl hl.1 rfl (lv_room (Nat.le_of_ble_eq_true rfl)) dX2_drawFrom_69 ⟨Nat.zero_le _, Nat.zero_le _⟩) hS (fun _ _ q => q) (fun _ q => q) (fun H locs hV _ _ hS => ?_)
        refine lv_aload_n hx hb dX2_drawFrom_72 rfl (lv_at hl 1 rfl) ?_
        refine lv_aload_n hx hb dX2_drawFrom_73 rfl (lv_at hl 3 rfl) ?_
        refine lv_iconst (v := 5) hx hb dX2_drawFrom_74 (by decide) ?_
        refine kI (va_runV (As := [.ref (ad (3 + h)), .int 5]) (rest := []) ⟨hx, hb, hml, hown, hts⟩ (c_X2_charge l G ad hI nH nP hH hP δ (wst (wst (wst (wst (wst (wst τ 20 p ((τ 20 p) - (ownF p x τ))) 29 p ((τ 29 p) + (ownF p x τ))) 22 p ((τ 22 p) + (ownF p x τ))) 23 p 1) 32 p 1) 24 p 3) h 5 hvb (by omega)) (cwV 2 hts gX2_drawFrom_X2_charge rfl rfl rfl (by decide +kernel) ⟨Nat.le_of_ble_eq_true rfl, Nat.le_of_ble_eq_true rfl⟩) ⟨Pc0.blind, va_recv hK (va_P1 (hV.1)) (ci := 2) (q0 := 0) rfl rfl, Pc0.pre hV hK⟩ rfl rfl hl.1 rfl (lv_room (Nat.le_of_ble_eq_true rfl)) dX2_drawFrom_75 ⟨Nat.zero_le _, Nat.zero_le _⟩) hS (fun _ _ q => q) (fun _ q => q) (fun H locs hV _ _ hS => ?_)
        refine lv_pop hx hb dX2_drawFrom_78 rfl ?_
        refine lv_iload hx hb dX2_drawFrom_79 (lv_at hl 0 rfl) ?_
        exact xI hx hb hr hlocks (by rw [ed]; exact hV) hS rfl dX2_drawFrom_81
    · skip
      refine lv_iconst (v := 0) hx hb dX2_drawFrom_14 (by decide) ?_
      exact xI hx hb hr hlocks (by rw [drF, if_pos (show ownF p x τ = 0 from if_pos (Or.inr c11))]; exact hV) hS ((if_pos (Or.inr c11)).symm) dX2_drawFrom_15

set_option maxHeartbeats 4000000 in
set_option maxRecDepth 100000 in
theorem c_X2_drawAround (l : Launch) (G : wG) (ad : Nat → Nat) (hI : adInj ad 19) (nH nP : Nat) (hH : nH ≤ 10) (hP : nP ≤ 3) (δ τ : wS) (h : Nat) (hv : Inv nH nP τ) (hh : h < nH) (h6 : τ 6 h = 0) : Met l yX2_drawAround wsX2_drawAround ({ frames := 3, cells := 0, slots := 0, locals := 70 } : Room) (Pc0 G [.ref (ad 0), .ref (ad (3 + h))] (CVm G ad nH nP δ τ)) (Qv0 (CVm G ad nH nP δ (drwF nP h τ)) (AV ad 19)) 0 0 (AV ad 19) := by
  refine Met.ofW (cc := cX2_drawAround) (maxL := 5) (ret := none) (by decide) rfl ?_
  intro pg ev s mid args below meth cd s₁ B hml hv0
  obtain ⟨rfl, hV, hK⟩ := hv0
  have hx := B.exec
  have hb := B.bytes
  have hr := B.returns
  have hts := atoms_spec (ws := wsX2_drawAround) B.pre
  have hown : s.vm.findClass RX2 = some mid.cls := findClass_of_methodNamed B.named
  have hlocks := B.notSynchronized
  have hi0 : ∀ w ∈ wsX00, w ∈ wsX2_drawAround := by decide +kernel
  have hi2 : ∀ w ∈ wsX20, w ∈ wsX2_drawAround := by decide +kernel
  have k160 := hts (.fieldLink RX2 160 "PumpRoster$House" "firstPump" "I") (by decide +kernel)
  have k31 := hts (.fieldLink RX2 31 "PumpRoster$Village" "pumpCount" "I") (by decide +kernel)
  have k170 := hts (.fieldLink RX2 170 "PumpRoster$House" "thirst" "I") (by decide +kernel)
  have k19 := hts (.fieldLink RX2 19 "PumpRoster$Village" "pumps" "[LPumpRoster$Pump;") (by decide +kernel)
  have hS : va_S (AV ad 19) s.heap s.heap [] := va_S.rf
  have hl := lv_entry ([.ref (ad 0), .ref (ad (3 + h))]) (n := 5) (Nat.le_of_ble_eq_true rfl)
  rw [lg_entry_eq]
  generalize (lg_sl ([.ref (ad 0), .ref (ad (3 + h))]) ++ List.replicate (5 - (lg_sl ([.ref (ad 0), .ref (ad (3 + h))])).length) Slot.unset).toArray = ls at hl ⊢
  have hl : lv_has ls 5 [(0, .ref (ad 0)), (1, .ref (ad (3 + h)))] := hl
  obtain ⟨-, -, ⟨kf, hkf, e5⟩, -⟩ := hv.2.2.2.2.1 h hh
  refine lv_aload_n hx hb dX2_drawAround_0 rfl (lv_at hl 1 rfl) ?_
  refine kI (va_runV (As := []) (rest := []) ⟨hx, hb, hml, hown, hts⟩ (c_X0_dailyNeed l G ad hI nH nP hH hP δ τ h (by omega)) (cwV 0 hts gX2_drawAround_X0_dailyNeed rfl rfl rfl (by decide +kernel) ⟨Nat.le_of_ble_eq_true rfl, Nat.le_of_ble_eq_true rfl⟩) ⟨Pc0.blind, va_recv hK (va_P1 (hV.2.2.2.1 h (by omega))) (ci := 0) (q0 := 0) rfl rfl, Pc0.pre hV hK⟩ rfl rfl hl.1 rfl (lv_room (Nat.le_of_ble_eq_true rfl)) dX2_drawAround_1 ⟨Nat.zero_le _, Nat.zero_le _⟩) hS (fun _ _ q => q) (fun _ q => q) (fun H locs hV _ _ hS => ?_)
  refine lv_istore_n (lv' := [(2, .int (ndF τ h)), (0, .ref (ad 0)), (1, .ref (ad (3 + h)))]) hx hb dX2_drawAround_4 rfl hl (by decide) rfl (fun ls hl => ?_)
  refine lv_aload_n hx hb dX2_drawAround_5 rfl (lv_at hl 2 rfl) ?_
  refine rH 7 (f := 5) (h := h) (v := nI (yq kf nP 0)) hx hb hts hi0 hown hK hV (by omega) hH (by decide) (by decide) rfl e5 k160 dX2_drawAround_6 ?_
  refine lv_istore_n (lv' := [(3, .int (nI (yq kf nP 0))), (2, .int (ndF τ h)), (0, .ref (ad 0)), (1, .ref (ad (3 + h)))]) hx hb dX2_drawAround_9 rfl hl (by decide) rfl (fun ls hl => ?_)
  refine lv_iconst (v := nI 0) hx hb dX2_drawAround_10 (by decide) ?_
  refine lv_istore (lv' := [(4, .int (nI 0)), (3, .int (nI (yq kf nP 0))), (2, .int (ndF τ h)), (0, .ref (ad 0)), (1, .ref (ad (3 + h)))]) hx hb dX2_drawAround_11 hl (by decide) rfl (fun ls hl => ?_)
  refine W_up nP (fun i H locs ls => CVm G ad nH nP δ ((drI nP h i (τ, ndF τ h)).1) H ∧ va_S (AV ad 19) s.heap H locs ∧ lv_has ls 5 [(0, .ref (ad 0)), (1, .ref (ad (3 + h))), (2, .int ((drI nP h i (τ, ndF τ h)).2)), (3, .int (nI (yq kf nP i))), (4, .int (nI i))]) ?_ 0 (by omega) _ _ _ ⟨hV, hS, lv_sub hl [3, 4, 2, 1, 0] rfl⟩
  intro i H locs ls hi ⟨hV, hS, hl⟩ ih
  have hvi : Inv nH nP (drI nP h i (τ, ndF τ h)).1 := hv.oDrI hh i
  have hyq : yq kf nP i ≤ 3 := yq_le hkf hP hi
  refine lv_iload hx hb dX2_drawAround_13 (lv_at hl 4 rfl) ?_
  refine lv_aload_n hx hb dX2_drawAround_15 rfl (lv_at hl 0 rfl) ?_
  refine rV 3 (f := 52) (v := nI nP) hx hb hts hi2 hown hK hV (by decide) (by decide) rfl hvi.2.2.2.1 k31 dX2_drawAround_16 ?_
  refine lv_icmp_ge (tgt := 56) hx hb dX2_drawAround_19 (by decide) (fun c19 => ?_) (fun c19 => ?_)
  · skip
    replace c19 := (nI_leI (a := nP) (b := i) (by omega) (by omega)).mp c19
    obtain rfl : nP = i := by omega
    refine lv_aload_n hx hb dX2_drawAround_56 rfl (lv_at hl 1 rfl) ?_
    refine lv_dup hx hb dX2_drawAround_57 rfl ?_
    refine rH 9 (f := 8) (h := h) (v := ((drI nP h nP (τ, ndF τ h)).1) 8 h) hx hb hts hi0 hown hK hV (by omega) hH (by decide) (by decide) rfl rfl k170 dX2_drawAround_58 ?_
    refine lv_iload_n hx hb dX2_drawAround_61 rfl (lv_at hl 2 rfl) ?_
    refine lv_iadd hx hb dX2_drawAround_62 ?_
    refine wH 9 (f := 8) (h := h) hx hb hts hi0 hown hK hI hV hS (by omega) hH (by decide) (by decide) rfl k170 dX2_drawAround_63 (fun H locs hV hS => ?_)
    exact xV hx hb hr hlocks (by rw [drwF, if_pos h6]; exact hV) hS dX2_drawAround_66
  · skip
    replace c19 : ¬ (nP ≤ i) := fun q => c19 ((nI_leI (a := nP) (b := i) (by omega) (by omega)).mpr q)
    refine lv_aload_n hx hb dX2_drawAround_22 rfl (lv_at hl 0 rfl) ?_
    refine lv_iload_n hx hb dX2_drawAround_23 rfl (lv_at hl 3 rfl) ?_
    refine kI (va_runV (As := [.int (nI (yq kf nP i))]) (rest := []) ⟨hx, hb, hml, hown, hts⟩ (c_X2_isPump l G ad hI nH nP hH hP δ ((drI nP h i (τ, ndF τ h)).1) (nI (yq kf nP i)) hvi.2.2.2.1) (cwV 1 hts gX2_drawAround_X2_isPump rfl rfl rfl (by decide +kernel) ⟨Nat.le_of_ble_eq_true rfl, Nat.le_of_ble_eq_true rfl⟩) ⟨Pc0.blind, va_recv hK (va_P1 (hV.1)) (ci := 2) (q0 := 0) rfl rfl, Pc0.pre hV hK⟩ rfl rfl hl.1 rfl (lv_room (Nat.le_of_ble_eq_true rfl)) dX2_drawAround_24 ⟨Nat.zero_le _, Nat.zero_le _⟩) hS (fun _ _ q => q) (fun _ q => q) (fun H locs hV _ _ hS => ?_)
    refine lv_if_ne (tgt := 32) hx hb dX2_drawAround_27 (by decide) (fun c27 => ?_) (fun c27 => ?_)
    · skip
      have c28 : yq kf nP i < nP := Nat.lt_of_not_le (fun z => c27 (if_pos (Or.inr ((nI_leI (by omega) (by omega)).mpr z))))
      have eq9 : yq kf nP i = (kf + i) % nP := yq_lt hkf c28
      rw [eq9] at hl
      have hq9 : (kf + i) % nP < nP := Nat.mod_lt _ (by omega)
      refine lv_iload_n hx hb dX2_drawAround_32 rfl (lv_at hl 2 rfl) ?_
      refine lv_aload_n hx hb dX2_drawAround_33 rfl (lv_at hl 0 rfl) ?_
      refine lv_aload_n hx hb dX2_drawAround_34 rfl (lv_at hl 0 rfl) ?_
      refine rVp hx hb hts hi2 hown hK hV k19 dX2_drawAround_35 ?_
      refine lv_iload_n hx hb dX2_drawAround_38 rfl (lv_at hl 3 rfl) ?_
      refine rPA (h := (kf + i) % nP) hx hb hK hV (by omega) dX2_drawAround_39 ?_
      refine lv_aload_n hx hb dX2_drawAround_40 rfl (lv_at hl 1 rfl) ?_
      refine lv_iload_n hx hb dX2_drawAround_41 rfl (lv_at hl 2 rfl) ?_
      have efq : fq nP h i (drI nP h i (τ, ndF τ h)).1 = (kf + i) % nP := fq_5 (drI_5.trans e5) (by omega)
      refine kI (va_runV (As := [.ref (ad (13 + ((kf + i) % nP))), .ref (ad (3 + h)), .int ((drI nP h i (τ, ndF τ h)).2)]) (rest := [.int ((drI nP h i (τ, ndF τ h)).2)]) ⟨hx, hb, hml, hown, hts⟩ (c_X2_drawFrom l G ad hI nH nP hH hP δ ((drI nP h i (τ, ndF τ h)).1) ((kf + i) % nP) h ((drI nP h i (τ, ndF τ h)).2) hvi (by omega) (by omega)) (cwV 3 hts gX2_drawAround_X2_drawFrom rfl rfl rfl (by decide +kernel) ⟨Nat.le_of_ble_eq_true rfl, Nat.le_of_ble_eq_true rfl⟩) ⟨Pc0.blind, va_recv hK (va_P1 (hV.1)) (ci := 2) (q0 := 0) rfl rfl, Pc0.pre hV hK⟩ rfl rfl hl.1 rfl (lv_room (Nat.le_of_ble_eq_true rfl)) dX2_drawAround_42 ⟨Nat.zero_le _, Nat.zero_le _⟩) hS (fun _ _ q => q) (fun _ q => q) (fun H locs hV _ _ hS => ?_)
      refine lv_isub hx hb dX2_drawAround_45 ?_
      refine lv_topi (fun yy eyy => ?_)
      obtain rfl : yy = (drI nP h (i + 1) (τ, ndF τ h)).2 := eyy.trans (by show _ = (drI nP h i (τ, ndF τ h)).2 - ownF (fq nP h i (drI nP h i (τ, ndF τ h)).1) (drI nP h i (τ, ndF τ h)).2 (drI nP h i (τ, ndF τ h)).1; rw [efq])
      refine lv_istore_n (lv' := [(2, .int ((drI nP h (i + 1) (τ, ndF τ h)).2)), (0, .ref (ad 0)), (1, .ref (ad (3 + h))), (3, .int (nI ((kf + i) % nP))), (4, .int (nI i))]) hx hb dX2_drawAround_46 rfl hl (by decide) rfl (fun ls hl => ?_)
      refine lv_iinc (k := 3) (v := nI (yq kf nP (i + 1))) (lv' := [(3, .int (nI (yq kf nP (i + 1)))), (2, .int ((drI nP h (i + 1) (τ, ndF τ h)).2)), (0, .ref (ad 0)), (1, .ref (ad (3 + h))), (4, .int (nI i))]) hx hb dX2_drawAround_47 hl rfl ((nI_add _ 1).trans (by rw [yq_s])) (by decide) rfl (fun ls hl => ?_)
      refine lv_iinc (k := 4) (v := nI (i + 1)) (lv' := [(4, .int (nI (i + 1))), (3, .int (nI (yq kf nP (i + 1)))), (2, .int ((drI nP h (i + 1) (τ, ndF τ h)).2)), (0, .ref (ad 0)), (1, .ref (ad (3 + h)))]) hx hb dX2_drawAround_50 hl rfl (nI_add i 1) (by decide) rfl (fun ls hl => ?_)
      refine lv_goto (tgt := 13) hx hb dX2_drawAround_53 (by decide) ?_
      exact ih (by omega) _ _ _ ⟨(by show CVm G ad nH nP δ (drF nP h (fq nP h i (drI nP h i (τ, ndF τ h)).1) (drI nP h i (τ, ndF τ h)).2 (drI nP h i (τ, ndF τ h)).1) H; rw [efq]; exact hV), hS, lv_sub hl [3, 4, 2, 1, 0] rfl⟩
    · skip
      have c28 : nP ≤ yq kf nP i := Nat.le_of_not_lt (fun z => by
        rw [if_neg (fun q => q.elim (nI_pos (by omega)) (nI_ge z (by omega)))] at c27
        exact absurd c27 (by decide))
      have eq9 : 0 = (kf + i) % nP := yq_ge hkf (by omega) c28
      refine lv_iconst (v := nI ((kf + i) % nP)) hx hb dX2_drawAround_30 (by rw [← eq9]; decide) ?_
      refine lv_istore_n (lv' := [(3, .int (nI ((kf + i) % nP))), (0, .ref (ad 0)), (1, .ref (ad (3 + h))), (2, .int ((drI nP h i (τ, ndF τ h)).2)), (4, .int (nI i))]) hx hb dX2_drawAround_31 rfl hl (by decide) rfl (fun ls hl => ?_)
      have hq9 : (kf + i) % nP < nP := Nat.mod_lt _ (by omega)
      refine lv_iload_n hx hb dX2_drawAround_32 rfl (lv_at hl 3 rfl) ?_
      refine lv_aload_n hx hb dX2_drawAround_33 rfl (lv_at hl 1 rfl) ?_
      refine lv_aload_n hx hb dX2_drawAround_34 rfl (lv_at hl 1 rfl) ?_
      refine rVp hx hb hts hi2 hown hK hV k19 dX2_drawAround_35 ?_
      refine lv_iload_n hx hb dX2_drawAround_38 rfl (lv_at hl 0 rfl) ?_
      refine rPA (h := (kf + i) % nP) hx hb hK hV (by omega) dX2_drawAround_39 ?_
      refine lv_aload_n hx hb dX2_drawAround_40 rfl (lv_at hl 2 rfl) ?_
      refine lv_iload_n hx hb dX2_drawAround_41 rfl (lv_at hl 3 rfl) ?_
      have efq : fq nP h i (drI nP h i (τ, ndF τ h)).1 = (kf + i) % nP := fq_5 (drI_5.trans e5) (by omega)
      refine kI (va_runV (As := [.ref (ad (13 + ((kf + i) % nP))), .ref (ad (3 + h)), .int ((drI nP h i (τ, ndF τ h)).2)]) (rest := [.int ((drI nP h i (τ, ndF τ h)).2)]) ⟨hx, hb, hml, hown, hts⟩ (c_X2_drawFrom l G ad hI nH nP hH hP δ ((drI nP h i (τ, ndF τ h)).1) ((kf + i) % nP) h ((drI nP h i (τ, ndF τ h)).2) hvi (by omega) (by omega)) (cwV 3 hts gX2_drawAround_X2_drawFrom rfl rfl rfl (by decide +kernel) ⟨Nat.le_of_ble_eq_true rfl, Nat.le_of_ble_eq_true rfl⟩) ⟨Pc0.blind, va_recv hK (va_P1 (hV.1)) (ci := 2) (q0 := 0) rfl rfl, Pc0.pre hV hK⟩ rfl rfl hl.1 rfl (lv_room (Nat.le_of_ble_eq_true rfl)) dX2_drawAround_42 ⟨Nat.zero_le _, Nat.zero_le _⟩) hS (fun _ _ q => q) (fun _ q => q) (fun H locs hV _ _ hS => ?_)
      refine lv_isub hx hb dX2_drawAround_45 ?_
      refine lv_topi (fun yy eyy => ?_)
      obtain rfl : yy = (drI nP h (i + 1) (τ, ndF τ h)).2 := eyy.trans (by show _ = (drI nP h i (τ, ndF τ h)).2 - ownF (fq nP h i (drI nP h i (τ, ndF τ h)).1) (drI nP h i (τ, ndF τ h)).2 (drI nP h i (τ, ndF τ h)).1; rw [efq])
      refine lv_istore_n (lv' := [(2, .int ((drI nP h (i + 1) (τ, ndF τ h)).2)), (3, .int (nI ((kf + i) % nP))), (0, .ref (ad 0)), (1, .ref (ad (3 + h))), (4, .int (nI i))]) hx hb dX2_drawAround_46 rfl hl (by decide) rfl (fun ls hl => ?_)
      refine lv_iinc (k := 1) (v := nI (yq kf nP (i + 1))) (lv' := [(3, .int (nI (yq kf nP (i + 1)))), (2, .int ((drI nP h (i + 1) (τ, ndF τ h)).2)), (0, .ref (ad 0)), (1, .ref (ad (3 + h))), (4, .int (nI i))]) hx hb dX2_drawAround_47 hl rfl ((nI_add _ 1).trans (by rw [yq_s])) (by decide) rfl (fun ls hl => ?_)
      refine lv_iinc (k := 4) (v := nI (i + 1)) (lv' := [(4, .int (nI (i + 1))), (3, .int (nI (yq kf nP (i + 1)))), (2, .int ((drI nP h (i + 1) (τ, ndF τ h)).2)), (0, .ref (ad 0)), (1, .ref (ad (3 + h)))]) hx hb dX2_drawAround_50 hl rfl (nI_add i 1) (by decide) rfl (fun ls hl => ?_)
      refine lv_goto (tgt := 13) hx hb dX2_drawAround_53 (by decide) ?_
      exact ih (by omega) _ _ _ ⟨(by show CVm G ad nH nP δ (drF nP h (fq nP h i (drI nP h i (τ, ndF τ h)).1) (drI nP h i (τ, ndF τ h)).2 (drI nP h i (τ, ndF τ h)).1) H; rw [efq]; exact hV), hS, lv_sub hl [3, 4, 2, 1, 0] rfl⟩

set_option maxHeartbeats 4000000 in
set_option maxRecDepth 100000 in
theorem c_X2_drawWater (l : Launch) (G : wG) (ad : Nat → Nat) (hI : adInj ad 19) (nH nP : Nat) (hH : nH ≤ 10) (hP : nP ≤ 3) (δ τ : wS)  (hv : Inv nH nP τ) : Met l yX2_drawWater wsX2_drawWater ({ frames := 4, cells := 0, slots := 0, locals := 94 } : Room) (Pc0 G [.ref (ad 0)] (CVm G ad nH nP δ τ)) (Qv0 (CVm G ad nH nP δ (itn (drwF nP) nH τ)) (AV ad 19)) 0 0 (AV ad 19) := by
  refine Met.ofW (cc := cX2_drawWater) (maxL := 2) (ret := none) (by decide) rfl ?_
  intro pg ev s mid args below meth cd s₁ B hml hv0
  obtain ⟨rfl, hV, hK⟩ := hv0
  have hx := B.exec
  have hb := B.bytes
  have hr := B.returns
  have hts := atoms_spec (ws := wsX2_drawWater) B.pre
  have hown : s.vm.findClass RX2 = some mid.cls := findClass_of_methodNamed B.named
  have hlocks := B.notSynchronized
  have hi2 : ∀ w ∈ wsX20, w ∈ wsX2_drawWater := by decide +kernel
  have k27 := hts (.fieldLink RX2 27 "PumpRoster$Village" "houseCount" "I") (by decide +kernel)
  have k11 := hts (.fieldLink RX2 11 "PumpRoster$Village" "houses" "[LPumpRoster$House;") (by decide +kernel)
  have hS : va_S (AV ad 19) s.heap s.heap [] := va_S.rf
  have hl := lv_entry ([.ref (ad 0)]) (n := 2) (Nat.le_of_ble_eq_true rfl)
  rw [lg_entry_eq]
  generalize (lg_sl ([.ref (ad 0)]) ++ List.replicate (2 - (lg_sl ([.ref (ad 0)])).length) Slot.unset).toArray = ls at hl ⊢
  have hl : lv_has ls 2 [(0, .ref (ad 0))] := hl
  refine lv_iconst (v := nI 0) hx hb dX2_drawWater_0 (by decide) ?_
  refine lv_istore_n (lv' := [(1, .int (nI 0)), (0, .ref (ad 0))]) hx hb dX2_drawWater_1 rfl hl (by decide) rfl (fun ls hl => ?_)
  refine W_up nH (fun i H locs ls => CVm G ad nH nP δ (itn (drwF nP) i τ) H ∧ va_S (AV ad 19) s.heap H locs ∧ lv_has ls 2 [(0, .ref (ad 0)), (1, .int (nI i))]) ?_ 0 (by omega) _ _ _ ⟨hV, hS, lv_sub hl [1, 0] rfl⟩
  intro i H locs ls hi ⟨hV, hS, hl⟩ ih
  have hvi : Inv nH nP (itn (drwF nP) i τ) := itn_inv hv (fun k hk x hx => hx.oDrw (by omega))
  refine lv_iload_n hx hb dX2_drawWater_2 rfl (lv_at hl 1 rfl) ?_
  refine lv_aload_n hx hb dX2_drawWater_3 rfl (lv_at hl 0 rfl) ?_
  refine rV 2 (f := 51) (v := nI nH) hx hb hts hi2 hown hK hV (by decide) (by decide) rfl hvi.2.2.1 k27 dX2_drawWater_4 ?_
  refine lv_icmp_ge (tgt := 38) hx hb dX2_drawWater_7 (by decide) (fun c7 => ?_) (fun c7 => ?_)
  · skip
    replace c7 := (nI_leI (a := nH) (b := i) (by omega) (by omega)).mp c7
    obtain rfl : nH = i := by omega
    exact xV hx hb hr hlocks hV hS dX2_drawWater_38
  · skip
    replace c7 : ¬ (nH ≤ i) := fun q => c7 ((nI_leI (a := nH) (b := i) (by omega) (by omega)).mpr q)
    refine lv_aload_n hx hb dX2_drawWater_10 rfl (lv_at hl 0 rfl) ?_
    refine rVh hx hb hts hi2 hown hK hV k11 dX2_drawWater_11 ?_
    refine lv_iload_n hx hb dX2_drawWater_14 rfl (lv_at hl 1 rfl) ?_
    refine rHA (h := i) hx hb hK hV (by omega) dX2_drawWater_15 ?_
    refine kI (va_runV (As := []) (rest := []) ⟨hx, hb, hml, hown, hts⟩ (c_X0_isThere l G ad hI nH nP hH hP δ (itn (drwF nP) i τ) i (by omega)) (cwV 0 hts gX2_drawWater_X0_isThere rfl rfl rfl (by decide +kernel) ⟨Nat.le_of_ble_eq_true rfl, Nat.le_of_ble_eq_true rfl⟩) ⟨Pc0.blind, va_recv hK (va_P1 (hV.2.2.2.1 i (by omega))) (ci := 0) (q0 := 0) rfl rfl, Pc0.pre hV hK⟩ rfl rfl hl.1 rfl (lv_room (Nat.le_of_ble_eq_true rfl)) dX2_drawWater_16 ⟨Nat.zero_le _, Nat.zero_le _⟩) hS (fun _ _ q => q) (fun _ q => q) (fun H locs hV _ _ hS => ?_)
    refine lv_if_eq (tgt := 32) hx hb dX2_drawWater_19 (by decide) (fun c19 => ?_) (fun c19 => ?_)
    · skip
      replace c19 := b0 c19
      refine lv_iinc (k := 1) (v := nI (i + 1)) (lv' := [(1, .int (nI (i + 1))), (0, .ref (ad 0))]) hx hb dX2_drawWater_32 hl rfl (nI_add i 1) (by decide) rfl (fun ls hl => ?_)
      refine lv_goto (tgt := 2) hx hb dX2_drawWater_35 (by decide) ?_
      exact ih (by omega) _ _ _ ⟨(by rw [itn_s, drwF, if_neg c19]; exact hV), hS, lv_sub hl [1, 0] rfl⟩
    · skip
      replace c19 := b1 c19
      refine lv_aload_n hx hb dX2_drawWater_22 rfl (lv_at hl 0 rfl) ?_
      refine lv_aload_n hx hb dX2_drawWater_23 rfl (lv_at hl 0 rfl) ?_
      refine rVh hx hb hts hi2 hown hK hV k11 dX2_drawWater_24 ?_
      refine lv_iload_n hx hb dX2_drawWater_27 rfl (lv_at hl 1 rfl) ?_
      refine rHA (h := i) hx hb hK hV (by omega) dX2_drawWater_28 ?_
      refine kV (va_runV (As := [.ref (ad (3 + i))]) (rest := []) ⟨hx, hb, hml, hown, hts⟩ (c_X2_drawAround l G ad hI nH nP hH hP δ (itn (drwF nP) i τ) i hvi (by omega) c19) (cwV 1 hts gX2_drawWater_X2_drawAround rfl rfl rfl (by decide +kernel) ⟨Nat.le_of_ble_eq_true rfl, Nat.le_of_ble_eq_true rfl⟩) ⟨Pc0.blind, va_recv hK (va_P1 (hV.1)) (ci := 2) (q0 := 0) rfl rfl, Pc0.pre hV hK⟩ rfl rfl hl.1 rfl (lv_room (Nat.le_of_ble_eq_true rfl)) dX2_drawWater_29 ⟨Nat.zero_le _, Nat.zero_le _⟩) hS (fun _ _ q => q) (fun _ q => q) (fun H locs hV _ _ hS => ?_)
      refine lv_iinc (k := 1) (v := nI (i + 1)) (lv' := [(1, .int (nI (i + 1))), (0, .ref (ad 0))]) hx hb dX2_drawWater_32 hl rfl (nI_add i 1) (by decide) rfl (fun ls hl => ?_)
      refine lv_goto (tgt := 2) hx hb dX2_drawWater_35 (by decide) ?_
      exact ih (by omega) _ _ _ ⟨(by rw [itn_s]; exact hV), hS, lv_sub hl [1, 0] rfl⟩

set_option maxHeartbeats 4000000 in
set_option maxRecDepth 100000 in
theorem c_X2_runDays (l : Launch) (G : wG) (ad : Nat → Nat) (hI : adInj ad 19) (nH nP : Nat) (hH : nH ≤ 10) (hP : nP ≤ 3) (δ τ : wS) (n : Nat) (hv : Inv nH nP τ) (hn : n < 2 ^ 31) : Met l yX2_runDays wsX2_runDays ({ frames := 5, cells := 0, slots := 0, locals := 115 } : Room) (Pc0 G [.ref (ad 0), .int (nI n)] (CVm G ad nH nP δ τ)) (Qi0 (sm (fun h => dysF nH nP n τ 29 h) nP - sm (fun h => τ 29 h) nP) (CVm G ad nH nP δ (dysF nH nP n τ)) (AV ad 19)) 0 0 (AV ad 19) := by
  refine Met.ofW (cc := cX2_runDays) (maxL := 4) (ret := (some .int)) (by decide) rfl ?_
  intro pg ev s mid args below meth cd s₁ B hml hv0
  obtain ⟨rfl, hV, hK⟩ := hv0
  have hx := B.exec
  have hb := B.bytes
  have hr := B.returns
  have hts := atoms_spec (ws := wsX2_runDays) B.pre
  have hown : s.vm.findClass RX2 = some mid.cls := findClass_of_methodNamed B.named
  have hlocks := B.notSynchronized
  have hS : va_S (AV ad 19) s.heap s.heap [] := va_S.rf
  have hl := lv_entry ([.ref (ad 0), .int (nI n)]) (n := 4) (Nat.le_of_ble_eq_true rfl)
  rw [lg_entry_eq]
  generalize (lg_sl ([.ref (ad 0), .int (nI n)]) ++ List.replicate (4 - (lg_sl ([.ref (ad 0), .int (nI n)])).length) Slot.unset).toArray = ls at hl ⊢
  have hl : lv_has ls 4 [(0, .ref (ad 0)), (1, .int (nI n))] := hl
  refine lv_aload_n hx hb dX2_runDays_0 rfl (lv_at hl 0 rfl) ?_
  refine kI (va_runV (As := []) (rest := []) ⟨hx, hb, hml, hown, hts⟩ (c_X2_allDrawn l G ad hI nH nP hH hP δ τ hv) (cwV 0 hts gX2_runDays_X2_allDrawn rfl rfl rfl (by decide +kernel) ⟨Nat.le_of_ble_eq_true rfl, Nat.le_of_ble_eq_true rfl⟩) ⟨Pc0.blind, va_recv hK (va_P1 (hV.1)) (ci := 2) (q0 := 0) rfl rfl, Pc0.pre hV hK⟩ rfl rfl hl.1 rfl (lv_room (Nat.le_of_ble_eq_true rfl)) dX2_runDays_1 ⟨Nat.zero_le _, Nat.zero_le _⟩) hS (fun _ _ q => q) (fun _ q => q) (fun H locs hV _ _ hS => ?_)
  refine lv_istore_n (lv' := [(2, .int (sm (fun h => τ 29 h) nP)), (0, .ref (ad 0)), (1, .int (nI n))]) hx hb dX2_runDays_4 rfl hl (by decide) rfl (fun ls hl => ?_)
  refine lv_iconst (v := nI 0) hx hb dX2_runDays_5 (by decide) ?_
  refine lv_istore_n (lv' := [(3, .int (nI 0)), (2, .int (sm (fun h => τ 29 h) nP)), (0, .ref (ad 0)), (1, .int (nI n))]) hx hb dX2_runDays_6 rfl hl (by decide) rfl (fun ls hl => ?_)
  refine W_up n (fun i H locs ls => CVm G ad nH nP δ (dysF nH nP i τ) H ∧ va_S (AV ad 19) s.heap H locs ∧ lv_has ls 4 [(0, .ref (ad 0)), (1, .int (nI n)), (2, .int (sm (fun h => τ 29 h) nP)), (3, .int (nI i))]) ?_ 0 (by omega) _ _ _ ⟨hV, hS, lv_sub hl [2, 3, 1, 0] rfl⟩
  intro i H locs ls hi ⟨hV, hS, hl⟩ ih
  have hvi : Inv nH nP (dysF nH nP i τ) := hv.oDys
  refine lv_iload_n hx hb dX2_runDays_7 rfl (lv_at hl 3 rfl) ?_
  refine lv_iload_n hx hb dX2_runDays_8 rfl (lv_at hl 1 rfl) ?_
  refine lv_icmp_ge (tgt := 46) hx hb dX2_runDays_9 (by decide) (fun c9 => ?_) (fun c9 => ?_)
  · skip
    replace c9 := (nI_leI (a := n) (b := i) (by omega) (by omega)).mp c9
    obtain rfl : n = i := by omega
    refine lv_aload_n hx hb dX2_runDays_46 rfl (lv_at hl 0 rfl) ?_
    refine kI (va_runV (As := []) (rest := []) ⟨hx, hb, hml, hown, hts⟩ (c_X2_allDrawn l G ad hI nH nP hH hP δ (dysF nH nP n τ) hv.oDys) (cwV 0 hts gX2_runDays_X2_allDrawn rfl rfl rfl (by decide +kernel) ⟨Nat.le_of_ble_eq_true rfl, Nat.le_of_ble_eq_true rfl⟩) ⟨Pc0.blind, va_recv hK (va_P1 (hV.1)) (ci := 2) (q0 := 0) rfl rfl, Pc0.pre hV hK⟩ rfl rfl hl.1 rfl (lv_room (Nat.le_of_ble_eq_true rfl)) dX2_runDays_47 ⟨Nat.zero_le _, Nat.zero_le _⟩) hS (fun _ _ q => q) (fun _ q => q) (fun H locs hV _ _ hS => ?_)
    refine lv_iload_n hx hb dX2_runDays_50 rfl (lv_at hl 2 rfl) ?_
    refine lv_isub hx hb dX2_runDays_51 ?_
    exact xI hx hb hr hlocks hV hS rfl dX2_runDays_52
  · skip
    replace c9 : ¬ (n ≤ i) := fun q => c9 ((nI_leI (a := n) (b := i) (by omega) (by omega)).mpr q)
    refine lv_aload_n hx hb dX2_runDays_12 rfl (lv_at hl 0 rfl) ?_
    refine kV (va_runV (As := []) (rest := []) ⟨hx, hb, hml, hown, hts⟩ (c_X2_layEggs l G ad hI nH nP hH hP δ (dysF nH nP i τ) hvi) (cwV 0 hts gX2_runDays_X2_layEggs rfl rfl rfl (by decide +kernel) ⟨Nat.le_of_ble_eq_true rfl, Nat.le_of_ble_eq_true rfl⟩) ⟨Pc0.blind, va_recv hK (va_P1 (hV.1)) (ci := 2) (q0 := 0) rfl rfl, Pc0.pre hV hK⟩ rfl rfl hl.1 rfl (lv_room (Nat.le_of_ble_eq_true rfl)) dX2_runDays_13 ⟨Nat.zero_le _, Nat.zero_le _⟩) hS (fun _ _ q => q) (fun _ q => q) (fun H locs hV _ _ hS => ?_)
    refine lv_aload_n hx hb dX2_runDays_16 rfl (lv_at hl 0 rfl) ?_
    refine kV (va_runV (As := []) (rest := []) ⟨hx, hb, hml, hown, hts⟩ (c_X2_passKeys l G ad hI nH nP hH hP δ (itn layF nH (dysF nH nP i τ)) (itn_inv hvi (fun _ _ _ hx => hx.oLay))) (cwV 0 hts gX2_runDays_X2_passKeys rfl rfl rfl (by decide +kernel) ⟨Nat.le_of_ble_eq_true rfl, Nat.le_of_ble_eq_true rfl⟩) ⟨Pc0.blind, va_recv hK (va_P1 (hV.1)) (ci := 2) (q0 := 0) rfl rfl, Pc0.pre hV hK⟩ rfl rfl hl.1 rfl (lv_room (Nat.le_of_ble_eq_true rfl)) dX2_runDays_17 ⟨Nat.zero_le _, Nat.zero_le _⟩) hS (fun _ _ q => q) (fun _ q => q) (fun H locs hV _ _ hS => ?_)
    refine lv_aload_n hx hb dX2_runDays_20 rfl (lv_at hl 0 rfl) ?_
    have hv2 := itn_inv (P := Inv nH nP) (f := keyF nP) (n := nP) (itn_inv (P := Inv nH nP) (f := layF) (n := nH) hvi (fun _ _ _ hx => hx.oLay)) (fun k hk _ hx => hx.oKeyF hk)
    refine kV (va_runV (As := []) (rest := []) ⟨hx, hb, hml, hown, hts⟩ (c_X2_drawWater l G ad hI nH nP hH hP δ (itn (keyF nP) nP (itn layF nH (dysF nH nP i τ))) hv2) (cwV 0 hts gX2_runDays_X2_drawWater rfl rfl rfl (by decide +kernel) ⟨Nat.le_of_ble_eq_true rfl, Nat.le_of_ble_eq_true rfl⟩) ⟨Pc0.blind, va_recv hK (va_P1 (hV.1)) (ci := 2) (q0 := 0) rfl rfl, Pc0.pre hV hK⟩ rfl rfl hl.1 rfl (lv_room (Nat.le_of_ble_eq_true rfl)) dX2_runDays_21 ⟨Nat.zero_le _, Nat.zero_le _⟩) hS (fun _ _ q => q) (fun _ q => q) (fun H locs hV _ _ hS => ?_)
    refine lv_aload_n hx hb dX2_runDays_24 rfl (lv_at hl 0 rfl) ?_
    have hv3 := itn_inv (P := Inv nH nP) (f := drwF nP) (n := nH) hv2 (fun k hk _ hx => hx.oDrw hk)
    refine kV (va_runV (As := []) (rest := []) ⟨hx, hb, hml, hown, hts⟩ (c_X2_mendHandles l G ad hI nH nP hH hP δ (itn (drwF nP) nH (itn (keyF nP) nP (itn layF nH (dysF nH nP i τ)))) hv3) (cwV 0 hts gX2_runDays_X2_mendHandles rfl rfl rfl (by decide +kernel) ⟨Nat.le_of_ble_eq_true rfl, Nat.le_of_ble_eq_true rfl⟩) ⟨Pc0.blind, va_recv hK (va_P1 (hV.1)) (ci := 2) (q0 := 0) rfl rfl, Pc0.pre hV hK⟩ rfl rfl hl.1 rfl (lv_room (Nat.le_of_ble_eq_true rfl)) dX2_runDays_25 ⟨Nat.zero_le _, Nat.zero_le _⟩) hS (fun _ _ q => q) (fun _ q => q) (fun H locs hV _ _ hS => ?_)
    refine lv_aload_n hx hb dX2_runDays_28 rfl (lv_at hl 0 rfl) ?_
    have hv4 := itn_inv (P := Inv nH nP) (f := mndF) (n := nP) hv3 (fun k hk _ hx => hx.oMnd hk)
    refine kV (va_runV (As := []) (rest := []) ⟨hx, hb, hml, hown, hts⟩ (c_X2_fillWells l G ad hI nH nP hH hP δ (itn mndF nP (itn (drwF nP) nH (itn (keyF nP) nP (itn layF nH (dysF nH nP i τ))))) hv4) (cwV 0 hts gX2_runDays_X2_fillWells rfl rfl rfl (by decide +kernel) ⟨Nat.le_of_ble_eq_true rfl, Nat.le_of_ble_eq_true rfl⟩) ⟨Pc0.blind, va_recv hK (va_P1 (hV.1)) (ci := 2) (q0 := 0) rfl rfl, Pc0.pre hV hK⟩ rfl rfl hl.1 rfl (lv_room (Nat.le_of_ble_eq_true rfl)) dX2_runDays_29 ⟨Nat.zero_le _, Nat.zero_le _⟩) hS (fun _ _ q => q) (fun _ q => q) (fun H locs hV _ _ hS => ?_)
    refine lv_aload_n hx hb dX2_runDays_32 rfl (lv_at hl 0 rfl) ?_
    have hv5 := itn_inv (P := Inv nH nP) (f := filF) (n := nP) hv4 (fun k hk _ hx => hx.free (by omega))
    refine kV (va_runV (As := []) (rest := []) ⟨hx, hb, hml, hown, hts⟩ (c_X2_shareChest l G ad hI nH nP hH hP δ (itn filF nP (itn mndF nP (itn (drwF nP) nH (itn (keyF nP) nP (itn layF nH (dysF nH nP i τ)))))) hv5) (cwV 0 hts gX2_runDays_X2_shareChest rfl rfl rfl (by decide +kernel) ⟨Nat.le_of_ble_eq_true rfl, Nat.le_of_ble_eq_true rfl⟩) ⟨Pc0.blind, va_recv hK (va_P1 (hV.1)) (ci := 2) (q0 := 0) rfl rfl, Pc0.pre hV hK⟩ rfl rfl hl.1 rfl (lv_room (Nat.le_of_ble_eq_true rfl)) dX2_runDays_33 ⟨Nat.zero_le _, Nat.zero_le _⟩) hS (fun _ _ q => q) (fun _ q => q) (fun H locs hV _ _ hS => ?_)
    refine lv_aload_n hx hb dX2_runDays_36 rfl (lv_at hl 0 rfl) ?_
    refine kV (va_runV (As := []) (rest := []) ⟨hx, hb, hml, hown, hts⟩ (c_X2_endDay l G ad hI nH nP hH hP δ (shrF nH (itn filF nP (itn mndF nP (itn (drwF nP) nH (itn (keyF nP) nP (itn layF nH (dysF nH nP i τ))))))) hv5.oShrF) (cwV 0 hts gX2_runDays_X2_endDay rfl rfl rfl (by decide +kernel) ⟨Nat.le_of_ble_eq_true rfl, Nat.le_of_ble_eq_true rfl⟩) ⟨Pc0.blind, va_recv hK (va_P1 (hV.1)) (ci := 2) (q0 := 0) rfl rfl, Pc0.pre hV hK⟩ rfl rfl hl.1 rfl (lv_room (Nat.le_of_ble_eq_true rfl)) dX2_runDays_37 ⟨Nat.zero_le _, Nat.zero_le _⟩) hS (fun _ _ q => q) (fun _ q => q) (fun H locs hV _ _ hS => ?_)
    refine lv_iinc (k := 3) (v := nI (i + 1)) (lv' := [(3, .int (nI (i + 1))), (0, .ref (ad 0)), (1, .int (nI n)), (2, .int (sm (fun h => τ 29 h) nP))]) hx hb dX2_runDays_40 hl rfl (nI_add i 1) (by decide) rfl (fun ls hl => ?_)
    refine lv_goto (tgt := 7) hx hb dX2_runDays_43 (by decide) ?_
    exact ih (by omega) _ _ _ ⟨hV, hS, lv_sub hl [1, 2, 3, 0] rfl⟩
