theorem chg_v {nP h f i : Nat} {e : Int32} {σ : wS} (hf : f < 26) (h1 : f ≠ 3) (h2 : f ≠ 4) (h3 : f ≠ 10) : chgF nP h e σ f i = σ f i := by
  have c1 : chg1 h e σ f i = σ f i := by
    unfold chg1
    rw [wst_f (by omega), wst_f (by omega), wst_f (by omega)]
  unfold chgF
  split
  · split
    · rw [itn_col (fun k x => strkH_v hf), wst_f (by omega), c1]
    · rw [wst_f (by omega), c1]
  · exact c1
theorem dr_v {nP h q f i : Nat} {x : Int32} {σ : wS} (hf : f < 20) (h1 : f ≠ 3) (h2 : f ≠ 4) (h3 : f ≠ 10) : drF nP h q x σ f i = σ f i := by
  have c1 : ∀ y, dr1 q y σ f i = σ f i := fun y => by
    unfold dr1
    rw [wst_f (by omega), wst_f (by omega), wst_f (by omega)]
  unfold drF
  split
  · rfl
  · split
    · exact c1 _
    · rw [chg_v (by omega) h1 h2 h3, wst_f (by omega), wst_f (by omega), wst_f (by omega), c1]
theorem drI_v {nP h f i : Nat} {x : Int32} {σ : wS} (hf : f < 20) (h1 : f ≠ 3) (h2 : f ≠ 4) (h3 : f ≠ 10) : ∀ {k}, (drI nP h k (σ, x)).1 f i = σ f i
  | 0 => rfl
  | k + 1 => (dr_v hf h1 h2 h3).trans (drI_v hf h1 h2 h3 (k := k))

set_option maxHeartbeats 4000000 in
set_option maxRecDepth 100000 in
theorem c_X4_draw (l : Launch) (G : wG) (ad : Nat → Nat) (hI : adInj ad 6) (nH nP : Nat) (hH : nH ≤ 10) (hP : nP ≤ 3) (δ τ : wS) (h : Nat) (hv : Inv nH nP τ) (hh : h < nH) (h6 : τ 6 h = 0) : Met l yX4_draw wsX4_draw ({ frames := 2, cells := 0, slots := 0, locals := 49 } : Room) (Pc0 G [.ref (ad 0), .int (nI h)] (RVm G ad nH nP δ τ)) (Qi0 (ndF τ h - (drI nP h nP (τ, ndF τ h)).2) (RVm G ad nH nP δ (drwF nP h τ)) (AV ad 6)) 0 0 (AV ad 6) := by
  refine Met.ofW (cc := cX4_draw) (maxL := 7) (ret := (some .int)) (by decide) rfl ?_
  intro pg ev s mid args below meth cd s₁ B hml hv0
  obtain ⟨rfl, hV, hK⟩ := hv0
  have hx := B.exec
  have hb := B.bytes
  have hr := B.returns
  have hts := atoms_spec (ws := wsX4_draw) B.pre
  have hown : s.vm.findClass RX4 = some mid.cls := findClass_of_methodNamed B.named
  have hlocks := B.notSynchronized
  have hi4 : ∀ w ∈ wsX40, w ∈ wsX4_draw := by decide +kernel
  have k35 := hts (.fieldLink RX4 35 "PumpRosterModel$State" "pumps" "I") (by decide +kernel)
  have k9 := hts (.fieldLink RX4 9 "PumpRosterModel$State" "house" "[I") (by decide +kernel)
  have k21 := hts (.fieldLink RX4 21 "PumpRosterModel$State" "isOpen" "[Z") (by decide +kernel)
  have k15 := hts (.fieldLink RX4 15 "PumpRosterModel$State" "pump" "[I") (by decide +kernel)
  have k25 := hts (.fieldLink RX4 25 "PumpRosterModel$State" "isNew" "[Z") (by decide +kernel)
  have km51 := hts (.methodLink RX4 51 Lib.Math.min.name) (by decide +kernel)
  have ksmin := hts (.static Lib.Math.min.name) (by decide +kernel)
  have kmath := hts (.initialized "java/lang/Math") (by decide +kernel)
  have kcmin := hts (.code Lib.Math.min.name Lib.Math.min.code 2 (some .int)) (by decide +kernel)
  have hS : va_S (AV ad 6) s.heap s.heap [] := va_S.rf
  have hl := lv_entry ([.ref (ad 0), .int (nI h)]) (n := 7) (Nat.le_of_ble_eq_true rfl)
  rw [lg_entry_eq]
  generalize (lg_sl ([.ref (ad 0), .int (nI h)]) ++ List.replicate (7 - (lg_sl ([.ref (ad 0), .int (nI h)])).length) Slot.unset).toArray = ls at hl ⊢
  have hl : lv_has ls 7 [(0, .ref (ad 0)), (1, .int (nI h))] := hl
  obtain ⟨-, -, ⟨kf, hkf, e5⟩, -⟩ := hv.2.2.2.2.1 h hh
  refine lv_aload_n hx hb dX4_draw_0 rfl (lv_at hl 0 rfl) ?_
  refine lv_iload_n hx hb dX4_draw_1 rfl (lv_at hl 1 rfl) ?_
  refine kI (va_runV (As := [.int (nI h)]) (rest := []) ⟨hx, hb, hml, hown, hts⟩ (c_X4_needs l G ad hI nH nP hH hP δ τ h (by omega)) (cwV 1 hts gX4_draw_X4_needs rfl rfl rfl (by decide +kernel) ⟨Nat.le_of_ble_eq_true rfl, Nat.le_of_ble_eq_true rfl⟩) ⟨Pc0.blind, va_recv hK (va_P1 (hV.1)) (ci := 4) (q0 := 0) rfl rfl, Pc0.pre hV hK⟩ rfl rfl hl.1 rfl (lv_room (Nat.le_of_ble_eq_true rfl)) dX4_draw_2 ⟨Nat.zero_le _, Nat.zero_le _⟩) hS (fun _ _ q => q) (fun _ q => q) (fun H locs hV _ _ hS => ?_)
  refine lv_topi (fun yy eyy => ?_)
  obtain rfl : yy = ndF τ h := eyy.trans (if_pos h6)
  refine lv_istore_n (lv' := [(2, .int (ndF τ h)), (0, .ref (ad 0)), (1, .int (nI h))]) hx hb dX4_draw_5 rfl hl (by decide) rfl (fun ls hl => ?_)
  refine lv_iconst (v := nI 0) hx hb dX4_draw_6 (by decide) ?_
  refine lv_istore_n (lv' := [(3, .int (nI 0)), (2, .int (ndF τ h)), (0, .ref (ad 0)), (1, .int (nI h))]) hx hb dX4_draw_7 rfl hl (by decide) rfl (fun ls hl => ?_)
  refine W_up nP (fun i H locs ls => RVm G ad nH nP δ ((drI nP h i (τ, ndF τ h)).1) H ∧ va_S (AV ad 6) s.heap H locs ∧ lv_has ls 7 [(0, .ref (ad 0)), (1, .int (nI h)), (2, .int ((drI nP h i (τ, ndF τ h)).2)), (3, .int (nI i))]) ?_ 0 (by omega) _ _ _ ⟨hV, hS, lv_sub hl [2, 3, 1, 0] rfl⟩
  intro i H locs ls hi ⟨hV, hS, hl⟩ ih
  have hvi : Inv nH nP (drI nP h i (τ, ndF τ h)).1 := hv.oDrI hh i
  have e5i : (drI nP h i (τ, ndF τ h)).1 5 h = nI kf := drI_5.trans e5
  refine lv_iload_n hx hb dX4_draw_8 rfl (lv_at hl 3 rfl) ?_
  refine lv_aload_n hx hb dX4_draw_9 rfl (lv_at hl 0 rfl) ?_
  refine rSi 3 (f := 52) (v := nI nP) hx hb hts hi4 hown hK hV (by decide) rfl hvi.2.2.2.1 k35 dX4_draw_10 ?_
  refine lv_icmp_ge (tgt := 194) hx hb dX4_draw_13 (by decide) (fun c13 => ?_) (fun c13 => ?_)
  · skip
    replace c13 := (nI_leI (a := nP) (b := i) (by omega) (by omega)).mp c13
    obtain rfl : nP = i := by omega
    refine lv_aload_n hx hb dX4_draw_194 rfl (lv_at hl 0 rfl) ?_
    refine rSf 2 (j := 1) hx hb hts hi4 hown hK hV (by decide) rfl k9 dX4_draw_195 ?_
    refine lv_bipush (v := 11) hx hb dX4_draw_198 (by decide) ?_
    refine lv_iload_n hx hb dX4_draw_200 rfl (lv_at hl 1 rfl) ?_
    refine lv_imul hx hb dX4_draw_201 ?_
    refine lv_topi (fun y1 ey1 => ?_)
    obtain rfl : y1 = nI (11 * h) := ey1.trans (pk_mul 11 h)
    refine lv_bipush (v := 8) hx hb dX4_draw_202 (by decide) ?_
    refine lv_iadd hx hb dX4_draw_204 ?_
    refine lv_topi (fun y2 ey2 => ?_)
    obtain rfl : y2 = nI (11 * h + 8) := ey2.trans (nI_add (11 * h) 8)
    refine lv_dup2_11 hx hb dX4_draw_205 rfl rfl ?_
    refine rSh (h := h) (f := 8) (v := ((drI nP h nP (τ, ndF τ h)).1) 8 h) hx hb hK hV (by omega) (by omega) (by omega) hH rfl dX4_draw_206 ?_
    refine lv_iload_n hx hb dX4_draw_207 rfl (lv_at hl 2 rfl) ?_
    refine lv_iadd hx hb dX4_draw_208 ?_
    refine wSh (h := h) (f := 8) hx hb hK hI hV hS (fun _ q => q) (by omega) (by omega) (by omega) hH dX4_draw_209 (fun H locs hV _ hS => ?_)
    refine lv_aload_n hx hb dX4_draw_210 rfl (lv_at hl 0 rfl) ?_
    refine lv_iload_n hx hb dX4_draw_211 rfl (lv_at hl 1 rfl) ?_
    refine kI (va_runV (As := [.int (nI h)]) (rest := []) ⟨hx, hb, hml, hown, hts⟩ (c_X4_needs l G ad hI nH nP hH hP δ (wst ((drI nP h nP (τ, ndF τ h)).1) 8 h ((((drI nP h nP (τ, ndF τ h)).1) 8 h) + ((drI nP h nP (τ, ndF τ h)).2))) h (by omega)) (cwV 1 hts gX4_draw_X4_needs rfl rfl rfl (by decide +kernel) ⟨Nat.le_of_ble_eq_true rfl, Nat.le_of_ble_eq_true rfl⟩) ⟨Pc0.blind, va_recv hK (va_P1 (hV.1)) (ci := 4) (q0 := 0) rfl rfl, Pc0.pre hV hK⟩ rfl rfl hl.1 rfl (lv_room (Nat.le_of_ble_eq_true rfl)) dX4_draw_212 ⟨Nat.zero_le _, Nat.zero_le _⟩) hS (fun _ _ q => q) (fun _ q => q) (fun H locs hV _ _ hS => ?_)
    refine lv_topi (fun yy eyy => ?_)
    obtain rfl : yy = ndF τ h := eyy.trans (by
      rw [wst_f (by decide), drI_v (by decide) (by decide) (by decide) (by decide), if_pos h6, ndF, ndF, wst_f (by decide), drI_v (by decide) (by decide) (by decide) (by decide)])
    refine lv_iload_n hx hb dX4_draw_215 rfl (lv_at hl 2 rfl) ?_
    refine lv_isub hx hb dX4_draw_216 ?_
    exact xI hx hb hr hlocks (by rw [drwF, if_pos h6]; exact hV) hS rfl dX4_draw_217
  · skip
    replace c13 : ¬ (nP ≤ i) := fun q => c13 ((nI_leI (a := nP) (b := i) (by omega) (by omega)).mpr q)
    refine lv_aload_n hx hb dX4_draw_16 rfl (lv_at hl 0 rfl) ?_
    refine rSf 2 (j := 1) hx hb hts hi4 hown hK hV (by decide) rfl k9 dX4_draw_17 ?_
    refine lv_bipush (v := 11) hx hb dX4_draw_20 (by decide) ?_
    refine lv_iload_n hx hb dX4_draw_22 rfl (lv_at hl 1 rfl) ?_
    refine lv_imul hx hb dX4_draw_23 ?_
    refine lv_topi (fun y3 ey3 => ?_)
    obtain rfl : y3 = nI (11 * h) := ey3.trans (pk_mul 11 h)
    refine lv_iconst (v := 5) hx hb dX4_draw_24 (by decide) ?_
    refine lv_iadd hx hb dX4_draw_25 ?_
    refine lv_topi (fun y4 ey4 => ?_)
    obtain rfl : y4 = nI (11 * h + 5) := ey4.trans (nI_add (11 * h) 5)
    refine rSh (h := h) (f := 5) (v := nI kf) hx hb hK hV (by omega) (by omega) (by omega) hH e5i dX4_draw_26 ?_
    refine lv_iload_n hx hb dX4_draw_27 rfl (lv_at hl 3 rfl) ?_
    refine lv_iadd hx hb dX4_draw_28 ?_
    refine lv_topi (fun y5 ey5 => ?_)
    obtain rfl : y5 = nI (kf + i) := ey5.trans (nI_add kf i)
    refine lv_aload_n hx hb dX4_draw_29 rfl (lv_at hl 0 rfl) ?_
    refine rSi 3 (f := 52) (v := nI nP) hx hb hts hi4 hown hK hV (by decide) rfl hvi.2.2.2.1 k35 dX4_draw_30 ?_
    obtain ⟨q, hq⟩ : ∃ q, fq nP h i (drI nP h i (τ, ndF τ h)).1 = q := ⟨_, rfl⟩
    have hqe : (kf + i) % nP = q := (fq_5 e5i (by omega)).symm.trans hq
    have hqn : q < nP := by rw [← hqe]; exact Nat.mod_lt _ (by omega)
    refine lv_irem hx hb dX4_draw_33 (nI_ne0 (by omega) (by omega)) ?_
    refine lv_topi (fun y6 ey6 => ?_)
    obtain rfl : y6 = nI q := ey6.trans ((pk_rem (by omega) (by omega) (by omega)).trans (by rw [hqe]))
    refine lv_istore (lv' := [(4, .int (nI q)), (0, .ref (ad 0)), (1, .int (nI h)), (2, .int ((drI nP h i (τ, ndF τ h)).2)), (3, .int (nI i))]) hx hb dX4_draw_34 hl (by decide) rfl (fun ls hl => ?_)
    refine lv_bipush (v := 11) hx hb dX4_draw_36 (by decide) ?_
    refine lv_iload hx hb dX4_draw_38 (lv_at hl 0 rfl) ?_
    refine lv_imul hx hb dX4_draw_40 ?_
    refine lv_topi (fun y7 ey7 => ?_)
    obtain rfl : y7 = nI (11 * q) := ey7.trans (pk_mul 11 q)
    refine lv_istore (lv' := [(5, .int (nI (11 * q))), (4, .int (nI q)), (0, .ref (ad 0)), (1, .int (nI h)), (2, .int ((drI nP h i (τ, ndF τ h)).2)), (3, .int (nI i))]) hx hb dX4_draw_41 hl (by decide) rfl (fun ls hl => ?_)
    refine lv_aload_n hx hb dX4_draw_43 rfl (lv_at hl 2 rfl) ?_
    refine rSf 6 (j := 4) hx hb hts hi4 hown hK hV (by decide) rfl k21 dX4_draw_44 ?_
    refine lv_iload hx hb dX4_draw_47 (lv_at hl 1 rfl) ?_
    refine rSo (h := q) (v := ((drI nP h i (τ, ndF τ h)).1) 31 q) hx hb hK hV (by omega) rfl dX4_draw_49 ?_
    refine lv_if_eq (tgt := 79) hx hb dX4_draw_50 (by decide) (fun c50 => ?_) (fun c50 => ?_)
    · skip
      refine lv_iconst (v := 0) hx hb dX4_draw_79 (by decide) ?_
      refine lv_topi (fun yy eyy => ?_)
      obtain rfl : yy = ownF q (drI nP h i (τ, ndF τ h)).2 (drI nP h i (τ, ndF τ h)).1 := eyy.trans (if_pos (by first | exact Or.inl c50 | exact Or.inr c62)).symm
      refine lv_istore (lv' := [(6, .int (ownF q (drI nP h i (τ, ndF τ h)).2 (drI nP h i (τ, ndF τ h)).1)), (5, .int (nI (11 * q))), (4, .int (nI q)), (0, .ref (ad 0)), (1, .int (nI h)), (2, .int ((drI nP h i (τ, ndF τ h)).2)), (3, .int (nI i))]) hx hb dX4_draw_80 hl (by decide) rfl (fun ls hl => ?_)
      refine lv_iload hx hb dX4_draw_82 (lv_at hl 0 rfl) ?_
      refine lv_if_ne (tgt := 90) hx hb dX4_draw_84 (by decide) (fun c84 => ?_) (fun c84 => ?_)
      · skip
        refine lv_iload_n hx hb dX4_draw_90 rfl (lv_at hl 5 rfl) ?_
        refine lv_iload hx hb dX4_draw_91 (lv_at hl 0 rfl) ?_
        refine lv_isub hx hb dX4_draw_93 ?_
        refine lv_istore_n (lv' := [(2, .int (((drI nP h i (τ, ndF τ h)).2) - (ownF q (drI nP h i (τ, ndF τ h)).2 (drI nP h i (τ, ndF τ h)).1))), (6, .int (ownF q (drI nP h i (τ, ndF τ h)).2 (drI nP h i (τ, ndF τ h)).1)), (5, .int (nI (11 * q))), (4, .int (nI q)), (0, .ref (ad 0)), (1, .int (nI h)), (3, .int (nI i))]) hx hb dX4_draw_94 rfl hl (by decide) rfl (fun ls hl => ?_)
        refine lv_aload_n hx hb dX4_draw_95 rfl (lv_at hl 4 rfl) ?_
        refine rSf 4 (j := 2) hx hb hts hi4 hown hK hV (by decide) rfl k15 dX4_draw_96 ?_
        refine lv_iload hx hb dX4_draw_99 (lv_at hl 2 rfl) ?_
        refine lv_dup2_11 hx hb dX4_draw_101 rfl rfl ?_
        refine rSp (h := q) (f := 0) (g := 20) (v := ((drI nP h i (τ, ndF τ h)).1) 20 q) hx hb hK hV (by omega) (by omega) (by omega) (by omega) hP rfl dX4_draw_102 ?_
        refine lv_iload hx hb dX4_draw_103 (lv_at hl 1 rfl) ?_
        refine lv_isub hx hb dX4_draw_105 ?_
        refine wSp (h := q) (f := 0) (g := 20) hx hb hK hI hV hS (fun _ q => q) (by omega) (by omega) (by omega) (by omega) hP dX4_draw_106 (fun H locs hV _ hS => ?_)
        refine lv_aload_n hx hb dX4_draw_107 rfl (lv_at hl 4 rfl) ?_
        refine rSf 4 (j := 2) hx hb hts hi4 hown hK hV (by decide) rfl k15 dX4_draw_108 ?_
        refine lv_iload hx hb dX4_draw_111 (lv_at hl 2 rfl) ?_
        refine lv_iconst (v := 2) hx hb dX4_draw_113 (by decide) ?_
        refine lv_iadd hx hb dX4_draw_114 ?_
        refine lv_topi (fun y8 ey8 => ?_)
        obtain rfl : y8 = nI (11 * q + 2) := ey8.trans (nI_add (11 * q) 2)
        refine lv_dup2_11 hx hb dX4_draw_115 rfl rfl ?_
        refine rSp (h := q) (f := 2) (g := 22) (v := ((drI nP h i (τ, ndF τ h)).1) 22 q) hx hb hK hV (by omega) (by omega) (by omega) (by omega) hP (wst_f (by decide)) dX4_draw_116 ?_
        refine lv_iload hx hb dX4_draw_117 (lv_at hl 1 rfl) ?_
        refine lv_iadd hx hb dX4_draw_119 ?_
        refine wSp (h := q) (f := 2) (g := 22) hx hb hK hI hV hS (fun _ q => q) (by omega) (by omega) (by omega) (by omega) hP dX4_draw_120 (fun H locs hV _ hS => ?_)
        refine lv_aload_n hx hb dX4_draw_121 rfl (lv_at hl 4 rfl) ?_
        refine rSf 4 (j := 2) hx hb hts hi4 hown hK hV (by decide) rfl k15 dX4_draw_122 ?_
        refine lv_iload hx hb dX4_draw_125 (lv_at hl 2 rfl) ?_
        refine lv_bipush (v := 9) hx hb dX4_draw_127 (by decide) ?_
        refine lv_iadd hx hb dX4_draw_129 ?_
        refine lv_topi (fun y9 ey9 => ?_)
        obtain rfl : y9 = nI (11 * q + 9) := ey9.trans (nI_add (11 * q) 9)
        refine lv_dup2_11 hx hb dX4_draw_130 rfl rfl ?_
        refine rSp (h := q) (f := 9) (g := 29) (v := ((drI nP h i (τ, ndF τ h)).1) 29 q) hx hb hK hV (by omega) (by omega) (by omega) (by omega) hP ((wst_f (by decide)).trans (wst_f (by decide))) dX4_draw_131 ?_
        refine lv_iload hx hb dX4_draw_132 (lv_at hl 1 rfl) ?_
        refine lv_iadd hx hb dX4_draw_134 ?_
        refine wSp (h := q) (f := 9) (g := 29) hx hb hK hI hV hS (fun _ q => q) (by omega) (by omega) (by omega) (by omega) hP dX4_draw_135 (fun H locs hV _ hS => ?_)
        rw [wst_comm (f := 22) (g := 29) (by omega)] at hV
        have hV : RVm G ad nH nP δ (dr1 q (ownF q (drI nP h i (τ, ndF τ h)).2 (drI nP h i (τ, ndF τ h)).1) (drI nP h i (τ, ndF τ h)).1) H := hV
        refine lv_aload_n hx hb dX4_draw_136 rfl (lv_at hl 4 rfl) ?_
        refine rSf 4 (j := 2) hx hb hts hi4 hown hK hV (by decide) rfl k15 dX4_draw_137 ?_
        refine lv_iload hx hb dX4_draw_140 (lv_at hl 2 rfl) ?_
        refine lv_iconst (v := 2) hx hb dX4_draw_142 (by decide) ?_
        refine lv_iadd hx hb dX4_draw_143 ?_
        refine lv_topi (fun y10 ey10 => ?_)
        obtain rfl : y10 = nI (11 * q + 2) := ey10.trans (nI_add (11 * q) 2)
        refine rSp (h := q) (f := 2) (g := 22) (v := ((drI nP h i (τ, ndF τ h)).1) 22 q + (ownF q (drI nP h i (τ, ndF τ h)).2 (drI nP h i (τ, ndF τ h)).1)) hx hb hK hV (by omega) (by omega) (by omega) (by omega) hP (by unfold dr1; exact wst_s) dX4_draw_144 ?_
        refine lv_bipush (v := 100) hx hb dX4_draw_145 (by decide) ?_
        refine lv_icmp_ge (tgt := 153) hx hb dX4_draw_147 (by decide) (fun c147 => ?_) (fun c147 => ?_)
        · skip
          refine lv_aload_n hx hb dX4_draw_153 rfl (lv_at hl 4 rfl) ?_
          refine rSf 4 (j := 2) hx hb hts hi4 hown hK hV (by decide) rfl k15 dX4_draw_154 ?_
          refine lv_iload hx hb dX4_draw_157 (lv_at hl 2 rfl) ?_
          refine lv_iconst (v := 3) hx hb dX4_draw_159 (by decide) ?_
          refine lv_iadd hx hb dX4_draw_160 ?_
          refine lv_topi (fun y11 ey11 => ?_)
          obtain rfl : y11 = nI (11 * q + 3) := ey11.trans (nI_add (11 * q) 3)
          refine lv_iconst (v := 1) hx hb dX4_draw_161 (by decide) ?_
          refine wSp (h := q) (f := 3) (g := 23) hx hb hK hI hV hS (fun _ q => q) (by omega) (by omega) (by omega) (by omega) hP dX4_draw_162 (fun H locs hV _ hS => ?_)
          refine lv_aload_n hx hb dX4_draw_163 rfl (lv_at hl 4 rfl) ?_
          refine rSf 4 (j := 2) hx hb hts hi4 hown hK hV (by decide) rfl k15 dX4_draw_164 ?_
          refine lv_iload hx hb dX4_draw_167 (lv_at hl 2 rfl) ?_
          refine lv_iconst (v := 4) hx hb dX4_draw_169 (by decide) ?_
          refine lv_iadd hx hb dX4_draw_170 ?_
          refine lv_topi (fun y12 ey12 => ?_)
          obtain rfl : y12 = nI (11 * q + 4) := ey12.trans (nI_add (11 * q) 4)
          refine lv_iconst (v := 3) hx hb dX4_draw_171 (by decide) ?_
          refine wSp (h := q) (f := 4) (g := 24) hx hb hK hI hV hS (fun _ q => q) (by omega) (by omega) (by omega) (by omega) hP dX4_draw_172 (fun H locs hV _ hS => ?_)
          refine lv_aload_n hx hb dX4_draw_173 rfl (lv_at hl 4 rfl) ?_
          refine rSf 7 (j := 5) hx hb hts hi4 hown hK hV (by decide) rfl k25 dX4_draw_174 ?_
          refine lv_iload hx hb dX4_draw_177 (lv_at hl 3 rfl) ?_
          refine lv_iconst (v := 1) hx hb dX4_draw_179 (by decide) ?_
          refine wSn (h := q) hx hb hK hI hV hS (fun _ q => q) (by omega) hP (by decide) dX4_draw_180 (fun H locs hV _ hS => ?_)
          rw [wst_comm (f := 24) (g := 32) (by omega)] at hV
          have hvb : Inv nH nP (wst (wst (wst (dr1 q (ownF q (drI nP h i (τ, ndF τ h)).2 (drI nP h i (τ, ndF τ h)).1) (drI nP h i (τ, ndF τ h)).1) 23 q 1) 32 q 1) 24 q 3) := hvi.oBrk
          refine lv_aload_n hx hb dX4_draw_181 rfl (lv_at hl 4 rfl) ?_
          refine lv_iload_n hx hb dX4_draw_182 rfl (lv_at hl 5 rfl) ?_
          refine lv_iconst (v := 5) hx hb dX4_draw_183 (by decide) ?_
          refine kI (va_runV (As := [.int (nI h), .int 5]) (rest := []) ⟨hx, hb, hml, hown, hts⟩ (c_X4_fine l G ad hI nH nP hH hP δ (wst (wst (wst (dr1 q (ownF q (drI nP h i (τ, ndF τ h)).2 (drI nP h i (τ, ndF τ h)).1) (drI nP h i (τ, ndF τ h)).1) 23 q 1) 32 q 1) 24 q 3) h 5 hvb (by omega)) (cwV 2 hts gX4_draw_X4_fine rfl rfl rfl (by decide +kernel) ⟨Nat.le_of_ble_eq_true rfl, Nat.le_of_ble_eq_true rfl⟩) ⟨Pc0.blind, va_recv hK (va_P1 (hV.1)) (ci := 4) (q0 := 0) rfl rfl, Pc0.pre hV hK⟩ rfl rfl hl.1 rfl (lv_room (Nat.le_of_ble_eq_true rfl)) dX4_draw_184 ⟨Nat.zero_le _, Nat.zero_le _⟩) hS (fun _ _ q => q) (fun _ q => q) (fun H locs hV _ _ hS => ?_)
          refine lv_pop hx hb dX4_draw_187 rfl ?_
          refine lv_iinc (k := 6) (v := nI (i + 1)) (lv' := [(3, .int (nI (i + 1))), (2, .int (((drI nP h i (τ, ndF τ h)).2) - (ownF q (drI nP h i (τ, ndF τ h)).2 (drI nP h i (τ, ndF τ h)).1))), (6, .int (ownF q (drI nP h i (τ, ndF τ h)).2 (drI nP h i (τ, ndF τ h)).1)), (5, .int (nI (11 * q))), (4, .int (nI q)), (0, .ref (ad 0)), (1, .int (nI h))]) hx hb dX4_draw_188 hl rfl (nI_add i 1) (by decide) rfl (fun ls hl => ?_)
          refine lv_goto (tgt := 8) hx hb dX4_draw_191 (by decide) ?_
          have e9 : drI nP h (i + 1) (τ, ndF τ h) = (chgF nP h 5 (wst (wst (wst (dr1 q (ownF q (drI nP h i (τ, ndF τ h)).2 (drI nP h i (τ, ndF τ h)).1) (drI nP h i (τ, ndF τ h)).1) 23 q 1) 32 q 1) 24 q 3), (drI nP h i (τ, ndF τ h)).2 - (ownF q (drI nP h i (τ, ndF τ h)).2 (drI nP h i (τ, ndF τ h)).1)) := by
            show (drF nP h (fq nP h i (drI nP h i (τ, ndF τ h)).1) (drI nP h i (τ, ndF τ h)).2 (drI nP h i (τ, ndF τ h)).1, (drI nP h i (τ, ndF τ h)).2 - ownF (fq nP h i (drI nP h i (τ, ndF τ h)).1) (drI nP h i (τ, ndF τ h)).2 (drI nP h i (τ, ndF τ h)).1) = _
            rw [hq, drF, if_neg c84, if_neg (fun z => i32_nlt c147 z)]
          have ih := fun hlt H locs ls q9 => ih hlt H locs ls (by rw [e9]; exact q9)
          exact ih (by omega) _ _ _ ⟨hV, hS, lv_sub hl [5, 6, 1, 0] rfl⟩
        · skip
          refine lv_goto (tgt := 188) hx hb dX4_draw_150 (by decide) ?_
          refine lv_iinc (k := 6) (v := nI (i + 1)) (lv' := [(3, .int (nI (i + 1))), (2, .int (((drI nP h i (τ, ndF τ h)).2) - (ownF q (drI nP h i (τ, ndF τ h)).2 (drI nP h i (τ, ndF τ h)).1))), (6, .int (ownF q (drI nP h i (τ, ndF τ h)).2 (drI nP h i (τ, ndF τ h)).1)), (5, .int (nI (11 * q))), (4, .int (nI q)), (0, .ref (ad 0)), (1, .int (nI h))]) hx hb dX4_draw_188 hl rfl (nI_add i 1) (by decide) rfl (fun ls hl => ?_)
          refine lv_goto (tgt := 8) hx hb dX4_draw_191 (by decide) ?_
          have e9 : drI nP h (i + 1) (τ, ndF τ h) = (dr1 q (ownF q (drI nP h i (τ, ndF τ h)).2 (drI nP h i (τ, ndF τ h)).1) (drI nP h i (τ, ndF τ h)).1, (drI nP h i (τ, ndF τ h)).2 - (ownF q (drI nP h i (τ, ndF τ h)).2 (drI nP h i (τ, ndF τ h)).1)) := by
            show (drF nP h (fq nP h i (drI nP h i (τ, ndF τ h)).1) (drI nP h i (τ, ndF τ h)).2 (drI nP h i (τ, ndF τ h)).1, (drI nP h i (τ, ndF τ h)).2 - ownF (fq nP h i (drI nP h i (τ, ndF τ h)).1) (drI nP h i (τ, ndF τ h)).2 (drI nP h i (τ, ndF τ h)).1) = _
            rw [hq, drF, if_neg c84, if_pos (i32_ltn c147)]
          have ih := fun hlt H locs ls q9 => ih hlt H locs ls (by rw [e9]; exact q9)
          exact ih (by omega) _ _ _ ⟨hV, hS, lv_sub hl [5, 6, 1, 0] rfl⟩
      · skip
        refine lv_goto (tgt := 188) hx hb dX4_draw_87 (by decide) ?_
        refine lv_iinc (k := 6) (v := nI (i + 1)) (lv' := [(3, .int (nI (i + 1))), (6, .int (ownF q (drI nP h i (τ, ndF τ h)).2 (drI nP h i (τ, ndF τ h)).1)), (5, .int (nI (11 * q))), (4, .int (nI q)), (0, .ref (ad 0)), (1, .int (nI h)), (2, .int ((drI nP h i (τ, ndF τ h)).2))]) hx hb dX4_draw_188 hl rfl (nI_add i 1) (by decide) rfl (fun ls hl => ?_)
        refine lv_goto (tgt := 8) hx hb dX4_draw_191 (by decide) ?_
        have e9 : drI nP h (i + 1) (τ, ndF τ h) = ((drI nP h i (τ, ndF τ h)).1, (drI nP h i (τ, ndF τ h)).2) := by
          show (drF nP h (fq nP h i (drI nP h i (τ, ndF τ h)).1) (drI nP h i (τ, ndF τ h)).2 (drI nP h i (τ, ndF τ h)).1, (drI nP h i (τ, ndF τ h)).2 - ownF (fq nP h i (drI nP h i (τ, ndF τ h)).1) (drI nP h i (τ, ndF τ h)).2 (drI nP h i (τ, ndF τ h)).1) = _
          rw [hq, drF, if_pos c84, c84, Int32.sub_zero]
        have ih := fun hlt H locs ls q9 => ih hlt H locs ls (by rw [e9]; exact q9)
        exact ih (by omega) _ _ _ ⟨hV, hS, lv_sub hl [4, 5, 6, 0] rfl⟩
    · skip
      refine lv_aload_n hx hb dX4_draw_53 rfl (lv_at hl 2 rfl) ?_
      refine rSf 4 (j := 2) hx hb hts hi4 hown hK hV (by decide) rfl k15 dX4_draw_54 ?_
      refine lv_iload hx hb dX4_draw_57 (lv_at hl 0 rfl) ?_
      refine lv_iconst (v := 3) hx hb dX4_draw_59 (by decide) ?_
      refine lv_iadd hx hb dX4_draw_60 ?_
      refine lv_topi (fun y13 ey13 => ?_)
      obtain rfl : y13 = nI (11 * q + 3) := ey13.trans (nI_add (11 * q) 3)
      refine rSp (h := q) (f := 3) (g := 23) (v := ((drI nP h i (τ, ndF τ h)).1) 23 q) hx hb hK hV (by omega) (by omega) (by omega) (by omega) hP rfl dX4_draw_61 ?_
      refine lv_if_ne (tgt := 79) hx hb dX4_draw_62 (by decide) (fun c62 => ?_) (fun c62 => ?_)
      · skip
        refine lv_iconst (v := 0) hx hb dX4_draw_79 (by decide) ?_
        refine lv_topi (fun yy eyy => ?_)
        obtain rfl : yy = ownF q (drI nP h i (τ, ndF τ h)).2 (drI nP h i (τ, ndF τ h)).1 := eyy.trans (if_pos (by first | exact Or.inl c50 | exact Or.inr c62)).symm
        refine lv_istore (lv' := [(6, .int (ownF q (drI nP h i (τ, ndF τ h)).2 (drI nP h i (τ, ndF τ h)).1)), (5, .int (nI (11 * q))), (4, .int (nI q)), (0, .ref (ad 0)), (1, .int (nI h)), (2, .int ((drI nP h i (τ, ndF τ h)).2)), (3, .int (nI i))]) hx hb dX4_draw_80 hl (by decide) rfl (fun ls hl => ?_)
        refine lv_iload hx hb dX4_draw_82 (lv_at hl 0 rfl) ?_
        refine lv_if_ne (tgt := 90) hx hb dX4_draw_84 (by decide) (fun c84 => ?_) (fun c84 => ?_)
        · skip
          refine lv_iload_n hx hb dX4_draw_90 rfl (lv_at hl 5 rfl) ?_
          refine lv_iload hx hb dX4_draw_91 (lv_at hl 0 rfl) ?_
          refine lv_isub hx hb dX4_draw_93 ?_
          refine lv_istore_n (lv' := [(2, .int (((drI nP h i (τ, ndF τ h)).2) - (ownF q (drI nP h i (τ, ndF τ h)).2 (drI nP h i (τ, ndF τ h)).1))), (6, .int (ownF q (drI nP h i (τ, ndF τ h)).2 (drI nP h i (τ, ndF τ h)).1)), (5, .int (nI (11 * q))), (4, .int (nI q)), (0, .ref (ad 0)), (1, .int (nI h)), (3, .int (nI i))]) hx hb dX4_draw_94 rfl hl (by decide) rfl (fun ls hl => ?_)
          refine lv_aload_n hx hb dX4_draw_95 rfl (lv_at hl 4 rfl) ?_
          refine rSf 4 (j := 2) hx hb hts hi4 hown hK hV (by decide) rfl k15 dX4_draw_96 ?_
          refine lv_iload hx hb dX4_draw_99 (lv_at hl 2 rfl) ?_
          refine lv_dup2_11 hx hb dX4_draw_101 rfl rfl ?_
          refine rSp (h := q) (f := 0) (g := 20) (v := ((drI nP h i (τ, ndF τ h)).1) 20 q) hx hb hK hV (by omega) (by omega) (by omega) (by omega) hP rfl dX4_draw_102 ?_
          refine lv_iload hx hb dX4_draw_103 (lv_at hl 1 rfl) ?_
          refine lv_isub hx hb dX4_draw_105 ?_
          refine wSp (h := q) (f := 0) (g := 20) hx hb hK hI hV hS (fun _ q => q) (by omega) (by omega) (by omega) (by omega) hP dX4_draw_106 (fun H locs hV _ hS => ?_)
          refine lv_aload_n hx hb dX4_draw_107 rfl (lv_at hl 4 rfl) ?_
          refine rSf 4 (j := 2) hx hb hts hi4 hown hK hV (by decide) rfl k15 dX4_draw_108 ?_
          refine lv_iload hx hb dX4_draw_111 (lv_at hl 2 rfl) ?_
          refine lv_iconst (v := 2) hx hb dX4_draw_113 (by decide) ?_
          refine lv_iadd hx hb dX4_draw_114 ?_
          refine lv_topi (fun y14 ey14 => ?_)
          obtain rfl : y14 = nI (11 * q + 2) := ey14.trans (nI_add (11 * q) 2)
          refine lv_dup2_11 hx hb dX4_draw_115 rfl rfl ?_
          refine rSp (h := q) (f := 2) (g := 22) (v := ((drI nP h i (τ, ndF τ h)).1) 22 q) hx hb hK hV (by omega) (by omega) (by omega) (by omega) hP (wst_f (by decide)) dX4_draw_116 ?_
          refine lv_iload hx hb dX4_draw_117 (lv_at hl 1 rfl) ?_
          refine lv_iadd hx hb dX4_draw_119 ?_
          refine wSp (h := q) (f := 2) (g := 22) hx hb hK hI hV hS (fun _ q => q) (by omega) (by omega) (by omega) (by omega) hP dX4_draw_120 (fun H locs hV _ hS => ?_)
          refine lv_aload_n hx hb dX4_draw_121 rfl (lv_at hl 4 rfl) ?_
          refine rSf 4 (j := 2) hx hb hts hi4 hown hK hV (by decide) rfl k15 dX4_draw_122 ?_
          refine lv_iload hx hb dX4_draw_125 (lv_at hl 2 rfl) ?_
          refine lv_bipush (v := 9) hx hb dX4_draw_127 (by decide) ?_
          refine lv_iadd hx hb dX4_draw_129 ?_
          refine lv_topi (fun y15 ey15 => ?_)
          obtain rfl : y15 = nI (11 * q + 9) := ey15.trans (nI_add (11 * q) 9)
          refine lv_dup2_11 hx hb dX4_draw_130 rfl rfl ?_
          refine rSp (h := q) (f := 9) (g := 29) (v := ((drI nP h i (τ, ndF τ h)).1) 29 q) hx hb hK hV (by omega) (by omega) (by omega) (by omega) hP ((wst_f (by decide)).trans (wst_f (by decide))) dX4_draw_131 ?_
          refine lv_iload hx hb dX4_draw_132 (lv_at hl 1 rfl) ?_
          refine lv_iadd hx hb dX4_draw_134 ?_
          refine wSp (h := q) (f := 9) (g := 29) hx hb hK hI hV hS (fun _ q => q) (by omega) (by omega) (by omega) (by omega) hP dX4_draw_135 (fun H locs hV _ hS => ?_)
          rw [wst_comm (f := 22) (g := 29) (by omega)] at hV
          have hV : RVm G ad nH nP δ (dr1 q (ownF q (drI nP h i (τ, ndF τ h)).2 (drI nP h i (τ, ndF τ h)).1) (drI nP h i (τ, ndF τ h)).1) H := hV
          refine lv_aload_n hx hb dX4_draw_136 rfl (lv_at hl 4 rfl) ?_
          refine rSf 4 (j := 2) hx hb hts hi4 hown hK hV (by decide) rfl k15 dX4_draw_137 ?_
          refine lv_iload hx hb dX4_draw_140 (lv_at hl 2 rfl) ?_
          refine lv_iconst (v := 2) hx hb dX4_draw_142 (by decide) ?_
          refine lv_iadd hx hb dX4_draw_143 ?_
          refine lv_topi (fun y16 ey16 => ?_)
          obtain rfl : y16 = nI (11 * q + 2) := ey16.trans (nI_add (11 * q) 2)
          refine rSp (h := q) (f := 2) (g := 22) (v := ((drI nP h i (τ, ndF τ h)).1) 22 q + (ownF q (drI nP h i (τ, ndF τ h)).2 (drI nP h i (τ, ndF τ h)).1)) hx hb hK hV (by omega) (by omega) (by omega) (by omega) hP (by unfold dr1; exact wst_s) dX4_draw_144 ?_
          refine lv_bipush (v := 100) hx hb dX4_draw_145 (by decide) ?_
          refine lv_icmp_ge (tgt := 153) hx hb dX4_draw_147 (by decide) (fun c147 => ?_) (fun c147 => ?_)
          · skip
            refine lv_aload_n hx hb dX4_draw_153 rfl (lv_at hl 4 rfl) ?_
            refine rSf 4 (j := 2) hx hb hts hi4 hown hK hV (by decide) rfl k15 dX4_draw_154 ?_
            refine lv_iload hx hb dX4_draw_157 (lv_at hl 2 rfl) ?_
            refine lv_iconst (v := 3) hx hb dX4_draw_159 (by decide) ?_
            refine lv_iadd hx hb dX4_draw_160 ?_
            refine lv_topi (fun y17 ey17 => ?_)
            obtain rfl : y17 = nI (11 * q + 3) := ey17.trans (nI_add (11 * q) 3)
            refine lv_iconst (v := 1) hx hb dX4_draw_161 (by decide) ?_
            refine wSp (h := q) (f := 3) (g := 23) hx hb hK hI hV hS (fun _ q => q) (by omega) (by omega) (by omega) (by omega) hP dX4_draw_162 (fun H locs hV _ hS => ?_)
            refine lv_aload_n hx hb dX4_draw_163 rfl (lv_at hl 4 rfl) ?_
            refine rSf 4 (j := 2) hx hb hts hi4 hown hK hV (by decide) rfl k15 dX4_draw_164 ?_
            refine lv_iload hx hb dX4_draw_167 (lv_at hl 2 rfl) ?_
            refine lv_iconst (v := 4) hx hb dX4_draw_169 (by decide) ?_
            refine lv_iadd hx hb dX4_draw_170 ?_
            refine lv_topi (fun y18 ey18 => ?_)
            obtain rfl : y18 = nI (11 * q + 4) := ey18.trans (nI_add (11 * q) 4)
            refine lv_iconst (v := 3) hx hb dX4_draw_171 (by decide) ?_
            refine wSp (h := q) (f := 4) (g := 24) hx hb hK hI hV hS (fun _ q => q) (by omega) (by omega) (by omega) (by omega) hP dX4_draw_172 (fun H locs hV _ hS => ?_)
            refine lv_aload_n hx hb dX4_draw_173 rfl (lv_at hl 4 rfl) ?_
            refine rSf 7 (j := 5) hx hb hts hi4 hown hK hV (by decide) rfl k25 dX4_draw_174 ?_
            refine lv_iload hx hb dX4_draw_177 (lv_at hl 3 rfl) ?_
            refine lv_iconst (v := 1) hx hb dX4_draw_179 (by decide) ?_
            refine wSn (h := q) hx hb hK hI hV hS (fun _ q => q) (by omega) hP (by decide) dX4_draw_180 (fun H locs hV _ hS => ?_)
            rw [wst_comm (f := 24) (g := 32) (by omega)] at hV
            have hvb : Inv nH nP (wst (wst (wst (dr1 q (ownF q (drI nP h i (τ, ndF τ h)).2 (drI nP h i (τ, ndF τ h)).1) (drI nP h i (τ, ndF τ h)).1) 23 q 1) 32 q 1) 24 q 3) := hvi.oBrk
            refine lv_aload_n hx hb dX4_draw_181 rfl (lv_at hl 4 rfl) ?_
            refine lv_iload_n hx hb dX4_draw_182 rfl (lv_at hl 5 rfl) ?_
            refine lv_iconst (v := 5) hx hb dX4_draw_183 (by decide) ?_
            refine kI (va_runV (As := [.int (nI h), .int 5]) (rest := []) ⟨hx, hb, hml, hown, hts⟩ (c_X4_fine l G ad hI nH nP hH hP δ (wst (wst (wst (dr1 q (ownF q (drI nP h i (τ, ndF τ h)).2 (drI nP h i (τ, ndF τ h)).1) (drI nP h i (τ, ndF τ h)).1) 23 q 1) 32 q 1) 24 q 3) h 5 hvb (by omega)) (cwV 2 hts gX4_draw_X4_fine rfl rfl rfl (by decide +kernel) ⟨Nat.le_of_ble_eq_true rfl, Nat.le_of_ble_eq_true rfl⟩) ⟨Pc0.blind, va_recv hK (va_P1 (hV.1)) (ci := 4) (q0 := 0) rfl rfl, Pc0.pre hV hK⟩ rfl rfl hl.1 rfl (lv_room (Nat.le_of_ble_eq_true rfl)) dX4_draw_184 ⟨Nat.zero_le _, Nat.zero_le _⟩) hS (fun _ _ q => q) (fun _ q => q) (fun H locs hV _ _ hS => ?_)
            refine lv_pop hx hb dX4_draw_187 rfl ?_
            refine lv_iinc (k := 6) (v := nI (i + 1)) (lv' := [(3, .int (nI (i + 1))), (2, .int (((drI nP h i (τ, ndF τ h)).2) - (ownF q (drI nP h i (τ, ndF τ h)).2 (drI nP h i (τ, ndF τ h)).1))), (6, .int (ownF q (drI nP h i (τ, ndF τ h)).2 (drI nP h i (τ, ndF τ h)).1)), (5, .int (nI (11 * q))), (4, .int (nI q)), (0, .ref (ad 0)), (1, .int (nI h))]) hx hb dX4_draw_188 hl rfl (nI_add i 1) (by decide) rfl (fun ls hl => ?_)
            refine lv_goto (tgt := 8) hx hb dX4_draw_191 (by decide) ?_
            have e9 : drI nP h (i + 1) (τ, ndF τ h) = (chgF nP h 5 (wst (wst (wst (dr1 q (ownF q (drI nP h i (τ, ndF τ h)).2 (drI nP h i (τ, ndF τ h)).1) (drI nP h i (τ, ndF τ h)).1) 23 q 1) 32 q 1) 24 q 3), (drI nP h i (τ, ndF τ h)).2 - (ownF q (drI nP h i (τ, ndF τ h)).2 (drI nP h i (τ, ndF τ h)).1)) := by
              show (drF nP h (fq nP h i (drI nP h i (τ, ndF τ h)).1) (drI nP h i (τ, ndF τ h)).2 (drI nP h i (τ, ndF τ h)).1, (drI nP h i (τ, ndF τ h)).2 - ownF (fq nP h i (drI nP h i (τ, ndF τ h)).1) (drI nP h i (τ, ndF τ h)).2 (drI nP h i (τ, ndF τ h)).1) = _
              rw [hq, drF, if_neg c84, if_neg (fun z => i32_nlt c147 z)]
            have ih := fun hlt H locs ls q9 => ih hlt H locs ls (by rw [e9]; exact q9)
            exact ih (by omega) _ _ _ ⟨hV, hS, lv_sub hl [5, 6, 1, 0] rfl⟩
          · skip
            refine lv_goto (tgt := 188) hx hb dX4_draw_150 (by decide) ?_
            refine lv_iinc (k := 6) (v := nI (i + 1)) (lv' := [(3, .int (nI (i + 1))), (2, .int (((drI nP h i (τ, ndF τ h)).2) - (ownF q (drI nP h i (τ, ndF τ h)).2 (drI nP h i (τ, ndF τ h)).1))), (6, .int (ownF q (drI nP h i (τ, ndF τ h)).2 (drI nP h i (τ, ndF τ h)).1)), (5, .int (nI (11 * q))), (4, .int (nI q)), (0, .ref (ad 0)), (1, .int (nI h))]) hx hb dX4_draw_188 hl rfl (nI_add i 1) (by decide) rfl (fun ls hl => ?_)
            refine lv_goto (tgt := 8) hx hb dX4_draw_191 (by decide) ?_
            have e9 : drI nP h (i + 1) (τ, ndF τ h) = (dr1 q (ownF q (drI nP h i (τ, ndF τ h)).2 (drI nP h i (τ, ndF τ h)).1) (drI nP h i (τ, ndF τ h)).1, (drI nP h i (τ, ndF τ h)).2 - (ownF q (drI nP h i (τ, ndF τ h)).2 (drI nP h i (τ, ndF τ h)).1)) := by
              show (drF nP h (fq nP h i (drI nP h i (τ, ndF τ h)).1) (drI nP h i (τ, ndF τ h)).2 (drI nP h i (τ, ndF τ h)).1, (drI nP h i (τ, ndF τ h)).2 - ownF (fq nP h i (drI nP h i (τ, ndF τ h)).1) (drI nP h i (τ, ndF τ h)).2 (drI nP h i (τ, ndF τ h)).1) = _
              rw [hq, drF, if_neg c84, if_pos (i32_ltn c147)]
            have ih := fun hlt H locs ls q9 => ih hlt H locs ls (by rw [e9]; exact q9)
            exact ih (by omega) _ _ _ ⟨hV, hS, lv_sub hl [5, 6, 1, 0] rfl⟩
        · skip
          refine lv_goto (tgt := 188) hx hb dX4_draw_87 (by decide) ?_
          refine lv_iinc (k := 6) (v := nI (i + 1)) (lv' := [(3, .int (nI (i + 1))), (6, .int (ownF q (drI nP h i (τ, ndF τ h)).2 (drI nP h i (τ, ndF τ h)).1)), (5, .int (nI (11 * q))), (4, .int (nI q)), (0, .ref (ad 0)), (1, .int (nI h)), (2, .int ((drI nP h i (τ, ndF τ h)).2))]) hx hb dX4_draw_188 hl rfl (nI_add i 1) (by decide) rfl (fun ls hl => ?_)
          refine lv_goto (tgt := 8) hx hb dX4_draw_191 (by decide) ?_
          have e9 : drI nP h (i + 1) (τ, ndF τ h) = ((drI nP h i (τ, ndF τ h)).1, (drI nP h i (τ, ndF τ h)).2) := by
            show (drF nP h (fq nP h i (drI nP h i (τ, ndF τ h)).1) (drI nP h i (τ, ndF τ h)).2 (drI nP h i (τ, ndF τ h)).1, (drI nP h i (τ, ndF τ h)).2 - ownF (fq nP h i (drI nP h i (τ, ndF τ h)).1) (drI nP h i (τ, ndF τ h)).2 (drI nP h i (τ, ndF τ h)).1) = _
            rw [hq, drF, if_pos c84, c84, Int32.sub_zero]
          have ih := fun hlt H locs ls q9 => ih hlt H locs ls (by rw [e9]; exact q9)
          exact ih (by omega) _ _ _ ⟨hV, hS, lv_sub hl [4, 5, 6, 0] rfl⟩
      · skip
        refine lv_iload_n hx hb dX4_draw_65 rfl (lv_at hl 4 rfl) ?_
        refine lv_aload_n hx hb dX4_draw_66 rfl (lv_at hl 2 rfl) ?_
        refine rSf 4 (j := 2) hx hb hts hi4 hown hK hV (by decide) rfl k15 dX4_draw_67 ?_
        refine lv_iload hx hb dX4_draw_70 (lv_at hl 0 rfl) ?_
        refine rSp (h := q) (f := 0) (g := 20) (v := ((drI nP h i (τ, ndF τ h)).1) 20 q) hx hb hK hV (by omega) (by omega) (by omega) (by omega) hP rfl dX4_draw_72 ?_
        refine va_mmin hx hb (hml.trans hl.1.symm) hown km51 ksmin kmath kcmin (Nat.le_of_ble_eq_true rfl) (Nat.le_of_ble_eq_true rfl) (Nat.zero_le _) (Nat.zero_le _) dX4_draw_73 ?_
        refine lv_topi (fun y19 ey19 => ?_)
        obtain rfl : y19 = ownF q (drI nP h i (τ, ndF τ h)).2 (drI nP h i (τ, ndF τ h)).1 := ey19.trans (if_neg (fun z => z.elim c50 (fun y => y c62))).symm
        refine lv_goto (tgt := 80) hx hb dX4_draw_76 (by decide) ?_
        refine lv_istore (lv' := [(6, .int (ownF q (drI nP h i (τ, ndF τ h)).2 (drI nP h i (τ, ndF τ h)).1)), (5, .int (nI (11 * q))), (4, .int (nI q)), (0, .ref (ad 0)), (1, .int (nI h)), (2, .int ((drI nP h i (τ, ndF τ h)).2)), (3, .int (nI i))]) hx hb dX4_draw_80 hl (by decide) rfl (fun ls hl => ?_)
        refine lv_iload hx hb dX4_draw_82 (lv_at hl 0 rfl) ?_
        refine lv_if_ne (tgt := 90) hx hb dX4_draw_84 (by decide) (fun c84 => ?_) (fun c84 => ?_)
        · skip
          refine lv_iload_n hx hb dX4_draw_90 rfl (lv_at hl 5 rfl) ?_
          refine lv_iload hx hb dX4_draw_91 (lv_at hl 0 rfl) ?_
          refine lv_isub hx hb dX4_draw_93 ?_
          refine lv_istore_n (lv' := [(2, .int (((drI nP h i (τ, ndF τ h)).2) - (ownF q (drI nP h i (τ, ndF τ h)).2 (drI nP h i (τ, ndF τ h)).1))), (6, .int (ownF q (drI nP h i (τ, ndF τ h)).2 (drI nP h i (τ, ndF τ h)).1)), (5, .int (nI (11 * q))), (4, .int (nI q)), (0, .ref (ad 0)), (1, .int (nI h)), (3, .int (nI i))]) hx hb dX4_draw_94 rfl hl (by decide) rfl (fun ls hl => ?_)
          refine lv_aload_n hx hb dX4_draw_95 rfl (lv_at hl 4 rfl) ?_
          refine rSf 4 (j := 2) hx hb hts hi4 hown hK hV (by decide) rfl k15 dX4_draw_96 ?_
          refine lv_iload hx hb dX4_draw_99 (lv_at hl 2 rfl) ?_
          refine lv_dup2_11 hx hb dX4_draw_101 rfl rfl ?_
          refine rSp (h := q) (f := 0) (g := 20) (v := ((drI nP h i (τ, ndF τ h)).1) 20 q) hx hb hK hV (by omega) (by omega) (by omega) (by omega) hP rfl dX4_draw_102 ?_
          refine lv_iload hx hb dX4_draw_103 (lv_at hl 1 rfl) ?_
          refine lv_isub hx hb dX4_draw_105 ?_
          refine wSp (h := q) (f := 0) (g := 20) hx hb hK hI hV hS (fun _ q => q) (by omega) (by omega) (by omega) (by omega) hP dX4_draw_106 (fun H locs hV _ hS => ?_)
          refine lv_aload_n hx hb dX4_draw_107 rfl (lv_at hl 4 rfl) ?_
          refine rSf 4 (j := 2) hx hb hts hi4 hown hK hV (by decide) rfl k15 dX4_draw_108 ?_
          refine lv_iload hx hb dX4_draw_111 (lv_at hl 2 rfl) ?_
          refine lv_iconst (v := 2) hx hb dX4_draw_113 (by decide) ?_
          refine lv_iadd hx hb dX4_draw_114 ?_
          refine lv_topi (fun y20 ey20 => ?_)
          obtain rfl : y20 = nI (11 * q + 2) := ey20.trans (nI_add (11 * q) 2)
          refine lv_dup2_11 hx hb dX4_draw_115 rfl rfl ?_
          refine rSp (h := q) (f := 2) (g := 22) (v := ((drI nP h i (τ, ndF τ h)).1) 22 q) hx hb hK hV (by omega) (by omega) (by omega) (by omega) hP (wst_f (by decide)) dX4_draw_116 ?_
          refine lv_iload hx hb dX4_draw_117 (lv_at hl 1 rfl) ?_
          refine lv_iadd hx hb dX4_draw_119 ?_
          refine wSp (h := q) (f := 2) (g := 22) hx hb hK hI hV hS (fun _ q => q) (by omega) (by omega) (by omega) (by omega) hP dX4_draw_120 (fun H locs hV _ hS => ?_)
          refine lv_aload_n hx hb dX4_draw_121 rfl (lv_at hl 4 rfl) ?_
          refine rSf 4 (j := 2) hx hb hts hi4 hown hK hV (by decide) rfl k15 dX4_draw_122 ?_
          refine lv_iload hx hb dX4_draw_125 (lv_at hl 2 rfl) ?_
          refine lv_bipush (v := 9) hx hb dX4_draw_127 (by decide) ?_
          refine lv_iadd hx hb dX4_draw_129 ?_
          refine lv_topi (fun y21 ey21 => ?_)
          obtain rfl : y21 = nI (11 * q + 9) := ey21.trans (nI_add (11 * q) 9)
          refine lv_dup2_11 hx hb dX4_draw_130 rfl rfl ?_
          refine rSp (h := q) (f := 9) (g := 29) (v := ((drI nP h i (τ, ndF τ h)).1) 29 q) hx hb hK hV (by omega) (by omega) (by omega) (by omega) hP ((wst_f (by decide)).trans (wst_f (by decide))) dX4_draw_131 ?_
          refine lv_iload hx hb dX4_draw_132 (lv_at hl 1 rfl) ?_
          refine lv_iadd hx hb dX4_draw_134 ?_
          refine wSp (h := q) (f := 9) (g := 29) hx hb hK hI hV hS (fun _ q => q) (by omega) (by omega) (by omega) (by omega) hP dX4_draw_135 (fun H locs hV _ hS => ?_)
          rw [wst_comm (f := 22) (g := 29) (by omega)] at hV
          have hV : RVm G ad nH nP δ (dr1 q (ownF q (drI nP h i (τ, ndF τ h)).2 (drI nP h i (τ, ndF τ h)).1) (drI nP h i (τ, ndF τ h)).1) H := hV
          refine lv_aload_n hx hb dX4_draw_136 rfl (lv_at hl 4 rfl) ?_
          refine rSf 4 (j := 2) hx hb hts hi4 hown hK hV (by decide) rfl k15 dX4_draw_137 ?_
          refine lv_iload hx hb dX4_draw_140 (lv_at hl 2 rfl) ?_
          refine lv_iconst (v := 2) hx hb dX4_draw_142 (by decide) ?_
          refine lv_iadd hx hb dX4_draw_143 ?_
          refine lv_topi (fun y22 ey22 => ?_)
          obtain rfl : y22 = nI (11 * q + 2) := ey22.trans (nI_add (11 * q) 2)
          refine rSp (h := q) (f := 2) (g := 22) (v := ((drI nP h i (τ, ndF τ h)).1) 22 q + (ownF q (drI nP h i (τ, ndF τ h)).2 (drI nP h i (τ, ndF τ h)).1)) hx hb hK hV (by omega) (by omega) (by omega) (by omega) hP (by unfold dr1; exact wst_s) dX4_draw_144 ?_
          refine lv_bipush (v := 100) hx hb dX4_draw_145 (by decide) ?_
          refine lv_icmp_ge (tgt := 153) hx hb dX4_draw_147 (by decide) (fun c147 => ?_) (fun c147 => ?_)
          · skip
            refine lv_aload_n hx hb dX4_draw_153 rfl (lv_at hl 4 rfl) ?_
            refine rSf 4 (j := 2) hx hb hts hi4 hown hK hV (by decide) rfl k15 dX4_draw_154 ?_
            refine lv_iload hx hb dX4_draw_157 (lv_at hl 2 rfl) ?_
            refine lv_iconst (v := 3) hx hb dX4_draw_159 (by decide) ?_
            refine lv_iadd hx hb dX4_draw_160 ?_
            refine lv_topi (fun y23 ey23 => ?_)
            obtain rfl : y23 = nI (11 * q + 3) := ey23.trans (nI_add (11 * q) 3)
            refine lv_iconst (v := 1) hx hb dX4_draw_161 (by decide) ?_
            refine wSp (h := q) (f := 3) (g := 23) hx hb hK hI hV hS (fun _ q => q) (by omega) (by omega) (by omega) (by omega) hP dX4_draw_162 (fun H locs hV _ hS => ?_)
            refine lv_aload_n hx hb dX4_draw_163 rfl (lv_at hl 4 rfl) ?_
            refine rSf 4 (j := 2) hx hb hts hi4 hown hK hV (by decide) rfl k15 dX4_draw_164 ?_
            refine lv_iload hx hb dX4_draw_167 (lv_at hl 2 rfl) ?_
            refine lv_iconst (v := 4) hx hb dX4_draw_169 (by decide) ?_
            refine lv_iadd hx hb dX4_draw_170 ?_
            refine lv_topi (fun y24 ey24 => ?_)
            obtain rfl : y24 = nI (11 * q + 4) := ey24.trans (nI_add (11 * q) 4)
            refine lv_iconst (v := 3) hx hb dX4_draw_171 (by decide) ?_
            refine wSp (h := q) (f := 4) (g := 24) hx hb hK hI hV hS (fun _ q => q) (by omega) (by omega) (by omega) (by omega) hP dX4_draw_172 (fun H locs hV _ hS => ?_)
            refine lv_aload_n hx hb dX4_draw_173 rfl (lv_at hl 4 rfl) ?_
            refine rSf 7 (j := 5) hx hb hts hi4 hown hK hV (by decide) rfl k25 dX4_draw_174 ?_
            refine lv_iload hx hb dX4_draw_177 (lv_at hl 3 rfl) ?_
            refine lv_iconst (v := 1) hx hb dX4_draw_179 (by decide) ?_
            refine wSn (h := q) hx hb hK hI hV hS (fun _ q => q) (by omega) hP (by decide) dX4_draw_180 (fun H locs hV _ hS => ?_)
            rw [wst_comm (f := 24) (g := 32) (by omega)] at hV
            have hvb : Inv nH nP (wst (wst (wst (dr1 q (ownF q (drI nP h i (τ, ndF τ h)).2 (drI nP h i (τ, ndF τ h)).1) (drI nP h i (τ, ndF τ h)).1) 23 q 1) 32 q 1) 24 q 3) := hvi.oBrk
            refine lv_aload_n hx hb dX4_draw_181 rfl (lv_at hl 4 rfl) ?_
            refine lv_iload_n hx hb dX4_draw_182 rfl (lv_at hl 5 rfl) ?_
            refine lv_iconst (v := 5) hx hb dX4_draw_183 (by decide) ?_
            refine kI (va_runV (As := [.int (nI h), .int 5]) (rest := []) ⟨hx, hb, hml, hown, hts⟩ (c_X4_fine l G ad hI nH nP hH hP δ (wst (wst (wst (dr1 q (ownF q (drI nP h i (τ, ndF τ h)).2 (drI nP h i (τ, ndF τ h)).1) (drI nP h i (τ, ndF τ h)).1) 23 q 1) 32 q 1) 24 q 3) h 5 hvb (by omega)) (cwV 2 hts gX4_draw_X4_fine rfl rfl rfl (by decide +kernel) ⟨Nat.le_of_ble_eq_true rfl, Nat.le_of_ble_eq_true rfl⟩) ⟨Pc0.blind, va_recv hK (va_P1 (hV.1)) (ci := 4) (q0 := 0) rfl rfl, Pc0.pre hV hK⟩ rfl rfl hl.1 rfl (lv_room (Nat.le_of_ble_eq_true rfl)) dX4_draw_184 ⟨Nat.zero_le _, Nat.zero_le _⟩) hS (fun _ _ q => q) (fun _ q => q) (fun H locs hV _ _ hS => ?_)
            refine lv_pop hx hb dX4_draw_187 rfl ?_
            refine lv_iinc (k := 6) (v := nI (i + 1)) (lv' := [(3, .int (nI (i + 1))), (2, .int (((drI nP h i (τ, ndF τ h)).2) - (ownF q (drI nP h i (τ, ndF τ h)).2 (drI nP h i (τ, ndF τ h)).1))), (6, .int (ownF q (drI nP h i (τ, ndF τ h)).2 (drI nP h i (τ, ndF τ h)).1)), (5, .int (nI (11 * q))), (4, .int (nI q)), (0, .ref (ad 0)), (1, .int (nI h))]) hx hb dX4_draw_188 hl rfl (nI_add i 1) (by decide) rfl (fun ls hl => ?_)
            refine lv_goto (tgt := 8) hx hb dX4_draw_191 (by decide) ?_
            have e9 : drI nP h (i + 1) (τ, ndF τ h) = (chgF nP h 5 (wst (wst (wst (dr1 q (ownF q (drI nP h i (τ, ndF τ h)).2 (drI nP h i (τ, ndF τ h)).1) (drI nP h i (τ, ndF τ h)).1) 23 q 1) 32 q 1) 24 q 3), (drI nP h i (τ, ndF τ h)).2 - (ownF q (drI nP h i (τ, ndF τ h)).2 (drI nP h i (τ, ndF τ h)).1)) := by
              show (drF nP h (fq nP h i (drI nP h i (τ, ndF τ h)).1) (drI nP h i (τ, ndF τ h)).2 (drI nP h i (τ, ndF τ h)).1, (drI nP h i (τ, ndF τ h)).2 - ownF (fq nP h i (drI nP h i (τ, ndF τ h)).1) (drI nP h i (τ, ndF τ h)).2 (drI nP h i (τ, ndF τ h)).1) = _
              rw [hq, drF, if_neg c84, if_neg (fun z => i32_nlt c147 z)]
            have ih := fun hlt H locs ls q9 => ih hlt H locs ls (by rw [e9]; exact q9)
            exact ih (by omega) _ _ _ ⟨hV, hS, lv_sub hl [5, 6, 1, 0] rfl⟩
          · skip
            refine lv_goto (tgt := 188) hx hb dX4_draw_150 (by decide) ?_
            refine lv_iinc (k := 6) (v := nI (i + 1)) (lv' := [(3, .int (nI (i + 1))), (2, .int (((drI nP h i (τ, ndF τ h)).2) - (ownF q (drI nP h i (τ, ndF τ h)).2 (drI nP h i (τ, ndF τ h)).1))), (6, .int (ownF q (drI nP h i (τ, ndF τ h)).2 (drI nP h i (τ, ndF τ h)).1)), (5, .int (nI (11 * q))), (4, .int (nI q)), (0, .ref (ad 0)), (1, .int (nI h))]) hx hb dX4_draw_188 hl rfl (nI_add i 1) (by decide) rfl (fun ls hl => ?_)
            refine lv_goto (tgt := 8) hx hb dX4_draw_191 (by decide) ?_
            have e9 : drI nP h (i + 1) (τ, ndF τ h) = (dr1 q (ownF q (drI nP h i (τ, ndF τ h)).2 (drI nP h i (τ, ndF τ h)).1) (drI nP h i (τ, ndF τ h)).1, (drI nP h i (τ, ndF τ h)).2 - (ownF q (drI nP h i (τ, ndF τ h)).2 (drI nP h i (τ, ndF τ h)).1)) := by
              show (drF nP h (fq nP h i (drI nP h i (τ, ndF τ h)).1) (drI nP h i (τ, ndF τ h)).2 (drI nP h i (τ, ndF τ h)).1, (drI nP h i (τ, ndF τ h)).2 - ownF (fq nP h i (drI nP h i (τ, ndF τ h)).1) (drI nP h i (τ, ndF τ h)).2 (drI nP h i (τ, ndF τ h)).1) = _
              rw [hq, drF, if_neg c84, if_pos (i32_ltn c147)]
            have ih := fun hlt H locs ls q9 => ih hlt H locs ls (by rw [e9]; exact q9)
            exact ih (by omega) _ _ _ ⟨hV, hS, lv_sub hl [5, 6, 1, 0] rfl⟩
        · skip
          refine lv_goto (tgt := 188) hx hb dX4_draw_87 (by decide) ?_
          refine lv_iinc (k := 6) (v := nI (i + 1)) (lv' := [(3, .int (nI (i + 1))), (6, .int (ownF q (drI nP h i (τ, ndF τ h)).2 (drI nP h i (τ, ndF τ h)).1)), (5, .int (nI (11 * q))), (4, .int (nI q)), (0, .ref (ad 0)), (1, .int (nI h)), (2, .int ((drI nP h i (τ, ndF τ h)).2))]) hx hb dX4_draw_188 hl rfl (nI_add i 1) (by decide) rfl (fun ls hl => ?_)
          refine lv_goto (tgt := 8) hx hb dX4_draw_191 (by decide) ?_
          have e9 : drI nP h (i + 1) (τ, ndF τ h) = ((drI nP h i (τ, ndF τ h)).1, (drI nP h i (τ, ndF τ h)).2) := by
            show (drF nP h (fq nP h i (drI nP h i (τ, ndF τ h)).1) (drI nP h i (τ, ndF τ h)).2 (drI nP h i (τ, ndF τ h)).1, (drI nP h i (τ, ndF τ h)).2 - ownF (fq nP h i (drI nP h i (τ, ndF τ h)).1) (drI nP h i (τ, ndF τ h)).2 (drI nP h i (τ, ndF τ h)).1) = _
            rw [hq, drF, if_pos c84, c84, Int32.sub_zero]
          have ih := fun hlt H locs ls q9 => ih hlt H locs ls (by rw [e9]; exact q9)
          exact ih (by omega) _ _ _ ⟨hV, hS, lv_sub hl [4, 5, 6, 0] rfl⟩
