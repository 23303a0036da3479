set_option maxHeartbeats 4000000 in
set_option maxRecDepth 100000 in
theorem c_X5_unfair (l : Launch) (G : wG) (ma : Nat) (ad ad2 : Nat → Nat) (hI : MI ma ad ad2) (nH nP : Nat) (hH : nH ≤ 10) (hP : nP ≤ 3) (δ τ z : wS) (t : Int32) (nz : Nat) (x : Int32) (D : Nat) (hD : D < 2 ^ 31) (hd : DB nH D τ) (hv : Inv nH nP τ) : Met l yX5_unfair wsX5_unfair ({ frames := 2, cells := 0, slots := 0, locals := 43 } : Room) (PcM G [.ref ma, .int x] nz (MWz G ma ad ad2 t (wmx nH nP δ τ) z)) (Qmi (fun u => (u = 0 ∧ pOk nP x) ∨ (u = 1 ∧ ¬ (pOk nP x))) (unF nH τ (cl x)) (fun u => MWz G ma ad ad2 (nI u) (wmx nH nP δ (sel u (τ) τ)) (sel u (z) z)) (AM ma ad ad2 nz)) 0 0 (AM ma ad ad2 nz) := by
  refine Met.ofW (cc := cX5_unfair) (maxL := 6) (ret := (some .int)) (by decide) rfl ?_
  intro pg ev s mid args below meth cd s₁ B hml hv0
  obtain ⟨rfl, rfl, hW, hK, hN⟩ := hv0
  have hx := B.exec
  have hb := B.bytes
  have hr := B.returns
  have hts := atoms_spec (ws := wsX5_unfair) B.pre
  have hown : s.vm.findClass RX5 = some mid.cls := findClass_of_methodNamed B.named
  have hlocks := B.notSynchronized
  have hi4 : ∀ w ∈ wsX40, w ∈ wsX5_unfair := by decide +kernel
  have hi5 : ∀ w ∈ wsX50, w ∈ wsX5_unfair := by decide +kernel
  have k19 := hts (.fieldLink RX5 19 "PumpRosterModel" "thrown" "I") (by decide +kernel)
  have k10 := hts (.fieldLink RX5 10 "PumpRosterModel" "s" "LPumpRosterModel$State;") (by decide +kernel)
  have km109 := hts (.methodLink RX5 109 Lib.Math.max.name) (by decide +kernel)
  have ksmax := hts (.static Lib.Math.max.name) (by decide +kernel)
  have kmath := hts (.initialized "java/lang/Math") (by decide +kernel)
  have kcmax := hts (.code Lib.Math.max.name Lib.Math.max.code 2 (some .int)) (by decide +kernel)
  have km114 := hts (.methodLink RX5 114 Lib.Math.min.name) (by decide +kernel)
  have ksmin := hts (.static Lib.Math.min.name) (by decide +kernel)
  have kcmin := hts (.code Lib.Math.min.name Lib.Math.min.code 2 (some .int)) (by decide +kernel)
  have hS : va_S (AM ma ad ad2 s.heap.size) s.heap s.heap [] := va_S.rf
  have hl := lv_entry ([.ref ma, .int x]) (n := 6) (Nat.le_of_ble_eq_true rfl)
  rw [lg_entry_eq]
  generalize (lg_sl ([.ref ma, .int x]) ++ List.replicate (6 - (lg_sl ([.ref ma, .int x])).length) Slot.unset).toArray = ls at hl ⊢
  have hl : lv_has ls 6 [(0, .ref ma), (1, .int x)] := hl
  obtain ⟨σ2, hW, hz⟩ := hW
  refine lv_aload_n hx hb dX5_unfair_0 rfl (lv_at hl 0 rfl) ?_
  refine lv_iconst (v := 0) hx hb dX5_unfair_1 (by decide) ?_
  refine wMt hx hb hts hi5 hown hK hI hW hS (Or.inr (Or.inr (Or.inl rfl))) k19 dX5_unfair_2 (fun H locs hW hS => ?_)
  refine lv_aload_n hx hb dX5_unfair_5 rfl (lv_at hl 0 rfl) ?_
  refine lv_iload_n hx hb dX5_unfair_6 rfl (lv_at hl 1 rfl) ?_
  refine kI (va_runV (As := [.int x]) (rest := []) ⟨hx, hb, hml, hown, hts⟩ (c_X5_isPump l G ma ad ad2 hI nH nP hH hP δ τ σ2 0 H.size x hv.2.2.2.1) (cwV 1 hts gX5_unfair_X5_isPump rfl rfl rfl (by decide +kernel) ⟨Nat.le_of_ble_eq_true rfl, Nat.le_of_ble_eq_true rfl⟩) ⟨PcM.blind, va_recv hK (va_P1 (hW.1)) (ci := 5) (q0 := 0) rfl rfl, PcM.pre hW hK hN⟩ rfl rfl hl.1 rfl (lv_room (Nat.le_of_ble_eq_true rfl)) dX5_unfair_7 ⟨Nat.le_of_ble_eq_true rfl, Nat.le_of_ble_eq_true rfl⟩) hS (fun q _ h => h.elim) (fun q h => h.elim) (fun H locs hB _ hk hS => ?_)
  have hW := hW.kept (fun q hq => hk q hq (fun h => h))
  refine lv_if_ne (tgt := 19) hx hb dX5_unfair_10 (by decide) (fun c10 => ?_) (fun c10 => ?_)
  · skip
    replace c10 := b1 c10
    have o1 : pOk nP x := c10
    obtain ⟨h, hh, rfl⟩ := pOk_nI o1 (by omega)
    obtain ⟨n9, e26⟩ : ∃ n9, n9 = sz τ h := ⟨_, rfl⟩
    have hz9 := (hv.2.2.2.2.2 h hh).2.2.2.2.1
    rw [← e26] at hz9
    refine lv_iconst (v := 0) hx hb dX5_unfair_19 (by decide) ?_
    refine lv_istore_n (lv' := [(2, .int 0), (0, .ref ma), (1, .int (nI h))]) hx hb dX5_unfair_20 rfl hl (by decide) rfl (fun ls hl => ?_)
    refine lv_iconst (v := 0) hx hb dX5_unfair_21 (by decide) ?_
    refine lv_istore_n (lv' := [(3, .int 0), (2, .int 0), (0, .ref ma), (1, .int (nI h))]) hx hb dX5_unfair_22 rfl hl (by decide) rfl (fun ls hl => ?_)
    refine lv_iconst (v := nI 0) hx hb dX5_unfair_23 (by decide) ?_
    refine lv_istore (lv' := [(4, .int (nI 0)), (3, .int 0), (2, .int 0), (0, .ref ma), (1, .int (nI h))]) hx hb dX5_unfair_24 hl (by decide) rfl (fun ls hl => ?_)
    refine W_up n9 (fun i H locs ls => (MW G ma ad ad2 0 (wmx nH nP δ τ) σ2) H ∧ va_S (AM ma ad ad2 s.heap.size) s.heap H locs ∧ lv_has ls 6 [(0, .ref ma), (1, .int (nI h)), (2, .int ((unR τ h i).1)), (3, .int ((unR τ h i).2)), (4, .int (nI i))]) ?_ 0 (by omega) _ _ _ ⟨hW, hS, lv_sub hl [3, 4, 2, 1, 0] rfl⟩
    intro i H locs ls hi ⟨hW, hS, hl⟩ ih
    refine lv_iload hx hb dX5_unfair_26 (lv_at hl 4 rfl) ?_
    refine lv_aload_n hx hb dX5_unfair_28 rfl (lv_at hl 0 rfl) ?_
    refine rM0 hx hb hts hi5 hown hK hW k10 dX5_unfair_29 ?_
    refine rSfN 4 (j := 2) hx hb hts hi4 hown hK hW.2.1 (by decide) rfl (va_Nw.use rfl hN.2.2.2.2.1) dX5_unfair_32 ?_
    refine lv_bipush (v := 11) hx hb dX5_unfair_35 (by decide) ?_
    refine lv_iload_n hx hb dX5_unfair_37 rfl (lv_at hl 1 rfl) ?_
    refine lv_imul hx hb dX5_unfair_38 ?_
    refine lv_topi (fun y1 ey1 => ?_)
    obtain rfl : y1 = nI (11 * h) := ey1.trans (pk_mul 11 h)
    refine lv_bipush (v := 6) hx hb dX5_unfair_39 (by decide) ?_
    refine lv_iadd hx hb dX5_unfair_41 ?_
    refine lv_topi (fun y2 ey2 => ?_)
    obtain rfl : y2 = nI (11 * h + 6) := ey2.trans (nI_add (11 * h) 6)
    refine rSp (h := h) (f := 6) (g := 26) (v := nI n9) hx hb hK hW.2.1 (by omega) (by omega) (by omega) (by omega) hP hz9.2 dX5_unfair_42 ?_
    refine lv_icmp_ge (tgt := 117) hx hb dX5_unfair_43 (by decide) (fun c43 => ?_) (fun c43 => ?_)
    · skip
      replace c43 := (nI_leI (a := n9) (b := i) (by omega) (by omega)).mp c43
      obtain rfl : n9 = i := by omega
      refine lv_iload_n hx hb dX5_unfair_117 rfl (lv_at hl 2 rfl) ?_
      refine lv_iload_n hx hb dX5_unfair_118 rfl (lv_at hl 3 rfl) ?_
      refine lv_isub hx hb dX5_unfair_119 ?_
      exact zI 0 hx hb hr hlocks (Or.inl ⟨rfl, o1⟩) (⟨_, hW, hz⟩) hS (fun q => (by rw [show cl (nI h) = h from nI_clamp (by omega), ← unR_unF hv hd hD hh, ← e26])) dX5_unfair_120
    · skip
      replace c43 : ¬ (n9 ≤ i) := fun q => c43 ((nI_leI (a := n9) (b := i) (by omega) (by omega)).mpr q)
      obtain ⟨r, hr, er⟩ := (hv.2.2.2.2.2 h hh).2.2.2.2.2.2.1 i (by omega)
      refine lv_aload_n hx hb dX5_unfair_46 rfl (lv_at hl 0 rfl) ?_
      refine rM0 hx hb hts hi5 hown hK hW k10 dX5_unfair_47 ?_
      refine rSfN 2 (j := 1) hx hb hts hi4 hown hK hW.2.1 (by decide) rfl (va_Nw.use rfl hN.2.2.1) dX5_unfair_50 ?_
      refine lv_bipush (v := 11) hx hb dX5_unfair_53 (by decide) ?_
      refine lv_aload_n hx hb dX5_unfair_55 rfl (lv_at hl 0 rfl) ?_
      refine rM0 hx hb hts hi5 hown hK hW k10 dX5_unfair_56 ?_
      refine rSfN 5 (j := 3) hx hb hts hi4 hown hK hW.2.1 (by decide) rfl (va_Nw.use rfl hN.2.2.2.2.2.1) dX5_unfair_59 ?_
      refine lv_bipush (v := 10) hx hb dX5_unfair_62 (by decide) ?_
      refine lv_iload_n hx hb dX5_unfair_64 rfl (lv_at hl 1 rfl) ?_
      refine lv_imul hx hb dX5_unfair_65 ?_
      refine lv_topi (fun y3 ey3 => ?_)
      obtain rfl : y3 = nI (10 * h) := ey3.trans (pk_mul 10 h)
      refine lv_iload hx hb dX5_unfair_66 (lv_at hl 4 rfl) ?_
      refine lv_iadd hx hb dX5_unfair_68 ?_
      refine lv_topi (fun y4 ey4 => ?_)
      obtain rfl : y4 = nI (10 * h + i) := ey4.trans (nI_add (10 * h) i)
      refine rSq (h := h) (k := i) (v := nI r) hx hb hK hW.2.1 (by omega) (by omega) (by omega) hP er dX5_unfair_69 ?_
      refine lv_imul hx hb dX5_unfair_70 ?_
      refine lv_topi (fun y5 ey5 => ?_)
      obtain rfl : y5 = nI (11 * r) := ey5.trans (pk_mul 11 r)
      refine lv_bipush (v := 7) hx hb dX5_unfair_71 (by decide) ?_
      refine lv_iadd hx hb dX5_unfair_73 ?_
      refine lv_topi (fun y6 ey6 => ?_)
      obtain rfl : y6 = nI (11 * r + 7) := ey6.trans (nI_add (11 * r) 7)
      refine rSh (h := r) (f := 7) (v := τ 7 r) hx hb hK hW.2.1 (by omega) (by omega) (by omega) hH rfl dX5_unfair_74 ?_
      refine lv_istore (lv' := [(5, .int (τ 7 r)), (0, .ref ma), (1, .int (nI h)), (2, .int ((unR τ h i).1)), (3, .int ((unR τ h i).2)), (4, .int (nI i))]) hx hb dX5_unfair_75 hl (by decide) rfl (fun ls hl => ?_)
      refine lv_iload hx hb dX5_unfair_77 (lv_at hl 5 rfl) ?_
      refine lv_if_ne (tgt := 87) hx hb dX5_unfair_79 (by decide) (fun c79 => ?_) (fun c79 => ?_)
      · skip
        replace c79 : ¬ (i = 0) := fun q => c79 ((nI_eq (a := i) (b := 0) (by omega) (by omega)).mpr q)
        refine lv_iload_n hx hb dX5_unfair_87 rfl (lv_at hl 3 rfl) ?_
        refine lv_iload hx hb dX5_unfair_88 (lv_at hl 0 rfl) ?_
        refine va_mmax hx hb (hml.trans hl.1.symm) hown km109 ksmax kmath kcmax (Nat.le_of_ble_eq_true rfl) (Nat.le_of_ble_eq_true rfl) (Nat.le_of_ble_eq_true rfl) (Nat.le_of_ble_eq_true rfl) dX5_unfair_90 ?_
        refine lv_istore_n (lv' := [(2, .int (if (unR τ h i).1 < τ 7 r then τ 7 r else (unR τ h i).1)), (5, .int (τ 7 r)), (0, .ref ma), (1, .int (nI h)), (3, .int ((unR τ h i).2)), (4, .int (nI i))]) hx hb dX5_unfair_93 rfl hl (by decide) rfl (fun ls hl => ?_)
        refine lv_iload hx hb dX5_unfair_94 (lv_at hl 5 rfl) ?_
        refine lv_if_ne (tgt := 104) hx hb dX5_unfair_96 (by decide) (fun c96 => ?_) (fun c96 => ?_)
        · skip
          replace c96 : ¬ (i = 0) := fun q => c96 ((nI_eq (a := i) (b := 0) (by omega) (by omega)).mpr q)
          refine lv_iload_n hx hb dX5_unfair_104 rfl (lv_at hl 4 rfl) ?_
          refine lv_iload hx hb dX5_unfair_105 (lv_at hl 1 rfl) ?_
          refine va_mmin hx hb (hml.trans hl.1.symm) hown km114 ksmin kmath kcmin (Nat.le_of_ble_eq_true rfl) (Nat.le_of_ble_eq_true rfl) (Nat.le_of_ble_eq_true rfl) (Nat.le_of_ble_eq_true rfl) dX5_unfair_107 ?_
          refine lv_istore_n (lv' := [(3, .int (if τ 7 r < (unR τ h i).2 then τ 7 r else (unR τ h i).2)), (2, .int (if (unR τ h i).1 < τ 7 r then τ 7 r else (unR τ h i).1)), (5, .int (τ 7 r)), (0, .ref ma), (1, .int (nI h)), (4, .int (nI i))]) hx hb dX5_unfair_110 rfl hl (by decide) rfl (fun ls hl => ?_)
          refine lv_iinc (k := 5) (v := nI (i + 1)) (lv' := [(4, .int (nI (i + 1))), (3, .int (if τ 7 r < (unR τ h i).2 then τ 7 r else (unR τ h i).2)), (2, .int (if (unR τ h i).1 < τ 7 r then τ 7 r else (unR τ h i).1)), (5, .int (τ 7 r)), (0, .ref ma), (1, .int (nI h))]) hx hb dX5_unfair_111 hl rfl (nI_add i 1) (by decide) rfl (fun ls hl => ?_)
          refine lv_goto (tgt := 26) hx hb dX5_unfair_114 (by decide) ?_
          have e9 := unR_s c79 er (show r < 2 ^ 31 by omega)
          have ih := fun hlt H locs ls q => ih hlt H locs ls (by rw [e9]; exact q)
          exact ih (by omega) _ _ _ ⟨hW, hS, lv_sub hl [4, 5, 2, 1, 0] rfl⟩
        · skip
          replace c96 := (nI_eq (a := i) (b := 0) (by omega) (by omega)).mp c96
          exact absurd c96 c79
      · skip
        replace c79 := (nI_eq (a := i) (b := 0) (by omega) (by omega)).mp c79
        refine lv_iload hx hb dX5_unfair_82 (lv_at hl 0 rfl) ?_
        refine lv_goto (tgt := 93) hx hb dX5_unfair_84 (by decide) ?_
        refine lv_istore_n (lv' := [(2, .int (τ 7 r)), (5, .int (τ 7 r)), (0, .ref ma), (1, .int (nI h)), (3, .int ((unR τ h i).2)), (4, .int (nI i))]) hx hb dX5_unfair_93 rfl hl (by decide) rfl (fun ls hl => ?_)
        refine lv_iload hx hb dX5_unfair_94 (lv_at hl 5 rfl) ?_
        refine lv_if_ne (tgt := 104) hx hb dX5_unfair_96 (by decide) (fun c96 => ?_) (fun c96 => ?_)
        · skip
          replace c96 : ¬ (i = 0) := fun q => c96 ((nI_eq (a := i) (b := 0) (by omega) (by omega)).mpr q)
          exact absurd c79 c96
        · skip
          replace c96 := (nI_eq (a := i) (b := 0) (by omega) (by omega)).mp c96
          refine lv_iload hx hb dX5_unfair_99 (lv_at hl 1 rfl) ?_
          refine lv_goto (tgt := 110) hx hb dX5_unfair_101 (by decide) ?_
          refine lv_istore_n (lv' := [(3, .int (τ 7 r)), (2, .int (τ 7 r)), (5, .int (τ 7 r)), (0, .ref ma), (1, .int (nI h)), (4, .int (nI i))]) hx hb dX5_unfair_110 rfl hl (by decide) rfl (fun ls hl => ?_)
          refine lv_iinc (k := 5) (v := nI (i + 1)) (lv' := [(4, .int (nI (i + 1))), (3, .int (τ 7 r)), (2, .int (τ 7 r)), (5, .int (τ 7 r)), (0, .ref ma), (1, .int (nI h))]) hx hb dX5_unfair_111 hl rfl (nI_add i 1) (by decide) rfl (fun ls hl => ?_)
          refine lv_goto (tgt := 26) hx hb dX5_unfair_114 (by decide) ?_
          have e9 := unR_0 c79 er (show r < 2 ^ 31 by omega)
          have ih := fun hlt H locs ls q => ih hlt H locs ls (by rw [e9]; exact q)
          exact ih (by omega) _ _ _ ⟨hW, hS, lv_sub hl [4, 5, 2, 1, 0] rfl⟩
  · skip
    replace c10 := b0 c10
    refine lv_aload_n hx hb dX5_unfair_13 rfl (lv_at hl 0 rfl) ?_
    refine lv_iconst (v := 1) hx hb dX5_unfair_14 (by decide) ?_
    refine kI (va_runV (As := [.int 1]) (rest := []) ⟨hx, hb, hml, hown, hts⟩ (c_X5_no l G ma ad ad2 hI nH nP hH hP δ τ σ2 0 H.size 1) (cwV 1 hts gX5_unfair_X5_no rfl rfl rfl (by decide +kernel) ⟨Nat.le_of_ble_eq_true rfl, Nat.le_of_ble_eq_true rfl⟩) ⟨PcM.blind, va_recv hK (va_P1 (hW.1)) (ci := 5) (q0 := 0) rfl rfl, PcM.pre hW hK hN⟩ rfl rfl hl.1 rfl (lv_room (Nat.le_of_ble_eq_true rfl)) dX5_unfair_15 ⟨Nat.le_of_ble_eq_true rfl, Nat.le_of_ble_eq_true rfl⟩) hS (fun q _ h => AM_sub hS h) (fun q h => AM_sub hS h) (fun H locs hB _ hk hS => ?_)
    have hW := hB
    exact zI 1 hx hb hr hlocks (Or.inr ⟨rfl, c10⟩) (⟨_, hW, hz⟩) hS (fun q => absurd q (by decide)) dX5_unfair_18
