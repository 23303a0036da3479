set_option maxHeartbeats 4000000 in
set_option maxRecDepth 100000 in
theorem c_X4_open (l : Launch) (G : wG) (ad : Nat → Nat) (hI : adInj ad 6) (nH nP : Nat) (hH : nH ≤ 10) (hP : nP ≤ 3) (δ τ : wS) (p : Nat) (hv : Inv nH nP τ) (hp : p < nP) : Met l yX4_open wsX4_open ({ frames := 2, cells := 0, slots := 0, locals := 49 } : Room) (Pc0 G [.ref (ad 0), .int (nI p)] (RVm G ad nH nP δ τ)) (Qi0 ((opnF nP p τ).2) (RVm G ad nH nP δ ((opnF nP p τ).1)) (AV ad 6)) 0 0 (AV ad 6) := by
  refine Met.ofW (cc := cX4_open) (maxL := 7) (ret := (some .boolean)) (by decide) rfl ?_
  intro pg ev s mid args below meth cd s₁ B hml hv0
  obtain ⟨rfl, hV, hK⟩ := hv0
  have hx := B.exec
  have hb := B.bytes
  have hr := B.returns
  have hts := atoms_spec (ws := wsX4_open) B.pre
  have hown : s.vm.findClass RX4 = some mid.cls := findClass_of_methodNamed B.named
  have hlocks := B.notSynchronized
  have hi4 : ∀ w ∈ wsX40, w ∈ wsX4_open := by decide +kernel
  have k15 := hts (.fieldLink RX4 15 "PumpRosterModel$State" "pump" "[I") (by decide +kernel)
  have k18 := hts (.fieldLink RX4 18 "PumpRosterModel$State" "roster" "[I") (by decide +kernel)
  have k9 := hts (.fieldLink RX4 9 "PumpRosterModel$State" "house" "[I") (by decide +kernel)
  have hS : va_S (AV ad 6) s.heap s.heap [] := va_S.rf
  have hl := lv_entry ([.ref (ad 0), .int (nI p)]) (n := 7) (Nat.le_of_ble_eq_true rfl)
  rw [lg_entry_eq]
  generalize (lg_sl ([.ref (ad 0), .int (nI p)]) ++ List.replicate (7 - (lg_sl ([.ref (ad 0), .int (nI p)])).length) Slot.unset).toArray = ls at hl ⊢
  have hl : lv_has ls 7 [(0, .ref (ad 0)), (1, .int (nI p))] := hl
  refine lv_bipush (v := 11) hx hb dX4_open_0 (by decide) ?_
  refine lv_iload_n hx hb dX4_open_2 rfl (lv_at hl 1 rfl) ?_
  refine lv_imul hx hb dX4_open_3 ?_
  refine lv_topi (fun y1 ey1 => ?_)
  obtain rfl : y1 = nI (11 * p) := ey1.trans (pk_mul 11 p)
  refine lv_istore_n (lv' := [(2, .int (nI (11 * p))), (0, .ref (ad 0)), (1, .int (nI p))]) hx hb dX4_open_4 rfl hl (by decide) rfl (fun ls hl => ?_)
  refine lv_iconst (v := (-1)) hx hb dX4_open_5 (by decide) ?_
  refine lv_istore_n (lv' := [(3, .int (-1)), (2, .int (nI (11 * p))), (0, .ref (ad 0)), (1, .int (nI p))]) hx hb dX4_open_6 rfl hl (by decide) rfl (fun ls hl => ?_)
  refine lv_iconst (v := nI 0) hx hb dX4_open_7 (by decide) ?_
  refine lv_istore (lv' := [(4, .int (nI 0)), (3, .int (-1)), (2, .int (nI (11 * p))), (0, .ref (ad 0)), (1, .int (nI p))]) hx hb dX4_open_8 hl (by decide) rfl (fun ls hl => ?_)
  refine W_up (sz τ p) (fun i H locs ls => RVm G ad nH nP δ τ H ∧ va_S (AV ad 6) s.heap H locs ∧ lv_has ls 7 [(0, .ref (ad 0)), (1, .int (nI p)), (2, .int (nI (11 * p))), (3, .int (-1)), (4, .int (nI i))] ∧ (∀ j, j < i → ¬ τ 6 (τ (40 + p) ((tn τ p + j) % sz τ p)).toNatClampNeg = 0)) ?_ 0 (by omega) _ _ _ ⟨hV, hS, lv_sub hl [3, 4, 2, 1, 0] rfl, (fun j hj => absurd hj (by omega))⟩
  intro i H locs ls hi ⟨hV, hS, hl, hx0⟩ ih
  have hn10 := (hv.2.2.2.2.2 p (by omega)).2.2.2.2.1.1
  have ht10 : tn τ p ≤ 10 := by have h8 := (hv.2.2.2.2.2 p (by omega)).2.2.2.2.2.1.2; omega
  refine lv_iload hx hb dX4_open_10 (lv_at hl 4 rfl) ?_
  refine lv_aload_n hx hb dX4_open_12 rfl (lv_at hl 0 rfl) ?_
  refine rSf 4 (j := 2) hx hb hts hi4 hown hK hV (by decide) rfl k15 dX4_open_13 ?_
  refine lv_iload_n hx hb dX4_open_16 rfl (lv_at hl 2 rfl) ?_
  refine lv_bipush (v := 6) hx hb dX4_open_17 (by decide) ?_
  refine lv_iadd hx hb dX4_open_19 ?_
  refine lv_topi (fun y2 ey2 => ?_)
  obtain rfl : y2 = nI (11 * p + 6) := ey2.trans (nI_add (11 * p) 6)
  refine rSp (h := p) (f := 6) (g := 26) (v := nI (sz τ p)) hx hb hK hV (by omega) (by omega) (by omega) (by omega) hP (hv.2.2.2.2.2 p (by omega)).2.2.2.2.1.2 dX4_open_20 ?_
  refine lv_icmp_ge (tgt := 81) hx hb dX4_open_21 (by decide) (fun c21 => ?_) (fun c21 => ?_)
  · skip
    replace c21 := (nI_leI (a := sz τ p) (b := i) (by omega) (by omega)).mp c21
    have ek : dtyK τ p = sz τ p := fnd_none (fun j hj => by simpa using hx0 j (by omega))
    refine lv_iload_n hx hb dX4_open_81 rfl (lv_at hl 3 rfl) ?_
    refine lv_iconst (v := (-1)) hx hb dX4_open_82 (by decide) ?_
    refine lv_icmp_ne (tgt := 88) hx hb dX4_open_83 (by decide) (fun c83 => ?_) (fun c83 => ?_)
    · skip
      exact absurd rfl c83
    · skip
      refine lv_iconst (v := 0) hx hb dX4_open_86 (by decide) ?_
      exact xZ hx hb hr hlocks (by rw [opnF, if_neg (by rw [ek]; omega)]; exact hV) hS (by rw [opnF, if_neg (by rw [ek]; omega)]) rfl dX4_open_87
  · skip
    replace c21 : ¬ (sz τ p ≤ i) := fun q => c21 ((nI_leI (a := sz τ p) (b := i) (by omega) (by omega)).mpr q)
    refine lv_iload_n hx hb dX4_open_24 rfl (lv_at hl 3 rfl) ?_
    refine lv_iconst (v := (-1)) hx hb dX4_open_25 (by decide) ?_
    refine lv_icmp_ne (tgt := 81) hx hb dX4_open_26 (by decide) (fun c26 => ?_) (fun c26 => ?_)
    · skip
      exact absurd rfl c26
    · skip
      refine lv_aload_n hx hb dX4_open_29 rfl (lv_at hl 0 rfl) ?_
      refine rSf 4 (j := 2) hx hb hts hi4 hown hK hV (by decide) rfl k15 dX4_open_30 ?_
      refine lv_iload_n hx hb dX4_open_33 rfl (lv_at hl 2 rfl) ?_
      refine lv_bipush (v := 7) hx hb dX4_open_34 (by decide) ?_
      refine lv_iadd hx hb dX4_open_36 ?_
      refine lv_topi (fun y3 ey3 => ?_)
      obtain rfl : y3 = nI (11 * p + 7) := ey3.trans (nI_add (11 * p) 7)
      refine rSp (h := p) (f := 7) (g := 27) (v := nI (tn τ p)) hx hb hK hV (by omega) (by omega) (by omega) (by omega) hP (hv.2.2.2.2.2 p (by omega)).2.2.2.2.2.1.1 dX4_open_37 ?_
      refine lv_iload hx hb dX4_open_38 (lv_at hl 4 rfl) ?_
      refine lv_iadd hx hb dX4_open_40 ?_
      refine lv_topi (fun y4 ey4 => ?_)
      obtain rfl : y4 = nI (tn τ p + i) := ey4.trans (nI_add (tn τ p) i)
      refine lv_aload_n hx hb dX4_open_41 rfl (lv_at hl 0 rfl) ?_
      refine rSf 4 (j := 2) hx hb hts hi4 hown hK hV (by decide) rfl k15 dX4_open_42 ?_
      refine lv_iload_n hx hb dX4_open_45 rfl (lv_at hl 2 rfl) ?_
      refine lv_bipush (v := 6) hx hb dX4_open_46 (by decide) ?_
      refine lv_iadd hx hb dX4_open_48 ?_
      refine lv_topi (fun y5 ey5 => ?_)
      obtain rfl : y5 = nI (11 * p + 6) := ey5.trans (nI_add (11 * p) 6)
      refine rSp (h := p) (f := 6) (g := 26) (v := nI (sz τ p)) hx hb hK hV (by omega) (by omega) (by omega) (by omega) hP (hv.2.2.2.2.2 p (by omega)).2.2.2.2.1.2 dX4_open_49 ?_
      have hm : (tn τ p + i) % sz τ p < sz τ p := Nat.mod_lt _ (by omega)
      refine lv_irem hx hb dX4_open_50 (nI_ne0 (by omega) (by omega)) ?_
      refine lv_topi (fun y6 ey6 => ?_)
      obtain rfl : y6 = nI ((tn τ p + i) % sz τ p) := ey6.trans (pk_rem (by omega) (by omega) (by omega))
      refine lv_istore (lv' := [(5, .int (nI ((tn τ p + i) % sz τ p))), (0, .ref (ad 0)), (1, .int (nI p)), (2, .int (nI (11 * p))), (3, .int (-1)), (4, .int (nI i))]) hx hb dX4_open_51 hl (by decide) rfl (fun ls hl => ?_)
      refine lv_aload_n hx hb dX4_open_53 rfl (lv_at hl 1 rfl) ?_
      refine lv_aload_n hx hb dX4_open_54 rfl (lv_at hl 1 rfl) ?_
      refine rSf 5 (j := 3) hx hb hts hi4 hown hK hV (by decide) rfl k18 dX4_open_55 ?_
      refine lv_bipush (v := 10) hx hb dX4_open_58 (by decide) ?_
      refine lv_iload_n hx hb dX4_open_60 rfl (lv_at hl 2 rfl) ?_
      refine lv_imul hx hb dX4_open_61 ?_
      refine lv_topi (fun y7 ey7 => ?_)
      obtain rfl : y7 = nI (10 * p) := ey7.trans (pk_mul 10 p)
      refine lv_iload hx hb dX4_open_62 (lv_at hl 0 rfl) ?_
      refine lv_iadd hx hb dX4_open_64 ?_
      refine lv_topi (fun y8 ey8 => ?_)
      obtain rfl : y8 = nI (10 * p + ((tn τ p + i) % sz τ p)) := ey8.trans (nI_add (10 * p) ((tn τ p + i) % sz τ p))
      obtain ⟨hh, hhl, ehh⟩ := (hv.2.2.2.2.2 p (by omega)).2.2.2.2.2.2.1 ((tn τ p + i) % sz τ p) hm
      refine rSq (h := p) (k := ((tn τ p + i) % sz τ p)) (v := nI hh) hx hb hK hV (by omega) (by omega) (by omega) hP ehh dX4_open_65 ?_
      refine kI (va_runV (As := [.int (nI hh)]) (rest := []) ⟨hx, hb, hml, hown, hts⟩ (c_X4_isThere l G ad hI nH nP hH hP δ τ hh (by omega)) (cwV 1 hts gX4_open_X4_isThere rfl rfl rfl (by decide +kernel) ⟨Nat.le_of_ble_eq_true rfl, Nat.le_of_ble_eq_true rfl⟩) ⟨Pc0.blind, va_recv hK (va_P1 (hV.1)) (ci := 4) (q0 := 0) rfl rfl, Pc0.pre hV hK⟩ rfl rfl hl.1 rfl (lv_room (Nat.le_of_ble_eq_true rfl)) dX4_open_66 ⟨Nat.zero_le _, Nat.zero_le _⟩) hS (fun _ _ q => q) (fun _ q => q) (fun H locs hV _ _ hS => ?_)
      refine lv_if_eq (tgt := 75) hx hb dX4_open_69 (by decide) (fun c69 => ?_) (fun c69 => ?_)
      · skip
        replace c69 := b0 c69
        refine lv_iinc (k := 5) (v := nI (i + 1)) (lv' := [(4, .int (nI (i + 1))), (5, .int (nI ((tn τ p + i) % sz τ p))), (0, .ref (ad 0)), (1, .int (nI p)), (2, .int (nI (11 * p))), (3, .int (-1))]) hx hb dX4_open_75 hl rfl (nI_add i 1) (by decide) rfl (fun ls hl => ?_)
        refine lv_goto (tgt := 10) hx hb dX4_open_78 (by decide) ?_
        exact ih (by omega) _ _ _ ⟨hV, hS, lv_sub hl [2, 3, 4, 5, 0] rfl, (fun j hj => by
                  rcases Nat.lt_or_ge j i with q | q
                  · exact hx0 j q
                  · have e : j = i := by omega
                    rw [e, ehh, nI_clamp (by omega)]; exact c69)⟩
      · skip
        replace c69 := b1 c69
        have ek : dtyK τ p = i := fnd_hit (by simp only [ehh, nI_clamp (show hh < 2 ^ 31 by omega)]; simpa using c69) (fun j hj => by simpa using hx0 j hj) (by omega)
        have eP : dtyP τ p = (tn τ p + i) % sz τ p := by unfold dtyP; rw [ek]
        have eH : dtyH τ p = hh := by unfold dtyH; rw [eP, ehh, nI_clamp (by omega)]
        have hk0 : dtyK τ p < sz τ p := by omega
        refine lv_iload hx hb dX4_open_72 (lv_at hl 0 rfl) ?_
        refine lv_istore_n (lv' := [(3, .int (nI ((tn τ p + i) % sz τ p))), (5, .int (nI ((tn τ p + i) % sz τ p))), (0, .ref (ad 0)), (1, .int (nI p)), (2, .int (nI (11 * p))), (4, .int (nI i))]) hx hb dX4_open_74 rfl hl (by decide) rfl (fun ls hl => ?_)
        refine lv_iinc (k := 5) (v := nI (i + 1)) (lv' := [(4, .int (nI (i + 1))), (3, .int (nI ((tn τ p + i) % sz τ p))), (5, .int (nI ((tn τ p + i) % sz τ p))), (0, .ref (ad 0)), (1, .int (nI p)), (2, .int (nI (11 * p)))]) hx hb dX4_open_75 hl rfl (nI_add i 1) (by decide) rfl (fun ls hl => ?_)
        refine lv_goto (tgt := 10) hx hb dX4_open_78 (by decide) ?_
        refine lv_iload hx hb dX4_open_10 (lv_at hl 0 rfl) ?_
        refine lv_aload_n hx hb dX4_open_12 rfl (lv_at hl 3 rfl) ?_
        refine rSf 4 (j := 2) hx hb hts hi4 hown hK hV (by decide) rfl k15 dX4_open_13 ?_
        refine lv_iload_n hx hb dX4_open_16 rfl (lv_at hl 5 rfl) ?_
        refine lv_bipush (v := 6) hx hb dX4_open_17 (by decide) ?_
        refine lv_iadd hx hb dX4_open_19 ?_
        refine lv_topi (fun y9 ey9 => ?_)
        obtain rfl : y9 = nI (11 * p + 6) := ey9.trans (nI_add (11 * p) 6)
        refine rSp (h := p) (f := 6) (g := 26) (v := nI (sz τ p)) hx hb hK hV (by omega) (by omega) (by omega) (by omega) hP (hv.2.2.2.2.2 p (by omega)).2.2.2.2.1.2 dX4_open_20 ?_
        refine lv_icmp_ge (tgt := 81) hx hb dX4_open_21 (by decide) (fun c21 => ?_) (fun c21 => ?_)
        · skip
          replace c21 := (nI_leI (a := sz τ p) (b := i + 1) (by omega) (by omega)).mp c21
          refine lv_iload_n hx hb dX4_open_81 rfl (lv_at hl 1 rfl) ?_
          refine lv_iconst (v := (-1)) hx hb dX4_open_82 (by decide) ?_
          refine lv_icmp_ne (tgt := 88) hx hb dX4_open_83 (by decide) (fun c83 => ?_) (fun c83 => ?_)
          · skip
            refine lv_aload_n hx hb dX4_open_88 rfl (lv_at hl 3 rfl) ?_
            refine rSf 5 (j := 3) hx hb hts hi4 hown hK hV (by decide) rfl k18 dX4_open_89 ?_
            refine lv_bipush (v := 10) hx hb dX4_open_92 (by decide) ?_
            refine lv_iload_n hx hb dX4_open_94 rfl (lv_at hl 4 rfl) ?_
            refine lv_imul hx hb dX4_open_95 ?_
            refine lv_topi (fun y10 ey10 => ?_)
            obtain rfl : y10 = nI (10 * p) := ey10.trans (pk_mul 10 p)
            refine lv_iload_n hx hb dX4_open_96 rfl (lv_at hl 1 rfl) ?_
            refine lv_iadd hx hb dX4_open_97 ?_
            refine lv_topi (fun y11 ey11 => ?_)
            obtain rfl : y11 = nI (10 * p + ((tn τ p + i) % sz τ p)) := ey11.trans (nI_add (10 * p) ((tn τ p + i) % sz τ p))
            refine rSq (h := p) (k := ((tn τ p + i) % sz τ p)) (v := nI hh) hx hb hK hV (by omega) (by omega) (by omega) hP ehh dX4_open_98 ?_
            refine lv_istore (lv' := [(4, .int (nI hh)), (3, .int (nI ((tn τ p + i) % sz τ p))), (5, .int (nI ((tn τ p + i) % sz τ p))), (0, .ref (ad 0)), (1, .int (nI p)), (2, .int (nI (11 * p)))]) hx hb dX4_open_99 hl (by decide) rfl (fun ls hl => ?_)
            refine lv_aload_n hx hb dX4_open_101 rfl (lv_at hl 3 rfl) ?_
            refine rSf 4 (j := 2) hx hb hts hi4 hown hK hV (by decide) rfl k15 dX4_open_102 ?_
            refine lv_iload_n hx hb dX4_open_105 rfl (lv_at hl 5 rfl) ?_
            refine lv_bipush (v := 7) hx hb dX4_open_106 (by decide) ?_
            refine lv_iadd hx hb dX4_open_108 ?_
            refine lv_topi (fun y12 ey12 => ?_)
            obtain rfl : y12 = nI (11 * p + 7) := ey12.trans (nI_add (11 * p) 7)
            refine lv_iload_n hx hb dX4_open_109 rfl (lv_at hl 1 rfl) ?_
            refine lv_iconst (v := 1) hx hb dX4_open_110 (by decide) ?_
            refine lv_iadd hx hb dX4_open_111 ?_
            refine lv_topi (fun y13 ey13 => ?_)
            obtain rfl : y13 = nI ((tn τ p + i) % sz τ p + 1) := ey13.trans (nI_add ((tn τ p + i) % sz τ p) 1)
            refine lv_aload_n hx hb dX4_open_112 rfl (lv_at hl 3 rfl) ?_
            refine rSf 4 (j := 2) hx hb hts hi4 hown hK hV (by decide) rfl k15 dX4_open_113 ?_
            refine lv_iload_n hx hb dX4_open_116 rfl (lv_at hl 5 rfl) ?_
            refine lv_bipush (v := 6) hx hb dX4_open_117 (by decide) ?_
            refine lv_iadd hx hb dX4_open_119 ?_
            refine lv_topi (fun y14 ey14 => ?_)
            obtain rfl : y14 = nI (11 * p + 6) := ey14.trans (nI_add (11 * p) 6)
            refine rSp (h := p) (f := 6) (g := 26) (v := nI (sz τ p)) hx hb hK hV (by omega) (by omega) (by omega) (by omega) hP (hv.2.2.2.2.2 p (by omega)).2.2.2.2.1.2 dX4_open_120 ?_
            refine lv_irem hx hb dX4_open_121 (nI_ne0 (by omega) (by omega)) ?_
            refine lv_topi (fun y15 ey15 => ?_)
            obtain rfl : y15 = nI (((tn τ p + i) % sz τ p + 1) % sz τ p) := ey15.trans (pk_rem (by omega) (by omega) (by omega))
            refine wSp (h := p) (f := 7) (g := 27) hx hb hK hI hV hS (fun _ q => q) (by omega) (by omega) (by omega) (by omega) hP dX4_open_122 (fun H locs hV _ hS => ?_)
            have hV : RVm G ad nH nP δ (trnF p τ) H := by rw [trnF, eP]; exact hV
            have hv1 : Inv nH nP (trnF p τ) := hv.oTrn hk0
            obtain ⟨τ1, ht1⟩ : ∃ t, t = trnF p τ := ⟨_, rfl⟩
            rw [← ht1] at hV hv1
            rcases hv1.oKey hp with e25 | ⟨k, hk, e25⟩
            · skip
              have eh : hndF nP p hh τ1 = (τ1, 1) := by rw [hndF, if_pos (Or.inl e25)]
              refine lv_aload_n hx hb dX4_open_123 rfl (lv_at hl 3 rfl) ?_
              refine rSf 4 (j := 2) hx hb hts hi4 hown hK hV (by decide) rfl k15 dX4_open_124 ?_
              refine lv_iload_n hx hb dX4_open_127 rfl (lv_at hl 5 rfl) ?_
              refine lv_iconst (v := 5) hx hb dX4_open_128 (by decide) ?_
              refine lv_iadd hx hb dX4_open_129 ?_
              refine lv_topi (fun y16 ey16 => ?_)
              obtain rfl : y16 = nI (11 * p + 5) := ey16.trans (nI_add (11 * p) 5)
              refine rSp (h := p) (f := 5) (g := 25) (v := (-1)) hx hb hK hV (by omega) (by omega) (by omega) (by omega) hP e25 dX4_open_130 ?_
              refine lv_istore (lv' := [(5, .int (-1)), (4, .int (nI hh)), (3, .int (nI ((tn τ p + i) % sz τ p))), (0, .ref (ad 0)), (1, .int (nI p)), (2, .int (nI (11 * p)))]) hx hb dX4_open_131 hl (by decide) rfl (fun ls hl => ?_)
              refine lv_iload hx hb dX4_open_133 (lv_at hl 0 rfl) ?_
              refine lv_iconst (v := (-1)) hx hb dX4_open_135 (by decide) ?_
              refine lv_icmp_eq (tgt := 146) hx hb dX4_open_136 (by decide) (fun c136 => ?_) (fun c136 => ?_)
              · skip
                refine lv_iconst (v := 1) hx hb dX4_open_146 (by decide) ?_
                refine lv_goto (tgt := 151) hx hb dX4_open_147 (by decide) ?_
                refine lv_istore (lv' := [(6, .int 1), (5, .int (-1)), (4, .int (nI hh)), (3, .int (nI ((tn τ p + i) % sz τ p))), (0, .ref (ad 0)), (1, .int (nI p)), (2, .int (nI (11 * p)))]) hx hb dX4_open_151 hl (by decide) rfl (fun ls hl => ?_)
                refine lv_iload hx hb dX4_open_153 (lv_at hl 0 rfl) ?_
                refine lv_if_ne (tgt := 237) hx hb dX4_open_155 (by decide) (fun c155 => ?_) (fun c155 => ?_)
                · skip
                  refine lv_iload hx hb dX4_open_237 (lv_at hl 0 rfl) ?_
                  refine lv_if_ne (tgt := 244) hx hb dX4_open_239 (by decide) (fun c239 => ?_) (fun c239 => ?_)
                  · skip
                    refine lv_aload_n hx hb dX4_open_244 rfl (lv_at hl 4 rfl) ?_
                    refine rSf 4 (j := 2) hx hb hts hi4 hown hK hV (by decide) rfl k15 dX4_open_245 ?_
                    refine lv_iload_n hx hb dX4_open_248 rfl (lv_at hl 6 rfl) ?_
                    refine lv_iconst (v := 5) hx hb dX4_open_249 (by decide) ?_
                    refine lv_iadd hx hb dX4_open_250 ?_
                    refine lv_topi (fun y17 ey17 => ?_)
                    obtain rfl : y17 = nI (11 * p + 5) := ey17.trans (nI_add (11 * p) 5)
                    refine lv_iload hx hb dX4_open_251 (lv_at hl 2 rfl) ?_
                    refine wSp (h := p) (f := 5) (g := 25) hx hb hK hI hV hS (fun _ q => q) (by omega) (by omega) (by omega) (by omega) hP dX4_open_253 (fun H locs hV _ hS => ?_)
                    refine lv_aload_n hx hb dX4_open_254 rfl (lv_at hl 4 rfl) ?_
                    refine rSf 4 (j := 2) hx hb hts hi4 hown hK hV (by decide) rfl k15 dX4_open_255 ?_
                    refine lv_iload_n hx hb dX4_open_258 rfl (lv_at hl 6 rfl) ?_
                    refine lv_bipush (v := 8) hx hb dX4_open_259 (by decide) ?_
                    refine lv_iadd hx hb dX4_open_261 ?_
                    refine lv_topi (fun y18 ey18 => ?_)
                    obtain rfl : y18 = nI (11 * p + 8) := ey18.trans (nI_add (11 * p) 8)
                    refine lv_dup2_11 hx hb dX4_open_262 rfl rfl ?_
                    refine rSp (h := p) (f := 8) (g := 28) (v := τ1 28 p) hx hb hK hV (by omega) (by omega) (by omega) (by omega) hP (wst_f (by decide)) dX4_open_263 ?_
                    refine lv_iconst (v := 1) hx hb dX4_open_264 (by decide) ?_
                    refine lv_iadd hx hb dX4_open_265 ?_
                    refine wSp (h := p) (f := 8) (g := 28) hx hb hK hI hV hS (fun _ q => q) (by omega) (by omega) (by omega) (by omega) hP dX4_open_266 (fun H locs hV _ hS => ?_)
                    refine lv_aload_n hx hb dX4_open_267 rfl (lv_at hl 4 rfl) ?_
                    refine rSf 2 (j := 1) hx hb hts hi4 hown hK hV (by decide) rfl k9 dX4_open_268 ?_
                    refine lv_bipush (v := 11) hx hb dX4_open_271 (by decide) ?_
                    refine lv_iload hx hb dX4_open_273 (lv_at hl 2 rfl) ?_
                    refine lv_imul hx hb dX4_open_275 ?_
                    refine lv_topi (fun y19 ey19 => ?_)
                    obtain rfl : y19 = nI (11 * hh) := ey19.trans (pk_mul 11 hh)
                    refine lv_bipush (v := 7) hx hb dX4_open_276 (by decide) ?_
                    refine lv_iadd hx hb dX4_open_278 ?_
                    refine lv_topi (fun y20 ey20 => ?_)
                    obtain rfl : y20 = nI (11 * hh + 7) := ey20.trans (nI_add (11 * hh) 7)
                    refine lv_dup2_11 hx hb dX4_open_279 rfl rfl ?_
                    refine rSh (h := hh) (f := 7) (v := τ1 7 hh) hx hb hK hV (by omega) (by omega) (by omega) hH ((wst_f (by decide)).trans (wst_f (by decide))) dX4_open_280 ?_
                    refine lv_iconst (v := 1) hx hb dX4_open_281 (by decide) ?_
                    refine lv_iadd hx hb dX4_open_282 ?_
                    refine wSh (h := hh) (f := 7) hx hb hK hI hV hS (fun _ q => q) (by omega) (by omega) (by omega) hH dX4_open_283 (fun H locs hV _ hS => ?_)
                    refine lv_iconst (v := 1) hx hb dX4_open_284 (by decide) ?_
                    exact xZ hx hb hr hlocks (by rw [opnF, if_pos hk0, eH, ← ht1, eh, if_pos rfl]; exact hV) hS (by rw [opnF, if_pos hk0, eH, ← ht1, eh, if_pos rfl]) rfl dX4_open_285
                  · skip
                    exact absurd c239 (by decide)
                · skip
                  exact absurd c155 (by decide)
              · skip
                exact absurd rfl c136
            · skip
              refine lv_aload_n hx hb dX4_open_123 rfl (lv_at hl 3 rfl) ?_
              refine rSf 4 (j := 2) hx hb hts hi4 hown hK hV (by decide) rfl k15 dX4_open_124 ?_
              refine lv_iload_n hx hb dX4_open_127 rfl (lv_at hl 5 rfl) ?_
              refine lv_iconst (v := 5) hx hb dX4_open_128 (by decide) ?_
              refine lv_iadd hx hb dX4_open_129 ?_
              refine lv_topi (fun y21 ey21 => ?_)
              obtain rfl : y21 = nI (11 * p + 5) := ey21.trans (nI_add (11 * p) 5)
              refine rSp (h := p) (f := 5) (g := 25) (v := nI k) hx hb hK hV (by omega) (by omega) (by omega) (by omega) hP e25 dX4_open_130 ?_
              refine lv_istore (lv' := [(5, .int (nI k)), (4, .int (nI hh)), (3, .int (nI ((tn τ p + i) % sz τ p))), (0, .ref (ad 0)), (1, .int (nI p)), (2, .int (nI (11 * p)))]) hx hb dX4_open_131 hl (by decide) rfl (fun ls hl => ?_)
              refine lv_iload hx hb dX4_open_133 (lv_at hl 0 rfl) ?_
              refine lv_iconst (v := (-1)) hx hb dX4_open_135 (by decide) ?_
              refine lv_icmp_eq (tgt := 146) hx hb dX4_open_136 (by decide) (fun c136 => ?_) (fun c136 => ?_)
              · skip
                exact absurd c136 (nI_nm1 (by omega))
              · skip
                refine lv_iload hx hb dX4_open_139 (lv_at hl 0 rfl) ?_
                refine lv_iload hx hb dX4_open_141 (lv_at hl 1 rfl) ?_
                refine lv_icmp_ne (tgt := 150) hx hb dX4_open_143 (by decide) (fun c143 => ?_) (fun c143 => ?_)
                · skip
                  replace c143 : ¬ (k = hh) := fun q => c143 ((nI_eq (a := k) (b := hh) (by omega) (by omega)).mpr q)
                  have eN : ¬ (τ1 25 p = -1 ∨ τ1 25 p = nI hh) := fun q => q.elim (fun q => nI_nm1 (by omega) (e25.symm.trans q)) (fun q => c143 ((nI_eq (by omega) (by omega)).mp (e25.symm.trans q)))
                  refine lv_iconst (v := 0) hx hb dX4_open_150 (by decide) ?_
                  refine lv_istore (lv' := [(6, .int 0), (5, .int (nI k)), (4, .int (nI hh)), (3, .int (nI ((tn τ p + i) % sz τ p))), (0, .ref (ad 0)), (1, .int (nI p)), (2, .int (nI (11 * p)))]) hx hb dX4_open_151 hl (by decide) rfl (fun ls hl => ?_)
                  refine lv_iload hx hb dX4_open_153 (lv_at hl 0 rfl) ?_
                  refine lv_if_ne (tgt := 237) hx hb dX4_open_155 (by decide) (fun c155 => ?_) (fun c155 => ?_)
                  · skip
                    exact absurd rfl c155
                  · skip
                    refine lv_aload_n hx hb dX4_open_158 rfl (lv_at hl 4 rfl) ?_
                    refine lv_iload hx hb dX4_open_159 (lv_at hl 1 rfl) ?_
                    refine kI (va_runV (As := [.int (nI k)]) (rest := []) ⟨hx, hb, hml, hown, hts⟩ (c_X4_isThere l G ad hI nH nP hH hP δ τ1 k (by omega)) (cwV 1 hts gX4_open_X4_isThere rfl rfl rfl (by decide +kernel) ⟨Nat.le_of_ble_eq_true rfl, Nat.le_of_ble_eq_true rfl⟩) ⟨Pc0.blind, va_recv hK (va_P1 (hV.1)) (ci := 4) (q0 := 0) rfl rfl, Pc0.pre hV hK⟩ rfl rfl hl.1 rfl (lv_room (Nat.le_of_ble_eq_true rfl)) dX4_open_161 ⟨Nat.zero_le _, Nat.zero_le _⟩) hS (fun _ _ q => q) (fun _ q => q) (fun H locs hV _ _ hS => ?_)
                    refine lv_istore (lv' := [(6, .int (if τ1 6 k = 0 then 1 else 0)), (5, .int (nI k)), (4, .int (nI hh)), (3, .int (nI ((tn τ p + i) % sz τ p))), (0, .ref (ad 0)), (1, .int (nI p)), (2, .int (nI (11 * p)))]) hx hb dX4_open_164 hl (by decide) rfl (fun ls hl => ?_)
                    refine lv_iload hx hb dX4_open_166 (lv_at hl 0 rfl) ?_
                    refine lv_if_eq (tgt := 224) hx hb dX4_open_168 (by decide) (fun c168 => ?_) (fun c168 => ?_)
                    · skip
                      replace c168 := b0 c168
                      have eh : hndF nP p hh τ1 = (chgF nP k 3 τ1, 0) := by rw [hndF, if_neg eN, e25, nI_clamp (by omega), if_neg c168]
                      have hv9 := hv1
                      refine lv_iload hx hb dX4_open_224 (lv_at hl 0 rfl) ?_
                      refine lv_if_ne (tgt := 237) hx hb dX4_open_226 (by decide) (fun c226 => ?_) (fun c226 => ?_)
                      · skip
                        exact absurd (b1 c226) c168
                      · skip
                        refine lv_aload_n hx hb dX4_open_229 rfl (lv_at hl 4 rfl) ?_
                        refine lv_iload hx hb dX4_open_230 (lv_at hl 1 rfl) ?_
                        refine lv_iconst (v := 3) hx hb dX4_open_232 (by decide) ?_
                        refine kI (va_runV (As := [.int (nI k), .int 3]) (rest := []) ⟨hx, hb, hml, hown, hts⟩ (c_X4_fine l G ad hI nH nP hH hP δ τ1 k 3 hv9 (by omega)) (cwV 2 hts gX4_open_X4_fine rfl rfl rfl (by decide +kernel) ⟨Nat.le_of_ble_eq_true rfl, Nat.le_of_ble_eq_true rfl⟩) ⟨Pc0.blind, va_recv hK (va_P1 (hV.1)) (ci := 4) (q0 := 0) rfl rfl, Pc0.pre hV hK⟩ rfl rfl hl.1 rfl (lv_room (Nat.le_of_ble_eq_true rfl)) dX4_open_233 ⟨Nat.zero_le _, Nat.zero_le _⟩) hS (fun _ _ q => q) (fun _ q => q) (fun H locs hV _ _ hS => ?_)
                        refine lv_pop hx hb dX4_open_236 rfl ?_
                        refine lv_iload hx hb dX4_open_237 (lv_at hl 0 rfl) ?_
                        refine lv_if_ne (tgt := 244) hx hb dX4_open_239 (by decide) (fun c239 => ?_) (fun c239 => ?_)
                        · skip
                          exact absurd (b1 c239) c168
                        · skip
                          refine lv_iconst (v := 0) hx hb dX4_open_242 (by decide) ?_
                          exact xZ hx hb hr hlocks (by rw [opnF, if_pos hk0, eH, ← ht1, eh, if_neg (show ¬ (0 : Int32) = 1 by decide)]; exact hV) hS (by rw [opnF, if_pos hk0, eH, ← ht1, eh, if_neg (show ¬ (0 : Int32) = 1 by decide)]) rfl dX4_open_243
                    · skip
                      replace c168 := b1 c168
                      refine lv_aload_n hx hb dX4_open_171 rfl (lv_at hl 4 rfl) ?_
                      refine rSf 2 (j := 1) hx hb hts hi4 hown hK hV (by decide) rfl k9 dX4_open_172 ?_
                      refine lv_bipush (v := 11) hx hb dX4_open_175 (by decide) ?_
                      refine lv_iload hx hb dX4_open_177 (lv_at hl 1 rfl) ?_
                      refine lv_imul hx hb dX4_open_179 ?_
                      refine lv_topi (fun y22 ey22 => ?_)
                      obtain rfl : y22 = nI (11 * k) := ey22.trans (pk_mul 11 k)
                      refine lv_bipush (v := 9) hx hb dX4_open_180 (by decide) ?_
                      refine lv_iadd hx hb dX4_open_182 ?_
                      refine lv_topi (fun y23 ey23 => ?_)
                      obtain rfl : y23 = nI (11 * k + 9) := ey23.trans (nI_add (11 * k) 9)
                      refine lv_dup2_11 hx hb dX4_open_183 rfl rfl ?_
                      refine rSh (h := k) (f := 9) (v := τ1 9 k) hx hb hK hV (by omega) (by omega) (by omega) hH rfl dX4_open_184 ?_
                      refine lv_iconst (v := 1) hx hb dX4_open_185 (by decide) ?_
                      refine lv_iadd hx hb dX4_open_186 ?_
                      refine wSh (h := k) (f := 9) hx hb hK hI hV hS (fun _ q => q) (by omega) (by omega) (by omega) hH dX4_open_187 (fun H locs hV _ hS => ?_)
                      refine lv_aload_n hx hb dX4_open_188 rfl (lv_at hl 4 rfl) ?_
                      refine rSf 2 (j := 1) hx hb hts hi4 hown hK hV (by decide) rfl k9 dX4_open_189 ?_
                      refine lv_bipush (v := 11) hx hb dX4_open_192 (by decide) ?_
                      refine lv_iload hx hb dX4_open_194 (lv_at hl 1 rfl) ?_
                      refine lv_imul hx hb dX4_open_196 ?_
                      refine lv_topi (fun y24 ey24 => ?_)
                      obtain rfl : y24 = nI (11 * k) := ey24.trans (pk_mul 11 k)
                      refine lv_bipush (v := 9) hx hb dX4_open_197 (by decide) ?_
                      refine lv_iadd hx hb dX4_open_199 ?_
                      refine lv_topi (fun y25 ey25 => ?_)
                      obtain rfl : y25 = nI (11 * k + 9) := ey25.trans (nI_add (11 * k) 9)
                      refine rSh (h := k) (f := 9) (v := (τ1 9 k) + 1) hx hb hK hV (by omega) (by omega) (by omega) hH wst_s dX4_open_200 ?_
                      refine lv_aload_n hx hb dX4_open_201 rfl (lv_at hl 4 rfl) ?_
                      refine rSf 2 (j := 1) hx hb hts hi4 hown hK hV (by decide) rfl k9 dX4_open_202 ?_
                      refine lv_bipush (v := 11) hx hb dX4_open_205 (by decide) ?_
                      refine lv_iload hx hb dX4_open_207 (lv_at hl 1 rfl) ?_
                      refine lv_imul hx hb dX4_open_209 ?_
                      refine lv_topi (fun y26 ey26 => ?_)
                      obtain rfl : y26 = nI (11 * k) := ey26.trans (pk_mul 11 k)
                      refine lv_iconst (v := 2) hx hb dX4_open_210 (by decide) ?_
                      refine lv_iadd hx hb dX4_open_211 ?_
                      refine lv_topi (fun y27 ey27 => ?_)
                      obtain rfl : y27 = nI (11 * k + 2) := ey27.trans (nI_add (11 * k) 2)
                      refine rSh (h := k) (f := 2) (v := τ1 2 k) hx hb hK hV (by omega) (by omega) (by omega) hH (wst_f (by decide)) dX4_open_212 ?_
                      refine lv_irem hx hb dX4_open_213 (by obtain ⟨kf, hf1, hf9, hf0⟩ := (hv1.2.2.2.2.1 k hk).1; rw [hf0]; exact nI_ne0 (by omega) (by omega)) ?_
                      refine lv_if_eq (tgt := 221) hx hb dX4_open_214 (by decide) (fun c214 => ?_) (fun c214 => ?_)
                      · skip
                        have eh : hndF nP p hh τ1 = (chgF nP k 3 (wst τ1 9 k (τ1 9 k + 1)), 0) := by rw [hndF, if_neg eN, e25, nI_clamp (by omega), if_pos c168, if_pos c214]
                        have hv9 : Inv nH nP (wst τ1 9 k (τ1 9 k + 1)) := hv1.free (by omega)
                        refine lv_iconst (v := 0) hx hb dX4_open_221 (by decide) ?_
                        refine lv_istore (lv' := [(6, .int 0), (5, .int (nI k)), (4, .int (nI hh)), (3, .int (nI ((tn τ p + i) % sz τ p))), (0, .ref (ad 0)), (1, .int (nI p)), (2, .int (nI (11 * p)))]) hx hb dX4_open_222 hl (by decide) rfl (fun ls hl => ?_)
                        refine lv_iload hx hb dX4_open_224 (lv_at hl 0 rfl) ?_
                        refine lv_if_ne (tgt := 237) hx hb dX4_open_226 (by decide) (fun c226 => ?_) (fun c226 => ?_)
                        · skip
                          exact absurd rfl c226
                        · skip
                          refine lv_aload_n hx hb dX4_open_229 rfl (lv_at hl 4 rfl) ?_
                          refine lv_iload hx hb dX4_open_230 (lv_at hl 1 rfl) ?_
                          refine lv_iconst (v := 3) hx hb dX4_open_232 (by decide) ?_
                          refine kI (va_runV (As := [.int (nI k), .int 3]) (rest := []) ⟨hx, hb, hml, hown, hts⟩ (c_X4_fine l G ad hI nH nP hH hP δ (wst τ1 9 k ((τ1 9 k) + 1)) k 3 hv9 (by omega)) (cwV 2 hts gX4_open_X4_fine rfl rfl rfl (by decide +kernel) ⟨Nat.le_of_ble_eq_true rfl, Nat.le_of_ble_eq_true rfl⟩) ⟨Pc0.blind, va_recv hK (va_P1 (hV.1)) (ci := 4) (q0 := 0) rfl rfl, Pc0.pre hV hK⟩ rfl rfl hl.1 rfl (lv_room (Nat.le_of_ble_eq_true rfl)) dX4_open_233 ⟨Nat.zero_le _, Nat.zero_le _⟩) hS (fun _ _ q => q) (fun _ q => q) (fun H locs hV _ _ hS => ?_)
                          refine lv_pop hx hb dX4_open_236 rfl ?_
                          refine lv_iload hx hb dX4_open_237 (lv_at hl 0 rfl) ?_
                          refine lv_if_ne (tgt := 244) hx hb dX4_open_239 (by decide) (fun c239 => ?_) (fun c239 => ?_)
                          · skip
                            exact absurd rfl c239
                          · skip
                            refine lv_iconst (v := 0) hx hb dX4_open_242 (by decide) ?_
                            exact xZ hx hb hr hlocks (by rw [opnF, if_pos hk0, eH, ← ht1, eh, if_neg (show ¬ (0 : Int32) = 1 by decide)]; exact hV) hS (by rw [opnF, if_pos hk0, eH, ← ht1, eh, if_neg (show ¬ (0 : Int32) = 1 by decide)]) rfl dX4_open_243
                      · skip
                        have eh : hndF nP p hh τ1 = (wst τ1 9 k (τ1 9 k + 1), 1) := by rw [hndF, if_neg eN, e25, nI_clamp (by omega), if_pos c168, if_neg c214]
                        refine lv_iconst (v := 1) hx hb dX4_open_217 (by decide) ?_
                        refine lv_goto (tgt := 222) hx hb dX4_open_218 (by decide) ?_
                        refine lv_istore (lv' := [(6, .int 1), (5, .int (nI k)), (4, .int (nI hh)), (3, .int (nI ((tn τ p + i) % sz τ p))), (0, .ref (ad 0)), (1, .int (nI p)), (2, .int (nI (11 * p)))]) hx hb dX4_open_222 hl (by decide) rfl (fun ls hl => ?_)
                        refine lv_iload hx hb dX4_open_224 (lv_at hl 0 rfl) ?_
                        refine lv_if_ne (tgt := 237) hx hb dX4_open_226 (by decide) (fun c226 => ?_) (fun c226 => ?_)
                        · skip
                          refine lv_iload hx hb dX4_open_237 (lv_at hl 0 rfl) ?_
                          refine lv_if_ne (tgt := 244) hx hb dX4_open_239 (by decide) (fun c239 => ?_) (fun c239 => ?_)
                          · skip
                            refine lv_aload_n hx hb dX4_open_244 rfl (lv_at hl 4 rfl) ?_
                            refine rSf 4 (j := 2) hx hb hts hi4 hown hK hV (by decide) rfl k15 dX4_open_245 ?_
                            refine lv_iload_n hx hb dX4_open_248 rfl (lv_at hl 6 rfl) ?_
                            refine lv_iconst (v := 5) hx hb dX4_open_249 (by decide) ?_
                            refine lv_iadd hx hb dX4_open_250 ?_
                            refine lv_topi (fun y28 ey28 => ?_)
                            obtain rfl : y28 = nI (11 * p + 5) := ey28.trans (nI_add (11 * p) 5)
                            refine lv_iload hx hb dX4_open_251 (lv_at hl 2 rfl) ?_
                            refine wSp (h := p) (f := 5) (g := 25) hx hb hK hI hV hS (fun _ q => q) (by omega) (by omega) (by omega) (by omega) hP dX4_open_253 (fun H locs hV _ hS => ?_)
                            refine lv_aload_n hx hb dX4_open_254 rfl (lv_at hl 4 rfl) ?_
                            refine rSf 4 (j := 2) hx hb hts hi4 hown hK hV (by decide) rfl k15 dX4_open_255 ?_
                            refine lv_iload_n hx hb dX4_open_258 rfl (lv_at hl 6 rfl) ?_
                            refine lv_bipush (v := 8) hx hb dX4_open_259 (by decide) ?_
                            refine lv_iadd hx hb dX4_open_261 ?_
                            refine lv_topi (fun y29 ey29 => ?_)
                            obtain rfl : y29 = nI (11 * p + 8) := ey29.trans (nI_add (11 * p) 8)
                            refine lv_dup2_11 hx hb dX4_open_262 rfl rfl ?_
                            refine rSp (h := p) (f := 8) (g := 28) (v := τ1 28 p) hx hb hK hV (by omega) (by omega) (by omega) (by omega) hP ((wst_f (by decide)).trans (wst_f (by decide))) dX4_open_263 ?_
                            refine lv_iconst (v := 1) hx hb dX4_open_264 (by decide) ?_
                            refine lv_iadd hx hb dX4_open_265 ?_
                            refine wSp (h := p) (f := 8) (g := 28) hx hb hK hI hV hS (fun _ q => q) (by omega) (by omega) (by omega) (by omega) hP dX4_open_266 (fun H locs hV _ hS => ?_)
                            refine lv_aload_n hx hb dX4_open_267 rfl (lv_at hl 4 rfl) ?_
                            refine rSf 2 (j := 1) hx hb hts hi4 hown hK hV (by decide) rfl k9 dX4_open_268 ?_
                            refine lv_bipush (v := 11) hx hb dX4_open_271 (by decide) ?_
                            refine lv_iload hx hb dX4_open_273 (lv_at hl 2 rfl) ?_
                            refine lv_imul hx hb dX4_open_275 ?_
                            refine lv_topi (fun y30 ey30 => ?_)
                            obtain rfl : y30 = nI (11 * hh) := ey30.trans (pk_mul 11 hh)
                            refine lv_bipush (v := 7) hx hb dX4_open_276 (by decide) ?_
                            refine lv_iadd hx hb dX4_open_278 ?_
                            refine lv_topi (fun y31 ey31 => ?_)
                            obtain rfl : y31 = nI (11 * hh + 7) := ey31.trans (nI_add (11 * hh) 7)
                            refine lv_dup2_11 hx hb dX4_open_279 rfl rfl ?_
                            refine rSh (h := hh) (f := 7) (v := τ1 7 hh) hx hb hK hV (by omega) (by omega) (by omega) hH ((wst_f (by decide)).trans ((wst_f (by decide)).trans (wst_f (by decide)))) dX4_open_280 ?_
                            refine lv_iconst (v := 1) hx hb dX4_open_281 (by decide) ?_
                            refine lv_iadd hx hb dX4_open_282 ?_
                            refine wSh (h := hh) (f := 7) hx hb hK hI hV hS (fun _ q => q) (by omega) (by omega) (by omega) hH dX4_open_283 (fun H locs hV _ hS => ?_)
                            refine lv_iconst (v := 1) hx hb dX4_open_284 (by decide) ?_
                            exact xZ hx hb hr hlocks (by rw [opnF, if_pos hk0, eH, ← ht1, eh, if_pos rfl]; exact hV) hS (by rw [opnF, if_pos hk0, eH, ← ht1, eh, if_pos rfl]) rfl dX4_open_285
                          · skip
                            exact absurd c239 (by decide)
                        · skip
                          exact absurd c226 (by decide)
                · skip
                  replace c143 := (nI_eq (a := k) (b := hh) (by omega) (by omega)).mp c143
                  have eh : hndF nP p hh τ1 = (τ1, 1) := by rw [hndF, if_pos (Or.inr (by rw [e25, c143]))]
                  refine lv_iconst (v := 1) hx hb dX4_open_146 (by decide) ?_
                  refine lv_goto (tgt := 151) hx hb dX4_open_147 (by decide) ?_
                  refine lv_istore (lv' := [(6, .int 1), (5, .int (nI k)), (4, .int (nI hh)), (3, .int (nI ((tn τ p + i) % sz τ p))), (0, .ref (ad 0)), (1, .int (nI p)), (2, .int (nI (11 * p)))]) hx hb dX4_open_151 hl (by decide) rfl (fun ls hl => ?_)
                  refine lv_iload hx hb dX4_open_153 (lv_at hl 0 rfl) ?_
                  refine lv_if_ne (tgt := 237) hx hb dX4_open_155 (by decide) (fun c155 => ?_) (fun c155 => ?_)
                  · skip
                    refine lv_iload hx hb dX4_open_237 (lv_at hl 0 rfl) ?_
                    refine lv_if_ne (tgt := 244) hx hb dX4_open_239 (by decide) (fun c239 => ?_) (fun c239 => ?_)
                    · skip
                      refine lv_aload_n hx hb dX4_open_244 rfl (lv_at hl 4 rfl) ?_
                      refine rSf 4 (j := 2) hx hb hts hi4 hown hK hV (by decide) rfl k15 dX4_open_245 ?_
                      refine lv_iload_n hx hb dX4_open_248 rfl (lv_at hl 6 rfl) ?_
                      refine lv_iconst (v := 5) hx hb dX4_open_249 (by decide) ?_
                      refine lv_iadd hx hb dX4_open_250 ?_
                      refine lv_topi (fun y32 ey32 => ?_)
                      obtain rfl : y32 = nI (11 * p + 5) := ey32.trans (nI_add (11 * p) 5)
                      refine lv_iload hx hb dX4_open_251 (lv_at hl 2 rfl) ?_
                      refine wSp (h := p) (f := 5) (g := 25) hx hb hK hI hV hS (fun _ q => q) (by omega) (by omega) (by omega) (by omega) hP dX4_open_253 (fun H locs hV _ hS => ?_)
                      refine lv_aload_n hx hb dX4_open_254 rfl (lv_at hl 4 rfl) ?_
                      refine rSf 4 (j := 2) hx hb hts hi4 hown hK hV (by decide) rfl k15 dX4_open_255 ?_
                      refine lv_iload_n hx hb dX4_open_258 rfl (lv_at hl 6 rfl) ?_
                      refine lv_bipush (v := 8) hx hb dX4_open_259 (by decide) ?_
                      refine lv_iadd hx hb dX4_open_261 ?_
                      refine lv_topi (fun y33 ey33 => ?_)
                      obtain rfl : y33 = nI (11 * p + 8) := ey33.trans (nI_add (11 * p) 8)
                      refine lv_dup2_11 hx hb dX4_open_262 rfl rfl ?_
                      refine rSp (h := p) (f := 8) (g := 28) (v := τ1 28 p) hx hb hK hV (by omega) (by omega) (by omega) (by omega) hP (wst_f (by decide)) dX4_open_263 ?_
                      refine lv_iconst (v := 1) hx hb dX4_open_264 (by decide) ?_
                      refine lv_iadd hx hb dX4_open_265 ?_
                      refine wSp (h := p) (f := 8) (g := 28) hx hb hK hI hV hS (fun _ q => q) (by omega) (by omega) (by omega) (by omega) hP dX4_open_266 (fun H locs hV _ hS => ?_)
                      refine lv_aload_n hx hb dX4_open_267 rfl (lv_at hl 4 rfl) ?_
                      refine rSf 2 (j := 1) hx hb hts hi4 hown hK hV (by decide) rfl k9 dX4_open_268 ?_
                      refine lv_bipush (v := 11) hx hb dX4_open_271 (by decide) ?_
                      refine lv_iload hx hb dX4_open_273 (lv_at hl 2 rfl) ?_
                      refine lv_imul hx hb dX4_open_275 ?_
                      refine lv_topi (fun y34 ey34 => ?_)
                      obtain rfl : y34 = nI (11 * hh) := ey34.trans (pk_mul 11 hh)
                      refine lv_bipush (v := 7) hx hb dX4_open_276 (by decide) ?_
                      refine lv_iadd hx hb dX4_open_278 ?_
                      refine lv_topi (fun y35 ey35 => ?_)
                      obtain rfl : y35 = nI (11 * hh + 7) := ey35.trans (nI_add (11 * hh) 7)
                      refine lv_dup2_11 hx hb dX4_open_279 rfl rfl ?_
                      refine rSh (h := hh) (f := 7) (v := τ1 7 hh) hx hb hK hV (by omega) (by omega) (by omega) hH ((wst_f (by decide)).trans (wst_f (by decide))) dX4_open_280 ?_
                      refine lv_iconst (v := 1) hx hb dX4_open_281 (by decide) ?_
                      refine lv_iadd hx hb dX4_open_282 ?_
                      refine wSh (h := hh) (f := 7) hx hb hK hI hV hS (fun _ q => q) (by omega) (by omega) (by omega) hH dX4_open_283 (fun H locs hV _ hS => ?_)
                      refine lv_iconst (v := 1) hx hb dX4_open_284 (by decide) ?_
                      exact xZ hx hb hr hlocks (by rw [opnF, if_pos hk0, eH, ← ht1, eh, if_pos rfl]; exact hV) hS (by rw [opnF, if_pos hk0, eH, ← ht1, eh, if_pos rfl]) rfl dX4_open_285
                    · skip
                      exact absurd c239 (by decide)
                  · skip
                    exact absurd c155 (by decide)
          · skip
            exact absurd c83 (nI_nm1 (by omega))
        · skip
          replace c21 : ¬ (sz τ p ≤ i + 1) := fun q => c21 ((nI_leI (a := sz τ p) (b := i + 1) (by omega) (by omega)).mpr q)
          refine lv_iload_n hx hb dX4_open_24 rfl (lv_at hl 1 rfl) ?_
          refine lv_iconst (v := (-1)) hx hb dX4_open_25 (by decide) ?_
          refine lv_icmp_ne (tgt := 81) hx hb dX4_open_26 (by decide) (fun c26 => ?_) (fun c26 => ?_)
          · skip
            refine lv_iload_n hx hb dX4_open_81 rfl (lv_at hl 1 rfl) ?_
            refine lv_iconst (v := (-1)) hx hb dX4_open_82 (by decide) ?_
            refine lv_icmp_ne (tgt := 88) hx hb dX4_open_83 (by decide) (fun c83 => ?_) (fun c83 => ?_)
            · skip
              refine lv_aload_n hx hb dX4_open_88 rfl (lv_at hl 3 rfl) ?_
              refine rSf 5 (j := 3) hx hb hts hi4 hown hK hV (by decide) rfl k18 dX4_open_89 ?_
              refine lv_bipush (v := 10) hx hb dX4_open_92 (by decide) ?_
              refine lv_iload_n hx hb dX4_open_94 rfl (lv_at hl 4 rfl) ?_
              refine lv_imul hx hb dX4_open_95 ?_
              refine lv_topi (fun y36 ey36 => ?_)
              obtain rfl : y36 = nI (10 * p) := ey36.trans (pk_mul 10 p)
              refine lv_iload_n hx hb dX4_open_96 rfl (lv_at hl 1 rfl) ?_
              refine lv_iadd hx hb dX4_open_97 ?_
              refine lv_topi (fun y37 ey37 => ?_)
              obtain rfl : y37 = nI (10 * p + ((tn τ p + i) % sz τ p)) := ey37.trans (nI_add (10 * p) ((tn τ p + i) % sz τ p))
              refine rSq (h := p) (k := ((tn τ p + i) % sz τ p)) (v := nI hh) hx hb hK hV (by omega) (by omega) (by omega) hP ehh dX4_open_98 ?_
              refine lv_istore (lv' := [(4, .int (nI hh)), (3, .int (nI ((tn τ p + i) % sz τ p))), (5, .int (nI ((tn τ p + i) % sz τ p))), (0, .ref (ad 0)), (1, .int (nI p)), (2, .int (nI (11 * p)))]) hx hb dX4_open_99 hl (by decide) rfl (fun ls hl => ?_)
              refine lv_aload_n hx hb dX4_open_101 rfl (lv_at hl 3 rfl) ?_
              refine rSf 4 (j := 2) hx hb hts hi4 hown hK hV (by decide) rfl k15 dX4_open_102 ?_
              refine lv_iload_n hx hb dX4_open_105 rfl (lv_at hl 5 rfl) ?_
              refine lv_bipush (v := 7) hx hb dX4_open_106 (by decide) ?_
              refine lv_iadd hx hb dX4_open_108 ?_
              refine lv_topi (fun y38 ey38 => ?_)
              obtain rfl : y38 = nI (11 * p + 7) := ey38.trans (nI_add (11 * p) 7)
              refine lv_iload_n hx hb dX4_open_109 rfl (lv_at hl 1 rfl) ?_
              refine lv_iconst (v := 1) hx hb dX4_open_110 (by decide) ?_
              refine lv_iadd hx hb dX4_open_111 ?_
              refine lv_topi (fun y39 ey39 => ?_)
              obtain rfl : y39 = nI ((tn τ p + i) % sz τ p + 1) := ey39.trans (nI_add ((tn τ p + i) % sz τ p) 1)
              refine lv_aload_n hx hb dX4_open_112 rfl (lv_at hl 3 rfl) ?_
              refine rSf 4 (j := 2) hx hb hts hi4 hown hK hV (by decide) rfl k15 dX4_open_113 ?_
              refine lv_iload_n hx hb dX4_open_116 rfl (lv_at hl 5 rfl) ?_
              refine lv_bipush (v := 6) hx hb dX4_open_117 (by decide) ?_
              refine lv_iadd hx hb dX4_open_119 ?_
              refine lv_topi (fun y40 ey40 => ?_)
              obtain rfl : y40 = nI (11 * p + 6) := ey40.trans (nI_add (11 * p) 6)
              refine rSp (h := p) (f := 6) (g := 26) (v := nI (sz τ p)) hx hb hK hV (by omega) (by omega) (by omega) (by omega) hP (hv.2.2.2.2.2 p (by omega)).2.2.2.2.1.2 dX4_open_120 ?_
              refine lv_irem hx hb dX4_open_121 (nI_ne0 (by omega) (by omega)) ?_
              refine lv_topi (fun y41 ey41 => ?_)
              obtain rfl : y41 = nI (((tn τ p + i) % sz τ p + 1) % sz τ p) := ey41.trans (pk_rem (by omega) (by omega) (by omega))
              refine wSp (h := p) (f := 7) (g := 27) hx hb hK hI hV hS (fun _ q => q) (by omega) (by omega) (by omega) (by omega) hP dX4_open_122 (fun H locs hV _ hS => ?_)
              have hV : RVm G ad nH nP δ (trnF p τ) H := by rw [trnF, eP]; exact hV
              have hv1 : Inv nH nP (trnF p τ) := hv.oTrn hk0
              obtain ⟨τ1, ht1⟩ : ∃ t, t = trnF p τ := ⟨_, rfl⟩
              rw [← ht1] at hV hv1
              rcases hv1.oKey hp with e25 | ⟨k, hk, e25⟩
              · skip
                have eh : hndF nP p hh τ1 = (τ1, 1) := by rw [hndF, if_pos (Or.inl e25)]
                refine lv_aload_n hx hb dX4_open_123 rfl (lv_at hl 3 rfl) ?_
                refine rSf 4 (j := 2) hx hb hts hi4 hown hK hV (by decide) rfl k15 dX4_open_124 ?_
                refine lv_iload_n hx hb dX4_open_127 rfl (lv_at hl 5 rfl) ?_
                refine lv_iconst (v := 5) hx hb dX4_open_128 (by decide) ?_
                refine lv_iadd hx hb dX4_open_129 ?_
                refine lv_topi (fun y42 ey42 => ?_)
                obtain rfl : y42 = nI (11 * p + 5) := ey42.trans (nI_add (11 * p) 5)
                refine rSp (h := p) (f := 5) (g := 25) (v := (-1)) hx hb hK hV (by omega) (by omega) (by omega) (by omega) hP e25 dX4_open_130 ?_
                refine lv_istore (lv' := [(5, .int (-1)), (4, .int (nI hh)), (3, .int (nI ((tn τ p + i) % sz τ p))), (0, .ref (ad 0)), (1, .int (nI p)), (2, .int (nI (11 * p)))]) hx hb dX4_open_131 hl (by decide) rfl (fun ls hl => ?_)
                refine lv_iload hx hb dX4_open_133 (lv_at hl 0 rfl) ?_
                refine lv_iconst (v := (-1)) hx hb dX4_open_135 (by decide) ?_
                refine lv_icmp_eq (tgt := 146) hx hb dX4_open_136 (by decide) (fun c136 => ?_) (fun c136 => ?_)
                · skip
                  refine lv_iconst (v := 1) hx hb dX4_open_146 (by decide) ?_
                  refine lv_goto (tgt := 151) hx hb dX4_open_147 (by decide) ?_
                  refine lv_istore (lv' := [(6, .int 1), (5, .int (-1)), (4, .int (nI hh)), (3, .int (nI ((tn τ p + i) % sz τ p))), (0, .ref (ad 0)), (1, .int (nI p)), (2, .int (nI (11 * p)))]) hx hb dX4_open_151 hl (by decide) rfl (fun ls hl => ?_)
                  refine lv_iload hx hb dX4_open_153 (lv_at hl 0 rfl) ?_
                  refine lv_if_ne (tgt := 237) hx hb dX4_open_155 (by decide) (fun c155 => ?_) (fun c155 => ?_)
                  · skip
                    refine lv_iload hx hb dX4_open_237 (lv_at hl 0 rfl) ?_
                    refine lv_if_ne (tgt := 244) hx hb dX4_open_239 (by decide) (fun c239 => ?_) (fun c239 => ?_)
                    · skip
                      refine lv_aload_n hx hb dX4_open_244 rfl (lv_at hl 4 rfl) ?_
                      refine rSf 4 (j := 2) hx hb hts hi4 hown hK hV (by decide) rfl k15 dX4_open_245 ?_
                      refine lv_iload_n hx hb dX4_open_248 rfl (lv_at hl 6 rfl) ?_
                      refine lv_iconst (v := 5) hx hb dX4_open_249 (by decide) ?_
                      refine lv_iadd hx hb dX4_open_250 ?_
                      refine lv_topi (fun y43 ey43 => ?_)
                      obtain rfl : y43 = nI (11 * p + 5) := ey43.trans (nI_add (11 * p) 5)
                      refine lv_iload hx hb dX4_open_251 (lv_at hl 2 rfl) ?_
                      refine wSp (h := p) (f := 5) (g := 25) hx hb hK hI hV hS (fun _ q => q) (by omega) (by omega) (by omega) (by omega) hP dX4_open_253 (fun H locs hV _ hS => ?_)
                      refine lv_aload_n hx hb dX4_open_254 rfl (lv_at hl 4 rfl) ?_
                      refine rSf 4 (j := 2) hx hb hts hi4 hown hK hV (by decide) rfl k15 dX4_open_255 ?_
                      refine lv_iload_n hx hb dX4_open_258 rfl (lv_at hl 6 rfl) ?_
                      refine lv_bipush (v := 8) hx hb dX4_open_259 (by decide) ?_
                      refine lv_iadd hx hb dX4_open_261 ?_
                      refine lv_topi (fun y44 ey44 => ?_)
                      obtain rfl : y44 = nI (11 * p + 8) := ey44.trans (nI_add (11 * p) 8)
                      refine lv_dup2_11 hx hb dX4_open_262 rfl rfl ?_
                      refine rSp (h := p) (f := 8) (g := 28) (v := τ1 28 p) hx hb hK hV (by omega) (by omega) (by omega) (by omega) hP (wst_f (by decide)) dX4_open_263 ?_
                      refine lv_iconst (v := 1) hx hb dX4_open_264 (by decide) ?_
                      refine lv_iadd hx hb dX4_open_265 ?_
                      refine wSp (h := p) (f := 8) (g := 28) hx hb hK hI hV hS (fun _ q => q) (by omega) (by omega) (by omega) (by omega) hP dX4_open_266 (fun H locs hV _ hS => ?_)
                      refine lv_aload_n hx hb dX4_open_267 rfl (lv_at hl 4 rfl) ?_
                      refine rSf 2 (j := 1) hx hb hts hi4 hown hK hV (by decide) rfl k9 dX4_open_268 ?_
                      refine lv_bipush (v := 11) hx hb dX4_open_271 (by decide) ?_
                      refine lv_iload hx hb dX4_open_273 (lv_at hl 2 rfl) ?_
                      refine lv_imul hx hb dX4_open_275 ?_
                      refine lv_topi (fun y45 ey45 => ?_)
                      obtain rfl : y45 = nI (11 * hh) := ey45.trans (pk_mul 11 hh)
                      refine lv_bipush (v := 7) hx hb dX4_open_276 (by decide) ?_
                      refine lv_iadd hx hb dX4_open_278 ?_
                      refine lv_topi (fun y46 ey46 => ?_)
                      obtain rfl : y46 = nI (11 * hh + 7) := ey46.trans (nI_add (11 * hh) 7)
                      refine lv_dup2_11 hx hb dX4_open_279 rfl rfl ?_
                      refine rSh (h := hh) (f := 7) (v := τ1 7 hh) hx hb hK hV (by omega) (by omega) (by omega) hH ((wst_f (by decide)).trans (wst_f (by decide))) dX4_open_280 ?_
                      refine lv_iconst (v := 1) hx hb dX4_open_281 (by decide) ?_
                      refine lv_iadd hx hb dX4_open_282 ?_
                      refine wSh (h := hh) (f := 7) hx hb hK hI hV hS (fun _ q => q) (by omega) (by omega) (by omega) hH dX4_open_283 (fun H locs hV _ hS => ?_)
                      refine lv_iconst (v := 1) hx hb dX4_open_284 (by decide) ?_
                      exact xZ hx hb hr hlocks (by rw [opnF, if_pos hk0, eH, ← ht1, eh, if_pos rfl]; exact hV) hS (by rw [opnF, if_pos hk0, eH, ← ht1, eh, if_pos rfl]) rfl dX4_open_285
                    · skip
                      exact absurd c239 (by decide)
                  · skip
                    exact absurd c155 (by decide)
                · skip
                  exact absurd rfl c136
              · skip
                refine lv_aload_n hx hb dX4_open_123 rfl (lv_at hl 3 rfl) ?_
                refine rSf 4 (j := 2) hx hb hts hi4 hown hK hV (by decide) rfl k15 dX4_open_124 ?_
                refine lv_iload_n hx hb dX4_open_127 rfl (lv_at hl 5 rfl) ?_
                refine lv_iconst (v := 5) hx hb dX4_open_128 (by decide) ?_
                refine lv_iadd hx hb dX4_open_129 ?_
                refine lv_topi (fun y47 ey47 => ?_)
                obtain rfl : y47 = nI (11 * p + 5) := ey47.trans (nI_add (11 * p) 5)
                refine rSp (h := p) (f := 5) (g := 25) (v := nI k) hx hb hK hV (by omega) (by omega) (by omega) (by omega) hP e25 dX4_open_130 ?_
                refine lv_istore (lv' := [(5, .int (nI k)), (4, .int (nI hh)), (3, .int (nI ((tn τ p + i) % sz τ p))), (0, .ref (ad 0)), (1, .int (nI p)), (2, .int (nI (11 * p)))]) hx hb dX4_open_131 hl (by decide) rfl (fun ls hl => ?_)
                refine lv_iload hx hb dX4_open_133 (lv_at hl 0 rfl) ?_
                refine lv_iconst (v := (-1)) hx hb dX4_open_135 (by decide) ?_
                refine lv_icmp_eq (tgt := 146) hx hb dX4_open_136 (by decide) (fun c136 => ?_) (fun c136 => ?_)
                · skip
                  exact absurd c136 (nI_nm1 (by omega))
                · skip
                  refine lv_iload hx hb dX4_open_139 (lv_at hl 0 rfl) ?_
                  refine lv_iload hx hb dX4_open_141 (lv_at hl 1 rfl) ?_
                  refine lv_icmp_ne (tgt := 150) hx hb dX4_open_143 (by decide) (fun c143 => ?_) (fun c143 => ?_)
                  · skip
                    replace c143 : ¬ (k = hh) := fun q => c143 ((nI_eq (a := k) (b := hh) (by omega) (by omega)).mpr q)
                    have eN : ¬ (τ1 25 p = -1 ∨ τ1 25 p = nI hh) := fun q => q.elim (fun q => nI_nm1 (by omega) (e25.symm.trans q)) (fun q => c143 ((nI_eq (by omega) (by omega)).mp (e25.symm.trans q)))
                    refine lv_iconst (v := 0) hx hb dX4_open_150 (by decide) ?_
                    refine lv_istore (lv' := [(6, .int 0), (5, .int (nI k)), (4, .int (nI hh)), (3, .int (nI ((tn τ p + i) % sz τ p))), (0, .ref (ad 0)), (1, .int (nI p)), (2, .int (nI (11 * p)))]) hx hb dX4_open_151 hl (by decide) rfl (fun ls hl => ?_)
                    refine lv_iload hx hb dX4_open_153 (lv_at hl 0 rfl) ?_
                    refine lv_if_ne (tgt := 237) hx hb dX4_open_155 (by decide) (fun c155 => ?_) (fun c155 => ?_)
                    · skip
                      exact absurd rfl c155
                    · skip
                      refine lv_aload_n hx hb dX4_open_158 rfl (lv_at hl 4 rfl) ?_
                      refine lv_iload hx hb dX4_open_159 (lv_at hl 1 rfl) ?_
                      refine kI (va_runV (As := [.int (nI k)]) (rest := []) ⟨hx, hb, hml, hown, hts⟩ (c_X4_isThere l G ad hI nH nP hH hP δ τ1 k (by omega)) (cwV 1 hts gX4_open_X4_isThere rfl rfl rfl (by decide +kernel) ⟨Nat.le_of_ble_eq_true rfl, Nat.le_of_ble_eq_true rfl⟩) ⟨Pc0.blind, va_recv hK (va_P1 (hV.1)) (ci := 4) (q0 := 0) rfl rfl, Pc0.pre hV hK⟩ rfl rfl hl.1 rfl (lv_room (Nat.le_of_ble_eq_true rfl)) dX4_open_161 ⟨Nat.zero_le _, Nat.zero_le _⟩) hS (fun _ _ q => q) (fun _ q => q) (fun H locs hV _ _ hS => ?_)
                      refine lv_istore (lv' := [(6, .int (if τ1 6 k = 0 then 1 else 0)), (5, .int (nI k)), (4, .int (nI hh)), (3, .int (nI ((tn τ p + i) % sz τ p))), (0, .ref (ad 0)), (1, .int (nI p)), (2, .int (nI (11 * p)))]) hx hb dX4_open_164 hl (by decide) rfl (fun ls hl => ?_)
                      refine lv_iload hx hb dX4_open_166 (lv_at hl 0 rfl) ?_
                      refine lv_if_eq (tgt := 224) hx hb dX4_open_168 (by decide) (fun c168 => ?_) (fun c168 => ?_)
                      · skip
                        replace c168 := b0 c168
                        have eh : hndF nP p hh τ1 = (chgF nP k 3 τ1, 0) := by rw [hndF, if_neg eN, e25, nI_clamp (by omega), if_neg c168]
                        have hv9 := hv1
                        refine lv_iload hx hb dX4_open_224 (lv_at hl 0 rfl) ?_
                        refine lv_if_ne (tgt := 237) hx hb dX4_open_226 (by decide) (fun c226 => ?_) (fun c226 => ?_)
                        · skip
                          exact absurd (b1 c226) c168
                        · skip
                          refine lv_aload_n hx hb dX4_open_229 rfl (lv_at hl 4 rfl) ?_
                          refine lv_iload hx hb dX4_open_230 (lv_at hl 1 rfl) ?_
                          refine lv_iconst (v := 3) hx hb dX4_open_232 (by decide) ?_
                          refine kI (va_runV (As := [.int (nI k), .int 3]) (rest := []) ⟨hx, hb, hml, hown, hts⟩ (c_X4_fine l G ad hI nH nP hH hP δ τ1 k 3 hv9 (by omega)) (cwV 2 hts gX4_open_X4_fine rfl rfl rfl (by decide +kernel) ⟨Nat.le_of_ble_eq_true rfl, Nat.le_of_ble_eq_true rfl⟩) ⟨Pc0.blind, va_recv hK (va_P1 (hV.1)) (ci := 4) (q0 := 0) rfl rfl, Pc0.pre hV hK⟩ rfl rfl hl.1 rfl (lv_room (Nat.le_of_ble_eq_true rfl)) dX4_open_233 ⟨Nat.zero_le _, Nat.zero_le _⟩) hS (fun _ _ q => q) (fun _ q => q) (fun H locs hV _ _ hS => ?_)
                          refine lv_pop hx hb dX4_open_236 rfl ?_
                          refine lv_iload hx hb dX4_open_237 (lv_at hl 0 rfl) ?_
                          refine lv_if_ne (tgt := 244) hx hb dX4_open_239 (by decide) (fun c239 => ?_) (fun c239 => ?_)
                          · skip
                            exact absurd (b1 c239) c168
                          · skip
                            refine lv_iconst (v := 0) hx hb dX4_open_242 (by decide) ?_
                            exact xZ hx hb hr hlocks (by rw [opnF, if_pos hk0, eH, ← ht1, eh, if_neg (show ¬ (0 : Int32) = 1 by decide)]; exact hV) hS (by rw [opnF, if_pos hk0, eH, ← ht1, eh, if_neg (show ¬ (0 : Int32) = 1 by decide)]) rfl dX4_open_243
                      · skip
                        replace c168 := b1 c168
                        refine lv_aload_n hx hb dX4_open_171 rfl (lv_at hl 4 rfl) ?_
                        refine rSf 2 (j := 1) hx hb hts hi4 hown hK hV (by decide) rfl k9 dX4_open_172 ?_
                        refine lv_bipush (v := 11) hx hb dX4_open_175 (by decide) ?_
                        refine lv_iload hx hb dX4_open_177 (lv_at hl 1 rfl) ?_
                        refine lv_imul hx hb dX4_open_179 ?_
                        refine lv_topi (fun y48 ey48 => ?_)
                        obtain rfl : y48 = nI (11 * k) := ey48.trans (pk_mul 11 k)
                        refine lv_bipush (v := 9) hx hb dX4_open_180 (by decide) ?_
                        refine lv_iadd hx hb dX4_open_182 ?_
                        refine lv_topi (fun y49 ey49 => ?_)
                        obtain rfl : y49 = nI (11 * k + 9) := ey49.trans (nI_add (11 * k) 9)
                        refine lv_dup2_11 hx hb dX4_open_183 rfl rfl ?_
                        refine rSh (h := k) (f := 9) (v := τ1 9 k) hx hb hK hV (by omega) (by omega) (by omega) hH rfl dX4_open_184 ?_
                        refine lv_iconst (v := 1) hx hb dX4_open_185 (by decide) ?_
                        refine lv_iadd hx hb dX4_open_186 ?_
                        refine wSh (h := k) (f := 9) hx hb hK hI hV hS (fun _ q => q) (by omega) (by omega) (by omega) hH dX4_open_187 (fun H locs hV _ hS => ?_)
                        refine lv_aload_n hx hb dX4_open_188 rfl (lv_at hl 4 rfl) ?_
                        refine rSf 2 (j := 1) hx hb hts hi4 hown hK hV (by decide) rfl k9 dX4_open_189 ?_
                        refine lv_bipush (v := 11) hx hb dX4_open_192 (by decide) ?_
                        refine lv_iload hx hb dX4_open_194 (lv_at hl 1 rfl) ?_
                        refine lv_imul hx hb dX4_open_196 ?_
                        refine lv_topi (fun y50 ey50 => ?_)
                        obtain rfl : y50 = nI (11 * k) := ey50.trans (pk_mul 11 k)
                        refine lv_bipush (v := 9) hx hb dX4_open_197 (by decide) ?_
                        refine lv_iadd hx hb dX4_open_199 ?_
                        refine lv_topi (fun y51 ey51 => ?_)
                        obtain rfl : y51 = nI (11 * k + 9) := ey51.trans (nI_add (11 * k) 9)
                        refine rSh (h := k) (f := 9) (v := (τ1 9 k) + 1) hx hb hK hV (by omega) (by omega) (by omega) hH wst_s dX4_open_200 ?_
                        refine lv_aload_n hx hb dX4_open_201 rfl (lv_at hl 4 rfl) ?_
                        refine rSf 2 (j := 1) hx hb hts hi4 hown hK hV (by decide) rfl k9 dX4_open_202 ?_
                        refine lv_bipush (v := 11) hx hb dX4_open_205 (by decide) ?_
                        refine lv_iload hx hb dX4_open_207 (lv_at hl 1 rfl) ?_
                        refine lv_imul hx hb dX4_open_209 ?_
                        refine lv_topi (fun y52 ey52 => ?_)
                        obtain rfl : y52 = nI (11 * k) := ey52.trans (pk_mul 11 k)
                        refine lv_iconst (v := 2) hx hb dX4_open_210 (by decide) ?_
                        refine lv_iadd hx hb dX4_open_211 ?_
                        refine lv_topi (fun y53 ey53 => ?_)
                        obtain rfl : y53 = nI (11 * k + 2) := ey53.trans (nI_add (11 * k) 2)
                        refine rSh (h := k) (f := 2) (v := τ1 2 k) hx hb hK hV (by omega) (by omega) (by omega) hH (wst_f (by decide)) dX4_open_212 ?_
                        refine lv_irem hx hb dX4_open_213 (by obtain ⟨kf, hf1, hf9, hf0⟩ := (hv1.2.2.2.2.1 k hk).1; rw [hf0]; exact nI_ne0 (by omega) (by omega)) ?_
                        refine lv_if_eq (tgt := 221) hx hb dX4_open_214 (by decide) (fun c214 => ?_) (fun c214 => ?_)
                        · skip
                          have eh : hndF nP p hh τ1 = (chgF nP k 3 (wst τ1 9 k (τ1 9 k + 1)), 0) := by rw [hndF, if_neg eN, e25, nI_clamp (by omega), if_pos c168, if_pos c214]
                          have hv9 : Inv nH nP (wst τ1 9 k (τ1 9 k + 1)) := hv1.free (by omega)
                          refine lv_iconst (v := 0) hx hb dX4_open_221 (by decide) ?_
                          refine lv_istore (lv' := [(6, .int 0), (5, .int (nI k)), (4, .int (nI hh)), (3, .int (nI ((tn τ p + i) % sz τ p))), (0, .ref (ad 0)), (1, .int (nI p)), (2, .int (nI (11 * p)))]) hx hb dX4_open_222 hl (by decide) rfl (fun ls hl => ?_)
                          refine lv_iload hx hb dX4_open_224 (lv_at hl 0 rfl) ?_
                          refine lv_if_ne (tgt := 237) hx hb dX4_open_226 (by decide) (fun c226 => ?_) (fun c226 => ?_)
                          · skip
                            exact absurd rfl c226
                          · skip
                            refine lv_aload_n hx hb dX4_open_229 rfl (lv_at hl 4 rfl) ?_
                            refine lv_iload hx hb dX4_open_230 (lv_at hl 1 rfl) ?_
                            refine lv_iconst (v := 3) hx hb dX4_open_232 (by decide) ?_
                            refine kI (va_runV (As := [.int (nI k), .int 3]) (rest := []) ⟨hx, hb, hml, hown, hts⟩ (c_X4_fine l G ad hI nH nP hH hP δ (wst τ1 9 k ((τ1 9 k) + 1)) k 3 hv9 (by omega)) (cwV 2 hts gX4_open_X4_fine rfl rfl rfl (by decide +kernel) ⟨Nat.le_of_ble_eq_true rfl, Nat.le_of_ble_eq_true rfl⟩) ⟨Pc0.blind, va_recv hK (va_P1 (hV.1)) (ci := 4) (q0 := 0) rfl rfl, Pc0.pre hV hK⟩ rfl rfl hl.1 rfl (lv_room (Nat.le_of_ble_eq_true rfl)) dX4_open_233 ⟨Nat.zero_le _, Nat.zero_le _⟩) hS (fun _ _ q => q) (fun _ q => q) (fun H locs hV _ _ hS => ?_)
                            refine lv_pop hx hb dX4_open_236 rfl ?_
                            refine lv_iload hx hb dX4_open_237 (lv_at hl 0 rfl) ?_
                            refine lv_if_ne (tgt := 244) hx hb dX4_open_239 (by decide) (fun c239 => ?_) (fun c239 => ?_)
                            · skip
                              exact absurd rfl c239
                            · skip
                              refine lv_iconst (v := 0) hx hb dX4_open_242 (by decide) ?_
                              exact xZ hx hb hr hlocks (by rw [opnF, if_pos hk0, eH, ← ht1, eh, if_neg (show ¬ (0 : Int32) = 1 by decide)]; exact hV) hS (by rw [opnF, if_pos hk0, eH, ← ht1, eh, if_neg (show ¬ (0 : Int32) = 1 by decide)]) rfl dX4_open_243
                        · skip
                          have eh : hndF nP p hh τ1 = (wst τ1 9 k (τ1 9 k + 1), 1) := by rw [hndF, if_neg eN, e25, nI_clamp (by omega), if_pos c168, if_neg c214]
                          refine lv_iconst (v := 1) hx hb dX4_open_217 (by decide) ?_
                          refine lv_goto (tgt := 222) hx hb dX4_open_218 (by decide) ?_
                          refine lv_istore (lv' := [(6, .int 1), (5, .int (nI k)), (4, .int (nI hh)), (3, .int (nI ((tn τ p + i) % sz τ p))), (0, .ref (ad 0)), (1, .int (nI p)), (2, .int (nI (11 * p)))]) hx hb dX4_open_222 hl (by decide) rfl (fun ls hl => ?_)
                          refine lv_iload hx hb dX4_open_224 (lv_at hl 0 rfl) ?_
                          refine lv_if_ne (tgt := 237) hx hb dX4_open_226 (by decide) (fun c226 => ?_) (fun c226 => ?_)
                          · skip
                            refine lv_iload hx hb dX4_open_237 (lv_at hl 0 rfl) ?_
                            refine lv_if_ne (tgt := 244) hx hb dX4_open_239 (by decide) (fun c239 => ?_) (fun c239 => ?_)
                            · skip
                              refine lv_aload_n hx hb dX4_open_244 rfl (lv_at hl 4 rfl) ?_
                              refine rSf 4 (j := 2) hx hb hts hi4 hown hK hV (by decide) rfl k15 dX4_open_245 ?_
                              refine lv_iload_n hx hb dX4_open_248 rfl (lv_at hl 6 rfl) ?_
                              refine lv_iconst (v := 5) hx hb dX4_open_249 (by decide) ?_
                              refine lv_iadd hx hb dX4_open_250 ?_
                              refine lv_topi (fun y54 ey54 => ?_)
                              obtain rfl : y54 = nI (11 * p + 5) := ey54.trans (nI_add (11 * p) 5)
                              refine lv_iload hx hb dX4_open_251 (lv_at hl 2 rfl) ?_
                              refine wSp (h := p) (f := 5) (g := 25) hx hb hK hI hV hS (fun _ q => q) (by omega) (by omega) (by omega) (by omega) hP dX4_open_253 (fun H locs hV _ hS => ?_)
                              refine lv_aload_n hx hb dX4_open_254 rfl (lv_at hl 4 rfl) ?_
                              refine rSf 4 (j := 2) hx hb hts hi4 hown hK hV (by decide) rfl k15 dX4_open_255 ?_
                              refine lv_iload_n hx hb dX4_open_258 rfl (lv_at hl 6 rfl) ?_
                              refine lv_bipush (v := 8) hx hb dX4_open_259 (by decide) ?_
                              refine lv_iadd hx hb dX4_open_261 ?_
                              refine lv_topi (fun y55 ey55 => ?_)
                              obtain rfl : y55 = nI (11 * p + 8) := ey55.trans (nI_add (11 * p) 8)
                              refine lv_dup2_11 hx hb dX4_open_262 rfl rfl ?_
                              refine rSp (h := p) (f := 8) (g := 28) (v := τ1 28 p) hx hb hK hV (by omega) (by omega) (by omega) (by omega) hP ((wst_f (by decide)).trans (wst_f (by decide))) dX4_open_263 ?_
                              refine lv_iconst (v := 1) hx hb dX4_open_264 (by decide) ?_
                              refine lv_iadd hx hb dX4_open_265 ?_
                              refine wSp (h := p) (f := 8) (g := 28) hx hb hK hI hV hS (fun _ q => q) (by omega) (by omega) (by omega) (by omega) hP dX4_open_266 (fun H locs hV _ hS => ?_)
                              refine lv_aload_n hx hb dX4_open_267 rfl (lv_at hl 4 rfl) ?_
                              refine rSf 2 (j := 1) hx hb hts hi4 hown hK hV (by decide) rfl k9 dX4_open_268 ?_
                              refine lv_bipush (v := 11) hx hb dX4_open_271 (by decide) ?_
                              refine lv_iload hx hb dX4_open_273 (lv_at hl 2 rfl) ?_
                              refine lv_imul hx hb dX4_open_275 ?_
                              refine lv_topi (fun y56 ey56 => ?_)
                              obtain rfl : y56 = nI (11 * hh) := ey56.trans (pk_mul 11 hh)
                              refine lv_bipush (v := 7) hx hb dX4_open_276 (by decide) ?_
                              refine lv_iadd hx hb dX4_open_278 ?_
                              refine lv_topi (fun y57 ey57 => ?_)
                              obtain rfl : y57 = nI (11 * hh + 7) := ey57.trans (nI_add (11 * hh) 7)
                              refine lv_dup2_11 hx hb dX4_open_279 rfl rfl ?_
                              refine rSh (h := hh) (f := 7) (v := τ1 7 hh) hx hb hK hV (by omega) (by omega) (by omega) hH ((wst_f (by decide)).trans ((wst_f (by decide)).trans (wst_f (by decide)))) dX4_open_280 ?_
                              refine lv_iconst (v := 1) hx hb dX4_open_281 (by decide) ?_
                              refine lv_iadd hx hb dX4_open_282 ?_
                              refine wSh (h := hh) (f := 7) hx hb hK hI hV hS (fun _ q => q) (by omega) (by omega) (by omega) hH dX4_open_283 (fun H locs hV _ hS => ?_)
                              refine lv_iconst (v := 1) hx hb dX4_open_284 (by decide) ?_
                              exact xZ hx hb hr hlocks (by rw [opnF, if_pos hk0, eH, ← ht1, eh, if_pos rfl]; exact hV) hS (by rw [opnF, if_pos hk0, eH, ← ht1, eh, if_pos rfl]) rfl dX4_open_285
                            · skip
                              exact absurd c239 (by decide)
                          · skip
                            exact absurd c226 (by decide)
                  · skip
                    replace c143 := (nI_eq (a := k) (b := hh) (by omega) (by omega)).mp c143
                    have eh : hndF nP p hh τ1 = (τ1, 1) := by rw [hndF, if_pos (Or.inr (by rw [e25, c143]))]
                    refine lv_iconst (v := 1) hx hb dX4_open_146 (by decide) ?_
                    refine lv_goto (tgt := 151) hx hb dX4_open_147 (by decide) ?_
                    refine lv_istore (lv' := [(6, .int 1), (5, .int (nI k)), (4, .int (nI hh)), (3, .int (nI ((tn τ p + i) % sz τ p))), (0, .ref (ad 0)), (1, .int (nI p)), (2, .int (nI (11 * p)))]) hx hb dX4_open_151 hl (by decide) rfl (fun ls hl => ?_)
                    refine lv_iload hx hb dX4_open_153 (lv_at hl 0 rfl) ?_
                    refine lv_if_ne (tgt := 237) hx hb dX4_open_155 (by decide) (fun c155 => ?_) (fun c155 => ?_)
                    · skip
                      refine lv_iload hx hb dX4_open_237 (lv_at hl 0 rfl) ?_
                      refine lv_if_ne (tgt := 244) hx hb dX4_open_239 (by decide) (fun c239 => ?_) (fun c239 => ?_)
                      · skip
                        refine lv_aload_n hx hb dX4_open_244 rfl (lv_at hl 4 rfl) ?_
                        refine rSf 4 (j := 2) hx hb hts hi4 hown hK hV (by decide) rfl k15 dX4_open_245 ?_
                        refine lv_iload_n hx hb dX4_open_248 rfl (lv_at hl 6 rfl) ?_
                        refine lv_iconst (v := 5) hx hb dX4_open_249 (by decide) ?_
                        refine lv_iadd hx hb dX4_open_250 ?_
                        refine lv_topi (fun y58 ey58 => ?_)
                        obtain rfl : y58 = nI (11 * p + 5) := ey58.trans (nI_add (11 * p) 5)
                        refine lv_iload hx hb dX4_open_251 (lv_at hl 2 rfl) ?_
                        refine wSp (h := p) (f := 5) (g := 25) hx hb hK hI hV hS (fun _ q => q) (by omega) (by omega) (by omega) (by omega) hP dX4_open_253 (fun H locs hV _ hS => ?_)
                        refine lv_aload_n hx hb dX4_open_254 rfl (lv_at hl 4 rfl) ?_
                        refine rSf 4 (j := 2) hx hb hts hi4 hown hK hV (by decide) rfl k15 dX4_open_255 ?_
                        refine lv_iload_n hx hb dX4_open_258 rfl (lv_at hl 6 rfl) ?_
                        refine lv_bipush (v := 8) hx hb dX4_open_259 (by decide) ?_
                        refine lv_iadd hx hb dX4_open_261 ?_
                        refine lv_topi (fun y59 ey59 => ?_)
                        obtain rfl : y59 = nI (11 * p + 8) := ey59.trans (nI_add (11 * p) 8)
                        refine lv_dup2_11 hx hb dX4_open_262 rfl rfl ?_
                        refine rSp (h := p) (f := 8) (g := 28) (v := τ1 28 p) hx hb hK hV (by omega) (by omega) (by omega) (by omega) hP (wst_f (by decide)) dX4_open_263 ?_
                        refine lv_iconst (v := 1) hx hb dX4_open_264 (by decide) ?_
                        refine lv_iadd hx hb dX4_open_265 ?_
                        refine wSp (h := p) (f := 8) (g := 28) hx hb hK hI hV hS (fun _ q => q) (by omega) (by omega) (by omega) (by omega) hP dX4_open_266 (fun H locs hV _ hS => ?_)
                        refine lv_aload_n hx hb dX4_open_267 rfl (lv_at hl 4 rfl) ?_
                        refine rSf 2 (j := 1) hx hb hts hi4 hown hK hV (by decide) rfl k9 dX4_open_268 ?_
                        refine lv_bipush (v := 11) hx hb dX4_open_271 (by decide) ?_
                        refine lv_iload hx hb dX4_open_273 (lv_at hl 2 rfl) ?_
                        refine lv_imul hx hb dX4_open_275 ?_
                        refine lv_topi (fun y60 ey60 => ?_)
                        obtain rfl : y60 = nI (11 * hh) := ey60.trans (pk_mul 11 hh)
                        refine lv_bipush (v := 7) hx hb dX4_open_276 (by decide) ?_
                        refine lv_iadd hx hb dX4_open_278 ?_
                        refine lv_topi (fun y61 ey61 => ?_)
                        obtain rfl : y61 = nI (11 * hh + 7) := ey61.trans (nI_add (11 * hh) 7)
                        refine lv_dup2_11 hx hb dX4_open_279 rfl rfl ?_
                        refine rSh (h := hh) (f := 7) (v := τ1 7 hh) hx hb hK hV (by omega) (by omega) (by omega) hH ((wst_f (by decide)).trans (wst_f (by decide))) dX4_open_280 ?_
                        refine lv_iconst (v := 1) hx hb dX4_open_281 (by decide) ?_
                        refine lv_iadd hx hb dX4_open_282 ?_
                        refine wSh (h := hh) (f := 7) hx hb hK hI hV hS (fun _ q => q) (by omega) (by omega) (by omega) hH dX4_open_283 (fun H locs hV _ hS => ?_)
                        refine lv_iconst (v := 1) hx hb dX4_open_284 (by decide) ?_
                        exact xZ hx hb hr hlocks (by rw [opnF, if_pos hk0, eH, ← ht1, eh, if_pos rfl]; exact hV) hS (by rw [opnF, if_pos hk0, eH, ← ht1, eh, if_pos rfl]) rfl dX4_open_285
                      · skip
                        exact absurd c239 (by decide)
                    · skip
                      exact absurd c155 (by decide)
            · skip
              exact absurd c83 (nI_nm1 (by omega))
          · skip
            exact absurd c26 (nI_nm1 (by omega))
