theorem mx_nI {k : Nat} (hk : k < 2 ^ 31) : (if (0 : Int32) < nI k - 1 then nI k - 1 else 0) = nI (k - 1) := by
  rcases k with _ | k
  · decide
  · rw [show (nI (k + 1) - 1 : Int32) = nI k from pk_sub (a := k + 1) (b := 1) (by omega)]
    show _ = nI k
    by_cases q : 0 < k
    · exact if_pos ((nI_ltI (a := 0) (b := k) (by omega) (by omega)).mpr q)
    · have e : k = 0 := by omega
      subst e
      rfl
theorem w1F_eq {p k : Nat} {τ : wS} (e : τ 24 p = nI k) (hk : k < 2 ^ 31) : wst τ 24 p (nI (k - 1)) = w1F p τ := by
  unfold w1F
  rw [e]
  by_cases q : k = 0
  · subst q
    rw [if_neg (by decide)]
    exact wst_self e
  · rw [if_pos (show (0 : Int32) < nI k from (nI_ltI (a := 0) (b := k) (by omega) (by omega)).mpr (by omega)), show (nI k - 1 : Int32) = nI (k - 1) from pk_sub (a := k) (b := 1) (by omega)]
theorem shrH_v {e : Int32} {h f i : Nat} {σ : wS} (hf : f ≠ 3) : shrH e h σ f i = σ f i := by
  unfold shrH
  split
  · exact wst_f hf
  · rfl
def shr2 (nH : Nat) (σ : wS) : wS := if unm σ nH = 0 then σ else wst (itn (shrH (eachF nH σ)) nH σ) 53 0 (σ 53 0 - eachF nH σ * unm σ nH)

set_option maxHeartbeats 4000000 in
set_option maxRecDepth 100000 in
theorem c_X4_mend (l : Launch) (G : wG) (ad : Nat → Nat) (hI : adInj ad 6) (nH nP : Nat) (hH : nH ≤ 10) (hP : nP ≤ 3) (δ τ : wS) (p : Nat) (hv : Inv nH nP τ) (hp : p < nP) : Met l yX4_mend wsX4_mend ({ frames := 1, cells := 0, slots := 0, locals := 15 } : Room) (Pc0 G [.ref (ad 0), .int (nI p)] (RVm G ad nH nP δ τ)) (Qv0 (RVm G ad nH nP δ (mndF p τ)) (AV ad 6)) 0 0 (AV ad 6) := by
  refine Met.ofW (cc := cX4_mend) (maxL := 3) (ret := none) (by decide) rfl ?_
  intro pg ev s mid args below meth cd s₁ B hml hv0
  obtain ⟨rfl, hV, hK⟩ := hv0
  have hx := B.exec
  have hb := B.bytes
  have hr := B.returns
  have hts := atoms_spec (ws := wsX4_mend) B.pre
  have hown : s.vm.findClass RX4 = some mid.cls := findClass_of_methodNamed B.named
  have hlocks := B.notSynchronized
  have hi4 : ∀ w ∈ wsX40, w ∈ wsX4_mend := by decide +kernel
  have k15 := hts (.fieldLink RX4 15 "PumpRosterModel$State" "pump" "[I") (by decide +kernel)
  have k25 := hts (.fieldLink RX4 25 "PumpRosterModel$State" "isNew" "[Z") (by decide +kernel)
  have km78 := hts (.methodLink RX4 78 Lib.Math.max.name) (by decide +kernel)
  have ksmax := hts (.static Lib.Math.max.name) (by decide +kernel)
  have kmath := hts (.initialized "java/lang/Math") (by decide +kernel)
  have kcmax := hts (.code Lib.Math.max.name Lib.Math.max.code 2 (some .int)) (by decide +kernel)
  have k38 := hts (.fieldLink RX4 38 "PumpRosterModel$State" "chest" "I") (by decide +kernel)
  have hS : va_S (AV ad 6) s.heap s.heap [] := va_S.rf
  have hl := lv_entry ([.ref (ad 0), .int (nI p)]) (n := 3) (Nat.le_of_ble_eq_true rfl)
  rw [lg_entry_eq]
  generalize (lg_sl ([.ref (ad 0), .int (nI p)]) ++ List.replicate (3 - (lg_sl ([.ref (ad 0), .int (nI p)])).length) Slot.unset).toArray = ls at hl ⊢
  have hl : lv_has ls 3 [(0, .ref (ad 0)), (1, .int (nI p))] := hl
  obtain ⟨-, -, ⟨kw, hkw, e24⟩, -⟩ := hv.2.2.2.2.2 p hp
  refine lv_bipush (v := 11) hx hb dX4_mend_0 (by decide) ?_
  refine lv_iload_n hx hb dX4_mend_2 rfl (lv_at hl 1 rfl) ?_
  refine lv_imul hx hb dX4_mend_3 ?_
  refine lv_topi (fun y1 ey1 => ?_)
  obtain rfl : y1 = nI (11 * p) := ey1.trans (pk_mul 11 p)
  refine lv_istore_n (lv' := [(2, .int (nI (11 * p))), (0, .ref (ad 0)), (1, .int (nI p))]) hx hb dX4_mend_4 rfl hl (by decide) rfl (fun ls hl => ?_)
  refine lv_aload_n hx hb dX4_mend_5 rfl (lv_at hl 1 rfl) ?_
  refine rSf 4 (j := 2) hx hb hts hi4 hown hK hV (by decide) rfl k15 dX4_mend_6 ?_
  refine lv_iload_n hx hb dX4_mend_9 rfl (lv_at hl 0 rfl) ?_
  refine lv_iconst (v := 3) hx hb dX4_mend_10 (by decide) ?_
  refine lv_iadd hx hb dX4_mend_11 ?_
  refine lv_topi (fun y2 ey2 => ?_)
  obtain rfl : y2 = nI (11 * p + 3) := ey2.trans (nI_add (11 * p) 3)
  refine rSp (h := p) (f := 3) (g := 23) (v := τ 23 p) hx hb hK hV (by omega) (by omega) (by omega) (by omega) hP rfl dX4_mend_12 ?_
  refine lv_if_eq (tgt := 25) hx hb dX4_mend_13 (by decide) (fun c13 => ?_) (fun c13 => ?_)
  · skip
    exact xV hx hb hr hlocks (by rw [mndF, if_pos (by first | exact Or.inl c13 | exact Or.inr c22)]; exact hV) hS dX4_mend_25
  · skip
    refine lv_aload_n hx hb dX4_mend_16 rfl (lv_at hl 1 rfl) ?_
    refine rSf 7 (j := 5) hx hb hts hi4 hown hK hV (by decide) rfl k25 dX4_mend_17 ?_
    refine lv_iload_n hx hb dX4_mend_20 rfl (lv_at hl 2 rfl) ?_
    refine rSn (h := p) (v := τ 32 p) hx hb hK hV (by omega) rfl dX4_mend_21 ?_
    refine lv_if_eq (tgt := 26) hx hb dX4_mend_22 (by decide) (fun c22 => ?_) (fun c22 => ?_)
    · skip
      refine lv_aload_n hx hb dX4_mend_26 rfl (lv_at hl 1 rfl) ?_
      refine rSf 4 (j := 2) hx hb hts hi4 hown hK hV (by decide) rfl k15 dX4_mend_27 ?_
      refine lv_iload_n hx hb dX4_mend_30 rfl (lv_at hl 0 rfl) ?_
      refine lv_iconst (v := 4) hx hb dX4_mend_31 (by decide) ?_
      refine lv_iadd hx hb dX4_mend_32 ?_
      refine lv_topi (fun y3 ey3 => ?_)
      obtain rfl : y3 = nI (11 * p + 4) := ey3.trans (nI_add (11 * p) 4)
      refine lv_iconst (v := 0) hx hb dX4_mend_33 (by decide) ?_
      refine lv_aload_n hx hb dX4_mend_34 rfl (lv_at hl 1 rfl) ?_
      refine rSf 4 (j := 2) hx hb hts hi4 hown hK hV (by decide) rfl k15 dX4_mend_35 ?_
      refine lv_iload_n hx hb dX4_mend_38 rfl (lv_at hl 0 rfl) ?_
      refine lv_iconst (v := 4) hx hb dX4_mend_39 (by decide) ?_
      refine lv_iadd hx hb dX4_mend_40 ?_
      refine lv_topi (fun y4 ey4 => ?_)
      obtain rfl : y4 = nI (11 * p + 4) := ey4.trans (nI_add (11 * p) 4)
      refine rSp (h := p) (f := 4) (g := 24) (v := nI kw) hx hb hK hV (by omega) (by omega) (by omega) (by omega) hP e24 dX4_mend_41 ?_
      refine lv_iconst (v := 1) hx hb dX4_mend_42 (by decide) ?_
      refine lv_isub hx hb dX4_mend_43 ?_
      refine va_mmax hx hb (hml.trans hl.1.symm) hown km78 ksmax kmath kcmax (Nat.le_of_ble_eq_true rfl) (Nat.le_of_ble_eq_true rfl) (Nat.zero_le _) (Nat.zero_le _) dX4_mend_44 ?_
      refine lv_topi (fun y5 ey5 => ?_)
      obtain rfl : y5 = nI (kw - 1) := ey5.trans (mx_nI (by omega))
      refine wSp (h := p) (f := 4) (g := 24) hx hb hK hI hV hS (fun _ q => q) (by omega) (by omega) (by omega) (by omega) hP dX4_mend_47 (fun H locs hV _ hS => ?_)
      rw [w1F_eq e24 (by omega)] at hV
      have w24 : w1F p τ 24 p = nI (kw - 1) := by rw [← w1F_eq e24 (by omega)]; exact wst_s
      refine lv_aload_n hx hb dX4_mend_48 rfl (lv_at hl 1 rfl) ?_
      refine rSf 4 (j := 2) hx hb hts hi4 hown hK hV (by decide) rfl k15 dX4_mend_49 ?_
      refine lv_iload_n hx hb dX4_mend_52 rfl (lv_at hl 0 rfl) ?_
      refine lv_iconst (v := 4) hx hb dX4_mend_53 (by decide) ?_
      refine lv_iadd hx hb dX4_mend_54 ?_
      refine lv_topi (fun y6 ey6 => ?_)
      obtain rfl : y6 = nI (11 * p + 4) := ey6.trans (nI_add (11 * p) 4)
      refine rSp (h := p) (f := 4) (g := 24) (v := nI (kw - 1)) hx hb hK hV (by omega) (by omega) (by omega) (by omega) hP w24 dX4_mend_55 ?_
      refine lv_if_gt (tgt := 68) hx hb dX4_mend_56 (by decide) (fun c56 => ?_) (fun c56 => ?_)
      · skip
        replace c56 := (nI_ltI (a := 0) (b := kw - 1) (by omega) (by omega)).mp c56
        exact xV hx hb hr hlocks (by rw [mndF, if_neg (fun q => q.elim c13 (fun z => z c22)), wrkF, if_neg (fun q => by first | exact c65 q.2 | (have q1 := q.1; rw [w24] at q1; exact nI_ne0 (by omega) (by omega) q1))]; exact hV) hS dX4_mend_68
      · skip
        replace c56 : ¬ (0 < kw - 1) := fun q => c56 ((nI_ltI (a := 0) (b := kw - 1) (by omega) (by omega)).mpr q)
        refine lv_aload_n hx hb dX4_mend_59 rfl (lv_at hl 1 rfl) ?_
        refine rSi 8 (f := 53) (v := τ 53 0) hx hb hts hi4 hown hK hV (by decide) rfl w1F_53 k38 dX4_mend_60 ?_
        refine lv_bipush (v := 10) hx hb dX4_mend_63 (by decide) ?_
        refine lv_icmp_ge (tgt := 69) hx hb dX4_mend_65 (by decide) (fun c65 => ?_) (fun c65 => ?_)
        · skip
          refine lv_aload_n hx hb dX4_mend_69 rfl (lv_at hl 1 rfl) ?_
          refine lv_dup hx hb dX4_mend_70 rfl ?_
          refine rSi 8 (f := 53) (v := τ 53 0) hx hb hts hi4 hown hK hV (by decide) rfl w1F_53 k38 dX4_mend_71 ?_
          refine lv_bipush (v := 10) hx hb dX4_mend_74 (by decide) ?_
          refine lv_isub hx hb dX4_mend_76 ?_
          refine wSi 8 (f := 53) hx hb hts hi4 hown hK hI hV hS (fun _ q => q) (by decide) rfl k38 dX4_mend_77 (fun H locs hV _ hS => ?_)
          refine lv_aload_n hx hb dX4_mend_80 rfl (lv_at hl 1 rfl) ?_
          refine rSf 4 (j := 2) hx hb hts hi4 hown hK hV (by decide) rfl k15 dX4_mend_81 ?_
          refine lv_iload_n hx hb dX4_mend_84 rfl (lv_at hl 0 rfl) ?_
          refine lv_iconst (v := 3) hx hb dX4_mend_85 (by decide) ?_
          refine lv_iadd hx hb dX4_mend_86 ?_
          refine lv_topi (fun y7 ey7 => ?_)
          obtain rfl : y7 = nI (11 * p + 3) := ey7.trans (nI_add (11 * p) 3)
          refine lv_iconst (v := 0) hx hb dX4_mend_87 (by decide) ?_
          refine wSp (h := p) (f := 3) (g := 23) hx hb hK hI hV hS (fun _ q => q) (by omega) (by omega) (by omega) (by omega) hP dX4_mend_88 (fun H locs hV _ hS => ?_)
          refine lv_aload_n hx hb dX4_mend_89 rfl (lv_at hl 1 rfl) ?_
          refine rSf 4 (j := 2) hx hb hts hi4 hown hK hV (by decide) rfl k15 dX4_mend_90 ?_
          refine lv_iload_n hx hb dX4_mend_93 rfl (lv_at hl 0 rfl) ?_
          refine lv_iconst (v := 2) hx hb dX4_mend_94 (by decide) ?_
          refine lv_iadd hx hb dX4_mend_95 ?_
          refine lv_topi (fun y8 ey8 => ?_)
          obtain rfl : y8 = nI (11 * p + 2) := ey8.trans (nI_add (11 * p) 2)
          refine lv_iconst (v := 0) hx hb dX4_mend_96 (by decide) ?_
          refine wSp (h := p) (f := 2) (g := 22) hx hb hK hI hV hS (fun _ q => q) (by omega) (by omega) (by omega) (by omega) hP dX4_mend_97 (fun H locs hV _ hS => ?_)
          refine lv_aload_n hx hb dX4_mend_98 rfl (lv_at hl 1 rfl) ?_
          refine rSf 4 (j := 2) hx hb hts hi4 hown hK hV (by decide) rfl k15 dX4_mend_99 ?_
          refine lv_iload_n hx hb dX4_mend_102 rfl (lv_at hl 0 rfl) ?_
          refine lv_bipush (v := 10) hx hb dX4_mend_103 (by decide) ?_
          refine lv_iadd hx hb dX4_mend_105 ?_
          refine lv_topi (fun y9 ey9 => ?_)
          obtain rfl : y9 = nI (11 * p + 10) := ey9.trans (nI_add (11 * p) 10)
          refine lv_dup2_11 hx hb dX4_mend_106 rfl rfl ?_
          refine rSp (h := p) (f := 10) (g := 30) (v := τ 30 p) hx hb hK hV (by omega) (by omega) (by omega) (by omega) hP (((wst_f (by decide)).trans ((wst_f (by decide)).trans (wst_f (by decide)))).trans w1F_30) dX4_mend_107 ?_
          refine lv_iconst (v := 1) hx hb dX4_mend_108 (by decide) ?_
          refine lv_iadd hx hb dX4_mend_109 ?_
          refine wSp (h := p) (f := 10) (g := 30) hx hb hK hI hV hS (fun _ q => q) (by omega) (by omega) (by omega) (by omega) hP dX4_mend_110 (fun H locs hV _ hS => ?_)
          exact xV hx hb hr hlocks (by rw [mndF, if_neg (fun q => q.elim c13 (fun z => z c22)), wrkF, if_pos ⟨by rw [w24, show kw - 1 = 0 by omega]; rfl, c65⟩]; exact hV) hS dX4_mend_111
        · skip
          exact xV hx hb hr hlocks (by rw [mndF, if_neg (fun q => q.elim c13 (fun z => z c22)), wrkF, if_neg (fun q => by first | exact c65 q.2 | (have q1 := q.1; rw [w24] at q1; exact nI_ne0 (by omega) (by omega) q1))]; exact hV) hS dX4_mend_68
    · skip
      exact xV hx hb hr hlocks (by rw [mndF, if_pos (by first | exact Or.inl c13 | exact Or.inr c22)]; exact hV) hS dX4_mend_25

set_option maxHeartbeats 4000000 in
set_option maxRecDepth 100000 in
theorem c_X4_share (l : Launch) (G : wG) (ad : Nat → Nat) (hI : adInj ad 6) (nH nP : Nat) (hH : nH ≤ 10) (hP : nP ≤ 3) (δ τ : wS)  (hv : Inv nH nP τ) : Met l yX4_share wsX4_share ({ frames := 0, cells := 0, slots := 0, locals := 0 } : Room) (Pc0 G [.ref (ad 0)] (RVm G ad nH nP δ τ)) (Qv0 (RVm G ad nH nP δ (shr2 nH τ)) (AV ad 6)) 0 0 (AV ad 6) := by
  refine Met.ofW (cc := cX4_share) (maxL := 4) (ret := none) (by decide) rfl ?_
  intro pg ev s mid args below meth cd s₁ B hml hv0
  obtain ⟨rfl, hV, hK⟩ := hv0
  have hx := B.exec
  have hb := B.bytes
  have hr := B.returns
  have hts := atoms_spec (ws := wsX4_share) B.pre
  have hown : s.vm.findClass RX4 = some mid.cls := findClass_of_methodNamed B.named
  have hlocks := B.notSynchronized
  have hi4 : ∀ w ∈ wsX40, w ∈ wsX4_share := by decide +kernel
  have k32 := hts (.fieldLink RX4 32 "PumpRosterModel$State" "houses" "I") (by decide +kernel)
  have k38 := hts (.fieldLink RX4 38 "PumpRosterModel$State" "chest" "I") (by decide +kernel)
  have k9 := hts (.fieldLink RX4 9 "PumpRosterModel$State" "house" "[I") (by decide +kernel)
  have hS : va_S (AV ad 6) s.heap s.heap [] := va_S.rf
  have hl := lv_entry ([.ref (ad 0)]) (n := 4) (Nat.le_of_ble_eq_true rfl)
  rw [lg_entry_eq]
  generalize (lg_sl ([.ref (ad 0)]) ++ List.replicate (4 - (lg_sl ([.ref (ad 0)])).length) Slot.unset).toArray = ls at hl ⊢
  have hl : lv_has ls 4 [(0, .ref (ad 0))] := hl
  refine lv_iconst (v := 0) hx hb dX4_share_0 (by decide) ?_
  refine lv_istore_n (lv' := [(1, .int 0), (0, .ref (ad 0))]) hx hb dX4_share_1 rfl hl (by decide) rfl (fun ls hl => ?_)
  refine lv_iconst (v := nI 0) hx hb dX4_share_2 (by decide) ?_
  refine lv_istore_n (lv' := [(2, .int (nI 0)), (1, .int 0), (0, .ref (ad 0))]) hx hb dX4_share_3 rfl hl (by decide) rfl (fun ls hl => ?_)
  refine W_up nH (fun i H locs ls => RVm G ad nH nP δ τ H ∧ va_S (AV ad 6) s.heap H locs ∧ lv_has ls 4 [(0, .ref (ad 0)), (1, .int (unm τ i)), (2, .int (nI i))]) ?_ 0 (by omega) _ _ _ ⟨hV, hS, lv_sub hl [2, 1, 0] rfl⟩
  intro i H locs ls hi ⟨hV, hS, hl⟩ ih
  have hvi : Inv nH nP τ := hv
  refine lv_iload_n hx hb dX4_share_4 rfl (lv_at hl 2 rfl) ?_
  refine lv_aload_n hx hb dX4_share_5 rfl (lv_at hl 0 rfl) ?_
  refine rSi 1 (f := 51) (v := nI nH) hx hb hts hi4 hown hK hV (by decide) rfl hvi.2.2.1 k32 dX4_share_6 ?_
  refine lv_icmp_ge (tgt := 40) hx hb dX4_share_9 (by decide) (fun c9 => ?_) (fun c9 => ?_)
  · skip
    replace c9 := (nI_leI (a := nH) (b := i) (by omega) (by omega)).mp c9
    obtain rfl : nH = i := by omega
    refine lv_iload_n hx hb dX4_share_40 rfl (lv_at hl 1 rfl) ?_
    refine lv_if_ne (tgt := 45) hx hb dX4_share_41 (by decide) (fun c41 => ?_) (fun c41 => ?_)
    · skip
      refine lv_aload_n hx hb dX4_share_45 rfl (lv_at hl 0 rfl) ?_
      refine rSi 8 (f := 53) (v := τ 53 0) hx hb hts hi4 hown hK hV (by decide) rfl rfl k38 dX4_share_46 ?_
      refine lv_bipush (v := 20) hx hb dX4_share_49 (by decide) ?_
      refine lv_isub hx hb dX4_share_51 ?_
      refine lv_iload_n hx hb dX4_share_52 rfl (lv_at hl 1 rfl) ?_
      refine lv_idiv hx hb dX4_share_53 c41 ?_
      refine lv_topi (fun y1 ey1 => ?_)
      obtain rfl : y1 = eachF nH τ := ey1.trans rfl
      refine lv_istore_n (lv' := [(2, .int (eachF nH τ)), (0, .ref (ad 0)), (1, .int (unm τ nH))]) hx hb dX4_share_54 rfl hl (by decide) rfl (fun ls hl => ?_)
      refine lv_iconst (v := nI 0) hx hb dX4_share_55 (by decide) ?_
      refine lv_istore_n (lv' := [(3, .int (nI 0)), (2, .int (eachF nH τ)), (0, .ref (ad 0)), (1, .int (unm τ nH))]) hx hb dX4_share_56 rfl hl (by decide) rfl (fun ls hl => ?_)
      refine W_up nH (fun i H locs ls => RVm G ad nH nP δ (itn (shrH (eachF nH τ)) i τ) H ∧ va_S (AV ad 6) s.heap H locs ∧ lv_has ls 4 [(0, .ref (ad 0)), (1, .int (unm τ nH)), (2, .int (eachF nH τ)), (3, .int (nI i))]) ?_ 0 (by omega) _ _ _ ⟨hV, hS, lv_sub hl [2, 3, 1, 0] rfl⟩
      intro i H locs ls hi ⟨hV, hS, hl⟩ ih
      have hvi : Inv nH nP (itn (shrH (eachF nH τ)) i τ) := itn_inv hv (fun k hk x hx => hx.oShr)
      refine lv_iload_n hx hb dX4_share_57 rfl (lv_at hl 3 rfl) ?_
      refine lv_aload_n hx hb dX4_share_58 rfl (lv_at hl 0 rfl) ?_
      refine rSi 1 (f := 51) (v := nI nH) hx hb hts hi4 hown hK hV (by decide) rfl hvi.2.2.1 k32 dX4_share_59 ?_
      refine lv_icmp_ge (tgt := 100) hx hb dX4_share_62 (by decide) (fun c62 => ?_) (fun c62 => ?_)
      · skip
        replace c62 := (nI_leI (a := nH) (b := i) (by omega) (by omega)).mp c62
        obtain rfl : nH = i := by omega
        refine lv_aload_n hx hb dX4_share_100 rfl (lv_at hl 0 rfl) ?_
        refine lv_dup hx hb dX4_share_101 rfl ?_
        refine rSi 8 (f := 53) (v := τ 53 0) hx hb hts hi4 hown hK hV (by decide) rfl (itn_col (fun k x => shrH_v (by omega))) k38 dX4_share_102 ?_
        refine lv_iload_n hx hb dX4_share_105 rfl (lv_at hl 2 rfl) ?_
        refine lv_iload_n hx hb dX4_share_106 rfl (lv_at hl 1 rfl) ?_
        refine lv_imul hx hb dX4_share_107 ?_
        refine lv_isub hx hb dX4_share_108 ?_
        refine wSi 8 (f := 53) hx hb hts hi4 hown hK hI hV hS (fun _ q => q) (by decide) rfl k38 dX4_share_109 (fun H locs hV _ hS => ?_)
        exact xV hx hb hr hlocks (by rw [shr2, if_neg c41]; exact hV) hS dX4_share_112
      · skip
        replace c62 : ¬ (nH ≤ i) := fun q => c62 ((nI_leI (a := nH) (b := i) (by omega) (by omega)).mpr q)
        refine lv_aload_n hx hb dX4_share_65 rfl (lv_at hl 0 rfl) ?_
        refine rSf 2 (j := 1) hx hb hts hi4 hown hK hV (by decide) rfl k9 dX4_share_66 ?_
        refine lv_bipush (v := 11) hx hb dX4_share_69 (by decide) ?_
        refine lv_iload_n hx hb dX4_share_71 rfl (lv_at hl 3 rfl) ?_
        refine lv_imul hx hb dX4_share_72 ?_
        refine lv_topi (fun y2 ey2 => ?_)
        obtain rfl : y2 = nI (11 * i) := ey2.trans (pk_mul 11 i)
        refine lv_iconst (v := 4) hx hb dX4_share_73 (by decide) ?_
        refine lv_iadd hx hb dX4_share_74 ?_
        refine lv_topi (fun y3 ey3 => ?_)
        obtain rfl : y3 = nI (11 * i + 4) := ey3.trans (nI_add (11 * i) 4)
        refine rSh (h := i) (f := 4) (v := (itn (shrH (eachF nH τ)) i τ) 4 i) hx hb hK hV (by omega) (by omega) (by omega) hH rfl dX4_share_75 ?_
        refine lv_if_ne (tgt := 94) hx hb dX4_share_76 (by decide) (fun c76 => ?_) (fun c76 => ?_)
        · skip
          refine lv_iinc (k := 3) (v := nI (i + 1)) (lv' := [(3, .int (nI (i + 1))), (0, .ref (ad 0)), (1, .int (unm τ nH)), (2, .int (eachF nH τ))]) hx hb dX4_share_94 hl rfl (nI_add i 1) (by decide) rfl (fun ls hl => ?_)
          refine lv_goto (tgt := 57) hx hb dX4_share_97 (by decide) ?_
          exact ih (by omega) _ _ _ ⟨(by rw [itn_s, shrH, if_neg c76]; exact hV), hS, lv_sub hl [1, 2, 3, 0] rfl⟩
        · skip
          refine lv_aload_n hx hb dX4_share_79 rfl (lv_at hl 0 rfl) ?_
          refine rSf 2 (j := 1) hx hb hts hi4 hown hK hV (by decide) rfl k9 dX4_share_80 ?_
          refine lv_bipush (v := 11) hx hb dX4_share_83 (by decide) ?_
          refine lv_iload_n hx hb dX4_share_85 rfl (lv_at hl 3 rfl) ?_
          refine lv_imul hx hb dX4_share_86 ?_
          refine lv_topi (fun y4 ey4 => ?_)
          obtain rfl : y4 = nI (11 * i) := ey4.trans (pk_mul 11 i)
          refine lv_iconst (v := 3) hx hb dX4_share_87 (by decide) ?_
          refine lv_iadd hx hb dX4_share_88 ?_
          refine lv_topi (fun y5 ey5 => ?_)
          obtain rfl : y5 = nI (11 * i + 3) := ey5.trans (nI_add (11 * i) 3)
          refine lv_dup2_11 hx hb dX4_share_89 rfl rfl ?_
          refine rSh (h := i) (f := 3) (v := (itn (shrH (eachF nH τ)) i τ) 3 i) hx hb hK hV (by omega) (by omega) (by omega) hH rfl dX4_share_90 ?_
          refine lv_iload_n hx hb dX4_share_91 rfl (lv_at hl 2 rfl) ?_
          refine lv_iadd hx hb dX4_share_92 ?_
          refine wSh (h := i) (f := 3) hx hb hK hI hV hS (fun _ q => q) (by omega) (by omega) (by omega) hH dX4_share_93 (fun H locs hV _ hS => ?_)
          refine lv_iinc (k := 3) (v := nI (i + 1)) (lv' := [(3, .int (nI (i + 1))), (0, .ref (ad 0)), (1, .int (unm τ nH)), (2, .int (eachF nH τ))]) hx hb dX4_share_94 hl rfl (nI_add i 1) (by decide) rfl (fun ls hl => ?_)
          refine lv_goto (tgt := 57) hx hb dX4_share_97 (by decide) ?_
          exact ih (by omega) _ _ _ ⟨(by rw [itn_s, shrH, if_pos c76]; exact hV), hS, lv_sub hl [1, 2, 3, 0] rfl⟩
    · skip
      exact xV hx hb hr hlocks (by rw [shr2, if_pos c41]; exact hV) hS dX4_share_44
  · skip
    replace c9 : ¬ (nH ≤ i) := fun q => c9 ((nI_leI (a := nH) (b := i) (by omega) (by omega)).mpr q)
    refine lv_iload_n hx hb dX4_share_12 rfl (lv_at hl 1 rfl) ?_
    refine lv_aload_n hx hb dX4_share_13 rfl (lv_at hl 0 rfl) ?_
    refine rSf 2 (j := 1) hx hb hts hi4 hown hK hV (by decide) rfl k9 dX4_share_14 ?_
    refine lv_bipush (v := 11) hx hb dX4_share_17 (by decide) ?_
    refine lv_iload_n hx hb dX4_share_19 rfl (lv_at hl 2 rfl) ?_
    refine lv_imul hx hb dX4_share_20 ?_
    refine lv_topi (fun y6 ey6 => ?_)
    obtain rfl : y6 = nI (11 * i) := ey6.trans (pk_mul 11 i)
    refine lv_iconst (v := 4) hx hb dX4_share_21 (by decide) ?_
    refine lv_iadd hx hb dX4_share_22 ?_
    refine lv_topi (fun y7 ey7 => ?_)
    obtain rfl : y7 = nI (11 * i + 4) := ey7.trans (nI_add (11 * i) 4)
    refine rSh (h := i) (f := 4) (v := τ 4 i) hx hb hK hV (by omega) (by omega) (by omega) hH rfl dX4_share_23 ?_
    refine lv_if_ne (tgt := 31) hx hb dX4_share_24 (by decide) (fun c24 => ?_) (fun c24 => ?_)
    · skip
      refine lv_iconst (v := 0) hx hb dX4_share_31 (by decide) ?_
      refine lv_topi (fun yy eyy => ?_)
      obtain rfl : yy = if τ 4 i = 0 then 1 else 0 := eyy.trans (if_neg c24).symm
      refine lv_iadd hx hb dX4_share_32 ?_
      refine lv_istore_n (lv' := [(1, .int ((unm τ i) + (if τ 4 i = 0 then 1 else 0))), (0, .ref (ad 0)), (2, .int (nI i))]) hx hb dX4_share_33 rfl hl (by decide) rfl (fun ls hl => ?_)
      refine lv_iinc (k := 2) (v := nI (i + 1)) (lv' := [(2, .int (nI (i + 1))), (1, .int ((unm τ i) + (if τ 4 i = 0 then 1 else 0))), (0, .ref (ad 0))]) hx hb dX4_share_34 hl rfl (nI_add i 1) (by decide) rfl (fun ls hl => ?_)
      refine lv_goto (tgt := 4) hx hb dX4_share_37 (by decide) ?_
      exact ih (by omega) _ _ _ ⟨hV, hS, lv_sub hl [2, 1, 0] rfl⟩
    · skip
      refine lv_iconst (v := 1) hx hb dX4_share_27 (by decide) ?_
      refine lv_goto (tgt := 32) hx hb dX4_share_28 (by decide) ?_
      refine lv_topi (fun yy eyy => ?_)
      obtain rfl : yy = if τ 4 i = 0 then 1 else 0 := eyy.trans (if_pos c24).symm
      refine lv_iadd hx hb dX4_share_32 ?_
      refine lv_istore_n (lv' := [(1, .int ((unm τ i) + (if τ 4 i = 0 then 1 else 0))), (0, .ref (ad 0)), (2, .int (nI i))]) hx hb dX4_share_33 rfl hl (by decide) rfl (fun ls hl => ?_)
      refine lv_iinc (k := 2) (v := nI (i + 1)) (lv' := [(2, .int (nI (i + 1))), (1, .int ((unm τ i) + (if τ 4 i = 0 then 1 else 0))), (0, .ref (ad 0))]) hx hb dX4_share_34 hl rfl (nI_add i 1) (by decide) rfl (fun ls hl => ?_)
      refine lv_goto (tgt := 4) hx hb dX4_share_37 (by decide) ?_
      exact ih (by omega) _ _ _ ⟨hV, hS, lv_sub hl [2, 1, 0] rfl⟩
