set_option maxHeartbeats 4000000 in
set_option maxRecDepth 100000 in
theorem c_X5_digest (l : Launch) (G : wG) (ma : Nat) (ad ad2 : Nat → Nat) (hI : MI ma ad ad2) (nH nP : Nat) (hH : nH ≤ 10) (hP : nP ≤ 3) (δ τ z : wS) (t : Int32) (nz pa : Nat) (hv : Inv nH nP τ) : Met l yX5_digest wsX5_digest ({ frames := 3, cells := 10, slots := 100, locals := 66 } : Room) (PcP G [.ref ma] nz pa (AM ma ad ad2 nz) (MWz G ma ad ad2 t (wmx nH nP δ τ) z)) (Ql0 (dgF nH nP τ) (MWz G ma ad ad2 0 (wmx nH nP δ τ) z) (AM ma ad ad2 nz)) 10 100 (AM ma ad ad2 nz) := by
  refine Met.ofW (cc := cX5_digest) (maxL := 5) (ret := (some .long)) (by decide) rfl ?_
  intro pg ev s mid args below meth cd s₁ B hml hv0
  obtain ⟨rfl, rfl, hW, hK, hN, hX⟩ := hv0
  have hx := B.exec
  have hb := B.bytes
  have hr := B.returns
  have hts := atoms_spec (ws := wsX5_digest) B.pre
  have hown : s.vm.findClass RX5 = some mid.cls := findClass_of_methodNamed B.named
  have hlocks := B.notSynchronized
  have hi4 : ∀ w ∈ wsX40, w ∈ wsX5_digest := by decide +kernel
  have hi5 : ∀ w ∈ wsX50, w ∈ wsX5_digest := by decide +kernel
  have k19 := hts (.fieldLink RX5 19 "PumpRosterModel" "thrown" "I") (by decide +kernel)
  have k117 := hts (.constantLong RX5 117 (577)) (by decide +kernel)
  have k10 := hts (.fieldLink RX5 10 "PumpRosterModel" "s" "LPumpRosterModel$State;") (by decide +kernel)
  have k119 := hts (.constantLong RX5 119 (31)) (by decide +kernel)
  have hS : va_S (AM ma ad ad2 s.heap.size) s.heap s.heap [] := va_S.rf
  have hl := lv_entry ([.ref ma]) (n := 5) (Nat.le_of_ble_eq_true rfl)
  rw [lg_entry_eq]
  generalize (lg_sl ([.ref ma]) ++ List.replicate (5 - (lg_sl ([.ref ma])).length) Slot.unset).toArray = ls at hl ⊢
  have hl : lv_has ls 5 [(0, .ref ma)] := hl
  obtain ⟨σ2, hW, hz⟩ := hW
  refine lv_aload_n hx hb dX5_digest_0 rfl (lv_at hl 0 rfl) ?_
  refine lv_iconst (v := 0) hx hb dX5_digest_1 (by decide) ?_
  refine wMt hx hb hts hi5 hown hK hI hW hS (Or.inr (Or.inr (Or.inl rfl))) k19 dX5_digest_2 (fun H locs hW hS => ?_)
  refine lv_ldc2 (v := 577) hx hb hown k117 dX5_digest_5 ?_
  refine lv_lstore_n (lv' := [(1, .long 577), (0, .ref ma)]) hx hb dX5_digest_8 rfl hl (by decide) rfl (fun ls hl => ?_)
  refine lv_iconst (v := nI 0) hx hb dX5_digest_9 (by decide) ?_
  refine lv_istore_n (lv' := [(3, .int (nI 0)), (1, .long 577), (0, .ref ma)]) hx hb dX5_digest_10 rfl hl (by decide) rfl (fun ls hl => ?_)
  refine W.widen (k := 0 + 0 * 1) (n := 0 + 0 * 10) (by omega) (by omega) ?_
  refine W_upc (cells := 0) (slots := 0) 1 10 10 (fun i H locs ls => (MW G ma ad ad2 0 (wmx nH nP δ τ) σ2) H ∧ va_S (AM ma ad ad2 s.heap.size) s.heap H locs ∧ lv_has ls 5 [(0, .ref ma), (1, .long (mxl (totF nH nP τ) 577 i)), (3, .int (nI i))]) ?_ 0 (by omega) _ _ _ ⟨hW, hS, lv_sub hl [2, 1, 0] rfl⟩
  intro i H locs ls hii ⟨hW, hS, hl⟩ ihi
  refine lv_iload_n hx hb dX5_digest_11 rfl (lv_at hl 2 rfl) ?_
  refine lv_bipush (v := 10) hx hb dX5_digest_12 (by decide) ?_
  refine lv_icmp_ge (tgt := 36) hx hb dX5_digest_14 (by decide) (fun c14 => ?_) (fun c14 => ?_)
  · skip
    replace c14 := (nI_leI (a := 10) (b := i) (by omega) (by omega)).mp c14
    obtain rfl : 10 = i := by omega
    refine lv_iconst (v := nI 0) hx hb dX5_digest_36 (by decide) ?_
    refine lv_istore_n (lv' := [(3, .int (nI 0)), (0, .ref ma), (1, .long (mxl (totF nH nP τ) 577 10))]) hx hb dX5_digest_37 rfl hl (by decide) rfl (fun ls hl => ?_)
    refine W_up nH (fun i H locs ls => (MW G ma ad ad2 0 (wmx nH nP δ τ) σ2) H ∧ va_S (AM ma ad ad2 s.heap.size) s.heap H locs ∧ lv_has ls 5 [(0, .ref ma), (1, .long (dgH nP τ (mxl (totF nH nP τ) 577 10) i)), (3, .int (nI i))]) ?_ 0 (by omega) _ _ _ ⟨hW, hS, lv_sub hl [1, 2, 0] rfl⟩
    intro i H locs ls hii ⟨hW, hS, hl⟩ ihi
    refine lv_iload_n hx hb dX5_digest_38 rfl (lv_at hl 2 rfl) ?_
    refine lv_aload_n hx hb dX5_digest_39 rfl (lv_at hl 0 rfl) ?_
    refine rM0 hx hb hts hi5 hown hK hW k10 dX5_digest_40 ?_
    refine rSiN 1 (f := 51) (v := nI nH) hx hb hts hi4 hown hK hW.2.1 (by decide) rfl hv.2.2.1 (va_Nw.use rfl hN.2.1) dX5_digest_43 ?_
    refine lv_icmp_ge (tgt := 86) hx hb dX5_digest_46 (by decide) (fun c46 => ?_) (fun c46 => ?_)
    · skip
      replace c46 := (nI_leI (a := nH) (b := i) (by omega) (by omega)).mp c46
      obtain rfl : nH = i := by omega
      refine lv_iconst (v := nI 0) hx hb dX5_digest_86 (by decide) ?_
      refine lv_istore_n (lv' := [(3, .int (nI 0)), (0, .ref ma), (1, .long (dgH nP τ (mxl (totF nH nP τ) 577 10) nH))]) hx hb dX5_digest_87 rfl hl (by decide) rfl (fun ls hl => ?_)
      refine W_up nP (fun i H locs ls => (MW G ma ad ad2 0 (wmx nH nP δ τ) σ2) H ∧ va_S (AM ma ad ad2 s.heap.size) s.heap H locs ∧ lv_has ls 5 [(0, .ref ma), (1, .long (dgP τ (dgH nP τ (mxl (totF nH nP τ) 577 10) nH) i)), (3, .int (nI i))]) ?_ 0 (by omega) _ _ _ ⟨hW, hS, lv_sub hl [1, 2, 0] rfl⟩
      intro i H locs ls hii ⟨hW, hS, hl⟩ ihi
      refine lv_iload_n hx hb dX5_digest_88 rfl (lv_at hl 2 rfl) ?_
      refine lv_aload_n hx hb dX5_digest_89 rfl (lv_at hl 0 rfl) ?_
      refine rM0 hx hb hts hi5 hown hK hW k10 dX5_digest_90 ?_
      refine rSiN 3 (f := 52) (v := nI nP) hx hb hts hi4 hown hK hW.2.1 (by decide) rfl hv.2.2.2.1 (va_Nw.use rfl hN.2.2.2.1) dX5_digest_93 ?_
      refine lv_icmp_ge (tgt := 196) hx hb dX5_digest_96 (by decide) (fun c96 => ?_) (fun c96 => ?_)
      · skip
        replace c96 := (nI_leI (a := nP) (b := i) (by omega) (by omega)).mp c96
        obtain rfl : nP = i := by omega
        refine lv_lload_n hx hb dX5_digest_196 rfl (lv_at hl 1 rfl) ?_
        refine W.widen (k := 10) (n := 100) (Nat.le_of_ble_eq_true rfl) (Nat.le_of_ble_eq_true rfl) ?_
        exact xL hx hb hr hlocks (⟨_, hW, hz⟩) hS rfl dX5_digest_197
      · skip
        replace c96 : ¬ (nP ≤ i) := fun q => c96 ((nI_leI (a := nP) (b := i) (by omega) (by omega)).mpr q)
        refine lv_iconst (v := nI 0) hx hb dX5_digest_99 (by decide) ?_
        refine lv_istore (lv' := [(4, .int (nI 0)), (0, .ref ma), (1, .long (dgP τ (dgH nP τ (mxl (totF nH nP τ) 577 10) nH) i)), (3, .int (nI i))]) hx hb dX5_digest_100 hl (by decide) rfl (fun ls hl => ?_)
        refine W_up 11 (fun j H locs ls => (MW G ma ad ad2 0 (wmx nH nP δ τ) σ2) H ∧ va_S (AM ma ad ad2 s.heap.size) s.heap H locs ∧ lv_has ls 5 [(0, .ref ma), (1, .long (mxl (fun k => τ (20 + k) i) (dgP τ (dgH nP τ (mxl (totF nH nP τ) 577 10) nH) i) j)), (3, .int (nI i)), (4, .int (nI j))]) ?_ 0 (by omega) _ _ _ ⟨hW, hS, lv_sub hl [1, 2, 3, 0] rfl⟩
        intro j H locs ls hij ⟨hW, hS, hl⟩ ihj
        refine lv_iload hx hb dX5_digest_102 (lv_at hl 3 rfl) ?_
        refine lv_bipush (v := 11) hx hb dX5_digest_104 (by decide) ?_
        refine lv_icmp_ge (tgt := 138) hx hb dX5_digest_106 (by decide) (fun c106 => ?_) (fun c106 => ?_)
        · skip
          replace c106 := (nI_leI (a := 11) (b := j) (by omega) (by omega)).mp c106
          obtain rfl : 11 = j := by omega
          obtain ⟨m9, e26⟩ : ∃ m9, m9 = sz τ i := ⟨_, rfl⟩
          have hz9 := (hv.2.2.2.2.2 i (by omega)).2.2.2.2.1
          rw [← e26] at hz9
          refine lv_iconst (v := nI 0) hx hb dX5_digest_138 (by decide) ?_
          refine lv_istore (lv' := [(4, .int (nI 0)), (0, .ref ma), (1, .long (mxl (fun k => τ (20 + k) i) (dgP τ (dgH nP τ (mxl (totF nH nP τ) 577 10) nH) i) 11)), (3, .int (nI i))]) hx hb dX5_digest_139 hl (by decide) rfl (fun ls hl => ?_)
          refine W_up m9 (fun j H locs ls => (MW G ma ad ad2 0 (wmx nH nP δ τ) σ2) H ∧ va_S (AM ma ad ad2 s.heap.size) s.heap H locs ∧ lv_has ls 5 [(0, .ref ma), (1, .long (mxl (τ (40 + i)) (mxl (fun k => τ (20 + k) i) (dgP τ (dgH nP τ (mxl (totF nH nP τ) 577 10) nH) i) 11) j)), (3, .int (nI i)), (4, .int (nI j))]) ?_ 0 (by omega) _ _ _ ⟨hW, hS, lv_sub hl [1, 2, 3, 0] rfl⟩
          intro j H locs ls hij ⟨hW, hS, hl⟩ ihj
          refine lv_iload hx hb dX5_digest_141 (lv_at hl 3 rfl) ?_
          refine lv_aload_n hx hb dX5_digest_143 rfl (lv_at hl 0 rfl) ?_
          refine rM0 hx hb hts hi5 hown hK hW k10 dX5_digest_144 ?_
          refine rSfN 4 (j := 2) hx hb hts hi4 hown hK hW.2.1 (by decide) rfl (va_Nw.use rfl hN.2.2.2.2.1) dX5_digest_147 ?_
          refine lv_bipush (v := 11) hx hb dX5_digest_150 (by decide) ?_
          refine lv_iload_n hx hb dX5_digest_152 rfl (lv_at hl 2 rfl) ?_
          refine lv_imul hx hb dX5_digest_153 ?_
          refine lv_topi (fun y1 ey1 => ?_)
          obtain rfl : y1 = nI (11 * i) := ey1.trans (pk_mul 11 i)
          refine lv_bipush (v := 6) hx hb dX5_digest_154 (by decide) ?_
          refine lv_iadd hx hb dX5_digest_156 ?_
          refine lv_topi (fun y2 ey2 => ?_)
          obtain rfl : y2 = nI (11 * i + 6) := ey2.trans (nI_add (11 * i) 6)
          refine rSp (h := i) (f := 6) (g := 26) (v := nI m9) hx hb hK hW.2.1 (by omega) (by omega) (by omega) (by omega) hP hz9.2 dX5_digest_157 ?_
          refine lv_icmp_ge (tgt := 190) hx hb dX5_digest_158 (by decide) (fun c158 => ?_) (fun c158 => ?_)
          · skip
            replace c158 := (nI_leI (a := m9) (b := j) (by omega) (by omega)).mp c158
            obtain rfl : m9 = j := by omega
            subst e26
            refine lv_iinc (k := 2) (v := nI (i + 1)) (lv' := [(3, .int (nI (i + 1))), (0, .ref ma), (1, .long (mxl (τ (40 + i)) (mxl (fun k => τ (20 + k) i) (dgP τ (dgH nP τ (mxl (totF nH nP τ) 577 10) nH) i) 11) (sz τ i))), (4, .int (nI (sz τ i)))]) hx hb dX5_digest_190 hl rfl (nI_add i 1) (by decide) rfl (fun ls hl => ?_)
            refine lv_goto (tgt := 88) hx hb dX5_digest_193 (by decide) ?_
            exact ihi (by omega) _ _ _ ⟨hW, hS, lv_sub hl [1, 2, 0] rfl⟩
          · skip
            replace c158 : ¬ (m9 ≤ j) := fun q => c158 ((nI_leI (a := m9) (b := j) (by omega) (by omega)).mpr q)
            refine lv_lload_n hx hb dX5_digest_161 rfl (lv_at hl 1 rfl) ?_
            refine lv_ldc2 (v := 31) hx hb hown k119 dX5_digest_162 ?_
            refine lv_lmul hx hb dX5_digest_165 ?_
            refine lv_aload_n hx hb dX5_digest_166 rfl (lv_at hl 0 rfl) ?_
            refine rM0 hx hb hts hi5 hown hK hW k10 dX5_digest_167 ?_
            refine rSfN 5 (j := 3) hx hb hts hi4 hown hK hW.2.1 (by decide) rfl (va_Nw.use rfl hN.2.2.2.2.2.1) dX5_digest_170 ?_
            refine lv_bipush (v := 10) hx hb dX5_digest_173 (by decide) ?_
            refine lv_iload_n hx hb dX5_digest_175 rfl (lv_at hl 2 rfl) ?_
            refine lv_imul hx hb dX5_digest_176 ?_
            refine lv_topi (fun y3 ey3 => ?_)
            obtain rfl : y3 = nI (10 * i) := ey3.trans (pk_mul 10 i)
            refine lv_iload hx hb dX5_digest_177 (lv_at hl 3 rfl) ?_
            refine lv_iadd hx hb dX5_digest_179 ?_
            refine lv_topi (fun y4 ey4 => ?_)
            obtain rfl : y4 = nI (10 * i + j) := ey4.trans (nI_add (10 * i) j)
            refine rSq (h := i) (k := j) (v := τ (40 + i) j) hx hb hK hW.2.1 (by omega) (by omega) (by omega) hP rfl dX5_digest_180 ?_
            refine lv_i2l hx hb dX5_digest_181 rfl ?_
            refine lv_ladd hx hb dX5_digest_182 ?_
            refine lv_lstore_n (lv' := [(1, .long (((mxl (τ (40 + i)) (mxl (fun k => τ (20 + k) i) (dgP τ (dgH nP τ (mxl (totF nH nP τ) 577 10) nH) i) 11) j) * 31) + (Int32.toInt64 (τ (40 + i) j)))), (0, .ref ma), (3, .int (nI i)), (4, .int (nI j))]) hx hb dX5_digest_183 rfl hl (by decide) rfl (fun ls hl => ?_)
            refine lv_iinc (k := 3) (v := nI (j + 1)) (lv' := [(4, .int (nI (j + 1))), (1, .long (((mxl (τ (40 + i)) (mxl (fun k => τ (20 + k) i) (dgP τ (dgH nP τ (mxl (totF nH nP τ) 577 10) nH) i) 11) j) * 31) + (Int32.toInt64 (τ (40 + i) j)))), (0, .ref ma), (3, .int (nI i))]) hx hb dX5_digest_184 hl rfl (nI_add j 1) (by decide) rfl (fun ls hl => ?_)
            refine lv_goto (tgt := 141) hx hb dX5_digest_187 (by decide) ?_
            exact ihj (by omega) _ _ _ ⟨hW, hS, lv_sub hl [2, 1, 3, 0] rfl⟩
        · skip
          replace c106 : ¬ (11 ≤ j) := fun q => c106 ((nI_leI (a := 11) (b := j) (by omega) (by omega)).mpr q)
          refine lv_lload_n hx hb dX5_digest_109 rfl (lv_at hl 1 rfl) ?_
          refine lv_ldc2 (v := 31) hx hb hown k119 dX5_digest_110 ?_
          refine lv_lmul hx hb dX5_digest_113 ?_
          refine lv_aload_n hx hb dX5_digest_114 rfl (lv_at hl 0 rfl) ?_
          refine rM0 hx hb hts hi5 hown hK hW k10 dX5_digest_115 ?_
          refine rSfN 4 (j := 2) hx hb hts hi4 hown hK hW.2.1 (by decide) rfl (va_Nw.use rfl hN.2.2.2.2.1) dX5_digest_118 ?_
          refine lv_bipush (v := 11) hx hb dX5_digest_121 (by decide) ?_
          refine lv_iload_n hx hb dX5_digest_123 rfl (lv_at hl 2 rfl) ?_
          refine lv_imul hx hb dX5_digest_124 ?_
          refine lv_topi (fun y5 ey5 => ?_)
          obtain rfl : y5 = nI (11 * i) := ey5.trans (pk_mul 11 i)
          refine lv_iload hx hb dX5_digest_125 (lv_at hl 3 rfl) ?_
          refine lv_iadd hx hb dX5_digest_127 ?_
          refine lv_topi (fun y6 ey6 => ?_)
          obtain rfl : y6 = nI (11 * i + j) := ey6.trans (nI_add (11 * i) j)
          refine rSp (h := i) (f := j) (g := 20 + j) (v := τ (20 + j) i) hx hb hK hW.2.1 (by omega) (by omega) (by omega) (by omega) hP rfl dX5_digest_128 ?_
          refine lv_i2l hx hb dX5_digest_129 rfl ?_
          refine lv_ladd hx hb dX5_digest_130 ?_
          refine lv_lstore_n (lv' := [(1, .long (((mxl (fun k => τ (20 + k) i) (dgP τ (dgH nP τ (mxl (totF nH nP τ) 577 10) nH) i) j) * 31) + (Int32.toInt64 (τ (20 + j) i)))), (0, .ref ma), (3, .int (nI i)), (4, .int (nI j))]) hx hb dX5_digest_131 rfl hl (by decide) rfl (fun ls hl => ?_)
          refine lv_iinc (k := 3) (v := nI (j + 1)) (lv' := [(4, .int (nI (j + 1))), (1, .long (((mxl (fun k => τ (20 + k) i) (dgP τ (dgH nP τ (mxl (totF nH nP τ) 577 10) nH) i) j) * 31) + (Int32.toInt64 (τ (20 + j) i)))), (0, .ref ma), (3, .int (nI i))]) hx hb dX5_digest_132 hl rfl (nI_add j 1) (by decide) rfl (fun ls hl => ?_)
          refine lv_goto (tgt := 102) hx hb dX5_digest_135 (by decide) ?_
          exact ihj (by omega) _ _ _ ⟨hW, hS, lv_sub hl [2, 1, 3, 0] rfl⟩
    · skip
      replace c46 : ¬ (nH ≤ i) := fun q => c46 ((nI_leI (a := nH) (b := i) (by omega) (by omega)).mpr q)
      refine lv_iconst (v := nI 0) hx hb dX5_digest_49 (by decide) ?_
      refine lv_istore (lv' := [(4, .int (nI 0)), (0, .ref ma), (1, .long (dgH nP τ (mxl (totF nH nP τ) 577 10) i)), (3, .int (nI i))]) hx hb dX5_digest_50 hl (by decide) rfl (fun ls hl => ?_)
      refine W_up 11 (fun j H locs ls => (MW G ma ad ad2 0 (wmx nH nP δ τ) σ2) H ∧ va_S (AM ma ad ad2 s.heap.size) s.heap H locs ∧ lv_has ls 5 [(0, .ref ma), (1, .long (mxl (hftF nP τ i) (dgH nP τ (mxl (totF nH nP τ) 577 10) i) j)), (3, .int (nI i)), (4, .int (nI j))]) ?_ 0 (by omega) _ _ _ ⟨hW, hS, lv_sub hl [1, 2, 3, 0] rfl⟩
      intro j H locs ls hij ⟨hW, hS, hl⟩ ihj
      refine lv_iload hx hb dX5_digest_52 (lv_at hl 3 rfl) ?_
      refine lv_bipush (v := 11) hx hb dX5_digest_54 (by decide) ?_
      refine lv_icmp_ge (tgt := 80) hx hb dX5_digest_56 (by decide) (fun c56 => ?_) (fun c56 => ?_)
      · skip
        replace c56 := (nI_leI (a := 11) (b := j) (by omega) (by omega)).mp c56
        obtain rfl : 11 = j := by omega
        refine lv_iinc (k := 2) (v := nI (i + 1)) (lv' := [(3, .int (nI (i + 1))), (0, .ref ma), (1, .long (mxl (hftF nP τ i) (dgH nP τ (mxl (totF nH nP τ) 577 10) i) 11)), (4, .int (nI 11))]) hx hb dX5_digest_80 hl rfl (nI_add i 1) (by decide) rfl (fun ls hl => ?_)
        refine lv_goto (tgt := 38) hx hb dX5_digest_83 (by decide) ?_
        exact ihi (by omega) _ _ _ ⟨hW, hS, lv_sub hl [1, 2, 0] rfl⟩
      · skip
        replace c56 : ¬ (11 ≤ j) := fun q => c56 ((nI_leI (a := 11) (b := j) (by omega) (by omega)).mpr q)
        refine lv_lload_n hx hb dX5_digest_59 rfl (lv_at hl 1 rfl) ?_
        refine lv_ldc2 (v := 31) hx hb hown k119 dX5_digest_60 ?_
        refine lv_lmul hx hb dX5_digest_63 ?_
        refine lv_aload_n hx hb dX5_digest_64 rfl (lv_at hl 0 rfl) ?_
        refine lv_iload_n hx hb dX5_digest_65 rfl (lv_at hl 2 rfl) ?_
        refine lv_iload hx hb dX5_digest_66 (lv_at hl 3 rfl) ?_
        refine kI (va_runV (As := [.int (nI i), .int (nI j)]) (rest := [.long ((mxl (hftF nP τ i) (dgH nP τ (mxl (totF nH nP τ) 577 10) i) j) * 31)]) ⟨hx, hb, hml, hown, hts⟩ (c_X5_houseTold l G ma ad ad2 hI nH nP hH hP δ τ σ2 0 H.size i j pa hv (by omega) (by omega)) (cwV 2 hts gX5_digest_X5_houseTold rfl rfl rfl (by decide +kernel) ⟨Nat.le_of_ble_eq_true rfl, Nat.le_of_ble_eq_true rfl⟩) ⟨PcP.blind, va_recv hK (va_P1 (hW.1)) (ci := 5) (q0 := 0) rfl rfl, PcP.pre hW hK hN hX hS (fun _ h9 => h9.elim)⟩ rfl rfl hl.1 rfl (lv_room (Nat.le_of_ble_eq_true rfl)) dX5_digest_68 ⟨Nat.le_of_ble_eq_true rfl, Nat.le_of_ble_eq_true rfl⟩) hS (fun q _ h => h.elim) (fun q h => h.elim) (fun H locs hB _ hk hS => ?_)
        have hW := hW.kept (fun q hq => hk q hq (fun h => h))
        refine lv_i2l hx hb dX5_digest_71 rfl ?_
        refine lv_ladd hx hb dX5_digest_72 ?_
        refine lv_lstore_n (lv' := [(1, .long (((mxl (hftF nP τ i) (dgH nP τ (mxl (totF nH nP τ) 577 10) i) j) * 31) + (Int32.toInt64 (hftF nP τ i j)))), (0, .ref ma), (3, .int (nI i)), (4, .int (nI j))]) hx hb dX5_digest_73 rfl hl (by decide) rfl (fun ls hl => ?_)
        refine lv_iinc (k := 3) (v := nI (j + 1)) (lv' := [(4, .int (nI (j + 1))), (1, .long (((mxl (hftF nP τ i) (dgH nP τ (mxl (totF nH nP τ) 577 10) i) j) * 31) + (Int32.toInt64 (hftF nP τ i j)))), (0, .ref ma), (3, .int (nI i))]) hx hb dX5_digest_74 hl rfl (nI_add j 1) (by decide) rfl (fun ls hl => ?_)
        refine lv_goto (tgt := 52) hx hb dX5_digest_77 (by decide) ?_
        exact ihj (by omega) _ _ _ ⟨hW, hS, lv_sub hl [2, 1, 3, 0] rfl⟩
  · skip
    replace c14 : ¬ (10 ≤ i) := fun q => c14 ((nI_leI (a := 10) (b := i) (by omega) (by omega)).mpr q)
    refine lv_lload_n hx hb dX5_digest_17 rfl (lv_at hl 1 rfl) ?_
    refine lv_ldc2 (v := 31) hx hb hown k119 dX5_digest_18 ?_
    refine lv_lmul hx hb dX5_digest_21 ?_
    refine lv_aload_n hx hb dX5_digest_22 rfl (lv_at hl 0 rfl) ?_
    refine lv_iload_n hx hb dX5_digest_23 rfl (lv_at hl 2 rfl) ?_
    refine kI (va_runV (As := [.int (nI i)]) (rest := [.long ((mxl (totF nH nP τ) 577 i) * 31)]) ⟨hx, hb, hml, hown, hts⟩ (c_X5_counted l G ma ad ad2 hI nH nP hH hP δ τ σ2 0 H.size i hv (by omega)) (cwV 1 hts gX5_digest_X5_counted rfl rfl rfl (by decide +kernel) ⟨Nat.le_of_ble_eq_true rfl, Nat.le_of_ble_eq_true rfl⟩) ⟨PcM.blind, va_recv hK (va_P1 (hW.1)) (ci := 5) (q0 := 0) rfl rfl, PcM.pre hW hK hN⟩ rfl rfl hl.1 rfl (lv_room (Nat.le_of_ble_eq_true rfl)) dX5_digest_24 ⟨by show 0 + i * 1 + 1 ≤ 10; omega, by show 0 + i * 10 + 10 ≤ 100; omega⟩) hS (fun q _ h => AM_sub hS h) (fun q h => AM_sub hS h) (fun H locs hB _ hk hS => ?_)
    have hW := hB
    refine lv_i2l hx hb dX5_digest_27 rfl ?_
    refine lv_ladd hx hb dX5_digest_28 ?_
    refine lv_lstore_n (lv' := [(1, .long (((mxl (totF nH nP τ) 577 i) * 31) + (Int32.toInt64 (totF nH nP τ i)))), (0, .ref ma), (3, .int (nI i))]) hx hb dX5_digest_29 rfl hl (by decide) rfl (fun ls hl => ?_)
    refine lv_iinc (k := 2) (v := nI (i + 1)) (lv' := [(3, .int (nI (i + 1))), (1, .long (((mxl (totF nH nP τ) 577 i) * 31) + (Int32.toInt64 (totF nH nP τ i)))), (0, .ref ma)]) hx hb dX5_digest_30 hl rfl (nI_add i 1) (by decide) rfl (fun ls hl => ?_)
    refine lv_goto (tgt := 11) hx hb dX5_digest_33 (by decide) ?_
    refine W.widen (k := 0 + (i + 1) * 1) (n := 0 + (i + 1) * 10) (by omega) (by omega) ?_
    exact ihi (by omega) _ _ _ ⟨hW, hS, lv_sub hl [2, 1, 0] rfl⟩
