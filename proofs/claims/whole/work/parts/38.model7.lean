set_option maxHeartbeats 4000000 in
set_option maxRecDepth 100000 in
theorem c_X5_daily (l : Launch) (G : wG) (ma : Nat) (ad ad2 : Nat → Nat) (hI : MI ma ad ad2) (nH nP : Nat) (hH : nH ≤ 10) (hP : nP ≤ 3) (δ τ z : wS) (t : Int32) (nz : Nat) (hv : Inv nH nP τ) : Met l yX5_daily wsX5_daily ({ frames := 0, cells := 0, slots := 0, locals := 0 } : Room) (PcM G [.ref ma] nz (MWz G ma ad ad2 t (wmx nH nP δ τ) z)) (Qd0 (dlyF nP τ) (MWz G ma ad ad2 0 (wmx nH nP δ τ) z) (AM ma ad ad2 nz)) 0 0 (AM ma ad ad2 nz) := by
  refine Met.ofW (cc := cX5_daily) (maxL := 3) (ret := (some .double)) (by decide) rfl ?_
  intro pg ev s mid args below meth cd s₁ B hml hv0
  obtain ⟨rfl, rfl, hW, hK, hN⟩ := hv0
  have hx := B.exec
  have hb := B.bytes
  have hr := B.returns
  have hts := atoms_spec (ws := wsX5_daily) B.pre
  have hown : s.vm.findClass RX5 = some mid.cls := findClass_of_methodNamed B.named
  have hlocks := B.notSynchronized
  have hi4 : ∀ w ∈ wsX40, w ∈ wsX5_daily := by decide +kernel
  have hi5 : ∀ w ∈ wsX50, w ∈ wsX5_daily := by decide +kernel
  have k19 := hts (.fieldLink RX5 19 "PumpRosterModel" "thrown" "I") (by decide +kernel)
  have k10 := hts (.fieldLink RX5 10 "PumpRosterModel" "s" "LPumpRosterModel$State;") (by decide +kernel)
  have hS : va_S (AM ma ad ad2 s.heap.size) s.heap s.heap [] := va_S.rf
  have hl := lv_entry ([.ref ma]) (n := 3) (Nat.le_of_ble_eq_true rfl)
  rw [lg_entry_eq]
  generalize (lg_sl ([.ref ma]) ++ List.replicate (3 - (lg_sl ([.ref ma])).length) Slot.unset).toArray = ls at hl ⊢
  have hl : lv_has ls 3 [(0, .ref ma)] := hl
  obtain ⟨σ2, hW, hz⟩ := hW
  refine lv_aload_n hx hb dX5_daily_0 rfl (lv_at hl 0 rfl) ?_
  refine lv_iconst (v := 0) hx hb dX5_daily_1 (by decide) ?_
  refine wMt hx hb hts hi5 hown hK hI hW hS (Or.inr (Or.inr (Or.inl rfl))) k19 dX5_daily_2 (fun H locs hW hS => ?_)
  refine lv_iconst (v := 0) hx hb dX5_daily_5 (by decide) ?_
  refine lv_istore_n (lv' := [(1, .int 0), (0, .ref ma)]) hx hb dX5_daily_6 rfl hl (by decide) rfl (fun ls hl => ?_)
  refine lv_iconst (v := nI 0) hx hb dX5_daily_7 (by decide) ?_
  refine lv_istore_n (lv' := [(2, .int (nI 0)), (1, .int 0), (0, .ref ma)]) hx hb dX5_daily_8 rfl hl (by decide) rfl (fun ls hl => ?_)
  refine W_up nP (fun i H locs ls => (MW G ma ad ad2 0 (wmx nH nP δ τ) σ2) H ∧ va_S (AM ma ad ad2 s.heap.size) s.heap H locs ∧ lv_has ls 3 [(0, .ref ma), (1, .int (sm (fun h => τ 29 h) i)), (2, .int (nI i))]) ?_ 0 (by omega) _ _ _ ⟨hW, hS, lv_sub hl [2, 1, 0] rfl⟩
  intro i H locs ls hii ⟨hW, hS, hl⟩ ihi
  refine lv_iload_n hx hb dX5_daily_9 rfl (lv_at hl 2 rfl) ?_
  refine lv_aload_n hx hb dX5_daily_10 rfl (lv_at hl 0 rfl) ?_
  refine rM0 hx hb hts hi5 hown hK hW k10 dX5_daily_11 ?_
  refine rSiN 3 (f := 52) (v := nI nP) hx hb hts hi4 hown hK hW.2.1 (by decide) rfl hv.2.2.2.1 (va_Nw.use rfl hN.2.2.2.1) dX5_daily_14 ?_
  refine lv_icmp_ge (tgt := 44) hx hb dX5_daily_17 (by decide) (fun c17 => ?_) (fun c17 => ?_)
  · skip
    replace c17 := (nI_leI (a := nP) (b := i) (by omega) (by omega)).mp c17
    obtain rfl : nP = i := by omega
    refine lv_aload_n hx hb dX5_daily_44 rfl (lv_at hl 0 rfl) ?_
    refine rM0 hx hb hts hi5 hown hK hW k10 dX5_daily_45 ?_
    refine rSiN 0 (f := 50) (v := τ 50 0) hx hb hts hi4 hown hK hW.2.1 (by decide) rfl rfl (va_Nw.use rfl hN.1) dX5_daily_48 ?_
    refine lv_if_ne (tgt := 58) hx hb dX5_daily_51 (by decide) (fun c51 => ?_) (fun c51 => ?_)
    · skip
      refine lv_iload_n hx hb dX5_daily_58 rfl (lv_at hl 1 rfl) ?_
      refine lv_i2d hx hb dX5_daily_59 ?_
      refine lv_aload_n hx hb dX5_daily_60 rfl (lv_at hl 0 rfl) ?_
      refine rM0 hx hb hts hi5 hown hK hW k10 dX5_daily_61 ?_
      refine rSiN 0 (f := 50) (v := τ 50 0) hx hb hts hi4 hown hK hW.2.1 (by decide) rfl rfl (va_Nw.use rfl hN.1) dX5_daily_64 ?_
      refine lv_i2d hx hb dX5_daily_67 ?_
      refine lv_ddiv hx hb dX5_daily_68 (div_n64 c51) ?_
      exact xD hx hb hr hlocks (⟨_, hW, hz⟩) hS ((if_neg c51).symm) dX5_daily_69
    · skip
      refine lv_dconst0 hx hb dX5_daily_54 ?_
      refine lv_goto (tgt := 69) hx hb dX5_daily_55 (by decide) ?_
      exact xD hx hb hr hlocks (⟨_, hW, hz⟩) hS ((if_pos (by first | exact c51 | exact Decidable.not_not.mp c51)).symm) dX5_daily_69
  · skip
    replace c17 : ¬ (nP ≤ i) := fun q => c17 ((nI_leI (a := nP) (b := i) (by omega) (by omega)).mpr q)
    refine lv_iload_n hx hb dX5_daily_20 rfl (lv_at hl 1 rfl) ?_
    refine lv_aload_n hx hb dX5_daily_21 rfl (lv_at hl 0 rfl) ?_
    refine rM0 hx hb hts hi5 hown hK hW k10 dX5_daily_22 ?_
    refine rSfN 4 (j := 2) hx hb hts hi4 hown hK hW.2.1 (by decide) rfl (va_Nw.use rfl hN.2.2.2.2.1) dX5_daily_25 ?_
    refine lv_bipush (v := 11) hx hb dX5_daily_28 (by decide) ?_
    refine lv_iload_n hx hb dX5_daily_30 rfl (lv_at hl 2 rfl) ?_
    refine lv_imul hx hb dX5_daily_31 ?_
    refine lv_topi (fun y1 ey1 => ?_)
    obtain rfl : y1 = nI (11 * i) := ey1.trans (pk_mul 11 i)
    refine lv_bipush (v := 9) hx hb dX5_daily_32 (by decide) ?_
    refine lv_iadd hx hb dX5_daily_34 ?_
    refine lv_topi (fun y2 ey2 => ?_)
    obtain rfl : y2 = nI (11 * i + 9) := ey2.trans (nI_add (11 * i) 9)
    refine rSp (h := i) (f := 9) (g := 29) (v := τ 29 i) hx hb hK hW.2.1 (by omega) (by omega) (by omega) (by omega) hP rfl dX5_daily_35 ?_
    refine lv_iadd hx hb dX5_daily_36 ?_
    refine lv_istore_n (lv' := [(1, .int ((sm (fun h => τ 29 h) i) + (τ 29 i))), (0, .ref ma), (2, .int (nI i))]) hx hb dX5_daily_37 rfl hl (by decide) rfl (fun ls hl => ?_)
    refine lv_iinc (k := 2) (v := nI (i + 1)) (lv' := [(2, .int (nI (i + 1))), (1, .int ((sm (fun h => τ 29 h) i) + (τ 29 i))), (0, .ref ma)]) hx hb dX5_daily_38 hl rfl (nI_add i 1) (by decide) rfl (fun ls hl => ?_)
    refine lv_goto (tgt := 9) hx hb dX5_daily_41 (by decide) ?_
    exact ihi (by omega) _ _ _ ⟨hW, hS, lv_sub hl [2, 1, 0] rfl⟩
