theorem plF_le (k : Nat) : plF k ≤ 10 := by
  unfold plF
  split <;> omega

set_option maxHeartbeats 4000000 in
set_option maxRecDepth 100000 in
theorem c_X5_addHouse (l : Launch) (G : wG) (ma : Nat) (ad ad2 : Nat → Nat) (hI : MI ma ad ad2) (nH nP : Nat) (hH : nH ≤ 10) (hP : nP ≤ 3) (δ τ z : wS) (t : Int32) (nz : Nat) (x y w : Int32) (hv : Inv nH nP τ) : Met l yX5_addHouse wsX5_addHouse ({ frames := 1, cells := 1, slots := 4, locals := 24 } : Room) (PcM G [.ref ma, .int x, .int y, .int w] nz (MWz G ma ad ad2 t (wmx nH nP δ τ) z)) (Qmi (fun u => (u = 0 ∧ inn 0 9 x ∧ inn 0 9 y ∧ inn 1 9 w ∧ nH < 10) ∨ (u = 1 ∧ ¬ (inn 0 9 x ∧ inn 0 9 y ∧ inn 1 9 w)) ∨ (u = 2 ∧ inn 0 9 x ∧ inn 0 9 y ∧ inn 1 9 w ∧ ¬ (nH < 10))) (nI nH) (fun u => MWz G ma ad ad2 (nI u) (wmx (sel u (nH + 1) nH) nP δ (sel u (wst (wst (wst (wst (wst (addV nH δ τ) 0 nH x) 1 nH y) 2 nH w) 3 nH 10) 51 0 (nI (nH + 1))) τ)) (sel u (z) z)) (AM ma ad ad2 nz)) 1 4 (AM ma ad ad2 nz) := by
  refine Met.ofW (cc := cX5_addHouse) (maxL := 5) (ret := (some .int)) (by decide) rfl ?_
  intro pg ev s mid args below meth cd s₁ B hml hv0
  obtain ⟨rfl, rfl, hW, hK, hN⟩ := hv0
  have hx := B.exec
  have hb := B.bytes
  have hr := B.returns
  have hts := atoms_spec (ws := wsX5_addHouse) B.pre
  have hown : s.vm.findClass RX5 = some mid.cls := findClass_of_methodNamed B.named
  have hlocks := B.notSynchronized
  have hi4 : ∀ w ∈ wsX40, w ∈ wsX5_addHouse := by decide +kernel
  have hi5 : ∀ w ∈ wsX50, w ∈ wsX5_addHouse := by decide +kernel
  have k19 := hts (.fieldLink RX5 19 "PumpRosterModel" "thrown" "I") (by decide +kernel)
  have k10 := hts (.fieldLink RX5 10 "PumpRosterModel" "s" "LPumpRosterModel$State;") (by decide +kernel)
  have karr := hts (.arrayClass .int) (by decide +kernel)
  have km41 := hts (.methodLink RX5 41 arraycopyName) (by decide +kernel)
  have knat := hts (.native arraycopyName) (by decide +kernel)
  have kstat := hts (.static arraycopyName) (by decide +kernel)
  have ksys := hts (.initialized "java/lang/System") (by decide +kernel)
  have hS : va_S (AM ma ad ad2 s.heap.size) s.heap s.heap [] := va_S.rf
  have hl := lv_entry ([.ref ma, .int x, .int y, .int w]) (n := 5) (Nat.le_of_ble_eq_true rfl)
  rw [lg_entry_eq]
  generalize (lg_sl ([.ref ma, .int x, .int y, .int w]) ++ List.replicate (5 - (lg_sl ([.ref ma, .int x, .int y, .int w])).length) Slot.unset).toArray = ls at hl ⊢
  have hl : lv_has ls 5 [(0, .ref ma), (1, .int x), (2, .int y), (3, .int w)] := hl
  obtain ⟨σ2, hW, hz⟩ := hW
  refine lv_aload_n hx hb dX5_addHouse_0 rfl (lv_at hl 0 rfl) ?_
  refine lv_iconst (v := 0) hx hb dX5_addHouse_1 (by decide) ?_
  refine wMt hx hb hts hi5 hown hK hI hW hS (Or.inr (Or.inr (Or.inl rfl))) k19 dX5_addHouse_2 (fun H locs hW hS => ?_)
  refine lv_iload_n hx hb dX5_addHouse_5 rfl (lv_at hl 1 rfl) ?_
  refine lv_iconst (v := 0) hx hb dX5_addHouse_6 (by decide) ?_
  refine lv_bipush (v := 9) hx hb dX5_addHouse_7 (by decide) ?_
  refine kI (va_runS (As := [.int x, .int 0, .int 9]) (rest := []) ⟨hx, hb, hml, hown, hts⟩ (c_X5_isIn l G x 0 9) (va_cwS 3 hts gX5_addHouse_X5_isIn rfl rfl rfl (by decide +kernel) ⟨Nat.le_of_ble_eq_true rfl, Nat.le_of_ble_eq_true rfl⟩) ⟨Pc0.blind, Pc0.pre trivial hK⟩ rfl rfl hl.1 rfl (lv_room (Nat.le_of_ble_eq_true rfl)) dX5_addHouse_9 ⟨Nat.le_of_ble_eq_true rfl, Nat.le_of_ble_eq_true rfl⟩) hS (fun q _ h => h.elim) (fun q h => h.elim) (fun H locs hB _ hk hS => ?_)
  have hW := hW.kept (fun q hq => hk q hq (fun h => h))
  refine lv_if_eq (tgt := 35) hx hb dX5_addHouse_12 (by decide) (fun c12 => ?_) (fun c12 => ?_)
  · skip
    replace c12 := b0 c12
    refine lv_aload_n hx hb dX5_addHouse_35 rfl (lv_at hl 0 rfl) ?_
    refine lv_iconst (v := 1) hx hb dX5_addHouse_36 (by decide) ?_
    refine kI (va_runV (As := [.int 1]) (rest := []) ⟨hx, hb, hml, hown, hts⟩ (c_X5_no l G ma ad ad2 hI nH nP hH hP δ τ σ2 0 H.size 1) (cwV 1 hts gX5_addHouse_X5_no rfl rfl rfl (by decide +kernel) ⟨Nat.le_of_ble_eq_true rfl, Nat.le_of_ble_eq_true rfl⟩) ⟨PcM.blind, va_recv hK (va_P1 (hW.1)) (ci := 5) (q0 := 0) rfl rfl, PcM.pre hW hK hN⟩ rfl rfl hl.1 rfl (lv_room (Nat.le_of_ble_eq_true rfl)) dX5_addHouse_37 ⟨Nat.le_of_ble_eq_true rfl, Nat.le_of_ble_eq_true rfl⟩) hS (fun q _ h => AM_sub hS h) (fun q h => AM_sub hS h) (fun H locs hB _ hk hS => ?_)
    have hW := hB
    refine W.widen (k := 1) (n := 4) (Nat.le_of_ble_eq_true rfl) (Nat.le_of_ble_eq_true rfl) ?_
    exact zI 1 hx hb hr hlocks (Or.inr (Or.inl ⟨rfl, fun q => c12 q.1⟩)) (⟨_, hW, hz⟩) hS (fun q => absurd q (by decide)) dX5_addHouse_40
  · skip
    replace c12 := b1 c12
    have o1 := c12
    refine lv_iload_n hx hb dX5_addHouse_15 rfl (lv_at hl 2 rfl) ?_
    refine lv_iconst (v := 0) hx hb dX5_addHouse_16 (by decide) ?_
    refine lv_bipush (v := 9) hx hb dX5_addHouse_17 (by decide) ?_
    refine kI (va_runS (As := [.int y, .int 0, .int 9]) (rest := []) ⟨hx, hb, hml, hown, hts⟩ (c_X5_isIn l G y 0 9) (va_cwS 3 hts gX5_addHouse_X5_isIn rfl rfl rfl (by decide +kernel) ⟨Nat.le_of_ble_eq_true rfl, Nat.le_of_ble_eq_true rfl⟩) ⟨Pc0.blind, Pc0.pre trivial hK⟩ rfl rfl hl.1 rfl (lv_room (Nat.le_of_ble_eq_true rfl)) dX5_addHouse_19 ⟨Nat.le_of_ble_eq_true rfl, Nat.le_of_ble_eq_true rfl⟩) hS (fun q _ h => h.elim) (fun q h => h.elim) (fun H locs hB _ hk hS => ?_)
    have hW := hW.kept (fun q hq => hk q hq (fun h => h))
    refine lv_if_eq (tgt := 35) hx hb dX5_addHouse_22 (by decide) (fun c22 => ?_) (fun c22 => ?_)
    · skip
      replace c22 := b0 c22
      refine lv_aload_n hx hb dX5_addHouse_35 rfl (lv_at hl 0 rfl) ?_
      refine lv_iconst (v := 1) hx hb dX5_addHouse_36 (by decide) ?_
      refine kI (va_runV (As := [.int 1]) (rest := []) ⟨hx, hb, hml, hown, hts⟩ (c_X5_no l G ma ad ad2 hI nH nP hH hP δ τ σ2 0 H.size 1) (cwV 1 hts gX5_addHouse_X5_no rfl rfl rfl (by decide +kernel) ⟨Nat.le_of_ble_eq_true rfl, Nat.le_of_ble_eq_true rfl⟩) ⟨PcM.blind, va_recv hK (va_P1 (hW.1)) (ci := 5) (q0 := 0) rfl rfl, PcM.pre hW hK hN⟩ rfl rfl hl.1 rfl (lv_room (Nat.le_of_ble_eq_true rfl)) dX5_addHouse_37 ⟨Nat.le_of_ble_eq_true rfl, Nat.le_of_ble_eq_true rfl⟩) hS (fun q _ h => AM_sub hS h) (fun q h => AM_sub hS h) (fun H locs hB _ hk hS => ?_)
      have hW := hB
      refine W.widen (k := 1) (n := 4) (Nat.le_of_ble_eq_true rfl) (Nat.le_of_ble_eq_true rfl) ?_
      exact zI 1 hx hb hr hlocks (Or.inr (Or.inl ⟨rfl, fun q => c22 q.2.1⟩)) (⟨_, hW, hz⟩) hS (fun q => absurd q (by decide)) dX5_addHouse_40
    · skip
      replace c22 := b1 c22
      have o2 := c22
      refine lv_iload_n hx hb dX5_addHouse_25 rfl (lv_at hl 3 rfl) ?_
      refine lv_iconst (v := 1) hx hb dX5_addHouse_26 (by decide) ?_
      refine lv_bipush (v := 9) hx hb dX5_addHouse_27 (by decide) ?_
      refine kI (va_runS (As := [.int w, .int 1, .int 9]) (rest := []) ⟨hx, hb, hml, hown, hts⟩ (c_X5_isIn l G w 1 9) (va_cwS 3 hts gX5_addHouse_X5_isIn rfl rfl rfl (by decide +kernel) ⟨Nat.le_of_ble_eq_true rfl, Nat.le_of_ble_eq_true rfl⟩) ⟨Pc0.blind, Pc0.pre trivial hK⟩ rfl rfl hl.1 rfl (lv_room (Nat.le_of_ble_eq_true rfl)) dX5_addHouse_29 ⟨Nat.le_of_ble_eq_true rfl, Nat.le_of_ble_eq_true rfl⟩) hS (fun q _ h => h.elim) (fun q h => h.elim) (fun H locs hB _ hk hS => ?_)
      have hW := hW.kept (fun q hq => hk q hq (fun h => h))
      refine lv_if_ne (tgt := 41) hx hb dX5_addHouse_32 (by decide) (fun c32 => ?_) (fun c32 => ?_)
      · skip
        replace c32 := b1 c32
        have o3 := c32
        refine lv_aload_n hx hb dX5_addHouse_41 rfl (lv_at hl 0 rfl) ?_
        refine rM0 hx hb hts hi5 hown hK hW k10 dX5_addHouse_42 ?_
        refine rSiN 1 (f := 51) (v := nI nH) hx hb hts hi4 hown hK hW.2.1 (by decide) rfl hv.2.2.1 (va_Nw.use rfl hN.2.1) dX5_addHouse_45 ?_
        refine lv_bipush (v := 10) hx hb dX5_addHouse_48 (by decide) ?_
        refine lv_icmp_ne (tgt := 59) hx hb dX5_addHouse_50 (by decide) (fun c50 => ?_) (fun c50 => ?_)
        · skip
          replace c50 : ¬ (nH = 10) := fun q => c50 ((nI_eq (a := nH) (b := 10) (by omega) (by omega)).mpr q)
          have o9 : nH < 10 := by omega
          have hW : MW G ma ad ad2 0 (wmx (nH + 1) nP δ (addV nH δ τ)) σ2 H := by rw [wmx_addV]; exact hW
          have e51 : addV nH δ τ 51 0 = nI nH := by unfold addV; rw [if_neg (by omega)]; exact hv.2.2.1
          have hH : nH + 1 ≤ 10 := by omega
          refine lv_iconst (v := 4) hx hb dX5_addHouse_59 (by decide) ?_
          refine nwI 4 hx hb karr hK hS (by decide) (by decide) (by decide) (Nat.le_of_ble_eq_true rfl) (Nat.le_of_ble_eq_true rfl) dX5_addHouse_60 (fun n9 H hn9 h09 hN9 hk9 hS => ?_)
          have hl9 := hW.lt9 hn9
          have hW := hW.kept hk9
          refine lv_dup hx hb dX5_addHouse_62 rfl ?_
          refine lv_iconst (v := 0) hx hb dX5_addHouse_63 (by decide) ?_
          refine lv_iload_n hx hb dX5_addHouse_64 rfl (lv_at hl 1 rfl) ?_
          refine nwSt (L := []) hx hb hK hN9 hS (Or.inr (Or.inr (Or.inr h09))) (show (0 : Int32) = nI 0 by decide) (show 0 < 4 by decide) (by decide) dX5_addHouse_65 (fun H locs hN9 e39 hS => ?_)
          have hW := hW.kept9 hl9 e39
          refine lv_dup hx hb dX5_addHouse_66 rfl ?_
          refine lv_iconst (v := 1) hx hb dX5_addHouse_67 (by decide) ?_
          refine lv_iload_n hx hb dX5_addHouse_68 rfl (lv_at hl 2 rfl) ?_
          refine nwSt (L := [x]) hx hb hK hN9 hS (Or.inr (Or.inr (Or.inr h09))) (show (1 : Int32) = nI 1 by decide) (show 1 < 4 by decide) (by decide) dX5_addHouse_69 (fun H locs hN9 e39 hS => ?_)
          have hW := hW.kept9 hl9 e39
          refine lv_dup hx hb dX5_addHouse_70 rfl ?_
          refine lv_iconst (v := 2) hx hb dX5_addHouse_71 (by decide) ?_
          refine lv_iload_n hx hb dX5_addHouse_72 rfl (lv_at hl 3 rfl) ?_
          refine nwSt (L := [x, y]) hx hb hK hN9 hS (Or.inr (Or.inr (Or.inr h09))) (show (2 : Int32) = nI 2 by decide) (show 2 < 4 by decide) (by decide) dX5_addHouse_73 (fun H locs hN9 e39 hS => ?_)
          have hW := hW.kept9 hl9 e39
          refine lv_dup hx hb dX5_addHouse_74 rfl ?_
          refine lv_iconst (v := 3) hx hb dX5_addHouse_75 (by decide) ?_
          refine lv_bipush (v := 10) hx hb dX5_addHouse_76 (by decide) ?_
          refine nwSt (L := [x, y, w]) hx hb hK hN9 hS (Or.inr (Or.inr (Or.inr h09))) (show (3 : Int32) = nI 3 by decide) (show 3 < 4 by decide) (by decide) dX5_addHouse_78 (fun H locs hN9 e39 hS => ?_)
          have hW := hW.kept9 hl9 e39
          refine lv_astore (lv' := [(4, .ref n9), (0, .ref ma), (1, .int x), (2, .int y), (3, .int w)]) hx hb dX5_addHouse_79 hl (by decide) rfl (fun ls hl => ?_)
          refine lv_aload hx hb dX5_addHouse_81 (lv_at hl 0 rfl) ?_
          refine lv_iconst (v := 0) hx hb dX5_addHouse_83 (by decide) ?_
          refine lv_aload_n hx hb dX5_addHouse_84 rfl (lv_at hl 1 rfl) ?_
          refine rM0 hx hb hts hi5 hown hK hW k10 dX5_addHouse_85 ?_
          refine rSfN 2 (j := 1) hx hb hts hi4 hown hK hW.2.1 (by decide) rfl (va_Nw.use rfl hN.2.2.1) dX5_addHouse_88 ?_
          refine lv_bipush (v := 11) hx hb dX5_addHouse_91 (by decide) ?_
          refine lv_aload_n hx hb dX5_addHouse_93 rfl (lv_at hl 1 rfl) ?_
          refine rM0 hx hb hts hi5 hown hK hW k10 dX5_addHouse_94 ?_
          refine rSiN 1 (f := 51) (v := nI nH) hx hb hts hi4 hown hK hW.2.1 (by decide) rfl e51 (va_Nw.use rfl hN.2.1) dX5_addHouse_97 ?_
          refine lv_imul hx hb dX5_addHouse_100 ?_
          refine lv_topi (fun y1 ey1 => ?_)
          obtain rfl : y1 = nI (11 * nH) := ey1.trans (pk_mul 11 nH)
          refine lv_iconst (v := 4) hx hb dX5_addHouse_101 (by decide) ?_
          refine xq_copyi hx hb (hml.trans hl.1.symm) hown km41 knat kstat ksys hK hN9 hW.2.1.2.1 hS (Or.inl ⟨1, by omega, rfl⟩) 0 0 rfl rfl (by decide) (fun q => by rw [Int32.lt_iff_toInt_lt, nI_toInt (by omega), Int32.toInt_zero] at q; omega) (by decide) (by decide) (by rw [nI_clamp (show 11 * nH < 2 ^ 31 by omega), show (4 : Int32).toNatClampNeg = 4 by decide]; omega) (Nat.le_of_ble_eq_true rfl) (by decide) dX5_addHouse_102 (fun H locs e1 e3 hS => ?_)
          rw [show (0 : Int32).toNatClampNeg = 0 by decide, nI_clamp (show 11 * nH < 2 ^ 31 by omega), show (4 : Int32).toNatClampNeg = 4 by decide] at e1
          have hW := MW.cp4 (x := x) (y := y) (w := w) (u := 10) hI hW e1 e3
          rw [wmx_w (wact_h (by omega) (by omega)), wmx_w (wact_h (by omega) (by omega)), wmx_w (wact_h (by omega) (by omega)), wmx_w (wact_h (by omega) (by omega))] at hW
          refine lv_aload_n hx hb dX5_addHouse_105 rfl (lv_at hl 1 rfl) ?_
          refine rM0 hx hb hts hi5 hown hK hW k10 dX5_addHouse_106 ?_
          refine lv_dup hx hb dX5_addHouse_109 rfl ?_
          refine rSiN 1 (f := 51) (v := nI nH) hx hb hts hi4 hown hK hW.2.1 (by decide) rfl (((wst_f (by decide)).trans ((wst_f (by decide)).trans ((wst_f (by decide)).trans (wst_f (by decide))))).trans e51) (va_Nw.use rfl hN.2.1) dX5_addHouse_110 ?_
          refine lv_iconst (v := 1) hx hb dX5_addHouse_113 (by decide) ?_
          refine lv_iadd hx hb dX5_addHouse_114 ?_
          refine lv_topi (fun y2 ey2 => ?_)
          obtain rfl : y2 = nI (nH + 1) := ey2.trans (nI_add nH 1)
          refine wSiN 1 (f := 51) hx hb hts hi4 hown hK hI.1 hW.2.1 hS (fun _ q => Or.inl q) (by decide) rfl (va_Nw.use rfl hN.2.1) dX5_addHouse_115 (fun H locs hV hk hS => ?_)
          have hW := hW.main hI hV hk
          refine lv_aload_n hx hb dX5_addHouse_118 rfl (lv_at hl 1 rfl) ?_
          refine rM0 hx hb hts hi5 hown hK hW k10 dX5_addHouse_119 ?_
          refine rSiN 1 (f := 51) (v := nI (nH + 1)) hx hb hts hi4 hown hK hW.2.1 (by decide) rfl wst_s (va_Nw.use rfl hN.2.1) dX5_addHouse_122 ?_
          refine lv_iconst (v := 1) hx hb dX5_addHouse_125 (by decide) ?_
          refine lv_isub hx hb dX5_addHouse_126 ?_
          refine lv_topi (fun y3 ey3 => ?_)
          obtain rfl : y3 = nI nH := ey3.trans (pk_sub (a := nH + 1) (b := 1) (by omega))
          refine W.widen (k := 1) (n := 4) (Nat.le_of_ble_eq_true rfl) (Nat.le_of_ble_eq_true rfl) ?_
          exact zI 0 hx hb hr hlocks (Or.inl ⟨rfl, o1, o2, o3, o9⟩) (⟨_, hW, hz⟩) hS (fun q => rfl) dX5_addHouse_127
        · skip
          replace c50 := (nI_eq (a := nH) (b := 10) (by omega) (by omega)).mp c50
          refine lv_aload_n hx hb dX5_addHouse_53 rfl (lv_at hl 0 rfl) ?_
          refine lv_iconst (v := 2) hx hb dX5_addHouse_54 (by decide) ?_
          refine kI (va_runV (As := [.int 2]) (rest := []) ⟨hx, hb, hml, hown, hts⟩ (c_X5_no l G ma ad ad2 hI nH nP hH hP δ τ σ2 0 H.size 2) (cwV 1 hts gX5_addHouse_X5_no rfl rfl rfl (by decide +kernel) ⟨Nat.le_of_ble_eq_true rfl, Nat.le_of_ble_eq_true rfl⟩) ⟨PcM.blind, va_recv hK (va_P1 (hW.1)) (ci := 5) (q0 := 0) rfl rfl, PcM.pre hW hK hN⟩ rfl rfl hl.1 rfl (lv_room (Nat.le_of_ble_eq_true rfl)) dX5_addHouse_55 ⟨Nat.le_of_ble_eq_true rfl, Nat.le_of_ble_eq_true rfl⟩) hS (fun q _ h => AM_sub hS h) (fun q h => AM_sub hS h) (fun H locs hB _ hk hS => ?_)
          have hW := hB
          refine W.widen (k := 1) (n := 4) (Nat.le_of_ble_eq_true rfl) (Nat.le_of_ble_eq_true rfl) ?_
          exact zI 2 hx hb hr hlocks (Or.inr (Or.inr ⟨rfl, o1, o2, o3, (by omega)⟩)) (⟨_, hW, hz⟩) hS (fun q => absurd q (by decide)) dX5_addHouse_58
      · skip
        replace c32 := b0 c32
        refine lv_aload_n hx hb dX5_addHouse_35 rfl (lv_at hl 0 rfl) ?_
        refine lv_iconst (v := 1) hx hb dX5_addHouse_36 (by decide) ?_
        refine kI (va_runV (As := [.int 1]) (rest := []) ⟨hx, hb, hml, hown, hts⟩ (c_X5_no l G ma ad ad2 hI nH nP hH hP δ τ σ2 0 H.size 1) (cwV 1 hts gX5_addHouse_X5_no rfl rfl rfl (by decide +kernel) ⟨Nat.le_of_ble_eq_true rfl, Nat.le_of_ble_eq_true rfl⟩) ⟨PcM.blind, va_recv hK (va_P1 (hW.1)) (ci := 5) (q0 := 0) rfl rfl, PcM.pre hW hK hN⟩ rfl rfl hl.1 rfl (lv_room (Nat.le_of_ble_eq_true rfl)) dX5_addHouse_37 ⟨Nat.le_of_ble_eq_true rfl, Nat.le_of_ble_eq_true rfl⟩) hS (fun q _ h => AM_sub hS h) (fun q h => AM_sub hS h) (fun H locs hB _ hk hS => ?_)
        have hW := hB
        refine W.widen (k := 1) (n := 4) (Nat.le_of_ble_eq_true rfl) (Nat.le_of_ble_eq_true rfl) ?_
        exact zI 1 hx hb hr hlocks (Or.inr (Or.inl ⟨rfl, fun q => c32 q.2.2⟩)) (⟨_, hW, hz⟩) hS (fun q => absurd q (by decide)) dX5_addHouse_40

set_option maxHeartbeats 4000000 in
set_option maxRecDepth 100000 in
theorem c_X5_counted (l : Launch) (G : wG) (ma : Nat) (ad ad2 : Nat → Nat) (hI : MI ma ad ad2) (nH nP : Nat) (hH : nH ≤ 10) (hP : nP ≤ 3) (δ τ σ2 : wS) (t : Int32) (nz : Nat) (k : Nat) (hv : Inv nH nP τ) (hk : k < 10) : Met l yX5_counted wsX5_counted ({ frames := 2, cells := 1, slots := 10, locals := 42 } : Room) (PcM G [.ref ma, .int (nI k)] nz (MW G ma ad ad2 t (wmx nH nP δ τ) σ2)) (Qi0 (totF nH nP τ k) (MW G ma ad ad2 t (wmx nH nP δ τ) σ2) (AM ma ad ad2 nz)) 1 10 (AM ma ad ad2 nz) := by
  refine Met.ofW (cc := cX5_counted) (maxL := 5) (ret := (some .int)) (by decide) rfl ?_
  intro pg ev s mid args below meth cd s₁ B hml hv0
  obtain ⟨rfl, rfl, hW, hK, hN⟩ := hv0
  have hx := B.exec
  have hb := B.bytes
  have hr := B.returns
  have hts := atoms_spec (ws := wsX5_counted) B.pre
  have hown : s.vm.findClass RX5 = some mid.cls := findClass_of_methodNamed B.named
  have hlocks := B.notSynchronized
  have hi4 : ∀ w ∈ wsX40, w ∈ wsX5_counted := by decide +kernel
  have hi5 : ∀ w ∈ wsX50, w ∈ wsX5_counted := by decide +kernel
  have k10 := hts (.fieldLink RX5 10 "PumpRosterModel" "s" "LPumpRosterModel$State;") (by decide +kernel)
  have karr := hts (.arrayClass .int) (by decide +kernel)
  have hS : va_S (AM ma ad ad2 s.heap.size) s.heap s.heap [] := va_S.rf
  have hl := lv_entry ([.ref ma, .int (nI k)]) (n := 5) (Nat.le_of_ble_eq_true rfl)
  rw [lg_entry_eq]
  generalize (lg_sl ([.ref ma, .int (nI k)]) ++ List.replicate (5 - (lg_sl ([.ref ma, .int (nI k)])).length) Slot.unset).toArray = ls at hl ⊢
  have hl : lv_has ls 5 [(0, .ref ma), (1, .int (nI k))] := hl
  refine lv_iconst (v := 0) hx hb dX5_counted_0 (by decide) ?_
  refine lv_istore_n (lv' := [(2, .int 0), (0, .ref ma), (1, .int (nI k))]) hx hb dX5_counted_1 rfl hl (by decide) rfl (fun ls hl => ?_)
  refine lv_iconst (v := 0) hx hb dX5_counted_2 (by decide) ?_
  refine lv_istore_n (lv' := [(3, .int 0), (2, .int 0), (0, .ref ma), (1, .int (nI k))]) hx hb dX5_counted_3 rfl hl (by decide) rfl (fun ls hl => ?_)
  refine lv_iconst (v := nI 0) hx hb dX5_counted_4 (by decide) ?_
  refine lv_istore (lv' := [(4, .int (nI 0)), (3, .int 0), (2, .int 0), (0, .ref ma), (1, .int (nI k))]) hx hb dX5_counted_5 hl (by decide) rfl (fun ls hl => ?_)
  refine W_up nH (fun i H locs ls => (MW G ma ad ad2 t (wmx nH nP δ τ) σ2) H ∧ va_S (AM ma ad ad2 s.heap.size) s.heap H locs ∧ lv_has ls 5 [(0, .ref ma), (1, .int (nI k)), (2, .int (sm (fun h => if τ 6 h = 0 then 0 else 1) i)), (3, .int (sm (fun h => if τ 6 h = 0 then ndF τ h else 0) i)), (4, .int (nI i))]) ?_ 0 (by omega) _ _ _ ⟨hW, hS, lv_sub hl [3, 4, 2, 1, 0] rfl⟩
  intro i H locs ls hii ⟨hW, hS, hl⟩ ihi
  refine lv_iload hx hb dX5_counted_7 (lv_at hl 4 rfl) ?_
  refine lv_aload_n hx hb dX5_counted_9 rfl (lv_at hl 0 rfl) ?_
  refine rM0 hx hb hts hi5 hown hK hW k10 dX5_counted_10 ?_
  refine rSiN 1 (f := 51) (v := nI nH) hx hb hts hi4 hown hK hW.2.1 (by decide) rfl hv.2.2.1 (va_Nw.use rfl hN.2.1) dX5_counted_13 ?_
  refine lv_icmp_ge (tgt := 57) hx hb dX5_counted_16 (by decide) (fun c16 => ?_) (fun c16 => ?_)
  · skip
    replace c16 := (nI_leI (a := nH) (b := i) (by omega) (by omega)).mp c16
    obtain rfl : nH = i := by omega
    refine lv_bipush (v := 10) hx hb dX5_counted_57 (by decide) ?_
    refine nwI 10 hx hb karr hK hS (by decide) (by decide) (by decide) (Nat.le_of_ble_eq_true rfl) (Nat.le_of_ble_eq_true rfl) dX5_counted_59 (fun n9 H hn9 h09 hN9 hk9 hS => ?_)
    have hl9 := hW.lt9 hn9
    have hW := hW.kept hk9
    refine lv_dup hx hb dX5_counted_61 rfl ?_
    refine lv_iconst (v := 0) hx hb dX5_counted_62 (by decide) ?_
    refine lv_aload_n hx hb dX5_counted_63 rfl (lv_at hl 0 rfl) ?_
    refine rM0 hx hb hts hi5 hown hK hW k10 dX5_counted_64 ?_
    refine rSiN 0 (f := 50) (v := τ 50 0) hx hb hts hi4 hown hK hW.2.1 (by decide) rfl rfl (va_Nw.use rfl hN.1) dX5_counted_67 ?_
    refine nwSt (L := []) hx hb hK hN9 hS (Or.inr (Or.inr (Or.inr h09))) (show (0 : Int32) = nI 0 by decide) (show 0 < 10 by decide) (by decide) dX5_counted_70 (fun H locs hN9 e39 hS => ?_)
    have hW := hW.kept9 hl9 e39
    refine lv_dup hx hb dX5_counted_71 rfl ?_
    refine lv_iconst (v := 1) hx hb dX5_counted_72 (by decide) ?_
    refine lv_aload_n hx hb dX5_counted_73 rfl (lv_at hl 0 rfl) ?_
    refine rM0 hx hb hts hi5 hown hK hW k10 dX5_counted_74 ?_
    refine rSiN 1 (f := 51) (v := nI nH) hx hb hts hi4 hown hK hW.2.1 (by decide) rfl hv.2.2.1 (va_Nw.use rfl hN.2.1) dX5_counted_77 ?_
    refine nwSt (L := [τ 50 0]) hx hb hK hN9 hS (Or.inr (Or.inr (Or.inr h09))) (show (1 : Int32) = nI 1 by decide) (show 1 < 10 by decide) (by decide) dX5_counted_80 (fun H locs hN9 e39 hS => ?_)
    have hW := hW.kept9 hl9 e39
    refine lv_dup hx hb dX5_counted_81 rfl ?_
    refine lv_iconst (v := 2) hx hb dX5_counted_82 (by decide) ?_
    refine lv_aload_n hx hb dX5_counted_83 rfl (lv_at hl 0 rfl) ?_
    refine rM0 hx hb hts hi5 hown hK hW k10 dX5_counted_84 ?_
    refine rSiN 3 (f := 52) (v := nI nP) hx hb hts hi4 hown hK hW.2.1 (by decide) rfl hv.2.2.2.1 (va_Nw.use rfl hN.2.2.2.1) dX5_counted_87 ?_
    refine nwSt (L := [τ 50 0, nI nH]) hx hb hK hN9 hS (Or.inr (Or.inr (Or.inr h09))) (show (2 : Int32) = nI 2 by decide) (show 2 < 10 by decide) (by decide) dX5_counted_90 (fun H locs hN9 e39 hS => ?_)
    have hW := hW.kept9 hl9 e39
    refine lv_dup hx hb dX5_counted_91 rfl ?_
    refine lv_iconst (v := 3) hx hb dX5_counted_92 (by decide) ?_
    refine lv_aload_n hx hb dX5_counted_93 rfl (lv_at hl 0 rfl) ?_
    refine rM0 hx hb hts hi5 hown hK hW k10 dX5_counted_94 ?_
    refine rSiN 8 (f := 53) (v := τ 53 0) hx hb hts hi4 hown hK hW.2.1 (by decide) rfl rfl (va_Nw.use rfl hN.2.2.2.2.2.2) dX5_counted_97 ?_
    refine nwSt (L := [τ 50 0, nI nH, nI nP]) hx hb hK hN9 hS (Or.inr (Or.inr (Or.inr h09))) (show (3 : Int32) = nI 3 by decide) (show 3 < 10 by decide) (by decide) dX5_counted_100 (fun H locs hN9 e39 hS => ?_)
    have hW := hW.kept9 hl9 e39
    refine lv_dup hx hb dX5_counted_101 rfl ?_
    refine lv_iconst (v := 4) hx hb dX5_counted_102 (by decide) ?_
    refine lv_aload_n hx hb dX5_counted_103 rfl (lv_at hl 0 rfl) ?_
    refine rM0 hx hb hts hi5 hown hK hW k10 dX5_counted_104 ?_
    refine lv_iconst (v := nI 3) hx hb dX5_counted_107 (by decide) ?_
    refine kI (va_runV (As := [.int (nI 3)]) (rest := [.int 4, .ref n9, .ref n9]) ⟨hx, hb, hml, hown, hts⟩ (c_X4_over l G ad hI.1 nH nP hH hP δ τ 3 hv (by omega)) (cwV 1 hts gX5_counted_X4_over rfl rfl rfl (by decide +kernel) ⟨Nat.le_of_ble_eq_true rfl, Nat.le_of_ble_eq_true rfl⟩) ⟨Pc0.blind, va_recv hK (va_P1 (hW.2.1.1)) (ci := 4) (q0 := 0) rfl rfl, Pc0.pre hW.2.1 hK⟩ rfl rfl hl.1 rfl (lv_room (Nat.le_of_ble_eq_true rfl)) dX5_counted_108 ⟨Nat.le_of_ble_eq_true rfl, Nat.le_of_ble_eq_true rfl⟩) hS (fun q _ h => Or.inl h) (fun q h => Or.inl h) (fun H locs hB _ hk hS => ?_)
    have hW := hW.main hI hB hk
    have hN9 := hN9.kept (hk _ hN9.lt hl9.no1)
    refine nwSt (L := [τ 50 0, nI nH, nI nP, τ 53 0]) hx hb hK hN9 hS (Or.inr (Or.inr (Or.inr h09))) (show (4 : Int32) = nI 4 by decide) (show 4 < 10 by decide) (by decide) dX5_counted_111 (fun H locs hN9 e39 hS => ?_)
    have hW := hW.kept9 hl9 e39
    refine lv_dup hx hb dX5_counted_112 rfl ?_
    refine lv_iconst (v := 5) hx hb dX5_counted_113 (by decide) ?_
    refine lv_iload_n hx hb dX5_counted_114 rfl (lv_at hl 2 rfl) ?_
    refine nwSt (L := [τ 50 0, nI nH, nI nP, τ 53 0, sm (fun j9 => τ 3 j9) nH]) hx hb hK hN9 hS (Or.inr (Or.inr (Or.inr h09))) (show (5 : Int32) = nI 5 by decide) (show 5 < 10 by decide) (by decide) dX5_counted_115 (fun H locs hN9 e39 hS => ?_)
    have hW := hW.kept9 hl9 e39
    refine lv_dup hx hb dX5_counted_116 rfl ?_
    refine lv_bipush (v := 6) hx hb dX5_counted_117 (by decide) ?_
    refine lv_aload_n hx hb dX5_counted_119 rfl (lv_at hl 0 rfl) ?_
    refine rM0 hx hb hts hi5 hown hK hW k10 dX5_counted_120 ?_
    refine lv_iconst (v := nI 4) hx hb dX5_counted_123 (by decide) ?_
    refine kI (va_runV (As := [.int (nI 4)]) (rest := [.int 6, .ref n9, .ref n9]) ⟨hx, hb, hml, hown, hts⟩ (c_X4_over l G ad hI.1 nH nP hH hP δ τ 4 hv (by omega)) (cwV 1 hts gX5_counted_X4_over rfl rfl rfl (by decide +kernel) ⟨Nat.le_of_ble_eq_true rfl, Nat.le_of_ble_eq_true rfl⟩) ⟨Pc0.blind, va_recv hK (va_P1 (hW.2.1.1)) (ci := 4) (q0 := 0) rfl rfl, Pc0.pre hW.2.1 hK⟩ rfl rfl hl.1 rfl (lv_room (Nat.le_of_ble_eq_true rfl)) dX5_counted_124 ⟨Nat.le_of_ble_eq_true rfl, Nat.le_of_ble_eq_true rfl⟩) hS (fun q _ h => Or.inl h) (fun q h => Or.inl h) (fun H locs hB _ hk hS => ?_)
    have hW := hW.main hI hB hk
    have hN9 := hN9.kept (hk _ hN9.lt hl9.no1)
    refine nwSt (L := [τ 50 0, nI nH, nI nP, τ 53 0, sm (fun j9 => τ 3 j9) nH, sm (fun h => if τ 6 h = 0 then 0 else 1) nH]) hx hb hK hN9 hS (Or.inr (Or.inr (Or.inr h09))) (show (6 : Int32) = nI 6 by decide) (show 6 < 10 by decide) (by decide) dX5_counted_127 (fun H locs hN9 e39 hS => ?_)
    have hW := hW.kept9 hl9 e39
    refine lv_dup hx hb dX5_counted_128 rfl ?_
    refine lv_bipush (v := 7) hx hb dX5_counted_129 (by decide) ?_
    refine lv_aload_n hx hb dX5_counted_131 rfl (lv_at hl 0 rfl) ?_
    refine rM0 hx hb hts hi5 hown hK hW k10 dX5_counted_132 ?_
    refine lv_bipush (v := nI 8) hx hb dX5_counted_135 (by decide) ?_
    refine kI (va_runV (As := [.int (nI 8)]) (rest := [.int 7, .ref n9, .ref n9]) ⟨hx, hb, hml, hown, hts⟩ (c_X4_over l G ad hI.1 nH nP hH hP δ τ 8 hv (by omega)) (cwV 1 hts gX5_counted_X4_over rfl rfl rfl (by decide +kernel) ⟨Nat.le_of_ble_eq_true rfl, Nat.le_of_ble_eq_true rfl⟩) ⟨Pc0.blind, va_recv hK (va_P1 (hW.2.1.1)) (ci := 4) (q0 := 0) rfl rfl, Pc0.pre hW.2.1 hK⟩ rfl rfl hl.1 rfl (lv_room (Nat.le_of_ble_eq_true rfl)) dX5_counted_137 ⟨Nat.le_of_ble_eq_true rfl, Nat.le_of_ble_eq_true rfl⟩) hS (fun q _ h => Or.inl h) (fun q h => Or.inl h) (fun H locs hB _ hk hS => ?_)
    have hW := hW.main hI hB hk
    have hN9 := hN9.kept (hk _ hN9.lt hl9.no1)
    refine nwSt (L := [τ 50 0, nI nH, nI nP, τ 53 0, sm (fun j9 => τ 3 j9) nH, sm (fun h => if τ 6 h = 0 then 0 else 1) nH, sm (fun j9 => τ 4 j9) nH]) hx hb hK hN9 hS (Or.inr (Or.inr (Or.inr h09))) (show (7 : Int32) = nI 7 by decide) (show 7 < 10 by decide) (by decide) dX5_counted_140 (fun H locs hN9 e39 hS => ?_)
    have hW := hW.kept9 hl9 e39
    refine lv_dup hx hb dX5_counted_141 rfl ?_
    refine lv_bipush (v := 8) hx hb dX5_counted_142 (by decide) ?_
    refine lv_iload_n hx hb dX5_counted_144 rfl (lv_at hl 3 rfl) ?_
    refine nwSt (L := [τ 50 0, nI nH, nI nP, τ 53 0, sm (fun j9 => τ 3 j9) nH, sm (fun h => if τ 6 h = 0 then 0 else 1) nH, sm (fun j9 => τ 4 j9) nH, sm (fun j9 => τ 8 j9) nH]) hx hb hK hN9 hS (Or.inr (Or.inr (Or.inr h09))) (show (8 : Int32) = nI 8 by decide) (show 8 < 10 by decide) (by decide) dX5_counted_145 (fun H locs hN9 e39 hS => ?_)
    have hW := hW.kept9 hl9 e39
    refine lv_dup hx hb dX5_counted_146 rfl ?_
    refine lv_bipush (v := 9) hx hb dX5_counted_147 (by decide) ?_
    refine lv_aload_n hx hb dX5_counted_149 rfl (lv_at hl 0 rfl) ?_
    refine rM0 hx hb hts hi5 hown hK hW k10 dX5_counted_150 ?_
    refine kI (va_runV (As := []) (rest := [.int 9, .ref n9, .ref n9]) ⟨hx, hb, hml, hown, hts⟩ (c_X4_broken l G ad hI.1 nH nP hH hP δ τ hv) (cwV 0 hts gX5_counted_X4_broken rfl rfl rfl (by decide +kernel) ⟨Nat.le_of_ble_eq_true rfl, Nat.le_of_ble_eq_true rfl⟩) ⟨Pc0.blind, va_recv hK (va_P1 (hW.2.1.1)) (ci := 4) (q0 := 0) rfl rfl, Pc0.pre hW.2.1 hK⟩ rfl rfl hl.1 rfl (lv_room (Nat.le_of_ble_eq_true rfl)) dX5_counted_153 ⟨Nat.le_of_ble_eq_true rfl, Nat.le_of_ble_eq_true rfl⟩) hS (fun q _ h => Or.inl h) (fun q h => Or.inl h) (fun H locs hB _ hk hS => ?_)
    have hW := hW.main hI hB hk
    have hN9 := hN9.kept (hk _ hN9.lt hl9.no1)
    refine nwSt (L := [τ 50 0, nI nH, nI nP, τ 53 0, sm (fun j9 => τ 3 j9) nH, sm (fun h => if τ 6 h = 0 then 0 else 1) nH, sm (fun j9 => τ 4 j9) nH, sm (fun j9 => τ 8 j9) nH, sm (fun h => if τ 6 h = 0 then ndF τ h else 0) nH]) hx hb hK hN9 hS (Or.inr (Or.inr (Or.inr h09))) (show (9 : Int32) = nI 9 by decide) (show 9 < 10 by decide) (by decide) dX5_counted_156 (fun H locs hN9 e39 hS => ?_)
    have hW := hW.kept9 hl9 e39
    refine lv_astore (lv' := [(4, .ref n9), (0, .ref ma), (1, .int (nI k)), (2, .int (sm (fun h => if τ 6 h = 0 then 0 else 1) nH)), (3, .int (sm (fun h => if τ 6 h = 0 then ndF τ h else 0) nH))]) hx hb dX5_counted_157 hl (by decide) rfl (fun ls hl => ?_)
    refine lv_aload hx hb dX5_counted_159 (lv_at hl 0 rfl) ?_
    refine lv_iload_n hx hb dX5_counted_161 rfl (lv_at hl 2 rfl) ?_
    refine nwLd (L := [τ 50 0, nI nH, nI nP, τ 53 0, sm (fun j9 => τ 3 j9) nH, sm (fun h => if τ 6 h = 0 then 0 else 1) nH, sm (fun j9 => τ 4 j9) nH, sm (fun j9 => τ 8 j9) nH, sm (fun h => if τ 6 h = 0 then ndF τ h else 0) nH, sm (fun j9 => if τ 23 j9 = 0 then 0 else 1) nP]) (v := totF nH nP τ k) hx hb hK hN9 (by omega) (by decide) (by rcases (show k = 0 ∨ k = 1 ∨ k = 2 ∨ k = 3 ∨ k = 4 ∨ k = 5 ∨ k = 6 ∨ k = 7 ∨ k = 8 ∨ k = 9 by omega) with rfl | rfl | rfl | rfl | rfl | rfl | rfl | rfl | rfl | rfl <;> first | rfl | exact hv.2.2.1.symm | exact hv.2.2.2.1.symm) dX5_counted_162 ?_
    refine W.widen (k := 1) (n := 10) (Nat.le_of_ble_eq_true rfl) (Nat.le_of_ble_eq_true rfl) ?_
    exact xI hx hb hr hlocks hW hS rfl dX5_counted_163
  · skip
    replace c16 : ¬ (nH ≤ i) := fun q => c16 ((nI_leI (a := nH) (b := i) (by omega) (by omega)).mpr q)
    refine lv_iload_n hx hb dX5_counted_19 rfl (lv_at hl 2 rfl) ?_
    refine lv_aload_n hx hb dX5_counted_20 rfl (lv_at hl 0 rfl) ?_
    refine rM0 hx hb hts hi5 hown hK hW k10 dX5_counted_21 ?_
    refine lv_iload hx hb dX5_counted_24 (lv_at hl 4 rfl) ?_
    refine kI (va_runV (As := [.int (nI i)]) (rest := [.int (sm (fun h => if τ 6 h = 0 then 0 else 1) i)]) ⟨hx, hb, hml, hown, hts⟩ (c_X4_isThere l G ad hI.1 nH nP hH hP δ τ i (by omega)) (cwV 1 hts gX5_counted_X4_isThere rfl rfl rfl (by decide +kernel) ⟨Nat.le_of_ble_eq_true rfl, Nat.le_of_ble_eq_true rfl⟩) ⟨Pc0.blind, va_recv hK (va_P1 (hW.2.1.1)) (ci := 4) (q0 := 0) rfl rfl, Pc0.pre hW.2.1 hK⟩ rfl rfl hl.1 rfl (lv_room (Nat.le_of_ble_eq_true rfl)) dX5_counted_26 ⟨Nat.le_of_ble_eq_true rfl, Nat.le_of_ble_eq_true rfl⟩) hS (fun q _ h => Or.inl h) (fun q h => Or.inl h) (fun H locs hB _ hk hS => ?_)
    have hW := hW.main hI hB hk
    refine lv_if_eq (tgt := 36) hx hb dX5_counted_29 (by decide) (fun c29 => ?_) (fun c29 => ?_)
    · skip
      replace c29 := b0 c29
      refine lv_iconst (v := 1) hx hb dX5_counted_36 (by decide) ?_
      refine lv_topi (fun yy eyy => ?_)
      obtain rfl : yy = if τ 6 i = 0 then 0 else 1 := eyy.trans (if_neg c29).symm
      refine lv_iadd hx hb dX5_counted_37 ?_
      refine lv_istore_n (lv' := [(2, .int ((sm (fun h => if τ 6 h = 0 then 0 else 1) i) + (if τ 6 i = 0 then 0 else 1))), (0, .ref ma), (1, .int (nI k)), (3, .int (sm (fun h => if τ 6 h = 0 then ndF τ h else 0) i)), (4, .int (nI i))]) hx hb dX5_counted_38 rfl hl (by decide) rfl (fun ls hl => ?_)
      refine lv_iload_n hx hb dX5_counted_39 rfl (lv_at hl 3 rfl) ?_
      refine lv_aload_n hx hb dX5_counted_40 rfl (lv_at hl 1 rfl) ?_
      refine rM0 hx hb hts hi5 hown hK hW k10 dX5_counted_41 ?_
      refine lv_iload hx hb dX5_counted_44 (lv_at hl 4 rfl) ?_
      refine kI (va_runV (As := [.int (nI i)]) (rest := [.int (sm (fun h => if τ 6 h = 0 then ndF τ h else 0) i)]) ⟨hx, hb, hml, hown, hts⟩ (c_X4_needs l G ad hI.1 nH nP hH hP δ τ i (by omega)) (cwV 1 hts gX5_counted_X4_needs rfl rfl rfl (by decide +kernel) ⟨Nat.le_of_ble_eq_true rfl, Nat.le_of_ble_eq_true rfl⟩) ⟨Pc0.blind, va_recv hK (va_P1 (hW.2.1.1)) (ci := 4) (q0 := 0) rfl rfl, Pc0.pre hW.2.1 hK⟩ rfl rfl hl.1 rfl (lv_room (Nat.le_of_ble_eq_true rfl)) dX5_counted_46 ⟨Nat.le_of_ble_eq_true rfl, Nat.le_of_ble_eq_true rfl⟩) hS (fun q _ h => Or.inl h) (fun q h => Or.inl h) (fun H locs hB _ hk hS => ?_)
      have hW := hW.main hI hB hk
      refine lv_iadd hx hb dX5_counted_49 ?_
      refine lv_istore_n (lv' := [(3, .int ((sm (fun h => if τ 6 h = 0 then ndF τ h else 0) i) + (if τ 6 i = 0 then ndF τ i else 0))), (2, .int ((sm (fun h => if τ 6 h = 0 then 0 else 1) i) + (if τ 6 i = 0 then 0 else 1))), (0, .ref ma), (1, .int (nI k)), (4, .int (nI i))]) hx hb dX5_counted_50 rfl hl (by decide) rfl (fun ls hl => ?_)
      refine lv_iinc (k := 4) (v := nI (i + 1)) (lv' := [(4, .int (nI (i + 1))), (3, .int ((sm (fun h => if τ 6 h = 0 then ndF τ h else 0) i) + (if τ 6 i = 0 then ndF τ i else 0))), (2, .int ((sm (fun h => if τ 6 h = 0 then 0 else 1) i) + (if τ 6 i = 0 then 0 else 1))), (0, .ref ma), (1, .int (nI k))]) hx hb dX5_counted_51 hl rfl (nI_add i 1) (by decide) rfl (fun ls hl => ?_)
      refine lv_goto (tgt := 7) hx hb dX5_counted_54 (by decide) ?_
      exact ihi (by omega) _ _ _ ⟨hW, hS, lv_sub hl [3, 4, 2, 1, 0] rfl⟩
    · skip
      replace c29 := b1 c29
      refine lv_iconst (v := 0) hx hb dX5_counted_32 (by decide) ?_
      refine lv_goto (tgt := 37) hx hb dX5_counted_33 (by decide) ?_
      refine lv_topi (fun yy eyy => ?_)
      obtain rfl : yy = if τ 6 i = 0 then 0 else 1 := eyy.trans (if_pos c29).symm
      refine lv_iadd hx hb dX5_counted_37 ?_
      refine lv_istore_n (lv' := [(2, .int ((sm (fun h => if τ 6 h = 0 then 0 else 1) i) + (if τ 6 i = 0 then 0 else 1))), (0, .ref ma), (1, .int (nI k)), (3, .int (sm (fun h => if τ 6 h = 0 then ndF τ h else 0) i)), (4, .int (nI i))]) hx hb dX5_counted_38 rfl hl (by decide) rfl (fun ls hl => ?_)
      refine lv_iload_n hx hb dX5_counted_39 rfl (lv_at hl 3 rfl) ?_
      refine lv_aload_n hx hb dX5_counted_40 rfl (lv_at hl 1 rfl) ?_
      refine rM0 hx hb hts hi5 hown hK hW k10 dX5_counted_41 ?_
      refine lv_iload hx hb dX5_counted_44 (lv_at hl 4 rfl) ?_
      refine kI (va_runV (As := [.int (nI i)]) (rest := [.int (sm (fun h => if τ 6 h = 0 then ndF τ h else 0) i)]) ⟨hx, hb, hml, hown, hts⟩ (c_X4_needs l G ad hI.1 nH nP hH hP δ τ i (by omega)) (cwV 1 hts gX5_counted_X4_needs rfl rfl rfl (by decide +kernel) ⟨Nat.le_of_ble_eq_true rfl, Nat.le_of_ble_eq_true rfl⟩) ⟨Pc0.blind, va_recv hK (va_P1 (hW.2.1.1)) (ci := 4) (q0 := 0) rfl rfl, Pc0.pre hW.2.1 hK⟩ rfl rfl hl.1 rfl (lv_room (Nat.le_of_ble_eq_true rfl)) dX5_counted_46 ⟨Nat.le_of_ble_eq_true rfl, Nat.le_of_ble_eq_true rfl⟩) hS (fun q _ h => Or.inl h) (fun q h => Or.inl h) (fun H locs hB _ hk hS => ?_)
      have hW := hW.main hI hB hk
      refine lv_iadd hx hb dX5_counted_49 ?_
      refine lv_istore_n (lv' := [(3, .int ((sm (fun h => if τ 6 h = 0 then ndF τ h else 0) i) + (if τ 6 i = 0 then ndF τ i else 0))), (2, .int ((sm (fun h => if τ 6 h = 0 then 0 else 1) i) + (if τ 6 i = 0 then 0 else 1))), (0, .ref ma), (1, .int (nI k)), (4, .int (nI i))]) hx hb dX5_counted_50 rfl hl (by decide) rfl (fun ls hl => ?_)
      refine lv_iinc (k := 4) (v := nI (i + 1)) (lv' := [(4, .int (nI (i + 1))), (3, .int ((sm (fun h => if τ 6 h = 0 then ndF τ h else 0) i) + (if τ 6 i = 0 then ndF τ i else 0))), (2, .int ((sm (fun h => if τ 6 h = 0 then 0 else 1) i) + (if τ 6 i = 0 then 0 else 1))), (0, .ref ma), (1, .int (nI k))]) hx hb dX5_counted_51 hl rfl (nI_add i 1) (by decide) rfl (fun ls hl => ?_)
      refine lv_goto (tgt := 7) hx hb dX5_counted_54 (by decide) ?_
      exact ihi (by omega) _ _ _ ⟨hW, hS, lv_sub hl [3, 4, 2, 1, 0] rfl⟩

set_option maxHeartbeats 4000000 in
set_option maxRecDepth 100000 in
theorem c_X5_count (l : Launch) (G : wG) (ma : Nat) (ad ad2 : Nat → Nat) (hI : MI ma ad ad2) (nH nP : Nat) (hH : nH ≤ 10) (hP : nP ≤ 3) (δ τ z : wS) (t : Int32) (nz : Nat) (x : Int32) (hv : Inv nH nP τ) : Met l yX5_count wsX5_count ({ frames := 3, cells := 1, slots := 10, locals := 66 } : Room) (PcM G [.ref ma, .int x] nz (MWz G ma ad ad2 t (wmx nH nP δ τ) z)) (Qmi (fun u => (u = 0 ∧ inn 0 9 x) ∨ (u = 1 ∧ ¬ (inn 0 9 x))) (totF nH nP τ (cl x)) (fun u => MWz G ma ad ad2 (nI u) (wmx nH nP δ (sel u (τ) τ)) (sel u (z) z)) (AM ma ad ad2 nz)) 1 10 (AM ma ad ad2 nz) := by
  refine Met.ofW (cc := cX5_count) (maxL := 2) (ret := (some .int)) (by decide) rfl ?_
  intro pg ev s mid args below meth cd s₁ B hml hv0
  obtain ⟨rfl, rfl, hW, hK, hN⟩ := hv0
  have hx := B.exec
  have hb := B.bytes
  have hr := B.returns
  have hts := atoms_spec (ws := wsX5_count) B.pre
  have hown : s.vm.findClass RX5 = some mid.cls := findClass_of_methodNamed B.named
  have hlocks := B.notSynchronized
  have hi5 : ∀ w ∈ wsX50, w ∈ wsX5_count := by decide +kernel
  have k19 := hts (.fieldLink RX5 19 "PumpRosterModel" "thrown" "I") (by decide +kernel)
  have hS : va_S (AM ma ad ad2 s.heap.size) s.heap s.heap [] := va_S.rf
  have hl := lv_entry ([.ref ma, .int x]) (n := 2) (Nat.le_of_ble_eq_true rfl)
  rw [lg_entry_eq]
  generalize (lg_sl ([.ref ma, .int x]) ++ List.replicate (2 - (lg_sl ([.ref ma, .int x])).length) Slot.unset).toArray = ls at hl ⊢
  have hl : lv_has ls 2 [(0, .ref ma), (1, .int x)] := hl
  obtain ⟨σ2, hW, hz⟩ := hW
  refine lv_aload_n hx hb dX5_count_0 rfl (lv_at hl 0 rfl) ?_
  refine lv_iconst (v := 0) hx hb dX5_count_1 (by decide) ?_
  refine wMt hx hb hts hi5 hown hK hI hW hS (Or.inr (Or.inr (Or.inl rfl))) k19 dX5_count_2 (fun H locs hW hS => ?_)
  refine lv_iload_n hx hb dX5_count_5 rfl (lv_at hl 1 rfl) ?_
  refine lv_iconst (v := 0) hx hb dX5_count_6 (by decide) ?_
  refine lv_bipush (v := 9) hx hb dX5_count_7 (by decide) ?_
  refine kI (va_runS (As := [.int x, .int 0, .int 9]) (rest := []) ⟨hx, hb, hml, hown, hts⟩ (c_X5_isIn l G x 0 9) (va_cwS 3 hts gX5_count_X5_isIn rfl rfl rfl (by decide +kernel) ⟨Nat.le_of_ble_eq_true rfl, Nat.le_of_ble_eq_true rfl⟩) ⟨Pc0.blind, Pc0.pre trivial hK⟩ rfl rfl hl.1 rfl (lv_room (Nat.le_of_ble_eq_true rfl)) dX5_count_9 ⟨Nat.le_of_ble_eq_true rfl, Nat.le_of_ble_eq_true rfl⟩) hS (fun q _ h => h.elim) (fun q h => h.elim) (fun H locs hB _ hk hS => ?_)
  have hW := hW.kept (fun q hq => hk q hq (fun h => h))
  refine lv_if_eq (tgt := 23) hx hb dX5_count_12 (by decide) (fun c12 => ?_) (fun c12 => ?_)
  · skip
    replace c12 := b0 c12
    refine lv_aload_n hx hb dX5_count_23 rfl (lv_at hl 0 rfl) ?_
    refine lv_iconst (v := 1) hx hb dX5_count_24 (by decide) ?_
    refine kI (va_runV (As := [.int 1]) (rest := []) ⟨hx, hb, hml, hown, hts⟩ (c_X5_no l G ma ad ad2 hI nH nP hH hP δ τ σ2 0 H.size 1) (cwV 1 hts gX5_count_X5_no rfl rfl rfl (by decide +kernel) ⟨Nat.le_of_ble_eq_true rfl, Nat.le_of_ble_eq_true rfl⟩) ⟨PcM.blind, va_recv hK (va_P1 (hW.1)) (ci := 5) (q0 := 0) rfl rfl, PcM.pre hW hK hN⟩ rfl rfl hl.1 rfl (lv_room (Nat.le_of_ble_eq_true rfl)) dX5_count_25 ⟨Nat.le_of_ble_eq_true rfl, Nat.le_of_ble_eq_true rfl⟩) hS (fun q _ h => AM_sub hS h) (fun q h => AM_sub hS h) (fun H locs hB _ hk hS => ?_)
    have hW := hB
    refine W.widen (k := 1) (n := 10) (Nat.le_of_ble_eq_true rfl) (Nat.le_of_ble_eq_true rfl) ?_
    exact zI 1 hx hb hr hlocks (Or.inr ⟨rfl, c12⟩) (⟨_, hW, hz⟩) hS (fun q => absurd q (by decide)) dX5_count_28
  · skip
    replace c12 := b1 c12
    have o1 : inn 0 9 x := c12
    obtain ⟨k, hlok, hhik, rfl⟩ := inn_nI (lo := 0) (hi := 9) o1 (by omega) (by omega)
    refine lv_aload_n hx hb dX5_count_15 rfl (lv_at hl 0 rfl) ?_
    refine lv_iload_n hx hb dX5_count_16 rfl (lv_at hl 1 rfl) ?_
    refine kI (va_runV (As := [.int (nI k)]) (rest := []) ⟨hx, hb, hml, hown, hts⟩ (c_X5_counted l G ma ad ad2 hI nH nP hH hP δ τ σ2 0 H.size k hv (by omega)) (cwV 1 hts gX5_count_X5_counted rfl rfl rfl (by decide +kernel) ⟨Nat.le_of_ble_eq_true rfl, Nat.le_of_ble_eq_true rfl⟩) ⟨PcM.blind, va_recv hK (va_P1 (hW.1)) (ci := 5) (q0 := 0) rfl rfl, PcM.pre hW hK hN⟩ rfl rfl hl.1 rfl (lv_room (Nat.le_of_ble_eq_true rfl)) dX5_count_17 ⟨Nat.le_of_ble_eq_true rfl, Nat.le_of_ble_eq_true rfl⟩) hS (fun q _ h => AM_sub hS h) (fun q h => AM_sub hS h) (fun H locs hB _ hk hS => ?_)
    have hW := hB
    refine lv_goto (tgt := 28) hx hb dX5_count_20 (by decide) ?_
    refine W.widen (k := 1) (n := 10) (Nat.le_of_ble_eq_true rfl) (Nat.le_of_ble_eq_true rfl) ?_
    exact zI 0 hx hb hr hlocks (Or.inl ⟨rfl, o1⟩) (⟨_, hW, hz⟩) hS (fun q => (by rw [show cl (nI k) = k from nI_clamp (by omega)])) dX5_count_28

set_option maxHeartbeats 4000000 in
set_option maxRecDepth 100000 in
theorem c_X5_houseTold (l : Launch) (G : wG) (ma : Nat) (ad ad2 : Nat → Nat) (hI : MI ma ad ad2) (nH nP : Nat) (hH : nH ≤ 10) (hP : nP ≤ 3) (δ τ σ2 : wS) (t : Int32) (nz : Nat) (h k pa : Nat) (hv : Inv nH nP τ) (hh : h < nH) (hk : k ≤ 10) : Met l yX5_houseTold wsX5_houseTold ({ frames := 0, cells := 0, slots := 0, locals := 0 } : Room) (PcP G [.ref ma, .int (nI h), .int (nI k)] nz pa (fun _ => False) (MW G ma ad ad2 t (wmx nH nP δ τ) σ2)) (Qi0 (hftF nP τ h k) (MW G ma ad ad2 t (wmx nH nP δ τ) σ2) (fun _ => False)) 0 0 (fun _ => False) := by
  refine Met.ofW (cc := cX5_houseTold) (maxL := 6) (ret := (some .int)) (by decide) rfl ?_
  intro pg ev s mid args below meth cd s₁ B hml hv0
  obtain ⟨rfl, rfl, hW, hK, hN, hX⟩ := hv0
  have hx := B.exec
  have hb := B.bytes
  have hr := B.returns
  have hts := atoms_spec (ws := wsX5_houseTold) B.pre
  have hown : s.vm.findClass RX5 = some mid.cls := findClass_of_methodNamed B.named
  have hlocks := B.notSynchronized
  have hi4 : ∀ w ∈ wsX40, w ∈ wsX5_houseTold := by decide +kernel
  have hi5 : ∀ w ∈ wsX50, w ∈ wsX5_houseTold := by decide +kernel
  have k10 := hts (.fieldLink RX5 10 "PumpRosterModel" "s" "LPumpRosterModel$State;") (by decide +kernel)
  have k71 := hts (.fieldLink RX5 71 "PumpRosterModel" "PLACES" "[I") (by decide +kernel)
  have hS : va_S (fun _ => False) s.heap s.heap [] := va_S.rf
  have hl := lv_entry ([.ref ma, .int (nI h), .int (nI k)]) (n := 6) (Nat.le_of_ble_eq_true rfl)
  rw [lg_entry_eq]
  generalize (lg_sl ([.ref ma, .int (nI h), .int (nI k)]) ++ List.replicate (6 - (lg_sl ([.ref ma, .int (nI h), .int (nI k)])).length) Slot.unset).toArray = ls at hl ⊢
  have hl : lv_has ls 6 [(0, .ref ma), (1, .int (nI h)), (2, .int (nI k))] := hl
  refine lv_bipush (v := 11) hx hb dX5_houseTold_0 (by decide) ?_
  refine lv_iload_n hx hb dX5_houseTold_2 rfl (lv_at hl 1 rfl) ?_
  refine lv_imul hx hb dX5_houseTold_3 ?_
  refine lv_topi (fun y1 ey1 => ?_)
  obtain rfl : y1 = nI (11 * h) := ey1.trans (pk_mul 11 h)
  refine lv_istore_n (lv' := [(3, .int (nI (11 * h))), (0, .ref ma), (1, .int (nI h)), (2, .int (nI k))]) hx hb dX5_houseTold_4 rfl hl (by decide) rfl (fun ls hl => ?_)
  refine lv_iconst (v := 0) hx hb dX5_houseTold_5 (by decide) ?_
  refine lv_istore (lv' := [(4, .int 0), (3, .int (nI (11 * h))), (0, .ref ma), (1, .int (nI h)), (2, .int (nI k))]) hx hb dX5_houseTold_6 hl (by decide) rfl (fun ls hl => ?_)
  refine lv_iconst (v := nI 0) hx hb dX5_houseTold_8 (by decide) ?_
  refine lv_istore (lv' := [(5, .int (nI 0)), (4, .int 0), (3, .int (nI (11 * h))), (0, .ref ma), (1, .int (nI h)), (2, .int (nI k))]) hx hb dX5_houseTold_9 hl (by decide) rfl (fun ls hl => ?_)
  refine W_up nP (fun i H locs ls => (MW G ma ad ad2 t (wmx nH nP δ τ) σ2) H ∧ va_S (fun _ => False) s.heap H locs ∧ lv_has ls 6 [(0, .ref ma), (1, .int (nI h)), (2, .int (nI k)), (3, .int (nI (11 * h))), (4, .int (sm (fun p => if τ 25 p = nI h then 1 else 0) i)), (5, .int (nI i))]) ?_ 0 (by omega) _ _ _ ⟨hW, hS, lv_sub hl [3, 4, 5, 2, 1, 0] rfl⟩
  intro i H locs ls hii ⟨hW, hS, hl⟩ ihi
  refine lv_iload hx hb dX5_houseTold_11 (lv_at hl 5 rfl) ?_
  refine lv_aload_n hx hb dX5_houseTold_13 rfl (lv_at hl 0 rfl) ?_
  refine rM0 hx hb hts hi5 hown hK hW k10 dX5_houseTold_14 ?_
  refine rSiN 3 (f := 52) (v := nI nP) hx hb hts hi4 hown hK hW.2.1 (by decide) rfl hv.2.2.2.1 (va_Nw.use rfl hN.2.2.2.1) dX5_houseTold_17 ?_
  refine lv_icmp_ge (tgt := 58) hx hb dX5_houseTold_20 (by decide) (fun c20 => ?_) (fun c20 => ?_)
  · skip
    replace c20 := (nI_leI (a := nP) (b := i) (by omega) (by omega)).mp c20
    obtain rfl : nP = i := by omega
    refine lv_iload_n hx hb dX5_houseTold_58 rfl (lv_at hl 2 rfl) ?_
    refine lv_bipush (v := 10) hx hb dX5_houseTold_59 (by decide) ?_
    refine lv_icmp_ge (tgt := 82) hx hb dX5_houseTold_61 (by decide) (fun c61 => ?_) (fun c61 => ?_)
    · skip
      replace c61 := (nI_leI (a := 10) (b := k) (by omega) (by omega)).mp c61
      obtain rfl : k = 10 := by omega
      refine lv_iload hx hb dX5_houseTold_82 (lv_at hl 4 rfl) ?_
      exact xI hx hb hr hlocks hW hS rfl dX5_houseTold_84
    · skip
      replace c61 : ¬ (10 ≤ k) := fun q => c61 ((nI_leI (a := 10) (b := k) (by omega) (by omega)).mpr q)
      refine lv_aload_n hx hb dX5_houseTold_64 rfl (lv_at hl 0 rfl) ?_
      refine rM0 hx hb hts hi5 hown hK hW k10 dX5_houseTold_65 ?_
      refine rSfN 2 (j := 1) hx hb hts hi4 hown hK hW.2.1 (by decide) rfl (va_Nw.use rfl hN.2.2.1) dX5_houseTold_68 ?_
      refine lv_iload_n hx hb dX5_houseTold_71 rfl (lv_at hl 3 rfl) ?_
      refine va_gets hx hb hX.1 hS hown k71 (fun _ h9 => h9) dX5_houseTold_72 ?_
      refine lv_iload_n hx hb dX5_houseTold_75 rfl (lv_at hl 2 rfl) ?_
      refine va_ti (v := .int (nI (plF k))) hx hb hX.2 hS (vp_in_nI (show k < 10 by omega) (by omega)) (by show Value.int (nI (plF (nI k).toNatClampNeg)) = _; rw [nI_clamp (show k < 2 ^ 31 by omega)]) dX5_houseTold_76 ?_
      have hpl := plF_le k
      refine lv_iadd hx hb dX5_houseTold_77 ?_
      refine lv_topi (fun y2 ey2 => ?_)
      obtain rfl : y2 = nI (11 * h + (plF k)) := ey2.trans (nI_add (11 * h) (plF k))
      refine rSh (h := h) (f := (plF k)) (v := τ (plF k) h) hx hb hK hW.2.1 (by omega) (by omega) (by omega) hH rfl dX5_houseTold_78 ?_
      refine lv_goto (tgt := 84) hx hb dX5_houseTold_79 (by decide) ?_
      exact xI hx hb hr hlocks hW hS (by rcases (show k = 0 ∨ k = 1 ∨ k = 2 ∨ k = 3 ∨ k = 4 ∨ k = 5 ∨ k = 6 ∨ k = 7 ∨ k = 8 ∨ k = 9 by omega) with rfl | rfl | rfl | rfl | rfl | rfl | rfl | rfl | rfl | rfl <;> rfl) dX5_houseTold_84
  · skip
    replace c20 : ¬ (nP ≤ i) := fun q => c20 ((nI_leI (a := nP) (b := i) (by omega) (by omega)).mpr q)
    refine lv_iload hx hb dX5_houseTold_23 (lv_at hl 4 rfl) ?_
    refine lv_aload_n hx hb dX5_houseTold_25 rfl (lv_at hl 0 rfl) ?_
    refine rM0 hx hb hts hi5 hown hK hW k10 dX5_houseTold_26 ?_
    refine rSfN 4 (j := 2) hx hb hts hi4 hown hK hW.2.1 (by decide) rfl (va_Nw.use rfl hN.2.2.2.2.1) dX5_houseTold_29 ?_
    refine lv_bipush (v := 11) hx hb dX5_houseTold_32 (by decide) ?_
    refine lv_iload hx hb dX5_houseTold_34 (lv_at hl 5 rfl) ?_
    refine lv_imul hx hb dX5_houseTold_36 ?_
    refine lv_topi (fun y3 ey3 => ?_)
    obtain rfl : y3 = nI (11 * i) := ey3.trans (pk_mul 11 i)
    refine lv_iconst (v := 5) hx hb dX5_houseTold_37 (by decide) ?_
    refine lv_iadd hx hb dX5_houseTold_38 ?_
    refine lv_topi (fun y4 ey4 => ?_)
    obtain rfl : y4 = nI (11 * i + 5) := ey4.trans (nI_add (11 * i) 5)
    refine rSp (h := i) (f := 5) (g := 25) (v := τ 25 i) hx hb hK hW.2.1 (by omega) (by omega) (by omega) (by omega) hP rfl dX5_houseTold_39 ?_
    refine lv_iload_n hx hb dX5_houseTold_40 rfl (lv_at hl 1 rfl) ?_
    refine lv_icmp_ne (tgt := 48) hx hb dX5_houseTold_41 (by decide) (fun c41 => ?_) (fun c41 => ?_)
    · skip
      refine lv_iconst (v := 0) hx hb dX5_houseTold_48 (by decide) ?_
      refine lv_topi (fun yy eyy => ?_)
      obtain rfl : yy = if τ 25 i = nI h then 1 else 0 := eyy.trans (if_neg c41).symm
      refine lv_iadd hx hb dX5_houseTold_49 ?_
      refine lv_istore (lv' := [(4, .int ((sm (fun p => if τ 25 p = nI h then 1 else 0) i) + (if τ 25 i = nI h then 1 else 0))), (0, .ref ma), (1, .int (nI h)), (2, .int (nI k)), (3, .int (nI (11 * h))), (5, .int (nI i))]) hx hb dX5_houseTold_50 hl (by decide) rfl (fun ls hl => ?_)
      refine lv_iinc (k := 5) (v := nI (i + 1)) (lv' := [(5, .int (nI (i + 1))), (4, .int ((sm (fun p => if τ 25 p = nI h then 1 else 0) i) + (if τ 25 i = nI h then 1 else 0))), (0, .ref ma), (1, .int (nI h)), (2, .int (nI k)), (3, .int (nI (11 * h)))]) hx hb dX5_houseTold_52 hl rfl (nI_add i 1) (by decide) rfl (fun ls hl => ?_)
      refine lv_goto (tgt := 11) hx hb dX5_houseTold_55 (by decide) ?_
      exact ihi (by omega) _ _ _ ⟨hW, hS, lv_sub hl [2, 3, 4, 5, 1, 0] rfl⟩
    · skip
      refine lv_iconst (v := 1) hx hb dX5_houseTold_44 (by decide) ?_
      refine lv_goto (tgt := 49) hx hb dX5_houseTold_45 (by decide) ?_
      refine lv_topi (fun yy eyy => ?_)
      obtain rfl : yy = if τ 25 i = nI h then 1 else 0 := eyy.trans (if_pos c41).symm
      refine lv_iadd hx hb dX5_houseTold_49 ?_
      refine lv_istore (lv' := [(4, .int ((sm (fun p => if τ 25 p = nI h then 1 else 0) i) + (if τ 25 i = nI h then 1 else 0))), (0, .ref ma), (1, .int (nI h)), (2, .int (nI k)), (3, .int (nI (11 * h))), (5, .int (nI i))]) hx hb dX5_houseTold_50 hl (by decide) rfl (fun ls hl => ?_)
      refine lv_iinc (k := 5) (v := nI (i + 1)) (lv' := [(5, .int (nI (i + 1))), (4, .int ((sm (fun p => if τ 25 p = nI h then 1 else 0) i) + (if τ 25 i = nI h then 1 else 0))), (0, .ref ma), (1, .int (nI h)), (2, .int (nI k)), (3, .int (nI (11 * h)))]) hx hb dX5_houseTold_52 hl rfl (nI_add i 1) (by decide) rfl (fun ls hl => ?_)
      refine lv_goto (tgt := 11) hx hb dX5_houseTold_55 (by decide) ?_
      exact ihi (by omega) _ _ _ ⟨hW, hS, lv_sub hl [2, 3, 4, 5, 1, 0] rfl⟩

set_option maxHeartbeats 4000000 in
set_option maxRecDepth 100000 in
theorem c_X5_house (l : Launch) (G : wG) (ma : Nat) (ad ad2 : Nat → Nat) (hI : MI ma ad ad2) (nH nP : Nat) (hH : nH ≤ 10) (hP : nP ≤ 3) (δ τ z : wS) (t : Int32) (nz : Nat) (x y : Int32) (pa : Nat) (hv : Inv nH nP τ) : Met l yX5_house wsX5_house ({ frames := 2, cells := 0, slots := 0, locals := 43 } : Room) (PcP G [.ref ma, .int x, .int y] nz pa (AM ma ad ad2 nz) (MWz G ma ad ad2 t (wmx nH nP δ τ) z)) (Qmi (fun u => (u = 0 ∧ hOk nH x ∧ inn 0 10 y) ∨ (u = 1 ∧ ¬ (hOk nH x ∧ inn 0 10 y))) (hftF nP τ (cl x) (cl y)) (fun u => MWz G ma ad ad2 (nI u) (wmx nH nP δ (sel u (τ) τ)) (sel u (z) z)) (AM ma ad ad2 nz)) 0 0 (AM ma ad ad2 nz) := by
  refine Met.ofW (cc := cX5_house) (maxL := 3) (ret := (some .int)) (by decide) rfl ?_
  intro pg ev s mid args below meth cd s₁ B hml hv0
  obtain ⟨rfl, rfl, hW, hK, hN, hX⟩ := hv0
  have hx := B.exec
  have hb := B.bytes
  have hr := B.returns
  have hts := atoms_spec (ws := wsX5_house) B.pre
  have hown : s.vm.findClass RX5 = some mid.cls := findClass_of_methodNamed B.named
  have hlocks := B.notSynchronized
  have hi5 : ∀ w ∈ wsX50, w ∈ wsX5_house := by decide +kernel
  have k19 := hts (.fieldLink RX5 19 "PumpRosterModel" "thrown" "I") (by decide +kernel)
  have hS : va_S (AM ma ad ad2 s.heap.size) s.heap s.heap [] := va_S.rf
  have hl := lv_entry ([.ref ma, .int x, .int y]) (n := 3) (Nat.le_of_ble_eq_true rfl)
  rw [lg_entry_eq]
  generalize (lg_sl ([.ref ma, .int x, .int y]) ++ List.replicate (3 - (lg_sl ([.ref ma, .int x, .int y])).length) Slot.unset).toArray = ls at hl ⊢
  have hl : lv_has ls 3 [(0, .ref ma), (1, .int x), (2, .int y)] := hl
  obtain ⟨σ2, hW, hz⟩ := hW
  refine lv_aload_n hx hb dX5_house_0 rfl (lv_at hl 0 rfl) ?_
  refine lv_iconst (v := 0) hx hb dX5_house_1 (by decide) ?_
  refine wMt hx hb hts hi5 hown hK hI hW hS (Or.inr (Or.inr (Or.inl rfl))) k19 dX5_house_2 (fun H locs hW hS => ?_)
  refine lv_aload_n hx hb dX5_house_5 rfl (lv_at hl 0 rfl) ?_
  refine lv_iload_n hx hb dX5_house_6 rfl (lv_at hl 1 rfl) ?_
  refine kI (va_runV (As := [.int x]) (rest := []) ⟨hx, hb, hml, hown, hts⟩ (c_X5_isHouse l G ma ad ad2 hI nH nP hH hP δ τ σ2 0 H.size x hv.2.2.1) (cwV 1 hts gX5_house_X5_isHouse rfl rfl rfl (by decide +kernel) ⟨Nat.le_of_ble_eq_true rfl, Nat.le_of_ble_eq_true rfl⟩) ⟨PcM.blind, va_recv hK (va_P1 (hW.1)) (ci := 5) (q0 := 0) rfl rfl, PcM.pre hW hK hN⟩ rfl rfl hl.1 rfl (lv_room (Nat.le_of_ble_eq_true rfl)) dX5_house_7 ⟨Nat.le_of_ble_eq_true rfl, Nat.le_of_ble_eq_true rfl⟩) hS (fun q _ h => h.elim) (fun q h => h.elim) (fun H locs hB _ hk hS => ?_)
  have hW := hW.kept (fun q hq => hk q hq (fun h => h))
  refine lv_if_eq (tgt := 32) hx hb dX5_house_10 (by decide) (fun c10 => ?_) (fun c10 => ?_)
  · skip
    replace c10 := b0 c10
    refine lv_aload_n hx hb dX5_house_32 rfl (lv_at hl 0 rfl) ?_
    refine lv_iconst (v := 1) hx hb dX5_house_33 (by decide) ?_
    refine kI (va_runV (As := [.int 1]) (rest := []) ⟨hx, hb, hml, hown, hts⟩ (c_X5_no l G ma ad ad2 hI nH nP hH hP δ τ σ2 0 H.size 1) (cwV 1 hts gX5_house_X5_no rfl rfl rfl (by decide +kernel) ⟨Nat.le_of_ble_eq_true rfl, Nat.le_of_ble_eq_true rfl⟩) ⟨PcM.blind, va_recv hK (va_P1 (hW.1)) (ci := 5) (q0 := 0) rfl rfl, PcM.pre hW hK hN⟩ rfl rfl hl.1 rfl (lv_room (Nat.le_of_ble_eq_true rfl)) dX5_house_34 ⟨Nat.le_of_ble_eq_true rfl, Nat.le_of_ble_eq_true rfl⟩) hS (fun q _ h => AM_sub hS h) (fun q h => AM_sub hS h) (fun H locs hB _ hk hS => ?_)
    have hW := hB
    exact zI 1 hx hb hr hlocks (Or.inr ⟨rfl, fun q => c10 q.1⟩) (⟨_, hW, hz⟩) hS (fun q => absurd q (by decide)) dX5_house_37
  · skip
    replace c10 := b1 c10
    have o1 : hOk nH x := c10
    obtain ⟨h, hh, rfl⟩ := hOk_nI o1 hH
    refine lv_iload_n hx hb dX5_house_13 rfl (lv_at hl 2 rfl) ?_
    refine lv_iconst (v := 0) hx hb dX5_house_14 (by decide) ?_
    refine lv_bipush (v := 10) hx hb dX5_house_15 (by decide) ?_
    refine kI (va_runS (As := [.int y, .int 0, .int 10]) (rest := []) ⟨hx, hb, hml, hown, hts⟩ (c_X5_isIn l G y 0 10) (va_cwS 3 hts gX5_house_X5_isIn rfl rfl rfl (by decide +kernel) ⟨Nat.le_of_ble_eq_true rfl, Nat.le_of_ble_eq_true rfl⟩) ⟨Pc0.blind, Pc0.pre trivial hK⟩ rfl rfl hl.1 rfl (lv_room (Nat.le_of_ble_eq_true rfl)) dX5_house_17 ⟨Nat.le_of_ble_eq_true rfl, Nat.le_of_ble_eq_true rfl⟩) hS (fun q _ h => h.elim) (fun q h => h.elim) (fun H locs hB _ hk hS => ?_)
    have hW := hW.kept (fun q hq => hk q hq (fun h => h))
    refine lv_if_eq (tgt := 32) hx hb dX5_house_20 (by decide) (fun c20 => ?_) (fun c20 => ?_)
    · skip
      replace c20 := b0 c20
      refine lv_aload_n hx hb dX5_house_32 rfl (lv_at hl 0 rfl) ?_
      refine lv_iconst (v := 1) hx hb dX5_house_33 (by decide) ?_
      refine kI (va_runV (As := [.int 1]) (rest := []) ⟨hx, hb, hml, hown, hts⟩ (c_X5_no l G ma ad ad2 hI nH nP hH hP δ τ σ2 0 H.size 1) (cwV 1 hts gX5_house_X5_no rfl rfl rfl (by decide +kernel) ⟨Nat.le_of_ble_eq_true rfl, Nat.le_of_ble_eq_true rfl⟩) ⟨PcM.blind, va_recv hK (va_P1 (hW.1)) (ci := 5) (q0 := 0) rfl rfl, PcM.pre hW hK hN⟩ rfl rfl hl.1 rfl (lv_room (Nat.le_of_ble_eq_true rfl)) dX5_house_34 ⟨Nat.le_of_ble_eq_true rfl, Nat.le_of_ble_eq_true rfl⟩) hS (fun q _ h => AM_sub hS h) (fun q h => AM_sub hS h) (fun H locs hB _ hk hS => ?_)
      have hW := hB
      exact zI 1 hx hb hr hlocks (Or.inr ⟨rfl, fun q => c20 q.2⟩) (⟨_, hW, hz⟩) hS (fun q => absurd q (by decide)) dX5_house_37
    · skip
      replace c20 := b1 c20
      have o2 : inn 0 10 y := c20
      obtain ⟨k, hlok, hhik, rfl⟩ := inn_nI (lo := 0) (hi := 10) o2 (by omega) (by omega)
      refine lv_aload_n hx hb dX5_house_23 rfl (lv_at hl 0 rfl) ?_
      refine lv_iload_n hx hb dX5_house_24 rfl (lv_at hl 1 rfl) ?_
      refine lv_iload_n hx hb dX5_house_25 rfl (lv_at hl 2 rfl) ?_
      refine kI (va_runV (As := [.int (nI h), .int (nI k)]) (rest := []) ⟨hx, hb, hml, hown, hts⟩ (c_X5_houseTold l G ma ad ad2 hI nH nP hH hP δ τ σ2 0 H.size h k pa hv (by omega) (by omega)) (cwV 2 hts gX5_house_X5_houseTold rfl rfl rfl (by decide +kernel) ⟨Nat.le_of_ble_eq_true rfl, Nat.le_of_ble_eq_true rfl⟩) ⟨PcP.blind, va_recv hK (va_P1 (hW.1)) (ci := 5) (q0 := 0) rfl rfl, PcP.pre hW hK hN hX hS (fun _ h9 => h9.elim)⟩ rfl rfl hl.1 rfl (lv_room (Nat.le_of_ble_eq_true rfl)) dX5_house_26 ⟨Nat.le_of_ble_eq_true rfl, Nat.le_of_ble_eq_true rfl⟩) hS (fun q _ h => h.elim) (fun q h => h.elim) (fun H locs hB _ hk hS => ?_)
      have hW := hW.kept (fun q hq => hk q hq (fun h => h))
      refine lv_goto (tgt := 37) hx hb dX5_house_29 (by decide) ?_
      exact zI 0 hx hb hr hlocks (Or.inl ⟨rfl, o1, o2⟩) (⟨_, hW, hz⟩) hS (fun q => (by rw [show cl (nI h) = h from nI_clamp (by omega), show cl (nI k) = k from nI_clamp (by omega)])) dX5_house_37
