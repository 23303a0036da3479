set_option maxHeartbeats 4000000 in
set_option maxRecDepth 100000 in
theorem c_X5_addPump (l : Launch) (G : wG) (ma : Nat) (ad ad2 : Nat → Nat) (hI : MI ma ad ad2) (nH nP : Nat) (hH : nH ≤ 10) (hP : nP ≤ 3) (δ τ z : wS) (t : Int32) (nz : Nat) (x y : Int32) (hv : Inv nH nP τ) : Met l yX5_addPump wsX5_addPump ({ frames := 1, cells := 0, slots := 0, locals := 22 } : Room) (PcM G [.ref ma, .int x, .int y] nz (MWz G ma ad ad2 t (wmx nH nP δ τ) z)) (Qmi (fun u => (u = 0 ∧ inn 0 200 x ∧ inn 0 50 y ∧ nP < 3) ∨ (u = 1 ∧ ¬ (inn 0 200 x ∧ inn 0 50 y)) ∨ (u = 2 ∧ inn 0 200 x ∧ inn 0 50 y ∧ ¬ (nP < 3))) (nI nP) (fun u => MWz G ma ad ad2 (nI u) (wmx nH (sel u (nP + 1) nP) δ (sel u (wst (wst (wst (wst (addW nP δ τ) 20 nP x) 21 nP y) 25 nP (-1)) 52 0 (nI (nP + 1))) τ)) (sel u (z) z)) (AM ma ad ad2 nz)) 0 0 (AM ma ad ad2 nz) := by
  refine Met.ofW (cc := cX5_addPump) (maxL := 3) (ret := (some .int)) (by decide) rfl ?_
  intro pg ev s mid args below meth cd s₁ B hml hv0
  obtain ⟨rfl, rfl, hW, hK, hN⟩ := hv0
  have hx := B.exec
  have hb := B.bytes
  have hr := B.returns
  have hts := atoms_spec (ws := wsX5_addPump) B.pre
  have hown : s.vm.findClass RX5 = some mid.cls := findClass_of_methodNamed B.named
  have hlocks := B.notSynchronized
  have hi4 : ∀ w ∈ wsX40, w ∈ wsX5_addPump := by decide +kernel
  have hi5 : ∀ w ∈ wsX50, w ∈ wsX5_addPump := by decide +kernel
  have k19 := hts (.fieldLink RX5 19 "PumpRosterModel" "thrown" "I") (by decide +kernel)
  have k10 := hts (.fieldLink RX5 10 "PumpRosterModel" "s" "LPumpRosterModel$State;") (by decide +kernel)
  have hS : va_S (AM ma ad ad2 s.heap.size) s.heap s.heap [] := va_S.rf
  have hl := lv_entry ([.ref ma, .int x, .int y]) (n := 3) (Nat.le_of_ble_eq_true rfl)
  rw [lg_entry_eq]
  generalize (lg_sl ([.ref ma, .int x, .int y]) ++ List.replicate (3 - (lg_sl ([.ref ma, .int x, .int y])).length) Slot.unset).toArray = ls at hl ⊢
  have hl : lv_has ls 3 [(0, .ref ma), (1, .int x), (2, .int y)] := hl
  obtain ⟨σ2, hW, hz⟩ := hW
  refine lv_aload_n hx hb dX5_addPump_0 rfl (lv_at hl 0 rfl) ?_
  refine lv_iconst (v := 0) hx hb dX5_addPump_1 (by decide) ?_
  refine wMt hx hb hts hi5 hown hK hI hW hS (Or.inr (Or.inr (Or.inl rfl))) k19 dX5_addPump_2 (fun H locs hW hS => ?_)
  refine lv_iload_n hx hb dX5_addPump_5 rfl (lv_at hl 1 rfl) ?_
  refine lv_iconst (v := 0) hx hb dX5_addPump_6 (by decide) ?_
  refine lv_sipush (v := 200) hx hb dX5_addPump_7 (by decide) ?_
  refine kI (va_runS (As := [.int x, .int 0, .int 200]) (rest := []) ⟨hx, hb, hml, hown, hts⟩ (c_X5_isIn l G x 0 200) (va_cwS 3 hts gX5_addPump_X5_isIn rfl rfl rfl (by decide +kernel) ⟨Nat.le_of_ble_eq_true rfl, Nat.le_of_ble_eq_true rfl⟩) ⟨Pc0.blind, Pc0.pre trivial hK⟩ rfl rfl hl.1 rfl (lv_room (Nat.le_of_ble_eq_true rfl)) dX5_addPump_10 ⟨Nat.le_of_ble_eq_true rfl, Nat.le_of_ble_eq_true rfl⟩) hS (fun q _ h => h.elim) (fun q h => h.elim) (fun H locs hB _ hk hS => ?_)
  have hW := hW.kept (fun q hq => hk q hq (fun h => h))
  refine lv_if_eq (tgt := 26) hx hb dX5_addPump_13 (by decide) (fun c13 => ?_) (fun c13 => ?_)
  · skip
    replace c13 := b0 c13
    refine lv_aload_n hx hb dX5_addPump_26 rfl (lv_at hl 0 rfl) ?_
    refine lv_iconst (v := 1) hx hb dX5_addPump_27 (by decide) ?_
    refine kI (va_runV (As := [.int 1]) (rest := []) ⟨hx, hb, hml, hown, hts⟩ (c_X5_no l G ma ad ad2 hI nH nP hH hP δ τ σ2 0 H.size 1) (cwV 1 hts gX5_addPump_X5_no rfl rfl rfl (by decide +kernel) ⟨Nat.le_of_ble_eq_true rfl, Nat.le_of_ble_eq_true rfl⟩) ⟨PcM.blind, va_recv hK (va_P1 (hW.1)) (ci := 5) (q0 := 0) rfl rfl, PcM.pre hW hK hN⟩ rfl rfl hl.1 rfl (lv_room (Nat.le_of_ble_eq_true rfl)) dX5_addPump_28 ⟨Nat.le_of_ble_eq_true rfl, Nat.le_of_ble_eq_true rfl⟩) hS (fun q _ h => AM_sub hS h) (fun q h => AM_sub hS h) (fun H locs hB _ hk hS => ?_)
    have hW := hB
    exact zI 1 hx hb hr hlocks (Or.inr (Or.inl ⟨rfl, fun q => c13 q.1⟩)) (⟨_, hW, hz⟩) hS (fun q => absurd q (by decide)) dX5_addPump_31
  · skip
    replace c13 := b1 c13
    have o1 := c13
    refine lv_iload_n hx hb dX5_addPump_16 rfl (lv_at hl 2 rfl) ?_
    refine lv_iconst (v := 0) hx hb dX5_addPump_17 (by decide) ?_
    refine lv_bipush (v := 50) hx hb dX5_addPump_18 (by decide) ?_
    refine kI (va_runS (As := [.int y, .int 0, .int 50]) (rest := []) ⟨hx, hb, hml, hown, hts⟩ (c_X5_isIn l G y 0 50) (va_cwS 3 hts gX5_addPump_X5_isIn rfl rfl rfl (by decide +kernel) ⟨Nat.le_of_ble_eq_true rfl, Nat.le_of_ble_eq_true rfl⟩) ⟨Pc0.blind, Pc0.pre trivial hK⟩ rfl rfl hl.1 rfl (lv_room (Nat.le_of_ble_eq_true rfl)) dX5_addPump_20 ⟨Nat.le_of_ble_eq_true rfl, Nat.le_of_ble_eq_true rfl⟩) hS (fun q _ h => h.elim) (fun q h => h.elim) (fun H locs hB _ hk hS => ?_)
    have hW := hW.kept (fun q hq => hk q hq (fun h => h))
    refine lv_if_ne (tgt := 32) hx hb dX5_addPump_23 (by decide) (fun c23 => ?_) (fun c23 => ?_)
    · skip
      replace c23 := b1 c23
      have o2 := c23
      refine lv_aload_n hx hb dX5_addPump_32 rfl (lv_at hl 0 rfl) ?_
      refine rM0 hx hb hts hi5 hown hK hW k10 dX5_addPump_33 ?_
      refine rSiN 3 (f := 52) (v := nI nP) hx hb hts hi4 hown hK hW.2.1 (by decide) rfl hv.2.2.2.1 (va_Nw.use rfl hN.2.2.2.1) dX5_addPump_36 ?_
      refine lv_iconst (v := 3) hx hb dX5_addPump_39 (by decide) ?_
      refine lv_icmp_ne (tgt := 49) hx hb dX5_addPump_40 (by decide) (fun c40 => ?_) (fun c40 => ?_)
      · skip
        replace c40 : ¬ (nP = 3) := fun q => c40 ((nI_eq (a := nP) (b := 3) (by omega) (by omega)).mpr q)
        have o3 : nP < 3 := by omega
        have hW : MW G ma ad ad2 0 (wmx nH (nP + 1) δ (addW nP δ τ)) σ2 H := by rw [wmx_addW o3]; exact hW
        have e52 : addW nP δ τ 52 0 = nI nP := by unfold addW; rw [if_neg (by omega)]; exact hv.2.2.2.1
        have hP : nP + 1 ≤ 3 := by omega
        refine lv_aload_n hx hb dX5_addPump_49 rfl (lv_at hl 0 rfl) ?_
        refine rM0 hx hb hts hi5 hown hK hW k10 dX5_addPump_50 ?_
        refine rSfN 4 (j := 2) hx hb hts hi4 hown hK hW.2.1 (by decide) rfl (va_Nw.use rfl hN.2.2.2.2.1) dX5_addPump_53 ?_
        refine lv_bipush (v := 11) hx hb dX5_addPump_56 (by decide) ?_
        refine lv_aload_n hx hb dX5_addPump_58 rfl (lv_at hl 0 rfl) ?_
        refine rM0 hx hb hts hi5 hown hK hW k10 dX5_addPump_59 ?_
        refine rSiN 3 (f := 52) (v := nI nP) hx hb hts hi4 hown hK hW.2.1 (by decide) rfl e52 (va_Nw.use rfl hN.2.2.2.1) dX5_addPump_62 ?_
        refine lv_imul hx hb dX5_addPump_65 ?_
        refine lv_topi (fun y1 ey1 => ?_)
        obtain rfl : y1 = nI (11 * nP) := ey1.trans (pk_mul 11 nP)
        refine lv_iload_n hx hb dX5_addPump_66 rfl (lv_at hl 1 rfl) ?_
        refine wSp (h := nP) (f := 0) (g := 20) hx hb hK hI.1 hW.2.1 hS (fun _ q => Or.inl q) (by omega) (by omega) (by omega) (by omega) hP dX5_addPump_67 (fun H locs hV hk hS => ?_)
        have hW := hW.main hI hV hk
        refine lv_aload_n hx hb dX5_addPump_68 rfl (lv_at hl 0 rfl) ?_
        refine rM0 hx hb hts hi5 hown hK hW k10 dX5_addPump_69 ?_
        refine rSfN 4 (j := 2) hx hb hts hi4 hown hK hW.2.1 (by decide) rfl (va_Nw.use rfl hN.2.2.2.2.1) dX5_addPump_72 ?_
        refine lv_bipush (v := 11) hx hb dX5_addPump_75 (by decide) ?_
        refine lv_aload_n hx hb dX5_addPump_77 rfl (lv_at hl 0 rfl) ?_
        refine rM0 hx hb hts hi5 hown hK hW k10 dX5_addPump_78 ?_
        refine rSiN 3 (f := 52) (v := nI nP) hx hb hts hi4 hown hK hW.2.1 (by decide) rfl ((wst_f (by decide)).trans e52) (va_Nw.use rfl hN.2.2.2.1) dX5_addPump_81 ?_
        refine lv_imul hx hb dX5_addPump_84 ?_
        refine lv_topi (fun y2 ey2 => ?_)
        obtain rfl : y2 = nI (11 * nP) := ey2.trans (pk_mul 11 nP)
        refine lv_iconst (v := 1) hx hb dX5_addPump_85 (by decide) ?_
        refine lv_iadd hx hb dX5_addPump_86 ?_
        refine lv_topi (fun y3 ey3 => ?_)
        obtain rfl : y3 = nI (11 * nP + 1) := ey3.trans (nI_add (11 * nP) 1)
        refine lv_iload_n hx hb dX5_addPump_87 rfl (lv_at hl 2 rfl) ?_
        refine wSp (h := nP) (f := 1) (g := 21) hx hb hK hI.1 hW.2.1 hS (fun _ q => Or.inl q) (by omega) (by omega) (by omega) (by omega) hP dX5_addPump_88 (fun H locs hV hk hS => ?_)
        have hW := hW.main hI hV hk
        refine lv_aload_n hx hb dX5_addPump_89 rfl (lv_at hl 0 rfl) ?_
        refine rM0 hx hb hts hi5 hown hK hW k10 dX5_addPump_90 ?_
        refine rSfN 4 (j := 2) hx hb hts hi4 hown hK hW.2.1 (by decide) rfl (va_Nw.use rfl hN.2.2.2.2.1) dX5_addPump_93 ?_
        refine lv_bipush (v := 11) hx hb dX5_addPump_96 (by decide) ?_
        refine lv_aload_n hx hb dX5_addPump_98 rfl (lv_at hl 0 rfl) ?_
        refine rM0 hx hb hts hi5 hown hK hW k10 dX5_addPump_99 ?_
        refine rSiN 3 (f := 52) (v := nI nP) hx hb hts hi4 hown hK hW.2.1 (by decide) rfl (((wst_f (by decide)).trans (wst_f (by decide))).trans e52) (va_Nw.use rfl hN.2.2.2.1) dX5_addPump_102 ?_
        refine lv_imul hx hb dX5_addPump_105 ?_
        refine lv_topi (fun y4 ey4 => ?_)
        obtain rfl : y4 = nI (11 * nP) := ey4.trans (pk_mul 11 nP)
        refine lv_iconst (v := 5) hx hb dX5_addPump_106 (by decide) ?_
        refine lv_iadd hx hb dX5_addPump_107 ?_
        refine lv_topi (fun y5 ey5 => ?_)
        obtain rfl : y5 = nI (11 * nP + 5) := ey5.trans (nI_add (11 * nP) 5)
        refine lv_iconst (v := (-1)) hx hb dX5_addPump_108 (by decide) ?_
        refine wSp (h := nP) (f := 5) (g := 25) hx hb hK hI.1 hW.2.1 hS (fun _ q => Or.inl q) (by omega) (by omega) (by omega) (by omega) hP dX5_addPump_109 (fun H locs hV hk hS => ?_)
        have hW := hW.main hI hV hk
        refine lv_aload_n hx hb dX5_addPump_110 rfl (lv_at hl 0 rfl) ?_
        refine rM0 hx hb hts hi5 hown hK hW k10 dX5_addPump_111 ?_
        refine lv_dup hx hb dX5_addPump_114 rfl ?_
        refine rSiN 3 (f := 52) (v := nI nP) hx hb hts hi4 hown hK hW.2.1 (by decide) rfl (((wst_f (by decide)).trans ((wst_f (by decide)).trans (wst_f (by decide)))).trans e52) (va_Nw.use rfl hN.2.2.2.1) dX5_addPump_115 ?_
        refine lv_iconst (v := 1) hx hb dX5_addPump_118 (by decide) ?_
        refine lv_iadd hx hb dX5_addPump_119 ?_
        refine lv_topi (fun y6 ey6 => ?_)
        obtain rfl : y6 = nI (nP + 1) := ey6.trans (nI_add nP 1)
        refine wSiN 3 (f := 52) hx hb hts hi4 hown hK hI.1 hW.2.1 hS (fun _ q => Or.inl q) (by decide) rfl (va_Nw.use rfl hN.2.2.2.1) dX5_addPump_120 (fun H locs hV hk hS => ?_)
        have hW := hW.main hI hV hk
        refine lv_aload_n hx hb dX5_addPump_123 rfl (lv_at hl 0 rfl) ?_
        refine rM0 hx hb hts hi5 hown hK hW k10 dX5_addPump_124 ?_
        refine rSiN 3 (f := 52) (v := nI (nP + 1)) hx hb hts hi4 hown hK hW.2.1 (by decide) rfl wst_s (va_Nw.use rfl hN.2.2.2.1) dX5_addPump_127 ?_
        refine lv_iconst (v := 1) hx hb dX5_addPump_130 (by decide) ?_
        refine lv_isub hx hb dX5_addPump_131 ?_
        refine lv_topi (fun y7 ey7 => ?_)
        obtain rfl : y7 = nI nP := ey7.trans (pk_sub (a := nP + 1) (b := 1) (by omega))
        exact zI 0 hx hb hr hlocks (Or.inl ⟨rfl, o1, o2, o3⟩) (⟨_, hW, hz⟩) hS (fun q => rfl) dX5_addPump_132
      · skip
        replace c40 := (nI_eq (a := nP) (b := 3) (by omega) (by omega)).mp c40
        refine lv_aload_n hx hb dX5_addPump_43 rfl (lv_at hl 0 rfl) ?_
        refine lv_iconst (v := 2) hx hb dX5_addPump_44 (by decide) ?_
        refine kI (va_runV (As := [.int 2]) (rest := []) ⟨hx, hb, hml, hown, hts⟩ (c_X5_no l G ma ad ad2 hI nH nP hH hP δ τ σ2 0 H.size 2) (cwV 1 hts gX5_addPump_X5_no rfl rfl rfl (by decide +kernel) ⟨Nat.le_of_ble_eq_true rfl, Nat.le_of_ble_eq_true rfl⟩) ⟨PcM.blind, va_recv hK (va_P1 (hW.1)) (ci := 5) (q0 := 0) rfl rfl, PcM.pre hW hK hN⟩ rfl rfl hl.1 rfl (lv_room (Nat.le_of_ble_eq_true rfl)) dX5_addPump_45 ⟨Nat.le_of_ble_eq_true rfl, Nat.le_of_ble_eq_true rfl⟩) hS (fun q _ h => AM_sub hS h) (fun q h => AM_sub hS h) (fun H locs hB _ hk hS => ?_)
        have hW := hB
        exact zI 2 hx hb hr hlocks (Or.inr (Or.inr ⟨rfl, o1, o2, (by omega)⟩)) (⟨_, hW, hz⟩) hS (fun q => absurd q (by decide)) dX5_addPump_48
    · skip
      replace c23 := b0 c23
      refine lv_aload_n hx hb dX5_addPump_26 rfl (lv_at hl 0 rfl) ?_
      refine lv_iconst (v := 1) hx hb dX5_addPump_27 (by decide) ?_
      refine kI (va_runV (As := [.int 1]) (rest := []) ⟨hx, hb, hml, hown, hts⟩ (c_X5_no l G ma ad ad2 hI nH nP hH hP δ τ σ2 0 H.size 1) (cwV 1 hts gX5_addPump_X5_no rfl rfl rfl (by decide +kernel) ⟨Nat.le_of_ble_eq_true rfl, Nat.le_of_ble_eq_true rfl⟩) ⟨PcM.blind, va_recv hK (va_P1 (hW.1)) (ci := 5) (q0 := 0) rfl rfl, PcM.pre hW hK hN⟩ rfl rfl hl.1 rfl (lv_room (Nat.le_of_ble_eq_true rfl)) dX5_addPump_28 ⟨Nat.le_of_ble_eq_true rfl, Nat.le_of_ble_eq_true rfl⟩) hS (fun q _ h => AM_sub hS h) (fun q h => AM_sub hS h) (fun H locs hB _ hk hS => ?_)
      have hW := hB
      exact zI 1 hx hb hr hlocks (Or.inr (Or.inl ⟨rfl, fun q => c23 q.2⟩)) (⟨_, hW, hz⟩) hS (fun q => absurd q (by decide)) dX5_addPump_31
