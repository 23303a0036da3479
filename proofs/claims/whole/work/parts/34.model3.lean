set_option maxHeartbeats 4000000 in
set_option maxRecDepth 100000 in
theorem c_X5_pass (l : Launch) (G : wG) (ad : Nat → Nat) (hI : adInj ad 6) (nH nP : Nat) (hH : nH ≤ 10) (hP : nP ≤ 3) (δ τ : wS) (n : Nat) (hv : Inv nH nP τ) (hn : n < 2 ^ 31) : Met l yX5_pass wsX5_pass ({ frames := 4, cells := 0, slots := 0, locals := 97 } : Room) (Pc0 G [.ref (ad 0), .int (nI n)] (RVm G ad nH nP δ τ)) (Qi0 (dwn nP (dysF nH nP n τ) - dwn nP τ) (RVm G ad nH nP δ (dysF nH nP n τ)) (AV ad 6)) 0 0 (AV ad 6) := by
  refine Met.ofW (cc := cX5_pass) (maxL := 4) (ret := (some .int)) (by decide) rfl ?_
  intro pg ev s mid args below meth cd s₁ B hml hv0
  obtain ⟨rfl, hV, hK⟩ := hv0
  have hx := B.exec
  have hb := B.bytes
  have hr := B.returns
  have hts := atoms_spec (ws := wsX5_pass) B.pre
  have hown : s.vm.findClass RX5 = some mid.cls := findClass_of_methodNamed B.named
  have hlocks := B.notSynchronized
  have hS : va_S (AV ad 6) s.heap s.heap [] := va_S.rf
  have hl := lv_entry ([.ref (ad 0), .int (nI n)]) (n := 4) (Nat.le_of_ble_eq_true rfl)
  rw [lg_entry_eq]
  generalize (lg_sl ([.ref (ad 0), .int (nI n)]) ++ List.replicate (4 - (lg_sl ([.ref (ad 0), .int (nI n)])).length) Slot.unset).toArray = ls at hl ⊢
  have hl : lv_has ls 4 [(0, .ref (ad 0)), (1, .int (nI n))] := hl
  refine lv_iconst (v := dwn nP τ - dwn nP τ) hx hb dX5_pass_0 (by rw [Int32.sub_self]; decide) ?_
  refine lv_istore_n (lv' := [(2, .int (dwn nP τ - dwn nP τ)), (0, .ref (ad 0)), (1, .int (nI n))]) hx hb dX5_pass_1 rfl hl (by decide) rfl (fun ls hl => ?_)
  refine lv_iconst (v := nI 0) hx hb dX5_pass_2 (by decide) ?_
  refine lv_istore_n (lv' := [(3, .int (nI 0)), (2, .int (dwn nP τ - dwn nP τ)), (0, .ref (ad 0)), (1, .int (nI n))]) hx hb dX5_pass_3 rfl hl (by decide) rfl (fun ls hl => ?_)
  refine W_up n (fun i H locs ls => RVm G ad nH nP δ (dysF nH nP i τ) H ∧ va_S (AV ad 6) s.heap H locs ∧ lv_has ls 4 [(0, .ref (ad 0)), (1, .int (nI n)), (2, .int (dwn nP (dysF nH nP i τ) - dwn nP τ)), (3, .int (nI i))]) ?_ 0 (by omega) _ _ _ ⟨hV, hS, lv_sub hl [2, 3, 1, 0] rfl⟩
  intro i H locs ls hi ⟨hV, hS, hl⟩ ih
  have hvi : Inv nH nP (dysF nH nP i τ) := hv.oDys
  refine lv_iload_n hx hb dX5_pass_4 rfl (lv_at hl 3 rfl) ?_
  refine lv_iload_n hx hb dX5_pass_5 rfl (lv_at hl 1 rfl) ?_
  refine lv_icmp_ge (tgt := 22) hx hb dX5_pass_6 (by decide) (fun c6 => ?_) (fun c6 => ?_)
  · skip
    replace c6 := (nI_leI (a := n) (b := i) (by omega) (by omega)).mp c6
    obtain rfl : n = i := by omega
    refine lv_iload_n hx hb dX5_pass_22 rfl (lv_at hl 2 rfl) ?_
    exact xI hx hb hr hlocks hV hS rfl dX5_pass_23
  · skip
    replace c6 : ¬ (n ≤ i) := fun q => c6 ((nI_leI (a := n) (b := i) (by omega) (by omega)).mpr q)
    refine lv_iload_n hx hb dX5_pass_9 rfl (lv_at hl 2 rfl) ?_
    refine lv_aload_n hx hb dX5_pass_10 rfl (lv_at hl 0 rfl) ?_
    refine kI (va_runV (As := []) (rest := [.int (dwn nP (dysF nH nP i τ) - dwn nP τ)]) ⟨hx, hb, hml, hown, hts⟩ (c_X4_pass l G ad hI nH nP hH hP δ (dysF nH nP i τ) hvi) (cwV 0 hts gX5_pass_X4_pass rfl rfl rfl (by decide +kernel) ⟨Nat.le_of_ble_eq_true rfl, Nat.le_of_ble_eq_true rfl⟩) ⟨Pc0.blind, va_recv hK (va_P1 (hV.1)) (ci := 4) (q0 := 0) rfl rfl, Pc0.pre hV hK⟩ rfl rfl hl.1 rfl (lv_room (Nat.le_of_ble_eq_true rfl)) dX5_pass_11 ⟨Nat.zero_le _, Nat.zero_le _⟩) hS (fun _ _ q => q) (fun _ q => q) (fun H locs hV _ _ hS => ?_)
    refine lv_iadd hx hb dX5_pass_14 ?_
    refine lv_topi (fun y1 ey1 => ?_)
    obtain rfl : y1 = dwn nP (dysF nH nP (i + 1) τ) - dwn nP τ := ey1.trans (by rw [i32_tel]; rfl)
    refine lv_istore_n (lv' := [(2, .int (dwn nP (dysF nH nP (i + 1) τ) - dwn nP τ)), (0, .ref (ad 0)), (1, .int (nI n)), (3, .int (nI i))]) hx hb dX5_pass_15 rfl hl (by decide) rfl (fun ls hl => ?_)
    refine lv_iinc (k := 3) (v := nI (i + 1)) (lv' := [(3, .int (nI (i + 1))), (2, .int (dwn nP (dysF nH nP (i + 1) τ) - dwn nP τ)), (0, .ref (ad 0)), (1, .int (nI n))]) hx hb dX5_pass_16 hl rfl (nI_add i 1) (by decide) rfl (fun ls hl => ?_)
    refine lv_goto (tgt := 4) hx hb dX5_pass_19 (by decide) ?_
    exact ih (by omega) _ _ _ ⟨hV, hS, lv_sub hl [2, 3, 1, 0] rfl⟩

set_option maxHeartbeats 4000000 in
set_option maxRecDepth 100000 in
theorem c_X5_pass_ (l : Launch) (G : wG) (ma : Nat) (ad ad2 : Nat → Nat) (hI : MI ma ad ad2) (nH nP : Nat) (hH : nH ≤ 10) (hP : nP ≤ 3) (δ τ z : wS) (t : Int32) (nz : Nat) (y : Int32) (hv : Inv nH nP τ) : Met l yX5_pass_ wsX5_pass_ ({ frames := 5, cells := 0, slots := 0, locals := 120 } : Room) (PcM G [.ref ma, .int y] nz (MWz G ma ad ad2 t (wmx nH nP δ τ) z)) (Qmi (fun u => (u = 0 ∧ inn 1 100 y) ∨ (u = 1 ∧ ¬ (inn 1 100 y))) (sm (fun h => dysF nH nP (cl y) τ 29 h) nP - sm (fun h => τ 29 h) nP) (fun u => MWz G ma ad ad2 (nI u) (wmx nH nP δ (sel u (dysF nH nP (cl y) τ) τ)) (sel u (z) z)) (AM ma ad ad2 nz)) 0 0 (AM ma ad ad2 nz) := by
  refine Met.ofW (cc := cX5_pass_) (maxL := 2) (ret := (some .int)) (by decide) rfl ?_
  intro pg ev s mid args below meth cd s₁ B hml hv0
  obtain ⟨rfl, rfl, hW, hK, hN⟩ := hv0
  have hx := B.exec
  have hb := B.bytes
  have hr := B.returns
  have hts := atoms_spec (ws := wsX5_pass_) B.pre
  have hown : s.vm.findClass RX5 = some mid.cls := findClass_of_methodNamed B.named
  have hlocks := B.notSynchronized
  have hi5 : ∀ w ∈ wsX50, w ∈ wsX5_pass_ := by decide +kernel
  have k19 := hts (.fieldLink RX5 19 "PumpRosterModel" "thrown" "I") (by decide +kernel)
  have k10 := hts (.fieldLink RX5 10 "PumpRosterModel" "s" "LPumpRosterModel$State;") (by decide +kernel)
  have hS : va_S (AM ma ad ad2 s.heap.size) s.heap s.heap [] := va_S.rf
  have hl := lv_entry ([.ref ma, .int y]) (n := 2) (Nat.le_of_ble_eq_true rfl)
  rw [lg_entry_eq]
  generalize (lg_sl ([.ref ma, .int y]) ++ List.replicate (2 - (lg_sl ([.ref ma, .int y])).length) Slot.unset).toArray = ls at hl ⊢
  have hl : lv_has ls 2 [(0, .ref ma), (1, .int y)] := hl
  obtain ⟨σ2, hW, hz⟩ := hW
  refine lv_aload_n hx hb dX5_pass__0 rfl (lv_at hl 0 rfl) ?_
  refine lv_iconst (v := 0) hx hb dX5_pass__1 (by decide) ?_
  refine wMt hx hb hts hi5 hown hK hI hW hS (Or.inr (Or.inr (Or.inl rfl))) k19 dX5_pass__2 (fun H locs hW hS => ?_)
  refine lv_iload_n hx hb dX5_pass__5 rfl (lv_at hl 1 rfl) ?_
  refine lv_iconst (v := 1) hx hb dX5_pass__6 (by decide) ?_
  refine lv_bipush (v := 100) hx hb dX5_pass__7 (by decide) ?_
  refine kI (va_runS (As := [.int y, .int 1, .int 100]) (rest := []) ⟨hx, hb, hml, hown, hts⟩ (c_X5_isIn l G y 1 100) (va_cwS 3 hts gX5_pass__X5_isIn rfl rfl rfl (by decide +kernel) ⟨Nat.le_of_ble_eq_true rfl, Nat.le_of_ble_eq_true rfl⟩) ⟨Pc0.blind, Pc0.pre trivial hK⟩ rfl rfl hl.1 rfl (lv_room (Nat.le_of_ble_eq_true rfl)) dX5_pass__9 ⟨Nat.le_of_ble_eq_true rfl, Nat.le_of_ble_eq_true rfl⟩) hS (fun q _ h => h.elim) (fun q h => h.elim) (fun H locs hB _ hk hS => ?_)
  have hW := hW.kept (fun q hq => hk q hq (fun h => h))
  refine lv_if_eq (tgt := 26) hx hb dX5_pass__12 (by decide) (fun c12 => ?_) (fun c12 => ?_)
  · skip
    replace c12 := b0 c12
    refine lv_aload_n hx hb dX5_pass__26 rfl (lv_at hl 0 rfl) ?_
    refine lv_iconst (v := 1) hx hb dX5_pass__27 (by decide) ?_
    refine kI (va_runV (As := [.int 1]) (rest := []) ⟨hx, hb, hml, hown, hts⟩ (c_X5_no l G ma ad ad2 hI nH nP hH hP δ τ σ2 0 H.size 1) (cwV 1 hts gX5_pass__X5_no rfl rfl rfl (by decide +kernel) ⟨Nat.le_of_ble_eq_true rfl, Nat.le_of_ble_eq_true rfl⟩) ⟨PcM.blind, va_recv hK (va_P1 (hW.1)) (ci := 5) (q0 := 0) rfl rfl, PcM.pre hW hK hN⟩ rfl rfl hl.1 rfl (lv_room (Nat.le_of_ble_eq_true rfl)) dX5_pass__28 ⟨Nat.le_of_ble_eq_true rfl, Nat.le_of_ble_eq_true rfl⟩) hS (fun q _ h => AM_sub hS h) (fun q h => AM_sub hS h) (fun H locs hB _ hk hS => ?_)
    have hW := hB
    exact zI 1 hx hb hr hlocks (Or.inr ⟨rfl, c12⟩) (⟨_, hW, hz⟩) hS (fun q => absurd q (by decide)) dX5_pass__31
  · skip
    replace c12 := b1 c12
    have o1 : inn 1 100 y := c12
    obtain ⟨k, hlok, hhik, rfl⟩ := inn_nI (lo := 1) (hi := 100) o1 (by omega) (by omega)
    refine lv_aload_n hx hb dX5_pass__15 rfl (lv_at hl 0 rfl) ?_
    refine rM0 hx hb hts hi5 hown hK hW k10 dX5_pass__16 ?_
    refine lv_iload_n hx hb dX5_pass__19 rfl (lv_at hl 1 rfl) ?_
    refine kI (va_runS (As := [.ref (ad 0), .int (nI k)]) (rest := []) ⟨hx, hb, hml, hown, hts⟩ (c_X5_pass l G ad hI.1 nH nP hH hP δ τ k hv (by omega)) (va_cwS 2 hts gX5_pass__X5_pass rfl rfl rfl (by decide +kernel) ⟨Nat.le_of_ble_eq_true rfl, Nat.le_of_ble_eq_true rfl⟩) ⟨Pc0.blind, Pc0.pre hW.2.1 hK⟩ rfl rfl hl.1 rfl (lv_room (Nat.le_of_ble_eq_true rfl)) dX5_pass__20 ⟨Nat.le_of_ble_eq_true rfl, Nat.le_of_ble_eq_true rfl⟩) hS (fun q _ h => Or.inl h) (fun q h => Or.inl h) (fun H locs hB _ hk hS => ?_)
    have hW := hW.main hI hB hk
    refine lv_goto (tgt := 31) hx hb dX5_pass__23 (by decide) ?_
    exact zI 0 hx hb hr hlocks (Or.inl ⟨rfl, o1⟩) ((by show MWz G ma ad ad2 (nI 0) (wmx nH nP δ (dysF nH nP (cl (nI k)) τ)) z H; rw [show cl (nI k) = k from nI_clamp (by omega)]; exact ⟨_, hW, hz⟩)) hS (fun q => (by rw [show cl (nI k) = k from nI_clamp (by omega)]; rfl)) dX5_pass__31

set_option maxHeartbeats 4000000 in
set_option maxRecDepth 100000 in
theorem c_X5_isPlace (l : Launch) (G : wG) (ma : Nat) (ad ad2 : Nat → Nat) (hI : MI ma ad ad2) (nH nP : Nat) (hH : nH ≤ 10) (hP : nP ≤ 3) (δ τ σ2 : wS) (t : Int32) (nz : Nat) (x y : Int32) (hv : Inv nH nP τ) : Met l yX5_isPlace wsX5_isPlace ({ frames := 2, cells := 0, slots := 0, locals := 43 } : Room) (PcM G [.ref ma, .int x, .int y] nz (MW G ma ad ad2 t (wmx nH nP δ τ) σ2)) (Qi0 (if ((¬ x < 0 ∧ x < nI nP) ∧ ¬ y < 0 ∧ y < nI (sz τ (cl x))) then 1 else 0) (MW G ma ad ad2 t (wmx nH nP δ τ) σ2) (fun _ => False)) 0 0 (fun _ => False) := by
  refine Met.ofW (cc := cX5_isPlace) (maxL := 3) (ret := (some .boolean)) (by decide) rfl ?_
  intro pg ev s mid args below meth cd s₁ B hml hv0
  obtain ⟨rfl, rfl, hW, hK, hN⟩ := hv0
  have hx := B.exec
  have hb := B.bytes
  have hr := B.returns
  have hts := atoms_spec (ws := wsX5_isPlace) B.pre
  have hown : s.vm.findClass RX5 = some mid.cls := findClass_of_methodNamed B.named
  have hlocks := B.notSynchronized
  have hi4 : ∀ w ∈ wsX40, w ∈ wsX5_isPlace := by decide +kernel
  have hi5 : ∀ w ∈ wsX50, w ∈ wsX5_isPlace := by decide +kernel
  have k10 := hts (.fieldLink RX5 10 "PumpRosterModel" "s" "LPumpRosterModel$State;") (by decide +kernel)
  have hS : va_S (fun _ => False) s.heap s.heap [] := va_S.rf
  have hl := lv_entry ([.ref ma, .int x, .int y]) (n := 3) (Nat.le_of_ble_eq_true rfl)
  rw [lg_entry_eq]
  generalize (lg_sl ([.ref ma, .int x, .int y]) ++ List.replicate (3 - (lg_sl ([.ref ma, .int x, .int y])).length) Slot.unset).toArray = ls at hl ⊢
  have hl : lv_has ls 3 [(0, .ref ma), (1, .int x), (2, .int y)] := hl
  refine lv_aload_n hx hb dX5_isPlace_0 rfl (lv_at hl 0 rfl) ?_
  refine lv_iload_n hx hb dX5_isPlace_1 rfl (lv_at hl 1 rfl) ?_
  refine kI (va_runV (As := [.int x]) (rest := []) ⟨hx, hb, hml, hown, hts⟩ (c_X5_isPump l G ma ad ad2 hI nH nP hH hP δ τ σ2 t s.heap.size x hv.2.2.2.1) (cwV 1 hts gX5_isPlace_X5_isPump rfl rfl rfl (by decide +kernel) ⟨Nat.le_of_ble_eq_true rfl, Nat.le_of_ble_eq_true rfl⟩) ⟨PcM.blind, va_recv hK (va_P1 (hW.1)) (ci := 5) (q0 := 0) rfl rfl, PcM.pre hW hK hN⟩ rfl rfl hl.1 rfl (lv_room (Nat.le_of_ble_eq_true rfl)) dX5_isPlace_2 ⟨Nat.le_of_ble_eq_true rfl, Nat.le_of_ble_eq_true rfl⟩) hS (fun q _ h => h.elim) (fun q h => h.elim) (fun H locs hB _ hk hS => ?_)
  have hW := hW.kept (fun q hq => hk q hq (fun h => h))
  refine lv_if_eq (tgt := 37) hx hb dX5_isPlace_5 (by decide) (fun c5 => ?_) (fun c5 => ?_)
  · skip
    replace c5 := b0 c5
    refine lv_iconst (v := 0) hx hb dX5_isPlace_37 (by decide) ?_
    exact xZ hx hb hr hlocks hW hS ((if_neg (fun q => by first | exact c5 q.1 | exact c30 ⟨q.2.1, (le_sub1 (by omega)).mpr (by have q2 := q.2.2; rw [show cl (nI h) = h from nI_clamp (by omega)] at q2; exact Int32.not_le.mpr q2)⟩)).symm) rfl dX5_isPlace_38
  · skip
    replace c5 := b1 c5
    have o1 : pOk nP x := c5
    obtain ⟨h, hh, rfl⟩ := pOk_nI o1 (by omega)
    have h10 := (hv.2.2.2.2.2 h hh).2.2.2.2.1.1
    refine lv_iload_n hx hb dX5_isPlace_8 rfl (lv_at hl 2 rfl) ?_
    refine lv_iconst (v := 0) hx hb dX5_isPlace_9 (by decide) ?_
    refine lv_aload_n hx hb dX5_isPlace_10 rfl (lv_at hl 0 rfl) ?_
    refine rM0 hx hb hts hi5 hown hK hW k10 dX5_isPlace_11 ?_
    refine rSfN 4 (j := 2) hx hb hts hi4 hown hK hW.2.1 (by decide) rfl (va_Nw.use rfl hN.2.2.2.2.1) dX5_isPlace_14 ?_
    refine lv_bipush (v := 11) hx hb dX5_isPlace_17 (by decide) ?_
    refine lv_iload_n hx hb dX5_isPlace_19 rfl (lv_at hl 1 rfl) ?_
    refine lv_imul hx hb dX5_isPlace_20 ?_
    refine lv_topi (fun y1 ey1 => ?_)
    obtain rfl : y1 = nI (11 * h) := ey1.trans (pk_mul 11 h)
    refine lv_bipush (v := 6) hx hb dX5_isPlace_21 (by decide) ?_
    refine lv_iadd hx hb dX5_isPlace_23 ?_
    refine lv_topi (fun y2 ey2 => ?_)
    obtain rfl : y2 = nI (11 * h + 6) := ey2.trans (nI_add (11 * h) 6)
    refine rSp (h := h) (f := 6) (g := 26) (v := nI (sz τ h)) hx hb hK hW.2.1 (by omega) (by omega) (by omega) (by omega) hP (hv.2.2.2.2.2 h hh).2.2.2.2.1.2 dX5_isPlace_24 ?_
    refine lv_iconst (v := 1) hx hb dX5_isPlace_25 (by decide) ?_
    refine lv_isub hx hb dX5_isPlace_26 ?_
    refine kI (va_runS (As := [.int y, .int 0, .int ((nI (sz τ h)) - 1)]) (rest := []) ⟨hx, hb, hml, hown, hts⟩ (c_X5_isIn l G y 0 ((nI (sz τ h)) - 1)) (va_cwS 3 hts gX5_isPlace_X5_isIn rfl rfl rfl (by decide +kernel) ⟨Nat.le_of_ble_eq_true rfl, Nat.le_of_ble_eq_true rfl⟩) ⟨Pc0.blind, Pc0.pre trivial hK⟩ rfl rfl hl.1 rfl (lv_room (Nat.le_of_ble_eq_true rfl)) dX5_isPlace_27 ⟨Nat.le_of_ble_eq_true rfl, Nat.le_of_ble_eq_true rfl⟩) hS (fun q _ h => h.elim) (fun q h => h.elim) (fun H locs hB _ hk hS => ?_)
    have hW := hW.kept (fun q hq => hk q hq (fun h => h))
    refine lv_if_eq (tgt := 37) hx hb dX5_isPlace_30 (by decide) (fun c30 => ?_) (fun c30 => ?_)
    · skip
      replace c30 := b0 c30
      refine lv_iconst (v := 0) hx hb dX5_isPlace_37 (by decide) ?_
      exact xZ hx hb hr hlocks hW hS ((if_neg (fun q => by first | exact c5 q.1 | exact c30 ⟨q.2.1, (le_sub1 (by omega)).mpr (by have q2 := q.2.2; rw [show cl (nI h) = h from nI_clamp (by omega)] at q2; exact Int32.not_le.mpr q2)⟩)).symm) rfl dX5_isPlace_38
    · skip
      replace c30 := b1 c30
      refine lv_iconst (v := 1) hx hb dX5_isPlace_33 (by decide) ?_
      refine lv_goto (tgt := 38) hx hb dX5_isPlace_34 (by decide) ?_
      exact xZ hx hb hr hlocks hW hS ((if_pos ⟨c5, c30.1, by rw [show cl (nI h) = h from nI_clamp (by omega)]; exact Int32.not_le.mp ((le_sub1 (by omega)).mp c30.2)⟩).symm) rfl dX5_isPlace_38

set_option maxHeartbeats 4000000 in
set_option maxRecDepth 100000 in
theorem c_X5_roster (l : Launch) (G : wG) (ma : Nat) (ad ad2 : Nat → Nat) (hI : MI ma ad ad2) (nH nP : Nat) (hH : nH ≤ 10) (hP : nP ≤ 3) (δ τ z : wS) (t : Int32) (nz : Nat) (x y : Int32) (hv : Inv nH nP τ) : Met l yX5_roster wsX5_roster ({ frames := 3, cells := 0, slots := 0, locals := 65 } : Room) (PcM G [.ref ma, .int x, .int y] nz (MWz G ma ad ad2 t (wmx nH nP δ τ) z)) (Qmi (fun u => (u = 0 ∧ plOk nP τ x y) ∨ (u = 1 ∧ ¬ (plOk nP τ x y))) (τ (40 + cl x) (cl y)) (fun u => MWz G ma ad ad2 (nI u) (wmx nH nP δ (sel u (τ) τ)) (sel u (z) z)) (AM ma ad ad2 nz)) 0 0 (AM ma ad ad2 nz) := by
  refine Met.ofW (cc := cX5_roster) (maxL := 3) (ret := (some .int)) (by decide) rfl ?_
  intro pg ev s mid args below meth cd s₁ B hml hv0
  obtain ⟨rfl, rfl, hW, hK, hN⟩ := hv0
  have hx := B.exec
  have hb := B.bytes
  have hr := B.returns
  have hts := atoms_spec (ws := wsX5_roster) B.pre
  have hown : s.vm.findClass RX5 = some mid.cls := findClass_of_methodNamed B.named
  have hlocks := B.notSynchronized
  have hi4 : ∀ w ∈ wsX40, w ∈ wsX5_roster := by decide +kernel
  have hi5 : ∀ w ∈ wsX50, w ∈ wsX5_roster := by decide +kernel
  have k19 := hts (.fieldLink RX5 19 "PumpRosterModel" "thrown" "I") (by decide +kernel)
  have k10 := hts (.fieldLink RX5 10 "PumpRosterModel" "s" "LPumpRosterModel$State;") (by decide +kernel)
  have hS : va_S (AM ma ad ad2 s.heap.size) s.heap s.heap [] := va_S.rf
  have hl := lv_entry ([.ref ma, .int x, .int y]) (n := 3) (Nat.le_of_ble_eq_true rfl)
  rw [lg_entry_eq]
  generalize (lg_sl ([.ref ma, .int x, .int y]) ++ List.replicate (3 - (lg_sl ([.ref ma, .int x, .int y])).length) Slot.unset).toArray = ls at hl ⊢
  have hl : lv_has ls 3 [(0, .ref ma), (1, .int x), (2, .int y)] := hl
  obtain ⟨σ2, hW, hz⟩ := hW
  refine lv_aload_n hx hb dX5_roster_0 rfl (lv_at hl 0 rfl) ?_
  refine lv_iconst (v := 0) hx hb dX5_roster_1 (by decide) ?_
  refine wMt hx hb hts hi5 hown hK hI hW hS (Or.inr (Or.inr (Or.inl rfl))) k19 dX5_roster_2 (fun H locs hW hS => ?_)
  refine lv_aload_n hx hb dX5_roster_5 rfl (lv_at hl 0 rfl) ?_
  refine lv_iload_n hx hb dX5_roster_6 rfl (lv_at hl 1 rfl) ?_
  refine lv_iload_n hx hb dX5_roster_7 rfl (lv_at hl 2 rfl) ?_
  refine kI (va_runV (As := [.int x, .int y]) (rest := []) ⟨hx, hb, hml, hown, hts⟩ (c_X5_isPlace l G ma ad ad2 hI nH nP hH hP δ τ σ2 0 H.size x y hv) (cwV 2 hts gX5_roster_X5_isPlace rfl rfl rfl (by decide +kernel) ⟨Nat.le_of_ble_eq_true rfl, Nat.le_of_ble_eq_true rfl⟩) ⟨PcM.blind, va_recv hK (va_P1 (hW.1)) (ci := 5) (q0 := 0) rfl rfl, PcM.pre hW hK hN⟩ rfl rfl hl.1 rfl (lv_room (Nat.le_of_ble_eq_true rfl)) dX5_roster_8 ⟨Nat.le_of_ble_eq_true rfl, Nat.le_of_ble_eq_true rfl⟩) hS (fun q _ h => h.elim) (fun q h => h.elim) (fun H locs hB _ hk hS => ?_)
  have hW := hW.kept (fun q hq => hk q hq (fun h => h))
  refine lv_if_eq (tgt := 31) hx hb dX5_roster_11 (by decide) (fun c11 => ?_) (fun c11 => ?_)
  · skip
    replace c11 := b0 c11
    refine lv_aload_n hx hb dX5_roster_31 rfl (lv_at hl 0 rfl) ?_
    refine lv_iconst (v := 1) hx hb dX5_roster_32 (by decide) ?_
    refine kI (va_runV (As := [.int 1]) (rest := []) ⟨hx, hb, hml, hown, hts⟩ (c_X5_no l G ma ad ad2 hI nH nP hH hP δ τ σ2 0 H.size 1) (cwV 1 hts gX5_roster_X5_no rfl rfl rfl (by decide +kernel) ⟨Nat.le_of_ble_eq_true rfl, Nat.le_of_ble_eq_true rfl⟩) ⟨PcM.blind, va_recv hK (va_P1 (hW.1)) (ci := 5) (q0 := 0) rfl rfl, PcM.pre hW hK hN⟩ rfl rfl hl.1 rfl (lv_room (Nat.le_of_ble_eq_true rfl)) dX5_roster_33 ⟨Nat.le_of_ble_eq_true rfl, Nat.le_of_ble_eq_true rfl⟩) hS (fun q _ h => AM_sub hS h) (fun q h => AM_sub hS h) (fun H locs hB _ hk hS => ?_)
    have hW := hB
    exact zI 1 hx hb hr hlocks (Or.inr ⟨rfl, c11⟩) (⟨_, hW, hz⟩) hS (fun q => absurd q (by decide)) dX5_roster_36
  · skip
    replace c11 := b1 c11
    have o1 : plOk nP τ x y := c11
    obtain ⟨h, k, hh, hk9, rfl, rfl⟩ := plOk_nI hv o1
    have h10 := (hv.2.2.2.2.2 h hh).2.2.2.2.1.1
    have ht10 : tn τ h < 10 := by have h8 := (hv.2.2.2.2.2 h hh).2.2.2.2.2.1.2; omega
    refine lv_aload_n hx hb dX5_roster_14 rfl (lv_at hl 0 rfl) ?_
    refine rM0 hx hb hts hi5 hown hK hW k10 dX5_roster_15 ?_
    refine rSfN 5 (j := 3) hx hb hts hi4 hown hK hW.2.1 (by decide) rfl (va_Nw.use rfl hN.2.2.2.2.2.1) dX5_roster_18 ?_
    refine lv_bipush (v := 10) hx hb dX5_roster_21 (by decide) ?_
    refine lv_iload_n hx hb dX5_roster_23 rfl (lv_at hl 1 rfl) ?_
    refine lv_imul hx hb dX5_roster_24 ?_
    refine lv_topi (fun y1 ey1 => ?_)
    obtain rfl : y1 = nI (10 * h) := ey1.trans (pk_mul 10 h)
    refine lv_iload_n hx hb dX5_roster_25 rfl (lv_at hl 2 rfl) ?_
    refine lv_iadd hx hb dX5_roster_26 ?_
    refine lv_topi (fun y2 ey2 => ?_)
    obtain rfl : y2 = nI (10 * h + k) := ey2.trans (nI_add (10 * h) k)
    refine rSq (h := h) (k := k) (v := τ (40 + h) k) hx hb hK hW.2.1 (by omega) (by omega) (by omega) hP rfl dX5_roster_27 ?_
    refine lv_goto (tgt := 36) hx hb dX5_roster_28 (by decide) ?_
    exact zI 0 hx hb hr hlocks (Or.inl ⟨rfl, o1⟩) (⟨_, hW, hz⟩) hS (fun q => (by rw [show cl (nI h) = h from nI_clamp (by omega), show cl (nI k) = k from nI_clamp (by omega)])) dX5_roster_36

set_option maxHeartbeats 4000000 in
set_option maxRecDepth 100000 in
theorem c_X5_change (l : Launch) (G : wG) (ma : Nat) (ad ad2 : Nat → Nat) (hI : MI ma ad ad2) (nH nP : Nat) (hH : nH ≤ 10) (hP : nP ≤ 3) (δ τ z : wS) (t : Int32) (nz : Nat) (x y w : Int32) (hv : Inv nH nP τ) : Met l yX5_change wsX5_change ({ frames := 3, cells := 0, slots := 0, locals := 65 } : Room) (PcM G [.ref ma, .int x, .int y, .int w] nz (MWz G ma ad ad2 t (wmx nH nP δ τ) z)) (Qmi (fun u => (u = 0 ∧ plOk nP τ x y ∧ plOk nP τ x w) ∨ (u = 1 ∧ ¬ (plOk nP τ x y ∧ plOk nP τ x w))) ((wst (wst τ (40 + cl x) (cl y) (τ (40 + cl x) (cl w))) (40 + cl x) (cl w) (τ (40 + cl x) (cl y))) (40 + cl x) (tn τ (cl x))) (fun u => MWz G ma ad ad2 (nI u) (wmx nH nP δ (sel u (wst (wst τ (40 + cl x) (cl y) (τ (40 + cl x) (cl w))) (40 + cl x) (cl w) (τ (40 + cl x) (cl y))) τ)) (sel u (z) z)) (AM ma ad ad2 nz)) 0 0 (AM ma ad ad2 nz) := by
  refine Met.ofW (cc := cX5_change) (maxL := 6) (ret := (some .int)) (by decide) rfl ?_
  intro pg ev s mid args below meth cd s₁ B hml hv0
  obtain ⟨rfl, rfl, hW, hK, hN⟩ := hv0
  have hx := B.exec
  have hb := B.bytes
  have hr := B.returns
  have hts := atoms_spec (ws := wsX5_change) B.pre
  have hown : s.vm.findClass RX5 = some mid.cls := findClass_of_methodNamed B.named
  have hlocks := B.notSynchronized
  have hi4 : ∀ w ∈ wsX40, w ∈ wsX5_change := by decide +kernel
  have hi5 : ∀ w ∈ wsX50, w ∈ wsX5_change := by decide +kernel
  have k19 := hts (.fieldLink RX5 19 "PumpRosterModel" "thrown" "I") (by decide +kernel)
  have k10 := hts (.fieldLink RX5 10 "PumpRosterModel" "s" "LPumpRosterModel$State;") (by decide +kernel)
  have hS : va_S (AM ma ad ad2 s.heap.size) s.heap s.heap [] := va_S.rf
  have hl := lv_entry ([.ref ma, .int x, .int y, .int w]) (n := 6) (Nat.le_of_ble_eq_true rfl)
  rw [lg_entry_eq]
  generalize (lg_sl ([.ref ma, .int x, .int y, .int w]) ++ List.replicate (6 - (lg_sl ([.ref ma, .int x, .int y, .int w])).length) Slot.unset).toArray = ls at hl ⊢
  have hl : lv_has ls 6 [(0, .ref ma), (1, .int x), (2, .int y), (3, .int w)] := hl
  obtain ⟨σ2, hW, hz⟩ := hW
  refine lv_aload_n hx hb dX5_change_0 rfl (lv_at hl 0 rfl) ?_
  refine lv_iconst (v := 0) hx hb dX5_change_1 (by decide) ?_
  refine wMt hx hb hts hi5 hown hK hI hW hS (Or.inr (Or.inr (Or.inl rfl))) k19 dX5_change_2 (fun H locs hW hS => ?_)
  refine lv_aload_n hx hb dX5_change_5 rfl (lv_at hl 0 rfl) ?_
  refine lv_iload_n hx hb dX5_change_6 rfl (lv_at hl 1 rfl) ?_
  refine lv_iload_n hx hb dX5_change_7 rfl (lv_at hl 2 rfl) ?_
  refine kI (va_runV (As := [.int x, .int y]) (rest := []) ⟨hx, hb, hml, hown, hts⟩ (c_X5_isPlace l G ma ad ad2 hI nH nP hH hP δ τ σ2 0 H.size x y hv) (cwV 2 hts gX5_change_X5_isPlace rfl rfl rfl (by decide +kernel) ⟨Nat.le_of_ble_eq_true rfl, Nat.le_of_ble_eq_true rfl⟩) ⟨PcM.blind, va_recv hK (va_P1 (hW.1)) (ci := 5) (q0 := 0) rfl rfl, PcM.pre hW hK hN⟩ rfl rfl hl.1 rfl (lv_room (Nat.le_of_ble_eq_true rfl)) dX5_change_8 ⟨Nat.le_of_ble_eq_true rfl, Nat.le_of_ble_eq_true rfl⟩) hS (fun q _ h => h.elim) (fun q h => h.elim) (fun H locs hB _ hk hS => ?_)
  have hW := hW.kept (fun q hq => hk q hq (fun h => h))
  refine lv_if_eq (tgt := 23) hx hb dX5_change_11 (by decide) (fun c11 => ?_) (fun c11 => ?_)
  · skip
    replace c11 := b0 c11
    refine lv_aload_n hx hb dX5_change_23 rfl (lv_at hl 0 rfl) ?_
    refine lv_iconst (v := 1) hx hb dX5_change_24 (by decide) ?_
    refine kI (va_runV (As := [.int 1]) (rest := []) ⟨hx, hb, hml, hown, hts⟩ (c_X5_no l G ma ad ad2 hI nH nP hH hP δ τ σ2 0 H.size 1) (cwV 1 hts gX5_change_X5_no rfl rfl rfl (by decide +kernel) ⟨Nat.le_of_ble_eq_true rfl, Nat.le_of_ble_eq_true rfl⟩) ⟨PcM.blind, va_recv hK (va_P1 (hW.1)) (ci := 5) (q0 := 0) rfl rfl, PcM.pre hW hK hN⟩ rfl rfl hl.1 rfl (lv_room (Nat.le_of_ble_eq_true rfl)) dX5_change_25 ⟨Nat.le_of_ble_eq_true rfl, Nat.le_of_ble_eq_true rfl⟩) hS (fun q _ h => AM_sub hS h) (fun q h => AM_sub hS h) (fun H locs hB _ hk hS => ?_)
    have hW := hB
    exact zI 1 hx hb hr hlocks (Or.inr ⟨rfl, fun q => c11 q.1⟩) (⟨_, hW, hz⟩) hS (fun q => absurd q (by decide)) dX5_change_28
  · skip
    replace c11 := b1 c11
    have o1 : plOk nP τ x y := c11
    obtain ⟨h, k, hh, hk9, rfl, rfl⟩ := plOk_nI hv o1
    have h10 := (hv.2.2.2.2.2 h hh).2.2.2.2.1.1
    have ht10 : tn τ h < 10 := by have h8 := (hv.2.2.2.2.2 h hh).2.2.2.2.2.1.2; omega
    refine lv_aload_n hx hb dX5_change_14 rfl (lv_at hl 0 rfl) ?_
    refine lv_iload_n hx hb dX5_change_15 rfl (lv_at hl 1 rfl) ?_
    refine lv_iload_n hx hb dX5_change_16 rfl (lv_at hl 3 rfl) ?_
    refine kI (va_runV (As := [.int (nI h), .int w]) (rest := []) ⟨hx, hb, hml, hown, hts⟩ (c_X5_isPlace l G ma ad ad2 hI nH nP hH hP δ τ σ2 0 H.size (nI h) w hv) (cwV 2 hts gX5_change_X5_isPlace rfl rfl rfl (by decide +kernel) ⟨Nat.le_of_ble_eq_true rfl, Nat.le_of_ble_eq_true rfl⟩) ⟨PcM.blind, va_recv hK (va_P1 (hW.1)) (ci := 5) (q0 := 0) rfl rfl, PcM.pre hW hK hN⟩ rfl rfl hl.1 rfl (lv_room (Nat.le_of_ble_eq_true rfl)) dX5_change_17 ⟨Nat.le_of_ble_eq_true rfl, Nat.le_of_ble_eq_true rfl⟩) hS (fun q _ h => h.elim) (fun q h => h.elim) (fun H locs hB _ hk hS => ?_)
    have hW := hW.kept (fun q hq => hk q hq (fun h => h))
    refine lv_if_ne (tgt := 29) hx hb dX5_change_20 (by decide) (fun c20 => ?_) (fun c20 => ?_)
    · skip
      replace c20 := b1 c20
      have o2 : plOk nP τ (nI h) w := c20
      obtain ⟨j, hj9, rfl⟩ := plOk_nI2 hv hh o2
      refine lv_bipush (v := 10) hx hb dX5_change_29 (by decide) ?_
      refine lv_iload_n hx hb dX5_change_31 rfl (lv_at hl 1 rfl) ?_
      refine lv_imul hx hb dX5_change_32 ?_
      refine lv_topi (fun y1 ey1 => ?_)
      obtain rfl : y1 = nI (10 * h) := ey1.trans (pk_mul 10 h)
      refine lv_istore (lv' := [(4, .int (nI (10 * h))), (0, .ref ma), (1, .int (nI h)), (2, .int (nI k)), (3, .int (nI j))]) hx hb dX5_change_33 hl (by decide) rfl (fun ls hl => ?_)
      refine lv_aload_n hx hb dX5_change_35 rfl (lv_at hl 1 rfl) ?_
      refine rM0 hx hb hts hi5 hown hK hW k10 dX5_change_36 ?_
      refine rSfN 5 (j := 3) hx hb hts hi4 hown hK hW.2.1 (by decide) rfl (va_Nw.use rfl hN.2.2.2.2.2.1) dX5_change_39 ?_
      refine lv_iload hx hb dX5_change_42 (lv_at hl 0 rfl) ?_
      refine lv_iload_n hx hb dX5_change_44 rfl (lv_at hl 3 rfl) ?_
      refine lv_iadd hx hb dX5_change_45 ?_
      refine lv_topi (fun y2 ey2 => ?_)
      obtain rfl : y2 = nI (10 * h + k) := ey2.trans (nI_add (10 * h) k)
      refine rSq (h := h) (k := k) (v := τ (40 + h) k) hx hb hK hW.2.1 (by omega) (by omega) (by omega) hP rfl dX5_change_46 ?_
      refine lv_istore (lv' := [(5, .int (τ (40 + h) k)), (4, .int (nI (10 * h))), (0, .ref ma), (1, .int (nI h)), (2, .int (nI k)), (3, .int (nI j))]) hx hb dX5_change_47 hl (by decide) rfl (fun ls hl => ?_)
      refine lv_aload_n hx hb dX5_change_49 rfl (lv_at hl 2 rfl) ?_
      refine rM0 hx hb hts hi5 hown hK hW k10 dX5_change_50 ?_
      refine rSfN 5 (j := 3) hx hb hts hi4 hown hK hW.2.1 (by decide) rfl (va_Nw.use rfl hN.2.2.2.2.2.1) dX5_change_53 ?_
      refine lv_iload hx hb dX5_change_56 (lv_at hl 1 rfl) ?_
      refine lv_iload_n hx hb dX5_change_58 rfl (lv_at hl 4 rfl) ?_
      refine lv_iadd hx hb dX5_change_59 ?_
      refine lv_topi (fun y3 ey3 => ?_)
      obtain rfl : y3 = nI (10 * h + k) := ey3.trans (nI_add (10 * h) k)
      refine lv_aload_n hx hb dX5_change_60 rfl (lv_at hl 2 rfl) ?_
      refine rM0 hx hb hts hi5 hown hK hW k10 dX5_change_61 ?_
      refine rSfN 5 (j := 3) hx hb hts hi4 hown hK hW.2.1 (by decide) rfl (va_Nw.use rfl hN.2.2.2.2.2.1) dX5_change_64 ?_
      refine lv_iload hx hb dX5_change_67 (lv_at hl 1 rfl) ?_
      refine lv_iload_n hx hb dX5_change_69 rfl (lv_at hl 5 rfl) ?_
      refine lv_iadd hx hb dX5_change_70 ?_
      refine lv_topi (fun y4 ey4 => ?_)
      obtain rfl : y4 = nI (10 * h + j) := ey4.trans (nI_add (10 * h) j)
      refine rSq (h := h) (k := j) (v := τ (40 + h) j) hx hb hK hW.2.1 (by omega) (by omega) (by omega) hP rfl dX5_change_71 ?_
      refine wSq (h := h) (k := k) hx hb hK hI.1 hW.2.1 hS (fun _ q => Or.inl q) (by omega) (by omega) (by omega) hP dX5_change_72 (fun H locs hV hk hS => ?_)
      have hW := hW.main hI hV hk
      refine lv_aload_n hx hb dX5_change_73 rfl (lv_at hl 2 rfl) ?_
      refine rM0 hx hb hts hi5 hown hK hW k10 dX5_change_74 ?_
      refine rSfN 5 (j := 3) hx hb hts hi4 hown hK hW.2.1 (by decide) rfl (va_Nw.use rfl hN.2.2.2.2.2.1) dX5_change_77 ?_
      refine lv_iload hx hb dX5_change_80 (lv_at hl 1 rfl) ?_
      refine lv_iload_n hx hb dX5_change_82 rfl (lv_at hl 5 rfl) ?_
      refine lv_iadd hx hb dX5_change_83 ?_
      refine lv_topi (fun y5 ey5 => ?_)
      obtain rfl : y5 = nI (10 * h + j) := ey5.trans (nI_add (10 * h) j)
      refine lv_iload hx hb dX5_change_84 (lv_at hl 0 rfl) ?_
      refine wSq (h := h) (k := j) hx hb hK hI.1 hW.2.1 hS (fun _ q => Or.inl q) (by omega) (by omega) (by omega) hP dX5_change_86 (fun H locs hV hk hS => ?_)
      have hW := hW.main hI hV hk
      refine lv_aload_n hx hb dX5_change_87 rfl (lv_at hl 2 rfl) ?_
      refine rM0 hx hb hts hi5 hown hK hW k10 dX5_change_88 ?_
      refine rSfN 5 (j := 3) hx hb hts hi4 hown hK hW.2.1 (by decide) rfl (va_Nw.use rfl hN.2.2.2.2.2.1) dX5_change_91 ?_
      refine lv_iload hx hb dX5_change_94 (lv_at hl 1 rfl) ?_
      refine lv_aload_n hx hb dX5_change_96 rfl (lv_at hl 2 rfl) ?_
      refine rM0 hx hb hts hi5 hown hK hW k10 dX5_change_97 ?_
      refine rSfN 4 (j := 2) hx hb hts hi4 hown hK hW.2.1 (by decide) rfl (va_Nw.use rfl hN.2.2.2.2.1) dX5_change_100 ?_
      refine lv_bipush (v := 11) hx hb dX5_change_103 (by decide) ?_
      refine lv_iload_n hx hb dX5_change_105 rfl (lv_at hl 3 rfl) ?_
      refine lv_imul hx hb dX5_change_106 ?_
      refine lv_topi (fun y6 ey6 => ?_)
      obtain rfl : y6 = nI (11 * h) := ey6.trans (pk_mul 11 h)
      refine lv_bipush (v := 7) hx hb dX5_change_107 (by decide) ?_
      refine lv_iadd hx hb dX5_change_109 ?_
      refine lv_topi (fun y7 ey7 => ?_)
      obtain rfl : y7 = nI (11 * h + 7) := ey7.trans (nI_add (11 * h) 7)
      refine rSp (h := h) (f := 7) (g := 27) (v := nI (tn τ h)) hx hb hK hW.2.1 (by omega) (by omega) (by omega) (by omega) hP (((wst_f (by omega)).trans (wst_f (by omega))).trans ((hv.2.2.2.2.2 h hh).2.2.2.2.2.1.1)) dX5_change_110 ?_
      refine lv_iadd hx hb dX5_change_111 ?_
      refine lv_topi (fun y8 ey8 => ?_)
      obtain rfl : y8 = nI (10 * h + (tn τ h)) := ey8.trans (nI_add (10 * h) (tn τ h))
      refine rSq (h := h) (k := (tn τ h)) (v := (wst (wst τ (40 + h) k (τ (40 + h) j)) (40 + h) j (τ (40 + h) k)) (40 + h) (tn τ h)) hx hb hK hW.2.1 (by omega) (by omega) (by omega) hP rfl dX5_change_112 ?_
      exact zI 0 hx hb hr hlocks (Or.inl ⟨rfl, o1, o2⟩) ((by show MWz G ma ad ad2 (nI 0) (wmx nH nP δ (wst (wst τ (40 + cl (nI h)) (cl (nI k)) (τ (40 + cl (nI h)) (cl (nI j)))) (40 + cl (nI h)) (cl (nI j)) (τ (40 + cl (nI h)) (cl (nI k))))) z H; rw [show cl (nI h) = h from nI_clamp (by omega), show cl (nI k) = k from nI_clamp (by omega), show cl (nI j) = j from nI_clamp (by omega)]; exact ⟨_, hW, hz⟩)) hS (fun q => (by rw [show cl (nI h) = h from nI_clamp (by omega), show cl (nI k) = k from nI_clamp (by omega), show cl (nI j) = j from nI_clamp (by omega)])) dX5_change_113
    · skip
      replace c20 := b0 c20
      refine lv_aload_n hx hb dX5_change_23 rfl (lv_at hl 0 rfl) ?_
      refine lv_iconst (v := 1) hx hb dX5_change_24 (by decide) ?_
      refine kI (va_runV (As := [.int 1]) (rest := []) ⟨hx, hb, hml, hown, hts⟩ (c_X5_no l G ma ad ad2 hI nH nP hH hP δ τ σ2 0 H.size 1) (cwV 1 hts gX5_change_X5_no rfl rfl rfl (by decide +kernel) ⟨Nat.le_of_ble_eq_true rfl, Nat.le_of_ble_eq_true rfl⟩) ⟨PcM.blind, va_recv hK (va_P1 (hW.1)) (ci := 5) (q0 := 0) rfl rfl, PcM.pre hW hK hN⟩ rfl rfl hl.1 rfl (lv_room (Nat.le_of_ble_eq_true rfl)) dX5_change_25 ⟨Nat.le_of_ble_eq_true rfl, Nat.le_of_ble_eq_true rfl⟩) hS (fun q _ h => AM_sub hS h) (fun q h => AM_sub hS h) (fun H locs hB _ hk hS => ?_)
      have hW := hB
      exact zI 1 hx hb hr hlocks (Or.inr ⟨rfl, fun q => c20 q.2⟩) (⟨_, hW, hz⟩) hS (fun q => absurd q (by decide)) dX5_change_28
