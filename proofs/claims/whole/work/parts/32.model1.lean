theorem le_sub1 {n : Nat} {x : Int32} (hn : n < 2 ^ 30) : x ≤ nI n - 1 ↔ ¬ nI n ≤ x := by
  have e : (nI n - 1 : Int32).toInt = (n : Int) - 1 := pk_sub_toInt (a := n) (b := 1) hn (by omega)
  rw [Int32.le_iff_toInt_le, Int32.le_iff_toInt_le, e, nI_toInt (by omega)]
  omega
theorem ite_iff {P Q : Prop} [Decidable P] [Decidable Q] (h : P ↔ Q) : (if P then (1 : Int32) else 0) = if Q then 1 else 0 := by
  by_cases q : Q
  · rw [if_pos q, if_pos (h.mpr q)]
  · rw [if_neg q, if_neg (fun z => q (h.mp z))]

set_option maxHeartbeats 4000000 in
set_option maxRecDepth 100000 in
theorem c_X5_isIn (l : Launch) (G : wG) (v lo hi : Int32)  : Met l yX5_isIn wsX5_isIn ({ frames := 0, cells := 0, slots := 0, locals := 0 } : Room) (Pc0 G [.int v, .int lo, .int hi] (fun _ => True)) (Qi0 (if ¬ v < lo ∧ v ≤ hi then 1 else 0) (fun _ => True) (fun _ => False)) 0 0 (fun _ => False) := by
  refine Met.ofW (cc := cX5_isIn) (maxL := 3) (ret := (some .boolean)) (by decide) rfl ?_
  intro pg ev s mid args below meth cd s₁ B hml hv0
  obtain ⟨rfl, hW, hK⟩ := hv0
  have hx := B.exec
  have hb := B.bytes
  have hr := B.returns
  have hts := atoms_spec (ws := wsX5_isIn) B.pre
  have hown : s.vm.findClass RX5 = some mid.cls := findClass_of_methodNamed B.named
  have hlocks := B.notSynchronized
  have hS : va_S (fun _ => False) s.heap s.heap [] := va_S.rf
  have hl := lv_entry ([.int v, .int lo, .int hi]) (n := 3) (Nat.le_of_ble_eq_true rfl)
  rw [lg_entry_eq]
  generalize (lg_sl ([.int v, .int lo, .int hi]) ++ List.replicate (3 - (lg_sl ([.int v, .int lo, .int hi])).length) Slot.unset).toArray = ls at hl ⊢
  have hl : lv_has ls 3 [(0, .int v), (1, .int lo), (2, .int hi)] := hl
  refine lv_iload_n hx hb dX5_isIn_0 rfl (lv_at hl 0 rfl) ?_
  refine lv_iload_n hx hb dX5_isIn_1 rfl (lv_at hl 1 rfl) ?_
  refine lv_icmp_lt (tgt := 14) hx hb dX5_isIn_2 (by decide) (fun c2 => ?_) (fun c2 => ?_)
  · skip
    refine lv_iconst (v := 0) hx hb dX5_isIn_14 (by decide) ?_
    exact xZ hx hb hr hlocks trivial hS ((if_neg (fun q => by first | exact q.1 c2 | exact Int32.not_lt.mpr q.2 c7)).symm) rfl dX5_isIn_15
  · skip
    refine lv_iload_n hx hb dX5_isIn_5 rfl (lv_at hl 0 rfl) ?_
    refine lv_iload_n hx hb dX5_isIn_6 rfl (lv_at hl 2 rfl) ?_
    refine lv_icmp_gt (tgt := 14) hx hb dX5_isIn_7 (by decide) (fun c7 => ?_) (fun c7 => ?_)
    · skip
      refine lv_iconst (v := 0) hx hb dX5_isIn_14 (by decide) ?_
      exact xZ hx hb hr hlocks trivial hS ((if_neg (fun q => by first | exact q.1 c2 | exact Int32.not_lt.mpr q.2 c7)).symm) rfl dX5_isIn_15
    · skip
      refine lv_iconst (v := 1) hx hb dX5_isIn_10 (by decide) ?_
      refine lv_goto (tgt := 15) hx hb dX5_isIn_11 (by decide) ?_
      exact xZ hx hb hr hlocks trivial hS ((if_pos ⟨c2, Int32.not_lt.mp c7⟩).symm) rfl dX5_isIn_15

set_option maxHeartbeats 4000000 in
set_option maxRecDepth 100000 in
theorem c_X5_isHouse (l : Launch) (G : wG) (ma : Nat) (ad ad2 : Nat → Nat) (hI : MI ma ad ad2) (nH nP : Nat) (hH : nH ≤ 10) (hP : nP ≤ 3) (δ τ σ2 : wS) (t : Int32) (nz : Nat) (x : Int32) (h51 : τ 51 0 = nI nH) : Met l yX5_isHouse wsX5_isHouse ({ frames := 1, cells := 0, slots := 0, locals := 22 } : Room) (PcM G [.ref ma, .int x] nz (MW G ma ad ad2 t (wmx nH nP δ τ) σ2)) (Qi0 (if ¬ x < 0 ∧ ¬ nI nH ≤ x then 1 else 0) (MW G ma ad ad2 t (wmx nH nP δ τ) σ2) (fun _ => False)) 0 0 (fun _ => False) := by
  refine Met.ofW (cc := cX5_isHouse) (maxL := 2) (ret := (some .boolean)) (by decide) rfl ?_
  intro pg ev s mid args below meth cd s₁ B hml hv0
  obtain ⟨rfl, rfl, hW, hK, hN⟩ := hv0
  have hx := B.exec
  have hb := B.bytes
  have hr := B.returns
  have hts := atoms_spec (ws := wsX5_isHouse) B.pre
  have hown : s.vm.findClass RX5 = some mid.cls := findClass_of_methodNamed B.named
  have hlocks := B.notSynchronized
  have hi4 : ∀ w ∈ wsX40, w ∈ wsX5_isHouse := by decide +kernel
  have hi5 : ∀ w ∈ wsX50, w ∈ wsX5_isHouse := by decide +kernel
  have k10 := hts (.fieldLink RX5 10 "PumpRosterModel" "s" "LPumpRosterModel$State;") (by decide +kernel)
  have hS : va_S (fun _ => False) s.heap s.heap [] := va_S.rf
  have hl := lv_entry ([.ref ma, .int x]) (n := 2) (Nat.le_of_ble_eq_true rfl)
  rw [lg_entry_eq]
  generalize (lg_sl ([.ref ma, .int x]) ++ List.replicate (2 - (lg_sl ([.ref ma, .int x])).length) Slot.unset).toArray = ls at hl ⊢
  have hl : lv_has ls 2 [(0, .ref ma), (1, .int x)] := hl
  refine lv_iload_n hx hb dX5_isHouse_0 rfl (lv_at hl 1 rfl) ?_
  refine lv_iconst (v := 0) hx hb dX5_isHouse_1 (by decide) ?_
  refine lv_aload_n hx hb dX5_isHouse_2 rfl (lv_at hl 0 rfl) ?_
  refine rM0 hx hb hts hi5 hown hK hW k10 dX5_isHouse_3 ?_
  refine rSiN 1 (f := 51) (v := nI nH) hx hb hts hi4 hown hK hW.2.1 (by decide) rfl h51 (va_Nw.use rfl hN.2.1) dX5_isHouse_6 ?_
  refine lv_iconst (v := 1) hx hb dX5_isHouse_9 (by decide) ?_
  refine lv_isub hx hb dX5_isHouse_10 ?_
  refine kI (va_runS (As := [.int x, .int 0, .int ((nI nH) - 1)]) (rest := []) ⟨hx, hb, hml, hown, hts⟩ (c_X5_isIn l G x 0 ((nI nH) - 1)) (va_cwS 3 hts gX5_isHouse_X5_isIn rfl rfl rfl (by decide +kernel) ⟨Nat.le_of_ble_eq_true rfl, Nat.le_of_ble_eq_true rfl⟩) ⟨Pc0.blind, Pc0.pre trivial hK⟩ rfl rfl hl.1 rfl (lv_room (Nat.le_of_ble_eq_true rfl)) dX5_isHouse_11 ⟨Nat.le_of_ble_eq_true rfl, Nat.le_of_ble_eq_true rfl⟩) hS (fun q _ h => h.elim) (fun q h => h.elim) (fun H locs hB _ hk hS => ?_)
  have hW := hW.kept (fun q hq => hk q hq (fun h => h))
  exact xZ hx hb hr hlocks hW hS (ite_iff (show (¬ x < 0 ∧ x ≤ nI nH - 1) ↔ (¬ x < 0 ∧ ¬ nI nH ≤ x) from (and_congr Iff.rfl (le_sub1 (by omega))))) (by split <;> rfl) dX5_isHouse_14

set_option maxHeartbeats 4000000 in
set_option maxRecDepth 100000 in
theorem c_X5_isPump (l : Launch) (G : wG) (ma : Nat) (ad ad2 : Nat → Nat) (hI : MI ma ad ad2) (nH nP : Nat) (hH : nH ≤ 10) (hP : nP ≤ 3) (δ τ σ2 : wS) (t : Int32) (nz : Nat) (x : Int32) (h52 : τ 52 0 = nI nP) : Met l yX5_isPump wsX5_isPump ({ frames := 1, cells := 0, slots := 0, locals := 22 } : Room) (PcM G [.ref ma, .int x] nz (MW G ma ad ad2 t (wmx nH nP δ τ) σ2)) (Qi0 (if ¬ x < 0 ∧ x < nI nP then 1 else 0) (MW G ma ad ad2 t (wmx nH nP δ τ) σ2) (fun _ => False)) 0 0 (fun _ => False) := by
  refine Met.ofW (cc := cX5_isPump) (maxL := 2) (ret := (some .boolean)) (by decide) rfl ?_
  intro pg ev s mid args below meth cd s₁ B hml hv0
  obtain ⟨rfl, rfl, hW, hK, hN⟩ := hv0
  have hx := B.exec
  have hb := B.bytes
  have hr := B.returns
  have hts := atoms_spec (ws := wsX5_isPump) B.pre
  have hown : s.vm.findClass RX5 = some mid.cls := findClass_of_methodNamed B.named
  have hlocks := B.notSynchronized
  have hi4 : ∀ w ∈ wsX40, w ∈ wsX5_isPump := by decide +kernel
  have hi5 : ∀ w ∈ wsX50, w ∈ wsX5_isPump := by decide +kernel
  have k10 := hts (.fieldLink RX5 10 "PumpRosterModel" "s" "LPumpRosterModel$State;") (by decide +kernel)
  have hS : va_S (fun _ => False) s.heap s.heap [] := va_S.rf
  have hl := lv_entry ([.ref ma, .int x]) (n := 2) (Nat.le_of_ble_eq_true rfl)
  rw [lg_entry_eq]
  generalize (lg_sl ([.ref ma, .int x]) ++ List.replicate (2 - (lg_sl ([.ref ma, .int x])).length) Slot.unset).toArray = ls at hl ⊢
  have hl : lv_has ls 2 [(0, .ref ma), (1, .int x)] := hl
  refine lv_iload_n hx hb dX5_isPump_0 rfl (lv_at hl 1 rfl) ?_
  refine lv_iconst (v := 0) hx hb dX5_isPump_1 (by decide) ?_
  refine lv_aload_n hx hb dX5_isPump_2 rfl (lv_at hl 0 rfl) ?_
  refine rM0 hx hb hts hi5 hown hK hW k10 dX5_isPump_3 ?_
  refine rSiN 3 (f := 52) (v := nI nP) hx hb hts hi4 hown hK hW.2.1 (by decide) rfl h52 (va_Nw.use rfl hN.2.2.2.1) dX5_isPump_6 ?_
  refine lv_iconst (v := 1) hx hb dX5_isPump_9 (by decide) ?_
  refine lv_isub hx hb dX5_isPump_10 ?_
  refine kI (va_runS (As := [.int x, .int 0, .int ((nI nP) - 1)]) (rest := []) ⟨hx, hb, hml, hown, hts⟩ (c_X5_isIn l G x 0 ((nI nP) - 1)) (va_cwS 3 hts gX5_isPump_X5_isIn rfl rfl rfl (by decide +kernel) ⟨Nat.le_of_ble_eq_true rfl, Nat.le_of_ble_eq_true rfl⟩) ⟨Pc0.blind, Pc0.pre trivial hK⟩ rfl rfl hl.1 rfl (lv_room (Nat.le_of_ble_eq_true rfl)) dX5_isPump_11 ⟨Nat.le_of_ble_eq_true rfl, Nat.le_of_ble_eq_true rfl⟩) hS (fun q _ h => h.elim) (fun q h => h.elim) (fun H locs hB _ hk hS => ?_)
  have hW := hW.kept (fun q hq => hk q hq (fun h => h))
  exact xZ hx hb hr hlocks hW hS (ite_iff (show (¬ x < 0 ∧ x ≤ nI nP - 1) ↔ (¬ x < 0 ∧ x < nI nP) from (and_congr Iff.rfl ((le_sub1 (by omega)).trans Int32.not_le)))) (by split <;> rfl) dX5_isPump_14

set_option maxHeartbeats 4000000 in
set_option maxRecDepth 100000 in
theorem c_X5_no (l : Launch) (G : wG) (ma : Nat) (ad ad2 : Nat → Nat) (hI : MI ma ad ad2) (nH nP : Nat) (hH : nH ≤ 10) (hP : nP ≤ 3) (δ τ σ2 : wS) (t : Int32) (nz : Nat) (x : Int32)  : Met l yX5_no wsX5_no ({ frames := 0, cells := 0, slots := 0, locals := 0 } : Room) (PcM G [.ref ma, .int x] nz (MW G ma ad ad2 t (wmx nH nP δ τ) σ2)) (Qi0 0 (MW G ma ad ad2 x (wmx nH nP δ τ) σ2) (AM ma ad ad2 nz)) 0 0 (AM ma ad ad2 nz) := by
  refine Met.ofW (cc := cX5_no) (maxL := 2) (ret := (some .int)) (by decide) rfl ?_
  intro pg ev s mid args below meth cd s₁ B hml hv0
  obtain ⟨rfl, rfl, hW, hK, hN⟩ := hv0
  have hx := B.exec
  have hb := B.bytes
  have hr := B.returns
  have hts := atoms_spec (ws := wsX5_no) B.pre
  have hown : s.vm.findClass RX5 = some mid.cls := findClass_of_methodNamed B.named
  have hlocks := B.notSynchronized
  have hi5 : ∀ w ∈ wsX50, w ∈ wsX5_no := by decide +kernel
  have k19 := hts (.fieldLink RX5 19 "PumpRosterModel" "thrown" "I") (by decide +kernel)
  have hS : va_S (AM ma ad ad2 s.heap.size) s.heap s.heap [] := va_S.rf
  have hl := lv_entry ([.ref ma, .int x]) (n := 2) (Nat.le_of_ble_eq_true rfl)
  rw [lg_entry_eq]
  generalize (lg_sl ([.ref ma, .int x]) ++ List.replicate (2 - (lg_sl ([.ref ma, .int x])).length) Slot.unset).toArray = ls at hl ⊢
  have hl : lv_has ls 2 [(0, .ref ma), (1, .int x)] := hl
  refine lv_aload_n hx hb dX5_no_0 rfl (lv_at hl 0 rfl) ?_
  refine lv_iload_n hx hb dX5_no_1 rfl (lv_at hl 1 rfl) ?_
  refine wMt hx hb hts hi5 hown hK hI hW hS (Or.inr (Or.inr (Or.inl rfl))) k19 dX5_no_2 (fun H locs hW hS => ?_)
  refine lv_iconst (v := 0) hx hb dX5_no_5 (by decide) ?_
  exact xI hx hb hr hlocks hW hS rfl dX5_no_6

set_option maxHeartbeats 4000000 in
set_option maxRecDepth 100000 in
theorem c_X5_thrown (l : Launch) (G : wG) (ma : Nat) (ad ad2 : Nat → Nat) (hI : MI ma ad ad2) (nH nP : Nat) (hH : nH ≤ 10) (hP : nP ≤ 3) (δ τ σ2 : wS) (t : Int32) (nz : Nat)  : Met l yX5_thrown wsX5_thrown ({ frames := 0, cells := 0, slots := 0, locals := 0 } : Room) (PcM G [.ref ma] nz (MW G ma ad ad2 t (wmx nH nP δ τ) σ2)) (Qi0 t (MW G ma ad ad2 t (wmx nH nP δ τ) σ2) (fun _ => False)) 0 0 (fun _ => False) := by
  refine Met.ofW (cc := cX5_thrown) (maxL := 1) (ret := (some .int)) (by decide) rfl ?_
  intro pg ev s mid args below meth cd s₁ B hml hv0
  obtain ⟨rfl, rfl, hW, hK, hN⟩ := hv0
  have hx := B.exec
  have hb := B.bytes
  have hr := B.returns
  have hts := atoms_spec (ws := wsX5_thrown) B.pre
  have hown : s.vm.findClass RX5 = some mid.cls := findClass_of_methodNamed B.named
  have hlocks := B.notSynchronized
  have hi5 : ∀ w ∈ wsX50, w ∈ wsX5_thrown := by decide +kernel
  have k19 := hts (.fieldLink RX5 19 "PumpRosterModel" "thrown" "I") (by decide +kernel)
  have hS : va_S (fun _ => False) s.heap s.heap [] := va_S.rf
  have hl := lv_entry ([.ref ma]) (n := 1) (Nat.le_of_ble_eq_true rfl)
  rw [lg_entry_eq]
  generalize (lg_sl ([.ref ma]) ++ List.replicate (1 - (lg_sl ([.ref ma])).length) Slot.unset).toArray = ls at hl ⊢
  have hl : lv_has ls 1 [(0, .ref ma)] := hl
  refine lv_aload_n hx hb dX5_thrown_0 rfl (lv_at hl 0 rfl) ?_
  refine rMt hx hb hts hi5 hown hK hW k19 dX5_thrown_1 ?_
  exact xI hx hb hr hlocks hW hS rfl dX5_thrown_4
