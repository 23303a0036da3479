def sel {α : Type} : Nat → α → α → α
  | 0, a, _ => a
  | _ + 1, _, b => b
/-- a call of the reference: outcome u (0: it answers v; else the number of what is thrown) -/
def Qmi (P : Nat → Prop) (v : Int32) (W : Nat → Heap → Prop) (A : Nat → Prop) : Array Value → State → Outcome → State → Prop := va_Qi (S := Nat) (fun r u => P u ∧ (u = 0 → r = v)) (fun u t => W u t.heap) A
section ZE
variable {p : Program} {l : Launch} {e : Env} {R : Room} {s : State} {m : MethodId} {args : Array Value} {below : List Frame} {meth : Method} {c : Code} {H : Heap} {locs : List Loc} {cells slots : Nat}
variable {cc : ByteArray} {pc : Nat} {ls : Array Slot} {A : Nat → Prop} {P : Nat → Prop} {W0 : Nat → Heap → Prop} {mc ms : Nat}
theorem zI {v w : Int32} (u : Nat) (hexec : p.tables.exec = Jvm.exec) (hb : c.code = cc) (hr : meth.sig.returnType = some .int) (hlocks : meth.locks = false) (hP : P u) (hB : W0 u H) (hS : va_S A s.heap H locs) (hv : u = 0 → v = w) (hdg : decode cc pc = .ok (.ireturn, 1)) :
    W p l e R s m args below meth c H locs cells slots (MQ below (Qmi P w W0 A) args s cells slots A) (F0 m pc ls [.int v]) :=
  W.iret hexec hb hr (fun t ht hW => ⟨⟨_, u, rfl, ⟨hP, hv⟩, by show W0 u t.heap; rw [ht]; exact hB⟩, hS.F ht⟩) hS.2.2 hdg
end ZE

theorem AM_sub {ma : Nat} {ad ad2 : Nat → Nat} {s : State} {H : Heap} {locs : List Loc} {q : Nat} (hS : va_S (AM ma ad ad2 s.heap.size) s.heap H locs) (h : AM ma ad ad2 H.size q) : AM ma ad ad2 s.heap.size q :=
  h.elim Or.inl (fun h => h.elim (fun h => Or.inr (Or.inl h)) (fun h => h.elim (fun h => Or.inr (Or.inr (Or.inl h))) (fun h => Or.inr (Or.inr (Or.inr (Nat.le_trans hS.1 h))))))

set_option maxHeartbeats 4000000 in
set_option maxRecDepth 100000 in
theorem c_X5_lodge (l : Launch) (G : wG) (ma : Nat) (ad ad2 : Nat → Nat) (hI : MI ma ad ad2) (nH nP : Nat) (hH : nH ≤ 10) (hP : nP ≤ 3) (δ τ z : wS) (t : Int32) (nz : Nat) (x y : Int32) (hv : Inv nH nP τ) : Met l yX5_lodge wsX5_lodge ({ frames := 2, cells := 0, slots := 0, locals := 43 } : Room) (PcM G [.ref ma, .int x, .int y] nz (MWz G ma ad ad2 t (wmx nH nP δ τ) z)) (Qmi (fun u => (u = 0 ∧ hOk nH x ∧ inn 0 9 y) ∨ (u = 1 ∧ ¬ (hOk nH x)) ∨ (u = 2 ∧ hOk nH x ∧ ¬ (inn 0 9 y))) (τ 0 (cl x)) (fun u => MWz G ma ad ad2 (nI u) (wmx nH nP δ (sel u (wst τ 0 (cl x) y) τ)) (sel u (z) z)) (AM ma ad ad2 nz)) 0 0 (AM ma ad ad2 nz) := by
  refine Met.ofW (cc := cX5_lodge) (maxL := 4) (ret := (some .int)) (by decide) rfl ?_
  intro pg ev s mid args below meth cd s₁ B hml hv0
  obtain ⟨rfl, rfl, hW, hK, hN⟩ := hv0
  have hx := B.exec
  have hb := B.bytes
  have hr := B.returns
  have hts := atoms_spec (ws := wsX5_lodge) B.pre
  have hown : s.vm.findClass RX5 = some mid.cls := findClass_of_methodNamed B.named
  have hlocks := B.notSynchronized
  have hi4 : ∀ w ∈ wsX40, w ∈ wsX5_lodge := by decide +kernel
  have hi5 : ∀ w ∈ wsX50, w ∈ wsX5_lodge := by decide +kernel
  have k19 := hts (.fieldLink RX5 19 "PumpRosterModel" "thrown" "I") (by decide +kernel)
  have k10 := hts (.fieldLink RX5 10 "PumpRosterModel" "s" "LPumpRosterModel$State;") (by decide +kernel)
  have hS : va_S (AM ma ad ad2 s.heap.size) s.heap s.heap [] := va_S.rf
  have hl := lv_entry ([.ref ma, .int x, .int y]) (n := 4) (Nat.le_of_ble_eq_true rfl)
  rw [lg_entry_eq]
  generalize (lg_sl ([.ref ma, .int x, .int y]) ++ List.replicate (4 - (lg_sl ([.ref ma, .int x, .int y])).length) Slot.unset).toArray = ls at hl ⊢
  have hl : lv_has ls 4 [(0, .ref ma), (1, .int x), (2, .int y)] := hl
  obtain ⟨σ2, hW, hz⟩ := hW
  refine lv_aload_n hx hb dX5_lodge_0 rfl (lv_at hl 0 rfl) ?_
  refine lv_iconst (v := 0) hx hb dX5_lodge_1 (by decide) ?_
  refine wMt hx hb hts hi5 hown hK hI hW hS (Or.inr (Or.inr (Or.inl rfl))) k19 dX5_lodge_2 (fun H locs hW hS => ?_)
  refine lv_aload_n hx hb dX5_lodge_5 rfl (lv_at hl 0 rfl) ?_
  refine lv_iload_n hx hb dX5_lodge_6 rfl (lv_at hl 1 rfl) ?_
  refine kI (va_runV (As := [.int x]) (rest := []) ⟨hx, hb, hml, hown, hts⟩ (c_X5_isHouse l G ma ad ad2 hI nH nP hH hP δ τ σ2 0 H.size x hv.2.2.1) (cwV 1 hts gX5_lodge_X5_isHouse rfl rfl rfl (by decide +kernel) ⟨Nat.le_of_ble_eq_true rfl, Nat.le_of_ble_eq_true rfl⟩) ⟨PcM.blind, va_recv hK (va_P1 (hW.1)) (ci := 5) (q0 := 0) rfl rfl, PcM.pre hW hK hN⟩ rfl rfl hl.1 rfl (lv_room (Nat.le_of_ble_eq_true rfl)) dX5_lodge_7 ⟨Nat.le_of_ble_eq_true rfl, Nat.le_of_ble_eq_true rfl⟩) hS (fun q _ h => h.elim) (fun q h => h.elim) (fun H locs hB _ hk hS => ?_)
  have hW := hW.kept (fun q hq => hk q hq (fun h => h))
  refine lv_if_ne (tgt := 19) hx hb dX5_lodge_10 (by decide) (fun c10 => ?_) (fun c10 => ?_)
  · skip
    replace c10 := b1 c10
    have o1 : hOk nH x := c10
    obtain ⟨h, hh, rfl⟩ := hOk_nI o1 hH
    refine lv_iload_n hx hb dX5_lodge_19 rfl (lv_at hl 2 rfl) ?_
    refine lv_iconst (v := 0) hx hb dX5_lodge_20 (by decide) ?_
    refine lv_bipush (v := 9) hx hb dX5_lodge_21 (by decide) ?_
    refine kI (va_runS (As := [.int y, .int 0, .int 9]) (rest := []) ⟨hx, hb, hml, hown, hts⟩ (c_X5_isIn l G y 0 9) (va_cwS 3 hts gX5_lodge_X5_isIn rfl rfl rfl (by decide +kernel) ⟨Nat.le_of_ble_eq_true rfl, Nat.le_of_ble_eq_true rfl⟩) ⟨Pc0.blind, Pc0.pre trivial hK⟩ rfl rfl hl.1 rfl (lv_room (Nat.le_of_ble_eq_true rfl)) dX5_lodge_23 ⟨Nat.le_of_ble_eq_true rfl, Nat.le_of_ble_eq_true rfl⟩) hS (fun q _ h => h.elim) (fun q h => h.elim) (fun H locs hB _ hk hS => ?_)
    have hW := hW.kept (fun q hq => hk q hq (fun h => h))
    refine lv_if_ne (tgt := 35) hx hb dX5_lodge_26 (by decide) (fun c26 => ?_) (fun c26 => ?_)
    · skip
      replace c26 := b1 c26
      have o2 := c26
      refine lv_aload_n hx hb dX5_lodge_35 rfl (lv_at hl 0 rfl) ?_
      refine rM0 hx hb hts hi5 hown hK hW k10 dX5_lodge_36 ?_
      refine rSfN 2 (j := 1) hx hb hts hi4 hown hK hW.2.1 (by decide) rfl (va_Nw.use rfl hN.2.2.1) dX5_lodge_39 ?_
      refine lv_bipush (v := 11) hx hb dX5_lodge_42 (by decide) ?_
      refine lv_iload_n hx hb dX5_lodge_44 rfl (lv_at hl 1 rfl) ?_
      refine lv_imul hx hb dX5_lodge_45 ?_
      refine lv_topi (fun y1 ey1 => ?_)
      obtain rfl : y1 = nI (11 * h) := ey1.trans (pk_mul 11 h)
      refine rSh (h := h) (f := 0) (v := τ 0 h) hx hb hK hW.2.1 (by omega) (by omega) (by omega) hH rfl dX5_lodge_46 ?_
      refine lv_istore_n (lv' := [(3, .int (τ 0 h)), (0, .ref ma), (1, .int (nI h)), (2, .int y)]) hx hb dX5_lodge_47 rfl hl (by decide) rfl (fun ls hl => ?_)
      refine lv_aload_n hx hb dX5_lodge_48 rfl (lv_at hl 1 rfl) ?_
      refine rM0 hx hb hts hi5 hown hK hW k10 dX5_lodge_49 ?_
      refine rSfN 2 (j := 1) hx hb hts hi4 hown hK hW.2.1 (by decide) rfl (va_Nw.use rfl hN.2.2.1) dX5_lodge_52 ?_
      refine lv_bipush (v := 11) hx hb dX5_lodge_55 (by decide) ?_
      refine lv_iload_n hx hb dX5_lodge_57 rfl (lv_at hl 2 rfl) ?_
      refine lv_imul hx hb dX5_lodge_58 ?_
      refine lv_topi (fun y2 ey2 => ?_)
      obtain rfl : y2 = nI (11 * h) := ey2.trans (pk_mul 11 h)
      refine lv_iload_n hx hb dX5_lodge_59 rfl (lv_at hl 3 rfl) ?_
      refine wSh (h := h) (f := 0) hx hb hK hI.1 hW.2.1 hS (fun _ q => Or.inl q) (by omega) (by omega) (by omega) hH dX5_lodge_60 (fun H locs hV hk hS => ?_)
      have hW := hW.main hI hV hk
      refine lv_iload_n hx hb dX5_lodge_61 rfl (lv_at hl 0 rfl) ?_
      exact zI 0 hx hb hr hlocks (Or.inl ⟨rfl, o1, o2⟩) ((by show MWz G ma ad ad2 (nI 0) (wmx nH nP δ (wst τ 0 (cl (nI h)) y)) z H; rw [show cl (nI h) = h from nI_clamp (by omega)]; exact ⟨_, hW, hz⟩)) hS (fun q => (by rw [show cl (nI h) = h from nI_clamp (by omega)])) dX5_lodge_62
    · skip
      replace c26 := b0 c26
      refine lv_aload_n hx hb dX5_lodge_29 rfl (lv_at hl 0 rfl) ?_
      refine lv_iconst (v := 2) hx hb dX5_lodge_30 (by decide) ?_
      refine kI (va_runV (As := [.int 2]) (rest := []) ⟨hx, hb, hml, hown, hts⟩ (c_X5_no l G ma ad ad2 hI nH nP hH hP δ τ σ2 0 H.size 2) (cwV 1 hts gX5_lodge_X5_no rfl rfl rfl (by decide +kernel) ⟨Nat.le_of_ble_eq_true rfl, Nat.le_of_ble_eq_true rfl⟩) ⟨PcM.blind, va_recv hK (va_P1 (hW.1)) (ci := 5) (q0 := 0) rfl rfl, PcM.pre hW hK hN⟩ rfl rfl hl.1 rfl (lv_room (Nat.le_of_ble_eq_true rfl)) dX5_lodge_31 ⟨Nat.le_of_ble_eq_true rfl, Nat.le_of_ble_eq_true rfl⟩) hS (fun q _ h => AM_sub hS h) (fun q h => AM_sub hS h) (fun H locs hB _ hk hS => ?_)
      have hW := hB
      exact zI 2 hx hb hr hlocks (Or.inr (Or.inr ⟨rfl, o1, c26⟩)) (⟨_, hW, hz⟩) hS (fun q => absurd q (by decide)) dX5_lodge_34
  · skip
    replace c10 := b0 c10
    refine lv_aload_n hx hb dX5_lodge_13 rfl (lv_at hl 0 rfl) ?_
    refine lv_iconst (v := 1) hx hb dX5_lodge_14 (by decide) ?_
    refine kI (va_runV (As := [.int 1]) (rest := []) ⟨hx, hb, hml, hown, hts⟩ (c_X5_no l G ma ad ad2 hI nH nP hH hP δ τ σ2 0 H.size 1) (cwV 1 hts gX5_lodge_X5_no rfl rfl rfl (by decide +kernel) ⟨Nat.le_of_ble_eq_true rfl, Nat.le_of_ble_eq_true rfl⟩) ⟨PcM.blind, va_recv hK (va_P1 (hW.1)) (ci := 5) (q0 := 0) rfl rfl, PcM.pre hW hK hN⟩ rfl rfl hl.1 rfl (lv_room (Nat.le_of_ble_eq_true rfl)) dX5_lodge_15 ⟨Nat.le_of_ble_eq_true rfl, Nat.le_of_ble_eq_true rfl⟩) hS (fun q _ h => AM_sub hS h) (fun q h => AM_sub hS h) (fun H locs hB _ hk hS => ?_)
    have hW := hB
    exact zI 1 hx hb hr hlocks (Or.inr (Or.inl ⟨rfl, c10⟩)) (⟨_, hW, hz⟩) hS (fun q => absurd q (by decide)) dX5_lodge_18

set_option maxHeartbeats 4000000 in
set_option maxRecDepth 100000 in
theorem c_X5_leave (l : Launch) (G : wG) (ma : Nat) (ad ad2 : Nat → Nat) (hI : MI ma ad ad2) (nH nP : Nat) (hH : nH ≤ 10) (hP : nP ≤ 3) (δ τ z : wS) (t : Int32) (nz : Nat) (x y : Int32) (hv : Inv nH nP τ) : Met l yX5_leave wsX5_leave ({ frames := 2, cells := 0, slots := 0, locals := 43 } : Room) (PcM G [.ref ma, .int x, .int y] nz (MWz G ma ad ad2 t (wmx nH nP δ τ) z)) (Qmi (fun u => (u = 0 ∧ hOk nH x ∧ inn 0 30 y) ∨ (u = 1 ∧ ¬ (hOk nH x)) ∨ (u = 2 ∧ hOk nH x ∧ ¬ (inn 0 30 y))) (τ 6 (cl x)) (fun u => MWz G ma ad ad2 (nI u) (wmx nH nP δ (sel u (wst τ 6 (cl x) y) τ)) (sel u (z) z)) (AM ma ad ad2 nz)) 0 0 (AM ma ad ad2 nz) := by
  refine Met.ofW (cc := cX5_leave) (maxL := 4) (ret := (some .int)) (by decide) rfl ?_
  intro pg ev s mid args below meth cd s₁ B hml hv0
  obtain ⟨rfl, rfl, hW, hK, hN⟩ := hv0
  have hx := B.exec
  have hb := B.bytes
  have hr := B.returns
  have hts := atoms_spec (ws := wsX5_leave) B.pre
  have hown : s.vm.findClass RX5 = some mid.cls := findClass_of_methodNamed B.named
  have hlocks := B.notSynchronized
  have hi4 : ∀ w ∈ wsX40, w ∈ wsX5_leave := by decide +kernel
  have hi5 : ∀ w ∈ wsX50, w ∈ wsX5_leave := by decide +kernel
  have k19 := hts (.fieldLink RX5 19 "PumpRosterModel" "thrown" "I") (by decide +kernel)
  have k10 := hts (.fieldLink RX5 10 "PumpRosterModel" "s" "LPumpRosterModel$State;") (by decide +kernel)
  have hS : va_S (AM ma ad ad2 s.heap.size) s.heap s.heap [] := va_S.rf
  have hl := lv_entry ([.ref ma, .int x, .int y]) (n := 4) (Nat.le_of_ble_eq_true rfl)
  rw [lg_entry_eq]
  generalize (lg_sl ([.ref ma, .int x, .int y]) ++ List.replicate (4 - (lg_sl ([.ref ma, .int x, .int y])).length) Slot.unset).toArray = ls at hl ⊢
  have hl : lv_has ls 4 [(0, .ref ma), (1, .int x), (2, .int y)] := hl
  obtain ⟨σ2, hW, hz⟩ := hW
  refine lv_aload_n hx hb dX5_leave_0 rfl (lv_at hl 0 rfl) ?_
  refine lv_iconst (v := 0) hx hb dX5_leave_1 (by decide) ?_
  refine wMt hx hb hts hi5 hown hK hI hW hS (Or.inr (Or.inr (Or.inl rfl))) k19 dX5_leave_2 (fun H locs hW hS => ?_)
  refine lv_aload_n hx hb dX5_leave_5 rfl (lv_at hl 0 rfl) ?_
  refine lv_iload_n hx hb dX5_leave_6 rfl (lv_at hl 1 rfl) ?_
  refine kI (va_runV (As := [.int x]) (rest := []) ⟨hx, hb, hml, hown, hts⟩ (c_X5_isHouse l G ma ad ad2 hI nH nP hH hP δ τ σ2 0 H.size x hv.2.2.1) (cwV 1 hts gX5_leave_X5_isHouse rfl rfl rfl (by decide +kernel) ⟨Nat.le_of_ble_eq_true rfl, Nat.le_of_ble_eq_true rfl⟩) ⟨PcM.blind, va_recv hK (va_P1 (hW.1)) (ci := 5) (q0 := 0) rfl rfl, PcM.pre hW hK hN⟩ rfl rfl hl.1 rfl (lv_room (Nat.le_of_ble_eq_true rfl)) dX5_leave_7 ⟨Nat.le_of_ble_eq_true rfl, Nat.le_of_ble_eq_true rfl⟩) hS (fun q _ h => h.elim) (fun q h => h.elim) (fun H locs hB _ hk hS => ?_)
  have hW := hW.kept (fun q hq => hk q hq (fun h => h))
  refine lv_if_ne (tgt := 19) hx hb dX5_leave_10 (by decide) (fun c10 => ?_) (fun c10 => ?_)
  · skip
    replace c10 := b1 c10
    have o1 : hOk nH x := c10
    obtain ⟨h, hh, rfl⟩ := hOk_nI o1 hH
    refine lv_iload_n hx hb dX5_leave_19 rfl (lv_at hl 2 rfl) ?_
    refine lv_iconst (v := 0) hx hb dX5_leave_20 (by decide) ?_
    refine lv_bipush (v := 30) hx hb dX5_leave_21 (by decide) ?_
    refine kI (va_runS (As := [.int y, .int 0, .int 30]) (rest := []) ⟨hx, hb, hml, hown, hts⟩ (c_X5_isIn l G y 0 30) (va_cwS 3 hts gX5_leave_X5_isIn rfl rfl rfl (by decide +kernel) ⟨Nat.le_of_ble_eq_true rfl, Nat.le_of_ble_eq_true rfl⟩) ⟨Pc0.blind, Pc0.pre trivial hK⟩ rfl rfl hl.1 rfl (lv_room (Nat.le_of_ble_eq_true rfl)) dX5_leave_23 ⟨Nat.le_of_ble_eq_true rfl, Nat.le_of_ble_eq_true rfl⟩) hS (fun q _ h => h.elim) (fun q h => h.elim) (fun H locs hB _ hk hS => ?_)
    have hW := hW.kept (fun q hq => hk q hq (fun h => h))
    refine lv_if_ne (tgt := 35) hx hb dX5_leave_26 (by decide) (fun c26 => ?_) (fun c26 => ?_)
    · skip
      replace c26 := b1 c26
      have o2 := c26
      refine lv_aload_n hx hb dX5_leave_35 rfl (lv_at hl 0 rfl) ?_
      refine rM0 hx hb hts hi5 hown hK hW k10 dX5_leave_36 ?_
      refine rSfN 2 (j := 1) hx hb hts hi4 hown hK hW.2.1 (by decide) rfl (va_Nw.use rfl hN.2.2.1) dX5_leave_39 ?_
      refine lv_bipush (v := 11) hx hb dX5_leave_42 (by decide) ?_
      refine lv_iload_n hx hb dX5_leave_44 rfl (lv_at hl 1 rfl) ?_
      refine lv_imul hx hb dX5_leave_45 ?_
      refine lv_topi (fun y1 ey1 => ?_)
      obtain rfl : y1 = nI (11 * h) := ey1.trans (pk_mul 11 h)
      refine lv_bipush (v := 6) hx hb dX5_leave_46 (by decide) ?_
      refine lv_iadd hx hb dX5_leave_48 ?_
      refine lv_topi (fun y2 ey2 => ?_)
      obtain rfl : y2 = nI (11 * h + 6) := ey2.trans (nI_add (11 * h) 6)
      refine rSh (h := h) (f := 6) (v := τ 6 h) hx hb hK hW.2.1 (by omega) (by omega) (by omega) hH rfl dX5_leave_49 ?_
      refine lv_istore_n (lv' := [(3, .int (τ 6 h)), (0, .ref ma), (1, .int (nI h)), (2, .int y)]) hx hb dX5_leave_50 rfl hl (by decide) rfl (fun ls hl => ?_)
      refine lv_aload_n hx hb dX5_leave_51 rfl (lv_at hl 1 rfl) ?_
      refine rM0 hx hb hts hi5 hown hK hW k10 dX5_leave_52 ?_
      refine rSfN 2 (j := 1) hx hb hts hi4 hown hK hW.2.1 (by decide) rfl (va_Nw.use rfl hN.2.2.1) dX5_leave_55 ?_
      refine lv_bipush (v := 11) hx hb dX5_leave_58 (by decide) ?_
      refine lv_iload_n hx hb dX5_leave_60 rfl (lv_at hl 2 rfl) ?_
      refine lv_imul hx hb dX5_leave_61 ?_
      refine lv_topi (fun y3 ey3 => ?_)
      obtain rfl : y3 = nI (11 * h) := ey3.trans (pk_mul 11 h)
      refine lv_bipush (v := 6) hx hb dX5_leave_62 (by decide) ?_
      refine lv_iadd hx hb dX5_leave_64 ?_
      refine lv_topi (fun y4 ey4 => ?_)
      obtain rfl : y4 = nI (11 * h + 6) := ey4.trans (nI_add (11 * h) 6)
      refine lv_iload_n hx hb dX5_leave_65 rfl (lv_at hl 3 rfl) ?_
      refine wSh (h := h) (f := 6) hx hb hK hI.1 hW.2.1 hS (fun _ q => Or.inl q) (by omega) (by omega) (by omega) hH dX5_leave_66 (fun H locs hV hk hS => ?_)
      have hW := hW.main hI hV hk
      refine lv_iload_n hx hb dX5_leave_67 rfl (lv_at hl 0 rfl) ?_
      exact zI 0 hx hb hr hlocks (Or.inl ⟨rfl, o1, o2⟩) ((by show MWz G ma ad ad2 (nI 0) (wmx nH nP δ (wst τ 6 (cl (nI h)) y)) z H; rw [show cl (nI h) = h from nI_clamp (by omega)]; exact ⟨_, hW, hz⟩)) hS (fun q => (by rw [show cl (nI h) = h from nI_clamp (by omega)])) dX5_leave_68
    · skip
      replace c26 := b0 c26
      refine lv_aload_n hx hb dX5_leave_29 rfl (lv_at hl 0 rfl) ?_
      refine lv_iconst (v := 2) hx hb dX5_leave_30 (by decide) ?_
      refine kI (va_runV (As := [.int 2]) (rest := []) ⟨hx, hb, hml, hown, hts⟩ (c_X5_no l G ma ad ad2 hI nH nP hH hP δ τ σ2 0 H.size 2) (cwV 1 hts gX5_leave_X5_no rfl rfl rfl (by decide +kernel) ⟨Nat.le_of_ble_eq_true rfl, Nat.le_of_ble_eq_true rfl⟩) ⟨PcM.blind, va_recv hK (va_P1 (hW.1)) (ci := 5) (q0 := 0) rfl rfl, PcM.pre hW hK hN⟩ rfl rfl hl.1 rfl (lv_room (Nat.le_of_ble_eq_true rfl)) dX5_leave_31 ⟨Nat.le_of_ble_eq_true rfl, Nat.le_of_ble_eq_true rfl⟩) hS (fun q _ h => AM_sub hS h) (fun q h => AM_sub hS h) (fun H locs hB _ hk hS => ?_)
      have hW := hB
      exact zI 2 hx hb hr hlocks (Or.inr (Or.inr ⟨rfl, o1, c26⟩)) (⟨_, hW, hz⟩) hS (fun q => absurd q (by decide)) dX5_leave_34
  · skip
    replace c10 := b0 c10
    refine lv_aload_n hx hb dX5_leave_13 rfl (lv_at hl 0 rfl) ?_
    refine lv_iconst (v := 1) hx hb dX5_leave_14 (by decide) ?_
    refine kI (va_runV (As := [.int 1]) (rest := []) ⟨hx, hb, hml, hown, hts⟩ (c_X5_no l G ma ad ad2 hI nH nP hH hP δ τ σ2 0 H.size 1) (cwV 1 hts gX5_leave_X5_no rfl rfl rfl (by decide +kernel) ⟨Nat.le_of_ble_eq_true rfl, Nat.le_of_ble_eq_true rfl⟩) ⟨PcM.blind, va_recv hK (va_P1 (hW.1)) (ci := 5) (q0 := 0) rfl rfl, PcM.pre hW hK hN⟩ rfl rfl hl.1 rfl (lv_room (Nat.le_of_ble_eq_true rfl)) dX5_leave_15 ⟨Nat.le_of_ble_eq_true rfl, Nat.le_of_ble_eq_true rfl⟩) hS (fun q _ h => AM_sub hS h) (fun q h => AM_sub hS h) (fun H locs hB _ hk hS => ?_)
    have hW := hB
    exact zI 1 hx hb hr hlocks (Or.inr (Or.inl ⟨rfl, c10⟩)) (⟨_, hW, hz⟩) hS (fun q => absurd q (by decide)) dX5_leave_18

set_option maxHeartbeats 4000000 in
set_option maxRecDepth 100000 in
theorem c_X5_fine (l : Launch) (G : wG) (ma : Nat) (ad ad2 : Nat → Nat) (hI : MI ma ad ad2) (nH nP : Nat) (hH : nH ≤ 10) (hP : nP ≤ 3) (δ τ z : wS) (t : Int32) (nz : Nat) (x y : Int32) (hv : Inv nH nP τ) : Met l yX5_fine wsX5_fine ({ frames := 2, cells := 0, slots := 0, locals := 49 } : Room) (PcM G [.ref ma, .int x, .int y] nz (MWz G ma ad ad2 t (wmx nH nP δ τ) z)) (Qmi (fun u => (u = 0 ∧ hOk nH x ∧ inn 1 50 y) ∨ (u = 1 ∧ ¬ (hOk nH x)) ∨ (u = 2 ∧ hOk nH x ∧ ¬ (inn 1 50 y))) (paid (cl x) y τ) (fun u => MWz G ma ad ad2 (nI u) (wmx nH nP δ (sel u (chgF nP (cl x) y τ) τ)) (sel u (z) z)) (AM ma ad ad2 nz)) 0 0 (AM ma ad ad2 nz) := by
  refine Met.ofW (cc := cX5_fine) (maxL := 3) (ret := (some .int)) (by decide) rfl ?_
  intro pg ev s mid args below meth cd s₁ B hml hv0
  obtain ⟨rfl, rfl, hW, hK, hN⟩ := hv0
  have hx := B.exec
  have hb := B.bytes
  have hr := B.returns
  have hts := atoms_spec (ws := wsX5_fine) B.pre
  have hown : s.vm.findClass RX5 = some mid.cls := findClass_of_methodNamed B.named
  have hlocks := B.notSynchronized
  have hi5 : ∀ w ∈ wsX50, w ∈ wsX5_fine := by decide +kernel
  have k19 := hts (.fieldLink RX5 19 "PumpRosterModel" "thrown" "I") (by decide +kernel)
  have k10 := hts (.fieldLink RX5 10 "PumpRosterModel" "s" "LPumpRosterModel$State;") (by decide +kernel)
  have hS : va_S (AM ma ad ad2 s.heap.size) s.heap s.heap [] := va_S.rf
  have hl := lv_entry ([.ref ma, .int x, .int y]) (n := 3) (Nat.le_of_ble_eq_true rfl)
  rw [lg_entry_eq]
  generalize (lg_sl ([.ref ma, .int x, .int y]) ++ List.replicate (3 - (lg_sl ([.ref ma, .int x, .int y])).length) Slot.unset).toArray = ls at hl ⊢
  have hl : lv_has ls 3 [(0, .ref ma), (1, .int x), (2, .int y)] := hl
  obtain ⟨σ2, hW, hz⟩ := hW
  refine lv_aload_n hx hb dX5_fine_0 rfl (lv_at hl 0 rfl) ?_
  refine lv_iconst (v := 0) hx hb dX5_fine_1 (by decide) ?_
  refine wMt hx hb hts hi5 hown hK hI hW hS (Or.inr (Or.inr (Or.inl rfl))) k19 dX5_fine_2 (fun H locs hW hS => ?_)
  refine lv_aload_n hx hb dX5_fine_5 rfl (lv_at hl 0 rfl) ?_
  refine lv_iload_n hx hb dX5_fine_6 rfl (lv_at hl 1 rfl) ?_
  refine kI (va_runV (As := [.int x]) (rest := []) ⟨hx, hb, hml, hown, hts⟩ (c_X5_isHouse l G ma ad ad2 hI nH nP hH hP δ τ σ2 0 H.size x hv.2.2.1) (cwV 1 hts gX5_fine_X5_isHouse rfl rfl rfl (by decide +kernel) ⟨Nat.le_of_ble_eq_true rfl, Nat.le_of_ble_eq_true rfl⟩) ⟨PcM.blind, va_recv hK (va_P1 (hW.1)) (ci := 5) (q0 := 0) rfl rfl, PcM.pre hW hK hN⟩ rfl rfl hl.1 rfl (lv_room (Nat.le_of_ble_eq_true rfl)) dX5_fine_7 ⟨Nat.le_of_ble_eq_true rfl, Nat.le_of_ble_eq_true rfl⟩) hS (fun q _ h => h.elim) (fun q h => h.elim) (fun H locs hB _ hk hS => ?_)
  have hW := hW.kept (fun q hq => hk q hq (fun h => h))
  refine lv_if_ne (tgt := 19) hx hb dX5_fine_10 (by decide) (fun c10 => ?_) (fun c10 => ?_)
  · skip
    replace c10 := b1 c10
    have o1 : hOk nH x := c10
    obtain ⟨h, hh, rfl⟩ := hOk_nI o1 hH
    refine lv_iload_n hx hb dX5_fine_19 rfl (lv_at hl 2 rfl) ?_
    refine lv_iconst (v := 1) hx hb dX5_fine_20 (by decide) ?_
    refine lv_bipush (v := 50) hx hb dX5_fine_21 (by decide) ?_
    refine kI (va_runS (As := [.int y, .int 1, .int 50]) (rest := []) ⟨hx, hb, hml, hown, hts⟩ (c_X5_isIn l G y 1 50) (va_cwS 3 hts gX5_fine_X5_isIn rfl rfl rfl (by decide +kernel) ⟨Nat.le_of_ble_eq_true rfl, Nat.le_of_ble_eq_true rfl⟩) ⟨Pc0.blind, Pc0.pre trivial hK⟩ rfl rfl hl.1 rfl (lv_room (Nat.le_of_ble_eq_true rfl)) dX5_fine_23 ⟨Nat.le_of_ble_eq_true rfl, Nat.le_of_ble_eq_true rfl⟩) hS (fun q _ h => h.elim) (fun q h => h.elim) (fun H locs hB _ hk hS => ?_)
    have hW := hW.kept (fun q hq => hk q hq (fun h => h))
    refine lv_if_eq (tgt := 41) hx hb dX5_fine_26 (by decide) (fun c26 => ?_) (fun c26 => ?_)
    · skip
      replace c26 := b0 c26
      refine lv_aload_n hx hb dX5_fine_41 rfl (lv_at hl 0 rfl) ?_
      refine lv_iconst (v := 2) hx hb dX5_fine_42 (by decide) ?_
      refine kI (va_runV (As := [.int 2]) (rest := []) ⟨hx, hb, hml, hown, hts⟩ (c_X5_no l G ma ad ad2 hI nH nP hH hP δ τ σ2 0 H.size 2) (cwV 1 hts gX5_fine_X5_no rfl rfl rfl (by decide +kernel) ⟨Nat.le_of_ble_eq_true rfl, Nat.le_of_ble_eq_true rfl⟩) ⟨PcM.blind, va_recv hK (va_P1 (hW.1)) (ci := 5) (q0 := 0) rfl rfl, PcM.pre hW hK hN⟩ rfl rfl hl.1 rfl (lv_room (Nat.le_of_ble_eq_true rfl)) dX5_fine_43 ⟨Nat.le_of_ble_eq_true rfl, Nat.le_of_ble_eq_true rfl⟩) hS (fun q _ h => AM_sub hS h) (fun q h => AM_sub hS h) (fun H locs hB _ hk hS => ?_)
      have hW := hB
      exact zI 2 hx hb hr hlocks (Or.inr (Or.inr ⟨rfl, o1, c26⟩)) (⟨_, hW, hz⟩) hS (fun q => absurd q (by decide)) dX5_fine_46
    · skip
      replace c26 := b1 c26
      have o2 := c26
      refine lv_aload_n hx hb dX5_fine_29 rfl (lv_at hl 0 rfl) ?_
      refine rM0 hx hb hts hi5 hown hK hW k10 dX5_fine_30 ?_
      refine lv_iload_n hx hb dX5_fine_33 rfl (lv_at hl 1 rfl) ?_
      refine lv_iload_n hx hb dX5_fine_34 rfl (lv_at hl 2 rfl) ?_
      refine kI (va_runV (As := [.int (nI h), .int y]) (rest := []) ⟨hx, hb, hml, hown, hts⟩ (c_X4_fine l G ad hI.1 nH nP hH hP δ τ h y hv (by omega)) (cwV 2 hts gX5_fine_X4_fine rfl rfl rfl (by decide +kernel) ⟨Nat.le_of_ble_eq_true rfl, Nat.le_of_ble_eq_true rfl⟩) ⟨Pc0.blind, va_recv hK (va_P1 (hW.2.1.1)) (ci := 4) (q0 := 0) rfl rfl, Pc0.pre hW.2.1 hK⟩ rfl rfl hl.1 rfl (lv_room (Nat.le_of_ble_eq_true rfl)) dX5_fine_35 ⟨Nat.le_of_ble_eq_true rfl, Nat.le_of_ble_eq_true rfl⟩) hS (fun q _ h => Or.inl h) (fun q h => Or.inl h) (fun H locs hB _ hk hS => ?_)
      have hW := hW.main hI hB hk
      refine lv_goto (tgt := 46) hx hb dX5_fine_38 (by decide) ?_
      exact zI 0 hx hb hr hlocks (Or.inl ⟨rfl, o1, o2⟩) ((by show MWz G ma ad ad2 (nI 0) (wmx nH nP δ (chgF nP (cl (nI h)) y τ)) z H; rw [show cl (nI h) = h from nI_clamp (by omega)]; exact ⟨_, hW, hz⟩)) hS (fun q => (by rw [show cl (nI h) = h from nI_clamp (by omega)])) dX5_fine_46
  · skip
    replace c10 := b0 c10
    refine lv_aload_n hx hb dX5_fine_13 rfl (lv_at hl 0 rfl) ?_
    refine lv_iconst (v := 1) hx hb dX5_fine_14 (by decide) ?_
    refine kI (va_runV (As := [.int 1]) (rest := []) ⟨hx, hb, hml, hown, hts⟩ (c_X5_no l G ma ad ad2 hI nH nP hH hP δ τ σ2 0 H.size 1) (cwV 1 hts gX5_fine_X5_no rfl rfl rfl (by decide +kernel) ⟨Nat.le_of_ble_eq_true rfl, Nat.le_of_ble_eq_true rfl⟩) ⟨PcM.blind, va_recv hK (va_P1 (hW.1)) (ci := 5) (q0 := 0) rfl rfl, PcM.pre hW hK hN⟩ rfl rfl hl.1 rfl (lv_room (Nat.le_of_ble_eq_true rfl)) dX5_fine_15 ⟨Nat.le_of_ble_eq_true rfl, Nat.le_of_ble_eq_true rfl⟩) hS (fun q _ h => AM_sub hS h) (fun q h => AM_sub hS h) (fun H locs hB _ hk hS => ?_)
    have hW := hB
    exact zI 1 hx hb hr hlocks (Or.inr (Or.inl ⟨rfl, c10⟩)) (⟨_, hW, hz⟩) hS (fun q => absurd q (by decide)) dX5_fine_18

set_option maxHeartbeats 4000000 in
set_option maxRecDepth 100000 in
theorem c_X5_prefer (l : Launch) (G : wG) (ma : Nat) (ad ad2 : Nat → Nat) (hI : MI ma ad ad2) (nH nP : Nat) (hH : nH ≤ 10) (hP : nP ≤ 3) (δ τ z : wS) (t : Int32) (nz : Nat) (x y : Int32) (hv : Inv nH nP τ) : Met l yX5_prefer wsX5_prefer ({ frames := 2, cells := 0, slots := 0, locals := 43 } : Room) (PcM G [.ref ma, .int x, .int y] nz (MWz G ma ad ad2 t (wmx nH nP δ τ) z)) (Qmi (fun u => (u = 0 ∧ hOk nH x ∧ pOk nP y) ∨ (u = 1 ∧ ¬ (hOk nH x ∧ pOk nP y))) (τ 5 (cl x)) (fun u => MWz G ma ad ad2 (nI u) (wmx nH nP δ (sel u (wst τ 5 (cl x) y) τ)) (sel u (z) z)) (AM ma ad ad2 nz)) 0 0 (AM ma ad ad2 nz) := by
  refine Met.ofW (cc := cX5_prefer) (maxL := 4) (ret := (some .int)) (by decide) rfl ?_
  intro pg ev s mid args below meth cd s₁ B hml hv0
  obtain ⟨rfl, rfl, hW, hK, hN⟩ := hv0
  have hx := B.exec
  have hb := B.bytes
  have hr := B.returns
  have hts := atoms_spec (ws := wsX5_prefer) B.pre
  have hown : s.vm.findClass RX5 = some mid.cls := findClass_of_methodNamed B.named
  have hlocks := B.notSynchronized
  have hi4 : ∀ w ∈ wsX40, w ∈ wsX5_prefer := by decide +kernel
  have hi5 : ∀ w ∈ wsX50, w ∈ wsX5_prefer := by decide +kernel
  have k19 := hts (.fieldLink RX5 19 "PumpRosterModel" "thrown" "I") (by decide +kernel)
  have k10 := hts (.fieldLink RX5 10 "PumpRosterModel" "s" "LPumpRosterModel$State;") (by decide +kernel)
  have hS : va_S (AM ma ad ad2 s.heap.size) s.heap s.heap [] := va_S.rf
  have hl := lv_entry ([.ref ma, .int x, .int y]) (n := 4) (Nat.le_of_ble_eq_true rfl)
  rw [lg_entry_eq]
  generalize (lg_sl ([.ref ma, .int x, .int y]) ++ List.replicate (4 - (lg_sl ([.ref ma, .int x, .int y])).length) Slot.unset).toArray = ls at hl ⊢
  have hl : lv_has ls 4 [(0, .ref ma), (1, .int x), (2, .int y)] := hl
  obtain ⟨σ2, hW, hz⟩ := hW
  refine lv_aload_n hx hb dX5_prefer_0 rfl (lv_at hl 0 rfl) ?_
  refine lv_iconst (v := 0) hx hb dX5_prefer_1 (by decide) ?_
  refine wMt hx hb hts hi5 hown hK hI hW hS (Or.inr (Or.inr (Or.inl rfl))) k19 dX5_prefer_2 (fun H locs hW hS => ?_)
  refine lv_aload_n hx hb dX5_prefer_5 rfl (lv_at hl 0 rfl) ?_
  refine lv_iload_n hx hb dX5_prefer_6 rfl (lv_at hl 1 rfl) ?_
  refine kI (va_runV (As := [.int x]) (rest := []) ⟨hx, hb, hml, hown, hts⟩ (c_X5_isHouse l G ma ad ad2 hI nH nP hH hP δ τ σ2 0 H.size x hv.2.2.1) (cwV 1 hts gX5_prefer_X5_isHouse rfl rfl rfl (by decide +kernel) ⟨Nat.le_of_ble_eq_true rfl, Nat.le_of_ble_eq_true rfl⟩) ⟨PcM.blind, va_recv hK (va_P1 (hW.1)) (ci := 5) (q0 := 0) rfl rfl, PcM.pre hW hK hN⟩ rfl rfl hl.1 rfl (lv_room (Nat.le_of_ble_eq_true rfl)) dX5_prefer_7 ⟨Nat.le_of_ble_eq_true rfl, Nat.le_of_ble_eq_true rfl⟩) hS (fun q _ h => h.elim) (fun q h => h.elim) (fun H locs hB _ hk hS => ?_)
  have hW := hW.kept (fun q hq => hk q hq (fun h => h))
  refine lv_if_eq (tgt := 21) hx hb dX5_prefer_10 (by decide) (fun c10 => ?_) (fun c10 => ?_)
  · skip
    replace c10 := b0 c10
    refine lv_aload_n hx hb dX5_prefer_21 rfl (lv_at hl 0 rfl) ?_
    refine lv_iconst (v := 1) hx hb dX5_prefer_22 (by decide) ?_
    refine kI (va_runV (As := [.int 1]) (rest := []) ⟨hx, hb, hml, hown, hts⟩ (c_X5_no l G ma ad ad2 hI nH nP hH hP δ τ σ2 0 H.size 1) (cwV 1 hts gX5_prefer_X5_no rfl rfl rfl (by decide +kernel) ⟨Nat.le_of_ble_eq_true rfl, Nat.le_of_ble_eq_true rfl⟩) ⟨PcM.blind, va_recv hK (va_P1 (hW.1)) (ci := 5) (q0 := 0) rfl rfl, PcM.pre hW hK hN⟩ rfl rfl hl.1 rfl (lv_room (Nat.le_of_ble_eq_true rfl)) dX5_prefer_23 ⟨Nat.le_of_ble_eq_true rfl, Nat.le_of_ble_eq_true rfl⟩) hS (fun q _ h => AM_sub hS h) (fun q h => AM_sub hS h) (fun H locs hB _ hk hS => ?_)
    have hW := hB
    exact zI 1 hx hb hr hlocks (Or.inr ⟨rfl, fun q => c10 q.1⟩) (⟨_, hW, hz⟩) hS (fun q => absurd q (by decide)) dX5_prefer_26
  · skip
    replace c10 := b1 c10
    have o1 : hOk nH x := c10
    obtain ⟨h, hh, rfl⟩ := hOk_nI o1 hH
    refine lv_aload_n hx hb dX5_prefer_13 rfl (lv_at hl 0 rfl) ?_
    refine lv_iload_n hx hb dX5_prefer_14 rfl (lv_at hl 2 rfl) ?_
    refine kI (va_runV (As := [.int y]) (rest := []) ⟨hx, hb, hml, hown, hts⟩ (c_X5_isPump l G ma ad ad2 hI nH nP hH hP δ τ σ2 0 H.size y hv.2.2.2.1) (cwV 1 hts gX5_prefer_X5_isPump rfl rfl rfl (by decide +kernel) ⟨Nat.le_of_ble_eq_true rfl, Nat.le_of_ble_eq_true rfl⟩) ⟨PcM.blind, va_recv hK (va_P1 (hW.1)) (ci := 5) (q0 := 0) rfl rfl, PcM.pre hW hK hN⟩ rfl rfl hl.1 rfl (lv_room (Nat.le_of_ble_eq_true rfl)) dX5_prefer_15 ⟨Nat.le_of_ble_eq_true rfl, Nat.le_of_ble_eq_true rfl⟩) hS (fun q _ h => h.elim) (fun q h => h.elim) (fun H locs hB _ hk hS => ?_)
    have hW := hW.kept (fun q hq => hk q hq (fun h => h))
    refine lv_if_ne (tgt := 27) hx hb dX5_prefer_18 (by decide) (fun c18 => ?_) (fun c18 => ?_)
    · skip
      replace c18 := b1 c18
      have o2 := c18
      refine lv_aload_n hx hb dX5_prefer_27 rfl (lv_at hl 0 rfl) ?_
      refine rM0 hx hb hts hi5 hown hK hW k10 dX5_prefer_28 ?_
      refine rSfN 2 (j := 1) hx hb hts hi4 hown hK hW.2.1 (by decide) rfl (va_Nw.use rfl hN.2.2.1) dX5_prefer_31 ?_
      refine lv_bipush (v := 11) hx hb dX5_prefer_34 (by decide) ?_
      refine lv_iload_n hx hb dX5_prefer_36 rfl (lv_at hl 1 rfl) ?_
      refine lv_imul hx hb dX5_prefer_37 ?_
      refine lv_topi (fun y1 ey1 => ?_)
      obtain rfl : y1 = nI (11 * h) := ey1.trans (pk_mul 11 h)
      refine lv_iconst (v := 5) hx hb dX5_prefer_38 (by decide) ?_
      refine lv_iadd hx hb dX5_prefer_39 ?_
      refine lv_topi (fun y2 ey2 => ?_)
      obtain rfl : y2 = nI (11 * h + 5) := ey2.trans (nI_add (11 * h) 5)
      refine rSh (h := h) (f := 5) (v := τ 5 h) hx hb hK hW.2.1 (by omega) (by omega) (by omega) hH rfl dX5_prefer_40 ?_
      refine lv_istore_n (lv' := [(3, .int (τ 5 h)), (0, .ref ma), (1, .int (nI h)), (2, .int y)]) hx hb dX5_prefer_41 rfl hl (by decide) rfl (fun ls hl => ?_)
      refine lv_aload_n hx hb dX5_prefer_42 rfl (lv_at hl 1 rfl) ?_
      refine rM0 hx hb hts hi5 hown hK hW k10 dX5_prefer_43 ?_
      refine rSfN 2 (j := 1) hx hb hts hi4 hown hK hW.2.1 (by decide) rfl (va_Nw.use rfl hN.2.2.1) dX5_prefer_46 ?_
      refine lv_bipush (v := 11) hx hb dX5_prefer_49 (by decide) ?_
      refine lv_iload_n hx hb dX5_prefer_51 rfl (lv_at hl 2 rfl) ?_
      refine lv_imul hx hb dX5_prefer_52 ?_
      refine lv_topi (fun y3 ey3 => ?_)
      obtain rfl : y3 = nI (11 * h) := ey3.trans (pk_mul 11 h)
      refine lv_iconst (v := 5) hx hb dX5_prefer_53 (by decide) ?_
      refine lv_iadd hx hb dX5_prefer_54 ?_
      refine lv_topi (fun y4 ey4 => ?_)
      obtain rfl : y4 = nI (11 * h + 5) := ey4.trans (nI_add (11 * h) 5)
      refine lv_iload_n hx hb dX5_prefer_55 rfl (lv_at hl 3 rfl) ?_
      refine wSh (h := h) (f := 5) hx hb hK hI.1 hW.2.1 hS (fun _ q => Or.inl q) (by omega) (by omega) (by omega) hH dX5_prefer_56 (fun H locs hV hk hS => ?_)
      have hW := hW.main hI hV hk
      refine lv_iload_n hx hb dX5_prefer_57 rfl (lv_at hl 0 rfl) ?_
      exact zI 0 hx hb hr hlocks (Or.inl ⟨rfl, o1, o2⟩) ((by show MWz G ma ad ad2 (nI 0) (wmx nH nP δ (wst τ 5 (cl (nI h)) y)) z H; rw [show cl (nI h) = h from nI_clamp (by omega)]; exact ⟨_, hW, hz⟩)) hS (fun q => (by rw [show cl (nI h) = h from nI_clamp (by omega)])) dX5_prefer_58
    · skip
      replace c18 := b0 c18
      refine lv_aload_n hx hb dX5_prefer_21 rfl (lv_at hl 0 rfl) ?_
      refine lv_iconst (v := 1) hx hb dX5_prefer_22 (by decide) ?_
      refine kI (va_runV (As := [.int 1]) (rest := []) ⟨hx, hb, hml, hown, hts⟩ (c_X5_no l G ma ad ad2 hI nH nP hH hP δ τ σ2 0 H.size 1) (cwV 1 hts gX5_prefer_X5_no rfl rfl rfl (by decide +kernel) ⟨Nat.le_of_ble_eq_true rfl, Nat.le_of_ble_eq_true rfl⟩) ⟨PcM.blind, va_recv hK (va_P1 (hW.1)) (ci := 5) (q0 := 0) rfl rfl, PcM.pre hW hK hN⟩ rfl rfl hl.1 rfl (lv_room (Nat.le_of_ble_eq_true rfl)) dX5_prefer_23 ⟨Nat.le_of_ble_eq_true rfl, Nat.le_of_ble_eq_true rfl⟩) hS (fun q _ h => AM_sub hS h) (fun q h => AM_sub hS h) (fun H locs hB _ hk hS => ?_)
      have hW := hB
      exact zI 1 hx hb hr hlocks (Or.inr ⟨rfl, fun q => c18 q.2⟩) (⟨_, hW, hz⟩) hS (fun q => absurd q (by decide)) dX5_prefer_26

set_option maxHeartbeats 4000000 in
set_option maxRecDepth 100000 in
theorem c_X5_pump (l : Launch) (G : wG) (ma : Nat) (ad ad2 : Nat → Nat) (hI : MI ma ad ad2) (nH nP : Nat) (hH : nH ≤ 10) (hP : nP ≤ 3) (δ τ z : wS) (t : Int32) (nz : Nat) (x y : Int32) (hv : Inv nH nP τ) : Met l yX5_pump wsX5_pump ({ frames := 2, cells := 0, slots := 0, locals := 43 } : Room) (PcM G [.ref ma, .int x, .int y] nz (MWz G ma ad ad2 t (wmx nH nP δ τ) z)) (Qmi (fun u => (u = 0 ∧ pOk nP x ∧ inn 0 10 y) ∨ (u = 1 ∧ ¬ (pOk nP x ∧ inn 0 10 y))) (τ (20 + cl y) (cl x)) (fun u => MWz G ma ad ad2 (nI u) (wmx nH nP δ (sel u (τ) τ)) (sel u (z) z)) (AM ma ad ad2 nz)) 0 0 (AM ma ad ad2 nz) := by
  refine Met.ofW (cc := cX5_pump) (maxL := 3) (ret := (some .int)) (by decide) rfl ?_
  intro pg ev s mid args below meth cd s₁ B hml hv0
  obtain ⟨rfl, rfl, hW, hK, hN⟩ := hv0
  have hx := B.exec
  have hb := B.bytes
  have hr := B.returns
  have hts := atoms_spec (ws := wsX5_pump) B.pre
  have hown : s.vm.findClass RX5 = some mid.cls := findClass_of_methodNamed B.named
  have hlocks := B.notSynchronized
  have hi4 : ∀ w ∈ wsX40, w ∈ wsX5_pump := by decide +kernel
  have hi5 : ∀ w ∈ wsX50, w ∈ wsX5_pump := by decide +kernel
  have k19 := hts (.fieldLink RX5 19 "PumpRosterModel" "thrown" "I") (by decide +kernel)
  have k10 := hts (.fieldLink RX5 10 "PumpRosterModel" "s" "LPumpRosterModel$State;") (by decide +kernel)
  have hS : va_S (AM ma ad ad2 s.heap.size) s.heap s.heap [] := va_S.rf
  have hl := lv_entry ([.ref ma, .int x, .int y]) (n := 3) (Nat.le_of_ble_eq_true rfl)
  rw [lg_entry_eq]
  generalize (lg_sl ([.ref ma, .int x, .int y]) ++ List.replicate (3 - (lg_sl ([.ref ma, .int x, .int y])).length) Slot.unset).toArray = ls at hl ⊢
  have hl : lv_has ls 3 [(0, .ref ma), (1, .int x), (2, .int y)] := hl
  obtain ⟨σ2, hW, hz⟩ := hW
  refine lv_aload_n hx hb dX5_pump_0 rfl (lv_at hl 0 rfl) ?_
  refine lv_iconst (v := 0) hx hb dX5_pump_1 (by decide) ?_
  refine wMt hx hb hts hi5 hown hK hI hW hS (Or.inr (Or.inr (Or.inl rfl))) k19 dX5_pump_2 (fun H locs hW hS => ?_)
  refine lv_aload_n hx hb dX5_pump_5 rfl (lv_at hl 0 rfl) ?_
  refine lv_iload_n hx hb dX5_pump_6 rfl (lv_at hl 1 rfl) ?_
  refine kI (va_runV (As := [.int x]) (rest := []) ⟨hx, hb, hml, hown, hts⟩ (c_X5_isPump l G ma ad ad2 hI nH nP hH hP δ τ σ2 0 H.size x hv.2.2.2.1) (cwV 1 hts gX5_pump_X5_isPump rfl rfl rfl (by decide +kernel) ⟨Nat.le_of_ble_eq_true rfl, Nat.le_of_ble_eq_true rfl⟩) ⟨PcM.blind, va_recv hK (va_P1 (hW.1)) (ci := 5) (q0 := 0) rfl rfl, PcM.pre hW hK hN⟩ rfl rfl hl.1 rfl (lv_room (Nat.le_of_ble_eq_true rfl)) dX5_pump_7 ⟨Nat.le_of_ble_eq_true rfl, Nat.le_of_ble_eq_true rfl⟩) hS (fun q _ h => h.elim) (fun q h => h.elim) (fun H locs hB _ hk hS => ?_)
  have hW := hW.kept (fun q hq => hk q hq (fun h => h))
  refine lv_if_eq (tgt := 40) hx hb dX5_pump_10 (by decide) (fun c10 => ?_) (fun c10 => ?_)
  · skip
    replace c10 := b0 c10
    refine lv_aload_n hx hb dX5_pump_40 rfl (lv_at hl 0 rfl) ?_
    refine lv_iconst (v := 1) hx hb dX5_pump_41 (by decide) ?_
    refine kI (va_runV (As := [.int 1]) (rest := []) ⟨hx, hb, hml, hown, hts⟩ (c_X5_no l G ma ad ad2 hI nH nP hH hP δ τ σ2 0 H.size 1) (cwV 1 hts gX5_pump_X5_no rfl rfl rfl (by decide +kernel) ⟨Nat.le_of_ble_eq_true rfl, Nat.le_of_ble_eq_true rfl⟩) ⟨PcM.blind, va_recv hK (va_P1 (hW.1)) (ci := 5) (q0 := 0) rfl rfl, PcM.pre hW hK hN⟩ rfl rfl hl.1 rfl (lv_room (Nat.le_of_ble_eq_true rfl)) dX5_pump_42 ⟨Nat.le_of_ble_eq_true rfl, Nat.le_of_ble_eq_true rfl⟩) hS (fun q _ h => AM_sub hS h) (fun q h => AM_sub hS h) (fun H locs hB _ hk hS => ?_)
    have hW := hB
    exact zI 1 hx hb hr hlocks (Or.inr ⟨rfl, fun q => c10 q.1⟩) (⟨_, hW, hz⟩) hS (fun q => absurd q (by decide)) dX5_pump_45
  · skip
    replace c10 := b1 c10
    have o1 : pOk nP x := c10
    obtain ⟨h, hh, rfl⟩ := pOk_nI o1 (by omega)
    refine lv_iload_n hx hb dX5_pump_13 rfl (lv_at hl 2 rfl) ?_
    refine lv_iconst (v := 0) hx hb dX5_pump_14 (by decide) ?_
    refine lv_bipush (v := 10) hx hb dX5_pump_15 (by decide) ?_
    refine kI (va_runS (As := [.int y, .int 0, .int 10]) (rest := []) ⟨hx, hb, hml, hown, hts⟩ (c_X5_isIn l G y 0 10) (va_cwS 3 hts gX5_pump_X5_isIn rfl rfl rfl (by decide +kernel) ⟨Nat.le_of_ble_eq_true rfl, Nat.le_of_ble_eq_true rfl⟩) ⟨Pc0.blind, Pc0.pre trivial hK⟩ rfl rfl hl.1 rfl (lv_room (Nat.le_of_ble_eq_true rfl)) dX5_pump_17 ⟨Nat.le_of_ble_eq_true rfl, Nat.le_of_ble_eq_true rfl⟩) hS (fun q _ h => h.elim) (fun q h => h.elim) (fun H locs hB _ hk hS => ?_)
    have hW := hW.kept (fun q hq => hk q hq (fun h => h))
    refine lv_if_eq (tgt := 40) hx hb dX5_pump_20 (by decide) (fun c20 => ?_) (fun c20 => ?_)
    · skip
      replace c20 := b0 c20
      refine lv_aload_n hx hb dX5_pump_40 rfl (lv_at hl 0 rfl) ?_
      refine lv_iconst (v := 1) hx hb dX5_pump_41 (by decide) ?_
      refine kI (va_runV (As := [.int 1]) (rest := []) ⟨hx, hb, hml, hown, hts⟩ (c_X5_no l G ma ad ad2 hI nH nP hH hP δ τ σ2 0 H.size 1) (cwV 1 hts gX5_pump_X5_no rfl rfl rfl (by decide +kernel) ⟨Nat.le_of_ble_eq_true rfl, Nat.le_of_ble_eq_true rfl⟩) ⟨PcM.blind, va_recv hK (va_P1 (hW.1)) (ci := 5) (q0 := 0) rfl rfl, PcM.pre hW hK hN⟩ rfl rfl hl.1 rfl (lv_room (Nat.le_of_ble_eq_true rfl)) dX5_pump_42 ⟨Nat.le_of_ble_eq_true rfl, Nat.le_of_ble_eq_true rfl⟩) hS (fun q _ h => AM_sub hS h) (fun q h => AM_sub hS h) (fun H locs hB _ hk hS => ?_)
      have hW := hB
      exact zI 1 hx hb hr hlocks (Or.inr ⟨rfl, fun q => c20 q.2⟩) (⟨_, hW, hz⟩) hS (fun q => absurd q (by decide)) dX5_pump_45
    · skip
      replace c20 := b1 c20
      have o2 : inn 0 10 y := c20
      obtain ⟨k, hlok, hhik, rfl⟩ := inn_nI (lo := 0) (hi := 10) o2 (by omega) (by omega)
      refine lv_aload_n hx hb dX5_pump_23 rfl (lv_at hl 0 rfl) ?_
      refine rM0 hx hb hts hi5 hown hK hW k10 dX5_pump_24 ?_
      refine rSfN 4 (j := 2) hx hb hts hi4 hown hK hW.2.1 (by decide) rfl (va_Nw.use rfl hN.2.2.2.2.1) dX5_pump_27 ?_
      refine lv_bipush (v := 11) hx hb dX5_pump_30 (by decide) ?_
      refine lv_iload_n hx hb dX5_pump_32 rfl (lv_at hl 1 rfl) ?_
      refine lv_imul hx hb dX5_pump_33 ?_
      refine lv_topi (fun y1 ey1 => ?_)
      obtain rfl : y1 = nI (11 * h) := ey1.trans (pk_mul 11 h)
      refine lv_iload_n hx hb dX5_pump_34 rfl (lv_at hl 2 rfl) ?_
      refine lv_iadd hx hb dX5_pump_35 ?_
      refine lv_topi (fun y2 ey2 => ?_)
      obtain rfl : y2 = nI (11 * h + k) := ey2.trans (nI_add (11 * h) k)
      refine rSp (h := h) (f := k) (g := 20 + k) (v := τ (20 + k) h) hx hb hK hW.2.1 (by omega) (by omega) (by omega) (by omega) hP rfl dX5_pump_36 ?_
      refine lv_goto (tgt := 45) hx hb dX5_pump_37 (by decide) ?_
      exact zI 0 hx hb hr hlocks (Or.inl ⟨rfl, o1, o2⟩) (⟨_, hW, hz⟩) hS (fun q => (by rw [show cl (nI h) = h from nI_clamp (by omega), show cl (nI k) = k from nI_clamp (by omega)])) dX5_pump_45
