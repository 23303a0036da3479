set_option maxHeartbeats 4000000 in
set_option maxRecDepth 100000 in
/-- there or not -/
theorem c_X0_isThere (l : Launch) (G : wG) (ad : Nat → Nat) (hI : adInj ad 19) (nH nP : Nat) (hH : nH ≤ 10) (hP : nP ≤ 3) (δ τ : wS) (h : Nat) (hh : h < nH) : Met l yX0_isThere wsX0_isThere ({ frames := 0, cells := 0, slots := 0, locals := 0 } : Room) (Pc0 G [.ref (ad (3 + h))] (CVm G ad nH nP δ τ)) (Qi0 (if τ 6 h = 0 then 1 else 0) (CVm G ad nH nP δ τ) (AV ad 19)) 0 0 (AV ad 19) := by
  refine Met.ofW (cc := cX0_isThere) (maxL := 1) (ret := (some .boolean)) (by decide) rfl ?_
  intro p e s m args below meth c s₁ B hml hv0
  obtain ⟨rfl, hV, hK⟩ := hv0
  have hx := B.exec
  have hb := B.bytes
  have hr := B.returns
  have hts := atoms_spec (ws := wsX0_isThere) B.pre
  have hown : s.vm.findClass RX0 = some m.cls := findClass_of_methodNamed B.named
  have hlocks := B.notSynchronized
  have hi0 : ∀ w ∈ wsX00, w ∈ wsX0_isThere := by decide +kernel
  have k30 := hts (.fieldLink RX0 30 "PumpRoster$House" "daysAway" "I") (by decide +kernel)
  have hS : va_S (AV ad 19) s.heap s.heap [] := va_S.rf
  have hl := lv_entry ([.ref (ad (3 + h))]) (n := 1) (Nat.le_of_ble_eq_true rfl)
  rw [lg_entry_eq]
  generalize (lg_sl ([.ref (ad (3 + h))]) ++ List.replicate (1 - (lg_sl ([.ref (ad (3 + h))])).length) Slot.unset).toArray = ls at hl ⊢
  have hl : lv_has ls 1 [(0, .ref (ad (3 + h)))] := hl
  refine lv_aload_n hx hb dX0_isThere_0 rfl (lv_at hl 0 rfl) ?_
  refine rH 6 (h := h) (v := τ 6 h) hx hb hts hi0 hown hK hV (by omega) hH (by decide) (by decide) rfl rfl k30 dX0_isThere_1 ?_
  refine lv_if_ne (tgt := 11) hx hb dX0_isThere_4 (by decide) (fun c4 => ?_) (fun c4 => ?_)
  · skip
    refine lv_iconst (v := 0) hx hb dX0_isThere_11 (by decide) ?_
    exact xZ hx hb hr hlocks hV hS rfl rfl dX0_isThere_12
  · skip
    refine lv_iconst (v := 1) hx hb dX0_isThere_7 (by decide) ?_
    refine lv_goto (tgt := 12) hx hb dX0_isThere_8 (by decide) ?_
    exact xZ hx hb hr hlocks hV hS rfl rfl dX0_isThere_12

set_option maxHeartbeats 4000000 in
set_option maxRecDepth 100000 in
theorem c_X0_dailyNeed (l : Launch) (G : wG) (ad : Nat → Nat) (hI : adInj ad 19) (nH nP : Nat) (hH : nH ≤ 10) (hP : nP ≤ 3) (δ τ : wS) (h : Nat) (hh : h < nH) : Met l yX0_dailyNeed wsX0_dailyNeed ({ frames := 0, cells := 0, slots := 0, locals := 0 } : Room) (Pc0 G [.ref (ad (3 + h))] (CVm G ad nH nP δ τ)) (Qi0 (2 + τ 0 h) (CVm G ad nH nP δ τ) (AV ad 19)) 0 0 (AV ad 19) := by
  refine Met.ofW (cc := cX0_dailyNeed) (maxL := 1) (ret := (some .int)) (by decide) rfl ?_
  intro p e s m args below meth c s₁ B hml hv0
  obtain ⟨rfl, hV, hK⟩ := hv0
  have hx := B.exec
  have hb := B.bytes
  have hr := B.returns
  have hts := atoms_spec (ws := wsX0_dailyNeed) B.pre
  have hown : s.vm.findClass RX0 = some m.cls := findClass_of_methodNamed B.named
  have hlocks := B.notSynchronized
  have hi0 : ∀ w ∈ wsX00, w ∈ wsX0_dailyNeed := by decide +kernel
  have k18 := hts (.fieldLink RX0 18 "PumpRoster$House" "lodgers" "I") (by decide +kernel)
  have hS : va_S (AV ad 19) s.heap s.heap [] := va_S.rf
  have hl := lv_entry ([.ref (ad (3 + h))]) (n := 1) (Nat.le_of_ble_eq_true rfl)
  rw [lg_entry_eq]
  generalize (lg_sl ([.ref (ad (3 + h))]) ++ List.replicate (1 - (lg_sl ([.ref (ad (3 + h))])).length) Slot.unset).toArray = ls at hl ⊢
  have hl : lv_has ls 1 [(0, .ref (ad (3 + h)))] := hl
  refine lv_iconst (v := 2) hx hb dX0_dailyNeed_0 (by decide) ?_
  refine lv_aload_n hx hb dX0_dailyNeed_1 rfl (lv_at hl 0 rfl) ?_
  refine rH 1 (h := h) (v := τ 0 h) hx hb hts hi0 hown hK hV (by omega) hH (by decide) (by decide) rfl rfl k18 dX0_dailyNeed_2 ?_
  refine lv_iadd hx hb dX0_dailyNeed_5 ?_
  exact xI hx hb hr hlocks hV hS rfl dX0_dailyNeed_6
