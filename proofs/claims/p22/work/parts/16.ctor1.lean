set_option maxHeartbeats 4000000 in
set_option maxRecDepth 100000 in
theorem c_X0_init (l : Launch) (G : wG) (h9 k : Nat)  : Met l yX0_init wsX0_init ({ frames := 1, cells := 0, slots := 0, locals := 12 } : Room) (Pc0 G [.ref h9, .int (nI k)] (fun H => va_at G.1 vwCl (h9, .inr (0, zH)) H)) (Qv0 (fun H => va_at G.1 vwCl (h9, .inr (0, hfs dC k)) H) (fun q => q = h9)) 0 0 (fun q => q = h9) := by
  refine Met.ofW (cc := cX0_init) (maxL := 2) (ret := none) (by decide) rfl ?_
  intro pg ev s mid args below meth cd s₁ B hml hv0
  obtain ⟨rfl, hW, hK⟩ := hv0
  have hx := B.exec
  have hb := B.bytes
  have hr := B.returns
  have hts := atoms_spec (ws := wsX0_init) B.pre
  have hown : s.vm.findClass RX0 = some mid.cls := findClass_of_methodNamed B.named
  have hlocks := B.notSynchronized
  have hin2 : meth.name = "<init>" := (name_of_methodNamed B.named B.method).1
  have hi0 : ∀ w ∈ wsX00, w ∈ wsX0_init := by decide +kernel
  have ko := hts (.methodLink RX0 3 objectInit) (by decide +kernel)
  have koi := hts (.instanceMethod objectInit) (by decide +kernel)
  have koc := hts (.code objectInit ⟨#[0xb1]⟩ 1 none) (by decide +kernel)
  have k9 := hts (.fieldLink RX0 9 "PumpRoster$House" "eggs" "I") (by decide +kernel)
  have k15 := hts (.fieldLink RX0 15 "PumpRoster$House" "number" "I") (by decide +kernel)
  have hS : va_S (fun q => q = h9) s.heap s.heap [] := va_S.rf
  have hl := lv_entry ([.ref h9, .int (nI k)]) (n := 2) (Nat.le_of_ble_eq_true rfl)
  rw [lg_entry_eq]
  generalize (lg_sl ([.ref h9, .int (nI k)]) ++ List.replicate (2 - (lg_sl ([.ref h9, .int (nI k)])).length) Slot.unset).toArray = ls at hl ⊢
  have hl : lv_has ls 2 [(0, .ref h9), (1, .int (nI k))] := hl
  refine lv_aload_n hx hb dX0_init_0 rfl (lv_at hl 0 rfl) ?_
  refine W.objInit hx hb hown ko koi koc rfl (hl.1.trans hml.symm) rfl dX0_init_1 (Nat.le_of_ble_eq_true rfl) (Nat.le_of_ble_eq_true rfl) ?_
  refine lv_aload_n hx hb dX0_init_4 rfl (lv_at hl 0 rfl) ?_
  refine lv_bipush (v := 10) hx hb dX0_init_5 (by decide) ?_
  refine xq_put (ci := 0) (C := RX0) (T := TX0) (N := 12) hx hb hts hi0 tyX0 tyX0_ok nmX0 hown hK hW hS rfl rfl 4 (by omega) k9 (fun _ h9 => h9) rfl rfl rfl (show 4 < 12 by omega) dX0_init_7 (fun H locs hW e3 hS => ?_)
  refine lv_aload_n hx hb dX0_init_10 rfl (lv_at hl 0 rfl) ?_
  refine lv_iload_n hx hb dX0_init_11 rfl (lv_at hl 1 rfl) ?_
  refine xq_putF (ci := 0) (C := RX0) (T := TX0) (N := 12) hx hb hts hi0 tyX0 tyX0_ok nmX0 hown hK hW hS rfl rfl 0 (by omega) k15 (fun _ h9 => h9) rfl hin2 rfl (tyX0_ok 0 (by omega)) rfl rfl (show 0 < 12 by omega) dX0_init_12 (fun H locs hW e3 hS => ?_)
  exact xV hx hb hr hlocks hW hS dX0_init_15

theorem dC_40 {p j : Nat} : dC (40 + p) j = 0 := by
  unfold dC
  split
  · omega
  · omega
  · rfl

set_option maxHeartbeats 4000000 in
set_option maxRecDepth 100000 in
theorem c_X1_init (l : Launch) (G : wG) (p9 p nz : Nat) (hp9 : p9 < nz) : Met l yX1_init wsX1_init ({ frames := 1, cells := 1, slots := 10, locals := 12 } : Room) (PcN G [.ref p9] nz (fun H => va_at G.1 vwCl (p9, .inr (1, zP)) H) (fun _ => True)) (Qv0 (fun H => ∃ q, nz ≤ q ∧ va_at G.1 vwCl (p9, .inr (1, pfs q dC p)) H ∧ va_at G.1 vwCl (q, rArr G.2.1 dC p) H) (fun q => q = p9 ∨ nz ≤ q)) 1 10 (fun q => q = p9 ∨ nz ≤ q) := by
  refine Met.ofW (cc := cX1_init) (maxL := 1) (ret := none) (by decide) rfl ?_
  intro pg ev s mid args below meth cd s₁ B hml hv0
  obtain ⟨rfl, rfl, hW, hK, -⟩ := hv0
  have hx := B.exec
  have hb := B.bytes
  have hr := B.returns
  have hts := atoms_spec (ws := wsX1_init) B.pre
  have hown : s.vm.findClass RX1 = some mid.cls := findClass_of_methodNamed B.named
  have hlocks := B.notSynchronized
  have hin2 : meth.name = "<init>" := (name_of_methodNamed B.named B.method).1
  have hi1 : ∀ w ∈ wsX10, w ∈ wsX1_init := by decide +kernel
  have ko := hts (.methodLink RX1 3 objectInit) (by decide +kernel)
  have koi := hts (.instanceMethod objectInit) (by decide +kernel)
  have koc := hts (.code objectInit ⟨#[0xb1]⟩ 1 none) (by decide +kernel)
  have k9 := hts (.fieldLink RX1 9 "PumpRoster$Pump" "keyHolder" "I") (by decide +kernel)
  have k15 := hts (.fieldLink RX1 15 "PumpRoster$Pump" "roster" "[I") (by decide +kernel)
  have karr := hts (.arrayClass .int) (by decide +kernel)
  have hS : va_S (fun q => q = p9 ∨ s.heap.size ≤ q) s.heap s.heap [] := va_S.rf
  have hl := lv_entry ([.ref p9]) (n := 1) (Nat.le_of_ble_eq_true rfl)
  rw [lg_entry_eq]
  generalize (lg_sl ([.ref p9]) ++ List.replicate (1 - (lg_sl ([.ref p9])).length) Slot.unset).toArray = ls at hl ⊢
  have hl : lv_has ls 1 [(0, .ref p9)] := hl
  refine lv_aload_n hx hb dX1_init_0 rfl (lv_at hl 0 rfl) ?_
  refine W.objInit hx hb hown ko koi koc rfl (hl.1.trans hml.symm) rfl dX1_init_1 (Nat.le_of_ble_eq_true rfl) (Nat.le_of_ble_eq_true rfl) ?_
  refine lv_aload_n hx hb dX1_init_4 rfl (lv_at hl 0 rfl) ?_
  refine lv_iconst (v := (-1)) hx hb dX1_init_5 (by decide) ?_
  refine xq_put (ci := 1) (C := RX1) (T := TX1) (N := 14) hx hb hts hi1 tyX1 tyX1_ok nmX1 hown hK hW hS (Or.inl rfl) rfl 5 (by omega) k9 (fun _ h9 => h9) rfl rfl rfl (show 5 < 14 by omega) dX1_init_6 (fun H locs hW e3 hS => ?_)
  refine lv_aload_n hx hb dX1_init_9 rfl (lv_at hl 0 rfl) ?_
  refine lv_bipush (v := 10) hx hb dX1_init_10 (by decide) ?_
  refine nwI 10 hx hb karr hK hS (by decide) (by decide) (by decide) (Nat.le_of_ble_eq_true rfl) (Nat.le_of_ble_eq_true rfl) dX1_init_12 (fun n9 H hn9 h09 hN9 hk9 hS => ?_)
  have hW := hW.kept (hk9 _ hW.lt)
  have hne : n9 ≠ p9 := by omega
  refine xq_putF (ci := 1) (C := RX1) (T := TX1) (N := 14) hx hb hts hi1 tyX1 tyX1_ok nmX1 hown hK hW hS (Or.inl rfl) rfl 6 (by omega) k15 (fun _ h9 => h9) rfl hin2 rfl (tyX1_ok 6 (by omega)) rfl rfl (show 6 < 14 by omega) dX1_init_14 (fun H locs hW e3 hS => ?_)
  have hN9 := hN9.kept (e3 _ hne)
  refine xV hx hb hr hlocks (⟨n9, h09, hW, ?_⟩ : ∃ q, s.heap.size ≤ q ∧ va_at G.1 vwCl (p9, .inr (1, pfs q dC p)) H ∧ va_at G.1 vwCl (q, rArr G.2.1 dC p) H) hS dX1_init_17
  show H[n9]? = some (vp_cell _ _)
  rw [arr_same (f := fun k => dC (40 + p) k) (g := vlN []) (fun j _ => dC_40)]
  exact hN9

