def XN2 (U : State) : Prop := va_AO RX0 U ∧ va_AO RX1 U ∧ va_Nw (.methodLinkNest RX2 26 yX1_init RX3) U
theorem XN2.warm {u U : State} (hW : u.WarmedH U.vm) (h : XN2 u) : XN2 U := ⟨h.1.moved hW.alike, h.2.1.moved hW.alike, va_Nw.warmM hW h.2.2⟩

set_option maxHeartbeats 4000000 in
set_option maxRecDepth 100000 in
theorem c_X2_init (l : Launch) (G : wG) (v9 nz : Nat) (hv9 : v9 < nz) : Met l yX2_init wsX2_init ({ frames := 2, cells := 18, slots := 205, locals := 33 } : Room) (PcN G [.ref v9] nz (fun H => va_at G.1 vwCl (v9, .inr (2, zV)) H) XN2) (Qv0 (fun H => ∃ ad, ad 0 = v9 ∧ adInj ad 19 ∧ (∀ k, 1 ≤ k → k < 19 → nz ≤ ad k) ∧ CV G ad dC H) (fun q => q = v9 ∨ nz ≤ q)) 18 205 (fun q => q = v9 ∨ nz ≤ q) := by
  refine Met.ofW (cc := cX2_init) (maxL := 2) (ret := none) (by decide) rfl ?_
  intro pg ev s mid args below meth cd s₁ B hml hv0
  obtain ⟨rfl, rfl, hW, hK, hN⟩ := hv0
  have hx := B.exec
  have hb := B.bytes
  have hr := B.returns
  have hts := atoms_spec (ws := wsX2_init) B.pre
  have hown : s.vm.findClass RX2 = some mid.cls := findClass_of_methodNamed B.named
  have hlocks := B.notSynchronized
  have hin2 : meth.name = "<init>" := (name_of_methodNamed B.named B.method).1
  have hi0 : ∀ w ∈ wsX00, w ∈ wsX2_init := by decide +kernel
  have hi1 : ∀ w ∈ wsX10, w ∈ wsX2_init := by decide +kernel
  have hi2 : ∀ w ∈ wsX20, w ∈ wsX2_init := by decide +kernel
  have ko := hts (.methodLink RX2 3 objectInit) (by decide +kernel)
  have koi := hts (.instanceMethod objectInit) (by decide +kernel)
  have koc := hts (.code objectInit ⟨#[0xb1]⟩ 1 none) (by decide +kernel)
  have k11 := hts (.fieldLink RX2 11 "PumpRoster$Village" "houses" "[LPumpRoster$House;") (by decide +kernel)
  have k19 := hts (.fieldLink RX2 19 "PumpRoster$Village" "pumps" "[LPumpRoster$Pump;") (by decide +kernel)
  have kc9 := hts (.classLink RX2 9 RX0) (by decide +kernel)
  have kc17 := hts (.classLink RX2 17 RX1) (by decide +kernel)
  have ki0 := hts (.instantiable RX0 12) (by decide +kernel)
  have kz0 := hts (.initialized RX0) (by decide +kernel)
  have ki1 := hts (.instantiable RX1 14) (by decide +kernel)
  have kz1 := hts (.initialized RX1) (by decide +kernel)
  have km23 := hts (.methodLink RX2 23 yX0_init) (by decide +kernel)
  have kn0 := hts (.instanceMethod yX0_init) (by decide +kernel)
  have kn1 := hts (.instanceMethod yX1_init) (by decide +kernel)
  have hS : va_S (fun q => q = v9 ∨ s.heap.size ≤ q) s.heap s.heap [] := va_S.rf
  have hl := lv_entry ([.ref v9]) (n := 2) (Nat.le_of_ble_eq_true rfl)
  rw [lg_entry_eq]
  generalize (lg_sl ([.ref v9]) ++ List.replicate (2 - (lg_sl ([.ref v9])).length) Slot.unset).toArray = ls at hl ⊢
  have hl : lv_has ls 2 [(0, .ref v9)] := hl
  refine lv_aload_n hx hb dX2_init_0 rfl (lv_at hl 0 rfl) ?_
  refine W.objInit hx hb hown ko koi koc rfl (hl.1.trans hml.symm) rfl dX2_init_1 (Nat.le_of_ble_eq_true rfl) (Nat.le_of_ble_eq_true rfl) ?_
  refine lv_aload_n hx hb dX2_init_4 rfl (lv_at hl 0 rfl) ?_
  refine lv_bipush (v := 10) hx hb dX2_init_5 (by decide) ?_
  refine nwQ (t0 := 2) 10 hx hb hown kc9 hN.1 hK rfl hS (by decide) (by decide) (by decide) (Nat.le_of_ble_eq_true rfl) (Nat.le_of_ble_eq_true rfl) dX2_init_7 (fun a1 H hn1 h01 hA1 hk9 hS => ?_)
  have hW := hW.kept (hk9 _ hW.lt)
  refine xq_putF (ci := 2) (C := RX2) (T := TX2) (N := 6) hx hb hts hi2 tyX2 tyX2_ok nmX2 hown hK hW hS (Or.inl rfl) rfl 0 (by omega) k11 (fun _ h9 => h9) rfl hin2 rfl (tyX2_ok 0 (by omega)) rfl rfl (show 0 < 6 by omega) dX2_init_10 (fun H locs hW e3 hS => ?_)
  have hA1 := hA1.kept (e3 a1 (by omega))
  refine lv_aload_n hx hb dX2_init_13 rfl (lv_at hl 0 rfl) ?_
  refine lv_iconst (v := 3) hx hb dX2_init_14 (by decide) ?_
  refine nwQ (t0 := 3) 3 hx hb hown kc17 hN.2.1 hK rfl hS (by decide) (by decide) (by decide) (Nat.le_of_ble_eq_true rfl) (Nat.le_of_ble_eq_true rfl) dX2_init_15 (fun a2 H hn2 h02 hA2 hk9 hS => ?_)
  have h12 : a1 < a2 := by rw [← hn2]; exact hA1.lt
  have hW := hW.kept (hk9 _ hW.lt)
  have hA1 := hA1.kept (hk9 _ hA1.lt)
  refine xq_putF (ci := 2) (C := RX2) (T := TX2) (N := 6) hx hb hts hi2 tyX2 tyX2_ok nmX2 hown hK hW hS (Or.inl rfl) rfl 1 (by omega) k19 (fun _ h9 => h9) rfl hin2 rfl (tyX2_ok 1 (by omega)) rfl rfl (show 1 < 6 by omega) dX2_init_18 (fun H locs hW e3 hS => ?_)
  have hA1 := hA1.kept (e3 a1 (by omega))
  have hA2 := hA2.kept (e3 a2 (by omega))
  refine lv_iconst (v := nI 0) hx hb dX2_init_21 (by decide) ?_
  refine lv_istore_n (lv' := [(1, .int (nI 0)), (0, .ref v9)]) hx hb dX2_init_22 rfl hl (by decide) rfl (fun ls hl => ?_)
  have hL : LVw G v9 a1 a2 (fun _ => 0) (fun _ => 0) (fun _ => 0) 0 0 H := by
    refine ⟨hW, ?_, ?_, fun h hh => absurd hh (by omega), fun p hp => absurd hp (by omega)⟩
    · show H[a1]? = some (vp_cell _ _)
      rw [arr_sameq (f := fun h => if h < 0 then some ((fun _ => 0) h) else none) (g := fun _ => none) (fun k _ => if_neg (by omega))]
      exact hA1
    · show H[a2]? = some (vp_cell _ _)
      rw [arr_sameq (f := fun h => if h < 0 then some ((fun _ => 0) h) else none) (g := fun _ => none) (fun k _ => if_neg (by omega))]
      exact hA2
  have hO : LVo s.heap.size a1 a2 (fun _ => 0) (fun _ => 0) (fun _ => 0) 0 0 := ⟨h01, h12, fun h hh => absurd hh (by omega), fun h k _ hk => absurd hk (by omega), fun p hp => absurd hp (by omega), fun h p hh => absurd hh (by omega), fun p k _ hk => absurd hk (by omega)⟩
  refine W.widen (k := 2 + 0 * 1) (n := 13 + 0 * 12) (Nat.le_of_ble_eq_true rfl) (Nat.le_of_ble_eq_true rfl) ?_
  refine W_upc (pc := 23) (cells := 2) (slots := 13) 1 12 10 (fun i H locs ls => (∃ hh pp rr, LVw G v9 a1 a2 hh pp rr i 0 H ∧ LVo s.heap.size a1 a2 hh pp rr i 0) ∧ va_S (fun q => q = v9 ∨ s.heap.size ≤ q) s.heap H locs ∧ lv_has ls 2 [(0, .ref v9), (1, .int (nI i))]) ?_ 0 (by omega) _ _ _ ⟨⟨_, _, _, hL, hO⟩, hS, lv_sub hl [1, 0] rfl⟩
  intro i H locs ls hi ⟨⟨hh, pp, rr, hL, hO⟩, hS, hl⟩ ih
  refine lv_iload_n hx hb dX2_init_23 rfl (lv_at hl 1 rfl) ?_
  refine lv_bipush (v := nI 10) hx hb dX2_init_24 (by decide) ?_
  refine lv_icmp_ge (tgt := 49) hx hb dX2_init_26 (by decide) (fun c => ?_) (fun c => ?_)
  · skip
    replace c := (nI_leI (a := 10) (b := i) (by omega) (by omega)).mp c
    obtain rfl : 10 = i := by omega
    refine lv_iconst (v := nI 0) hx hb dX2_init_49 (by decide) ?_
    refine lv_istore_n (lv' := [(1, .int (nI 0)), (0, .ref v9)]) hx hb dX2_init_50 rfl hl (by decide) rfl (fun ls hl => ?_)
    clear ih
    refine W.widen (k := 12 + 0 * 2) (n := 133 + 0 * 24) (Nat.le_of_ble_eq_true rfl) (Nat.le_of_ble_eq_true rfl) ?_
    refine W_upc (pc := 51) (cells := 12) (slots := 133) 2 24 3 (fun i H locs ls => (∃ hh pp rr, LVw G v9 a1 a2 hh pp rr 10 i H ∧ LVo s.heap.size a1 a2 hh pp rr 10 i) ∧ va_S (fun q => q = v9 ∨ s.heap.size ≤ q) s.heap H locs ∧ lv_has ls 2 [(0, .ref v9), (1, .int (nI i))]) ?_ 0 (by omega) _ _ _ ⟨⟨_, _, _, hL, hO⟩, hS, lv_sub hl [1, 0] rfl⟩
    intro i H locs ls hi ⟨⟨hh, pp, rr, hL, hO⟩, hS, hl⟩ ih
    refine lv_iload_n hx hb dX2_init_51 rfl (lv_at hl 1 rfl) ?_
    refine lv_iconst (v := nI 3) hx hb dX2_init_52 (by decide) ?_
    refine lv_icmp_ge (tgt := 75) hx hb dX2_init_53 (by decide) (fun c => ?_) (fun c => ?_)
    · skip
      replace c := (nI_leI (a := 3) (b := i) (by omega) (by omega)).mp c
      obtain rfl : 3 = i := by omega
      refine W.widen (k := 18) (n := 205) (Nat.le_of_ble_eq_true rfl) (Nat.le_of_ble_eq_true rfl) ?_
      exact xV hx hb hr hlocks (LV.done hv9 hL hO) hS dX2_init_75
    · skip
      replace c : ¬ (3 ≤ i) := fun q => c ((nI_leI (a := 3) (b := i) (by omega) (by omega)).mpr q)
      refine lv_aload_n hx hb dX2_init_56 rfl (lv_at hl 0 rfl) ?_
      refine va_get (ci := 2) (C := RX2) (T := TX2) (N := 6) hx hb hts hi2 hown hK (va_P1 hL.1) 0 rfl rfl 1 (by omega) k19 (fun _ h9 => h9) rfl dX2_init_57 ?_
      refine lv_iload_n hx hb dX2_init_60 rfl (lv_at hl 1 rfl) ?_
      refine nwO (ci := 1) (C := RX1) (T := TX1) (N := 14) (fs := zP) hx hb hts hi1 tyX1 tyX1_ok hown kc17 ki1 kz1 hK hS rfl (fun j hj => by rcases (show j = 0 ∨ j = 1 ∨ j = 2 ∨ j = 3 ∨ j = 4 ∨ j = 5 ∨ j = 6 ∨ j = 7 ∨ j = 8 ∨ j = 9 ∨ j = 10 ∨ j = 11 ∨ j = 12 ∨ j = 13 by omega) with rfl | rfl | rfl | rfl | rfl | rfl | rfl | rfl | rfl | rfl | rfl | rfl | rfl | rfl <;> rfl) (by show 12 + i * 2 + 1 ≤ 18; omega) (by show 133 + i * 24 + 14 ≤ 205; omega) dX2_init_61 (fun n9 H hn9 h09 hN9 hk9 hS => ?_)
      have hb9 := hL.b hn9
      rw [hn9] at hk9
      have hL := hL.kept hb9 hk9
      refine lv_dup hx hb dX2_init_64 rfl ?_
      refine kV (va_runIN (As := []) (rest := [.ref n9, .int (nI i), .ref a2]) ⟨hx, hb, hml, hown, hts⟩ (c_X1_init l G n9 i H.size hN9.lt) ⟨va_cnB 0 hts gX2_init_X1_init_n26 rfl rfl rfl hN.2.2 kz1 (by decide +kernel) ⟨Nat.le_of_ble_eq_true rfl, Nat.le_of_ble_eq_true rfl⟩, rfl, kn1⟩ ⟨PcN.blind (fun _ _ _ h => h), PcN.pre hN9 hK (fun _ _ => trivial)⟩ rfl rfl hl.1 rfl (lv_room (Nat.le_of_ble_eq_true rfl)) dX2_init_65 ⟨by show 12 + i * 2 + 1 + 1 ≤ 18; omega, by show 133 + i * 24 + 14 + 10 ≤ 205; omega⟩) hS (fun q h9 h => Or.inr (by rcases h with h | h <;> omega)) (fun q h => Or.inr (by have := hS.1; rcases h with h | h; exact Nat.le_trans h09 (Nat.le_of_eq (Eq.symm h)); exact Nat.le_trans this h)) (fun H locs hR hz hk hS => ?_)
      have h99 : n9 < _ := hN9.lt
      obtain ⟨r9, hr9, hN8, hR⟩ := hR
      have hL := hL.kept hb9 (fun q hq => hk q (Nat.lt_trans hq h99) (fun hh => by rcases hh with hh | hh <;> omega))
      refine xq_astq (r := (RX1, TX1, 14)) hx hb hK 3 1 hL.2.2.1 hN8 hS (Or.inr (by have := hO.1; have := hO.2.1; omega)) rfl rfl (vp_in_nI (show i < 3 by omega) (by omega)) dX2_init_68 (fun H locs e1 e3 hS => ?_)
      rw [nI_clamp (show i < 2 ^ 31 by omega)] at e1
      obtain ⟨pp, rr, hL, hO⟩ := LV.addP hv9 hL hO hb9 (by omega) hN8 hR e1 e3
      refine lv_iinc (k := 1) (v := nI (i + 1)) (lv' := [(1, .int (nI (i + 1))), (0, .ref v9)]) hx hb dX2_init_69 hl rfl (nI_add i 1) (by decide) rfl (fun ls hl => ?_)
      refine lv_goto (tgt := 51) hx hb dX2_init_72 (by decide) ?_
      refine W.widen (k := 12 + (i + 1) * 2) (n := 133 + (i + 1) * 24) (by omega) (by omega) ?_
      exact ih (by omega) _ _ _ ⟨⟨_, _, _, hL, hO⟩, hS, lv_sub hl [1, 0] rfl⟩
  · skip
    replace c : ¬ (10 ≤ i) := fun q => c ((nI_leI (a := 10) (b := i) (by omega) (by omega)).mpr q)
    refine lv_aload_n hx hb dX2_init_29 rfl (lv_at hl 0 rfl) ?_
    refine va_get (ci := 2) (C := RX2) (T := TX2) (N := 6) hx hb hts hi2 hown hK (va_P1 hL.1) 0 rfl rfl 0 (by omega) k11 (fun _ h9 => h9) rfl dX2_init_30 ?_
    refine lv_iload_n hx hb dX2_init_33 rfl (lv_at hl 1 rfl) ?_
    refine nwO (ci := 0) (C := RX0) (T := TX0) (N := 12) (fs := zH) hx hb hts hi0 tyX0 tyX0_ok hown kc9 ki0 kz0 hK hS rfl (fun j hj => by rcases (show j = 0 ∨ j = 1 ∨ j = 2 ∨ j = 3 ∨ j = 4 ∨ j = 5 ∨ j = 6 ∨ j = 7 ∨ j = 8 ∨ j = 9 ∨ j = 10 ∨ j = 11 by omega) with rfl | rfl | rfl | rfl | rfl | rfl | rfl | rfl | rfl | rfl | rfl | rfl <;> rfl) (by show 2 + i * 1 + 1 ≤ 18; omega) (by show 13 + i * 12 + 12 ≤ 205; omega) dX2_init_34 (fun n9 H hn9 h09 hN9 hk9 hS => ?_)
    have hb9 := hL.b hn9
    rw [hn9] at hk9
    have hL := hL.kept hb9 hk9
    refine lv_dup hx hb dX2_init_37 rfl ?_
    refine lv_iload_n hx hb dX2_init_38 rfl (lv_at hl 1 rfl) ?_
    refine kV (va_runI (As := [.int (nI i)]) (rest := [.ref n9, .int (nI i), .ref a1]) ⟨hx, hb, hml, hown, hts⟩ (c_X0_init l G n9 i) (cwI 1 hts gX2_init_X0_init rfl rfl rfl kz0 km23 kn0 rfl (by decide +kernel) ⟨Nat.le_of_ble_eq_true rfl, Nat.le_of_ble_eq_true rfl⟩) ⟨Pc0.blind, Pc0.pre hN9 hK⟩ rfl rfl hl.1 rfl (lv_room (Nat.le_of_ble_eq_true rfl)) dX2_init_39 ⟨by show 2 + i * 1 + 1 + 0 ≤ 18; omega, by show 13 + i * 12 + 12 + 0 ≤ 205; omega⟩) hS (fun q _ h => Or.inr (by rw [h]; exact h09)) (fun q h => Or.inr (by rw [h]; exact h09)) (fun H locs hN hz hk hS => ?_)
    have hL := hL.kept hb9 (fun q hq => hk q (Nat.lt_trans hq hN9.lt) (by show ¬ q = n9; omega))
    refine xq_astq (r := (RX0, TX0, 12)) hx hb hK 2 0 hL.2.1 hN hS (Or.inr hO.1) rfl rfl (vp_in_nI (show i < 10 by omega) (by omega)) dX2_init_42 (fun H locs e1 e3 hS => ?_)
    rw [nI_clamp (show i < 2 ^ 31 by omega)] at e1
    obtain ⟨hh, hL, hO⟩ := LV.addH hv9 hL hO hb9 hN e1 e3
    refine lv_iinc (k := 1) (v := nI (i + 1)) (lv' := [(1, .int (nI (i + 1))), (0, .ref v9)]) hx hb dX2_init_43 hl rfl (nI_add i 1) (by decide) rfl (fun ls hl => ?_)
    refine lv_goto (tgt := 23) hx hb dX2_init_46 (by decide) ?_
    refine W.widen (k := 2 + (i + 1) * 1) (n := 13 + (i + 1) * 12) (by omega) (by omega) ?_
    exact ih (by omega) _ _ _ ⟨⟨_, _, _, hL, hO⟩, hS, lv_sub hl [1, 0] rfl⟩

set_option maxHeartbeats 4000000 in
set_option maxRecDepth 100000 in
theorem c_X3_init (l : Launch) (G : wG) (xa nz : Nat) (hx9 : xa < nz) : Met l yX3_init wsX3_init ({ frames := 3, cells := 38, slots := 422, locals := 60 } : Room) (PcN G [.ref xa] nz (fun H => va_at G.1 vwCl (xa, .inr (3, zX)) H) XN2) (Qv0 (fun H => ∃ ad ad2, XI xa ad ad2 ∧ (∀ k, k < 19 → nz ≤ ad k) ∧ (∀ k, k < 19 → nz ≤ ad2 k) ∧ XW G xa ad ad2 dC dC H) (fun q => q = xa ∨ nz ≤ q)) 38 422 (fun q => q = xa ∨ nz ≤ q) := by
  refine Met.ofW (cc := cX3_init) (maxL := 1) (ret := none) (by decide) rfl ?_
  intro pg ev s mid args below meth cd s₁ B hml hv0
  obtain ⟨rfl, rfl, hW, hK, hN⟩ := hv0
  have hx := B.exec
  have hb := B.bytes
  have hr := B.returns
  have hts := atoms_spec (ws := wsX3_init) B.pre
  have hown : s.vm.findClass RX3 = some mid.cls := findClass_of_methodNamed B.named
  have hlocks := B.notSynchronized
  have hin2 : meth.name = "<init>" := (name_of_methodNamed B.named B.method).1
  have hi3 : ∀ w ∈ wsX30, w ∈ wsX3_init := by decide +kernel
  have hi2 : ∀ w ∈ wsX20, w ∈ wsX3_init := by decide +kernel
  have ko := hts (.methodLink RX3 1 objectInit) (by decide +kernel)
  have koi := hts (.instanceMethod objectInit) (by decide +kernel)
  have koc := hts (.code objectInit ⟨#[0xb1]⟩ 1 none) (by decide +kernel)
  have k10 := hts (.fieldLink RX3 10 "PumpRoster" "village" "LPumpRoster$Village;") (by decide +kernel)
  have k16 := hts (.fieldLink RX3 16 "PumpRoster" "trial" "LPumpRoster$Village;") (by decide +kernel)
  have kc7 := hts (.classLink RX3 7 RX2) (by decide +kernel)
  have ki := hts (.instantiable RX2 6) (by decide +kernel)
  have kz := hts (.initialized RX2) (by decide +kernel)
  have kn := hts (.instanceMethod yX2_init) (by decide +kernel)
  have km9 := hts (.methodLink RX3 9 yX2_init) (by decide +kernel)
  have hS : va_S (fun q => q = xa ∨ s.heap.size ≤ q) s.heap s.heap [] := va_S.rf
  have hl := lv_entry ([.ref xa]) (n := 1) (Nat.le_of_ble_eq_true rfl)
  rw [lg_entry_eq]
  generalize (lg_sl ([.ref xa]) ++ List.replicate (1 - (lg_sl ([.ref xa])).length) Slot.unset).toArray = ls at hl ⊢
  have hl : lv_has ls 1 [(0, .ref xa)] := hl
  refine lv_aload_n hx hb dX3_init_0 rfl (lv_at hl 0 rfl) ?_
  refine W.objInit hx hb hown ko koi koc rfl (hl.1.trans hml.symm) rfl dX3_init_1 (Nat.le_of_ble_eq_true rfl) (Nat.le_of_ble_eq_true rfl) ?_
  refine lv_aload_n hx hb dX3_init_4 rfl (lv_at hl 0 rfl) ?_
  refine nwO (ci := 2) (C := RX2) (T := TX2) (N := 6) (fs := zV) hx hb hts hi2 tyX2 tyX2_ok hown kc7 ki kz hK hS rfl (fun j hj => by rcases (show j = 0 ∨ j = 1 ∨ j = 2 ∨ j = 3 ∨ j = 4 ∨ j = 5 by omega) with rfl | rfl | rfl | rfl | rfl | rfl <;> rfl) (Nat.le_of_ble_eq_true rfl) (Nat.le_of_ble_eq_true rfl) dX3_init_5 (fun n0 H hn0 h00 hN0 hk9 hS => ?_)
  have hW := hW.kept (hk9 _ hW.lt)
  refine lv_dup hx hb dX3_init_8 rfl ?_
  have h90 : n0 < _ := hN0.lt
  have hwl : xa < _ := hW.lt
  refine kV (va_runI (As := []) (rest := [.ref n0, .ref xa]) ⟨hx, hb, hml, hown, hts⟩ (c_X2_init l G n0 H.size hN0.lt) (cwI 0 hts gX3_init_X2_init rfl rfl rfl kz km9 kn rfl (by decide +kernel) ⟨Nat.le_of_ble_eq_true rfl, Nat.le_of_ble_eq_true rfl⟩) ⟨PcN.blind (fun _ _ hW h => h.warm hW), PcN.pre hN0 hK (fun _ hW => hN.warm hW)⟩ rfl rfl hl.1 rfl (lv_room (Nat.le_of_ble_eq_true rfl)) dX3_init_9 ⟨Nat.le_of_ble_eq_true rfl, Nat.le_of_ble_eq_true rfl⟩) hS (fun q h9 h => Or.inr (by rcases h with h | h <;> omega)) (fun q h => Or.inr (by have := hS.1; rcases h with h | h; exact Nat.le_trans h00 (Nat.le_of_eq (Eq.symm h)); exact Nat.le_trans this h)) (fun H locs hB hz hk hS => ?_)
  have hW := hW.kept (hk xa hwl (fun hh => by rcases hh with hh | hh <;> omega))
  obtain ⟨ad, e00, hI0, hg0, hV1⟩ := hB
  have hge0 : ∀ k, k < 19 → n0 ≤ ad k := fun k hk => by
    by_cases z : k = 0
    · rw [z, e00]; exact Nat.le_refl _
    · have := hg0 k (by omega) hk
      omega
  have hxne0 : ∀ k, k < 19 → xa ≠ ad k := fun k hk => by have := hge0 k hk; omega
  refine xq_putF (ci := 3) (C := RX3) (T := TX3) (N := 2) hx hb hts hi3 tyX3 tyX3_ok nmX3 hown hK hW hS (Or.inl rfl) rfl 0 (by omega) k10 (fun _ h9 => h9) rfl hin2 rfl (tyX3_ok 0 (by omega)) rfl rfl (show 0 < 2 by omega) dX3_init_12 (fun H locs hW e3 hS => ?_)
  have hV1 := hV1.kept (fun k hk => e3 _ (Ne.symm (hxne0 k hk)))
  refine lv_aload_n hx hb dX3_init_15 rfl (lv_at hl 0 rfl) ?_
  refine nwO (ci := 2) (C := RX2) (T := TX2) (N := 6) (fs := zV) hx hb hts hi2 tyX2 tyX2_ok hown kc7 ki kz hK hS rfl (fun j hj => by rcases (show j = 0 ∨ j = 1 ∨ j = 2 ∨ j = 3 ∨ j = 4 ∨ j = 5 by omega) with rfl | rfl | rfl | rfl | rfl | rfl <;> rfl) (Nat.le_of_ble_eq_true rfl) (Nat.le_of_ble_eq_true rfl) dX3_init_16 (fun n1 H hn1 h01 hN1 hk9 hS => ?_)
  have hW := hW.kept (hk9 _ hW.lt)
  have hlt : ∀ k, k < 19 → ad k < n1 := fun k hk => by rw [← hn1]; exact hV1.lt hk
  have hV1 := hV1.kept (fun k hk => hk9 _ (by rw [hn1]; exact hlt k hk))
  refine lv_dup hx hb dX3_init_19 rfl ?_
  have h91 : n1 < _ := hN1.lt
  have hwl : xa < _ := hW.lt
  refine kV (va_runI (As := []) (rest := [.ref n1, .ref xa]) ⟨hx, hb, hml, hown, hts⟩ (c_X2_init l G n1 H.size hN1.lt) (cwI 0 hts gX3_init_X2_init rfl rfl rfl kz km9 kn rfl (by decide +kernel) ⟨Nat.le_of_ble_eq_true rfl, Nat.le_of_ble_eq_true rfl⟩) ⟨PcN.blind (fun _ _ hW h => h.warm hW), PcN.pre hN1 hK (fun _ hW => hN.warm hW)⟩ rfl rfl hl.1 rfl (lv_room (Nat.le_of_ble_eq_true rfl)) dX3_init_20 ⟨Nat.le_of_ble_eq_true rfl, Nat.le_of_ble_eq_true rfl⟩) hS (fun q h9 h => Or.inr (by rcases h with h | h <;> omega)) (fun q h => Or.inr (by have := hS.1; rcases h with h | h; exact Nat.le_trans h01 (Nat.le_of_eq (Eq.symm h)); exact Nat.le_trans this h)) (fun H locs hB hz hk hS => ?_)
  have hW := hW.kept (hk xa hwl (fun hh => by rcases hh with hh | hh <;> omega))
  have hV1 := hV1.kept (fun k hk9 => hk (ad k) (hV1.lt hk9) (fun hh => by have h1 := hlt k hk9; have h2 := hV1.lt hk9; rcases hh with hh | hh <;> omega))
  obtain ⟨ad2, e01, hI1, hg1, hV2⟩ := hB
  have hge1 : ∀ k, k < 19 → n1 ≤ ad2 k := fun k hk => by
    by_cases z : k = 0
    · rw [z, e01]; exact Nat.le_refl _
    · have := hg1 k (by omega) hk
      omega
  have hxne1 : ∀ k, k < 19 → xa ≠ ad2 k := fun k hk => by have := hge1 k hk; omega
  refine xq_putF (ci := 3) (C := RX3) (T := TX3) (N := 2) hx hb hts hi3 tyX3 tyX3_ok nmX3 hown hK hW hS (Or.inl rfl) rfl 1 (by omega) k16 (fun _ h9 => h9) rfl hin2 rfl (tyX3_ok 1 (by omega)) rfl rfl (show 1 < 2 by omega) dX3_init_23 (fun H locs hW e3 hS => ?_)
  have hV1 := hV1.kept (fun k hk => e3 _ (Ne.symm (hxne0 k hk)))
  have hV2 := hV2.kept (fun k hk => e3 _ (Ne.symm (hxne1 k hk)))
  have hI : XI xa ad ad2 := ⟨hI0, hI1, fun i j hi hj e => by have := hlt i hi; have := hge1 j hj; omega, hxne0, hxne1⟩
  rw [← e00, ← e01] at hW
  exact xV hx hb hr hlocks ⟨ad, ad2, hI, fun k hk => Nat.le_trans h00 (hge0 k hk), fun k hk => Nat.le_trans h01 (hge1 k hk), hW, hV1, hV2⟩ hS dX3_init_26

