set_option maxHeartbeats 4000000 in
set_option maxRecDepth 100000 in
theorem c_X4_become (l : Launch) (G : wG) (ad ad2 : Nat → Nat) (hI : adInj ad 6) (hdis : adApart ad ad2 6 6) (nH nP : Nat) (hH : nH ≤ 10) (hP : nP ≤ 3) (τ δ2 τ2 : wS)   : Met l yX4_become wsX4_become ({ frames := 1, cells := 0, slots := 0, locals := 24 } : Room) (Pc0 G [.ref (ad 0), .ref (ad2 0)] (fun H => RV G ad τ H ∧ RVm G ad2 nH nP δ2 τ2 H)) (Qv0 (RVm G ad nH nP δ2 (tkF τ2 τ)) (AV ad 6)) 0 0 (AV ad 6) := by
  refine Met.ofW (cc := cX4_become) (maxL := 2) (ret := none) (by decide) rfl ?_
  intro pg ev s mid args below meth cd s₁ B hml hv0
  obtain ⟨rfl, hV, hK⟩ := hv0
  have hx := B.exec
  have hb := B.bytes
  have hr := B.returns
  have hts := atoms_spec (ws := wsX4_become) B.pre
  have hown : s.vm.findClass RX4 = some mid.cls := findClass_of_methodNamed B.named
  have hlocks := B.notSynchronized
  have hi4 : ∀ w ∈ wsX40, w ∈ wsX4_become := by decide +kernel
  have k28 := hts (.fieldLink RX4 28 "PumpRosterModel$State" "day" "I") (by decide +kernel)
  have k32 := hts (.fieldLink RX4 32 "PumpRosterModel$State" "houses" "I") (by decide +kernel)
  have k35 := hts (.fieldLink RX4 35 "PumpRosterModel$State" "pumps" "I") (by decide +kernel)
  have k38 := hts (.fieldLink RX4 38 "PumpRosterModel$State" "chest" "I") (by decide +kernel)
  have k9 := hts (.fieldLink RX4 9 "PumpRosterModel$State" "house" "[I") (by decide +kernel)
  have km41 := hts (.methodLink RX4 41 arraycopyName) (by decide +kernel)
  have knat := hts (.native arraycopyName) (by decide +kernel)
  have kstat := hts (.static arraycopyName) (by decide +kernel)
  have ksys := hts (.initialized "java/lang/System") (by decide +kernel)
  have k15 := hts (.fieldLink RX4 15 "PumpRosterModel$State" "pump" "[I") (by decide +kernel)
  have k18 := hts (.fieldLink RX4 18 "PumpRosterModel$State" "roster" "[I") (by decide +kernel)
  have hS : va_S (AV ad 6) s.heap s.heap [] := va_S.rf
  have hl := lv_entry ([.ref (ad 0), .ref (ad2 0)]) (n := 2) (Nat.le_of_ble_eq_true rfl)
  rw [lg_entry_eq]
  generalize (lg_sl ([.ref (ad 0), .ref (ad2 0)]) ++ List.replicate (2 - (lg_sl ([.ref (ad 0), .ref (ad2 0)])).length) Slot.unset).toArray = ls at hl ⊢
  have hl : lv_has ls 2 [(0, .ref (ad 0)), (1, .ref (ad2 0))] := hl
  obtain ⟨hV, hV20⟩ := hV
  have hV2 := hV20
  have hV : RVm G ad 10 3 τ τ s.heap := by show RV G ad (wmx 10 3 τ τ) _; rw [wmx_self]; exact hV
  refine lv_aload_n hx hb dX4_become_0 rfl (lv_at hl 0 rfl) ?_
  refine lv_aload_n hx hb dX4_become_1 rfl (lv_at hl 1 rfl) ?_
  refine rSi 0 (f := 50) (v := τ2 50 0) hx hb hts hi4 hown hK hV2 (by decide) rfl rfl k28 dX4_become_2 ?_
  refine wSi 0 (f := 50) hx hb hts hi4 hown hK hI hV hS (fun _ q => q) (by decide) rfl k28 dX4_become_5 (fun H locs hV _ hS => ?_)
  have hV2 := hV20.other hdis hS
  refine lv_aload_n hx hb dX4_become_8 rfl (lv_at hl 0 rfl) ?_
  refine lv_aload_n hx hb dX4_become_9 rfl (lv_at hl 1 rfl) ?_
  refine rSi 1 (f := 51) (v := τ2 51 0) hx hb hts hi4 hown hK hV2 (by decide) rfl rfl k32 dX4_become_10 ?_
  refine wSi 1 (f := 51) hx hb hts hi4 hown hK hI hV hS (fun _ q => q) (by decide) rfl k32 dX4_become_13 (fun H locs hV _ hS => ?_)
  have hV2 := hV20.other hdis hS
  refine lv_aload_n hx hb dX4_become_16 rfl (lv_at hl 0 rfl) ?_
  refine lv_aload_n hx hb dX4_become_17 rfl (lv_at hl 1 rfl) ?_
  refine rSi 3 (f := 52) (v := τ2 52 0) hx hb hts hi4 hown hK hV2 (by decide) rfl rfl k35 dX4_become_18 ?_
  refine wSi 3 (f := 52) hx hb hts hi4 hown hK hI hV hS (fun _ q => q) (by decide) rfl k35 dX4_become_21 (fun H locs hV _ hS => ?_)
  have hV2 := hV20.other hdis hS
  refine lv_aload_n hx hb dX4_become_24 rfl (lv_at hl 0 rfl) ?_
  refine lv_aload_n hx hb dX4_become_25 rfl (lv_at hl 1 rfl) ?_
  refine rSi 8 (f := 53) (v := τ2 53 0) hx hb hts hi4 hown hK hV2 (by decide) rfl rfl k38 dX4_become_26 ?_
  refine wSi 8 (f := 53) hx hb hts hi4 hown hK hI hV hS (fun _ q => q) (by decide) rfl k38 dX4_become_29 (fun H locs hV _ hS => ?_)
  have hV2 := hV20.other hdis hS
  have hV : RVm G ad 10 3 (wst (wst (wst (wst τ 50 0 (τ2 50 0)) 51 0 (τ2 51 0)) 52 0 (τ2 52 0)) 53 0 (τ2 53 0)) (wst (wst (wst (wst τ 50 0 (τ2 50 0)) 51 0 (τ2 51 0)) 52 0 (τ2 52 0)) 53 0 (τ2 53 0)) H := by
    show RV G ad (wmx 10 3 (wst (wst (wst (wst τ 50 0 (τ2 50 0)) 51 0 (τ2 51 0)) 52 0 (τ2 52 0)) 53 0 (τ2 53 0)) (wst (wst (wst (wst τ 50 0 (τ2 50 0)) 51 0 (τ2 51 0)) 52 0 (τ2 52 0)) 53 0 (τ2 53 0))) _
    rw [wmx_self]
    have q := hV
    unfold RVm at q
    rw [← wmx_w (wact_v (by omega)), ← wmx_w (wact_v (by omega)), ← wmx_w (wact_v (by omega)), ← wmx_w (wact_v (by omega)), wmx_self] at q
    exact q
  refine lv_aload_n hx hb dX4_become_32 rfl (lv_at hl 1 rfl) ?_
  refine rSf 2 (j := 1) hx hb hts hi4 hown hK hV2 (by decide) rfl k9 dX4_become_33 ?_
  refine lv_iconst (v := 0) hx hb dX4_become_36 (by decide) ?_
  refine lv_aload_n hx hb dX4_become_37 rfl (lv_at hl 0 rfl) ?_
  refine rSf 2 (j := 1) hx hb hts hi4 hown hK hV (by decide) rfl k9 dX4_become_38 ?_
  refine lv_iconst (v := 0) hx hb dX4_become_41 (by decide) ?_
  refine lv_aload_n hx hb dX4_become_42 rfl (lv_at hl 0 rfl) ?_
  refine rSf 2 (j := 1) hx hb hts hi4 hown hK hV (by decide) rfl k9 dX4_become_43 ?_
  refine va_alen (v := 110) hx hb hK (va_P1 hV.2.1) 0 0 rfl rfl (show Int32.ofNat 110 = 110 by decide) dX4_become_46 ?_
  refine xq_copyi hx hb (hml.trans hl.1.symm) hown km41 knat kstat ksys hK hV2.2.1 hV.2.1 hS ⟨1, by omega, rfl⟩ 0 0 rfl rfl (by decide) (by decide) (by decide) (by decide) (by decide) (Nat.le_of_ble_eq_true rfl) (by decide) dX4_become_47 (fun H locs e1 e3 hS => ?_)
  have hV := RV.cp1 (ρ := (wst (wst (wst (wst τ 50 0 (τ2 50 0)) 51 0 (τ2 51 0)) 52 0 (τ2 52 0)) 53 0 (τ2 53 0))) hI (by have q := hV; unfold RVm at q; rw [wmx_self] at q; exact q) (by have q := e1; rw [wmx_self] at q; exact q) e3
  have hV : RVm G ad 10 3 (mixC 0 10 (wmx nH nP δ2 τ2) (wst (wst (wst (wst τ 50 0 (τ2 50 0)) 51 0 (τ2 51 0)) 52 0 (τ2 52 0)) 53 0 (τ2 53 0))) (mixC 0 10 (wmx nH nP δ2 τ2) (wst (wst (wst (wst τ 50 0 (τ2 50 0)) 51 0 (τ2 51 0)) 52 0 (τ2 52 0)) 53 0 (τ2 53 0))) H := by show RV G ad (wmx 10 3 (mixC 0 10 (wmx nH nP δ2 τ2) (wst (wst (wst (wst τ 50 0 (τ2 50 0)) 51 0 (τ2 51 0)) 52 0 (τ2 52 0)) 53 0 (τ2 53 0))) (mixC 0 10 (wmx nH nP δ2 τ2) (wst (wst (wst (wst τ 50 0 (τ2 50 0)) 51 0 (τ2 51 0)) 52 0 (τ2 52 0)) 53 0 (τ2 53 0)))) _; rw [wmx_self]; exact hV
  have hV2 := hV20.other hdis hS
  refine lv_aload_n hx hb dX4_become_50 rfl (lv_at hl 1 rfl) ?_
  refine rSf 4 (j := 2) hx hb hts hi4 hown hK hV2 (by decide) rfl k15 dX4_become_51 ?_
  refine lv_iconst (v := 0) hx hb dX4_become_54 (by decide) ?_
  refine lv_aload_n hx hb dX4_become_55 rfl (lv_at hl 0 rfl) ?_
  refine rSf 4 (j := 2) hx hb hts hi4 hown hK hV (by decide) rfl k15 dX4_become_56 ?_
  refine lv_iconst (v := 0) hx hb dX4_become_59 (by decide) ?_
  refine lv_aload_n hx hb dX4_become_60 rfl (lv_at hl 0 rfl) ?_
  refine rSf 4 (j := 2) hx hb hts hi4 hown hK hV (by decide) rfl k15 dX4_become_61 ?_
  refine va_alen (v := 33) hx hb hK (va_P1 hV.2.2.1) 0 0 rfl rfl (show Int32.ofNat 33 = 33 by decide) dX4_become_64 ?_
  refine xq_copyi hx hb (hml.trans hl.1.symm) hown km41 knat kstat ksys hK hV2.2.2.1 hV.2.2.1 hS ⟨2, by omega, rfl⟩ 0 0 rfl rfl (by decide) (by decide) (by decide) (by decide) (by decide) (Nat.le_of_ble_eq_true rfl) (by decide) dX4_become_65 (fun H locs e1 e3 hS => ?_)
  have hV := RV.cp2 (ρ := (mixC 0 10 (wmx nH nP δ2 τ2) (wst (wst (wst (wst τ 50 0 (τ2 50 0)) 51 0 (τ2 51 0)) 52 0 (τ2 52 0)) 53 0 (τ2 53 0)))) hI (by have q := hV; unfold RVm at q; rw [wmx_self] at q; exact q) (by have q := e1; rw [wmx_self] at q; exact q) e3
  have hV : RVm G ad 10 3 (mixC 20 30 (wmx nH nP δ2 τ2) (mixC 0 10 (wmx nH nP δ2 τ2) (wst (wst (wst (wst τ 50 0 (τ2 50 0)) 51 0 (τ2 51 0)) 52 0 (τ2 52 0)) 53 0 (τ2 53 0)))) (mixC 20 30 (wmx nH nP δ2 τ2) (mixC 0 10 (wmx nH nP δ2 τ2) (wst (wst (wst (wst τ 50 0 (τ2 50 0)) 51 0 (τ2 51 0)) 52 0 (τ2 52 0)) 53 0 (τ2 53 0)))) H := by show RV G ad (wmx 10 3 (mixC 20 30 (wmx nH nP δ2 τ2) (mixC 0 10 (wmx nH nP δ2 τ2) (wst (wst (wst (wst τ 50 0 (τ2 50 0)) 51 0 (τ2 51 0)) 52 0 (τ2 52 0)) 53 0 (τ2 53 0)))) (mixC 20 30 (wmx nH nP δ2 τ2) (mixC 0 10 (wmx nH nP δ2 τ2) (wst (wst (wst (wst τ 50 0 (τ2 50 0)) 51 0 (τ2 51 0)) 52 0 (τ2 52 0)) 53 0 (τ2 53 0))))) _; rw [wmx_self]; exact hV
  have hV2 := hV20.other hdis hS
  refine lv_aload_n hx hb dX4_become_68 rfl (lv_at hl 1 rfl) ?_
  refine rSf 5 (j := 3) hx hb hts hi4 hown hK hV2 (by decide) rfl k18 dX4_become_69 ?_
  refine lv_iconst (v := 0) hx hb dX4_become_72 (by decide) ?_
  refine lv_aload_n hx hb dX4_become_73 rfl (lv_at hl 0 rfl) ?_
  refine rSf 5 (j := 3) hx hb hts hi4 hown hK hV (by decide) rfl k18 dX4_become_74 ?_
  refine lv_iconst (v := 0) hx hb dX4_become_77 (by decide) ?_
  refine lv_aload_n hx hb dX4_become_78 rfl (lv_at hl 0 rfl) ?_
  refine rSf 5 (j := 3) hx hb hts hi4 hown hK hV (by decide) rfl k18 dX4_become_79 ?_
  refine va_alen (v := 30) hx hb hK (va_P1 hV.2.2.2.1) 0 0 rfl rfl (show Int32.ofNat 30 = 30 by decide) dX4_become_82 ?_
  refine xq_copyi hx hb (hml.trans hl.1.symm) hown km41 knat kstat ksys hK hV2.2.2.2.1 hV.2.2.2.1 hS ⟨3, by omega, rfl⟩ 0 0 rfl rfl (by decide) (by decide) (by decide) (by decide) (by decide) (Nat.le_of_ble_eq_true rfl) (by decide) dX4_become_83 (fun H locs e1 e3 hS => ?_)
  have hV := RV.cp3 (ρ := (mixC 20 30 (wmx nH nP δ2 τ2) (mixC 0 10 (wmx nH nP δ2 τ2) (wst (wst (wst (wst τ 50 0 (τ2 50 0)) 51 0 (τ2 51 0)) 52 0 (τ2 52 0)) 53 0 (τ2 53 0))))) hI (by have q := hV; unfold RVm at q; rw [wmx_self] at q; exact q) (by have q := e1; rw [wmx_self] at q; exact q) e3
  have hV : RVm G ad 10 3 (mixC 40 43 (wmx nH nP δ2 τ2) (mixC 20 30 (wmx nH nP δ2 τ2) (mixC 0 10 (wmx nH nP δ2 τ2) (wst (wst (wst (wst τ 50 0 (τ2 50 0)) 51 0 (τ2 51 0)) 52 0 (τ2 52 0)) 53 0 (τ2 53 0))))) (mixC 40 43 (wmx nH nP δ2 τ2) (mixC 20 30 (wmx nH nP δ2 τ2) (mixC 0 10 (wmx nH nP δ2 τ2) (wst (wst (wst (wst τ 50 0 (τ2 50 0)) 51 0 (τ2 51 0)) 52 0 (τ2 52 0)) 53 0 (τ2 53 0))))) H := by show RV G ad (wmx 10 3 (mixC 40 43 (wmx nH nP δ2 τ2) (mixC 20 30 (wmx nH nP δ2 τ2) (mixC 0 10 (wmx nH nP δ2 τ2) (wst (wst (wst (wst τ 50 0 (τ2 50 0)) 51 0 (τ2 51 0)) 52 0 (τ2 52 0)) 53 0 (τ2 53 0))))) (mixC 40 43 (wmx nH nP δ2 τ2) (mixC 20 30 (wmx nH nP δ2 τ2) (mixC 0 10 (wmx nH nP δ2 τ2) (wst (wst (wst (wst τ 50 0 (τ2 50 0)) 51 0 (τ2 51 0)) 52 0 (τ2 52 0)) 53 0 (τ2 53 0)))))) _; rw [wmx_self]; exact hV
  have hV2 := hV20.other hdis hS
  exact xV hx hb hr hlocks (become_view (by have q := hV; unfold RVm at q; rw [wmx_self] at q; exact q)) hS dX4_become_86
