def Qd0 (v : UInt64) (B : Heap → Prop) (A : Nat → Prop) : Array Value → State → Outcome → State → Prop := va_Qd (S := Unit) (fun r _ => r = v) (fun _ t => B t.heap) A
section YD
variable {p : Program} {l : Launch} {e : Env} {R : Room} {s : State} {m : MethodId} {args : Array Value} {below : List Frame} {meth : Method} {c : Code} {H : Heap} {locs : List Loc} {cells slots : Nat}
variable {cc : ByteArray} {pc : Nat} {ls : Array Slot} {A : Nat → Prop} {B : Heap → Prop}
theorem xD {v w : UInt64} (hexec : p.tables.exec = Jvm.exec) (hb : c.code = cc) (hr : meth.sig.returnType = some .double) (hlocks : meth.locks = false) (hB : B H) (hS : va_S A s.heap H locs) (hv : v = w) (hdg : decode cc pc = .ok (.dreturn, 1)) :
    W p l e R s m args below meth c H locs cells slots (MQ below (Qd0 w B A) args s cells slots A) (F0 m pc ls [.double v]) := by
  subst hv
  exact W.dret hexec hb hr (fun t ht hW => ⟨⟨_, (), rfl, rfl, by show B t.heap; rw [ht]; exact hB⟩, hS.F ht⟩) hS.2.2 hdg
end YD
/-- a number by a number that isn't 0 -/
theorem div_n64 {a b : Int32} (h : ¬ b = 0) : vf_n64 (FP.ddiv (FP.i2d a) (FP.i2d b)) := Jvm.Free.Fl.ddiv_out (Jvm.Free.Fl.i2d_fin a).noNaN (Jvm.Free.Fl.i2d_fin b) (Jvm.Free.Fl.i2d_nz h)
def dlyF (nP : Nat) (τ : wS) : UInt64 := if τ 50 0 = 0 then FP.dconst0 else FP.ddiv (FP.i2d (sm (fun h => τ 29 h) nP)) (FP.i2d (τ 50 0))

set_option maxHeartbeats 4000000 in
set_option maxRecDepth 100000 in
theorem c_X3_daily (l : Launch) (G : wG) (xa : Nat) (ad ad2 : Nat → Nat) (hI : XI xa ad ad2) (nH nP : Nat) (hH : nH ≤ 10) (hP : nP ≤ 3) (δ τ z : wS)  (hv : Inv nH nP τ) : Met l yX3_daily wsX3_daily ({ frames := 1, cells := 0, slots := 0, locals := 22 } : Room) (Pc0 G [.ref xa] (XWz G xa ad ad2 (wmx nH nP δ τ) z)) (Qd0 (dlyF nP τ) (XWz G xa ad ad2 (wmx nH nP δ τ) z) (AV ad 19)) 0 0 (AV ad 19) := by
  refine Met.ofW (cc := cX3_daily) (maxL := 1) (ret := (some .double)) (by decide) rfl ?_
  intro pg ev s mid args below meth cd s₁ B hml hv0
  obtain ⟨rfl, hW, hK⟩ := hv0
  have hx := B.exec
  have hb := B.bytes
  have hr := B.returns
  have hts := atoms_spec (ws := wsX3_daily) B.pre
  have hown : s.vm.findClass RX3 = some mid.cls := findClass_of_methodNamed B.named
  have hlocks := B.notSynchronized
  have hi2 : ∀ w ∈ wsX20, w ∈ wsX3_daily := by decide +kernel
  have hi3 : ∀ w ∈ wsX30, w ∈ wsX3_daily := by decide +kernel
  have k10 := hts (.fieldLink RX3 10 "PumpRoster" "village" "LPumpRoster$Village;") (by decide +kernel)
  have k164 := hts (.fieldLink RX3 164 "PumpRoster$Village" "day" "I") (by decide +kernel)
  have hS : va_S (AV ad 19) s.heap s.heap [] := va_S.rf
  have hl := lv_entry ([.ref xa]) (n := 1) (Nat.le_of_ble_eq_true rfl)
  rw [lg_entry_eq]
  generalize (lg_sl ([.ref xa]) ++ List.replicate (1 - (lg_sl ([.ref xa])).length) Slot.unset).toArray = ls at hl ⊢
  have hl : lv_has ls 1 [(0, .ref xa)] := hl
  obtain ⟨σ2, hW, hz⟩ := hW
  refine lv_aload_n hx hb dX3_daily_0 rfl (lv_at hl 0 rfl) ?_
  refine rX0 hx hb hts hi3 hown hK hW k10 dX3_daily_1 ?_
  refine rV 5 (f := 50) (v := τ 50 0) hx hb hts hi2 hown hK hW.2.1 (by decide) (by decide) rfl rfl k164 dX3_daily_4 ?_
  refine lv_if_ne (tgt := 12) hx hb dX3_daily_7 (by decide) (fun c7 => ?_) (fun c7 => ?_)
  · skip
    refine lv_aload_n hx hb dX3_daily_12 rfl (lv_at hl 0 rfl) ?_
    refine rX0 hx hb hts hi3 hown hK hW k10 dX3_daily_13 ?_
    refine kI (va_runV (As := []) (rest := []) ⟨hx, hb, hml, hown, hts⟩ (c_X2_allDrawn l G ad hI.1 nH nP hH hP δ τ hv) (cwV 0 hts gX3_daily_X2_allDrawn rfl rfl rfl (by decide +kernel) ⟨Nat.le_of_ble_eq_true rfl, Nat.le_of_ble_eq_true rfl⟩) ⟨Pc0.blind, va_recv hK (va_P1 (hW.2.1.1)) (ci := 2) (q0 := 0) rfl rfl, Pc0.pre hW.2.1 hK⟩ rfl rfl hl.1 rfl (lv_room (Nat.le_of_ble_eq_true rfl)) dX3_daily_16 ⟨Nat.le_of_ble_eq_true rfl, Nat.le_of_ble_eq_true rfl⟩) hS (fun q _ h => h) (fun q h => h) (fun H locs hB _ hk hS => ?_)
    have hW := hW.main hI hB hk
    refine lv_i2d hx hb dX3_daily_19 ?_
    refine lv_aload_n hx hb dX3_daily_20 rfl (lv_at hl 0 rfl) ?_
    refine rX0 hx hb hts hi3 hown hK hW k10 dX3_daily_21 ?_
    refine rV 5 (f := 50) (v := τ 50 0) hx hb hts hi2 hown hK hW.2.1 (by decide) (by decide) rfl rfl k164 dX3_daily_24 ?_
    refine lv_i2d hx hb dX3_daily_27 ?_
    refine lv_ddiv hx hb dX3_daily_28 (div_n64 c7) ?_
    exact xD hx hb hr hlocks (⟨_, hW, hz⟩) hS ((if_neg c7).symm) dX3_daily_29
  · skip
    refine lv_dconst0 hx hb dX3_daily_10 ?_
    exact xD hx hb hr hlocks (⟨_, hW, hz⟩) hS ((if_pos c7).symm) dX3_daily_11

set_option maxHeartbeats 4000000 in
set_option maxRecDepth 100000 in
theorem c_X3_digest (l : Launch) (G : wG) (xa : Nat) (ad ad2 : Nat → Nat) (hI : XI xa ad ad2) (nH nP : Nat) (hH : nH ≤ 10) (hP : nP ≤ 3) (δ τ z : wS)  (hv : Inv nH nP τ) : Met l yX3_digest wsX3_digest ({ frames := 3, cells := 0, slots := 0, locals := 63 } : Room) (Pc0 G [.ref xa] (XWz G xa ad ad2 (wmx nH nP δ τ) z)) (Ql0 (dgF nH nP τ) (XWz G xa ad ad2 (wmx nH nP δ τ) z) (AV ad 19)) 0 0 (AV ad 19) := by
  refine Met.ofW (cc := cX3_digest) (maxL := 5) (ret := (some .long)) (by decide) rfl ?_
  intro pg ev s mid args below meth cd s₁ B hml hv0
  obtain ⟨rfl, hW, hK⟩ := hv0
  have hx := B.exec
  have hb := B.bytes
  have hr := B.returns
  have hts := atoms_spec (ws := wsX3_digest) B.pre
  have hown : s.vm.findClass RX3 = some mid.cls := findClass_of_methodNamed B.named
  have hlocks := B.notSynchronized
  have hi2 : ∀ w ∈ wsX20, w ∈ wsX3_digest := by decide +kernel
  have hi3 : ∀ w ∈ wsX30, w ∈ wsX3_digest := by decide +kernel
  have k170 := hts (.constantLong RX3 170 (577)) (by decide +kernel)
  have k10 := hts (.fieldLink RX3 10 "PumpRoster" "village" "LPumpRoster$Village;") (by decide +kernel)
  have k23 := hts (.fieldLink RX3 23 "PumpRoster$Village" "houseCount" "I") (by decide +kernel)
  have k52 := hts (.fieldLink RX3 52 "PumpRoster$Village" "pumpCount" "I") (by decide +kernel)
  have k57 := hts (.fieldLink RX3 57 "PumpRoster$Village" "pumps" "[LPumpRoster$Pump;") (by decide +kernel)
  have k172 := hts (.constantLong RX3 172 (31)) (by decide +kernel)
  have k34 := hts (.fieldLink RX3 34 "PumpRoster$Village" "houses" "[LPumpRoster$House;") (by decide +kernel)
  have hS : va_S (AV ad 19) s.heap s.heap [] := va_S.rf
  have hl := lv_entry ([.ref xa]) (n := 5) (Nat.le_of_ble_eq_true rfl)
  rw [lg_entry_eq]
  generalize (lg_sl ([.ref xa]) ++ List.replicate (5 - (lg_sl ([.ref xa])).length) Slot.unset).toArray = ls at hl ⊢
  have hl : lv_has ls 5 [(0, .ref xa)] := hl
  obtain ⟨σ2, hW, hz⟩ := hW
  refine lv_ldc2 (v := 577) hx hb hown k170 dX3_digest_0 ?_
  refine lv_lstore_n (lv' := [(1, .long 577), (0, .ref xa)]) hx hb dX3_digest_3 rfl hl (by decide) rfl (fun ls hl => ?_)
  refine lv_iconst (v := nI 0) hx hb dX3_digest_4 (by decide) ?_
  refine lv_istore_n (lv' := [(3, .int (nI 0)), (1, .long 577), (0, .ref xa)]) hx hb dX3_digest_5 rfl hl (by decide) rfl (fun ls hl => ?_)
  refine W_up 10 (fun i H locs ls => (XW G xa ad ad2 (wmx nH nP δ τ) σ2) H ∧ va_S (AV ad 19) s.heap H locs ∧ lv_has ls 5 [(0, .ref xa), (1, .long (mxl (totF nH nP τ) 577 i)), (3, .int (nI i))]) ?_ 0 (by omega) _ _ _ ⟨hW, hS, lv_sub hl [2, 1, 0] rfl⟩
  intro i H locs ls hii ⟨hW, hS, hl⟩ ihi
  refine lv_iload_n hx hb dX3_digest_6 rfl (lv_at hl 2 rfl) ?_
  refine lv_bipush (v := 9) hx hb dX3_digest_7 (by decide) ?_
  refine lv_icmp_gt (tgt := 34) hx hb dX3_digest_9 (by decide) (fun c9 => ?_) (fun c9 => ?_)
  · skip
    replace c9 := (nI_ltI (a := 9) (b := i) (by omega) (by omega)).mp c9
    obtain rfl : 10 = i := by omega
    refine lv_iconst (v := nI 0) hx hb dX3_digest_34 (by decide) ?_
    refine lv_istore_n (lv' := [(3, .int (nI 0)), (0, .ref xa), (1, .long (mxl (totF nH nP τ) 577 10))]) hx hb dX3_digest_35 rfl hl (by decide) rfl (fun ls hl => ?_)
    refine W_up nH (fun i H locs ls => (XW G xa ad ad2 (wmx nH nP δ τ) σ2) H ∧ va_S (AV ad 19) s.heap H locs ∧ lv_has ls 5 [(0, .ref xa), (1, .long (dgH nP τ (mxl (totF nH nP τ) 577 10) i)), (3, .int (nI i))]) ?_ 0 (by omega) _ _ _ ⟨hW, hS, lv_sub hl [1, 2, 0] rfl⟩
    intro i H locs ls hii ⟨hW, hS, hl⟩ ihi
    refine lv_iload_n hx hb dX3_digest_36 rfl (lv_at hl 2 rfl) ?_
    refine lv_aload_n hx hb dX3_digest_37 rfl (lv_at hl 0 rfl) ?_
    refine rX0 hx hb hts hi3 hown hK hW k10 dX3_digest_38 ?_
    refine rV 2 (f := 51) (v := nI nH) hx hb hts hi2 hown hK hW.2.1 (by decide) (by decide) rfl hv.2.2.1 k23 dX3_digest_41 ?_
    refine lv_icmp_ge (tgt := 95) hx hb dX3_digest_44 (by decide) (fun c44 => ?_) (fun c44 => ?_)
    · skip
      replace c44 := (nI_leI (a := nH) (b := i) (by omega) (by omega)).mp c44
      obtain rfl : nH = i := by omega
      refine lv_iconst (v := nI 0) hx hb dX3_digest_95 (by decide) ?_
      refine lv_istore_n (lv' := [(3, .int (nI 0)), (0, .ref xa), (1, .long (dgH nP τ (mxl (totF nH nP τ) 577 10) nH))]) hx hb dX3_digest_96 rfl hl (by decide) rfl (fun ls hl => ?_)
      refine W_up nP (fun i H locs ls => (XW G xa ad ad2 (wmx nH nP δ τ) σ2) H ∧ va_S (AV ad 19) s.heap H locs ∧ lv_has ls 5 [(0, .ref xa), (1, .long (dgP τ (dgH nP τ (mxl (totF nH nP τ) 577 10) nH) i)), (3, .int (nI i))]) ?_ 0 (by omega) _ _ _ ⟨hW, hS, lv_sub hl [1, 2, 0] rfl⟩
      intro i H locs ls hii ⟨hW, hS, hl⟩ ihi
      refine lv_iload_n hx hb dX3_digest_97 rfl (lv_at hl 2 rfl) ?_
      refine lv_aload_n hx hb dX3_digest_98 rfl (lv_at hl 0 rfl) ?_
      refine rX0 hx hb hts hi3 hown hK hW k10 dX3_digest_99 ?_
      refine rV 3 (f := 52) (v := nI nP) hx hb hts hi2 hown hK hW.2.1 (by decide) (by decide) rfl hv.2.2.2.1 k52 dX3_digest_102 ?_
      refine lv_icmp_ge (tgt := 128) hx hb dX3_digest_105 (by decide) (fun c105 => ?_) (fun c105 => ?_)
      · skip
        replace c105 := (nI_leI (a := nP) (b := i) (by omega) (by omega)).mp c105
        obtain rfl : nP = i := by omega
        refine lv_lload_n hx hb dX3_digest_128 rfl (lv_at hl 1 rfl) ?_
        exact xL hx hb hr hlocks (⟨_, hW, hz⟩) hS rfl dX3_digest_129
      · skip
        replace c105 : ¬ (nP ≤ i) := fun q => c105 ((nI_leI (a := nP) (b := i) (by omega) (by omega)).mpr q)
        refine lv_aload_n hx hb dX3_digest_108 rfl (lv_at hl 0 rfl) ?_
        refine rX0 hx hb hts hi3 hown hK hW k10 dX3_digest_109 ?_
        refine rVp hx hb hts hi2 hown hK hW.2.1 k57 dX3_digest_112 ?_
        refine lv_iload_n hx hb dX3_digest_115 rfl (lv_at hl 2 rfl) ?_
        refine rPA (h := i) hx hb hK hW.2.1 (by omega) dX3_digest_116 ?_
        refine lv_lload_n hx hb dX3_digest_117 rfl (lv_at hl 1 rfl) ?_
        refine kL (va_runV (As := [.long (dgP τ (dgH nP τ (mxl (totF nH nP τ) 577 10) nH) i)]) (rest := []) ⟨hx, hb, hml, hown, hts⟩ (c_X1_mixInto l G ad hI.1 nH nP hH hP δ τ i (sz τ i) (dgP τ (dgH nP τ (mxl (totF nH nP τ) 577 10) nH) i) (by omega) (hv.2.2.2.2.2 i (by omega)).1 (hv.2.2.2.2.2 i (by omega)).2.2.2.2.1.2 (hv.2.2.2.2.2 i (by omega)).2.2.2.2.1.1) (cwV 1 hts gX3_digest_X1_mixInto rfl rfl rfl (by decide +kernel) ⟨Nat.le_of_ble_eq_true rfl, Nat.le_of_ble_eq_true rfl⟩) ⟨Pc0.blind, va_recv hK (va_P1 (hW.2.1.2.2.2.2.1 i (by omega))) (ci := 1) (q0 := 0) rfl rfl, Pc0.pre hW.2.1 hK⟩ rfl rfl hl.1 rfl (lv_room (Nat.le_of_ble_eq_true rfl)) dX3_digest_118 ⟨Nat.le_of_ble_eq_true rfl, Nat.le_of_ble_eq_true rfl⟩) hS (fun q _ h => h) (fun q h => h) (fun H locs hB _ hk hS => ?_)
        have hW := hW.main hI hB hk
        refine lv_lstore_n (lv' := [(1, .long (dgP τ (dgH nP τ (mxl (totF nH nP τ) 577 10) nH) (i + 1))), (0, .ref xa), (3, .int (nI i))]) hx hb dX3_digest_121 rfl hl (by decide) rfl (fun ls hl => ?_)
        refine lv_iinc (k := 2) (v := nI (i + 1)) (lv' := [(3, .int (nI (i + 1))), (1, .long (dgP τ (dgH nP τ (mxl (totF nH nP τ) 577 10) nH) (i + 1))), (0, .ref xa)]) hx hb dX3_digest_122 hl rfl (nI_add i 1) (by decide) rfl (fun ls hl => ?_)
        refine lv_goto (tgt := 97) hx hb dX3_digest_125 (by decide) ?_
        exact ihi (by omega) _ _ _ ⟨hW, hS, lv_sub hl [2, 1, 0] rfl⟩
    · skip
      replace c44 : ¬ (nH ≤ i) := fun q => c44 ((nI_leI (a := nH) (b := i) (by omega) (by omega)).mpr q)
      refine lv_iconst (v := nI 0) hx hb dX3_digest_47 (by decide) ?_
      refine lv_istore (lv' := [(4, .int (nI 0)), (0, .ref xa), (1, .long (dgH nP τ (mxl (totF nH nP τ) 577 10) i)), (3, .int (nI i))]) hx hb dX3_digest_48 hl (by decide) rfl (fun ls hl => ?_)
      refine W_up 11 (fun j H locs ls => (XW G xa ad ad2 (wmx nH nP δ τ) σ2) H ∧ va_S (AV ad 19) s.heap H locs ∧ lv_has ls 5 [(0, .ref xa), (1, .long (mxl (hftF nP τ i) (dgH nP τ (mxl (totF nH nP τ) 577 10) i) j)), (3, .int (nI i)), (4, .int (nI j))]) ?_ 0 (by omega) _ _ _ ⟨hW, hS, lv_sub hl [1, 2, 3, 0] rfl⟩
      intro j H locs ls hij ⟨hW, hS, hl⟩ ihj
      refine lv_iload hx hb dX3_digest_50 (lv_at hl 3 rfl) ?_
      refine lv_bipush (v := 10) hx hb dX3_digest_52 (by decide) ?_
      refine lv_icmp_gt (tgt := 89) hx hb dX3_digest_54 (by decide) (fun c54 => ?_) (fun c54 => ?_)
      · skip
        replace c54 := (nI_ltI (a := 10) (b := j) (by omega) (by omega)).mp c54
        obtain rfl : 11 = j := by omega
        refine lv_iinc (k := 2) (v := nI (i + 1)) (lv' := [(3, .int (nI (i + 1))), (0, .ref xa), (1, .long (mxl (hftF nP τ i) (dgH nP τ (mxl (totF nH nP τ) 577 10) i) 11)), (4, .int (nI 11))]) hx hb dX3_digest_89 hl rfl (nI_add i 1) (by decide) rfl (fun ls hl => ?_)
        refine lv_goto (tgt := 36) hx hb dX3_digest_92 (by decide) ?_
        exact ihi (by omega) _ _ _ ⟨hW, hS, lv_sub hl [1, 2, 0] rfl⟩
      · skip
        replace c54 : ¬ (10 < j) := fun q => c54 ((nI_ltI (a := 10) (b := j) (by omega) (by omega)).mpr q)
        refine lv_lload_n hx hb dX3_digest_57 rfl (lv_at hl 1 rfl) ?_
        refine lv_ldc2 (v := 31) hx hb hown k172 dX3_digest_58 ?_
        refine lv_lmul hx hb dX3_digest_61 ?_
        refine lv_aload_n hx hb dX3_digest_62 rfl (lv_at hl 0 rfl) ?_
        refine rX0 hx hb hts hi3 hown hK hW k10 dX3_digest_63 ?_
        refine lv_aload_n hx hb dX3_digest_66 rfl (lv_at hl 0 rfl) ?_
        refine rX0 hx hb hts hi3 hown hK hW k10 dX3_digest_67 ?_
        refine rVh hx hb hts hi2 hown hK hW.2.1 k34 dX3_digest_70 ?_
        refine lv_iload_n hx hb dX3_digest_73 rfl (lv_at hl 2 rfl) ?_
        refine rHA (h := i) hx hb hK hW.2.1 (by omega) dX3_digest_74 ?_
        refine lv_iload hx hb dX3_digest_75 (lv_at hl 3 rfl) ?_
        refine kI (va_runV (As := [.ref (ad (3 + i)), .int (nI j)]) (rest := [.long ((mxl (hftF nP τ i) (dgH nP τ (mxl (totF nH nP τ) 577 10) i) j) * 31)]) ⟨hx, hb, hml, hown, hts⟩ (c_X2_houseFact l G ad hI.1 nH nP hH hP δ τ i j hv (by omega) (by omega)) (cwV 2 hts gX3_digest_X2_houseFact rfl rfl rfl (by decide +kernel) ⟨Nat.le_of_ble_eq_true rfl, Nat.le_of_ble_eq_true rfl⟩) ⟨Pc0.blind, va_recv hK (va_P1 (hW.2.1.1)) (ci := 2) (q0 := 0) rfl rfl, Pc0.pre hW.2.1 hK⟩ rfl rfl hl.1 rfl (lv_room (Nat.le_of_ble_eq_true rfl)) dX3_digest_77 ⟨Nat.le_of_ble_eq_true rfl, Nat.le_of_ble_eq_true rfl⟩) hS (fun q _ h => h) (fun q h => h) (fun H locs hB _ hk hS => ?_)
        have hW := hW.main hI hB hk
        refine lv_i2l hx hb dX3_digest_80 rfl ?_
        refine lv_ladd hx hb dX3_digest_81 ?_
        refine lv_lstore_n (lv' := [(1, .long (((mxl (hftF nP τ i) (dgH nP τ (mxl (totF nH nP τ) 577 10) i) j) * 31) + (Int32.toInt64 (hftF nP τ i j)))), (0, .ref xa), (3, .int (nI i)), (4, .int (nI j))]) hx hb dX3_digest_82 rfl hl (by decide) rfl (fun ls hl => ?_)
        refine lv_iinc (k := 3) (v := nI (j + 1)) (lv' := [(4, .int (nI (j + 1))), (1, .long (((mxl (hftF nP τ i) (dgH nP τ (mxl (totF nH nP τ) 577 10) i) j) * 31) + (Int32.toInt64 (hftF nP τ i j)))), (0, .ref xa), (3, .int (nI i))]) hx hb dX3_digest_83 hl rfl (nI_add j 1) (by decide) rfl (fun ls hl => ?_)
        refine lv_goto (tgt := 50) hx hb dX3_digest_86 (by decide) ?_
        exact ihj (by omega) _ _ _ ⟨hW, hS, lv_sub hl [2, 1, 3, 0] rfl⟩
  · skip
    replace c9 : ¬ (9 < i) := fun q => c9 ((nI_ltI (a := 9) (b := i) (by omega) (by omega)).mpr q)
    refine lv_lload_n hx hb dX3_digest_12 rfl (lv_at hl 1 rfl) ?_
    refine lv_ldc2 (v := 31) hx hb hown k172 dX3_digest_13 ?_
    refine lv_lmul hx hb dX3_digest_16 ?_
    refine lv_aload_n hx hb dX3_digest_17 rfl (lv_at hl 0 rfl) ?_
    refine rX0 hx hb hts hi3 hown hK hW k10 dX3_digest_18 ?_
    refine lv_iload_n hx hb dX3_digest_21 rfl (lv_at hl 2 rfl) ?_
    refine kI (va_runV (As := [.int (nI i)]) (rest := [.long ((mxl (totF nH nP τ) 577 i) * 31)]) ⟨hx, hb, hml, hown, hts⟩ (c_X2_total l G ad hI.1 nH nP hH hP δ τ i hv (by omega)) (cwV 1 hts gX3_digest_X2_total rfl rfl rfl (by decide +kernel) ⟨Nat.le_of_ble_eq_true rfl, Nat.le_of_ble_eq_true rfl⟩) ⟨Pc0.blind, va_recv hK (va_P1 (hW.2.1.1)) (ci := 2) (q0 := 0) rfl rfl, Pc0.pre hW.2.1 hK⟩ rfl rfl hl.1 rfl (lv_room (Nat.le_of_ble_eq_true rfl)) dX3_digest_22 ⟨Nat.le_of_ble_eq_true rfl, Nat.le_of_ble_eq_true rfl⟩) hS (fun q _ h => h) (fun q h => h) (fun H locs hB _ hk hS => ?_)
    have hW := hW.main hI hB hk
    refine lv_i2l hx hb dX3_digest_25 rfl ?_
    refine lv_ladd hx hb dX3_digest_26 ?_
    refine lv_lstore_n (lv' := [(1, .long (((mxl (totF nH nP τ) 577 i) * 31) + (Int32.toInt64 (totF nH nP τ i)))), (0, .ref xa), (3, .int (nI i))]) hx hb dX3_digest_27 rfl hl (by decide) rfl (fun ls hl => ?_)
    refine lv_iinc (k := 2) (v := nI (i + 1)) (lv' := [(3, .int (nI (i + 1))), (1, .long (((mxl (totF nH nP τ) 577 i) * 31) + (Int32.toInt64 (totF nH nP τ i)))), (0, .ref xa)]) hx hb dX3_digest_28 hl rfl (nI_add i 1) (by decide) rfl (fun ls hl => ?_)
    refine lv_goto (tgt := 6) hx hb dX3_digest_31 (by decide) ?_
    exact ihi (by omega) _ _ _ ⟨hW, hS, lv_sub hl [2, 1, 0] rfl⟩
