set_option maxHeartbeats 4000000 in
set_option maxRecDepth 100000 in
theorem c_X4_pass (l : Launch) (G : wG) (ad : Nat → Nat) (hI : adInj ad 6) (nH nP : Nat) (hH : nH ≤ 10) (hP : nP ≤ 3) (δ τ : wS)  (hv : Inv nH nP τ) : Met l yX4_pass wsX4_pass ({ frames := 3, cells := 0, slots := 0, locals := 75 } : Room) (Pc0 G [.ref (ad 0)] (RVm G ad nH nP δ τ)) (Qi0 (dwn nP (dayF nH nP τ) - dwn nP τ) (RVm G ad nH nP δ (dayF nH nP τ)) (AV ad 6)) 0 0 (AV ad 6) := by
  refine Met.ofW (cc := cX4_pass) (maxL := 3) (ret := (some .int)) (by decide) rfl ?_
  intro pg ev s mid args below meth cd s₁ B hml hv0
  obtain ⟨rfl, hV, hK⟩ := hv0
  have hx := B.exec
  have hb := B.bytes
  have hr := B.returns
  have hts := atoms_spec (ws := wsX4_pass) B.pre
  have hown : s.vm.findClass RX4 = some mid.cls := findClass_of_methodNamed B.named
  have hlocks := B.notSynchronized
  have hi4 : ∀ w ∈ wsX40, w ∈ wsX4_pass := by decide +kernel
  have k32 := hts (.fieldLink RX4 32 "PumpRosterModel$State" "houses" "I") (by decide +kernel)
  have k35 := hts (.fieldLink RX4 35 "PumpRosterModel$State" "pumps" "I") (by decide +kernel)
  have k28 := hts (.fieldLink RX4 28 "PumpRosterModel$State" "day" "I") (by decide +kernel)
  have k9 := hts (.fieldLink RX4 9 "PumpRosterModel$State" "house" "[I") (by decide +kernel)
  have km78 := hts (.methodLink RX4 78 Lib.Math.max.name) (by decide +kernel)
  have ksmax := hts (.static Lib.Math.max.name) (by decide +kernel)
  have kmath := hts (.initialized "java/lang/Math") (by decide +kernel)
  have kcmax := hts (.code Lib.Math.max.name Lib.Math.max.code 2 (some .int)) (by decide +kernel)
  have k38 := hts (.fieldLink RX4 38 "PumpRosterModel$State" "chest" "I") (by decide +kernel)
  have k15 := hts (.fieldLink RX4 15 "PumpRosterModel$State" "pump" "[I") (by decide +kernel)
  have km51 := hts (.methodLink RX4 51 Lib.Math.min.name) (by decide +kernel)
  have ksmin := hts (.static Lib.Math.min.name) (by decide +kernel)
  have kcmin := hts (.code Lib.Math.min.name Lib.Math.min.code 2 (some .int)) (by decide +kernel)
  have k25 := hts (.fieldLink RX4 25 "PumpRosterModel$State" "isNew" "[Z") (by decide +kernel)
  have k21 := hts (.fieldLink RX4 21 "PumpRosterModel$State" "isOpen" "[Z") (by decide +kernel)
  have hS : va_S (AV ad 6) s.heap s.heap [] := va_S.rf
  have hl := lv_entry ([.ref (ad 0)]) (n := 3) (Nat.le_of_ble_eq_true rfl)
  rw [lg_entry_eq]
  generalize (lg_sl ([.ref (ad 0)]) ++ List.replicate (3 - (lg_sl ([.ref (ad 0)])).length) Slot.unset).toArray = ls at hl ⊢
  have hl : lv_has ls 3 [(0, .ref (ad 0))] := hl
  refine lv_iconst (v := nI 0) hx hb dX4_pass_0 (by decide) ?_
  refine lv_istore_n (lv' := [(1, .int (nI 0)), (0, .ref (ad 0))]) hx hb dX4_pass_1 rfl hl (by decide) rfl (fun ls hl => ?_)
  refine W_up nH (fun i H locs ls => RVm G ad nH nP δ (itn layF i τ) H ∧ va_S (AV ad 6) s.heap H locs ∧ lv_has ls 3 [(0, .ref (ad 0)), (1, .int (nI i))]) ?_ 0 (by omega) _ _ _ ⟨hV, hS, lv_sub hl [1, 0] rfl⟩
  intro i H locs ls hi ⟨hV, hS, hl⟩ ih
  have hvi : Inv nH nP (itn layF i τ) := itn_inv hv (fun k hk x hx => hx.oLay)
  refine lv_iload_n hx hb dX4_pass_2 rfl (lv_at hl 1 rfl) ?_
  refine lv_aload_n hx hb dX4_pass_3 rfl (lv_at hl 0 rfl) ?_
  refine rSi 1 (f := 51) (v := nI nH) hx hb hts hi4 hown hK hV (by decide) rfl hvi.2.2.1 k32 dX4_pass_4 ?_
  refine lv_icmp_ge (tgt := 49) hx hb dX4_pass_7 (by decide) (fun c7 => ?_) (fun c7 => ?_)
  · skip
    replace c7 := (nI_leI (a := nH) (b := i) (by omega) (by omega)).mp c7
    obtain rfl : nH = i := by omega
    refine lv_iconst (v := nI 0) hx hb dX4_pass_49 (by decide) ?_
    refine lv_istore_n (lv' := [(1, .int (nI 0)), (0, .ref (ad 0))]) hx hb dX4_pass_50 rfl hl (by decide) rfl (fun ls hl => ?_)
    refine W_up nP (fun i H locs ls => RVm G ad nH nP δ (itn (keyF nP) i (itn layF nH τ)) H ∧ va_S (AV ad 6) s.heap H locs ∧ lv_has ls 3 [(0, .ref (ad 0)), (1, .int (nI i))]) ?_ 0 (by omega) _ _ _ ⟨hV, hS, lv_sub hl [1, 0] rfl⟩
    intro i H locs ls hi ⟨hV, hS, hl⟩ ih
    have hvA : Inv nH nP (itn layF nH τ) := itn_inv hv (fun k hk x hx => hx.oLay)
    have hvi : Inv nH nP (itn (keyF nP) i (itn layF nH τ)) := itn_inv hvA (fun k hk x hx => hx.oKeyF (by omega))
    refine lv_iload_n hx hb dX4_pass_51 rfl (lv_at hl 1 rfl) ?_
    refine lv_aload_n hx hb dX4_pass_52 rfl (lv_at hl 0 rfl) ?_
    refine rSi 3 (f := 52) (v := nI nP) hx hb hts hi4 hown hK hV (by decide) rfl hvi.2.2.2.1 k35 dX4_pass_53 ?_
    refine lv_icmp_ge (tgt := 83) hx hb dX4_pass_56 (by decide) (fun c56 => ?_) (fun c56 => ?_)
    · skip
      replace c56 := (nI_leI (a := nP) (b := i) (by omega) (by omega)).mp c56
      obtain rfl : nP = i := by omega
      refine lv_iconst (v := dwn nP (itn (keyF nP) nP (itn layF nH τ)) - dwn nP (itn (keyF nP) nP (itn layF nH τ))) hx hb dX4_pass_83 (by rw [Int32.sub_self]; decide) ?_
      refine lv_istore_n (lv' := [(1, .int (dwn nP (itn (keyF nP) nP (itn layF nH τ)) - dwn nP (itn (keyF nP) nP (itn layF nH τ)))), (0, .ref (ad 0))]) hx hb dX4_pass_84 rfl hl (by decide) rfl (fun ls hl => ?_)
      refine lv_iconst (v := nI 0) hx hb dX4_pass_85 (by decide) ?_
      refine lv_istore_n (lv' := [(2, .int (nI 0)), (1, .int (dwn nP (itn (keyF nP) nP (itn layF nH τ)) - dwn nP (itn (keyF nP) nP (itn layF nH τ)))), (0, .ref (ad 0))]) hx hb dX4_pass_86 rfl hl (by decide) rfl (fun ls hl => ?_)
      refine W_up nH (fun i H locs ls => RVm G ad nH nP δ (itn (drwF nP) i (itn (keyF nP) nP (itn layF nH τ))) H ∧ va_S (AV ad 6) s.heap H locs ∧ lv_has ls 3 [(0, .ref (ad 0)), (1, .int (dwn nP (itn (drwF nP) i (itn (keyF nP) nP (itn layF nH τ))) - dwn nP (itn (keyF nP) nP (itn layF nH τ)))), (2, .int (nI i))]) ?_ 0 (by omega) _ _ _ ⟨hV, hS, lv_sub hl [2, 1, 0] rfl⟩
      intro i H locs ls hi ⟨hV, hS, hl⟩ ih
      have hvB : Inv nH nP (itn (keyF nP) nP (itn layF nH τ)) := hvi
      have hvi : Inv nH nP (itn (drwF nP) i (itn (keyF nP) nP (itn layF nH τ))) := itn_inv hvB (fun k hk x hx => hx.oDrw (by omega))
      refine lv_iload_n hx hb dX4_pass_87 rfl (lv_at hl 2 rfl) ?_
      refine lv_aload_n hx hb dX4_pass_88 rfl (lv_at hl 0 rfl) ?_
      refine rSi 1 (f := 51) (v := nI nH) hx hb hts hi4 hown hK hV (by decide) rfl hvi.2.2.1 k32 dX4_pass_89 ?_
      refine lv_icmp_ge (tgt := 117) hx hb dX4_pass_92 (by decide) (fun c92 => ?_) (fun c92 => ?_)
      · skip
        replace c92 := (nI_leI (a := nH) (b := i) (by omega) (by omega)).mp c92
        obtain rfl : nH = i := by omega
        refine lv_iconst (v := nI 0) hx hb dX4_pass_117 (by decide) ?_
        refine lv_istore_n (lv' := [(2, .int (nI 0)), (0, .ref (ad 0)), (1, .int (dwn nP (itn (drwF nP) nH (itn (keyF nP) nP (itn layF nH τ))) - dwn nP (itn (keyF nP) nP (itn layF nH τ))))]) hx hb dX4_pass_118 rfl hl (by decide) rfl (fun ls hl => ?_)
        refine W_up nP (fun i H locs ls => RVm G ad nH nP δ (itn mndF i (itn (drwF nP) nH (itn (keyF nP) nP (itn layF nH τ)))) H ∧ va_S (AV ad 6) s.heap H locs ∧ lv_has ls 3 [(0, .ref (ad 0)), (1, .int (dwn nP (itn (drwF nP) nH (itn (keyF nP) nP (itn layF nH τ))) - dwn nP (itn (keyF nP) nP (itn layF nH τ)))), (2, .int (nI i))]) ?_ 0 (by omega) _ _ _ ⟨hV, hS, lv_sub hl [1, 2, 0] rfl⟩
        intro i H locs ls hi ⟨hV, hS, hl⟩ ih
        have hvC : Inv nH nP (itn (drwF nP) nH (itn (keyF nP) nP (itn layF nH τ))) := hvi
        have hvi : Inv nH nP (itn mndF i (itn (drwF nP) nH (itn (keyF nP) nP (itn layF nH τ)))) := itn_inv hvC (fun k hk x hx => hx.oMnd (by omega))
        refine lv_iload_n hx hb dX4_pass_119 rfl (lv_at hl 2 rfl) ?_
        refine lv_aload_n hx hb dX4_pass_120 rfl (lv_at hl 0 rfl) ?_
        refine rSi 3 (f := 52) (v := nI nP) hx hb hts hi4 hown hK hV (by decide) rfl hvi.2.2.2.1 k35 dX4_pass_121 ?_
        refine lv_icmp_ge (tgt := 138) hx hb dX4_pass_124 (by decide) (fun c124 => ?_) (fun c124 => ?_)
        · skip
          replace c124 := (nI_leI (a := nP) (b := i) (by omega) (by omega)).mp c124
          obtain rfl : nP = i := by omega
          refine lv_iconst (v := nI 0) hx hb dX4_pass_138 (by decide) ?_
          refine lv_istore_n (lv' := [(2, .int (nI 0)), (0, .ref (ad 0)), (1, .int (dwn nP (itn (drwF nP) nH (itn (keyF nP) nP (itn layF nH τ))) - dwn nP (itn (keyF nP) nP (itn layF nH τ))))]) hx hb dX4_pass_139 rfl hl (by decide) rfl (fun ls hl => ?_)
          refine W_up nP (fun i H locs ls => RVm G ad nH nP δ (itn filF i (itn mndF nP (itn (drwF nP) nH (itn (keyF nP) nP (itn layF nH τ))))) H ∧ va_S (AV ad 6) s.heap H locs ∧ lv_has ls 3 [(0, .ref (ad 0)), (1, .int (dwn nP (itn (drwF nP) nH (itn (keyF nP) nP (itn layF nH τ))) - dwn nP (itn (keyF nP) nP (itn layF nH τ)))), (2, .int (nI i))]) ?_ 0 (by omega) _ _ _ ⟨hV, hS, lv_sub hl [1, 2, 0] rfl⟩
          intro i H locs ls hi ⟨hV, hS, hl⟩ ih
          have hvD : Inv nH nP (itn mndF nP (itn (drwF nP) nH (itn (keyF nP) nP (itn layF nH τ)))) := hvi
          have hvi : Inv nH nP (itn filF i (itn mndF nP (itn (drwF nP) nH (itn (keyF nP) nP (itn layF nH τ))))) := itn_inv hvD (fun k hk x hx => hx.free (by omega))
          refine lv_iload_n hx hb dX4_pass_140 rfl (lv_at hl 2 rfl) ?_
          refine lv_aload_n hx hb dX4_pass_141 rfl (lv_at hl 0 rfl) ?_
          refine rSi 3 (f := 52) (v := nI nP) hx hb hts hi4 hown hK hV (by decide) rfl hvi.2.2.2.1 k35 dX4_pass_142 ?_
          refine lv_icmp_ge (tgt := 190) hx hb dX4_pass_145 (by decide) (fun c145 => ?_) (fun c145 => ?_)
          · skip
            replace c145 := (nI_leI (a := nP) (b := i) (by omega) (by omega)).mp c145
            obtain rfl : nP = i := by omega
            have hv5 : Inv nH nP (itn filF nP (itn mndF nP (itn (drwF nP) nH (itn (keyF nP) nP (itn layF nH τ))))) := hvi
            refine lv_aload_n hx hb dX4_pass_190 rfl (lv_at hl 0 rfl) ?_
            refine rSi 0 (f := 50) (v := (itn filF nP (itn mndF nP (itn (drwF nP) nH (itn (keyF nP) nP (itn layF nH τ))))) 50 0) hx hb hts hi4 hown hK hV (by decide) rfl rfl k28 dX4_pass_191 ?_
            refine lv_bipush (v := 7) hx hb dX4_pass_194 (by decide) ?_
            refine lv_irem hx hb dX4_pass_196 (by decide) ?_
            refine lv_bipush (v := 6) hx hb dX4_pass_197 (by decide) ?_
            refine lv_icmp_ne (tgt := 215) hx hb dX4_pass_199 (by decide) (fun c199 => ?_) (fun c199 => ?_)
            · skip
              have hV : RVm G ad nH nP δ (shrF nH (itn filF nP (itn mndF nP (itn (drwF nP) nH (itn (keyF nP) nP (itn layF nH τ)))))) H := by rw [shrF, if_pos (Or.inl c199)]; exact hV
              refine lv_iconst (v := nI 0) hx hb dX4_pass_215 (by decide) ?_
              refine lv_istore_n (lv' := [(2, .int (nI 0)), (0, .ref (ad 0)), (1, .int (dwn nP (itn (drwF nP) nH (itn (keyF nP) nP (itn layF nH τ))) - dwn nP (itn (keyF nP) nP (itn layF nH τ))))]) hx hb dX4_pass_216 rfl hl (by decide) rfl (fun ls hl => ?_)
              refine W_up nH (fun i H locs ls => RVm G ad nH nP δ (itn bckF i (shrF nH (itn filF nP (itn mndF nP (itn (drwF nP) nH (itn (keyF nP) nP (itn layF nH τ))))))) H ∧ va_S (AV ad 6) s.heap H locs ∧ lv_has ls 3 [(0, .ref (ad 0)), (1, .int (dwn nP (itn (drwF nP) nH (itn (keyF nP) nP (itn layF nH τ))) - dwn nP (itn (keyF nP) nP (itn layF nH τ)))), (2, .int (nI i))]) ?_ 0 (by omega) _ _ _ ⟨hV, hS, lv_sub hl [1, 2, 0] rfl⟩
              intro i H locs ls hi ⟨hV, hS, hl⟩ ih
              have hvE : Inv nH nP (shrF nH (itn filF nP (itn mndF nP (itn (drwF nP) nH (itn (keyF nP) nP (itn layF nH τ)))))) := hv5.oShrF
              have hvi : Inv nH nP (itn bckF i (shrF nH (itn filF nP (itn mndF nP (itn (drwF nP) nH (itn (keyF nP) nP (itn layF nH τ))))))) := itn_inv hvE (fun k hk x hx => hx.oBck (by omega))
              refine lv_iload_n hx hb dX4_pass_217 rfl (lv_at hl 2 rfl) ?_
              refine lv_aload_n hx hb dX4_pass_218 rfl (lv_at hl 0 rfl) ?_
              refine rSi 1 (f := 51) (v := nI nH) hx hb hts hi4 hown hK hV (by decide) rfl hvi.2.2.1 k32 dX4_pass_219 ?_
              refine lv_icmp_ge (tgt := 261) hx hb dX4_pass_222 (by decide) (fun c222 => ?_) (fun c222 => ?_)
              · skip
                replace c222 := (nI_leI (a := nH) (b := i) (by omega) (by omega)).mp c222
                obtain rfl : nH = i := by omega
                refine lv_aload_n hx hb dX4_pass_261 rfl (lv_at hl 0 rfl) ?_
                refine lv_dup hx hb dX4_pass_262 rfl ?_
                refine rSi 0 (f := 50) (v := (shrF nH (itn filF nP (itn mndF nP (itn (drwF nP) nH (itn (keyF nP) nP (itn layF nH τ)))))) 50 0) hx hb hts hi4 hown hK hV (by decide) rfl (itn_col (fun k x => bckF_v (by omega))) k28 dX4_pass_263 ?_
                refine lv_iconst (v := 1) hx hb dX4_pass_266 (by decide) ?_
                refine lv_iadd hx hb dX4_pass_267 ?_
                refine wSi 0 (f := 50) hx hb hts hi4 hown hK hI hV hS (fun _ q => q) (by decide) rfl k28 dX4_pass_268 (fun H locs hV _ hS => ?_)
                refine lv_iload_n hx hb dX4_pass_271 rfl (lv_at hl 1 rfl) ?_
                exact xI hx hb hr hlocks (show RVm G ad nH nP δ (dayF nH nP τ) H from hV) hS dwn_day dX4_pass_272
              · skip
                replace c222 : ¬ (nH ≤ i) := fun q => c222 ((nI_leI (a := nH) (b := i) (by omega) (by omega)).mpr q)
                obtain ⟨-, ⟨ka, hka, e6⟩, -⟩ := hvi.2.2.2.2.1 i (by omega)
                refine lv_aload_n hx hb dX4_pass_225 rfl (lv_at hl 0 rfl) ?_
                refine rSf 2 (j := 1) hx hb hts hi4 hown hK hV (by decide) rfl k9 dX4_pass_226 ?_
                refine lv_bipush (v := 11) hx hb dX4_pass_229 (by decide) ?_
                refine lv_iload_n hx hb dX4_pass_231 rfl (lv_at hl 2 rfl) ?_
                refine lv_imul hx hb dX4_pass_232 ?_
                refine lv_topi (fun y1 ey1 => ?_)
                obtain rfl : y1 = nI (11 * i) := ey1.trans (pk_mul 11 i)
                refine lv_bipush (v := 6) hx hb dX4_pass_233 (by decide) ?_
                refine lv_iadd hx hb dX4_pass_235 ?_
                refine lv_topi (fun y2 ey2 => ?_)
                obtain rfl : y2 = nI (11 * i + 6) := ey2.trans (nI_add (11 * i) 6)
                refine lv_iconst (v := 0) hx hb dX4_pass_236 (by decide) ?_
                refine lv_aload_n hx hb dX4_pass_237 rfl (lv_at hl 0 rfl) ?_
                refine rSf 2 (j := 1) hx hb hts hi4 hown hK hV (by decide) rfl k9 dX4_pass_238 ?_
                refine lv_bipush (v := 11) hx hb dX4_pass_241 (by decide) ?_
                refine lv_iload_n hx hb dX4_pass_243 rfl (lv_at hl 2 rfl) ?_
                refine lv_imul hx hb dX4_pass_244 ?_
                refine lv_topi (fun y3 ey3 => ?_)
                obtain rfl : y3 = nI (11 * i) := ey3.trans (pk_mul 11 i)
                refine lv_bipush (v := 6) hx hb dX4_pass_245 (by decide) ?_
                refine lv_iadd hx hb dX4_pass_247 ?_
                refine lv_topi (fun y4 ey4 => ?_)
                obtain rfl : y4 = nI (11 * i + 6) := ey4.trans (nI_add (11 * i) 6)
                refine rSh (h := i) (f := 6) (v := nI ka) hx hb hK hV (by omega) (by omega) (by omega) hH e6 dX4_pass_248 ?_
                refine lv_iconst (v := 1) hx hb dX4_pass_249 (by decide) ?_
                refine lv_isub hx hb dX4_pass_250 ?_
                refine va_mmax hx hb (hml.trans hl.1.symm) hown km78 ksmax kmath kcmax (Nat.le_of_ble_eq_true rfl) (Nat.le_of_ble_eq_true rfl) (Nat.zero_le _) (Nat.zero_le _) dX4_pass_251 ?_
                refine lv_topi (fun y5 ey5 => ?_)
                obtain rfl : y5 = nI (ka - 1) := ey5.trans (mx_nI (by omega))
                refine wSh (h := i) (f := 6) hx hb hK hI hV hS (fun _ q => q) (by omega) (by omega) (by omega) hH dX4_pass_254 (fun H locs hV _ hS => ?_)
                refine lv_iinc (k := 2) (v := nI (i + 1)) (lv' := [(2, .int (nI (i + 1))), (0, .ref (ad 0)), (1, .int (dwn nP (itn (drwF nP) nH (itn (keyF nP) nP (itn layF nH τ))) - dwn nP (itn (keyF nP) nP (itn layF nH τ))))]) hx hb dX4_pass_255 hl rfl (nI_add i 1) (by decide) rfl (fun ls hl => ?_)
                refine lv_goto (tgt := 217) hx hb dX4_pass_258 (by decide) ?_
                exact ih (by omega) _ _ _ ⟨(by rw [itn_s, ← bckF_eq e6 (by omega)]; exact hV), hS, lv_sub hl [1, 2, 0] rfl⟩
            · skip
              refine lv_aload_n hx hb dX4_pass_202 rfl (lv_at hl 0 rfl) ?_
              refine rSi 8 (f := 53) (v := (itn filF nP (itn mndF nP (itn (drwF nP) nH (itn (keyF nP) nP (itn layF nH τ))))) 53 0) hx hb hts hi4 hown hK hV (by decide) rfl rfl k38 dX4_pass_203 ?_
              refine lv_bipush (v := 20) hx hb dX4_pass_206 (by decide) ?_
              refine lv_icmp_le (tgt := 215) hx hb dX4_pass_208 (by decide) (fun c208 => ?_) (fun c208 => ?_)
              · skip
                have hV : RVm G ad nH nP δ (shrF nH (itn filF nP (itn mndF nP (itn (drwF nP) nH (itn (keyF nP) nP (itn layF nH τ)))))) H := by rw [shrF, if_pos (Or.inr (Or.inl c208))]; exact hV
                refine lv_iconst (v := nI 0) hx hb dX4_pass_215 (by decide) ?_
                refine lv_istore_n (lv' := [(2, .int (nI 0)), (0, .ref (ad 0)), (1, .int (dwn nP (itn (drwF nP) nH (itn (keyF nP) nP (itn layF nH τ))) - dwn nP (itn (keyF nP) nP (itn layF nH τ))))]) hx hb dX4_pass_216 rfl hl (by decide) rfl (fun ls hl => ?_)
                refine W_up nH (fun i H locs ls => RVm G ad nH nP δ (itn bckF i (shrF nH (itn filF nP (itn mndF nP (itn (drwF nP) nH (itn (keyF nP) nP (itn layF nH τ))))))) H ∧ va_S (AV ad 6) s.heap H locs ∧ lv_has ls 3 [(0, .ref (ad 0)), (1, .int (dwn nP (itn (drwF nP) nH (itn (keyF nP) nP (itn layF nH τ))) - dwn nP (itn (keyF nP) nP (itn layF nH τ)))), (2, .int (nI i))]) ?_ 0 (by omega) _ _ _ ⟨hV, hS, lv_sub hl [1, 2, 0] rfl⟩
                intro i H locs ls hi ⟨hV, hS, hl⟩ ih
                have hvE : Inv nH nP (shrF nH (itn filF nP (itn mndF nP (itn (drwF nP) nH (itn (keyF nP) nP (itn layF nH τ)))))) := hv5.oShrF
                have hvi : Inv nH nP (itn bckF i (shrF nH (itn filF nP (itn mndF nP (itn (drwF nP) nH (itn (keyF nP) nP (itn layF nH τ))))))) := itn_inv hvE (fun k hk x hx => hx.oBck (by omega))
                refine lv_iload_n hx hb dX4_pass_217 rfl (lv_at hl 2 rfl) ?_
                refine lv_aload_n hx hb dX4_pass_218 rfl (lv_at hl 0 rfl) ?_
                refine rSi 1 (f := 51) (v := nI nH) hx hb hts hi4 hown hK hV (by decide) rfl hvi.2.2.1 k32 dX4_pass_219 ?_
                refine lv_icmp_ge (tgt := 261) hx hb dX4_pass_222 (by decide) (fun c222 => ?_) (fun c222 => ?_)
                · skip
                  replace c222 := (nI_leI (a := nH) (b := i) (by omega) (by omega)).mp c222
                  obtain rfl : nH = i := by omega
                  refine lv_aload_n hx hb dX4_pass_261 rfl (lv_at hl 0 rfl) ?_
                  refine lv_dup hx hb dX4_pass_262 rfl ?_
                  refine rSi 0 (f := 50) (v := (shrF nH (itn filF nP (itn mndF nP (itn (drwF nP) nH (itn (keyF nP) nP (itn layF nH τ)))))) 50 0) hx hb hts hi4 hown hK hV (by decide) rfl (itn_col (fun k x => bckF_v (by omega))) k28 dX4_pass_263 ?_
                  refine lv_iconst (v := 1) hx hb dX4_pass_266 (by decide) ?_
                  refine lv_iadd hx hb dX4_pass_267 ?_
                  refine wSi 0 (f := 50) hx hb hts hi4 hown hK hI hV hS (fun _ q => q) (by decide) rfl k28 dX4_pass_268 (fun H locs hV _ hS => ?_)
                  refine lv_iload_n hx hb dX4_pass_271 rfl (lv_at hl 1 rfl) ?_
                  exact xI hx hb hr hlocks (show RVm G ad nH nP δ (dayF nH nP τ) H from hV) hS dwn_day dX4_pass_272
                · skip
                  replace c222 : ¬ (nH ≤ i) := fun q => c222 ((nI_leI (a := nH) (b := i) (by omega) (by omega)).mpr q)
                  obtain ⟨-, ⟨ka, hka, e6⟩, -⟩ := hvi.2.2.2.2.1 i (by omega)
                  refine lv_aload_n hx hb dX4_pass_225 rfl (lv_at hl 0 rfl) ?_
                  refine rSf 2 (j := 1) hx hb hts hi4 hown hK hV (by decide) rfl k9 dX4_pass_226 ?_
                  refine lv_bipush (v := 11) hx hb dX4_pass_229 (by decide) ?_
                  refine lv_iload_n hx hb dX4_pass_231 rfl (lv_at hl 2 rfl) ?_
                  refine lv_imul hx hb dX4_pass_232 ?_
                  refine lv_topi (fun y6 ey6 => ?_)
                  obtain rfl : y6 = nI (11 * i) := ey6.trans (pk_mul 11 i)
                  refine lv_bipush (v := 6) hx hb dX4_pass_233 (by decide) ?_
                  refine lv_iadd hx hb dX4_pass_235 ?_
                  refine lv_topi (fun y7 ey7 => ?_)
                  obtain rfl : y7 = nI (11 * i + 6) := ey7.trans (nI_add (11 * i) 6)
                  refine lv_iconst (v := 0) hx hb dX4_pass_236 (by decide) ?_
                  refine lv_aload_n hx hb dX4_pass_237 rfl (lv_at hl 0 rfl) ?_
                  refine rSf 2 (j := 1) hx hb hts hi4 hown hK hV (by decide) rfl k9 dX4_pass_238 ?_
                  refine lv_bipush (v := 11) hx hb dX4_pass_241 (by decide) ?_
                  refine lv_iload_n hx hb dX4_pass_243 rfl (lv_at hl 2 rfl) ?_
                  refine lv_imul hx hb dX4_pass_244 ?_
                  refine lv_topi (fun y8 ey8 => ?_)
                  obtain rfl : y8 = nI (11 * i) := ey8.trans (pk_mul 11 i)
                  refine lv_bipush (v := 6) hx hb dX4_pass_245 (by decide) ?_
                  refine lv_iadd hx hb dX4_pass_247 ?_
                  refine lv_topi (fun y9 ey9 => ?_)
                  obtain rfl : y9 = nI (11 * i + 6) := ey9.trans (nI_add (11 * i) 6)
                  refine rSh (h := i) (f := 6) (v := nI ka) hx hb hK hV (by omega) (by omega) (by omega) hH e6 dX4_pass_248 ?_
                  refine lv_iconst (v := 1) hx hb dX4_pass_249 (by decide) ?_
                  refine lv_isub hx hb dX4_pass_250 ?_
                  refine va_mmax hx hb (hml.trans hl.1.symm) hown km78 ksmax kmath kcmax (Nat.le_of_ble_eq_true rfl) (Nat.le_of_ble_eq_true rfl) (Nat.zero_le _) (Nat.zero_le _) dX4_pass_251 ?_
                  refine lv_topi (fun y10 ey10 => ?_)
                  obtain rfl : y10 = nI (ka - 1) := ey10.trans (mx_nI (by omega))
                  refine wSh (h := i) (f := 6) hx hb hK hI hV hS (fun _ q => q) (by omega) (by omega) (by omega) hH dX4_pass_254 (fun H locs hV _ hS => ?_)
                  refine lv_iinc (k := 2) (v := nI (i + 1)) (lv' := [(2, .int (nI (i + 1))), (0, .ref (ad 0)), (1, .int (dwn nP (itn (drwF nP) nH (itn (keyF nP) nP (itn layF nH τ))) - dwn nP (itn (keyF nP) nP (itn layF nH τ))))]) hx hb dX4_pass_255 hl rfl (nI_add i 1) (by decide) rfl (fun ls hl => ?_)
                  refine lv_goto (tgt := 217) hx hb dX4_pass_258 (by decide) ?_
                  exact ih (by omega) _ _ _ ⟨(by rw [itn_s, ← bckF_eq e6 (by omega)]; exact hV), hS, lv_sub hl [1, 2, 0] rfl⟩
              · skip
                refine lv_aload_n hx hb dX4_pass_211 rfl (lv_at hl 0 rfl) ?_
                refine kV (va_runV (As := []) (rest := []) ⟨hx, hb, hml, hown, hts⟩ (c_X4_share l G ad hI nH nP hH hP δ (itn filF nP (itn mndF nP (itn (drwF nP) nH (itn (keyF nP) nP (itn layF nH τ))))) hv5) (cwV 0 hts gX4_pass_X4_share rfl rfl rfl (by decide +kernel) ⟨Nat.le_of_ble_eq_true rfl, Nat.le_of_ble_eq_true rfl⟩) ⟨Pc0.blind, va_recv hK (va_P1 (hV.1)) (ci := 4) (q0 := 0) rfl rfl, Pc0.pre hV hK⟩ rfl rfl hl.1 rfl (lv_room (Nat.le_of_ble_eq_true rfl)) dX4_pass_212 ⟨Nat.zero_le _, Nat.zero_le _⟩) hS (fun _ _ q => q) (fun _ q => q) (fun H locs hV _ _ hS => ?_)
                rw [shr_eq c199 c208] at hV
                refine lv_iconst (v := nI 0) hx hb dX4_pass_215 (by decide) ?_
                refine lv_istore_n (lv' := [(2, .int (nI 0)), (0, .ref (ad 0)), (1, .int (dwn nP (itn (drwF nP) nH (itn (keyF nP) nP (itn layF nH τ))) - dwn nP (itn (keyF nP) nP (itn layF nH τ))))]) hx hb dX4_pass_216 rfl hl (by decide) rfl (fun ls hl => ?_)
                refine W_up nH (fun i H locs ls => RVm G ad nH nP δ (itn bckF i (shrF nH (itn filF nP (itn mndF nP (itn (drwF nP) nH (itn (keyF nP) nP (itn layF nH τ))))))) H ∧ va_S (AV ad 6) s.heap H locs ∧ lv_has ls 3 [(0, .ref (ad 0)), (1, .int (dwn nP (itn (drwF nP) nH (itn (keyF nP) nP (itn layF nH τ))) - dwn nP (itn (keyF nP) nP (itn layF nH τ)))), (2, .int (nI i))]) ?_ 0 (by omega) _ _ _ ⟨hV, hS, lv_sub hl [1, 2, 0] rfl⟩
                intro i H locs ls hi ⟨hV, hS, hl⟩ ih
                have hvE : Inv nH nP (shrF nH (itn filF nP (itn mndF nP (itn (drwF nP) nH (itn (keyF nP) nP (itn layF nH τ)))))) := hv5.oShrF
                have hvi : Inv nH nP (itn bckF i (shrF nH (itn filF nP (itn mndF nP (itn (drwF nP) nH (itn (keyF nP) nP (itn layF nH τ))))))) := itn_inv hvE (fun k hk x hx => hx.oBck (by omega))
                refine lv_iload_n hx hb dX4_pass_217 rfl (lv_at hl 2 rfl) ?_
                refine lv_aload_n hx hb dX4_pass_218 rfl (lv_at hl 0 rfl) ?_
                refine rSi 1 (f := 51) (v := nI nH) hx hb hts hi4 hown hK hV (by decide) rfl hvi.2.2.1 k32 dX4_pass_219 ?_
                refine lv_icmp_ge (tgt := 261) hx hb dX4_pass_222 (by decide) (fun c222 => ?_) (fun c222 => ?_)
                · skip
                  replace c222 := (nI_leI (a := nH) (b := i) (by omega) (by omega)).mp c222
                  obtain rfl : nH = i := by omega
                  refine lv_aload_n hx hb dX4_pass_261 rfl (lv_at hl 0 rfl) ?_
                  refine lv_dup hx hb dX4_pass_262 rfl ?_
                  refine rSi 0 (f := 50) (v := (shrF nH (itn filF nP (itn mndF nP (itn (drwF nP) nH (itn (keyF nP) nP (itn layF nH τ)))))) 50 0) hx hb hts hi4 hown hK hV (by decide) rfl (itn_col (fun k x => bckF_v (by omega))) k28 dX4_pass_263 ?_
                  refine lv_iconst (v := 1) hx hb dX4_pass_266 (by decide) ?_
                  refine lv_iadd hx hb dX4_pass_267 ?_
                  refine wSi 0 (f := 50) hx hb hts hi4 hown hK hI hV hS (fun _ q => q) (by decide) rfl k28 dX4_pass_268 (fun H locs hV _ hS => ?_)
                  refine lv_iload_n hx hb dX4_pass_271 rfl (lv_at hl 1 rfl) ?_
                  exact xI hx hb hr hlocks (show RVm G ad nH nP δ (dayF nH nP τ) H from hV) hS dwn_day dX4_pass_272
                · skip
                  replace c222 : ¬ (nH ≤ i) := fun q => c222 ((nI_leI (a := nH) (b := i) (by omega) (by omega)).mpr q)
                  obtain ⟨-, ⟨ka, hka, e6⟩, -⟩ := hvi.2.2.2.2.1 i (by omega)
                  refine lv_aload_n hx hb dX4_pass_225 rfl (lv_at hl 0 rfl) ?_
                  refine rSf 2 (j := 1) hx hb hts hi4 hown hK hV (by decide) rfl k9 dX4_pass_226 ?_
                  refine lv_bipush (v := 11) hx hb dX4_pass_229 (by decide) ?_
                  refine lv_iload_n hx hb dX4_pass_231 rfl (lv_at hl 2 rfl) ?_
                  refine lv_imul hx hb dX4_pass_232 ?_
                  refine lv_topi (fun y11 ey11 => ?_)
                  obtain rfl : y11 = nI (11 * i) := ey11.trans (pk_mul 11 i)
                  refine lv_bipush (v := 6) hx hb dX4_pass_233 (by decide) ?_
                  refine lv_iadd hx hb dX4_pass_235 ?_
                  refine lv_topi (fun y12 ey12 => ?_)
                  obtain rfl : y12 = nI (11 * i + 6) := ey12.trans (nI_add (11 * i) 6)
                  refine lv_iconst (v := 0) hx hb dX4_pass_236 (by decide) ?_
                  refine lv_aload_n hx hb dX4_pass_237 rfl (lv_at hl 0 rfl) ?_
                  refine rSf 2 (j := 1) hx hb hts hi4 hown hK hV (by decide) rfl k9 dX4_pass_238 ?_
                  refine lv_bipush (v := 11) hx hb dX4_pass_241 (by decide) ?_
                  refine lv_iload_n hx hb dX4_pass_243 rfl (lv_at hl 2 rfl) ?_
                  refine lv_imul hx hb dX4_pass_244 ?_
                  refine lv_topi (fun y13 ey13 => ?_)
                  obtain rfl : y13 = nI (11 * i) := ey13.trans (pk_mul 11 i)
                  refine lv_bipush (v := 6) hx hb dX4_pass_245 (by decide) ?_
                  refine lv_iadd hx hb dX4_pass_247 ?_
                  refine lv_topi (fun y14 ey14 => ?_)
                  obtain rfl : y14 = nI (11 * i + 6) := ey14.trans (nI_add (11 * i) 6)
                  refine rSh (h := i) (f := 6) (v := nI ka) hx hb hK hV (by omega) (by omega) (by omega) hH e6 dX4_pass_248 ?_
                  refine lv_iconst (v := 1) hx hb dX4_pass_249 (by decide) ?_
                  refine lv_isub hx hb dX4_pass_250 ?_
                  refine va_mmax hx hb (hml.trans hl.1.symm) hown km78 ksmax kmath kcmax (Nat.le_of_ble_eq_true rfl) (Nat.le_of_ble_eq_true rfl) (Nat.zero_le _) (Nat.zero_le _) dX4_pass_251 ?_
                  refine lv_topi (fun y15 ey15 => ?_)
                  obtain rfl : y15 = nI (ka - 1) := ey15.trans (mx_nI (by omega))
                  refine wSh (h := i) (f := 6) hx hb hK hI hV hS (fun _ q => q) (by omega) (by omega) (by omega) hH dX4_pass_254 (fun H locs hV _ hS => ?_)
                  refine lv_iinc (k := 2) (v := nI (i + 1)) (lv' := [(2, .int (nI (i + 1))), (0, .ref (ad 0)), (1, .int (dwn nP (itn (drwF nP) nH (itn (keyF nP) nP (itn layF nH τ))) - dwn nP (itn (keyF nP) nP (itn layF nH τ))))]) hx hb dX4_pass_255 hl rfl (nI_add i 1) (by decide) rfl (fun ls hl => ?_)
                  refine lv_goto (tgt := 217) hx hb dX4_pass_258 (by decide) ?_
                  exact ih (by omega) _ _ _ ⟨(by rw [itn_s, ← bckF_eq e6 (by omega)]; exact hV), hS, lv_sub hl [1, 2, 0] rfl⟩
          · skip
            replace c145 : ¬ (nP ≤ i) := fun q => c145 ((nI_leI (a := nP) (b := i) (by omega) (by omega)).mpr q)
            refine lv_aload_n hx hb dX4_pass_148 rfl (lv_at hl 0 rfl) ?_
            refine rSf 4 (j := 2) hx hb hts hi4 hown hK hV (by decide) rfl k15 dX4_pass_149 ?_
            refine lv_bipush (v := 11) hx hb dX4_pass_152 (by decide) ?_
            refine lv_iload_n hx hb dX4_pass_154 rfl (lv_at hl 2 rfl) ?_
            refine lv_imul hx hb dX4_pass_155 ?_
            refine lv_topi (fun y16 ey16 => ?_)
            obtain rfl : y16 = nI (11 * i) := ey16.trans (pk_mul 11 i)
            refine lv_sipush (v := 200) hx hb dX4_pass_156 (by decide) ?_
            refine lv_aload_n hx hb dX4_pass_159 rfl (lv_at hl 0 rfl) ?_
            refine rSf 4 (j := 2) hx hb hts hi4 hown hK hV (by decide) rfl k15 dX4_pass_160 ?_
            refine lv_bipush (v := 11) hx hb dX4_pass_163 (by decide) ?_
            refine lv_iload_n hx hb dX4_pass_165 rfl (lv_at hl 2 rfl) ?_
            refine lv_imul hx hb dX4_pass_166 ?_
            refine lv_topi (fun y17 ey17 => ?_)
            obtain rfl : y17 = nI (11 * i) := ey17.trans (pk_mul 11 i)
            refine rSp (h := i) (f := 0) (g := 20) (v := (itn filF i (itn mndF nP (itn (drwF nP) nH (itn (keyF nP) nP (itn layF nH τ))))) 20 i) hx hb hK hV (by omega) (by omega) (by omega) (by omega) hP rfl dX4_pass_167 ?_
            refine lv_aload_n hx hb dX4_pass_168 rfl (lv_at hl 0 rfl) ?_
            refine rSf 4 (j := 2) hx hb hts hi4 hown hK hV (by decide) rfl k15 dX4_pass_169 ?_
            refine lv_bipush (v := 11) hx hb dX4_pass_172 (by decide) ?_
            refine lv_iload_n hx hb dX4_pass_174 rfl (lv_at hl 2 rfl) ?_
            refine lv_imul hx hb dX4_pass_175 ?_
            refine lv_topi (fun y18 ey18 => ?_)
            obtain rfl : y18 = nI (11 * i) := ey18.trans (pk_mul 11 i)
            refine lv_iconst (v := 1) hx hb dX4_pass_176 (by decide) ?_
            refine lv_iadd hx hb dX4_pass_177 ?_
            refine lv_topi (fun y19 ey19 => ?_)
            obtain rfl : y19 = nI (11 * i + 1) := ey19.trans (nI_add (11 * i) 1)
            refine rSp (h := i) (f := 1) (g := 21) (v := (itn filF i (itn mndF nP (itn (drwF nP) nH (itn (keyF nP) nP (itn layF nH τ))))) 21 i) hx hb hK hV (by omega) (by omega) (by omega) (by omega) hP rfl dX4_pass_178 ?_
            refine lv_iadd hx hb dX4_pass_179 ?_
            refine va_mmin hx hb (hml.trans hl.1.symm) hown km51 ksmin kmath kcmin (Nat.le_of_ble_eq_true rfl) (Nat.le_of_ble_eq_true rfl) (Nat.zero_le _) (Nat.zero_le _) dX4_pass_180 ?_
            refine lv_topi (fun y20 ey20 => ?_)
            obtain rfl : y20 = i32min 200 ((itn filF i (itn mndF nP (itn (drwF nP) nH (itn (keyF nP) nP (itn layF nH τ))))) 20 i + (itn filF i (itn mndF nP (itn (drwF nP) nH (itn (keyF nP) nP (itn layF nH τ))))) 21 i) := ey20.trans rfl
            refine wSp (h := i) (f := 0) (g := 20) hx hb hK hI hV hS (fun _ q => q) (by omega) (by omega) (by omega) (by omega) hP dX4_pass_183 (fun H locs hV _ hS => ?_)
            refine lv_iinc (k := 2) (v := nI (i + 1)) (lv' := [(2, .int (nI (i + 1))), (0, .ref (ad 0)), (1, .int (dwn nP (itn (drwF nP) nH (itn (keyF nP) nP (itn layF nH τ))) - dwn nP (itn (keyF nP) nP (itn layF nH τ))))]) hx hb dX4_pass_184 hl rfl (nI_add i 1) (by decide) rfl (fun ls hl => ?_)
            refine lv_goto (tgt := 140) hx hb dX4_pass_187 (by decide) ?_
            exact ih (by omega) _ _ _ ⟨(by rw [itn_s, filF]; exact hV), hS, lv_sub hl [1, 2, 0] rfl⟩
        · skip
          replace c124 : ¬ (nP ≤ i) := fun q => c124 ((nI_leI (a := nP) (b := i) (by omega) (by omega)).mpr q)
          refine lv_aload_n hx hb dX4_pass_127 rfl (lv_at hl 0 rfl) ?_
          refine lv_iload_n hx hb dX4_pass_128 rfl (lv_at hl 2 rfl) ?_
          refine kV (va_runV (As := [.int (nI i)]) (rest := []) ⟨hx, hb, hml, hown, hts⟩ (c_X4_mend l G ad hI nH nP hH hP δ (itn mndF i (itn (drwF nP) nH (itn (keyF nP) nP (itn layF nH τ)))) i hvi (by omega)) (cwV 1 hts gX4_pass_X4_mend rfl rfl rfl (by decide +kernel) ⟨Nat.le_of_ble_eq_true rfl, Nat.le_of_ble_eq_true rfl⟩) ⟨Pc0.blind, va_recv hK (va_P1 (hV.1)) (ci := 4) (q0 := 0) rfl rfl, Pc0.pre hV hK⟩ rfl rfl hl.1 rfl (lv_room (Nat.le_of_ble_eq_true rfl)) dX4_pass_129 ⟨Nat.zero_le _, Nat.zero_le _⟩) hS (fun _ _ q => q) (fun _ q => q) (fun H locs hV _ _ hS => ?_)
          refine lv_iinc (k := 2) (v := nI (i + 1)) (lv' := [(2, .int (nI (i + 1))), (0, .ref (ad 0)), (1, .int (dwn nP (itn (drwF nP) nH (itn (keyF nP) nP (itn layF nH τ))) - dwn nP (itn (keyF nP) nP (itn layF nH τ))))]) hx hb dX4_pass_132 hl rfl (nI_add i 1) (by decide) rfl (fun ls hl => ?_)
          refine lv_goto (tgt := 119) hx hb dX4_pass_135 (by decide) ?_
          exact ih (by omega) _ _ _ ⟨(by rw [itn_s]; exact hV), hS, lv_sub hl [1, 2, 0] rfl⟩
      · skip
        replace c92 : ¬ (nH ≤ i) := fun q => c92 ((nI_leI (a := nH) (b := i) (by omega) (by omega)).mpr q)
        refine lv_aload_n hx hb dX4_pass_95 rfl (lv_at hl 0 rfl) ?_
        refine lv_iload_n hx hb dX4_pass_96 rfl (lv_at hl 2 rfl) ?_
        refine kI (va_runV (As := [.int (nI i)]) (rest := []) ⟨hx, hb, hml, hown, hts⟩ (c_X4_isThere l G ad hI nH nP hH hP δ (itn (drwF nP) i (itn (keyF nP) nP (itn layF nH τ))) i (by omega)) (cwV 1 hts gX4_pass_X4_isThere rfl rfl rfl (by decide +kernel) ⟨Nat.le_of_ble_eq_true rfl, Nat.le_of_ble_eq_true rfl⟩) ⟨Pc0.blind, va_recv hK (va_P1 (hV.1)) (ci := 4) (q0 := 0) rfl rfl, Pc0.pre hV hK⟩ rfl rfl hl.1 rfl (lv_room (Nat.le_of_ble_eq_true rfl)) dX4_pass_97 ⟨Nat.zero_le _, Nat.zero_le _⟩) hS (fun _ _ q => q) (fun _ q => q) (fun H locs hV _ _ hS => ?_)
        refine lv_if_eq (tgt := 111) hx hb dX4_pass_100 (by decide) (fun c100 => ?_) (fun c100 => ?_)
        · skip
          replace c100 := b0 c100
          refine lv_iinc (k := 2) (v := nI (i + 1)) (lv' := [(2, .int (nI (i + 1))), (0, .ref (ad 0)), (1, .int (dwn nP (itn (drwF nP) i (itn (keyF nP) nP (itn layF nH τ))) - dwn nP (itn (keyF nP) nP (itn layF nH τ))))]) hx hb dX4_pass_111 hl rfl (nI_add i 1) (by decide) rfl (fun ls hl => ?_)
          refine lv_goto (tgt := 87) hx hb dX4_pass_114 (by decide) ?_
          have e9 : itn (drwF nP) (i + 1) (itn (keyF nP) nP (itn layF nH τ)) = itn (drwF nP) i (itn (keyF nP) nP (itn layF nH τ)) := by rw [itn_s, drwF, if_neg c100]
          have ih := fun hlt H locs ls q9 => ih hlt H locs ls (by rw [e9]; exact q9)
          exact ih (by omega) _ _ _ ⟨hV, hS, lv_sub hl [1, 2, 0] rfl⟩
        · skip
          replace c100 := b1 c100
          refine lv_iload_n hx hb dX4_pass_103 rfl (lv_at hl 1 rfl) ?_
          refine lv_aload_n hx hb dX4_pass_104 rfl (lv_at hl 0 rfl) ?_
          refine lv_iload_n hx hb dX4_pass_105 rfl (lv_at hl 2 rfl) ?_
          refine kI (va_runV (As := [.int (nI i)]) (rest := [.int (dwn nP (itn (drwF nP) i (itn (keyF nP) nP (itn layF nH τ))) - dwn nP (itn (keyF nP) nP (itn layF nH τ)))]) ⟨hx, hb, hml, hown, hts⟩ (c_X4_draw l G ad hI nH nP hH hP δ (itn (drwF nP) i (itn (keyF nP) nP (itn layF nH τ))) i hvi (by omega) c100) (cwV 1 hts gX4_pass_X4_draw rfl rfl rfl (by decide +kernel) ⟨Nat.le_of_ble_eq_true rfl, Nat.le_of_ble_eq_true rfl⟩) ⟨Pc0.blind, va_recv hK (va_P1 (hV.1)) (ci := 4) (q0 := 0) rfl rfl, Pc0.pre hV hK⟩ rfl rfl hl.1 rfl (lv_room (Nat.le_of_ble_eq_true rfl)) dX4_pass_106 ⟨Nat.zero_le _, Nat.zero_le _⟩) hS (fun _ _ q => q) (fun _ q => q) (fun H locs hV _ _ hS => ?_)
          refine lv_iadd hx hb dX4_pass_109 ?_
          refine lv_topi (fun y21 ey21 => ?_)
          obtain rfl : y21 = dwn nP (itn (drwF nP) (i + 1) (itn (keyF nP) nP (itn layF nH τ))) - dwn nP (itn (keyF nP) nP (itn layF nH τ)) := ey21.trans (by rw [dwn_drw c100, i32_tel]; rfl)
          refine lv_istore_n (lv' := [(1, .int (dwn nP (itn (drwF nP) (i + 1) (itn (keyF nP) nP (itn layF nH τ))) - dwn nP (itn (keyF nP) nP (itn layF nH τ)))), (0, .ref (ad 0)), (2, .int (nI i))]) hx hb dX4_pass_110 rfl hl (by decide) rfl (fun ls hl => ?_)
          refine lv_iinc (k := 2) (v := nI (i + 1)) (lv' := [(2, .int (nI (i + 1))), (1, .int (dwn nP (itn (drwF nP) (i + 1) (itn (keyF nP) nP (itn layF nH τ))) - dwn nP (itn (keyF nP) nP (itn layF nH τ)))), (0, .ref (ad 0))]) hx hb dX4_pass_111 hl rfl (nI_add i 1) (by decide) rfl (fun ls hl => ?_)
          refine lv_goto (tgt := 87) hx hb dX4_pass_114 (by decide) ?_
          exact ih (by omega) _ _ _ ⟨hV, hS, lv_sub hl [2, 1, 0] rfl⟩
    · skip
      replace c56 : ¬ (nP ≤ i) := fun q => c56 ((nI_leI (a := nP) (b := i) (by omega) (by omega)).mpr q)
      refine lv_aload_n hx hb dX4_pass_59 rfl (lv_at hl 0 rfl) ?_
      refine rSf 7 (j := 5) hx hb hts hi4 hown hK hV (by decide) rfl k25 dX4_pass_60 ?_
      refine lv_iload_n hx hb dX4_pass_63 rfl (lv_at hl 1 rfl) ?_
      refine lv_iconst (v := 0) hx hb dX4_pass_64 (by decide) ?_
      refine wSn (h := i) hx hb hK hI hV hS (fun _ q => q) (by omega) hP (by decide) dX4_pass_65 (fun H locs hV _ hS => ?_)
      refine lv_aload_n hx hb dX4_pass_66 rfl (lv_at hl 0 rfl) ?_
      refine rSf 6 (j := 4) hx hb hts hi4 hown hK hV (by decide) rfl k21 dX4_pass_67 ?_
      refine lv_iload_n hx hb dX4_pass_70 rfl (lv_at hl 1 rfl) ?_
      refine lv_aload_n hx hb dX4_pass_71 rfl (lv_at hl 0 rfl) ?_
      refine lv_iload_n hx hb dX4_pass_72 rfl (lv_at hl 1 rfl) ?_
      have hvo : Inv nH nP (wst (itn (keyF nP) i (itn layF nH τ)) 32 i 0) := hvi.free (by omega)
      refine kI (va_runV (As := [.int (nI i)]) (rest := [.int (nI i), .ref (ad 4)]) ⟨hx, hb, hml, hown, hts⟩ (c_X4_open l G ad hI nH nP hH hP δ (wst (itn (keyF nP) i (itn layF nH τ)) 32 i 0) i hvo (by omega)) (cwV 1 hts gX4_pass_X4_open rfl rfl rfl (by decide +kernel) ⟨Nat.le_of_ble_eq_true rfl, Nat.le_of_ble_eq_true rfl⟩) ⟨Pc0.blind, va_recv hK (va_P1 (hV.1)) (ci := 4) (q0 := 0) rfl rfl, Pc0.pre hV hK⟩ rfl rfl hl.1 rfl (lv_room (Nat.le_of_ble_eq_true rfl)) dX4_pass_73 ⟨Nat.zero_le _, Nat.zero_le _⟩) hS (fun _ _ q => q) (fun _ q => q) (fun H locs hV _ _ hS => ?_)
      refine wSo (h := i) hx hb hK hI hV hS (fun _ q => q) (by omega) hP (by rcases opn_01 (nP := nP) (p := i) (σ := wst (itn (keyF nP) i (itn layF nH τ)) 32 i 0) with q9 | q9 <;> rw [q9] <;> decide) dX4_pass_76 (fun H locs hV _ hS => ?_)
      refine lv_iinc (k := 1) (v := nI (i + 1)) (lv' := [(1, .int (nI (i + 1))), (0, .ref (ad 0))]) hx hb dX4_pass_77 hl rfl (nI_add i 1) (by decide) rfl (fun ls hl => ?_)
      refine lv_goto (tgt := 51) hx hb dX4_pass_80 (by decide) ?_
      exact ih (by omega) _ _ _ ⟨(by rw [itn_s, ← keyF_eq]; exact hV), hS, lv_sub hl [1, 0] rfl⟩
  · skip
    replace c7 : ¬ (nH ≤ i) := fun q => c7 ((nI_leI (a := nH) (b := i) (by omega) (by omega)).mpr q)
    refine lv_aload_n hx hb dX4_pass_10 rfl (lv_at hl 0 rfl) ?_
    refine lv_iload_n hx hb dX4_pass_11 rfl (lv_at hl 1 rfl) ?_
    refine kI (va_runV (As := [.int (nI i)]) (rest := []) ⟨hx, hb, hml, hown, hts⟩ (c_X4_isThere l G ad hI nH nP hH hP δ (itn layF i τ) i (by omega)) (cwV 1 hts gX4_pass_X4_isThere rfl rfl rfl (by decide +kernel) ⟨Nat.le_of_ble_eq_true rfl, Nat.le_of_ble_eq_true rfl⟩) ⟨Pc0.blind, va_recv hK (va_P1 (hV.1)) (ci := 4) (q0 := 0) rfl rfl, Pc0.pre hV hK⟩ rfl rfl hl.1 rfl (lv_room (Nat.le_of_ble_eq_true rfl)) dX4_pass_12 ⟨Nat.zero_le _, Nat.zero_le _⟩) hS (fun _ _ q => q) (fun _ q => q) (fun H locs hV _ _ hS => ?_)
    refine lv_if_eq (tgt := 43) hx hb dX4_pass_15 (by decide) (fun c15 => ?_) (fun c15 => ?_)
    · skip
      replace c15 := b0 c15
      refine lv_iinc (k := 1) (v := nI (i + 1)) (lv' := [(1, .int (nI (i + 1))), (0, .ref (ad 0))]) hx hb dX4_pass_43 hl rfl (nI_add i 1) (by decide) rfl (fun ls hl => ?_)
      refine lv_goto (tgt := 2) hx hb dX4_pass_46 (by decide) ?_
      exact ih (by omega) _ _ _ ⟨(by rw [itn_s, layF, if_neg c15]; exact hV), hS, lv_sub hl [1, 0] rfl⟩
    · skip
      replace c15 := b1 c15
      refine lv_aload_n hx hb dX4_pass_18 rfl (lv_at hl 0 rfl) ?_
      refine rSf 2 (j := 1) hx hb hts hi4 hown hK hV (by decide) rfl k9 dX4_pass_19 ?_
      refine lv_bipush (v := 11) hx hb dX4_pass_22 (by decide) ?_
      refine lv_iload_n hx hb dX4_pass_24 rfl (lv_at hl 1 rfl) ?_
      refine lv_imul hx hb dX4_pass_25 ?_
      refine lv_topi (fun y22 ey22 => ?_)
      obtain rfl : y22 = nI (11 * i) := ey22.trans (pk_mul 11 i)
      refine lv_iconst (v := 3) hx hb dX4_pass_26 (by decide) ?_
      refine lv_iadd hx hb dX4_pass_27 ?_
      refine lv_topi (fun y23 ey23 => ?_)
      obtain rfl : y23 = nI (11 * i + 3) := ey23.trans (nI_add (11 * i) 3)
      refine lv_dup2_11 hx hb dX4_pass_28 rfl rfl ?_
      refine rSh (h := i) (f := 3) (v := (itn layF i τ) 3 i) hx hb hK hV (by omega) (by omega) (by omega) hH rfl dX4_pass_29 ?_
      refine lv_aload_n hx hb dX4_pass_30 rfl (lv_at hl 0 rfl) ?_
      refine rSf 2 (j := 1) hx hb hts hi4 hown hK hV (by decide) rfl k9 dX4_pass_31 ?_
      refine lv_bipush (v := 11) hx hb dX4_pass_34 (by decide) ?_
      refine lv_iload_n hx hb dX4_pass_36 rfl (lv_at hl 1 rfl) ?_
      refine lv_imul hx hb dX4_pass_37 ?_
      refine lv_topi (fun y24 ey24 => ?_)
      obtain rfl : y24 = nI (11 * i) := ey24.trans (pk_mul 11 i)
      refine lv_iconst (v := 1) hx hb dX4_pass_38 (by decide) ?_
      refine lv_iadd hx hb dX4_pass_39 ?_
      refine lv_topi (fun y25 ey25 => ?_)
      obtain rfl : y25 = nI (11 * i + 1) := ey25.trans (nI_add (11 * i) 1)
      refine rSh (h := i) (f := 1) (v := (itn layF i τ) 1 i) hx hb hK hV (by omega) (by omega) (by omega) hH rfl dX4_pass_40 ?_
      refine lv_iadd hx hb dX4_pass_41 ?_
      refine wSh (h := i) (f := 3) hx hb hK hI hV hS (fun _ q => q) (by omega) (by omega) (by omega) hH dX4_pass_42 (fun H locs hV _ hS => ?_)
      refine lv_iinc (k := 1) (v := nI (i + 1)) (lv' := [(1, .int (nI (i + 1))), (0, .ref (ad 0))]) hx hb dX4_pass_43 hl rfl (nI_add i 1) (by decide) rfl (fun ls hl => ?_)
      refine lv_goto (tgt := 2) hx hb dX4_pass_46 (by decide) ?_
      exact ih (by omega) _ _ _ ⟨(by rw [itn_s, layF, if_pos c15]; exact hV), hS, lv_sub hl [1, 0] rfl⟩
