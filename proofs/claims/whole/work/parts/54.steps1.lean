set_option maxHeartbeats 4000000 in
set_option maxRecDepth 100000 in
theorem st_addHouse {p : Program} {l : Launch} {e : Env} {s : State} {m : MethodId} {below : List Frame} {meth : Method} {c : Code} {b L : Nat} {xs : Nat → Int32} {G : wG} {cL : ClassId} {xa ma o9 pa : Nat} {ad ad2 bd bd2 : Nat → Nat} {Q : State → Prop} (CC : LwS p l s m c b L xs G cL xa ma o9 pa ad ad2 bd bd2) {j : Nat} (hj : 4 * j + 4 ≤ L) {H : Heap} {locs : List Loc} {cells slots : Nat} {ls : Array Slot} (hLI : LI G cL xa ma o9 ad ad2 bd bd2 j H) (hS : va_S (fun q : Nat => s.heap.size ≤ q) s.heap H locs) (hl : lv_has ls 9 [(0, .ref b), (1, .ref xa), (2, .ref ma), (3, .ref o9), (4, .int (nI (4 * j)))]) (hc : cells + 14 ≤ 601024) (hs : slots + 124 ≤ 7293034)
    (kk : ∀ (H1 : Heap) (locs1 : List Loc) (ls1 : Array Slot), LI G cL xa ma o9 ad ad2 bd bd2 (j + 1) H1 → va_S (fun q : Nat => s.heap.size ≤ q) s.heap H1 locs1 → lv_has ls1 9 [(0, .ref b), (1, .ref xa), (2, .ref ma), (3, .ref o9), (4, .int (nI (4 * j)))] → W p l e room_1 s m #[Value.ref b] below meth c H1 locs1 (cells + 14) (slots + 124) Q (F0 m 1327 ls1 [])) : W p l e room_1 s m #[Value.ref b] below meth c H locs cells slots Q (F0 m 128 ls []) := by
  obtain ⟨hx, hb, hml, hown, hts, hX, hbl, hL, hfl, hKL, hXK, hNc, hN, hPL, hF⟩ := CC
  obtain ⟨nH, nP, τ, z, t, d, hv, hd, hW, hM, hO⟩ := hLI
  have hH := hv.1
  have hP := hv.2.1
  have hK := hKL.k
  have hbA : ¬ (fun q : Nat => s.heap.size ≤ q) b := Nat.not_le.mpr hbl
  have hXI := hF.1
  have hMI := hF.2.1
  have hoa := hF.oa
  refine lv_aload_n hx hb dL_law_128 rfl (lv_at hl 1 rfl) ?_
  refine lv_aload_n hx hb dL_law_129 rfl (lv_at hl 0 rfl) ?_
  refine lv_iload hx hb dL_law_130 (lv_at hl 4 rfl) ?_
  refine lv_iconst (v := 1) hx hb dL_law_132 (by decide) ?_
  refine lv_iadd hx hb dL_law_133 ?_
  refine lv_topi (fun y ey => ?_)
  obtain rfl : y = nI (4 * j + 1) := ey.trans (nI_add (4 * j) 1)
  refine va_sld hx hb hX hbl hbA hS (vp_in_nI (show 4 * j + 1 < L by omega) (by omega)) dL_law_134 ?_
  rw [nI_clamp (show 4 * j + 1 < 2 ^ 31 by omega)]
  refine lv_aload_n hx hb dL_law_135 rfl (lv_at hl 0 rfl) ?_
  refine lv_iload hx hb dL_law_136 (lv_at hl 4 rfl) ?_
  refine lv_iconst (v := 2) hx hb dL_law_138 (by decide) ?_
  refine lv_iadd hx hb dL_law_139 ?_
  refine lv_topi (fun y ey => ?_)
  obtain rfl : y = nI (4 * j + 2) := ey.trans (nI_add (4 * j) 2)
  refine va_sld hx hb hX hbl hbA hS (vp_in_nI (show 4 * j + 2 < L by omega) (by omega)) dL_law_140 ?_
  rw [nI_clamp (show 4 * j + 2 < 2 ^ 31 by omega)]
  refine lv_aload_n hx hb dL_law_141 rfl (lv_at hl 0 rfl) ?_
  refine lv_iload hx hb dL_law_142 (lv_at hl 4 rfl) ?_
  refine lv_iconst (v := 3) hx hb dL_law_144 (by decide) ?_
  refine lv_iadd hx hb dL_law_145 ?_
  refine lv_topi (fun y ey => ?_)
  obtain rfl : y = nI (4 * j + 3) := ey.trans (nI_add (4 * j) 3)
  refine va_sld hx hb hX hbl hbA hS (vp_in_nI (show 4 * j + 3 < L by omega) (by omega)) dL_law_146 ?_
  rw [nI_clamp (show 4 * j + 3 < 2 ^ 31 by omega)]
  refine lv_aload_n hx hb dL_law_147 rfl (lv_at hl 3 rfl) ?_
  refine kW (vx_runSX (As := [.ref xa, .int (xs (4 * j + 1)), .int (xs (4 * j + 2)), .int (xs (4 * j + 3)), .ref o9]) (rest := []) ⟨hx, hb, hml, hown, hts⟩ (c_L_addHouse l hfl G cL xa ad ad2 hXI nH nP hH hP dC τ z H.size o9 d (xs (4 * j + 1)) (xs (4 * j + 2)) (xs (4 * j + 3)) hv hoa hO.lt) (vx_cwSW 5 hts gL_law_L_addHouse rfl rfl rfl (by decide +kernel) ⟨Nat.le_of_ble_eq_true rfl, Nat.le_of_ble_eq_true rfl⟩) ⟨PcW.blind, PcW.pre ⟨hW, hO⟩ hKL hXK hNc hS (hF.subO hS.1)⟩ rfl rfl hl.1 rfl (lv_room (Nat.le_of_ble_eq_true rfl)) dL_law_148 ⟨by show cells + 4 ≤ 601024; omega, by show slots + 24 ≤ 7293034; omega⟩) hS (fun q _ h => hF.subO hS.1 q h) (hF.subO hS.1) (fun u H locs hP1 hB hz hk hS => ?_)
  obtain ⟨hW, d2, hO, hd2⟩ := hB
  have hM := hF.keepM hM hk
  refine lv_istore (lv' := [(5, .int (nI u)), (0, .ref b), (1, .ref xa), (2, .ref ma), (3, .ref o9), (4, .int (nI (4 * j)))]) hx hb dL_law_151 hl (by decide) rfl (fun ls hl => ?_)
  refine lv_aload_n hx hb dL_law_153 rfl (lv_at hl 3 rfl) ?_
  refine lv_aload_n hx hb dL_law_154 rfl (lv_at hl 1 rfl) ?_
  refine lv_iload hx hb dL_law_155 (lv_at hl 5 rfl) ?_
  refine lv_iconst (v := 1) hx hb dL_law_157 (by decide) ?_
  refine lv_iadd hx hb dL_law_158 ?_
  refine lv_topi (fun y ey => ?_)
  obtain rfl : y = nI (4 * j + 1) := ey.trans (nI_add (4 * j) 1)
  refine va_sld hx hb hX hbl hbA hS (vp_in_nI (show 4 * j + 1 < L by omega) (by omega)) dL_law_159 ?_
  rw [nI_clamp (show 4 * j + 1 < 2 ^ 31 by omega)]
  refine lv_aload_n hx hb dL_law_160 rfl (lv_at hl 1 rfl) ?_
  refine lv_iload hx hb dL_law_161 (lv_at hl 5 rfl) ?_
  refine lv_iconst (v := 2) hx hb dL_law_163 (by decide) ?_
  refine lv_iadd hx hb dL_law_164 ?_
  refine lv_topi (fun y ey => ?_)
  obtain rfl : y = nI (4 * j + 2) := ey.trans (nI_add (4 * j) 2)
  refine va_sld hx hb hX hbl hbA hS (vp_in_nI (show 4 * j + 2 < L by omega) (by omega)) dL_law_165 ?_
  rw [nI_clamp (show 4 * j + 2 < 2 ^ 31 by omega)]
  refine lv_aload_n hx hb dL_law_166 rfl (lv_at hl 1 rfl) ?_
  refine lv_iload hx hb dL_law_167 (lv_at hl 5 rfl) ?_
  refine lv_iconst (v := 3) hx hb dL_law_169 (by decide) ?_
  refine lv_iadd hx hb dL_law_170 ?_
  refine lv_topi (fun y ey => ?_)
  obtain rfl : y = nI (4 * j + 3) := ey.trans (nI_add (4 * j) 3)
  refine va_sld hx hb hX hbl hbA hS (vp_in_nI (show 4 * j + 3 < L by omega) (by omega)) dL_law_171 ?_
  rw [nI_clamp (show 4 * j + 3 < 2 ^ 31 by omega)]
  refine kM (va_runV (As := [.int (xs (4 * j + 1)), .int (xs (4 * j + 2)), .int (xs (4 * j + 3))]) (rest := []) ⟨hx, hb, hml, hown, hts⟩ (c_X5_addHouse l G ma bd bd2 hMI nH nP hH hP dR τ z t H.size (xs (4 * j + 1)) (xs (4 * j + 2)) (xs (4 * j + 3)) hv) (cwV 3 hts gL_law_X5_addHouse rfl rfl rfl (by decide +kernel) ⟨Nat.le_of_ble_eq_true rfl, Nat.le_of_ble_eq_true rfl⟩) ⟨PcM.blind, va_recv hK (va_P1 hM.choose_spec.1.1) (ci := 5) (q0 := 0) rfl rfl, PcM.pre hM hK hN⟩ rfl rfl hl.1 rfl (lv_room (Nat.le_of_ble_eq_true rfl)) dL_law_172 ⟨by show cells + 4 + 1 ≤ 601024; omega, by show slots + 24 + 4 ≤ 7293034; omega⟩) hS (fun q _ h => hF.subM hS.1 q h) (hF.subM hS.1) (fun w r H locs hP2 hr hM hz hk hS => ?_)
  have hW := hF.keepX hW hk
  have hO := hF.keepO hO hk
  obtain rfl := uq2c hP1 hP2
  have hu : u ≤ 2 := by rcases hP1 with ⟨q1, ok⟩ | ⟨q1, -⟩ | ⟨q1, -⟩ <;> omega
  have ok : u = 0 → inn 0 9 (xs (4 * j + 1)) ∧ inn 0 9 (xs (4 * j + 2)) ∧ inn 1 9 (xs (4 * j + 3)) ∧ nH < 10 := fun q => by
    rcases hP1 with ⟨q1, ok⟩ | ⟨q1, -⟩ | ⟨q1, -⟩
    · exact ok
    · exact absurd q (by omega)
    · exact absurd q (by omega)
  simp only [sel_same] at hM
  rw [aHF_r] at hM
  have hv2 : Inv (sel u (nH + 1) nH) nP (sel u (aHF nH τ (xs (4 * j + 1)) (xs (4 * j + 2)) (xs (4 * j + 3))) τ) := sel_invH hv (fun q => hv.addH (ok q).2.2.2 (ok q).2.2.1)
  have hd3 : DB (sel u (nH + 1) nH) (300 * (j + 1)) (sel u (aHF nH τ (xs (4 * j + 1)) (xs (4 * j + 2)) (xs (4 * j + 3))) τ) := sel_db (nH2 := nH + 1) hd (fun _ => hd.addH.mono (by omega)) (by omega)
  refine lv_istore (lv' := [(6, .int r), (5, .int (nI u)), (0, .ref b), (1, .ref xa), (2, .ref ma), (3, .ref o9), (4, .int (nI (4 * j)))]) hx hb dL_law_175 hl (by decide) rfl (fun ls hl => ?_)
  refine lv_aload_n hx hb dL_law_177 rfl (lv_at hl 4 rfl) ?_
  obtain ⟨σ2, hM2, hz2⟩ := hM
  refine kI (va_runV (As := []) (rest := []) ⟨hx, hb, hml, hown, hts⟩ (c_X5_thrown l G ma bd bd2 hMI (sel u (nH + 1) nH) nP hv2.1 hv2.2.1 dR (sel u (aHF nH τ (xs (4 * j + 1)) (xs (4 * j + 2)) (xs (4 * j + 3))) τ) σ2 (nI u) H.size) (cwV 0 hts gL_law_X5_thrown rfl rfl rfl (by decide +kernel) ⟨Nat.le_of_ble_eq_true rfl, Nat.le_of_ble_eq_true rfl⟩) ⟨PcM.blind, va_recv hK (va_P1 hM2.1) (ci := 5) (q0 := 0) rfl rfl, PcM.pre hM2 hK hN⟩ rfl rfl hl.1 rfl (lv_room (Nat.le_of_ble_eq_true rfl)) dL_law_178 ⟨by show cells + 4 + 1 + 0 ≤ 601024; omega, by show slots + 24 + 4 + 0 ≤ 7293034; omega⟩) hS (fun q _ h => h.elim) (fun q h => h.elim) (fun H locs hM2 hz hk hS => ?_)
  have hW := hW.kept (fun q hq => hk q hq (fun h => h))
  have hO := hO.kept (hk _ hO.lt (fun h => h))
  have hM : MWz G ma bd bd2 (nI u) (wmx (sel u (nH + 1) nH) nP dR (sel u (aHF nH τ (xs (4 * j + 1)) (xs (4 * j + 2)) (xs (4 * j + 3))) τ)) z H := ⟨σ2, hM2, hz2⟩
  refine lv_iload hx hb dL_law_181 (lv_at hl 1 rfl) ?_
  refine lv_icmp_eq (tgt := 188) hx hb dL_law_183 (by decide) (fun c => ?_) (fun c => absurd rfl c)
  refine lv_iload hx hb dL_law_188 (lv_at hl 1 rfl) ?_
  refine lv_if_ne (tgt := 205) hx hb dL_law_190 (by decide) (fun c => ?_) (fun c => ?_)
  · skip
    refine lv_goto (tgt := 1327) hx hb dL_law_205 (by decide) ?_
    refine W.widen (k := cells + 14) (n := slots + 124) (by omega) (by omega) ?_
    exact kk _ _ _ ⟨_, _, _, _, _, _, hv2, hd3, hW, hM, hO⟩ hS (lv_sub hl [2, 3, 4, 5, 6] rfl)
  · skip
    have hu0 : u = 0 := (nI_eq (a := u) (b := 0) (by omega) (by omega)).mp (by first | exact c | exact Decidable.not_not.mp c)
    refine lv_aload_n hx hb dL_law_193 rfl (lv_at hl 5 rfl) ?_
    refine lv_iconst (v := 0) hx hb dL_law_194 (by decide) ?_
    refine rO hx hb hKL hO dL_law_195 ?_
    refine lv_iload hx hb dL_law_196 (lv_at hl 0 rfl) ?_
    refine lv_i2l hx hb dL_law_198 rfl ?_
    refine W.lcmp hx hb dL_law_199 ?_
    refine lv_if_eq (tgt := 205) hx hb dL_law_200 (by decide) (fun c2 => ?_) (fun c2 => absurd (by rw [hd2 hu0, hr hu0]; exact lg_cmp_self) c2)
    refine lv_goto (tgt := 1327) hx hb dL_law_205 (by decide) ?_
    refine W.widen (k := cells + 14) (n := slots + 124) (by omega) (by omega) ?_
    exact kk _ _ _ ⟨_, _, _, _, _, _, hv2, hd3, hW, hM, hO⟩ hS (lv_sub hl [2, 3, 4, 5, 6] rfl)

set_option maxHeartbeats 4000000 in
set_option maxRecDepth 100000 in
theorem st_addPump {p : Program} {l : Launch} {e : Env} {s : State} {m : MethodId} {below : List Frame} {meth : Method} {c : Code} {b L : Nat} {xs : Nat → Int32} {G : wG} {cL : ClassId} {xa ma o9 pa : Nat} {ad ad2 bd bd2 : Nat → Nat} {Q : State → Prop} (CC : LwS p l s m c b L xs G cL xa ma o9 pa ad ad2 bd bd2) {j : Nat} (hj : 4 * j + 4 ≤ L) {H : Heap} {locs : List Loc} {cells slots : Nat} {ls : Array Slot} (hLI : LI G cL xa ma o9 ad ad2 bd bd2 j H) (hS : va_S (fun q : Nat => s.heap.size ≤ q) s.heap H locs) (hl : lv_has ls 9 [(0, .ref b), (1, .ref xa), (2, .ref ma), (3, .ref o9), (4, .int (nI (4 * j)))]) (hc : cells + 14 ≤ 601024) (hs : slots + 124 ≤ 7293034)
    (kk : ∀ (H1 : Heap) (locs1 : List Loc) (ls1 : Array Slot), LI G cL xa ma o9 ad ad2 bd bd2 (j + 1) H1 → va_S (fun q : Nat => s.heap.size ≤ q) s.heap H1 locs1 → lv_has ls1 9 [(0, .ref b), (1, .ref xa), (2, .ref ma), (3, .ref o9), (4, .int (nI (4 * j)))] → W p l e room_1 s m #[Value.ref b] below meth c H1 locs1 (cells + 14) (slots + 124) Q (F0 m 1327 ls1 [])) : W p l e room_1 s m #[Value.ref b] below meth c H locs cells slots Q (F0 m 208 ls []) := by
  obtain ⟨hx, hb, hml, hown, hts, hX, hbl, hL, hfl, hKL, hXK, hNc, hN, hPL, hF⟩ := CC
  obtain ⟨nH, nP, τ, z, t, d, hv, hd, hW, hM, hO⟩ := hLI
  have hH := hv.1
  have hP := hv.2.1
  have hK := hKL.k
  have hbA : ¬ (fun q : Nat => s.heap.size ≤ q) b := Nat.not_le.mpr hbl
  have hXI := hF.1
  have hMI := hF.2.1
  have hoa := hF.oa
  refine lv_aload_n hx hb dL_law_208 rfl (lv_at hl 1 rfl) ?_
  refine lv_aload_n hx hb dL_law_209 rfl (lv_at hl 0 rfl) ?_
  refine lv_iload hx hb dL_law_210 (lv_at hl 4 rfl) ?_
  refine lv_iconst (v := 1) hx hb dL_law_212 (by decide) ?_
  refine lv_iadd hx hb dL_law_213 ?_
  refine lv_topi (fun y ey => ?_)
  obtain rfl : y = nI (4 * j + 1) := ey.trans (nI_add (4 * j) 1)
  refine va_sld hx hb hX hbl hbA hS (vp_in_nI (show 4 * j + 1 < L by omega) (by omega)) dL_law_214 ?_
  rw [nI_clamp (show 4 * j + 1 < 2 ^ 31 by omega)]
  refine lv_aload_n hx hb dL_law_215 rfl (lv_at hl 0 rfl) ?_
  refine lv_iload hx hb dL_law_216 (lv_at hl 4 rfl) ?_
  refine lv_iconst (v := 2) hx hb dL_law_218 (by decide) ?_
  refine lv_iadd hx hb dL_law_219 ?_
  refine lv_topi (fun y ey => ?_)
  obtain rfl : y = nI (4 * j + 2) := ey.trans (nI_add (4 * j) 2)
  refine va_sld hx hb hX hbl hbA hS (vp_in_nI (show 4 * j + 2 < L by omega) (by omega)) dL_law_220 ?_
  rw [nI_clamp (show 4 * j + 2 < 2 ^ 31 by omega)]
  refine lv_aload_n hx hb dL_law_221 rfl (lv_at hl 3 rfl) ?_
  refine kW (vx_runSX (As := [.ref xa, .int (xs (4 * j + 1)), .int (xs (4 * j + 2)), .ref o9]) (rest := []) ⟨hx, hb, hml, hown, hts⟩ (c_L_addPump l hfl G cL xa ad ad2 hXI nH nP hH hP dC τ z H.size o9 d (xs (4 * j + 1)) (xs (4 * j + 2)) hv hoa hO.lt) (vx_cwSW 4 hts gL_law_L_addPump rfl rfl rfl (by decide +kernel) ⟨Nat.le_of_ble_eq_true rfl, Nat.le_of_ble_eq_true rfl⟩) ⟨PcW.blind, PcW.pre ⟨hW, hO⟩ hKL hXK hNc hS (hF.subO hS.1)⟩ rfl rfl hl.1 rfl (lv_room (Nat.le_of_ble_eq_true rfl)) dL_law_222 ⟨by show cells + 3 ≤ 601024; omega, by show slots + 18 ≤ 7293034; omega⟩) hS (fun q _ h => hF.subO hS.1 q h) (hF.subO hS.1) (fun u H locs hP1 hB hz hk hS => ?_)
  obtain ⟨hW, d2, hO, hd2⟩ := hB
  have hM := hF.keepM hM hk
  refine lv_istore (lv' := [(5, .int (nI u)), (0, .ref b), (1, .ref xa), (2, .ref ma), (3, .ref o9), (4, .int (nI (4 * j)))]) hx hb dL_law_225 hl (by decide) rfl (fun ls hl => ?_)
  refine lv_aload_n hx hb dL_law_227 rfl (lv_at hl 3 rfl) ?_
  refine lv_aload_n hx hb dL_law_228 rfl (lv_at hl 1 rfl) ?_
  refine lv_iload hx hb dL_law_229 (lv_at hl 5 rfl) ?_
  refine lv_iconst (v := 1) hx hb dL_law_231 (by decide) ?_
  refine lv_iadd hx hb dL_law_232 ?_
  refine lv_topi (fun y ey => ?_)
  obtain rfl : y = nI (4 * j + 1) := ey.trans (nI_add (4 * j) 1)
  refine va_sld hx hb hX hbl hbA hS (vp_in_nI (show 4 * j + 1 < L by omega) (by omega)) dL_law_233 ?_
  rw [nI_clamp (show 4 * j + 1 < 2 ^ 31 by omega)]
  refine lv_aload_n hx hb dL_law_234 rfl (lv_at hl 1 rfl) ?_
  refine lv_iload hx hb dL_law_235 (lv_at hl 5 rfl) ?_
  refine lv_iconst (v := 2) hx hb dL_law_237 (by decide) ?_
  refine lv_iadd hx hb dL_law_238 ?_
  refine lv_topi (fun y ey => ?_)
  obtain rfl : y = nI (4 * j + 2) := ey.trans (nI_add (4 * j) 2)
  refine va_sld hx hb hX hbl hbA hS (vp_in_nI (show 4 * j + 2 < L by omega) (by omega)) dL_law_239 ?_
  rw [nI_clamp (show 4 * j + 2 < 2 ^ 31 by omega)]
  refine kM (va_runV (As := [.int (xs (4 * j + 1)), .int (xs (4 * j + 2))]) (rest := []) ⟨hx, hb, hml, hown, hts⟩ (c_X5_addPump l G ma bd bd2 hMI nH nP hH hP dR τ z t H.size (xs (4 * j + 1)) (xs (4 * j + 2)) hv) (cwV 2 hts gL_law_X5_addPump rfl rfl rfl (by decide +kernel) ⟨Nat.le_of_ble_eq_true rfl, Nat.le_of_ble_eq_true rfl⟩) ⟨PcM.blind, va_recv hK (va_P1 hM.choose_spec.1.1) (ci := 5) (q0 := 0) rfl rfl, PcM.pre hM hK hN⟩ rfl rfl hl.1 rfl (lv_room (Nat.le_of_ble_eq_true rfl)) dL_law_240 ⟨by show cells + 3 + 0 ≤ 601024; omega, by show slots + 18 + 0 ≤ 7293034; omega⟩) hS (fun q _ h => hF.subM hS.1 q h) (hF.subM hS.1) (fun w r H locs hP2 hr hM hz hk hS => ?_)
  have hW := hF.keepX hW hk
  have hO := hF.keepO hO hk
  obtain rfl := uq2b hP1 hP2
  have hu : u ≤ 2 := by rcases hP1 with ⟨q1, ok⟩ | ⟨q1, -⟩ | ⟨q1, -⟩ <;> omega
  have ok : u = 0 → inn 0 200 (xs (4 * j + 1)) ∧ inn 0 50 (xs (4 * j + 2)) ∧ nP < 3 := fun q => by
    rcases hP1 with ⟨q1, ok⟩ | ⟨q1, -⟩ | ⟨q1, -⟩
    · exact ok
    · exact absurd q (by omega)
    · exact absurd q (by omega)
  simp only [sel_same] at hM
  rw [aPF_r] at hM
  have hv2 : Inv nH (sel u (nP + 1) nP) (sel u (aPF nP τ (xs (4 * j + 1)) (xs (4 * j + 2))) τ) := sel_invP hv (fun q => hv.addP (ok q).2.2)
  have hd3 : DB nH (300 * (j + 1)) (sel u (aPF nP τ (xs (4 * j + 1)) (xs (4 * j + 2))) τ) := sel_db0 hd (fun _ => hd.addP.mono (by omega)) (by omega)
  refine lv_istore (lv' := [(6, .int r), (5, .int (nI u)), (0, .ref b), (1, .ref xa), (2, .ref ma), (3, .ref o9), (4, .int (nI (4 * j)))]) hx hb dL_law_243 hl (by decide) rfl (fun ls hl => ?_)
  refine lv_aload_n hx hb dL_law_245 rfl (lv_at hl 4 rfl) ?_
  obtain ⟨σ2, hM2, hz2⟩ := hM
  refine kI (va_runV (As := []) (rest := []) ⟨hx, hb, hml, hown, hts⟩ (c_X5_thrown l G ma bd bd2 hMI nH (sel u (nP + 1) nP) hv2.1 hv2.2.1 dR (sel u (aPF nP τ (xs (4 * j + 1)) (xs (4 * j + 2))) τ) σ2 (nI u) H.size) (cwV 0 hts gL_law_X5_thrown rfl rfl rfl (by decide +kernel) ⟨Nat.le_of_ble_eq_true rfl, Nat.le_of_ble_eq_true rfl⟩) ⟨PcM.blind, va_recv hK (va_P1 hM2.1) (ci := 5) (q0 := 0) rfl rfl, PcM.pre hM2 hK hN⟩ rfl rfl hl.1 rfl (lv_room (Nat.le_of_ble_eq_true rfl)) dL_law_246 ⟨by show cells + 3 + 0 + 0 ≤ 601024; omega, by show slots + 18 + 0 + 0 ≤ 7293034; omega⟩) hS (fun q _ h => h.elim) (fun q h => h.elim) (fun H locs hM2 hz hk hS => ?_)
  have hW := hW.kept (fun q hq => hk q hq (fun h => h))
  have hO := hO.kept (hk _ hO.lt (fun h => h))
  have hM : MWz G ma bd bd2 (nI u) (wmx nH (sel u (nP + 1) nP) dR (sel u (aPF nP τ (xs (4 * j + 1)) (xs (4 * j + 2))) τ)) z H := ⟨σ2, hM2, hz2⟩
  refine lv_iload hx hb dL_law_249 (lv_at hl 1 rfl) ?_
  refine lv_icmp_eq (tgt := 256) hx hb dL_law_251 (by decide) (fun c => ?_) (fun c => absurd rfl c)
  refine lv_iload hx hb dL_law_256 (lv_at hl 1 rfl) ?_
  refine lv_if_ne (tgt := 273) hx hb dL_law_258 (by decide) (fun c => ?_) (fun c => ?_)
  · skip
    refine lv_goto (tgt := 1327) hx hb dL_law_273 (by decide) ?_
    refine W.widen (k := cells + 14) (n := slots + 124) (by omega) (by omega) ?_
    exact kk _ _ _ ⟨_, _, _, _, _, _, hv2, hd3, hW, hM, hO⟩ hS (lv_sub hl [2, 3, 4, 5, 6] rfl)
  · skip
    have hu0 : u = 0 := (nI_eq (a := u) (b := 0) (by omega) (by omega)).mp (by first | exact c | exact Decidable.not_not.mp c)
    refine lv_aload_n hx hb dL_law_261 rfl (lv_at hl 5 rfl) ?_
    refine lv_iconst (v := 0) hx hb dL_law_262 (by decide) ?_
    refine rO hx hb hKL hO dL_law_263 ?_
    refine lv_iload hx hb dL_law_264 (lv_at hl 0 rfl) ?_
    refine lv_i2l hx hb dL_law_266 rfl ?_
    refine W.lcmp hx hb dL_law_267 ?_
    refine lv_if_eq (tgt := 273) hx hb dL_law_268 (by decide) (fun c2 => ?_) (fun c2 => absurd (by rw [hd2 hu0, hr hu0]; exact lg_cmp_self) c2)
    refine lv_goto (tgt := 1327) hx hb dL_law_273 (by decide) ?_
    refine W.widen (k := cells + 14) (n := slots + 124) (by omega) (by omega) ?_
    exact kk _ _ _ ⟨_, _, _, _, _, _, hv2, hd3, hW, hM, hO⟩ hS (lv_sub hl [2, 3, 4, 5, 6] rfl)

set_option maxHeartbeats 4000000 in
set_option maxRecDepth 100000 in
theorem st_lodge {p : Program} {l : Launch} {e : Env} {s : State} {m : MethodId} {below : List Frame} {meth : Method} {c : Code} {b L : Nat} {xs : Nat → Int32} {G : wG} {cL : ClassId} {xa ma o9 pa : Nat} {ad ad2 bd bd2 : Nat → Nat} {Q : State → Prop} (CC : LwS p l s m c b L xs G cL xa ma o9 pa ad ad2 bd bd2) {j : Nat} (hj : 4 * j + 4 ≤ L) {H : Heap} {locs : List Loc} {cells slots : Nat} {ls : Array Slot} (hLI : LI G cL xa ma o9 ad ad2 bd bd2 j H) (hS : va_S (fun q : Nat => s.heap.size ≤ q) s.heap H locs) (hl : lv_has ls 9 [(0, .ref b), (1, .ref xa), (2, .ref ma), (3, .ref o9), (4, .int (nI (4 * j)))]) (hc : cells + 14 ≤ 601024) (hs : slots + 124 ≤ 7293034)
    (kk : ∀ (H1 : Heap) (locs1 : List Loc) (ls1 : Array Slot), LI G cL xa ma o9 ad ad2 bd bd2 (j + 1) H1 → va_S (fun q : Nat => s.heap.size ≤ q) s.heap H1 locs1 → lv_has ls1 9 [(0, .ref b), (1, .ref xa), (2, .ref ma), (3, .ref o9), (4, .int (nI (4 * j)))] → W p l e room_1 s m #[Value.ref b] below meth c H1 locs1 (cells + 14) (slots + 124) Q (F0 m 1327 ls1 [])) : W p l e room_1 s m #[Value.ref b] below meth c H locs cells slots Q (F0 m 276 ls []) := by
  obtain ⟨hx, hb, hml, hown, hts, hX, hbl, hL, hfl, hKL, hXK, hNc, hN, hPL, hF⟩ := CC
  obtain ⟨nH, nP, τ, z, t, d, hv, hd, hW, hM, hO⟩ := hLI
  have hH := hv.1
  have hP := hv.2.1
  have hK := hKL.k
  have hbA : ¬ (fun q : Nat => s.heap.size ≤ q) b := Nat.not_le.mpr hbl
  have hXI := hF.1
  have hMI := hF.2.1
  have hoa := hF.oa
  refine lv_aload_n hx hb dL_law_276 rfl (lv_at hl 1 rfl) ?_
  refine lv_aload_n hx hb dL_law_277 rfl (lv_at hl 0 rfl) ?_
  refine lv_iload hx hb dL_law_278 (lv_at hl 4 rfl) ?_
  refine lv_iconst (v := 1) hx hb dL_law_280 (by decide) ?_
  refine lv_iadd hx hb dL_law_281 ?_
  refine lv_topi (fun y ey => ?_)
  obtain rfl : y = nI (4 * j + 1) := ey.trans (nI_add (4 * j) 1)
  refine va_sld hx hb hX hbl hbA hS (vp_in_nI (show 4 * j + 1 < L by omega) (by omega)) dL_law_282 ?_
  rw [nI_clamp (show 4 * j + 1 < 2 ^ 31 by omega)]
  refine lv_aload_n hx hb dL_law_283 rfl (lv_at hl 0 rfl) ?_
  refine lv_iload hx hb dL_law_284 (lv_at hl 4 rfl) ?_
  refine lv_iconst (v := 2) hx hb dL_law_286 (by decide) ?_
  refine lv_iadd hx hb dL_law_287 ?_
  refine lv_topi (fun y ey => ?_)
  obtain rfl : y = nI (4 * j + 2) := ey.trans (nI_add (4 * j) 2)
  refine va_sld hx hb hX hbl hbA hS (vp_in_nI (show 4 * j + 2 < L by omega) (by omega)) dL_law_288 ?_
  rw [nI_clamp (show 4 * j + 2 < 2 ^ 31 by omega)]
  refine lv_aload_n hx hb dL_law_289 rfl (lv_at hl 3 rfl) ?_
  refine kW (vx_runSX (As := [.ref xa, .int (xs (4 * j + 1)), .int (xs (4 * j + 2)), .ref o9]) (rest := []) ⟨hx, hb, hml, hown, hts⟩ (c_L_lodge l hfl G cL xa ad ad2 hXI nH nP hH hP dC τ z H.size o9 d (xs (4 * j + 1)) (xs (4 * j + 2)) hv hoa hO.lt) (vx_cwSW 4 hts gL_law_L_lodge rfl rfl rfl (by decide +kernel) ⟨Nat.le_of_ble_eq_true rfl, Nat.le_of_ble_eq_true rfl⟩) ⟨PcW.blind, PcW.pre ⟨hW, hO⟩ hKL hXK hNc hS (hF.subO hS.1)⟩ rfl rfl hl.1 rfl (lv_room (Nat.le_of_ble_eq_true rfl)) dL_law_290 ⟨by show cells + 2 ≤ 601024; omega, by show slots + 12 ≤ 7293034; omega⟩) hS (fun q _ h => hF.subO hS.1 q h) (hF.subO hS.1) (fun u H locs hP1 hB hz hk hS => ?_)
  obtain ⟨hW, d2, hO, hd2⟩ := hB
  have hM := hF.keepM hM hk
  refine lv_istore (lv' := [(5, .int (nI u)), (0, .ref b), (1, .ref xa), (2, .ref ma), (3, .ref o9), (4, .int (nI (4 * j)))]) hx hb dL_law_293 hl (by decide) rfl (fun ls hl => ?_)
  refine lv_aload_n hx hb dL_law_295 rfl (lv_at hl 3 rfl) ?_
  refine lv_aload_n hx hb dL_law_296 rfl (lv_at hl 1 rfl) ?_
  refine lv_iload hx hb dL_law_297 (lv_at hl 5 rfl) ?_
  refine lv_iconst (v := 1) hx hb dL_law_299 (by decide) ?_
  refine lv_iadd hx hb dL_law_300 ?_
  refine lv_topi (fun y ey => ?_)
  obtain rfl : y = nI (4 * j + 1) := ey.trans (nI_add (4 * j) 1)
  refine va_sld hx hb hX hbl hbA hS (vp_in_nI (show 4 * j + 1 < L by omega) (by omega)) dL_law_301 ?_
  rw [nI_clamp (show 4 * j + 1 < 2 ^ 31 by omega)]
  refine lv_aload_n hx hb dL_law_302 rfl (lv_at hl 1 rfl) ?_
  refine lv_iload hx hb dL_law_303 (lv_at hl 5 rfl) ?_
  refine lv_iconst (v := 2) hx hb dL_law_305 (by decide) ?_
  refine lv_iadd hx hb dL_law_306 ?_
  refine lv_topi (fun y ey => ?_)
  obtain rfl : y = nI (4 * j + 2) := ey.trans (nI_add (4 * j) 2)
  refine va_sld hx hb hX hbl hbA hS (vp_in_nI (show 4 * j + 2 < L by omega) (by omega)) dL_law_307 ?_
  rw [nI_clamp (show 4 * j + 2 < 2 ^ 31 by omega)]
  refine kM (va_runV (As := [.int (xs (4 * j + 1)), .int (xs (4 * j + 2))]) (rest := []) ⟨hx, hb, hml, hown, hts⟩ (c_X5_lodge l G ma bd bd2 hMI nH nP hH hP dR τ z t H.size (xs (4 * j + 1)) (xs (4 * j + 2)) hv) (cwV 2 hts gL_law_X5_lodge rfl rfl rfl (by decide +kernel) ⟨Nat.le_of_ble_eq_true rfl, Nat.le_of_ble_eq_true rfl⟩) ⟨PcM.blind, va_recv hK (va_P1 hM.choose_spec.1.1) (ci := 5) (q0 := 0) rfl rfl, PcM.pre hM hK hN⟩ rfl rfl hl.1 rfl (lv_room (Nat.le_of_ble_eq_true rfl)) dL_law_308 ⟨by show cells + 2 + 0 ≤ 601024; omega, by show slots + 12 + 0 ≤ 7293034; omega⟩) hS (fun q _ h => hF.subM hS.1 q h) (hF.subM hS.1) (fun w r H locs hP2 hr hM hz hk hS => ?_)
  have hW := hF.keepX hW hk
  have hO := hF.keepO hO hk
  obtain rfl := uq2 hP1 hP2
  have hu : u ≤ 2 := by rcases hP1 with ⟨q1, ok⟩ | ⟨q1, -⟩ | ⟨q1, -⟩ <;> omega
  have ok : u = 0 → hOk nH (xs (4 * j + 1)) ∧ inn 0 9 (xs (4 * j + 2)) := fun q => by
    rcases hP1 with ⟨q1, ok⟩ | ⟨q1, -⟩ | ⟨q1, -⟩
    · exact ok
    · exact absurd q (by omega)
    · exact absurd q (by omega)
  simp only [sel_same] at hM
  have hv2 : Inv nH nP (sel u (wst τ 0 (cl (xs (4 * j + 1))) (xs (4 * j + 2))) τ) := sel_inv0 hv (fun _ => hv.free (Or.inl rfl))
  have hd3 : DB nH (300 * (j + 1)) (sel u (wst τ 0 (cl (xs (4 * j + 1))) (xs (4 * j + 2))) τ) := sel_db0 hd (fun _ => (hd.put (by decide)).mono (by omega)) (by omega)
  refine lv_istore (lv' := [(6, .int r), (5, .int (nI u)), (0, .ref b), (1, .ref xa), (2, .ref ma), (3, .ref o9), (4, .int (nI (4 * j)))]) hx hb dL_law_311 hl (by decide) rfl (fun ls hl => ?_)
  refine lv_aload_n hx hb dL_law_313 rfl (lv_at hl 4 rfl) ?_
  obtain ⟨σ2, hM2, hz2⟩ := hM
  refine kI (va_runV (As := []) (rest := []) ⟨hx, hb, hml, hown, hts⟩ (c_X5_thrown l G ma bd bd2 hMI nH nP hv2.1 hv2.2.1 dR (sel u (wst τ 0 (cl (xs (4 * j + 1))) (xs (4 * j + 2))) τ) σ2 (nI u) H.size) (cwV 0 hts gL_law_X5_thrown rfl rfl rfl (by decide +kernel) ⟨Nat.le_of_ble_eq_true rfl, Nat.le_of_ble_eq_true rfl⟩) ⟨PcM.blind, va_recv hK (va_P1 hM2.1) (ci := 5) (q0 := 0) rfl rfl, PcM.pre hM2 hK hN⟩ rfl rfl hl.1 rfl (lv_room (Nat.le_of_ble_eq_true rfl)) dL_law_314 ⟨by show cells + 2 + 0 + 0 ≤ 601024; omega, by show slots + 12 + 0 + 0 ≤ 7293034; omega⟩) hS (fun q _ h => h.elim) (fun q h => h.elim) (fun H locs hM2 hz hk hS => ?_)
  have hW := hW.kept (fun q hq => hk q hq (fun h => h))
  have hO := hO.kept (hk _ hO.lt (fun h => h))
  have hM : MWz G ma bd bd2 (nI u) (wmx nH nP dR (sel u (wst τ 0 (cl (xs (4 * j + 1))) (xs (4 * j + 2))) τ)) z H := ⟨σ2, hM2, hz2⟩
  refine lv_iload hx hb dL_law_317 (lv_at hl 1 rfl) ?_
  refine lv_icmp_eq (tgt := 324) hx hb dL_law_319 (by decide) (fun c => ?_) (fun c => absurd rfl c)
  refine lv_iload hx hb dL_law_324 (lv_at hl 1 rfl) ?_
  refine lv_if_ne (tgt := 341) hx hb dL_law_326 (by decide) (fun c => ?_) (fun c => ?_)
  · skip
    refine lv_goto (tgt := 1327) hx hb dL_law_341 (by decide) ?_
    refine W.widen (k := cells + 14) (n := slots + 124) (by omega) (by omega) ?_
    exact kk _ _ _ ⟨_, _, _, _, _, _, hv2, hd3, hW, hM, hO⟩ hS (lv_sub hl [2, 3, 4, 5, 6] rfl)
  · skip
    have hu0 : u = 0 := (nI_eq (a := u) (b := 0) (by omega) (by omega)).mp (by first | exact c | exact Decidable.not_not.mp c)
    refine lv_aload_n hx hb dL_law_329 rfl (lv_at hl 5 rfl) ?_
    refine lv_iconst (v := 0) hx hb dL_law_330 (by decide) ?_
    refine rO hx hb hKL hO dL_law_331 ?_
    refine lv_iload hx hb dL_law_332 (lv_at hl 0 rfl) ?_
    refine lv_i2l hx hb dL_law_334 rfl ?_
    refine W.lcmp hx hb dL_law_335 ?_
    refine lv_if_eq (tgt := 341) hx hb dL_law_336 (by decide) (fun c2 => ?_) (fun c2 => absurd (by rw [hd2 hu0, hr hu0]; exact lg_cmp_self) c2)
    refine lv_goto (tgt := 1327) hx hb dL_law_341 (by decide) ?_
    refine W.widen (k := cells + 14) (n := slots + 124) (by omega) (by omega) ?_
    exact kk _ _ _ ⟨_, _, _, _, _, _, hv2, hd3, hW, hM, hO⟩ hS (lv_sub hl [2, 3, 4, 5, 6] rfl)

set_option maxHeartbeats 4000000 in
set_option maxRecDepth 100000 in
theorem st_prefer {p : Program} {l : Launch} {e : Env} {s : State} {m : MethodId} {below : List Frame} {meth : Method} {c : Code} {b L : Nat} {xs : Nat → Int32} {G : wG} {cL : ClassId} {xa ma o9 pa : Nat} {ad ad2 bd bd2 : Nat → Nat} {Q : State → Prop} (CC : LwS p l s m c b L xs G cL xa ma o9 pa ad ad2 bd bd2) {j : Nat} (hj : 4 * j + 4 ≤ L) {H : Heap} {locs : List Loc} {cells slots : Nat} {ls : Array Slot} (hLI : LI G cL xa ma o9 ad ad2 bd bd2 j H) (hS : va_S (fun q : Nat => s.heap.size ≤ q) s.heap H locs) (hl : lv_has ls 9 [(0, .ref b), (1, .ref xa), (2, .ref ma), (3, .ref o9), (4, .int (nI (4 * j)))]) (hc : cells + 14 ≤ 601024) (hs : slots + 124 ≤ 7293034)
    (kk : ∀ (H1 : Heap) (locs1 : List Loc) (ls1 : Array Slot), LI G cL xa ma o9 ad ad2 bd bd2 (j + 1) H1 → va_S (fun q : Nat => s.heap.size ≤ q) s.heap H1 locs1 → lv_has ls1 9 [(0, .ref b), (1, .ref xa), (2, .ref ma), (3, .ref o9), (4, .int (nI (4 * j)))] → W p l e room_1 s m #[Value.ref b] below meth c H1 locs1 (cells + 14) (slots + 124) Q (F0 m 1327 ls1 [])) : W p l e room_1 s m #[Value.ref b] below meth c H locs cells slots Q (F0 m 344 ls []) := by
  obtain ⟨hx, hb, hml, hown, hts, hX, hbl, hL, hfl, hKL, hXK, hNc, hN, hPL, hF⟩ := CC
  obtain ⟨nH, nP, τ, z, t, d, hv, hd, hW, hM, hO⟩ := hLI
  have hH := hv.1
  have hP := hv.2.1
  have hK := hKL.k
  have hbA : ¬ (fun q : Nat => s.heap.size ≤ q) b := Nat.not_le.mpr hbl
  have hXI := hF.1
  have hMI := hF.2.1
  have hoa := hF.oa
  refine lv_aload_n hx hb dL_law_344 rfl (lv_at hl 1 rfl) ?_
  refine lv_aload_n hx hb dL_law_345 rfl (lv_at hl 0 rfl) ?_
  refine lv_iload hx hb dL_law_346 (lv_at hl 4 rfl) ?_
  refine lv_iconst (v := 1) hx hb dL_law_348 (by decide) ?_
  refine lv_iadd hx hb dL_law_349 ?_
  refine lv_topi (fun y ey => ?_)
  obtain rfl : y = nI (4 * j + 1) := ey.trans (nI_add (4 * j) 1)
  refine va_sld hx hb hX hbl hbA hS (vp_in_nI (show 4 * j + 1 < L by omega) (by omega)) dL_law_350 ?_
  rw [nI_clamp (show 4 * j + 1 < 2 ^ 31 by omega)]
  refine lv_aload_n hx hb dL_law_351 rfl (lv_at hl 0 rfl) ?_
  refine lv_iload hx hb dL_law_352 (lv_at hl 4 rfl) ?_
  refine lv_iconst (v := 2) hx hb dL_law_354 (by decide) ?_
  refine lv_iadd hx hb dL_law_355 ?_
  refine lv_topi (fun y ey => ?_)
  obtain rfl : y = nI (4 * j + 2) := ey.trans (nI_add (4 * j) 2)
  refine va_sld hx hb hX hbl hbA hS (vp_in_nI (show 4 * j + 2 < L by omega) (by omega)) dL_law_356 ?_
  rw [nI_clamp (show 4 * j + 2 < 2 ^ 31 by omega)]
  refine lv_aload_n hx hb dL_law_357 rfl (lv_at hl 3 rfl) ?_
  refine kW (vx_runSX (As := [.ref xa, .int (xs (4 * j + 1)), .int (xs (4 * j + 2)), .ref o9]) (rest := []) ⟨hx, hb, hml, hown, hts⟩ (c_L_prefer l hfl G cL xa ad ad2 hXI nH nP hH hP dC τ z H.size o9 d (xs (4 * j + 1)) (xs (4 * j + 2)) hv hoa hO.lt) (vx_cwSW 4 hts gL_law_L_prefer rfl rfl rfl (by decide +kernel) ⟨Nat.le_of_ble_eq_true rfl, Nat.le_of_ble_eq_true rfl⟩) ⟨PcW.blind, PcW.pre ⟨hW, hO⟩ hKL hXK hNc hS (hF.subO hS.1)⟩ rfl rfl hl.1 rfl (lv_room (Nat.le_of_ble_eq_true rfl)) dL_law_358 ⟨by show cells + 2 ≤ 601024; omega, by show slots + 12 ≤ 7293034; omega⟩) hS (fun q _ h => hF.subO hS.1 q h) (hF.subO hS.1) (fun u H locs hP1 hB hz hk hS => ?_)
  obtain ⟨hW, d2, hO, hd2⟩ := hB
  have hM := hF.keepM hM hk
  refine lv_istore (lv' := [(5, .int (nI u)), (0, .ref b), (1, .ref xa), (2, .ref ma), (3, .ref o9), (4, .int (nI (4 * j)))]) hx hb dL_law_361 hl (by decide) rfl (fun ls hl => ?_)
  refine lv_aload_n hx hb dL_law_363 rfl (lv_at hl 3 rfl) ?_
  refine lv_aload_n hx hb dL_law_364 rfl (lv_at hl 1 rfl) ?_
  refine lv_iload hx hb dL_law_365 (lv_at hl 5 rfl) ?_
  refine lv_iconst (v := 1) hx hb dL_law_367 (by decide) ?_
  refine lv_iadd hx hb dL_law_368 ?_
  refine lv_topi (fun y ey => ?_)
  obtain rfl : y = nI (4 * j + 1) := ey.trans (nI_add (4 * j) 1)
  refine va_sld hx hb hX hbl hbA hS (vp_in_nI (show 4 * j + 1 < L by omega) (by omega)) dL_law_369 ?_
  rw [nI_clamp (show 4 * j + 1 < 2 ^ 31 by omega)]
  refine lv_aload_n hx hb dL_law_370 rfl (lv_at hl 1 rfl) ?_
  refine lv_iload hx hb dL_law_371 (lv_at hl 5 rfl) ?_
  refine lv_iconst (v := 2) hx hb dL_law_373 (by decide) ?_
  refine lv_iadd hx hb dL_law_374 ?_
  refine lv_topi (fun y ey => ?_)
  obtain rfl : y = nI (4 * j + 2) := ey.trans (nI_add (4 * j) 2)
  refine va_sld hx hb hX hbl hbA hS (vp_in_nI (show 4 * j + 2 < L by omega) (by omega)) dL_law_375 ?_
  rw [nI_clamp (show 4 * j + 2 < 2 ^ 31 by omega)]
  refine kM (va_runV (As := [.int (xs (4 * j + 1)), .int (xs (4 * j + 2))]) (rest := []) ⟨hx, hb, hml, hown, hts⟩ (c_X5_prefer l G ma bd bd2 hMI nH nP hH hP dR τ z t H.size (xs (4 * j + 1)) (xs (4 * j + 2)) hv) (cwV 2 hts gL_law_X5_prefer rfl rfl rfl (by decide +kernel) ⟨Nat.le_of_ble_eq_true rfl, Nat.le_of_ble_eq_true rfl⟩) ⟨PcM.blind, va_recv hK (va_P1 hM.choose_spec.1.1) (ci := 5) (q0 := 0) rfl rfl, PcM.pre hM hK hN⟩ rfl rfl hl.1 rfl (lv_room (Nat.le_of_ble_eq_true rfl)) dL_law_376 ⟨by show cells + 2 + 0 ≤ 601024; omega, by show slots + 12 + 0 ≤ 7293034; omega⟩) hS (fun q _ h => hF.subM hS.1 q h) (hF.subM hS.1) (fun w r H locs hP2 hr hM hz hk hS => ?_)
  have hW := hF.keepX hW hk
  have hO := hF.keepO hO hk
  obtain rfl := uq1 hP1 hP2
  have hu : u ≤ 2 := by rcases hP1 with ⟨q1, ok⟩ | ⟨q1, -⟩ <;> omega
  have ok : u = 0 → hOk nH (xs (4 * j + 1)) ∧ pOk nP (xs (4 * j + 2)) := fun q => by
    rcases hP1 with ⟨q1, ok⟩ | ⟨q1, -⟩
    · exact ok
    · exact absurd q (by omega)
  simp only [sel_same] at hM
  have hv2 : Inv nH nP (sel u (wst τ 5 (cl (xs (4 * j + 1))) (xs (4 * j + 2))) τ) := sel_inv0 hv (fun q => by
    obtain ⟨k, hk, ek⟩ := pOk_nI (ok q).2 (by omega)
    rw [ek]
    exact hv.set5 (Or.inl hk))
  have hd3 : DB nH (300 * (j + 1)) (sel u (wst τ 5 (cl (xs (4 * j + 1))) (xs (4 * j + 2))) τ) := sel_db0 hd (fun _ => (hd.put (by decide)).mono (by omega)) (by omega)
  refine lv_istore (lv' := [(6, .int r), (5, .int (nI u)), (0, .ref b), (1, .ref xa), (2, .ref ma), (3, .ref o9), (4, .int (nI (4 * j)))]) hx hb dL_law_379 hl (by decide) rfl (fun ls hl => ?_)
  refine lv_aload_n hx hb dL_law_381 rfl (lv_at hl 4 rfl) ?_
  obtain ⟨σ2, hM2, hz2⟩ := hM
  refine kI (va_runV (As := []) (rest := []) ⟨hx, hb, hml, hown, hts⟩ (c_X5_thrown l G ma bd bd2 hMI nH nP hv2.1 hv2.2.1 dR (sel u (wst τ 5 (cl (xs (4 * j + 1))) (xs (4 * j + 2))) τ) σ2 (nI u) H.size) (cwV 0 hts gL_law_X5_thrown rfl rfl rfl (by decide +kernel) ⟨Nat.le_of_ble_eq_true rfl, Nat.le_of_ble_eq_true rfl⟩) ⟨PcM.blind, va_recv hK (va_P1 hM2.1) (ci := 5) (q0 := 0) rfl rfl, PcM.pre hM2 hK hN⟩ rfl rfl hl.1 rfl (lv_room (Nat.le_of_ble_eq_true rfl)) dL_law_382 ⟨by show cells + 2 + 0 + 0 ≤ 601024; omega, by show slots + 12 + 0 + 0 ≤ 7293034; omega⟩) hS (fun q _ h => h.elim) (fun q h => h.elim) (fun H locs hM2 hz hk hS => ?_)
  have hW := hW.kept (fun q hq => hk q hq (fun h => h))
  have hO := hO.kept (hk _ hO.lt (fun h => h))
  have hM : MWz G ma bd bd2 (nI u) (wmx nH nP dR (sel u (wst τ 5 (cl (xs (4 * j + 1))) (xs (4 * j + 2))) τ)) z H := ⟨σ2, hM2, hz2⟩
  refine lv_iload hx hb dL_law_385 (lv_at hl 1 rfl) ?_
  refine lv_icmp_eq (tgt := 392) hx hb dL_law_387 (by decide) (fun c => ?_) (fun c => absurd rfl c)
  refine lv_iload hx hb dL_law_392 (lv_at hl 1 rfl) ?_
  refine lv_if_ne (tgt := 409) hx hb dL_law_394 (by decide) (fun c => ?_) (fun c => ?_)
  · skip
    refine lv_goto (tgt := 1327) hx hb dL_law_409 (by decide) ?_
    refine W.widen (k := cells + 14) (n := slots + 124) (by omega) (by omega) ?_
    exact kk _ _ _ ⟨_, _, _, _, _, _, hv2, hd3, hW, hM, hO⟩ hS (lv_sub hl [2, 3, 4, 5, 6] rfl)
  · skip
    have hu0 : u = 0 := (nI_eq (a := u) (b := 0) (by omega) (by omega)).mp (by first | exact c | exact Decidable.not_not.mp c)
    refine lv_aload_n hx hb dL_law_397 rfl (lv_at hl 5 rfl) ?_
    refine lv_iconst (v := 0) hx hb dL_law_398 (by decide) ?_
    refine rO hx hb hKL hO dL_law_399 ?_
    refine lv_iload hx hb dL_law_400 (lv_at hl 0 rfl) ?_
    refine lv_i2l hx hb dL_law_402 rfl ?_
    refine W.lcmp hx hb dL_law_403 ?_
    refine lv_if_eq (tgt := 409) hx hb dL_law_404 (by decide) (fun c2 => ?_) (fun c2 => absurd (by rw [hd2 hu0, hr hu0]; exact lg_cmp_self) c2)
    refine lv_goto (tgt := 1327) hx hb dL_law_409 (by decide) ?_
    refine W.widen (k := cells + 14) (n := slots + 124) (by omega) (by omega) ?_
    exact kk _ _ _ ⟨_, _, _, _, _, _, hv2, hd3, hW, hM, hO⟩ hS (lv_sub hl [2, 3, 4, 5, 6] rfl)

set_option maxHeartbeats 4000000 in
set_option maxRecDepth 100000 in
theorem st_leave {p : Program} {l : Launch} {e : Env} {s : State} {m : MethodId} {below : List Frame} {meth : Method} {c : Code} {b L : Nat} {xs : Nat → Int32} {G : wG} {cL : ClassId} {xa ma o9 pa : Nat} {ad ad2 bd bd2 : Nat → Nat} {Q : State → Prop} (CC : LwS p l s m c b L xs G cL xa ma o9 pa ad ad2 bd bd2) {j : Nat} (hj : 4 * j + 4 ≤ L) {H : Heap} {locs : List Loc} {cells slots : Nat} {ls : Array Slot} (hLI : LI G cL xa ma o9 ad ad2 bd bd2 j H) (hS : va_S (fun q : Nat => s.heap.size ≤ q) s.heap H locs) (hl : lv_has ls 9 [(0, .ref b), (1, .ref xa), (2, .ref ma), (3, .ref o9), (4, .int (nI (4 * j)))]) (hc : cells + 14 ≤ 601024) (hs : slots + 124 ≤ 7293034)
    (kk : ∀ (H1 : Heap) (locs1 : List Loc) (ls1 : Array Slot), LI G cL xa ma o9 ad ad2 bd bd2 (j + 1) H1 → va_S (fun q : Nat => s.heap.size ≤ q) s.heap H1 locs1 → lv_has ls1 9 [(0, .ref b), (1, .ref xa), (2, .ref ma), (3, .ref o9), (4, .int (nI (4 * j)))] → W p l e room_1 s m #[Value.ref b] below meth c H1 locs1 (cells + 14) (slots + 124) Q (F0 m 1327 ls1 [])) : W p l e room_1 s m #[Value.ref b] below meth c H locs cells slots Q (F0 m 412 ls []) := by
  obtain ⟨hx, hb, hml, hown, hts, hX, hbl, hL, hfl, hKL, hXK, hNc, hN, hPL, hF⟩ := CC
  obtain ⟨nH, nP, τ, z, t, d, hv, hd, hW, hM, hO⟩ := hLI
  have hH := hv.1
  have hP := hv.2.1
  have hK := hKL.k
  have hbA : ¬ (fun q : Nat => s.heap.size ≤ q) b := Nat.not_le.mpr hbl
  have hXI := hF.1
  have hMI := hF.2.1
  have hoa := hF.oa
  refine lv_aload_n hx hb dL_law_412 rfl (lv_at hl 1 rfl) ?_
  refine lv_aload_n hx hb dL_law_413 rfl (lv_at hl 0 rfl) ?_
  refine lv_iload hx hb dL_law_414 (lv_at hl 4 rfl) ?_
  refine lv_iconst (v := 1) hx hb dL_law_416 (by decide) ?_
  refine lv_iadd hx hb dL_law_417 ?_
  refine lv_topi (fun y ey => ?_)
  obtain rfl : y = nI (4 * j + 1) := ey.trans (nI_add (4 * j) 1)
  refine va_sld hx hb hX hbl hbA hS (vp_in_nI (show 4 * j + 1 < L by omega) (by omega)) dL_law_418 ?_
  rw [nI_clamp (show 4 * j + 1 < 2 ^ 31 by omega)]
  refine lv_aload_n hx hb dL_law_419 rfl (lv_at hl 0 rfl) ?_
  refine lv_iload hx hb dL_law_420 (lv_at hl 4 rfl) ?_
  refine lv_iconst (v := 2) hx hb dL_law_422 (by decide) ?_
  refine lv_iadd hx hb dL_law_423 ?_
  refine lv_topi (fun y ey => ?_)
  obtain rfl : y = nI (4 * j + 2) := ey.trans (nI_add (4 * j) 2)
  refine va_sld hx hb hX hbl hbA hS (vp_in_nI (show 4 * j + 2 < L by omega) (by omega)) dL_law_424 ?_
  rw [nI_clamp (show 4 * j + 2 < 2 ^ 31 by omega)]
  refine lv_aload_n hx hb dL_law_425 rfl (lv_at hl 3 rfl) ?_
  refine kW (vx_runSX (As := [.ref xa, .int (xs (4 * j + 1)), .int (xs (4 * j + 2)), .ref o9]) (rest := []) ⟨hx, hb, hml, hown, hts⟩ (c_L_leave l hfl G cL xa ad ad2 hXI nH nP hH hP dC τ z H.size o9 d (xs (4 * j + 1)) (xs (4 * j + 2)) hv hoa hO.lt) (vx_cwSW 4 hts gL_law_L_leave rfl rfl rfl (by decide +kernel) ⟨Nat.le_of_ble_eq_true rfl, Nat.le_of_ble_eq_true rfl⟩) ⟨PcW.blind, PcW.pre ⟨hW, hO⟩ hKL hXK hNc hS (hF.subO hS.1)⟩ rfl rfl hl.1 rfl (lv_room (Nat.le_of_ble_eq_true rfl)) dL_law_426 ⟨by show cells + 2 ≤ 601024; omega, by show slots + 12 ≤ 7293034; omega⟩) hS (fun q _ h => hF.subO hS.1 q h) (hF.subO hS.1) (fun u H locs hP1 hB hz hk hS => ?_)
  obtain ⟨hW, d2, hO, hd2⟩ := hB
  have hM := hF.keepM hM hk
  refine lv_istore (lv' := [(5, .int (nI u)), (0, .ref b), (1, .ref xa), (2, .ref ma), (3, .ref o9), (4, .int (nI (4 * j)))]) hx hb dL_law_429 hl (by decide) rfl (fun ls hl => ?_)
  refine lv_aload_n hx hb dL_law_431 rfl (lv_at hl 3 rfl) ?_
  refine lv_aload_n hx hb dL_law_432 rfl (lv_at hl 1 rfl) ?_
  refine lv_iload hx hb dL_law_433 (lv_at hl 5 rfl) ?_
  refine lv_iconst (v := 1) hx hb dL_law_435 (by decide) ?_
  refine lv_iadd hx hb dL_law_436 ?_
  refine lv_topi (fun y ey => ?_)
  obtain rfl : y = nI (4 * j + 1) := ey.trans (nI_add (4 * j) 1)
  refine va_sld hx hb hX hbl hbA hS (vp_in_nI (show 4 * j + 1 < L by omega) (by omega)) dL_law_437 ?_
  rw [nI_clamp (show 4 * j + 1 < 2 ^ 31 by omega)]
  refine lv_aload_n hx hb dL_law_438 rfl (lv_at hl 1 rfl) ?_
  refine lv_iload hx hb dL_law_439 (lv_at hl 5 rfl) ?_
  refine lv_iconst (v := 2) hx hb dL_law_441 (by decide) ?_
  refine lv_iadd hx hb dL_law_442 ?_
  refine lv_topi (fun y ey => ?_)
  obtain rfl : y = nI (4 * j + 2) := ey.trans (nI_add (4 * j) 2)
  refine va_sld hx hb hX hbl hbA hS (vp_in_nI (show 4 * j + 2 < L by omega) (by omega)) dL_law_443 ?_
  rw [nI_clamp (show 4 * j + 2 < 2 ^ 31 by omega)]
  refine kM (va_runV (As := [.int (xs (4 * j + 1)), .int (xs (4 * j + 2))]) (rest := []) ⟨hx, hb, hml, hown, hts⟩ (c_X5_leave l G ma bd bd2 hMI nH nP hH hP dR τ z t H.size (xs (4 * j + 1)) (xs (4 * j + 2)) hv) (cwV 2 hts gL_law_X5_leave rfl rfl rfl (by decide +kernel) ⟨Nat.le_of_ble_eq_true rfl, Nat.le_of_ble_eq_true rfl⟩) ⟨PcM.blind, va_recv hK (va_P1 hM.choose_spec.1.1) (ci := 5) (q0 := 0) rfl rfl, PcM.pre hM hK hN⟩ rfl rfl hl.1 rfl (lv_room (Nat.le_of_ble_eq_true rfl)) dL_law_444 ⟨by show cells + 2 + 0 ≤ 601024; omega, by show slots + 12 + 0 ≤ 7293034; omega⟩) hS (fun q _ h => hF.subM hS.1 q h) (hF.subM hS.1) (fun w r H locs hP2 hr hM hz hk hS => ?_)
  have hW := hF.keepX hW hk
  have hO := hF.keepO hO hk
  obtain rfl := uq2 hP1 hP2
  have hu : u ≤ 2 := by rcases hP1 with ⟨q1, ok⟩ | ⟨q1, -⟩ | ⟨q1, -⟩ <;> omega
  have ok : u = 0 → hOk nH (xs (4 * j + 1)) ∧ inn 0 30 (xs (4 * j + 2)) := fun q => by
    rcases hP1 with ⟨q1, ok⟩ | ⟨q1, -⟩ | ⟨q1, -⟩
    · exact ok
    · exact absurd q (by omega)
    · exact absurd q (by omega)
  simp only [sel_same] at hM
  have hv2 : Inv nH nP (sel u (wst τ 6 (cl (xs (4 * j + 1))) (xs (4 * j + 2))) τ) := sel_inv0 hv (fun q => by
    obtain ⟨k, -, hk, ek⟩ := inn_nI (lo := 0) (hi := 30) (ok q).2 (by omega) (by omega)
    rw [ek]
    exact hv.set6 hk)
  have hd3 : DB nH (300 * (j + 1)) (sel u (wst τ 6 (cl (xs (4 * j + 1))) (xs (4 * j + 2))) τ) := sel_db0 hd (fun _ => (hd.put (by decide)).mono (by omega)) (by omega)
  refine lv_istore (lv' := [(6, .int r), (5, .int (nI u)), (0, .ref b), (1, .ref xa), (2, .ref ma), (3, .ref o9), (4, .int (nI (4 * j)))]) hx hb dL_law_447 hl (by decide) rfl (fun ls hl => ?_)
  refine lv_aload_n hx hb dL_law_449 rfl (lv_at hl 4 rfl) ?_
  obtain ⟨σ2, hM2, hz2⟩ := hM
  refine kI (va_runV (As := []) (rest := []) ⟨hx, hb, hml, hown, hts⟩ (c_X5_thrown l G ma bd bd2 hMI nH nP hv2.1 hv2.2.1 dR (sel u (wst τ 6 (cl (xs (4 * j + 1))) (xs (4 * j + 2))) τ) σ2 (nI u) H.size) (cwV 0 hts gL_law_X5_thrown rfl rfl rfl (by decide +kernel) ⟨Nat.le_of_ble_eq_true rfl, Nat.le_of_ble_eq_true rfl⟩) ⟨PcM.blind, va_recv hK (va_P1 hM2.1) (ci := 5) (q0 := 0) rfl rfl, PcM.pre hM2 hK hN⟩ rfl rfl hl.1 rfl (lv_room (Nat.le_of_ble_eq_true rfl)) dL_law_450 ⟨by show cells + 2 + 0 + 0 ≤ 601024; omega, by show slots + 12 + 0 + 0 ≤ 7293034; omega⟩) hS (fun q _ h => h.elim) (fun q h => h.elim) (fun H locs hM2 hz hk hS => ?_)
  have hW := hW.kept (fun q hq => hk q hq (fun h => h))
  have hO := hO.kept (hk _ hO.lt (fun h => h))
  have hM : MWz G ma bd bd2 (nI u) (wmx nH nP dR (sel u (wst τ 6 (cl (xs (4 * j + 1))) (xs (4 * j + 2))) τ)) z H := ⟨σ2, hM2, hz2⟩
  refine lv_iload hx hb dL_law_453 (lv_at hl 1 rfl) ?_
  refine lv_icmp_eq (tgt := 460) hx hb dL_law_455 (by decide) (fun c => ?_) (fun c => absurd rfl c)
  refine lv_iload hx hb dL_law_460 (lv_at hl 1 rfl) ?_
  refine lv_if_ne (tgt := 477) hx hb dL_law_462 (by decide) (fun c => ?_) (fun c => ?_)
  · skip
    refine lv_goto (tgt := 1327) hx hb dL_law_477 (by decide) ?_
    refine W.widen (k := cells + 14) (n := slots + 124) (by omega) (by omega) ?_
    exact kk _ _ _ ⟨_, _, _, _, _, _, hv2, hd3, hW, hM, hO⟩ hS (lv_sub hl [2, 3, 4, 5, 6] rfl)
  · skip
    have hu0 : u = 0 := (nI_eq (a := u) (b := 0) (by omega) (by omega)).mp (by first | exact c | exact Decidable.not_not.mp c)
    refine lv_aload_n hx hb dL_law_465 rfl (lv_at hl 5 rfl) ?_
    refine lv_iconst (v := 0) hx hb dL_law_466 (by decide) ?_
    refine rO hx hb hKL hO dL_law_467 ?_
    refine lv_iload hx hb dL_law_468 (lv_at hl 0 rfl) ?_
    refine lv_i2l hx hb dL_law_470 rfl ?_
    refine W.lcmp hx hb dL_law_471 ?_
    refine lv_if_eq (tgt := 477) hx hb dL_law_472 (by decide) (fun c2 => ?_) (fun c2 => absurd (by rw [hd2 hu0, hr hu0]; exact lg_cmp_self) c2)
    refine lv_goto (tgt := 1327) hx hb dL_law_477 (by decide) ?_
    refine W.widen (k := cells + 14) (n := slots + 124) (by omega) (by omega) ?_
    exact kk _ _ _ ⟨_, _, _, _, _, _, hv2, hd3, hW, hM, hO⟩ hS (lv_sub hl [2, 3, 4, 5, 6] rfl)

set_option maxHeartbeats 4000000 in
set_option maxRecDepth 100000 in
theorem st_fine {p : Program} {l : Launch} {e : Env} {s : State} {m : MethodId} {below : List Frame} {meth : Method} {c : Code} {b L : Nat} {xs : Nat → Int32} {G : wG} {cL : ClassId} {xa ma o9 pa : Nat} {ad ad2 bd bd2 : Nat → Nat} {Q : State → Prop} (CC : LwS p l s m c b L xs G cL xa ma o9 pa ad ad2 bd bd2) {j : Nat} (hj : 4 * j + 4 ≤ L) {H : Heap} {locs : List Loc} {cells slots : Nat} {ls : Array Slot} (hLI : LI G cL xa ma o9 ad ad2 bd bd2 j H) (hS : va_S (fun q : Nat => s.heap.size ≤ q) s.heap H locs) (hl : lv_has ls 9 [(0, .ref b), (1, .ref xa), (2, .ref ma), (3, .ref o9), (4, .int (nI (4 * j)))]) (hc : cells + 14 ≤ 601024) (hs : slots + 124 ≤ 7293034)
    (kk : ∀ (H1 : Heap) (locs1 : List Loc) (ls1 : Array Slot), LI G cL xa ma o9 ad ad2 bd bd2 (j + 1) H1 → va_S (fun q : Nat => s.heap.size ≤ q) s.heap H1 locs1 → lv_has ls1 9 [(0, .ref b), (1, .ref xa), (2, .ref ma), (3, .ref o9), (4, .int (nI (4 * j)))] → W p l e room_1 s m #[Value.ref b] below meth c H1 locs1 (cells + 14) (slots + 124) Q (F0 m 1327 ls1 [])) : W p l e room_1 s m #[Value.ref b] below meth c H locs cells slots Q (F0 m 480 ls []) := by
  obtain ⟨hx, hb, hml, hown, hts, hX, hbl, hL, hfl, hKL, hXK, hNc, hN, hPL, hF⟩ := CC
  obtain ⟨nH, nP, τ, z, t, d, hv, hd, hW, hM, hO⟩ := hLI
  have hH := hv.1
  have hP := hv.2.1
  have hK := hKL.k
  have hbA : ¬ (fun q : Nat => s.heap.size ≤ q) b := Nat.not_le.mpr hbl
  have hXI := hF.1
  have hMI := hF.2.1
  have hoa := hF.oa
  refine lv_aload_n hx hb dL_law_480 rfl (lv_at hl 1 rfl) ?_
  refine lv_aload_n hx hb dL_law_481 rfl (lv_at hl 0 rfl) ?_
  refine lv_iload hx hb dL_law_482 (lv_at hl 4 rfl) ?_
  refine lv_iconst (v := 1) hx hb dL_law_484 (by decide) ?_
  refine lv_iadd hx hb dL_law_485 ?_
  refine lv_topi (fun y ey => ?_)
  obtain rfl : y = nI (4 * j + 1) := ey.trans (nI_add (4 * j) 1)
  refine va_sld hx hb hX hbl hbA hS (vp_in_nI (show 4 * j + 1 < L by omega) (by omega)) dL_law_486 ?_
  rw [nI_clamp (show 4 * j + 1 < 2 ^ 31 by omega)]
  refine lv_aload_n hx hb dL_law_487 rfl (lv_at hl 0 rfl) ?_
  refine lv_iload hx hb dL_law_488 (lv_at hl 4 rfl) ?_
  refine lv_iconst (v := 2) hx hb dL_law_490 (by decide) ?_
  refine lv_iadd hx hb dL_law_491 ?_
  refine lv_topi (fun y ey => ?_)
  obtain rfl : y = nI (4 * j + 2) := ey.trans (nI_add (4 * j) 2)
  refine va_sld hx hb hX hbl hbA hS (vp_in_nI (show 4 * j + 2 < L by omega) (by omega)) dL_law_492 ?_
  rw [nI_clamp (show 4 * j + 2 < 2 ^ 31 by omega)]
  refine lv_aload_n hx hb dL_law_493 rfl (lv_at hl 3 rfl) ?_
  refine kW (vx_runSX (As := [.ref xa, .int (xs (4 * j + 1)), .int (xs (4 * j + 2)), .ref o9]) (rest := []) ⟨hx, hb, hml, hown, hts⟩ (c_L_fine l hfl G cL xa ad ad2 hXI nH nP hH hP dC τ z H.size o9 d (xs (4 * j + 1)) (xs (4 * j + 2)) hv hoa hO.lt) (vx_cwSW 4 hts gL_law_L_fine rfl rfl rfl (by decide +kernel) ⟨Nat.le_of_ble_eq_true rfl, Nat.le_of_ble_eq_true rfl⟩) ⟨PcW.blind, PcW.pre ⟨hW, hO⟩ hKL hXK hNc hS (hF.subO hS.1)⟩ rfl rfl hl.1 rfl (lv_room (Nat.le_of_ble_eq_true rfl)) dL_law_494 ⟨by show cells + 2 ≤ 601024; omega, by show slots + 12 ≤ 7293034; omega⟩) hS (fun q _ h => hF.subO hS.1 q h) (hF.subO hS.1) (fun u H locs hP1 hB hz hk hS => ?_)
  obtain ⟨hW, d2, hO, hd2⟩ := hB
  have hM := hF.keepM hM hk
  refine lv_istore (lv' := [(5, .int (nI u)), (0, .ref b), (1, .ref xa), (2, .ref ma), (3, .ref o9), (4, .int (nI (4 * j)))]) hx hb dL_law_497 hl (by decide) rfl (fun ls hl => ?_)
  refine lv_aload_n hx hb dL_law_499 rfl (lv_at hl 3 rfl) ?_
  refine lv_aload_n hx hb dL_law_500 rfl (lv_at hl 1 rfl) ?_
  refine lv_iload hx hb dL_law_501 (lv_at hl 5 rfl) ?_
  refine lv_iconst (v := 1) hx hb dL_law_503 (by decide) ?_
  refine lv_iadd hx hb dL_law_504 ?_
  refine lv_topi (fun y ey => ?_)
  obtain rfl : y = nI (4 * j + 1) := ey.trans (nI_add (4 * j) 1)
  refine va_sld hx hb hX hbl hbA hS (vp_in_nI (show 4 * j + 1 < L by omega) (by omega)) dL_law_505 ?_
  rw [nI_clamp (show 4 * j + 1 < 2 ^ 31 by omega)]
  refine lv_aload_n hx hb dL_law_506 rfl (lv_at hl 1 rfl) ?_
  refine lv_iload hx hb dL_law_507 (lv_at hl 5 rfl) ?_
  refine lv_iconst (v := 2) hx hb dL_law_509 (by decide) ?_
  refine lv_iadd hx hb dL_law_510 ?_
  refine lv_topi (fun y ey => ?_)
  obtain rfl : y = nI (4 * j + 2) := ey.trans (nI_add (4 * j) 2)
  refine va_sld hx hb hX hbl hbA hS (vp_in_nI (show 4 * j + 2 < L by omega) (by omega)) dL_law_511 ?_
  rw [nI_clamp (show 4 * j + 2 < 2 ^ 31 by omega)]
  refine kM (va_runV (As := [.int (xs (4 * j + 1)), .int (xs (4 * j + 2))]) (rest := []) ⟨hx, hb, hml, hown, hts⟩ (c_X5_fine l G ma bd bd2 hMI nH nP hH hP dR τ z t H.size (xs (4 * j + 1)) (xs (4 * j + 2)) hv) (cwV 2 hts gL_law_X5_fine rfl rfl rfl (by decide +kernel) ⟨Nat.le_of_ble_eq_true rfl, Nat.le_of_ble_eq_true rfl⟩) ⟨PcM.blind, va_recv hK (va_P1 hM.choose_spec.1.1) (ci := 5) (q0 := 0) rfl rfl, PcM.pre hM hK hN⟩ rfl rfl hl.1 rfl (lv_room (Nat.le_of_ble_eq_true rfl)) dL_law_512 ⟨by show cells + 2 + 0 ≤ 601024; omega, by show slots + 12 + 0 ≤ 7293034; omega⟩) hS (fun q _ h => hF.subM hS.1 q h) (hF.subM hS.1) (fun w r H locs hP2 hr hM hz hk hS => ?_)
  have hW := hF.keepX hW hk
  have hO := hF.keepO hO hk
  obtain rfl := uq2 hP1 hP2
  have hu : u ≤ 2 := by rcases hP1 with ⟨q1, ok⟩ | ⟨q1, -⟩ | ⟨q1, -⟩ <;> omega
  have ok : u = 0 → hOk nH (xs (4 * j + 1)) ∧ inn 1 50 (xs (4 * j + 2)) := fun q => by
    rcases hP1 with ⟨q1, ok⟩ | ⟨q1, -⟩ | ⟨q1, -⟩
    · exact ok
    · exact absurd q (by omega)
    · exact absurd q (by omega)
  simp only [sel_same] at hM
  have hv2 : Inv nH nP (sel u (chgF nP (cl (xs (4 * j + 1))) (xs (4 * j + 2)) τ) τ) := sel_inv0 hv (fun q => by
    obtain ⟨h, hh, eh⟩ := hOk_nI (ok q).1 hH
    rw [eh, show cl (nI h) = h from nI_clamp (by omega)]
    exact hv.oChg hh)
  have hd3 : DB nH (300 * (j + 1)) (sel u (chgF nP (cl (xs (4 * j + 1))) (xs (4 * j + 2)) τ) τ) := sel_db0 hd (fun _ => hd.chg.mono (by omega)) (by omega)
  refine lv_istore (lv' := [(6, .int r), (5, .int (nI u)), (0, .ref b), (1, .ref xa), (2, .ref ma), (3, .ref o9), (4, .int (nI (4 * j)))]) hx hb dL_law_515 hl (by decide) rfl (fun ls hl => ?_)
  refine lv_aload_n hx hb dL_law_517 rfl (lv_at hl 4 rfl) ?_
  obtain ⟨σ2, hM2, hz2⟩ := hM
  refine kI (va_runV (As := []) (rest := []) ⟨hx, hb, hml, hown, hts⟩ (c_X5_thrown l G ma bd bd2 hMI nH nP hv2.1 hv2.2.1 dR (sel u (chgF nP (cl (xs (4 * j + 1))) (xs (4 * j + 2)) τ) τ) σ2 (nI u) H.size) (cwV 0 hts gL_law_X5_thrown rfl rfl rfl (by decide +kernel) ⟨Nat.le_of_ble_eq_true rfl, Nat.le_of_ble_eq_true rfl⟩) ⟨PcM.blind, va_recv hK (va_P1 hM2.1) (ci := 5) (q0 := 0) rfl rfl, PcM.pre hM2 hK hN⟩ rfl rfl hl.1 rfl (lv_room (Nat.le_of_ble_eq_true rfl)) dL_law_518 ⟨by show cells + 2 + 0 + 0 ≤ 601024; omega, by show slots + 12 + 0 + 0 ≤ 7293034; omega⟩) hS (fun q _ h => h.elim) (fun q h => h.elim) (fun H locs hM2 hz hk hS => ?_)
  have hW := hW.kept (fun q hq => hk q hq (fun h => h))
  have hO := hO.kept (hk _ hO.lt (fun h => h))
  have hM : MWz G ma bd bd2 (nI u) (wmx nH nP dR (sel u (chgF nP (cl (xs (4 * j + 1))) (xs (4 * j + 2)) τ) τ)) z H := ⟨σ2, hM2, hz2⟩
  refine lv_iload hx hb dL_law_521 (lv_at hl 1 rfl) ?_
  refine lv_icmp_eq (tgt := 528) hx hb dL_law_523 (by decide) (fun c => ?_) (fun c => absurd rfl c)
  refine lv_iload hx hb dL_law_528 (lv_at hl 1 rfl) ?_
  refine lv_if_ne (tgt := 545) hx hb dL_law_530 (by decide) (fun c => ?_) (fun c => ?_)
  · skip
    refine lv_goto (tgt := 1327) hx hb dL_law_545 (by decide) ?_
    refine W.widen (k := cells + 14) (n := slots + 124) (by omega) (by omega) ?_
    exact kk _ _ _ ⟨_, _, _, _, _, _, hv2, hd3, hW, hM, hO⟩ hS (lv_sub hl [2, 3, 4, 5, 6] rfl)
  · skip
    have hu0 : u = 0 := (nI_eq (a := u) (b := 0) (by omega) (by omega)).mp (by first | exact c | exact Decidable.not_not.mp c)
    refine lv_aload_n hx hb dL_law_533 rfl (lv_at hl 5 rfl) ?_
    refine lv_iconst (v := 0) hx hb dL_law_534 (by decide) ?_
    refine rO hx hb hKL hO dL_law_535 ?_
    refine lv_iload hx hb dL_law_536 (lv_at hl 0 rfl) ?_
    refine lv_i2l hx hb dL_law_538 rfl ?_
    refine W.lcmp hx hb dL_law_539 ?_
    refine lv_if_eq (tgt := 545) hx hb dL_law_540 (by decide) (fun c2 => ?_) (fun c2 => absurd (by rw [hd2 hu0, hr hu0]; exact lg_cmp_self) c2)
    refine lv_goto (tgt := 1327) hx hb dL_law_545 (by decide) ?_
    refine W.widen (k := cells + 14) (n := slots + 124) (by omega) (by omega) ?_
    exact kk _ _ _ ⟨_, _, _, _, _, _, hv2, hd3, hW, hM, hO⟩ hS (lv_sub hl [2, 3, 4, 5, 6] rfl)
