def OA (o9 xa : Nat) (ad ad2 : Nat → Nat) : Prop := o9 ≠ xa ∧ (∀ k, k < 19 → o9 ≠ ad k) ∧ ∀ k, k < 19 → o9 ≠ ad2 k
theorem OA.no {o9 xa nz : Nat} {ad ad2 : Nat → Nat} (ho : OA o9 xa ad ad2) (h : o9 < nz) : ¬ AX ad ad2 nz o9 := fun q => by
  rcases q with ⟨k, hk, e⟩ | ⟨k, hk, e⟩ | q
  · exact ho.2.1 k hk e
  · exact ho.2.2 k hk e
  · omega
theorem XWz.keptO {G : wG} {xa o9 : Nat} {ad ad2 : Nat → Nat} {σ z : wS} {H H1 : Heap} (h : XWz G xa ad ad2 σ z H) (ho : OA o9 xa ad ad2) (hk : ∀ q : Nat, q ≠ o9 → H1[q]? = H[q]?) : XWz G xa ad ad2 σ z H1 := by
  obtain ⟨σ2, h1, h2⟩ := h
  exact ⟨σ2, ⟨h1.1.kept (hk _ (Ne.symm ho.1)), h1.2.1.kept (fun k hk9 => hk _ (Ne.symm (ho.2.1 k hk9))), h1.2.2.kept (fun k hk9 => hk _ (Ne.symm (ho.2.2 k hk9)))⟩, h2⟩
theorem XWz.oa {G : wG} {xa : Nat} {ad ad2 : Nat → Nat} {σ z : wS} {H : Heap} (h : XWz G xa ad ad2 σ z H) : OA H.size xa ad ad2 := by
  obtain ⟨σ2, h1, -⟩ := h
  exact ⟨Nat.ne_of_gt h1.1.lt, fun k hk => Nat.ne_of_gt (h1.2.1.lt hk), fun k hk => Nat.ne_of_gt (h1.2.2.lt hk)⟩
section ME
variable {p : Program} {l : Launch} {e : Env} {R : Room} {s : State} {m : MethodId} {args : Array Value} {below : List Frame} {meth : Method} {c : Code} {H : Heap} {locs : List Loc} {cells slots : Nat} {Q : State → Prop} {g : JFrame}
/-- two ways meet at pc -/
theorem W_meet (pc c2 s2 : Nat) (I : Heap → List Loc → Array Slot → Prop) (K : ∀ H1 locs1 ls1, I H1 locs1 ls1 → W p l e R s m args below meth c H1 locs1 c2 s2 Q (F0 m pc ls1 []))
    (kk : (∀ H1 locs1 ls1, I H1 locs1 ls1 → W p l e R s m args below meth c H1 locs1 c2 s2 Q (F0 m pc ls1 [])) → W p l e R s m args below meth c H locs cells slots Q g) : W p l e R s m args below meth c H locs cells slots Q g := kk K
end ME
theorem wmx_dC0 : wmx 0 0 dC dC = dC := wmx_self
/-- the village's start -/
def PcV (G : wG) (xa : Nat) (ad ad2 : Nat → Nat) (z : wS) (b L : Nat) (xs : Nat → Int32) (nz : Nat) (av : List Value) : Array Value → State → Prop := va_Pc av (fun U => U.heap.size = nz ∧ XWz G xa ad ad2 (wmx 0 0 dC dC) z U.heap ∧ wK G U ∧ XK (AX ad ad2 nz) U ∧ va_X b L xs U U.heap)
theorem PcV.blind {G : wG} {xa : Nat} {ad ad2 : Nat → Nat} {z : wS} {b L : Nat} {xs : Nat → Int32} {nz : Nat} {av : List Value} : FrameBlind (PcV G xa ad ad2 z b L xs nz av) := fun a U g mk q =>
  ⟨q.1, q.2.1, q.2.2.1, va_K.moved (u := U) (U := U.calling g mk a) (Vm.Alike.refl U.vm) q.2.2.2.1, by
    obtain ⟨⟨h1, h2⟩, h3, h4⟩ := q.2.2.2.2.1
    exact ⟨⟨h1.moved (U := U.calling g mk a) (Vm.Alike.refl U.vm), h2.moved (U := U.calling g mk a) (Vm.Alike.refl U.vm)⟩, h3.warm (U := U.calling g mk a) (State.WarmedH.refl U), h4.warm (U := U.calling g mk a) (State.WarmedH.refl U)⟩,
    va_X.moved (u := U) (U := U.calling g mk a) (Vm.Alike.refl U.vm) q.2.2.2.2.2⟩
theorem PcV.pre {G : wG} {xa : Nat} {ad ad2 : Nat → Nat} {z : wS} {b L : Nat} {xs : Nat → Int32} {av : List Value} {A : Nat → Prop} {s : State} {H : Heap} {locs : List Loc} (hW : XWz G xa ad ad2 (wmx 0 0 dC dC) z H) (hK : wK G s) (hX9 : XK A s) (hX : va_X b L xs s s.heap) (hbl : b < s.heap.size) (hbA : ¬ A b) (hS : va_S A s.heap H locs) (hA : ∀ q, AX ad ad2 H.size q → A q) : ∀ U : State, U.heap = H → s.WarmedH U.vm → PcV G xa ad ad2 z b L xs H.size av av.toArray U :=
  fun U hU hWm => ⟨rfl, by rw [hU], by rw [hU]; exact hW, va_K.moved hWm.alike hK, hX9.at hS hU hWm hA, by rw [hU]; exact va_X.moved hWm.alike (hX.kept (hS.2.1 b hbl hbA))⟩
def VEnd (G : wG) (xa : Nat) (ad ad2 : Nat → Nat) (H : Heap) : Prop := ∃ nH nP τ z, 1 ≤ nH ∧ 1 ≤ nP ∧ LQ nH nP 0 τ ∧ XWz G xa ad ad2 (wmx nH nP dC τ) z H
def Qvr (B : Heap → Prop) (A : Nat → Prop) : Array Value → State → Outcome → State → Prop := va_Qr (S := Unit) (fun _ => True) (fun _ _ t => B t.heap) A
def XF : String → State → State → Prop := vx_X (S := Unit) (fun _ => False) (fun _ _ _ => False) (fun _ => False)
set_option maxHeartbeats 8000000 in
set_option maxRecDepth 100000 in
theorem c_L_village (l : Launch) (hfl : l.stackTraces = false) (G : wG) (xa : Nat) (ad ad2 : Nat → Nat) (hXI : XI xa ad ad2) (z : wS) (b L : Nat) (xs : Nat → Int32) (hL : L ≤ 260) (nz : Nat) (hb9 : ¬ AX ad ad2 nz b) : vx_Met l yL_village wsL_village ({ frames := 8, cells := 124, slots := 748, locals := 160 } : Room) (PcV G xa ad ad2 z b L xs nz [.ref xa, .ref b]) (Qvr (VEnd G xa ad ad2) (AX ad ad2 nz)) XF 124 748 (AX ad ad2 nz) := by
  refine vx_ofWH (cc := cL_village) (maxL := 8) (ret := (some (.array .int))) (hh := [(165, 190, 193, 31)]) (by decide) rfl ?_
  intro pg ev s mid args below meth cd s₁ B hml hv0
  obtain ⟨rfl, rfl, hW, hK, hXK, hX⟩ := hv0
  have hx := B.exec
  have hb := B.bytes
  have hr := B.returns
  have hts := atoms_spec (ws := wsL_village) B.pre
  have hown : s.vm.findClass RL = some mid.cls := findClass_of_methodNamed B.named
  have hlocks := B.notSynchronized
  have htab := vx_table (x := yL_village) B (hts _ (List.mem_cons_self : Cond.codeWith yL_village cL_village 8 (some (.array .int)) [(165, 190, 193, 31)] ∈ wsL_village))
  have kc31 := hts (.classLink RL 31 nISE) (by decide +kernel)
  have kar := hts (.arrayClass .int) (by decide +kernel)
  have km33 := hts (.methodLink RL 33 Lib.Math.max.name) (by decide +kernel)
  have ks33 := hts (.static Lib.Math.max.name) (by decide +kernel)
  have kmath := hts (.initialized "java/lang/Math") (by decide +kernel)
  have kc33 := hts (.code Lib.Math.max.name Lib.Math.max.code 2 (some .int)) (by decide +kernel)
  have hS : va_S (AX ad ad2 s.heap.size) s.heap s.heap [] := va_S.rf
  have hbA : ¬ (AX ad ad2 s.heap.size) b := hb9
  have hbl : b < s.heap.size := by
    obtain ⟨scr, h1, -⟩ := hX
    exact (Array.getElem?_eq_some_iff.mp h1).1
  have hsub : ∀ {n9 : Nat}, s.heap.size ≤ n9 → ∀ q, AX ad ad2 n9 q → AX ad ad2 s.heap.size q := fun h q hq => hq.imp id (fun w => w.imp id (fun v => Nat.le_trans h v))
  have hl := lv_entry ([.ref xa, .ref b]) (n := 8) (Nat.le_of_ble_eq_true rfl)
  rw [lg_entry_eq]
  generalize (lg_sl ([.ref xa, .ref b]) ++ List.replicate (8 - (lg_sl ([.ref xa, .ref b])).length) Slot.unset).toArray = ls at hl ⊢
  have hl : lv_has ls 8 [(0, .ref xa), (1, .ref b)] := hl
  refine lv_iconst (v := nI 1) hx hb dL_village_0 (by decide) ?_
  refine lv_aload_n hx hb dL_village_1 rfl (lv_at hl 1 rfl) ?_
  refine lv_iconst (v := nI 0) hx hb dL_village_2 (by decide) ?_
  refine kI (va_runS (As := [.ref b, .int (nI 0)]) (rest := [.int (nI 1)]) ⟨hx, hb, hml, hown, hts⟩ (c_L_cell l b L xs 0 (by omega) hL) (va_cwS 2 hts gL_village_L_cell rfl rfl rfl (by decide +kernel) ⟨Nat.le_of_ble_eq_true rfl, Nat.le_of_ble_eq_true rfl⟩) ⟨PcX.blind, PcX.pre hX hbl hbA hS⟩ rfl rfl hl.1 rfl (lv_room (Nat.le_of_ble_eq_true rfl)) dL_village_3 ⟨by show 0 + 0 ≤ 124; omega, by show 0 + 0 ≤ 748; omega⟩) hS (fun q _ h => h.elim) (fun q h => h.elim) (fun H locs _ hz hk hS => ?_)
  have hW := hW.kept (fun q hq => hk q hq (fun h => h))
  refine lv_bipush (v := nI 10) hx hb dL_village_6 (by decide) ?_
  refine kI (va_runS (As := [.int (clF xs L 0), .int (nI 10)]) (rest := [.int (nI 1)]) ⟨hx, hb, hml, hown, hts⟩ (c_L_below l (clF xs L 0) 10 (by omega) (by omega)) (va_cwS 2 hts gL_village_L_below rfl rfl rfl (by decide +kernel) ⟨Nat.le_of_ble_eq_true rfl, Nat.le_of_ble_eq_true rfl⟩) ⟨Pc9.blind, Pc9.pre⟩ rfl rfl hl.1 rfl (lv_room (Nat.le_of_ble_eq_true rfl)) dL_village_8 ⟨by show 0 + 0 + 0 ≤ 124; omega, by show 0 + 0 + 0 ≤ 748; omega⟩) hS (fun q _ h => h.elim) (fun q h => h.elim) (fun H locs _ hz hk hS => ?_)
  have q8 := blF_lt (v := (clF xs L 0)) (n := 10) (by omega)
  generalize blF (clF xs L 0) 10 = k8 at q8 ⊢
  have hW := hW.kept (fun q hq => hk q hq (fun h => h))
  obtain ⟨h9, hh9⟩ : ∃ h9, h9 = 1 + k8 := ⟨_, rfl⟩
  refine lv_iadd hx hb dL_village_11 ?_
  refine lv_topi (fun y0 ey0 => ?_)
  obtain rfl : y0 = nI h9 := ey0.trans ((nI_add 1 k8).trans (by rw [hh9]))
  refine lv_istore_n (lv' := [(2, .int (nI h9)), (0, .ref xa), (1, .ref b)]) hx hb dL_village_12 rfl hl (by decide) rfl (fun ls hl => ?_)
  refine lv_bipush (v := nI 10) hx hb dL_village_13 (by decide) ?_
  refine nwI (n := nI 10) 10 hx hb kar hK hS (nI_pos (by omega)) (nI_clamp (by omega)) (by decide) (Nat.le_of_ble_eq_true rfl) (Nat.le_of_ble_eq_true rfl) dL_village_15 (fun a9 H hn9 h09 hA9 hk9 hS => ?_)
  have hoa : OA a9 xa ad ad2 := by rw [← hn9]; exact hW.oa
  have hW := hW.kept hk9
  refine lv_astore_n (lv' := [(3, .ref a9), (2, .int (nI h9)), (0, .ref xa), (1, .ref b)]) hx hb dL_village_17 rfl hl (by decide) rfl (fun ls hl => ?_)
  refine lv_iconst (v := nI 0) hx hb dL_village_18 (by decide) ?_
  refine lv_istore (lv' := [(4, .int (nI 0)), (3, .ref a9), (2, .int (nI h9)), (0, .ref xa), (1, .ref b)]) hx hb dL_village_19 hl (by decide) rfl (fun ls hl => ?_)
  refine W.widen (k := 1 + 0 * 4) (n := 10 + 0 * 24) (Nat.le_of_ble_eq_true rfl) (Nat.le_of_ble_eq_true rfl) ?_
  refine W_upc (pc := 21) (cells := 1) (slots := 10) 4 24 h9 (fun i H locs ls => (∃ τ z f, LQ i 0 0 τ ∧ XWz G xa ad ad2 (wmx i 0 dC τ) z H ∧ va_at G.1 vwCl (a9, .inl (G.2.1, 10, .inl f)) H) ∧ va_S (AX ad ad2 s.heap.size) s.heap H locs ∧ lv_has ls 8 [(0, .ref xa), (1, .ref b), (2, .int (nI h9)), (3, .ref a9), (4, .int (nI i))]) ?_ 0 (Nat.zero_le _) _ _ _ ⟨⟨dC, z, _, LQ.zero, hW, hA9⟩, hS, lv_sub hl [3, 4, 2, 1, 0] rfl⟩
  intro i H locs ls hi ⟨⟨τ, z, f, hq, hW, hA9⟩, hS, hl⟩ ih
  have hv := hq.1
  have hH : i ≤ 10 := by omega
  have hP : 0 ≤ 3 := by omega
  refine lv_iload hx hb dL_village_21 (lv_at hl 4 rfl) ?_
  refine lv_iload_n hx hb dL_village_23 rfl (lv_at hl 2 rfl) ?_
  refine lv_icmp_ge (tgt := 94) hx hb dL_village_24 (by decide) (fun c24 => ?_) (fun c24 => ?_)
  · skip
    replace c24 := (nI_leI (a := h9) (b := i) (by omega) (by omega)).mp c24
    obtain rfl : h9 = i := by omega
    refine lv_iconst (v := nI 1) hx hb dL_village_94 (by decide) ?_
    refine lv_aload_n hx hb dL_village_95 rfl (lv_at hl 1 rfl) ?_
    refine lv_iconst (v := nI 5) hx hb dL_village_96 (by decide) ?_
    refine kI (va_runS (As := [.ref b, .int (nI 5)]) (rest := [.int (nI 1)]) ⟨hx, hb, hml, hown, hts⟩ (c_L_cell l b L xs 5 (by omega) hL) (va_cwS 2 hts gL_village_L_cell rfl rfl rfl (by decide +kernel) ⟨Nat.le_of_ble_eq_true rfl, Nat.le_of_ble_eq_true rfl⟩) ⟨PcX.blind, PcX.pre hX hbl hbA hS⟩ rfl rfl hl.1 rfl (lv_room (Nat.le_of_ble_eq_true rfl)) dL_village_97 ⟨by show 1 + h9 * 4 + 0 ≤ 124; omega, by show 10 + h9 * 24 + 0 ≤ 748; omega⟩) hS (fun q _ h => h.elim) (fun q h => h.elim) (fun H locs _ hz hk hS => ?_)
    have hW := hW.kept (fun q hq => hk q hq (fun h => h))
    refine lv_iconst (v := nI 3) hx hb dL_village_100 (by decide) ?_
    refine kI (va_runS (As := [.int (clF xs L 5), .int (nI 3)]) (rest := [.int (nI 1)]) ⟨hx, hb, hml, hown, hts⟩ (c_L_below l (clF xs L 5) 3 (by omega) (by omega)) (va_cwS 2 hts gL_village_L_below rfl rfl rfl (by decide +kernel) ⟨Nat.le_of_ble_eq_true rfl, Nat.le_of_ble_eq_true rfl⟩) ⟨Pc9.blind, Pc9.pre⟩ rfl rfl hl.1 rfl (lv_room (Nat.le_of_ble_eq_true rfl)) dL_village_101 ⟨by show 1 + h9 * 4 + 0 + 0 ≤ 124; omega, by show 10 + h9 * 24 + 0 + 0 ≤ 748; omega⟩) hS (fun q _ h => h.elim) (fun q h => h.elim) (fun H locs _ hz hk hS => ?_)
    have q101 := blF_lt (v := (clF xs L 5)) (n := 3) (by omega)
    generalize blF (clF xs L 5) 3 = k101 at q101 ⊢
    have hW := hW.kept (fun q hq => hk q hq (fun h => h))
    obtain ⟨p9, hp9⟩ : ∃ p9, p9 = 1 + k101 := ⟨_, rfl⟩
    refine lv_iadd hx hb dL_village_104 ?_
    refine lv_topi (fun y1 ey1 => ?_)
    obtain rfl : y1 = nI p9 := ey1.trans ((nI_add 1 k101).trans (by rw [hp9]))
    refine lv_istore (lv' := [(4, .int (nI p9)), (0, .ref xa), (1, .ref b), (2, .int (nI h9)), (3, .ref a9)]) hx hb dL_village_105 hl (by decide) rfl (fun ls hl => ?_)
    refine lv_iconst (v := nI 0) hx hb dL_village_107 (by decide) ?_
    refine lv_istore (lv' := [(5, .int (nI 0)), (4, .int (nI p9)), (0, .ref xa), (1, .ref b), (2, .int (nI h9)), (3, .ref a9)]) hx hb dL_village_108 hl (by decide) rfl (fun ls hl => ?_)
    refine W.widen (k := (1 + h9 * 4) + 0 * 21) (n := (10 + h9 * 24) + 0 * 126) (by omega) (by omega) ?_
    refine W_upc (pc := 110) (cells := 1 + h9 * 4) (slots := 10 + h9 * 24) 21 126 p9 (fun j H locs ls => (∃ τ z, LQ h9 j 0 τ ∧ XWz G xa ad ad2 (wmx h9 j dC τ) z H) ∧ va_S (AX ad ad2 s.heap.size) s.heap H locs ∧ lv_has ls 8 [(0, .ref xa), (1, .ref b), (2, .int (nI h9)), (3, .ref a9), (4, .int (nI p9)), (5, .int (nI j))]) ?_ 0 (Nat.zero_le _) _ _ _ ⟨⟨τ, z, hq, hW⟩, hS, lv_sub hl [2, 3, 4, 5, 1, 0] rfl⟩
    intro j H locs ls hj ⟨⟨τ, z, hq, hW⟩, hS, hl⟩ ih
    refine lv_iload hx hb dL_village_110 (lv_at hl 5 rfl) ?_
    refine lv_iload hx hb dL_village_112 (lv_at hl 4 rfl) ?_
    refine lv_icmp_ge (tgt := 218) hx hb dL_village_114 (by decide) (fun c114 => ?_) (fun c114 => ?_)
    · skip
      replace c114 := (nI_leI (a := p9) (b := j) (by omega) (by omega)).mp c114
      obtain rfl : p9 = j := by omega
      refine lv_iconst (v := nI 0) hx hb dL_village_218 (by decide) ?_
      refine lv_istore (lv' := [(5, .int (nI 0)), (0, .ref xa), (1, .ref b), (2, .int (nI h9)), (3, .ref a9), (4, .int (nI p9))]) hx hb dL_village_219 hl (by decide) rfl (fun ls hl => ?_)
      refine W.widen (k := ((1 + h9 * 4) + p9 * 21) + 0 * 2) (n := ((10 + h9 * 24) + p9 * 126) + 0 * 12) (by omega) (by omega) ?_
      refine W_upc (pc := 221) (cells := (1 + h9 * 4) + p9 * 21) (slots := (10 + h9 * 24) + p9 * 126) 2 12 h9 (fun h H locs ls => (∃ τ z, LQ h9 p9 0 τ ∧ XWz G xa ad ad2 (wmx h9 p9 dC τ) z H) ∧ va_S (AX ad ad2 s.heap.size) s.heap H locs ∧ lv_has ls 8 [(0, .ref xa), (1, .ref b), (2, .int (nI h9)), (3, .ref a9), (4, .int (nI p9)), (5, .int (nI h))]) ?_ 0 (Nat.zero_le _) _ _ _ ⟨⟨τ, z, hq, hW⟩, hS, lv_sub hl [1, 2, 3, 4, 5, 0] rfl⟩
      intro h H locs ls hh ⟨⟨τ, z, hq, hW⟩, hS, hl⟩ ih
      have hv := hq.1
      have hH : h9 ≤ 10 := by omega
      have hP : p9 ≤ 3 := by omega
      refine lv_iload hx hb dL_village_221 (lv_at hl 5 rfl) ?_
      refine lv_iload_n hx hb dL_village_223 rfl (lv_at hl 2 rfl) ?_
      refine lv_icmp_ge (tgt := 272) hx hb dL_village_224 (by decide) (fun c224 => ?_) (fun c224 => ?_)
      · skip
        replace c224 := (nI_leI (a := h9) (b := h) (by omega) (by omega)).mp c224
        obtain rfl : h9 = h := by omega
        refine lv_aload_n hx hb dL_village_272 rfl (lv_at hl 3 rfl) ?_
        refine W.widen (k := 124) (n := 748) (by omega) (by omega) ?_
        exact vx_ret (W.aret hx hb hr (Or.inr ⟨_, rfl⟩) (Or.inr ⟨_, rfl⟩) (fun t ht hWm => ⟨⟨(), a9, rfl, trivial, by show VEnd G xa ad ad2 t.heap; rw [ht]; exact ⟨h9, p9, τ, z, by omega, by omega, hq, hW⟩⟩, hS.F ht⟩) hS.2.2 dL_village_273)
      · skip
        replace c224 : ¬ (h9 ≤ h) := fun q => c224 ((nI_leI (a := h9) (b := h) (by omega) (by omega)).mpr q)
        refine lv_aload_n hx hb dL_village_227 rfl (lv_at hl 1 rfl) ?_
        refine lv_bipush (v := nI 11) hx hb dL_village_228 (by decide) ?_
        refine kI (va_runS (As := [.ref b, .int (nI 11)]) (rest := []) ⟨hx, hb, hml, hown, hts⟩ (c_L_cell l b L xs 11 (by omega) hL) (va_cwS 2 hts gL_village_L_cell rfl rfl rfl (by decide +kernel) ⟨Nat.le_of_ble_eq_true rfl, Nat.le_of_ble_eq_true rfl⟩) ⟨PcX.blind, PcX.pre hX hbl hbA hS⟩ rfl rfl hl.1 rfl (lv_room (Nat.le_of_ble_eq_true rfl)) dL_village_230 ⟨by show ((1 + h9 * 4) + p9 * 21) + h * 2 + 0 ≤ 124; omega, by show ((10 + h9 * 24) + p9 * 126) + h * 12 + 0 ≤ 748; omega⟩) hS (fun q _ h => h.elim) (fun q h => h.elim) (fun H locs _ hz hk hS => ?_)
        have hW := hW.kept (fun q hq => hk q hq (fun h => h))
        refine lv_iload hx hb dL_village_233 (lv_at hl 5 rfl) ?_
        refine lv_ishr hx hb dL_village_235 ?_
        refine lv_iconst (v := nI 3) hx hb dL_village_236 (by decide) ?_
        refine kI (va_runS (As := [.int ((clF xs L 11) >>> ((nI h) &&& 31)), .int (nI 3)]) (rest := []) ⟨hx, hb, hml, hown, hts⟩ (c_L_below l ((clF xs L 11) >>> ((nI h) &&& 31)) 3 (by omega) (by omega)) (va_cwS 2 hts gL_village_L_below rfl rfl rfl (by decide +kernel) ⟨Nat.le_of_ble_eq_true rfl, Nat.le_of_ble_eq_true rfl⟩) ⟨Pc9.blind, Pc9.pre⟩ rfl rfl hl.1 rfl (lv_room (Nat.le_of_ble_eq_true rfl)) dL_village_237 ⟨by show ((1 + h9 * 4) + p9 * 21) + h * 2 + 0 + 0 ≤ 124; omega, by show ((10 + h9 * 24) + p9 * 126) + h * 12 + 0 + 0 ≤ 748; omega⟩) hS (fun q _ h => h.elim) (fun q h => h.elim) (fun H locs _ hz hk hS => ?_)
        have q237 := blF_lt (v := ((clF xs L 11) >>> ((nI h) &&& 31))) (n := 3) (by omega)
        generalize blF ((clF xs L 11) >>> ((nI h) &&& 31)) 3 = kq at q237 ⊢
        have hW := hW.kept (fun q hq => hk q hq (fun h => h))
        refine W_meet 266 (((1 + h9 * 4) + p9 * 21) + h * 2 + 0 + 0 + 2) (((10 + h9 * 24) + p9 * 126) + h * 12 + 0 + 0 + 12) (fun H locs ls => (∃ τ z, LQ h9 p9 0 τ ∧ XWz G xa ad ad2 (wmx h9 p9 dC τ) z H) ∧ va_S (AX ad ad2 s.heap.size) s.heap H locs ∧ lv_has ls 8 [(0, .ref xa), (1, .ref b), (2, .int (nI h9)), (3, .ref a9), (4, .int (nI p9)), (5, .int (nI h))]) ?_ (fun K266 => ?_)
        · skip
          intro H locs ls ⟨⟨τ, z, hq, hW⟩, hS, hl⟩
          refine lv_iinc (k := 5) (v := nI (h + 1)) (lv' := [(5, .int (nI (h + 1))), (0, .ref xa), (1, .ref b), (2, .int (nI h9)), (3, .ref a9), (4, .int (nI p9))]) hx hb dL_village_266 hl rfl (nI_add h 1) (by decide) rfl (fun ls hl => ?_)
          refine lv_goto (tgt := 221) hx hb dL_village_269 (by decide) ?_
          refine W.widen (k := ((1 + h9 * 4) + p9 * 21) + (h + 1) * 2) (n := ((10 + h9 * 24) + p9 * 126) + (h + 1) * 12) (by omega) (by omega) ?_
          exact ih (by omega) _ _ _ ⟨⟨_, _, hq, hW⟩, hS, lv_sub hl [1, 2, 3, 4, 5, 0] rfl⟩
        · skip
          refine lv_if_le (tgt := 266) hx hb dL_village_240 (by decide) (fun c240 => ?_) (fun c240 => ?_)
          · skip
            refine W.widen (k := ((1 + h9 * 4) + p9 * 21) + h * 2 + 0 + 0 + 2) (n := ((10 + h9 * 24) + p9 * 126) + h * 12 + 0 + 0 + 12) (by omega) (by omega) ?_
            exact K266 _ _ _ ⟨⟨_, _, hq, hW⟩, hS, lv_sub hl [0, 1, 2, 3, 4, 5] rfl⟩
          · skip
            refine lv_aload_n hx hb dL_village_243 rfl (lv_at hl 0 rfl) ?_
            refine lv_iload hx hb dL_village_244 (lv_at hl 5 rfl) ?_
            refine lv_aload_n hx hb dL_village_246 rfl (lv_at hl 1 rfl) ?_
            refine lv_bipush (v := nI 11) hx hb dL_village_247 (by decide) ?_
            refine kI (va_runS (As := [.ref b, .int (nI 11)]) (rest := [.int (nI h), .ref xa]) ⟨hx, hb, hml, hown, hts⟩ (c_L_cell l b L xs 11 (by omega) hL) (va_cwS 2 hts gL_village_L_cell rfl rfl rfl (by decide +kernel) ⟨Nat.le_of_ble_eq_true rfl, Nat.le_of_ble_eq_true rfl⟩) ⟨PcX.blind, PcX.pre hX hbl hbA hS⟩ rfl rfl hl.1 rfl (lv_room (Nat.le_of_ble_eq_true rfl)) dL_village_249 ⟨by show ((1 + h9 * 4) + p9 * 21) + h * 2 + 0 + 0 + 0 ≤ 124; omega, by show ((10 + h9 * 24) + p9 * 126) + h * 12 + 0 + 0 + 0 ≤ 748; omega⟩) hS (fun q _ h => h.elim) (fun q h => h.elim) (fun H locs _ hz hk hS => ?_)
            have hW := hW.kept (fun q hq => hk q hq (fun h => h))
            refine lv_iconst (v := nI 2) hx hb dL_village_252 (by decide) ?_
            refine lv_iload hx hb dL_village_253 (lv_at hl 5 rfl) ?_
            refine lv_imul hx hb dL_village_255 ?_
            refine lv_topi (fun y2 ey2 => ?_)
            obtain rfl : y2 = nI (2 * h) := ey2.trans (pk_mul 2 h)
            refine lv_ishr hx hb dL_village_256 ?_
            refine lv_iload hx hb dL_village_257 (lv_at hl 4 rfl) ?_
            refine kI (va_runS (As := [.int ((clF xs L 11) >>> ((nI (2 * h)) &&& 31)), .int (nI p9)]) (rest := [.int (nI h), .ref xa]) ⟨hx, hb, hml, hown, hts⟩ (c_L_below l ((clF xs L 11) >>> ((nI (2 * h)) &&& 31)) p9 (by omega) (by omega)) (va_cwS 2 hts gL_village_L_below rfl rfl rfl (by decide +kernel) ⟨Nat.le_of_ble_eq_true rfl, Nat.le_of_ble_eq_true rfl⟩) ⟨Pc9.blind, Pc9.pre⟩ rfl rfl hl.1 rfl (lv_room (Nat.le_of_ble_eq_true rfl)) dL_village_259 ⟨by show ((1 + h9 * 4) + p9 * 21) + h * 2 + 0 + 0 + 0 + 0 ≤ 124; omega, by show ((10 + h9 * 24) + p9 * 126) + h * 12 + 0 + 0 + 0 + 0 ≤ 748; omega⟩) hS (fun q _ h => h.elim) (fun q h => h.elim) (fun H locs _ hz hk hS => ?_)
            have q259 := blF_lt (v := ((clF xs L 11) >>> ((nI (2 * h)) &&& 31))) (n := p9) (by omega)
            generalize blF ((clF xs L 11) >>> ((nI (2 * h)) &&& 31)) p9 = kr at q259 ⊢
            have hW := hW.kept (fun q hq => hk q hq (fun h => h))
            refine kXi (vx_runV (As := [.int (nI h), .int (nI kr)]) (rest := []) ⟨hx, hb, hml, hown, hts⟩ (c_X3_prefer l hfl G xa ad ad2 hXI h9 p9 hH hP dC τ z H.size (nI h) (nI kr) hv) (cwV 2 hts gL_village_X3_prefer rfl rfl rfl (by decide +kernel) ⟨Nat.le_of_ble_eq_true rfl, Nat.le_of_ble_eq_true rfl⟩) ⟨Pc3.blind, va_recv hK (va_P1 hW.choose_spec.1.1) (ci := 3) (q0 := 0) rfl rfl, Pc3.pre hW hK hXK hS (hsub hS.1)⟩ rfl rfl hl.1 rfl (lv_room (Nat.le_of_ble_eq_true rfl)) dL_village_262 ⟨by show ((1 + h9 * 4) + p9 * 21) + h * 2 + 0 + 0 + 0 + 0 + 2 ≤ 124; omega, by show ((10 + h9 * 24) + p9 * 126) + h * 12 + 0 + 0 + 0 + 0 + 12 ≤ 748; omega⟩) hS (hsub hS.1) (hsub hS.1) (hsub hS.1) (fun E ce q9 H locs hE hBX hk hS hc hv9 hcl => ?_) (fun H locs ok hW hk hS => ?_)
            · skip
              rcases hE with t | t
              · exact absurd (hOk_of (show h < h9 by omega) hH) t.2
              · exact absurd (pOk_of (show kr < p9 by omega) hP) t.2.2
            · skip
              rw [show cl (nI h) = h from nI_clamp (by omega)] at hW
              refine lv_pop hx hb dL_village_265 rfl ?_
              exact K266 _ _ _ ⟨⟨_, _, hq.put5 (show kr < p9 by omega), hW⟩, hS, lv_sub hl [0, 1, 2, 3, 4, 5] rfl⟩
    · skip
      replace c114 : ¬ (p9 ≤ j) := fun q => c114 ((nI_leI (a := p9) (b := j) (by omega) (by omega)).mpr q)
      have hv := hq.1
      have hH : h9 ≤ 10 := by omega
      have hP : j ≤ 3 := by omega
      refine lv_aload_n hx hb dL_village_117 rfl (lv_at hl 0 rfl) ?_
      refine lv_aload_n hx hb dL_village_118 rfl (lv_at hl 1 rfl) ?_
      refine lv_bipush (v := nI 6) hx hb dL_village_119 (by decide) ?_
      refine kI (va_runS (As := [.ref b, .int (nI 6)]) (rest := [.ref xa]) ⟨hx, hb, hml, hown, hts⟩ (c_L_cell l b L xs 6 (by omega) hL) (va_cwS 2 hts gL_village_L_cell rfl rfl rfl (by decide +kernel) ⟨Nat.le_of_ble_eq_true rfl, Nat.le_of_ble_eq_true rfl⟩) ⟨PcX.blind, PcX.pre hX hbl hbA hS⟩ rfl rfl hl.1 rfl (lv_room (Nat.le_of_ble_eq_true rfl)) dL_village_121 ⟨by show (1 + h9 * 4) + j * 21 + 0 ≤ 124; omega, by show (10 + h9 * 24) + j * 126 + 0 ≤ 748; omega⟩) hS (fun q _ h => h.elim) (fun q h => h.elim) (fun H locs _ hz hk hS => ?_)
      have hW := hW.kept (fun q hq => hk q hq (fun h => h))
      refine lv_iconst (v := nI 5) hx hb dL_village_124 (by decide) ?_
      refine lv_iload hx hb dL_village_125 (lv_at hl 5 rfl) ?_
      refine lv_imul hx hb dL_village_127 ?_
      refine lv_topi (fun y2 ey2 => ?_)
      obtain rfl : y2 = nI (5 * j) := ey2.trans (pk_mul 5 j)
      refine lv_ishr hx hb dL_village_128 ?_
      refine lv_sipush (v := nI 201) hx hb dL_village_129 (by decide) ?_
      refine kI (va_runS (As := [.int ((clF xs L 6) >>> ((nI (5 * j)) &&& 31)), .int (nI 201)]) (rest := [.ref xa]) ⟨hx, hb, hml, hown, hts⟩ (c_L_below l ((clF xs L 6) >>> ((nI (5 * j)) &&& 31)) 201 (by omega) (by omega)) (va_cwS 2 hts gL_village_L_below rfl rfl rfl (by decide +kernel) ⟨Nat.le_of_ble_eq_true rfl, Nat.le_of_ble_eq_true rfl⟩) ⟨Pc9.blind, Pc9.pre⟩ rfl rfl hl.1 rfl (lv_room (Nat.le_of_ble_eq_true rfl)) dL_village_132 ⟨by show (1 + h9 * 4) + j * 21 + 0 + 0 ≤ 124; omega, by show (10 + h9 * 24) + j * 126 + 0 + 0 ≤ 748; omega⟩) hS (fun q _ h => h.elim) (fun q h => h.elim) (fun H locs _ hz hk hS => ?_)
      have q132 := blF_lt (v := ((clF xs L 6) >>> ((nI (5 * j)) &&& 31))) (n := 201) (by omega)
      generalize blF ((clF xs L 6) >>> ((nI (5 * j)) &&& 31)) 201 = kl at q132 ⊢
      have hW := hW.kept (fun q hq => hk q hq (fun h => h))
      refine lv_aload_n hx hb dL_village_135 rfl (lv_at hl 1 rfl) ?_
      refine lv_bipush (v := nI 7) hx hb dL_village_136 (by decide) ?_
      refine kI (va_runS (As := [.ref b, .int (nI 7)]) (rest := [.int (nI kl), .ref xa]) ⟨hx, hb, hml, hown, hts⟩ (c_L_cell l b L xs 7 (by omega) hL) (va_cwS 2 hts gL_village_L_cell rfl rfl rfl (by decide +kernel) ⟨Nat.le_of_ble_eq_true rfl, Nat.le_of_ble_eq_true rfl⟩) ⟨PcX.blind, PcX.pre hX hbl hbA hS⟩ rfl rfl hl.1 rfl (lv_room (Nat.le_of_ble_eq_true rfl)) dL_village_138 ⟨by show (1 + h9 * 4) + j * 21 + 0 + 0 + 0 ≤ 124; omega, by show (10 + h9 * 24) + j * 126 + 0 + 0 + 0 ≤ 748; omega⟩) hS (fun q _ h => h.elim) (fun q h => h.elim) (fun H locs _ hz hk hS => ?_)
      have hW := hW.kept (fun q hq => hk q hq (fun h => h))
      refine lv_iconst (v := nI 4) hx hb dL_village_141 (by decide) ?_
      refine lv_iload hx hb dL_village_142 (lv_at hl 5 rfl) ?_
      refine lv_imul hx hb dL_village_144 ?_
      refine lv_topi (fun y3 ey3 => ?_)
      obtain rfl : y3 = nI (4 * j) := ey3.trans (pk_mul 4 j)
      refine lv_ishr hx hb dL_village_145 ?_
      refine lv_bipush (v := nI 51) hx hb dL_village_146 (by decide) ?_
      refine kI (va_runS (As := [.int ((clF xs L 7) >>> ((nI (4 * j)) &&& 31)), .int (nI 51)]) (rest := [.int (nI kl), .ref xa]) ⟨hx, hb, hml, hown, hts⟩ (c_L_below l ((clF xs L 7) >>> ((nI (4 * j)) &&& 31)) 51 (by omega) (by omega)) (va_cwS 2 hts gL_village_L_below rfl rfl rfl (by decide +kernel) ⟨Nat.le_of_ble_eq_true rfl, Nat.le_of_ble_eq_true rfl⟩) ⟨Pc9.blind, Pc9.pre⟩ rfl rfl hl.1 rfl (lv_room (Nat.le_of_ble_eq_true rfl)) dL_village_148 ⟨by show (1 + h9 * 4) + j * 21 + 0 + 0 + 0 + 0 ≤ 124; omega, by show (10 + h9 * 24) + j * 126 + 0 + 0 + 0 + 0 ≤ 748; omega⟩) hS (fun q _ h => h.elim) (fun q h => h.elim) (fun H locs _ hz hk hS => ?_)
      have q148 := blF_lt (v := ((clF xs L 7) >>> ((nI (4 * j)) &&& 31))) (n := 51) (by omega)
      generalize blF ((clF xs L 7) >>> ((nI (4 * j)) &&& 31)) 51 = ki at q148 ⊢
      have hW := hW.kept (fun q hq => hk q hq (fun h => h))
      refine kXi (vx_runV (As := [.int (nI kl), .int (nI ki)]) (rest := []) ⟨hx, hb, hml, hown, hts⟩ (c_X3_addPump l hfl G xa ad ad2 hXI h9 j hH hP dC τ z H.size (nI kl) (nI ki) hv) (cwV 2 hts gL_village_X3_addPump rfl rfl rfl (by decide +kernel) ⟨Nat.le_of_ble_eq_true rfl, Nat.le_of_ble_eq_true rfl⟩) ⟨Pc3.blind, va_recv hK (va_P1 hW.choose_spec.1.1) (ci := 3) (q0 := 0) rfl rfl, Pc3.pre hW hK hXK hS (hsub hS.1)⟩ rfl rfl hl.1 rfl (lv_room (Nat.le_of_ble_eq_true rfl)) dL_village_151 ⟨by show (1 + h9 * 4) + j * 21 + 0 + 0 + 0 + 0 + 3 ≤ 124; omega, by show (10 + h9 * 24) + j * 126 + 0 + 0 + 0 + 0 + 18 ≤ 748; omega⟩) hS (hsub hS.1) (hsub hS.1) (hsub hS.1) (fun E ce q9 H locs hE hBX hk hS hc hv9 hcl => ?_) (fun H locs ok hW hk hS => ?_)
      · skip
        rcases hE with t | t | t
        · exact absurd (inn_of (lo := 0) (hi := 200) (Nat.zero_le _) (show kl ≤ 200 by omega) (by omega)) t.2
        · exact absurd (inn_of (lo := 0) (hi := 50) (Nat.zero_le _) (show ki ≤ 50 by omega) (by omega)) t.2.2
        · exact absurd (show j < 3 by omega) t.2.2.2
      · skip
        have hq := hq.addP (show j < 3 by omega) rfl (show kl ≤ 200 by omega) rfl (show ki ≤ 50 by omega)
        refine lv_pop hx hb dL_village_154 rfl ?_
        refine lv_iconst (v := nI 0) hx hb dL_village_155 (by decide) ?_
        refine lv_istore (lv' := [(6, .int (nI 0)), (0, .ref xa), (1, .ref b), (2, .int (nI h9)), (3, .ref a9), (4, .int (nI p9)), (5, .int (nI j))]) hx hb dL_village_156 hl (by decide) rfl (fun ls hl => ?_)
        refine W.widen (k := ((1 + h9 * 4) + j * 21 + 3) + 0 * 3) (n := ((10 + h9 * 24) + j * 126 + 18) + 0 * 18) (by omega) (by omega) ?_
        refine W_upc (pc := 158) (cells := (1 + h9 * 4) + j * 21 + 3) (slots := (10 + h9 * 24) + j * 126 + 18) 3 18 6 (fun t H locs ls => (∃ τ z, LQ h9 (j + 1) 0 τ ∧ XWz G xa ad ad2 (wmx h9 (j + 1) dC τ) z H) ∧ va_S (AX ad ad2 s.heap.size) s.heap H locs ∧ lv_has ls 8 [(0, .ref xa), (1, .ref b), (2, .int (nI h9)), (3, .ref a9), (4, .int (nI p9)), (5, .int (nI j)), (6, .int (nI t))]) ?_ 0 (Nat.zero_le _) _ _ _ ⟨⟨_, z, hq, hW⟩, hS, lv_sub hl [1, 2, 3, 4, 5, 6, 0] rfl⟩
        intro t H locs ls ht ⟨⟨τ, z, hq, hW⟩, hS, hl⟩ ih2
        refine lv_iload hx hb dL_village_158 (lv_at hl 6 rfl) ?_
        refine lv_bipush (v := nI 6) hx hb dL_village_160 (by decide) ?_
        refine lv_icmp_ge (tgt := 212) hx hb dL_village_162 (by decide) (fun c162 => ?_) (fun c162 => ?_)
        · skip
          replace c162 := (nI_leI (a := 6) (b := t) (by omega) (by omega)).mp c162
          obtain rfl : 6 = t := by omega
          refine lv_iinc (k := 5) (v := nI (j + 1)) (lv' := [(5, .int (nI (j + 1))), (0, .ref xa), (1, .ref b), (2, .int (nI h9)), (3, .ref a9), (4, .int (nI p9)), (6, .int (nI 6))]) hx hb dL_village_212 hl rfl (nI_add j 1) (by decide) rfl (fun ls hl => ?_)
          refine lv_goto (tgt := 110) hx hb dL_village_215 (by decide) ?_
          refine W.widen (k := (1 + h9 * 4) + (j + 1) * 21) (n := (10 + h9 * 24) + (j + 1) * 126) (by omega) (by omega) ?_
          exact ih (by omega) _ _ _ ⟨⟨_, _, hq, hW⟩, hS, lv_sub hl [1, 2, 3, 4, 5, 0] rfl⟩
        · skip
          replace c162 : ¬ (6 ≤ t) := fun q => c162 ((nI_leI (a := 6) (b := t) (by omega) (by omega)).mpr q)
          have hv := hq.1
          have hP2 : j + 1 ≤ 3 := by omega
          refine lv_aload_n hx hb dL_village_165 rfl (lv_at hl 0 rfl) ?_
          refine lv_iload hx hb dL_village_166 (lv_at hl 5 rfl) ?_
          refine lv_aload_n hx hb dL_village_168 rfl (lv_at hl 1 rfl) ?_
          refine lv_bipush (v := nI 8) hx hb dL_village_169 (by decide) ?_
          refine lv_iload hx hb dL_village_171 (lv_at hl 5 rfl) ?_
          refine lv_iadd hx hb dL_village_173 ?_
          refine lv_topi (fun y4 ey4 => ?_)
          obtain rfl : y4 = nI (8 + j) := ey4.trans (nI_add 8 j)
          refine kI (va_runS (As := [.ref b, .int (nI (8 + j))]) (rest := [.int (nI j), .ref xa]) ⟨hx, hb, hml, hown, hts⟩ (c_L_cell l b L xs (8 + j) (by omega) hL) (va_cwS 2 hts gL_village_L_cell rfl rfl rfl (by decide +kernel) ⟨Nat.le_of_ble_eq_true rfl, Nat.le_of_ble_eq_true rfl⟩) ⟨PcX.blind, PcX.pre hX hbl hbA hS⟩ rfl rfl hl.1 rfl (lv_room (Nat.le_of_ble_eq_true rfl)) dL_village_174 ⟨by show ((1 + h9 * 4) + j * 21 + 3) + t * 3 + 0 ≤ 124; omega, by show ((10 + h9 * 24) + j * 126 + 18) + t * 18 + 0 ≤ 748; omega⟩) hS (fun q _ h => h.elim) (fun q h => h.elim) (fun H locs _ hz hk hS => ?_)
          have hW := hW.kept (fun q hq => hk q hq (fun h => h))
          refine lv_iconst (v := nI 4) hx hb dL_village_177 (by decide) ?_
          refine lv_iload hx hb dL_village_178 (lv_at hl 6 rfl) ?_
          refine lv_imul hx hb dL_village_180 ?_
          refine lv_topi (fun y5 ey5 => ?_)
          obtain rfl : y5 = nI (4 * t) := ey5.trans (pk_mul 4 t)
          refine lv_ishr hx hb dL_village_181 ?_
          refine lv_iload_n hx hb dL_village_182 rfl (lv_at hl 2 rfl) ?_
          refine kI (va_runS (As := [.int ((clF xs L (8 + j)) >>> ((nI (4 * t)) &&& 31)), .int (nI h9)]) (rest := [.int (nI j), .ref xa]) ⟨hx, hb, hml, hown, hts⟩ (c_L_below l ((clF xs L (8 + j)) >>> ((nI (4 * t)) &&& 31)) h9 (by omega) (by omega)) (va_cwS 2 hts gL_village_L_below rfl rfl rfl (by decide +kernel) ⟨Nat.le_of_ble_eq_true rfl, Nat.le_of_ble_eq_true rfl⟩) ⟨Pc9.blind, Pc9.pre⟩ rfl rfl hl.1 rfl (lv_room (Nat.le_of_ble_eq_true rfl)) dL_village_183 ⟨by show ((1 + h9 * 4) + j * 21 + 3) + t * 3 + 0 + 0 ≤ 124; omega, by show ((10 + h9 * 24) + j * 126 + 18) + t * 18 + 0 + 0 ≤ 748; omega⟩) hS (fun q _ h => h.elim) (fun q h => h.elim) (fun H locs _ hz hk hS => ?_)
          have q183 := blF_lt (v := ((clF xs L (8 + j)) >>> ((nI (4 * t)) &&& 31))) (n := h9) (by omega)
          generalize blF ((clF xs L (8 + j)) >>> ((nI (4 * t)) &&& 31)) h9 = ke at q183 ⊢
          have hW := hW.kept (fun q hq => hk q hq (fun h => h))
          refine W_meet 206 (((1 + h9 * 4) + j * 21 + 3) + t * 3 + 0 + 0 + 3) (((10 + h9 * 24) + j * 126 + 18) + t * 18 + 0 + 0 + 18) (fun H locs ls => (∃ τ z, LQ h9 (j + 1) 0 τ ∧ XWz G xa ad ad2 (wmx h9 (j + 1) dC τ) z H) ∧ va_S (AX ad ad2 s.heap.size) s.heap H locs ∧ lv_has ls 8 [(0, .ref xa), (1, .ref b), (2, .int (nI h9)), (3, .ref a9), (4, .int (nI p9)), (5, .int (nI j)), (6, .int (nI t))]) ?_ (fun K206 => ?_)
          · skip
            intro H locs ls ⟨⟨τ, z, hq, hW⟩, hS, hl⟩
            refine lv_iinc (k := 6) (v := nI (t + 1)) (lv' := [(6, .int (nI (t + 1))), (0, .ref xa), (1, .ref b), (2, .int (nI h9)), (3, .ref a9), (4, .int (nI p9)), (5, .int (nI j))]) hx hb dL_village_206 hl rfl (nI_add t 1) (by decide) rfl (fun ls hl => ?_)
            refine lv_goto (tgt := 158) hx hb dL_village_209 (by decide) ?_
            refine W.widen (k := ((1 + h9 * 4) + j * 21 + 3) + (t + 1) * 3) (n := ((10 + h9 * 24) + j * 126 + 18) + (t + 1) * 18) (by omega) (by omega) ?_
            exact ih2 (by omega) _ _ _ ⟨⟨_, _, hq, hW⟩, hS, lv_sub hl [1, 2, 3, 4, 5, 6, 0] rfl⟩
          · skip
            refine kXi (vx_runV (As := [.int (nI j), .int (nI ke)]) (rest := []) ⟨hx, hb, hml, hown, hts⟩ (c_X3_enrol l hfl G xa ad ad2 hXI h9 (j + 1) hH hP2 dC τ z H.size (nI j) (nI ke) hv) (cwV 2 hts gL_village_X3_enrol rfl rfl rfl (by decide +kernel) ⟨Nat.le_of_ble_eq_true rfl, Nat.le_of_ble_eq_true rfl⟩) ⟨Pc3.blind, va_recv hK (va_P1 hW.choose_spec.1.1) (ci := 3) (q0 := 0) rfl rfl, Pc3.pre hW hK hXK hS (hsub hS.1)⟩ rfl rfl hl.1 rfl (lv_room (Nat.le_of_ble_eq_true rfl)) dL_village_186 ⟨by show ((1 + h9 * 4) + j * 21 + 3) + t * 3 + 0 + 0 + 3 ≤ 124; omega, by show ((10 + h9 * 24) + j * 126 + 18) + t * 18 + 0 + 0 + 18 ≤ 748; omega⟩) hS (hsub hS.1) (hsub hS.1) (hsub hS.1) (fun E ce q9 H locs hE hW hk hS hc hv9 hcl => ?_) (fun H locs ok hW hk hS => ?_)
            · skip
              have hc9 : E = nISE := by
                rcases hE with w | w | w | w
                · exact absurd (pOk_of (show j < j + 1 by omega) hP2) w.2
                · exact absurd (hOk_of (show ke < h9 by omega) hH) w.2.2
                · exact w.1
                · exact w.1
              subst hc9
              refine vx_catch hown [] (⟨165, 190, 193, 31⟩ : ExceptionTableEntry) [] (htab.trans rfl) (fun z hz => absurd hz List.not_mem_nil) (by decide) (by decide) kc31 (va_Nw.use rfl hXK.2.1.2.1) hc hv9 hcl ?_
              refine lv_astore (lv' := [(7, .ref q9), (0, .ref xa), (1, .ref b), (2, .int (nI h9)), (3, .ref a9), (4, .int (nI p9)), (5, .int (nI j)), (6, .int (nI t))]) hx hb dL_village_193 hl (by decide) rfl (fun ls hl => ?_)
              refine lv_iload hx hb dL_village_195 (lv_at hl 5 rfl) ?_
              refine lv_iload hx hb dL_village_197 (lv_at hl 6 rfl) ?_
              refine lv_iconst (v := nI 1) hx hb dL_village_199 (by decide) ?_
              refine lv_iadd hx hb dL_village_200 ?_
              refine lv_topi (fun y6 ey6 => ?_)
              obtain rfl : y6 = nI (j + 1) := ey6.trans (nI_add j 1)
              refine va_mmax hx hb (hml.trans hl.1.symm) hown km33 ks33 kmath kc33 (Nat.le_of_ble_eq_true rfl) (Nat.le_of_ble_eq_true rfl) (by show ((1 + h9 * 4) + j * 21 + 3) + t * 3 + 0 + 0 + 3 ≤ 124; omega) (by show ((10 + h9 * 24) + j * 126 + 18) + t * 18 + 0 + 0 + 18 ≤ 748; omega) dL_village_201 ?_
              refine lv_topi (fun y7 ey7 => ?_)
              obtain rfl : y7 = nI p9 := ey7.trans (if_neg (nI_nlt (by omega) (by omega)))
              refine lv_istore (lv' := [(4, .int (nI p9)), (7, .ref q9), (0, .ref xa), (1, .ref b), (2, .int (nI h9)), (3, .ref a9), (5, .int (nI j)), (6, .int (nI t))]) hx hb dL_village_204 hl (by decide) rfl (fun ls hl => ?_)
              exact K206 _ _ _ ⟨⟨_, _, hq, hW⟩, hS, lv_sub hl [2, 3, 4, 5, 0, 6, 7] rfl⟩
            · skip
              rw [show cl (nI j) = j from nI_clamp (by omega)] at hW
              obtain ⟨o1, o2, o3, o4⟩ := ok
              rw [show cl (nI j) = j from nI_clamp (by omega)] at o3
              rw [show cl (nI ke) = ke from nI_clamp (by omega)] at o4
              refine lv_pop hx hb dL_village_189 rfl ?_
              refine lv_goto (tgt := 206) hx hb dL_village_190 (by decide) ?_
              exact K206 _ _ _ ⟨⟨_, _, hq.enrol (show j < j + 1 by omega) (show ke < h9 by omega) o3 o4, hW⟩, hS, lv_sub hl [0, 1, 2, 3, 4, 5, 6] rfl⟩
  · skip
    replace c24 : ¬ (h9 ≤ i) := fun q => c24 ((nI_leI (a := h9) (b := i) (by omega) (by omega)).mpr q)
    refine lv_aload_n hx hb dL_village_27 rfl (lv_at hl 1 rfl) ?_
    refine lv_iconst (v := nI 1) hx hb dL_village_28 (by decide) ?_
    refine lv_iload hx hb dL_village_29 (lv_at hl 4 rfl) ?_
    refine lv_iconst (v := nI 4) hx hb dL_village_31 (by decide) ?_
    refine lv_irem hx hb dL_village_32 (by decide) ?_
    refine lv_topi (fun y1 ey1 => ?_)
    obtain rfl : y1 = nI (i % 4) := ey1.trans (pk_rem (by omega) (by decide) (by decide))
    refine lv_iadd hx hb dL_village_33 ?_
    refine lv_topi (fun y2 ey2 => ?_)
    obtain rfl : y2 = nI (1 + (i % 4)) := ey2.trans (nI_add 1 (i % 4))
    refine kI (va_runS (As := [.ref b, .int (nI (1 + (i % 4)))]) (rest := []) ⟨hx, hb, hml, hown, hts⟩ (c_L_cell l b L xs (1 + (i % 4)) (by omega) hL) (va_cwS 2 hts gL_village_L_cell rfl rfl rfl (by decide +kernel) ⟨Nat.le_of_ble_eq_true rfl, Nat.le_of_ble_eq_true rfl⟩) ⟨PcX.blind, PcX.pre hX hbl hbA hS⟩ rfl rfl hl.1 rfl (lv_room (Nat.le_of_ble_eq_true rfl)) dL_village_34 ⟨by show 1 + i * 4 + 0 ≤ 124; omega, by show 10 + i * 24 + 0 ≤ 748; omega⟩) hS (fun q _ h => h.elim) (fun q h => h.elim) (fun H locs _ hz hk hS => ?_)
    have hW := hW.kept (fun q hq => hk q hq (fun h => h))
    have hA9 := hA9.kept (hk _ hA9.lt (fun h => h))
    refine lv_iload hx hb dL_village_37 (lv_at hl 4 rfl) ?_
    refine lv_iconst (v := nI 4) hx hb dL_village_39 (by decide) ?_
    refine lv_idiv hx hb dL_village_40 (by decide) ?_
    refine lv_topi (fun y3 ey3 => ?_)
    obtain rfl : y3 = nI (i / 4) := ey3.trans (pk_div (by omega) (by decide) (by decide))
    refine lv_bipush (v := nI 9) hx hb dL_village_41 (by decide) ?_
    refine lv_imul hx hb dL_village_43 ?_
    refine lv_topi (fun y4 ey4 => ?_)
    obtain rfl : y4 = nI ((i / 4) * 9) := ey4.trans (pk_mul (i / 4) 9)
    refine lv_ishr hx hb dL_village_44 ?_
    refine lv_topi (fun x5 ex5 => ?_)
    clear ex5
    refine lv_istore (lv' := [(5, .int x5), (0, .ref xa), (1, .ref b), (2, .int (nI h9)), (3, .ref a9), (4, .int (nI i))]) hx hb dL_village_45 hl (by decide) rfl (fun ls hl => ?_)
    refine lv_aload_n hx hb dL_village_47 rfl (lv_at hl 4 rfl) ?_
    refine lv_iload hx hb dL_village_48 (lv_at hl 5 rfl) ?_
    refine lv_iconst (v := nI 1) hx hb dL_village_50 (by decide) ?_
    refine lv_iload hx hb dL_village_51 (lv_at hl 0 rfl) ?_
    refine lv_bipush (v := nI 6) hx hb dL_village_53 (by decide) ?_
    refine lv_ishr hx hb dL_village_55 ?_
    refine lv_bipush (v := nI 9) hx hb dL_village_56 (by decide) ?_
    refine kI (va_runS (As := [.int (x5 >>> ((nI 6) &&& 31)), .int (nI 9)]) (rest := [.int (nI 1), .int (nI i), .ref a9]) ⟨hx, hb, hml, hown, hts⟩ (c_L_below l (x5 >>> ((nI 6) &&& 31)) 9 (by omega) (by omega)) (va_cwS 2 hts gL_village_L_below rfl rfl rfl (by decide +kernel) ⟨Nat.le_of_ble_eq_true rfl, Nat.le_of_ble_eq_true rfl⟩) ⟨Pc9.blind, Pc9.pre⟩ rfl rfl hl.1 rfl (lv_room (Nat.le_of_ble_eq_true rfl)) dL_village_58 ⟨by show 1 + i * 4 + 0 + 0 ≤ 124; omega, by show 10 + i * 24 + 0 + 0 ≤ 748; omega⟩) hS (fun q _ h => h.elim) (fun q h => h.elim) (fun H locs _ hz hk hS => ?_)
    have q58 := blF_lt (v := (x5 >>> ((nI 6) &&& 31))) (n := 9) (by omega)
    generalize blF (x5 >>> ((nI 6) &&& 31)) 9 = kf at q58 ⊢
    have hW := hW.kept (fun q hq => hk q hq (fun h => h))
    have hA9 := hA9.kept (hk _ hA9.lt (fun h => h))
    refine lv_iadd hx hb dL_village_61 ?_
    refine lv_topi (fun y5 ey5 => ?_)
    obtain rfl : y5 = nI (1 + kf) := ey5.trans (nI_add 1 kf)
    refine xq_iast hx hb hK hA9 hS (Or.inr (Or.inr h09)) 0 rfl (vp_in_nI (show i < 10 by omega) (by omega)) dL_village_62 (fun H locs hA9 e3 hS => ?_)
    rw [nI_clamp (show i < 2 ^ 31 by omega)] at hA9
    have hW := hW.keptO hoa e3
    refine lv_aload_n hx hb dL_village_63 rfl (lv_at hl 1 rfl) ?_
    refine lv_iload hx hb dL_village_64 (lv_at hl 0 rfl) ?_
    refine lv_bipush (v := nI 10) hx hb dL_village_66 (by decide) ?_
    refine kI (va_runS (As := [.int x5, .int (nI 10)]) (rest := [.ref xa]) ⟨hx, hb, hml, hown, hts⟩ (c_L_below l x5 10 (by omega) (by omega)) (va_cwS 2 hts gL_village_L_below rfl rfl rfl (by decide +kernel) ⟨Nat.le_of_ble_eq_true rfl, Nat.le_of_ble_eq_true rfl⟩) ⟨Pc9.blind, Pc9.pre⟩ rfl rfl hl.1 rfl (lv_room (Nat.le_of_ble_eq_true rfl)) dL_village_68 ⟨by show 1 + i * 4 + 0 + 0 + 0 ≤ 124; omega, by show 10 + i * 24 + 0 + 0 + 0 ≤ 748; omega⟩) hS (fun q _ h => h.elim) (fun q h => h.elim) (fun H locs _ hz hk hS => ?_)
    have q68 := blF_lt (v := x5) (n := 10) (by omega)
    generalize blF x5 10 = kx at q68 ⊢
    have hW := hW.kept (fun q hq => hk q hq (fun h => h))
    have hA9 := hA9.kept (hk _ hA9.lt (fun h => h))
    refine lv_iload hx hb dL_village_71 (lv_at hl 0 rfl) ?_
    refine lv_iconst (v := nI 4) hx hb dL_village_73 (by decide) ?_
    refine lv_ishr hx hb dL_village_74 ?_
    refine lv_bipush (v := nI 10) hx hb dL_village_75 (by decide) ?_
    refine kI (va_runS (As := [.int (x5 >>> ((nI 4) &&& 31)), .int (nI 10)]) (rest := [.int (nI kx), .ref xa]) ⟨hx, hb, hml, hown, hts⟩ (c_L_below l (x5 >>> ((nI 4) &&& 31)) 10 (by omega) (by omega)) (va_cwS 2 hts gL_village_L_below rfl rfl rfl (by decide +kernel) ⟨Nat.le_of_ble_eq_true rfl, Nat.le_of_ble_eq_true rfl⟩) ⟨Pc9.blind, Pc9.pre⟩ rfl rfl hl.1 rfl (lv_room (Nat.le_of_ble_eq_true rfl)) dL_village_77 ⟨by show 1 + i * 4 + 0 + 0 + 0 + 0 ≤ 124; omega, by show 10 + i * 24 + 0 + 0 + 0 + 0 ≤ 748; omega⟩) hS (fun q _ h => h.elim) (fun q h => h.elim) (fun H locs _ hz hk hS => ?_)
    have q77 := blF_lt (v := (x5 >>> ((nI 4) &&& 31))) (n := 10) (by omega)
    generalize blF (x5 >>> ((nI 4) &&& 31)) 10 = ky at q77 ⊢
    have hW := hW.kept (fun q hq => hk q hq (fun h => h))
    have hA9 := hA9.kept (hk _ hA9.lt (fun h => h))
    refine lv_aload_n hx hb dL_village_80 rfl (lv_at hl 4 rfl) ?_
    refine lv_iload hx hb dL_village_81 (lv_at hl 5 rfl) ?_
    refine va_iald hx hb hK (va_P1 hA9) 0 0 rfl rfl (vp_in_nI (show i < 10 by omega) (by omega)) dL_village_83 ?_
    rw [nI_clamp (show i < 2 ^ 31 by omega), pk_us]
    refine kXi (vx_runV (As := [.int (nI kx), .int (nI ky), .int (nI (1 + kf))]) (rest := []) ⟨hx, hb, hml, hown, hts⟩ (c_X3_addHouse l hfl G xa ad ad2 hXI i 0 hH hP dC τ z H.size (nI kx) (nI ky) (nI (1 + kf)) hv) (cwV 3 hts gL_village_X3_addHouse rfl rfl rfl (by decide +kernel) ⟨Nat.le_of_ble_eq_true rfl, Nat.le_of_ble_eq_true rfl⟩) ⟨Pc3.blind, va_recv hK (va_P1 hW.choose_spec.1.1) (ci := 3) (q0 := 0) rfl rfl, Pc3.pre hW hK hXK hS (hsub hS.1)⟩ rfl rfl hl.1 rfl (lv_room (Nat.le_of_ble_eq_true rfl)) dL_village_84 ⟨by show 1 + i * 4 + 0 + 0 + 0 + 0 + 4 ≤ 124; omega, by show 10 + i * 24 + 0 + 0 + 0 + 0 + 24 ≤ 748; omega⟩) hS (hsub hS.1) (hsub hS.1) (hsub hS.1) (fun E ce q9 H locs hE hBX hk hS hc hv9 hcl => ?_) (fun H locs ok hW hk hS => ?_)
    · skip
      rcases hE with t | t | t | t
      · exact absurd (inn_of (lo := 0) (hi := 9) (Nat.zero_le _) (show kx ≤ 9 by omega) (by omega)) t.2
      · exact absurd (inn_of (lo := 0) (hi := 9) (Nat.zero_le _) (show ky ≤ 9 by omega) (by omega)) t.2.2
      · exact absurd (inn_of (lo := 1) (hi := 9) (show 1 ≤ 1 + kf by omega) (show 1 + kf ≤ 9 by omega) (by omega)) t.2.2.2
      · exact absurd (show i < 10 by omega) t.2.2.2.2
    · skip
      have hA9 := hA9.kept (hk _ hA9.lt (OA.no hoa hA9.lt))
      have hq := hq.addH (show i < 10 by omega) rfl (show kx ≤ 9 by omega) rfl (show ky ≤ 9 by omega) ok.2.2.1
      refine lv_pop hx hb dL_village_87 rfl ?_
      refine lv_iinc (k := 5) (v := nI (i + 1)) (lv' := [(4, .int (nI (i + 1))), (5, .int x5), (0, .ref xa), (1, .ref b), (2, .int (nI h9)), (3, .ref a9)]) hx hb dL_village_88 hl rfl (nI_add i 1) (by decide) rfl (fun ls hl => ?_)
      refine lv_goto (tgt := 21) hx hb dL_village_91 (by decide) ?_
      refine W.widen (k := 1 + (i + 1) * 4) (n := 10 + (i + 1) * 24) (by omega) (by omega) ?_
      exact ih (by omega) _ _ _ ⟨⟨_, _, _, hq, hW, hA9⟩, hS, lv_sub hl [2, 3, 4, 5, 0] rfl⟩
