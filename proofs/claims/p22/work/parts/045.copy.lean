/-! ===== System.arraycopy between two rows of ints, and two villages side by side ===== -/
section XCP
variable {p : Program} {l : Launch} {e : Env} {R : Room} {s : State} {m : MethodId} {args : Array Value} {below : List Frame} {meth : Method} {c : Code} {H : Heap} {locs : List Loc} {cells slots : Nat} {Q : State → Prop}
variable {cc : ByteArray} {pc : Nat} {ls : Array Slot} {rest : List Value} {D : va_G} {cl : List vw_C} {A : Nat → Prop} {a : Nat} {tys : List (ClassId × FieldType)} {H0 : Heap}
theorem i32_cl {z : Int32} (hz : ¬ z < 0) : z.toInt = (z.toNatClampNeg : Int) := by
  have hz0 : (0 : Int) ≤ z.toInt := by
    have := Int32.not_lt.mp hz
    simpa using Int32.le_iff_toInt_le.mp this
  show z.toInt = ((z.toInt.toNat : Nat) : Int)
  omega
theorem xq_copyi (hexec : p.tables.exec = Jvm.exec) (hb : c.code = cc) (hml : c.maxLocals = ls.size) {own : String} {index : Nat} (hown : s.vm.findClass own = some m.cls) (hlink : (Cond.methodLink own index arraycopyName).before args s = true) (hnat : (Cond.native arraycopyName).before args s = true) (hstat : (Cond.static arraycopyName).before args s = true) (hini : (Cond.initialized "java/lang/System").before args s = true)
    (hK : va_K D cl tys s) {a0 : Nat} {c0 c1 : ClassId} {n0 n1 : Nat} {f g : Nat → Int32} (hq0 : va_at D cl (a0, .inl (c0, n0, .inl f)) H) (hq1 : va_at D cl (a, .inl (c1, n1, .inl g)) H) (hS : va_S A H0 H locs) (hA : A a) (t0 t1 : Nat) (ht0 : tys[t0]? = some (c0, .int)) (ht1 : tys[t1]? = some (c1, .int))
    {sp dp n : Int32} (h1 : ¬ sp < 0) (h2 : ¬ dp < 0) (h3 : ¬ n < 0) (h4 : sp.toNatClampNeg + n.toNatClampNeg ≤ n0) (h5 : dp.toNatClampNeg + n.toNatClampNeg ≤ n1)
    (hframes : 1 ≤ R.frames) (hlocals : (rest.map fun v => v.category).sum + (nativeFrameWords "java/lang/System" "arraycopy" 5 + 11) ≤ R.locals) (hdg : decode cc pc = .ok (.invokestatic index, 3))
    (kk : ∀ (H1 : Heap) (locs1 : List Loc), va_at D cl (a, .inl (c1, n1, .inl (va_cpy f g sp.toNatClampNeg dp.toNatClampNeg n.toNatClampNeg))) H1 → (∀ q : Nat, q ≠ a → H1[q]? = H[q]?) → va_S A H0 H1 locs1 → W p l e R s m args below meth c H1 locs1 cells slots Q (F0 m (pc + 3) ls rest)) : W p l e R s m args below meth c H locs cells slots Q (F0 m pc ls (.int n :: .int dp :: .ref a :: .int sp :: .ref a0 :: rest)) := by
  intro T hT X
  have hc0 : H[a0]? = some (vp_cell c0 (n0, .inl f)) := hq0
  have hc1 : H[a]? = some (vp_cell c1 (n1, .inl g)) := hq1
  obtain ⟨-, k0, hk0, cm0, hkk0⟩ := (hK.2 t0 _ ht0).1 n0 (fun j => .int (f j))
  obtain ⟨-, k1, hk1, cm1, hkk1⟩ := (hK.2 t1 _ ht1).1 n1 (fun j => .int (g j))
  obtain ⟨vm', X', step⟩ := X.arraycopy hexec hown hlink hnat hstat hini (src := a0) (dst := a) (cs := vp_cell c0 (n0, .inl f)) (cd := vp_cell c1 (n1, .inl g)) (srcPos := sp) (destPos := dp) (n := n) (by rw [hT]; exact hc0) (by rw [hT]; exact hc1)
    (fun _ h => by cases h) (fun _ h => by cases h) (fun h => by cases h) (fun h => by cases h) hk0 hk1 hkk0 hkk1 (by simp [refKind]) h1 h2 h3
    (by rw [i32_cl h1, i32_cl h3]; show ¬ _ > ((arrV c0 n0 (fun j => .int (f j))).slots.size : Int); rw [arrV_size]; omega)
    (by rw [i32_cl h2, i32_cl h3]; show ¬ _ > ((arrV c1 n1 (fun j => .int (g j))).slots.size : Int); rw [arrV_size]; omega)
    (fun vm₁ _ i hi => by
      have e : (vp_cell c0 (n0, .inl f)).slots.getD (sp.toNatClampNeg + i) .null = .int (f (sp.toNatClampNeg + i)) := by
        show (arrV c0 n0 (fun j => .int (f j))).slots.getD _ _ = _
        rw [Array.getD_eq_getD_getElem?, arrV_read _ _ (by omega)]
        rfl
      rw [e]
      exact ⟨rfl, trivial⟩)
    (g := F0 m pc ls (.int n :: .int dp :: .ref a :: .int sp :: .ref a0 :: rest)) rfl (by rw [hml]) (rest := rest) rfl (by rw [hb]; exact hdg) hframes (by show 2 * 0 + _ + _ ≤ _; omega)
  have e1 : copied (vp_cell c0 (n0, .inl f)) (vp_cell c1 (n1, .inl g)) sp dp n = vp_cell c1 (n1, .inl (va_cpy f g sp.toNatClampNeg dp.toNatClampNeg n.toNatClampNeg)) := va_copied (fun z => .int z) c0 c1 f g h4
  rw [e1] at X' step
  have hl : a < H.size := (Array.getElem?_eq_some_iff.mp hc1).1
  have oq : ∀ q : Nat, q ≠ a → (H.setIfInBounds a (vp_cell c1 (n1, .inl (va_cpy f g sp.toNatClampNeg dp.toNatClampNeg n.toNatClampNeg))))[q]? = H[q]? := fun q hq => by simp [Array.getElem?_setIfInBounds, Ne.symm hq]
  obtain ⟨t, a1, b1⟩ := kk _ _ (show (H.setIfInBounds a _)[a]? = some _ by simp [Array.getElem?_setIfInBounds, hl]) oq ⟨by simp; exact hS.1, fun q g1 g2 => by
      rw [oq q (fun e => g2 (by rw [e]; exact hA))]
      exact hS.2.1 q g1 g2, fun q hq => by
      rcases List.mem_append.mp hq with h | h
      · exact hS.2.2 q h
      · obtain ⟨z, -, hz⟩ := List.mem_map.mp h
        rw [← hz]
        exact hA⟩ _ (by rw [← hT]; rfl) X'
  exact ⟨t, step t a1, b1⟩
end XCP
theorem CV.lt {G : wG} {ad : Nat → Nat} {σ : wS} {H : Heap} (h : CV G ad σ H) {k : Nat} (hk : k < 19) : ad k < H.size := by
  obtain ⟨a, b, c, d, e, f⟩ := h
  rcases (show k = 0 ∨ k = 1 ∨ k = 2 ∨ (3 ≤ k ∧ k < 13) ∨ (13 ≤ k ∧ k < 16) ∨ (16 ≤ k) by omega) with rfl | rfl | rfl | q | q | q
  · exact a.lt
  · exact b.lt
  · exact c.lt
  · have := (d (k - 3) (by omega)).lt
    rwa [show 3 + (k - 3) = k by omega] at this
  · have := (e (k - 13) (by omega)).lt
    rwa [show 13 + (k - 13) = k by omega] at this
  · have := (f (k - 16) (by omega)).lt
    rwa [show 16 + (k - 16) = k by omega] at this
def adApart (ad ad2 : Nat → Nat) (n n2 : Nat) : Prop := ∀ i j, i < n → j < n2 → ad i ≠ ad2 j
/-- the other village stays -/
theorem CV.other {G : wG} {ad ad2 : Nat → Nat} {σ : wS} {H0 H : Heap} {locs : List Loc} (h : CV G ad2 σ H0) (hd : adApart ad ad2 19 19) (hS : va_S (AV ad 19) H0 H locs) : CV G ad2 σ H :=
  h.kept (fun k hk => hS.2.1 _ (h.lt hk) (fun ⟨j, hj, e⟩ => hd j k hj hk e.symm))
/-- a copied house, a copied pump -/
def cpH (h : Nat) (τ σ : wS) : wS := wst (wst (wst (wst (wst (wst (wst (wst (wst (wst (wst σ 0 h (τ 0 h)) 1 h (τ 1 h)) 2 h (τ 2 h)) 3 h (τ 3 h)) 4 h (τ 4 h)) 6 h (τ 6 h)) 5 h (τ 5 h)) 7 h (τ 7 h)) 8 h (τ 8 h)) 9 h (τ 9 h)) 10 h (τ 10 h)
def rosC (p : Nat) (τ σ : wS) : wS := fun f i => if f = 40 + p ∧ i < 10 then τ f i else σ f i
def cpP (p : Nat) (τ σ : wS) : wS :=
  wst (wst (wst (wst (wst (rosC p τ (wst (wst (wst (wst (wst (wst σ 20 p (τ 20 p)) 21 p (τ 21 p)) 22 p (τ 22 p)) 23 p (τ 23 p)) 24 p (τ 24 p)) 25 p (τ 25 p))) 26 p (τ 26 p)) 27 p (τ 27 p)) 28 p (τ 28 p)) 29 p (τ 29 p)) 30 p (τ 30 p)
/-- the rows of a roster come over -/
theorem rosC_arr {cI : ClassId} {p : Nat} {τ σ : wS} : (.inl (cI, 10, .inl (va_cpy (fun k => τ (40 + p) k) (fun k => σ (40 + p) k) 0 0 10)) : va_E) = rArr cI (rosC p τ σ) p := by
  have e : va_cpy (fun k => τ (40 + p) k) (fun k => σ (40 + p) k) 0 0 10 = fun k => rosC p τ σ (40 + p) k := by
    funext k
    unfold rosC
    by_cases q : k < 10
    · rw [pk_cpy_in (Nat.zero_le _) (by omega), if_pos ⟨rfl, q⟩, Nat.sub_zero, Nat.zero_add]
    · rw [pk_cpy_out (by omega), if_neg (fun z => q z.2)]
  rw [e]
theorem CV.setRC {G : wG} {ad : Nat → Nat} {τ σ : wS} {H H1 : Heap} {p : Nat} (hI : adInj ad 19) (hV : CV G ad σ H) (hp : p < 3)
    (e1 : va_at G.1 vwCl (ad (16 + p), rArr G.2.1 (rosC p τ σ) p) H1) (e3 : ∀ q : Nat, q ≠ ad (16 + p) → H1[q]? = H[q]?) : CV G ad (rosC p τ σ) H1 := by
  obtain ⟨a, b, c, d, e, f⟩ := hV
  have o : ∀ g i, g ≠ 40 + p → rosC p τ σ g i = σ g i := fun g i hg => by unfold rosC; rw [if_neg (fun z => hg z.1)]
  refine ⟨?_, b.kept (e3 _ (adNe hI (by omega) (by omega) (by omega))), c.kept (e3 _ (adNe hI (by omega) (by omega) (by omega))), fun h hh => ?_, fun p' hp' => ?_, fun p' hp' => ?_⟩
  · have e9 : vfs (ad 1) (ad 2) (rosC p τ σ) = vfs (ad 1) (ad 2) σ := by simp only [vfs, o 50 _ (by omega), o 51 _ (by omega), o 52 _ (by omega), o 53 _ (by omega)]
    rw [e9]
    exact a.kept (e3 _ (adNe hI (by omega) (by omega) (by omega)))
  · have e9 : hfs (rosC p τ σ) h = hfs σ h := by simp only [hfs, o 0 _ (by omega), o 1 _ (by omega), o 2 _ (by omega), o 3 _ (by omega), o 4 _ (by omega), o 5 _ (by omega), o 6 _ (by omega), o 7 _ (by omega), o 8 _ (by omega), o 9 _ (by omega), o 10 _ (by omega)]
    rw [e9]
    exact (d h hh).kept (e3 _ (adNe hI (by omega) (by omega) (by omega)))
  · have e9 : pfs (ad (16 + p')) (rosC p τ σ) p' = pfs (ad (16 + p')) σ p' := by
      simp only [pfs, o 20 _ (by omega), o 21 _ (by omega), o 22 _ (by omega), o 23 _ (by omega), o 24 _ (by omega), o 25 _ (by omega), o 26 _ (by omega), o 27 _ (by omega), o 28 _ (by omega), o 29 _ (by omega), o 30 _ (by omega), o 31 _ (by omega), o 32 _ (by omega)]
    rw [e9]
    exact (e p' hp').kept (e3 _ (adNe hI (by omega) (by omega) (by omega)))
  · by_cases q : p' = p
    · subst q
      exact e1
    · have e9 : rArr G.2.1 (rosC p τ σ) p' = rArr G.2.1 σ p' := by
        simp only [rArr, o (40 + p') _ (by omega)]
      rw [e9]
      exact (f p' hp').kept (e3 _ (adNe hI (by omega) (by omega) (by omega)))
section XRC
variable {p : Program} {l : Launch} {e : Env} {R : Room} {s : State} {m : MethodId} {args : Array Value} {below : List Frame} {meth : Method} {c : Code} {H : Heap} {locs : List Loc} {cells slots : Nat} {Q : State → Prop}
variable {cc : ByteArray} {pc : Nat} {ls : Array Slot} {rest : List Value} {H0 : Heap} {G : wG} {ad ad2 : Nat → Nat} {nH nP : Nat} {δ τ δ2 τ2 : wS} {own : String} {index : Nat}
/-- the copy of a roster, out of the other village -/
theorem wRC (hexec : p.tables.exec = Jvm.exec) (hb : c.code = cc) (hml : c.maxLocals = ls.size) (hown : s.vm.findClass own = some m.cls) (hlink : (Cond.methodLink own index arraycopyName).before args s = true) (hnat : (Cond.native arraycopyName).before args s = true) (hstat : (Cond.static arraycopyName).before args s = true) (hini : (Cond.initialized "java/lang/System").before args s = true)
    (hK : wK G s) (hI : adInj ad 19) (hV : CVm G ad 10 3 δ τ H) (hV2 : CVm G ad2 nH nP δ2 τ2 H) (hS : va_S (AV ad 19) H0 H locs) {h : Nat} (hh : h < nP) (hn : nP ≤ 3)
    (hframes : 1 ≤ R.frames) (hlocals : (rest.map fun v => v.category).sum + (nativeFrameWords "java/lang/System" "arraycopy" 5 + 11) ≤ R.locals) (hdg : decode cc pc = .ok (.invokestatic index, 3))
    (kk : ∀ (H1 : Heap) (locs1 : List Loc), CVm G ad 10 3 δ (rosC h τ2 τ) H1 → va_S (AV ad 19) H0 H1 locs1 → W p l e R s m args below meth c H1 locs1 cells slots Q (F0 m (pc + 3) ls rest)) : W p l e R s m args below meth c H locs cells slots Q (F0 m pc ls (.int 10 :: .int 0 :: .ref (ad (16 + h)) :: .int 0 :: .ref (ad2 (16 + h)) :: rest)) := by
  refine xq_copyi hexec hb hml hown hlink hnat hstat hini hK (hV2.2.2.2.2.2 h (by omega)) (hV.2.2.2.2.2 h (by omega)) hS ⟨16 + h, by omega, rfl⟩ 0 0 rfl rfl (by decide) (by decide) (by decide) (by decide) (by decide) hframes hlocals hdg (fun H1 locs1 e1 e3 hS1 => ?_)
  have e9 : wmx 10 3 δ (rosC h τ2 τ) = rosC h (wmx nH nP δ2 τ2) (wmx 10 3 δ τ) := by
    funext f i
    unfold rosC
    by_cases q : f = 40 + h ∧ i < 10
    · rw [if_pos q, q.1, wmx_r (wact_r hh hn), wmx_r (wact_r (by omega) (by omega)), if_pos ⟨rfl, q.2⟩]
    · rw [if_neg q]
      unfold wmx
      split
      · exact if_neg q
      · rfl
  refine kk H1 locs1 ?_ hS1
  show CV G ad (wmx 10 3 δ (rosC h τ2 τ)) H1
  rw [e9]
  refine CV.setRC hI hV (by omega) ?_ e3
  rw [← rosC_arr]
  exact e1
end XRC
theorem nar01 {x : Int32} (h : x = 0 ∨ x = 1) : narrow .boolean (.int x) = .int x := by rcases h with h | h <;> rw [h] <;> rfl
theorem fit01 {x : Int32} (h : x = 0 ∨ x = 1) : fits .boolean (.int x) = true := by rcases h with h | h <;> rw [h] <;> rfl
theorem cpH_v {h f j : Nat} {τ σ : wS} (hf : 11 ≤ f) : cpH h τ σ f j = σ f j := by
  unfold cpH
  rw [wst_f (by omega), wst_f (by omega), wst_f (by omega), wst_f (by omega), wst_f (by omega), wst_f (by omega), wst_f (by omega), wst_f (by omega), wst_f (by omega), wst_f (by omega), wst_f (by omega)]
theorem cpP_v {p f j : Nat} {τ σ : wS} (hf : f < 20 ∨ 31 ≤ f) (h2 : f ≠ 40 + p) : cpP p τ σ f j = σ f j := by
  unfold cpP
  rw [wst_f (by omega), wst_f (by omega), wst_f (by omega), wst_f (by omega), wst_f (by omega)]
  unfold rosC
  rw [if_neg (fun q => h2 q.1), wst_f (by omega), wst_f (by omega), wst_f (by omega), wst_f (by omega), wst_f (by omega), wst_f (by omega)]
theorem itn_colb {f : Nat → wS → wS} {g j : Nat} {n : Nat} {σ : wS} (h : ∀ k, k < n → ∀ x, f k x g j = x g j) : itn f n σ g j = σ g j := by
  induction n with
  | zero => rfl
  | succ n ih => exact (h n (by omega) _).trans (ih (fun k hk => h k (by omega)))
theorem itn_cpP {i f j : Nat} {τ σ : wS} (hi : i ≤ 3) (hf : 43 ≤ f) : itn (fun p => cpP p τ) i σ f j = σ f j := itn_colb (fun k hk x => cpP_v (by omega) (by omega))
/-- the checksum goes on over n numbers -/
def mxl (f : Nat → Int32) (d : Int64) : Nat → Int64
  | 0 => d
  | n + 1 => mxl f d n * 31 + (f n).toInt64
def hftF (nP : Nat) (τ : wS) (h k : Nat) : Int32 := match k with
  | 0 => τ 0 h
  | 1 => τ 1 h
  | 2 => τ 3 h
  | 3 => τ 4 h
  | 4 => τ 6 h
  | 5 => τ 5 h
  | 6 => τ 7 h
  | 7 => τ 8 h
  | 8 => τ 9 h
  | 9 => τ 10 h
  | _ => sm (fun p => if τ 25 p = nI h then 1 else 0) nP
def totF (nH nP : Nat) (τ : wS) (k : Nat) : Int32 := match k with
  | 0 => τ 50 0
  | 1 => τ 51 0
  | 2 => τ 52 0
  | 3 => τ 53 0
  | 4 => sm (fun h => τ 3 h) nH
  | 5 => sm (fun h => if τ 6 h = 0 then 0 else 1) nH
  | 6 => sm (fun h => τ 4 h) nH
  | 7 => sm (fun h => τ 8 h) nH
  | 8 => sm (fun h => if τ 6 h = 0 then ndF τ h else 0) nH
  | _ => sm (fun h => if τ 23 h = 0 then 0 else 1) nP
