/-! ===== p22: the wells, what is drawn, the thirst ===== -/
/-- what is in a well and what was drawn from it are no more than K -/
def WT (nP : Nat) (K : Nat → Nat) (τ : wS) : Prop := ∀ p, p < nP → ∃ L X, L ≤ 200 ∧ L + X ≤ K p ∧ τ 20 p = nI L ∧ τ 29 p = nI X
def TH (nH : Nat) (D : Nat → Nat) (τ : wS) : Prop := ∀ h, h < nH → ∃ k, k ≤ D h ∧ τ 8 h = nI k
section WTs
variable {nH nP h p q d n r : Nat} {σ τ : wS} {x : Int32} {K D : Nat → Nat}
theorem WT.same (hw : WT nP K σ) (h1 : ∀ p, p < nP → τ 20 p = σ 20 p) (h2 : ∀ p, p < nP → τ 29 p = σ 29 p) : WT nP K τ := fun p hp => by
  obtain ⟨L, X, a, b, c, g⟩ := hw p hp
  exact ⟨L, X, a, b, (h1 p hp).trans c, (h2 p hp).trans g⟩
theorem WT.put {f i : Nat} (hw : WT nP K σ) (h1 : f ≠ 20) (h2 : f ≠ 29) : WT nP K (wst σ f i x) := hw.same (fun p _ => wst_f (Ne.symm h1)) (fun p _ => wst_f (Ne.symm h2))
theorem WT.chg {e : Int32} (hw : WT nP K σ) : WT nP K (chgF nP h e σ) := hw.same (fun p _ => chg_f (by unfold nCh; omega)) (fun p _ => chg_f (by unfold nCh; omega))
theorem TH.same (ht : TH nH D σ) (h1 : ∀ h, h < nH → τ 8 h = σ 8 h) : TH nH D τ := fun h hh => by
  obtain ⟨k, a, b⟩ := ht h hh
  exact ⟨k, a, (h1 h hh).trans b⟩
theorem TH.mono {E : Nat → Nat} (ht : TH nH D σ) (h : ∀ h, h < nH → D h ≤ E h) : TH nH E σ := fun j hj => by
  obtain ⟨k, a, b⟩ := ht j hj
  exact ⟨k, Nat.le_trans a (h j hj), b⟩
theorem TH.put {f i : Nat} (ht : TH nH D σ) (h1 : f ≠ 8) : TH nH D (wst σ f i x) := ht.same (fun h _ => wst_f (Ne.symm h1))
theorem WT.own (hw : WT nP K σ) (hq : q < nP) (hr : r < 2 ^ 31) : ∃ o L X, o ≤ r ∧ o ≤ L ∧ ownF q (nI r) σ = nI o ∧ L ≤ 200 ∧ L + X ≤ K q ∧ σ 20 q = nI L ∧ σ 29 q = nI X := by
  obtain ⟨L, X, a, b, c, g⟩ := hw q hq
  unfold ownF
  split
  · exact ⟨0, L, X, by omega, by omega, rfl, a, b, c, g⟩
  · obtain ⟨m, h1, h2, -, em⟩ := min_nI (a := r) (b := L) hr (by omega)
    exact ⟨m, L, X, h1, h2, by rw [c]; exact em, a, b, c, g⟩
theorem WT.dr (hw : WT nP K σ) (hq : q < nP) (hr : r < 2 ^ 31) : WT nP K (drF nP h q (nI r) σ) := by
  obtain ⟨o, L, X, h1, h2, eo, h3, h4, e20, e29⟩ := hw.own hq hr
  have hd : WT nP K (dr1 q (nI o) σ) := fun p hp => by
    unfold dr1
    by_cases z : p = q
    · subst z
      refine ⟨L - o, X + o, by omega, by omega, ?_, ?_⟩
      · rw [wst_f (by decide), wst_f (by decide), wst_s, e20, pk_sub h2]
      · rw [wst_f (by decide), wst_s, e29, nI_add]
    · obtain ⟨L', X', a, b, c, g⟩ := hw p hp
      exact ⟨L', X', a, b, by rw [wst_f (by decide), wst_f (by decide), wst_i z]; exact c, by rw [wst_f (by decide), wst_i z]; exact g⟩
  unfold drF
  rw [eo]
  split
  · exact hw
  · split
    · exact hd
    · exact (((hd.put (by decide) (by decide)).put (by decide) (by decide)).put (by decide) (by decide)).chg
theorem WT.dri (hw : WT nP K σ) (hr : r < 2 ^ 31) : ∀ k, k ≤ nP → WT nP K (drI nP h k (σ, nI r)).1 ∧ ∃ s, s ≤ r ∧ (drI nP h k (σ, nI r)).2 = nI s
  | 0, _ => ⟨hw, r, Nat.le_refl r, rfl⟩
  | k + 1, hk => by
    obtain ⟨a, s, hs, e⟩ := WT.dri hw hr k (by omega)
    show WT nP K (drF nP h (fq nP h k (drI nP h k (σ, nI r)).1) (drI nP h k (σ, nI r)).2 (drI nP h k (σ, nI r)).1) ∧ ∃ s, s ≤ r ∧ (drI nP h k (σ, nI r)).2 - ownF (fq nP h k (drI nP h k (σ, nI r)).1) (drI nP h k (σ, nI r)).2 (drI nP h k (σ, nI r)).1 = nI s
    have hq : fq nP h k (drI nP h k (σ, nI r)).1 < nP := Nat.mod_lt _ (by omega)
    rw [e]
    obtain ⟨o, L, X, h1, h2, eo, -⟩ := a.own hq (show s < 2 ^ 31 by omega)
    exact ⟨a.dr hq (by omega), s - o, by omega, by rw [eo, pk_sub h1]⟩
/-- a house draws: the wells keep their bound, its thirst grows by what it still needs -/
theorem WT.drw {l9 : Nat} (hw : WT nP K σ) (ht : TH nH D σ) (hl : l9 ≤ 9) (e0 : σ 0 h = nI l9) (hP : nP ≤ 3) : WT nP K (drwF nP h σ) ∧ TH nH (fun j => if j = h then D j + 11 else D j) (drwF nP h σ) := by
  have en : ndF σ h = nI (2 + l9) := by unfold ndF; rw [e0]; exact nI_add 2 l9
  unfold drwF
  split
  · rw [en]
    obtain ⟨a, s, hs, e⟩ := hw.dri (h := h) (r := 2 + l9) (by omega) nP (Nat.le_refl _)
    have e8 : ∀ j, (drI nP h nP (σ, nI (2 + l9))).1 8 j = σ 8 j := fun j => drI_f (by unfold nCh; omega) (by omega)
    refine ⟨a.put (by decide) (by decide), fun j hj => ?_⟩
    obtain ⟨k, hk, ek⟩ := ht j hj
    by_cases z : j = h
    · subst z
      exact ⟨k + s, by dsimp only; rw [if_pos rfl]; omega, by rw [wst_s, e8, ek, e, nI_add]⟩
    · exact ⟨k, by dsimp only; rw [if_neg z]; exact hk, by rw [wst_i z, e8, ek]⟩
  · exact ⟨hw, ht.mono (fun j _ => by split <;> omega)⟩
theorem WT.drws (hw : WT nP K σ) (ht : TH nH D σ) (hl : ∀ h, h < nH → ∃ k, k ≤ 9 ∧ σ 0 h = nI k) (hP : nP ≤ 3) : ∀ n, n ≤ nH → WT nP K (itn (drwF nP) n σ) ∧ TH nH (fun j => if j < n then D j + 11 else D j) (itn (drwF nP) n σ)
  | 0, _ => ⟨hw, ht.mono (fun j _ => by rw [if_neg (by omega)]; exact Nat.le_refl _)⟩
  | n + 1, hn => by
    obtain ⟨a, b⟩ := WT.drws hw ht hl hP n (by omega)
    obtain ⟨k, hk, e⟩ := hl n (by omega)
    have e0 : itn (drwF nP) n σ 0 n = nI k := (itn_col (fun j x => drw_f (by unfold nCh; omega) (by omega) (by decide))).trans e
    obtain ⟨c, g⟩ := a.drw (h := n) b hk e0 hP
    rw [itn_s]
    refine ⟨c, g.mono (fun j _ => ?_)⟩
    by_cases z : j = n
    · rw [if_pos z, if_neg (by omega), if_pos (by omega)]
      exact Nat.le_refl _
    · rw [if_neg z]
      by_cases w : j < n
      · rw [if_pos w, if_pos (by omega)]
        exact Nat.le_refl _
      · rw [if_neg w, if_neg (by omega)]
        exact Nat.le_refl _
/-- the inflow comes -/
theorem WT.fils {I : Nat → Nat} (hw : WT nP K σ) (hi : ∀ p, p < nP → I p ≤ 50 ∧ σ 21 p = nI (I p)) : ∀ n, n ≤ nP → WT nP (fun p => if p < n then K p + I p else K p) (itn filF n σ)
  | 0, _ => fun p hp => by
    obtain ⟨L, X, a, b, c, g⟩ := hw p hp
    exact ⟨L, X, a, by dsimp only; rw [if_neg (by omega)]; exact b, c, g⟩
  | n + 1, hn => fun p hp => by
    obtain ⟨L, X, a, b, c, g⟩ := WT.fils hw hi n (by omega) p hp
    have e21 : itn filF n σ 21 n = nI (I n) := (itn_col (fun j x => fil_f (by decide))).trans (hi n (by omega)).2
    have h50 := (hi n (by omega)).1
    dsimp only at b
    rw [itn_s]
    generalize itn filF n σ = y at c g e21 ⊢
    unfold filF
    by_cases z : p = n
    · subst z
      rw [if_neg (by omega)] at b
      obtain ⟨m, h1, h2, -, em⟩ := min_nI (a := 200) (b := L + I p) (by omega) (by omega)
      exact ⟨m, X, h1, by dsimp only; rw [if_pos (by omega)]; omega, by rw [wst_s, c, e21, nI_add]; exact em, by rw [wst_f (by decide)]; exact g⟩
    · refine ⟨L, X, a, ?_, by rw [wst_i z]; exact c, by rw [wst_f (by decide)]; exact g⟩
      dsimp only
      by_cases w : p < n
      · rw [if_pos w] at b
        rw [if_pos (by omega)]
        exact b
      · rw [if_neg w] at b
        rw [if_neg (by omega)]
        exact b
/-- a day of the wells and of the thirst -/
theorem WT.day {I : Nat → Nat} (hw : WT nP K σ) (ht : TH nH D σ) (hl : ∀ h, h < nH → ∃ k, k ≤ 9 ∧ σ 0 h = nI k) (hi : ∀ p, p < nP → I p ≤ 50 ∧ σ 21 p = nI (I p)) (hP : nP ≤ 3) : WT nP (fun p => K p + I p) (dayF nH nP σ) ∧ TH nH (fun j => D j + 11) (dayF nH nP σ) := by
  have e0 : ∀ f j, nCh nP f → (f ≠ 9 ∧ f ≠ 25 ∧ f ≠ 28 ∧ f ≠ 7 ∧ f ≠ 31 ∧ f ≠ 32) → f ≠ 3 → itn (keyF nP) nP (itn layF nH σ) f j = σ f j := fun f j h1 h2 h3 => by
    rw [itn_col (fun k x => key_f h1 h2), itn_col (fun k x => lay_f h3)]
  have w1 : WT nP K (itn (keyF nP) nP (itn layF nH σ)) := hw.same (fun p _ => e0 20 p (by unfold nCh; omega) (by omega) (by decide)) (fun p _ => e0 29 p (by unfold nCh; omega) (by omega) (by decide))
  have t1 : TH nH D (itn (keyF nP) nP (itn layF nH σ)) := ht.same (fun h _ => e0 8 h (by unfold nCh; omega) (by omega) (by decide))
  obtain ⟨w2, t2⟩ := w1.drws t1 (fun h hh => by
    obtain ⟨k, hk, e⟩ := hl h hh
    exact ⟨k, hk, (e0 0 h (by unfold nCh; omega) (by omega) (by decide)).trans e⟩) hP nH (Nat.le_refl _)
  have w3 : WT nP K (itn mndF nP (itn (drwF nP) nH (itn (keyF nP) nP (itn layF nH σ)))) := w2.same (fun p _ => itn_col (fun k x => mnd_f (by omega))) (fun p _ => itn_col (fun k x => mnd_f (by omega)))
  have w4 := w3.fils (I := I) (fun p hp => ⟨(hi p hp).1, by
    rw [itn_col (fun k x => mnd_f (by omega)), itn_col (fun k x => drw_f (by unfold nCh; omega) (by omega) (by decide)), e0 21 p (by unfold nCh; omega) (by omega) (by decide)]
    exact (hi p hp).2⟩) nP (Nat.le_refl _)
  refine ⟨fun p hp => ?_, fun h hh => ?_⟩
  · obtain ⟨L, X, a, b, c, g⟩ := w4 p hp
    dsimp only at b
    rw [if_pos hp] at b
    unfold dayF
    exact ⟨L, X, a, b, by rw [end_f (by decide) (by decide), shr_f (by decide) (by decide)]; exact c, by rw [end_f (by decide) (by decide), shr_f (by decide) (by decide)]; exact g⟩
  · obtain ⟨k, a, b⟩ := t2 h hh
    dsimp only at a
    rw [if_pos hh] at a
    unfold dayF
    exact ⟨k, a, by rw [end_f (by decide) (by decide), shr_f (by decide) (by decide), itn_col (fun k x => fil_f (by decide)), itn_col (fun k x => mnd_f (by omega))]; exact b⟩
end WTs
