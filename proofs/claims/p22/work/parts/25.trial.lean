/-! ===== p22: what is foreseen comes: 'open' and 'broke today' of another village make no difference ===== -/
/-- the village, but 'open' and 'broke today' from pump k on are another's -/
def TK (k : Nat) (z σ : wS) : wS := fun f i => if (f = 31 ∨ f = 32) ∧ ¬ i < k then z f i else σ f i
section TKs
variable {nH nP h p q d n k f i : Nat} {σ z : wS} {x e : Int32}
theorem tk_r (h1 : f ≠ 31) (h2 : f ≠ 32) : TK k z σ f i = σ f i := if_neg (fun w => w.1.elim h1 h2)
theorem tk_k (h1 : i < k) : TK k z σ f i = σ f i := if_neg (fun w => w.2 h1)
theorem tk_w (hc : (f ≠ 31 ∧ f ≠ 32) ∨ i < k) : wst (TK k z σ) f i x = TK k z (wst σ f i x) := by
  funext g j
  unfold wst TK
  dsimp only
  by_cases a : g = f ∧ j = i
  · obtain ⟨rfl, rfl⟩ := a
    rw [if_pos ⟨rfl, rfl⟩, if_neg (by omega), if_pos ⟨rfl, rfl⟩]
  · rw [if_neg a, if_neg a]
theorem tk_wr (h1 : f ≠ 31) (h2 : f ≠ 32) : wst (TK k z σ) f i x = TK k z (wst σ f i x) := tk_w (Or.inl ⟨h1, h2⟩)
theorem tk_itn {F : Nat → wS → wS} : ∀ {n : Nat} {σ : wS}, (∀ j x, j < n → F j (TK k z x) = TK k z (F j x)) → itn F n (TK k z σ) = TK k z (itn F n σ)
  | 0, _, _ => rfl
  | n + 1, σ, h => by rw [itn_s, tk_itn (n := n) (fun j x hj => h j x (by omega)), h n _ (by omega), itn_s]
theorem tk_sz : sz (TK k z σ) p = sz σ p := by unfold sz; rw [tk_r (by decide) (by decide)]
theorem tk_tn : tn (TK k z σ) p = tn σ p := by unfold tn; rw [tk_r (by decide) (by decide)]
theorem tk_ro : TK k z σ (40 + p) = σ (40 + p) := funext fun j => tk_r (by omega) (by omega)
theorem tk_sh {g j : Nat} : shF p g j (TK k z σ) = TK k z (shF p g j σ) := by
  funext f i
  unfold shF TK
  dsimp only
  by_cases a : f = 40 + p ∧ g ≤ i ∧ i < j
  · rw [if_pos a, if_neg (by omega), if_neg (by omega), if_pos a]
  · rw [if_neg a, if_neg a]
theorem tk_lay : layF h (TK k z σ) = TK k z (layF h σ) := by
  unfold layF
  rw [tk_r (f := 6) (by decide) (by decide)]
  split
  · rw [tk_r (f := 3) (by decide) (by decide), tk_r (f := 1) (by decide) (by decide), tk_wr (by decide) (by decide)]
  · rfl
theorem tk_strkF {g : Nat} : strkF p g (TK k z σ) = TK k z (strkF p g σ) := by
  unfold strkF
  rw [tk_sz, tk_tn, tk_sh, tk_wr (by decide) (by decide), tk_wr (by decide) (by decide)]
theorem tk_strkH : strkH h p (TK k z σ) = TK k z (strkH h p σ) := by
  unfold strkH
  rw [tk_sz, tk_ro]
  split
  · exact tk_strkF
  · rfl
theorem tk_paid : paid h e (TK k z σ) = paid h e σ := by unfold paid; rw [tk_r (by decide) (by decide)]
theorem tk_chg1 : chg1 h e (TK k z σ) = TK k z (chg1 h e σ) := by
  unfold chg1
  rw [tk_paid, tk_r (f := 10) (by decide) (by decide), tk_r (f := 3) (by decide) (by decide), tk_r (f := 53) (by decide) (by decide), tk_wr (by decide) (by decide), tk_wr (by decide) (by decide), tk_wr (by decide) (by decide)]
theorem tk_chg : chgF nP h e (TK k z σ) = TK k z (chgF nP h e σ) := by
  unfold chgF
  rw [tk_paid, tk_r (f := 4) (by decide) (by decide), tk_chg1]
  split
  · split
    · rw [tk_wr (by decide) (by decide), tk_itn (fun j x _ => tk_strkH)]
    · rw [tk_wr (by decide) (by decide)]
  · rfl
theorem tk_hnd : hndF nP p d (TK k z σ) = (TK k z (hndF nP p d σ).1, (hndF nP p d σ).2) := by
  have o : ∀ f j, f ≠ 31 → f ≠ 32 → TK k z σ f j = σ f j := fun f j a b => tk_r a b
  unfold hndF
  simp only [o 25 _ (by decide) (by decide), o 6 _ (by decide) (by decide), o 9 _ (by decide) (by decide), o 2 _ (by decide) (by decide)]
  split
  · rfl
  · split
    · split
      · rw [tk_wr (by decide) (by decide), tk_chg]
      · rw [tk_wr (by decide) (by decide)]
    · rw [tk_chg]
theorem tk_dtyK : dtyK (TK k z σ) p = dtyK σ p := by
  have o : ∀ f j, f ≠ 31 → f ≠ 32 → TK k z σ f j = σ f j := fun f j a b => tk_r a b
  unfold dtyK
  simp only [tk_sz, tk_tn, tk_ro, o 6 _ (by decide) (by decide)]
theorem tk_dtyP : dtyP (TK k z σ) p = dtyP σ p := by unfold dtyP; rw [tk_dtyK, tk_sz, tk_tn]
theorem tk_dtyH : dtyH (TK k z σ) p = dtyH σ p := by unfold dtyH; rw [tk_dtyP, tk_ro]
theorem tk_trn : trnF p (TK k z σ) = TK k z (trnF p σ) := by
  unfold trnF
  rw [tk_dtyP, tk_sz, tk_wr (by decide) (by decide)]
theorem tk_opnY : opnY p d (TK k z σ) = TK k z (opnY p d σ) := by
  unfold opnY
  rw [tk_r (f := 28) (by decide) (by decide), tk_r (f := 7) (by decide) (by decide), tk_wr (by decide) (by decide), tk_wr (by decide) (by decide), tk_wr (by decide) (by decide)]
theorem tk_opn : opnF nP p (TK k z σ) = (TK k z (opnF nP p σ).1, (opnF nP p σ).2) := by
  unfold opnF
  rw [tk_dtyK, tk_sz, tk_dtyH, tk_trn, tk_hnd]
  split
  · split
    · rw [tk_opnY]
    · rfl
  · rfl
/-- the keys of pump p: from then on its 'open' and 'broke today' are the village's own -/
theorem tk_key : keyF nP p (TK p z σ) = TK (p + 1) z (keyF nP p σ) := by
  have h0 : wst (wst (TK p z σ) 31 p 0) 32 p 0 = TK (p + 1) z (wst (wst σ 31 p 0) 32 p 0) := by
    funext f i
    unfold TK wst
    dsimp only
    by_cases a : i = p
    · subst a
      by_cases b : f = 32 <;> by_cases c : f = 31 <;> simp [b, c]
    · have e : i < p + 1 ↔ i < p := by omega
      simp only [a, and_false, if_false, e]
  unfold keyF
  rw [h0, tk_opn]
  split
  · rw [tk_w (Or.inr (by omega))]
  · rfl
theorem tk_keys : ∀ n, itn (keyF nP) n (TK 0 z σ) = TK n z (itn (keyF nP) n σ)
  | 0 => rfl
  | n + 1 => by rw [itn_s, tk_keys n, tk_key, itn_s]
theorem tk_own (hq : q < k) : ownF q x (TK k z σ) = ownF q x σ := by
  unfold ownF
  rw [tk_k hq, tk_k hq, tk_k hq]
theorem tk_dr1 : dr1 q x (TK k z σ) = TK k z (dr1 q x σ) := by
  unfold dr1
  rw [tk_r (f := 20) (by decide) (by decide), tk_r (f := 29) (by decide) (by decide), tk_r (f := 22) (by decide) (by decide), tk_wr (by decide) (by decide), tk_wr (by decide) (by decide), tk_wr (by decide) (by decide)]
theorem tk_dr (hq : q < k) : drF nP h q x (TK k z σ) = TK k z (drF nP h q x σ) := by
  unfold drF
  rw [tk_own hq, tk_r (f := 22) (by decide) (by decide), tk_dr1]
  split
  · rfl
  · split
    · rfl
    · rw [tk_wr (f := 23) (by decide) (by decide), tk_w (f := 32) (Or.inr hq), tk_wr (f := 24) (by decide) (by decide), tk_chg]
theorem tk_drI (hn : 0 < nP) : ∀ j, drI nP h j (TK nP z σ, x) = (TK nP z (drI nP h j (σ, x)).1, (drI nP h j (σ, x)).2)
  | 0 => rfl
  | j + 1 => by
    have ih := tk_drI hn j
    have ef : fq nP h j (TK nP z (drI nP h j (σ, x)).1) = fq nP h j (drI nP h j (σ, x)).1 := by unfold fq; rw [tk_r (by decide) (by decide)]
    have hq : fq nP h j (drI nP h j (σ, x)).1 < nP := Nat.mod_lt _ hn
    show (drF nP h (fq nP h j (drI nP h j (TK nP z σ, x)).1) (drI nP h j (TK nP z σ, x)).2 (drI nP h j (TK nP z σ, x)).1, (drI nP h j (TK nP z σ, x)).2 - ownF (fq nP h j (drI nP h j (TK nP z σ, x)).1) (drI nP h j (TK nP z σ, x)).2 (drI nP h j (TK nP z σ, x)).1) = (TK nP z (drF nP h (fq nP h j (drI nP h j (σ, x)).1) (drI nP h j (σ, x)).2 (drI nP h j (σ, x)).1), (drI nP h j (σ, x)).2 - ownF (fq nP h j (drI nP h j (σ, x)).1) (drI nP h j (σ, x)).2 (drI nP h j (σ, x)).1)
    rw [ih]
    dsimp only
    rw [ef, tk_dr hq, tk_own hq]
theorem tk_drw : drwF nP h (TK nP z σ) = TK nP z (drwF nP h σ) := by
  have en : ndF (TK nP z σ) h = ndF σ h := by unfold ndF; rw [tk_r (by decide) (by decide)]
  have ei : drI nP h nP (TK nP z σ, ndF σ h) = (TK nP z (drI nP h nP (σ, ndF σ h)).1, (drI nP h nP (σ, ndF σ h)).2) := by
    rcases Nat.eq_zero_or_pos nP with w | w
    · subst w; rfl
    · exact tk_drI w nP
  unfold drwF
  rw [tk_r (f := 6) (by decide) (by decide), en, ei]
  split
  · dsimp only
    rw [tk_r (f := 8) (by decide) (by decide), tk_wr (by decide) (by decide)]
  · rfl
theorem tk_w1 : w1F p (TK k z σ) = TK k z (w1F p σ) := by
  unfold w1F
  rw [tk_r (f := 24) (by decide) (by decide)]
  split
  · rw [tk_wr (by decide) (by decide)]
  · rfl
theorem tk_mnd (hp : p < k) : mndF p (TK k z σ) = TK k z (mndF p σ) := by
  unfold mndF wrkF
  rw [tk_k hp, tk_k hp, tk_w1, tk_r (f := 24) (by decide) (by decide), tk_r (f := 53) (by decide) (by decide), tk_r (f := 30) (by decide) (by decide)]
  split
  · rfl
  · split
    · rw [tk_wr (f := 53) (by decide) (by decide), tk_wr (f := 23) (by decide) (by decide), tk_wr (f := 22) (by decide) (by decide), tk_wr (f := 30) (by decide) (by decide)]
    · rfl
theorem tk_fil : filF p (TK k z σ) = TK k z (filF p σ) := by
  unfold filF
  rw [tk_r (f := 20) (by decide) (by decide), tk_r (f := 21) (by decide) (by decide), tk_wr (by decide) (by decide)]
theorem tk_shrH : shrH e h (TK k z σ) = TK k z (shrH e h σ) := by
  unfold shrH
  rw [tk_r (f := 4) (by decide) (by decide), tk_r (f := 3) (by decide) (by decide)]
  split
  · rw [tk_wr (by decide) (by decide)]
  · rfl
theorem tk_unm : unm (TK k z σ) n = unm σ n := by
  unfold unm
  exact sm_congr (fun j _ => by rw [tk_r (by decide) (by decide)])
theorem tk_shr : shrF nH (TK k z σ) = TK k z (shrF nH σ) := by
  have e1 : eachF nH (TK k z σ) = eachF nH σ := by unfold eachF; rw [tk_unm, tk_r (by decide) (by decide)]
  unfold shrF
  rw [tk_unm, e1, tk_r (f := 50) (by decide) (by decide), tk_r (f := 53) (by decide) (by decide)]
  split
  · rfl
  · rw [tk_itn (fun j x _ => tk_shrH), tk_wr (by decide) (by decide)]
theorem tk_bck : bckF h (TK k z σ) = TK k z (bckF h σ) := by
  unfold bckF
  rw [tk_r (f := 6) (by decide) (by decide)]
  split
  · rfl
  · rw [tk_wr (by decide) (by decide)]
theorem tk_end : endF nH (TK k z σ) = TK k z (endF nH σ) := by
  unfold endF
  rw [tk_itn (fun j x _ => tk_bck), tk_r (f := 50) (by decide) (by decide), tk_wr (by decide) (by decide)]
theorem tk_day : dayF nH nP (TK 0 z σ) = TK nP z (dayF nH nP σ) := by
  unfold dayF
  rw [tk_itn (fun j x _ => tk_lay), tk_keys, tk_itn (fun j x _ => tk_drw), tk_itn (fun j x hj => tk_mnd hj), tk_itn (fun j x _ => tk_fil), tk_shr, tk_end]
theorem tk_0 : TK k z σ = TK 0 (TK k z σ) σ := by
  funext f i
  unfold TK
  by_cases a : f = 31 ∨ f = 32
  · rw [if_pos (show (f = 31 ∨ f = 32) ∧ ¬ i < 0 from ⟨a, by omega⟩)]
  · rw [if_neg (fun w => a w.1), if_neg (fun w => a w.1)]
theorem tk_tkF : tkF σ z = TK 0 z σ := by
  funext f i
  unfold tkF TK
  by_cases a : f = 31 ∨ f = 32
  · rw [if_pos a, if_pos ⟨a, by omega⟩]
  · rw [if_neg a, if_neg (fun w => a w.1)]
theorem tk_dys : ∀ n, ∃ y, dysF nH nP n (tkF σ z) = TK 0 y (dysF nH nP n σ)
  | 0 => ⟨z, tk_tkF⟩
  | n + 1 => by
    obtain ⟨y, e⟩ := tk_dys n
    refine ⟨TK nP y (dayF nH nP (dysF nH nP n σ)), ?_⟩
    show dayF nH nP (dysF nH nP n (tkF σ z)) = TK 0 _ (dayF nH nP (dysF nH nP n σ))
    rw [e, tk_day]
    exact tk_0
/-- what is foreseen -/
theorem fs_0 : fsF nH nP σ z n 0 = sm (fun h => dysF nH nP n σ 8 h) nH - sm (fun h => σ 8 h) nH := by
  obtain ⟨y, e⟩ := tk_dys (nH := nH) (nP := nP) (σ := σ) (z := z) n
  show sm (fun h => fsX nH nP σ z n 8 h) nH - _ = _
  unfold fsX
  rw [e, sm_congr (f := fun h => TK 0 y (dysF nH nP n σ) 8 h) (g := fun h => dysF nH nP n σ 8 h) (fun j _ => tk_r (by decide) (by decide))]
theorem fs_1 : fsF nH nP σ z n 1 = dysF nH nP n σ 53 0 := by
  obtain ⟨y, e⟩ := tk_dys (nH := nH) (nP := nP) (σ := σ) (z := z) n
  show fsX nH nP σ z n 53 0 = _
  unfold fsX
  rw [e, tk_r (by decide) (by decide)]
end TKs
