/-! ===== duties: how far they can have grown ===== -/
def DB (nH D : Nat) (τ : wS) : Prop := ∀ h, h < nH → ∃ k, k ≤ D ∧ τ 7 h = nI k
section D7
variable {nH nP p h d D : Nat} {σ : wS}
theorem hnd7 : (hndF nP p d σ).1 7 h = σ 7 h := by
  unfold hndF
  split
  · rfl
  · split
    · split
      · exact (chg_v (by decide) (by decide) (by decide) (by decide)).trans (wst_f (show 7 ≠ 9 by decide))
      · dsimp only
        rw [wst_f (by decide)]
    · exact chg_v (by decide) (by decide) (by decide) (by decide)
theorem opn7 : (opnF nP p σ).1 7 h = σ 7 h ∨ (opnF nP p σ).1 7 h = σ 7 h + 1 := by
  have t : trnF p σ 7 h = σ 7 h := by unfold trnF; exact wst_f (by decide)
  unfold opnF
  split
  · split
    · unfold opnY
      dsimp only
      by_cases q : h = dtyH σ p
      · subst q
        exact Or.inr (by rw [wst_s, hnd7, t])
      · exact Or.inl (by rw [wst_i q, wst_f (by decide), wst_f (by decide), hnd7, t])
    · exact Or.inl (hnd7.trans t)
  · exact Or.inl rfl
theorem key7 : keyF nP p σ 7 h = σ 7 h ∨ keyF nP p σ 7 h = σ 7 h + 1 := by
  have a := opn7 (nP := nP) (p := p) (h := h) (σ := wst (wst σ 31 p 0) 32 p 0)
  rw [wst_f (show 7 ≠ 32 by decide), wst_f (show 7 ≠ 31 by decide)] at a
  unfold keyF
  split
  · rw [wst_f (show 7 ≠ 31 by decide)]; exact a
  · exact a
theorem DB.key (hd : DB nH D σ) : DB nH (D + 1) (keyF nP p σ) := fun h hh => by
  obtain ⟨k, hk, e⟩ := hd h hh
  rcases key7 (nP := nP) (p := p) (h := h) (σ := σ) with q | q
  · exact ⟨k, by omega, q.trans e⟩
  · exact ⟨k + 1, by omega, by rw [q, e]; exact nI_add k 1⟩
theorem DB.keys : ∀ {n : Nat}, DB nH D σ → DB nH (D + n) (itn (keyF nP) n σ)
  | 0, hd => hd
  | n + 1, hd => (DB.keys (n := n) hd).key
theorem DB.same {τ : wS} (hd : DB nH D σ) (e : ∀ h, τ 7 h = σ 7 h) : DB nH D τ := fun h hh => by
  obtain ⟨k, hk, q⟩ := hd h hh
  exact ⟨k, hk, (e h).trans q⟩
end D7
