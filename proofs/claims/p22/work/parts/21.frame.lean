/-! ===== p22: which columns each step leaves ===== -/
def nCh (nP f : Nat) : Prop := (f < 40 ∨ 40 + nP ≤ f) ∧ f ≠ 3 ∧ f ≠ 4 ∧ f ≠ 10 ∧ f ≠ 26 ∧ f ≠ 27 ∧ f ≠ 53
section FR
variable {nH nP p q h d f i n : Nat} {e x : Int32} {σ : wS}
theorem strkF_f (h1 : f ≠ 26) (h2 : f ≠ 27) (h3 : f ≠ 40 + p) : strkF p q σ f i = σ f i := by
  unfold strkF
  rw [wst_f h2, wst_f h1, shF_o h3]
theorem strkH_f (h1 : f ≠ 26) (h2 : f ≠ 27) (h3 : f ≠ 40 + p) : strkH h p σ f i = σ f i := by
  unfold strkH
  split
  · exact strkF_f h1 h2 h3
  · rfl
theorem strkF_q (hq : i ≠ p) : strkF p q σ 26 i = σ 26 i := by
  unfold strkF
  rw [wst_f (by omega), wst_i hq, shF_o (by omega)]
theorem strkH_q (hq : i ≠ p) : strkH h p σ 26 i = σ 26 i := by
  unfold strkH
  split
  · exact strkF_q hq
  · rfl
theorem strks_f (hp : f < 40 ∨ 40 + nP ≤ f) (h1 : f ≠ 26) (h2 : f ≠ 27) : itn (strkH h) nP σ f i = σ f i :=
  itn_colb (fun k hk x => strkH_f h1 h2 (by omega))
theorem chg_c1 (hp : f < 40 ∨ 40 + nP ≤ f) (h4 : f ≠ 4) (h1 : f ≠ 26) (h2 : f ≠ 27) : chgF nP h e σ f i = chg1 h e σ f i := by
  unfold chgF
  split
  · split
    · rw [strks_f hp h1 h2, wst_f h4]
    · rw [wst_f h4]
  · rfl
theorem chg1_f (h3 : f ≠ 3) (h10 : f ≠ 10) (h53 : f ≠ 53) : chg1 h e σ f i = σ f i := by
  unfold chg1
  rw [wst_f h53, wst_f h3, wst_f h10]
theorem chg_f (hf : nCh nP f) : chgF nP h e σ f i = σ f i := by
  obtain ⟨a, b, c, g, j, k, l⟩ := hf
  rw [chg_c1 a c j k, chg1_f b g l]
theorem hnd_f (hf : nCh nP f) (h9 : f ≠ 9) : (hndF nP p d σ).1 f i = σ f i := by
  unfold hndF
  split
  · rfl
  · split
    · split
      · dsimp only
        rw [chg_f hf, wst_f h9]
      · dsimp only
        rw [wst_f h9]
    · dsimp only
      rw [chg_f hf]
theorem opn_f (hf : nCh nP f) (h9 : f ≠ 9) (h25 : f ≠ 25) (h28 : f ≠ 28) (h7 : f ≠ 7) : (opnF nP p σ).1 f i = σ f i := by
  have t : trnF p σ f i = σ f i := by unfold trnF; exact wst_f hf.2.2.2.2.2.1
  unfold opnF
  split
  · split
    · dsimp only
      unfold opnY
      rw [wst_f h7, wst_f h28, wst_f h25, hnd_f hf h9, t]
    · dsimp only
      rw [hnd_f hf h9, t]
  · rfl
theorem key_f (hf : nCh nP f) (h2 : f ≠ 9 ∧ f ≠ 25 ∧ f ≠ 28 ∧ f ≠ 7 ∧ f ≠ 31 ∧ f ≠ 32) : keyF nP p σ f i = σ f i := by
  obtain ⟨a, b, c, g, j, k⟩ := h2
  unfold keyF
  split
  · rw [wst_f j, opn_f hf a b c g, wst_f k, wst_f j]
  · rw [opn_f hf a b c g, wst_f k, wst_f j]
theorem dr1_f (h1 : f ≠ 20) (h2 : f ≠ 29) (h3 : f ≠ 22) : dr1 q x σ f i = σ f i := by
  unfold dr1
  rw [wst_f h3, wst_f h2, wst_f h1]
theorem dr_f (hf : nCh nP f) (h2 : f ≠ 20 ∧ f ≠ 29 ∧ f ≠ 22 ∧ f ≠ 23 ∧ f ≠ 32 ∧ f ≠ 24) : drF nP h q x σ f i = σ f i := by
  obtain ⟨a, b, c, g, j, k⟩ := h2
  unfold drF
  split
  · rfl
  · split
    · exact dr1_f a b c
    · rw [chg_f hf, wst_f k, wst_f j, wst_f g, dr1_f a b c]
theorem drI_f (hf : nCh nP f) (h2 : f ≠ 20 ∧ f ≠ 29 ∧ f ≠ 22 ∧ f ≠ 23 ∧ f ≠ 32 ∧ f ≠ 24) : ∀ {k}, (drI nP h k (σ, x)).1 f i = σ f i
  | 0 => rfl
  | k + 1 => (dr_f hf h2).trans (drI_f hf h2 (k := k))
theorem drw_f (hf : nCh nP f) (h2 : f ≠ 20 ∧ f ≠ 29 ∧ f ≠ 22 ∧ f ≠ 23 ∧ f ≠ 32 ∧ f ≠ 24) (h8 : f ≠ 8) : drwF nP h σ f i = σ f i := by
  unfold drwF
  split
  · rw [wst_f h8, drI_f hf h2]
  · rfl
theorem lay_f (h3 : f ≠ 3) : layF h σ f i = σ f i := by
  unfold layF
  split
  · exact wst_f h3
  · rfl
theorem w1_f (h24 : f ≠ 24) : w1F p σ f i = σ f i := by
  unfold w1F
  split
  · exact wst_f h24
  · rfl
theorem mnd_f (h2 : f ≠ 24 ∧ f ≠ 53 ∧ f ≠ 23 ∧ f ≠ 22 ∧ f ≠ 30) : mndF p σ f i = σ f i := by
  obtain ⟨a, b, c, g, j⟩ := h2
  unfold mndF wrkF
  split
  · rfl
  · split
    · rw [wst_f j, wst_f g, wst_f c, wst_f b, w1_f a]
    · exact w1_f a
theorem fil_f (h : f ≠ 20) : filF p σ f i = σ f i := wst_f h
theorem shrH_f (h3 : f ≠ 3) : shrH e h σ f i = σ f i := by
  unfold shrH
  split
  · exact wst_f h3
  · rfl
theorem shr_f (h3 : f ≠ 3) (h53 : f ≠ 53) : shrF nH σ f i = σ f i := by
  unfold shrF
  split
  · rfl
  · rw [wst_f h53]
    exact itn_col (fun k x => shrH_f h3)
theorem bck_f (h6 : f ≠ 6) : bckF h σ f i = σ f i := by
  unfold bckF
  split
  · rfl
  · exact wst_f h6
theorem end_f (h6 : f ≠ 6) (h50 : f ≠ 50) : endF nH σ f i = σ f i := by
  unfold endF
  rw [wst_f h50]
  exact itn_col (fun k x => bck_f h6)
/-- what a whole day leaves: lodgers, hens, the inflow -/
theorem day_f (hf : nCh nP f) (h2 : f ≠ 9 ∧ f ≠ 25 ∧ f ≠ 28 ∧ f ≠ 7 ∧ f ≠ 31 ∧ f ≠ 32) (h3 : f ≠ 20 ∧ f ≠ 29 ∧ f ≠ 22 ∧ f ≠ 23 ∧ f ≠ 32 ∧ f ≠ 24) (h8 : f ≠ 8) (h30 : f ≠ 30) (h6 : f ≠ 6) (h50 : f ≠ 50) : dayF nH nP σ f i = σ f i := by
  obtain ⟨a, b, c, g, j, k, l⟩ := id hf
  unfold dayF
  rw [end_f h6 h50, shr_f b l, itn_col (fun k x => fil_f h3.1), itn_col (fun k x => mnd_f ⟨h3.2.2.2.2.2, l, h3.2.2.2.1, h3.2.2.1, h30⟩), itn_col (fun k x => drw_f hf h3 h8), itn_col (fun k x => key_f hf h2), itn_col (fun k x => lay_f b)]
theorem day_50 (hP : nP ≤ 3) : dayF nH nP σ 50 0 = σ 50 0 + 1 := by
  have hf : nCh nP 50 := by unfold nCh; omega
  have h1 : ∀ x : wS, itn bckF nH x 50 0 = x 50 0 := fun x => itn_col (fun k y => bck_f (by omega))
  have h2 : shrF nH (itn filF nP (itn mndF nP (itn (drwF nP) nH (itn (keyF nP) nP (itn layF nH σ))))) 50 0 = σ 50 0 := by
    rw [shr_f (by omega) (by omega), itn_col (fun k x => fil_f (by omega)), itn_col (fun k x => mnd_f (by omega)), itn_col (fun k x => drw_f hf (by omega) (by omega)), itn_col (fun k x => key_f hf (by omega)), itn_col (fun k x => lay_f (by omega))]
  unfold dayF endF
  rw [wst_s, h2]
end FR
