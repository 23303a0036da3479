theorem i32_tel {a b c : Int32} : a - b + (c - a) = c - b := by
  rw [Int32.sub_eq_add_neg, Int32.sub_eq_add_neg, Int32.sub_eq_add_neg, Int32.add_comm a, Int32.add_comm c, Int32.add_assoc, ← Int32.add_assoc a, Int32.add_right_neg, Int32.zero_add, Int32.add_comm]
theorem bckF_eq {h k : Nat} {τ : wS} (e : τ 6 h = nI k) (hk : k < 2 ^ 31) : wst τ 6 h (nI (k - 1)) = bckF h τ := by
  unfold bckF
  rw [e]
  by_cases q : k = 0
  · subst q
    rw [if_pos (show nI 0 = 0 from rfl)]
    exact wst_self e
  · rw [if_neg (nI_ne0 (by omega) hk), show (nI k - 1 : Int32) = nI (k - 1) from pk_sub (a := k) (b := 1) (by omega)]
theorem bckF_v {h f i : Nat} {σ : wS} (hf : f ≠ 6) : bckF h σ f i = σ f i := by
  unfold bckF
  split
  · rfl
  · exact wst_f hf
theorem shr_eq {nH : Nat} {σ : wS} (h1 : σ 50 0 - σ 50 0 / 7 * 7 = 6) (h2 : ¬ σ 53 0 ≤ 20) : shr2 nH σ = shrF nH σ := by
  unfold shr2 shrF
  by_cases u : unm σ nH = 0
  · rw [if_pos u, if_pos (Or.inr (Or.inr u))]
  · rw [if_neg u, if_neg (fun q => q.elim (fun z => z h1) (fun z => z.elim h2 u))]
section D29
variable {nH nP n : Nat} {σ : wS}
theorem itn29 {f : Nat → wS → wS} (h : ∀ k x i, f k x 29 i = x 29 i) : dwn nP (itn f n σ) = dwn nP σ := sm_congr (fun k _ => itn_col (fun j x => h j x k))
theorem lay29 (k : Nat) (x : wS) (i : Nat) : layF k x 29 i = x 29 i := by
  unfold layF
  split
  · exact wst_f (by decide)
  · rfl
theorem hnd29 {p d i : Nat} : (hndF nP p d σ).1 29 i = σ 29 i := by
  unfold hndF
  split
  · rfl
  · split
    · split
      · exact (chg_29 (p := 0)).trans (wst_f (show 29 ≠ 9 by decide))
      · dsimp only
        rw [wst_f (by decide)]
    · exact chg_29 (p := 0)
theorem opn29 {p i : Nat} : (opnF nP p σ).1 29 i = σ 29 i := by
  have t : trnF p σ 29 i = σ 29 i := by unfold trnF; exact wst_f (by decide)
  unfold opnF
  split
  · split
    · unfold opnY
      dsimp only
      rw [wst_f (by decide), wst_f (by decide), wst_f (by decide), hnd29, t]
    · exact hnd29.trans t
  · rfl
theorem key29 (k : Nat) (x : wS) (i : Nat) : keyF nP k x 29 i = x 29 i := by
  unfold keyF
  split
  · rw [wst_f (by decide), opn29, wst_f (by decide), wst_f (by decide)]
  · rw [opn29, wst_f (by decide), wst_f (by decide)]
theorem mnd29 (k : Nat) (x : wS) (i : Nat) : mndF k x 29 i = x 29 i := by
  have w : w1F k x 29 i = x 29 i := by
    unfold w1F
    split
    · exact wst_f (by decide)
    · rfl
  unfold mndF wrkF
  split
  · rfl
  · split
    · rw [wst_f (by decide), wst_f (by decide), wst_f (by decide), wst_f (by decide), w]
    · exact w
theorem fil29 (k : Nat) (x : wS) (i : Nat) : filF k x 29 i = x 29 i := wst_f (by decide)
theorem bck29 (k : Nat) (x : wS) (i : Nat) : bckF k x 29 i = x 29 i := bckF_v (by decide)
theorem shr29 {i : Nat} : shrF nH σ 29 i = σ 29 i := by
  unfold shrF
  split
  · rfl
  · rw [wst_f (by decide)]
    exact itn_col (fun k x => shrH_v (by decide))
theorem dwn_day : dwn nP (itn (drwF nP) nH (itn (keyF nP) nP (itn layF nH σ))) - dwn nP (itn (keyF nP) nP (itn layF nH σ)) = dwn nP (dayF nH nP σ) - dwn nP σ := by
  have a : dwn nP (itn (keyF nP) nP (itn layF nH σ)) = dwn nP σ := by rw [itn29 key29, itn29 lay29]
  have b : dwn nP (dayF nH nP σ) = dwn nP (itn (drwF nP) nH (itn (keyF nP) nP (itn layF nH σ))) := by
    unfold dayF endF
    rw [show dwn nP (wst (itn bckF nH (shrF nH (itn filF nP (itn mndF nP (itn (drwF nP) nH (itn (keyF nP) nP (itn layF nH σ))))))) 50 0 (shrF nH (itn filF nP (itn mndF nP (itn (drwF nP) nH (itn (keyF nP) nP (itn layF nH σ))))) 50 0 + 1)) = dwn nP (itn bckF nH (shrF nH (itn filF nP (itn mndF nP (itn (drwF nP) nH (itn (keyF nP) nP (itn layF nH σ))))))) from sm_congr (fun k _ => wst_f (by decide)), itn29 bck29,
      show dwn nP (shrF nH (itn filF nP (itn mndF nP (itn (drwF nP) nH (itn (keyF nP) nP (itn layF nH σ)))))) = dwn nP (itn filF nP (itn mndF nP (itn (drwF nP) nH (itn (keyF nP) nP (itn layF nH σ))))) from sm_congr (fun k _ => shr29), itn29 fil29, itn29 mnd29]
  rw [a, b]
end D29
