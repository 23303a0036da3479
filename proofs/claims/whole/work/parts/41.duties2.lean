section D7b
variable {nH nP : Nat} {D : Nat} {σ : wS}
theorem lay7 (k : Nat) (x : wS) (i : Nat) : layF k x 7 i = x 7 i := by
  unfold layF
  split
  · exact wst_f (by decide)
  · rfl
theorem drw7 (k : Nat) (x : wS) (i : Nat) : drwF nP k x 7 i = x 7 i := by
  unfold drwF
  split
  · rw [wst_f (by decide), drI_v (by decide) (by decide) (by decide) (by decide)]
  · rfl
theorem mnd7 (k : Nat) (x : wS) (i : Nat) : mndF k x 7 i = x 7 i := by
  have w : w1F k x 7 i = x 7 i := by
    unfold w1F
    split
    · exact wst_f (by decide)
    · rfl
  unfold mndF wrkF
  split
  · rfl
  · split
    · rw [wst_f (by decide), wst_f (by decide), wst_f (by decide), wst_f (by decide), w]
    · exact w
theorem fil7 (k : Nat) (x : wS) (i : Nat) : filF k x 7 i = x 7 i := wst_f (by decide)
theorem bck7 (k : Nat) (x : wS) (i : Nat) : bckF k x 7 i = x 7 i := bckF_v (by decide)
theorem shr7 {i : Nat} : shrF nH σ 7 i = σ 7 i := by
  unfold shrF
  split
  · rfl
  · rw [wst_f (by decide)]
    exact itn_col (fun k x => shrH_v (by decide))
theorem DB.its {f : Nat → wS → wS} {n : Nat} (h : ∀ k x i, f k x 7 i = x 7 i) (hd : DB nH D σ) : DB nH D (itn f n σ) := hd.same (fun i => itn_col (fun k x => h k x i))
/-- a day: one duty a pump -/
theorem DB.day (hd : DB nH D σ) : DB nH (D + nP) (dayF nH nP σ) := by
  have a : DB nH (D + nP) (itn (keyF nP) nP (itn layF nH σ)) := (hd.its lay7).keys
  have b := (((a.its (f := drwF nP) (n := nH) drw7).its (f := mndF) (n := nP) mnd7).its (f := filF) (n := nP) fil7)
  exact ((b.same (fun i => shr7 (nH := nH))).its (f := bckF) (n := nH) bck7).same (fun i => by unfold dayF endF; exact wst_f (show 7 ≠ 50 by decide))
theorem DB.dys : ∀ {n : Nat}, DB nH D σ → DB nH (D + nP * n) (dysF nH nP n σ)
  | 0, hd => hd
  | n + 1, hd => by
    have a := (DB.dys (n := n) hd).day (nP := nP)
    rw [Nat.mul_succ, ← Nat.add_assoc]
    exact a
end D7b
