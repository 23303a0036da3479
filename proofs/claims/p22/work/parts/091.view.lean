/-! ===== a village by the numbers that count ===== -/
theorem wmx_self {nH nP : Nat} {σ : wS} : wmx nH nP σ σ = σ := by
  funext f i
  unfold wmx
  split <;> rfl
def wrel (f i : Nat) : Prop := (f ≤ 10 ∧ i < 10) ∨ (20 ≤ f ∧ f ≤ 32 ∧ i < 3) ∨ (40 ≤ f ∧ f ≤ 42 ∧ i < 10) ∨ (50 ≤ f ∧ f ≤ 53 ∧ i = 0)
theorem arr_same {cA : ClassId} {n : Nat} {f g : Nat → Int32} (h : ∀ j, j < n → f j = g j) : vp_cell cA (n, .inl f) = vp_cell cA (n, .inl g) := by
  rw [vp_cell_i, vp_cell_i]
  have e : ∀ k, (fun j => Value.int (f j)) k = (fun j => Value.int (g j)) k ∨ n ≤ k := fun k => by
    rcases Nat.lt_or_ge k n with q | q
    · exact Or.inl (by show Value.int (f k) = Value.int (g k); rw [h k q])
    · exact Or.inr q
  unfold arrV
  congr 1
  apply Array.ext
  · simp
  · intro i h1 h2
    simp only [Array.getElem_ofFn] <;> (simp at h1; simp [h i (by omega)])
theorem CV.congr {G : wG} {ad : Nat → Nat} {σ ρ : wS} {H : Heap} (hV : CV G ad σ H) (h : ∀ f i, wrel f i → ρ f i = σ f i) : CV G ad ρ H := by
  obtain ⟨a, b, c, d, e, g⟩ := hV
  refine ⟨?_, b, c, fun k hk => ?_, fun p hp => ?_, fun p hp => ?_⟩
  · have e9 : vfs (ad 1) (ad 2) ρ = vfs (ad 1) (ad 2) σ := by
      have o : ∀ f, 50 ≤ f → f ≤ 53 → ρ f 0 = σ f 0 := fun f h1 h2 => h f 0 (Or.inr (Or.inr (Or.inr ⟨h1, h2, rfl⟩)))
      simp only [vfs, o 50 (by omega) (by omega), o 51 (by omega) (by omega), o 52 (by omega) (by omega), o 53 (by omega) (by omega)]
    rw [e9]; exact a
  · have e9 : hfs ρ k = hfs σ k := by
      have o : ∀ f, f ≤ 10 → ρ f k = σ f k := fun f h1 => h f k (Or.inl ⟨h1, hk⟩)
      simp only [hfs, o 0 (by omega), o 1 (by omega), o 2 (by omega), o 3 (by omega), o 4 (by omega), o 5 (by omega), o 6 (by omega), o 7 (by omega), o 8 (by omega), o 9 (by omega), o 10 (by omega)]
    rw [e9]; exact d k hk
  · have e9 : pfs (ad (16 + p)) ρ p = pfs (ad (16 + p)) σ p := by
      have o : ∀ f, 20 ≤ f → f ≤ 32 → ρ f p = σ f p := fun f h1 h2 => h f p (Or.inr (Or.inl ⟨h1, h2, hp⟩))
      simp only [pfs, o 20 (by omega) (by omega), o 21 (by omega) (by omega), o 22 (by omega) (by omega), o 23 (by omega) (by omega), o 24 (by omega) (by omega), o 25 (by omega) (by omega), o 26 (by omega) (by omega), o 27 (by omega) (by omega), o 28 (by omega) (by omega), o 29 (by omega) (by omega), o 30 (by omega) (by omega), o 31 (by omega) (by omega), o 32 (by omega) (by omega)]
    rw [e9]; exact e p hp
  · have e9 : vp_cell G.2.1 (10, .inl (fun k => ρ (40 + p) k)) = vp_cell G.2.1 (10, .inl (fun k => σ (40 + p) k)) := arr_same (fun j hj => h _ _ (Or.inr (Or.inr (Or.inl ⟨by omega, by omega, hj⟩))))
    show H[ad (16 + p)]? = some (vp_cell _ _)
    rw [e9]
    exact g p hp
/-- what a looked-ahead day begins with: the village, its own 'open' and 'broke today' -/
def tkF (τ z : wS) : wS := fun f i => if f = 31 ∨ f = 32 then z f i else τ f i
theorem itn_cpH_hit {n f i : Nat} {τ σ : wS} (hf : f ≤ 10) : itn (fun h => cpH h τ) n σ f i = if i < n then τ f i else σ f i := by
  induction n with
  | zero => simp [itn]
  | succ n ih =>
    rw [itn_s]
    have key : ∀ x : wS, cpH n τ x f i = if i = n then τ f i else x f i := fun x => by
      unfold cpH
      by_cases q : i = n
      · subst q
        rw [if_pos rfl]
        rcases (show f = 0 ∨ f = 1 ∨ f = 2 ∨ f = 3 ∨ f = 4 ∨ f = 5 ∨ f = 6 ∨ f = 7 ∨ f = 8 ∨ f = 9 ∨ f = 10 by omega) with rfl | rfl | rfl | rfl | rfl | rfl | rfl | rfl | rfl | rfl | rfl <;> simp [wst]
      · rw [if_neg q, wst_i q, wst_i q, wst_i q, wst_i q, wst_i q, wst_i q, wst_i q, wst_i q, wst_i q, wst_i q, wst_i q]
    rw [key, ih]
    by_cases q : i = n
    · rw [if_pos q, if_pos (by omega)]
    · rw [if_neg q]
      by_cases r : i < n
      · rw [if_pos r, if_pos (by omega)]
      · rw [if_neg r, if_neg (by omega)]
theorem itn_cpP_hit {n f i : Nat} {τ σ : wS} (hf : 20 ≤ f) (hg : f ≤ 30) : itn (fun p => cpP p τ) n σ f i = if i < n then τ f i else σ f i := by
  induction n with
  | zero => simp [itn]
  | succ n ih =>
    rw [itn_s]
    have key : ∀ x : wS, cpP n τ x f i = if i = n then τ f i else x f i := fun x => by
      have ro : ∀ y : wS, rosC n τ y f i = y f i := fun y => by unfold rosC; rw [if_neg (by omega)]
      unfold cpP
      by_cases q : i = n
      · subst q
        rw [if_pos rfl]
        rcases (show f = 20 ∨ f = 21 ∨ f = 22 ∨ f = 23 ∨ f = 24 ∨ f = 25 ∨ f = 26 ∨ f = 27 ∨ f = 28 ∨ f = 29 ∨ f = 30 by omega) with rfl | rfl | rfl | rfl | rfl | rfl | rfl | rfl | rfl | rfl | rfl <;> simp [wst, ro]
      · rw [if_neg q, wst_i q, wst_i q, wst_i q, wst_i q, wst_i q, ro, wst_i q, wst_i q, wst_i q, wst_i q, wst_i q, wst_i q]
    rw [key, ih]
    by_cases q : i = n
    · rw [if_pos q, if_pos (by omega)]
    · rw [if_neg q]
      by_cases r : i < n
      · rw [if_pos r, if_pos (by omega)]
      · rw [if_neg r, if_neg (by omega)]
theorem itn_cpP_ros {n p i : Nat} {τ σ : wS} (hn : n ≤ 3) (hi : i < 10) : itn (fun p => cpP p τ) n σ (40 + p) i = if p < n then τ (40 + p) i else σ (40 + p) i := by
  induction n with
  | zero => simp [itn]
  | succ n ih =>
    rw [itn_s]
    have key : ∀ x : wS, cpP n τ x (40 + p) i = if p = n then τ (40 + p) i else x (40 + p) i := fun x => by
      unfold cpP
      rw [wst_f (by omega), wst_f (by omega), wst_f (by omega), wst_f (by omega), wst_f (by omega)]
      unfold rosC
      by_cases q : p = n
      · rw [if_pos q, if_pos ⟨by omega, hi⟩]
      · rw [if_neg q, if_neg (by omega), wst_f (by omega), wst_f (by omega), wst_f (by omega), wst_f (by omega), wst_f (by omega), wst_f (by omega)]
    rw [key, ih (by omega)]
    by_cases q : p = n
    · rw [if_pos q, if_pos (by omega)]
    · rw [if_neg q]
      by_cases r : p < n
      · rw [if_pos r, if_pos (by omega)]
      · rw [if_neg r, if_neg (by omega)]
def cpyF (nH nP : Nat) (τ σ : wS) : wS := itn (fun p => cpP p τ) nP (itn (fun h => cpH h τ) nH (wst (wst (wst (wst σ 51 0 (nI nH)) 52 0 (nI nP)) 53 0 (τ 53 0)) 50 0 (τ 50 0)))
/-- behind copyFrom: the village, by the numbers that count -/
theorem copy_view {G : wG} {ad : Nat → Nat} {nH nP : Nat} {σ τ z : wS} {H : Heap} (hv : Inv nH nP τ) (hz : ∀ i, i < 3 → σ 31 i = z 31 i ∧ σ 32 i = z 32 i) (h : CV G ad (wmx 10 3 σ (cpyF nH nP τ σ)) H) : CVm G ad nH nP (wmx 10 3 σ (cpyF nH nP τ σ)) (tkF τ z) H := by
  refine CV.congr h (fun f i hr => ?_)
  have hH := hv.1
  have hP := hv.2.1
  unfold wmx
  split
  · rename_i ha
    have e1 : ∀ f, f < 50 → wst (wst (wst (wst σ 51 0 (nI nH)) 52 0 (nI nP)) 53 0 (τ 53 0)) 50 0 (τ 50 0) f i = σ f i := fun f hf => by
      rw [wst_f (by omega), wst_f (by omega), wst_f (by omega), wst_f (by omega)]
    rcases hr with ⟨h1, h2⟩ | ⟨h1, h2, h3⟩ | ⟨h1, h2, h3⟩ | ⟨h1, h2, rfl⟩
    · have hi : i < nH := by
        unfold wact at ha
        rw [if_pos h1] at ha
        simpa using ha
      rw [if_pos (wact_h h1 h2)]
      unfold tkF cpyF
      rw [if_neg (by omega), itn_colb (fun k hk x => cpP_v (by omega) (by omega)), itn_cpH_hit h1, if_pos hi]
    · by_cases q : f ≤ 30
      · have hi : i < nP := by
          unfold wact at ha
          rw [if_neg (by omega), if_pos q] at ha
          simpa using ha
        rw [if_pos (wact_p (by omega) q h3)]
        unfold tkF cpyF
        rw [if_neg (by omega), itn_cpP_hit h1 q, if_pos hi]
      · rw [if_pos (wact_pp (by omega) h2 h3)]
        unfold tkF cpyF
        rw [if_pos (by omega), itn_colb (fun k hk x => cpP_v (by omega) (by omega)), itn_col (fun k x => cpH_v (by omega)), e1 f (by omega)]
        rcases (show f = 31 ∨ f = 32 by omega) with rfl | rfl
        · exact (hz i h3).1.symm
        · exact (hz i h3).2.symm
    · have hp : f - 40 < nP := by
        unfold wact at ha
        rw [if_neg (by omega), if_neg (by omega), if_pos h2] at ha
        have := of_decide_eq_true ha
        omega
      have ef : f = 40 + (f - 40) := by omega
      rw [ef, if_pos (wact_r (by omega) (by omega))]
      unfold tkF cpyF
      rw [if_neg (by omega), itn_cpP_ros hP h3, if_pos hp]
    · rw [if_pos (wact_v (by omega))]
      unfold tkF cpyF
      rw [if_neg (by omega), itn_colb (fun k hk x => cpP_v (by omega) (by omega)), itn_col (fun k x => cpH_v (by omega))]
      rcases (show f = 50 ∨ f = 51 ∨ f = 52 ∨ f = 53 by omega) with rfl | rfl | rfl | rfl
      · rw [wst_s]
      · rw [wst_f (by omega), wst_f (by omega), wst_f (by omega), wst_s]; exact hv.2.2.1
      · rw [wst_f (by omega), wst_f (by omega), wst_s]; exact hv.2.2.2.1
      · rw [wst_f (by omega), wst_s]
  · rfl
theorem Inv.tk {nH nP : Nat} {τ z : wS} (hv : Inv nH nP τ) : Inv nH nP (tkF τ z) := by
  have o : ∀ f i, f ≠ 31 → f ≠ 32 → tkF τ z f i = τ f i := fun f i h1 h2 => by unfold tkF; rw [if_neg (by omega)]
  obtain ⟨a, b, c, d, e, g⟩ := hv
  exact ⟨a, b, by rw [o _ _ (by omega) (by omega)]; exact c, by rw [o _ _ (by omega) (by omega)]; exact d, fun k hk => (e k hk).congr (o _ _ (by omega) (by omega)) (o _ _ (by omega) (by omega)) (o _ _ (by omega) (by omega)) (o _ _ (by omega) (by omega)),
    fun p hp => (g p hp).congr (fun k h1 h2 => o _ _ (by omega) (by omega)) (funext fun k => o _ _ (by omega) (by omega))⟩
