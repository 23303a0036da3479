/-! ===== p22: duties are open days; no roster has a house with three marks ===== -/
def DU (nH nP : Nat) (τ : wS) : Prop := sm (fun p => τ 28 p) nP = sm (fun h => τ 7 h) nH
def RM (nP : Nat) (τ : wS) : Prop := ∀ p, p < nP → ∀ k, k < sz τ p → ¬ τ 4 (cl (τ (40 + p) k)) = 3
section DUs
variable {nH nP h p q d n : Nat} {σ τ : wS} {x e : Int32}
theorem DU.same (hd : DU nH nP σ) (h1 : ∀ p, p < nP → τ 28 p = σ 28 p) (h2 : ∀ h, h < nH → τ 7 h = σ 7 h) : DU nH nP τ :=
  (sm_congr (fun k hk => h1 k hk)).trans (hd.trans (sm_congr (fun k hk => (h2 k hk).symm)))
theorem DU.put {f i : Nat} (hd : DU nH nP σ) (h1 : f ≠ 28) (h2 : f ≠ 7) : DU nH nP (wst σ f i x) := hd.same (fun p _ => wst_f (Ne.symm h1)) (fun p _ => wst_f (Ne.symm h2))
theorem DU.opy (hd : DU nH nP σ) (hp : p < nP) (hh : h < nH) : DU nH nP (opnY p h σ) := by
  have a : sm (fun k => opnY p h σ 28 k) nP = sm (fun k => σ 28 k) nP + 1 := by
    rw [← sm_upd (σ := σ) (f := 28) (y := 1) hp]
    refine sm_congr (fun k _ => ?_)
    unfold opnY
    rw [wst_f (by decide)]
    unfold wst
    simp
  have b : sm (fun k => opnY p h σ 7 k) nH = sm (fun k => σ 7 k) nH + 1 := by
    rw [← sm_upd (σ := σ) (f := 7) (y := 1) hh]
    refine sm_congr (fun k _ => ?_)
    unfold opnY
    by_cases z : k = h
    · subst z; rw [wst_s, wst_s]
    · rw [wst_i z, wst_i z, wst_f (by decide), wst_f (by decide)]
  unfold DU at hd ⊢
  rw [a, b, hd]
theorem DU.hnd (hd : DU nH nP σ) : DU nH nP (hndF nP p d σ).1 := hd.same (fun q _ => hnd_f (by unfold nCh; omega) (by decide)) (fun q _ => hnd_f (by unfold nCh; omega) (by decide))
theorem DU.opn (hd : DU nH nP σ) (hv : Inv nH nP σ) (hp : p < nP) : DU nH nP (opnF nP p σ).1 := by
  unfold opnF
  split
  · rename_i h
    have h0 : DU nH nP (trnF p σ) := hd.put (by decide) (by decide)
    have h1 := h0.hnd (p := p) (d := dtyH σ p)
    split
    · exact h1.opy hp (hv.oDtyH hp h).1
    · exact h1
  · exact hd
theorem DU.key (hd : DU nH nP σ) (hv : Inv nH nP σ) (hp : p < nP) : DU nH nP (keyF nP p σ) := by
  have h1 : Inv nH nP (wst (wst σ 31 p 0) 32 p 0) := (hv.free (by omega)).free (by omega)
  have h2 := ((hd.put (f := 31) (i := p) (x := 0) (by decide) (by decide)).put (f := 32) (i := p) (x := 0) (by decide) (by decide)).opn h1 hp
  unfold keyF
  split
  · exact h2.put (by decide) (by decide)
  · exact h2
theorem DU.day (hd : DU nH nP σ) (hv : Inv nH nP σ) : DU nH nP (dayF nH nP σ) := by
  have v1 : Inv nH nP (itn layF nH σ) := itn_inv hv (fun _ _ _ hx => hx.oLay)
  have a1 : DU nH nP (itn layF nH σ) := hd.same (fun p _ => itn_col (fun k x => lay_f (by decide))) (fun p _ => itn_col (fun k x => lay_f (by decide)))
  have a2 := itn_inv (P := fun x => Inv nH nP x ∧ DU nH nP x) (f := keyF nP) (n := nP) ⟨v1, a1⟩ (fun k hk x hx => ⟨hx.1.oKeyF hk, hx.2.key hx.1 hk⟩)
  refine a2.2.same (fun p _ => ?_) (fun p _ => ?_)
  · unfold dayF
    rw [end_f (by decide) (by decide), shr_f (by decide) (by decide), itn_col (fun k x => fil_f (by decide)), itn_col (fun k x => mnd_f (by omega)), itn_col (fun k x => drw_f (by unfold nCh; omega) (by omega) (by decide))]
  · unfold dayF
    rw [end_f (by decide) (by decide), shr_f (by decide) (by decide), itn_col (fun k x => fil_f (by decide)), itn_col (fun k x => mnd_f (by omega)), itn_col (fun k x => drw_f (by unfold nCh; omega) (by omega) (by decide))]
/-! what a strike leaves on a roster -/
theorem strk_mem {g k : Nat} (hs : sz σ p ≤ 10) (hg : g < sz σ p) (hk : k < sz (strkF p g σ) p) : ∃ k', k' < sz σ p ∧ k' ≠ g ∧ strkF p g σ (40 + p) k = σ (40 + p) k' := by
  have e1 : sz (strkF p g σ) p = sz σ p - 1 := by
    show (strkF p g σ 26 p).toNatClampNeg = _
    unfold strkF
    rw [wst_f (by decide), wst_s]
    exact nI_clamp (by omega)
  have e2 : strkF p g σ (40 + p) k = shF p g (sz σ p - 1) σ (40 + p) k := by
    unfold strkF
    rw [wst_f (by omega), wst_f (by omega)]
  rw [e1] at hk
  rw [e2]
  by_cases z : g ≤ k
  · exact ⟨k + 1, by omega, by omega, shF_hi z (by omega)⟩
  · exact ⟨k, by omega, by omega, shF_lo (by omega)⟩
theorem strkH_mem {k : Nat} (hv : Inv nH nP σ) (hp : p < nP) (hk : k < sz (strkH h p σ) p) : ∃ k', k' < sz σ p ∧ strkH h p σ (40 + p) k = σ (40 + p) k' ∧ ¬ σ (40 + p) k' = nI h := by
  obtain ⟨-, -, -, -, e5, -, i1, i2⟩ := hv.2.2.2.2.2 p hp
  unfold strkH at hk ⊢
  by_cases z : plc (σ (40 + p)) (nI h) (sz σ p) < sz σ p
  · rw [if_pos z] at hk ⊢
    obtain ⟨k', a, b, c⟩ := strk_mem e5.1 z hk
    have hit := of_decide_eq_true (fnd_lt (fun k => decide (σ (40 + p) k = nI h)) (sz σ p) z).1
    refine ⟨k', a, c, fun w => ?_⟩
    have e9 : σ (40 + p) (plc (σ (40 + p)) (nI h) (sz σ p)) = σ (40 + p) k' := hit.trans w.symm
    rcases Nat.lt_or_gt_of_ne b with y | y
    · exact i2 _ _ y z e9.symm
    · exact i2 _ _ y a e9
  · rw [if_neg z] at hk ⊢
    exact ⟨k, hk, rfl, plc_all z k hk⟩
theorem strks_mem (hv : Inv nH nP σ) : ∀ n, n ≤ nP → ∀ p, p < nP → ∀ k, k < sz (itn (strkH h) n σ) p → ∃ k', k' < sz σ p ∧ itn (strkH h) n σ (40 + p) k = σ (40 + p) k' ∧ (p < n → ¬ σ (40 + p) k' = nI h)
  | 0, _, p, hp, k, hk => ⟨k, hk, rfl, fun z => absurd z (by omega)⟩
  | n + 1, hn, p, hp, k, hk => by
    have ih := strks_mem hv n (by omega) p hp
    have hvn : Inv nH nP (itn (strkH h) n σ) := itn_inv hv (fun j hj x hx => hx.oStrkH (by omega))
    rw [itn_s] at hk ⊢
    generalize itn (strkH h) n σ = y at ih hvn hk ⊢
    by_cases z : p = n
    · subst z
      obtain ⟨k1, a, b, c⟩ := strkH_mem hvn hp hk
      obtain ⟨k2, a2, b2, -⟩ := ih k1 a
      exact ⟨k2, a2, b.trans b2, fun _ => by rw [← b2]; exact c⟩
    · have e1 : sz (strkH h n y) p = sz y p := by unfold sz; rw [strkH_q z]
      have e2 : strkH h n y (40 + p) k = y (40 + p) k := strkH_f (by omega) (by omega) (by omega)
      rw [e1] at hk
      obtain ⟨k2, a2, b2, c2⟩ := ih k hk
      exact ⟨k2, a2, e2.trans b2, fun w => c2 (by omega)⟩
theorem RM.same (hr : RM nP σ) (h1 : ∀ h, τ 4 h = σ 4 h) (h2 : ∀ p, p < nP → τ 26 p = σ 26 p ∧ ∀ k, τ (40 + p) k = σ (40 + p) k) : RM nP τ := fun p hp k hk => by
  obtain ⟨a, b⟩ := h2 p hp
  unfold sz at hk
  rw [a] at hk
  rw [b k, h1]
  exact hr p hp k hk
theorem RM.put {f i : Nat} (hr : RM nP σ) (h1 : f ≠ 4) (h2 : f ≠ 26) (h3 : f < 40 ∨ 40 + nP ≤ f) : RM nP (wst σ f i x) :=
  hr.same (fun h => wst_f (Ne.symm h1)) (fun p hp => ⟨wst_f (Ne.symm h2), fun k => wst_f (by omega)⟩)
theorem RM.chg (hr : RM nP σ) (hv : Inv nH nP σ) (hh : h < nH) : RM nP (chgF nP h e σ) := by
  have hP := hv.2.1
  have hH := hv.1
  have h1 : RM nP (chg1 h e σ) := ((hr.put (by decide) (by decide) (by omega)).put (by decide) (by decide) (by omega)).put (by decide) (by decide) (by omega)
  have v1 : Inv nH nP (chg1 h e σ) := hv.oChg1
  obtain ⟨-, -, -, km, hkm, e4⟩ := hv.2.2.2.2.1 h hh
  /- a member that isn't h keeps its marks -/
  have mem : ∀ (ρ : wS) (y : Int32) (p k : Nat), Inv nH nP ρ → RM nP ρ → p < nP → k < sz ρ p → (¬ ρ (40 + p) k = nI h ∨ ¬ y = 3) → ¬ wst ρ 4 h y 4 (cl (ρ (40 + p) k)) = 3 := fun ρ y p k hρ hrρ hp hk hor => by
    obtain ⟨j, hj, ej⟩ := (hρ.2.2.2.2.2 p hp).2.2.2.2.2.2.1 k hk
    have old := hrρ p hp k hk
    have ecl : cl (ρ (40 + p) k) = j := by rw [ej]; exact nI_clamp (by omega)
    rw [ecl] at old ⊢
    by_cases z : j = h
    · subst z
      rw [wst_s]
      rcases hor with w | w
      · exact absurd ej w
      · exact w
    · rw [wst_i z]
      exact old
  unfold chgF
  split
  · rename_i q
    have hk3 : km < 3 := by
      have := q.2
      rw [e4] at this
      exact (nI_ltI (b := 3) (by omega) (by omega)).mp this
    have v2 : Inv nH nP (wst (chg1 h e σ) 4 h (σ 4 h + 1)) := by
      rw [e4, nI_1]
      exact v1.set4 (by omega)
    have es : ∀ p, sz (wst (chg1 h e σ) 4 h (σ 4 h + 1)) p = sz (chg1 h e σ) p := fun p => by unfold sz; rw [wst_f (by decide)]
    split
    · intro p hp k hk
      obtain ⟨k', a, b, c⟩ := strks_mem (h := h) v2 nP (Nat.le_refl _) p hp k hk
      have c' := c hp
      rw [es] at a
      rw [b, strks_f (by omega) (by decide) (by decide)]
      rw [wst_f (f := 4) (g := 40 + p) (by omega)] at c' ⊢
      exact mem _ _ p k' v1 h1 hp a (Or.inl c')
    · rename_i q3
      intro p hp k hk
      rw [es] at hk
      rw [wst_f (f := 4) (g := 40 + p) (by omega)]
      exact mem _ _ p k v1 h1 hp hk (Or.inr q3)
  · exact h1
theorem RM.hnd (hr : RM nP σ) (hv : Inv nH nP σ) (hp : p < nP) : RM nP (hndF nP p d σ).1 := by
  unfold hndF
  split
  · exact hr
  · rename_i q
    rcases hv.oKey hp with e | ⟨k, hk, e⟩
    · exact absurd (Or.inl e) q
    · have ek : (σ 25 p).toNatClampNeg = k := by rw [e]; exact nI_clamp (by have := hv.1; omega)
      rw [ek]
      split
      · split
        · exact (hr.put (by decide) (by decide) (by omega)).chg (hv.free (by omega)) hk
        · exact hr.put (by decide) (by decide) (by omega)
      · exact hr.chg hv hk
theorem RM.opn (hr : RM nP σ) (hv : Inv nH nP σ) (hp : p < nP) : RM nP (opnF nP p σ).1 := by
  unfold opnF
  split
  · rename_i h
    have h0 : RM nP (trnF p σ) := hr.put (by decide) (by decide) (by omega)
    have h1 := h0.hnd (hv.oTrn h) hp (d := dtyH σ p)
    split
    · exact ((h1.put (by decide) (by decide) (by omega)).put (by decide) (by decide) (by omega)).put (by decide) (by decide) (by omega)
    · exact h1
  · exact hr
theorem RM.key (hr : RM nP σ) (hv : Inv nH nP σ) (hp : p < nP) : RM nP (keyF nP p σ) := by
  have h1 : Inv nH nP (wst (wst σ 31 p 0) 32 p 0) := (hv.free (by omega)).free (by omega)
  have h2 := ((hr.put (f := 31) (i := p) (x := 0) (by decide) (by decide) (by omega)).put (f := 32) (i := p) (x := 0) (by decide) (by decide) (by omega)).opn h1 hp
  unfold keyF
  split
  · exact h2.put (by decide) (by decide) (by omega)
  · exact h2
theorem RM.dr (hr : RM nP σ) (hv : Inv nH nP σ) (hh : h < nH) : RM nP (drF nP h q x σ) := by
  have h1 : ∀ y, RM nP (dr1 q y σ) := fun y => ((hr.put (by decide) (by decide) (by omega)).put (by decide) (by decide) (by omega)).put (by decide) (by decide) (by omega)
  unfold drF
  split
  · exact hr
  · split
    · exact h1 _
    · exact ((((h1 _).put (by decide) (by decide) (by omega)).put (by decide) (by decide) (by omega)).put (by decide) (by decide) (by omega)).chg hv.oBrk hh
theorem RM.dri (hr : RM nP σ) (hv : Inv nH nP σ) (hh : h < nH) : ∀ k, RM nP (drI nP h k (σ, x)).1
  | 0 => hr
  | k + 1 => (RM.dri hr hv hh k).dr (hv.oDrI hh k) hh
theorem RM.drw (hr : RM nP σ) (hv : Inv nH nP σ) (hh : h < nH) : RM nP (drwF nP h σ) := by
  unfold drwF
  split
  · exact (hr.dri hv hh nP).put (by decide) (by decide) (by omega)
  · exact hr
theorem RM.day (hr : RM nP σ) (hv : Inv nH nP σ) : RM nP (dayF nH nP σ) := by
  have hP := hv.2.1
  have v1 : Inv nH nP (itn layF nH σ) := itn_inv hv (fun _ _ _ hx => hx.oLay)
  have a1 : RM nP (itn layF nH σ) := hr.same (fun h => itn_col (fun k x => lay_f (by decide))) (fun p hp => ⟨itn_col (fun k x => lay_f (by decide)), fun j => itn_col (fun k x => lay_f (by omega))⟩)
  have a2 := itn_inv (P := fun x => Inv nH nP x ∧ RM nP x) (f := keyF nP) (n := nP) ⟨v1, a1⟩ (fun k hk x hx => ⟨hx.1.oKeyF hk, hx.2.key hx.1 hk⟩)
  have a3 := itn_inv (P := fun x => Inv nH nP x ∧ RM nP x) (f := drwF nP) (n := nH) a2 (fun k hk x hx => ⟨hx.1.oDrw hk, hx.2.drw hx.1 hk⟩)
  refine a3.2.same (fun h => ?_) (fun p hp => ⟨?_, fun j => ?_⟩)
  · unfold dayF
    rw [end_f (by decide) (by decide), shr_f (by decide) (by decide), itn_col (fun k x => fil_f (by decide)), itn_col (fun k x => mnd_f (by omega))]
  · unfold dayF
    rw [end_f (by decide) (by decide), shr_f (by decide) (by decide), itn_col (fun k x => fil_f (by decide)), itn_col (fun k x => mnd_f (by omega))]
  · unfold dayF
    rw [end_f (by omega) (by omega), shr_f (by omega) (by omega), itn_col (fun k x => fil_f (by omega)), itn_col (fun k x => mnd_f (by omega))]
end DUs
