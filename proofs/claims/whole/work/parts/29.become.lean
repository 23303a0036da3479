/-! ===== a state becomes another ===== -/
theorem RV.lt {G : wG} {ad : Nat → Nat} {σ : wS} {H : Heap} (h : RV G ad σ H) {k : Nat} (hk : k < 6) : ad k < H.size := by
  obtain ⟨a, b, c, d, e, f⟩ := h
  rcases (show k = 0 ∨ k = 1 ∨ k = 2 ∨ k = 3 ∨ k = 4 ∨ k = 5 by omega) with rfl | rfl | rfl | rfl | rfl | rfl
  · exact a.lt
  · exact b.lt
  · exact c.lt
  · exact d.lt
  · exact e.lt
  · exact f.lt
theorem RV.other {G : wG} {ad ad2 : Nat → Nat} {σ : wS} {H0 H : Heap} {locs : List Loc} (h : RV G ad2 σ H0) (hdis : adApart ad ad2 6 6) (hS : va_S (AV ad 6) H0 H locs) : RV G ad2 σ H :=
  h.kept (fun k hk => hS.2.1 _ (h.lt hk) (fun ⟨j, hj, e⟩ => hdis j k hj hk e.symm))
def mixC (lo hi : Nat) (σ2 ρ : wS) : wS := fun f i => if lo ≤ f ∧ f ≤ hi then σ2 f i else ρ f i
theorem RV.congr {G : wG} {ad : Nat → Nat} {σ ρ : wS} {H : Heap} (hV : RV G ad σ H) (h : ∀ f i, wrel f i → ρ f i = σ f i) : RV G ad ρ H := by
  obtain ⟨a, b, c, d, e, g⟩ := hV
  refine ⟨?_, ?_, ?_, ?_, ?_, ?_⟩
  · have e9 : sfs ad ρ = sfs ad σ := by
      have o : ∀ f, 50 ≤ f → f ≤ 53 → ρ f 0 = σ f 0 := fun f h1 h2 => h f 0 (Or.inr (Or.inr (Or.inr ⟨h1, h2, rfl⟩)))
      simp only [sfs, o 50 (by omega) (by omega), o 51 (by omega) (by omega), o 52 (by omega) (by omega), o 53 (by omega) (by omega)]
    rw [e9]; exact a
  · have e9 : vp_cell G.2.1 (110, .inl (hA ρ)) = vp_cell G.2.1 (110, .inl (hA σ)) := arr_same (fun j hj => h _ _ (Or.inl ⟨by omega, by omega⟩))
    show H[ad 1]? = some (vp_cell _ _)
    rw [e9]; exact b
  · have e9 : vp_cell G.2.1 (33, .inl (pA ρ)) = vp_cell G.2.1 (33, .inl (pA σ)) := arr_same (fun j hj => h _ _ (Or.inr (Or.inl ⟨by omega, by omega, by omega⟩)))
    show H[ad 2]? = some (vp_cell _ _)
    rw [e9]; exact c
  · have e9 : vp_cell G.2.1 (30, .inl (rA ρ)) = vp_cell G.2.1 (30, .inl (rA σ)) := arr_same (fun j hj => by
      unfold rA
      rw [if_pos hj]
      exact h _ _ (Or.inr (Or.inr (Or.inl ⟨by omega, by omega, by omega⟩))))
    show H[ad 3]? = some (vp_cell _ _)
    rw [e9]; exact d
  · have e9 : vp_cell G.2.2.1 (3, .inl (oA ρ)) = vp_cell G.2.2.1 (3, .inl (oA σ)) := arr_same (fun j hj => h _ _ (Or.inr (Or.inl ⟨by omega, by omega, hj⟩)))
    show H[ad 4]? = some (vp_cell _ _)
    rw [e9]; exact e
  · have e9 : vp_cell G.2.2.1 (3, .inl (nA ρ)) = vp_cell G.2.2.1 (3, .inl (nA σ)) := arr_same (fun j hj => h _ _ (Or.inr (Or.inl ⟨by omega, by omega, hj⟩)))
    show H[ad 5]? = some (vp_cell _ _)
    rw [e9]; exact g
section RC
variable {G : wG} {ad : Nat → Nat} {σ2 ρ : wS} {H H1 : Heap}
theorem mixC_sfs {lo hi : Nat} (h : hi < 50) : sfs ad (mixC lo hi σ2 ρ) = sfs ad ρ := by
  have o : ∀ f, 50 ≤ f → mixC lo hi σ2 ρ f 0 = ρ f 0 := fun f hf => if_neg (by omega)
  simp only [sfs, o 50 (by omega), o 51 (by omega), o 52 (by omega), o 53 (by omega)]
theorem mixC_hA {lo hi : Nat} (h : 10 < lo) : hA (mixC lo hi σ2 ρ) = hA ρ := funext fun j => if_neg (by omega)
theorem mixC_pA {lo hi : Nat} (h : hi < 20 ∨ 30 < lo) : pA (mixC lo hi σ2 ρ) = pA ρ := funext fun j => if_neg (by omega)
theorem mixC_rA {lo hi : Nat} (h : hi < 40) : rA (mixC lo hi σ2 ρ) = rA ρ := funext fun j => if_neg (by split <;> omega)
theorem mixC_oA {lo hi : Nat} (h : hi < 31 ∨ 32 < lo) : oA (mixC lo hi σ2 ρ) = oA ρ := funext fun j => if_neg (by omega)
theorem mixC_nA {lo hi : Nat} (h : hi < 31 ∨ 32 < lo) : nA (mixC lo hi σ2 ρ) = nA ρ := funext fun j => if_neg (by omega)
theorem RV.cp1 (hI : adInj ad 6) (hV : RV G ad ρ H) (e1 : va_at G.1 vwCl (ad 1, .inl (G.2.1, 110, .inl (va_cpy (hA σ2) (hA ρ) (0 : Int32).toNatClampNeg (0 : Int32).toNatClampNeg (110 : Int32).toNatClampNeg))) H1) (e3 : ∀ q : Nat, q ≠ ad 1 → H1[q]? = H[q]?) : RV G ad (mixC 0 10 σ2 ρ) H1 := by
  obtain ⟨a, b, c, d, e, g⟩ := hV
  rw [show (0 : Int32).toNatClampNeg = 0 by decide, show (110 : Int32).toNatClampNeg = 110 by decide] at e1
  refine ⟨?_, ?_, ?_, ?_, ?_, ?_⟩
  · rw [mixC_sfs (by omega)]; exact a.kept (e3 _ (adNe hI (by omega) (by omega) (by omega)))
  · have e9 : vp_cell G.2.1 (110, .inl (hA (mixC 0 10 σ2 ρ))) = vp_cell G.2.1 (110, .inl (va_cpy (hA σ2) (hA ρ) 0 0 110)) := arr_same (fun j hj => by
      unfold va_cpy
      rw [if_pos (by omega), show 0 + (j - 0) = j by omega]
      exact if_pos (by omega))
    show H1[ad 1]? = some (vp_cell _ _)
    rw [e9]; exact e1
  · rw [mixC_pA (by omega)]; exact c.kept (e3 _ (adNe hI (by omega) (by omega) (by omega)))
  · rw [mixC_rA (by omega)]; exact d.kept (e3 _ (adNe hI (by omega) (by omega) (by omega)))
  · rw [mixC_oA (by omega)]; exact e.kept (e3 _ (adNe hI (by omega) (by omega) (by omega)))
  · rw [mixC_nA (by omega)]; exact g.kept (e3 _ (adNe hI (by omega) (by omega) (by omega)))
theorem RV.cp2 (hI : adInj ad 6) (hV : RV G ad ρ H) (e1 : va_at G.1 vwCl (ad 2, .inl (G.2.1, 33, .inl (va_cpy (pA σ2) (pA ρ) (0 : Int32).toNatClampNeg (0 : Int32).toNatClampNeg (33 : Int32).toNatClampNeg))) H1) (e3 : ∀ q : Nat, q ≠ ad 2 → H1[q]? = H[q]?) : RV G ad (mixC 20 30 σ2 ρ) H1 := by
  obtain ⟨a, b, c, d, e, g⟩ := hV
  rw [show (0 : Int32).toNatClampNeg = 0 by decide, show (33 : Int32).toNatClampNeg = 33 by decide] at e1
  refine ⟨?_, ?_, ?_, ?_, ?_, ?_⟩
  · rw [mixC_sfs (by omega)]; exact a.kept (e3 _ (adNe hI (by omega) (by omega) (by omega)))
  · rw [mixC_hA (by omega)]; exact b.kept (e3 _ (adNe hI (by omega) (by omega) (by omega)))
  · have e9 : vp_cell G.2.1 (33, .inl (pA (mixC 20 30 σ2 ρ))) = vp_cell G.2.1 (33, .inl (va_cpy (pA σ2) (pA ρ) 0 0 33)) := arr_same (fun j hj => by
      unfold va_cpy
      rw [if_pos (by omega), show 0 + (j - 0) = j by omega]
      exact if_pos (by omega))
    show H1[ad 2]? = some (vp_cell _ _)
    rw [e9]; exact e1
  · rw [mixC_rA (by omega)]; exact d.kept (e3 _ (adNe hI (by omega) (by omega) (by omega)))
  · rw [mixC_oA (by omega)]; exact e.kept (e3 _ (adNe hI (by omega) (by omega) (by omega)))
  · rw [mixC_nA (by omega)]; exact g.kept (e3 _ (adNe hI (by omega) (by omega) (by omega)))
theorem RV.cp3 (hI : adInj ad 6) (hV : RV G ad ρ H) (e1 : va_at G.1 vwCl (ad 3, .inl (G.2.1, 30, .inl (va_cpy (rA σ2) (rA ρ) (0 : Int32).toNatClampNeg (0 : Int32).toNatClampNeg (30 : Int32).toNatClampNeg))) H1) (e3 : ∀ q : Nat, q ≠ ad 3 → H1[q]? = H[q]?) : RV G ad (mixC 40 43 σ2 ρ) H1 := by
  obtain ⟨a, b, c, d, e, g⟩ := hV
  rw [show (0 : Int32).toNatClampNeg = 0 by decide, show (30 : Int32).toNatClampNeg = 30 by decide] at e1
  refine ⟨?_, ?_, ?_, ?_, ?_, ?_⟩
  · rw [mixC_sfs (by omega)]; exact a.kept (e3 _ (adNe hI (by omega) (by omega) (by omega)))
  · rw [mixC_hA (by omega)]; exact b.kept (e3 _ (adNe hI (by omega) (by omega) (by omega)))
  · rw [mixC_pA (by omega)]; exact c.kept (e3 _ (adNe hI (by omega) (by omega) (by omega)))
  · have e9 : vp_cell G.2.1 (30, .inl (rA (mixC 40 43 σ2 ρ))) = vp_cell G.2.1 (30, .inl (va_cpy (rA σ2) (rA ρ) 0 0 30)) := arr_same (fun j hj => by
      unfold va_cpy
      rw [if_pos (by omega), show 0 + (j - 0) = j by omega]
      unfold rA
      exact if_pos (by rw [if_pos hj]; omega))
    show H1[ad 3]? = some (vp_cell _ _)
    rw [e9]; exact e1
  · rw [mixC_oA (by omega)]; exact e.kept (e3 _ (adNe hI (by omega) (by omega) (by omega)))
  · rw [mixC_nA (by omega)]; exact g.kept (e3 _ (adNe hI (by omega) (by omega) (by omega)))
end RC
/-- behind become: the source, but for 'open' and 'new' -/
theorem become_view {G : wG} {ad : Nat → Nat} {nH nP : Nat} {σ δ τ : wS} {H : Heap}
    (h : RV G ad (mixC 40 43 (wmx nH nP δ τ) (mixC 20 30 (wmx nH nP δ τ) (mixC 0 10 (wmx nH nP δ τ) (wst (wst (wst (wst σ 50 0 (τ 50 0)) 51 0 (τ 51 0)) 52 0 (τ 52 0)) 53 0 (τ 53 0))))) H) : RVm G ad nH nP δ (tkF τ σ) H := by
  refine RV.congr h (fun f i hr => ?_)
  have w : ∀ f i, f ≠ 31 → f ≠ 32 → wmx nH nP δ (tkF τ σ) f i = wmx nH nP δ τ f i := fun f i h1 h2 => by
    unfold wmx tkF
    rw [if_neg (show ¬ (f = 31 ∨ f = 32) by omega)]
  have t : ∀ f i, tkF τ σ f i = if f = 31 ∨ f = 32 then σ f i else τ f i := fun _ _ => rfl
  rcases hr with ⟨h1, h2⟩ | ⟨h1, h2, h3⟩ | ⟨h1, h2, h3⟩ | ⟨h1, h2, rfl⟩
  · rw [w f i (by omega) (by omega)]
    unfold mixC
    rw [if_neg (by omega), if_neg (by omega), if_pos (by omega)]
  · by_cases q : f ≤ 30
    · rw [w f i (by omega) (by omega)]
      unfold mixC
      rw [if_neg (by omega), if_pos (by omega)]
    · unfold mixC
      rw [if_neg (by omega), if_neg (by omega), if_neg (by omega), wst_f (by omega), wst_f (by omega), wst_f (by omega), wst_f (by omega)]
      rcases (show f = 31 ∨ f = 32 by omega) with rfl | rfl
      · rw [wmx_31, t, if_pos (Or.inl rfl)]
      · rw [wmx_32, t, if_pos (Or.inr rfl)]
  · rw [w f i (by omega) (by omega)]
    unfold mixC
    rw [if_pos (by omega)]
  · rw [w f 0 (by omega) (by omega), wmx_r (wact_v (by omega))]
    unfold mixC
    rw [if_neg (by omega), if_neg (by omega), if_neg (by omega)]
    rcases (show f = 50 ∨ f = 51 ∨ f = 52 ∨ f = 53 by omega) with rfl | rfl | rfl | rfl
    · rw [wst_f (by decide), wst_f (by decide), wst_f (by decide), wst_s]
    · rw [wst_f (by decide), wst_f (by decide), wst_s]
    · rw [wst_f (by decide), wst_s]
    · rw [wst_s]
