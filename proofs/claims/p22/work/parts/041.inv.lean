/-! ===== what a day keeps ===== -/
theorem itn_inv {P : wS → Prop} {f : Nat → wS → wS} {n : Nat} {σ : wS} (h0 : P σ) (hs : ∀ k, k < n → ∀ x, P x → P (f k x)) : P (itn f n σ) := by
  induction n with
  | zero => exact h0
  | succ n ih => exact hs n (by omega) _ (ih (fun k hk => hs k (by omega)))
theorem wst_self {σ : wS} {f i : Nat} {x : Int32} (h : σ f i = x) : wst σ f i x = σ := by
  funext g j
  unfold wst
  by_cases q : g = f ∧ j = i
  · obtain ⟨rfl, rfl⟩ := q
    rw [if_pos ⟨rfl, rfl⟩, h]
  · rw [if_neg q]
theorem wst_wst {σ : wS} {f i : Nat} {x y : Int32} : wst (wst σ f i x) f i y = wst σ f i y := by
  funext g j
  unfold wst
  by_cases q : g = f ∧ j = i
  · rw [if_pos q, if_pos q]
  · rw [if_neg q, if_neg q, if_neg q]
theorem wst_comm {σ : wS} {f g i j : Nat} {x y : Int32} (h : f = g → i ≠ j) : wst (wst σ f i x) g j y = wst (wst σ g j y) f i x := by
  funext a b
  unfold wst
  by_cases q : a = g ∧ b = j
  · obtain ⟨rfl, rfl⟩ := q
    rw [if_pos ⟨rfl, rfl⟩, if_neg (fun q => h q.1.symm q.2.symm), if_pos ⟨rfl, rfl⟩]
  · rw [if_neg q]
    by_cases r : a = f ∧ b = i
    · rw [if_pos r, if_pos r]
    · rw [if_neg r, if_neg r, if_neg q]
theorem Inv.setH {nH nP f i : Nat} {τ : wS} {x : Int32} (hv : Inv nH nP τ) (hf : f ≤ 10) (hi : i < nH → InvH nP (wst τ f i x) i) : Inv nH nP (wst τ f i x) := by
  obtain ⟨a, b, c, d, e, g⟩ := hv
  refine ⟨a, b, by rw [wst_f (by omega)]; exact c, by rw [wst_f (by omega)]; exact d, fun k hk => ?_, fun p hp => (g p hp).congr (fun k h1 h2 => wst_f (by omega)) (funext fun k => wst_f (by omega))⟩
  by_cases q : k = i
  · subst q
    exact hi hk
  · exact (e k hk).congr (wst_i q) (wst_i q) (wst_i q) (wst_i q)
theorem Inv.atP {nH nP : Nat} {τ ρ : wS} (p : Nat) (hv : Inv nH nP τ) (h1 : ∀ f i, f ≤ 10 → ρ f i = τ f i) (h2 : ρ 51 0 = τ 51 0) (h3 : ρ 52 0 = τ 52 0)
    (h4 : ∀ q, q ≠ p → (∀ f, 22 ≤ f → f ≤ 27 → ρ f q = τ f q) ∧ ρ (40 + q) = τ (40 + q)) (h5 : p < nP → InvP nH ρ p) : Inv nH nP ρ := by
  obtain ⟨a, b, c, d, e, g⟩ := hv
  refine ⟨a, b, by rw [h2]; exact c, by rw [h3]; exact d, fun k hk => (e k hk).congr (h1 _ _ (by omega)) (h1 _ _ (by omega)) (h1 _ _ (by omega)) (h1 _ _ (by omega)), fun q hq => ?_⟩
  by_cases r : q = p
  · subst r
    exact h5 hq
  · exact (g q hq).congr (h4 q r).1 (h4 q r).2
/-- one number of pump p, of the columns 22 .. 27 -/
theorem Inv.setP {nH nP f p : Nat} {τ : wS} {x : Int32} (hv : Inv nH nP τ) (hf : 22 ≤ f) (hg : f ≤ 27) (hi : p < nP → InvP nH (wst τ f p x) p) : Inv nH nP (wst τ f p x) :=
  hv.atP p (fun _ _ _ => wst_f (by omega)) (wst_f (by omega)) (wst_f (by omega)) (fun q hq => ⟨fun k _ _ => wst_i hq, funext fun k => wst_f (by omega)⟩) hi
theorem Inv.set4 {nH nP h k : Nat} {τ : wS} (hv : Inv nH nP τ) (hk : k ≤ 3) : Inv nH nP (wst τ 4 h (nI k)) := by
  refine hv.setH (by omega) (fun hh => ?_)
  obtain ⟨a, b, c, d⟩ := hv.2.2.2.2.1 h hh
  unfold InvH
  rw [wst_f (g := 2) (by omega), wst_f (g := 5) (by omega), wst_f (g := 6) (by omega), wst_s]
  exact ⟨a, b, c, k, hk, rfl⟩
theorem Inv.set6 {nH nP h k : Nat} {τ : wS} (hv : Inv nH nP τ) (hk : k ≤ 30) : Inv nH nP (wst τ 6 h (nI k)) := by
  refine hv.setH (by omega) (fun hh => ?_)
  obtain ⟨a, b, c, d⟩ := hv.2.2.2.2.1 h hh
  unfold InvH
  rw [wst_f (g := 2) (by omega), wst_f (g := 5) (by omega), wst_f (g := 4) (by omega), wst_s]
  exact ⟨a, ⟨k, hk, rfl⟩, c, d⟩
theorem Inv.set5 {nH nP h k : Nat} {τ : wS} (hv : Inv nH nP τ) (hk : k < nP ∨ k = 0) : Inv nH nP (wst τ 5 h (nI k)) := by
  refine hv.setH (by omega) (fun hh => ?_)
  obtain ⟨a, b, c, d⟩ := hv.2.2.2.2.1 h hh
  unfold InvH
  rw [wst_f (g := 2) (by omega), wst_f (g := 6) (by omega), wst_f (g := 4) (by omega), wst_s]
  exact ⟨a, b, ⟨k, hk, rfl⟩, d⟩
theorem Inv.oLay {nH nP h : Nat} {τ : wS} (hv : Inv nH nP τ) : Inv nH nP (layF h τ) := by
  unfold layF
  split
  · exact hv.free (by omega)
  · exact hv
theorem shF_o {p g j f i : Nat} {σ : wS} (h : f ≠ 40 + p) : shF p g j σ f i = σ f i := by unfold shF; rw [if_neg (fun q => h q.1)]
theorem shF_lo {p g j i : Nat} {σ : wS} (h : ¬ (g ≤ i ∧ i < j)) : shF p g j σ (40 + p) i = σ (40 + p) i := by unfold shF; rw [if_neg (fun q => h q.2)]
theorem shF_hi {p g j i : Nat} {σ : wS} (h : g ≤ i) (h2 : i < j) : shF p g j σ (40 + p) i = σ (40 + p) (i + 1) := by unfold shF; rw [if_pos ⟨rfl, h, h2⟩]
theorem shF_0 {p g : Nat} {σ : wS} : shF p g g σ = σ := by
  funext f i
  unfold shF
  rw [if_neg (by omega)]
theorem shF_s {p g j : Nat} {σ : wS} (h : g ≤ j) : wst (shF p g j σ) (40 + p) j (σ (40 + p) (j + 1)) = shF p g (j + 1) σ := by
  funext f i
  unfold wst
  by_cases q : f = 40 + p ∧ i = j
  · obtain ⟨rfl, rfl⟩ := q
    rw [if_pos ⟨rfl, rfl⟩, shF_hi h (by omega)]
  · rw [if_neg q]
    unfold shF
    by_cases r : f = 40 + p ∧ g ≤ i ∧ i < j
    · rw [if_pos r, if_pos (by omega)]
    · rw [if_neg r, if_neg (by omega)]
theorem strkF_eq {p g n t : Nat} {τ : wS} (hs : τ 26 p = nI n) (ht : τ 27 p = nI t) (hn : n ≤ 10) (htn : t ≤ 10) : strkF p g τ = wst (wst (shF p g (n - 1) τ) 26 p (nI (n - 1))) 27 p (nI (strT g t n)) := by
  have e1 : sz τ p = n := by unfold sz; rw [hs]; exact nI_clamp (by omega)
  have e2 : tn τ p = t := by unfold tn; rw [ht]; exact nI_clamp (by omega)
  unfold strkF
  rw [e1, e2]
theorem strT_lt {g t n : Nat} (h : t < n ∨ (n = 0 ∧ t = 0)) : strT g t n < n - 1 ∨ (n - 1 = 0 ∧ strT g t n = 0) := by
  unfold strT
  (repeat' split) <;> omega
theorem Inv.oStrk {nH nP p g : Nat} {τ : wS} (hv : Inv nH nP τ) (hp3 : p < nP) (hg : g < sz τ p) : Inv nH nP (strkF p g τ) := by
  refine hv.atP p (fun f i hf => ?_) ?_ ?_ (fun q hq => ⟨fun f h1 h2 => ?_, funext fun k => ?_⟩) (fun hp => ?_)
  · unfold strkF; rw [wst_f (by omega), wst_f (by omega), shF_o (by omega)]
  · unfold strkF; rw [wst_f (by omega), wst_f (by omega), shF_o (by have := hv.2.1; omega)]
  · unfold strkF; rw [wst_f (by omega), wst_f (by omega), shF_o (by have := hv.2.1; omega)]
  · unfold strkF; rw [wst_i hq, wst_i hq, shF_o (by omega)]
  · unfold strkF; rw [wst_f (by omega), wst_f (by omega), shF_o (by omega)]
  · obtain ⟨a, b, c, d, ⟨e1, e2⟩, ⟨f1, f2⟩, i1, i2⟩ := hv.2.2.2.2.2 p hp
    have ho : ∀ f i, f ≠ 26 → f ≠ 27 → f ≠ 40 + p → strkF p g τ f i = τ f i := fun f i h1 h2 h3 => by
      unfold strkF; rw [wst_f h2, wst_f h1, shF_o h3]
    have h26 : strkF p g τ 26 p = nI (sz τ p - 1) := by unfold strkF; rw [wst_f (by omega), wst_s]
    have h27 : strkF p g τ 27 p = nI (strT g (tn τ p) (sz τ p)) := by unfold strkF; rw [wst_s]
    have hr : ∀ k, strkF p g τ (40 + p) k = shF p g (sz τ p - 1) τ (40 + p) k := fun k => by
      unfold strkF; rw [wst_f (by omega), wst_f (by omega)]
    have hT := strT_lt (g := g) f2
    have s1 : sz (strkF p g τ) p = sz τ p - 1 := by show (strkF p g τ 26 p).toNatClampNeg = _; rw [h26]; exact nI_clamp (by omega)
    have s2 : tn (strkF p g τ) p = strT g (tn τ p) (sz τ p) := by unfold tn; rw [h27]; exact nI_clamp (by omega)
    unfold InvP
    rw [s1, s2, h26, h27, ho 22 p (by omega) (by omega) (by omega), ho 23 p (by omega) (by omega) (by omega), ho 24 p (by omega) (by omega) (by omega), ho 25 p (by omega) (by omega) (by omega)]
    refine ⟨a, b, c, d, ⟨by omega, rfl⟩, ⟨rfl, hT⟩, fun k hk => ?_, fun j k hj hk => ?_⟩
    · rw [hr]
      by_cases q : g ≤ k
      · rw [shF_hi q hk]
        exact i1 _ (by omega)
      · rw [shF_lo (by omega)]
        exact i1 _ (by omega)
    · rw [hr, hr]
      by_cases q : g ≤ k
      · rw [shF_hi q hk]
        by_cases r : g ≤ j
        · rw [shF_hi r (by omega)]
          exact i2 _ _ (by omega) (by omega)
        · rw [shF_lo (by omega)]
          exact i2 _ _ (by omega) (by omega)
      · rw [shF_lo (by omega), shF_lo (by omega)]
        exact i2 _ _ (by omega) (by omega)
theorem Inv.oStrkH {nH nP h p : Nat} {τ : wS} (hv : Inv nH nP τ) (hp : p < nP) : Inv nH nP (strkH h p τ) := by
  unfold strkH
  split
  · rename_i q
    exact hv.oStrk hp q
  · exact hv
theorem Inv.oChg1 {nH nP h : Nat} {e : Int32} {τ : wS} (hv : Inv nH nP τ) : Inv nH nP (chg1 h e τ) := ((hv.free (by omega)).free (by omega)).free (by omega)
theorem chg1_4 {h i : Nat} {e : Int32} {τ : wS} : chg1 h e τ 4 i = τ 4 i := by unfold chg1; rw [wst_f (by omega), wst_f (by omega), wst_f (by omega)]
theorem Inv.oChg {nH nP h : Nat} {e : Int32} {τ : wS} (hv : Inv nH nP τ) (hh : h < nH) : Inv nH nP (chgF nP h e τ) := by
  obtain ⟨-, -, -, k, hk, e4⟩ := hv.2.2.2.2.1 h hh
  have h1 := hv.oChg1 (h := h) (e := e)
  unfold chgF
  split
  · rename_i q
    have hk3 : k < 3 := by
      have := q.2
      rw [e4] at this
      exact (nI_ltI (b := 3) (by omega) (by omega)).mp this
    have h2 : Inv nH nP (wst (chg1 h e τ) 4 h (τ 4 h + 1)) := by
      rw [e4, nI_1]
      exact h1.set4 (by omega)
    split
    · exact itn_inv h2 (fun p hp x hx => hx.oStrkH hp)
    · exact h2
  · exact h1
theorem Inv.oKey {nH nP p : Nat} {τ : wS} (hv : Inv nH nP τ) (hp : p < nP) : τ 25 p = -1 ∨ ∃ k, k < nH ∧ τ 25 p = nI k := (hv.2.2.2.2.2 p hp).2.2.2.1
theorem Inv.oHnd {nH nP p d : Nat} {τ : wS} (hv : Inv nH nP τ) (hp : p < nP) : Inv nH nP (hndF nP p d τ).1 := by
  unfold hndF
  split
  · exact hv
  · rename_i q
    rcases hv.oKey hp with e | ⟨k, hk, e⟩
    · exact absurd (Or.inl e) q
    · have ek : (τ 25 p).toNatClampNeg = k := by rw [e]; exact nI_clamp (by have := hv.1; omega)
      rw [ek]
      split
      · split
        · exact (hv.free (by omega)).oChg hk
        · exact hv.free (by omega)
      · exact hv.oChg hk
theorem dtyP_lt {τ : wS} {p : Nat} (h : dtyK τ p < sz τ p) : dtyP τ p < sz τ p := Nat.mod_lt _ (by omega)
theorem Inv.oDtyH {nH nP p : Nat} {τ : wS} (hv : Inv nH nP τ) (hp : p < nP) (h : dtyK τ p < sz τ p) : dtyH τ p < nH ∧ τ (40 + p) (dtyP τ p) = nI (dtyH τ p) := by
  obtain ⟨-, -, -, -, -, -, i1, -⟩ := hv.2.2.2.2.2 p hp
  obtain ⟨k, hk, e⟩ := i1 _ (dtyP_lt h)
  unfold dtyH
  rw [e, nI_clamp (by have := hv.1; omega)]
  exact ⟨hk, rfl⟩
theorem Inv.oTrn {nH nP p : Nat} {τ : wS} (hv : Inv nH nP τ) (h : dtyK τ p < sz τ p) : Inv nH nP (trnF p τ) := by
  refine hv.setP (by omega) (by omega) (fun hp => ?_)
  obtain ⟨a, b, c, d, ⟨e1, e2⟩, ⟨f1, f2⟩, i1, i2⟩ := hv.2.2.2.2.2 p hp
  have hm : (dtyP τ p + 1) % sz τ p < sz τ p := Nat.mod_lt _ (by omega)
  have s1 : sz (wst τ 27 p (nI ((dtyP τ p + 1) % sz τ p))) p = sz τ p := by unfold sz; rw [wst_f (by omega)]
  have s2 : tn (wst τ 27 p (nI ((dtyP τ p + 1) % sz τ p))) p = (dtyP τ p + 1) % sz τ p := by unfold tn; rw [wst_s]; exact nI_clamp (by omega)
  unfold InvP
  rw [s1, s2, wst_s, wst_f (g := 22) (by omega), wst_f (g := 23) (by omega), wst_f (g := 24) (by omega), wst_f (g := 25) (by omega), wst_f (g := 26) (by omega)]
  refine ⟨a, b, c, d, ⟨e1, e2⟩, ⟨rfl, Or.inl hm⟩, fun k hk => ?_, fun j k hj hk => ?_⟩
  · rw [wst_f (by omega)]
    exact i1 k hk
  · rw [wst_f (by omega), wst_f (by omega)]
    exact i2 j k hj hk
theorem Inv.oOpnY {nH nP p d : Nat} {τ : wS} (hv : Inv nH nP τ) (hd : d < nH) : Inv nH nP (opnY p d τ) := by
  refine Inv.free (Inv.free (hv.setP (by omega) (by omega) (fun hp => ?_)) (by omega)) (by omega)
  obtain ⟨a, b, c, -, e, f, i1, i2⟩ := hv.2.2.2.2.2 p hp
  have s1 : sz (wst τ 25 p (nI d)) p = sz τ p := by unfold sz; rw [wst_f (by omega)]
  have s2 : tn (wst τ 25 p (nI d)) p = tn τ p := by unfold tn; rw [wst_f (by omega)]
  unfold InvP
  rw [s1, s2, wst_s, wst_f (g := 22) (by omega), wst_f (g := 23) (by omega), wst_f (g := 24) (by omega), wst_f (g := 27) (by omega), wst_f (g := 26) (by omega)]
  refine ⟨a, b, c, Or.inr ⟨d, hd, rfl⟩, e, f, fun k hk => ?_, fun j k hj hk => ?_⟩
  · rw [wst_f (by omega)]
    exact i1 k hk
  · rw [wst_f (by omega), wst_f (by omega)]
    exact i2 j k hj hk
theorem Inv.oOpn {nH nP p : Nat} {τ : wS} (hv : Inv nH nP τ) (hp : p < nP) : Inv nH nP (opnF nP p τ).1 := by
  unfold opnF
  split
  · rename_i h
    have h1 := (hv.oTrn h).oHnd (p := p) (d := dtyH τ p) hp
    split
    · exact h1.oOpnY (hv.oDtyH hp h).1
    · exact h1
  · exact hv
theorem Inv.oKeyF {nH nP p : Nat} {τ : wS} (hv : Inv nH nP τ) (hp : p < nP) : Inv nH nP (keyF nP p τ) := by
  have h1 : Inv nH nP (wst (wst τ 31 p 0) 32 p 0) := (hv.free (by omega)).free (by omega)
  unfold keyF
  split
  · exact (h1.oOpn hp).free (by omega)
  · exact h1.oOpn hp
