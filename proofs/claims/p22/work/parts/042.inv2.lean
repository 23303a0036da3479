theorem i32_nlt {a b : Int32} (h : a ≤ b) : ¬ b < a := by rw [Int32.lt_iff_toInt_lt]; rw [Int32.le_iff_toInt_le] at h; omega
theorem i32_nle {a b : Int32} (h : b < a) : ¬ a ≤ b := by rw [Int32.le_iff_toInt_le]; rw [Int32.lt_iff_toInt_lt] at h; omega
theorem i32_le {a b : Int32} (h : ¬ a < b) : b ≤ a := by rw [Int32.lt_iff_toInt_lt] at h; rw [Int32.le_iff_toInt_le]; omega
theorem i32_ltn {a b : Int32} (h : ¬ a ≤ b) : b < a := by rw [Int32.le_iff_toInt_le] at h; rw [Int32.lt_iff_toInt_lt]; omega
theorem i32_sh (a b c : Int32) : a - b * (c + 1) = a - b * c - b := by grind
theorem unm_s (σ : wS) (n : Nat) : unm σ (n + 1) = unm σ n + (if σ 4 n = 0 then 1 else 0) := rfl
theorem itn_col {f : Nat → wS → wS} {g j : Nat} (h : ∀ k x, f k x g j = x g j) {n : Nat} {σ : wS} : itn f n σ g j = σ g j := by
  induction n with
  | zero => rfl
  | succ n ih => exact (h n _).trans ih
theorem shr_4 {E : Int32} {n j : Nat} {τ : wS} : itn (shrH E) n τ 4 j = τ 4 j := itn_col (fun k x => by unfold shrH; split <;> first | rfl | exact wst_f (by omega))
theorem bck_50 {n : Nat} {τ : wS} : itn bckF n τ 50 0 = τ 50 0 := itn_col (fun k x => by unfold bckF; split <;> first | rfl | exact wst_f (by omega))
theorem w1F_53 {p : Nat} {τ : wS} : w1F p τ 53 0 = τ 53 0 := by unfold w1F; split <;> first | rfl | exact wst_f (by omega)
theorem w1F_30 {p : Nat} {τ : wS} : w1F p τ 30 p = τ 30 p := by unfold w1F; split <;> first | rfl | exact wst_f (by omega)
theorem InvP.put {nH p f : Nat} {τ : wS} {x : Int32} (h : InvP nH τ p) (h23 : (wst τ f p x 23 p = 0 ∨ wst τ f p x 23 p = 1) ∧ (wst τ f p x 23 p = 0 → wst τ f p x 22 p < 100)) (h24 : ∃ k, k ≤ 3 ∧ wst τ f p x 24 p = nI k) (hf : f = 22 ∨ f = 23 ∨ f = 24) : InvP nH (wst τ f p x) p := by
  obtain ⟨a, b, c, d, e, g, i1, i2⟩ := h
  have s1 : sz (wst τ f p x) p = sz τ p := by unfold sz; rw [wst_f (by omega)]
  have s2 : tn (wst τ f p x) p = tn τ p := by unfold tn; rw [wst_f (by omega)]
  refine ⟨h23.1, h23.2, h24, by rw [wst_f (by omega)]; exact d, by rw [s1, wst_f (by omega)]; exact e, by rw [s1, s2, wst_f (by omega)]; exact g, fun k hk => ?_, fun j k hj hk => ?_⟩
  · rw [s1] at hk
    rw [wst_f (by omega)]
    exact i1 k hk
  · rw [s1] at hk
    rw [wst_f (by omega), wst_f (by omega)]
    exact i2 j k hj hk
theorem Inv.set22 {nH nP p : Nat} {τ : wS} {x : Int32} (hv : Inv nH nP τ) (h : τ 23 p = 0 → x < 100) : Inv nH nP (wst τ 22 p x) := by
  refine hv.setP (by omega) (by omega) (fun hp => ?_)
  have h0 := hv.2.2.2.2.2 p hp
  refine h0.put ?_ ?_ (by omega)
  · rw [wst_f (g := 23) (by omega), wst_s]
    exact ⟨h0.1, h⟩
  · rw [wst_f (g := 24) (by omega)]
    exact h0.2.2.1
theorem Inv.set231 {nH nP p : Nat} {τ : wS} (hv : Inv nH nP τ) : Inv nH nP (wst τ 23 p 1) := by
  refine hv.setP (by omega) (by omega) (fun hp => ?_)
  have h0 := hv.2.2.2.2.2 p hp
  refine h0.put ?_ ?_ (by omega)
  · rw [wst_f (g := 22) (by omega), wst_s]
    exact ⟨Or.inr rfl, fun h => absurd h (by decide)⟩
  · rw [wst_f (g := 24) (by omega)]
    exact h0.2.2.1
theorem Inv.set230 {nH nP p : Nat} {τ : wS} (hv : Inv nH nP τ) (h : τ 22 p < 100) : Inv nH nP (wst τ 23 p 0) := by
  refine hv.setP (by omega) (by omega) (fun hp => ?_)
  have h0 := hv.2.2.2.2.2 p hp
  refine h0.put ?_ ?_ (by omega)
  · rw [wst_f (g := 22) (by omega), wst_s]
    exact ⟨Or.inl rfl, fun _ => h⟩
  · rw [wst_f (g := 24) (by omega)]
    exact h0.2.2.1
theorem Inv.set24 {nH nP p k : Nat} {τ : wS} (hv : Inv nH nP τ) (hk : k ≤ 3) : Inv nH nP (wst τ 24 p (nI k)) := by
  refine hv.setP (by omega) (by omega) (fun hp => ?_)
  have h0 := hv.2.2.2.2.2 p hp
  refine h0.put ?_ ?_ (by omega)
  · rw [wst_f (g := 22) (by omega), wst_f (g := 23) (by omega)]
    exact ⟨h0.1, h0.2.1⟩
  · rw [wst_s]
    exact ⟨k, hk, rfl⟩
theorem Inv.oW1 {nH nP p : Nat} {τ : wS} (hv : Inv nH nP τ) (hp : p < nP) : Inv nH nP (w1F p τ) := by
  obtain ⟨k, hk, e⟩ := (hv.2.2.2.2.2 p hp).2.2.1
  unfold w1F
  split
  · rename_i q
    rw [e] at q ⊢
    have h0 : 0 < k := (nI_ltI (a := 0) (b := k) (by omega) (by omega)).mp q
    rw [show nI k - 1 = nI (k - 1) from pk_sub (a := k) (b := 1) (by omega)]
    exact hv.set24 (by omega)
  · exact hv
theorem Inv.oMnd {nH nP p : Nat} {τ : wS} (hv : Inv nH nP τ) (hp : p < nP) : Inv nH nP (mndF p τ) := by
  unfold mndF
  split
  · exact hv
  · unfold wrkF
    split
    · refine Inv.free ?_ (by omega)
      rw [wst_comm (f := 23) (g := 22) (by omega)]
      refine Inv.set230 ?_ (by rw [wst_s]; decide)
      exact ((hv.oW1 hp).free (by omega)).set22 (fun _ => by decide)
    · exact hv.oW1 hp
theorem Inv.oBck {nH nP h : Nat} {τ : wS} (hv : Inv nH nP τ) (hh : h < nH) : Inv nH nP (bckF h τ) := by
  obtain ⟨-, ⟨k, hk, e⟩, -, -⟩ := hv.2.2.2.2.1 h hh
  unfold bckF
  split
  · exact hv
  · rename_i q
    have h0 : 0 < k := by
      rcases Nat.eq_zero_or_pos k with r | r
      · rw [e, r] at q
        exact absurd rfl q
      · exact r
    rw [e, show nI k - 1 = nI (k - 1) from pk_sub (a := k) (b := 1) (by omega)]
    exact hv.set6 (by omega)
theorem Inv.oShr {nH nP h : Nat} {E : Int32} {τ : wS} (hv : Inv nH nP τ) : Inv nH nP (shrH E h τ) := by
  unfold shrH
  split
  · exact hv.free (by omega)
  · exact hv
theorem Inv.oShrF {nH nP : Nat} {τ : wS} (hv : Inv nH nP τ) : Inv nH nP (shrF nH τ) := by
  unfold shrF
  split
  · exact hv
  · exact (itn_inv hv (fun k hk x hx => hx.oShr)).free (by omega)
theorem Inv.oDr {nH nP h q : Nat} {left : Int32} {τ : wS} (hv : Inv nH nP τ) (hh : h < nH) : Inv nH nP (drF nP h q left τ) := by
  unfold drF
  have e23 : ∀ x, wst (wst τ 20 q (τ 20 q - x)) 29 q (τ 29 q + x) 23 q = τ 23 q := fun x => by rw [wst_f (by omega), wst_f (by omega)]
  have h2 : ∀ x, Inv nH nP (wst (wst τ 20 q (τ 20 q - x)) 29 q (τ 29 q + x)) := fun x => (hv.free (by omega)).free (by omega)
  split
  · exact hv
  · split
    · rename_i r
      exact (h2 _).set22 (fun _ => r)
    · refine Inv.oChg ?_ hh
      refine Inv.set24 (k := 3) (Inv.free ?_ (by omega)) (by omega)
      unfold dr1
      rw [wst_comm (f := 22) (g := 23) (by omega)]
      refine Inv.set22 (h2 _).set231 (fun z => ?_)
      rw [wst_s] at z
      exact absurd z (by decide)
theorem Inv.oDrI {nH nP h : Nat} {left : Int32} {τ : wS} (hv : Inv nH nP τ) (hh : h < nH) : ∀ k, Inv nH nP (drI nP h k (τ, left)).1
  | 0 => hv
  | k + 1 => (Inv.oDrI hv hh k).oDr hh
theorem Inv.oDrw {nH nP h : Nat} {τ : wS} (hv : Inv nH nP τ) (hh : h < nH) : Inv nH nP (drwF nP h τ) := by
  unfold drwF
  split
  · exact (hv.oDrI hh nP).free (by omega)
  · exact hv
theorem Inv.oEnd {nH nP : Nat} {τ : wS} (hv : Inv nH nP τ) : Inv nH nP (endF nH τ) := (itn_inv hv (fun k hk x hx => hx.oBck hk)).free (by omega)
theorem Inv.oDay {nH nP : Nat} {τ : wS} (hv : Inv nH nP τ) : Inv nH nP (dayF nH nP τ) :=
  (itn_inv (itn_inv (itn_inv (itn_inv (itn_inv hv (fun _ _ _ hx => hx.oLay)) (fun k hk _ hx => hx.oKeyF hk)) (fun k hk _ hx => hx.oDrw hk)) (fun k hk _ hx => hx.oMnd hk)) (fun k hk _ hx => hx.free (by omega))).oShrF.oEnd
theorem Inv.oDys {nH nP n : Nat} {τ : wS} (hv : Inv nH nP τ) : Inv nH nP (dysF nH nP n τ) := itn_inv hv (fun _ _ _ hx => hx.oDay)
theorem et27 {nH nP p : Nat} {τ : wS} (hv : Inv nH nP τ) (hp : p < nP) : τ 27 p = nI ((tn τ p + 0) % sz τ p) := by
  obtain ⟨e, f⟩ := (hv.2.2.2.2.2 p hp).2.2.2.2.2.1
  rw [Nat.add_zero]
  rcases f with f | ⟨f, g⟩
  · rw [Nat.mod_eq_of_lt f]; exact e
  · rw [f, Nat.mod_zero]; exact e
theorem nI_nm1 {k : Nat} (h : k < 2 ^ 31) : ¬ nI k = -1 := fun q => by
  have e := nI_toInt h
  rw [q, show (-1 : Int32).toInt = -1 by decide] at e
  omega
theorem hnd_01 (nP p d : Nat) (τ : wS) : (hndF nP p d τ).2 = 0 ∨ (hndF nP p d τ).2 = 1 := by
  unfold hndF
  (repeat' split) <;> first | exact Or.inl rfl | exact Or.inr rfl
theorem Inv.oBrk {nH nP q : Nat} {x : Int32} {τ : wS} (hv : Inv nH nP τ) : Inv nH nP (wst (wst (wst (dr1 q x τ) 23 q 1) 32 q 1) 24 q 3) := by
  refine Inv.set24 (k := 3) (Inv.free ?_ (by omega)) (by omega)
  unfold dr1
  rw [wst_comm (f := 22) (g := 23) (by omega)]
  refine Inv.set22 (Inv.set231 ((hv.free (by omega)).free (by omega))) (fun z => ?_)
  rw [wst_s] at z
  exact absurd z (by decide)
/-- the number that drawAround's loop has at its head: one behind the last one tried -/
def yq (f nP k : Nat) : Nat := if k = 0 then f else (f + (k - 1)) % nP + 1
theorem yq_s (f nP k : Nat) : yq f nP (k + 1) = (f + k) % nP + 1 := rfl
theorem yq_lt {f nP k : Nat} (hf : f < nP ∨ f = 0) (h : yq f nP k < nP) : yq f nP k = (f + k) % nP := by
  unfold yq at h ⊢
  by_cases q : k = 0
  · subst q
    rw [if_pos rfl] at h ⊢
    rw [Nat.add_zero, Nat.mod_eq_of_lt h]
  · rw [if_neg q] at h ⊢
    obtain ⟨j, rfl⟩ : ∃ j, k = j + 1 := ⟨k - 1, by omega⟩
    rw [show j + 1 - 1 = j by omega] at h ⊢
    rw [show f + (j + 1) = f + j + 1 by omega, show (f + j + 1) % nP = ((f + j) % nP + 1) % nP from (Nat.mod_add_mod _ _ _).symm, Nat.mod_eq_of_lt h]
theorem yq_ge {f nP k : Nat} (hf : f < nP ∨ f = 0) (h0 : 0 < nP) (h : nP ≤ yq f nP k) : 0 = (f + k) % nP := by
  unfold yq at h
  by_cases q : k = 0
  · rw [if_pos q] at h
    omega
  · rw [if_neg q] at h
    obtain ⟨j, rfl⟩ : ∃ j, k = j + 1 := ⟨k - 1, by omega⟩
    rw [show j + 1 - 1 = j by omega] at h
    have hm : (f + j) % nP < nP := Nat.mod_lt _ h0
    rw [show f + (j + 1) = f + j + 1 by omega, show (f + j + 1) % nP = ((f + j) % nP + 1) % nP from (Nat.mod_add_mod _ _ _).symm, show (f + j) % nP + 1 = nP by omega, Nat.mod_self]
theorem strkH_5 {h p i : Nat} {σ : wS} : strkH h p σ 5 i = σ 5 i := by
  unfold strkH
  split
  · unfold strkF; rw [wst_f (by omega), wst_f (by omega), shF_o (by omega)]
  · rfl
theorem chg_5 {nP h i : Nat} {e : Int32} {σ : wS} : chgF nP h e σ 5 i = σ 5 i := by
  have h1 : chg1 h e σ 5 i = σ 5 i := by unfold chg1; rw [wst_f (by omega), wst_f (by omega), wst_f (by omega)]
  unfold chgF
  split
  · split
    · rw [itn_col (fun k x => strkH_5), wst_f (by omega)]; exact h1
    · rw [wst_f (by omega)]; exact h1
  · exact h1
theorem dr_5 {nP h q i : Nat} {x : Int32} {σ : wS} : drF nP h q x σ 5 i = σ 5 i := by
  have h1 : ∀ y, dr1 q y σ 5 i = σ 5 i := fun y => by unfold dr1; rw [wst_f (by omega), wst_f (by omega), wst_f (by omega)]
  unfold drF
  split
  · rfl
  · split
    · exact h1 _
    · rw [chg_5, wst_f (by omega), wst_f (by omega), wst_f (by omega)]; exact h1 _
theorem drI_5 {nP h i : Nat} {x : Int32} {σ : wS} : ∀ {k}, (drI nP h k (σ, x)).1 5 i = σ 5 i
  | 0 => rfl
  | k + 1 => dr_5.trans (drI_5 (k := k))
theorem fq_5 {nP h k f : Nat} {σ : wS} (e : σ 5 h = nI f) (hf : f < 2 ^ 31) : fq nP h k σ = (f + k) % nP := by
  unfold fq
  rw [e, nI_clamp hf]
theorem yq_le {f nP k : Nat} (hf : f < nP ∨ f = 0) (hP : nP ≤ 3) (hk : k ≤ nP) : yq f nP k ≤ 3 := by
  unfold yq
  split
  · omega
  · have : (f + (k - 1)) % nP < nP := Nat.mod_lt _ (by omega)
    omega
