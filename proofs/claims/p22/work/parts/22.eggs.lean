/-! ===== p22: sums of numbers; the eggs ===== -/
def nsm (f : Nat → Nat) : Nat → Nat
  | 0 => 0
  | n + 1 => nsm f n + f n
theorem nsm_congr {f g : Nat → Nat} : ∀ {n : Nat}, (∀ k, k < n → f k = g k) → nsm f n = nsm g n
  | 0, _ => rfl
  | n + 1, h => by
    show nsm f n + f n = nsm g n + g n
    rw [nsm_congr (n := n) (fun k hk => h k (by omega)), h n (by omega)]
theorem nsm_le {f : Nat → Nat} {b : Nat} : ∀ {n : Nat}, (∀ k, k < n → f k ≤ b) → nsm f n ≤ b * n
  | 0, _ => Nat.le_refl _
  | n + 1, h => by
    have a := nsm_le (n := n) (fun k hk => h k (by omega))
    have c := h n (by omega)
    show nsm f n + f n ≤ b * (n + 1)
    rw [Nat.mul_succ]
    omega
theorem nsm_mono {f g : Nat → Nat} : ∀ {n : Nat}, (∀ k, k < n → f k ≤ g k) → nsm f n ≤ nsm g n
  | 0, _ => Nat.le_refl _
  | n + 1, h => by
    have a := nsm_mono (n := n) (fun k hk => h k (by omega))
    have c := h n (by omega)
    show nsm f n + f n ≤ nsm g n + g n
    omega
theorem nsm_add {f g : Nat → Nat} : ∀ {n : Nat}, nsm (fun k => f k + g k) n = nsm f n + nsm g n
  | 0 => rfl
  | n + 1 => by
    show nsm (fun k => f k + g k) n + (f n + g n) = nsm f n + f n + (nsm g n + g n)
    rw [nsm_add (n := n)]
    omega
theorem nsm_mul {f : Nat → Nat} {c : Nat} : ∀ {n : Nat}, nsm (fun k => c * f k) n = c * nsm f n
  | 0 => rfl
  | n + 1 => by
    show nsm (fun k => c * f k) n + c * f n = c * (nsm f n + f n)
    rw [nsm_mul (n := n), Nat.mul_add]
theorem le_nsm {f : Nat → Nat} {k : Nat} : ∀ {n : Nat}, k < n → f k ≤ nsm f n
  | 0, h => absurd h (by omega)
  | n + 1, h => by
    show f k ≤ nsm f n + f n
    by_cases q : k = n
    · subst q; omega
    · have := le_nsm (f := f) (k := k) (n := n) (by omega)
      omega
theorem nsm_one {f : Nat → Nat} {h y : Nat} : ∀ {n : Nat}, h < n → nsm (fun k => if k = h then y else f k) n + f h = nsm f n + y
  | 0, hh => absurd hh (by omega)
  | n + 1, hh => by
    show nsm (fun k => if k = h then y else f k) n + (if n = h then y else f n) + f h = nsm f n + f n + y
    by_cases q : n = h
    · subst q
      rw [if_pos rfl, nsm_congr (f := fun k => if k = n then y else f k) (g := f) (fun k hk => if_neg (by omega))]
      omega
    · rw [if_neg q]
      have := nsm_one (f := f) (y := y) (n := n) (show h < n by omega)
      omega
theorem sm_congr {f g : Nat → Int32} : ∀ {n : Nat}, (∀ k, k < n → f k = g k) → sm f n = sm g n
  | 0, _ => rfl
  | n + 1, h => by
    show sm f n + f n = sm g n + g n
    rw [sm_congr (n := n) (fun k hk => h k (by omega)), h n (by omega)]
theorem sm_upd {σ : wS} {q f : Nat} {y : Int32} : ∀ {n : Nat}, q < n → sm (fun h => wst σ f q (σ f q + y) f h) n = sm (fun h => σ f h) n + y
  | 0, h => absurd h (by omega)
  | n + 1, h => by
    show sm (fun h => wst σ f q (σ f q + y) f h) n + wst σ f q (σ f q + y) f n = sm (fun h => σ f h) n + σ f n + y
    by_cases e : q = n
    · subst e
      rw [wst_s, sm_congr (f := fun h => wst σ f q (σ f q + y) f h) (g := fun h => σ f h) (fun k hk => wst_i (by omega)), Int32.add_assoc]
    · rw [sm_upd (n := n) (by omega), wst_i (by omega), Int32.add_assoc, Int32.add_assoc, Int32.add_comm y]
theorem sm_nI {f : Nat → Int32} {g : Nat → Nat} : ∀ {n : Nat}, (∀ k, k < n → f k = nI (g k)) → sm f n = nI (nsm g n)
  | 0, _ => rfl
  | n + 1, h => by
    show sm f n + f n = nI (nsm g n + g n)
    rw [sm_nI (n := n) (fun k hk => h k (by omega)), h n (by omega), nI_add]
theorem min_nI {a b : Nat} (ha : a < 2 ^ 31) (hb : b < 2 ^ 31) : ∃ m, m ≤ a ∧ m ≤ b ∧ (m = a ∨ m = b) ∧ i32min (nI a) (nI b) = nI m := by
  unfold i32min
  by_cases q : b < a
  · exact ⟨b, by omega, by omega, Or.inr rfl, if_pos ((nI_ltI hb ha).mpr q)⟩
  · exact ⟨a, by omega, by omega, Or.inl rfl, if_neg (fun z => q ((nI_ltI hb ha).mp z))⟩
/-- the eggs of the houses and of the chest: none is owed, and all together are no more than T -/
def EG (nH T : Nat) (τ : wS) : Prop := ∃ (e : Nat → Nat) (c : Nat), (∀ h, h < nH → τ 3 h = nI (e h)) ∧ τ 53 0 = nI c ∧ c + nsm e nH ≤ T
section EGs
variable {nH nP T h p q d n a : Nat} {σ τ : wS} {x : Int32}
theorem EG.same (he : EG nH T σ) (h3 : ∀ h, τ 3 h = σ 3 h) (h53 : τ 53 0 = σ 53 0) : EG nH T τ := by
  obtain ⟨e, c, A, b, g⟩ := he
  exact ⟨e, c, fun j hj => (h3 j).trans (A j hj), h53.trans b, g⟩
theorem EG.mono {U : Nat} (he : EG nH T σ) (h : T ≤ U) : EG nH U σ := by
  obtain ⟨e, c, A, b, g⟩ := he
  exact ⟨e, c, A, b, Nat.le_trans g h⟩
theorem EG.put {f i : Nat} (he : EG nH T σ) (h3 : f ≠ 3) (h53 : f ≠ 53) : EG nH T (wst σ f i x) := he.same (fun h => wst_f (Ne.symm h3)) (wst_f (Ne.symm h53))
theorem EG.lay {k : Nat} (he : EG nH T σ) (hh : h < nH) (h1 : σ 1 h = nI k) (hk : k ≤ 9) : EG nH (T + 9) (layF h σ) := by
  obtain ⟨e, c, A, b, g⟩ := he
  unfold layF
  split
  · refine ⟨fun j => if j = h then e h + k else e j, c, fun j hj => ?_, (wst_f (by decide)).trans b, ?_⟩
    · dsimp only
      by_cases q : j = h
      · subst q
        rw [wst_s, A j hj, h1, nI_add, if_pos rfl]
      · rw [wst_i q, if_neg q]
        exact A j hj
    · have z := nsm_one (f := e) (y := e h + k) hh
      omega
  · exact ⟨e, c, A, b, by omega⟩
theorem EG.lays (he : EG nH T σ) (h1 : ∀ h, h < nH → ∃ k, k ≤ 9 ∧ σ 1 h = nI k) : ∀ n, n ≤ nH → EG nH (T + 9 * n) (itn layF n σ)
  | 0, _ => he
  | n + 1, hn => by
    obtain ⟨k, hk, e⟩ := h1 n (by omega)
    have a := EG.lays he h1 n (by omega)
    rw [itn_s, Nat.mul_succ, ← Nat.add_assoc]
    exact a.lay (by omega) ((itn_col (fun j x => lay_f (by decide))).trans e) hk
theorem EG.chg (he : EG nH T σ) (hP : nP ≤ 3) (hh : h < nH) (hT : T < 2 ^ 31) (ha : a < 2 ^ 31) : EG nH T (chgF nP h (nI a) σ) := by
  obtain ⟨e, c, A, b, g⟩ := he
  have hle := le_nsm (f := e) hh
  obtain ⟨m, h1, h2, -, em⟩ := min_nI (a := a) (b := e h) ha (by omega)
  have ep : paid h (nI a) σ = nI m := by
    unfold paid
    rw [A h hh]
    exact em
  have e3 : ∀ j, chgF nP h (nI a) σ 3 j = wst σ 3 h (nI (e h - m)) 3 j := fun j => by
    rw [chg_c1 (by omega) (by decide) (by decide) (by decide)]
    unfold chg1
    rw [wst_f (by decide), ep, A h hh, pk_sub h2]
    by_cases q : j = h
    · subst q; rw [wst_s, wst_s]
    · rw [wst_i q, wst_i q, wst_i q]
  have e53 : chgF nP h (nI a) σ 53 0 = nI (c + m) := by
    rw [chg_c1 (by omega) (by decide) (by decide) (by decide)]
    unfold chg1
    rw [wst_s, ep, b, nI_add]
  refine ⟨fun j => if j = h then e h - m else e j, c + m, fun j hj => ?_, e53, ?_⟩
  · rw [e3]
    dsimp only
    by_cases q : j = h
    · subst q
      rw [wst_s, if_pos rfl]
    · rw [wst_i q, if_neg q]
      exact A j hj
  · have z := nsm_one (f := e) (y := e h - m) hh
    omega
theorem EG.hnd (he : EG nH T σ) (hv : Inv nH nP σ) (hp : p < nP) (hT : T < 2 ^ 31) : EG nH T (hndF nP p d σ).1 := by
  have hP := hv.2.1
  unfold hndF
  split
  · exact he
  · rename_i q
    rcases hv.oKey hp with e | ⟨k, hk, e⟩
    · exact absurd (Or.inl e) q
    · have ek : (σ 25 p).toNatClampNeg = k := by rw [e]; exact nI_clamp (by have := hv.1; omega)
      rw [ek]
      split
      · split
        · exact (he.put (by decide) (by decide)).chg (a := 3) hP hk hT (by omega)
        · exact he.put (by decide) (by decide)
      · exact he.chg (a := 3) hP hk hT (by omega)
theorem EG.opn (he : EG nH T σ) (hv : Inv nH nP σ) (hp : p < nP) (hT : T < 2 ^ 31) : EG nH T (opnF nP p σ).1 := by
  unfold opnF
  split
  · rename_i h
    have h0 : EG nH T (trnF p σ) := he.put (by decide) (by decide)
    have h1 := h0.hnd (hv.oTrn h) hp (d := dtyH σ p) hT
    split
    · exact ((h1.put (by decide) (by decide)).put (by decide) (by decide)).put (by decide) (by decide)
    · exact h1
  · exact he
theorem EG.key (he : EG nH T σ) (hv : Inv nH nP σ) (hp : p < nP) (hT : T < 2 ^ 31) : EG nH T (keyF nP p σ) := by
  have h1 : Inv nH nP (wst (wst σ 31 p 0) 32 p 0) := (hv.free (by omega)).free (by omega)
  have h2 : EG nH T (opnF nP p (wst (wst σ 31 p 0) 32 p 0)).1 := ((he.put (by decide) (by decide)).put (by decide) (by decide)).opn h1 hp hT
  unfold keyF
  split
  · exact h2.put (by decide) (by decide)
  · exact h2
theorem EG.dr (he : EG nH T σ) (hP : nP ≤ 3) (hh : h < nH) (hT : T < 2 ^ 31) : EG nH T (drF nP h q x σ) := by
  have h1 : ∀ y, EG nH T (dr1 q y σ) := fun y => ((he.put (by decide) (by decide)).put (by decide) (by decide)).put (by decide) (by decide)
  unfold drF
  split
  · exact he
  · split
    · exact h1 _
    · exact ((((h1 _).put (by decide) (by decide)).put (by decide) (by decide)).put (by decide) (by decide)).chg (a := 5) hP hh hT (by omega)
theorem EG.dri (he : EG nH T σ) (hP : nP ≤ 3) (hh : h < nH) (hT : T < 2 ^ 31) : ∀ k, EG nH T (drI nP h k (σ, x)).1
  | 0 => he
  | k + 1 => (EG.dri he hP hh hT k).dr hP hh hT
theorem EG.drw (he : EG nH T σ) (hP : nP ≤ 3) (hh : h < nH) (hT : T < 2 ^ 31) : EG nH T (drwF nP h σ) := by
  unfold drwF
  split
  · exact (he.dri hP hh hT nP).put (by decide) (by decide)
  · exact he
theorem EG.mnd (he : EG nH T σ) (hT : T < 2 ^ 31) : EG nH T (mndF p σ) := by
  have hw : EG nH T (w1F p σ) := he.same (fun h => w1_f (by decide)) (w1_f (by decide))
  unfold mndF wrkF
  split
  · exact he
  · split
    · rename_i q
      obtain ⟨e, c, A, b, g⟩ := he
      have hc : 10 ≤ c := by
        have h10 := q.2
        rw [b] at h10
        exact (nI_leI (a := 10) (b := c) (by omega) (by omega)).mp h10
      refine ⟨e, c - 10, fun j hj => ?_, ?_, by omega⟩
      · rw [wst_f (by decide), wst_f (by decide), wst_f (by decide), wst_f (by decide), w1_f (by decide)]
        exact A j hj
      · rw [wst_f (by decide), wst_f (by decide), wst_f (by decide), wst_s, b]
        exact pk_sub (a := c) (b := 10) hc
    · exact hw
theorem itn_shrH3 {E : Int32} : ∀ n j, itn (shrH E) n σ 3 j = if j < n ∧ σ 4 j = 0 then σ 3 j + E else σ 3 j
  | 0, j => by
    rw [if_neg (fun k => absurd k.1 (by omega))]
    rfl
  | n + 1, j => by
    have ih := itn_shrH3 (E := E) n j
    have e4 : itn (shrH E) n σ 4 n = σ 4 n := shr_4
    rw [itn_s]
    generalize itn (shrH E) n σ = y at ih e4 ⊢
    unfold shrH
    by_cases z : j = n
    · subst z
      rw [if_neg (fun k => absurd k.1 (by omega))] at ih
      rw [e4]
      by_cases w : σ 4 j = 0
      · rw [if_pos w, if_pos ⟨by omega, w⟩, wst_s, ih]
      · rw [if_neg w, if_neg (fun k => w k.2), ih]
    · have key : (if y 4 n = 0 then wst y 3 n (y 3 n + E) else y) 3 j = y 3 j := by
        split
        · exact wst_i z
        · rfl
      rw [key, ih]
      by_cases w : j < n
      · by_cases v : σ 4 j = 0
        · rw [if_pos ⟨w, v⟩, if_pos ⟨by omega, v⟩]
        · rw [if_neg (fun k => v k.2), if_neg (fun k => v k.2)]
      · rw [if_neg (fun k => w k.1), if_neg (fun k => absurd k.1 (by omega))]
theorem EG.shr (he : EG nH T σ) (hH : nH ≤ 10) (hT : T < 2 ^ 31) : EG nH T (shrF nH σ) := by
  obtain ⟨e, c, A, b, g⟩ := id he
  unfold shrF
  split
  · exact he
  · rename_i q
    have eu : unm σ nH = nI (nsm (fun h => if σ 4 h = 0 then 1 else 0) nH) := sm_nI (fun k _ => by split <;> rfl)
    have hu1 : nsm (fun h => if σ 4 h = 0 then 1 else 0) nH ≤ 1 * nH := nsm_le (fun k _ => by split <;> omega)
    have hc : ¬ c ≤ 20 := fun z => q (Or.inr (Or.inl (by rw [b]; exact (nI_leI (a := c) (b := 20) (by omega) (by omega)).mpr z)))
    have hu0 : ¬ nsm (fun h => if σ 4 h = 0 then 1 else 0) nH = 0 := fun z => q (Or.inr (Or.inr (by rw [eu, z]; rfl)))
    generalize hu : nsm (fun h => if σ 4 h = 0 then 1 else 0) nH = u at eu hu1 hu0
    have eE : eachF nH σ = nI ((c - 20) / u) := by
      unfold eachF
      rw [b, eu, show nI c - 20 = nI (c - 20) from pk_sub (a := c) (b := 20) (by omega)]
      exact pk_div (by omega) (by omega) (by omega)
    have hEu : (c - 20) / u * u ≤ c - 20 := Nat.div_mul_le_self _ _
    rw [eE, eu]
    generalize (c - 20) / u = E at hEu ⊢
    refine ⟨fun j => e j + E * (if σ 4 j = 0 then 1 else 0), c - E * u, fun j hj => ?_, ?_, ?_⟩
    · rw [wst_f (by decide), itn_shrH3]
      dsimp only
      by_cases w : σ 4 j = 0
      · rw [if_pos ⟨hj, w⟩, A j hj, nI_add, if_pos w, Nat.mul_one]
      · rw [if_neg (fun k => w k.2), A j hj, if_neg w, Nat.mul_zero, Nat.add_zero]
    · rw [wst_s, b, pk_mul, pk_sub (by omega)]
    · have s1 := nsm_add (f := e) (g := fun j => E * (if σ 4 j = 0 then 1 else 0)) (n := nH)
      have s2 := nsm_mul (f := fun j => if σ 4 j = 0 then 1 else 0) (c := E) (n := nH)
      rw [hu] at s2
      omega
theorem EG.fin (he : EG nH T σ) : EG nH T (endF nH σ) := he.same (fun h => end_f (by decide) (by decide)) (end_f (by decide) (by decide))
theorem EG.day (he : EG nH T σ) (hv : Inv nH nP σ) (h1 : ∀ h, h < nH → ∃ k, k ≤ 9 ∧ σ 1 h = nI k) (hT : T + 90 < 2 ^ 31) : EG nH (T + 90) (dayF nH nP σ) := by
  have hH := hv.1
  have hP := hv.2.1
  have v1 : Inv nH nP (itn layF nH σ) := itn_inv hv (fun _ _ _ hx => hx.oLay)
  have a1 : EG nH (T + 90) (itn layF nH σ) := (he.lays h1 nH (Nat.le_refl _)).mono (by omega)
  have a2 := itn_inv (P := fun x => Inv nH nP x ∧ EG nH (T + 90) x) (f := keyF nP) (n := nP) (σ := itn layF nH σ) ⟨v1, a1⟩ (fun k hk x hx => ⟨hx.1.oKeyF hk, hx.2.key hx.1 hk hT⟩)
  have a3 := itn_inv (P := fun x => EG nH (T + 90) x) (f := drwF nP) (n := nH) a2.2 (fun k hk x hx => hx.drw hP hk hT)
  have a4 := itn_inv (P := fun x => EG nH (T + 90) x) (f := mndF) (n := nP) a3 (fun k hk x hx => hx.mnd hT)
  have a5 := itn_inv (P := fun x => EG nH (T + 90) x) (f := filF) (n := nP) a4 (fun k hk x hx => hx.put (by decide) (by decide))
  exact (a5.shr hH hT).fin
end EGs
