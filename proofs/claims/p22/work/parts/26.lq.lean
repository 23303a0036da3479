/-! ===== p22: what holds of the law's village behind d days ===== -/
def HL (nH nP : Nat) (τ : wS) : Prop := (∀ h, h < nH → ∃ k, k ≤ 9 ∧ τ 1 h = nI k) ∧ (∀ h, h < nH → ∃ k, k ≤ 9 ∧ τ 0 h = nI k) ∧ ∀ p, p < nP → cl (τ 21 p) ≤ 50 ∧ τ 21 p = nI (cl (τ 21 p))
def LQ (nH nP d : Nat) (τ : wS) : Prop :=
  Inv nH nP τ ∧ HL nH nP τ ∧ τ 50 0 = nI d ∧ EG nH (10 * nH + 90 * d) τ ∧ TH nH (fun _ => 11 * d) τ ∧ WT nP (fun _ => 200 + 50 * d) τ ∧ DU nH nP τ ∧ RM nP τ
section LQs
variable {nH nP h p d n : Nat} {τ : wS} {x : Int32}
theorem HL.same {ρ : wS} (hl : HL nH nP τ) (h0 : ∀ h, ρ 0 h = τ 0 h) (h1 : ∀ h, ρ 1 h = τ 1 h) (h2 : ∀ p, ρ 21 p = τ 21 p) : HL nH nP ρ := by
  obtain ⟨a, b, c⟩ := hl
  refine ⟨fun h hh => ?_, fun h hh => ?_, fun p hp => ?_⟩
  · rw [h1]; exact a h hh
  · rw [h0]; exact b h hh
  · rw [h2]; exact c p hp
theorem HL.day (hl : HL nH nP τ) : HL nH nP (dayF nH nP τ) :=
  hl.same (fun h => day_f (by unfold nCh; omega) (by omega) (by omega) (by decide) (by decide) (by decide) (by decide)) (fun h => day_f (by unfold nCh; omega) (by omega) (by omega) (by decide) (by decide) (by decide) (by decide)) (fun h => day_f (by unfold nCh; omega) (by omega) (by omega) (by decide) (by decide) (by decide) (by decide))
theorem LQ.day (hq : LQ nH nP d τ) (hd : d < 2 ^ 20) : LQ nH nP (d + 1) (dayF nH nP τ) := by
  obtain ⟨hv, hl, h50, he, ht, hw, hu, hr⟩ := hq
  have hH := hv.1
  have hP := hv.2.1
  obtain ⟨w1, t1⟩ := hw.day (I := fun p => cl (τ 21 p)) ht hl.2.1 hl.2.2 hP
  refine ⟨hv.oDay, hl.day, by rw [day_50 hP, h50, nI_1], (he.day hv hl.1 (by omega)).mono (by omega), t1.mono (fun h hh => by omega), fun p hp => ?_, hu.day hv, hr.day hv⟩
  obtain ⟨L, X, a, b, c, g⟩ := w1 p hp
  have := (hl.2.2 p hp).1
  exact ⟨L, X, a, by dsimp only at b ⊢; omega, c, g⟩
theorem LQ.dys (hq : LQ nH nP d τ) (hd : d + n < 2 ^ 20) : LQ nH nP (d + n) (dysF nH nP n τ) := by
  induction n with
  | zero => exact hq
  | succ n ih =>
    have a := (ih (by omega)).day (by omega)
    exact a
/-- what is drawn in n days and what is left came from the wells and from the inflow -/
theorem WT.dys {K : Nat → Nat} (hq : LQ nH nP d τ) (hd : d + n < 2 ^ 20) (hw : WT nP K τ) : WT nP (fun p => K p + n * cl (τ 21 p)) (dysF nH nP n τ) := by
  induction n with
  | zero =>
    intro p hp
    obtain ⟨L, X, a, b, c, g⟩ := hw p hp
    exact ⟨L, X, a, by dsimp only; omega, c, g⟩
  | succ n ih =>
    have q := hq.dys (n := n) (by omega)
    have e21 : ∀ p, dysF nH nP n τ 21 p = τ 21 p := fun p => itn_col (fun j x => day_f (by unfold nCh; omega) (by omega) (by omega) (by decide) (by decide) (by decide) (by decide))
    obtain ⟨w1, -⟩ := (ih (by omega)).day (I := fun p => cl (τ 21 p)) q.2.2.2.2.1 q.2.1.2.1 (fun p hp => by
      rw [e21]
      exact hq.2.1.2.2 p hp) hq.1.2.1
    intro p hp
    obtain ⟨L, X, a, b, c, g⟩ := w1 p hp
    refine ⟨L, X, a, ?_, c, g⟩
    dsimp only at b ⊢
    rw [Nat.succ_mul]
    omega
/-! calls of the law -/
theorem LQ.put6 {k : Nat} (hq : LQ nH nP d τ) (hk : k ≤ 30) : LQ nH nP d (wst τ 6 h (nI k)) := by
  obtain ⟨hv, hl, h50, he, ht, hw, hu, hr⟩ := hq
  have hP := hv.2.1
  exact ⟨hv.set6 hk, hl.same (fun h => wst_f (by decide)) (fun h => wst_f (by decide)) (fun h => wst_f (by decide)), (wst_f (by decide)).trans h50, he.put (by decide) (by decide), ht.put (by decide), hw.put (by decide) (by decide), hu.put (by decide) (by decide), hr.put (by decide) (by decide) (by omega)⟩
theorem LQ.put5 {k : Nat} (hq : LQ nH nP d τ) (hk : k < nP) : LQ nH nP d (wst τ 5 h (nI k)) := by
  obtain ⟨hv, hl, h50, he, ht, hw, hu, hr⟩ := hq
  have hP := hv.2.1
  exact ⟨hv.set5 (Or.inl hk), hl.same (fun h => wst_f (by decide)) (fun h => wst_f (by decide)) (fun h => wst_f (by decide)), (wst_f (by decide)).trans h50, he.put (by decide) (by decide), ht.put (by decide), hw.put (by decide) (by decide), hu.put (by decide) (by decide), hr.put (by decide) (by decide) (by omega)⟩
theorem LQ.put0 {k : Nat} (hq : LQ nH nP d τ) (hk : k ≤ 9) : LQ nH nP d (wst τ 0 h (nI k)) := by
  obtain ⟨hv, hl, h50, he, ht, hw, hu, hr⟩ := hq
  have hP := hv.2.1
  refine ⟨hv.free (Or.inl rfl), ⟨fun j hj => ?_, fun j hj => ?_, fun p hp => ?_⟩, (wst_f (by decide)).trans h50, he.put (by decide) (by decide), ht.put (by decide), hw.put (by decide) (by decide), hu.put (by decide) (by decide), hr.put (by decide) (by decide) (by omega)⟩
  · rw [wst_f (by decide)]; exact hl.1 j hj
  · by_cases z : j = h
    · subst z; exact ⟨k, hk, wst_s⟩
    · rw [wst_i z]; exact hl.2.1 j hj
  · rw [wst_f (by decide)]; exact hl.2.2 p hp
theorem LQ.fine {a : Nat} (hq : LQ nH nP d τ) (hh : h < nH) (ha : a ≤ 50) (hd : d < 2 ^ 20) : LQ nH nP d (chgF nP h (nI a) τ) := by
  obtain ⟨hv, hl, h50, he, ht, hw, hu, hr⟩ := hq
  have hH := hv.1
  have hP := hv.2.1
  exact ⟨hv.oChg hh, hl.same (fun j => chg_f (by unfold nCh; omega)) (fun j => chg_f (by unfold nCh; omega)) (fun j => chg_f (by unfold nCh; omega)), (chg_f (by unfold nCh; omega)).trans h50, he.chg hP hh (by omega) (by omega), ht.same (fun j _ => chg_f (by unfold nCh; omega)), hw.chg, hu.same (fun j _ => chg_f (by unfold nCh; omega)) (fun j _ => chg_f (by unfold nCh; omega)), hr.chg hv hh⟩
theorem RM.enrol (hr : RM nP τ) (hv : Inv nH nP τ) (hp : p < nP) (hh : h < nH) (hn : ¬ plc (τ (40 + p)) (nI h) (sz τ p) < sz τ p) (h4 : τ 4 h < 3) : RM nP (wst (wst τ (40 + p) (sz τ p) (nI h)) 26 p (nI (sz τ p + 1))) := by
  have hP := hv.2.1
  have hH := hv.1
  have h10 := ros_room hv hp hh hn
  generalize hn9 : sz τ p = n at h10 ⊢
  have e4 : ∀ j, wst (wst τ (40 + p) n (nI h)) 26 p (nI (n + 1)) 4 j = τ 4 j := fun j => by rw [wst_f (by decide), wst_f (by omega)]
  intro q hq k hk
  rw [e4]
  by_cases z : q = p
  · subst z
    have es : sz (wst (wst τ (40 + q) n (nI h)) 26 q (nI (n + 1))) q = n + 1 := by unfold sz; rw [wst_s]; exact nI_clamp (by omega)
    rw [es] at hk
    rw [wst_f (by omega)]
    by_cases y : k = n
    · subst y
      rw [wst_s, show cl (nI h) = h from nI_clamp (by omega)]
      intro w
      rw [w] at h4
      exact absurd h4 (by decide)
    · rw [wst_i y]
      exact hr q hq k (by omega)
  · have es : sz (wst (wst τ (40 + p) n (nI h)) 26 p (nI (n + 1))) q = sz τ q := by unfold sz; rw [wst_i z, wst_f (by omega)]
    rw [es] at hk
    rw [wst_f (by omega), wst_f (by omega)]
    exact hr q hq k hk
theorem LQ.enrol (hq : LQ nH nP d τ) (hp : p < nP) (hh : h < nH) (hn : ¬ plc (τ (40 + p)) (nI h) (sz τ p) < sz τ p) (h4 : τ 4 h < 3) : LQ nH nP d (wst (wst τ (40 + p) (sz τ p) (nI h)) 26 p (nI (sz τ p + 1))) := by
  obtain ⟨hv, hl, h50, he, ht, hw, hu, hr⟩ := hq
  have hP := hv.2.1
  have o : ∀ f i, f < 40 ∨ 43 ≤ f → f ≠ 26 → wst (wst τ (40 + p) (sz τ p) (nI h)) 26 p (nI (sz τ p + 1)) f i = τ f i := fun f i h1 h2 => by rw [wst_f h2, wst_f (by omega)]
  exact ⟨hv.enrol hp hh hn, hl.same (fun j => o 0 j (by omega) (by decide)) (fun j => o 1 j (by omega) (by decide)) (fun j => o 21 j (by omega) (by decide)), (o 50 0 (by omega) (by decide)).trans h50, he.same (fun j => o 3 j (by omega) (by decide)) (o 53 0 (by omega) (by decide)), ht.same (fun j _ => o 8 j (by omega) (by decide)), hw.same (fun j _ => o 20 j (by omega) (by decide)) (fun j _ => o 29 j (by omega) (by decide)), hu.same (fun j _ => o 28 j (by omega) (by decide)) (fun j _ => o 7 j (by omega) (by decide)), hr.enrol hv hp hh hn h4⟩
end LQs
/-! the village's beginning -/
section LQb
variable {nH nP k : Nat} {τ : wS} {x y w : Int32}
theorem LQ.zero : LQ 0 0 0 dC :=
  ⟨⟨by omega, by omega, rfl, rfl, fun h hh => absurd hh (by omega), fun p hp => absurd hp (by omega)⟩, ⟨fun h hh => absurd hh (by omega), fun h hh => absurd hh (by omega), fun p hp => absurd hp (by omega)⟩, rfl, ⟨fun _ => 0, 0, fun h hh => absurd hh (by omega), rfl, Nat.le_refl _⟩, fun h hh => absurd hh (by omega), fun p hp => absurd hp (by omega), rfl, fun p hp => absurd hp (by omega)⟩
theorem LQ.addH (hq : LQ nH 0 0 τ) (hn : nH < 10) {a b : Nat} (hx : x = nI a) (ha : a ≤ 9) (hy : y = nI b) (hb : b ≤ 9) (hw : inn 1 9 w) : LQ (nH + 1) 0 0 (aHF nH τ x y w) := by
  obtain ⟨hv, hl, h50, he, ht, hwt, hu, hr⟩ := hq
  have o : ∀ {f i : Nat}, ¬ (f ≤ 10 ∧ i = nH) → ¬ (f = 51 ∧ i = 0) → aHF nH τ x y w f i = τ f i := fun h1 h2 => aHF_o h1 h2
  refine ⟨hv.addH hn hw, ⟨fun h hh => ?_, fun h hh => ?_, fun p hp => absurd hp (by omega)⟩, (o (by omega) (by omega)).trans h50, ?_, fun h hh => ?_, fun p hp => absurd hp (by omega), ?_, fun p hp => absurd hp (by omega)⟩
  · by_cases z : h = nH
    · subst z
      refine ⟨b, hb, ?_⟩
      unfold aHF
      rw [wst_f (by decide), wst_f (by decide), wst_s, hy]
    · rw [o (by omega) (by omega)]; exact hl.1 h (by omega)
  · by_cases z : h = nH
    · subst z
      refine ⟨a, ha, ?_⟩
      unfold aHF
      rw [wst_f (by decide), wst_f (by decide), wst_f (by decide), wst_s, hx]
    · rw [o (by omega) (by omega)]; exact hl.2.1 h (by omega)
  · obtain ⟨e, c, A, b9, g⟩ := he
    refine ⟨fun j => if j = nH then 10 else e j, c, fun j hj => ?_, (o (by omega) (by omega)).trans b9, ?_⟩
    · dsimp only
      by_cases z : j = nH
      · subst z
        rw [if_pos rfl, aHF_n (by decide) (by decide)]
        rfl
      · rw [if_neg z, o (by omega) (by omega)]
        exact A j (by omega)
    · show c + (nsm (fun j => if j = nH then 10 else e j) nH + (if nH = nH then 10 else e nH)) ≤ _
      rw [if_pos rfl, nsm_congr (f := fun j => if j = nH then 10 else e j) (g := e) (fun j hj => if_neg (by omega))]
      omega
  · by_cases z : h = nH
    · subst z
      refine ⟨0, by omega, ?_⟩
      rw [aHF_n (by decide) (by decide)]
      rfl
    · obtain ⟨k, hk, e⟩ := ht h (by omega)
      exact ⟨k, hk, (o (by omega) (by omega)).trans e⟩
  · unfold DU at hu ⊢
    show (0 : Int32) = sm (fun h => aHF nH τ x y w 7 h) nH + aHF nH τ x y w 7 nH
    rw [aHF_n (by decide) (by decide), sm_congr (f := fun h => aHF nH τ x y w 7 h) (g := fun h => τ 7 h) (fun j hj => o (by omega) (by omega)), ← hu]
    rfl
theorem LQ.addP (hq : LQ nH nP 0 τ) (hn : nP < 3) {a b : Nat} (hx : x = nI a) (ha : a ≤ 200) (hy : y = nI b) (hb : b ≤ 50) : LQ nH (nP + 1) 0 (aPF nP τ x y) := by
  obtain ⟨hv, hl, h50, he, ht, hwt, hu, hr⟩ := hq
  have o : ∀ {f i : Nat}, ¬ ((11 ≤ f ∧ f ≤ 30 ∧ i = nP) ∨ f = 40 + nP) → ¬ (f = 52 ∧ i = 0) → aPF nP τ x y f i = τ f i := fun h1 h2 => aPF_o h1 h2
  have e21 : aPF nP τ x y 21 nP = nI b := by
    unfold aPF
    rw [wst_f (by decide), wst_s, hy]
  have e20 : aPF nP τ x y 20 nP = nI a := by
    unfold aPF
    rw [wst_f (by decide), wst_f (by decide), wst_s, hx]
  refine ⟨hv.addP hn, ⟨fun h hh => ?_, fun h hh => ?_, fun p hp => ?_⟩, (o (by omega) (by omega)).trans h50, he.same (fun j => o (by omega) (by omega)) (o (by omega) (by omega)), ht.same (fun j _ => o (by omega) (by omega)), fun p hp => ?_, ?_, fun p hp k hk => ?_⟩
  · rw [o (by omega) (by omega)]; exact hl.1 h hh
  · rw [o (by omega) (by omega)]; exact hl.2.1 h hh
  · by_cases z : p = nP
    · subst z
      rw [e21, show cl (nI b) = b from nI_clamp (by omega)]
      exact ⟨hb, rfl⟩
    · rw [o (by omega) (by omega)]; exact hl.2.2 p (by omega)
  · by_cases z : p = nP
    · subst z
      exact ⟨a, 0, ha, by dsimp only; omega, e20, (aPF_n (by decide) (by decide)).trans rfl⟩
    · obtain ⟨L, X, q1, q2, q3, q4⟩ := hwt p (by omega)
      exact ⟨L, X, q1, q2, (o (by omega) (by omega)).trans q3, (o (by omega) (by omega)).trans q4⟩
  · unfold DU at hu ⊢
    show sm (fun p => aPF nP τ x y 28 p) nP + aPF nP τ x y 28 nP = _
    rw [aPF_n (by decide) (by decide), sm_congr (f := fun p => aPF nP τ x y 28 p) (g := fun p => τ 28 p) (fun j hj => o (by omega) (by omega)), sm_congr (f := fun p => aPF nP τ x y 7 p) (g := fun p => τ 7 p) (fun j hj => o (by omega) (by omega)), hu]
    exact Int32.add_zero _
  · by_cases z : p = nP
    · subst z
      have e26 : sz (aPF p τ x y) p = 0 := by unfold sz; rw [aPF_n (by decide) (by decide)]; rfl
      rw [e26] at hk
      exact absurd hk (by omega)
    · have es : sz (aPF nP τ x y) p = sz τ p := by unfold sz; rw [o (by omega) (by omega)]
      rw [es] at hk
      rw [o (by omega) (by omega), o (by omega) (by omega)]
      exact hr p (by omega) k hk
end LQb
