/-! ===== unfair: by the roster it is what it is by the houses ===== -/
def unR (τ : wS) (p : Nat) : Nat → Int32 × Int32
  | 0 => (0, 0)
  | k + 1 => if k = 0 then (τ 7 (cl (τ (40 + p) k)), τ 7 (cl (τ (40 + p) k))) else (i32max (unR τ p k).1 (τ 7 (cl (τ (40 + p) k))), i32min (unR τ p k).2 (τ 7 (cl (τ (40 + p) k))))
theorem i32max_nI {a b : Nat} (ha : a < 2 ^ 31) (hb : b < 2 ^ 31) : i32max (nI a) (nI b) = nI (max a b) := by
  unfold i32max
  by_cases h : a < b
  · rw [if_pos ((nI_ltI ha hb).mpr h), Nat.max_eq_right (by omega)]
  · rw [if_neg (fun q => h ((nI_ltI ha hb).mp q)), Nat.max_eq_left (by omega)]
theorem i32min_nI {a b : Nat} (ha : a < 2 ^ 31) (hb : b < 2 ^ 31) : i32min (nI a) (nI b) = nI (min a b) := by
  unfold i32min
  by_cases h : b < a
  · rw [if_pos ((nI_ltI hb ha).mpr h), Nat.min_eq_right (by omega)]
  · rw [if_neg (fun q => h ((nI_ltI hb ha).mp q)), Nat.min_eq_left (by omega)]
theorem unR_0 {τ : wS} {p i r : Nat} (h : i = 0) (er : τ (40 + p) i = nI r) (hr : r < 2 ^ 31) : unR τ p (i + 1) = (τ 7 r, τ 7 r) := by
  have e : unR τ p (i + 1) = (τ 7 (cl (τ (40 + p) i)), τ 7 (cl (τ (40 + p) i))) := if_pos h
  rw [e, er, show cl (nI r) = r from nI_clamp hr]
theorem unR_s {τ : wS} {p i r : Nat} (h : ¬ i = 0) (er : τ (40 + p) i = nI r) (hr : r < 2 ^ 31) : unR τ p (i + 1) = (i32max (unR τ p i).1 (τ 7 r), i32min (unR τ p i).2 (τ 7 r)) := by
  have e : unR τ p (i + 1) = (i32max (unR τ p i).1 (τ 7 (cl (τ (40 + p) i))), i32min (unR τ p i).2 (τ 7 (cl (τ (40 + p) i)))) := if_neg h
  rw [e, er, show cl (nI r) = r from nI_clamp hr]
theorem DB.cl7 {nH D h : Nat} {τ : wS} (hd : DB nH D τ) (hD : D < 2 ^ 31) (hh : h < nH) : τ 7 h = nI (cl (τ 7 h)) ∧ cl (τ 7 h) ≤ D := by
  obtain ⟨k, hk, e⟩ := hd h hh
  rw [e, show cl (nI k) = k from nI_clamp (by omega)]
  exact ⟨rfl, hk⟩
theorem unR_is {τ : wS} {p D : Nat} {d : Nat → Nat} (hD : D < 2 ^ 31) : ∀ {n : Nat}, (∀ k, k < n → τ 7 (cl (τ (40 + p) k)) = nI (d k) ∧ d k ≤ D) → 0 < n →
    ∃ a b, unR τ p n = (nI a, nI b) ∧ (∃ k, k < n ∧ d k = a) ∧ (∃ k, k < n ∧ d k = b) ∧ (∀ k, k < n → b ≤ d k ∧ d k ≤ a)
  | 0, _, h0 => absurd h0 (by omega)
  | n + 1, h, _ => by
    have hn := h n (by omega)
    by_cases q : n = 0
    · subst q
      exact ⟨d 0, d 0, by rw [show unR τ p (0 + 1) = (τ 7 (cl (τ (40 + p) 0)), τ 7 (cl (τ (40 + p) 0))) from if_pos rfl, hn.1], ⟨0, by omega, rfl⟩, ⟨0, by omega, rfl⟩, fun k hk => by rw [show k = 0 by omega]; omega⟩
    · obtain ⟨a, b, e, ⟨ka, hka, ea⟩, ⟨kb, hkb, eb⟩, hb⟩ := unR_is hD (n := n) (fun k hk => h k (by omega)) (by omega)
      have ha9 := (h ka (by omega)).2
      have hb9 := (h kb (by omega)).2
      refine ⟨max a (d n), min b (d n), ?_, ?_, ?_, ?_⟩
      · rw [show unR τ p (n + 1) = (i32max (unR τ p n).1 (τ 7 (cl (τ (40 + p) n))), i32min (unR τ p n).2 (τ 7 (cl (τ (40 + p) n)))) from if_neg q, e, hn.1]
        dsimp only
        rw [i32max_nI (by omega) (by omega), i32min_nI (by omega) (by omega)]
      · rcases Nat.le_total a (d n) with z | z
        · exact ⟨n, by omega, by omega⟩
        · exact ⟨ka, by omega, by omega⟩
      · rcases Nat.le_total b (d n) with z | z
        · exact ⟨kb, by omega, by omega⟩
        · exact ⟨n, by omega, by omega⟩
      · intro k hk
        by_cases z : k = n
        · subst z; omega
        · have := hb k (by omega)
          omega
theorem unI_is {τ : wS} {nH p D : Nat} (hD : D < 2 ^ 31) (hd : DB nH D τ) : ∀ {m : Nat}, m ≤ nH →
    ∃ a b, unI τ p m = (nI a, nI b) ∧ a ≤ D ∧ b ≤ 2147483647 ∧ (∀ h, h < m → plc (τ (40 + p)) (nI h) (sz τ p) < sz τ p → b ≤ cl (τ 7 h) ∧ cl (τ 7 h) ≤ a) ∧
      (a = 0 ∨ ∃ h, h < m ∧ plc (τ (40 + p)) (nI h) (sz τ p) < sz τ p ∧ cl (τ 7 h) = a) ∧ (b = 2147483647 ∨ ∃ h, h < m ∧ plc (τ (40 + p)) (nI h) (sz τ p) < sz τ p ∧ cl (τ 7 h) = b)
  | 0, _ => ⟨0, 2147483647, (show ((0 : Int32), (2147483647 : Int32)) = (nI 0, nI 2147483647) by decide), by omega, by omega, fun h hh => absurd hh (by omega), Or.inl rfl, Or.inl rfl⟩
  | m + 1, hm => by
    obtain ⟨a, b, e, ha, hb, hall, h1, h2⟩ := unI_is hD hd (m := m) (by omega)
    obtain ⟨e7, h7⟩ := hd.cl7 hD (show m < nH by omega)
    by_cases q : plc (τ (40 + p)) (nI m) (sz τ p) < sz τ p
    · refine ⟨max a (cl (τ 7 m)), min b (cl (τ 7 m)), ?_, by omega, by omega, ?_, ?_, ?_⟩
      · have e9 : unI τ p (m + 1) = (i32max (unI τ p m).1 (τ 7 m), i32min (unI τ p m).2 (τ 7 m)) := if_pos q
        rw [e9, e]
        dsimp only
        generalize cl (τ 7 m) = k at e7 h7 ⊢
        rw [e7, i32max_nI (by omega) (by omega), i32min_nI (by omega) (by omega)]
      · intro h hh ho
        by_cases z : h = m
        · subst z; omega
        · have := hall h (by omega) ho
          omega
      · rcases Nat.le_total a (cl (τ 7 m)) with z | z
        · exact Or.inr ⟨m, by omega, q, by omega⟩
        · rcases h1 with h1 | ⟨h, hh, ho, eh⟩
          · exact Or.inr ⟨m, by omega, q, by omega⟩
          · exact Or.inr ⟨h, by omega, ho, by omega⟩
      · rcases Nat.le_total b (cl (τ 7 m)) with z | z
        · rcases h2 with h2 | ⟨h, hh, ho, eh⟩
          · exact Or.inl (by omega)
          · exact Or.inr ⟨h, by omega, ho, by omega⟩
        · exact Or.inr ⟨m, by omega, q, by omega⟩
    · refine ⟨a, b, (show unI τ p (m + 1) = unI τ p m from if_neg q).trans e, ha, hb, ?_, ?_, ?_⟩
      · intro h hh ho
        by_cases z : h = m
        · subst z; exact absurd ho q
        · exact hall h (by omega) ho
      · exact h1.imp id (fun ⟨h, hh, r⟩ => ⟨h, by omega, r⟩)
      · exact h2.imp id (fun ⟨h, hh, r⟩ => ⟨h, by omega, r⟩)
theorem unR_unF {τ : wS} {nH nP p D : Nat} (hv : Inv nH nP τ) (hd : DB nH D τ) (hD : D < 2 ^ 31) (hp : p < nP) : (unR τ p (sz τ p)).1 - (unR τ p (sz τ p)).2 = unF nH τ p := by
  obtain ⟨-, -, -, -, -, -, i1, i2⟩ := hv.2.2.2.2.2 p hp
  have hH := hv.1
  unfold unF
  by_cases q : sz τ p = 0
  · rw [if_pos q, q]
    show (0 : Int32) - 0 = 0
    decide
  · rw [if_neg q]
    have hk : ∀ k, k < sz τ p → cl (τ (40 + p) k) < nH ∧ τ (40 + p) k = nI (cl (τ (40 + p) k)) := fun k hk => by
      obtain ⟨h, hh, e⟩ := i1 k hk
      rw [e, show cl (nI h) = h from nI_clamp (by omega)]
      exact ⟨hh, rfl⟩
    obtain ⟨a, b, e, ⟨ka, hka, ea⟩, ⟨kb, hkb, eb⟩, hb⟩ := unR_is (τ := τ) (p := p) (d := fun k => cl (τ 7 (cl (τ (40 + p) k)))) hD (n := sz τ p) (fun k hk9 => hd.cl7 hD (hk k hk9).1) (by omega)
    obtain ⟨a2, b2, e2, ha2, hb2, hall, h1, h2⟩ := unI_is (p := p) hD hd (m := nH) (by omega)
    have on1 : ∀ k, k < sz τ p → plc (τ (40 + p)) (nI (cl (τ (40 + p) k))) (sz τ p) < sz τ p := fun k hk9 => by
      by_cases z : plc (τ (40 + p)) (nI (cl (τ (40 + p) k))) (sz τ p) < sz τ p
      · exact z
      · exact absurd (hk k hk9).2 (plc_all z k hk9)
    have on2 : ∀ h, h < nH → plc (τ (40 + p)) (nI h) (sz τ p) < sz τ p → ∃ k, k < sz τ p ∧ cl (τ (40 + p) k) = h := fun h hh ho => by
      refine ⟨_, ho, ?_⟩
      have := (fnd_lt (fun k => decide (τ (40 + p) k = nI h)) (sz τ p) ho).1
      have e9 : τ (40 + p) (plc (τ (40 + p)) (nI h) (sz τ p)) = nI h := of_decide_eq_true this
      rw [e9]
      exact nI_clamp (by omega)
    have hD1 := (hd.cl7 hD (hk kb hkb).1).2
    have x1 := hall _ (hk ka hka).1 (on1 ka hka)
    have x2 := hall _ (hk kb hkb).1 (on1 kb hkb)
    try dsimp only at ea eb hb
    have ea2 : a2 = a := by
      rcases h1 with h1 | ⟨h, hh, ho, eh⟩
      · omega
      · obtain ⟨k, hk9, ek⟩ := on2 h hh ho
        have := (hb k hk9).2
        rw [ek] at this
        omega
    have eb2 : b2 = b := by
      rcases h2 with h2 | ⟨h, hh, ho, eh⟩
      · omega
      · obtain ⟨k, hk9, ek⟩ := on2 h hh ho
        have := (hb k hk9).1
        rw [ek] at this
        omega
    rw [e, e2, ea2, eb2]
