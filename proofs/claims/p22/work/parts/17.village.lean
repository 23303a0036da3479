/-! ===== a village that is being made ===== -/
def LVw (G : wG) (v9 a1 a2 : Nat) (hh pp rr : Nat → Nat) (i j : Nat) (H : Heap) : Prop :=
  va_at G.1 vwCl (v9, .inr (2, vfs a1 a2 dC)) H ∧ va_at G.1 vwCl (a1, .inl (G.2.2.2.1, 10, .inr (.inr (.inr (.inr (fun h => if h < i then some (hh h) else none)))))) H ∧
  va_at G.1 vwCl (a2, .inl (G.2.2.2.2, 3, .inr (.inr (.inr (.inr (fun p => if p < j then some (pp p) else none)))))) H ∧
  (∀ h, h < i → va_at G.1 vwCl (hh h, .inr (0, hfs dC h)) H) ∧ (∀ p, p < j → va_at G.1 vwCl (pp p, .inr (1, pfs (rr p) dC p)) H ∧ va_at G.1 vwCl (rr p, rArr G.2.1 dC p) H)
def LVo (nz a1 a2 : Nat) (hh pp rr : Nat → Nat) (i j : Nat) : Prop :=
  nz ≤ a1 ∧ a1 < a2 ∧ (∀ h, h < i → a2 < hh h) ∧ (∀ h k, h < k → k < i → hh h < hh k) ∧ (∀ p, p < j → a2 < pp p ∧ pp p < rr p) ∧ (∀ h p, h < i → p < j → hh h < pp p) ∧ ∀ p k, p < k → k < j → rr p < pp k
def LVb (v9 a1 a2 : Nat) (hh pp rr : Nat → Nat) (i j n9 : Nat) : Prop := v9 < n9 ∧ a1 < n9 ∧ a2 < n9 ∧ (∀ h, h < i → hh h < n9) ∧ ∀ p, p < j → pp p < n9 ∧ rr p < n9
section LV
variable {G : wG} {nz v9 a1 a2 i j n9 r9 : Nat} {hh pp rr : Nat → Nat} {H H1 : Heap}
theorem LVw.b (h : LVw G v9 a1 a2 hh pp rr i j H) (e : H.size = n9) : LVb v9 a1 a2 hh pp rr i j n9 := by
  subst e
  exact ⟨h.1.lt, h.2.1.lt, h.2.2.1.lt, fun k hk => (h.2.2.2.1 k hk).lt, fun p hp => ⟨(h.2.2.2.2 p hp).1.lt, (h.2.2.2.2 p hp).2.lt⟩⟩
theorem LVw.kept (h : LVw G v9 a1 a2 hh pp rr i j H) (b : LVb v9 a1 a2 hh pp rr i j n9) (hk : ∀ q : Nat, q < n9 → H1[q]? = H[q]?) : LVw G v9 a1 a2 hh pp rr i j H1 :=
  ⟨h.1.kept (hk _ b.1), h.2.1.kept (hk _ b.2.1), h.2.2.1.kept (hk _ b.2.2.1), fun k hk9 => (h.2.2.2.1 k hk9).kept (hk _ (b.2.2.2.1 k hk9)), fun p hp => ⟨(h.2.2.2.2 p hp).1.kept (hk _ (b.2.2.2.2 p hp).1), (h.2.2.2.2 p hp).2.kept (hk _ (b.2.2.2.2 p hp).2)⟩⟩
theorem LV.addH (hv : v9 < nz) (h : LVw G v9 a1 a2 hh pp rr i 0 H) (o : LVo nz a1 a2 hh pp rr i 0) (b : LVb v9 a1 a2 hh pp rr i 0 n9) (hN : va_at G.1 vwCl (n9, .inr (0, hfs dC i)) H)
    (e1 : va_at G.1 vwCl (a1, .inl (G.2.2.2.1, 10, .inr (.inr (.inr (.inr (va_up (fun h => if h < i then some (hh h) else none) i (some n9))))))) H1) (e3 : ∀ q : Nat, q ≠ a1 → H1[q]? = H[q]?) :
    ∃ hh, LVw G v9 a1 a2 hh pp rr (i + 1) 0 H1 ∧ LVo nz a1 a2 hh pp rr (i + 1) 0 := by
  obtain ⟨o1, o2, o3, o4, o5, o6, o7⟩ := o
  obtain ⟨b1, b2, b3, b4, b5⟩ := b
  refine ⟨fun k => if k = i then n9 else hh k, ⟨h.1.kept (e3 v9 (by omega)), ?_, ?_, ?_, fun p hp => absurd hp (by omega)⟩, o1, o2, ?_, ?_, fun p hp => absurd hp (by omega), fun k p hk hp => absurd hp (by omega), fun p k hp hk => absurd hk (by omega)⟩
  · show H1[a1]? = some (vp_cell _ _)
    rw [arr_sameq (f := fun h => if h < i + 1 then some (if h = i then n9 else hh h) else none) (g := va_up (fun h => if h < i then some (hh h) else none) i (some n9)) (fun k _ => by
      unfold va_up
      by_cases q : k = i
      · rw [if_pos (by omega), if_pos q, if_pos q]
      · rw [if_neg q, if_neg q]
        dsimp only
        by_cases z : k < i
        · rw [if_pos z, if_pos (by omega)]
        · rw [if_neg z, if_neg (by omega)])]
    exact e1
  · show H1[a2]? = some (vp_cell _ _)
    rw [e3 a2 (by omega)]
    exact h.2.2.1
  · intro k hk
    by_cases q : k = i
    · subst q
      dsimp only
      rw [if_pos rfl]
      exact hN.kept (e3 _ (by show n9 ≠ a1; omega))
    · dsimp only
      rw [if_neg q]
      exact (h.2.2.2.1 k (by omega)).kept (e3 _ (by have := o3 k (by omega); show hh k ≠ a1; omega))
  · intro k hk
    dsimp only
    by_cases q : k = i
    · rw [if_pos q]; omega
    · rw [if_neg q]; exact o3 k (by omega)
  · intro k m hk hm
    dsimp only
    rw [if_neg (show ¬ k = i by omega)]
    by_cases q : m = i
    · rw [if_pos q]; exact b4 k (by omega)
    · rw [if_neg q]; exact o4 k m hk (by omega)
theorem LV.addP (hv : v9 < nz) (h : LVw G v9 a1 a2 hh pp rr i j H) (o : LVo nz a1 a2 hh pp rr i j) (b : LVb v9 a1 a2 hh pp rr i j n9) (hr : n9 < r9) (hN : va_at G.1 vwCl (n9, .inr (1, pfs r9 dC j)) H) (hR : va_at G.1 vwCl (r9, rArr G.2.1 dC j) H)
    (e1 : va_at G.1 vwCl (a2, .inl (G.2.2.2.2, 3, .inr (.inr (.inr (.inr (va_up (fun p => if p < j then some (pp p) else none) j (some n9))))))) H1) (e3 : ∀ q : Nat, q ≠ a2 → H1[q]? = H[q]?) :
    ∃ pp rr, LVw G v9 a1 a2 hh pp rr i (j + 1) H1 ∧ LVo nz a1 a2 hh pp rr i (j + 1) := by
  obtain ⟨o1, o2, o3, o4, o5, o6, o7⟩ := o
  obtain ⟨b1, b2, b3, b4, b5⟩ := b
  refine ⟨fun k => if k = j then n9 else pp k, fun k => if k = j then r9 else rr k, ⟨h.1.kept (e3 v9 (by omega)), h.2.1.kept (e3 a1 (by omega)), ?_, fun k hk => (h.2.2.2.1 k hk).kept (e3 _ (by have := o3 k hk; show hh k ≠ a2; omega)), ?_⟩, o1, o2, o3, o4, ?_, ?_, ?_⟩
  · show H1[a2]? = some (vp_cell _ _)
    rw [arr_sameq (f := fun p => if p < j + 1 then some (if p = j then n9 else pp p) else none) (g := va_up (fun p => if p < j then some (pp p) else none) j (some n9)) (fun k _ => by
      unfold va_up
      by_cases q : k = j
      · rw [if_pos (by omega), if_pos q, if_pos q]
      · rw [if_neg q, if_neg q]
        dsimp only
        by_cases z : k < j
        · rw [if_pos z, if_pos (by omega)]
        · rw [if_neg z, if_neg (by omega)])]
    exact e1
  · intro k hk
    by_cases q : k = j
    · subst q
      dsimp only
      rw [if_pos rfl, if_pos rfl]
      exact ⟨hN.kept (e3 _ (by show n9 ≠ a2; omega)), hR.kept (e3 _ (by show r9 ≠ a2; omega))⟩
    · dsimp only
      rw [if_neg q, if_neg q]
      have := o5 k (by omega)
      exact ⟨(h.2.2.2.2 k (by omega)).1.kept (e3 _ (by show pp k ≠ a2; omega)), (h.2.2.2.2 k (by omega)).2.kept (e3 _ (by show rr k ≠ a2; omega))⟩
  · intro k hk
    dsimp only
    by_cases q : k = j
    · rw [if_pos q, if_pos q]; omega
    · rw [if_neg q, if_neg q]; exact o5 k (by omega)
  · intro k p hk hp
    dsimp only
    by_cases q : p = j
    · rw [if_pos q]; exact b4 k hk
    · rw [if_neg q]; exact o6 k p hk (by omega)
  · intro k m hk hm
    dsimp only
    rw [if_neg (show ¬ k = j by omega)]
    by_cases q : m = j
    · rw [if_pos q]; exact (b5 k (by omega)).2
    · rw [if_neg q]; exact o7 k m hk (by omega)
def ad19 (v9 a1 a2 : Nat) (hh pp rr : Nat → Nat) : Nat → Nat := fun k => if k = 0 then v9 else if k = 1 then a1 else if k = 2 then a2 else if k < 13 then hh (k - 3) else if k < 16 then pp (k - 13) else rr (k - 16)
theorem ad19_h {h : Nat} (hk : h < 10) : ad19 v9 a1 a2 hh pp rr (3 + h) = hh h := by
  unfold ad19
  rw [if_neg (by omega), if_neg (by omega), if_neg (by omega), if_pos (by omega), show 3 + h - 3 = h by omega]
theorem ad19_p {h : Nat} (hk : h < 3) : ad19 v9 a1 a2 hh pp rr (13 + h) = pp h := by
  unfold ad19
  rw [if_neg (by omega), if_neg (by omega), if_neg (by omega), if_neg (by omega), if_pos (by omega), show 13 + h - 13 = h by omega]
theorem ad19_r {h : Nat} : ad19 v9 a1 a2 hh pp rr (16 + h) = rr h := by
  unfold ad19
  rw [if_neg (by omega), if_neg (by omega), if_neg (by omega), if_neg (by omega), if_neg (by omega), show 16 + h - 16 = h by omega]
/-- each address behind the first, and where it lies among the others -/
theorem ad19_c (o : LVo nz a1 a2 hh pp rr 10 3) {k : Nat} (hk : k < 19) :
    (k = 0 ∧ ad19 v9 a1 a2 hh pp rr k = v9) ∨ (k = 1 ∧ ad19 v9 a1 a2 hh pp rr k = a1) ∨ (k = 2 ∧ ad19 v9 a1 a2 hh pp rr k = a2) ∨ (∃ h, h < 10 ∧ k = 3 + h ∧ ad19 v9 a1 a2 hh pp rr k = hh h) ∨
    (∃ p, p < 3 ∧ k = 13 + p ∧ ad19 v9 a1 a2 hh pp rr k = pp p) ∨ (∃ p, p < 3 ∧ k = 16 + p ∧ ad19 v9 a1 a2 hh pp rr k = rr p) := by
  rcases (show k = 0 ∨ k = 1 ∨ k = 2 ∨ (3 ≤ k ∧ k < 13) ∨ (13 ≤ k ∧ k < 16) ∨ 16 ≤ k by omega) with q | q | q | q | q | q
  · exact Or.inl ⟨q, by rw [q]; rfl⟩
  · exact Or.inr (Or.inl ⟨q, by rw [q]; rfl⟩)
  · exact Or.inr (Or.inr (Or.inl ⟨q, by rw [q]; rfl⟩))
  · exact Or.inr (Or.inr (Or.inr (Or.inl ⟨k - 3, by omega, by omega, by
      have e9 := ad19_h (v9 := v9) (a1 := a1) (a2 := a2) (hh := hh) (pp := pp) (rr := rr) (h := k - 3) (by omega)
      rwa [show 3 + (k - 3) = k by omega] at e9⟩)))
  · exact Or.inr (Or.inr (Or.inr (Or.inr (Or.inl ⟨k - 13, by omega, by omega, by
      have e9 := ad19_p (v9 := v9) (a1 := a1) (a2 := a2) (hh := hh) (pp := pp) (rr := rr) (h := k - 13) (by omega)
      rwa [show 13 + (k - 13) = k by omega] at e9⟩))))
  · exact Or.inr (Or.inr (Or.inr (Or.inr (Or.inr ⟨k - 16, by omega, by omega, by
      have e9 := ad19_r (v9 := v9) (a1 := a1) (a2 := a2) (hh := hh) (pp := pp) (rr := rr) (h := k - 16)
      rwa [show 16 + (k - 16) = k by omega] at e9⟩))))
theorem LV.done (hv : v9 < nz) (h : LVw G v9 a1 a2 hh pp rr 10 3 H) (o : LVo nz a1 a2 hh pp rr 10 3) : ∃ ad, ad 0 = v9 ∧ adInj ad 19 ∧ (∀ k, 1 ≤ k → k < 19 → nz ≤ ad k) ∧ CV G ad dC H := by
  have o9 := o
  obtain ⟨o1, o2, o3, o4, o5, o6, o7⟩ := o9
  refine ⟨ad19 v9 a1 a2 hh pp rr, rfl, ?_, ?_, ?_⟩
  · intro x y hx hy e
    rcases ad19_c (v9 := v9) o hx with ⟨ex, vx⟩ | ⟨ex, vx⟩ | ⟨ex, vx⟩ | ⟨x1, hx1, ex, vx⟩ | ⟨x1, hx1, ex, vx⟩ | ⟨x1, hx1, ex, vx⟩ <;> rcases ad19_c (v9 := v9) o hy with ⟨ey, vy⟩ | ⟨ey, vy⟩ | ⟨ey, vy⟩ | ⟨y1, hy1, ey, vy⟩ | ⟨y1, hy1, ey, vy⟩ | ⟨y1, hy1, ey, vy⟩ <;> rw [vx, vy] at e
    all_goals (try have A1 := o3 x1 (by omega))
    all_goals (try have A2 := o3 y1 (by omega))
    all_goals (try have A3 := o5 x1 (by omega))
    all_goals (try have A4 := o5 y1 (by omega))
    all_goals (try have A5 := o6 x1 y1 (by omega) (by omega))
    all_goals (try have A6 := o6 y1 x1 (by omega) (by omega))
    all_goals (try (have zz := Nat.lt_trichotomy x1 y1; rcases zz with z | rfl | z))
    all_goals (try have A7 := o4 x1 y1 z (by omega))
    all_goals (try have A8 := o4 y1 x1 z (by omega))
    all_goals (try have A9 := o7 x1 y1 z (by omega))
    all_goals (try have A10 := o7 y1 x1 z (by omega))
    all_goals omega
  · intro k h1 h2
    rcases ad19_c (v9 := v9) o h2 with ⟨ex, vx⟩ | ⟨ex, vx⟩ | ⟨ex, vx⟩ | ⟨x1, hx1, ex, vx⟩ | ⟨x1, hx1, ex, vx⟩ | ⟨x1, hx1, ex, vx⟩ <;> rw [vx]
    · omega
    · omega
    · omega
    · have := o3 x1 hx1; omega
    · have := o5 x1 hx1; omega
    · have := o5 x1 hx1; omega
  · refine ⟨h.1, ?_, ?_, fun k hk => ?_, fun p hp => ?_, fun p hp => ?_⟩
    · show H[a1]? = some (vp_cell _ _)
      rw [arr_sameq (f := fun h => some (ad19 v9 a1 a2 hh pp rr (3 + h))) (g := fun h => if h < 10 then some (hh h) else none) (fun k hk => by rw [if_pos hk, ad19_h hk])]
      exact h.2.1
    · show H[a2]? = some (vp_cell _ _)
      rw [arr_sameq (f := fun h => some (ad19 v9 a1 a2 hh pp rr (13 + h))) (g := fun h => if h < 3 then some (pp h) else none) (fun k hk => by rw [if_pos hk, ad19_p hk])]
      exact h.2.2.1
    · rw [ad19_h hk]; exact h.2.2.2.1 k hk
    · rw [ad19_p hp, ad19_r]; exact (h.2.2.2.2 p hp).1
    · rw [ad19_r]; exact (h.2.2.2.2 p hp).2
end LV
