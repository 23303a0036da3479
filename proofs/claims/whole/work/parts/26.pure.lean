/-! ===== 'open' stands apart: what the keys do, neither reads nor writes column 31 ===== -/
section C31
variable {σ : wS} {i p h d n nP g : Nat} {x e : Int32}
theorem sz31 : sz (wst σ 31 i x) p = sz σ p := by unfold sz; rw [wst_f (by decide)]
theorem tn31 : tn (wst σ 31 i x) p = tn σ p := by unfold tn; rw [wst_f (by decide)]
theorem ro31 : wst σ 31 i x (40 + p) = σ (40 + p) := funext fun k => wst_f (by omega)
theorem strkF31 : strkF p g (wst σ 31 i x) = wst (strkF p g σ) 31 i x := by
  unfold strkF
  rw [sz31, tn31, shF_wst (by omega), wst_comm (f := 31) (g := 26) (by omega), wst_comm (f := 31) (g := 27) (by omega)]
theorem strkH31 : strkH h p (wst σ 31 i x) = wst (strkH h p σ) 31 i x := by
  unfold strkH
  rw [sz31, ro31]
  split
  · exact strkF31
  · rfl
theorem itnH31 : ∀ {n : Nat}, itn (strkH h) n (wst σ 31 i x) = wst (itn (strkH h) n σ) 31 i x
  | 0 => rfl
  | n + 1 => by rw [itn_s, itnH31 (n := n), strkH31, itn_s]
theorem paid31 : paid h e (wst σ 31 i x) = paid h e σ := by unfold paid; rw [wst_f (by decide)]
theorem chg1_31 : chg1 h e (wst σ 31 i x) = wst (chg1 h e σ) 31 i x := by
  unfold chg1
  rw [paid31, wst_f (f := 31) (g := 10) (by decide), wst_f (f := 31) (g := 3) (by decide), wst_f (f := 31) (g := 53) (by decide), wst_comm (f := 31) (g := 10) (by omega), wst_comm (f := 31) (g := 3) (by omega), wst_comm (f := 31) (g := 53) (by omega)]
theorem chg31 : chgF nP h e (wst σ 31 i x) = wst (chgF nP h e σ) 31 i x := by
  unfold chgF
  rw [paid31, wst_f (f := 31) (g := 4) (by decide), chg1_31]
  split
  · split
    · rw [wst_comm (f := 31) (g := 4) (by omega), itnH31]
    · rw [wst_comm (f := 31) (g := 4) (by omega)]
  · rfl
theorem hnd31 : hndF nP p d (wst σ 31 i x) = (wst (hndF nP p d σ).1 31 i x, (hndF nP p d σ).2) := by
  have o : ∀ f j, f ≠ 31 → wst σ 31 i x f j = σ f j := fun f j q => wst_f q
  unfold hndF
  simp only [o 25 _ (by decide), o 6 _ (by decide), o 9 _ (by decide), o 2 _ (by decide)]
  split
  · rfl
  · split
    · split
      · rw [wst_comm (f := 31) (g := 9) (by omega), chg31]
      · rw [wst_comm (f := 31) (g := 9) (by omega)]
    · rw [chg31]
theorem dtyK31 : dtyK (wst σ 31 i x) p = dtyK σ p := by
  have o : ∀ f j, f ≠ 31 → wst σ 31 i x f j = σ f j := fun f j q => wst_f q
  unfold dtyK
  simp only [sz31, tn31, ro31, o 6 _ (by decide)]
theorem dtyP31 : dtyP (wst σ 31 i x) p = dtyP σ p := by unfold dtyP; rw [dtyK31, sz31, tn31]
theorem dtyH31 : dtyH (wst σ 31 i x) p = dtyH σ p := by unfold dtyH; rw [dtyP31, ro31]
theorem trn31 : trnF p (wst σ 31 i x) = wst (trnF p σ) 31 i x := by
  unfold trnF
  rw [dtyP31, sz31, wst_comm (f := 31) (g := 27) (by omega)]
theorem opnY31 : opnY p d (wst σ 31 i x) = wst (opnY p d σ) 31 i x := by
  unfold opnY
  rw [wst_f (f := 31) (g := 28) (by decide), wst_f (f := 31) (g := 7) (by decide), wst_comm (f := 31) (g := 25) (by omega), wst_comm (f := 31) (g := 28) (by omega), wst_comm (f := 31) (g := 7) (by omega)]
theorem opn31 : opnF nP p (wst σ 31 i x) = (wst (opnF nP p σ).1 31 i x, (opnF nP p σ).2) := by
  unfold opnF
  rw [dtyK31, sz31, dtyH31, trn31, hnd31]
  split
  · split
    · rw [opnY31]
    · rfl
  · rfl
theorem opn_01 : (opnF nP p σ).2 = 0 ∨ (opnF nP p σ).2 = 1 := by
  unfold opnF
  (repeat' split) <;> first | exact Or.inl rfl | exact Or.inr rfl
theorem keyF_eq : wst (opnF nP p (wst σ 32 p 0)).1 31 p (opnF nP p (wst σ 32 p 0)).2 = keyF nP p σ := by
  unfold keyF
  rw [wst_comm (f := 31) (g := 32) (by omega), opn31]
  rcases opn_01 (nP := nP) (p := p) (σ := wst σ 32 p 0) with q | q
  · rw [if_neg (by rw [q]; decide), q]
  · rw [if_pos q, q, wst_wst]
end C31
/-! ===== what is drawn, by the buckets of the pumps ===== -/
def dwn (nP : Nat) (σ : wS) : Int32 := sm (fun h => σ 29 h) nP
theorem sm_congr {f g : Nat → Int32} : ∀ {n : Nat}, (∀ k, k < n → f k = g k) → sm f n = sm g n
  | 0, _ => rfl
  | n + 1, h => by
    show sm f n + f n = sm g n + g n
    rw [sm_congr (n := n) (fun k hk => h k (by omega)), h n (by omega)]
theorem sm_upd {σ : wS} {q f : Nat} {y : Int32} : ∀ {n : Nat}, q < n → sm (fun h => wst σ f q (σ f q + y) f h) n = sm (fun h => σ f h) n + y
  | 0, h => absurd h (by omega)
  | n + 1, h => by
    show sm (fun h => wst σ f q (σ f q + y) f h) n + wst σ f q (σ f q + y) f n = sm (fun h => σ f h) n + σ f n + y
    by_cases e : q = n
    · subst e
      rw [wst_s, sm_congr (f := fun h => wst σ f q (σ f q + y) f h) (g := fun h => σ f h) (fun k hk => wst_i (by omega)), Int32.add_assoc]
    · rw [sm_upd (n := n) (by omega), wst_i (by omega), Int32.add_assoc, Int32.add_assoc, Int32.add_comm y]
theorem chg_29 {nP h p i : Nat} {e : Int32} {σ : wS} : chgF nP h e σ 29 i = σ 29 i := by
  have s1 : ∀ k (x : wS), strkH h k x 29 i = x 29 i := fun k x => by
    unfold strkH
    split
    · unfold strkF
      rw [wst_f (by omega), wst_f (by omega), shF_o (by omega)]
    · rfl
  have c1 : chg1 h e σ 29 i = σ 29 i := by
    unfold chg1
    rw [wst_f (by omega), wst_f (by omega), wst_f (by omega)]
  unfold chgF
  split
  · split
    · rw [itn_col s1, wst_f (by omega), c1]
    · rw [wst_f (by omega), c1]
  · exact c1
theorem dwn_dr {nP h q : Nat} {x : Int32} {σ : wS} (hq : q < nP) : dwn nP (drF nP h q x σ) = dwn nP σ + ownF q x σ := by
  have d1 : ∀ y, dwn nP (dr1 q y σ) = dwn nP σ + y := fun y => by
    show sm (fun h => dr1 q y σ 29 h) nP = sm (fun h => σ 29 h) nP + y
    have e : ∀ k, dr1 q y σ 29 k = wst σ 29 q (σ 29 q + y) 29 k := fun k => by
      unfold dr1
      rw [wst_f (f := 22) (by omega)]
      unfold wst
      simp
    rw [sm_congr (f := fun h => dr1 q y σ 29 h) (g := fun h => wst σ 29 q (σ 29 q + y) 29 h) (fun k _ => e k), sm_upd hq]
  unfold drF
  split
  · rename_i z
    rw [z, Int32.add_zero]
  · split
    · exact d1 _
    · show sm (fun k => chgF nP h 5 _ 29 k) nP = _
      rw [← d1]
      exact sm_congr (fun k _ => by rw [chg_29 (p := 0), wst_f (by omega), wst_f (by omega), wst_f (by omega)])
theorem dwn_drI {nP h : Nat} {x : Int32} {σ : wS} (hn : 0 < nP) : ∀ k, dwn nP (drI nP h k (σ, x)).1 + (drI nP h k (σ, x)).2 = dwn nP σ + x
  | 0 => rfl
  | k + 1 => by
    have ih := dwn_drI (h := h) (x := x) (σ := σ) hn k
    show dwn nP (drF nP h (fq nP h k (drI nP h k (σ, x)).1) (drI nP h k (σ, x)).2 (drI nP h k (σ, x)).1) + ((drI nP h k (σ, x)).2 - ownF (fq nP h k (drI nP h k (σ, x)).1) (drI nP h k (σ, x)).2 (drI nP h k (σ, x)).1) = _
    rw [dwn_dr (by unfold fq; exact Nat.mod_lt _ hn), ← ih]
    generalize dwn nP (drI nP h k (σ, x)).1 = a
    generalize ownF (fq nP h k (drI nP h k (σ, x)).1) (drI nP h k (σ, x)).2 (drI nP h k (σ, x)).1 = b
    generalize (drI nP h k (σ, x)).2 = c
    rw [Int32.sub_eq_add_neg, ← Int32.add_assoc, Int32.add_assoc a b c, Int32.add_comm b c, ← Int32.add_assoc a c b, Int32.add_assoc, Int32.add_right_neg, Int32.add_zero]
/-- what a house draws is what the pumps give -/
theorem dwn_drw {nP h : Nat} {σ : wS} (h6 : σ 6 h = 0) : ndF σ h - (drI nP h nP (σ, ndF σ h)).2 = dwn nP (drwF nP h σ) - dwn nP σ := by
  have e : dwn nP (drwF nP h σ) = dwn nP (drI nP h nP (σ, ndF σ h)).1 := by
    unfold drwF
    rw [if_pos h6]
    exact sm_congr (fun k _ => wst_f (by omega))
  rw [e]
  rcases Nat.eq_zero_or_pos nP with q | q
  · subst q
    show ndF σ h - ndF σ h = dwn 0 σ - dwn 0 σ
    rw [Int32.sub_self, Int32.sub_self]
  · have a := dwn_drI (h := h) (x := ndF σ h) (σ := σ) q nP
    have b : dwn nP (drI nP h nP (σ, ndF σ h)).1 = dwn nP σ + ndF σ h - (drI nP h nP (σ, ndF σ h)).2 := by rw [← a, Int32.add_sub_cancel]
    rw [b]
    generalize dwn nP σ = u
    generalize ndF σ h = v
    generalize (drI nP h nP (σ, v)).2 = w
    rw [Int32.sub_eq_add_neg, Int32.sub_eq_add_neg, Int32.sub_eq_add_neg, Int32.add_comm u v, Int32.add_assoc, Int32.add_assoc, Int32.add_comm u, Int32.add_assoc, Int32.add_left_neg, Int32.add_zero]
