/-! ===== what a day does, in numbers ===== -/
/-- the first place below n where P holds, else n -/
def fnd (P : Nat → Bool) : Nat → Nat
  | 0 => 0
  | n + 1 => if fnd P n < n then fnd P n else if P n = true then n else n + 1
theorem fnd_le (P : Nat → Bool) : ∀ n, fnd P n ≤ n
  | 0 => Nat.le_refl 0
  | n + 1 => by
    have := fnd_le P n
    unfold fnd
    split
    · omega
    · split <;> omega
theorem fnd_lt (P : Nat → Bool) : ∀ n, fnd P n < n → P (fnd P n) = true ∧ ∀ j, j < fnd P n → P j = false
  | 0, h => absurd h (by omega)
  | n + 1, h => by
    have ih := fnd_lt P n
    have hl := fnd_le P n
    have key : ¬ fnd P n < n → ∀ j, j < n → P j = false := fun hn => fnd_ge P n (by omega)
    unfold fnd at h ⊢
    split
    · rename_i h1
      exact ih h1
    · rename_i h1
      split
      · rename_i h2
        exact ⟨h2, fun j hj => key h1 j hj⟩
      · rename_i h2
        rw [if_neg h1, if_neg h2] at h
        omega
where
  fnd_ge (P : Nat → Bool) : ∀ n, n ≤ fnd P n → ∀ j, j < n → P j = false
  | 0, _, j, hj => absurd hj (by omega)
  | n + 1, h, j, hj => by
    have hl := fnd_le P n
    unfold fnd at h
    split at h
    · omega
    · split at h
      · omega
      · rename_i h1 h2
        by_cases q : j = n
        · subst q
          exact Bool.eq_false_iff.mpr h2
        · exact fnd_ge P n (by omega) j (by omega)
theorem fnd_none {P : Nat → Bool} : ∀ {n : Nat}, (∀ j, j < n → P j = false) → fnd P n = n
  | 0, _ => rfl
  | n + 1, h => by
    have e := fnd_none (P := P) (n := n) (fun j hj => h j (by omega))
    unfold fnd
    rw [e, if_neg (by omega), if_neg (by rw [h n (by omega)]; decide)]
theorem fnd_hit {P : Nat → Bool} {k : Nat} (h : P k = true) (hb : ∀ j, j < k → P j = false) : ∀ {n : Nat}, k < n → fnd P n = k
  | 0, hk => absurd hk (by omega)
  | n + 1, hk => by
    unfold fnd
    by_cases q : k = n
    · subst q
      rw [fnd_none hb, if_neg (by omega), if_pos h]
    · rw [fnd_hit h hb (n := n) (by omega), if_pos (by omega)]
def plc (f : Nat → Int32) (x : Int32) (n : Nat) : Nat := fnd (fun k => decide (f k = x)) n
def plI (k n : Nat) : Int32 := if k < n then nI k else -1
theorem plc_hit {f : Nat → Int32} {x : Int32} {n k : Nat} (hk : k < n) (h : f k = x) (hb : ∀ j, j < k → ¬ f j = x) : plI (plc f x n) n = nI k := by
  have e : plc f x n = k := fnd_hit (by simpa using h) (fun j hj => by simpa using hb j hj) hk
  rw [e]
  exact if_pos hk
theorem plc_none {f : Nat → Int32} {x : Int32} {n : Nat} (hb : ∀ j, j < n → ¬ f j = x) : plI (plc f x n) n = -1 := by
  have e : plc f x n = n := fnd_none (fun j hj => by simpa using hb j hj)
  rw [e]
  exact if_neg (by omega)
/-- f at 0, 1 .. n - 1, one after the other -/
def itn (f : Nat → wS → wS) : Nat → wS → wS
  | 0, σ => σ
  | n + 1, σ => f n (itn f n σ)
theorem itn_s (f : Nat → wS → wS) (n : Nat) (σ : wS) : itn f (n + 1) σ = f n (itn f n σ) := rfl
def sm (f : Nat → Int32) : Nat → Int32
  | 0 => 0
  | n + 1 => sm f n + f n
def sz (σ : wS) (p : Nat) : Nat := (σ 26 p).toNatClampNeg
def tn (σ : wS) (p : Nat) : Nat := (σ 27 p).toNatClampNeg
def i32min (a b : Int32) : Int32 := if b < a then b else a
/-- the houses lay -/
def layF (h : Nat) (σ : wS) : wS := if σ 6 h = 0 then wst σ 3 h (σ 3 h + σ 1 h) else σ
/-- places g .. j - 1 of a roster come up -/
def shF (p g j : Nat) (σ : wS) : wS := fun f i => if f = 40 + p ∧ g ≤ i ∧ i < j then σ f (i + 1) else σ f i
def strT (g t n : Nat) : Nat := if n - 1 ≤ (if g < t then t - 1 else t) then 0 else (if g < t then t - 1 else t)
/-- place g of roster p is struck -/
def strkF (p g : Nat) (σ : wS) : wS := wst (wst (shF p g (sz σ p - 1) σ) 26 p (nI (sz σ p - 1))) 27 p (nI (strT g (tn σ p) (sz σ p)))
def strkH (h p : Nat) (σ : wS) : wS := if plc (σ (40 + p)) (nI h) (sz σ p) < sz σ p then strkF p (plc (σ (40 + p)) (nI h) (sz σ p)) σ else σ
/-- a fine -/
def paid (h : Nat) (e : Int32) (σ : wS) : Int32 := i32min e (σ 3 h)
def chg1 (h : Nat) (e : Int32) (σ : wS) : wS := wst (wst (wst σ 10 h (σ 10 h + e)) 3 h (σ 3 h - paid h e σ)) 53 0 (σ 53 0 + paid h e σ)
def chgF (nP h : Nat) (e : Int32) (σ : wS) : wS :=
  if paid h e σ < e ∧ σ 4 h < 3 then (if σ 4 h + 1 = 3 then itn (strkH h) nP (wst (chg1 h e σ) 4 h (σ 4 h + 1)) else wst (chg1 h e σ) 4 h (σ 4 h + 1)) else chg1 h e σ
/-- whose turn it is: how many places on from the turn -/
def dtyK (σ : wS) (p : Nat) : Nat := fnd (fun k => decide (σ 6 (σ (40 + p) ((tn σ p + k) % sz σ p)).toNatClampNeg = 0)) (sz σ p)
def dtyP (σ : wS) (p : Nat) : Nat := (tn σ p + dtyK σ p) % sz σ p
def dtyH (σ : wS) (p : Nat) : Nat := (σ (40 + p) (dtyP σ p)).toNatClampNeg
/-- the pump is opened by house h -/
def opnY (p h : Nat) (σ : wS) : wS := wst (wst (wst σ 25 p (nI h)) 28 p (σ 28 p + 1)) 7 h (σ 7 h + 1)
/-- does the one who has the key hand it on: the state, and whether -/
def hndF (nP p h : Nat) (σ : wS) : wS × Int32 :=
  if σ 25 p = -1 ∨ σ 25 p = nI h then (σ, 1)
  else if σ 6 (σ 25 p).toNatClampNeg = 0 then
    (if σ 9 (σ 25 p).toNatClampNeg + 1 - (σ 9 (σ 25 p).toNatClampNeg + 1) / σ 2 (σ 25 p).toNatClampNeg * σ 2 (σ 25 p).toNatClampNeg = 0 then (chgF nP (σ 25 p).toNatClampNeg 3 (wst σ 9 (σ 25 p).toNatClampNeg (σ 9 (σ 25 p).toNatClampNeg + 1)), 0) else (wst σ 9 (σ 25 p).toNatClampNeg (σ 9 (σ 25 p).toNatClampNeg + 1), 1))
  else (chgF nP (σ 25 p).toNatClampNeg 3 σ, 0)
def trnF (p : Nat) (σ : wS) : wS := wst σ 27 p (nI ((dtyP σ p + 1) % sz σ p))
def opnF (nP p : Nat) (σ : wS) : wS × Int32 :=
  if dtyK σ p < sz σ p then
    (if (hndF nP p (dtyH σ p) (trnF p σ)).2 = 1 then (opnY p (dtyH σ p) (hndF nP p (dtyH σ p) (trnF p σ)).1, 1) else ((hndF nP p (dtyH σ p) (trnF p σ)).1, 0))
  else (σ, 0)
/-- the keys of pump p -/
def keyF (nP p : Nat) (σ : wS) : wS :=
  if (opnF nP p (wst (wst σ 31 p 0) 32 p 0)).2 = 1 then wst (opnF nP p (wst (wst σ 31 p 0) 32 p 0)).1 31 p 1 else (opnF nP p (wst (wst σ 31 p 0) 32 p 0)).1
/-- what a house draws from pump q -/
def ownF (q : Nat) (left : Int32) (σ : wS) : Int32 := if σ 31 q = 0 ∨ ¬ σ 23 q = 0 then 0 else i32min left (σ 20 q)
def dr1 (q : Nat) (x : Int32) (σ : wS) : wS := wst (wst (wst σ 20 q (σ 20 q - x)) 29 q (σ 29 q + x)) 22 q (σ 22 q + x)
def drF (nP h q : Nat) (left : Int32) (σ : wS) : wS :=
  if ownF q left σ = 0 then σ
  else if σ 22 q + ownF q left σ < 100 then dr1 q (ownF q left σ) σ
  else chgF nP h 5 (wst (wst (wst (dr1 q (ownF q left σ) σ) 23 q 1) 32 q 1) 24 q 3)
def fq (nP h k : Nat) (σ : wS) : Nat := ((σ 5 h).toNatClampNeg + k) % nP
def ndF (σ : wS) (h : Nat) : Int32 := 2 + σ 0 h
/-- the pumps 0 .. k - 1 in the order of house h: the state, and what is left -/
def drI (nP h : Nat) : Nat → wS × Int32 → wS × Int32
  | 0, x => x
  | k + 1, x => (drF nP h (fq nP h k (drI nP h k x).1) (drI nP h k x).2 (drI nP h k x).1, (drI nP h k x).2 - ownF (fq nP h k (drI nP h k x).1) (drI nP h k x).2 (drI nP h k x).1)
def drwF (nP h : Nat) (σ : wS) : wS := if σ 6 h = 0 then wst (drI nP h nP (σ, ndF σ h)).1 8 h ((drI nP h nP (σ, ndF σ h)).1 8 h + (drI nP h nP (σ, ndF σ h)).2) else σ
/-- the handle of pump p -/
def w1F (p : Nat) (σ : wS) : wS := if 0 < σ 24 p then wst σ 24 p (σ 24 p - 1) else σ
def wrkF (p : Nat) (σ : wS) : wS :=
  if w1F p σ 24 p = 0 ∧ 10 ≤ σ 53 0 then wst (wst (wst (wst (w1F p σ) 53 0 (σ 53 0 - 10)) 23 p 0) 22 p 0) 30 p (σ 30 p + 1) else w1F p σ
def mndF (p : Nat) (σ : wS) : wS := if σ 23 p = 0 ∨ ¬ σ 32 p = 0 then σ else wrkF p σ
def filF (p : Nat) (σ : wS) : wS := wst σ 20 p (i32min 200 (σ 20 p + σ 21 p))
def unm (σ : wS) (n : Nat) : Int32 := sm (fun h => if σ 4 h = 0 then 1 else 0) n
def shrH (each : Int32) (h : Nat) (σ : wS) : wS := if σ 4 h = 0 then wst σ 3 h (σ 3 h + each) else σ
def eachF (nH : Nat) (σ : wS) : Int32 := (σ 53 0 - 20) / unm σ nH
def shrF (nH : Nat) (σ : wS) : wS :=
  if ¬ σ 50 0 - σ 50 0 / 7 * 7 = 6 ∨ σ 53 0 ≤ 20 ∨ unm σ nH = 0 then σ else wst (itn (shrH (eachF nH σ)) nH σ) 53 0 (σ 53 0 - eachF nH σ * unm σ nH)
def bckF (h : Nat) (σ : wS) : wS := if σ 6 h = 0 then σ else wst σ 6 h (σ 6 h - 1)
def endF (nH : Nat) (σ : wS) : wS := wst (itn bckF nH σ) 50 0 (σ 50 0 + 1)
/-- a day -/
def dayF (nH nP : Nat) (σ : wS) : wS := endF nH (shrF nH (itn filF nP (itn mndF nP (itn (drwF nP) nH (itn (keyF nP) nP (itn layF nH σ))))))
def dysF (nH nP : Nat) (n : Nat) (σ : wS) : wS := itn (fun _ => dayF nH nP) n σ
/-! ===== what holds of a village ===== -/
def InvP (nH : Nat) (τ : wS) (p : Nat) : Prop :=
  (τ 23 p = 0 ∨ τ 23 p = 1) ∧ (τ 23 p = 0 → τ 22 p < 100) ∧ (∃ k, k ≤ 3 ∧ τ 24 p = nI k) ∧ (τ 25 p = -1 ∨ ∃ k, k < nH ∧ τ 25 p = nI k) ∧
  (sz τ p ≤ 10 ∧ τ 26 p = nI (sz τ p)) ∧ (τ 27 p = nI (tn τ p) ∧ (tn τ p < sz τ p ∨ (sz τ p = 0 ∧ tn τ p = 0))) ∧
  (∀ k, k < sz τ p → ∃ h, h < nH ∧ τ (40 + p) k = nI h) ∧ ∀ j k, j < k → k < sz τ p → ¬ τ (40 + p) j = τ (40 + p) k
def InvH (nP : Nat) (τ : wS) (h : Nat) : Prop :=
  (∃ k, 1 ≤ k ∧ k ≤ 9 ∧ τ 2 h = nI k) ∧ (∃ k, k ≤ 30 ∧ τ 6 h = nI k) ∧ (∃ k, (k < nP ∨ k = 0) ∧ τ 5 h = nI k) ∧ ∃ k, k ≤ 3 ∧ τ 4 h = nI k
def Inv (nH nP : Nat) (τ : wS) : Prop := nH ≤ 10 ∧ nP ≤ 3 ∧ τ 51 0 = nI nH ∧ τ 52 0 = nI nP ∧ (∀ h, h < nH → InvH nP τ h) ∧ ∀ p, p < nP → InvP nH τ p
theorem InvP.congr {nH p : Nat} {σ τ : wS} (h : InvP nH σ p) (h1 : ∀ f, 22 ≤ f → f ≤ 27 → τ f p = σ f p) (h2 : τ (40 + p) = σ (40 + p)) : InvP nH τ p := by
  have e1 : sz τ p = sz σ p := by unfold sz; rw [h1 26 (by omega) (by omega)]
  have e2 : tn τ p = tn σ p := by unfold tn; rw [h1 27 (by omega) (by omega)]
  unfold InvP at h ⊢
  rw [e1, e2, h2, h1 22 (by omega) (by omega), h1 23 (by omega) (by omega), h1 24 (by omega) (by omega), h1 25 (by omega) (by omega), h1 26 (by omega) (by omega), h1 27 (by omega) (by omega)]
  exact h
theorem InvH.congr {nP i : Nat} {σ τ : wS} (h : InvH nP σ i) (h2 : τ 2 i = σ 2 i) (h4 : τ 4 i = σ 4 i) (h5 : τ 5 i = σ 5 i) (h6 : τ 6 i = σ 6 i) : InvH nP τ i := by
  unfold InvH at h ⊢
  rw [h2, h4, h5, h6]
  exact h
/-- a column that Inv doesn't speak of -/
theorem Inv.free {nH nP f i : Nat} {τ : wS} {x : Int32} (h : Inv nH nP τ) (hf : f = 0 ∨ f = 1 ∨ f = 3 ∨ f = 7 ∨ f = 8 ∨ f = 9 ∨ f = 10 ∨ f = 20 ∨ f = 21 ∨ f = 28 ∨ f = 29 ∨ f = 30 ∨ f = 31 ∨ f = 32 ∨ f = 50 ∨ f = 53) : Inv nH nP (wst τ f i x) := by
  obtain ⟨a, b, c, d, e, g⟩ := h
  refine ⟨a, b, by rw [wst_f (by omega)]; exact c, by rw [wst_f (by omega)]; exact d, fun k hk => (e k hk).congr (wst_f (by omega)) (wst_f (by omega)) (wst_f (by omega)) (wst_f (by omega)), fun p hp => (g p hp).congr (fun k h1 h2 => wst_f (by omega)) (funext fun k => wst_f (by omega))⟩
