/-! ===== p22: bits of a set of houses, a quotient that isn't negative, what the law draws from its script ===== -/
def bt (x : Int32) (i : Nat) : Bool := x.toBitVec.getLsbD i
theorem b_or (x y : Int32) (i : Nat) : bt (x ||| y) i = (bt x i || bt y i) := by unfold bt; rw [Int32.toBitVec_or, BitVec.getLsbD_or]
theorem b_and (x y : Int32) (i : Nat) : bt (x &&& y) i = (bt x i && bt y i) := by unfold bt; rw [Int32.toBitVec_and, BitVec.getLsbD_and]
theorem b_0 (i : Nat) : bt 0 i = false := BitVec.getLsbD_zero
theorem b_one : ∀ i, i < 32 → bt 1 i = decide (i = 0) := by decide +kernel
theorem s_l : ∀ n, n < 32 → ((nI n &&& 31).toBitVec.smod 32).toNat = n := by decide +kernel
theorem b_shl (n : Nat) (hn : n < 32) (x : Int32) {i : Nat} (hi : i < 32) : bt (x <<< (nI n &&& 31)) i = (decide (n ≤ i) && bt x (i - n)) := by
  unfold bt
  rw [Int32.toBitVec_shiftLeft]
  show (x.toBitVec <<< ((nI n &&& 31).toBitVec.smod 32).toNat).getLsbD i = _
  rw [s_l n hn, BitVec.getLsbD_shiftLeft]
  rcases Nat.lt_or_ge i n with h | h
  · simp [h, Nat.not_le.mpr h]
  · simp [hi, h, Nat.not_lt.mpr h]
theorem b_sshr (n : Nat) (hn : n < 32) (x : Int32) {i : Nat} (hi : i < 32) : bt (x >>> (nI n &&& 31)) i = if n + i < 32 then bt x (n + i) else bt x 31 := by
  unfold bt
  rw [Int32.toBitVec_shiftRight]
  show (x.toBitVec.sshiftRight ((nI n &&& 31).toBitVec.smod 32).toNat).getLsbD i = _
  rw [s_l n hn, BitVec.getLsbD_sshiftRight, BitVec.msb_eq_getLsbD_last]
  simp [hi]
/-- the houses at the places below k, as bits -/
def onF (f : Nat → Int32) : Nat → Int32
  | 0 => 0
  | k + 1 => onF f k ||| ((1 : Int32) <<< (f k &&& 31))
theorem on_bt {f : Nat → Int32} {i : Nat} (hi : i < 32) : ∀ {k : Nat}, (∀ j, j < k → ∃ m, m < 10 ∧ f j = nI m) → bt (onF f k) i = true → ∃ j, j < k ∧ f j = nI i
  | 0, _, h => by
    rw [show onF f 0 = 0 from rfl, b_0] at h
    cases h
  | k + 1, hf, h => by
    rw [show onF f (k + 1) = onF f k ||| ((1 : Int32) <<< (f k &&& 31)) from rfl, b_or] at h
    rcases Bool.or_eq_true _ _ ▸ h with a | a
    · obtain ⟨j, hj, e⟩ := on_bt hi (k := k) (fun j hj => hf j (by omega)) a
      exact ⟨j, by omega, e⟩
    · obtain ⟨m, hm, e⟩ := hf k (by omega)
      rw [e, b_shl m (by omega) 1 hi, b_one _ (by omega)] at a
      have a2 := Bool.and_eq_true _ _ ▸ a
      have h1 := of_decide_eq_true a2.1
      have h2 := of_decide_eq_true a2.2
      exact ⟨k, by omega, by rw [e, show m = i by omega]⟩
theorem on_free {f : Nat → Int32} {k m : Nat} (hf : ∀ j, j < k → ∃ m, m < 10 ∧ f j = nI m) (hm : m < 10) (hn : ∀ j, j < k → ¬ f j = nI m) : ¬ (onF f k >>> (nI m &&& 31)) &&& 1 = 1 := fun e => by
  have h : bt ((onF f k >>> (nI m &&& 31)) &&& 1) 0 = bt 1 0 := congrArg (fun x => bt x 0) e
  rw [b_and, b_sshr m (by omega) _ (by omega), if_pos (by omega), b_one 0 (by omega), Nat.add_zero, decide_eq_true rfl, Bool.and_true] at h
  obtain ⟨j, hj, e9⟩ := on_bt (by omega) hf h
  exact hn j hj e9
/-! doubles: a number that isn't negative -/
def dPos : FP.Core.Datum → Prop
  | .nan => True
  | .inf s => s = false
  | .fin s _ _ => s = false
theorem dp_bound (f : FP.Core.Fmt) (c : Nat) (q : Int) : dPos (FP.Core.bound f false c q) := by
  unfold FP.Core.bound
  split <;> exact rfl
theorem dp_ratio (f : FP.Core.Fmt) (num den : Nat) (e : Int) : dPos (FP.Core.roundRatio f false num den e) := by
  unfold FP.Core.roundRatio
  split
  · exact rfl
  · unfold FP.Core.roundAt FP.Core.settle
    split
    · exact dp_bound _ _ _
    · exact dp_bound _ _ _
theorem dp_quot {f : FP.Core.Fmt} {x y : FP.Core.Datum} (hx : dPos x) (hy : dPos y) : dPos (FP.Core.quotient f x y) := by
  cases x with
  | nan => cases y <;> exact trivial
  | inf s =>
    have hs : s = false := hx
    subst hs
    cases y with
    | nan => exact trivial
    | inf t => exact trivial
    | fin t d r =>
      have ht : t = false := hy
      subst ht
      exact rfl
  | fin s c q =>
    have hs : s = false := hx
    subst hs
    cases y with
    | nan => exact trivial
    | inf t =>
      have ht : t = false := hy
      subst ht
      exact rfl
    | fin t d r =>
      have ht : t = false := hy
      subst ht
      show dPos (if d = 0 then (if c = 0 then FP.Core.Datum.nan else .inf (false != false)) else FP.Core.roundRatio f (false != false) c d (q - r))
      split
      · split
        · exact trivial
        · exact rfl
      · exact dp_ratio _ _ _ _
theorem dp_i2d {a : Int32} (h : 0 ≤ a.toInt) : dPos (FP.Core.val64 (FP.i2d a)) := by
  rw [show FP.Core.val64 (FP.i2d a) = FP.Core.round FP.Core.b64 (FP.Core.ofInt a.toInt) from FP.Core.val64_i2d a]
  unfold FP.Core.ofInt
  rw [decide_eq_false (show ¬ a.toInt < 0 by omega)]
  exact dp_ratio _ _ _ _
theorem cmp_int {a b : Int} (h : b ≤ a) : compare a b ≠ .lt := fun e => by
  rw [show compare a b = compareOfLessAndEq a b from rfl] at e
  unfold compareOfLessAndEq at e
  split at e
  · omega
  · split at e <;> cases e
theorem dp_zero {x : FP.Core.Datum} {r : Int} (hx : dPos x) : FP.Core.order x (.fin false 0 r) ≠ some .lt := by
  cases x with
  | nan => exact fun e => by cases e
  | inf s =>
    have hs : s = false := hx
    subst hs
    intro e
    exact cmp_int (a := 1) (b := 0) (by omega) (Option.some.inj e)
  | fin s c q =>
    have hs : s = false := hx
    subst hs
    intro e
    refine cmp_int (a := FP.Core.signed false (FP.Core.inUnits c q (min q r))) (b := FP.Core.signed false (FP.Core.inUnits 0 r (min q r))) ?_ (Option.some.inj e)
    rw [show FP.Core.inUnits 0 r (min q r) = 0 from Nat.zero_mul _]
    show ((0 : Nat) : Int) ≤ ((FP.Core.inUnits c q (min q r) : Nat) : Int)
    exact Int.natCast_nonneg _
theorem val_0 : FP.Core.val64 FP.dconst0 = .fin false 0 FP.Core.b64.qmin := by decide +kernel
theorem dly_cmp {x : UInt64} (h : dPos (FP.Core.val64 x)) : ¬ Op.cmpValue (FP.dcmp x FP.dconst0) .g < 0 := by
  have h1 : FP.dcmp x FP.dconst0 ≠ some .lt := by
    show FP.Core.order (FP.Core.val64 x) (FP.Core.val64 FP.dconst0) ≠ _
    rw [val_0]
    exact dp_zero h
  rcases hr : FP.dcmp x FP.dconst0 with _ | o
  · decide
  · cases o with
    | lt => exact absurd hr h1
    | eq => decide
    | gt => decide
theorem dly_pos {nP : Nat} {τ : wS} (h1 : 0 ≤ (sm (fun h => τ 29 h) nP).toInt) (h2 : 0 ≤ (τ 50 0).toInt) : dPos (FP.Core.val64 (dlyF nP τ)) := by
  unfold dlyF
  split
  · rw [val_0]
    exact rfl
  · rw [show FP.Core.val64 (FP.ddiv (FP.i2d (sm (fun h => τ 29 h) nP)) (FP.i2d (τ 50 0))) = _ from FP.Core.val64_ddiv _ _]
    exact dp_quot (dp_i2d h1) (dp_i2d h2)
/-! the law's own numbers -/
def blF (v : Int32) (n : Nat) : Nat := v.toBitVec.toNat % 2 ^ 31 % n
theorem blF_lt {v : Int32} {n : Nat} (h : 0 < n) : blF v n < n := Nat.mod_lt _ h
def clF (xs : Nat → Int32) (L k : Nat) : Int32 := if k < L then xs k else 790386105 * (nI k + 3)
theorem pOk_of {k nP : Nat} (h : k < nP) (hP : nP ≤ 3) : pOk nP (nI k) := ⟨nI_pos (by omega), (nI_ltI (by omega) (by omega)).mpr h⟩
theorem hOk_of {k nH : Nat} (h : k < nH) (hH : nH ≤ 10) : hOk nH (nI k) := ⟨nI_pos (by omega), nI_ge h (by omega)⟩
theorem inn_of {lo hi k : Nat} (h1 : lo ≤ k) (h2 : k ≤ hi) (h3 : hi < 2 ^ 31) : inn (nI lo) (nI hi) (nI k) := ⟨fun q => by rw [nI_ltI (by omega) (by omega)] at q; omega, (nI_leI (by omega) (by omega)).mpr h2⟩
theorem plOk_of {nP p k : Nat} {τ : wS} (h : p < nP) (hP : nP ≤ 3) (hk : k < sz τ p) (h10 : sz τ p ≤ 10) : plOk nP τ (nI p) (nI k) :=
  ⟨pOk_of h hP, nI_pos (by omega), by rw [show cl (nI p) = p from nI_clamp (by omega)]; exact (nI_ltI (by omega) (by omega)).mpr hk⟩
theorem i32_ss (a b c : Int32) : a - b - c = a - (b + c) := by grind
theorem i32_sa (a b c : Int32) : a - b + c - c = a - b := by grind
