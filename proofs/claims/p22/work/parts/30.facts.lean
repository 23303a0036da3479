/-! ===== p22: what the law's checks say, in numbers ===== -/
def sbF (v : Int32) (f : Nat → Int32) : Nat → Int32
  | 0 => v
  | n + 1 => sbF v f n - f n
def saF (v : Int32) (f : Nat → Int32) : Nat → Int32
  | 0 => v
  | n + 1 => saF v f n + f n
theorem sbF_eq {v : Int32} {f : Nat → Int32} : ∀ n, sbF v f n = v - sm f n
  | 0 => by show v = v - 0; grind
  | n + 1 => by
    show sbF v f n - f n = v - (sm f n + f n)
    rw [sbF_eq n]
    grind
theorem saF_eq {v : Int32} {f : Nat → Int32} : ∀ n, saF v f n = v + sm f n
  | 0 => by show v = v + 0; grind
  | n + 1 => by
    show saF v f n + f n = v + (sm f n + f n)
    rw [saF_eq n]
    grind
theorem nsm_swap {g : Nat → Nat → Nat} {m : Nat} : ∀ n, (∀ p, p < n → nsm (fun h => g p h) m ≤ 1) → nsm (fun h => nsm (fun p => g p h) n) m ≤ n
  | 0, _ => by
    have := nsm_le (f := fun h => nsm (fun p => g p h) 0) (b := 0) (n := m) (fun k _ => Nat.le_refl 0)
    omega
  | n + 1, h => by
    have a := nsm_swap (g := g) (m := m) n (fun p hp => h p (by omega))
    have b := nsm_add (f := fun h => nsm (fun p => g p h) n) (g := fun h => g n h) (n := m)
    have c := h n (by omega)
    show nsm (fun h => nsm (fun p => g p h) n + g n h) m ≤ n + 1
    omega
theorem nsm_once {P : Nat → Prop} [DecidablePred P] : ∀ m, (∀ j k, j < k → k < m → ¬ (P j ∧ P k)) → nsm (fun h => if P h then 1 else 0) m ≤ 1 := fun m h => by
  induction m with
  | zero => exact Nat.zero_le _
  | succ m ih =>
    have a := ih (fun j k h1 h2 => h j k h1 (by omega))
    show nsm (fun h => if P h then 1 else 0) m + (if P m then 1 else 0) ≤ 1
    by_cases z : P m
    · rw [if_pos z, nsm_congr (f := fun h => if P h then 1 else 0) (g := fun _ => 0) (fun k hk => if_neg (fun w => h k m hk (by omega) ⟨w, z⟩))]
      have := nsm_le (f := fun _ => 0) (b := 0) (n := m) (fun k _ => Nat.le_refl 0)
      omega
    · rw [if_neg z]
      omega
section LF
variable {nH nP d p h k : Nat} {τ : wS}
theorem keys_le (hv : Inv nH nP τ) : ¬ nI nP < sm (fun h => hftF nP τ h 10) nH := by
  have hH := hv.1
  have hP := hv.2.1
  have e1 : ∀ h, hftF nP τ h 10 = nI (nsm (fun p => if τ 25 p = nI h then 1 else 0) nP) := fun h => by
    show sm (fun p => if τ 25 p = nI h then 1 else 0) nP = _
    exact sm_nI (fun k _ => by split <;> rfl)
  have e2 : sm (fun h => hftF nP τ h 10) nH = nI (nsm (fun h => nsm (fun p => if τ 25 p = nI h then 1 else 0) nP) nH) := sm_nI (fun k _ => e1 k)
  have e3 : nsm (fun h => nsm (fun p => if τ 25 p = nI h then 1 else 0) nP) nH ≤ nP := nsm_swap (g := fun p h => if τ 25 p = nI h then 1 else 0) nP (fun p hp => nsm_once (P := fun h => τ 25 p = nI h) nH (fun j k h1 h2 w => by
    have := (nI_eq (a := j) (b := k) (by omega) (by omega)).mp (w.1.symm.trans w.2)
    omega))
  rw [e2]
  exact nI_nlt e3 (by omega)
theorem lt100 {x : Int32} (h : x < 100) : ¬ nI 99 < x := fun q => by
  rw [Int32.lt_iff_toInt_lt] at h q
  rw [show (100 : Int32).toInt = 100 by decide] at h
  rw [show (nI 99).toInt = 99 from nI_toInt (by omega)] at q
  omega
theorem marks_2 (hq : LQ nH nP d τ) (hp : p < nP) (hk : k < sz τ p) (e : τ (40 + p) k = nI h) (hh : h < nH) : τ 4 h ≤ nI 2 := by
  have hH := hq.1.1
  obtain ⟨-, -, -, km, hkm, e4⟩ := hq.1.2.2.2.2.1 h hh
  have hr := hq.2.2.2.2.2.2.2 p hp k hk
  rw [e, show cl (nI h) = h from nI_clamp (by omega), e4] at hr
  rw [e4]
  have h3 : km ≠ 3 := fun z => hr (by rw [z]; rfl)
  exact (nI_leI (by omega) (by omega)).mpr (by omega)
theorem key_lt (hv : Inv nH nP τ) (hp : p < nP) : τ 25 p < nI nH := by
  have hH := hv.1
  rcases hv.oKey hp with e | ⟨k, hk, e⟩
  · rw [e, Int32.lt_iff_toInt_lt, nI_toInt (by omega), show (-1 : Int32).toInt = -1 by decide]
    omega
  · rw [e]
    exact (nI_ltI (by omega) (by omega)).mpr hk
theorem ahd_pos (hv : Inv nH nP τ) (hp : p < nP) (h : plc (τ (40 + p)) (nI k) (sz τ p) < sz τ p) : 0 ≤ ahdF τ p k := by
  obtain ⟨-, -, -, -, ⟨e1, -⟩, ⟨-, e2⟩, -, -⟩ := hv.2.2.2.2.2 p hp
  unfold ahdF
  rw [if_pos h]
  generalize plc (τ (40 + p)) (nI k) (sz τ p) = a at h ⊢
  split
  · rw [show nI a - nI (tn τ p) + nI (sz τ p) = nI a + nI (sz τ p) - nI (tn τ p) by grind, nI_add, pk_sub (by omega)]
    exact nI_pos' (by omega)
  · rw [pk_sub (by omega)]
    exact nI_pos' (by omega)
theorem eggs_pos (hq : LQ nH nP d τ) (hd : d < 2 ^ 20) (hh : h < nH) : ¬ τ 3 h < 0 := by
  have hH := hq.1.1
  obtain ⟨e, c, A, b, g⟩ := hq.2.2.2.1
  have := le_nsm (f := e) hh
  rw [A h hh]
  exact nI_pos (by omega)
theorem chest_pos (hq : LQ nH nP d τ) (hd : d < 2 ^ 20) : ¬ τ 53 0 < 0 := by
  have hH := hq.1.1
  obtain ⟨e, c, A, b, g⟩ := hq.2.2.2.1
  rw [b]
  exact nI_pos (by omega)
theorem thirst_pos (hq : LQ nH nP d τ) (hd : d < 2 ^ 20) (hh : h < nH) : 0 ≤ τ 8 h := by
  obtain ⟨k, hk, e⟩ := hq.2.2.2.2.1 h hh
  dsimp only at hk
  rw [e]
  exact nI_pos' (by omega)
theorem drawn_nI (hq : LQ nH nP d τ) (hd : d < 2 ^ 20) : 0 ≤ (sm (fun h => τ 29 h) nP).toInt := by
  have hP := hq.1.2.1
  have hw := hq.2.2.2.2.2.1
  have e : sm (fun h => τ 29 h) nP = nI (nsm (fun h => cl (τ 29 h)) nP) := sm_nI (fun k hk => by
    obtain ⟨L, X, a, b, c, g⟩ := hw k hk
    dsimp only at b
    rw [g, show cl (nI X) = X from nI_clamp (by omega)])
  have hle : nsm (fun h => cl (τ 29 h)) nP ≤ (200 + 50 * d) * nP := nsm_le (fun k hk => by
    obtain ⟨L, X, a, b, c, g⟩ := hw k hk
    dsimp only at b
    rw [g, show cl (nI X) = X from nI_clamp (by omega)]
    omega)
  have h3 : (200 + 50 * d) * nP ≤ (200 + 50 * d) * 3 := Nat.mul_le_mul_left _ hP
  rw [e, nI_toInt (by omega)]
  omega
theorem daily_pos (hq : LQ nH nP d τ) (hd : d < 2 ^ 20) : 0 ≤ Op.cmpValue (FP.dcmp (dlyF nP τ) FP.dconst0) .g :=
  Int32.not_lt.mp (dly_cmp (dly_pos (drawn_nI hq hd) (by rw [hq.2.2.1, nI_toInt (by omega)]; omega)))
/-- what is left is no more than what was there and came, less what was drawn -/
theorem water_ok {n : Nat} (hq : LQ nH nP d τ) (hd : d + n < 2 ^ 12) : ¬ sm (fun p => τ 20 p) nP + sm (fun p => nI n * τ 21 p) nP - (sm (fun h => dysF nH nP n τ 29 h) nP - sm (fun h => τ 29 h) nP) < sm (fun p => dysF nH nP n τ 20 p) nP := by
  have hP := hq.1.2.1
  have hw := hq.2.2.2.2.2.1
  have hi := hq.2.1.2.2
  have c0 : ∀ p, p < nP → cl (τ 20 p) ≤ 200 ∧ τ 20 p = nI (cl (τ 20 p)) ∧ cl (τ 29 p) ≤ 200 + 50 * d ∧ τ 29 p = nI (cl (τ 29 p)) := fun p hp => by
    obtain ⟨L, X, a, b, c, g⟩ := hw p hp
    dsimp only at b
    rw [c, g, show cl (nI X) = X from nI_clamp (by omega), show cl (nI L) = L from nI_clamp (by omega)]
    exact ⟨a, rfl, by omega, rfl⟩
  have w1 := WT.dys (n := n) (K := fun p => cl (τ 20 p) + cl (τ 29 p)) hq (by omega) (fun p hp => by
    obtain ⟨a, b, c, g⟩ := c0 p hp
    exact ⟨_, _, a, Nat.le_refl _, b, g⟩)
  have c1 : ∀ p, p < nP → dysF nH nP n τ 20 p = nI (cl (dysF nH nP n τ 20 p)) ∧ dysF nH nP n τ 29 p = nI (cl (dysF nH nP n τ 29 p)) ∧ cl (dysF nH nP n τ 20 p) + cl (dysF nH nP n τ 29 p) ≤ cl (τ 20 p) + cl (τ 29 p) + n * cl (τ 21 p) := fun p hp => by
    obtain ⟨L, X, a, b, c, g⟩ := w1 p hp
    obtain ⟨a1, -, b1, -⟩ := c0 p hp
    have h21 := (hi p hp).1
    have hm : n * cl (τ 21 p) ≤ n * 50 := Nat.mul_le_mul_left _ h21
    dsimp only at b
    rw [c, g, show cl (nI X) = X from nI_clamp (by omega), show cl (nI L) = L from nI_clamp (by omega)]
    exact ⟨rfl, rfl, b⟩
  have s20 : sm (fun p => τ 20 p) nP = nI (nsm (fun p => cl (τ 20 p)) nP) := sm_nI (fun p hp => (c0 p hp).2.1)
  have s29 : sm (fun p => τ 29 p) nP = nI (nsm (fun p => cl (τ 29 p)) nP) := sm_nI (fun p hp => (c0 p hp).2.2.2)
  have t20 : sm (fun p => dysF nH nP n τ 20 p) nP = nI (nsm (fun p => cl (dysF nH nP n τ 20 p)) nP) := sm_nI (fun p hp => (c1 p hp).1)
  have t29 : sm (fun p => dysF nH nP n τ 29 p) nP = nI (nsm (fun p => cl (dysF nH nP n τ 29 p)) nP) := sm_nI (fun p hp => (c1 p hp).2.1)
  have sI : sm (fun p => nI n * τ 21 p) nP = nI (nsm (fun p => n * cl (τ 21 p)) nP) := sm_nI (fun p hp => by
    rw [← pk_mul]
    exact congrArg (nI n * ·) (hi p hp).2)
  have tot : nsm (fun p => cl (dysF nH nP n τ 20 p) + cl (dysF nH nP n τ 29 p)) nP ≤ nsm (fun p => cl (τ 20 p) + cl (τ 29 p) + n * cl (τ 21 p)) nP := nsm_mono (fun p hp => (c1 p hp).2.2)
  have a1 := nsm_add (f := fun p => cl (dysF nH nP n τ 20 p)) (g := fun p => cl (dysF nH nP n τ 29 p)) (n := nP)
  have a2 := nsm_add (f := fun p => cl (τ 20 p) + cl (τ 29 p)) (g := fun p => n * cl (τ 21 p)) (n := nP)
  have a3 := nsm_add (f := fun p => cl (τ 20 p)) (g := fun p => cl (τ 29 p)) (n := nP)
  have b1 : nsm (fun p => cl (τ 20 p)) nP ≤ 200 * nP := nsm_le (fun p hp => (c0 p hp).1)
  have b2 : nsm (fun p => cl (τ 29 p)) nP ≤ (200 + 50 * d) * nP := nsm_le (fun p hp => (c0 p hp).2.2.1)
  have b3 : nsm (fun p => n * cl (τ 21 p)) nP ≤ (n * 50) * nP := nsm_le (fun p hp => Nat.mul_le_mul_left _ (hi p hp).1)
  have b4 : (200 + 50 * d) * nP ≤ (200 + 50 * d) * 3 := Nat.mul_le_mul_left _ hP
  have b5 : (n * 50) * nP ≤ (n * 50) * 3 := Nat.mul_le_mul_left _ hP
  rw [s20, s29, t20, t29, sI]
  generalize nsm (fun p => cl (τ 20 p)) nP = A at *
  generalize nsm (fun p => cl (τ 29 p)) nP = B at *
  generalize nsm (fun p => n * cl (τ 21 p)) nP = C at *
  generalize nsm (fun p => cl (dysF nH nP n τ 20 p)) nP = D at *
  generalize nsm (fun p => cl (dysF nH nP n τ 29 p)) nP = E at *
  rw [show nI A + nI C - (nI E - nI B) = nI A + nI C + nI B - nI E by grind, nI_add, nI_add, pk_sub (by omega)]
  exact nI_nlt (by omega) (by omega)
end LF
