/-! ===== what a village is: columns of numbers =====
   0 lodgers, 1 hens, 2 forgets, 3 eggs, 4 marks, 5 first pump, 6 days away, 7 duties, 8 thirst, 9 keys, 10 fines (by house);
   20 level, 21 inflow, 22 wear, 23 broken, 24 wait, 25 key, 26 size, 27 turn, 28 open days, 29 drawn, 30 mended, 31 open, 32 broke today (by pump);
   40, 41, 42 rosters (by place); 50 day, 51 houses, 52 pumps, 53 chest (at 0) -/
abbrev wS : Type := Nat → Nat → Int32
def wst (σ : wS) (f i : Nat) (x : Int32) : wS := fun g j => if g = f ∧ j = i then x else σ g j
theorem wst_s {σ : wS} {f i : Nat} {x : Int32} : wst σ f i x f i = x := by simp [wst]
theorem wst_f {σ : wS} {f i g j : Nat} {x : Int32} (h : g ≠ f) : wst σ f i x g j = σ g j := by simp [wst, h]
theorem wst_i {σ : wS} {f i g j : Nat} {x : Int32} (h : j ≠ i) : wst σ f i x g j = σ g j := by simp [wst, h]
theorem wst_e {σ : wS} {f i g j : Nat} {x : Int32} (h : g = f → j ≠ i) : wst σ f i x g j = σ g j := by
  unfold wst
  rw [if_neg]
  rintro ⟨a, b⟩
  exact h a b
/-- what counts of a village of nH houses and nP pumps -/
def wact (nH nP f i : Nat) : Bool := if f ≤ 10 then decide (i < nH) else if f ≤ 30 then decide (i < nP) else if f ≤ 42 then decide (f < 40 + nP) else true
/-- the numbers that a side has: those that count are τ's, the others its own -/
def wmx (nH nP : Nat) (δ τ : wS) : wS := fun f i => if wact nH nP f i = true then τ f i else δ f i
theorem wmx_r {nH nP f i : Nat} {δ τ : wS} (h : wact nH nP f i = true) : wmx nH nP δ τ f i = τ f i := by unfold wmx; rw [if_pos h]
theorem wmx_w {nH nP f i : Nat} {δ τ : wS} {x : Int32} (h : wact nH nP f i = true) : wst (wmx nH nP δ τ) f i x = wmx nH nP δ (wst τ f i x) := by
  funext g j
  unfold wst wmx
  by_cases e : g = f ∧ j = i
  · obtain ⟨rfl, rfl⟩ := e
    simp [h]
  · simp only [if_neg e]
theorem wact_h {nH nP f i : Nat} (hf : f ≤ 10) (h : i < nH) : wact nH nP f i = true := by simp [wact, hf, h]
theorem wact_p {nH nP f i : Nat} (hf : 11 ≤ f) (hg : f ≤ 30) (h : i < nP) : wact nH nP f i = true := by
  unfold wact
  rw [if_neg (by omega), if_pos hg]
  simp [h]
theorem wact_r {nH nP p i : Nat} (h : p < nP) (h3 : nP ≤ 3) : wact nH nP (40 + p) i = true := by
  unfold wact
  rw [if_neg (by omega), if_neg (by omega), if_pos (by omega)]
  simp [h]
theorem wact_v {nH nP f i : Nat} (hf : 43 ≤ f) : wact nH nP f i = true := by
  unfold wact
  rw [if_neg (by omega), if_neg (by omega), if_neg (by omega)]
theorem wact_o {nH nP f i : Nat} (hf : 31 ≤ f) (hg : f ≤ 39) (h : 0 < nP) : wact nH nP f i = true := by
  unfold wact
  rw [if_neg (by omega), if_neg (by omega), if_pos (by omega)]
  simp
  omega
theorem wact_pp {nH nP f i : Nat} (hf : 11 ≤ f) (hg : f ≤ 32) (h : i < nP) : wact nH nP f i = true := by
  by_cases q : f ≤ 30
  · exact wact_p hf q h
  · exact wact_o (by omega) (by omega) (by omega)
/-! ===== the class's village as cells ===== -/
/-- the tables' class of each kind of array: int, boolean, House, Pump -/
abbrev wG : Type := va_G × ClassId × ClassId × ClassId × ClassId
abbrev wT (G : wG) : List (ClassId × FieldType) := [(G.2.1, .int), (G.2.1, .int), (G.2.2.2.1, .object "PumpRoster$House"), (G.2.2.2.2, .object "PumpRoster$Pump")]
abbrev wK (G : wG) (U : State) : Prop := va_K G.1 vwCl (wT G) U
def hfs (σ : wS) (h : Nat) : List Value := [.int (nI h), .int (σ 0 h), .int (σ 1 h), .int (σ 2 h), .int (σ 3 h), .int (σ 4 h), .int (σ 6 h), .int (σ 5 h), .int (σ 7 h), .int (σ 8 h), .int (σ 9 h), .int (σ 10 h)]
def hcol (k : Nat) : Nat := match k with
  | 1 => 0
  | 2 => 1
  | 3 => 2
  | 4 => 3
  | 5 => 4
  | 6 => 6
  | 7 => 5
  | 8 => 7
  | 9 => 8
  | 10 => 9
  | _ => 10
def pfs (ra : Nat) (σ : wS) (p : Nat) : List Value := [.int (σ 20 p), .int (σ 21 p), .int (σ 22 p), .int (σ 23 p), .int (σ 24 p), .int (σ 25 p), .ref ra, .int (σ 26 p), .int (σ 27 p), .int (σ 28 p), .int (σ 29 p), .int (σ 30 p), .int (σ 31 p), .int (σ 32 p)]
def pcol (k : Nat) : Nat := match k with
  | 0 => 20
  | 1 => 21
  | 2 => 22
  | 3 => 23
  | 4 => 24
  | 5 => 25
  | 7 => 26
  | 8 => 27
  | 9 => 28
  | 10 => 29
  | 11 => 30
  | 12 => 31
  | _ => 32
def vfs (a1 a2 : Nat) (σ : wS) : List Value := [.ref a1, .ref a2, .int (σ 51 0), .int (σ 52 0), .int (σ 53 0), .int (σ 50 0)]
def vcol (k : Nat) : Nat := match k with
  | 2 => 51
  | 3 => 52
  | 4 => 53
  | _ => 50
abbrev hArr (ad : Nat → Nat) (cH : ClassId) : va_E := .inl (cH, 10, .inr (.inr (.inr (.inr (fun h => some (ad (3 + h)))))))
abbrev pArr (ad : Nat → Nat) (cP : ClassId) : va_E := .inl (cP, 3, .inr (.inr (.inr (.inr (fun p => some (ad (13 + p)))))))
abbrev rArr (cI : ClassId) (σ : wS) (p : Nat) : va_E := .inl (cI, 10, .inl (fun k => σ (40 + p) k))
def CV (G : wG) (ad : Nat → Nat) (σ : wS) (H : Heap) : Prop :=
  va_at G.1 vwCl (ad 0, .inr (2, vfs (ad 1) (ad 2) σ)) H ∧ va_at G.1 vwCl (ad 1, hArr ad G.2.2.2.1) H ∧ va_at G.1 vwCl (ad 2, pArr ad G.2.2.2.2) H ∧
  (∀ h, h < 10 → va_at G.1 vwCl (ad (3 + h), .inr (0, hfs σ h)) H) ∧ (∀ p, p < 3 → va_at G.1 vwCl (ad (13 + p), .inr (1, pfs (ad (16 + p)) σ p)) H) ∧
  (∀ p, p < 3 → va_at G.1 vwCl (ad (16 + p), rArr G.2.1 σ p) H)
abbrev CVm (G : wG) (ad : Nat → Nat) (nH nP : Nat) (δ τ : wS) (H : Heap) : Prop := CV G ad (wmx nH nP δ τ) H
def adInj (ad : Nat → Nat) (n : Nat) : Prop := ∀ i j, i < n → j < n → ad i = ad j → i = j
def AV (ad : Nat → Nat) (n : Nat) : Nat → Prop := fun q => ∃ k, k < n ∧ q = ad k
theorem adNe {ad : Nat → Nat} {n : Nat} (hI : adInj ad n) {i j : Nat} (hi : i < n) (hj : j < n) (h : i ≠ j) : ad i ≠ ad j := fun e => h (hI i j hi hj e)
theorem CV.kept {G : wG} {ad : Nat → Nat} {σ : wS} {H H1 : Heap} (h : CV G ad σ H) (hk : ∀ k, k < 19 → H1[ad k]? = H[ad k]?) : CV G ad σ H1 := by
  obtain ⟨a, b, c, d, e, f⟩ := h
  exact ⟨a.kept (hk 0 (by omega)), b.kept (hk 1 (by omega)), c.kept (hk 2 (by omega)), fun h hh => (d h hh).kept (hk (3 + h) (by omega)), fun p hp => (e p hp).kept (hk (13 + p) (by omega)), fun p hp => (f p hp).kept (hk (16 + p) (by omega))⟩
theorem hfs_set {σ : wS} {h k : Nat} {x : Int32} (h1 : 1 ≤ k) (h2 : k < 12) : (hfs σ h).set k (.int x) = hfs (wst σ (hcol k) h x) h := by
  rcases (show k = 1 ∨ k = 2 ∨ k = 3 ∨ k = 4 ∨ k = 5 ∨ k = 6 ∨ k = 7 ∨ k = 8 ∨ k = 9 ∨ k = 10 ∨ k = 11 by omega) with rfl | rfl | rfl | rfl | rfl | rfl | rfl | rfl | rfl | rfl | rfl <;> simp [hfs, hcol, wst]
theorem hcol_le (k : Nat) : hcol k ≤ 10 := by unfold hcol; split <;> omega
theorem hfs_get {σ : wS} {h k : Nat} (h1 : 1 ≤ k) (h2 : k < 12) : (hfs σ h)[k]? = some (.int (σ (hcol k) h)) := by
  rcases (show k = 1 ∨ k = 2 ∨ k = 3 ∨ k = 4 ∨ k = 5 ∨ k = 6 ∨ k = 7 ∨ k = 8 ∨ k = 9 ∨ k = 10 ∨ k = 11 by omega) with rfl | rfl | rfl | rfl | rfl | rfl | rfl | rfl | rfl | rfl | rfl <;> rfl
theorem hfs_ne {σ : wS} {f i h : Nat} {x : Int32} (hh : f ≤ 10 → h ≠ i) : hfs (wst σ f i x) h = hfs σ h := by
  have e : ∀ g, g ≤ 10 → wst σ f i x g h = σ g h := fun g hg => wst_e (fun q => hh (by omega))
  simp only [hfs, e 0 (by omega), e 1 (by omega), e 2 (by omega), e 3 (by omega), e 4 (by omega), e 5 (by omega), e 6 (by omega), e 7 (by omega), e 8 (by omega), e 9 (by omega), e 10 (by omega)]
theorem pfs_set {σ : wS} {ra p k : Nat} {x : Int32} (h1 : k ≠ 6) (h2 : k < 14) : (pfs ra σ p).set k (.int x) = pfs ra (wst σ (pcol k) p x) p := by
  rcases (show k = 0 ∨ k = 1 ∨ k = 2 ∨ k = 3 ∨ k = 4 ∨ k = 5 ∨ k = 7 ∨ k = 8 ∨ k = 9 ∨ k = 10 ∨ k = 11 ∨ k = 12 ∨ k = 13 by omega) with rfl | rfl | rfl | rfl | rfl | rfl | rfl | rfl | rfl | rfl | rfl | rfl | rfl <;> simp [pfs, pcol, wst]
theorem pfs_get {σ : wS} {ra p k : Nat} (h1 : k ≠ 6) (h2 : k < 14) : (pfs ra σ p)[k]? = some (.int (σ (pcol k) p)) := by
  rcases (show k = 0 ∨ k = 1 ∨ k = 2 ∨ k = 3 ∨ k = 4 ∨ k = 5 ∨ k = 7 ∨ k = 8 ∨ k = 9 ∨ k = 10 ∨ k = 11 ∨ k = 12 ∨ k = 13 by omega) with rfl | rfl | rfl | rfl | rfl | rfl | rfl | rfl | rfl | rfl | rfl | rfl | rfl <;> rfl
theorem pcol_in (k : Nat) : 20 ≤ pcol k ∧ pcol k ≤ 32 := by unfold pcol; split <;> omega
theorem pfs_ne {σ : wS} {ra f i p : Nat} {x : Int32} (hh : 20 ≤ f → f ≤ 32 → p ≠ i) : pfs ra (wst σ f i x) p = pfs ra σ p := by
  have e : ∀ g, 20 ≤ g → g ≤ 32 → wst σ f i x g p = σ g p := fun g hg hg2 => wst_e (fun q => hh (by omega) (by omega))
  simp only [pfs, e 20 (by omega) (by omega), e 21 (by omega) (by omega), e 22 (by omega) (by omega), e 23 (by omega) (by omega), e 24 (by omega) (by omega), e 25 (by omega) (by omega), e 26 (by omega) (by omega), e 27 (by omega) (by omega), e 28 (by omega) (by omega), e 29 (by omega) (by omega), e 30 (by omega) (by omega), e 31 (by omega) (by omega), e 32 (by omega) (by omega)]
theorem vfs_set {σ : wS} {a1 a2 k : Nat} {x : Int32} (h1 : 2 ≤ k) (h2 : k < 6) : (vfs a1 a2 σ).set k (.int x) = vfs a1 a2 (wst σ (vcol k) 0 x) := by
  rcases (show k = 2 ∨ k = 3 ∨ k = 4 ∨ k = 5 by omega) with rfl | rfl | rfl | rfl <;> simp [vfs, vcol, wst]
theorem vfs_get {σ : wS} {a1 a2 k : Nat} (h1 : 2 ≤ k) (h2 : k < 6) : (vfs a1 a2 σ)[k]? = some (.int (σ (vcol k) 0)) := by
  rcases (show k = 2 ∨ k = 3 ∨ k = 4 ∨ k = 5 by omega) with rfl | rfl | rfl | rfl <;> rfl
theorem vcol_in (k : Nat) : 50 ≤ vcol k ∧ vcol k ≤ 53 := by unfold vcol; split <;> omega
theorem vfs_ne {σ : wS} {a1 a2 f i : Nat} {x : Int32} (hh : f < 50) : vfs a1 a2 (wst σ f i x) = vfs a1 a2 σ := by
  have e : ∀ g, 50 ≤ g → wst σ f i x g 0 = σ g 0 := fun g hg => wst_f (by omega)
  simp only [vfs, e 50 (by omega), e 51 (by omega), e 52 (by omega), e 53 (by omega)]
theorem rArr_ne {cI : ClassId} {σ : wS} {f i p : Nat} {x : Int32} (hh : f ≠ 40 + p) : rArr cI (wst σ f i x) p = rArr cI σ p := by
  have e : ∀ g, wst σ f i x (40 + p) g = σ (40 + p) g := fun g => wst_f (by omega)
  simp only [rArr, e]
theorem rArr_upd {cI : ClassId} {σ : wS} {p k : Nat} {x : Int32} : (.inl (cI, 10, .inl (upd (fun k => σ (40 + p) k) k x)) : va_E) = rArr cI (wst σ (40 + p) k x) p := by
  have e : upd (fun k => σ (40 + p) k) k x = fun j => wst σ (40 + p) k x (40 + p) j := by
    funext j
    unfold upd wst
    by_cases q : j = k
    · subst q; simp
    · rw [if_neg q, if_neg (by omega)]
  rw [e]
theorem CV.setH {G : wG} {ad : Nat → Nat} {σ : wS} {H H1 : Heap} {h k : Nat} {x : Int32} (hI : adInj ad 19) (hV : CV G ad σ H) (hh : h < 10) (h1 : 1 ≤ k) (h2 : k < 12)
    (e1 : va_at G.1 vwCl (ad (3 + h), .inr (0, (hfs σ h).set k (.int x))) H1) (e3 : ∀ q : Nat, q ≠ ad (3 + h) → H1[q]? = H[q]?) : CV G ad (wst σ (hcol k) h x) H1 := by
  have hc := hcol_le k
  obtain ⟨a, b, c, d, e, f⟩ := hV
  refine ⟨?_, b.kept (e3 _ (adNe hI (by omega) (by omega) (by omega))), c.kept (e3 _ (adNe hI (by omega) (by omega) (by omega))), fun h' hh' => ?_, fun p hp => ?_, fun p hp => ?_⟩
  · rw [vfs_ne (by omega)]
    exact a.kept (e3 _ (adNe hI (by omega) (by omega) (by omega)))
  · by_cases q : h' = h
    · subst q
      rw [← hfs_set h1 h2]
      exact e1
    · rw [hfs_ne (fun _ => q)]
      exact (d h' hh').kept (e3 _ (adNe hI (by omega) (by omega) (by omega)))
  · rw [pfs_ne (by omega)]
    exact (e p hp).kept (e3 _ (adNe hI (by omega) (by omega) (by omega)))
  · rw [rArr_ne (by omega)]
    exact (f p hp).kept (e3 _ (adNe hI (by omega) (by omega) (by omega)))
theorem CV.setP {G : wG} {ad : Nat → Nat} {σ : wS} {H H1 : Heap} {p k : Nat} {x : Int32} (hI : adInj ad 19) (hV : CV G ad σ H) (hp : p < 3) (h1 : k ≠ 6) (h2 : k < 14)
    (e1 : va_at G.1 vwCl (ad (13 + p), .inr (1, (pfs (ad (16 + p)) σ p).set k (.int x))) H1) (e3 : ∀ q : Nat, q ≠ ad (13 + p) → H1[q]? = H[q]?) : CV G ad (wst σ (pcol k) p x) H1 := by
  have hc := pcol_in k
  obtain ⟨a, b, c, d, e, f⟩ := hV
  refine ⟨?_, b.kept (e3 _ (adNe hI (by omega) (by omega) (by omega))), c.kept (e3 _ (adNe hI (by omega) (by omega) (by omega))), fun h hh => ?_, fun p' hp' => ?_, fun p' hp' => ?_⟩
  · rw [vfs_ne (by omega)]
    exact a.kept (e3 _ (adNe hI (by omega) (by omega) (by omega)))
  · rw [hfs_ne (by omega)]
    exact (d h hh).kept (e3 _ (adNe hI (by omega) (by omega) (by omega)))
  · by_cases q : p' = p
    · subst q
      rw [← pfs_set h1 h2]
      exact e1
    · rw [pfs_ne (fun _ _ => q)]
      exact (e p' hp').kept (e3 _ (adNe hI (by omega) (by omega) (by omega)))
  · rw [rArr_ne (by omega)]
    exact (f p' hp').kept (e3 _ (adNe hI (by omega) (by omega) (by omega)))
theorem CV.setV {G : wG} {ad : Nat → Nat} {σ : wS} {H H1 : Heap} {k : Nat} {x : Int32} (hI : adInj ad 19) (hV : CV G ad σ H) (h1 : 2 ≤ k) (h2 : k < 6)
    (e1 : va_at G.1 vwCl (ad 0, .inr (2, (vfs (ad 1) (ad 2) σ).set k (.int x))) H1) (e3 : ∀ q : Nat, q ≠ ad 0 → H1[q]? = H[q]?) : CV G ad (wst σ (vcol k) 0 x) H1 := by
  have hc := vcol_in k
  obtain ⟨a, b, c, d, e, f⟩ := hV
  refine ⟨?_, b.kept (e3 _ (adNe hI (by omega) (by omega) (by omega))), c.kept (e3 _ (adNe hI (by omega) (by omega) (by omega))), fun h hh => ?_, fun p hp => ?_, fun p hp => ?_⟩
  · rw [← vfs_set h1 h2]
    exact e1
  · rw [hfs_ne (by omega)]
    exact (d h hh).kept (e3 _ (adNe hI (by omega) (by omega) (by omega)))
  · rw [pfs_ne (by omega)]
    exact (e p hp).kept (e3 _ (adNe hI (by omega) (by omega) (by omega)))
  · rw [rArr_ne (by omega)]
    exact (f p hp).kept (e3 _ (adNe hI (by omega) (by omega) (by omega)))
theorem CV.setR {G : wG} {ad : Nat → Nat} {σ : wS} {H H1 : Heap} {p k : Nat} {x : Int32} (hI : adInj ad 19) (hV : CV G ad σ H) (hp : p < 3)
    (e1 : va_at G.1 vwCl (ad (16 + p), rArr G.2.1 (wst σ (40 + p) k x) p) H1) (e3 : ∀ q : Nat, q ≠ ad (16 + p) → H1[q]? = H[q]?) : CV G ad (wst σ (40 + p) k x) H1 := by
  obtain ⟨a, b, c, d, e, f⟩ := hV
  refine ⟨?_, b.kept (e3 _ (adNe hI (by omega) (by omega) (by omega))), c.kept (e3 _ (adNe hI (by omega) (by omega) (by omega))), fun h hh => ?_, fun p' hp' => ?_, fun p' hp' => ?_⟩
  · rw [vfs_ne (by omega)]
    exact a.kept (e3 _ (adNe hI (by omega) (by omega) (by omega)))
  · rw [hfs_ne (by omega)]
    exact (d h hh).kept (e3 _ (adNe hI (by omega) (by omega) (by omega)))
  · rw [pfs_ne (by omega)]
    exact (e p' hp').kept (e3 _ (adNe hI (by omega) (by omega) (by omega)))
  · by_cases q : p' = p
    · subst q
      exact e1
    · rw [rArr_ne (by omega)]
      exact (f p' hp').kept (e3 _ (adNe hI (by omega) (by omega) (by omega)))
