section YT
variable {p : Program} {l : Launch} {e : Env} {R : Room} {s : State} {m : MethodId} {args : Array Value} {below : List Frame} {meth : Method} {c : Code} {H : Heap} {locs : List Loc} {cells slots : Nat}
variable {cc : ByteArray} {pc : Nat} {ls : Array Slot} {rest : List Value} {A : Nat → Prop} {BX : Heap → Prop} {mc ms : Nat} {Qc : Array Value → State → Outcome → State → Prop}
/-- the good words of a throw among a method's words, the others beside them -/
abbrev xBad (X : String) : List Cond := [Cond.castable X X, Cond.declares (Bundle.initS "java/lang/RuntimeException"), Cond.declares (Bundle.initS "java/lang/Exception"), Cond.declares (Bundle.initS Bundle.tN)]
theorem yHat {Ts : List Cond} {ic : Nat} {X : String} (hts : ∀ w ∈ Ts, w.before args s = true) (h1 : ∀ w ∈ (vx_atS RX3 ic X xNames).filter goodWord, w ∈ Ts) (h2 : ∀ w ∈ (vx_atS RX3 ic X xNames).filter (fun w => !goodWord w), w ∈ xBad X) (hc : va_Nw (.castable X X) s) (hd : XDe s) : ∀ w ∈ vx_atS RX3 ic X xNames, w.before args s = true :=
  vx_hat (B := xBad X) (fun w h => hts w (h1 w h)) h2 (vx_c (va_Nw.use rfl hc) (vx_c (va_Nw.use rfl hd.1) (vx_c (va_Nw.use rfl hd.2.1) (vx_c (va_Nw.use rfl hd.2.2) vx_n))))
theorem yT {PX : String → Prop} {cls text : String} {ik is ic sa : Nat} (hexec : p.tables.exec = Jvm.exec) (hb : c.code = cc) (hl : l.stackTraces = false) (hown : s.vm.findClass RX3 = some m.cls) (hcls : Bundle.fit cls = true)
    (hk : (Cond.classLink RX3 ik cls).before args s = true) (hini : (Cond.initialized cls).before args s = true) (hstr : vk_R RX3 is text sa s) (hat : ∀ w ∈ vx_atS RX3 ic cls xNames, w.before args s = true)
    (hgood : ∀ w ∈ Cond.classLink RX3 ik cls :: Cond.initialized cls :: vx_atS RX3 ic cls xNames, vx_ot w = true) (hX : XK A s) (hS : va_S A s.heap H locs) (hsize : ls.size = c.maxLocals)
    (d0 : decode cc pc = .ok (.new ik, 3)) (d3 : decode cc (pc + 3) = .ok (.dup, 1)) (d4 : decode cc (pc + 4) = .ok (.ldc is, 2)) (d6 : decode cc (pc + 6) = .ok (.invokespecial ic, 3)) (d9 : decode cc (pc + 9) = .ok (.athrow, 1))
    (ht : ∀ x ∈ c.exceptionTable.toList, False) (hRframes : 5 < R.frames) (hRlocals : (rest.map fun v => v.category).sum + 82 ≤ R.locals) (hRcells : cells + 1 ≤ R.cells) (hRslots : slots + 6 ≤ R.slots) (hlocks : meth.locks = false)
    (hP : PX cls) (hB : ∀ H1 : Heap, (∀ q : Nat, q < H.size → H1[q]? = H[q]?) → BX H1) (hc : cells + 1 ≤ mc) (hs : slots + 6 ≤ ms) :
    W p l e R s m args below meth c H locs cells slots (vx_MQ below Qc (Xx PX BX A) args s mc ms A) (F0 m pc ls rest) :=
  vx_throwS hexec hb hl hown hcls (by decide) hk hini hstr hat hgood hX.1.1 hX.1.2 hS hsize d0 d3 d4 d6 d9 (fun x hx => (ht x hx).elim) hRframes hRlocals hRcells hRslots hlocks
    (fun t _ hz hq => ⟨(), trivial, ⟨hP, hB _ hq⟩, Nat.le_trans hS.1 hz, fun q h1 h2 => (hq q (Nat.lt_of_lt_of_le h1 hS.1)).trans (hS.2.1 q h1 h2)⟩) hS.2.2 hc hs
theorem xG1 : ∀ w ∈ Cond.classLink RX3 178 nIAE :: Cond.initialized nIAE :: vx_atS RX3 182 nIAE xNames, vx_ot w = true := by decide +kernel
theorem xG2 : ∀ w ∈ Cond.classLink RX3 27 nISE :: Cond.initialized nISE :: vx_atS RX3 31 nISE xNames, vx_ot w = true := by decide +kernel
theorem xG3 : ∀ w ∈ Cond.classLink RX3 183 nIOB :: Cond.initialized nIOB :: vx_atS RX3 187 nIOB xNames, vx_ot w = true := by decide +kernel
theorem xB1 : ∀ w ∈ (vx_atS RX3 182 nIAE xNames).filter (fun w => !goodWord w), w ∈ xBad nIAE := by decide +kernel
theorem xB2 : ∀ w ∈ (vx_atS RX3 31 nISE xNames).filter (fun w => !goodWord w), w ∈ xBad nISE := by decide +kernel
theorem xB3 : ∀ w ∈ (vx_atS RX3 187 nIOB xNames).filter (fun w => !goodWord w), w ∈ xBad nIOB := by decide +kernel
end YT
/-! ===== what a call of the object checks ===== -/
abbrev cl (x : Int32) : Nat := x.toNatClampNeg
def hOk (nH : Nat) (x : Int32) : Prop := ¬ x < 0 ∧ ¬ nI nH ≤ x
def pOk (nP : Nat) (x : Int32) : Prop := ¬ x < 0 ∧ x < nI nP
def inn (lo hi v : Int32) : Prop := ¬ v < lo ∧ v ≤ hi
theorem hOk_nI {nH : Nat} {x : Int32} (h : hOk nH x) (hH : nH ≤ 10) : ∃ k, k < nH ∧ x = nI k := by
  obtain ⟨k, hk, e⟩ := nI_of h.1
  refine ⟨k, ?_, e⟩
  rw [e] at h
  exact Nat.not_le.mp (fun q => h.2 ((nI_leI (by omega) hk).mpr q))
theorem pOk_nI {nP : Nat} {x : Int32} (h : pOk nP x) (hP : nP < 2 ^ 31) : ∃ k, k < nP ∧ x = nI k := by
  obtain ⟨k, hk, e⟩ := nI_of h.1
  refine ⟨k, ?_, e⟩
  rw [e] at h
  exact (nI_ltI hk hP).mp h.2
theorem inn_nI {v : Int32} {lo hi : Nat} (h : inn (nI lo) (nI hi) v) (h2 : hi < 2 ^ 30) (h3 : lo ≤ hi) : ∃ k, lo ≤ k ∧ k ≤ hi ∧ v = nI k := by
  have h0 : ¬ v < 0 := fun q => h.1 (by
    rw [Int32.lt_iff_toInt_lt, nI_toInt (by omega)]
    rw [Int32.lt_iff_toInt_lt, Int32.toInt_zero] at q
    omega)
  obtain ⟨k, hk, e⟩ := nI_of h0
  rw [e] at h
  exact ⟨k, Nat.not_lt.mp (fun q => h.1 ((nI_ltI hk (by omega)).mpr q)), (nI_leI hk (by omega)).mp h.2, e⟩
/-- place y on the roster of pump x -/
def plOk (nP : Nat) (τ : wS) (x y : Int32) : Prop := pOk nP x ∧ ¬ y < 0 ∧ y < nI (sz τ (cl x))
theorem plOk_nI {nH nP : Nat} {τ : wS} {x y : Int32} (hv : Inv nH nP τ) (h : plOk nP τ x y) : ∃ p k, p < nP ∧ k < sz τ p ∧ x = nI p ∧ y = nI k := by
  have hP := hv.2.1
  obtain ⟨p, hp, rfl⟩ := pOk_nI h.1 (by omega)
  obtain ⟨k, hk, e⟩ := nI_of h.2.1
  have h3 := h.2.2
  rw [show cl (nI p) = p from nI_clamp (by omega), e] at h3
  have h10 := (hv.2.2.2.2.2 p hp).2.2.2.2.1.1
  exact ⟨p, k, hp, (nI_ltI hk (by omega)).mp h3, rfl, e⟩
theorem plOk_nI2 {nH nP p : Nat} {τ : wS} {y : Int32} (hv : Inv nH nP τ) (hp : p < nP) (h : plOk nP τ (nI p) y) : ∃ k, k < sz τ p ∧ y = nI k := by
  have hP := hv.2.1
  obtain ⟨k, hk, e⟩ := nI_of h.2.1
  have h3 := h.2.2
  rw [show cl (nI p) = p from nI_clamp (by omega), e] at h3
  have h10 := (hv.2.2.2.2.2 p hp).2.2.2.2.1.1
  exact ⟨k, (nI_ltI hk (by omega)).mp h3, e⟩
theorem plI_m1 {k n : Nat} (hn : n < 2 ^ 31) (h : plI k n = -1) : ¬ k < n := fun q => by
  rw [plI, if_pos q] at h
  exact nI_nm1 (by omega) h
theorem plI_k {k n : Nat} (h : ¬ plI k n = -1) : k < n := by
  by_cases q : k < n
  · exact q
  · exact absurd (if_neg q) h
/-- so many different houses: no more than there are -/
theorem pigeon : ∀ (m n : Nat) (f : Nat → Nat), (∀ i, i < n → f i < m) → (∀ i j, i < j → j < n → f i ≠ f j) → n ≤ m
  | 0, n, f, h1, _ => by
    rcases Nat.eq_zero_or_pos n with q | q
    · omega
    · exact absurd (h1 0 q) (by omega)
  | m + 1, n, f, h1, h2 => by
    by_cases hx : ∃ i, i < n ∧ f i = m
    · obtain ⟨i, hi, e⟩ := hx
      have := pigeon m (n - 1) (fun j => if j < i then f j else f (j + 1)) (fun j hj => by
          show (if j < i then f j else f (j + 1)) < m
          split
          · rename_i q
            have a := h1 j (by omega)
            have b := h2 j i q hi
            omega
          · rename_i q
            have a := h1 (j + 1) (by omega)
            have b := h2 i (j + 1) (by omega) (by omega)
            omega) (fun j k hjk hk => by
          show (if j < i then f j else f (j + 1)) ≠ (if k < i then f k else f (k + 1))
          split
          · split
            · exact h2 j k hjk (by omega)
            · exact h2 j (k + 1) (by omega) (by omega)
          · rw [if_neg (by omega)]
            exact h2 (j + 1) (k + 1) (by omega) (by omega))
      omega
    · have := pigeon m n f (fun i hi => by
          have a := h1 i hi
          have b : f i ≠ m := fun e => hx ⟨i, hi, e⟩
          omega) h2
      omega
theorem fnd_no {P : Nat → Bool} : ∀ {n : Nat}, n ≤ fnd P n → ∀ j, j < n → P j = false
  | 0, _, j, hj => absurd hj (by omega)
  | n + 1, h, j, hj => by
    have hl := fnd_le P n
    unfold fnd at h
    split at h
    · omega
    · split at h
      · omega
      · rename_i h1 h2
        by_cases q : j = n
        · subst q
          exact Bool.eq_false_iff.mpr h2
        · exact fnd_no (n := n) (by omega) j (by omega)
theorem plc_all {f : Nat → Int32} {x : Int32} {n : Nat} (h : ¬ plc f x n < n) : ∀ j, j < n → ¬ f j = x := by
  intro j hj q
  have := fnd_le (fun k => decide (f k = x)) n
  have e : plc f x n = fnd (fun k => decide (f k = x)) n := rfl
  have h9 := fnd_no (P := fun k => decide (f k = x)) (n := n) (by omega) j hj
  exact absurd q (of_decide_eq_false h9)
/-- a house that isn't on a roster finds a place there -/
theorem ros_room {nH nP p h : Nat} {τ : wS} (hv : Inv nH nP τ) (hp : p < nP) (hh : h < nH) (hn : ¬ plc (τ (40 + p)) (nI h) (sz τ p) < sz τ p) : sz τ p < 10 := by
  obtain ⟨-, -, -, -, -, -, i1, i2⟩ := hv.2.2.2.2.2 p hp
  have hH := hv.1
  have hno := plc_all hn
  have := pigeon nH (sz τ p + 1) (fun i => if i < sz τ p then cl (τ (40 + p) i) else h) (fun i hi => by
      show (if i < sz τ p then cl (τ (40 + p) i) else h) < nH
      split
      · rename_i q
        obtain ⟨k, hk, e⟩ := i1 i q
        rw [e, show cl (nI k) = k from nI_clamp (by omega)]
        exact hk
      · exact hh) (fun i j hij hj => by
      show (if i < sz τ p then cl (τ (40 + p) i) else h) ≠ (if j < sz τ p then cl (τ (40 + p) j) else h)
      rw [if_pos (by omega)]
      obtain ⟨k, hk, e⟩ := i1 i (by omega)
      rw [e, show cl (nI k) = k from nI_clamp (by omega)]
      split
      · rename_i q
        obtain ⟨k2, hk2, e2⟩ := i1 j q
        rw [e2, show cl (nI k2) = k2 from nI_clamp (by omega)]
        intro z
        exact i2 i j hij q (by rw [e, e2, z])
      · intro z
        exact hno i (by omega) (by rw [e, z]))
  omega
/-- a house more, a pump more: the numbers that a side had there count from now on -/
def addV (nH : Nat) (δ τ : wS) : wS := fun f i => if f ≤ 10 ∧ i = nH then δ f i else τ f i
def addW (nP : Nat) (δ τ : wS) : wS := fun f i => if (11 ≤ f ∧ f ≤ 30 ∧ i = nP) ∨ f = 40 + nP then δ f i else τ f i
theorem wmx_addV {nH nP : Nat} {δ τ : wS} : wmx (nH + 1) nP δ (addV nH δ τ) = wmx nH nP δ τ := by
  funext f i
  unfold wmx addV wact
  by_cases h1 : f ≤ 10
  · simp only [if_pos h1]
    by_cases h2 : i = nH
    · subst h2
      simp [h1]
    · by_cases h3 : i < nH
      · simp [h2, h3, show i < nH + 1 by omega]
      · simp [h3, show ¬ i < nH + 1 by omega]
  · have e : ¬ (f ≤ 10 ∧ i = nH) := fun q => h1 q.1
    simp only [if_neg h1, if_neg e]
theorem wmx_addW {nH nP : Nat} {δ τ : wS} (hP : nP < 3) : wmx nH (nP + 1) δ (addW nP δ τ) = wmx nH nP δ τ := by
  funext f i
  unfold wmx addW wact
  by_cases h1 : f ≤ 10
  · have e : ¬ ((11 ≤ f ∧ f ≤ 30 ∧ i = nP) ∨ f = 40 + nP) := by omega
    simp only [if_pos h1, if_neg e]
  · simp only [if_neg h1]
    by_cases h2 : f ≤ 30
    · simp only [if_pos h2]
      by_cases h3 : i = nP
      · subst h3
        simp [show 11 ≤ f by omega, h2]
      · by_cases h4 : i < nP
        · simp [h3, h4, show i < nP + 1 by omega, show ¬ f = 40 + nP by omega]
        · simp [h4, show ¬ i < nP + 1 by omega]
    · simp only [if_neg h2]
      by_cases h3 : f ≤ 42
      · simp only [if_pos h3]
        by_cases h4 : f = 40 + nP
        · subst h4
          simp
        · by_cases h5 : f < 40 + nP
          · simp [h4, h5, h2, show f < 40 + (nP + 1) by omega]
          · simp [h5, show ¬ f < 40 + (nP + 1) by omega]
      · simp only [if_neg h3]
        simp [h2, show ¬ f = 40 + nP by omega]
theorem wmx_31 {nH nP i : Nat} {δ τ : wS} : wmx nH nP δ τ 31 i = τ 31 i := by
  refine wmx_r ?_
  unfold wact
  rw [if_neg (by omega), if_neg (by omega), if_pos (by omega)]
  simp
  omega
theorem wmx_32 {nH nP i : Nat} {δ τ : wS} : wmx nH nP δ τ 32 i = τ 32 i := by
  refine wmx_r ?_
  unfold wact
  rw [if_neg (by omega), if_neg (by omega), if_pos (by omega)]
  simp
  omega
/-- how many duties lie ahead -/
def ahdF (τ : wS) (p h : Nat) : Int32 :=
  if plc (τ (40 + p)) (nI h) (sz τ p) < sz τ p then
    (if plc (τ (40 + p)) (nI h) (sz τ p) < tn τ p then nI (plc (τ (40 + p)) (nI h) (sz τ p)) - nI (tn τ p) + nI (sz τ p) else nI (plc (τ (40 + p)) (nI h) (sz τ p)) - nI (tn τ p))
  else -1
def fsX (nH nP : Nat) (τ z : wS) (n : Nat) : wS := dysF nH nP n (tkF τ z)
def fsF (nH nP : Nat) (τ z : wS) (n k : Nat) : Int32 := match k with
  | 0 => sm (fun h => fsX nH nP τ z n 8 h) nH - sm (fun h => τ 8 h) nH
  | 1 => fsX nH nP τ z n 53 0
  | 2 => sm (fun h => fsX nH nP τ z n 4 h) nH
  | _ => sm (fun h => if fsX nH nP τ z n 23 h = 0 then 0 else 1) nP
/-- the pumps 0 .. i - 1 tried: the best, its thirst, the trial village -/
def adX (nH nP : Nat) (τ z : wS) (h n i : Nat) : wS := dysF nH nP n (wst (tkF τ z) 5 h (nI i))
def adT (nH nP : Nat) (τ z : wS) (h n i : Nat) : Int32 := sm (fun j => adX nH nP τ z h n i 8 j) nH
def adI (nH nP : Nat) (τ z : wS) (h n : Nat) : Nat → Int32 × Int32 × wS
  | 0 => (-1, 0, z)
  | i + 1 =>
    if (adI nH nP τ z h n i).1 = -1 ∨ adT nH nP τ (adI nH nP τ z h n i).2.2 h n i < (adI nH nP τ z h n i).2.1 then (nI i, adT nH nP τ (adI nH nP τ z h n i).2.2 h n i, adX nH nP τ (adI nH nP τ z h n i).2.2 h n i)
    else ((adI nH nP τ z h n i).1, (adI nH nP τ z h n i).2.1, adX nH nP τ (adI nH nP τ z h n i).2.2 h n i)
def i32max (a b : Int32) : Int32 := if a < b then b else a
def unI (τ : wS) (p : Nat) : Nat → Int32 × Int32
  | 0 => (0, 2147483647)
  | h + 1 => if plc (τ (40 + p)) (nI h) (sz τ p) < sz τ p then (i32max (unI τ p h).1 (τ 7 h), i32min (unI τ p h).2 (τ 7 h)) else unI τ p h
def unF (nH : Nat) (τ : wS) (p : Nat) : Int32 := if sz τ p = 0 then 0 else (unI τ p nH).1 - (unI τ p nH).2
def dgH (nP : Nat) (τ : wS) (d : Int64) : Nat → Int64
  | 0 => d
  | i + 1 => mxl (hftF nP τ i) (dgH nP τ d i) 11
def dgP (τ : wS) (d : Int64) : Nat → Int64
  | 0 => d
  | i + 1 => mxl (τ (40 + i)) (mxl (fun k => τ (20 + k) i) (dgP τ d i) 11) (sz τ i)
def dgF (nH nP : Nat) (τ : wS) : Int64 := dgP τ (dgH nP τ (mxl (totF nH nP τ) 577 10) nH) nP
