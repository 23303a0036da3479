section YT
variable {p : Program} {l : Launch} {e : Env} {R : Room} {s : State} {m : MethodId} {args : Array Value} {below : List Frame} {meth : Method} {c : Code} {H : Heap} {locs : List Loc} {cells slots : Nat}
variable {cc : ByteArray} {pc : Nat} {ls : Array Slot} {rest : List Value} {A : Nat → Prop} {BX : Heap → Prop} {mc ms : Nat} {Qc : Array Value → State → Outcome → State → Prop}
/-- the good words of a throw among a method's words, the others beside them -/
abbrev xBad (X : String) : List Cond := [Cond.castable X X, Cond.declares (Bundle.initS "java/lang/RuntimeException"), Cond.declares (Bundle.initS "java/lang/Exception"), Cond.declares (Bundle.initS Bundle.tN)]
theorem yHat {Ts : List Cond} {ic : Nat} {X : String} (hts : ∀ w ∈ Ts, w.before args s = true) (h1 : ∀ w ∈ (vx_atS RX3 ic X xNames).filter goodWord, w ∈ Ts) (h2 : ∀ w ∈ (vx_atS RX3 ic X xNames).filter (fun w => !goodWord w), w ∈ xBad X) (hc : va_Nw (.castable X X) s) (hd : XDe s) : ∀ w ∈ vx_atS RX3 ic X xNames, w.before args s = true :=
  vx_hat (B := xBad X) (fun w h => hts w (h1 w h)) h2 (vx_c (va_Nw.use rfl hc) (vx_c (va_Nw.use rfl hd.1) (vx_c (va_Nw.use rfl hd.2.1) (vx_c (va_Nw.use rfl hd.2.2) vx_n))))
theorem yT {PX : String → Prop} {cls text : String} {ik is ic sa : Nat} (hexec : p.tables.exec = Jvm.exec) (hb : c.code = cc) (hl : l.stackTraces = false) (hown : s.vm.findClass RX3 = some m.cls) (hcls : Bundle.fit cls = true)
    (hk : (Cond.classLink RX3 ik cls).before args s = true) (hini : (Cond.initialized cls).before args s = true) (hstr : vk_R RX3 is text sa s) (hat : ∀ w ∈ vx_atS RX3 ic cls xNames, w.before args s = true)
    (hgood : ∀ w ∈ Cond.classLink RX3 ik cls :: Cond.initialized cls :: vx_atS RX3 ic cls xNames, vx_ot w = true) (hX : XK A s) (hS : va_S A s.heap H locs) (hsize : ls.size = c.maxLocals)
    (d0 : decode cc pc = .ok (.new ik, 3)) (d3 : decode cc (pc + 3) = .ok (.dup, 1)) (d4 : decode cc (pc + 4) = .ok (.ldc is, 2)) (d6 : decode cc (pc + 6) = .ok (.invokespecial ic, 3)) (d9 : decode cc (pc + 9) = .ok (.athrow, 1))
    (ht : ∀ x ∈ c.exceptionTable.toList, False) (hRframes : 5 < R.frames) (hRlocals : (rest.map fun v => v.category).sum + 82 ≤ R.locals) (hRcells : cells + 1 ≤ R.cells) (hRslots : slots + 6 ≤ R.slots) (hlocks : meth.locks = false)
    (hP : PX cls) (hB : ∀ H1 : Heap, (∀ q : Nat, q < H.size → H1[q]? = H[q]?) → BX H1) (hc : cells + 1 ≤ mc) (hs : slots + 6 ≤ ms) :
    W p l e R s m args below meth c H locs cells slots (vx_MQ below Qc (Xx PX BX A) args s mc ms A) (F0 m pc ls rest) :=
  vx_throwS hexec hb hl hown hcls (by decide) hk hini hstr hat hgood hX.1.1 hX.1.2 hS hsize d0 d3 d4 d6 d9 (fun x hx => (ht x hx).elim) hRframes hRlocals hRcells hRslots hlocks
    (fun t _ hz hq => ⟨(), trivial, ⟨hP, hB _ hq⟩, Nat.le_trans hS.1 hz, fun q h1 h2 => (hq q (Nat.lt_of_lt_of_le h1 hS.1)).trans (hS.2.1 q h1 h2)⟩) hS.2.2 hc hs
theorem xG1 : ∀ w ∈ Cond.classLink RX3 178 nIAE :: Cond.initialized nIAE :: vx_atS RX3 182 nIAE xNames, vx_ot w = true := by decide +kernel
theorem xG2 : ∀ w ∈ Cond.classLink RX3 27 nISE :: Cond.initialized nISE :: vx_atS RX3 31 nISE xNames, vx_ot w = true := by decide +kernel
theorem xG3 : ∀ w ∈ Cond.classLink RX3 183 nIOB :: Cond.initialized nIOB :: vx_atS RX3 187 nIOB xNames, vx_ot w = true := by decide +kernel
theorem xB1 : ∀ w ∈ (vx_atS RX3 182 nIAE xNames).filter (fun w => !goodWord w), w ∈ xBad nIAE := by decide +kernel
theorem xB2 : ∀ w ∈ (vx_atS RX3 31 nISE xNames).filter (fun w => !goodWord w), w ∈ xBad nISE := by decide +kernel
theorem xB3 : ∀ w ∈ (vx_atS RX3 187 nIOB xNames).filter (fun w => !goodWord w), w ∈ xBad nIOB := by decide +kernel
end YT
/-! ===== what a call of the object checks ===== -/
abbrev cl (x : Int32) : Nat := x.toNatClampNeg
def hOk (nH : Nat) (x : Int32) : Prop := ¬ x < 0 ∧ ¬ nI nH ≤ x
def pOk (nP : Nat) (x : Int32) : Prop := ¬ x < 0 ∧ x < nI nP
def inn (lo hi v : Int32) : Prop := ¬ v < lo ∧ v ≤ hi
theorem hOk_nI {nH : Nat} {x : Int32} (h : hOk nH x) (hH : nH ≤ 10) : ∃ k, k < nH ∧ x = nI k := by
  obtain ⟨k, hk, e⟩ := nI_of h.1
  refine ⟨k, ?_, e⟩
  rw [e] at h
  exact Nat.not_le.mp (fun q => h.2 ((nI_leI (by omega) hk).mpr q))
theorem pOk_nI {nP : Nat} {x : Int32} (h : pOk nP x) (hP : nP < 2 ^ 31) : ∃ k, k < nP ∧ x = nI k := by
  obtain ⟨k, hk, e⟩ := nI_of h.1
  refine ⟨k, ?_, e⟩
  rw [e] at h
  exact (nI_ltI hk hP).mp h.2
theorem inn_nI {v : Int32} {lo hi : Nat} (h : inn (nI lo) (nI hi) v) (h2 : hi < 2 ^ 30) (h3 : lo ≤ hi) : ∃ k, lo ≤ k ∧ k ≤ hi ∧ v = nI k := by
  have h0 : ¬ v < 0 := fun q => h.1 (by
    rw [Int32.lt_iff_toInt_lt, nI_toInt (by omega)]
    rw [Int32.lt_iff_toInt_lt, Int32.toInt_zero] at q
    omega)
  obtain ⟨k, hk, e⟩ := nI_of h0
  rw [e] at h
  exact ⟨k, Nat.not_lt.mp (fun q => h.1 ((nI_ltI hk (by omega)).mpr q)), (nI_leI hk (by omega)).mp h.2, e⟩
/-- place y on the roster of pump x -/
def plOk (nP : Nat) (τ : wS) (x y : Int32) : Prop := pOk nP x ∧ ¬ y < 0 ∧ y < nI (sz τ (cl x))
theorem plOk_nI {nH nP : Nat} {τ : wS} {x y : Int32} (hv : Inv nH nP τ) (h : plOk nP τ x y) : ∃ p k, p < nP ∧ k < sz τ p ∧ x = nI p ∧ y = nI k := by
  have hP := hv.2.1
  obtain ⟨p, hp, rfl⟩ := pOk_nI h.1 (by omega)
  obtain ⟨k, hk, e⟩ := nI_of h.2.1
  have h3 := h.2.2
  rw [show cl (nI p) = p from nI_clamp (by omega), e] at h3
  have h10 := (hv.2.2.2.2.2 p hp).2.2.2.2.1.1
  exact ⟨p, k, hp, (nI_ltI hk (by omega)).mp h3, rfl, e⟩
