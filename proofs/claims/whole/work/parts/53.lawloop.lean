/-! ===== the law's loop: what stands at its head ===== -/
def LF (xa ma o9 N0 : Nat) (ad ad2 bd bd2 : Nat → Nat) : Prop := XI xa ad ad2 ∧ MI ma bd bd2 ∧ xa < ma ∧ (∀ k, k < 19 → (N0 ≤ ad k ∧ ad k < ma) ∧ N0 ≤ ad2 k ∧ ad2 k < ma) ∧ N0 ≤ ma ∧ ma < o9 ∧ (∀ k, k < 6 → (ma < bd k ∧ bd k < o9) ∧ ma < bd2 k ∧ bd2 k < o9)
section LFs
variable {xa ma o9 N0 nz : Nat} {ad ad2 bd bd2 : Nat → Nat} {G : wG} {cL : ClassId} {t : Int32} {σ z : wS} {d : Int64} {H H1 : Heap}
theorem LF.oa (h : LF xa ma o9 N0 ad ad2 bd bd2) : OA o9 xa ad ad2 := by
  obtain ⟨-, -, h3, h4, h5, h6, -⟩ := h
  exact ⟨by omega, fun k hk => by have := h4 k hk; omega, fun k hk => by have := h4 k hk; omega⟩
theorem LF.subO (h : LF xa ma o9 N0 ad ad2 bd bd2) (hz : N0 ≤ nz) (q : Nat) (hq : AO ad ad2 o9 nz q) : N0 ≤ q := by
  obtain ⟨-, -, h3, h4, h5, h6, -⟩ := h
  rcases hq with (⟨k, hk, e⟩ | ⟨k, hk, e⟩ | e) | e
  · have := h4 k hk; omega
  · have := h4 k hk; omega
  · omega
  · omega
theorem LF.subM (h : LF xa ma o9 N0 ad ad2 bd bd2) (hz : N0 ≤ nz) (q : Nat) (hq : AM ma bd bd2 nz q) : N0 ≤ q := by
  obtain ⟨-, -, h3, h4, h5, h6, h7⟩ := h
  rcases hq with ⟨k, hk, e⟩ | ⟨k, hk, e⟩ | e | e
  · have := h7 k hk; omega
  · have := h7 k hk; omega
  · omega
  · omega
theorem LF.subV (h : LF xa ma o9 N0 ad ad2 bd bd2) (q : Nat) (hq : AV ad 19 q) : N0 ≤ q := by
  obtain ⟨-, -, h3, h4, -⟩ := h
  obtain ⟨k, hk, e⟩ := hq
  have := h4 k hk
  omega
theorem LF.noO (h : LF xa ma o9 N0 ad ad2 bd bd2) {q : Nat} (h1 : ma ≤ q) (h2 : q < o9) (h3 : q < nz) : ¬ AO ad ad2 o9 nz q := fun hq => by
  obtain ⟨-, -, -, h4, -⟩ := h
  rcases hq with (⟨k, hk, e⟩ | ⟨k, hk, e⟩ | e) | e
  · have := h4 k hk; omega
  · have := h4 k hk; omega
  · omega
  · omega
theorem LF.keepM0 (h : LF xa ma o9 N0 ad ad2 bd bd2) (hM : MWz G ma bd bd2 t σ z H) (hk : ∀ q : Nat, q < H.size → ma ≤ q → q < o9 → H1[q]? = H[q]?) : MWz G ma bd bd2 t σ z H1 := by
  obtain ⟨σ2, h1, h2⟩ := hM
  obtain ⟨-, -, -, -, h5, h6, h7⟩ := h
  exact ⟨σ2, ⟨h1.1.kept (hk _ h1.1.lt (Nat.le_refl _) h6), h1.2.1.kept (fun k hk9 => hk _ (h1.2.1.lt hk9) (by have := h7 k hk9; omega) (by have := h7 k hk9; omega)), h1.2.2.kept (fun k hk9 => hk _ (h1.2.2.lt hk9) (by have := h7 k hk9; omega) (by have := h7 k hk9; omega))⟩, h2⟩
theorem LF.keepM (h : LF xa ma o9 N0 ad ad2 bd bd2) (hM : MWz G ma bd bd2 t σ z H) (hk : ∀ q : Nat, q < H.size → ¬ AO ad ad2 o9 H.size q → H1[q]? = H[q]?) : MWz G ma bd bd2 t σ z H1 :=
  h.keepM0 hM (fun q h1 h2 h3 => hk q h1 (h.noO h2 h3 h1))
theorem LF.keepMV (h : LF xa ma o9 N0 ad ad2 bd bd2) (hM : MWz G ma bd bd2 t σ z H) (hk : ∀ q : Nat, q < H.size → ¬ AV ad 19 q → H1[q]? = H[q]?) : MWz G ma bd bd2 t σ z H1 :=
  h.keepM0 hM (fun q h1 h2 h3 => hk q h1 (fun ⟨k, hk9, e⟩ => by have := h.2.2.2.1 k hk9; omega))
theorem LF.keepOV (h : LF xa ma o9 N0 ad ad2 bd bd2) (hO : va_at G.1 vwCl (o9, oLn cL d) H) (hk : ∀ q : Nat, q < H.size → ¬ AV ad 19 q → H1[q]? = H[q]?) : va_at G.1 vwCl (o9, oLn cL d) H1 :=
  hO.kept (hk _ hO.lt (fun ⟨k, hk9, e⟩ => h.oa.2.1 k hk9 e))
theorem LF.keepX (h : LF xa ma o9 N0 ad ad2 bd bd2) (hX : XWz G xa ad ad2 σ z H) (hk : ∀ q : Nat, q < H.size → ¬ AM ma bd bd2 H.size q → H1[q]? = H[q]?) : XWz G xa ad ad2 σ z H1 := by
  obtain ⟨σ2, h1, h2⟩ := hX
  obtain ⟨-, -, h3, h4, h5, h6, h7⟩ := h
  have no : ∀ q : Nat, q < H.size → q < ma → H1[q]? = H[q]? := fun q a c => hk q a (fun hq => by
    rcases hq with ⟨k, hk, e⟩ | ⟨k, hk, e⟩ | e | e
    · have := h7 k hk; omega
    · have := h7 k hk; omega
    · omega
    · omega)
  exact ⟨σ2, ⟨h1.1.kept (no _ h1.1.lt h3), h1.2.1.kept (fun k hk9 => no _ (h1.2.1.lt hk9) (h4 k hk9).1.2), h1.2.2.kept (fun k hk9 => no _ (h1.2.2.lt hk9) (h4 k hk9).2.2)⟩, h2⟩
theorem LF.keepO (h : LF xa ma o9 N0 ad ad2 bd bd2) (hO : va_at G.1 vwCl (o9, oLn cL d) H) (hk : ∀ q : Nat, q < H.size → ¬ AM ma bd bd2 H.size q → H1[q]? = H[q]?) : va_at G.1 vwCl (o9, oLn cL d) H1 := by
  have hlt : o9 < H.size := hO.lt
  obtain ⟨-, -, h3, h4, h5, h6, h7⟩ := h
  exact hO.kept (hk o9 hlt (fun hq => by
    rcases hq with ⟨k, hk, e⟩ | ⟨k, hk, e⟩ | e | e
    · have := h7 k hk; omega
    · have := h7 k hk; omega
    · omega
    · omega))
end LFs
/-- what stands through the whole law -/
def LwS (p : Program) (l : Launch) (s : State) (m : MethodId) (c : Code) (b L : Nat) (xs : Nat → Int32) (G : wG) (cL : ClassId) (xa ma o9 pa : Nat) (ad ad2 bd bd2 : Nat → Nat) : Prop :=
  p.tables.exec = Jvm.exec ∧ c.code = code ∧ c.maxLocals = 9 ∧ s.vm.findClass RL = some m.cls ∧ (∀ w ∈ wsL_law, w.before #[Value.ref b] s = true) ∧ va_X b L xs s s.heap ∧ b < s.heap.size ∧ L ≤ 2048 ∧ l.stackTraces = false ∧
  wKL G cL s ∧ XK (fun q => s.heap.size ≤ q) s ∧ XNc s ∧ MNs s ∧ PLs (fun q => s.heap.size ≤ q) pa s ∧ LF xa ma o9 s.heap.size ad ad2 bd bd2
/-- the two sides behind j calls -/
def LI (G : wG) (cL : ClassId) (xa ma o9 : Nat) (ad ad2 bd bd2 : Nat → Nat) (j : Nat) (H : Heap) : Prop :=
  ∃ nH nP τ z t d, Inv nH nP τ ∧ DB nH (300 * j) τ ∧ XWz G xa ad ad2 (wmx nH nP dC τ) z H ∧ MWz G ma bd bd2 t (wmx nH nP dR τ) z H ∧ va_at G.1 vwCl (o9, oLn cL d) H
