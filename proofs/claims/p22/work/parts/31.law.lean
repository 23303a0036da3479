/-- what stands through the law -/
def LwS (p : Program) (l : Launch) (s : State) (m : MethodId) (c : Code) (b L : Nat) (xs : Nat → Int32) (G : wG) (xa : Nat) (ad ad2 : Nat → Nat) : Prop :=
  p.tables.exec = Jvm.exec ∧ c.code = cL_law ∧ c.maxLocals = 24 ∧ s.vm.findClass RL = some m.cls ∧ (∀ w ∈ wsL_law, w.before #[Value.ref b] s = true) ∧ va_X b L xs s s.heap ∧ b < s.heap.size ∧ L ≤ 260 ∧ l.stackTraces = false ∧ wK G s ∧ XK (fun q : Nat => s.heap.size ≤ q) s ∧ XI xa ad ad2 ∧
  (∀ k, k < 19 → s.heap.size ≤ ad k ∧ s.heap.size ≤ ad2 k) ∧ c.exceptionTable.toList = [(⟨166, 182, 185, 31⟩ : ExceptionTableEntry)]
theorem lw_sub {N0 n9 : Nat} {ad ad2 : Nat → Nat} (hF : ∀ k, k < 19 → N0 ≤ ad k ∧ N0 ≤ ad2 k) (h : N0 ≤ n9) {q : Nat} (hq : AX ad ad2 n9 q) : N0 ≤ q := by
  rcases hq with ⟨k, hk, e⟩ | ⟨k, hk, e⟩ | e
  · have := (hF k hk).1; omega
  · have := (hF k hk).2; omega
  · omega
