/-! ===== the law's wrappers: a call, its handlers, a row of one long ===== -/
def wKL (G : wG) (cL : ClassId) (U : State) : Prop := va_K G.1 vwCl (wT G ++ [(cL, .long)]) U
abbrev oLn (cL : ClassId) (d : Int64) : va_E := .inl (cL, 1, .inr (.inl (fun _ => d)))
def OA (o9 xa : Nat) (ad ad2 : Nat → Nat) : Prop := o9 ≠ xa ∧ (∀ k, k < 19 → o9 ≠ ad k) ∧ ∀ k, k < 19 → o9 ≠ ad2 k
def AO (ad ad2 : Nat → Nat) (o9 nz : Nat) : Nat → Prop := fun q => AX ad ad2 nz q ∨ q = o9
def XNc (U : State) : Prop := va_Nc nISE nIAE U ∧ va_Nc nIAE nIOB U ∧ va_Nc nISE nIOB U ∧ va_Nc nIOB nIAE U
theorem wKL.k {G : wG} {cL : ClassId} {U : State} (h : wKL G cL U) : wK G U := va_K.sub (tys' := wT G) h [0, 1, 2, 3] rfl
def PcW (G : wG) (cL : ClassId) (av : List Value) (sz : Nat) (A : Nat → Prop) (B : Heap → Prop) : Array Value → State → Prop := va_Pc av (fun U => U.heap.size = sz ∧ B U.heap ∧ wKL G cL U ∧ XK A U ∧ XNc U)
theorem PcW.blind {G : wG} {cL : ClassId} {av : List Value} {sz : Nat} {B : Heap → Prop} {A : Nat → Prop} : FrameBlind (PcW G cL av sz A B) := fun a U g mk q =>
  ⟨q.1, q.2.1, q.2.2.1, va_K.moved (u := U) (U := U.calling g mk a) (Vm.Alike.refl U.vm) q.2.2.2.1, by
    obtain ⟨⟨h1, h2⟩, h3, h4⟩ := q.2.2.2.2.1
    exact ⟨⟨h1.moved (U := U.calling g mk a) (Vm.Alike.refl U.vm), h2.moved (U := U.calling g mk a) (Vm.Alike.refl U.vm)⟩, h3.warm (U := U.calling g mk a) (State.WarmedH.refl U), h4.warm (U := U.calling g mk a) (State.WarmedH.refl U)⟩,
    q.2.2.2.2.2.1.moved (U := U.calling g mk a) (Vm.Alike.refl U.vm), q.2.2.2.2.2.2.1.moved (U := U.calling g mk a) (Vm.Alike.refl U.vm), q.2.2.2.2.2.2.2.1.moved (U := U.calling g mk a) (Vm.Alike.refl U.vm), q.2.2.2.2.2.2.2.2.moved (U := U.calling g mk a) (Vm.Alike.refl U.vm)⟩
theorem PcW.pre {G : wG} {cL : ClassId} {av : List Value} {B : Heap → Prop} {A A' : Nat → Prop} {s : State} {H : Heap} {locs : List Loc} (hB : B H) (hK : wKL G cL s) (hX : XK A s) (hN : XNc s) (hS : va_S A s.heap H locs) (hA : ∀ q, A' q → A q) : ∀ U : State, U.heap = H → s.WarmedH U.vm → PcW G cL av H.size A' B av.toArray U :=
  fun U hU hW => ⟨rfl, by rw [hU], by rw [hU]; exact hB, va_K.moved hW.alike hK, hX.at hS hU hW hA, hN.1.moved hW.alike, hN.2.1.moved hW.alike, hN.2.2.1.moved hW.alike, hN.2.2.2.moved hW.alike⟩
/-- the answer of a wrapper: u, and the world of that outcome -/
def Qwi (P : Nat → Prop) (W0 : Nat → Heap → Prop) (A : Nat → Prop) : Array Value → State → Outcome → State → Prop := va_Qi (S := Nat) (fun r u => r = nI u ∧ P u) (fun u t => W0 u t.heap) A
def XF : String → State → State → Prop := vx_X (S := Unit) (fun _ => False) (fun _ _ _ => False) (fun _ => False)
section LR
variable {p : Program} {l : Launch} {e : Env} {R : Room} {s : State} {m : MethodId} {args : Array Value} {below : List Frame} {meth : Method} {c : Code} {H : Heap} {locs : List Loc} {cells slots : Nat} {Q : State → Prop}
variable {cc : ByteArray} {pc : Nat} {ls : Array Slot} {rest st0 : List Value} {a : Array Value} {A A0 A1 AX9 : Nat → Prop} {H0 : Heap} {G : wG} {cL : ClassId} {mc ms : Nat} {free : Addr → Prop} {B BX : Heap → Prop} {P : Prop} {PX : String → Prop}
theorem kXi {v : Int32} (hr : vx_Run p l e R s m args below meth c H locs cells slots mc ms (F0 m pc ls st0) rest (Qxi P v B A1 a) (Xx PX BX AX9) free) (hS : va_S A0 H0 H locs) (hA : ∀ q, A1 q → A0 q) (hf : ∀ q, free q → A0 q) (hAX : ∀ q, AX9 q → A0 q)
    (kx : ∀ (E : String) (ce : Cell) (q9 : Addr) (H1 : Heap) (locs1 : List Loc), PX E → BX H1 → (∀ q : Nat, q < H.size → ¬ AX9 q → H1[q]? = H[q]?) → va_S A0 H0 H1 locs1 → H1[q9]? = some ce → ce.vm = .none → s.vm.findClass E = some ce.cls → vx_W p l e R s m args below meth c H1 locs1 (cells + mc) (slots + ms) Q (F0 m pc ls rest) q9)
    (kk : ∀ (H1 : Heap) (locs1 : List Loc), P → B H1 → (∀ q : Nat, q < H.size → ¬ A1 q → H1[q]? = H[q]?) → va_S A0 H0 H1 locs1 → W p l e R s m args below meth c H1 locs1 (cells + mc) (slots + ms) Q (F0 m (pc + 3) ls (.int v :: rest))) : W p l e R s m args below meth c H locs cells slots Q (F0 m pc ls st0) := by
  refine vx_calli hr hS (fun q _ h => hA q h) hf (fun q _ h => hAX q h) (fun E ce q9 u t H1 locs1 ht hvm hp hB hz hk hS1 hc hv hcl => ?_) (fun r u t H1 locs1 ht hvm hp hB hz hk hS1 => ?_)
  · have hB2 := hB.2
    rw [ht] at hB2
    exact kx E ce q9 H1 locs1 hB.1 hB2 hk hS1 hc hv hcl
  · rw [ht] at hB
    obtain ⟨hp, rfl⟩ := hp
    exact kk H1 locs1 hp hB hk hS1
/-- a wrapper's call, in the law -/
theorem kW {PW : Nat → Prop} {W0 : Nat → Heap → Prop} (hr : vx_Run p l e R s m args below meth c H locs cells slots mc ms (F0 m pc ls st0) rest (Qwi PW W0 A1 a) XF free) (hS : va_S A0 H0 H locs) (hA : ∀ q, q < H.size → A1 q → A0 q) (hf : ∀ q, free q → A0 q)
    (kk : ∀ (u : Nat) (H1 : Heap) (locs1 : List Loc), PW u → W0 u H1 → H.size ≤ H1.size → (∀ q : Nat, q < H.size → ¬ A1 q → H1[q]? = H[q]?) → va_S A0 H0 H1 locs1 → W p l e R s m args below meth c H1 locs1 (cells + mc) (slots + ms) Q (F0 m (pc + 3) ls (.int (nI u) :: rest))) : W p l e R s m args below meth c H locs cells slots Q (F0 m pc ls st0) := by
  refine vx_calli hr hS hA hf (fun q _ h => h.elim) (fun E ce q9 u t H1 locs1 ht hvm hp hB hz hk hS1 hc hv hcl => hp.elim) (fun r u t H1 locs1 ht hvm hp hB hz hk hS1 => ?_)
  rw [ht] at hB
  obtain ⟨rfl, hp⟩ := hp
  exact kk u H1 locs1 hp hB hz hk hS1
/-- a call of the reference, in the law -/
theorem kM {v : Int32} {PW : Nat → Prop} {W0 : Nat → Heap → Prop} (hr : va_Run p l e R s m args below meth c H locs cells slots mc ms (F0 m pc ls st0) rest (Qmi PW v W0 A1 a) free) (hS : va_S A0 H0 H locs) (hA : ∀ q, q < H.size → A1 q → A0 q) (hf : ∀ q, free q → A0 q)
    (kk : ∀ (u : Nat) (r : Int32) (H1 : Heap) (locs1 : List Loc), PW u → (u = 0 → r = v) → W0 u H1 → H.size ≤ H1.size → (∀ q : Nat, q < H.size → ¬ A1 q → H1[q]? = H[q]?) → va_S A0 H0 H1 locs1 → W p l e R s m args below meth c H1 locs1 (cells + mc) (slots + ms) Q (F0 m (pc + 3) ls (.int r :: rest))) : W p l e R s m args below meth c H locs cells slots Q (F0 m pc ls st0) := by
  refine va_calli hr hS hA hf (fun r u t H1 locs1 ht hvm hw hB hz1 hk1 hS1 => ?_)
  rw [ht] at hB
  exact kk u r H1 locs1 hw.1 hw.2 hB hz1 hk1 hS1
theorem kD {v : UInt64} (hr : va_Run p l e R s m args below meth c H locs cells slots mc ms (F0 m pc ls st0) rest (Qd0 v B A1 a) free) (hS : va_S A0 H0 H locs) (hA : ∀ q, q < H.size → A1 q → A0 q) (hf : ∀ q, free q → A0 q)
    (kk : ∀ (H1 : Heap) (locs1 : List Loc), B H1 → H.size ≤ H1.size → (∀ q : Nat, q < H.size → ¬ A1 q → H1[q]? = H[q]?) → va_S A0 H0 H1 locs1 → W p l e R s m args below meth c H1 locs1 (cells + mc) (slots + ms) Q (F0 m (pc + 3) ls (.double v :: rest))) : W p l e R s m args below meth c H locs cells slots Q (F0 m pc ls st0) := by
  refine va_calld hr hS hA hf (fun r u t H1 locs1 ht hvm hw hB hz1 hk1 hS1 => ?_)
  subst hw
  rw [ht] at hB
  exact kk H1 locs1 hB hz1 hk1 hS1
theorem wO {o9 : Nat} {d x : Int64} (hexec : p.tables.exec = Jvm.exec) (hb : c.code = cc) (hK : wKL G cL s) (hO : va_at G.1 vwCl (o9, oLn cL d) H) (hS : va_S A H0 H locs) (hA : A o9) (hdg : decode cc pc = .ok (.lastore, 1))
    (kk : ∀ (H1 : Heap) (locs1 : List Loc), va_at G.1 vwCl (o9, oLn cL x) H1 → (∀ q : Nat, q ≠ o9 → H1[q]? = H[q]?) → va_S A H0 H1 locs1 → W p l e R s m args below meth c H1 locs1 cells slots Q (F0 m (pc + 1) ls rest)) : W p l e R s m args below meth c H locs cells slots Q (F0 m pc ls (.long x :: .int 0 :: .ref o9 :: rest)) := by
  refine W.last hexec hb hO ((hK.2 4 (cL, .long) rfl).1 1 (fun _ => .long d)) (fun q => by cases q) (by show ¬ ((0 : Int32) < 0 ∨ (arrV _ _ _).slots.size ≤ _); rw [arrV_size]; show ¬ ((0 : Int32) < 0 ∨ 1 ≤ (0 : Int32).toNatClampNeg); decide) rfl rfl hdg fun H1 e z oq => ?_
  refine kk H1 _ ?_ oq (hS.put z oq hA)
  show H1[o9]? = some (vp_cell _ _)
  rw [e]
  rw [vp_cell_l, vp_cell_l, arrV_store]
  unfold arrV
  congr 1
theorem rO {o9 : Nat} {d : Int64} (hexec : p.tables.exec = Jvm.exec) (hb : c.code = cc) (hK : wKL G cL s) (hO : va_at G.1 vwCl (o9, oLn cL d) H) (hdg : decode cc pc = .ok (.laload, 1))
    (kk : W p l e R s m args below meth c H locs cells slots Q (F0 m (pc + 1) ls (.long d :: rest))) : W p l e R s m args below meth c H locs cells slots Q (F0 m pc ls (.int 0 :: .ref o9 :: rest)) :=
  va_lald (f := fun _ => d) (n := 1) hexec hb hK (va_P1 hO) 0 4 rfl rfl (show vp_in (nI 0) 1 from vp_in_nI (by omega) (by omega)) hdg kk
end LR
section LE
variable {p : Program} {l : Launch} {e : Env} {R : Room} {s : State} {m : MethodId} {args : Array Value} {below : List Frame} {meth : Method} {c : Code} {H : Heap} {locs : List Loc} {cells slots : Nat}
variable {cc : ByteArray} {pc : Nat} {ls : Array Slot} {A : Nat → Prop} {PW : Nat → Prop} {W0 : Nat → Heap → Prop} {mc ms : Nat} {XC : String → State → State → Prop}
theorem xW (u : Nat) {v : Int32} (hexec : p.tables.exec = Jvm.exec) (hb : c.code = cc) (hr : meth.sig.returnType = some .int) (hlocks : meth.locks = false) (hP : PW u) (hB : W0 u H) (hS : va_S A s.heap H locs) (hv : v = nI u) (hc : cells ≤ mc) (hs : slots ≤ ms) (hdg : decode cc pc = .ok (.ireturn, 1)) :
    W p l e R s m args below meth c H locs cells slots (vx_MQ below (Qwi PW W0 A) XC args s mc ms A) (F0 m pc ls [.int v]) :=
  W.widen hc hs (vx_ret (W.iret hexec hb hr (fun t ht hW => ⟨⟨_, u, rfl, ⟨hv, hP⟩, by show W0 u t.heap; rw [ht]; exact hB⟩, hS.F ht⟩) hS.2.2 hdg))
end LE
theorem XWz.keptO {G : wG} {xa o9 : Nat} {ad ad2 : Nat → Nat} {σ z : wS} {H H1 : Heap} (h : XWz G xa ad ad2 σ z H) (ho : OA o9 xa ad ad2) (hk : ∀ q : Nat, q ≠ o9 → H1[q]? = H[q]?) : XWz G xa ad ad2 σ z H1 := by
  obtain ⟨σ2, h1, h2⟩ := h
  exact ⟨σ2, ⟨h1.1.kept (hk _ (Ne.symm ho.1)), h1.2.1.kept (fun k hk9 => hk _ (Ne.symm (ho.2.1 k hk9))), h1.2.2.kept (fun k hk9 => hk _ (Ne.symm (ho.2.2 k hk9)))⟩, h2⟩
theorem OA.no {o9 xa nz : Nat} {ad ad2 : Nat → Nat} (ho : OA o9 xa ad ad2) (h : o9 < nz) : ¬ AX ad ad2 nz o9 := fun q => by
  rcases q with ⟨k, hk, e⟩ | ⟨k, hk, e⟩ | q
  · exact ho.2.1 k hk e
  · exact ho.2.2 k hk e
  · omega
theorem uq1 {A : Prop} {u w : Nat} (h : (u = 0 ∧ A) ∨ (u = 1 ∧ ¬ A)) (g : (w = 0 ∧ A) ∨ (w = 1 ∧ ¬ A)) : u = w := by
  rcases h with ⟨a, b⟩ | ⟨a, b⟩ <;> rcases g with ⟨c, d⟩ | ⟨c, d⟩ <;> first | omega | exact absurd b d | exact absurd d b
theorem uq2 {A B : Prop} {u w : Nat} (h : (u = 0 ∧ A ∧ B) ∨ (u = 1 ∧ ¬ A) ∨ (u = 2 ∧ A ∧ ¬ B)) (g : (w = 0 ∧ A ∧ B) ∨ (w = 1 ∧ ¬ A) ∨ (w = 2 ∧ A ∧ ¬ B)) : u = w := by
  rcases h with ⟨a, b, b2⟩ | ⟨a, b⟩ | ⟨a, b, b2⟩ <;> rcases g with ⟨c, d, d2⟩ | ⟨c, d⟩ | ⟨c, d, d2⟩ <;> first | omega | exact absurd b d | exact absurd d b | exact absurd b2 d2 | exact absurd d2 b2
theorem uq2b {A1 A2 B : Prop} {u w : Nat} (h : (u = 0 ∧ A1 ∧ A2 ∧ B) ∨ (u = 1 ∧ ¬ (A1 ∧ A2)) ∨ (u = 2 ∧ A1 ∧ A2 ∧ ¬ B)) (g : (w = 0 ∧ A1 ∧ A2 ∧ B) ∨ (w = 1 ∧ ¬ (A1 ∧ A2)) ∨ (w = 2 ∧ A1 ∧ A2 ∧ ¬ B)) : u = w :=
  uq2 (A := A1 ∧ A2) (B := B) (h.imp (fun q => ⟨q.1, ⟨q.2.1, q.2.2.1⟩, q.2.2.2⟩) (fun q => q.imp id (fun q => ⟨q.1, ⟨q.2.1, q.2.2.1⟩, q.2.2.2⟩))) (g.imp (fun q => ⟨q.1, ⟨q.2.1, q.2.2.1⟩, q.2.2.2⟩) (fun q => q.imp id (fun q => ⟨q.1, ⟨q.2.1, q.2.2.1⟩, q.2.2.2⟩)))
theorem uq2c {A1 A2 A3 B : Prop} {u w : Nat} (h : (u = 0 ∧ A1 ∧ A2 ∧ A3 ∧ B) ∨ (u = 1 ∧ ¬ (A1 ∧ A2 ∧ A3)) ∨ (u = 2 ∧ A1 ∧ A2 ∧ A3 ∧ ¬ B)) (g : (w = 0 ∧ A1 ∧ A2 ∧ A3 ∧ B) ∨ (w = 1 ∧ ¬ (A1 ∧ A2 ∧ A3)) ∨ (w = 2 ∧ A1 ∧ A2 ∧ A3 ∧ ¬ B)) : u = w :=
  uq2 (A := A1 ∧ A2 ∧ A3) (B := B) (h.imp (fun q => ⟨q.1, ⟨q.2.1, q.2.2.1, q.2.2.2.1⟩, q.2.2.2.2⟩) (fun q => q.imp id (fun q => ⟨q.1, ⟨q.2.1, q.2.2.1, q.2.2.2.1⟩, q.2.2.2.2⟩))) (g.imp (fun q => ⟨q.1, ⟨q.2.1, q.2.2.1, q.2.2.2.1⟩, q.2.2.2.2⟩) (fun q => q.imp id (fun q => ⟨q.1, ⟨q.2.1, q.2.2.1, q.2.2.2.1⟩, q.2.2.2.2⟩)))
