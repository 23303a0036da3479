/-! ===== new rows of ints, PLACES, loops that make ===== -/
def vlN (L : List Int32) : Nat → Int32 := fun j => L.getD j 0
theorem vlN_upd {L : List Int32} {x : Int32} : ∀ N, L.length < N → ∀ j, j < N → upd (vlN L) L.length x j = vlN (L ++ [x]) j := by
  intro N hN j hj
  unfold upd vlN
  by_cases q : j = L.length
  · rw [if_pos q, q]
    simp [List.getD_eq_getElem?_getD]
  · rw [if_neg q]
    rcases Nat.lt_or_ge j L.length with h | h
    · simp [List.getD_eq_getElem?_getD, List.getElem?_append_left h]
    · rw [List.getD_eq_getElem?_getD, List.getD_eq_getElem?_getD, List.getElem?_eq_none h, List.getElem?_eq_none (by simp; omega)]
section NW
variable {p : Program} {l : Launch} {e : Env} {R : Room} {s : State} {m : MethodId} {args : Array Value} {below : List Frame} {meth : Method} {c : Code} {H : Heap} {locs : List Loc} {cells slots : Nat} {Q : State → Prop}
variable {cc : ByteArray} {pc : Nat} {ls : Array Slot} {rest : List Value} {A : Nat → Prop} {H0 : Heap} {G : wG}
theorem nwI {n : Int32} (N : Nat) (hexec : p.tables.exec = Jvm.exec) (hb : c.code = cc) (harr : (Cond.arrayClass .int).before args s = true) (hK : wK G s) (hS : va_S A H0 H locs) (hn : ¬ n < 0) (hN : n.toNatClampNeg = N) (hbytes : N * componentBytes .int ≤ 536870912) (hcells : cells + 1 ≤ R.cells) (hslots : slots + N ≤ R.slots) (hdg : decode cc pc = .ok (.newarray .int, 2))
    (kk : ∀ (n9 : Nat) (H1 : Heap), H.size = n9 → H0.size ≤ n9 → va_at G.1 vwCl (n9, .inl (G.2.1, N, .inl (vlN []))) H1 → (∀ q : Nat, q < H.size → H1[q]? = H[q]?) → va_S A H0 H1 locs → W p l e R s m args below meth c H1 locs (cells + 1) (slots + N) Q (F0 m (pc + 2) ls (.ref n9 :: rest))) : W p l e R s m args below meth c H locs cells slots Q (F0 m pc ls (.int n :: rest)) := by
  refine va_newaK (atype := .int) hexec hb harr rfl hdg rfl hn hN hbytes hcells hslots rfl fun H1 cA e1 z1 o1 hAr hNm => ?_
  have e9 : cA = G.2.1 := Option.some.inj (hNm.symm.trans (hK.2 0 _ rfl).2)
  subst e9
  refine kk H.size H1 rfl hS.1 ?_ o1 ⟨Nat.le_trans hS.1 (by omega), fun x h1 h2 => (o1 x (Nat.lt_of_lt_of_le h1 hS.1)).trans (hS.2.1 x h1 h2), hS.2.2⟩
  show H1[H.size]? = some (vp_cell _ _)
  rw [e1]
  rfl
/-- the next number of a row that is being filled -/
theorem nwSt {L : List Int32} {N n9 : Nat} {i x : Int32} (hexec : p.tables.exec = Jvm.exec) (hb : c.code = cc) (hK : wK G s) (hN : va_at G.1 vwCl (n9, .inl (G.2.1, N, .inl (vlN L))) H) (hS : va_S A H0 H locs) (hA : A n9) (hi : i = nI L.length) (hk : L.length < N) (hN2 : N < 2 ^ 31) (hdg : decode cc pc = .ok (.iastore, 1))
    (kk : ∀ (H1 : Heap) (locs1 : List Loc), va_at G.1 vwCl (n9, .inl (G.2.1, N, .inl (vlN (L ++ [x])))) H1 → (∀ q : Nat, q ≠ n9 → H1[q]? = H[q]?) → va_S A H0 H1 locs1 → W p l e R s m args below meth c H1 locs1 cells slots Q (F0 m (pc + 1) ls rest)) : W p l e R s m args below meth c H locs cells slots Q (F0 m pc ls (.int x :: .int i :: .ref n9 :: rest)) := by
  subst hi
  refine xq_iast hexec hb hK hN hS hA 0 rfl (vp_in_nI hk hN2) hdg (fun H1 locs1 e1 e3 hS1 => ?_)
  rw [nI_clamp (by omega)] at e1
  refine kk H1 locs1 ?_ e3 hS1
  show H1[n9]? = some (vp_cell _ _)
  rw [arr_same (f := vlN (L ++ [x])) (g := upd (vlN L) L.length x) (fun j hj => (vlN_upd N hk j hj).symm)]
  exact e1
theorem nwLd {L : List Int32} {N n9 k : Nat} {v : Int32} (hexec : p.tables.exec = Jvm.exec) (hb : c.code = cc) (hK : wK G s) (hN : va_at G.1 vwCl (n9, .inl (G.2.1, N, .inl (vlN L))) H) (hk : k < N) (hN2 : N < 2 ^ 31) (hv : vlN L k = v) (hdg : decode cc pc = .ok (.iaload, 1))
    (kk : W p l e R s m args below meth c H locs cells slots Q (F0 m (pc + 1) ls (.int v :: rest))) : W p l e R s m args below meth c H locs cells slots Q (F0 m pc ls (.int (nI k) :: .ref n9 :: rest)) := by
  refine va_iald hexec hb hK (va_P1 hN) 0 0 rfl rfl (vp_in_nI hk hN2) hdg ?_
  rw [nI_clamp (by omega), hv]
  exact kk
/-- a loop that counts up and makes k1 cells of k2 slots each time -/
theorem W_upc (k1 k2 : Nat) (n : Nat) (I : Nat → Heap → List Loc → Array Slot → Prop)
    (hs : ∀ i H locs ls, i ≤ n → I i H locs ls → (i < n → ∀ H' locs' ls', I (i + 1) H' locs' ls' → W p l e R s m args below meth c H' locs' (cells + (i + 1) * k1) (slots + (i + 1) * k2) Q (F0 m pc ls' [])) → W p l e R s m args below meth c H locs (cells + i * k1) (slots + i * k2) Q (F0 m pc ls [])) :
    ∀ i, i ≤ n → ∀ H locs ls, I i H locs ls → W p l e R s m args below meth c H locs (cells + i * k1) (slots + i * k2) Q (F0 m pc ls []) := by
  have key : ∀ k i, i ≤ n → n - i = k → ∀ H locs ls, I i H locs ls → W p l e R s m args below meth c H locs (cells + i * k1) (slots + i * k2) Q (F0 m pc ls []) := by
    intro k
    induction k with
    | zero => exact fun i hi hk H locs ls h => hs i H locs ls hi h (fun hlt => absurd hlt (by omega))
    | succ k ih => exact fun i hi hk H locs ls h => hs i H locs ls hi h (fun hlt H' locs' ls' h' => ih (i + 1) (by omega) (by omega) H' locs' ls' h')
  exact fun i hi H locs ls h => key _ i hi rfl H locs ls h
end NW
/-! ===== objects and rows that come: a cell at a time ===== -/
def dC : wS := fun f _ => match f with
  | 3 => 10
  | 25 => -1
  | _ => 0
def dR : wS := fun _ _ => 0
def zH : List Value := [.int 0, .int 0, .int 0, .int 0, .int 0, .int 0, .int 0, .int 0, .int 0, .int 0, .int 0, .int 0]
def zP : List Value := [.int 0, .int 0, .int 0, .int 0, .int 0, .int 0, .null, .int 0, .int 0, .int 0, .int 0, .int 0, .int 0, .int 0]
def zV : List Value := [.null, .null, .int 0, .int 0, .int 0, .int 0]
def zX : List Value := [.null, .null]
def zS : List Value := [.int 0, .int 0, .null, .int 0, .null, .null, .null, .null, .int 0]
def zM : List Value := [.int 0, .null, .null]
section NR
variable {p : Program} {l : Launch} {e : Env} {R : Room} {s : State} {m : MethodId} {args : Array Value} {below : List Frame} {meth : Method} {c : Code} {H : Heap} {locs : List Loc} {cells slots : Nat} {Q : State → Prop}
variable {cc : ByteArray} {pc : Nat} {ls : Array Slot} {rest : List Value} {A : Nat → Prop} {H0 : Heap} {G : wG} {D : va_G} {cl : List vw_C} {a : Nat} {tys : List (ClassId × FieldType)}
theorem vaS9 {H1 : Heap} (hS : va_S A H0 H locs) (z : H1.size = H.size + 1) (o1 : ∀ q : Nat, q < H.size → H1[q]? = H[q]?) : va_S A H0 H1 locs :=
  ⟨Nat.le_trans hS.1 (by omega), fun x h1 h2 => (o1 x (Nat.lt_of_lt_of_le h1 hS.1)).trans (hS.2.1 x h1 h2), hS.2.2⟩
theorem nwQ {C : String} {index t0 : Nat} {cQ : ClassId} {n : Int32} (N : Nat) (hexec : p.tables.exec = Jvm.exec) (hb : c.code = cc) {own : String} (hown : s.vm.findClass own = some m.cls) (hclink : (Cond.classLink own index C).before args s = true) (hover : va_AO C s) (hK : wK G s) (ht : (wT G)[t0]? = some (cQ, .object C)) (hS : va_S A H0 H locs) (hn : ¬ n < 0) (hN : n.toNatClampNeg = N) (hbytes : N * 4 ≤ 536870912) (hcells : cells + 1 ≤ R.cells) (hslots : slots + N ≤ R.slots) (hdg : decode cc pc = .ok (.anewarray index, 3))
    (kk : ∀ (n9 : Nat) (H1 : Heap), H.size = n9 → H0.size ≤ n9 → va_at G.1 vwCl (n9, .inl (cQ, N, .inr (.inr (.inr (.inr (fun _ => none)))))) H1 → (∀ q : Nat, q < H.size → H1[q]? = H[q]?) → va_S A H0 H1 locs → W p l e R s m args below meth c H1 locs (cells + 1) (slots + N) Q (F0 m (pc + 3) ls (.ref n9 :: rest))) : W p l e R s m args below meth c H locs cells slots Q (F0 m pc ls (.int n :: rest)) := by
  subst hN
  refine W.anew hexec hb hown hclink (va_AO.use hover) rfl hdg rfl hn hbytes hcells hslots fun cA kA comp f1 f2 f3 f4 => ?_
  obtain ⟨_, _, _, _, _, r4⟩ := (hK.2 t0 _ ht).2
  have e9 : cA = cQ := Option.some.inj (f1.symm.trans r4)
  subst e9
  generalize hH1 : H.push ({ cls := cA, slots := Array.replicate n.toNatClampNeg .null, vm := .none } : Cell) = H1
  have z1 : H1.size = H.size + 1 := by rw [← hH1, Array.size_push]
  have e1 : H1[H.size]? = some (arrV cA n.toNatClampNeg (fun _ => .null)) := by rw [← hH1, Array.getElem?_push_size, ← arrV_new]
  have o1 : ∀ q : Nat, q < H.size → H1[q]? = H[q]? := fun q hq => by rw [← hH1, Array.getElem?_push, if_neg (Nat.ne_of_lt hq)]
  refine kk H.size H1 rfl hS.1 ?_ o1 (vaS9 hS z1 o1)
  show H1[H.size]? = some (vp_cell _ _)
  rw [vp_cell_q]
  exact e1
theorem nwO {c0 : Code} (hexec : p.tables.exec = Jvm.exec) (hb : c0.code = cc) {own C : String} {T : u_T} {N ci index : Nat} {Ts : List Cond} (hts : ∀ w ∈ Ts, w.before args s = true) (hin : ∀ w ∈ u_ws C T N, w ∈ Ts) (ty : Nat → FieldType) (hty : ∀ k, k < N → parseFieldDescriptor (T k).2.2.1 = some (ty k)) (hown : s.vm.findClass own = some m.cls) (hcl : (Cond.classLink own index C).before args s = true) (hinst : (Cond.instantiable C N).before args s = true) (hini : (Cond.initialized C).before args s = true)
    (hK : wK G s) (hS : va_S A H0 H locs) (hc : vwCl[ci]? = some (C, T, N)) {fs : List Value} (hfs : ∀ j, j < N → defaultValue (ty j) = vp_V fs j) (hcells : cells + 1 ≤ R.cells) (hslots : slots + N ≤ R.slots) (hdg : decode cc pc = .ok (.new index, 3))
    (kk : ∀ (n9 : Nat) (H1 : Heap), H.size = n9 → H0.size ≤ n9 → va_at G.1 vwCl (n9, .inr (ci, fs)) H1 → (∀ q : Nat, q < H.size → H1[q]? = H[q]?) → va_S A H0 H1 locs →
      W p l e R s m args below meth c0 H1 locs (cells + 1) (slots + N) Q (F0 m (pc + 3) ls (.ref n9 :: rest))) : W p l e R s m args below meth c0 H locs cells slots Q (F0 m pc ls rest) := by
  have hKn := hK.1 ci _ hc
  refine W.newcK hexec hb hown hcl hinst hini rfl hdg hcells hslots hKn.2.1 rfl fun H1 kC hkC e1 z1 o1 => ?_
  exact kk H.size H1 rfl hS.1 ⟨_, hc, (u_born ty hts hin hKn hkC e1 hty).to hfs⟩ o1 (vaS9 hS z1 o1)
theorem xq_putF (hexec : p.tables.exec = Jvm.exec) (hb : c.code = cc) {own ref C : String} {T : u_T} {N ci index : Nat} {Ts : List Cond} (hts : ∀ w ∈ Ts, w.before args s = true) (hin : ∀ w ∈ u_ws C T N, w ∈ Ts) (ty0 : Nat → FieldType) (hty : ∀ k, k < N → parseFieldDescriptor (T k).2.2.1 = some (ty0 k)) (hnm : ∀ a, a < N → ∀ b, b < N → a ≠ b → (T a).2.1 ≠ (T b).2.1) (hown : s.vm.findClass own = some m.cls) (hK : va_K D cl tys s) {fs : List Value} (hq : va_at D cl (a, .inr (ci, fs)) H) (hS0 : va_S A H0 H locs) (hA : A a) (hc : cl[ci]? = some (C, T, N)) (k : Nat) (hk : k < N) (hlink : (Cond.fieldLink own index ref (T k).2.1 (T k).2.2.1).before args s = true) (hsame : ∀ x, s.fieldFound? (T k).1 (T k).2.1 (T k).2.2.1 = some x → s.fieldFound? ref (T k).2.1 (T k).2.2.1 = some x) (hfin : (T k).2.2.2 = true) (hin2 : meth.name = "<init>") (hdecl : (T k).1 = own) {ty : FieldType} {v : Value} (hd : parseFieldDescriptor (T k).2.2.1 = some ty) (hn : narrow ty v = v) (hfit : fits ty v = true) (hl : k < fs.length)
    (hdg : decode cc pc = .ok (.putfield index, 3)) (kk : ∀ (H1 : Heap) (locs1 : List Loc), va_at D cl (a, .inr (ci, fs.set k v)) H1 → (∀ q : Nat, q ≠ a → H1[q]? = H[q]?) → va_S A H0 H1 locs1 → W p l e R s m args below meth c H1 locs1 cells slots Q (F0 m (pc + 3) ls rest)) : W p l e R s m args below meth c H locs cells slots Q (F0 m pc ls (v :: .ref a :: rest)) := by
  have hap := va_apart (own := own) hts hin ty0 hty hnm hK hc
  obtain ⟨r, h1, cell, q1, q2, q3, q4⟩ := hq
  have hr : r = (C, T, N) := Option.some.inj (h1.symm.trans hc)
  subst hr
  obtain ⟨hS, hfc, kC, hkC, hkind⟩ := hK.1 ci _ hc
  obtain ⟨cf, kf, fi, f, hi, hsl⟩ := hS k hk
  have hlay := hts _ (hin _ (u_in_lay hk))
  unfold u_lay at hlay
  rw [if_pos hfin] at hlay
  have hst := (u_facts hfc hkC (u_lays hts hin hk) hi).1
  have hcf : m.cls = cf := by
    obtain ⟨_, _, c', _, _, _, -, -, hf', -, -, -, hown2, -⟩ := Cond.laysFinal_spec hlay
    have e1 : c' = cf := by have := hi.symm.trans hf'; simp at this; exact this.1.symm
    rw [hdecl] at hown2
    rw [← e1]; exact Option.some.inj (hown.symm.trans hown2)
  have h6 := u_fits hfc hkC hkind (Or.inr hlay) hi hd hn hfit
  refine W.putFinK hexec hb hown hlink (hsame _ hi) hst hcf hin2 (by rw [q2]; exact h6) q1 q3 (by rw [hsl]; exact k2_hasslot (q4 k hk)) rfl rfl hdg fun H' e1 e2 e3 => ?_
  rw [hsl] at e1 ⊢
  exact kk H' _ ⟨_, hc, t_OB.to (V := updV (vp_V fs) k v) ⟨_, e1, q2, q3, t_set q4 hap hk v⟩ (fun j _ => vp_updV_set hl v j)⟩ e3 (hS0.put e2 e3 hA)
theorem xq_astq (hexec : p.tables.exec = Jvm.exec) (hb : c.code = cc) (hK : va_K D cl tys s) (t0 ci : Nat) {cA : ClassId} {r : vw_C} {n v : Nat} {vs : List Value} {f : Nat → Option Nat} (ha : va_at D cl (a, .inl (cA, n, .inr (.inr (.inr (.inr f))))) H) (hv : va_at D cl (v, .inr (ci, vs)) H) (hS : va_S A H0 H locs) (hA : A a) (ht : tys[t0]? = some (cA, .object r.1)) (hc : cl[ci]? = some r) {i : Int32} (hin : vp_in i n) (hdg : decode cc pc = .ok (.aastore, 1))
    (kk : ∀ (H1 : Heap) (locs1 : List Loc), va_at D cl (a, .inl (cA, n, .inr (.inr (.inr (.inr (va_up f i.toNatClampNeg (some v))))))) H1 → (∀ q : Nat, q ≠ a → H1[q]? = H[q]?) → va_S A H0 H1 locs1 → W p l e R s m args below meth c H1 locs1 cells slots Q (F0 m (pc + 1) ls rest)) : W p l e R s m args below meth c H locs cells slots Q (F0 m pc ls (.ref v :: .int i :: .ref a :: rest)) := by
  have hlt : i.toNatClampNeg < n := Nat.not_le.mp fun q => hin (Or.inr q)
  have h0 : ¬ i < 0 := fun q => hin (Or.inl q)
  obtain ⟨r', hr', cellV, g1, g2, g3, -⟩ := hv
  have hcls := (hK.1 ci r hc).2
  obtain ⟨kA, comp, k1, k2, k3, -⟩ := (hK.2 t0 _ ht).2
  have hcomp : comp = D.1 ci := Option.some.inj (k3.symm.trans hcls.1)
  subst hcomp
  obtain ⟨kC, hkC, -⟩ := hcls.2
  refine W.aast hexec hb ha (fun q h => by cases h) (fun h => by cases h) k1 k2 rfl hkC ⟨h0, by show _ < (arrV _ _ _).slots.size; rw [arrV_size]; exact hlt⟩ g1 (fun q h => by rw [g3] at h; cases h) (by rw [g2]; exact hkC) (by rw [g2]; exact va_assign hcls) rfl rfl hdg fun H1 e z oq => ?_
  refine kk H1 _ ?_ oq (hS.put z oq hA)
  show H1[a]? = some (vp_cell _ _)
  rw [e]
  rw [vp_cell_q, vp_cell_q, arrV_store]
  congr 2
  funext q
  by_cases hq : q = i.toNatClampNeg
  · subst hq
    simp [updV, va_up, va_rf]
  · simp [updV, va_up, hq]
end NR
theorem arr_sameq {cA : ClassId} {n : Nat} {f g : Nat → Option Nat} (h : ∀ j, j < n → f j = g j) : vp_cell cA (n, .inr (.inr (.inr (.inr f)))) = vp_cell cA (n, .inr (.inr (.inr (.inr g)))) := by
  rw [vp_cell_q, vp_cell_q]
  unfold arrV
  congr 1
  apply Array.ext
  · simp
  · intro i h1 h2
    simp only [Array.getElem_ofFn] <;> (simp at h1; simp [h i (by omega)])
/-- a contract's start where the heap's size is known -/
def PcN (G : wG) (av : List Value) (nz : Nat) (B : Heap → Prop) (N : State → Prop) : Array Value → State → Prop := va_Pc av (fun U => U.heap.size = nz ∧ B U.heap ∧ wK G U ∧ N U)
theorem PcN.pre {G : wG} {av : List Value} {B : Heap → Prop} {N : State → Prop} {s : State} {H : Heap} (hB : B H) (hK : wK G s) (hN : ∀ U : State, s.WarmedH U.vm → N U) : ∀ U : State, U.heap = H → s.WarmedH U.vm → PcN G av H.size B N av.toArray U :=
  fun U hU hW => ⟨rfl, by rw [hU], by rw [hU]; exact hB, va_K.moved hW.alike hK, hN U hW⟩
theorem PcN.blind {G : wG} {av : List Value} {nz : Nat} {B : Heap → Prop} {N : State → Prop} (hN : ∀ u U : State, u.WarmedH U.vm → N u → N U) : FrameBlind (PcN G av nz B N) := fun a U g mk q =>
  ⟨q.1, q.2.1, q.2.2.1, va_K.moved (u := U) (U := U.calling g mk a) (Vm.Alike.refl U.vm) q.2.2.2.1, hN U (U.calling g mk a) (State.WarmedH.refl U) q.2.2.2.2⟩
