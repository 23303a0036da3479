/-! ===== rows of the machine over a village ===== -/
theorem va_P1 {D : va_G} {cl : List vw_C} {q : Nat × va_E} {H : Heap} (h : va_at D cl q H) : va_P D cl [q] H := by
  intro k x hk
  match k, hk with
  | 0, hk => cases hk; exact h
  | k + 1, hk => simp at hk
theorem TX0_1 (k : Nat) : (TX0 k).1 = RX0 := by unfold TX0; split <;> rfl
theorem TX1_1 (k : Nat) : (TX1 k).1 = RX1 := by unfold TX1; split <;> rfl
theorem TX2_1 (k : Nat) : (TX2 k).1 = RX2 := by unfold TX2; split <;> rfl
theorem TX3_1 (k : Nat) : (TX3 k).1 = RX3 := by unfold TX3; split <;> rfl
section XR
variable {p : Program} {l : Launch} {e : Env} {R : Room} {s : State} {m : MethodId} {args : Array Value} {below : List Frame} {meth : Method} {c : Code} {H : Heap} {locs : List Loc} {cells slots : Nat} {Q : State → Prop}
variable {cc : ByteArray} {pc : Nat} {ls : Array Slot} {rest : List Value} {D : va_G} {cl : List vw_C} {A : Nat → Prop} {a : Nat} {tys : List (ClassId × FieldType)} {H0 : Heap}
/-- putfield over one cell: what else the heap holds stays -/
theorem xq_put (hexec : p.tables.exec = Jvm.exec) (hb : c.code = cc) {own ref C : String} {T : u_T} {N ci index : Nat} {Ts : List Cond} (hts : ∀ w ∈ Ts, w.before args s = true) (hin : ∀ w ∈ u_ws C T N, w ∈ Ts) (ty0 : Nat → FieldType) (hty : ∀ k, k < N → parseFieldDescriptor (T k).2.2.1 = some (ty0 k)) (hnm : ∀ a, a < N → ∀ b, b < N → a ≠ b → (T a).2.1 ≠ (T b).2.1) (hown : s.vm.findClass own = some m.cls) (hK : va_K D cl tys s) {fs : List Value} (hq : va_at D cl (a, .inr (ci, fs)) H) (hS0 : va_S A H0 H locs) (hA : A a) (hc : cl[ci]? = some (C, T, N)) (k : Nat) (hk : k < N) (hlink : (Cond.fieldLink own index ref (T k).2.1 (T k).2.2.1).before args s = true) (hsame : ∀ x, s.fieldFound? (T k).1 (T k).2.1 (T k).2.2.1 = some x → s.fieldFound? ref (T k).2.1 (T k).2.2.1 = some x) (hfin : (T k).2.2.2 = false) {v : Value} (hn : narrow (ty0 k) v = v) (hfit : fits (ty0 k) v = true) (hl : k < fs.length)
    (hdg : decode cc pc = .ok (.putfield index, 3)) (kk : ∀ (H1 : Heap) (locs1 : List Loc), va_at D cl (a, .inr (ci, fs.set k v)) H1 → (∀ q : Nat, q ≠ a → H1[q]? = H[q]?) → va_S A H0 H1 locs1 → W p l e R s m args below meth c H1 locs1 cells slots Q (F0 m (pc + 3) ls rest)) : W p l e R s m args below meth c H locs cells slots Q (F0 m pc ls (v :: .ref a :: rest)) := by
  have hap := va_apart (own := own) hts hin ty0 hty hnm hK hc
  obtain ⟨r, h1, cell, q1, q2, q3, q4⟩ := hq
  have hr : r = (C, T, N) := Option.some.inj (h1.symm.trans hc)
  subst hr
  obtain ⟨hS, hfc, kC, hkC, hkind⟩ := hK.1 ci _ hc
  obtain ⟨cf, kf, fi, f, hi, hsl⟩ := hS k hk
  have hlay := hts _ (hin _ (u_in_lay hk))
  unfold u_lay at hlay
  rw [if_neg (by rw [hfin]; decide)] at hlay
  have hst := (u_facts hfc hkC (u_lays hts hin hk) hi).1
  have h6 := u_store hfc hkC hkind hlay hi (hty k hk) hn hfit
  refine W.putK hexec hb (f := f) ⟨hown, hlink, ⟨_, _, _, hsame _ hi⟩, hst⟩ (by rw [q2]; exact h6) q1 q3 (by rw [hsl]; exact k2_hasslot (q4 k hk)) rfl rfl hdg fun H' e1 e2 e3 => ?_
  rw [hsl] at e1 ⊢
  exact kk H' _ ⟨_, hc, t_OB.to (V := updV (vp_V fs) k v) ⟨_, e1, q2, q3, t_set q4 hap hk v⟩ (fun j _ => vp_updV_set hl v j)⟩ e3 (hS0.put e2 e3 hA)
theorem xq_putN (hexec : p.tables.exec = Jvm.exec) (hb : c.code = cc) {own ref C host : String} {T : u_T} {N ci index : Nat} {Ts : List Cond} (hts : ∀ w ∈ Ts, w.before args s = true) (hin : ∀ w ∈ u_ws C T N, w ∈ Ts) (ty0 : Nat → FieldType) (hty : ∀ k, k < N → parseFieldDescriptor (T k).2.2.1 = some (ty0 k)) (hnm : ∀ a, a < N → ∀ b, b < N → a ≠ b → (T a).2.1 ≠ (T b).2.1) (hown : s.vm.findClass own = some m.cls) (hK : va_K D cl tys s) {fs : List Value} (hq : va_at D cl (a, .inr (ci, fs)) H) (hS0 : va_S A H0 H locs) (hA : A a) (hc : cl[ci]? = some (C, T, N)) (k : Nat) (hk : k < N) (hlink : (Cond.fieldLinkNest own index ref (T k).2.1 (T k).2.2.1 host).before args s = true) (hsame : ∀ x, s.fieldFound? (T k).1 (T k).2.1 (T k).2.2.1 = some x → s.fieldFound? ref (T k).2.1 (T k).2.2.1 = some x) (hfin : (T k).2.2.2 = false) {v : Value} (hn : narrow (ty0 k) v = v) (hfit : fits (ty0 k) v = true) (hl : k < fs.length)
    (hdg : decode cc pc = .ok (.putfield index, 3)) (kk : ∀ (H1 : Heap) (locs1 : List Loc), va_at D cl (a, .inr (ci, fs.set k v)) H1 → (∀ q : Nat, q ≠ a → H1[q]? = H[q]?) → va_S A H0 H1 locs1 → W p l e R s m args below meth c H1 locs1 cells slots Q (F0 m (pc + 3) ls rest)) : W p l e R s m args below meth c H locs cells slots Q (F0 m pc ls (v :: .ref a :: rest)) := by
  have hap := va_apart (own := own) hts hin ty0 hty hnm hK hc
  obtain ⟨r, h1, cell, q1, q2, q3, q4⟩ := hq
  have hr : r = (C, T, N) := Option.some.inj (h1.symm.trans hc)
  subst hr
  obtain ⟨hS, hfc, kC, hkC, hkind⟩ := hK.1 ci _ hc
  obtain ⟨cf, kf, fi, f, hi, hsl⟩ := hS k hk
  have hlay := hts _ (hin _ (u_in_lay hk))
  unfold u_lay at hlay
  rw [if_neg (by rw [hfin]; decide)] at hlay
  have hst := (u_facts hfc hkC (u_lays hts hin hk) hi).1
  have h6 := u_store hfc hkC hkind hlay hi (hty k hk) hn hfit
  refine va_WputK hexec hb (f := f) hown hlink (hsame _ hi) hst (by rw [q2]; exact h6) q1 q3 (by rw [hsl]; exact k2_hasslot (q4 k hk)) rfl rfl hdg fun H' e1 e2 e3 => ?_
  rw [hsl] at e1 ⊢
  exact kk H' _ ⟨_, hc, t_OB.to (V := updV (vp_V fs) k v) ⟨_, e1, q2, q3, t_set q4 hap hk v⟩ (fun j _ => vp_updV_set hl v j)⟩ e3 (hS0.put e2 e3 hA)
theorem xq_iast (hexec : p.tables.exec = Jvm.exec) (hb : c.code = cc) (hK : va_K D cl tys s) {cA : ClassId} {n : Nat} {f : Nat → Int32} (hq : va_at D cl (a, .inl (cA, n, .inl f)) H) (hS : va_S A H0 H locs) (hA : A a) (t0 : Nat) (ht : tys[t0]? = some (cA, .int)) {i : Int32} {x : Int32} (hin : vp_in i n) (hdg : decode cc pc = .ok (.iastore, 1))
    (kk : ∀ (H1 : Heap) (locs1 : List Loc), va_at D cl (a, .inl (cA, n, .inl (upd f i.toNatClampNeg x))) H1 → (∀ q : Nat, q ≠ a → H1[q]? = H[q]?) → va_S A H0 H1 locs1 → W p l e R s m args below meth c H1 locs1 cells slots Q (F0 m (pc + 1) ls rest)) : W p l e R s m args below meth c H locs cells slots Q (F0 m pc ls (.int x :: .int i :: .ref a :: rest)) := by
  refine W.iast hexec hb hq ((hK.2 t0 _ ht).1 n (fun j => .int (f j))) (fun q => by cases q) (by show ¬ (i < 0 ∨ (arrV _ _ _).slots.size ≤ _); rw [arrV_size]; exact hin) rfl rfl hdg fun H1 e z oq => ?_
  refine kk H1 _ ?_ oq (hS.put z oq hA)
  show H1[a]? = some (vp_cell _ _)
  rw [e]
  rw [vp_cell_i, vp_cell_i, arrV_store]
  congr 2
  funext q
  by_cases hq : q = i.toNatClampNeg
  · subst hq
    simp [updV, upd]
  · simp [updV, upd, hq]
theorem xq_zast (hexec : p.tables.exec = Jvm.exec) (hb : c.code = cc) (hK : va_K D cl tys s) {cA : ClassId} {n : Nat} {f : Nat → Int32} (hq : va_at D cl (a, .inl (cA, n, .inl f)) H) (hS : va_S A H0 H locs) (hA : A a) (t0 : Nat) (ht : tys[t0]? = some (cA, .boolean)) {i : Int32} {x : Int32} (hin : vp_in i n) (hx01 : vp_nar .boolean x = x) (hdg : decode cc pc = .ok (.bastore, 1))
    (kk : ∀ (H1 : Heap) (locs1 : List Loc), va_at D cl (a, .inl (cA, n, .inl (upd f i.toNatClampNeg x))) H1 → (∀ q : Nat, q ≠ a → H1[q]? = H[q]?) → va_S A H0 H1 locs1 → W p l e R s m args below meth c H1 locs1 cells slots Q (F0 m (pc + 1) ls rest)) : W p l e R s m args below meth c H locs cells slots Q (F0 m pc ls (.int x :: .int i :: .ref a :: rest)) := by
  refine W.zast hexec hb hq ((hK.2 t0 _ ht).1 n (fun j => .int (f j))) (fun q => by cases q) (by show ¬ (i < 0 ∨ (arrV _ _ _).slots.size ≤ _); rw [arrV_size]; exact hin) rfl rfl hdg fun H1 e z oq => ?_
  refine kk H1 _ ?_ oq (hS.put z oq hA)
  have hx9 : narrow .boolean (.int x) = .int x := by
    have h8 := hx01
    unfold vp_nar at h8
    revert h8
    cases hn : narrow .boolean (.int x) <;> simp_all [narrow]
  show H1[a]? = some (vp_cell _ _)
  rw [e]
  rw [vp_cell_i, vp_cell_i, arrV_store]
  congr 2
  funext q
  by_cases hq : q = i.toNatClampNeg
  · subst hq
    simp [updV, upd, hx9]
  · simp [updV, upd, hq]
/-- a loop that counts up: I at its head -/
theorem W_up (n : Nat) (I : Nat → Heap → List Loc → Array Slot → Prop)
    (hs : ∀ i H locs ls, i ≤ n → I i H locs ls → (i < n → ∀ H' locs' ls', I (i + 1) H' locs' ls' → W p l e R s m args below meth c H' locs' cells slots Q (F0 m pc ls' [])) → W p l e R s m args below meth c H locs cells slots Q (F0 m pc ls [])) :
    ∀ i, i ≤ n → ∀ H locs ls, I i H locs ls → W p l e R s m args below meth c H locs cells slots Q (F0 m pc ls []) := by
  have key : ∀ k i, i ≤ n → n - i = k → ∀ H locs ls, I i H locs ls → W p l e R s m args below meth c H locs cells slots Q (F0 m pc ls []) := by
    intro k
    induction k with
    | zero => exact fun i hi hk H locs ls h => hs i H locs ls hi h (fun hlt => absurd hlt (by omega))
    | succ k ih => exact fun i hi hk H locs ls h => hs i H locs ls hi h (fun hlt H' locs' ls' h' => ih (i + 1) (by omega) (by omega) H' locs' ls' h')
  exact fun i hi H locs ls h => key _ i hi rfl H locs ls h
end XR
section XV
variable {p : Program} {l : Launch} {e : Env} {R : Room} {s : State} {m : MethodId} {args : Array Value} {below : List Frame} {meth : Method} {c : Code} {H : Heap} {locs : List Loc} {cells slots : Nat} {Q : State → Prop}
variable {cc : ByteArray} {pc : Nat} {ls : Array Slot} {rest : List Value} {A : Nat → Prop} {H0 : Heap} {G : wG} {ad : Nat → Nat} {nH nP : Nat} {δ τ : wS} {Ts : List Cond} {own : String} {index : Nat}
/-- a House's field -/
theorem rH (k : Nat) (hexec : p.tables.exec = Jvm.exec) (hb : c.code = cc) (hts : ∀ w ∈ Ts, w.before args s = true) (hin : ∀ w ∈ wsX00, w ∈ Ts) (hown : s.vm.findClass own = some m.cls) (hK : wK G s) (hV : CVm G ad nH nP δ τ H) {h f : Nat} (hh : h < nH) (hn : nH ≤ 10) (h1 : 1 ≤ k) (h2 : k < 12) (hf : hcol k = f) {v : Int32} (hv : τ f h = v) (hlink : (Cond.fieldLink own index RX0 (TX0 k).2.1 (TX0 k).2.2.1).before args s = true) (hdg : decode cc pc = .ok (.getfield index, 3))
    (kk : W p l e R s m args below meth c H locs cells slots Q (F0 m (pc + 3) ls (.int v :: rest))) : W p l e R s m args below meth c H locs cells slots Q (F0 m pc ls (.ref (ad (3 + h)) :: rest)) := by
  subst hf
  refine va_get (ci := 0) (C := RX0) (T := TX0) (N := 12) hexec hb hts hin hown hK (va_P1 (hV.2.2.2.1 h (by omega))) 0 rfl rfl k h2 hlink (fun x h9 => by rw [TX0_1 k] at h9; exact h9) (hfs_get h1 h2) hdg ?_
  rw [wmx_r (wact_h (hcol_le k) hh), hv]
  exact kk
/-- a House's number -/
theorem rHn (hexec : p.tables.exec = Jvm.exec) (hb : c.code = cc) (hts : ∀ w ∈ Ts, w.before args s = true) (hin : ∀ w ∈ wsX00, w ∈ Ts) (hown : s.vm.findClass own = some m.cls) (hK : wK G s) (hV : CVm G ad nH nP δ τ H) {h : Nat} (hh : h < 10) (hlink : (Cond.fieldLink own index RX0 (TX0 0).2.1 (TX0 0).2.2.1).before args s = true) (hdg : decode cc pc = .ok (.getfield index, 3))
    (kk : W p l e R s m args below meth c H locs cells slots Q (F0 m (pc + 3) ls (.int (nI h) :: rest))) : W p l e R s m args below meth c H locs cells slots Q (F0 m pc ls (.ref (ad (3 + h)) :: rest)) :=
  va_get (ci := 0) (C := RX0) (T := TX0) (N := 12) hexec hb hts hin hown hK (va_P1 (hV.2.2.2.1 h hh)) 0 rfl rfl 0 (by omega) hlink (fun _ h9 => h9) rfl hdg kk
theorem rP (k : Nat) (hexec : p.tables.exec = Jvm.exec) (hb : c.code = cc) (hts : ∀ w ∈ Ts, w.before args s = true) (hin : ∀ w ∈ wsX10, w ∈ Ts) (hown : s.vm.findClass own = some m.cls) (hK : wK G s) (hV : CVm G ad nH nP δ τ H) {h f : Nat} (hh : h < nP) (hn : nP ≤ 3) (h1 : k ≠ 6) (h2 : k < 14) (hf : pcol k = f) {v : Int32} (hv : τ f h = v) (hlink : (Cond.fieldLink own index RX1 (TX1 k).2.1 (TX1 k).2.2.1).before args s = true) (hdg : decode cc pc = .ok (.getfield index, 3))
    (kk : W p l e R s m args below meth c H locs cells slots Q (F0 m (pc + 3) ls (.int v :: rest))) : W p l e R s m args below meth c H locs cells slots Q (F0 m pc ls (.ref (ad (13 + h)) :: rest)) := by
  subst hf
  have hp := pcol_in k
  refine va_get (ci := 1) (C := RX1) (T := TX1) (N := 14) hexec hb hts hin hown hK (va_P1 (hV.2.2.2.2.1 h (by omega))) 0 rfl rfl k h2 hlink (fun x h9 => by rw [TX1_1 k] at h9; exact h9) (pfs_get h1 h2) hdg ?_
  rw [wmx_r (wact_pp (by omega) hp.2 hh), hv]
  exact kk
theorem rPr (hexec : p.tables.exec = Jvm.exec) (hb : c.code = cc) (hts : ∀ w ∈ Ts, w.before args s = true) (hin : ∀ w ∈ wsX10, w ∈ Ts) (hown : s.vm.findClass own = some m.cls) (hK : wK G s) (hV : CVm G ad nH nP δ τ H) {h : Nat} (hh : h < 3) (hlink : (Cond.fieldLink own index RX1 (TX1 6).2.1 (TX1 6).2.2.1).before args s = true) (hdg : decode cc pc = .ok (.getfield index, 3))
    (kk : W p l e R s m args below meth c H locs cells slots Q (F0 m (pc + 3) ls (.ref (ad (16 + h)) :: rest))) : W p l e R s m args below meth c H locs cells slots Q (F0 m pc ls (.ref (ad (13 + h)) :: rest)) :=
  va_get (ci := 1) (C := RX1) (T := TX1) (N := 14) hexec hb hts hin hown hK (va_P1 (hV.2.2.2.2.1 h hh)) 0 rfl rfl 6 (by omega) hlink (fun _ h9 => h9) rfl hdg kk
theorem rV (k : Nat) (hexec : p.tables.exec = Jvm.exec) (hb : c.code = cc) (hts : ∀ w ∈ Ts, w.before args s = true) (hin : ∀ w ∈ wsX20, w ∈ Ts) (hown : s.vm.findClass own = some m.cls) (hK : wK G s) (hV : CVm G ad nH nP δ τ H) {f : Nat} (h1 : 2 ≤ k) (h2 : k < 6) (hf : vcol k = f) {v : Int32} (hv : τ f 0 = v) (hlink : (Cond.fieldLink own index RX2 (TX2 k).2.1 (TX2 k).2.2.1).before args s = true) (hdg : decode cc pc = .ok (.getfield index, 3))
    (kk : W p l e R s m args below meth c H locs cells slots Q (F0 m (pc + 3) ls (.int v :: rest))) : W p l e R s m args below meth c H locs cells slots Q (F0 m pc ls (.ref (ad 0) :: rest)) := by
  subst hf
  have hp := vcol_in k
  refine va_get (ci := 2) (C := RX2) (T := TX2) (N := 6) hexec hb hts hin hown hK (va_P1 hV.1) 0 rfl rfl k h2 hlink (fun x h9 => by rw [TX2_1 k] at h9; exact h9) (vfs_get h1 h2) hdg ?_
  rw [wmx_r (wact_v (by omega)), hv]
  exact kk
theorem rVh (hexec : p.tables.exec = Jvm.exec) (hb : c.code = cc) (hts : ∀ w ∈ Ts, w.before args s = true) (hin : ∀ w ∈ wsX20, w ∈ Ts) (hown : s.vm.findClass own = some m.cls) (hK : wK G s) (hV : CVm G ad nH nP δ τ H) (hlink : (Cond.fieldLink own index RX2 (TX2 0).2.1 (TX2 0).2.2.1).before args s = true) (hdg : decode cc pc = .ok (.getfield index, 3))
    (kk : W p l e R s m args below meth c H locs cells slots Q (F0 m (pc + 3) ls (.ref (ad 1) :: rest))) : W p l e R s m args below meth c H locs cells slots Q (F0 m pc ls (.ref (ad 0) :: rest)) :=
  va_get (ci := 2) (C := RX2) (T := TX2) (N := 6) hexec hb hts hin hown hK (va_P1 hV.1) 0 rfl rfl 0 (by omega) hlink (fun _ h9 => h9) rfl hdg kk
theorem rVp (hexec : p.tables.exec = Jvm.exec) (hb : c.code = cc) (hts : ∀ w ∈ Ts, w.before args s = true) (hin : ∀ w ∈ wsX20, w ∈ Ts) (hown : s.vm.findClass own = some m.cls) (hK : wK G s) (hV : CVm G ad nH nP δ τ H) (hlink : (Cond.fieldLink own index RX2 (TX2 1).2.1 (TX2 1).2.2.1).before args s = true) (hdg : decode cc pc = .ok (.getfield index, 3))
    (kk : W p l e R s m args below meth c H locs cells slots Q (F0 m (pc + 3) ls (.ref (ad 2) :: rest))) : W p l e R s m args below meth c H locs cells slots Q (F0 m pc ls (.ref (ad 0) :: rest)) :=
  va_get (ci := 2) (C := RX2) (T := TX2) (N := 6) hexec hb hts hin hown hK (va_P1 hV.1) 0 rfl rfl 1 (by omega) hlink (fun _ h9 => h9) rfl hdg kk
theorem rHA (hexec : p.tables.exec = Jvm.exec) (hb : c.code = cc) (hK : wK G s) (hV : CVm G ad nH nP δ τ H) {h : Nat} (hh : h < 10) (hdg : decode cc pc = .ok (.aaload, 1))
    (kk : W p l e R s m args below meth c H locs cells slots Q (F0 m (pc + 1) ls (.ref (ad (3 + h)) :: rest))) : W p l e R s m args below meth c H locs cells slots Q (F0 m pc ls (.int (nI h) :: .ref (ad 1) :: rest)) := by
  refine va_aldq hexec hb hK (va_P1 hV.2.1) 0 2 rfl rfl (vp_in_nI hh (by omega)) hdg ?_
  rw [nI_clamp (show h < 2 ^ 31 by omega)]
  exact kk
theorem rPA (hexec : p.tables.exec = Jvm.exec) (hb : c.code = cc) (hK : wK G s) (hV : CVm G ad nH nP δ τ H) {h : Nat} (hh : h < 3) (hdg : decode cc pc = .ok (.aaload, 1))
    (kk : W p l e R s m args below meth c H locs cells slots Q (F0 m (pc + 1) ls (.ref (ad (13 + h)) :: rest))) : W p l e R s m args below meth c H locs cells slots Q (F0 m pc ls (.int (nI h) :: .ref (ad 2) :: rest)) := by
  refine va_aldq hexec hb hK (va_P1 hV.2.2.1) 0 3 rfl rfl (vp_in_nI hh (by omega)) hdg ?_
  rw [nI_clamp (show h < 2 ^ 31 by omega)]
  exact kk
theorem rRo (hexec : p.tables.exec = Jvm.exec) (hb : c.code = cc) (hK : wK G s) (hV : CVm G ad nH nP δ τ H) {h k : Nat} (hh : h < nP) (hn : nP ≤ 3) (hk : k < 10) {v : Int32} (hv : τ (40 + h) k = v) (hdg : decode cc pc = .ok (.iaload, 1))
    (kk : W p l e R s m args below meth c H locs cells slots Q (F0 m (pc + 1) ls (.int v :: rest))) : W p l e R s m args below meth c H locs cells slots Q (F0 m pc ls (.int (nI k) :: .ref (ad (16 + h)) :: rest)) := by
  refine va_iald hexec hb hK (va_P1 (hV.2.2.2.2.2 h (by omega))) 0 0 rfl rfl (vp_in_nI hk (by omega)) hdg ?_
  rw [nI_clamp (show k < 2 ^ 31 by omega), wmx_r (wact_r hh hn), hv]
  exact kk
theorem wH (k : Nat) (hexec : p.tables.exec = Jvm.exec) (hb : c.code = cc) (hts : ∀ w ∈ Ts, w.before args s = true) (hin : ∀ w ∈ wsX00, w ∈ Ts) (hown : s.vm.findClass own = some m.cls) (hK : wK G s) (hI : adInj ad 19) (hV : CVm G ad nH nP δ τ H) (hS : va_S (AV ad 19) H0 H locs) {h f : Nat} {x : Int32} (hh : h < nH) (hn : nH ≤ 10) (h1 : 1 ≤ k) (h2 : k < 12) (hf : hcol k = f) (hlink : (Cond.fieldLink own index RX0 (TX0 k).2.1 (TX0 k).2.2.1).before args s = true) (hdg : decode cc pc = .ok (.putfield index, 3))
    (kk : ∀ (H1 : Heap) (locs1 : List Loc), CVm G ad nH nP δ (wst τ f h x) H1 → va_S (AV ad 19) H0 H1 locs1 → W p l e R s m args below meth c H1 locs1 cells slots Q (F0 m (pc + 3) ls rest)) : W p l e R s m args below meth c H locs cells slots Q (F0 m pc ls (.int x :: .ref (ad (3 + h)) :: rest)) := by
  subst hf
  have hty : tyX0 k = .int := by unfold tyX0; split <;> rfl
  refine xq_put (ci := 0) (C := RX0) (T := TX0) (N := 12) hexec hb hts hin tyX0 tyX0_ok nmX0 hown hK (hV.2.2.2.1 h (by omega)) hS ⟨3 + h, by omega, rfl⟩ rfl k h2 hlink (fun x h9 => by rw [TX0_1 k] at h9; exact h9) (by unfold TX0; split <;> first | rfl | omega) (by rw [hty]; rfl) (by rw [hty]; rfl) (show k < 12 from h2) hdg (fun H1 locs1 e1 e3 hS1 => ?_)
  have hV1 := CV.setH hI hV (by omega) h1 h2 e1 e3
  rw [wmx_w (wact_h (hcol_le k) hh)] at hV1
  exact kk H1 locs1 hV1 hS1
theorem wP (k : Nat) (hexec : p.tables.exec = Jvm.exec) (hb : c.code = cc) (hts : ∀ w ∈ Ts, w.before args s = true) (hin : ∀ w ∈ wsX10, w ∈ Ts) (hown : s.vm.findClass own = some m.cls) (hK : wK G s) (hI : adInj ad 19) (hV : CVm G ad nH nP δ τ H) (hS : va_S (AV ad 19) H0 H locs) {h f : Nat} {x : Int32} (hh : h < nP) (hn : nP ≤ 3) (h1 : k ≠ 6) (h2 : k < 14) (hf : pcol k = f) (hx1 : narrow (tyX1 k) (.int x) = .int x) (hx2 : fits (tyX1 k) (.int x) = true) (hlink : (Cond.fieldLink own index RX1 (TX1 k).2.1 (TX1 k).2.2.1).before args s = true) (hdg : decode cc pc = .ok (.putfield index, 3))
    (kk : ∀ (H1 : Heap) (locs1 : List Loc), CVm G ad nH nP δ (wst τ f h x) H1 → va_S (AV ad 19) H0 H1 locs1 → W p l e R s m args below meth c H1 locs1 cells slots Q (F0 m (pc + 3) ls rest)) : W p l e R s m args below meth c H locs cells slots Q (F0 m pc ls (.int x :: .ref (ad (13 + h)) :: rest)) := by
  subst hf
  have hp := pcol_in k
  refine xq_put (ci := 1) (C := RX1) (T := TX1) (N := 14) hexec hb hts hin tyX1 tyX1_ok nmX1 hown hK (hV.2.2.2.2.1 h (by omega)) hS ⟨13 + h, by omega, rfl⟩ rfl k h2 hlink (fun x h9 => by rw [TX1_1 k] at h9; exact h9) (by unfold TX1; split <;> first | rfl | omega) hx1 hx2 (show k < 14 from h2) hdg (fun H1 locs1 e1 e3 hS1 => ?_)
  have hV1 := CV.setP hI hV (by omega) h1 h2 e1 e3
  rw [wmx_w (wact_pp (by omega) hp.2 hh)] at hV1
  exact kk H1 locs1 hV1 hS1
theorem wV (k : Nat) (hexec : p.tables.exec = Jvm.exec) (hb : c.code = cc) (hts : ∀ w ∈ Ts, w.before args s = true) (hin : ∀ w ∈ wsX20, w ∈ Ts) (hown : s.vm.findClass own = some m.cls) (hK : wK G s) (hI : adInj ad 19) (hV : CVm G ad nH nP δ τ H) (hS : va_S (AV ad 19) H0 H locs) {f : Nat} {x : Int32} (h1 : 2 ≤ k) (h2 : k < 6) (hf : vcol k = f) (hlink : (Cond.fieldLink own index RX2 (TX2 k).2.1 (TX2 k).2.2.1).before args s = true) (hdg : decode cc pc = .ok (.putfield index, 3))
    (kk : ∀ (H1 : Heap) (locs1 : List Loc), CVm G ad nH nP δ (wst τ f 0 x) H1 → va_S (AV ad 19) H0 H1 locs1 → W p l e R s m args below meth c H1 locs1 cells slots Q (F0 m (pc + 3) ls rest)) : W p l e R s m args below meth c H locs cells slots Q (F0 m pc ls (.int x :: .ref (ad 0) :: rest)) := by
  subst hf
  have hp := vcol_in k
  have hty : tyX2 k = .int := by unfold tyX2; split <;> first | rfl | omega
  refine xq_put (ci := 2) (C := RX2) (T := TX2) (N := 6) hexec hb hts hin tyX2 tyX2_ok nmX2 hown hK hV.1 hS ⟨0, by omega, rfl⟩ rfl k h2 hlink (fun x h9 => by rw [TX2_1 k] at h9; exact h9) (by unfold TX2; split <;> first | rfl | omega) (by rw [hty]; rfl) (by rw [hty]; rfl) (show k < 6 from h2) hdg (fun H1 locs1 e1 e3 hS1 => ?_)
  have hV1 := CV.setV hI hV h1 h2 e1 e3
  rw [wmx_w (wact_v (by omega))] at hV1
  exact kk H1 locs1 hV1 hS1
theorem wRo (hexec : p.tables.exec = Jvm.exec) (hb : c.code = cc) (hK : wK G s) (hI : adInj ad 19) (hV : CVm G ad nH nP δ τ H) (hS : va_S (AV ad 19) H0 H locs) {h k : Nat} {x : Int32} (hh : h < nP) (hn : nP ≤ 3) (hk : k < 10) (hdg : decode cc pc = .ok (.iastore, 1))
    (kk : ∀ (H1 : Heap) (locs1 : List Loc), CVm G ad nH nP δ (wst τ (40 + h) k x) H1 → va_S (AV ad 19) H0 H1 locs1 → W p l e R s m args below meth c H1 locs1 cells slots Q (F0 m (pc + 1) ls rest)) : W p l e R s m args below meth c H locs cells slots Q (F0 m pc ls (.int x :: .int (nI k) :: .ref (ad (16 + h)) :: rest)) := by
  refine xq_iast hexec hb hK (hV.2.2.2.2.2 h (by omega)) hS ⟨16 + h, by omega, rfl⟩ 0 rfl (vp_in_nI hk (by omega)) hdg (fun H1 locs1 e1 e3 hS1 => ?_)
  rw [nI_clamp (show k < 2 ^ 31 by omega), rArr_upd] at e1
  have hV1 := CV.setR hI hV (by omega) e1 e3
  rw [wmx_w (wact_r hh hn)] at hV1
  exact kk H1 locs1 hV1 hS1
end XV
/-! ===== contracts over a village, and calls by them ===== -/
def Pc0 (G : wG) (av : List Value) (B : Heap → Prop) : Array Value → State → Prop := va_Pc av (fun U => B U.heap ∧ wK G U)
theorem Pc0.blind {G : wG} {av : List Value} {B : Heap → Prop} : FrameBlind (Pc0 G av B) := fun a U g mk q => ⟨q.1, q.2.1, va_K.moved (u := U) (U := U.calling g mk a) (Vm.Alike.refl U.vm) q.2.2⟩
def Qi0 (v : Int32) (B : Heap → Prop) (A : Nat → Prop) : Array Value → State → Outcome → State → Prop := va_Qi (S := Unit) (fun r _ => r = v) (fun _ t => B t.heap) A
def Ql0 (v : Int64) (B : Heap → Prop) (A : Nat → Prop) : Array Value → State → Outcome → State → Prop := va_Ql (S := Unit) (fun r _ => r = v) (fun _ t => B t.heap) A
def Qv0 (B : Heap → Prop) (A : Nat → Prop) : Array Value → State → Outcome → State → Prop := va_Qv (S := Unit) (fun _ => True) (fun _ t => B t.heap) A
theorem Pc0.pre {G : wG} {av : List Value} {B : Heap → Prop} {s : State} {H : Heap} (hB : B H) (hK : wK G s) : ∀ U : State, U.heap = H → s.WarmedH U.vm → Pc0 G av B av.toArray U := fun U hU hW => ⟨rfl, by rw [hU]; exact hB, va_K.moved hW.alike hK⟩
section XC
variable {p : Program} {l : Launch} {e : Env} {R : Room} {s : State} {m : MethodId} {args : Array Value} {below : List Frame} {meth : Method} {c : Code} {H : Heap} {locs : List Loc} {cells slots : Nat} {Q : State → Prop}
variable {pc : Nat} {ls : Array Slot} {rest st0 : List Value} {a : Array Value} {A0 A1 : Nat → Prop} {H0 : Heap} {mc ms : Nat} {free : Addr → Prop} {B : Heap → Prop}
theorem kI {v : Int32} (hr : va_Run p l e R s m args below meth c H locs cells slots mc ms (F0 m pc ls st0) rest (Qi0 v B A1 a) free) (hS : va_S A0 H0 H locs) (hA : ∀ q, q < H.size → A1 q → A0 q) (hf : ∀ q, free q → A0 q)
    (kk : ∀ (H1 : Heap) (locs1 : List Loc), B H1 → H.size ≤ H1.size → (∀ q : Nat, q < H.size → ¬ A1 q → H1[q]? = H[q]?) → va_S A0 H0 H1 locs1 → W p l e R s m args below meth c H1 locs1 (cells + mc) (slots + ms) Q (F0 m (pc + 3) ls (.int v :: rest))) : W p l e R s m args below meth c H locs cells slots Q (F0 m pc ls st0) := by
  refine va_calli hr hS hA hf (fun r u t H1 locs1 ht hvm hw hB hz1 hk1 hS1 => ?_)
  subst hw
  rw [ht] at hB
  exact kk H1 locs1 hB hz1 hk1 hS1
theorem kL {v : Int64} (hr : va_Run p l e R s m args below meth c H locs cells slots mc ms (F0 m pc ls st0) rest (Ql0 v B A1 a) free) (hS : va_S A0 H0 H locs) (hA : ∀ q, q < H.size → A1 q → A0 q) (hf : ∀ q, free q → A0 q)
    (kk : ∀ (H1 : Heap) (locs1 : List Loc), B H1 → H.size ≤ H1.size → (∀ q : Nat, q < H.size → ¬ A1 q → H1[q]? = H[q]?) → va_S A0 H0 H1 locs1 → W p l e R s m args below meth c H1 locs1 (cells + mc) (slots + ms) Q (F0 m (pc + 3) ls (.long v :: rest))) : W p l e R s m args below meth c H locs cells slots Q (F0 m pc ls st0) := by
  refine va_calll hr hS hA hf (fun r u t H1 locs1 ht hvm hw hB hz1 hk1 hS1 => ?_)
  subst hw
  rw [ht] at hB
  exact kk H1 locs1 hB hz1 hk1 hS1
theorem kV (hr : va_Run p l e R s m args below meth c H locs cells slots mc ms (F0 m pc ls st0) rest (Qv0 B A1 a) free) (hS : va_S A0 H0 H locs) (hA : ∀ q, q < H.size → A1 q → A0 q) (hf : ∀ q, free q → A0 q)
    (kk : ∀ (H1 : Heap) (locs1 : List Loc), B H1 → H.size ≤ H1.size → (∀ q : Nat, q < H.size → ¬ A1 q → H1[q]? = H[q]?) → va_S A0 H0 H1 locs1 → W p l e R s m args below meth c H1 locs1 (cells + mc) (slots + ms) Q (F0 m (pc + 3) ls rest)) : W p l e R s m args below meth c H locs cells slots Q (F0 m pc ls st0) := by
  refine va_callv hr hS hA hf (fun u t H1 locs1 ht hvm hw hB hz1 hk1 hS1 => ?_)
  rw [ht] at hB
  exact kk H1 locs1 hB hz1 hk1 hS1
end XC
section XE
variable {p : Program} {l : Launch} {e : Env} {R : Room} {s : State} {m : MethodId} {args : Array Value} {below : List Frame} {meth : Method} {c : Code} {H : Heap} {locs : List Loc} {cells slots : Nat}
variable {cc : ByteArray} {pc : Nat} {ls : Array Slot} {A free : Nat → Prop} {B : Heap → Prop}
theorem xI {v w : Int32} (hexec : p.tables.exec = Jvm.exec) (hb : c.code = cc) (hr : meth.sig.returnType = some .int) (hlocks : meth.locks = false) (hB : B H) (hS : va_S A s.heap H locs) (hv : v = w) (hdg : decode cc pc = .ok (.ireturn, 1)) :
    W p l e R s m args below meth c H locs cells slots (MQ below (Qi0 w B A) args s cells slots A) (F0 m pc ls [.int v]) := by
  subst hv
  exact W.iret hexec hb hr (fun t ht hW => ⟨⟨_, (), rfl, rfl, by show B t.heap; rw [ht]; exact hB⟩, hS.F ht⟩) hS.2.2 hdg
theorem xL {v w : Int64} (hexec : p.tables.exec = Jvm.exec) (hb : c.code = cc) (hr : meth.sig.returnType = some .long) (hlocks : meth.locks = false) (hB : B H) (hS : va_S A s.heap H locs) (hv : v = w) (hdg : decode cc pc = .ok (.lreturn, 1)) :
    W p l e R s m args below meth c H locs cells slots (MQ below (Ql0 w B A) args s cells slots A) (F0 m pc ls [.long v]) := by
  subst hv
  exact W.lret hexec hb hr (fun t ht hW => ⟨⟨_, (), rfl, rfl, by show B t.heap; rw [ht]; exact hB⟩, hS.F ht⟩) hS.2.2 hdg
theorem xZ {v w : Int32} (hexec : p.tables.exec = Jvm.exec) (hb : c.code = cc) (hr : meth.sig.returnType = some .boolean) (hlocks : meth.locks = false) (hB : B H) (hS : va_S A s.heap H locs) (hv : v = w) (h01 : narrow .boolean (.int v) = .int v) (hdg : decode cc pc = .ok (.ireturn, 1)) :
    W p l e R s m args below meth c H locs cells slots (MQ below (Qi0 w B A) args s cells slots A) (F0 m pc ls [.int v]) := by
  subst hv
  exact W.zret hexec hb hr h01 (fun t ht hW => ⟨⟨_, (), rfl, rfl, by show B t.heap; rw [ht]; exact hB⟩, hS.F ht⟩) hS.2.2 hdg
theorem xV (hexec : p.tables.exec = Jvm.exec) (hb : c.code = cc) (hr : meth.sig.returnType = none) (hlocks : meth.locks = false) (hB : B H) (hS : va_S A s.heap H locs) (hdg : decode cc pc = .ok (.return_, 1)) :
    W p l e R s m args below meth c H locs cells slots (MQ below (Qv0 B A) args s cells slots A) (F0 m pc ls []) :=
  W.vret hexec hb hr (fun t ht hW => ⟨⟨(), rfl, trivial, by show B t.heap; rw [ht]; exact hB⟩, hS.F ht⟩) hS.2.2 hdg
end XE
theorem b0 {P : Prop} [Decidable P] (h : (if P then (1 : Int32) else 0) = 0) : ¬ P := fun q => by rw [if_pos q] at h; exact absurd h (by decide)
theorem b1 {P : Prop} [Decidable P] (h : ¬ (if P then (1 : Int32) else 0) = 0) : P := by
  by_cases q : P
  · exact q
  · rw [if_neg q] at h; exact absurd rfl h
