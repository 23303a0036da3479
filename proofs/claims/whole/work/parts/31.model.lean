/-! ===== the reference: two states, the number of what was thrown ===== -/
def MW (G : wG) (ma : Nat) (ad ad2 : Nat → Nat) (t : Int32) (σ σ2 : wS) (H : Heap) : Prop := va_at G.1 vwCl (ma, .inr (5, [.int t, .ref (ad 0), .ref (ad2 0)])) H ∧ RV G ad σ H ∧ RV G ad2 σ2 H
def MI (ma : Nat) (ad ad2 : Nat → Nat) : Prop := adInj ad 6 ∧ adInj ad2 6 ∧ adApart ad ad2 6 6 ∧ (∀ k, k < 6 → ma ≠ ad k) ∧ ∀ k, k < 6 → ma ≠ ad2 k
def AM (ma : Nat) (ad ad2 : Nat → Nat) (nz : Nat) : Nat → Prop := fun q => AV ad 6 q ∨ AV ad2 6 q ∨ q = ma ∨ nz ≤ q
section MV
variable {G : wG} {ma : Nat} {ad ad2 : Nat → Nat} {t : Int32} {σ σ2 ρ z : wS} {H H1 : Heap}
theorem MW.main (hI : MI ma ad ad2) (h : MW G ma ad ad2 t σ σ2 H) (hV : RV G ad ρ H1) (hk : ∀ q : Nat, q < H.size → ¬ AV ad 6 q → H1[q]? = H[q]?) : MW G ma ad ad2 t ρ σ2 H1 :=
  ⟨h.1.kept (hk _ h.1.lt (fun ⟨k, hk, e⟩ => hI.2.2.2.1 k hk e)), hV, h.2.2.kept (fun k hk9 => hk _ (h.2.2.lt hk9) (fun ⟨j, hj, e⟩ => hI.2.2.1 j k hj hk9 e.symm))⟩
theorem MW.trial (hI : MI ma ad ad2) (h : MW G ma ad ad2 t σ σ2 H) (hV : RV G ad2 ρ H1) (hk : ∀ q : Nat, q < H.size → ¬ AV ad2 6 q → H1[q]? = H[q]?) : MW G ma ad ad2 t σ ρ H1 :=
  ⟨h.1.kept (hk _ h.1.lt (fun ⟨k, hk, e⟩ => hI.2.2.2.2 k hk e)), h.2.1.kept (fun k hk9 => hk _ (h.2.1.lt hk9) (fun ⟨j, hj, e⟩ => hI.2.2.1 k j hk9 hj e)), hV⟩
theorem MW.kept (h : MW G ma ad ad2 t σ σ2 H) (hk : ∀ q : Nat, q < H.size → H1[q]? = H[q]?) : MW G ma ad ad2 t σ σ2 H1 :=
  ⟨h.1.kept (hk _ h.1.lt), h.2.1.kept (fun k hk9 => hk _ (h.2.1.lt hk9)), h.2.2.kept (fun k hk9 => hk _ (h.2.2.lt hk9))⟩
def MWz (G : wG) (ma : Nat) (ad ad2 : Nat → Nat) (t : Int32) (σ z : wS) (H : Heap) : Prop := ∃ σ2, MW G ma ad ad2 t σ σ2 H ∧ ∀ i, i < 3 → σ2 31 i = z 31 i ∧ σ2 32 i = z 32 i
theorem MWz.kept (h : MWz G ma ad ad2 t σ z H) (hk : ∀ q : Nat, q < H.size → H1[q]? = H[q]?) : MWz G ma ad ad2 t σ z H1 := by
  obtain ⟨σ2, h1, h2⟩ := h
  exact ⟨σ2, h1.kept hk, h2⟩
end MV
/-- what the reference sees of its state's own fields -/
def MNs (U : State) : Prop :=
  va_Nw (.fieldLinkNest RX5 90 RX4 "day" "I" RX5) U ∧ va_Nw (.fieldLinkNest RX5 23 RX4 "houses" "I" RX5) U ∧ va_Nw (.fieldLinkNest RX5 37 RX4 "house" "[I" RX5) U ∧ va_Nw (.fieldLinkNest RX5 30 RX4 "pumps" "I" RX5) U ∧
  va_Nw (.fieldLinkNest RX5 47 RX4 "pump" "[I" RX5) U ∧ va_Nw (.fieldLinkNest RX5 64 RX4 "roster" "[I" RX5) U ∧ va_Nw (.fieldLinkNest RX5 93 RX4 "chest" "I" RX5) U
theorem MNs.warm {s U : State} (hW : s.WarmedH U.vm) (h : MNs s) : MNs U :=
  ⟨va_Nw.warmF hW h.1, va_Nw.warmF hW h.2.1, va_Nw.warmF hW h.2.2.1, va_Nw.warmF hW h.2.2.2.1, va_Nw.warmF hW h.2.2.2.2.1, va_Nw.warmF hW h.2.2.2.2.2.1, va_Nw.warmF hW h.2.2.2.2.2.2⟩
def PcM (G : wG) (av : List Value) (nz : Nat) (B : Heap → Prop) : Array Value → State → Prop := va_Pc av (fun U => U.heap.size = nz ∧ B U.heap ∧ wK G U ∧ MNs U)
theorem PcM.blind {G : wG} {av : List Value} {nz : Nat} {B : Heap → Prop} : FrameBlind (PcM G av nz B) := fun a U g mk q =>
  ⟨q.1, q.2.1, q.2.2.1, va_K.moved (u := U) (U := U.calling g mk a) (Vm.Alike.refl U.vm) q.2.2.2.1, q.2.2.2.2.warm (U := U.calling g mk a) (State.WarmedH.refl U)⟩
theorem PcM.pre {G : wG} {av : List Value} {B : Heap → Prop} {s : State} {H : Heap} (hB : B H) (hK : wK G s) (hN : MNs s) : ∀ U : State, U.heap = H → s.WarmedH U.vm → PcM G av H.size B av.toArray U :=
  fun U hU hW => ⟨rfl, by rw [hU], by rw [hU]; exact hB, va_K.moved hW.alike hK, hN.warm hW⟩
section MR
variable {p : Program} {l : Launch} {e : Env} {R : Room} {s : State} {m : MethodId} {args : Array Value} {below : List Frame} {meth : Method} {c : Code} {H : Heap} {locs : List Loc} {cells slots : Nat} {Q : State → Prop}
variable {cc : ByteArray} {pc : Nat} {ls : Array Slot} {rest : List Value} {A : Nat → Prop} {H0 : Heap} {G : wG} {ma : Nat} {ad ad2 : Nat → Nat} {t : Int32} {σ σ2 : wS} {Ts : List Cond} {own : String} {index : Nat}
theorem rMt (hexec : p.tables.exec = Jvm.exec) (hb : c.code = cc) (hts : ∀ w ∈ Ts, w.before args s = true) (hin : ∀ w ∈ wsX50, w ∈ Ts) (hown : s.vm.findClass own = some m.cls) (hK : wK G s) (hW : MW G ma ad ad2 t σ σ2 H) (hlink : (Cond.fieldLink own index RX5 (TX5 0).2.1 (TX5 0).2.2.1).before args s = true) (hdg : decode cc pc = .ok (.getfield index, 3))
    (kk : W p l e R s m args below meth c H locs cells slots Q (F0 m (pc + 3) ls (.int t :: rest))) : W p l e R s m args below meth c H locs cells slots Q (F0 m pc ls (.ref ma :: rest)) :=
  va_get (ci := 5) (C := RX5) (T := TX5) (N := 3) hexec hb hts hin hown hK (va_P1 hW.1) 0 rfl rfl 0 (by omega) hlink (fun _ h9 => h9) rfl hdg kk
theorem rM0 (hexec : p.tables.exec = Jvm.exec) (hb : c.code = cc) (hts : ∀ w ∈ Ts, w.before args s = true) (hin : ∀ w ∈ wsX50, w ∈ Ts) (hown : s.vm.findClass own = some m.cls) (hK : wK G s) (hW : MW G ma ad ad2 t σ σ2 H) (hlink : (Cond.fieldLink own index RX5 (TX5 1).2.1 (TX5 1).2.2.1).before args s = true) (hdg : decode cc pc = .ok (.getfield index, 3))
    (kk : W p l e R s m args below meth c H locs cells slots Q (F0 m (pc + 3) ls (.ref (ad 0) :: rest))) : W p l e R s m args below meth c H locs cells slots Q (F0 m pc ls (.ref ma :: rest)) :=
  va_get (ci := 5) (C := RX5) (T := TX5) (N := 3) hexec hb hts hin hown hK (va_P1 hW.1) 0 rfl rfl 1 (by omega) hlink (fun _ h9 => h9) rfl hdg kk
theorem rM1 (hexec : p.tables.exec = Jvm.exec) (hb : c.code = cc) (hts : ∀ w ∈ Ts, w.before args s = true) (hin : ∀ w ∈ wsX50, w ∈ Ts) (hown : s.vm.findClass own = some m.cls) (hK : wK G s) (hW : MW G ma ad ad2 t σ σ2 H) (hlink : (Cond.fieldLink own index RX5 (TX5 2).2.1 (TX5 2).2.2.1).before args s = true) (hdg : decode cc pc = .ok (.getfield index, 3))
    (kk : W p l e R s m args below meth c H locs cells slots Q (F0 m (pc + 3) ls (.ref (ad2 0) :: rest))) : W p l e R s m args below meth c H locs cells slots Q (F0 m pc ls (.ref ma :: rest)) :=
  va_get (ci := 5) (C := RX5) (T := TX5) (N := 3) hexec hb hts hin hown hK (va_P1 hW.1) 0 rfl rfl 2 (by omega) hlink (fun _ h9 => h9) rfl hdg kk
theorem wMt (hexec : p.tables.exec = Jvm.exec) (hb : c.code = cc) (hts : ∀ w ∈ Ts, w.before args s = true) (hin : ∀ w ∈ wsX50, w ∈ Ts) (hown : s.vm.findClass own = some m.cls) (hK : wK G s) (hI : MI ma ad ad2) (hW : MW G ma ad ad2 t σ σ2 H) (hS : va_S A H0 H locs) (hA : A ma) {x : Int32} (hlink : (Cond.fieldLink own index RX5 (TX5 0).2.1 (TX5 0).2.2.1).before args s = true) (hdg : decode cc pc = .ok (.putfield index, 3))
    (kk : ∀ (H1 : Heap) (locs1 : List Loc), MW G ma ad ad2 x σ σ2 H1 → va_S A H0 H1 locs1 → W p l e R s m args below meth c H1 locs1 cells slots Q (F0 m (pc + 3) ls rest)) : W p l e R s m args below meth c H locs cells slots Q (F0 m pc ls (.int x :: .ref ma :: rest)) := by
  refine xq_put (ci := 5) (C := RX5) (T := TX5) (N := 3) hexec hb hts hin tyX5 tyX5_ok nmX5 hown hK hW.1 hS hA rfl 0 (by omega) hlink (fun _ h9 => h9) rfl rfl rfl (show 0 < 3 by omega) hdg (fun H1 locs1 e1 e3 hS1 => ?_)
  exact kk H1 locs1 ⟨e1, hW.2.1.kept (fun k hk => e3 _ (fun q => hI.2.2.2.1 k hk q.symm)), hW.2.2.kept (fun k hk => e3 _ (fun q => hI.2.2.2.2 k hk q.symm))⟩ hS1
end MR
