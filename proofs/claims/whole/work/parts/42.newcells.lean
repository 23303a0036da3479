/-! ===== new rows of ints, PLACES, loops that make ===== -/
def vlN (L : List Int32) : Nat → Int32 := fun j => L.getD j 0
theorem vlN_upd {L : List Int32} {x : Int32} : ∀ N, L.length < N → ∀ j, j < N → upd (vlN L) L.length x j = vlN (L ++ [x]) j := by
  intro N hN j hj
  unfold upd vlN
  by_cases q : j = L.length
  · rw [if_pos q, q]
    simp [List.getD_eq_getElem?_getD]
  · rw [if_neg q]
    rcases Nat.lt_or_ge j L.length with h | h
    · simp [List.getD_eq_getElem?_getD, List.getElem?_append_left h]
    · rw [List.getD_eq_getElem?_getD, List.getD_eq_getElem?_getD, List.getElem?_eq_none h, List.getElem?_eq_none (by simp; omega)]
section NW
variable {p : Program} {l : Launch} {e : Env} {R : Room} {s : State} {m : MethodId} {args : Array Value} {below : List Frame} {meth : Method} {c : Code} {H : Heap} {locs : List Loc} {cells slots : Nat} {Q : State → Prop}
variable {cc : ByteArray} {pc : Nat} {ls : Array Slot} {rest : List Value} {A : Nat → Prop} {H0 : Heap} {G : wG}
theorem nwI {n : Int32} (N : Nat) (hexec : p.tables.exec = Jvm.exec) (hb : c.code = cc) (harr : (Cond.arrayClass .int).before args s = true) (hK : wK G s) (hS : va_S A H0 H locs) (hn : ¬ n < 0) (hN : n.toNatClampNeg = N) (hbytes : N * componentBytes .int ≤ 536870912) (hcells : cells + 1 ≤ R.cells) (hslots : slots + N ≤ R.slots) (hdg : decode cc pc = .ok (.newarray .int, 2))
    (kk : ∀ (n9 : Nat) (H1 : Heap), H.size = n9 → H0.size ≤ n9 → va_at G.1 vwCl (n9, .inl (G.2.1, N, .inl (vlN []))) H1 → (∀ q : Nat, q < H.size → H1[q]? = H[q]?) → va_S A H0 H1 locs → W p l e R s m args below meth c H1 locs (cells + 1) (slots + N) Q (F0 m (pc + 2) ls (.ref n9 :: rest))) : W p l e R s m args below meth c H locs cells slots Q (F0 m pc ls (.int n :: rest)) := by
  refine va_newaK (atype := .int) hexec hb harr rfl hdg rfl hn hN hbytes hcells hslots rfl fun H1 cA e1 z1 o1 hAr hNm => ?_
  have e9 : cA = G.2.1 := Option.some.inj (hNm.symm.trans (hK.2 0 _ rfl).2)
  subst e9
  refine kk H.size H1 rfl hS.1 ?_ o1 ⟨Nat.le_trans hS.1 (by omega), fun x h1 h2 => (o1 x (Nat.lt_of_lt_of_le h1 hS.1)).trans (hS.2.1 x h1 h2), hS.2.2⟩
  show H1[H.size]? = some (vp_cell _ _)
  rw [e1]
  rfl
/-- the next number of a row that is being filled -/
theorem nwSt {L : List Int32} {N n9 : Nat} {i x : Int32} (hexec : p.tables.exec = Jvm.exec) (hb : c.code = cc) (hK : wK G s) (hN : va_at G.1 vwCl (n9, .inl (G.2.1, N, .inl (vlN L))) H) (hS : va_S A H0 H locs) (hA : A n9) (hi : i = nI L.length) (hk : L.length < N) (hN2 : N < 2 ^ 31) (hdg : decode cc pc = .ok (.iastore, 1))
    (kk : ∀ (H1 : Heap) (locs1 : List Loc), va_at G.1 vwCl (n9, .inl (G.2.1, N, .inl (vlN (L ++ [x])))) H1 → (∀ q : Nat, q ≠ n9 → H1[q]? = H[q]?) → va_S A H0 H1 locs1 → W p l e R s m args below meth c H1 locs1 cells slots Q (F0 m (pc + 1) ls rest)) : W p l e R s m args below meth c H locs cells slots Q (F0 m pc ls (.int x :: .int i :: .ref n9 :: rest)) := by
  subst hi
  refine xq_iast hexec hb hK hN hS hA 0 rfl (vp_in_nI hk hN2) hdg (fun H1 locs1 e1 e3 hS1 => ?_)
  rw [nI_clamp (by omega)] at e1
  refine kk H1 locs1 ?_ e3 hS1
  show H1[n9]? = some (vp_cell _ _)
  rw [arr_same (f := vlN (L ++ [x])) (g := upd (vlN L) L.length x) (fun j hj => (vlN_upd N hk j hj).symm)]
  exact e1
theorem nwLd {L : List Int32} {N n9 k : Nat} {v : Int32} (hexec : p.tables.exec = Jvm.exec) (hb : c.code = cc) (hK : wK G s) (hN : va_at G.1 vwCl (n9, .inl (G.2.1, N, .inl (vlN L))) H) (hk : k < N) (hN2 : N < 2 ^ 31) (hv : vlN L k = v) (hdg : decode cc pc = .ok (.iaload, 1))
    (kk : W p l e R s m args below meth c H locs cells slots Q (F0 m (pc + 1) ls (.int v :: rest))) : W p l e R s m args below meth c H locs cells slots Q (F0 m pc ls (.int (nI k) :: .ref n9 :: rest)) := by
  refine va_iald hexec hb hK (va_P1 hN) 0 0 rfl rfl (vp_in_nI hk hN2) hdg ?_
  rw [nI_clamp (by omega), hv]
  exact kk
/-- a loop that counts up and makes k1 cells of k2 slots each time -/
theorem W_upc (k1 k2 : Nat) (n : Nat) (I : Nat → Heap → List Loc → Array Slot → Prop)
    (hs : ∀ i H locs ls, i ≤ n → I i H locs ls → (i < n → ∀ H' locs' ls', I (i + 1) H' locs' ls' → W p l e R s m args below meth c H' locs' (cells + (i + 1) * k1) (slots + (i + 1) * k2) Q (F0 m pc ls' [])) → W p l e R s m args below meth c H locs (cells + i * k1) (slots + i * k2) Q (F0 m pc ls [])) :
    ∀ i, i ≤ n → ∀ H locs ls, I i H locs ls → W p l e R s m args below meth c H locs (cells + i * k1) (slots + i * k2) Q (F0 m pc ls []) := by
  have key : ∀ k i, i ≤ n → n - i = k → ∀ H locs ls, I i H locs ls → W p l e R s m args below meth c H locs (cells + i * k1) (slots + i * k2) Q (F0 m pc ls []) := by
    intro k
    induction k with
    | zero => exact fun i hi hk H locs ls h => hs i H locs ls hi h (fun hlt => absurd hlt (by omega))
    | succ k ih => exact fun i hi hk H locs ls h => hs i H locs ls hi h (fun hlt H' locs' ls' h' => ih (i + 1) (by omega) (by omega) H' locs' ls' h')
  exact fun i hi H locs ls h => key _ i hi rfl H locs ls h
end NW
section NWM
variable {G : wG} {ma n9 : Nat} {ad ad2 : Nat → Nat} {t : Int32} {σ σ2 z : wS} {H H1 : Heap}
def MLt (ma : Nat) (ad ad2 : Nat → Nat) (n9 : Nat) : Prop := ma < n9 ∧ (∀ k, k < 6 → ad k < n9) ∧ ∀ k, k < 6 → ad2 k < n9
theorem MW.lt9 (h : MW G ma ad ad2 t σ σ2 H) (e : H.size = n9) : MLt ma ad ad2 n9 := by
  subst e
  exact ⟨h.1.lt, fun k hk => h.2.1.lt hk, fun k hk => h.2.2.lt hk⟩
theorem MW.kept9 (h : MW G ma ad ad2 t σ σ2 H) (hl : MLt ma ad ad2 n9) (hk : ∀ q : Nat, q ≠ n9 → H1[q]? = H[q]?) : MW G ma ad ad2 t σ σ2 H1 :=
  ⟨h.1.kept (hk _ (by have := hl.1; omega)), h.2.1.kept (fun k h6 => hk _ (by have := hl.2.1 k h6; omega)), h.2.2.kept (fun k h6 => hk _ (by have := hl.2.2 k h6; omega))⟩
theorem MLt.no1 (hl : MLt ma ad ad2 n9) : ¬ AV ad 6 n9 := fun ⟨k, hk, e⟩ => by have := hl.2.1 k hk; omega
/-- four numbers come into a house's row -/
theorem RV.cp4 {nH : Nat} {x y w u : Int32} (hI : adInj ad 6) (hV : RV G ad σ H) (e1 : va_at G.1 vwCl (ad 1, .inl (G.2.1, 110, .inl (va_cpy (vlN [x, y, w, u]) (hA σ) 0 (11 * nH) 4))) H1) (e3 : ∀ q : Nat, q ≠ ad 1 → H1[q]? = H[q]?) : RV G ad (wst (wst (wst (wst σ 0 nH x) 1 nH y) 2 nH w) 3 nH u) H1 := by
  obtain ⟨a, b, c, d, e, g⟩ := hV
  refine ⟨?_, ?_, ?_, ?_, ?_, ?_⟩
  · rw [sfs_ne (by omega), sfs_ne (by omega), sfs_ne (by omega), sfs_ne (by omega)]; exact a.kept (e3 _ (adNe hI (by omega) (by omega) (by omega)))
  · have e9 : hA (wst (wst (wst (wst σ 0 nH x) 1 nH y) 2 nH w) 3 nH u) = va_cpy (vlN [x, y, w, u]) (hA σ) 0 (11 * nH) 4 := by
      rw [← hA_upd (by omega), ← hA_upd (by omega), ← hA_upd (by omega), ← hA_upd (by omega)]
      funext j
      by_cases q : 11 * nH ≤ j ∧ j < 11 * nH + 4
      · rw [pk_cpy_in q.1 q.2]
        obtain ⟨r, rfl⟩ : ∃ r, j = 11 * nH + r := ⟨j - 11 * nH, by omega⟩
        rw [show 0 + (11 * nH + r - 11 * nH) = r by omega]
        unfold upd
        rcases (show r = 0 ∨ r = 1 ∨ r = 2 ∨ r = 3 by omega) with rfl | rfl | rfl | rfl
        · rw [if_neg (by omega), if_neg (by omega), if_neg (by omega), if_pos rfl]; rfl
        · rw [if_neg (by omega), if_neg (by omega), if_pos rfl]; rfl
        · rw [if_neg (by omega), if_pos rfl]; rfl
        · rw [if_pos rfl]; rfl
      · rw [pk_cpy_out (by omega)]
        unfold upd
        rw [if_neg (by omega), if_neg (by omega), if_neg (by omega), if_neg (by omega)]
    rw [e9]; exact e1
  · rw [pA_ne (by omega), pA_ne (by omega), pA_ne (by omega), pA_ne (by omega)]; exact c.kept (e3 _ (adNe hI (by omega) (by omega) (by omega)))
  · rw [rA_ne (by omega), rA_ne (by omega), rA_ne (by omega), rA_ne (by omega)]; exact d.kept (e3 _ (adNe hI (by omega) (by omega) (by omega)))
  · rw [oA_ne (by omega), oA_ne (by omega), oA_ne (by omega), oA_ne (by omega)]; exact e.kept (e3 _ (adNe hI (by omega) (by omega) (by omega)))
  · rw [nA_ne (by omega), nA_ne (by omega), nA_ne (by omega), nA_ne (by omega)]; exact g.kept (e3 _ (adNe hI (by omega) (by omega) (by omega)))
theorem MW.cp4 {nH : Nat} {x y w u : Int32} (hI : MI ma ad ad2) (h : MW G ma ad ad2 t σ σ2 H) (e1 : va_at G.1 vwCl (ad 1, .inl (G.2.1, 110, .inl (va_cpy (vlN [x, y, w, u]) (hA σ) 0 (11 * nH) 4))) H1) (e3 : ∀ q : Nat, q ≠ ad 1 → H1[q]? = H[q]?) : MW G ma ad ad2 t (wst (wst (wst (wst σ 0 nH x) 1 nH y) 2 nH w) 3 nH u) σ2 H1 :=
  ⟨h.1.kept (e3 _ (hI.2.2.2.1 1 (by omega))), h.2.1.cp4 hI.1 e1 e3, h.2.2.kept (fun k hk => e3 _ (fun q => hI.2.2.1 1 k (by omega) hk q.symm))⟩
end NWM
/-- the numbers of PLACES -/
def plF (k : Nat) : Nat := match k with
  | 0 => 0
  | 1 => 1
  | 2 => 3
  | 3 => 4
  | 4 => 6
  | 5 => 5
  | 6 => 7
  | 7 => 8
  | 8 => 9
  | _ => 10
def PLs (A : Nat → Prop) (pa : Nat) (U : State) : Prop := va_Z RX5 "PLACES" "[I" (.ref pa) A U U.heap ∧ va_T .int pa 10 (fun k => .int (nI (plF k))) A U U.heap
theorem PLs.at {A A' : Nat → Prop} {pa : Nat} {s U : State} {H : Heap} {locs : List Loc} (h : PLs A pa s) (hS : va_S A s.heap H locs) (hU : U.heap = H) (hW : s.WarmedH U.vm) (hA : ∀ q, A' q → A q) : PLs A' pa U := by
  obtain ⟨h1, h2⟩ := h
  refine ⟨?_, ?_⟩
  · rw [hU]; exact ((h1.moved hW.alike).kept (fun a g1 g2 => hS.2.1 a g1 g2)).narrow hA
  · rw [hU]; exact ((h2.moved hW.alike).kept (fun a g1 g2 => hS.2.1 a g1 g2)).narrow hA
def PcP (G : wG) (av : List Value) (nz pa : Nat) (A : Nat → Prop) (B : Heap → Prop) : Array Value → State → Prop := va_Pc av (fun U => U.heap.size = nz ∧ B U.heap ∧ wK G U ∧ MNs U ∧ PLs A pa U)
theorem PcP.blind {G : wG} {av : List Value} {nz pa : Nat} {B : Heap → Prop} {A : Nat → Prop} : FrameBlind (PcP G av nz pa A B) := fun a U g mk q =>
  ⟨q.1, q.2.1, q.2.2.1, va_K.moved (u := U) (U := U.calling g mk a) (Vm.Alike.refl U.vm) q.2.2.2.1, q.2.2.2.2.1.warm (U := U.calling g mk a) (State.WarmedH.refl U),
    q.2.2.2.2.2.1.moved (U := U.calling g mk a) (Vm.Alike.refl U.vm), q.2.2.2.2.2.2.moved (U := U.calling g mk a) (Vm.Alike.refl U.vm)⟩
theorem PcP.pre {G : wG} {av : List Value} {B : Heap → Prop} {A A' : Nat → Prop} {pa : Nat} {s : State} {H : Heap} {locs : List Loc} (hB : B H) (hK : wK G s) (hN : MNs s) (hX : PLs A pa s) (hS : va_S A s.heap H locs) (hA : ∀ q, A' q → A q) : ∀ U : State, U.heap = H → s.WarmedH U.vm → PcP G av H.size pa A' B av.toArray U :=
  fun U hU hW => ⟨rfl, by rw [hU], by rw [hU]; exact hB, va_K.moved hW.alike hK, hN.warm hW, hX.at hS hU hW hA⟩
