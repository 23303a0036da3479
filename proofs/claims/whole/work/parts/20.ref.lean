/-! ===== the reference's state as cells: the same columns in rows ===== -/
def sfs (ad : Nat → Nat) (σ : wS) : List Value := [.int (σ 50 0), .int (σ 51 0), .ref (ad 1), .int (σ 52 0), .ref (ad 2), .ref (ad 3), .ref (ad 4), .ref (ad 5), .int (σ 53 0)]
def scol (k : Nat) : Nat := match k with
  | 0 => 50
  | 1 => 51
  | 3 => 52
  | _ => 53
def sref (k : Nat) : Nat := match k with
  | 2 => 1
  | 4 => 2
  | 5 => 3
  | 6 => 4
  | _ => 5
def hA (σ : wS) : Nat → Int32 := fun j => σ (j % 11) (j / 11)
def pA (σ : wS) : Nat → Int32 := fun j => σ (20 + j % 11) (j / 11)
def rA (σ : wS) : Nat → Int32 := fun j => σ (if j < 30 then 40 + j / 10 else 43) (j % 10)
def oA (σ : wS) : Nat → Int32 := fun j => σ 31 j
def nA (σ : wS) : Nat → Int32 := fun j => σ 32 j
def RV (G : wG) (ad : Nat → Nat) (σ : wS) (H : Heap) : Prop :=
  va_at G.1 vwCl (ad 0, .inr (4, sfs ad σ)) H ∧ va_at G.1 vwCl (ad 1, .inl (G.2.1, 110, .inl (hA σ))) H ∧ va_at G.1 vwCl (ad 2, .inl (G.2.1, 33, .inl (pA σ))) H ∧
  va_at G.1 vwCl (ad 3, .inl (G.2.1, 30, .inl (rA σ))) H ∧ va_at G.1 vwCl (ad 4, .inl (G.2.2.1, 3, .inl (oA σ))) H ∧ va_at G.1 vwCl (ad 5, .inl (G.2.2.1, 3, .inl (nA σ))) H
abbrev RVm (G : wG) (ad : Nat → Nat) (nH nP : Nat) (δ τ : wS) (H : Heap) : Prop := RV G ad (wmx nH nP δ τ) H
theorem RV.kept {G : wG} {ad : Nat → Nat} {σ : wS} {H H1 : Heap} (h : RV G ad σ H) (hk : ∀ k, k < 6 → H1[ad k]? = H[ad k]?) : RV G ad σ H1 := by
  obtain ⟨a, b, c, d, e, f⟩ := h
  exact ⟨a.kept (hk 0 (by omega)), b.kept (hk 1 (by omega)), c.kept (hk 2 (by omega)), d.kept (hk 3 (by omega)), e.kept (hk 4 (by omega)), f.kept (hk 5 (by omega))⟩
theorem sfs_ne {σ : wS} {ad : Nat → Nat} {f i : Nat} {x : Int32} (h : f < 50) : sfs ad (wst σ f i x) = sfs ad σ := by
  have e : ∀ g, 50 ≤ g → wst σ f i x g 0 = σ g 0 := fun g hg => wst_f (by omega)
  simp only [sfs, e 50 (by omega), e 51 (by omega), e 52 (by omega), e 53 (by omega)]
theorem hA_ne {σ : wS} {f i : Nat} {x : Int32} (h : 10 < f) : hA (wst σ f i x) = hA σ := funext fun j => wst_f (by omega)
theorem pA_ne {σ : wS} {f i : Nat} {x : Int32} (h : f < 20 ∨ 30 < f) : pA (wst σ f i x) = pA σ := funext fun j => wst_f (by omega)
theorem rA_ne {σ : wS} {f i : Nat} {x : Int32} (h : f < 40 ∨ 43 < f) : rA (wst σ f i x) = rA σ := funext fun j => wst_f (by split <;> omega)
theorem oA_ne {σ : wS} {f i : Nat} {x : Int32} (h : f ≠ 31) : oA (wst σ f i x) = oA σ := funext fun j => wst_f (by omega)
theorem nA_ne {σ : wS} {f i : Nat} {x : Int32} (h : f ≠ 32) : nA (wst σ f i x) = nA σ := funext fun j => wst_f (by omega)
theorem hA_upd {σ : wS} {f h : Nat} {x : Int32} (hf : f ≤ 10) : upd (hA σ) (11 * h + f) x = hA (wst σ f h x) := by
  funext j
  unfold upd hA wst
  by_cases q : j = 11 * h + f
  · rw [if_pos q, if_pos (by omega)]
  · rw [if_neg q, if_neg (by omega)]
theorem pA_upd {σ : wS} {f g h : Nat} {x : Int32} (hf : f ≤ 10) (hg : 20 + f = g) : upd (pA σ) (11 * h + f) x = pA (wst σ g h x) := by
  funext j
  unfold upd pA wst
  by_cases q : j = 11 * h + f
  · rw [if_pos q, if_pos (by omega)]
  · rw [if_neg q, if_neg (by omega)]
theorem rA_upd {σ : wS} {p k : Nat} {x : Int32} (hp : p < 3) (hk : k < 10) : upd (rA σ) (10 * p + k) x = rA (wst σ (40 + p) k x) := by
  funext j
  unfold upd rA wst
  by_cases r : j < 30
  · rw [if_pos r]
    by_cases q : j = 10 * p + k
    · rw [if_pos q, if_pos (by omega)]
    · rw [if_neg q, if_neg (by omega)]
  · rw [if_neg r, if_neg (by omega), if_neg (by omega)]
theorem oA_upd {σ : wS} {k : Nat} {x : Int32} : upd (oA σ) k x = oA (wst σ 31 k x) := by
  funext j
  unfold upd oA wst
  by_cases q : j = k
  · rw [if_pos q, if_pos ⟨rfl, q⟩]
  · rw [if_neg q, if_neg (fun z => q z.2)]
theorem nA_upd {σ : wS} {k : Nat} {x : Int32} : upd (nA σ) k x = nA (wst σ 32 k x) := by
  funext j
  unfold upd nA wst
  by_cases q : j = k
  · rw [if_pos q, if_pos ⟨rfl, q⟩]
  · rw [if_neg q, if_neg (fun z => q z.2)]
theorem sfs_set {σ : wS} {ad : Nat → Nat} {k : Nat} {x : Int32} (hk : k = 0 ∨ k = 1 ∨ k = 3 ∨ k = 8) : (sfs ad σ).set k (.int x) = sfs ad (wst σ (scol k) 0 x) := by
  rcases hk with rfl | rfl | rfl | rfl <;> simp [sfs, scol, wst]
theorem sfs_get {σ : wS} {ad : Nat → Nat} {k : Nat} (hk : k = 0 ∨ k = 1 ∨ k = 3 ∨ k = 8) : (sfs ad σ)[k]? = some (.int (σ (scol k) 0)) := by
  rcases hk with rfl | rfl | rfl | rfl <;> rfl
theorem sfs_ref {σ : wS} {ad : Nat → Nat} {k : Nat} (hk : k = 2 ∨ k = 4 ∨ k = 5 ∨ k = 6 ∨ k = 7) : (sfs ad σ)[k]? = some (.ref (ad (sref k))) := by
  rcases hk with rfl | rfl | rfl | rfl | rfl <;> rfl
theorem scol_in (k : Nat) : 50 ≤ scol k ∧ scol k ≤ 53 := by unfold scol; split <;> omega
section RS
variable {G : wG} {ad : Nat → Nat} {σ : wS} {H H1 : Heap} {x : Int32}
theorem RV.setS {k : Nat} (hI : adInj ad 6) (hV : RV G ad σ H) (hk : k = 0 ∨ k = 1 ∨ k = 3 ∨ k = 8) (e1 : va_at G.1 vwCl (ad 0, .inr (4, (sfs ad σ).set k (.int x))) H1) (e3 : ∀ q : Nat, q ≠ ad 0 → H1[q]? = H[q]?) : RV G ad (wst σ (scol k) 0 x) H1 := by
  have hp := scol_in k
  obtain ⟨a, b, c, d, e, f⟩ := hV
  rw [sfs_set hk] at e1
  refine ⟨e1, ?_, ?_, ?_, ?_, ?_⟩
  · rw [hA_ne (by omega)]; exact b.kept (e3 _ (adNe hI (by omega) (by omega) (by omega)))
  · rw [pA_ne (by omega)]; exact c.kept (e3 _ (adNe hI (by omega) (by omega) (by omega)))
  · rw [rA_ne (by omega)]; exact d.kept (e3 _ (adNe hI (by omega) (by omega) (by omega)))
  · rw [oA_ne (by omega)]; exact e.kept (e3 _ (adNe hI (by omega) (by omega) (by omega)))
  · rw [nA_ne (by omega)]; exact f.kept (e3 _ (adNe hI (by omega) (by omega) (by omega)))
theorem RV.setH {f h : Nat} (hI : adInj ad 6) (hV : RV G ad σ H) (hf : f ≤ 10) (e1 : va_at G.1 vwCl (ad 1, .inl (G.2.1, 110, .inl (upd (hA σ) (11 * h + f) x))) H1) (e3 : ∀ q : Nat, q ≠ ad 1 → H1[q]? = H[q]?) : RV G ad (wst σ f h x) H1 := by
  obtain ⟨a, b, c, d, e, g⟩ := hV
  rw [hA_upd hf] at e1
  refine ⟨?_, e1, ?_, ?_, ?_, ?_⟩
  · rw [sfs_ne (by omega)]; exact a.kept (e3 _ (adNe hI (by omega) (by omega) (by omega)))
  · rw [pA_ne (by omega)]; exact c.kept (e3 _ (adNe hI (by omega) (by omega) (by omega)))
  · rw [rA_ne (by omega)]; exact d.kept (e3 _ (adNe hI (by omega) (by omega) (by omega)))
  · rw [oA_ne (by omega)]; exact e.kept (e3 _ (adNe hI (by omega) (by omega) (by omega)))
  · rw [nA_ne (by omega)]; exact g.kept (e3 _ (adNe hI (by omega) (by omega) (by omega)))
theorem RV.setP {f h g0 : Nat} (hI : adInj ad 6) (hV : RV G ad σ H) (hf : f ≤ 10) (hg : 20 + f = g0) (e1 : va_at G.1 vwCl (ad 2, .inl (G.2.1, 33, .inl (upd (pA σ) (11 * h + f) x))) H1) (e3 : ∀ q : Nat, q ≠ ad 2 → H1[q]? = H[q]?) : RV G ad (wst σ g0 h x) H1 := by
  obtain ⟨a, b, c, d, e, g⟩ := hV
  rw [pA_upd hf hg] at e1
  refine ⟨?_, ?_, e1, ?_, ?_, ?_⟩
  · rw [sfs_ne (by omega)]; exact a.kept (e3 _ (adNe hI (by omega) (by omega) (by omega)))
  · rw [hA_ne (by omega)]; exact b.kept (e3 _ (adNe hI (by omega) (by omega) (by omega)))
  · rw [rA_ne (by omega)]; exact d.kept (e3 _ (adNe hI (by omega) (by omega) (by omega)))
  · rw [oA_ne (by omega)]; exact e.kept (e3 _ (adNe hI (by omega) (by omega) (by omega)))
  · rw [nA_ne (by omega)]; exact g.kept (e3 _ (adNe hI (by omega) (by omega) (by omega)))
theorem RV.setR {p k : Nat} (hI : adInj ad 6) (hV : RV G ad σ H) (hp : p < 3) (hk : k < 10) (e1 : va_at G.1 vwCl (ad 3, .inl (G.2.1, 30, .inl (upd (rA σ) (10 * p + k) x))) H1) (e3 : ∀ q : Nat, q ≠ ad 3 → H1[q]? = H[q]?) : RV G ad (wst σ (40 + p) k x) H1 := by
  obtain ⟨a, b, c, d, e, g⟩ := hV
  rw [rA_upd hp hk] at e1
  refine ⟨?_, ?_, ?_, e1, ?_, ?_⟩
  · rw [sfs_ne (by omega)]; exact a.kept (e3 _ (adNe hI (by omega) (by omega) (by omega)))
  · rw [hA_ne (by omega)]; exact b.kept (e3 _ (adNe hI (by omega) (by omega) (by omega)))
  · rw [pA_ne (by omega)]; exact c.kept (e3 _ (adNe hI (by omega) (by omega) (by omega)))
  · rw [oA_ne (by omega)]; exact e.kept (e3 _ (adNe hI (by omega) (by omega) (by omega)))
  · rw [nA_ne (by omega)]; exact g.kept (e3 _ (adNe hI (by omega) (by omega) (by omega)))
theorem RV.setO {k : Nat} (hI : adInj ad 6) (hV : RV G ad σ H) (e1 : va_at G.1 vwCl (ad 4, .inl (G.2.2.1, 3, .inl (upd (oA σ) k x))) H1) (e3 : ∀ q : Nat, q ≠ ad 4 → H1[q]? = H[q]?) : RV G ad (wst σ 31 k x) H1 := by
  obtain ⟨a, b, c, d, e, g⟩ := hV
  rw [oA_upd] at e1
  refine ⟨?_, ?_, ?_, ?_, e1, ?_⟩
  · rw [sfs_ne (by omega)]; exact a.kept (e3 _ (adNe hI (by omega) (by omega) (by omega)))
  · rw [hA_ne (by omega)]; exact b.kept (e3 _ (adNe hI (by omega) (by omega) (by omega)))
  · rw [pA_ne (by omega)]; exact c.kept (e3 _ (adNe hI (by omega) (by omega) (by omega)))
  · rw [rA_ne (by omega)]; exact d.kept (e3 _ (adNe hI (by omega) (by omega) (by omega)))
  · rw [nA_ne (by omega)]; exact g.kept (e3 _ (adNe hI (by omega) (by omega) (by omega)))
theorem RV.setN {k : Nat} (hI : adInj ad 6) (hV : RV G ad σ H) (e1 : va_at G.1 vwCl (ad 5, .inl (G.2.2.1, 3, .inl (upd (nA σ) k x))) H1) (e3 : ∀ q : Nat, q ≠ ad 5 → H1[q]? = H[q]?) : RV G ad (wst σ 32 k x) H1 := by
  obtain ⟨a, b, c, d, e, g⟩ := hV
  rw [nA_upd] at e1
  refine ⟨?_, ?_, ?_, ?_, ?_, e1⟩
  · rw [sfs_ne (by omega)]; exact a.kept (e3 _ (adNe hI (by omega) (by omega) (by omega)))
  · rw [hA_ne (by omega)]; exact b.kept (e3 _ (adNe hI (by omega) (by omega) (by omega)))
  · rw [pA_ne (by omega)]; exact c.kept (e3 _ (adNe hI (by omega) (by omega) (by omega)))
  · rw [rA_ne (by omega)]; exact d.kept (e3 _ (adNe hI (by omega) (by omega) (by omega)))
  · rw [oA_ne (by omega)]; exact e.kept (e3 _ (adNe hI (by omega) (by omega) (by omega)))
end RS
section RR
variable {p : Program} {l : Launch} {e : Env} {R : Room} {s : State} {m : MethodId} {args : Array Value} {below : List Frame} {meth : Method} {c : Code} {H : Heap} {locs : List Loc} {cells slots : Nat} {Q : State → Prop}
variable {cc : ByteArray} {pc : Nat} {ls : Array Slot} {rest : List Value} {A : Nat → Prop} {H0 : Heap} {G : wG} {ad : Nat → Nat} {nH nP : Nat} {δ τ : wS} {Ts : List Cond} {own host : String} {index : Nat}
theorem rSi (k : Nat) (hexec : p.tables.exec = Jvm.exec) (hb : c.code = cc) (hts : ∀ w ∈ Ts, w.before args s = true) (hin : ∀ w ∈ wsX40, w ∈ Ts) (hown : s.vm.findClass own = some m.cls) (hK : wK G s) (hV : RVm G ad nH nP δ τ H) {f : Nat} (hk : k = 0 ∨ k = 1 ∨ k = 3 ∨ k = 8) (hf : scol k = f) {v : Int32} (hv : τ f 0 = v) (hlink : (Cond.fieldLink own index RX4 (TX4 k).2.1 (TX4 k).2.2.1).before args s = true) (hdg : decode cc pc = .ok (.getfield index, 3))
    (kk : W p l e R s m args below meth c H locs cells slots Q (F0 m (pc + 3) ls (.int v :: rest))) : W p l e R s m args below meth c H locs cells slots Q (F0 m pc ls (.ref (ad 0) :: rest)) := by
  subst hf
  have hp := scol_in k
  refine va_get (ci := 4) (C := RX4) (T := TX4) (N := 9) hexec hb hts hin hown hK (va_P1 hV.1) 0 rfl rfl k (by omega) hlink (fun x h9 => by rw [TX4_1 k] at h9; exact h9) (sfs_get hk) hdg ?_
  rw [wmx_r (wact_v (by omega)), hv]
  exact kk
theorem rSf (k : Nat) (hexec : p.tables.exec = Jvm.exec) (hb : c.code = cc) (hts : ∀ w ∈ Ts, w.before args s = true) (hin : ∀ w ∈ wsX40, w ∈ Ts) (hown : s.vm.findClass own = some m.cls) (hK : wK G s) (hV : RVm G ad nH nP δ τ H) {j : Nat} (hk : k = 2 ∨ k = 4 ∨ k = 5 ∨ k = 6 ∨ k = 7) (hj : sref k = j) (hlink : (Cond.fieldLink own index RX4 (TX4 k).2.1 (TX4 k).2.2.1).before args s = true) (hdg : decode cc pc = .ok (.getfield index, 3))
    (kk : W p l e R s m args below meth c H locs cells slots Q (F0 m (pc + 3) ls (.ref (ad j) :: rest))) : W p l e R s m args below meth c H locs cells slots Q (F0 m pc ls (.ref (ad 0) :: rest)) := by
  subst hj
  exact va_get (ci := 4) (C := RX4) (T := TX4) (N := 9) hexec hb hts hin hown hK (va_P1 hV.1) 0 rfl rfl k (by omega) hlink (fun x h9 => by rw [TX4_1 k] at h9; exact h9) (sfs_ref hk) hdg kk
theorem rSiN (k : Nat) (hexec : p.tables.exec = Jvm.exec) (hb : c.code = cc) (hts : ∀ w ∈ Ts, w.before args s = true) (hin : ∀ w ∈ wsX40, w ∈ Ts) (hown : s.vm.findClass own = some m.cls) (hK : wK G s) (hV : RVm G ad nH nP δ τ H) {f : Nat} (hk : k = 0 ∨ k = 1 ∨ k = 3 ∨ k = 8) (hf : scol k = f) {v : Int32} (hv : τ f 0 = v) (hlink : (Cond.fieldLinkNest own index RX4 (TX4 k).2.1 (TX4 k).2.2.1 host).before args s = true) (hdg : decode cc pc = .ok (.getfield index, 3))
    (kk : W p l e R s m args below meth c H locs cells slots Q (F0 m (pc + 3) ls (.int v :: rest))) : W p l e R s m args below meth c H locs cells slots Q (F0 m pc ls (.ref (ad 0) :: rest)) := by
  subst hf
  have hp := scol_in k
  refine va_getN (ci := 4) (C := RX4) (T := TX4) (N := 9) hexec hb hts hin hown hK (va_P1 hV.1) 0 rfl rfl k (by omega) hlink (fun x h9 => by rw [TX4_1 k] at h9; exact h9) (sfs_get hk) hdg ?_
  rw [wmx_r (wact_v (by omega)), hv]
  exact kk
theorem rSfN (k : Nat) (hexec : p.tables.exec = Jvm.exec) (hb : c.code = cc) (hts : ∀ w ∈ Ts, w.before args s = true) (hin : ∀ w ∈ wsX40, w ∈ Ts) (hown : s.vm.findClass own = some m.cls) (hK : wK G s) (hV : RVm G ad nH nP δ τ H) {j : Nat} (hk : k = 2 ∨ k = 4 ∨ k = 5 ∨ k = 6 ∨ k = 7) (hj : sref k = j) (hlink : (Cond.fieldLinkNest own index RX4 (TX4 k).2.1 (TX4 k).2.2.1 host).before args s = true) (hdg : decode cc pc = .ok (.getfield index, 3))
    (kk : W p l e R s m args below meth c H locs cells slots Q (F0 m (pc + 3) ls (.ref (ad j) :: rest))) : W p l e R s m args below meth c H locs cells slots Q (F0 m pc ls (.ref (ad 0) :: rest)) := by
  subst hj
  exact va_getN (ci := 4) (C := RX4) (T := TX4) (N := 9) hexec hb hts hin hown hK (va_P1 hV.1) 0 rfl rfl k (by omega) hlink (fun x h9 => by rw [TX4_1 k] at h9; exact h9) (sfs_ref hk) hdg kk
theorem rSh (hexec : p.tables.exec = Jvm.exec) (hb : c.code = cc) (hK : wK G s) (hV : RVm G ad nH nP δ τ H) {h f j : Nat} (hj : j = 11 * h + f) (hf : f ≤ 10) (hh : h < nH) (hn : nH ≤ 10) {v : Int32} (hv : τ f h = v) (hdg : decode cc pc = .ok (.iaload, 1))
    (kk : W p l e R s m args below meth c H locs cells slots Q (F0 m (pc + 1) ls (.int v :: rest))) : W p l e R s m args below meth c H locs cells slots Q (F0 m pc ls (.int (nI j) :: .ref (ad 1) :: rest)) := by
  refine va_iald hexec hb hK (va_P1 hV.2.1) 0 0 rfl rfl (vp_in_nI (show j < 110 by omega) (by omega)) hdg ?_
  rw [nI_clamp (show j < 2 ^ 31 by omega)]
  unfold hA
  rw [show j % 11 = f by omega, show j / 11 = h by omega, wmx_r (wact_h hf hh), hv]
  exact kk
theorem rSp (hexec : p.tables.exec = Jvm.exec) (hb : c.code = cc) (hK : wK G s) (hV : RVm G ad nH nP δ τ H) {h f g j : Nat} (hj : j = 11 * h + f) (hf : f ≤ 10) (hg : 20 + f = g) (hh : h < nP) (hn : nP ≤ 3) {v : Int32} (hv : τ g h = v) (hdg : decode cc pc = .ok (.iaload, 1))
    (kk : W p l e R s m args below meth c H locs cells slots Q (F0 m (pc + 1) ls (.int v :: rest))) : W p l e R s m args below meth c H locs cells slots Q (F0 m pc ls (.int (nI j) :: .ref (ad 2) :: rest)) := by
  refine va_iald hexec hb hK (va_P1 hV.2.2.1) 0 0 rfl rfl (vp_in_nI (show j < 33 by omega) (by omega)) hdg ?_
  rw [nI_clamp (show j < 2 ^ 31 by omega)]
  unfold pA
  rw [show 20 + j % 11 = g by omega, show j / 11 = h by omega, wmx_r (wact_p (by omega) (by omega) hh), hv]
  exact kk
theorem rSq (hexec : p.tables.exec = Jvm.exec) (hb : c.code = cc) (hK : wK G s) (hV : RVm G ad nH nP δ τ H) {h k j : Nat} (hj : j = 10 * h + k) (hk : k < 10) (hh : h < nP) (hn : nP ≤ 3) {v : Int32} (hv : τ (40 + h) k = v) (hdg : decode cc pc = .ok (.iaload, 1))
    (kk : W p l e R s m args below meth c H locs cells slots Q (F0 m (pc + 1) ls (.int v :: rest))) : W p l e R s m args below meth c H locs cells slots Q (F0 m pc ls (.int (nI j) :: .ref (ad 3) :: rest)) := by
  refine va_iald hexec hb hK (va_P1 hV.2.2.2.1) 0 0 rfl rfl (vp_in_nI (show j < 30 by omega) (by omega)) hdg ?_
  rw [nI_clamp (show j < 2 ^ 31 by omega)]
  unfold rA
  rw [if_pos (show j < 30 by omega), show j / 10 = h by omega, show j % 10 = k by omega, wmx_r (wact_r hh hn), hv]
  exact kk
theorem rSo (hexec : p.tables.exec = Jvm.exec) (hb : c.code = cc) (hK : wK G s) (hV : RVm G ad nH nP δ τ H) {h : Nat} (hh : h < 3) {v : Int32} (hv : τ 31 h = v) (hdg : decode cc pc = .ok (.baload, 1))
    (kk : W p l e R s m args below meth c H locs cells slots Q (F0 m (pc + 1) ls (.int v :: rest))) : W p l e R s m args below meth c H locs cells slots Q (F0 m pc ls (.int (nI h) :: .ref (ad 4) :: rest)) := by
  refine va_zald hexec hb hK (va_P1 hV.2.2.2.2.1) 0 1 rfl rfl (vp_in_nI hh (by omega)) hdg ?_
  rw [nI_clamp (show h < 2 ^ 31 by omega)]
  unfold oA
  rw [wmx_31, hv]
  exact kk
theorem rSn (hexec : p.tables.exec = Jvm.exec) (hb : c.code = cc) (hK : wK G s) (hV : RVm G ad nH nP δ τ H) {h : Nat} (hh : h < 3) {v : Int32} (hv : τ 32 h = v) (hdg : decode cc pc = .ok (.baload, 1))
    (kk : W p l e R s m args below meth c H locs cells slots Q (F0 m (pc + 1) ls (.int v :: rest))) : W p l e R s m args below meth c H locs cells slots Q (F0 m pc ls (.int (nI h) :: .ref (ad 5) :: rest)) := by
  refine va_zald hexec hb hK (va_P1 hV.2.2.2.2.2) 0 1 rfl rfl (vp_in_nI hh (by omega)) hdg ?_
  rw [nI_clamp (show h < 2 ^ 31 by omega)]
  unfold nA
  rw [wmx_32, hv]
  exact kk
theorem wSi (k : Nat) (hexec : p.tables.exec = Jvm.exec) (hb : c.code = cc) (hts : ∀ w ∈ Ts, w.before args s = true) (hin : ∀ w ∈ wsX40, w ∈ Ts) (hown : s.vm.findClass own = some m.cls) (hK : wK G s) (hI : adInj ad 6) (hV : RVm G ad nH nP δ τ H) (hS : va_S A H0 H locs) (hA : ∀ q, AV ad 6 q → A q) {f : Nat} {x : Int32} (hk : k = 0 ∨ k = 1 ∨ k = 3 ∨ k = 8) (hf : scol k = f) (hlink : (Cond.fieldLink own index RX4 (TX4 k).2.1 (TX4 k).2.2.1).before args s = true) (hdg : decode cc pc = .ok (.putfield index, 3))
    (kk : ∀ (H1 : Heap) (locs1 : List Loc), RVm G ad nH nP δ (wst τ f 0 x) H1 → (∀ q : Nat, q < H.size → ¬ AV ad 6 q → H1[q]? = H[q]?) → va_S A H0 H1 locs1 → W p l e R s m args below meth c H1 locs1 cells slots Q (F0 m (pc + 3) ls rest)) : W p l e R s m args below meth c H locs cells slots Q (F0 m pc ls (.int x :: .ref (ad 0) :: rest)) := by
  subst hf
  have hp := scol_in k
  have hty : tyX4 k = .int := by rcases hk with rfl | rfl | rfl | rfl <;> rfl
  refine xq_put (ci := 4) (C := RX4) (T := TX4) (N := 9) hexec hb hts hin tyX4 tyX4_ok nmX4 hown hK hV.1 hS (hA _ ⟨0, by omega, rfl⟩) rfl k (by omega) hlink (fun x h9 => by rw [TX4_1 k] at h9; exact h9) (by rcases hk with rfl | rfl | rfl | rfl <;> rfl) (by rw [hty]; rfl) (by rw [hty]; rfl) (show k < 9 by omega) hdg (fun H1 locs1 e1 e3 hS1 => ?_)
  have hV1 := RV.setS hI hV hk e1 e3
  rw [wmx_w (wact_v (by omega))] at hV1
  exact kk H1 locs1 hV1 (fun q _ z => e3 q (fun y => z ⟨0, by omega, y⟩)) hS1
theorem wSiN (k : Nat) (hexec : p.tables.exec = Jvm.exec) (hb : c.code = cc) (hts : ∀ w ∈ Ts, w.before args s = true) (hin : ∀ w ∈ wsX40, w ∈ Ts) (hown : s.vm.findClass own = some m.cls) (hK : wK G s) (hI : adInj ad 6) (hV : RVm G ad nH nP δ τ H) (hS : va_S A H0 H locs) (hA : ∀ q, AV ad 6 q → A q) {f : Nat} {x : Int32} (hk : k = 0 ∨ k = 1 ∨ k = 3 ∨ k = 8) (hf : scol k = f) (hlink : (Cond.fieldLinkNest own index RX4 (TX4 k).2.1 (TX4 k).2.2.1 host).before args s = true) (hdg : decode cc pc = .ok (.putfield index, 3))
    (kk : ∀ (H1 : Heap) (locs1 : List Loc), RVm G ad nH nP δ (wst τ f 0 x) H1 → (∀ q : Nat, q < H.size → ¬ AV ad 6 q → H1[q]? = H[q]?) → va_S A H0 H1 locs1 → W p l e R s m args below meth c H1 locs1 cells slots Q (F0 m (pc + 3) ls rest)) : W p l e R s m args below meth c H locs cells slots Q (F0 m pc ls (.int x :: .ref (ad 0) :: rest)) := by
  subst hf
  have hp := scol_in k
  have hty : tyX4 k = .int := by rcases hk with rfl | rfl | rfl | rfl <;> rfl
  refine xq_putN (ci := 4) (C := RX4) (T := TX4) (N := 9) hexec hb hts hin tyX4 tyX4_ok nmX4 hown hK hV.1 hS (hA _ ⟨0, by omega, rfl⟩) rfl k (by omega) hlink (fun x h9 => by rw [TX4_1 k] at h9; exact h9) (by rcases hk with rfl | rfl | rfl | rfl <;> rfl) (by rw [hty]; rfl) (by rw [hty]; rfl) (show k < 9 by omega) hdg (fun H1 locs1 e1 e3 hS1 => ?_)
  have hV1 := RV.setS hI hV hk e1 e3
  rw [wmx_w (wact_v (by omega))] at hV1
  exact kk H1 locs1 hV1 (fun q _ z => e3 q (fun y => z ⟨0, by omega, y⟩)) hS1
theorem wSh (hexec : p.tables.exec = Jvm.exec) (hb : c.code = cc) (hK : wK G s) (hI : adInj ad 6) (hV : RVm G ad nH nP δ τ H) (hS : va_S A H0 H locs) (hA : ∀ q, AV ad 6 q → A q) {h f j : Nat} {x : Int32} (hj : j = 11 * h + f) (hf : f ≤ 10) (hh : h < nH) (hn : nH ≤ 10) (hdg : decode cc pc = .ok (.iastore, 1))
    (kk : ∀ (H1 : Heap) (locs1 : List Loc), RVm G ad nH nP δ (wst τ f h x) H1 → (∀ q : Nat, q < H.size → ¬ AV ad 6 q → H1[q]? = H[q]?) → va_S A H0 H1 locs1 → W p l e R s m args below meth c H1 locs1 cells slots Q (F0 m (pc + 1) ls rest)) : W p l e R s m args below meth c H locs cells slots Q (F0 m pc ls (.int x :: .int (nI j) :: .ref (ad 1) :: rest)) := by
  subst hj
  refine xq_iast hexec hb hK hV.2.1 hS (hA _ ⟨1, by omega, rfl⟩) 0 rfl (vp_in_nI (show 11 * h + f < 110 by omega) (by omega)) hdg (fun H1 locs1 e1 e3 hS1 => ?_)
  rw [nI_clamp (show 11 * h + f < 2 ^ 31 by omega)] at e1
  have hV1 := RV.setH hI hV hf e1 e3
  rw [wmx_w (wact_h hf hh)] at hV1
  exact kk H1 locs1 hV1 (fun q _ z => e3 q (fun y => z ⟨1, by omega, y⟩)) hS1
theorem wSp (hexec : p.tables.exec = Jvm.exec) (hb : c.code = cc) (hK : wK G s) (hI : adInj ad 6) (hV : RVm G ad nH nP δ τ H) (hS : va_S A H0 H locs) (hA : ∀ q, AV ad 6 q → A q) {h f g j : Nat} {x : Int32} (hj : j = 11 * h + f) (hf : f ≤ 10) (hg : 20 + f = g) (hh : h < nP) (hn : nP ≤ 3) (hdg : decode cc pc = .ok (.iastore, 1))
    (kk : ∀ (H1 : Heap) (locs1 : List Loc), RVm G ad nH nP δ (wst τ g h x) H1 → (∀ q : Nat, q < H.size → ¬ AV ad 6 q → H1[q]? = H[q]?) → va_S A H0 H1 locs1 → W p l e R s m args below meth c H1 locs1 cells slots Q (F0 m (pc + 1) ls rest)) : W p l e R s m args below meth c H locs cells slots Q (F0 m pc ls (.int x :: .int (nI j) :: .ref (ad 2) :: rest)) := by
  subst hj
  refine xq_iast hexec hb hK hV.2.2.1 hS (hA _ ⟨2, by omega, rfl⟩) 0 rfl (vp_in_nI (show 11 * h + f < 33 by omega) (by omega)) hdg (fun H1 locs1 e1 e3 hS1 => ?_)
  rw [nI_clamp (show 11 * h + f < 2 ^ 31 by omega)] at e1
  have hV1 := RV.setP hI hV hf hg e1 e3
  rw [wmx_w (wact_p (by omega) (by omega) hh)] at hV1
  exact kk H1 locs1 hV1 (fun q _ z => e3 q (fun y => z ⟨2, by omega, y⟩)) hS1
theorem wSq (hexec : p.tables.exec = Jvm.exec) (hb : c.code = cc) (hK : wK G s) (hI : adInj ad 6) (hV : RVm G ad nH nP δ τ H) (hS : va_S A H0 H locs) (hA : ∀ q, AV ad 6 q → A q) {h k j : Nat} {x : Int32} (hj : j = 10 * h + k) (hk : k < 10) (hh : h < nP) (hn : nP ≤ 3) (hdg : decode cc pc = .ok (.iastore, 1))
    (kk : ∀ (H1 : Heap) (locs1 : List Loc), RVm G ad nH nP δ (wst τ (40 + h) k x) H1 → (∀ q : Nat, q < H.size → ¬ AV ad 6 q → H1[q]? = H[q]?) → va_S A H0 H1 locs1 → W p l e R s m args below meth c H1 locs1 cells slots Q (F0 m (pc + 1) ls rest)) : W p l e R s m args below meth c H locs cells slots Q (F0 m pc ls (.int x :: .int (nI j) :: .ref (ad 3) :: rest)) := by
  subst hj
  refine xq_iast hexec hb hK hV.2.2.2.1 hS (hA _ ⟨3, by omega, rfl⟩) 0 rfl (vp_in_nI (show 10 * h + k < 30 by omega) (by omega)) hdg (fun H1 locs1 e1 e3 hS1 => ?_)
  rw [nI_clamp (show 10 * h + k < 2 ^ 31 by omega)] at e1
  have hV1 := RV.setR hI hV (by omega) hk e1 e3
  rw [wmx_w (wact_r hh hn)] at hV1
  exact kk H1 locs1 hV1 (fun q _ z => e3 q (fun y => z ⟨3, by omega, y⟩)) hS1
theorem wSo (hexec : p.tables.exec = Jvm.exec) (hb : c.code = cc) (hK : wK G s) (hI : adInj ad 6) (hV : RVm G ad nH nP δ τ H) (hS : va_S A H0 H locs) (hA : ∀ q, AV ad 6 q → A q) {h : Nat} {x : Int32} (hh : h < nP) (hn : nP ≤ 3) (hx : vp_nar .boolean x = x) (hdg : decode cc pc = .ok (.bastore, 1))
    (kk : ∀ (H1 : Heap) (locs1 : List Loc), RVm G ad nH nP δ (wst τ 31 h x) H1 → (∀ q : Nat, q < H.size → ¬ AV ad 6 q → H1[q]? = H[q]?) → va_S A H0 H1 locs1 → W p l e R s m args below meth c H1 locs1 cells slots Q (F0 m (pc + 1) ls rest)) : W p l e R s m args below meth c H locs cells slots Q (F0 m pc ls (.int x :: .int (nI h) :: .ref (ad 4) :: rest)) := by
  refine xq_zast hexec hb hK hV.2.2.2.2.1 hS (hA _ ⟨4, by omega, rfl⟩) 1 rfl (vp_in_nI (show h < 3 by omega) (by omega)) hx hdg (fun H1 locs1 e1 e3 hS1 => ?_)
  rw [nI_clamp (show h < 2 ^ 31 by omega)] at e1
  have hV1 := RV.setO hI hV e1 e3
  rw [wmx_w (wact_o (by omega) (by omega) (by omega))] at hV1
  exact kk H1 locs1 hV1 (fun q _ z => e3 q (fun y => z ⟨4, by omega, y⟩)) hS1
theorem wSn (hexec : p.tables.exec = Jvm.exec) (hb : c.code = cc) (hK : wK G s) (hI : adInj ad 6) (hV : RVm G ad nH nP δ τ H) (hS : va_S A H0 H locs) (hA : ∀ q, AV ad 6 q → A q) {h : Nat} {x : Int32} (hh : h < nP) (hn : nP ≤ 3) (hx : vp_nar .boolean x = x) (hdg : decode cc pc = .ok (.bastore, 1))
    (kk : ∀ (H1 : Heap) (locs1 : List Loc), RVm G ad nH nP δ (wst τ 32 h x) H1 → (∀ q : Nat, q < H.size → ¬ AV ad 6 q → H1[q]? = H[q]?) → va_S A H0 H1 locs1 → W p l e R s m args below meth c H1 locs1 cells slots Q (F0 m (pc + 1) ls rest)) : W p l e R s m args below meth c H locs cells slots Q (F0 m pc ls (.int x :: .int (nI h) :: .ref (ad 5) :: rest)) := by
  refine xq_zast hexec hb hK hV.2.2.2.2.2 hS (hA _ ⟨5, by omega, rfl⟩) 1 rfl (vp_in_nI (show h < 3 by omega) (by omega)) hx hdg (fun H1 locs1 e1 e3 hS1 => ?_)
  rw [nI_clamp (show h < 2 ^ 31 by omega)] at e1
  have hV1 := RV.setN hI hV e1 e3
  rw [wmx_w (wact_o (by omega) (by omega) (by omega))] at hV1
  exact kk H1 locs1 hV1 (fun q _ z => e3 q (fun y => z ⟨5, by omega, y⟩)) hS1
end RR
