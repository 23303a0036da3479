/-! ===== a village behind each call: what holds of it still holds ===== -/
theorem InvP.mono {nH p : Nat} {τ : wS} (h : InvP nH τ p) : InvP (nH + 1) τ p := by
  obtain ⟨a, b, c, d, e, f, g, i⟩ := h
  exact ⟨a, b, c, d.imp id (fun ⟨k, hk, q⟩ => ⟨k, by omega, q⟩), e, f, fun k hk => by
    obtain ⟨h, hh, q⟩ := g k hk
    exact ⟨h, by omega, q⟩, i⟩
theorem InvH.mono {nP h : Nat} {τ : wS} (q : InvH nP τ h) : InvH (nP + 1) τ h := by
  obtain ⟨a, b, ⟨k, hk, e⟩, d⟩ := q
  exact ⟨a, b, ⟨k, by omega, e⟩, d⟩
abbrev aHF (nH : Nat) (τ : wS) (x y w : Int32) : wS := wst (wst (wst (wst (addV nH dC τ) 0 nH x) 1 nH y) 2 nH w) 51 0 (nI (nH + 1))
abbrev aPF (nP : Nat) (τ : wS) (x y : Int32) : wS := wst (wst (wst (addW nP dC τ) 20 nP x) 21 nP y) 52 0 (nI (nP + 1))
section IA
variable {nH nP D : Nat} {τ : wS} {x y w : Int32}
theorem addV_o {f i : Nat} {δ : wS} (h : ¬ (f ≤ 10 ∧ i = nH)) : addV nH δ τ f i = τ f i := if_neg h
theorem addW_o {f i : Nat} {δ : wS} (h : ¬ ((11 ≤ f ∧ f ≤ 30 ∧ i = nP) ∨ f = 40 + nP)) : addW nP δ τ f i = τ f i := if_neg h
theorem aHF_o {f i : Nat} (h : ¬ (f ≤ 10 ∧ i = nH)) (h2 : ¬ (f = 51 ∧ i = 0)) : aHF nH τ x y w f i = τ f i := by
  unfold aHF
  rw [wst_e (by omega), wst_e (by omega), wst_e (by omega), wst_e (by omega), addV_o h]
theorem aHF_n {f : Nat} (h : 3 ≤ f) (h2 : f ≤ 10) : aHF nH τ x y w f nH = dC f nH := by
  unfold aHF
  rw [wst_e (by omega), wst_e (by omega), wst_e (by omega), wst_e (by omega)]
  exact if_pos ⟨h2, rfl⟩
theorem Inv.addH (hv : Inv nH nP τ) (hn : nH < 10) (hw : inn 1 9 w) : Inv (nH + 1) nP (aHF nH τ x y w) := by
  obtain ⟨k, h1, h9, rfl⟩ := inn_nI (lo := 1) (hi := 9) hw (by omega) (by omega)
  obtain ⟨a, b, c, d, e, g⟩ := hv
  refine ⟨by omega, b, wst_s, (aHF_o (by omega) (by omega)).trans d, fun h hh => ?_, fun p hp => (g p hp).mono.congr (fun f h1 h2 => aHF_o (by omega) (by omega)) (funext fun i => aHF_o (by omega) (by omega))⟩
  by_cases q : h = nH
  · subst q
    refine ⟨⟨k, h1, h9, ?_⟩, ⟨0, by omega, (aHF_n (by omega) (by omega)).trans rfl⟩, ⟨0, Or.inr rfl, (aHF_n (by omega) (by omega)).trans rfl⟩, ⟨0, by omega, (aHF_n (by omega) (by omega)).trans rfl⟩⟩
    unfold aHF
    rw [wst_f (by omega), wst_s]
  · exact (e h (by omega)).congr (aHF_o (by omega) (by omega)) (aHF_o (by omega) (by omega)) (aHF_o (by omega) (by omega)) (aHF_o (by omega) (by omega))
theorem aPF_o {f i : Nat} (h : ¬ ((11 ≤ f ∧ f ≤ 30 ∧ i = nP) ∨ f = 40 + nP)) (h2 : ¬ (f = 52 ∧ i = 0)) : aPF nP τ x y f i = τ f i := by
  unfold aPF
  rw [wst_e (by omega), wst_e (by omega), wst_e (by omega), addW_o h]
theorem aPF_n {f : Nat} (h : 22 ≤ f) (h2 : f ≤ 30) : aPF nP τ x y f nP = dC f nP := by
  unfold aPF
  rw [wst_e (by omega), wst_e (by omega), wst_e (by omega)]
  exact if_pos (Or.inl ⟨by omega, by omega, rfl⟩)
theorem Inv.addP (hv : Inv nH nP τ) (hn : nP < 3) : Inv nH (nP + 1) (aPF nP τ x y) := by
  obtain ⟨a, b, c, d, e, g⟩ := hv
  refine ⟨a, by omega, (aPF_o (by omega) (by omega)).trans c, wst_s, fun h hh => (e h hh).mono.congr (aPF_o (by omega) (by omega)) (aPF_o (by omega) (by omega)) (aPF_o (by omega) (by omega)) (aPF_o (by omega) (by omega)), fun p hp => ?_⟩
  by_cases q : p = nP
  · subst q
    have e26 : sz (aPF p τ x y) p = 0 := by unfold sz; rw [aPF_n (by omega) (by omega)]; rfl
    have e27 : tn (aPF p τ x y) p = 0 := by unfold tn; rw [aPF_n (by omega) (by omega)]; rfl
    unfold InvP
    rw [e26, e27, aPF_n (f := 22) (by omega) (by omega), aPF_n (f := 23) (by omega) (by omega), aPF_n (f := 24) (by omega) (by omega), aPF_n (f := 25) (by omega) (by omega), aPF_n (f := 26) (by omega) (by omega), aPF_n (f := 27) (by omega) (by omega)]
    exact ⟨Or.inl rfl, fun _ => by show (0 : Int32) < 100; decide, ⟨0, by omega, rfl⟩, Or.inl rfl, ⟨by omega, rfl⟩, ⟨rfl, Or.inr ⟨rfl, rfl⟩⟩, fun k hk => absurd hk (by omega), fun j k _ hk => absurd hk (by omega)⟩
  · exact (g p (by omega)).congr (fun f h1 h2 => aPF_o (by omega) (by omega)) (funext fun i => aPF_o (by omega) (by omega))
/-- a house joins a roster -/
theorem Inv.enrol {p h : Nat} (hv : Inv nH nP τ) (hp : p < nP) (hh : h < nH) (hn : ¬ plc (τ (40 + p)) (nI h) (sz τ p) < sz τ p) : Inv nH nP (wst (wst τ (40 + p) (sz τ p) (nI h)) 26 p (nI (sz τ p + 1))) := by
  have hr := ros_room hv hp hh hn
  have hno := plc_all hn
  have hP := hv.2.1
  have hH := hv.1
  refine hv.atP p (fun f i hf => by rw [wst_f (by omega), wst_f (by omega)]) (by rw [wst_f (by omega), wst_f (by omega)]) (by rw [wst_f (by omega), wst_f (by omega)]) (fun q hq => ⟨fun f h1 h2 => by rw [wst_i hq, wst_f (by omega)], funext fun k => by rw [wst_f (by omega), wst_f (by omega)]⟩) (fun _ => ?_)
  obtain ⟨a, b, c, d, e, f, g, i⟩ := hv.2.2.2.2.2 p hp
  generalize hn9 : sz τ p = n at hr e f g i hno ⊢
  have e26 : sz (wst (wst τ (40 + p) n (nI h)) 26 p (nI (n + 1))) p = n + 1 := by unfold sz; rw [wst_s]; exact nI_clamp (by omega)
  have e27 : tn (wst (wst τ (40 + p) n (nI h)) 26 p (nI (n + 1))) p = tn τ p := by unfold tn; rw [wst_f (by omega), wst_f (by omega)]
  have o : ∀ g, 22 ≤ g → g ≤ 27 → g ≠ 26 → wst (wst τ (40 + p) n (nI h)) 26 p (nI (n + 1)) g p = τ g p := fun g h1 h2 h3 => by rw [wst_f h3, wst_f (by omega)]
  have r : ∀ k, k ≠ n → wst (wst τ (40 + p) n (nI h)) 26 p (nI (n + 1)) (40 + p) k = τ (40 + p) k := fun k hk => by rw [wst_f (by omega), wst_i hk]
  have rn : wst (wst τ (40 + p) n (nI h)) 26 p (nI (n + 1)) (40 + p) n = nI h := by rw [wst_f (by omega), wst_s]
  unfold InvP
  rw [e26, e27, o 22 (by omega) (by omega) (by omega), o 23 (by omega) (by omega) (by omega), o 24 (by omega) (by omega) (by omega), o 25 (by omega) (by omega) (by omega), o 27 (by omega) (by omega) (by omega)]
  refine ⟨a, b, c, d, ⟨by omega, wst_s⟩, ⟨f.1, by have := f.2; omega⟩, fun k hk => ?_, fun j k hjk hk => ?_⟩
  · by_cases q : k = n
    · subst q; exact ⟨h, hh, rn⟩
    · rw [r k q]; exact g k (by omega)
  · rw [r j (by omega)]
    by_cases q : k = n
    · subst q; rw [rn]; exact hno j (by omega)
    · rw [r k q]; exact i j k hjk (by omega)
end IA
theorem lg_cmp_self {x : Int64} : lg_cmp x x = 0 := by
  unfold lg_cmp
  rw [if_neg (fun q => by rw [gt_iff_lt, Int64.lt_iff_toInt_lt] at q; omega), if_pos rfl]
