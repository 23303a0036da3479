theorem vk_start {args : Array Value} {s : State} {k : Nat} {tx : String} (h1 : (Cond.stringRef RX3 k tx).before args s = true) (h2 : (Cond.exactly (.string RX3 k) "java/lang/String").before args s = true) : ∃ a, vk_R RX3 k tx a s := by
  obtain ⟨a, c, cA, kA, q1, -⟩ := Cond.exactly_spec h2
  exact ⟨a, vk_R.of h1 q1⟩
section NL
variable {p : Program} {l : Launch} {e : Env} {R : Room} {s : State} {m : MethodId} {args : Array Value} {below : List Frame} {meth : Method} {c : Code} {H : Heap} {locs : List Loc} {cells slots : Nat} {Q : State → Prop}
variable {cc : ByteArray} {pc : Nat} {ls : Array Slot} {rest : List Value} {A : Nat → Prop} {H0 : Heap} {G : wG} {cL : ClassId}
theorem nwL (hexec : p.tables.exec = Jvm.exec) (hb : c.code = cc) (harr : (Cond.arrayClass .long).before args s = true) (hK : wKL G cL s) (hS : va_S A H0 H locs) (hcells : cells + 1 ≤ R.cells) (hslots : slots + 1 ≤ R.slots) (hdg : decode cc pc = .ok (.newarray .long, 2))
    (kk : ∀ (n9 : Nat) (H1 : Heap), H.size = n9 → H0.size ≤ n9 → va_at G.1 vwCl (n9, oLn cL 0) H1 → (∀ q : Nat, q < H.size → H1[q]? = H[q]?) → va_S A H0 H1 locs → W p l e R s m args below meth c H1 locs (cells + 1) (slots + 1) Q (F0 m (pc + 2) ls (.ref n9 :: rest))) : W p l e R s m args below meth c H locs cells slots Q (F0 m pc ls (.int 1 :: rest)) := by
  refine va_newaK (atype := .long) (N := 1) hexec hb harr rfl hdg rfl (by decide) (by decide) (by decide) hcells hslots rfl fun H1 cA e1 z1 o1 hAr hNm => ?_
  have e9 : cA = cL := Option.some.inj (hNm.symm.trans (hK.2 4 (cL, .long) rfl).2)
  subst e9
  refine kk H.size H1 rfl hS.1 ?_ o1 (vaS9 hS z1 o1)
  show H1[H.size]? = some (vp_cell _ _)
  rw [e1]
  rfl
end NL
theorem XW.keptB {G : wG} {xa n : Nat} {ad ad2 : Nat → Nat} {σ σ2 : wS} {H H1 : Heap} (h : XW G xa ad ad2 σ σ2 H) (hx : xa < n) (ha : ∀ k, k < 19 → ad k < n) (hb : ∀ k, k < 19 → ad2 k < n) (hk : ∀ q : Nat, q < n → H1[q]? = H[q]?) : XW G xa ad ad2 σ σ2 H1 :=
  ⟨h.1.kept (hk _ hx), h.2.1.kept (fun k hk9 => hk _ (ha k hk9)), h.2.2.kept (fun k hk9 => hk _ (hb k hk9))⟩
theorem wmx_dCR : wmx 0 0 dC dR = dC := by
  funext f i
  unfold wmx
  split
  · rename_i h
    have hf : 31 ≤ f := by
      unfold wact at h
      by_cases h1 : f ≤ 10
      · rw [if_pos h1] at h; simp at h
      · rw [if_neg h1] at h
        by_cases h2 : f ≤ 30
        · rw [if_pos h2] at h; simp at h
        · omega
    unfold dC
    split
    · omega
    · omega
    · rfl
  · rfl
/-- what the law has of the tables and of the start -/
def LT (s : State) (b : Nat) (G : wG) (cL : ClassId) (pa : Nat) : Prop := wKL G cL s ∧ XK (fun q : Nat => s.heap.size ≤ q) s ∧ XNc s ∧ MNs s ∧ PLs (fun q : Nat => s.heap.size ≤ q) pa s ∧ XN2 s ∧ XN5 s
theorem ArrOf.of {s : State} {c : ClassId} {k : Class} {comp : ClassId} {ty : FieldType} (h1 : s.vm.classes[c]? = some k) (h2 : k.kind = .array comp ty) : ArrOfT s c ty := fun n z => ⟨fun k h => (by cases h), k, h1, comp, h2⟩
set_option maxHeartbeats 4000000 in
set_option maxRecDepth 100000 in
theorem law_tables {s : State} {b : Nat} (hts0 : ∀ w ∈ lw_tbl, w.before #[Value.ref b] s = true) (hgv : (Jvm.Cond.and given_1 narrow_1).before #[Value.ref b] s = true) : ∃ G cL pa, LT s b G cL pa := by
  have hs := flat_of_before _ hgv
  have hA : ∀ a : Nat, a < s.heap.size → ¬ (fun q : Nat => s.heap.size ≤ q) a := fun a ha => Nat.not_le.mpr ha
  obtain ⟨c0, i0, hKn0⟩ := u_known (C := RX0) (T := TX0) (N := 12) (n := 12) hts0 inX0 (hts0 (.instantiable RX0 12) (by decide +kernel))
  obtain ⟨c1, i1, hKn1⟩ := u_known (C := RX1) (T := TX1) (N := 14) (n := 14) hts0 inX1 (hts0 (.instantiable RX1 14) (by decide +kernel))
  obtain ⟨c2, i2, hKn2⟩ := u_known (C := RX2) (T := TX2) (N := 6) (n := 6) hts0 inX2 (hts0 (.instantiable RX2 6) (by decide +kernel))
  obtain ⟨c3, i3, hKn3⟩ := u_known (C := RX3) (T := TX3) (N := 2) (n := 2) hts0 inX3 (hts0 (.instantiable RX3 2) (by decide +kernel))
  obtain ⟨c4, i4, hKn4⟩ := u_known (C := RX4) (T := TX4) (N := 9) (n := 9) hts0 inX4 (hts0 (.instantiable RX4 9) (by decide +kernel))
  obtain ⟨c5, i5, hKn5⟩ := u_known (C := RX5) (T := TX5) (N := 3) (n := 3) hts0 inX5 (hts0 (.instantiable RX5 3) (by decide +kernel))
  obtain ⟨cI, kI9, pI, fI, gI, hI9⟩ := Cond.arrayClass_spec (hts0 (.arrayClass .int) (by decide +kernel))
  obtain ⟨cZ, kZ9, pZ, fZ, gZ, hZ9⟩ := Cond.arrayClass_spec (hts0 (.arrayClass .boolean) (by decide +kernel))
  obtain ⟨cL, kL9, pL, fL, gL, hL9⟩ := Cond.arrayClass_spec (hts0 (.arrayClass .long) (by decide +kernel))
  obtain ⟨pH, cH, kH9, eH, -, gH, hH9, fH⟩ := Cond.arrayOver_spec (hts0 (.arrayOver (.object "PumpRoster$House")) (by decide +kernel))
  obtain ⟨pP, cP, kP9, eP, -, gP, hP9, fP⟩ := Cond.arrayOver_spec (hts0 (.arrayOver (.object "PumpRoster$Pump")) (by decide +kernel))
  obtain ⟨pa, hpa, hT⟩ := va_Tof (tm := .static RX5 "PLACES" "[I") (ty := .int) (N := 10) (f := fun k => .int (nI (plF k))) (A := fun q : Nat => s.heap.size ≤ q) (by decide) (hs _ (by decide +kernel)) (va_eqt (hs (Cond.eq (.length (.static RX5 "PLACES" "[I")) (.int 10)) (by decide +kernel))) (fun j hj => by
    rcases (show j = 0 ∨ j = 1 ∨ j = 2 ∨ j = 3 ∨ j = 4 ∨ j = 5 ∨ j = 6 ∨ j = 7 ∨ j = 8 ∨ j = 9 by omega) with rfl | rfl | rfl | rfl | rfl | rfl | rfl | rfl | rfl | rfl
    · exact va_eqt (z := 0) (hs (Cond.eq (.elem (.static RX5 "PLACES" "[I") (.int 0)) (.int 0)) (by decide +kernel))
    · exact va_eqt (z := 1) (hs (Cond.eq (.elem (.static RX5 "PLACES" "[I") (.int 1)) (.int 1)) (by decide +kernel))
    · exact va_eqt (z := 3) (hs (Cond.eq (.elem (.static RX5 "PLACES" "[I") (.int 2)) (.int 3)) (by decide +kernel))
    · exact va_eqt (z := 4) (hs (Cond.eq (.elem (.static RX5 "PLACES" "[I") (.int 3)) (.int 4)) (by decide +kernel))
    · exact va_eqt (z := 6) (hs (Cond.eq (.elem (.static RX5 "PLACES" "[I") (.int 4)) (.int 6)) (by decide +kernel))
    · exact va_eqt (z := 5) (hs (Cond.eq (.elem (.static RX5 "PLACES" "[I") (.int 5)) (.int 5)) (by decide +kernel))
    · exact va_eqt (z := 7) (hs (Cond.eq (.elem (.static RX5 "PLACES" "[I") (.int 6)) (.int 7)) (by decide +kernel))
    · exact va_eqt (z := 8) (hs (Cond.eq (.elem (.static RX5 "PLACES" "[I") (.int 7)) (.int 8)) (by decide +kernel))
    · exact va_eqt (z := 9) (hs (Cond.eq (.elem (.static RX5 "PLACES" "[I") (.int 8)) (.int 9)) (by decide +kernel))
    · exact va_eqt (z := 10) (hs (Cond.eq (.elem (.static RX5 "PLACES" "[I") (.int 9)) (.int 10)) (by decide +kernel))) hA
  refine ⟨((fun k => match k with | 0 => c0 | 1 => c1 | 2 => c2 | 3 => c3 | 4 => c4 | _ => c5, fun k => match k with | 0 => i0 | 1 => i1 | 2 => i2 | 3 => i3 | 4 => i4 | _ => i5), cI, cZ, cH, cP), cL, pa, ⟨?_, ?_⟩, ⟨⟨?_, ?_⟩, ⟨va_Nw.of rfl (hts0 (.castable nIAE nIAE) (by decide +kernel)), va_Nw.of rfl (hts0 (.castable nISE nISE) (by decide +kernel)), va_Nw.of rfl (hts0 (.castable nIOB nIOB) (by decide +kernel)), va_Nw.of rfl (hts0 (.declares (Bundle.initS "java/lang/RuntimeException")) (by decide +kernel)), va_Nw.of rfl (hts0 (.declares (Bundle.initS "java/lang/Exception")) (by decide +kernel)), va_Nw.of rfl (hts0 (.declares (Bundle.initS Bundle.tN)) (by decide +kernel))⟩, ⟨vk_start (hts0 (.stringRef RX3 29 "no room for another house") (by decide +kernel)) (hs (.exactly (.string RX3 29) "java/lang/String") (by decide +kernel)), vk_start (hts0 (.stringRef RX3 55 "no room for another pump") (by decide +kernel)) (hs (.exactly (.string RX3 55) "java/lang/String") (by decide +kernel)), vk_start (hts0 (.stringRef RX3 90 "the house is on the roster") (by decide +kernel)) (hs (.exactly (.string RX3 90) "java/lang/String") (by decide +kernel)), vk_start (hts0 (.stringRef RX3 95 "the house has too many marks") (by decide +kernel)) (hs (.exactly (.string RX3 95) "java/lang/String") (by decide +kernel)), vk_start (hts0 (.stringRef RX3 180 "an argument is too small or too large") (by decide +kernel)) (hs (.exactly (.string RX3 180) "java/lang/String") (by decide +kernel)), vk_start (hts0 (.stringRef RX3 185 "nothing is told by this number") (by decide +kernel)) (hs (.exactly (.string RX3 185) "java/lang/String") (by decide +kernel)), vk_start (hts0 (.stringRef RX3 192 "no such house") (by decide +kernel)) (hs (.exactly (.string RX3 192) "java/lang/String") (by decide +kernel)), vk_start (hts0 (.stringRef RX3 197 "no such pump") (by decide +kernel)) (hs (.exactly (.string RX3 197) "java/lang/String") (by decide +kernel)), vk_start (hts0 (.stringRef RX3 199 "no such place on the roster") (by decide +kernel)) (hs (.exactly (.string RX3 199) "java/lang/String") (by decide +kernel))⟩⟩, ⟨va_Nc.of (hs (.not (.castable nISE nIAE)) (by decide +kernel)), va_Nc.of (hs (.not (.castable nIAE nIOB)) (by decide +kernel)), va_Nc.of (hs (.not (.castable nISE nIOB)) (by decide +kernel)), va_Nc.of (hs (.not (.castable nIOB nIAE)) (by decide +kernel))⟩, ⟨va_Nw.of rfl (hts0 (.fieldLinkNest RX5 90 RX4 "day" "I" RX5) (by decide +kernel)), va_Nw.of rfl (hts0 (.fieldLinkNest RX5 23 RX4 "houses" "I" RX5) (by decide +kernel)), va_Nw.of rfl (hts0 (.fieldLinkNest RX5 37 RX4 "house" "[I" RX5) (by decide +kernel)), va_Nw.of rfl (hts0 (.fieldLinkNest RX5 30 RX4 "pumps" "I" RX5) (by decide +kernel)), va_Nw.of rfl (hts0 (.fieldLinkNest RX5 47 RX4 "pump" "[I" RX5) (by decide +kernel)), va_Nw.of rfl (hts0 (.fieldLinkNest RX5 64 RX4 "roster" "[I" RX5) (by decide +kernel)), va_Nw.of rfl (hts0 (.fieldLinkNest RX5 93 RX4 "chest" "I" RX5) (by decide +kernel))⟩, ⟨va_Zref (hts0 (.laysStatic RX5 "PLACES" "[I") (by decide +kernel)) (hts0 (.initialized RX5) (by decide +kernel)) hpa hA, hT⟩, ⟨va_AO.of (hts0 (.arrayOver (.object RX0)) (by decide +kernel)), va_AO.of (hts0 (.arrayOver (.object RX1)) (by decide +kernel)), va_Nw.of rfl (hts0 (.methodLinkNest RX2 26 yX1_init RX3) (by decide +kernel))⟩, va_Nw.of rfl (hts0 (.methodLinkNest RX5 9 yX4_init RX5) (by decide +kernel))⟩
  · intro k q hq
    match k, hq with
    | 0, hq => cases hq; exact hKn0
    | 1, hq => cases hq; exact hKn1
    | 2, hq => cases hq; exact hKn2
    | 3, hq => cases hq; exact hKn3
    | 4, hq => cases hq; exact hKn4
    | 5, hq => cases hq; exact hKn5
    | k + 6, hq => simp [vwCl] at hq
  · intro k q hq
    match k, hq with
    | 0, hq => cases hq; exact ⟨ArrOf.of gI hI9, fI⟩
    | 1, hq => cases hq; exact ⟨ArrOf.of gZ hZ9, fZ⟩
    | 2, hq => cases hq; exact ⟨ArrOf.of gH hH9, kH9, pH, gH, hH9, eH, fH⟩
    | 3, hq => cases hq; exact ⟨ArrOf.of gP hP9, kP9, pP, gP, hP9, eP, fP⟩
    | 4, hq => cases hq; exact ⟨ArrOf.of gL hL9, fL⟩
    | k + 5, hq => simp at hq
  · exact vx_Zqof (hts0 (.laysStatic Bundle.tN "UNASSIGNED_STACK" Bundle.steD) (by decide +kernel)) (hts0 (.initialized Bundle.tN) (by decide +kernel)) (hs (.isRef (.static Bundle.tN "UNASSIGNED_STACK" Bundle.steD)) (by decide +kernel)) hA
  · exact vx_Zqof (hts0 (.laysStatic Bundle.tN "SUPPRESSED_SENTINEL" Bundle.listD) (by decide +kernel)) (hts0 (.initialized Bundle.tN) (by decide +kernel)) (hs (.isRef (.static Bundle.tN "SUPPRESSED_SENTINEL" Bundle.listD)) (by decide +kernel)) hA
