set_option maxHeartbeats 4000000 in
set_option maxRecDepth 100000 in
theorem c_L_addHouse (l : Launch) (hfl : l.stackTraces = false) (G : wG) (cL : ClassId) (xa : Nat) (ad ad2 : Nat → Nat) (hI : XI xa ad ad2) (nH nP : Nat) (hH : nH ≤ 10) (hP : nP ≤ 3) (δ τ z : wS) (nz o9 : Nat) (d : Int64) (x y w : Int32) (hv : Inv nH nP τ) (hoa : OA o9 xa ad ad2) (ho9 : o9 < nz) : vx_Met l yL_addHouse wsL_addHouse ({ frames := 8, cells := 4, slots := 24, locals := 128 } : Room) (PcW G cL [.ref xa, .int x, .int y, .int w, .ref o9] nz (AO ad ad2 o9 nz) (fun H => XWz G xa ad ad2 (wmx nH nP δ τ) z H ∧ va_at G.1 vwCl (o9, oLn cL d) H)) (Qwi (fun u => (u = 0 ∧ inn 0 9 x ∧ inn 0 9 y ∧ inn 1 9 w ∧ nH < 10) ∨ (u = 1 ∧ ¬ (inn 0 9 x ∧ inn 0 9 y ∧ inn 1 9 w)) ∨ (u = 2 ∧ inn 0 9 x ∧ inn 0 9 y ∧ inn 1 9 w ∧ ¬ (nH < 10))) (fun u H => XWz G xa ad ad2 (wmx (sel u (nH + 1) nH) nP δ (sel u (wst (wst (wst (wst (addV nH δ τ) 0 nH x) 1 nH y) 2 nH w) 51 0 (nI (nH + 1))) τ)) z H ∧ ∃ d, va_at G.1 vwCl (o9, oLn cL d) H ∧ (u = 0 → d = Int32.toInt64 (nI nH))) (AO ad ad2 o9 nz)) XF 4 24 (AO ad ad2 o9 nz) := by
  refine vx_ofWH (cc := cL_addHouse) (maxL := 6) (ret := (some .int)) (hh := [(0, 12, 15, 13), (0, 12, 19, 15)]) (by decide) rfl ?_
  intro pg ev s mid args below meth cd s₁ B hml hv0
  obtain ⟨rfl, rfl, ⟨hW, hO⟩, hKL, hX, hNc⟩ := hv0
  have hx := B.exec
  have hb := B.bytes
  have hr := B.returns
  have hts := atoms_spec (ws := wsL_addHouse) B.pre
  have hown : s.vm.findClass RL = some mid.cls := findClass_of_methodNamed B.named
  have hlocks := B.notSynchronized
  have hK := hKL.k
  have htab := vx_table (x := yL_addHouse) B (hts _ (List.mem_cons_self : Cond.codeWith yL_addHouse cL_addHouse 6 (some .int) [(0, 12, 15, 13), (0, 12, 19, 15)] ∈ wsL_addHouse))
  have kc13 := hts (.classLink RL 13 nIAE) (by decide +kernel)
  have kc15 := hts (.classLink RL 15 nISE) (by decide +kernel)
  have hS : va_S (AO ad ad2 o9 s.heap.size) s.heap s.heap [] := va_S.rf
  have hl := lv_entry ([.ref xa, .int x, .int y, .int w, .ref o9]) (n := 6) (Nat.le_of_ble_eq_true rfl)
  rw [lg_entry_eq]
  generalize (lg_sl ([.ref xa, .int x, .int y, .int w, .ref o9]) ++ List.replicate (6 - (lg_sl ([.ref xa, .int x, .int y, .int w, .ref o9])).length) Slot.unset).toArray = ls at hl ⊢
  have hl : lv_has ls 6 [(0, .ref xa), (1, .int x), (2, .int y), (3, .int w), (4, .ref o9)] := hl
  refine lv_aload hx hb dL_addHouse_0 (lv_at hl 4 rfl) ?_
  refine lv_iconst (v := 0) hx hb dL_addHouse_2 (by decide) ?_
  refine lv_aload_n hx hb dL_addHouse_3 rfl (lv_at hl 0 rfl) ?_
  refine lv_iload_n hx hb dL_addHouse_4 rfl (lv_at hl 1 rfl) ?_
  refine lv_iload_n hx hb dL_addHouse_5 rfl (lv_at hl 2 rfl) ?_
  refine lv_iload_n hx hb dL_addHouse_6 rfl (lv_at hl 3 rfl) ?_
  refine kXi (vx_runV (As := [.int x, .int y, .int w]) (rest := [.int 0, .ref o9]) ⟨hx, hb, hml, hown, hts⟩ (c_X3_addHouse l hfl G xa ad ad2 hI nH nP hH hP δ τ z s.heap.size x y w hv) (cwV 3 hts gL_addHouse_X3_addHouse rfl rfl rfl (by decide +kernel) ⟨Nat.le_of_ble_eq_true rfl, Nat.le_of_ble_eq_true rfl⟩) ⟨Pc3.blind, va_recv hK (va_P1 hW.choose_spec.1.1) (ci := 3) (q0 := 0) rfl rfl, Pc3.pre hW hK hX hS (fun _ h => Or.inl h)⟩ rfl rfl hl.1 rfl (lv_room (Nat.le_of_ble_eq_true rfl)) dL_addHouse_7 ⟨Nat.le_of_ble_eq_true rfl, Nat.le_of_ble_eq_true rfl⟩) hS (fun _ h => Or.inl h) (fun _ h => Or.inl h) (fun _ h => Or.inl h) (fun E ce q9 H locs hE hW hk hS hc hv9 hcl => ?_) (fun H locs ok hW hk hS => ?_)
  · have hO := hO.kept (hk _ hO.lt (hoa.no ho9))
    rcases hE with ⟨rfl, t1⟩ | ⟨rfl, t1, t2⟩ | ⟨rfl, t1, t2, t3⟩ | ⟨rfl, t1, t2, t3, t4⟩
    · skip
      refine vx_catch hown [] (⟨0, 12, 15, 13⟩ : ExceptionTableEntry) [(⟨0, 12, 19, 15⟩ : ExceptionTableEntry)] (htab.trans rfl) (fun z hz => absurd hz List.not_mem_nil) (by decide) (by decide) kc13 (va_Nw.use rfl hX.2.1.1) hc hv9 hcl ?_
      refine lv_astore (lv' := [(5, .ref q9), (0, .ref xa), (1, .int x), (2, .int y), (3, .int w), (4, .ref o9)]) hx hb dL_addHouse_15 hl (by decide) rfl (fun ls hl => ?_)
      refine lv_iconst (v := 1) hx hb dL_addHouse_17 (by decide) ?_
      exact xW 1 hx hb hr hlocks (Or.inr (Or.inl ⟨rfl, fun q => t1 q.1⟩)) ⟨hW, d, hO, fun q => absurd q (by decide)⟩ hS (show (1 : Int32) = nI 1 by decide) (Nat.le_of_ble_eq_true rfl) (Nat.le_of_ble_eq_true rfl) dL_addHouse_18
    · skip
      refine vx_catch hown [] (⟨0, 12, 15, 13⟩ : ExceptionTableEntry) [(⟨0, 12, 19, 15⟩ : ExceptionTableEntry)] (htab.trans rfl) (fun z hz => absurd hz List.not_mem_nil) (by decide) (by decide) kc13 (va_Nw.use rfl hX.2.1.1) hc hv9 hcl ?_
      refine lv_astore (lv' := [(5, .ref q9), (0, .ref xa), (1, .int x), (2, .int y), (3, .int w), (4, .ref o9)]) hx hb dL_addHouse_15 hl (by decide) rfl (fun ls hl => ?_)
      refine lv_iconst (v := 1) hx hb dL_addHouse_17 (by decide) ?_
      exact xW 1 hx hb hr hlocks (Or.inr (Or.inl ⟨rfl, fun q => t2 q.2.1⟩)) ⟨hW, d, hO, fun q => absurd q (by decide)⟩ hS (show (1 : Int32) = nI 1 by decide) (Nat.le_of_ble_eq_true rfl) (Nat.le_of_ble_eq_true rfl) dL_addHouse_18
    · skip
      refine vx_catch hown [] (⟨0, 12, 15, 13⟩ : ExceptionTableEntry) [(⟨0, 12, 19, 15⟩ : ExceptionTableEntry)] (htab.trans rfl) (fun z hz => absurd hz List.not_mem_nil) (by decide) (by decide) kc13 (va_Nw.use rfl hX.2.1.1) hc hv9 hcl ?_
      refine lv_astore (lv' := [(5, .ref q9), (0, .ref xa), (1, .int x), (2, .int y), (3, .int w), (4, .ref o9)]) hx hb dL_addHouse_15 hl (by decide) rfl (fun ls hl => ?_)
      refine lv_iconst (v := 1) hx hb dL_addHouse_17 (by decide) ?_
      exact xW 1 hx hb hr hlocks (Or.inr (Or.inl ⟨rfl, fun q => t3 q.2.2⟩)) ⟨hW, d, hO, fun q => absurd q (by decide)⟩ hS (show (1 : Int32) = nI 1 by decide) (Nat.le_of_ble_eq_true rfl) (Nat.le_of_ble_eq_true rfl) dL_addHouse_18
    · skip
      refine vx_catch hown [(⟨0, 12, 15, 13⟩ : ExceptionTableEntry)] (⟨0, 12, 19, 15⟩ : ExceptionTableEntry) [] (htab.trans rfl) (fun z hz => by
        obtain rfl := List.mem_singleton.mp hz
        exact Or.inr ⟨by decide, nIAE, kc13, hNc.1⟩) (by decide) (by decide) kc15 (va_Nw.use rfl hX.2.1.2.1) hc hv9 hcl ?_
      refine lv_astore (lv' := [(5, .ref q9), (0, .ref xa), (1, .int x), (2, .int y), (3, .int w), (4, .ref o9)]) hx hb dL_addHouse_19 hl (by decide) rfl (fun ls hl => ?_)
      refine lv_iconst (v := 2) hx hb dL_addHouse_21 (by decide) ?_
      exact xW 2 hx hb hr hlocks (Or.inr (Or.inr ⟨rfl, t1, t2, t3, fun q => t4 q⟩)) ⟨hW, d, hO, fun q => absurd q (by decide)⟩ hS (show (2 : Int32) = nI 2 by decide) (Nat.le_of_ble_eq_true rfl) (Nat.le_of_ble_eq_true rfl) dL_addHouse_22
  · have hO := hO.kept (hk _ hO.lt (hoa.no ho9))
    refine lv_i2l hx hb dL_addHouse_10 rfl ?_
    refine wO hx hb hKL hO hS (Or.inr rfl) dL_addHouse_11 (fun H locs hO e3 hS => ?_)
    have hW := hW.keptO hoa e3
    refine lv_goto (tgt := 23) hx hb dL_addHouse_12 (by decide) ?_
    refine lv_iconst (v := 0) hx hb dL_addHouse_23 (by decide) ?_
    exact xW 0 hx hb hr hlocks (Or.inl ⟨rfl, ok⟩) ⟨hW, _, hO, fun _ => rfl⟩ hS (show (0 : Int32) = nI 0 by decide) (Nat.le_of_ble_eq_true rfl) (Nat.le_of_ble_eq_true rfl) dL_addHouse_24

set_option maxHeartbeats 4000000 in
set_option maxRecDepth 100000 in
theorem c_L_addPump (l : Launch) (hfl : l.stackTraces = false) (G : wG) (cL : ClassId) (xa : Nat) (ad ad2 : Nat → Nat) (hI : XI xa ad ad2) (nH nP : Nat) (hH : nH ≤ 10) (hP : nP ≤ 3) (δ τ z : wS) (nz o9 : Nat) (d : Int64) (x y : Int32) (hv : Inv nH nP τ) (hoa : OA o9 xa ad ad2) (ho9 : o9 < nz) : vx_Met l yL_addPump wsL_addPump ({ frames := 8, cells := 3, slots := 18, locals := 128 } : Room) (PcW G cL [.ref xa, .int x, .int y, .ref o9] nz (AO ad ad2 o9 nz) (fun H => XWz G xa ad ad2 (wmx nH nP δ τ) z H ∧ va_at G.1 vwCl (o9, oLn cL d) H)) (Qwi (fun u => (u = 0 ∧ inn 0 200 x ∧ inn 0 50 y ∧ nP < 3) ∨ (u = 1 ∧ ¬ (inn 0 200 x ∧ inn 0 50 y)) ∨ (u = 2 ∧ inn 0 200 x ∧ inn 0 50 y ∧ ¬ (nP < 3))) (fun u H => XWz G xa ad ad2 (wmx nH (sel u (nP + 1) nP) δ (sel u (wst (wst (wst (addW nP δ τ) 20 nP x) 21 nP y) 52 0 (nI (nP + 1))) τ)) z H ∧ ∃ d, va_at G.1 vwCl (o9, oLn cL d) H ∧ (u = 0 → d = Int32.toInt64 (nI nP))) (AO ad ad2 o9 nz)) XF 3 18 (AO ad ad2 o9 nz) := by
  refine vx_ofWH (cc := cL_addPump) (maxL := 5) (ret := (some .int)) (hh := [(0, 10, 13, 13), (0, 10, 17, 15)]) (by decide) rfl ?_
  intro pg ev s mid args below meth cd s₁ B hml hv0
  obtain ⟨rfl, rfl, ⟨hW, hO⟩, hKL, hX, hNc⟩ := hv0
  have hx := B.exec
  have hb := B.bytes
  have hr := B.returns
  have hts := atoms_spec (ws := wsL_addPump) B.pre
  have hown : s.vm.findClass RL = some mid.cls := findClass_of_methodNamed B.named
  have hlocks := B.notSynchronized
  have hK := hKL.k
  have htab := vx_table (x := yL_addPump) B (hts _ (List.mem_cons_self : Cond.codeWith yL_addPump cL_addPump 5 (some .int) [(0, 10, 13, 13), (0, 10, 17, 15)] ∈ wsL_addPump))
  have kc13 := hts (.classLink RL 13 nIAE) (by decide +kernel)
  have kc15 := hts (.classLink RL 15 nISE) (by decide +kernel)
  have hS : va_S (AO ad ad2 o9 s.heap.size) s.heap s.heap [] := va_S.rf
  have hl := lv_entry ([.ref xa, .int x, .int y, .ref o9]) (n := 5) (Nat.le_of_ble_eq_true rfl)
  rw [lg_entry_eq]
  generalize (lg_sl ([.ref xa, .int x, .int y, .ref o9]) ++ List.replicate (5 - (lg_sl ([.ref xa, .int x, .int y, .ref o9])).length) Slot.unset).toArray = ls at hl ⊢
  have hl : lv_has ls 5 [(0, .ref xa), (1, .int x), (2, .int y), (3, .ref o9)] := hl
  refine lv_aload_n hx hb dL_addPump_0 rfl (lv_at hl 3 rfl) ?_
  refine lv_iconst (v := 0) hx hb dL_addPump_1 (by decide) ?_
  refine lv_aload_n hx hb dL_addPump_2 rfl (lv_at hl 0 rfl) ?_
  refine lv_iload_n hx hb dL_addPump_3 rfl (lv_at hl 1 rfl) ?_
  refine lv_iload_n hx hb dL_addPump_4 rfl (lv_at hl 2 rfl) ?_
  refine kXi (vx_runV (As := [.int x, .int y]) (rest := [.int 0, .ref o9]) ⟨hx, hb, hml, hown, hts⟩ (c_X3_addPump l hfl G xa ad ad2 hI nH nP hH hP δ τ z s.heap.size x y hv) (cwV 2 hts gL_addPump_X3_addPump rfl rfl rfl (by decide +kernel) ⟨Nat.le_of_ble_eq_true rfl, Nat.le_of_ble_eq_true rfl⟩) ⟨Pc3.blind, va_recv hK (va_P1 hW.choose_spec.1.1) (ci := 3) (q0 := 0) rfl rfl, Pc3.pre hW hK hX hS (fun _ h => Or.inl h)⟩ rfl rfl hl.1 rfl (lv_room (Nat.le_of_ble_eq_true rfl)) dL_addPump_5 ⟨Nat.le_of_ble_eq_true rfl, Nat.le_of_ble_eq_true rfl⟩) hS (fun _ h => Or.inl h) (fun _ h => Or.inl h) (fun _ h => Or.inl h) (fun E ce q9 H locs hE hW hk hS hc hv9 hcl => ?_) (fun H locs ok hW hk hS => ?_)
  · have hO := hO.kept (hk _ hO.lt (hoa.no ho9))
    rcases hE with ⟨rfl, t1⟩ | ⟨rfl, t1, t2⟩ | ⟨rfl, t1, t2, t3⟩
    · skip
      refine vx_catch hown [] (⟨0, 10, 13, 13⟩ : ExceptionTableEntry) [(⟨0, 10, 17, 15⟩ : ExceptionTableEntry)] (htab.trans rfl) (fun z hz => absurd hz List.not_mem_nil) (by decide) (by decide) kc13 (va_Nw.use rfl hX.2.1.1) hc hv9 hcl ?_
      refine lv_astore (lv' := [(4, .ref q9), (0, .ref xa), (1, .int x), (2, .int y), (3, .ref o9)]) hx hb dL_addPump_13 hl (by decide) rfl (fun ls hl => ?_)
      refine lv_iconst (v := 1) hx hb dL_addPump_15 (by decide) ?_
      exact xW 1 hx hb hr hlocks (Or.inr (Or.inl ⟨rfl, fun q => t1 q.1⟩)) ⟨hW, d, hO, fun q => absurd q (by decide)⟩ hS (show (1 : Int32) = nI 1 by decide) (Nat.le_of_ble_eq_true rfl) (Nat.le_of_ble_eq_true rfl) dL_addPump_16
    · skip
      refine vx_catch hown [] (⟨0, 10, 13, 13⟩ : ExceptionTableEntry) [(⟨0, 10, 17, 15⟩ : ExceptionTableEntry)] (htab.trans rfl) (fun z hz => absurd hz List.not_mem_nil) (by decide) (by decide) kc13 (va_Nw.use rfl hX.2.1.1) hc hv9 hcl ?_
      refine lv_astore (lv' := [(4, .ref q9), (0, .ref xa), (1, .int x), (2, .int y), (3, .ref o9)]) hx hb dL_addPump_13 hl (by decide) rfl (fun ls hl => ?_)
      refine lv_iconst (v := 1) hx hb dL_addPump_15 (by decide) ?_
      exact xW 1 hx hb hr hlocks (Or.inr (Or.inl ⟨rfl, fun q => t2 q.2⟩)) ⟨hW, d, hO, fun q => absurd q (by decide)⟩ hS (show (1 : Int32) = nI 1 by decide) (Nat.le_of_ble_eq_true rfl) (Nat.le_of_ble_eq_true rfl) dL_addPump_16
    · skip
      refine vx_catch hown [(⟨0, 10, 13, 13⟩ : ExceptionTableEntry)] (⟨0, 10, 17, 15⟩ : ExceptionTableEntry) [] (htab.trans rfl) (fun z hz => by
        obtain rfl := List.mem_singleton.mp hz
        exact Or.inr ⟨by decide, nIAE, kc13, hNc.1⟩) (by decide) (by decide) kc15 (va_Nw.use rfl hX.2.1.2.1) hc hv9 hcl ?_
      refine lv_astore (lv' := [(4, .ref q9), (0, .ref xa), (1, .int x), (2, .int y), (3, .ref o9)]) hx hb dL_addPump_17 hl (by decide) rfl (fun ls hl => ?_)
      refine lv_iconst (v := 2) hx hb dL_addPump_19 (by decide) ?_
      exact xW 2 hx hb hr hlocks (Or.inr (Or.inr ⟨rfl, t1, t2, fun q => t3 q⟩)) ⟨hW, d, hO, fun q => absurd q (by decide)⟩ hS (show (2 : Int32) = nI 2 by decide) (Nat.le_of_ble_eq_true rfl) (Nat.le_of_ble_eq_true rfl) dL_addPump_20
  · have hO := hO.kept (hk _ hO.lt (hoa.no ho9))
    refine lv_i2l hx hb dL_addPump_8 rfl ?_
    refine wO hx hb hKL hO hS (Or.inr rfl) dL_addPump_9 (fun H locs hO e3 hS => ?_)
    have hW := hW.keptO hoa e3
    refine lv_goto (tgt := 21) hx hb dL_addPump_10 (by decide) ?_
    refine lv_iconst (v := 0) hx hb dL_addPump_21 (by decide) ?_
    exact xW 0 hx hb hr hlocks (Or.inl ⟨rfl, ok⟩) ⟨hW, _, hO, fun _ => rfl⟩ hS (show (0 : Int32) = nI 0 by decide) (Nat.le_of_ble_eq_true rfl) (Nat.le_of_ble_eq_true rfl) dL_addPump_22

set_option maxHeartbeats 4000000 in
set_option maxRecDepth 100000 in
theorem c_L_lodge (l : Launch) (hfl : l.stackTraces = false) (G : wG) (cL : ClassId) (xa : Nat) (ad ad2 : Nat → Nat) (hI : XI xa ad ad2) (nH nP : Nat) (hH : nH ≤ 10) (hP : nP ≤ 3) (δ τ z : wS) (nz o9 : Nat) (d : Int64) (x y : Int32) (hv : Inv nH nP τ) (hoa : OA o9 xa ad ad2) (ho9 : o9 < nz) : vx_Met l yL_lodge wsL_lodge ({ frames := 8, cells := 2, slots := 12, locals := 128 } : Room) (PcW G cL [.ref xa, .int x, .int y, .ref o9] nz (AO ad ad2 o9 nz) (fun H => XWz G xa ad ad2 (wmx nH nP δ τ) z H ∧ va_at G.1 vwCl (o9, oLn cL d) H)) (Qwi (fun u => (u = 0 ∧ hOk nH x ∧ inn 0 9 y) ∨ (u = 1 ∧ ¬ (hOk nH x)) ∨ (u = 2 ∧ hOk nH x ∧ ¬ (inn 0 9 y))) (fun u H => XWz G xa ad ad2 (wmx nH nP δ (sel u (wst τ 0 (cl x) y) τ)) z H ∧ ∃ d, va_at G.1 vwCl (o9, oLn cL d) H ∧ (u = 0 → d = Int32.toInt64 (τ 0 (cl x)))) (AO ad ad2 o9 nz)) XF 2 12 (AO ad ad2 o9 nz) := by
  refine vx_ofWH (cc := cL_lodge) (maxL := 5) (ret := (some .int)) (hh := [(0, 10, 13, 24), (0, 10, 17, 13)]) (by decide) rfl ?_
  intro pg ev s mid args below meth cd s₁ B hml hv0
  obtain ⟨rfl, rfl, ⟨hW, hO⟩, hKL, hX, hNc⟩ := hv0
  have hx := B.exec
  have hb := B.bytes
  have hr := B.returns
  have hts := atoms_spec (ws := wsL_lodge) B.pre
  have hown : s.vm.findClass RL = some mid.cls := findClass_of_methodNamed B.named
  have hlocks := B.notSynchronized
  have hK := hKL.k
  have htab := vx_table (x := yL_lodge) B (hts _ (List.mem_cons_self : Cond.codeWith yL_lodge cL_lodge 5 (some .int) [(0, 10, 13, 24), (0, 10, 17, 13)] ∈ wsL_lodge))
  have kc24 := hts (.classLink RL 24 nIOB) (by decide +kernel)
  have kc13 := hts (.classLink RL 13 nIAE) (by decide +kernel)
  have hS : va_S (AO ad ad2 o9 s.heap.size) s.heap s.heap [] := va_S.rf
  have hl := lv_entry ([.ref xa, .int x, .int y, .ref o9]) (n := 5) (Nat.le_of_ble_eq_true rfl)
  rw [lg_entry_eq]
  generalize (lg_sl ([.ref xa, .int x, .int y, .ref o9]) ++ List.replicate (5 - (lg_sl ([.ref xa, .int x, .int y, .ref o9])).length) Slot.unset).toArray = ls at hl ⊢
  have hl : lv_has ls 5 [(0, .ref xa), (1, .int x), (2, .int y), (3, .ref o9)] := hl
  refine lv_aload_n hx hb dL_lodge_0 rfl (lv_at hl 3 rfl) ?_
  refine lv_iconst (v := 0) hx hb dL_lodge_1 (by decide) ?_
  refine lv_aload_n hx hb dL_lodge_2 rfl (lv_at hl 0 rfl) ?_
  refine lv_iload_n hx hb dL_lodge_3 rfl (lv_at hl 1 rfl) ?_
  refine lv_iload_n hx hb dL_lodge_4 rfl (lv_at hl 2 rfl) ?_
  refine kXi (vx_runV (As := [.int x, .int y]) (rest := [.int 0, .ref o9]) ⟨hx, hb, hml, hown, hts⟩ (c_X3_lodge l hfl G xa ad ad2 hI nH nP hH hP δ τ z s.heap.size x y hv) (cwV 2 hts gL_lodge_X3_lodge rfl rfl rfl (by decide +kernel) ⟨Nat.le_of_ble_eq_true rfl, Nat.le_of_ble_eq_true rfl⟩) ⟨Pc3.blind, va_recv hK (va_P1 hW.choose_spec.1.1) (ci := 3) (q0 := 0) rfl rfl, Pc3.pre hW hK hX hS (fun _ h => Or.inl h)⟩ rfl rfl hl.1 rfl (lv_room (Nat.le_of_ble_eq_true rfl)) dL_lodge_5 ⟨Nat.le_of_ble_eq_true rfl, Nat.le_of_ble_eq_true rfl⟩) hS (fun _ h => Or.inl h) (fun _ h => Or.inl h) (fun _ h => Or.inl h) (fun E ce q9 H locs hE hW hk hS hc hv9 hcl => ?_) (fun H locs ok hW hk hS => ?_)
  · have hO := hO.kept (hk _ hO.lt (hoa.no ho9))
    rcases hE with ⟨rfl, t1⟩ | ⟨rfl, t1, t2⟩
    · skip
      refine vx_catch hown [] (⟨0, 10, 13, 24⟩ : ExceptionTableEntry) [(⟨0, 10, 17, 13⟩ : ExceptionTableEntry)] (htab.trans rfl) (fun z hz => absurd hz List.not_mem_nil) (by decide) (by decide) kc24 (va_Nw.use rfl hX.2.1.2.2.1) hc hv9 hcl ?_
      refine lv_astore (lv' := [(4, .ref q9), (0, .ref xa), (1, .int x), (2, .int y), (3, .ref o9)]) hx hb dL_lodge_13 hl (by decide) rfl (fun ls hl => ?_)
      refine lv_iconst (v := 1) hx hb dL_lodge_15 (by decide) ?_
      exact xW 1 hx hb hr hlocks (Or.inr (Or.inl ⟨rfl, fun q => t1 q⟩)) ⟨hW, d, hO, fun q => absurd q (by decide)⟩ hS (show (1 : Int32) = nI 1 by decide) (Nat.le_of_ble_eq_true rfl) (Nat.le_of_ble_eq_true rfl) dL_lodge_16
    · skip
      refine vx_catch hown [(⟨0, 10, 13, 24⟩ : ExceptionTableEntry)] (⟨0, 10, 17, 13⟩ : ExceptionTableEntry) [] (htab.trans rfl) (fun z hz => by
        obtain rfl := List.mem_singleton.mp hz
        exact Or.inr ⟨by decide, nIOB, kc24, hNc.2.1⟩) (by decide) (by decide) kc13 (va_Nw.use rfl hX.2.1.1) hc hv9 hcl ?_
      refine lv_astore (lv' := [(4, .ref q9), (0, .ref xa), (1, .int x), (2, .int y), (3, .ref o9)]) hx hb dL_lodge_17 hl (by decide) rfl (fun ls hl => ?_)
      refine lv_iconst (v := 2) hx hb dL_lodge_19 (by decide) ?_
      exact xW 2 hx hb hr hlocks (Or.inr (Or.inr ⟨rfl, t1, fun q => t2 q⟩)) ⟨hW, d, hO, fun q => absurd q (by decide)⟩ hS (show (2 : Int32) = nI 2 by decide) (Nat.le_of_ble_eq_true rfl) (Nat.le_of_ble_eq_true rfl) dL_lodge_20
  · have hO := hO.kept (hk _ hO.lt (hoa.no ho9))
    refine lv_i2l hx hb dL_lodge_8 rfl ?_
    refine wO hx hb hKL hO hS (Or.inr rfl) dL_lodge_9 (fun H locs hO e3 hS => ?_)
    have hW := hW.keptO hoa e3
    refine lv_goto (tgt := 21) hx hb dL_lodge_10 (by decide) ?_
    refine lv_iconst (v := 0) hx hb dL_lodge_21 (by decide) ?_
    exact xW 0 hx hb hr hlocks (Or.inl ⟨rfl, ok⟩) ⟨hW, _, hO, fun _ => rfl⟩ hS (show (0 : Int32) = nI 0 by decide) (Nat.le_of_ble_eq_true rfl) (Nat.le_of_ble_eq_true rfl) dL_lodge_22

set_option maxHeartbeats 4000000 in
set_option maxRecDepth 100000 in
theorem c_L_prefer (l : Launch) (hfl : l.stackTraces = false) (G : wG) (cL : ClassId) (xa : Nat) (ad ad2 : Nat → Nat) (hI : XI xa ad ad2) (nH nP : Nat) (hH : nH ≤ 10) (hP : nP ≤ 3) (δ τ z : wS) (nz o9 : Nat) (d : Int64) (x y : Int32) (hv : Inv nH nP τ) (hoa : OA o9 xa ad ad2) (ho9 : o9 < nz) : vx_Met l yL_prefer wsL_prefer ({ frames := 8, cells := 2, slots := 12, locals := 127 } : Room) (PcW G cL [.ref xa, .int x, .int y, .ref o9] nz (AO ad ad2 o9 nz) (fun H => XWz G xa ad ad2 (wmx nH nP δ τ) z H ∧ va_at G.1 vwCl (o9, oLn cL d) H)) (Qwi (fun u => (u = 0 ∧ hOk nH x ∧ pOk nP y) ∨ (u = 1 ∧ ¬ (hOk nH x ∧ pOk nP y))) (fun u H => XWz G xa ad ad2 (wmx nH nP δ (sel u (wst τ 5 (cl x) y) τ)) z H ∧ ∃ d, va_at G.1 vwCl (o9, oLn cL d) H ∧ (u = 0 → d = Int32.toInt64 (τ 5 (cl x)))) (AO ad ad2 o9 nz)) XF 2 12 (AO ad ad2 o9 nz) := by
  refine vx_ofWH (cc := cL_prefer) (maxL := 5) (ret := (some .int)) (hh := [(0, 10, 13, 24)]) (by decide) rfl ?_
  intro pg ev s mid args below meth cd s₁ B hml hv0
  obtain ⟨rfl, rfl, ⟨hW, hO⟩, hKL, hX, hNc⟩ := hv0
  have hx := B.exec
  have hb := B.bytes
  have hr := B.returns
  have hts := atoms_spec (ws := wsL_prefer) B.pre
  have hown : s.vm.findClass RL = some mid.cls := findClass_of_methodNamed B.named
  have hlocks := B.notSynchronized
  have hK := hKL.k
  have htab := vx_table (x := yL_prefer) B (hts _ (List.mem_cons_self : Cond.codeWith yL_prefer cL_prefer 5 (some .int) [(0, 10, 13, 24)] ∈ wsL_prefer))
  have kc24 := hts (.classLink RL 24 nIOB) (by decide +kernel)
  have hS : va_S (AO ad ad2 o9 s.heap.size) s.heap s.heap [] := va_S.rf
  have hl := lv_entry ([.ref xa, .int x, .int y, .ref o9]) (n := 5) (Nat.le_of_ble_eq_true rfl)
  rw [lg_entry_eq]
  generalize (lg_sl ([.ref xa, .int x, .int y, .ref o9]) ++ List.replicate (5 - (lg_sl ([.ref xa, .int x, .int y, .ref o9])).length) Slot.unset).toArray = ls at hl ⊢
  have hl : lv_has ls 5 [(0, .ref xa), (1, .int x), (2, .int y), (3, .ref o9)] := hl
  refine lv_aload_n hx hb dL_prefer_0 rfl (lv_at hl 3 rfl) ?_
  refine lv_iconst (v := 0) hx hb dL_prefer_1 (by decide) ?_
  refine lv_aload_n hx hb dL_prefer_2 rfl (lv_at hl 0 rfl) ?_
  refine lv_iload_n hx hb dL_prefer_3 rfl (lv_at hl 1 rfl) ?_
  refine lv_iload_n hx hb dL_prefer_4 rfl (lv_at hl 2 rfl) ?_
  refine kXi (vx_runV (As := [.int x, .int y]) (rest := [.int 0, .ref o9]) ⟨hx, hb, hml, hown, hts⟩ (c_X3_prefer l hfl G xa ad ad2 hI nH nP hH hP δ τ z s.heap.size x y hv) (cwV 2 hts gL_prefer_X3_prefer rfl rfl rfl (by decide +kernel) ⟨Nat.le_of_ble_eq_true rfl, Nat.le_of_ble_eq_true rfl⟩) ⟨Pc3.blind, va_recv hK (va_P1 hW.choose_spec.1.1) (ci := 3) (q0 := 0) rfl rfl, Pc3.pre hW hK hX hS (fun _ h => Or.inl h)⟩ rfl rfl hl.1 rfl (lv_room (Nat.le_of_ble_eq_true rfl)) dL_prefer_5 ⟨Nat.le_of_ble_eq_true rfl, Nat.le_of_ble_eq_true rfl⟩) hS (fun _ h => Or.inl h) (fun _ h => Or.inl h) (fun _ h => Or.inl h) (fun E ce q9 H locs hE hW hk hS hc hv9 hcl => ?_) (fun H locs ok hW hk hS => ?_)
  · have hO := hO.kept (hk _ hO.lt (hoa.no ho9))
    rcases hE with ⟨rfl, t1⟩ | ⟨rfl, t1, t2⟩
    · skip
      refine vx_catch hown [] (⟨0, 10, 13, 24⟩ : ExceptionTableEntry) [] (htab.trans rfl) (fun z hz => absurd hz List.not_mem_nil) (by decide) (by decide) kc24 (va_Nw.use rfl hX.2.1.2.2.1) hc hv9 hcl ?_
      refine lv_astore (lv' := [(4, .ref q9), (0, .ref xa), (1, .int x), (2, .int y), (3, .ref o9)]) hx hb dL_prefer_13 hl (by decide) rfl (fun ls hl => ?_)
      refine lv_iconst (v := 1) hx hb dL_prefer_15 (by decide) ?_
      exact xW 1 hx hb hr hlocks (Or.inr ⟨rfl, fun q => t1 q.1⟩) ⟨hW, d, hO, fun q => absurd q (by decide)⟩ hS (show (1 : Int32) = nI 1 by decide) (Nat.le_of_ble_eq_true rfl) (Nat.le_of_ble_eq_true rfl) dL_prefer_16
    · skip
      refine vx_catch hown [] (⟨0, 10, 13, 24⟩ : ExceptionTableEntry) [] (htab.trans rfl) (fun z hz => absurd hz List.not_mem_nil) (by decide) (by decide) kc24 (va_Nw.use rfl hX.2.1.2.2.1) hc hv9 hcl ?_
      refine lv_astore (lv' := [(4, .ref q9), (0, .ref xa), (1, .int x), (2, .int y), (3, .ref o9)]) hx hb dL_prefer_13 hl (by decide) rfl (fun ls hl => ?_)
      refine lv_iconst (v := 1) hx hb dL_prefer_15 (by decide) ?_
      exact xW 1 hx hb hr hlocks (Or.inr ⟨rfl, fun q => t2 q.2⟩) ⟨hW, d, hO, fun q => absurd q (by decide)⟩ hS (show (1 : Int32) = nI 1 by decide) (Nat.le_of_ble_eq_true rfl) (Nat.le_of_ble_eq_true rfl) dL_prefer_16
  · have hO := hO.kept (hk _ hO.lt (hoa.no ho9))
    refine lv_i2l hx hb dL_prefer_8 rfl ?_
    refine wO hx hb hKL hO hS (Or.inr rfl) dL_prefer_9 (fun H locs hO e3 hS => ?_)
    have hW := hW.keptO hoa e3
    refine lv_goto (tgt := 17) hx hb dL_prefer_10 (by decide) ?_
    refine lv_iconst (v := 0) hx hb dL_prefer_17 (by decide) ?_
    exact xW 0 hx hb hr hlocks (Or.inl ⟨rfl, ok⟩) ⟨hW, _, hO, fun _ => rfl⟩ hS (show (0 : Int32) = nI 0 by decide) (Nat.le_of_ble_eq_true rfl) (Nat.le_of_ble_eq_true rfl) dL_prefer_18

set_option maxHeartbeats 4000000 in
set_option maxRecDepth 100000 in
theorem c_L_leave (l : Launch) (hfl : l.stackTraces = false) (G : wG) (cL : ClassId) (xa : Nat) (ad ad2 : Nat → Nat) (hI : XI xa ad ad2) (nH nP : Nat) (hH : nH ≤ 10) (hP : nP ≤ 3) (δ τ z : wS) (nz o9 : Nat) (d : Int64) (x y : Int32) (hv : Inv nH nP τ) (hoa : OA o9 xa ad ad2) (ho9 : o9 < nz) : vx_Met l yL_leave wsL_leave ({ frames := 8, cells := 2, slots := 12, locals := 128 } : Room) (PcW G cL [.ref xa, .int x, .int y, .ref o9] nz (AO ad ad2 o9 nz) (fun H => XWz G xa ad ad2 (wmx nH nP δ τ) z H ∧ va_at G.1 vwCl (o9, oLn cL d) H)) (Qwi (fun u => (u = 0 ∧ hOk nH x ∧ inn 0 30 y) ∨ (u = 1 ∧ ¬ (hOk nH x)) ∨ (u = 2 ∧ hOk nH x ∧ ¬ (inn 0 30 y))) (fun u H => XWz G xa ad ad2 (wmx nH nP δ (sel u (wst τ 6 (cl x) y) τ)) z H ∧ ∃ d, va_at G.1 vwCl (o9, oLn cL d) H ∧ (u = 0 → d = Int32.toInt64 (τ 6 (cl x)))) (AO ad ad2 o9 nz)) XF 2 12 (AO ad ad2 o9 nz) := by
  refine vx_ofWH (cc := cL_leave) (maxL := 5) (ret := (some .int)) (hh := [(0, 10, 13, 24), (0, 10, 17, 13)]) (by decide) rfl ?_
  intro pg ev s mid args below meth cd s₁ B hml hv0
  obtain ⟨rfl, rfl, ⟨hW, hO⟩, hKL, hX, hNc⟩ := hv0
  have hx := B.exec
  have hb := B.bytes
  have hr := B.returns
  have hts := atoms_spec (ws := wsL_leave) B.pre
  have hown : s.vm.findClass RL = some mid.cls := findClass_of_methodNamed B.named
  have hlocks := B.notSynchronized
  have hK := hKL.k
  have htab := vx_table (x := yL_leave) B (hts _ (List.mem_cons_self : Cond.codeWith yL_leave cL_leave 5 (some .int) [(0, 10, 13, 24), (0, 10, 17, 13)] ∈ wsL_leave))
  have kc24 := hts (.classLink RL 24 nIOB) (by decide +kernel)
  have kc13 := hts (.classLink RL 13 nIAE) (by decide +kernel)
  have hS : va_S (AO ad ad2 o9 s.heap.size) s.heap s.heap [] := va_S.rf
  have hl := lv_entry ([.ref xa, .int x, .int y, .ref o9]) (n := 5) (Nat.le_of_ble_eq_true rfl)
  rw [lg_entry_eq]
  generalize (lg_sl ([.ref xa, .int x, .int y, .ref o9]) ++ List.replicate (5 - (lg_sl ([.ref xa, .int x, .int y, .ref o9])).length) Slot.unset).toArray = ls at hl ⊢
  have hl : lv_has ls 5 [(0, .ref xa), (1, .int x), (2, .int y), (3, .ref o9)] := hl
  refine lv_aload_n hx hb dL_leave_0 rfl (lv_at hl 3 rfl) ?_
  refine lv_iconst (v := 0) hx hb dL_leave_1 (by decide) ?_
  refine lv_aload_n hx hb dL_leave_2 rfl (lv_at hl 0 rfl) ?_
  refine lv_iload_n hx hb dL_leave_3 rfl (lv_at hl 1 rfl) ?_
  refine lv_iload_n hx hb dL_leave_4 rfl (lv_at hl 2 rfl) ?_
  refine kXi (vx_runV (As := [.int x, .int y]) (rest := [.int 0, .ref o9]) ⟨hx, hb, hml, hown, hts⟩ (c_X3_leave l hfl G xa ad ad2 hI nH nP hH hP δ τ z s.heap.size x y hv) (cwV 2 hts gL_leave_X3_leave rfl rfl rfl (by decide +kernel) ⟨Nat.le_of_ble_eq_true rfl, Nat.le_of_ble_eq_true rfl⟩) ⟨Pc3.blind, va_recv hK (va_P1 hW.choose_spec.1.1) (ci := 3) (q0 := 0) rfl rfl, Pc3.pre hW hK hX hS (fun _ h => Or.inl h)⟩ rfl rfl hl.1 rfl (lv_room (Nat.le_of_ble_eq_true rfl)) dL_leave_5 ⟨Nat.le_of_ble_eq_true rfl, Nat.le_of_ble_eq_true rfl⟩) hS (fun _ h => Or.inl h) (fun _ h => Or.inl h) (fun _ h => Or.inl h) (fun E ce q9 H locs hE hW hk hS hc hv9 hcl => ?_) (fun H locs ok hW hk hS => ?_)
  · have hO := hO.kept (hk _ hO.lt (hoa.no ho9))
    rcases hE with ⟨rfl, t1⟩ | ⟨rfl, t1, t2⟩
    · skip
      refine vx_catch hown [] (⟨0, 10, 13, 24⟩ : ExceptionTableEntry) [(⟨0, 10, 17, 13⟩ : ExceptionTableEntry)] (htab.trans rfl) (fun z hz => absurd hz List.not_mem_nil) (by decide) (by decide) kc24 (va_Nw.use rfl hX.2.1.2.2.1) hc hv9 hcl ?_
      refine lv_astore (lv' := [(4, .ref q9), (0, .ref xa), (1, .int x), (2, .int y), (3, .ref o9)]) hx hb dL_leave_13 hl (by decide) rfl (fun ls hl => ?_)
      refine lv_iconst (v := 1) hx hb dL_leave_15 (by decide) ?_
      exact xW 1 hx hb hr hlocks (Or.inr (Or.inl ⟨rfl, fun q => t1 q⟩)) ⟨hW, d, hO, fun q => absurd q (by decide)⟩ hS (show (1 : Int32) = nI 1 by decide) (Nat.le_of_ble_eq_true rfl) (Nat.le_of_ble_eq_true rfl) dL_leave_16
    · skip
      refine vx_catch hown [(⟨0, 10, 13, 24⟩ : ExceptionTableEntry)] (⟨0, 10, 17, 13⟩ : ExceptionTableEntry) [] (htab.trans rfl) (fun z hz => by
        obtain rfl := List.mem_singleton.mp hz
        exact Or.inr ⟨by decide, nIOB, kc24, hNc.2.1⟩) (by decide) (by decide) kc13 (va_Nw.use rfl hX.2.1.1) hc hv9 hcl ?_
      refine lv_astore (lv' := [(4, .ref q9), (0, .ref xa), (1, .int x), (2, .int y), (3, .ref o9)]) hx hb dL_leave_17 hl (by decide) rfl (fun ls hl => ?_)
      refine lv_iconst (v := 2) hx hb dL_leave_19 (by decide) ?_
      exact xW 2 hx hb hr hlocks (Or.inr (Or.inr ⟨rfl, t1, fun q => t2 q⟩)) ⟨hW, d, hO, fun q => absurd q (by decide)⟩ hS (show (2 : Int32) = nI 2 by decide) (Nat.le_of_ble_eq_true rfl) (Nat.le_of_ble_eq_true rfl) dL_leave_20
  · have hO := hO.kept (hk _ hO.lt (hoa.no ho9))
    refine lv_i2l hx hb dL_leave_8 rfl ?_
    refine wO hx hb hKL hO hS (Or.inr rfl) dL_leave_9 (fun H locs hO e3 hS => ?_)
    have hW := hW.keptO hoa e3
    refine lv_goto (tgt := 21) hx hb dL_leave_10 (by decide) ?_
    refine lv_iconst (v := 0) hx hb dL_leave_21 (by decide) ?_
    exact xW 0 hx hb hr hlocks (Or.inl ⟨rfl, ok⟩) ⟨hW, _, hO, fun _ => rfl⟩ hS (show (0 : Int32) = nI 0 by decide) (Nat.le_of_ble_eq_true rfl) (Nat.le_of_ble_eq_true rfl) dL_leave_22

set_option maxHeartbeats 4000000 in
set_option maxRecDepth 100000 in
theorem c_L_fine (l : Launch) (hfl : l.stackTraces = false) (G : wG) (cL : ClassId) (xa : Nat) (ad ad2 : Nat → Nat) (hI : XI xa ad ad2) (nH nP : Nat) (hH : nH ≤ 10) (hP : nP ≤ 3) (δ τ z : wS) (nz o9 : Nat) (d : Int64) (x y : Int32) (hv : Inv nH nP τ) (hoa : OA o9 xa ad ad2) (ho9 : o9 < nz) : vx_Met l yL_fine wsL_fine ({ frames := 8, cells := 2, slots := 12, locals := 126 } : Room) (PcW G cL [.ref xa, .int x, .int y, .ref o9] nz (AO ad ad2 o9 nz) (fun H => XWz G xa ad ad2 (wmx nH nP δ τ) z H ∧ va_at G.1 vwCl (o9, oLn cL d) H)) (Qwi (fun u => (u = 0 ∧ hOk nH x ∧ inn 1 50 y) ∨ (u = 1 ∧ ¬ (hOk nH x)) ∨ (u = 2 ∧ hOk nH x ∧ ¬ (inn 1 50 y))) (fun u H => XWz G xa ad ad2 (wmx nH nP δ (sel u (chgF nP (cl x) y τ) τ)) z H ∧ ∃ d, va_at G.1 vwCl (o9, oLn cL d) H ∧ (u = 0 → d = Int32.toInt64 (paid (cl x) y τ))) (AO ad ad2 o9 nz)) XF 2 12 (AO ad ad2 o9 nz) := by
  refine vx_ofWH (cc := cL_fine) (maxL := 5) (ret := (some .int)) (hh := [(0, 10, 13, 24), (0, 10, 17, 13)]) (by decide) rfl ?_
  intro pg ev s mid args below meth cd s₁ B hml hv0
  obtain ⟨rfl, rfl, ⟨hW, hO⟩, hKL, hX, hNc⟩ := hv0
  have hx := B.exec
  have hb := B.bytes
  have hr := B.returns
  have hts := atoms_spec (ws := wsL_fine) B.pre
  have hown : s.vm.findClass RL = some mid.cls := findClass_of_methodNamed B.named
  have hlocks := B.notSynchronized
  have hK := hKL.k
  have htab := vx_table (x := yL_fine) B (hts _ (List.mem_cons_self : Cond.codeWith yL_fine cL_fine 5 (some .int) [(0, 10, 13, 24), (0, 10, 17, 13)] ∈ wsL_fine))
  have kc24 := hts (.classLink RL 24 nIOB) (by decide +kernel)
  have kc13 := hts (.classLink RL 13 nIAE) (by decide +kernel)
  have hS : va_S (AO ad ad2 o9 s.heap.size) s.heap s.heap [] := va_S.rf
  have hl := lv_entry ([.ref xa, .int x, .int y, .ref o9]) (n := 5) (Nat.le_of_ble_eq_true rfl)
  rw [lg_entry_eq]
  generalize (lg_sl ([.ref xa, .int x, .int y, .ref o9]) ++ List.replicate (5 - (lg_sl ([.ref xa, .int x, .int y, .ref o9])).length) Slot.unset).toArray = ls at hl ⊢
  have hl : lv_has ls 5 [(0, .ref xa), (1, .int x), (2, .int y), (3, .ref o9)] := hl
  refine lv_aload_n hx hb dL_fine_0 rfl (lv_at hl 3 rfl) ?_
  refine lv_iconst (v := 0) hx hb dL_fine_1 (by decide) ?_
  refine lv_aload_n hx hb dL_fine_2 rfl (lv_at hl 0 rfl) ?_
  refine lv_iload_n hx hb dL_fine_3 rfl (lv_at hl 1 rfl) ?_
  refine lv_iload_n hx hb dL_fine_4 rfl (lv_at hl 2 rfl) ?_
  refine kXi (vx_runV (As := [.int x, .int y]) (rest := [.int 0, .ref o9]) ⟨hx, hb, hml, hown, hts⟩ (c_X3_fine l hfl G xa ad ad2 hI nH nP hH hP δ τ z s.heap.size x y hv) (cwV 2 hts gL_fine_X3_fine rfl rfl rfl (by decide +kernel) ⟨Nat.le_of_ble_eq_true rfl, Nat.le_of_ble_eq_true rfl⟩) ⟨Pc3.blind, va_recv hK (va_P1 hW.choose_spec.1.1) (ci := 3) (q0 := 0) rfl rfl, Pc3.pre hW hK hX hS (fun _ h => Or.inl h)⟩ rfl rfl hl.1 rfl (lv_room (Nat.le_of_ble_eq_true rfl)) dL_fine_5 ⟨Nat.le_of_ble_eq_true rfl, Nat.le_of_ble_eq_true rfl⟩) hS (fun _ h => Or.inl h) (fun _ h => Or.inl h) (fun _ h => Or.inl h) (fun E ce q9 H locs hE hW hk hS hc hv9 hcl => ?_) (fun H locs ok hW hk hS => ?_)
  · have hO := hO.kept (hk _ hO.lt (hoa.no ho9))
    rcases hE with ⟨rfl, t1⟩ | ⟨rfl, t1, t2⟩
    · skip
      refine vx_catch hown [] (⟨0, 10, 13, 24⟩ : ExceptionTableEntry) [(⟨0, 10, 17, 13⟩ : ExceptionTableEntry)] (htab.trans rfl) (fun z hz => absurd hz List.not_mem_nil) (by decide) (by decide) kc24 (va_Nw.use rfl hX.2.1.2.2.1) hc hv9 hcl ?_
      refine lv_astore (lv' := [(4, .ref q9), (0, .ref xa), (1, .int x), (2, .int y), (3, .ref o9)]) hx hb dL_fine_13 hl (by decide) rfl (fun ls hl => ?_)
      refine lv_iconst (v := 1) hx hb dL_fine_15 (by decide) ?_
      exact xW 1 hx hb hr hlocks (Or.inr (Or.inl ⟨rfl, fun q => t1 q⟩)) ⟨hW, d, hO, fun q => absurd q (by decide)⟩ hS (show (1 : Int32) = nI 1 by decide) (Nat.le_of_ble_eq_true rfl) (Nat.le_of_ble_eq_true rfl) dL_fine_16
    · skip
      refine vx_catch hown [(⟨0, 10, 13, 24⟩ : ExceptionTableEntry)] (⟨0, 10, 17, 13⟩ : ExceptionTableEntry) [] (htab.trans rfl) (fun z hz => by
        obtain rfl := List.mem_singleton.mp hz
        exact Or.inr ⟨by decide, nIOB, kc24, hNc.2.1⟩) (by decide) (by decide) kc13 (va_Nw.use rfl hX.2.1.1) hc hv9 hcl ?_
      refine lv_astore (lv' := [(4, .ref q9), (0, .ref xa), (1, .int x), (2, .int y), (3, .ref o9)]) hx hb dL_fine_17 hl (by decide) rfl (fun ls hl => ?_)
      refine lv_iconst (v := 2) hx hb dL_fine_19 (by decide) ?_
      exact xW 2 hx hb hr hlocks (Or.inr (Or.inr ⟨rfl, t1, fun q => t2 q⟩)) ⟨hW, d, hO, fun q => absurd q (by decide)⟩ hS (show (2 : Int32) = nI 2 by decide) (Nat.le_of_ble_eq_true rfl) (Nat.le_of_ble_eq_true rfl) dL_fine_20
  · have hO := hO.kept (hk _ hO.lt (hoa.no ho9))
    refine lv_i2l hx hb dL_fine_8 rfl ?_
    refine wO hx hb hKL hO hS (Or.inr rfl) dL_fine_9 (fun H locs hO e3 hS => ?_)
    have hW := hW.keptO hoa e3
    refine lv_goto (tgt := 21) hx hb dL_fine_10 (by decide) ?_
    refine lv_iconst (v := 0) hx hb dL_fine_21 (by decide) ?_
    exact xW 0 hx hb hr hlocks (Or.inl ⟨rfl, ok⟩) ⟨hW, _, hO, fun _ => rfl⟩ hS (show (0 : Int32) = nI 0 by decide) (Nat.le_of_ble_eq_true rfl) (Nat.le_of_ble_eq_true rfl) dL_fine_22

set_option maxHeartbeats 4000000 in
set_option maxRecDepth 100000 in
theorem c_L_enrol (l : Launch) (hfl : l.stackTraces = false) (G : wG) (cL : ClassId) (xa : Nat) (ad ad2 : Nat → Nat) (hI : XI xa ad ad2) (nH nP : Nat) (hH : nH ≤ 10) (hP : nP ≤ 3) (δ τ z : wS) (nz o9 : Nat) (d : Int64) (x y : Int32) (hv : Inv nH nP τ) (hoa : OA o9 xa ad ad2) (ho9 : o9 < nz) : vx_Met l yL_enrol wsL_enrol ({ frames := 8, cells := 3, slots := 18, locals := 126 } : Room) (PcW G cL [.ref xa, .int x, .int y, .ref o9] nz (AO ad ad2 o9 nz) (fun H => XWz G xa ad ad2 (wmx nH nP δ τ) z H ∧ va_at G.1 vwCl (o9, oLn cL d) H)) (Qwi (fun u => (u = 0 ∧ pOk nP x ∧ hOk nH y ∧ ¬ plc (τ (40 + cl x)) y (sz τ (cl x)) < sz τ (cl x) ∧ τ 4 (cl y) < 3) ∨ (u = 1 ∧ ¬ (pOk nP x ∧ hOk nH y)) ∨ (u = 2 ∧ pOk nP x ∧ hOk nH y ∧ ¬ (¬ plc (τ (40 + cl x)) y (sz τ (cl x)) < sz τ (cl x) ∧ τ 4 (cl y) < 3))) (fun u H => XWz G xa ad ad2 (wmx nH nP δ (sel u (wst (wst τ (40 + cl x) (sz τ (cl x)) y) 26 (cl x) (nI (sz τ (cl x) + 1))) τ)) z H ∧ ∃ d, va_at G.1 vwCl (o9, oLn cL d) H ∧ (u = 0 → d = Int32.toInt64 (nI (sz τ (cl x) + 1)))) (AO ad ad2 o9 nz)) XF 3 18 (AO ad ad2 o9 nz) := by
  refine vx_ofWH (cc := cL_enrol) (maxL := 5) (ret := (some .int)) (hh := [(0, 10, 13, 24), (0, 10, 17, 15)]) (by decide) rfl ?_
  intro pg ev s mid args below meth cd s₁ B hml hv0
  obtain ⟨rfl, rfl, ⟨hW, hO⟩, hKL, hX, hNc⟩ := hv0
  have hx := B.exec
  have hb := B.bytes
  have hr := B.returns
  have hts := atoms_spec (ws := wsL_enrol) B.pre
  have hown : s.vm.findClass RL = some mid.cls := findClass_of_methodNamed B.named
  have hlocks := B.notSynchronized
  have hK := hKL.k
  have htab := vx_table (x := yL_enrol) B (hts _ (List.mem_cons_self : Cond.codeWith yL_enrol cL_enrol 5 (some .int) [(0, 10, 13, 24), (0, 10, 17, 15)] ∈ wsL_enrol))
  have kc24 := hts (.classLink RL 24 nIOB) (by decide +kernel)
  have kc15 := hts (.classLink RL 15 nISE) (by decide +kernel)
  have hS : va_S (AO ad ad2 o9 s.heap.size) s.heap s.heap [] := va_S.rf
  have hl := lv_entry ([.ref xa, .int x, .int y, .ref o9]) (n := 5) (Nat.le_of_ble_eq_true rfl)
  rw [lg_entry_eq]
  generalize (lg_sl ([.ref xa, .int x, .int y, .ref o9]) ++ List.replicate (5 - (lg_sl ([.ref xa, .int x, .int y, .ref o9])).length) Slot.unset).toArray = ls at hl ⊢
  have hl : lv_has ls 5 [(0, .ref xa), (1, .int x), (2, .int y), (3, .ref o9)] := hl
  refine lv_aload_n hx hb dL_enrol_0 rfl (lv_at hl 3 rfl) ?_
  refine lv_iconst (v := 0) hx hb dL_enrol_1 (by decide) ?_
  refine lv_aload_n hx hb dL_enrol_2 rfl (lv_at hl 0 rfl) ?_
  refine lv_iload_n hx hb dL_enrol_3 rfl (lv_at hl 1 rfl) ?_
  refine lv_iload_n hx hb dL_enrol_4 rfl (lv_at hl 2 rfl) ?_
  refine kXi (vx_runV (As := [.int x, .int y]) (rest := [.int 0, .ref o9]) ⟨hx, hb, hml, hown, hts⟩ (c_X3_enrol l hfl G xa ad ad2 hI nH nP hH hP δ τ z s.heap.size x y hv) (cwV 2 hts gL_enrol_X3_enrol rfl rfl rfl (by decide +kernel) ⟨Nat.le_of_ble_eq_true rfl, Nat.le_of_ble_eq_true rfl⟩) ⟨Pc3.blind, va_recv hK (va_P1 hW.choose_spec.1.1) (ci := 3) (q0 := 0) rfl rfl, Pc3.pre hW hK hX hS (fun _ h => Or.inl h)⟩ rfl rfl hl.1 rfl (lv_room (Nat.le_of_ble_eq_true rfl)) dL_enrol_5 ⟨Nat.le_of_ble_eq_true rfl, Nat.le_of_ble_eq_true rfl⟩) hS (fun _ h => Or.inl h) (fun _ h => Or.inl h) (fun _ h => Or.inl h) (fun E ce q9 H locs hE hW hk hS hc hv9 hcl => ?_) (fun H locs ok hW hk hS => ?_)
  · have hO := hO.kept (hk _ hO.lt (hoa.no ho9))
    rcases hE with ⟨rfl, t1⟩ | ⟨rfl, t1, t2⟩ | ⟨rfl, t1, t2, t3⟩ | ⟨rfl, t1, t2, t3, t4⟩
    · skip
      refine vx_catch hown [] (⟨0, 10, 13, 24⟩ : ExceptionTableEntry) [(⟨0, 10, 17, 15⟩ : ExceptionTableEntry)] (htab.trans rfl) (fun z hz => absurd hz List.not_mem_nil) (by decide) (by decide) kc24 (va_Nw.use rfl hX.2.1.2.2.1) hc hv9 hcl ?_
      refine lv_astore (lv' := [(4, .ref q9), (0, .ref xa), (1, .int x), (2, .int y), (3, .ref o9)]) hx hb dL_enrol_13 hl (by decide) rfl (fun ls hl => ?_)
      refine lv_iconst (v := 1) hx hb dL_enrol_15 (by decide) ?_
      exact xW 1 hx hb hr hlocks (Or.inr (Or.inl ⟨rfl, fun q => t1 q.1⟩)) ⟨hW, d, hO, fun q => absurd q (by decide)⟩ hS (show (1 : Int32) = nI 1 by decide) (Nat.le_of_ble_eq_true rfl) (Nat.le_of_ble_eq_true rfl) dL_enrol_16
    · skip
      refine vx_catch hown [] (⟨0, 10, 13, 24⟩ : ExceptionTableEntry) [(⟨0, 10, 17, 15⟩ : ExceptionTableEntry)] (htab.trans rfl) (fun z hz => absurd hz List.not_mem_nil) (by decide) (by decide) kc24 (va_Nw.use rfl hX.2.1.2.2.1) hc hv9 hcl ?_
      refine lv_astore (lv' := [(4, .ref q9), (0, .ref xa), (1, .int x), (2, .int y), (3, .ref o9)]) hx hb dL_enrol_13 hl (by decide) rfl (fun ls hl => ?_)
      refine lv_iconst (v := 1) hx hb dL_enrol_15 (by decide) ?_
      exact xW 1 hx hb hr hlocks (Or.inr (Or.inl ⟨rfl, fun q => t2 q.2⟩)) ⟨hW, d, hO, fun q => absurd q (by decide)⟩ hS (show (1 : Int32) = nI 1 by decide) (Nat.le_of_ble_eq_true rfl) (Nat.le_of_ble_eq_true rfl) dL_enrol_16
    · skip
      refine vx_catch hown [(⟨0, 10, 13, 24⟩ : ExceptionTableEntry)] (⟨0, 10, 17, 15⟩ : ExceptionTableEntry) [] (htab.trans rfl) (fun z hz => by
        obtain rfl := List.mem_singleton.mp hz
        exact Or.inr ⟨by decide, nIOB, kc24, hNc.2.2.1⟩) (by decide) (by decide) kc15 (va_Nw.use rfl hX.2.1.2.1) hc hv9 hcl ?_
      refine lv_astore (lv' := [(4, .ref q9), (0, .ref xa), (1, .int x), (2, .int y), (3, .ref o9)]) hx hb dL_enrol_17 hl (by decide) rfl (fun ls hl => ?_)
      refine lv_iconst (v := 2) hx hb dL_enrol_19 (by decide) ?_
      exact xW 2 hx hb hr hlocks (Or.inr (Or.inr ⟨rfl, t1, t2, fun q => t3 q.1⟩)) ⟨hW, d, hO, fun q => absurd q (by decide)⟩ hS (show (2 : Int32) = nI 2 by decide) (Nat.le_of_ble_eq_true rfl) (Nat.le_of_ble_eq_true rfl) dL_enrol_20
    · skip
      refine vx_catch hown [(⟨0, 10, 13, 24⟩ : ExceptionTableEntry)] (⟨0, 10, 17, 15⟩ : ExceptionTableEntry) [] (htab.trans rfl) (fun z hz => by
        obtain rfl := List.mem_singleton.mp hz
        exact Or.inr ⟨by decide, nIOB, kc24, hNc.2.2.1⟩) (by decide) (by decide) kc15 (va_Nw.use rfl hX.2.1.2.1) hc hv9 hcl ?_
      refine lv_astore (lv' := [(4, .ref q9), (0, .ref xa), (1, .int x), (2, .int y), (3, .ref o9)]) hx hb dL_enrol_17 hl (by decide) rfl (fun ls hl => ?_)
      refine lv_iconst (v := 2) hx hb dL_enrol_19 (by decide) ?_
      exact xW 2 hx hb hr hlocks (Or.inr (Or.inr ⟨rfl, t1, t2, fun q => t4 q.2⟩)) ⟨hW, d, hO, fun q => absurd q (by decide)⟩ hS (show (2 : Int32) = nI 2 by decide) (Nat.le_of_ble_eq_true rfl) (Nat.le_of_ble_eq_true rfl) dL_enrol_20
  · have hO := hO.kept (hk _ hO.lt (hoa.no ho9))
    refine lv_i2l hx hb dL_enrol_8 rfl ?_
    refine wO hx hb hKL hO hS (Or.inr rfl) dL_enrol_9 (fun H locs hO e3 hS => ?_)
    have hW := hW.keptO hoa e3
    refine lv_goto (tgt := 21) hx hb dL_enrol_10 (by decide) ?_
    refine lv_iconst (v := 0) hx hb dL_enrol_21 (by decide) ?_
    exact xW 0 hx hb hr hlocks (Or.inl ⟨rfl, ok⟩) ⟨hW, _, hO, fun _ => rfl⟩ hS (show (0 : Int32) = nI 0 by decide) (Nat.le_of_ble_eq_true rfl) (Nat.le_of_ble_eq_true rfl) dL_enrol_22

set_option maxHeartbeats 4000000 in
set_option maxRecDepth 100000 in
theorem c_L_change (l : Launch) (hfl : l.stackTraces = false) (G : wG) (cL : ClassId) (xa : Nat) (ad ad2 : Nat → Nat) (hI : XI xa ad ad2) (nH nP : Nat) (hH : nH ≤ 10) (hP : nP ≤ 3) (δ τ z : wS) (nz o9 : Nat) (d : Int64) (x y w : Int32) (hv : Inv nH nP τ) (hoa : OA o9 xa ad ad2) (ho9 : o9 < nz) : vx_Met l yL_change wsL_change ({ frames := 9, cells := 4, slots := 24, locals := 150 } : Room) (PcW G cL [.ref xa, .int x, .int y, .int w, .ref o9] nz (AO ad ad2 o9 nz) (fun H => XWz G xa ad ad2 (wmx nH nP δ τ) z H ∧ va_at G.1 vwCl (o9, oLn cL d) H)) (Qwi (fun u => (u = 0 ∧ plOk nP τ x y ∧ plOk nP τ x w) ∨ (u = 1 ∧ ¬ (plOk nP τ x y ∧ plOk nP τ x w))) (fun u H => XWz G xa ad ad2 (wmx nH nP δ (sel u (wst (wst τ (40 + cl x) (cl y) (τ (40 + cl x) (cl w))) (40 + cl x) (cl w) (τ (40 + cl x) (cl y))) τ)) z H ∧ ∃ d, va_at G.1 vwCl (o9, oLn cL d) H ∧ (u = 0 → d = Int32.toInt64 ((wst (wst τ (40 + cl x) (cl y) (τ (40 + cl x) (cl w))) (40 + cl x) (cl w) (τ (40 + cl x) (cl y))) (40 + cl x) (tn τ (cl x))))) (AO ad ad2 o9 nz)) XF 4 24 (AO ad ad2 o9 nz) := by
  refine vx_ofWH (cc := cL_change) (maxL := 6) (ret := (some .int)) (hh := [(0, 12, 15, 24)]) (by decide) rfl ?_
  intro pg ev s mid args below meth cd s₁ B hml hv0
  obtain ⟨rfl, rfl, ⟨hW, hO⟩, hKL, hX, hNc⟩ := hv0
  have hx := B.exec
  have hb := B.bytes
  have hr := B.returns
  have hts := atoms_spec (ws := wsL_change) B.pre
  have hown : s.vm.findClass RL = some mid.cls := findClass_of_methodNamed B.named
  have hlocks := B.notSynchronized
  have hK := hKL.k
  have htab := vx_table (x := yL_change) B (hts _ (List.mem_cons_self : Cond.codeWith yL_change cL_change 6 (some .int) [(0, 12, 15, 24)] ∈ wsL_change))
  have kc24 := hts (.classLink RL 24 nIOB) (by decide +kernel)
  have hS : va_S (AO ad ad2 o9 s.heap.size) s.heap s.heap [] := va_S.rf
  have hl := lv_entry ([.ref xa, .int x, .int y, .int w, .ref o9]) (n := 6) (Nat.le_of_ble_eq_true rfl)
  rw [lg_entry_eq]
  generalize (lg_sl ([.ref xa, .int x, .int y, .int w, .ref o9]) ++ List.replicate (6 - (lg_sl ([.ref xa, .int x, .int y, .int w, .ref o9])).length) Slot.unset).toArray = ls at hl ⊢
  have hl : lv_has ls 6 [(0, .ref xa), (1, .int x), (2, .int y), (3, .int w), (4, .ref o9)] := hl
  refine lv_aload hx hb dL_change_0 (lv_at hl 4 rfl) ?_
  refine lv_iconst (v := 0) hx hb dL_change_2 (by decide) ?_
  refine lv_aload_n hx hb dL_change_3 rfl (lv_at hl 0 rfl) ?_
  refine lv_iload_n hx hb dL_change_4 rfl (lv_at hl 1 rfl) ?_
  refine lv_iload_n hx hb dL_change_5 rfl (lv_at hl 2 rfl) ?_
  refine lv_iload_n hx hb dL_change_6 rfl (lv_at hl 3 rfl) ?_
  refine kXi (vx_runV (As := [.int x, .int y, .int w]) (rest := [.int 0, .ref o9]) ⟨hx, hb, hml, hown, hts⟩ (c_X3_change l hfl G xa ad ad2 hI nH nP hH hP δ τ z s.heap.size x y w hv) (cwV 3 hts gL_change_X3_change rfl rfl rfl (by decide +kernel) ⟨Nat.le_of_ble_eq_true rfl, Nat.le_of_ble_eq_true rfl⟩) ⟨Pc3.blind, va_recv hK (va_P1 hW.choose_spec.1.1) (ci := 3) (q0 := 0) rfl rfl, Pc3.pre hW hK hX hS (fun _ h => Or.inl h)⟩ rfl rfl hl.1 rfl (lv_room (Nat.le_of_ble_eq_true rfl)) dL_change_7 ⟨Nat.le_of_ble_eq_true rfl, Nat.le_of_ble_eq_true rfl⟩) hS (fun _ h => Or.inl h) (fun _ h => Or.inl h) (fun _ h => Or.inl h) (fun E ce q9 H locs hE hW hk hS hc hv9 hcl => ?_) (fun H locs ok hW hk hS => ?_)
  · have hO := hO.kept (hk _ hO.lt (hoa.no ho9))
    rcases hE with ⟨rfl, t1⟩ | ⟨rfl, t1, t2⟩
    · skip
      refine vx_catch hown [] (⟨0, 12, 15, 24⟩ : ExceptionTableEntry) [] (htab.trans rfl) (fun z hz => absurd hz List.not_mem_nil) (by decide) (by decide) kc24 (va_Nw.use rfl hX.2.1.2.2.1) hc hv9 hcl ?_
      refine lv_astore (lv' := [(5, .ref q9), (0, .ref xa), (1, .int x), (2, .int y), (3, .int w), (4, .ref o9)]) hx hb dL_change_15 hl (by decide) rfl (fun ls hl => ?_)
      refine lv_iconst (v := 1) hx hb dL_change_17 (by decide) ?_
      exact xW 1 hx hb hr hlocks (Or.inr ⟨rfl, fun q => t1 q.1⟩) ⟨hW, d, hO, fun q => absurd q (by decide)⟩ hS (show (1 : Int32) = nI 1 by decide) (Nat.le_of_ble_eq_true rfl) (Nat.le_of_ble_eq_true rfl) dL_change_18
    · skip
      refine vx_catch hown [] (⟨0, 12, 15, 24⟩ : ExceptionTableEntry) [] (htab.trans rfl) (fun z hz => absurd hz List.not_mem_nil) (by decide) (by decide) kc24 (va_Nw.use rfl hX.2.1.2.2.1) hc hv9 hcl ?_
      refine lv_astore (lv' := [(5, .ref q9), (0, .ref xa), (1, .int x), (2, .int y), (3, .int w), (4, .ref o9)]) hx hb dL_change_15 hl (by decide) rfl (fun ls hl => ?_)
      refine lv_iconst (v := 1) hx hb dL_change_17 (by decide) ?_
      exact xW 1 hx hb hr hlocks (Or.inr ⟨rfl, fun q => t2 q.2⟩) ⟨hW, d, hO, fun q => absurd q (by decide)⟩ hS (show (1 : Int32) = nI 1 by decide) (Nat.le_of_ble_eq_true rfl) (Nat.le_of_ble_eq_true rfl) dL_change_18
  · have hO := hO.kept (hk _ hO.lt (hoa.no ho9))
    refine lv_i2l hx hb dL_change_10 rfl ?_
    refine wO hx hb hKL hO hS (Or.inr rfl) dL_change_11 (fun H locs hO e3 hS => ?_)
    have hW := hW.keptO hoa e3
    refine lv_goto (tgt := 19) hx hb dL_change_12 (by decide) ?_
    refine lv_iconst (v := 0) hx hb dL_change_19 (by decide) ?_
    exact xW 0 hx hb hr hlocks (Or.inl ⟨rfl, ok⟩) ⟨hW, _, hO, fun _ => rfl⟩ hS (show (0 : Int32) = nI 0 by decide) (Nat.le_of_ble_eq_true rfl) (Nat.le_of_ble_eq_true rfl) dL_change_20

set_option maxHeartbeats 4000000 in
set_option maxRecDepth 100000 in
theorem c_L_roster (l : Launch) (hfl : l.stackTraces = false) (G : wG) (cL : ClassId) (xa : Nat) (ad ad2 : Nat → Nat) (hI : XI xa ad ad2) (nH nP : Nat) (hH : nH ≤ 10) (hP : nP ≤ 3) (δ τ z : wS) (nz o9 : Nat) (d : Int64) (x y : Int32) (hv : Inv nH nP τ) (hoa : OA o9 xa ad ad2) (ho9 : o9 < nz) : vx_Met l yL_roster wsL_roster ({ frames := 9, cells := 2, slots := 12, locals := 147 } : Room) (PcW G cL [.ref xa, .int x, .int y, .ref o9] nz (AO ad ad2 o9 nz) (fun H => XWz G xa ad ad2 (wmx nH nP δ τ) z H ∧ va_at G.1 vwCl (o9, oLn cL d) H)) (Qwi (fun u => (u = 0 ∧ plOk nP τ x y) ∨ (u = 1 ∧ ¬ (plOk nP τ x y))) (fun u H => XWz G xa ad ad2 (wmx nH nP δ τ) z H ∧ ∃ d, va_at G.1 vwCl (o9, oLn cL d) H ∧ (u = 0 → d = Int32.toInt64 (τ (40 + cl x) (cl y)))) (AO ad ad2 o9 nz)) XF 2 12 (AO ad ad2 o9 nz) := by
  refine vx_ofWH (cc := cL_roster) (maxL := 5) (ret := (some .int)) (hh := [(0, 10, 13, 24)]) (by decide) rfl ?_
  intro pg ev s mid args below meth cd s₁ B hml hv0
  obtain ⟨rfl, rfl, ⟨hW, hO⟩, hKL, hX, hNc⟩ := hv0
  have hx := B.exec
  have hb := B.bytes
  have hr := B.returns
  have hts := atoms_spec (ws := wsL_roster) B.pre
  have hown : s.vm.findClass RL = some mid.cls := findClass_of_methodNamed B.named
  have hlocks := B.notSynchronized
  have hK := hKL.k
  have htab := vx_table (x := yL_roster) B (hts _ (List.mem_cons_self : Cond.codeWith yL_roster cL_roster 5 (some .int) [(0, 10, 13, 24)] ∈ wsL_roster))
  have kc24 := hts (.classLink RL 24 nIOB) (by decide +kernel)
  have hS : va_S (AO ad ad2 o9 s.heap.size) s.heap s.heap [] := va_S.rf
  have hl := lv_entry ([.ref xa, .int x, .int y, .ref o9]) (n := 5) (Nat.le_of_ble_eq_true rfl)
  rw [lg_entry_eq]
  generalize (lg_sl ([.ref xa, .int x, .int y, .ref o9]) ++ List.replicate (5 - (lg_sl ([.ref xa, .int x, .int y, .ref o9])).length) Slot.unset).toArray = ls at hl ⊢
  have hl : lv_has ls 5 [(0, .ref xa), (1, .int x), (2, .int y), (3, .ref o9)] := hl
  refine lv_aload_n hx hb dL_roster_0 rfl (lv_at hl 3 rfl) ?_
  refine lv_iconst (v := 0) hx hb dL_roster_1 (by decide) ?_
  refine lv_aload_n hx hb dL_roster_2 rfl (lv_at hl 0 rfl) ?_
  refine lv_iload_n hx hb dL_roster_3 rfl (lv_at hl 1 rfl) ?_
  refine lv_iload_n hx hb dL_roster_4 rfl (lv_at hl 2 rfl) ?_
  refine kXi (vx_runV (As := [.int x, .int y]) (rest := [.int 0, .ref o9]) ⟨hx, hb, hml, hown, hts⟩ (c_X3_roster l hfl G xa ad ad2 hI nH nP hH hP δ τ z s.heap.size x y hv) (cwV 2 hts gL_roster_X3_roster rfl rfl rfl (by decide +kernel) ⟨Nat.le_of_ble_eq_true rfl, Nat.le_of_ble_eq_true rfl⟩) ⟨Pc3.blind, va_recv hK (va_P1 hW.choose_spec.1.1) (ci := 3) (q0 := 0) rfl rfl, Pc3.pre hW hK hX hS (fun _ h => Or.inl h)⟩ rfl rfl hl.1 rfl (lv_room (Nat.le_of_ble_eq_true rfl)) dL_roster_5 ⟨Nat.le_of_ble_eq_true rfl, Nat.le_of_ble_eq_true rfl⟩) hS (fun _ h => Or.inl h) (fun _ h => Or.inl h) (fun _ h => Or.inl h) (fun E ce q9 H locs hE hW hk hS hc hv9 hcl => ?_) (fun H locs ok hW hk hS => ?_)
  · have hO := hO.kept (hk _ hO.lt (hoa.no ho9))
    obtain ⟨rfl, t1⟩ := hE
    refine vx_catch hown [] (⟨0, 10, 13, 24⟩ : ExceptionTableEntry) [] (htab.trans rfl) (fun z hz => absurd hz List.not_mem_nil) (by decide) (by decide) kc24 (va_Nw.use rfl hX.2.1.2.2.1) hc hv9 hcl ?_
    refine lv_astore (lv' := [(4, .ref q9), (0, .ref xa), (1, .int x), (2, .int y), (3, .ref o9)]) hx hb dL_roster_13 hl (by decide) rfl (fun ls hl => ?_)
    refine lv_iconst (v := 1) hx hb dL_roster_15 (by decide) ?_
    exact xW 1 hx hb hr hlocks (Or.inr ⟨rfl, fun q => t1 q⟩) ⟨hW, d, hO, fun q => absurd q (by decide)⟩ hS (show (1 : Int32) = nI 1 by decide) (Nat.le_of_ble_eq_true rfl) (Nat.le_of_ble_eq_true rfl) dL_roster_16
  · have hO := hO.kept (hk _ hO.lt (hoa.no ho9))
    refine lv_i2l hx hb dL_roster_8 rfl ?_
    refine wO hx hb hKL hO hS (Or.inr rfl) dL_roster_9 (fun H locs hO e3 hS => ?_)
    have hW := hW.keptO hoa e3
    refine lv_goto (tgt := 17) hx hb dL_roster_10 (by decide) ?_
    refine lv_iconst (v := 0) hx hb dL_roster_17 (by decide) ?_
    exact xW 0 hx hb hr hlocks (Or.inl ⟨rfl, ok⟩) ⟨hW, _, hO, fun _ => rfl⟩ hS (show (0 : Int32) = nI 0 by decide) (Nat.le_of_ble_eq_true rfl) (Nat.le_of_ble_eq_true rfl) dL_roster_18

set_option maxHeartbeats 4000000 in
set_option maxRecDepth 100000 in
theorem c_L_ahead (l : Launch) (hfl : l.stackTraces = false) (G : wG) (cL : ClassId) (xa : Nat) (ad ad2 : Nat → Nat) (hI : XI xa ad ad2) (nH nP : Nat) (hH : nH ≤ 10) (hP : nP ≤ 3) (δ τ z : wS) (nz o9 : Nat) (d : Int64) (x y : Int32) (hv : Inv nH nP τ) (hoa : OA o9 xa ad ad2) (ho9 : o9 < nz) : vx_Met l yL_ahead wsL_ahead ({ frames := 8, cells := 2, slots := 12, locals := 127 } : Room) (PcW G cL [.ref xa, .int x, .int y, .ref o9] nz (AO ad ad2 o9 nz) (fun H => XWz G xa ad ad2 (wmx nH nP δ τ) z H ∧ va_at G.1 vwCl (o9, oLn cL d) H)) (Qwi (fun u => (u = 0 ∧ pOk nP x ∧ hOk nH y) ∨ (u = 1 ∧ ¬ (pOk nP x ∧ hOk nH y))) (fun u H => XWz G xa ad ad2 (wmx nH nP δ τ) z H ∧ ∃ d, va_at G.1 vwCl (o9, oLn cL d) H ∧ (u = 0 → d = Int32.toInt64 (ahdF τ (cl x) (cl y)))) (AO ad ad2 o9 nz)) XF 2 12 (AO ad ad2 o9 nz) := by
  refine vx_ofWH (cc := cL_ahead) (maxL := 5) (ret := (some .int)) (hh := [(0, 10, 13, 24)]) (by decide) rfl ?_
  intro pg ev s mid args below meth cd s₁ B hml hv0
  obtain ⟨rfl, rfl, ⟨hW, hO⟩, hKL, hX, hNc⟩ := hv0
  have hx := B.exec
  have hb := B.bytes
  have hr := B.returns
  have hts := atoms_spec (ws := wsL_ahead) B.pre
  have hown : s.vm.findClass RL = some mid.cls := findClass_of_methodNamed B.named
  have hlocks := B.notSynchronized
  have hK := hKL.k
  have htab := vx_table (x := yL_ahead) B (hts _ (List.mem_cons_self : Cond.codeWith yL_ahead cL_ahead 5 (some .int) [(0, 10, 13, 24)] ∈ wsL_ahead))
  have kc24 := hts (.classLink RL 24 nIOB) (by decide +kernel)
  have hS : va_S (AO ad ad2 o9 s.heap.size) s.heap s.heap [] := va_S.rf
  have hl := lv_entry ([.ref xa, .int x, .int y, .ref o9]) (n := 5) (Nat.le_of_ble_eq_true rfl)
  rw [lg_entry_eq]
  generalize (lg_sl ([.ref xa, .int x, .int y, .ref o9]) ++ List.replicate (5 - (lg_sl ([.ref xa, .int x, .int y, .ref o9])).length) Slot.unset).toArray = ls at hl ⊢
  have hl : lv_has ls 5 [(0, .ref xa), (1, .int x), (2, .int y), (3, .ref o9)] := hl
  refine lv_aload_n hx hb dL_ahead_0 rfl (lv_at hl 3 rfl) ?_
  refine lv_iconst (v := 0) hx hb dL_ahead_1 (by decide) ?_
  refine lv_aload_n hx hb dL_ahead_2 rfl (lv_at hl 0 rfl) ?_
  refine lv_iload_n hx hb dL_ahead_3 rfl (lv_at hl 1 rfl) ?_
  refine lv_iload_n hx hb dL_ahead_4 rfl (lv_at hl 2 rfl) ?_
  refine kXi (vx_runV (As := [.int x, .int y]) (rest := [.int 0, .ref o9]) ⟨hx, hb, hml, hown, hts⟩ (c_X3_ahead l hfl G xa ad ad2 hI nH nP hH hP δ τ z s.heap.size x y hv) (cwV 2 hts gL_ahead_X3_ahead rfl rfl rfl (by decide +kernel) ⟨Nat.le_of_ble_eq_true rfl, Nat.le_of_ble_eq_true rfl⟩) ⟨Pc3.blind, va_recv hK (va_P1 hW.choose_spec.1.1) (ci := 3) (q0 := 0) rfl rfl, Pc3.pre hW hK hX hS (fun _ h => Or.inl h)⟩ rfl rfl hl.1 rfl (lv_room (Nat.le_of_ble_eq_true rfl)) dL_ahead_5 ⟨Nat.le_of_ble_eq_true rfl, Nat.le_of_ble_eq_true rfl⟩) hS (fun _ h => Or.inl h) (fun _ h => Or.inl h) (fun _ h => Or.inl h) (fun E ce q9 H locs hE hW hk hS hc hv9 hcl => ?_) (fun H locs ok hW hk hS => ?_)
  · have hO := hO.kept (hk _ hO.lt (hoa.no ho9))
    rcases hE with ⟨rfl, t1⟩ | ⟨rfl, t1, t2⟩
    · skip
      refine vx_catch hown [] (⟨0, 10, 13, 24⟩ : ExceptionTableEntry) [] (htab.trans rfl) (fun z hz => absurd hz List.not_mem_nil) (by decide) (by decide) kc24 (va_Nw.use rfl hX.2.1.2.2.1) hc hv9 hcl ?_
      refine lv_astore (lv' := [(4, .ref q9), (0, .ref xa), (1, .int x), (2, .int y), (3, .ref o9)]) hx hb dL_ahead_13 hl (by decide) rfl (fun ls hl => ?_)
      refine lv_iconst (v := 1) hx hb dL_ahead_15 (by decide) ?_
      exact xW 1 hx hb hr hlocks (Or.inr ⟨rfl, fun q => t1 q.1⟩) ⟨hW, d, hO, fun q => absurd q (by decide)⟩ hS (show (1 : Int32) = nI 1 by decide) (Nat.le_of_ble_eq_true rfl) (Nat.le_of_ble_eq_true rfl) dL_ahead_16
    · skip
      refine vx_catch hown [] (⟨0, 10, 13, 24⟩ : ExceptionTableEntry) [] (htab.trans rfl) (fun z hz => absurd hz List.not_mem_nil) (by decide) (by decide) kc24 (va_Nw.use rfl hX.2.1.2.2.1) hc hv9 hcl ?_
      refine lv_astore (lv' := [(4, .ref q9), (0, .ref xa), (1, .int x), (2, .int y), (3, .ref o9)]) hx hb dL_ahead_13 hl (by decide) rfl (fun ls hl => ?_)
      refine lv_iconst (v := 1) hx hb dL_ahead_15 (by decide) ?_
      exact xW 1 hx hb hr hlocks (Or.inr ⟨rfl, fun q => t2 q.2⟩) ⟨hW, d, hO, fun q => absurd q (by decide)⟩ hS (show (1 : Int32) = nI 1 by decide) (Nat.le_of_ble_eq_true rfl) (Nat.le_of_ble_eq_true rfl) dL_ahead_16
  · have hO := hO.kept (hk _ hO.lt (hoa.no ho9))
    refine lv_i2l hx hb dL_ahead_8 rfl ?_
    refine wO hx hb hKL hO hS (Or.inr rfl) dL_ahead_9 (fun H locs hO e3 hS => ?_)
    have hW := hW.keptO hoa e3
    refine lv_goto (tgt := 17) hx hb dL_ahead_10 (by decide) ?_
    refine lv_iconst (v := 0) hx hb dL_ahead_17 (by decide) ?_
    exact xW 0 hx hb hr hlocks (Or.inl ⟨rfl, ok⟩) ⟨hW, _, hO, fun _ => rfl⟩ hS (show (0 : Int32) = nI 0 by decide) (Nat.le_of_ble_eq_true rfl) (Nat.le_of_ble_eq_true rfl) dL_ahead_18

set_option maxHeartbeats 4000000 in
set_option maxRecDepth 100000 in
theorem c_L_house (l : Launch) (hfl : l.stackTraces = false) (G : wG) (cL : ClassId) (xa : Nat) (ad ad2 : Nat → Nat) (hI : XI xa ad ad2) (nH nP : Nat) (hH : nH ≤ 10) (hP : nP ≤ 3) (δ τ z : wS) (nz o9 : Nat) (d : Int64) (x y : Int32) (hv : Inv nH nP τ) (hoa : OA o9 xa ad ad2) (ho9 : o9 < nz) : vx_Met l yL_house wsL_house ({ frames := 8, cells := 2, slots := 12, locals := 125 } : Room) (PcW G cL [.ref xa, .int x, .int y, .ref o9] nz (AO ad ad2 o9 nz) (fun H => XWz G xa ad ad2 (wmx nH nP δ τ) z H ∧ va_at G.1 vwCl (o9, oLn cL d) H)) (Qwi (fun u => (u = 0 ∧ hOk nH x ∧ inn 0 10 y) ∨ (u = 1 ∧ ¬ (hOk nH x ∧ inn 0 10 y))) (fun u H => XWz G xa ad ad2 (wmx nH nP δ τ) z H ∧ ∃ d, va_at G.1 vwCl (o9, oLn cL d) H ∧ (u = 0 → d = Int32.toInt64 (hftF nP τ (cl x) (cl y)))) (AO ad ad2 o9 nz)) XF 2 12 (AO ad ad2 o9 nz) := by
  refine vx_ofWH (cc := cL_house) (maxL := 5) (ret := (some .int)) (hh := [(0, 10, 13, 24)]) (by decide) rfl ?_
  intro pg ev s mid args below meth cd s₁ B hml hv0
  obtain ⟨rfl, rfl, ⟨hW, hO⟩, hKL, hX, hNc⟩ := hv0
  have hx := B.exec
  have hb := B.bytes
  have hr := B.returns
  have hts := atoms_spec (ws := wsL_house) B.pre
  have hown : s.vm.findClass RL = some mid.cls := findClass_of_methodNamed B.named
  have hlocks := B.notSynchronized
  have hK := hKL.k
  have htab := vx_table (x := yL_house) B (hts _ (List.mem_cons_self : Cond.codeWith yL_house cL_house 5 (some .int) [(0, 10, 13, 24)] ∈ wsL_house))
  have kc24 := hts (.classLink RL 24 nIOB) (by decide +kernel)
  have hS : va_S (AO ad ad2 o9 s.heap.size) s.heap s.heap [] := va_S.rf
  have hl := lv_entry ([.ref xa, .int x, .int y, .ref o9]) (n := 5) (Nat.le_of_ble_eq_true rfl)
  rw [lg_entry_eq]
  generalize (lg_sl ([.ref xa, .int x, .int y, .ref o9]) ++ List.replicate (5 - (lg_sl ([.ref xa, .int x, .int y, .ref o9])).length) Slot.unset).toArray = ls at hl ⊢
  have hl : lv_has ls 5 [(0, .ref xa), (1, .int x), (2, .int y), (3, .ref o9)] := hl
  refine lv_aload_n hx hb dL_house_0 rfl (lv_at hl 3 rfl) ?_
  refine lv_iconst (v := 0) hx hb dL_house_1 (by decide) ?_
  refine lv_aload_n hx hb dL_house_2 rfl (lv_at hl 0 rfl) ?_
  refine lv_iload_n hx hb dL_house_3 rfl (lv_at hl 1 rfl) ?_
  refine lv_iload_n hx hb dL_house_4 rfl (lv_at hl 2 rfl) ?_
  refine kXi (vx_runV (As := [.int x, .int y]) (rest := [.int 0, .ref o9]) ⟨hx, hb, hml, hown, hts⟩ (c_X3_house l hfl G xa ad ad2 hI nH nP hH hP δ τ z s.heap.size x y hv) (cwV 2 hts gL_house_X3_house rfl rfl rfl (by decide +kernel) ⟨Nat.le_of_ble_eq_true rfl, Nat.le_of_ble_eq_true rfl⟩) ⟨Pc3.blind, va_recv hK (va_P1 hW.choose_spec.1.1) (ci := 3) (q0 := 0) rfl rfl, Pc3.pre hW hK hX hS (fun _ h => Or.inl h)⟩ rfl rfl hl.1 rfl (lv_room (Nat.le_of_ble_eq_true rfl)) dL_house_5 ⟨Nat.le_of_ble_eq_true rfl, Nat.le_of_ble_eq_true rfl⟩) hS (fun _ h => Or.inl h) (fun _ h => Or.inl h) (fun _ h => Or.inl h) (fun E ce q9 H locs hE hW hk hS hc hv9 hcl => ?_) (fun H locs ok hW hk hS => ?_)
  · have hO := hO.kept (hk _ hO.lt (hoa.no ho9))
    rcases hE with ⟨rfl, t1⟩ | ⟨rfl, t1, t2⟩
    · skip
      refine vx_catch hown [] (⟨0, 10, 13, 24⟩ : ExceptionTableEntry) [] (htab.trans rfl) (fun z hz => absurd hz List.not_mem_nil) (by decide) (by decide) kc24 (va_Nw.use rfl hX.2.1.2.2.1) hc hv9 hcl ?_
      refine lv_astore (lv' := [(4, .ref q9), (0, .ref xa), (1, .int x), (2, .int y), (3, .ref o9)]) hx hb dL_house_13 hl (by decide) rfl (fun ls hl => ?_)
      refine lv_iconst (v := 1) hx hb dL_house_15 (by decide) ?_
      exact xW 1 hx hb hr hlocks (Or.inr ⟨rfl, fun q => t1 q.1⟩) ⟨hW, d, hO, fun q => absurd q (by decide)⟩ hS (show (1 : Int32) = nI 1 by decide) (Nat.le_of_ble_eq_true rfl) (Nat.le_of_ble_eq_true rfl) dL_house_16
    · skip
      refine vx_catch hown [] (⟨0, 10, 13, 24⟩ : ExceptionTableEntry) [] (htab.trans rfl) (fun z hz => absurd hz List.not_mem_nil) (by decide) (by decide) kc24 (va_Nw.use rfl hX.2.1.2.2.1) hc hv9 hcl ?_
      refine lv_astore (lv' := [(4, .ref q9), (0, .ref xa), (1, .int x), (2, .int y), (3, .ref o9)]) hx hb dL_house_13 hl (by decide) rfl (fun ls hl => ?_)
      refine lv_iconst (v := 1) hx hb dL_house_15 (by decide) ?_
      exact xW 1 hx hb hr hlocks (Or.inr ⟨rfl, fun q => t2 q.2⟩) ⟨hW, d, hO, fun q => absurd q (by decide)⟩ hS (show (1 : Int32) = nI 1 by decide) (Nat.le_of_ble_eq_true rfl) (Nat.le_of_ble_eq_true rfl) dL_house_16
  · have hO := hO.kept (hk _ hO.lt (hoa.no ho9))
    refine lv_i2l hx hb dL_house_8 rfl ?_
    refine wO hx hb hKL hO hS (Or.inr rfl) dL_house_9 (fun H locs hO e3 hS => ?_)
    have hW := hW.keptO hoa e3
    refine lv_goto (tgt := 17) hx hb dL_house_10 (by decide) ?_
    refine lv_iconst (v := 0) hx hb dL_house_17 (by decide) ?_
    exact xW 0 hx hb hr hlocks (Or.inl ⟨rfl, ok⟩) ⟨hW, _, hO, fun _ => rfl⟩ hS (show (0 : Int32) = nI 0 by decide) (Nat.le_of_ble_eq_true rfl) (Nat.le_of_ble_eq_true rfl) dL_house_18

set_option maxHeartbeats 4000000 in
set_option maxRecDepth 100000 in
theorem c_L_pump (l : Launch) (hfl : l.stackTraces = false) (G : wG) (cL : ClassId) (xa : Nat) (ad ad2 : Nat → Nat) (hI : XI xa ad ad2) (nH nP : Nat) (hH : nH ≤ 10) (hP : nP ≤ 3) (δ τ z : wS) (nz o9 : Nat) (d : Int64) (x y : Int32) (hv : Inv nH nP τ) (hoa : OA o9 xa ad ad2) (ho9 : o9 < nz) : vx_Met l yL_pump wsL_pump ({ frames := 8, cells := 2, slots := 12, locals := 125 } : Room) (PcW G cL [.ref xa, .int x, .int y, .ref o9] nz (AO ad ad2 o9 nz) (fun H => XWz G xa ad ad2 (wmx nH nP δ τ) z H ∧ va_at G.1 vwCl (o9, oLn cL d) H)) (Qwi (fun u => (u = 0 ∧ pOk nP x ∧ inn 0 10 y) ∨ (u = 1 ∧ ¬ (pOk nP x ∧ inn 0 10 y))) (fun u H => XWz G xa ad ad2 (wmx nH nP δ τ) z H ∧ ∃ d, va_at G.1 vwCl (o9, oLn cL d) H ∧ (u = 0 → d = Int32.toInt64 (τ (20 + cl y) (cl x)))) (AO ad ad2 o9 nz)) XF 2 12 (AO ad ad2 o9 nz) := by
  refine vx_ofWH (cc := cL_pump) (maxL := 5) (ret := (some .int)) (hh := [(0, 10, 13, 24)]) (by decide) rfl ?_
  intro pg ev s mid args below meth cd s₁ B hml hv0
  obtain ⟨rfl, rfl, ⟨hW, hO⟩, hKL, hX, hNc⟩ := hv0
  have hx := B.exec
  have hb := B.bytes
  have hr := B.returns
  have hts := atoms_spec (ws := wsL_pump) B.pre
  have hown : s.vm.findClass RL = some mid.cls := findClass_of_methodNamed B.named
  have hlocks := B.notSynchronized
  have hK := hKL.k
  have htab := vx_table (x := yL_pump) B (hts _ (List.mem_cons_self : Cond.codeWith yL_pump cL_pump 5 (some .int) [(0, 10, 13, 24)] ∈ wsL_pump))
  have kc24 := hts (.classLink RL 24 nIOB) (by decide +kernel)
  have hS : va_S (AO ad ad2 o9 s.heap.size) s.heap s.heap [] := va_S.rf
  have hl := lv_entry ([.ref xa, .int x, .int y, .ref o9]) (n := 5) (Nat.le_of_ble_eq_true rfl)
  rw [lg_entry_eq]
  generalize (lg_sl ([.ref xa, .int x, .int y, .ref o9]) ++ List.replicate (5 - (lg_sl ([.ref xa, .int x, .int y, .ref o9])).length) Slot.unset).toArray = ls at hl ⊢
  have hl : lv_has ls 5 [(0, .ref xa), (1, .int x), (2, .int y), (3, .ref o9)] := hl
  refine lv_aload_n hx hb dL_pump_0 rfl (lv_at hl 3 rfl) ?_
  refine lv_iconst (v := 0) hx hb dL_pump_1 (by decide) ?_
  refine lv_aload_n hx hb dL_pump_2 rfl (lv_at hl 0 rfl) ?_
  refine lv_iload_n hx hb dL_pump_3 rfl (lv_at hl 1 rfl) ?_
  refine lv_iload_n hx hb dL_pump_4 rfl (lv_at hl 2 rfl) ?_
  refine kXi (vx_runV (As := [.int x, .int y]) (rest := [.int 0, .ref o9]) ⟨hx, hb, hml, hown, hts⟩ (c_X3_pump l hfl G xa ad ad2 hI nH nP hH hP δ τ z s.heap.size x y hv) (cwV 2 hts gL_pump_X3_pump rfl rfl rfl (by decide +kernel) ⟨Nat.le_of_ble_eq_true rfl, Nat.le_of_ble_eq_true rfl⟩) ⟨Pc3.blind, va_recv hK (va_P1 hW.choose_spec.1.1) (ci := 3) (q0 := 0) rfl rfl, Pc3.pre hW hK hX hS (fun _ h => Or.inl h)⟩ rfl rfl hl.1 rfl (lv_room (Nat.le_of_ble_eq_true rfl)) dL_pump_5 ⟨Nat.le_of_ble_eq_true rfl, Nat.le_of_ble_eq_true rfl⟩) hS (fun _ h => Or.inl h) (fun _ h => Or.inl h) (fun _ h => Or.inl h) (fun E ce q9 H locs hE hW hk hS hc hv9 hcl => ?_) (fun H locs ok hW hk hS => ?_)
  · have hO := hO.kept (hk _ hO.lt (hoa.no ho9))
    rcases hE with ⟨rfl, t1⟩ | ⟨rfl, t1, t2⟩
    · skip
      refine vx_catch hown [] (⟨0, 10, 13, 24⟩ : ExceptionTableEntry) [] (htab.trans rfl) (fun z hz => absurd hz List.not_mem_nil) (by decide) (by decide) kc24 (va_Nw.use rfl hX.2.1.2.2.1) hc hv9 hcl ?_
      refine lv_astore (lv' := [(4, .ref q9), (0, .ref xa), (1, .int x), (2, .int y), (3, .ref o9)]) hx hb dL_pump_13 hl (by decide) rfl (fun ls hl => ?_)
      refine lv_iconst (v := 1) hx hb dL_pump_15 (by decide) ?_
      exact xW 1 hx hb hr hlocks (Or.inr ⟨rfl, fun q => t1 q.1⟩) ⟨hW, d, hO, fun q => absurd q (by decide)⟩ hS (show (1 : Int32) = nI 1 by decide) (Nat.le_of_ble_eq_true rfl) (Nat.le_of_ble_eq_true rfl) dL_pump_16
    · skip
      refine vx_catch hown [] (⟨0, 10, 13, 24⟩ : ExceptionTableEntry) [] (htab.trans rfl) (fun z hz => absurd hz List.not_mem_nil) (by decide) (by decide) kc24 (va_Nw.use rfl hX.2.1.2.2.1) hc hv9 hcl ?_
      refine lv_astore (lv' := [(4, .ref q9), (0, .ref xa), (1, .int x), (2, .int y), (3, .ref o9)]) hx hb dL_pump_13 hl (by decide) rfl (fun ls hl => ?_)
      refine lv_iconst (v := 1) hx hb dL_pump_15 (by decide) ?_
      exact xW 1 hx hb hr hlocks (Or.inr ⟨rfl, fun q => t2 q.2⟩) ⟨hW, d, hO, fun q => absurd q (by decide)⟩ hS (show (1 : Int32) = nI 1 by decide) (Nat.le_of_ble_eq_true rfl) (Nat.le_of_ble_eq_true rfl) dL_pump_16
  · have hO := hO.kept (hk _ hO.lt (hoa.no ho9))
    refine lv_i2l hx hb dL_pump_8 rfl ?_
    refine wO hx hb hKL hO hS (Or.inr rfl) dL_pump_9 (fun H locs hO e3 hS => ?_)
    have hW := hW.keptO hoa e3
    refine lv_goto (tgt := 17) hx hb dL_pump_10 (by decide) ?_
    refine lv_iconst (v := 0) hx hb dL_pump_17 (by decide) ?_
    exact xW 0 hx hb hr hlocks (Or.inl ⟨rfl, ok⟩) ⟨hW, _, hO, fun _ => rfl⟩ hS (show (0 : Int32) = nI 0 by decide) (Nat.le_of_ble_eq_true rfl) (Nat.le_of_ble_eq_true rfl) dL_pump_18

set_option maxHeartbeats 4000000 in
set_option maxRecDepth 100000 in
theorem c_L_pass (l : Launch) (hfl : l.stackTraces = false) (G : wG) (cL : ClassId) (xa : Nat) (ad ad2 : Nat → Nat) (hI : XI xa ad ad2) (nH nP : Nat) (hH : nH ≤ 10) (hP : nP ≤ 3) (δ τ z : wS) (nz o9 : Nat) (d : Int64) (y : Int32) (hv : Inv nH nP τ) (hoa : OA o9 xa ad ad2) (ho9 : o9 < nz) : vx_Met l yL_pass wsL_pass ({ frames := 8, cells := 1, slots := 6, locals := 159 } : Room) (PcW G cL [.ref xa, .int y, .ref o9] nz (AO ad ad2 o9 nz) (fun H => XWz G xa ad ad2 (wmx nH nP δ τ) z H ∧ va_at G.1 vwCl (o9, oLn cL d) H)) (Qwi (fun u => (u = 0 ∧ inn 1 100 y) ∨ (u = 1 ∧ ¬ (inn 1 100 y))) (fun u H => XWz G xa ad ad2 (wmx nH nP δ (sel u (dysF nH nP (cl y) τ) τ)) z H ∧ ∃ d, va_at G.1 vwCl (o9, oLn cL d) H ∧ (u = 0 → d = Int32.toInt64 (sm (fun h => dysF nH nP (cl y) τ 29 h) nP - sm (fun h => τ 29 h) nP))) (AO ad ad2 o9 nz)) XF 1 6 (AO ad ad2 o9 nz) := by
  refine vx_ofWH (cc := cL_pass) (maxL := 4) (ret := (some .int)) (hh := [(0, 9, 12, 13)]) (by decide) rfl ?_
  intro pg ev s mid args below meth cd s₁ B hml hv0
  obtain ⟨rfl, rfl, ⟨hW, hO⟩, hKL, hX, hNc⟩ := hv0
  have hx := B.exec
  have hb := B.bytes
  have hr := B.returns
  have hts := atoms_spec (ws := wsL_pass) B.pre
  have hown : s.vm.findClass RL = some mid.cls := findClass_of_methodNamed B.named
  have hlocks := B.notSynchronized
  have hK := hKL.k
  have htab := vx_table (x := yL_pass) B (hts _ (List.mem_cons_self : Cond.codeWith yL_pass cL_pass 4 (some .int) [(0, 9, 12, 13)] ∈ wsL_pass))
  have kc13 := hts (.classLink RL 13 nIAE) (by decide +kernel)
  have hS : va_S (AO ad ad2 o9 s.heap.size) s.heap s.heap [] := va_S.rf
  have hl := lv_entry ([.ref xa, .int y, .ref o9]) (n := 4) (Nat.le_of_ble_eq_true rfl)
  rw [lg_entry_eq]
  generalize (lg_sl ([.ref xa, .int y, .ref o9]) ++ List.replicate (4 - (lg_sl ([.ref xa, .int y, .ref o9])).length) Slot.unset).toArray = ls at hl ⊢
  have hl : lv_has ls 4 [(0, .ref xa), (1, .int y), (2, .ref o9)] := hl
  refine lv_aload_n hx hb dL_pass_0 rfl (lv_at hl 2 rfl) ?_
  refine lv_iconst (v := 0) hx hb dL_pass_1 (by decide) ?_
  refine lv_aload_n hx hb dL_pass_2 rfl (lv_at hl 0 rfl) ?_
  refine lv_iload_n hx hb dL_pass_3 rfl (lv_at hl 1 rfl) ?_
  refine kXi (vx_runV (As := [.int y]) (rest := [.int 0, .ref o9]) ⟨hx, hb, hml, hown, hts⟩ (c_X3_pass l hfl G xa ad ad2 hI nH nP hH hP δ τ z s.heap.size y hv) (cwV 1 hts gL_pass_X3_pass rfl rfl rfl (by decide +kernel) ⟨Nat.le_of_ble_eq_true rfl, Nat.le_of_ble_eq_true rfl⟩) ⟨Pc3.blind, va_recv hK (va_P1 hW.choose_spec.1.1) (ci := 3) (q0 := 0) rfl rfl, Pc3.pre hW hK hX hS (fun _ h => Or.inl h)⟩ rfl rfl hl.1 rfl (lv_room (Nat.le_of_ble_eq_true rfl)) dL_pass_4 ⟨Nat.le_of_ble_eq_true rfl, Nat.le_of_ble_eq_true rfl⟩) hS (fun _ h => Or.inl h) (fun _ h => Or.inl h) (fun _ h => Or.inl h) (fun E ce q9 H locs hE hW hk hS hc hv9 hcl => ?_) (fun H locs ok hW hk hS => ?_)
  · have hO := hO.kept (hk _ hO.lt (hoa.no ho9))
    obtain ⟨rfl, t1⟩ := hE
    refine vx_catch hown [] (⟨0, 9, 12, 13⟩ : ExceptionTableEntry) [] (htab.trans rfl) (fun z hz => absurd hz List.not_mem_nil) (by decide) (by decide) kc13 (va_Nw.use rfl hX.2.1.1) hc hv9 hcl ?_
    refine lv_astore_n (lv' := [(3, .ref q9), (0, .ref xa), (1, .int y), (2, .ref o9)]) hx hb dL_pass_12 rfl hl (by decide) rfl (fun ls hl => ?_)
    refine lv_iconst (v := 1) hx hb dL_pass_13 (by decide) ?_
    exact xW 1 hx hb hr hlocks (Or.inr ⟨rfl, fun q => t1 q⟩) ⟨hW, d, hO, fun q => absurd q (by decide)⟩ hS (show (1 : Int32) = nI 1 by decide) (Nat.le_of_ble_eq_true rfl) (Nat.le_of_ble_eq_true rfl) dL_pass_14
  · have hO := hO.kept (hk _ hO.lt (hoa.no ho9))
    refine lv_i2l hx hb dL_pass_7 rfl ?_
    refine wO hx hb hKL hO hS (Or.inr rfl) dL_pass_8 (fun H locs hO e3 hS => ?_)
    have hW := hW.keptO hoa e3
    refine lv_goto (tgt := 15) hx hb dL_pass_9 (by decide) ?_
    refine lv_iconst (v := 0) hx hb dL_pass_15 (by decide) ?_
    exact xW 0 hx hb hr hlocks (Or.inl ⟨rfl, ok⟩) ⟨hW, _, hO, fun _ => rfl⟩ hS (show (0 : Int32) = nI 0 by decide) (Nat.le_of_ble_eq_true rfl) (Nat.le_of_ble_eq_true rfl) dL_pass_16

set_option maxHeartbeats 4000000 in
set_option maxRecDepth 100000 in
theorem c_L_count (l : Launch) (hfl : l.stackTraces = false) (G : wG) (cL : ClassId) (xa : Nat) (ad ad2 : Nat → Nat) (hI : XI xa ad ad2) (nH nP : Nat) (hH : nH ≤ 10) (hP : nP ≤ 3) (δ τ z : wS) (nz o9 : Nat) (d : Int64) (y : Int32) (hv : Inv nH nP τ) (hoa : OA o9 xa ad ad2) (ho9 : o9 < nz) : vx_Met l yL_count wsL_count ({ frames := 8, cells := 1, slots := 6, locals := 124 } : Room) (PcW G cL [.ref xa, .int y, .ref o9] nz (AO ad ad2 o9 nz) (fun H => XWz G xa ad ad2 (wmx nH nP δ τ) z H ∧ va_at G.1 vwCl (o9, oLn cL d) H)) (Qwi (fun u => (u = 0 ∧ inn 0 9 y) ∨ (u = 1 ∧ ¬ (inn 0 9 y))) (fun u H => XWz G xa ad ad2 (wmx nH nP δ τ) z H ∧ ∃ d, va_at G.1 vwCl (o9, oLn cL d) H ∧ (u = 0 → d = Int32.toInt64 (totF nH nP τ (cl y)))) (AO ad ad2 o9 nz)) XF 1 6 (AO ad ad2 o9 nz) := by
  refine vx_ofWH (cc := cL_count) (maxL := 4) (ret := (some .int)) (hh := [(0, 9, 12, 24)]) (by decide) rfl ?_
  intro pg ev s mid args below meth cd s₁ B hml hv0
  obtain ⟨rfl, rfl, ⟨hW, hO⟩, hKL, hX, hNc⟩ := hv0
  have hx := B.exec
  have hb := B.bytes
  have hr := B.returns
  have hts := atoms_spec (ws := wsL_count) B.pre
  have hown : s.vm.findClass RL = some mid.cls := findClass_of_methodNamed B.named
  have hlocks := B.notSynchronized
  have hK := hKL.k
  have htab := vx_table (x := yL_count) B (hts _ (List.mem_cons_self : Cond.codeWith yL_count cL_count 4 (some .int) [(0, 9, 12, 24)] ∈ wsL_count))
  have kc24 := hts (.classLink RL 24 nIOB) (by decide +kernel)
  have hS : va_S (AO ad ad2 o9 s.heap.size) s.heap s.heap [] := va_S.rf
  have hl := lv_entry ([.ref xa, .int y, .ref o9]) (n := 4) (Nat.le_of_ble_eq_true rfl)
  rw [lg_entry_eq]
  generalize (lg_sl ([.ref xa, .int y, .ref o9]) ++ List.replicate (4 - (lg_sl ([.ref xa, .int y, .ref o9])).length) Slot.unset).toArray = ls at hl ⊢
  have hl : lv_has ls 4 [(0, .ref xa), (1, .int y), (2, .ref o9)] := hl
  refine lv_aload_n hx hb dL_count_0 rfl (lv_at hl 2 rfl) ?_
  refine lv_iconst (v := 0) hx hb dL_count_1 (by decide) ?_
  refine lv_aload_n hx hb dL_count_2 rfl (lv_at hl 0 rfl) ?_
  refine lv_iload_n hx hb dL_count_3 rfl (lv_at hl 1 rfl) ?_
  refine kXi (vx_runV (As := [.int y]) (rest := [.int 0, .ref o9]) ⟨hx, hb, hml, hown, hts⟩ (c_X3_count l hfl G xa ad ad2 hI nH nP hH hP δ τ z s.heap.size y hv) (cwV 1 hts gL_count_X3_count rfl rfl rfl (by decide +kernel) ⟨Nat.le_of_ble_eq_true rfl, Nat.le_of_ble_eq_true rfl⟩) ⟨Pc3.blind, va_recv hK (va_P1 hW.choose_spec.1.1) (ci := 3) (q0 := 0) rfl rfl, Pc3.pre hW hK hX hS (fun _ h => Or.inl h)⟩ rfl rfl hl.1 rfl (lv_room (Nat.le_of_ble_eq_true rfl)) dL_count_4 ⟨Nat.le_of_ble_eq_true rfl, Nat.le_of_ble_eq_true rfl⟩) hS (fun _ h => Or.inl h) (fun _ h => Or.inl h) (fun _ h => Or.inl h) (fun E ce q9 H locs hE hW hk hS hc hv9 hcl => ?_) (fun H locs ok hW hk hS => ?_)
  · have hO := hO.kept (hk _ hO.lt (hoa.no ho9))
    obtain ⟨rfl, t1⟩ := hE
    refine vx_catch hown [] (⟨0, 9, 12, 24⟩ : ExceptionTableEntry) [] (htab.trans rfl) (fun z hz => absurd hz List.not_mem_nil) (by decide) (by decide) kc24 (va_Nw.use rfl hX.2.1.2.2.1) hc hv9 hcl ?_
    refine lv_astore_n (lv' := [(3, .ref q9), (0, .ref xa), (1, .int y), (2, .ref o9)]) hx hb dL_count_12 rfl hl (by decide) rfl (fun ls hl => ?_)
    refine lv_iconst (v := 1) hx hb dL_count_13 (by decide) ?_
    exact xW 1 hx hb hr hlocks (Or.inr ⟨rfl, fun q => t1 q⟩) ⟨hW, d, hO, fun q => absurd q (by decide)⟩ hS (show (1 : Int32) = nI 1 by decide) (Nat.le_of_ble_eq_true rfl) (Nat.le_of_ble_eq_true rfl) dL_count_14
  · have hO := hO.kept (hk _ hO.lt (hoa.no ho9))
    refine lv_i2l hx hb dL_count_7 rfl ?_
    refine wO hx hb hKL hO hS (Or.inr rfl) dL_count_8 (fun H locs hO e3 hS => ?_)
    have hW := hW.keptO hoa e3
    refine lv_goto (tgt := 15) hx hb dL_count_9 (by decide) ?_
    refine lv_iconst (v := 0) hx hb dL_count_15 (by decide) ?_
    exact xW 0 hx hb hr hlocks (Or.inl ⟨rfl, ok⟩) ⟨hW, _, hO, fun _ => rfl⟩ hS (show (0 : Int32) = nI 0 by decide) (Nat.le_of_ble_eq_true rfl) (Nat.le_of_ble_eq_true rfl) dL_count_16

set_option maxHeartbeats 4000000 in
set_option maxRecDepth 100000 in
theorem c_L_foresee (l : Launch) (hfl : l.stackTraces = false) (G : wG) (cL : ClassId) (xa : Nat) (ad ad2 : Nat → Nat) (hI : XI xa ad ad2) (nH nP : Nat) (hH : nH ≤ 10) (hP : nP ≤ 3) (δ τ z : wS) (nz o9 : Nat) (d : Int64) (x y : Int32) (hv : Inv nH nP τ) (hoa : OA o9 xa ad ad2) (ho9 : o9 < nz) : vx_Met l yL_foresee wsL_foresee ({ frames := 8, cells := 2, slots := 12, locals := 160 } : Room) (PcW G cL [.ref xa, .int x, .int y, .ref o9] nz (AO ad ad2 o9 nz) (fun H => XWz G xa ad ad2 (wmx nH nP δ τ) z H ∧ va_at G.1 vwCl (o9, oLn cL d) H)) (Qwi (fun u => (u = 0 ∧ inn 1 100 x ∧ inn 0 3 y) ∨ (u = 1 ∧ ¬ (inn 1 100 x)) ∨ (u = 2 ∧ inn 1 100 x ∧ ¬ (inn 0 3 y))) (fun u H => XWz G xa ad ad2 (wmx nH nP δ τ) (sel u (fsX nH nP τ z (cl x)) z) H ∧ ∃ d, va_at G.1 vwCl (o9, oLn cL d) H ∧ (u = 0 → d = Int32.toInt64 (fsF nH nP τ z (cl x) (cl y)))) (AO ad ad2 o9 nz)) XF 2 12 (AO ad ad2 o9 nz) := by
  refine vx_ofWH (cc := cL_foresee) (maxL := 5) (ret := (some .int)) (hh := [(0, 10, 13, 13), (0, 10, 17, 24)]) (by decide) rfl ?_
  intro pg ev s mid args below meth cd s₁ B hml hv0
  obtain ⟨rfl, rfl, ⟨hW, hO⟩, hKL, hX, hNc⟩ := hv0
  have hx := B.exec
  have hb := B.bytes
  have hr := B.returns
  have hts := atoms_spec (ws := wsL_foresee) B.pre
  have hown : s.vm.findClass RL = some mid.cls := findClass_of_methodNamed B.named
  have hlocks := B.notSynchronized
  have hK := hKL.k
  have htab := vx_table (x := yL_foresee) B (hts _ (List.mem_cons_self : Cond.codeWith yL_foresee cL_foresee 5 (some .int) [(0, 10, 13, 13), (0, 10, 17, 24)] ∈ wsL_foresee))
  have kc13 := hts (.classLink RL 13 nIAE) (by decide +kernel)
  have kc24 := hts (.classLink RL 24 nIOB) (by decide +kernel)
  have hS : va_S (AO ad ad2 o9 s.heap.size) s.heap s.heap [] := va_S.rf
  have hl := lv_entry ([.ref xa, .int x, .int y, .ref o9]) (n := 5) (Nat.le_of_ble_eq_true rfl)
  rw [lg_entry_eq]
  generalize (lg_sl ([.ref xa, .int x, .int y, .ref o9]) ++ List.replicate (5 - (lg_sl ([.ref xa, .int x, .int y, .ref o9])).length) Slot.unset).toArray = ls at hl ⊢
  have hl : lv_has ls 5 [(0, .ref xa), (1, .int x), (2, .int y), (3, .ref o9)] := hl
  refine lv_aload_n hx hb dL_foresee_0 rfl (lv_at hl 3 rfl) ?_
  refine lv_iconst (v := 0) hx hb dL_foresee_1 (by decide) ?_
  refine lv_aload_n hx hb dL_foresee_2 rfl (lv_at hl 0 rfl) ?_
  refine lv_iload_n hx hb dL_foresee_3 rfl (lv_at hl 1 rfl) ?_
  refine lv_iload_n hx hb dL_foresee_4 rfl (lv_at hl 2 rfl) ?_
  refine kXi (vx_runV (As := [.int x, .int y]) (rest := [.int 0, .ref o9]) ⟨hx, hb, hml, hown, hts⟩ (c_X3_foresee l hfl G xa ad ad2 hI nH nP hH hP δ τ z s.heap.size x y hv) (cwV 2 hts gL_foresee_X3_foresee rfl rfl rfl (by decide +kernel) ⟨Nat.le_of_ble_eq_true rfl, Nat.le_of_ble_eq_true rfl⟩) ⟨Pc3.blind, va_recv hK (va_P1 hW.choose_spec.1.1) (ci := 3) (q0 := 0) rfl rfl, Pc3.pre hW hK hX hS (fun _ h => Or.inl h)⟩ rfl rfl hl.1 rfl (lv_room (Nat.le_of_ble_eq_true rfl)) dL_foresee_5 ⟨Nat.le_of_ble_eq_true rfl, Nat.le_of_ble_eq_true rfl⟩) hS (fun _ h => Or.inl h) (fun _ h => Or.inl h) (fun _ h => Or.inl h) (fun E ce q9 H locs hE hW hk hS hc hv9 hcl => ?_) (fun H locs ok hW hk hS => ?_)
  · have hO := hO.kept (hk _ hO.lt (hoa.no ho9))
    rcases hE with ⟨rfl, t1⟩ | ⟨rfl, t1, t2⟩
    · skip
      refine vx_catch hown [] (⟨0, 10, 13, 13⟩ : ExceptionTableEntry) [(⟨0, 10, 17, 24⟩ : ExceptionTableEntry)] (htab.trans rfl) (fun z hz => absurd hz List.not_mem_nil) (by decide) (by decide) kc13 (va_Nw.use rfl hX.2.1.1) hc hv9 hcl ?_
      refine lv_astore (lv' := [(4, .ref q9), (0, .ref xa), (1, .int x), (2, .int y), (3, .ref o9)]) hx hb dL_foresee_13 hl (by decide) rfl (fun ls hl => ?_)
      refine lv_iconst (v := 1) hx hb dL_foresee_15 (by decide) ?_
      exact xW 1 hx hb hr hlocks (Or.inr (Or.inl ⟨rfl, fun q => t1 q⟩)) ⟨hW, d, hO, fun q => absurd q (by decide)⟩ hS (show (1 : Int32) = nI 1 by decide) (Nat.le_of_ble_eq_true rfl) (Nat.le_of_ble_eq_true rfl) dL_foresee_16
    · skip
      refine vx_catch hown [(⟨0, 10, 13, 13⟩ : ExceptionTableEntry)] (⟨0, 10, 17, 24⟩ : ExceptionTableEntry) [] (htab.trans rfl) (fun z hz => by
        obtain rfl := List.mem_singleton.mp hz
        exact Or.inr ⟨by decide, nIAE, kc13, hNc.2.2.2⟩) (by decide) (by decide) kc24 (va_Nw.use rfl hX.2.1.2.2.1) hc hv9 hcl ?_
      refine lv_astore (lv' := [(4, .ref q9), (0, .ref xa), (1, .int x), (2, .int y), (3, .ref o9)]) hx hb dL_foresee_17 hl (by decide) rfl (fun ls hl => ?_)
      refine lv_iconst (v := 2) hx hb dL_foresee_19 (by decide) ?_
      exact xW 2 hx hb hr hlocks (Or.inr (Or.inr ⟨rfl, t1, fun q => t2 q⟩)) ⟨hW, d, hO, fun q => absurd q (by decide)⟩ hS (show (2 : Int32) = nI 2 by decide) (Nat.le_of_ble_eq_true rfl) (Nat.le_of_ble_eq_true rfl) dL_foresee_20
  · have hO := hO.kept (hk _ hO.lt (hoa.no ho9))
    refine lv_i2l hx hb dL_foresee_8 rfl ?_
    refine wO hx hb hKL hO hS (Or.inr rfl) dL_foresee_9 (fun H locs hO e3 hS => ?_)
    have hW := hW.keptO hoa e3
    refine lv_goto (tgt := 21) hx hb dL_foresee_10 (by decide) ?_
    refine lv_iconst (v := 0) hx hb dL_foresee_21 (by decide) ?_
    exact xW 0 hx hb hr hlocks (Or.inl ⟨rfl, ok⟩) ⟨hW, _, hO, fun _ => rfl⟩ hS (show (0 : Int32) = nI 0 by decide) (Nat.le_of_ble_eq_true rfl) (Nat.le_of_ble_eq_true rfl) dL_foresee_22

set_option maxHeartbeats 4000000 in
set_option maxRecDepth 100000 in
theorem c_L_advise (l : Launch) (hfl : l.stackTraces = false) (G : wG) (cL : ClassId) (xa : Nat) (ad ad2 : Nat → Nat) (hI : XI xa ad ad2) (nH nP : Nat) (hH : nH ≤ 10) (hP : nP ≤ 3) (δ τ z : wS) (nz o9 : Nat) (d : Int64) (x y : Int32) (hv : Inv nH nP τ) (hoa : OA o9 xa ad ad2) (ho9 : o9 < nz) : vx_Met l yL_advise wsL_advise ({ frames := 8, cells := 2, slots := 12, locals := 164 } : Room) (PcW G cL [.ref xa, .int x, .int y, .ref o9] nz (AO ad ad2 o9 nz) (fun H => XWz G xa ad ad2 (wmx nH nP δ τ) z H ∧ va_at G.1 vwCl (o9, oLn cL d) H)) (Qwi (fun u => (u = 0 ∧ hOk nH x ∧ inn 1 50 y) ∨ (u = 1 ∧ ¬ (hOk nH x)) ∨ (u = 2 ∧ hOk nH x ∧ ¬ (inn 1 50 y))) (fun u H => XWz G xa ad ad2 (wmx nH nP δ τ) (sel u ((adI nH nP τ z (cl x) (cl y) nP).2.2) z) H ∧ ∃ d, va_at G.1 vwCl (o9, oLn cL d) H ∧ (u = 0 → d = Int32.toInt64 ((adI nH nP τ z (cl x) (cl y) nP).1))) (AO ad ad2 o9 nz)) XF 2 12 (AO ad ad2 o9 nz) := by
  refine vx_ofWH (cc := cL_advise) (maxL := 5) (ret := (some .int)) (hh := [(0, 10, 13, 24), (0, 10, 17, 13)]) (by decide) rfl ?_
  intro pg ev s mid args below meth cd s₁ B hml hv0
  obtain ⟨rfl, rfl, ⟨hW, hO⟩, hKL, hX, hNc⟩ := hv0
  have hx := B.exec
  have hb := B.bytes
  have hr := B.returns
  have hts := atoms_spec (ws := wsL_advise) B.pre
  have hown : s.vm.findClass RL = some mid.cls := findClass_of_methodNamed B.named
  have hlocks := B.notSynchronized
  have hK := hKL.k
  have htab := vx_table (x := yL_advise) B (hts _ (List.mem_cons_self : Cond.codeWith yL_advise cL_advise 5 (some .int) [(0, 10, 13, 24), (0, 10, 17, 13)] ∈ wsL_advise))
  have kc24 := hts (.classLink RL 24 nIOB) (by decide +kernel)
  have kc13 := hts (.classLink RL 13 nIAE) (by decide +kernel)
  have hS : va_S (AO ad ad2 o9 s.heap.size) s.heap s.heap [] := va_S.rf
  have hl := lv_entry ([.ref xa, .int x, .int y, .ref o9]) (n := 5) (Nat.le_of_ble_eq_true rfl)
  rw [lg_entry_eq]
  generalize (lg_sl ([.ref xa, .int x, .int y, .ref o9]) ++ List.replicate (5 - (lg_sl ([.ref xa, .int x, .int y, .ref o9])).length) Slot.unset).toArray = ls at hl ⊢
  have hl : lv_has ls 5 [(0, .ref xa), (1, .int x), (2, .int y), (3, .ref o9)] := hl
  refine lv_aload_n hx hb dL_advise_0 rfl (lv_at hl 3 rfl) ?_
  refine lv_iconst (v := 0) hx hb dL_advise_1 (by decide) ?_
  refine lv_aload_n hx hb dL_advise_2 rfl (lv_at hl 0 rfl) ?_
  refine lv_iload_n hx hb dL_advise_3 rfl (lv_at hl 1 rfl) ?_
  refine lv_iload_n hx hb dL_advise_4 rfl (lv_at hl 2 rfl) ?_
  refine kXi (vx_runV (As := [.int x, .int y]) (rest := [.int 0, .ref o9]) ⟨hx, hb, hml, hown, hts⟩ (c_X3_advise l hfl G xa ad ad2 hI nH nP hH hP δ τ z s.heap.size x y hv) (cwV 2 hts gL_advise_X3_advise rfl rfl rfl (by decide +kernel) ⟨Nat.le_of_ble_eq_true rfl, Nat.le_of_ble_eq_true rfl⟩) ⟨Pc3.blind, va_recv hK (va_P1 hW.choose_spec.1.1) (ci := 3) (q0 := 0) rfl rfl, Pc3.pre hW hK hX hS (fun _ h => Or.inl h)⟩ rfl rfl hl.1 rfl (lv_room (Nat.le_of_ble_eq_true rfl)) dL_advise_5 ⟨Nat.le_of_ble_eq_true rfl, Nat.le_of_ble_eq_true rfl⟩) hS (fun _ h => Or.inl h) (fun _ h => Or.inl h) (fun _ h => Or.inl h) (fun E ce q9 H locs hE hW hk hS hc hv9 hcl => ?_) (fun H locs ok hW hk hS => ?_)
  · have hO := hO.kept (hk _ hO.lt (hoa.no ho9))
    rcases hE with ⟨rfl, t1⟩ | ⟨rfl, t1, t2⟩
    · skip
      refine vx_catch hown [] (⟨0, 10, 13, 24⟩ : ExceptionTableEntry) [(⟨0, 10, 17, 13⟩ : ExceptionTableEntry)] (htab.trans rfl) (fun z hz => absurd hz List.not_mem_nil) (by decide) (by decide) kc24 (va_Nw.use rfl hX.2.1.2.2.1) hc hv9 hcl ?_
      refine lv_astore (lv' := [(4, .ref q9), (0, .ref xa), (1, .int x), (2, .int y), (3, .ref o9)]) hx hb dL_advise_13 hl (by decide) rfl (fun ls hl => ?_)
      refine lv_iconst (v := 1) hx hb dL_advise_15 (by decide) ?_
      exact xW 1 hx hb hr hlocks (Or.inr (Or.inl ⟨rfl, fun q => t1 q⟩)) ⟨hW, d, hO, fun q => absurd q (by decide)⟩ hS (show (1 : Int32) = nI 1 by decide) (Nat.le_of_ble_eq_true rfl) (Nat.le_of_ble_eq_true rfl) dL_advise_16
    · skip
      refine vx_catch hown [(⟨0, 10, 13, 24⟩ : ExceptionTableEntry)] (⟨0, 10, 17, 13⟩ : ExceptionTableEntry) [] (htab.trans rfl) (fun z hz => by
        obtain rfl := List.mem_singleton.mp hz
        exact Or.inr ⟨by decide, nIOB, kc24, hNc.2.1⟩) (by decide) (by decide) kc13 (va_Nw.use rfl hX.2.1.1) hc hv9 hcl ?_
      refine lv_astore (lv' := [(4, .ref q9), (0, .ref xa), (1, .int x), (2, .int y), (3, .ref o9)]) hx hb dL_advise_17 hl (by decide) rfl (fun ls hl => ?_)
      refine lv_iconst (v := 2) hx hb dL_advise_19 (by decide) ?_
      exact xW 2 hx hb hr hlocks (Or.inr (Or.inr ⟨rfl, t1, fun q => t2 q⟩)) ⟨hW, d, hO, fun q => absurd q (by decide)⟩ hS (show (2 : Int32) = nI 2 by decide) (Nat.le_of_ble_eq_true rfl) (Nat.le_of_ble_eq_true rfl) dL_advise_20
  · have hO := hO.kept (hk _ hO.lt (hoa.no ho9))
    refine lv_i2l hx hb dL_advise_8 rfl ?_
    refine wO hx hb hKL hO hS (Or.inr rfl) dL_advise_9 (fun H locs hO e3 hS => ?_)
    have hW := hW.keptO hoa e3
    refine lv_goto (tgt := 21) hx hb dL_advise_10 (by decide) ?_
    refine lv_iconst (v := 0) hx hb dL_advise_21 (by decide) ?_
    exact xW 0 hx hb hr hlocks (Or.inl ⟨rfl, ok⟩) ⟨hW, _, hO, fun _ => rfl⟩ hS (show (0 : Int32) = nI 0 by decide) (Nat.le_of_ble_eq_true rfl) (Nat.le_of_ble_eq_true rfl) dL_advise_22

set_option maxHeartbeats 4000000 in
set_option maxRecDepth 100000 in
theorem c_L_unfair (l : Launch) (hfl : l.stackTraces = false) (G : wG) (cL : ClassId) (xa : Nat) (ad ad2 : Nat → Nat) (hI : XI xa ad ad2) (nH nP : Nat) (hH : nH ≤ 10) (hP : nP ≤ 3) (δ τ z : wS) (nz o9 : Nat) (d : Int64) (x : Int32) (hv : Inv nH nP τ) (hoa : OA o9 xa ad ad2) (ho9 : o9 < nz) : vx_Met l yL_unfair wsL_unfair ({ frames := 8, cells := 1, slots := 6, locals := 128 } : Room) (PcW G cL [.ref xa, .int x, .ref o9] nz (AO ad ad2 o9 nz) (fun H => XWz G xa ad ad2 (wmx nH nP δ τ) z H ∧ va_at G.1 vwCl (o9, oLn cL d) H)) (Qwi (fun u => (u = 0 ∧ pOk nP x) ∨ (u = 1 ∧ ¬ (pOk nP x))) (fun u H => XWz G xa ad ad2 (wmx nH nP δ τ) z H ∧ ∃ d, va_at G.1 vwCl (o9, oLn cL d) H ∧ (u = 0 → d = Int32.toInt64 (unF nH τ (cl x)))) (AO ad ad2 o9 nz)) XF 1 6 (AO ad ad2 o9 nz) := by
  refine vx_ofWH (cc := cL_unfair) (maxL := 4) (ret := (some .int)) (hh := [(0, 9, 12, 24)]) (by decide) rfl ?_
  intro pg ev s mid args below meth cd s₁ B hml hv0
  obtain ⟨rfl, rfl, ⟨hW, hO⟩, hKL, hX, hNc⟩ := hv0
  have hx := B.exec
  have hb := B.bytes
  have hr := B.returns
  have hts := atoms_spec (ws := wsL_unfair) B.pre
  have hown : s.vm.findClass RL = some mid.cls := findClass_of_methodNamed B.named
  have hlocks := B.notSynchronized
  have hK := hKL.k
  have htab := vx_table (x := yL_unfair) B (hts _ (List.mem_cons_self : Cond.codeWith yL_unfair cL_unfair 4 (some .int) [(0, 9, 12, 24)] ∈ wsL_unfair))
  have kc24 := hts (.classLink RL 24 nIOB) (by decide +kernel)
  have hS : va_S (AO ad ad2 o9 s.heap.size) s.heap s.heap [] := va_S.rf
  have hl := lv_entry ([.ref xa, .int x, .ref o9]) (n := 4) (Nat.le_of_ble_eq_true rfl)
  rw [lg_entry_eq]
  generalize (lg_sl ([.ref xa, .int x, .ref o9]) ++ List.replicate (4 - (lg_sl ([.ref xa, .int x, .ref o9])).length) Slot.unset).toArray = ls at hl ⊢
  have hl : lv_has ls 4 [(0, .ref xa), (1, .int x), (2, .ref o9)] := hl
  refine lv_aload_n hx hb dL_unfair_0 rfl (lv_at hl 2 rfl) ?_
  refine lv_iconst (v := 0) hx hb dL_unfair_1 (by decide) ?_
  refine lv_aload_n hx hb dL_unfair_2 rfl (lv_at hl 0 rfl) ?_
  refine lv_iload_n hx hb dL_unfair_3 rfl (lv_at hl 1 rfl) ?_
  refine kXi (vx_runV (As := [.int x]) (rest := [.int 0, .ref o9]) ⟨hx, hb, hml, hown, hts⟩ (c_X3_unfair l hfl G xa ad ad2 hI nH nP hH hP δ τ z s.heap.size x hv) (cwV 1 hts gL_unfair_X3_unfair rfl rfl rfl (by decide +kernel) ⟨Nat.le_of_ble_eq_true rfl, Nat.le_of_ble_eq_true rfl⟩) ⟨Pc3.blind, va_recv hK (va_P1 hW.choose_spec.1.1) (ci := 3) (q0 := 0) rfl rfl, Pc3.pre hW hK hX hS (fun _ h => Or.inl h)⟩ rfl rfl hl.1 rfl (lv_room (Nat.le_of_ble_eq_true rfl)) dL_unfair_4 ⟨Nat.le_of_ble_eq_true rfl, Nat.le_of_ble_eq_true rfl⟩) hS (fun _ h => Or.inl h) (fun _ h => Or.inl h) (fun _ h => Or.inl h) (fun E ce q9 H locs hE hW hk hS hc hv9 hcl => ?_) (fun H locs ok hW hk hS => ?_)
  · have hO := hO.kept (hk _ hO.lt (hoa.no ho9))
    obtain ⟨rfl, t1⟩ := hE
    refine vx_catch hown [] (⟨0, 9, 12, 24⟩ : ExceptionTableEntry) [] (htab.trans rfl) (fun z hz => absurd hz List.not_mem_nil) (by decide) (by decide) kc24 (va_Nw.use rfl hX.2.1.2.2.1) hc hv9 hcl ?_
    refine lv_astore_n (lv' := [(3, .ref q9), (0, .ref xa), (1, .int x), (2, .ref o9)]) hx hb dL_unfair_12 rfl hl (by decide) rfl (fun ls hl => ?_)
    refine lv_iconst (v := 1) hx hb dL_unfair_13 (by decide) ?_
    exact xW 1 hx hb hr hlocks (Or.inr ⟨rfl, fun q => t1 q⟩) ⟨hW, d, hO, fun q => absurd q (by decide)⟩ hS (show (1 : Int32) = nI 1 by decide) (Nat.le_of_ble_eq_true rfl) (Nat.le_of_ble_eq_true rfl) dL_unfair_14
  · have hO := hO.kept (hk _ hO.lt (hoa.no ho9))
    refine lv_i2l hx hb dL_unfair_7 rfl ?_
    refine wO hx hb hKL hO hS (Or.inr rfl) dL_unfair_8 (fun H locs hO e3 hS => ?_)
    have hW := hW.keptO hoa e3
    refine lv_goto (tgt := 15) hx hb dL_unfair_9 (by decide) ?_
    refine lv_iconst (v := 0) hx hb dL_unfair_15 (by decide) ?_
    exact xW 0 hx hb hr hlocks (Or.inl ⟨rfl, ok⟩) ⟨hW, _, hO, fun _ => rfl⟩ hS (show (0 : Int32) = nI 0 by decide) (Nat.le_of_ble_eq_true rfl) (Nat.le_of_ble_eq_true rfl) dL_unfair_16
