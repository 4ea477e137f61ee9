theorem NW_of {A : Array Value} {U : State} (h : ∀ w ∈ lw_tbl, w.before A U = true) : NW U := by
  intro w hw
  have h2 := nws_nest w hw
  have h1 := h w (List.mem_filter.mp hw).1
  cases w <;> first | (simp [isNest] at h2; done) | exact va_Nw.of rfl h1
theorem ar_of {args : Array Value} {s : State} {ty : FieldType} (h : (Cond.arrayClass ty).before args s = true) : ∃ cA : ClassId, ArrOfT s cA ty ∧ s.vm.findClass ("[" ++ ty.toString) = some cA := by
  obtain ⟨cA, k, comp, h1, h2, h3⟩ := Cond.arrayClass_spec h
  exact ⟨cA, fun n z => ⟨fun k9 h9 => (by cases h9), k, h2, comp, h3⟩, h1⟩
theorem arA_of {s : State} (h : aoA s) : ∃ cA : ClassId, ArrOfT s cA (.array .int) ∧ s.vm.findClass ("[" ++ (FieldType.array .int).toString) = some cA := by
  obtain ⟨comp, cA, k, h1, h2, h3, h4, h5⟩ := arrayOverA_spec h
  exact ⟨cA, fun n z => ⟨fun k9 h9 => (by cases h9), k, h3, comp, h4⟩, h5⟩
set_option maxRecDepth 100000 in
theorem sx_0 {b : Nat} {s : State} (hts0 : ∀ w ∈ lw_tbl, w.before #[Value.ref b] s = true) (hgv : (Jvm.Cond.and given_1 narrow_1).before #[Value.ref b] s = true) : ∃ t : Nat, va_Z stC (stN 0) "[I" (.ref t) (fun q => s.heap.size ≤ q) s s.heap ∧ va_T .int t 18 (fun j => .int (stab 0 j)) (fun q => s.heap.size ≤ q) s s.heap := by
  have hs := flat_of_before _ hgv
  have hnA : ∀ a : Nat, a < s.heap.size → ¬ (fun q => s.heap.size ≤ q) a := fun a h => Nat.not_le.mpr h
  have hel : ∀ j : Nat, j < 18 → (Term.elem (.static "SpeciesSolver" "AT_FIRST" "[I") (.int (Int32.ofNat j))).eval #[Value.ref b] s none [] s = some ((fun j => Value.int (stab 0 j)) j) := by
    intro j hj
    match j, hj with
    | 0, _ => exact va_eqt (hs (Cond.eq (.elem (.static "SpeciesSolver" "AT_FIRST" "[I") (.int 0)) (.int (2741))) (by decide +kernel))
    | 1, _ => exact va_eqt (hs (Cond.eq (.elem (.static "SpeciesSolver" "AT_FIRST" "[I") (.int 1)) (.int (60))) (by decide +kernel))
    | 2, _ => exact va_eqt (hs (Cond.eq (.elem (.static "SpeciesSolver" "AT_FIRST" "[I") (.int 2)) (.int (72))) (by decide +kernel))
    | 3, _ => exact va_eqt (hs (Cond.eq (.elem (.static "SpeciesSolver" "AT_FIRST" "[I") (.int 3)) (.int (921))) (by decide +kernel))
    | 4, _ => exact va_eqt (hs (Cond.eq (.elem (.static "SpeciesSolver" "AT_FIRST" "[I") (.int 4)) (.int (129))) (by decide +kernel))
    | 5, _ => exact va_eqt (hs (Cond.eq (.elem (.static "SpeciesSolver" "AT_FIRST" "[I") (.int 5)) (.int (129))) (by decide +kernel))
    | 6, _ => exact va_eqt (hs (Cond.eq (.elem (.static "SpeciesSolver" "AT_FIRST" "[I") (.int 6)) (.int (1))) (by decide +kernel))
    | 7, _ => exact va_eqt (hs (Cond.eq (.elem (.static "SpeciesSolver" "AT_FIRST" "[I") (.int 7)) (.int (3136))) (by decide +kernel))
    | 8, _ => exact va_eqt (hs (Cond.eq (.elem (.static "SpeciesSolver" "AT_FIRST" "[I") (.int 8)) (.int (2))) (by decide +kernel))
    | 9, _ => exact va_eqt (hs (Cond.eq (.elem (.static "SpeciesSolver" "AT_FIRST" "[I") (.int 9)) (.int (12))) (by decide +kernel))
    | 10, _ => exact va_eqt (hs (Cond.eq (.elem (.static "SpeciesSolver" "AT_FIRST" "[I") (.int 10)) (.int (4))) (by decide +kernel))
    | 11, _ => exact va_eqt (hs (Cond.eq (.elem (.static "SpeciesSolver" "AT_FIRST" "[I") (.int 11)) (.int (1))) (by decide +kernel))
    | 12, _ => exact va_eqt (hs (Cond.eq (.elem (.static "SpeciesSolver" "AT_FIRST" "[I") (.int 12)) (.int (5))) (by decide +kernel))
    | 13, _ => exact va_eqt (hs (Cond.eq (.elem (.static "SpeciesSolver" "AT_FIRST" "[I") (.int 13)) (.int (3))) (by decide +kernel))
    | 14, _ => exact va_eqt (hs (Cond.eq (.elem (.static "SpeciesSolver" "AT_FIRST" "[I") (.int 14)) (.int (1))) (by decide +kernel))
    | 15, _ => exact va_eqt (hs (Cond.eq (.elem (.static "SpeciesSolver" "AT_FIRST" "[I") (.int 15)) (.int (2))) (by decide +kernel))
    | 16, _ => exact va_eqt (hs (Cond.eq (.elem (.static "SpeciesSolver" "AT_FIRST" "[I") (.int 16)) (.int (1))) (by decide +kernel))
    | 17, _ => exact va_eqt (hs (Cond.eq (.elem (.static "SpeciesSolver" "AT_FIRST" "[I") (.int 17)) (.int (1))) (by decide +kernel))
    | j + 18, h => exact absurd h (by omega)
  obtain ⟨t, ht, hT⟩ := va_Tof (ty := .int) (N := 18) (f := fun j => .int (stab 0 j)) (by decide) (hs (Cond.arrayOf (.static "SpeciesSolver" "AT_FIRST" "[I") .int) (by decide +kernel)) (va_eqt (hs (Cond.eq (.length (.static "SpeciesSolver" "AT_FIRST" "[I")) (.int 18)) (by decide +kernel))) hel hnA
  exact ⟨t, va_Zref (hts0 _ (List.mem_of_getElem? (i := 156) (by decide +kernel))) (hts0 _ (List.mem_filter.mp gw_111).1) ht hnA, hT⟩
set_option maxRecDepth 100000 in
theorem sx_1 {b : Nat} {s : State} (hts0 : ∀ w ∈ lw_tbl, w.before #[Value.ref b] s = true) (hgv : (Jvm.Cond.and given_1 narrow_1).before #[Value.ref b] s = true) : ∃ t : Nat, va_Z stC (stN 1) "[I" (.ref t) (fun q => s.heap.size ≤ q) s s.heap ∧ va_T .int t 18 (fun j => .int (stab 1 j)) (fun q => s.heap.size ≤ q) s s.heap := by
  have hs := flat_of_before _ hgv
  have hnA : ∀ a : Nat, a < s.heap.size → ¬ (fun q => s.heap.size ≤ q) a := fun a h => Nat.not_le.mpr h
  have hel : ∀ j : Nat, j < 18 → (Term.elem (.static "SpeciesSolver" "LEAST" "[I") (.int (Int32.ofNat j))).eval #[Value.ref b] s none [] s = some ((fun j => Value.int (stab 1 j)) j) := by
    intro j hj
    match j, hj with
    | 0, _ => exact va_eqt (hs (Cond.eq (.elem (.static "SpeciesSolver" "LEAST" "[I") (.int 0)) (.int (0))) (by decide +kernel))
    | 1, _ => exact va_eqt (hs (Cond.eq (.elem (.static "SpeciesSolver" "LEAST" "[I") (.int 1)) (.int (0))) (by decide +kernel))
    | 2, _ => exact va_eqt (hs (Cond.eq (.elem (.static "SpeciesSolver" "LEAST" "[I") (.int 2)) (.int (0))) (by decide +kernel))
    | 3, _ => exact va_eqt (hs (Cond.eq (.elem (.static "SpeciesSolver" "LEAST" "[I") (.int 3)) (.int (0))) (by decide +kernel))
    | 4, _ => exact va_eqt (hs (Cond.eq (.elem (.static "SpeciesSolver" "LEAST" "[I") (.int 4)) (.int (0))) (by decide +kernel))
    | 5, _ => exact va_eqt (hs (Cond.eq (.elem (.static "SpeciesSolver" "LEAST" "[I") (.int 5)) (.int (0))) (by decide +kernel))
    | 6, _ => exact va_eqt (hs (Cond.eq (.elem (.static "SpeciesSolver" "LEAST" "[I") (.int 6)) (.int (0))) (by decide +kernel))
    | 7, _ => exact va_eqt (hs (Cond.eq (.elem (.static "SpeciesSolver" "LEAST" "[I") (.int 7)) (.int (0))) (by decide +kernel))
    | 8, _ => exact va_eqt (hs (Cond.eq (.elem (.static "SpeciesSolver" "LEAST" "[I") (.int 8)) (.int (1))) (by decide +kernel))
    | 9, _ => exact va_eqt (hs (Cond.eq (.elem (.static "SpeciesSolver" "LEAST" "[I") (.int 9)) (.int (1))) (by decide +kernel))
    | 10, _ => exact va_eqt (hs (Cond.eq (.elem (.static "SpeciesSolver" "LEAST" "[I") (.int 10)) (.int (1))) (by decide +kernel))
    | 11, _ => exact va_eqt (hs (Cond.eq (.elem (.static "SpeciesSolver" "LEAST" "[I") (.int 11)) (.int (1))) (by decide +kernel))
    | 12, _ => exact va_eqt (hs (Cond.eq (.elem (.static "SpeciesSolver" "LEAST" "[I") (.int 12)) (.int (0))) (by decide +kernel))
    | 13, _ => exact va_eqt (hs (Cond.eq (.elem (.static "SpeciesSolver" "LEAST" "[I") (.int 13)) (.int (0))) (by decide +kernel))
    | 14, _ => exact va_eqt (hs (Cond.eq (.elem (.static "SpeciesSolver" "LEAST" "[I") (.int 14)) (.int (0))) (by decide +kernel))
    | 15, _ => exact va_eqt (hs (Cond.eq (.elem (.static "SpeciesSolver" "LEAST" "[I") (.int 15)) (.int (0))) (by decide +kernel))
    | 16, _ => exact va_eqt (hs (Cond.eq (.elem (.static "SpeciesSolver" "LEAST" "[I") (.int 16)) (.int (0))) (by decide +kernel))
    | 17, _ => exact va_eqt (hs (Cond.eq (.elem (.static "SpeciesSolver" "LEAST" "[I") (.int 17)) (.int (0))) (by decide +kernel))
    | j + 18, h => exact absurd h (by omega)
  obtain ⟨t, ht, hT⟩ := va_Tof (ty := .int) (N := 18) (f := fun j => .int (stab 1 j)) (by decide) (hs (Cond.arrayOf (.static "SpeciesSolver" "LEAST" "[I") .int) (by decide +kernel)) (va_eqt (hs (Cond.eq (.length (.static "SpeciesSolver" "LEAST" "[I")) (.int 18)) (by decide +kernel))) hel hnA
  exact ⟨t, va_Zref (hts0 _ (List.mem_of_getElem? (i := 458) (by decide +kernel))) (hts0 _ (List.mem_filter.mp gw_111).1) ht hnA, hT⟩
set_option maxRecDepth 100000 in
theorem sx_2 {b : Nat} {s : State} (hts0 : ∀ w ∈ lw_tbl, w.before #[Value.ref b] s = true) (hgv : (Jvm.Cond.and given_1 narrow_1).before #[Value.ref b] s = true) : ∃ t : Nat, va_Z stC (stN 2) "[I" (.ref t) (fun q => s.heap.size ≤ q) s s.heap ∧ va_T .int t 18 (fun j => .int (stab 2 j)) (fun q => s.heap.size ≤ q) s s.heap := by
  have hs := flat_of_before _ hgv
  have hnA : ∀ a : Nat, a < s.heap.size → ¬ (fun q => s.heap.size ≤ q) a := fun a h => Nat.not_le.mpr h
  have hel : ∀ j : Nat, j < 18 → (Term.elem (.static "SpeciesSolver" "MOST" "[I") (.int (Int32.ofNat j))).eval #[Value.ref b] s none [] s = some ((fun j => Value.int (stab 2 j)) j) := by
    intro j hj
    match j, hj with
    | 0, _ => exact va_eqt (hs (Cond.eq (.elem (.static "SpeciesSolver" "MOST" "[I") (.int 0)) (.int (4095))) (by decide +kernel))
    | 1, _ => exact va_eqt (hs (Cond.eq (.elem (.static "SpeciesSolver" "MOST" "[I") (.int 1)) (.int (127))) (by decide +kernel))
    | 2, _ => exact va_eqt (hs (Cond.eq (.elem (.static "SpeciesSolver" "MOST" "[I") (.int 2)) (.int (127))) (by decide +kernel))
    | 3, _ => exact va_eqt (hs (Cond.eq (.elem (.static "SpeciesSolver" "MOST" "[I") (.int 3)) (.int (4095))) (by decide +kernel))
    | 4, _ => exact va_eqt (hs (Cond.eq (.elem (.static "SpeciesSolver" "MOST" "[I") (.int 4)) (.int (4095))) (by decide +kernel))
    | 5, _ => exact va_eqt (hs (Cond.eq (.elem (.static "SpeciesSolver" "MOST" "[I") (.int 5)) (.int (4095))) (by decide +kernel))
    | 6, _ => exact va_eqt (hs (Cond.eq (.elem (.static "SpeciesSolver" "MOST" "[I") (.int 6)) (.int (4095))) (by decide +kernel))
    | 7, _ => exact va_eqt (hs (Cond.eq (.elem (.static "SpeciesSolver" "MOST" "[I") (.int 7)) (.int (33554431))) (by decide +kernel))
    | 8, _ => exact va_eqt (hs (Cond.eq (.elem (.static "SpeciesSolver" "MOST" "[I") (.int 8)) (.int (12))) (by decide +kernel))
    | 9, _ => exact va_eqt (hs (Cond.eq (.elem (.static "SpeciesSolver" "MOST" "[I") (.int 9)) (.int (24))) (by decide +kernel))
    | 10, _ => exact va_eqt (hs (Cond.eq (.elem (.static "SpeciesSolver" "MOST" "[I") (.int 10)) (.int (24))) (by decide +kernel))
    | 11, _ => exact va_eqt (hs (Cond.eq (.elem (.static "SpeciesSolver" "MOST" "[I") (.int 11)) (.int (3))) (by decide +kernel))
    | 12, _ => exact va_eqt (hs (Cond.eq (.elem (.static "SpeciesSolver" "MOST" "[I") (.int 12)) (.int (1000))) (by decide +kernel))
    | 13, _ => exact va_eqt (hs (Cond.eq (.elem (.static "SpeciesSolver" "MOST" "[I") (.int 13)) (.int (1000))) (by decide +kernel))
    | 14, _ => exact va_eqt (hs (Cond.eq (.elem (.static "SpeciesSolver" "MOST" "[I") (.int 14)) (.int (1000))) (by decide +kernel))
    | 15, _ => exact va_eqt (hs (Cond.eq (.elem (.static "SpeciesSolver" "MOST" "[I") (.int 15)) (.int (1000))) (by decide +kernel))
    | 16, _ => exact va_eqt (hs (Cond.eq (.elem (.static "SpeciesSolver" "MOST" "[I") (.int 16)) (.int (1000))) (by decide +kernel))
    | 17, _ => exact va_eqt (hs (Cond.eq (.elem (.static "SpeciesSolver" "MOST" "[I") (.int 17)) (.int (1000))) (by decide +kernel))
    | j + 18, h => exact absurd h (by omega)
  obtain ⟨t, ht, hT⟩ := va_Tof (ty := .int) (N := 18) (f := fun j => .int (stab 2 j)) (by decide) (hs (Cond.arrayOf (.static "SpeciesSolver" "MOST" "[I") .int) (by decide +kernel)) (va_eqt (hs (Cond.eq (.length (.static "SpeciesSolver" "MOST" "[I")) (.int 18)) (by decide +kernel))) hel hnA
  exact ⟨t, va_Zref (hts0 _ (List.mem_of_getElem? (i := 460) (by decide +kernel))) (hts0 _ (List.mem_filter.mp gw_111).1) ht hnA, hT⟩
set_option maxHeartbeats 4000000 in
set_option maxRecDepth 100000 in
theorem law_ctx {p : Program} {s : State} {m : MethodId} {meth : Method} {c : Code} {b L : Nat} {xs : Nat → Int32} (C0 : lw_At p s m meth c b L xs) : ∃ (D : va_G) (kc : Nat → ClassId), CxL p s m meth c b L xs D kc := by
  obtain ⟨hx, hb, hr, hml, hown, hts0, hXs, hbl, hlocks, hgv⟩ := C0
  have hts : ∀ w ∈ GW, w.before #[Value.ref b] s = true := fun w h => hts0 w (List.mem_filter.mp h).1
  have hO : aoA s := aoA.of (hts0 (.arrayOver (.array .int)) (List.mem_of_getElem? (i := 154) (by decide +kernel)))
  obtain ⟨c0, i0, hn0⟩ := u_known (C := R_SpeciesSolver) (T := T_SpeciesSolver) (N := 12) (n := 12) hts inG_SpeciesSolver (hts _ gw_120)
  obtain ⟨c1, i1, hn1⟩ := u_known (C := R_SpeciesSolverModel) (T := T_SpeciesSolverModel) (N := 35) (n := 35) hts inG_SpeciesSolverModel (hts _ gw_813)
  obtain ⟨c2, i2, hn2⟩ := u_known (C := R_FaultFinder) (T := T_FaultFinder) (N := 8) (n := 8) hts inG_FaultFinder (hts _ gw_212)
  obtain ⟨c3, i3, hn3⟩ := u_known (C := R_Line) (T := T_Line) (N := 2) (n := 2) hts inG_Line (hts _ gw_128)
  obtain ⟨c4, i4, hn4⟩ := u_known (C := R_Prices) (T := T_Prices) (N := 15) (n := 15) hts inG_Prices (hts _ gw_243)
  obtain ⟨c5, i5, hn5⟩ := u_known (C := R_Rules) (T := T_Rules) (N := 1) (n := 1) hts inG_Rules (hts _ gw_202)
  obtain ⟨c6, i6, hn6⟩ := u_known (C := R_Search) (T := T_Search) (N := 18) (n := 18) hts inG_Search (hts _ gw_303)
  obtain ⟨c7, i7, hn7⟩ := u_known (C := R_Setup) (T := T_Setup) (N := 7) (n := 7) hts inG_Setup (hts _ gw_148)
  obtain ⟨k0, ha0, hf0⟩ := ar_of (hts _ gw_146)
  obtain ⟨k1, ha1, hf1⟩ := ar_of (hts _ gw_200)
  obtain ⟨k2, ha2, hf2⟩ := ar_of (hts _ gw_367)
  obtain ⟨k3, ha3, hf3⟩ := arA_of hO
  obtain ⟨t0, hz0⟩ := sx_0 hts0 hgv
  obtain ⟨t1, hz1⟩ := sx_1 hts0 hgv
  obtain ⟨t2, hz2⟩ := sx_2 hts0 hgv
  refine ⟨(fun k => if k = 0 then c0 else if k = 1 then c1 else if k = 2 then c2 else if k = 3 then c3 else if k = 4 then c4 else if k = 5 then c5 else if k = 6 then c6 else c7, fun k => if k = 0 then i0 else if k = 1 then i1 else if k = 2 then i2 else if k = 3 then i3 else if k = 4 then i4 else if k = 5 then i5 else if k = 6 then i6 else i7), fun k => if k = 0 then k0 else if k = 1 then k1 else if k = 2 then k2 else k3, hx, hb, hr, hts, hown, hml, hlocks, ⟨fun k q hq => ?_, fun k q hq => ?_⟩, NW_of hts0, ⟨fun k => if k = 0 then t0 else if k = 1 then t1 else t2, fun k hk => ?_⟩, hO, hXs, hbl⟩
  · match k, hq with
    | 0, hq => cases hq; exact hn0
    | 1, hq => cases hq; exact hn1
    | 2, hq => cases hq; exact hn2
    | 3, hq => cases hq; exact hn3
    | 4, hq => cases hq; exact hn4
    | 5, hq => cases hq; exact hn5
    | 6, hq => cases hq; exact hn6
    | 7, hq => cases hq; exact hn7
    | k + 8, hq => simp [vwCl] at hq
  · match k, hq with
    | 0, hq => cases hq; exact ⟨ha0, hf0⟩
    | 1, hq => cases hq; exact ⟨ha1, hf1⟩
    | 2, hq => cases hq; exact ⟨ha2, hf2⟩
    | 3, hq => cases hq; exact ⟨ha3, hf3⟩
    | k + 4, hq => simp [tysG] at hq
  · match k, hk with
    | 0, _ => exact hz0
    | 1, _ => exact hz1
    | 2, _ => exact hz2
    | k + 3, h => exact absurd h (by omega)
def sc0 (r : (Nat → Int32) × (Nat → Int32)) : SC := ((-1 : Int32), (1 : Int32), (0 : Int32), (0 : Int32), (0 : Int32), (0 : Int32), (1 : Int32), (1 : Int32), r.1, r.2, (fun _ _ => 0), (0 : Int32), (0 : Int32), (0 : Int32), (fun _ => 0), (fun _ => 0), (fun _ => 0), (0 : Int32), (0 : Int32), (1 : Int32), (0 : Int32), (fun _ => 0), (fun _ => 0), (fun _ => 0), (fun _ => 0), (fun _ => 0), (fun _ => 0), (fun _ => 0), (fun _ => 0), (fun _ => 0), (0 : Int32), (0 : Int32), (0 : Int32), (-1 : Int32), (0 : Int64), (0 : Int64), (fun _ => 0), (fun _ => 0), (fun _ => 0), (fun _ => 0), (fun _ => 0), (fun _ => 0), (fun _ => 0), (fun _ => 0), (fun _ => 0), (fun _ => 0), (0 : Int32), (fun _ => 0), (0 : Int32), (fun _ => 0), (0 : Int32), (fun _ => 0))
def sm0 (r : (Nat → Int32) × (Nat → Int32)) : SM := ((0 : Int32), (0 : Int32), (0 : Int32), (0 : Int32), (1 : Int32), (1 : Int32), (0 : Int32), (0 : Int32), (0 : Int32), (0 : Int32), (-1 : Int32), (0 : Int32), (0 : Int32), (0 : Int64), (0 : Int64), (0 : Int32), (0 : Int64), (0 : Int64), (0 : Int32), (fun _ => 0), (fun _ => 0), r.1, r.2, (fun _ => 0), (fun _ => 0), (fun _ => 0), (fun _ => 0), (fun _ => 0), (fun _ => 0), (fun _ => 0), (fun _ => 0), (fun _ => 0), (fun _ => 0), (fun _ => 0), (fun _ => 0))
def m_law (F L : Nat) (xs : Nat → Int32) : Option Int32 := bd (m_SpeciesSolver_init F) (fun u => bd (m_SpeciesSolverModel_init F) (fun v => m_law_l F L xs F (sc0 u) (sm0 v) 0))
set_option maxHeartbeats 8000000 in
set_option maxRecDepth 100000 in
theorem law_start {p : Program} {e : Env} {s : State} {m : MethodId} {below : List Frame} {meth : Method} {c : Code} (l : Launch) {F b L : Nat} {xs : Nat → Int32} (hm : m_law F L xs = some 1) (C0 : lw_At p s m meth c b L xs) : W p l e room_1 s m #[Value.ref b] below meth c s.heap [] 0 0 (lw_Z below #[Value.ref b] s) (entryFrame m ([Value.ref b] : List Value).toArray 4) := by
  obtain ⟨D, kc, C⟩ := law_ctx C0
  obtain ⟨hx, hb, hr, hts, hown, hml, hlocks, hK, hN, hX, hO, hXs, hbl⟩ := id C
  have hA : ∀ q : Nat, s.heap.size ≤ q → (fun q => s.heap.size ≤ q) q := fun _ h => h
  have hS : va_S (fun q => s.heap.size ≤ q) s.heap s.heap [] := va_S.rf
  have hP : va_P D vwCl [] s.heap := fun k q h => by simp at h
  have hD : va_D (fun q => s.heap.size ≤ q) [] := ⟨fun i j p q h => by simp at h, fun k q h => by simp at h⟩
  have hl := lv_entry ([.ref b]) (n := 4) (Nat.le_of_ble_eq_true rfl)
  rw [lg_entry_eq]
  generalize (lg_sl ([.ref b]) ++ List.replicate (4 - (lg_sl ([.ref b])).length) Slot.unset).toArray = ls at hl ⊢
  have hl : lv_has ls 4 [(0, .ref b)] := hl
  unfold m_law at hm
  obtain ⟨u, hcu, hm⟩ := bd_some hm
  obtain ⟨v, hcv, hm⟩ := bd_some hm
  refine va_new (ci := 0) (fs := [.null, .null, .null, .null, .null, .null, .null, .null, .int 0, .int 0, .int 0, .int 0]) (C := R_SpeciesSolver) (T := T_SpeciesSolver) (N := 12) hx hb hts inG_SpeciesSolver ty_SpeciesSolver tok_SpeciesSolver hown (hts _ gw_119) (hts _ gw_120) (hts _ gw_111) hK hP hD hS hA rfl (by decide +kernel) (Nat.le_of_ble_eq_true rfl) (Nat.le_of_ble_eq_true rfl) d_law_0 (fun q0 H hP hD hS => ?_)
  refine W.widen (k := 1) (n := 12) (Nat.le_of_ble_eq_true rfl) (Nat.le_of_ble_eq_true rfl) ?_
  replace hP : va_P D vwCl [(q0, .inr (0, [.null, .null, .null, .null, .null, .null, .null, .null, .int 0, .int 0, .int 0, .int 0]))] H := hP
  replace hD : va_D (fun q => s.heap.size ≤ q) [(q0, .inr (0, [.null, .null, .null, .null, .null, .null, .null, .null, .int 0, .int 0, .int 0, .int 0]))] := hD
  refine lv_dup hx hb d_law_3 rfl ?_
  refine zn_run (n := 0) (host := "SpeciesSolver") (y := y_SpeciesSolver_init) (wr := []) (w1 := pw_SpeciesSolver_init kc q0 u) (As := []) (rest := [.ref q0]) false ⟨hx, hb, hml, hown, hts⟩ (fun sz => c_SpeciesSolver_init hcu sz) gw_123 (Or.inr ⟨rfl, gw_121⟩) gw_122 gw_111 rfl hd_SpeciesSolver_init ⟨Nat.le_of_ble_eq_true rfl, Nat.le_of_ble_eq_true rfl⟩ ⟨rfl, rfl⟩ ⟨Nat.le_of_ble_eq_true rfl, Nat.le_of_ble_eq_true rfl⟩ hK hN hP hD hS hA hX hO [0] [] rfl rfl (by decide) (by decide) (by decide) rfl hl.1 rfl (Nat.le_of_ble_eq_true rfl) d_law_4 (fun w0 H locs hP hD hS => ?_)
  refine W.widen (k := 40) (n := 132741) (Nat.le_of_ble_eq_true rfl) (Nat.le_of_ble_eq_true rfl) ?_
  replace hP : va_P D vwCl (pw_SpeciesSolver_init kc q0 u w0) H := hP
  replace hD : va_D (fun q => s.heap.size ≤ q) (pw_SpeciesSolver_init kc q0 u w0) := hD
  refine lv_astore_n (lv' := [(1, .ref q0), (0, .ref b)]) hx hb d_law_7 rfl hl (by decide) rfl (fun ls hl => ?_)
  refine va_new (ci := 1) (fs := [.int 0, .null, .int 0, .null, .int 0, .int 0, .int 0, .int 0, .null, .null, .null, .int 0, .null, .int 0, .int 0, .int 0, .int 0, .null, .int 0, .null, .null, .null, .int 0, .long 0, .long 0, .null, .null, .int 0, .long 0, .long 0, .null, .null, .null, .null, .int 0]) (C := R_SpeciesSolverModel) (T := T_SpeciesSolverModel) (N := 35) hx hb hts inG_SpeciesSolverModel ty_SpeciesSolverModel tok_SpeciesSolverModel hown (hts _ gw_812) (hts _ gw_813) (hts _ gw_118) hK hP hD hS hA rfl (by decide +kernel) (Nat.le_of_ble_eq_true rfl) (Nat.le_of_ble_eq_true rfl) d_law_8 (fun q1 H hP hD hS => ?_)
  refine W.widen (k := 41) (n := 132776) (Nat.le_of_ble_eq_true rfl) (Nat.le_of_ble_eq_true rfl) ?_
  replace hP : va_P D vwCl (pw_SpeciesSolver_init kc q0 u w0 ++ [(q1, .inr (1, [.int 0, .null, .int 0, .null, .int 0, .int 0, .int 0, .int 0, .null, .null, .null, .int 0, .null, .int 0, .int 0, .int 0, .int 0, .null, .int 0, .null, .null, .null, .int 0, .long 0, .long 0, .null, .null, .int 0, .long 0, .long 0, .null, .null, .null, .null, .int 0]))]) H := hP
  replace hD : va_D (fun q => s.heap.size ≤ q) (pw_SpeciesSolver_init kc q0 u w0 ++ [(q1, .inr (1, [.int 0, .null, .int 0, .null, .int 0, .int 0, .int 0, .int 0, .null, .null, .null, .int 0, .null, .int 0, .int 0, .int 0, .int 0, .null, .int 0, .null, .null, .null, .int 0, .long 0, .long 0, .null, .null, .int 0, .long 0, .long 0, .null, .null, .null, .null, .int 0]))]) := hD
  refine lv_dup hx hb d_law_11 rfl ?_
  refine zn_run (n := 0) (host := "SpeciesSolver") (y := y_SpeciesSolverModel_init) (wr := pw_SpeciesSolver_init kc q0 u w0) (w1 := pw_SpeciesSolverModel_init kc q1 v) (As := []) (rest := [.ref q1]) false ⟨hx, hb, hml, hown, hts⟩ (fun sz => c_SpeciesSolverModel_init hcv sz) gw_816 (Or.inr ⟨rfl, gw_814⟩) gw_815 gw_118 rfl hd_SpeciesSolverModel_init ⟨Nat.le_of_ble_eq_true rfl, Nat.le_of_ble_eq_true rfl⟩ ⟨rfl, rfl⟩ ⟨Nat.le_of_ble_eq_true rfl, Nat.le_of_ble_eq_true rfl⟩ hK hN hP hD hS hA hX hO [40] [0, 1, 2, 3, 4, 5, 6, 7, 8, 9, 10, 11, 12, 13, 14, 15, 16, 17, 18, 19, 20, 21, 22, 23, 24, 25, 26, 27, 28, 29, 30, 31, 32, 33, 34, 35, 36, 37, 38, 39] rfl rfl (by decide) (by decide) (by decide) rfl hl.1 rfl (Nat.le_of_ble_eq_true rfl) d_law_12 (fun w1 H locs hP hD hS => ?_)
  refine W.widen (k := 57) (n := 197674) (Nat.le_of_ble_eq_true rfl) (Nat.le_of_ble_eq_true rfl) ?_
  replace hP : va_P D vwCl (pw_SpeciesSolver_init kc q0 u w0 ++ pw_SpeciesSolverModel_init kc q1 v w1) H := hP
  replace hD : va_D (fun q => s.heap.size ≤ q) (pw_SpeciesSolver_init kc q0 u w0 ++ pw_SpeciesSolverModel_init kc q1 v w1) := hD
  have hfo := fo_eq 3 (f := fun i => w0 (5 + i)) (g := fun i => (fun i : Nat => if i = 0 then q0 else w0 i) (5 + i)) (fun i h => by rcases (show i = 0 ∨ i = 1 ∨ i = 2 by omega) with rfl | rfl | rfl <;> rfl)
  unfold pw_SpeciesSolver_init at hP hD
  rw [hfo] at hP hD
  have hP9 : va_P D vwCl (wl kc (fun i : Nat => if i = 0 then q0 else w0 i) (fun i : Nat => if i = 0 then q1 else w1 i) (sc0 u) (sm0 v)) H := hP.sub [0, 7, 8, 9, 10, 11, 12, 13, 14, 15, 16, 17, 18, 19, 20, 21, 22, 23, 24, 25, 26, 27, 28, 29, 30, 31, 32, 33, 34, 35, 36, 37, 38, 39, 1, 2, 3, 4, 5, 6, 40, 41, 42, 43, 44, 45, 46, 47, 48, 49, 50, 51, 52, 53, 54, 55, 56] rfl
  have hD9 : va_D (fun q => s.heap.size ≤ q) (wl kc (fun i : Nat => if i = 0 then q0 else w0 i) (fun i : Nat => if i = 0 then q1 else w1 i) (sc0 u) (sm0 v)) := hD.sub [0, 7, 8, 9, 10, 11, 12, 13, 14, 15, 16, 17, 18, 19, 20, 21, 22, 23, 24, 25, 26, 27, 28, 29, 30, 31, 32, 33, 34, 35, 36, 37, 38, 39, 1, 2, 3, 4, 5, 6, 40, 41, 42, 43, 44, 45, 46, 47, 48, 49, 50, 51, 52, 53, 54, 55, 56] (by decide) rfl
  refine lv_astore_n (lv' := [(2, .ref q1), (1, .ref q0), (0, .ref b)]) hx hb d_law_15 rfl hl (by decide) rfl (fun ls hl => ?_)
  refine lv_iconst (v := 0) hx hb d_law_16 (by decide) ?_
  refine lv_istore_n (lv' := [(3, .int 0), (2, .ref q1), (1, .ref q0), (0, .ref b)]) hx hb d_law_17 rfl hl (by decide) rfl (fun ls hl => ?_)
  exact lp_law (ad := (fun i : Nat => if i = 0 then q0 else w0 i)) (am := (fun i : Nat => if i = 0 then q1 else w1 i)) C F (sc0 u) (sm0 v) 0 H locs ls hm ⟨hP9, hD9, hS⟩ (lv_sub hl [3, 2, 1, 0] rfl)