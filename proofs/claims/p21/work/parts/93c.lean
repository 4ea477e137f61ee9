/-! pure part: the reference's mayFollow, mayBegin and the words on its states -/
theorem r_before {p h : Int} (h1 : 0 ≤ p) (h2 : p < 8) (h3 : 0 ≤ h) (h4 : h < 10) : m_SpeciesSolverModel_before (I p) (I h) = some (I (rbef p h)) := by
  unfold m_SpeciesSolverModel_before rbef
  simp (disch := omega) only [gd_I, nz_I, bd_S, gb_B, nar_B, I_add, I_sub, I_mul, I_neg, I_div, I_nat, I_lt, I_le, I_eq, B_0, B_1, L_0, L_1, L_2, L_3, L_4, L_5, L_6, L_7, L_8, L_9, L_10, L_11, L_12, L_13, L_14, L_15, L_16, L_17, L_24, L_31, L_45, L_80, L_127, L_200, L_640, L_1280, L_1000000000, T_0, T_1, T_2, T_3, T_4, T_5, T_6, T_7, T_8, T_9, T_10, T_11, T_12, T_13, T_14, T_15, T_16, T_17]
  split <;> rfl
theorem r_runOf {p h : Int} (h1 : 0 ≤ p) (h2 : p < 8) (h3 : 0 ≤ h) (h4 : h < 10) : m_SpeciesSolverModel_runOf (I p) (I h) = some (I (rrun p h)) := by
  unfold m_SpeciesSolverModel_runOf rrun
  simp (disch := omega) only [gd_I, nz_I, bd_S, gb_B, nar_B, I_add, I_sub, I_mul, I_neg, I_div, I_nat, I_lt, I_le, I_eq, B_0, B_1, L_0, L_1, L_2, L_3, L_4, L_5, L_6, L_7, L_8, L_9, L_10, L_11, L_12, L_13, L_14, L_15, L_16, L_17, L_24, L_31, L_45, L_80, L_127, L_200, L_640, L_1280, L_1000000000, T_0, T_1, T_2, T_3, T_4, T_5, T_6, T_7, T_8, T_9, T_10, T_11, T_12, T_13, T_14, T_15, T_16, T_17]
  (repeat' split) <;> rfl
theorem rrun_r (p h : Int) : 1 ≤ rrun p h ∧ rrun p h ≤ 3 := by unfold rrun; (repeat' split) <;> omega
theorem r_nextHow {p h q : Int} (h1 : 0 ≤ p) (h2 : p < 8) (h3 : 0 ≤ h) (h4 : h < 10) (h5 : 0 ≤ q) (h6 : q < 8) : m_SpeciesSolverModel_nextHow (I p) (I h) (I q) = some (I (rhow p h q)) := by
  have := rrun_r p h
  unfold m_SpeciesSolverModel_nextHow rhow
  simp (disch := omega) only [gd_I, nz_I, bd_S, gb_B, nar_B, I_add, I_sub, I_mul, I_neg, I_div, I_nat, I_lt, I_le, I_eq, B_0, B_1, L_0, L_1, L_2, L_3, L_4, L_5, L_6, L_7, L_8, L_9, L_10, L_11, L_12, L_13, L_14, L_15, L_16, L_17, L_24, L_31, L_45, L_80, L_127, L_200, L_640, L_1280, L_1000000000, T_0, T_1, T_2, T_3, T_4, T_5, T_6, T_7, T_8, T_9, T_10, T_11, T_12, T_13, T_14, T_15, T_16, T_17, r_runOf]
  (repeat' split) <;> rfl
theorem r_usedBy {m u q : Int} (h1 : -2 ≤ m) (h2 : m < 8) (h3 : 0 ≤ q) (h4 : q < 8) : m_SpeciesSolverModel_usedBy (I m) (I u) (I q) = some (I (rused m u q)) := by
  unfold m_SpeciesSolverModel_usedBy rused
  simp (disch := omega) only [gd_I, nz_I, bd_S, gb_B, nar_B, I_add, I_sub, I_mul, I_neg, I_div, I_nat, I_lt, I_le, I_eq, B_0, B_1, L_0, L_1, L_2, L_3, L_4, L_5, L_6, L_7, L_8, L_9, L_10, L_11, L_12, L_13, L_14, L_15, L_16, L_17, L_24, L_31, L_45, L_80, L_127, L_200, L_640, L_1280, L_1000000000, T_0, T_1, T_2, T_3, T_4, T_5, T_6, T_7, T_8, T_9, T_10, T_11, T_12, T_13, T_14, T_15, T_16, T_17]
  (repeat' split) <;> rfl
theorem r_state (p h s u : Int) : m_SpeciesSolverModel_state (I p) (I h) (I s) (I u) = some (I (((p * 10 + h) * 8 + s) * 2 + u)) := by
  unfold m_SpeciesSolverModel_state
  simp (disch := omega) only [gd_I, nz_I, bd_S, gb_B, nar_B, I_add, I_sub, I_mul, I_neg, I_div, I_nat, I_lt, I_le, I_eq, B_0, B_1, L_0, L_1, L_2, L_3, L_4, L_5, L_6, L_7, L_8, L_9, L_10, L_11, L_12, L_13, L_14, L_15, L_16, L_17, L_24, L_31, L_45, L_80, L_127, L_200, L_640, L_1280, L_1000000000, T_0, T_1, T_2, T_3, T_4, T_5, T_6, T_7, T_8, T_9, T_10, T_11, T_12, T_13, T_14, T_15, T_16, T_17]
section
variable {S : Su} {nu on gi pi : Nat → Int32} {F : Nat}
theorem rbef_r {c p h : Int} (h1 : 0 ≤ p) (h2 : p < c) (h3 : 0 < h) (h4 : h ≤ c ∨ h = 9) : 0 ≤ rbef p h ∧ rbef p h < c := by
  unfold rbef; split <;> omega
theorem r_mf_it (hw : WF S) (C : RS S nu on gi) (hF : 2000 ≤ F) (hp : PP S pi) (hc : S.c ≤ 8) {k32 : Int32 → Int32 → Int32 → Int32 → Int32 → Int32 → Int32 → Int32 → Int32 → Int32 → Option Int32} {x6 : Int32} {j p h s q l : Int} (j0 : 1 ≤ j) (j1 : j < S.N) (p0 : 0 ≤ p) (p1 : p < S.c) (s0 : 0 ≤ s) (s1 : s < S.c) (q0 : 0 ≤ q) (q1 : q < S.c) (h0 : 0 ≤ h) (h1 : h ≤ S.c ∨ h = 9) (l0 : 0 ≤ l) (l1 : l < S.L) : m_SpeciesSolverModel_mayFollow_32b F (I S.L) (I S.n) (I S.K) (B S.ab) gi on nu pi k32 (I j) (I p) (I h) (I q) x6 (I (S.P p)) (I (S.P q)) (I (S.P s)) (B true) (I l) = k32 (I j) (I p) (I h) (I q) x6 (I (S.P p)) (I (S.P q)) (I (S.P s)) (B (S.mayL j p h s q l)) (I (l + 1)) := by
  have hL := WF_L hw; have hN := WF_N hw
  have pp := P_range hw p0 p1; have ps := P_range hw s0 s1; have pq := P_range hw q0 q1
  have e139 : ∀ (b : Bool), m_SpeciesSolverModel_mayFollow_139 F (I S.L) (I S.n) (I S.K) (B S.ab) gi on nu pi k32 (I j) (I p) (I h) (I q) x6 (I (S.P p)) (I (S.P q)) (I (S.P s)) (I l) (B b) = k32 (I j) (I p) (I h) (I q) x6 (I (S.P p)) (I (S.P q)) (I (S.P s)) (B (b && ! (S.on 4 && (decide (0 < h) && (! S.strong (j - 1) && ! S.inn 3 (S.P p) (S.gv l (j - 1)) && ! S.pass (S.P (rbef p h)) (S.P p) (S.P q)))))) (I (l + 1)) := by
    intro b
    unfold m_SpeciesSolverModel_mayFollow_139 m_SpeciesSolverModel_mayFollow_182 m_SpeciesSolverModel_mayFollow_187
    by_cases hh : 0 < h
    · have rb := rbef_r p0 p1 hh h1
      have pb := P_range hw rb.1 rb.2
      have eb := hp _ rb.1 rb.2
      simp (disch := omega) only [gd_I, nz_I, bd_S, gb_B, nar_B, I_add, I_sub, I_mul, I_neg, I_div, I_nat, I_lt, I_le, I_eq, B_0, B_1, L_0, L_1, L_2, L_3, L_4, L_5, L_6, L_7, L_8, L_9, L_10, L_11, L_12, L_13, L_14, L_15, L_16, L_17, L_24, L_31, L_45, L_80, L_127, L_200, L_640, L_1280, L_1000000000, T_0, T_1, T_2, T_3, T_4, T_5, T_6, T_7, T_8, T_9, T_10, T_11, T_12, T_13, T_14, T_15, T_16, T_17, RS_on C, r_before, eb, r_rule4 hw C, B_and1, B_and0]
      have c9 : ¬ h ≤ 0 := by omega
      cases S.on 4 <;> cases (! S.strong (j - 1) && ! S.inn 3 (S.P p) (S.gv l (j - 1)) && ! S.pass (S.P (rbef p h)) (S.P p) (S.P q)) <;> simp [c9, hh]
    · simp (disch := omega) only [gd_I, nz_I, bd_S, gb_B, nar_B, I_add, I_sub, I_mul, I_neg, I_div, I_nat, I_lt, I_le, I_eq, B_0, B_1, L_0, L_1, L_2, L_3, L_4, L_5, L_6, L_7, L_8, L_9, L_10, L_11, L_12, L_13, L_14, L_15, L_16, L_17, L_24, L_31, L_45, L_80, L_127, L_200, L_640, L_1280, L_1000000000, T_0, T_1, T_2, T_3, T_4, T_5, T_6, T_7, T_8, T_9, T_10, T_11, T_12, T_13, T_14, T_15, T_16, T_17, RS_on C, B_and1]
      have c9 : h ≤ 0 := by omega
      cases S.on 4 <;> simp [c9, hh]
  have e113 : m_SpeciesSolverModel_mayFollow_113 F (I S.L) (I S.n) (I S.K) (B S.ab) gi on nu pi k32 (I j) (I p) (I h) (I q) x6 (I (S.P p)) (I (S.P q)) (I (S.P s)) (I l) = k32 (I j) (I p) (I h) (I q) x6 (I (S.P p)) (I (S.P q)) (I (S.P s)) (B (! (S.on 3 && S.cross l j (S.P q)) && ! (S.on 4 && (decide (0 < h) && (! S.strong (j - 1) && ! S.inn 3 (S.P p) (S.gv l (j - 1)) && ! S.pass (S.P (rbef p h)) (S.P p) (S.P q)))))) (I (l + 1)) := by
    unfold m_SpeciesSolverModel_mayFollow_113 m_SpeciesSolverModel_mayFollow_134 m_SpeciesSolverModel_mayFollow_138
    rw [show (0 : Int32) = B false from rfl, show (1 : Int32) = B true from rfl]
    simp only [e139]
    rw [show B false = I 0 from rfl]
    simp (disch := omega) only [gd_I, nz_I, bd_S, gb_B, nar_B, I_add, I_sub, I_mul, I_neg, I_div, I_nat, I_lt, I_le, I_eq, B_0, B_1, L_0, L_1, L_2, L_3, L_4, L_5, L_6, L_7, L_8, L_9, L_10, L_11, L_12, L_13, L_14, L_15, L_16, L_17, L_24, L_31, L_45, L_80, L_127, L_200, L_640, L_1280, L_1000000000, T_0, T_1, T_2, T_3, T_4, T_5, T_6, T_7, T_8, T_9, T_10, T_11, T_12, T_13, T_14, T_15, T_16, T_17, RS_on C, r_rule3 hw C]
    cases S.on 3 <;> cases S.cross l j (S.P q) <;> simp [B_f]
  have e138 : m_SpeciesSolverModel_mayFollow_138 F (I S.L) (I S.n) (I S.K) (B S.ab) gi on nu pi k32 (I j) (I p) (I h) (I q) x6 (I (S.P p)) (I (S.P q)) (I (S.P s)) (I l) = k32 (I j) (I p) (I h) (I q) x6 (I (S.P p)) (I (S.P q)) (I (S.P s)) (B false) (I (l + 1)) := by
    unfold m_SpeciesSolverModel_mayFollow_138
    rw [show (0 : Int32) = B false from rfl, e139]; rfl
  have e90 : m_SpeciesSolverModel_mayFollow_90 F (I S.L) (I S.n) (I S.K) (B S.ab) gi on nu pi k32 (I j) (I p) (I h) (I q) x6 (I (S.P p)) (I (S.P q)) (I (S.P s)) (I l) = k32 (I j) (I p) (I h) (I q) x6 (I (S.P p)) (I (S.P q)) (I (S.P s)) (B (! (S.on 2 && (S.strong j && S.hid l j (S.P s) (S.P q))) && (! (S.on 3 && S.cross l j (S.P q)) && ! (S.on 4 && (decide (0 < h) && (! S.strong (j - 1) && ! S.inn 3 (S.P p) (S.gv l (j - 1)) && ! S.pass (S.P (rbef p h)) (S.P p) (S.P q))))))) (I (l + 1)) := by
    unfold m_SpeciesSolverModel_mayFollow_90
    simp (disch := omega) only [gd_I, nz_I, bd_S, gb_B, nar_B, I_add, I_sub, I_mul, I_neg, I_div, I_nat, I_lt, I_le, I_eq, B_0, B_1, L_0, L_1, L_2, L_3, L_4, L_5, L_6, L_7, L_8, L_9, L_10, L_11, L_12, L_13, L_14, L_15, L_16, L_17, L_24, L_31, L_45, L_80, L_127, L_200, L_640, L_1280, L_1000000000, T_0, T_1, T_2, T_3, T_4, T_5, T_6, T_7, T_8, T_9, T_10, T_11, T_12, T_13, T_14, T_15, T_16, T_17, RS_on C, r_rule2 hw C, e113, e138]
    cases S.on 2 <;> cases (S.strong j && S.hid l j (S.P s) (S.P q)) <;> simp
  have e67 : m_SpeciesSolverModel_mayFollow_67 F (I S.L) (I S.n) (I S.K) (B S.ab) gi on nu pi k32 (I j) (I p) (I h) (I q) x6 (I (S.P p)) (I (S.P q)) (I (S.P s)) (I l) = k32 (I j) (I p) (I h) (I q) x6 (I (S.P p)) (I (S.P q)) (I (S.P s)) (B (! (S.on 1 && (S.strong j && S.par l j (S.P s) (S.P q))) && (! (S.on 2 && (S.strong j && S.hid l j (S.P s) (S.P q))) && (! (S.on 3 && S.cross l j (S.P q)) && ! (S.on 4 && (decide (0 < h) && (! S.strong (j - 1) && ! S.inn 3 (S.P p) (S.gv l (j - 1)) && ! S.pass (S.P (rbef p h)) (S.P p) (S.P q)))))))) (I (l + 1)) := by
    unfold m_SpeciesSolverModel_mayFollow_67
    simp (disch := omega) only [gd_I, nz_I, bd_S, gb_B, nar_B, I_add, I_sub, I_mul, I_neg, I_div, I_nat, I_lt, I_le, I_eq, B_0, B_1, L_0, L_1, L_2, L_3, L_4, L_5, L_6, L_7, L_8, L_9, L_10, L_11, L_12, L_13, L_14, L_15, L_16, L_17, L_24, L_31, L_45, L_80, L_127, L_200, L_640, L_1280, L_1000000000, T_0, T_1, T_2, T_3, T_4, T_5, T_6, T_7, T_8, T_9, T_10, T_11, T_12, T_13, T_14, T_15, T_16, T_17, RS_on C, r_rule1 hw C, e90, e138]
    cases S.on 1 <;> cases (S.strong j && S.par l j (S.P s) (S.P q)) <;> simp
  unfold m_SpeciesSolverModel_mayFollow_32b
  simp (disch := omega) only [gd_I, nz_I, bd_S, gb_B, nar_B, I_add, I_sub, I_mul, I_neg, I_div, I_nat, I_lt, I_le, I_eq, B_0, B_1, L_0, L_1, L_2, L_3, L_4, L_5, L_6, L_7, L_8, L_9, L_10, L_11, L_12, L_13, L_14, L_15, L_16, L_17, L_24, L_31, L_45, L_80, L_127, L_200, L_640, L_1280, L_1000000000, T_0, T_1, T_2, T_3, T_4, T_5, T_6, T_7, T_8, T_9, T_10, T_11, T_12, T_13, T_14, T_15, T_16, T_17, RS_on C, r_rule0 hw C, e67, e138]
  rw [if_neg (by omega)]
  have em : S.mayL j p h s q l = (! (S.on 0 && (S.strong j && ! S.inn 3 (S.P q) (S.gv l j))) && (! (S.on 1 && (S.strong j && S.par l j (S.P s) (S.P q))) && (! (S.on 2 && (S.strong j && S.hid l j (S.P s) (S.P q))) && (! (S.on 3 && S.cross l j (S.P q)) && ! (S.on 4 && (decide (0 < h) && (! S.strong (j - 1) && ! S.inn 3 (S.P p) (S.gv l (j - 1)) && ! S.pass (S.P (rbef p h)) (S.P p) (S.P q)))))))) := by
    unfold Su.mayL
    generalize (S.on 0 && (S.strong j && ! S.inn 3 (S.P q) (S.gv l j))) = a0; generalize (S.on 1 && (S.strong j && S.par l j (S.P s) (S.P q))) = a1; generalize (S.on 2 && (S.strong j && S.hid l j (S.P s) (S.P q))) = a2; generalize (S.on 3 && S.cross l j (S.P q)) = a3; generalize (S.on 4 && (decide (0 < h) && (! S.strong (j - 1) && ! S.inn 3 (S.P p) (S.gv l (j - 1)) && ! S.pass (S.P (rbef p h)) (S.P p) (S.P q)))) = a4
    revert a0 a1 a2 a3 a4; decide
  rw [em]
  cases S.on 0 <;> cases (S.strong j && ! S.inn 3 (S.P q) (S.gv l j)) <;> simp
theorem r_mf_tail (hw : WF S) (C : RS S nu on gi) (hL : 0 < S.L) (hp : PP S pi) (hc : S.c ≤ 8) {lt b : Bool} {j p h q : Int} (j0 : 1 ≤ j) (j1 : j < S.N) (p0 : 0 ≤ p) (p1 : p < S.c) (q0 : 0 ≤ q) (q1 : q < S.c) (h0 : 0 ≤ h) (h1 : h ≤ S.c ∨ h = 9) : m_SpeciesSolverModel_mayFollow_196 F (I S.L) (I S.n) (I S.K) (B S.ab) gi on nu pi (I j) (I p) (I h) (I q) (B lt) (I (S.P p)) (I (S.P q)) (B b) = some (B (b && S.rtail j p h q lt)) := by
  have hN := WF_N hw
  have pp := P_range hw p0 p1; have pq := P_range hw q0 q1
  have g0 := WF_gv hw (by omega : (0 : Int) ≤ 0) hL (by omega : 0 ≤ j) j1
  have rr := rrun_r p h; have n11 := WF_11 hw
  have e299 : ∀ (x y : Bool), m_SpeciesSolverModel_mayFollow_299 F (I S.L) (I S.n) (I S.K) (B S.ab) gi on nu pi (I j) (B lt) (I (S.P p)) (I (S.P q)) (B x) (B y) = some (B (x && y && ! (lt && (decide (j = S.N - 1) && (S.on 9 && S.bclose j (S.P p) (S.P q)))))) := by
    intro x y
    unfold m_SpeciesSolverModel_mayFollow_299 Su.bclose
    simp (disch := omega) only [gd_I, nz_I, bd_S, gb_B, nar_B, I_add, I_sub, I_mul, I_neg, I_div, I_nat, I_lt, I_le, I_eq, B_0, B_1, L_0, L_1, L_2, L_3, L_4, L_5, L_6, L_7, L_8, L_9, L_10, L_11, L_12, L_13, L_14, L_15, L_16, L_17, L_24, L_31, L_45, L_80, L_127, L_200, L_640, L_1280, L_1000000000, T_0, T_1, T_2, T_3, T_4, T_5, T_6, T_7, T_8, T_9, T_10, T_11, T_12, T_13, T_14, T_15, T_16, T_17, RS_on C, r_size hw, r_at hw C, r_isIn C, r_isStep hw C, B_and, B_and1, B_and0]
    by_cases e : j = S.N - 1
    · cases lt <;> cases S.on 9 <;> cases S.inn 6 (S.P q) (S.gv 0 j) <;> cases S.step (S.P p) (S.P q) <;> simp [← e]
    · cases lt <;> simp [e]
  have e258 : ∀ (x y : Bool), m_SpeciesSolverModel_mayFollow_258 F (I S.L) (I S.n) (I S.K) (B S.ab) gi on nu pi (I j) (I p) (I h) (I q) (B lt) (I (S.P p)) (I (S.P q)) (B x) (B y) = some (B (x && y && ! (S.on 7 && (decide (q = p) && decide (S.nu 11 ≤ rrun p h))) && ! (lt && (decide (j = S.N - 1) && (S.on 9 && S.bclose j (S.P p) (S.P q)))))) := by
    intro x y
    unfold m_SpeciesSolverModel_mayFollow_258 m_SpeciesSolverModel_mayFollow_294
    rw [show (1 : Int32) = B true from rfl]
    have z : ∀ w : Bool, m_SpeciesSolverModel_mayFollow_299 F (I S.L) (I S.n) (I S.K) (B S.ab) gi on nu pi (I j) (B lt) (I (S.P p)) (I (S.P q)) (B w) (I 0) = some (B false) := by
      intro w; rw [show I 0 = B false from rfl, e299]; simp
    simp (disch := omega) only [gd_I, nz_I, bd_S, gb_B, nar_B, I_add, I_sub, I_mul, I_neg, I_div, I_nat, I_lt, I_le, I_eq, B_0, B_1, L_0, L_1, L_2, L_3, L_4, L_5, L_6, L_7, L_8, L_9, L_10, L_11, L_12, L_13, L_14, L_15, L_16, L_17, L_24, L_31, L_45, L_80, L_127, L_200, L_640, L_1280, L_1000000000, T_0, T_1, T_2, T_3, T_4, T_5, T_6, T_7, T_8, T_9, T_10, T_11, T_12, T_13, T_14, T_15, T_16, T_17, RS_on C, r_runOf, RS_nu C, B_and, e299, z]
    by_cases e : q = p
    · by_cases e2 : S.nu 11 ≤ rrun p h
      · cases S.on 7 <;> simp [e, e2]
      · cases S.on 7 <;> simp [e, e2]
    · cases S.on 7 <;> simp [e]
  have e218 : ∀ (x : Bool), m_SpeciesSolverModel_mayFollow_218 F (I S.L) (I S.n) (I S.K) (B S.ab) gi on nu pi (I j) (I p) (I h) (I q) (B lt) (I (S.P p)) (I (S.P q)) (B x) = some (B (x && ! (S.on 6 && (decide (0 < h) && S.nturn (S.P (rbef p h)) (S.P p) (S.P q))) && ! (S.on 7 && (decide (q = p) && decide (S.nu 11 ≤ rrun p h))) && ! (lt && (decide (j = S.N - 1) && (S.on 9 && S.bclose j (S.P p) (S.P q)))))) := by
    intro x
    unfold m_SpeciesSolverModel_mayFollow_218 m_SpeciesSolverModel_mayFollow_253 m_SpeciesSolverModel_mayFollow_257
    rw [show (1 : Int32) = B true from rfl]
    have z : m_SpeciesSolverModel_mayFollow_258 F (I S.L) (I S.n) (I S.K) (B S.ab) gi on nu pi (I j) (I p) (I h) (I q) (B lt) (I (S.P p)) (I (S.P q)) (B x) (I 0) = some (B false) := by
      rw [show I 0 = B false from rfl, e258]; simp
    by_cases hh : 0 < h
    · have rb := rbef_r p0 p1 hh h1
      have pb := P_range hw rb.1 rb.2
      have eb := hp _ rb.1 rb.2
      simp (disch := omega) only [gd_I, nz_I, bd_S, gb_B, nar_B, I_add, I_sub, I_mul, I_neg, I_div, I_nat, I_lt, I_le, I_eq, B_0, B_1, L_0, L_1, L_2, L_3, L_4, L_5, L_6, L_7, L_8, L_9, L_10, L_11, L_12, L_13, L_14, L_15, L_16, L_17, L_24, L_31, L_45, L_80, L_127, L_200, L_640, L_1280, L_1000000000, T_0, T_1, T_2, T_3, T_4, T_5, T_6, T_7, T_8, T_9, T_10, T_11, T_12, T_13, T_14, T_15, T_16, T_17, RS_on C, r_before, eb, r_rule6 hw C, e258, z]
      have c9 : ¬ h ≤ 0 := by omega
      cases S.on 6 <;> cases S.nturn (S.P (rbef p h)) (S.P p) (S.P q) <;> simp [c9, hh]
    · simp (disch := omega) only [gd_I, nz_I, bd_S, gb_B, nar_B, I_add, I_sub, I_mul, I_neg, I_div, I_nat, I_lt, I_le, I_eq, B_0, B_1, L_0, L_1, L_2, L_3, L_4, L_5, L_6, L_7, L_8, L_9, L_10, L_11, L_12, L_13, L_14, L_15, L_16, L_17, L_24, L_31, L_45, L_80, L_127, L_200, L_640, L_1280, L_1000000000, T_0, T_1, T_2, T_3, T_4, T_5, T_6, T_7, T_8, T_9, T_10, T_11, T_12, T_13, T_14, T_15, T_16, T_17, RS_on C, e258, z]
      have c9 : h ≤ 0 := by omega
      cases S.on 6 <;> simp [c9, hh]
  have e257 : m_SpeciesSolverModel_mayFollow_257 F (I S.L) (I S.n) (I S.K) (B S.ab) gi on nu pi (I j) (I p) (I h) (I q) (B lt) (I (S.P p)) (I (S.P q)) (B b) = some (B false) := by
    unfold m_SpeciesSolverModel_mayFollow_257
    rw [show (0 : Int32) = B false from rfl, e258]; simp
  unfold m_SpeciesSolverModel_mayFollow_196 Su.rtail
  simp (disch := omega) only [gd_I, nz_I, bd_S, gb_B, nar_B, I_add, I_sub, I_mul, I_neg, I_div, I_nat, I_lt, I_le, I_eq, B_0, B_1, L_0, L_1, L_2, L_3, L_4, L_5, L_6, L_7, L_8, L_9, L_10, L_11, L_12, L_13, L_14, L_15, L_16, L_17, L_24, L_31, L_45, L_80, L_127, L_200, L_640, L_1280, L_1000000000, T_0, T_1, T_2, T_3, T_4, T_5, T_6, T_7, T_8, T_9, T_10, T_11, T_12, T_13, T_14, T_15, T_16, T_17, RS_on C, r_rule5 hw C, e218, e257]
  cases S.on 5 <;> cases S.leap (S.P p) (S.P q) <;> cases b <;> simp
theorem r_mayFollow (hw : WF S) (C : RS S nu on gi) (hF : 2000 ≤ F) (hL : 0 < S.L) (hp : PP S pi) (hc : S.c ≤ 8) {lt : Bool} {j p h s q : Int} (j0 : 1 ≤ j) (j1 : j < S.N) (p0 : 0 ≤ p) (p1 : p < S.c) (s0 : 0 ≤ s) (s1 : s < S.c) (q0 : 0 ≤ q) (q1 : q < S.c) (h0 : 0 ≤ h) (h1 : h ≤ S.c ∨ h = 9) : m_SpeciesSolverModel_mayFollow F (I S.L) (I S.n) (I S.K) (B S.ab) gi on nu pi (I j) (I p) (I h) (I s) (I q) (B lt) = some (B (S.rmay j p h s q lt)) := by
  have hL2 := WF_L hw
  obtain ⟨G, hG⟩ : ∃ G, F = G + 4 := ⟨F - 4, by omega⟩
  have ep := hp _ p0 p1; have es := hp _ s0 s1; have eq := hp _ q0 q1
  have ex : ∀ (k32 : Int32 → Int32 → Int32 → Int32 → Int32 → Int32 → Int32 → Int32 → Int32 → Int32 → Option Int32) (l : Int) (b : Bool), 0 ≤ l → l < 100 → (S.L ≤ l ∨ b = false) → m_SpeciesSolverModel_mayFollow_32b F (I S.L) (I S.n) (I S.K) (B S.ab) gi on nu pi k32 (I j) (I p) (I h) (I q) (B lt) (I (S.P p)) (I (S.P q)) (I (S.P s)) (B b) (I l) = some (B (b && S.rtail j p h q lt)) := by
    intro k32 l b l0 l1 l2
    unfold m_SpeciesSolverModel_mayFollow_32b
    simp (disch := omega) only [gd_I, nz_I, bd_S, gb_B, nar_B, I_add, I_sub, I_mul, I_neg, I_div, I_nat, I_lt, I_le, I_eq, B_0, B_1, L_0, L_1, L_2, L_3, L_4, L_5, L_6, L_7, L_8, L_9, L_10, L_11, L_12, L_13, L_14, L_15, L_16, L_17, L_24, L_31, L_45, L_80, L_127, L_200, L_640, L_1280, L_1000000000, T_0, T_1, T_2, T_3, T_4, T_5, T_6, T_7, T_8, T_9, T_10, T_11, T_12, T_13, T_14, T_15, T_16, T_17, r_mf_tail hw C hL hp hc j0 j1 p0 p1 q0 q1 h0 h1]
    rcases l2 with l2 | l2
    · rw [if_pos l2]
    · rw [if_pos l2]; split <;> rfl
  have st : ∀ (k32 : Int32 → Int32 → Int32 → Int32 → Int32 → Int32 → Int32 → Int32 → Int32 → Int32 → Option Int32) (l : Int) (b : Bool), 0 ≤ l → l < S.L → m_SpeciesSolverModel_mayFollow_32b F (I S.L) (I S.n) (I S.K) (B S.ab) gi on nu pi k32 (I j) (I p) (I h) (I q) (B lt) (I (S.P p)) (I (S.P q)) (I (S.P s)) (B b) (I l) = if b then k32 (I j) (I p) (I h) (I q) (B lt) (I (S.P p)) (I (S.P q)) (I (S.P s)) (B (S.mayL j p h s q l)) (I (l + 1)) else some (B false) := by
    intro k32 l b l0 l1
    cases b with
    | true => rw [r_mf_it hw C hF hp hc j0 j1 p0 p1 s0 s1 q0 q1 h0 h1 l0 l1]; rfl
    | false => rw [ex _ _ _ l0 (by omega) (Or.inr rfl)]; rfl
  unfold m_SpeciesSolverModel_mayFollow Su.rmay
  rw [show (1 : Int32) = B true from rfl, L_0]
  simp (disch := omega) only [gd_I, nz_I, bd_S, gb_B, nar_B, I_add, I_sub, I_mul, I_neg, I_div, I_nat, I_lt, I_le, I_eq, B_0, B_1, L_0, L_1, L_2, L_3, L_4, L_5, L_6, L_7, L_8, L_9, L_10, L_11, L_12, L_13, L_14, L_15, L_16, L_17, L_24, L_31, L_45, L_80, L_127, L_200, L_640, L_1280, L_1000000000, T_0, T_1, T_2, T_3, T_4, T_5, T_6, T_7, T_8, T_9, T_10, T_11, T_12, T_13, T_14, T_15, T_16, T_17, ep, es, eq]
  rw [show m_SpeciesSolverModel_mayFollow_32 F (I S.L) (I S.n) (I S.K) (B S.ab) gi on nu pi F (I j) (I p) (I h) (I q) (B lt) (I (S.P p)) (I (S.P q)) (I (S.P s)) (B true) (I 0) = m_SpeciesSolverModel_mayFollow_32 F (I S.L) (I S.n) (I S.K) (B S.ab) gi on nu pi (G + 4) (I j) (I p) (I h) (I q) (B lt) (I (S.P p)) (I (S.P q)) (I (S.P s)) (B true) (I 0) from by rw [← hG]]
  simp only [m_SpeciesSolverModel_mayFollow_32]
  rcases (by omega : S.L = 1 ∨ S.L = 2 ∨ S.L = 3) with e | e | e
  · rw [st _ 0 _ (by omega) (by omega), ex _ _ _ (by omega) (by omega) (Or.inl (by omega)), anyL1 e]
    cases S.mayL j p h s q 0 <;> simp
  · rw [st _ 0 _ (by omega) (by omega), st _ _ _ (by omega) (by omega), ex _ _ _ (by omega) (by omega) (Or.inl (by omega)), anyL2 e]
    cases S.mayL j p h s q 0 <;> cases S.mayL j p h s q (0 + 1) <;> simp
  · rw [st _ 0 _ (by omega) (by omega), st _ _ _ (by omega) (by omega), st _ _ _ (by omega) (by omega), ex _ _ _ (by omega) (by omega) (Or.inl (by omega)), anyL3 e]
    cases S.mayL j p h s q 0 <;> cases S.mayL j p h s q (0 + 1) <;> cases S.mayL j p h s q (0 + 1 + 1) <;> simp
end
