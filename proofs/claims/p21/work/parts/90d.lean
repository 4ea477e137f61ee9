/-! pure part, 4: the reference's small methods -/
def wy (a b : Int) : Int := if b ≤ a then (if a ≤ b then 0 else -1) else 1
theorem wy_r (a b : Int) : -1 ≤ wy a b ∧ wy a b ≤ 1 := by unfold wy; (repeat' split) <;> omega
theorem B_and (a b : Bool) : B a &&& B b = B (a && b) := by cases a <;> cases b <;> decide
theorem B_or (a b : Bool) : B a ||| B b = B (a || b) := by cases a <;> cases b <;> decide
theorem B_and1 (a : Bool) : B a &&& I 1 = B a := by cases a <;> decide
theorem B_and0 (a : Bool) : B a &&& I 0 = B false := by cases a <;> decide
theorem B_or1 (a : Bool) : B a ||| I 1 = B true := by cases a <;> decide
theorem B_or0 (a : Bool) : B a ||| I 0 = B a := by cases a <;> decide
section
variable {S : Su} {nu on gi : Nat → Int32}
theorem RS_gp (C : RS S nu on gi) : ∀ l k : Int, 0 ≤ l → l < S.L → 1 ≤ k → k < S.n → gi (12 * l + k - 1).toNat = I (S.giv l (k - 1)) := by
  intro l k h1 h2 h3 h4
  have e : 12 * l + k - 1 = 12 * l + (k - 1) := by omega
  rw [e]; exact RS_gi C l (k - 1) h1 h2 (by omega) (by omega)
theorem r_far {a b : Int} (h1 : 0 ≤ a) (h2 : a ≤ 127) (h3 : 0 ≤ b) (h4 : b ≤ 127) : m_SpeciesSolverModel_far (I a) (I b) = some (I (fr a b)) := by
  unfold m_SpeciesSolverModel_far fr
  simp (disch := omega) only [gd_I, nz_I, bd_S, gb_B, nar_B, I_add, I_sub, I_mul, I_neg, I_div, I_nat, I_lt, I_le, I_eq, B_0, B_1, L_0, L_1, L_2, L_3, L_4, L_5, L_6, L_7, L_8, L_9, L_10, L_11, L_12, L_13, L_14, L_15, L_16, L_17, L_24, L_31, L_45, L_80, L_127, L_200, L_640, L_1280, L_1000000000, T_0, T_1, T_2, T_3, T_4, T_5, T_6, T_7, T_8, T_9, T_10, T_11, T_12, T_13, T_14, T_15, T_16, T_17]
  split <;> rfl
theorem r_way {a b : Int} (h1 : 0 ≤ a) (h2 : a ≤ 127) (h3 : 0 ≤ b) (h4 : b ≤ 127) : m_SpeciesSolverModel_way (I a) (I b) = some (I (wy a b)) := by
  unfold m_SpeciesSolverModel_way wy
  simp (disch := omega) only [gd_I, nz_I, bd_S, gb_B, nar_B, I_add, I_sub, I_mul, I_neg, I_div, I_nat, I_lt, I_le, I_eq, B_0, B_1, L_0, L_1, L_2, L_3, L_4, L_5, L_6, L_7, L_8, L_9, L_10, L_11, L_12, L_13, L_14, L_15, L_16, L_17, L_24, L_31, L_45, L_80, L_127, L_200, L_640, L_1280, L_1000000000, T_0, T_1, T_2, T_3, T_4, T_5, T_6, T_7, T_8, T_9, T_10, T_11, T_12, T_13, T_14, T_15, T_16, T_17]
  (repeat' split) <;> rfl
theorem r_isIn (C : RS S nu on gi) {w a b : Int} (w1 : 0 ≤ w) (w2 : w < 18) (h1 : 0 ≤ a) (h2 : a ≤ 127) (h3 : 0 ≤ b) (h4 : b ≤ 127) : m_SpeciesSolverModel_isIn nu (I w) (I a) (I b) = some (B (S.inn w.toNat a b)) := by
  have w3 : w.toNat < 18 := by omega
  have f0 := fr0 a b; have f1 := fr1 h1 h2 h3 h4
  unfold m_SpeciesSolverModel_isIn Su.inn bt r12
  simp (disch := omega) only [gd_I, nz_I, bd_S, gb_B, nar_B, I_add, I_sub, I_mul, I_neg, I_div, I_nat, I_lt, I_le, I_eq, B_0, B_1, L_0, L_1, L_2, L_3, L_4, L_5, L_6, L_7, L_8, L_9, L_10, L_11, L_12, L_13, L_14, L_15, L_16, L_17, L_24, L_31, L_45, L_80, L_127, L_200, L_640, L_1280, L_1000000000, T_0, T_1, T_2, T_3, T_4, T_5, T_6, T_7, T_8, T_9, T_10, T_11, T_12, T_13, T_14, T_15, T_16, T_17, r_far, ite_B, RS_nu C]
theorem r_at (h : WF S) (C : RS S nu on gi) {l j : Int} (l0 : 0 ≤ l) (l1 : l < S.L) (h1 : 0 ≤ j) (h2 : j < S.N) : m_SpeciesSolverModel_at (I S.K) gi (I l) (I j) = some (I (S.gv l j)) := by
  have := WF_K4 h; have := WF_L h; have := WF_n h; have := WF_N h
  have q := WF_jK h h1 h2
  unfold m_SpeciesSolverModel_at Su.gv
  simp (disch := omega) only [gd_I, nz_I, bd_S, gb_B, nar_B, I_add, I_sub, I_mul, I_neg, I_div, I_nat, I_lt, I_le, I_eq, B_0, B_1, L_0, L_1, L_2, L_3, L_4, L_5, L_6, L_7, L_8, L_9, L_10, L_11, L_12, L_13, L_14, L_15, L_16, L_17, L_24, L_31, L_45, L_80, L_127, L_200, L_640, L_1280, L_1000000000, T_0, T_1, T_2, T_3, T_4, T_5, T_6, T_7, T_8, T_9, T_10, T_11, T_12, T_13, T_14, T_15, T_16, T_17, RS_gi C]
theorem r_isStrong (h : WF S) {j : Int} (h1 : 0 ≤ j) (h2 : j < 45) : m_SpeciesSolverModel_isStrong (I S.K) (I j) = some (B (S.strong j)) := by
  have := WF_K4 h
  have e : 0 ≤ j - j / S.K * S.K ∧ j - j / S.K * S.K < 45 := by rcases WF_K h with e | e | e <;> rw [e] <;> omega
  unfold m_SpeciesSolverModel_isStrong Su.strong
  simp (disch := omega) only [gd_I, nz_I, bd_S, gb_B, nar_B, I_add, I_sub, I_mul, I_neg, I_div, I_nat, I_lt, I_le, I_eq, B_0, B_1, L_0, L_1, L_2, L_3, L_4, L_5, L_6, L_7, L_8, L_9, L_10, L_11, L_12, L_13, L_14, L_15, L_16, L_17, L_24, L_31, L_45, L_80, L_127, L_200, L_640, L_1280, L_1000000000, T_0, T_1, T_2, T_3, T_4, T_5, T_6, T_7, T_8, T_9, T_10, T_11, T_12, T_13, T_14, T_15, T_16, T_17, ite_B]
theorem r_isStep (h : WF S) (C : RS S nu on gi) {a b : Int} (h1 : 0 ≤ a) (h2 : a ≤ 127) (h3 : 0 ≤ b) (h4 : b ≤ 127) : m_SpeciesSolverModel_isStep nu (I a) (I b) = some (B (S.step a b)) := by
  have n8 := WF_nu h 8 (by decide); have f0 := fr0 a b; have f1 := fr1 h1 h2 h3 h4
  have e : fr a b < 1 ↔ a = b := by unfold fr; split <;> omega
  unfold m_SpeciesSolverModel_isStep Su.step
  simp (disch := omega) only [gd_I, nz_I, bd_S, gb_B, nar_B, I_add, I_sub, I_mul, I_neg, I_div, I_nat, I_lt, I_le, I_eq, B_0, B_1, L_0, L_1, L_2, L_3, L_4, L_5, L_6, L_7, L_8, L_9, L_10, L_11, L_12, L_13, L_14, L_15, L_16, L_17, L_24, L_31, L_45, L_80, L_127, L_200, L_640, L_1280, L_1000000000, T_0, T_1, T_2, T_3, T_4, T_5, T_6, T_7, T_8, T_9, T_10, T_11, T_12, T_13, T_14, T_15, T_16, T_17, r_far, RS_nu C, e]
  ((repeat' split) <;> (try simp only [sB0, sB1]) <;> (first | rfl | grind | (simp_all; done) | (simp_all; omega)))
theorem r_isAlike (h : WF S) (C : RS S nu on gi) {l j a b : Int} (l0 : 0 ≤ l) (l1 : l < S.L) (j0 : 1 ≤ j / S.K) (j1 : j < S.N) (h1 : 0 ≤ a) (h2 : a ≤ 127) (h3 : 0 ≤ b) (h4 : b ≤ 127) : m_SpeciesSolverModel_isAlike (I S.K) gi (I l) (I j) (I a) (I b) = some (B (S.alike l j a b)) := by
  have hK := WF_K4 h; have := WF_L h; have := WF_n h; have := WF_N h
  have j00 : 0 ≤ j := by
    rcases WF_K h with e | e | e <;> rw [e] at j0 <;> omega
  have q := WF_jK h j00 j1
  have g0 := WF_g h l _ l0 l1 q.1 q.2
  have g1 := WF_g h l (j / S.K - 1) l0 l1 (by omega) (by omega)
  have w0 := wy_r a b
  have w1 := wy_r (S.giv l (j / S.K - 1)) (S.giv l (j / S.K))
  have e1 : S.gv l j = S.giv l (j / S.K) := rfl
  have e2 : S.gp l j = S.giv l (j / S.K - 1) := rfl
  unfold m_SpeciesSolverModel_isAlike Su.alike
  rw [e1, e2]
  have e3 := r_at h C l0 l1 j00 j1
  rw [e1] at e3
  simp (disch := omega) only [gd_I, nz_I, bd_S, gb_B, nar_B, I_add, I_sub, I_mul, I_neg, I_div, I_nat, I_lt, I_le, I_eq, B_0, B_1, L_0, L_1, L_2, L_3, L_4, L_5, L_6, L_7, L_8, L_9, L_10, L_11, L_12, L_13, L_14, L_15, L_16, L_17, L_24, L_31, L_45, L_80, L_127, L_200, L_640, L_1280, L_1000000000, T_0, T_1, T_2, T_3, T_4, T_5, T_6, T_7, T_8, T_9, T_10, T_11, T_12, T_13, T_14, T_15, T_16, T_17, r_way, RS_gp C, e3]
  unfold wy
  ((repeat' split) <;> (try simp only [sB0, sB1]) <;> (first | rfl | grind | (simp_all; done) | (simp_all; omega)))
theorem r_rule0 (h : WF S) (C : RS S nu on gi) {l j p : Int} (l0 : 0 ≤ l) (l1 : l < S.L) (h1 : 0 ≤ j) (h2 : j < S.N) (h3 : 0 ≤ p) (h4 : p ≤ 127) : m_SpeciesSolverModel_rule0 (I S.K) gi nu (I l) (I j) (I p) = some (B (S.strong j && ! S.inn 3 p (S.gv l j))) := by
  have := WF_N h; have g0 := WF_gv h l0 l1 h1 h2
  unfold m_SpeciesSolverModel_rule0
  simp (disch := omega) only [gd_I, nz_I, bd_S, gb_B, nar_B, I_add, I_sub, I_mul, I_neg, I_div, I_nat, I_lt, I_le, I_eq, B_0, B_1, L_0, L_1, L_2, L_3, L_4, L_5, L_6, L_7, L_8, L_9, L_10, L_11, L_12, L_13, L_14, L_15, L_16, L_17, L_24, L_31, L_45, L_80, L_127, L_200, L_640, L_1280, L_1000000000, T_0, T_1, T_2, T_3, T_4, T_5, T_6, T_7, T_8, T_9, T_10, T_11, T_12, T_13, T_14, T_15, T_16, T_17, r_isStrong h, r_at h C, r_isIn C]
  ((repeat' split) <;> (try simp only [sB0, sB1]) <;> (first | rfl | grind | (simp_all; done) | (simp_all; omega)))
theorem r_rule1 (h : WF S) (C : RS S nu on gi) {l j a b : Int} (l0 : 0 ≤ l) (l1 : l < S.L) (j0 : 0 < j) (j1 : j < S.N) (h1 : 0 ≤ a) (h2 : a ≤ 127) (h3 : 0 ≤ b) (h4 : b ≤ 127) : m_SpeciesSolverModel_rule1 (I S.K) gi nu (I l) (I j) (I a) (I b) = some (B (S.strong j && S.par l j a b)) := by
  have hN := WF_N h; have hK := WF_K4 h; have := WF_L h; have := WF_n h
  have q := WF_jK h (by omega) j1
  have g0 := WF_gv h l0 l1 (by omega) j1
  unfold m_SpeciesSolverModel_rule1
  simp (disch := omega) only [gd_I, nz_I, bd_S, gb_B, nar_B, I_add, I_sub, I_mul, I_neg, I_div, I_nat, I_lt, I_le, I_eq, B_0, B_1, L_0, L_1, L_2, L_3, L_4, L_5, L_6, L_7, L_8, L_9, L_10, L_11, L_12, L_13, L_14, L_15, L_16, L_17, L_24, L_31, L_45, L_80, L_127, L_200, L_640, L_1280, L_1000000000, T_0, T_1, T_2, T_3, T_4, T_5, T_6, T_7, T_8, T_9, T_10, T_11, T_12, T_13, T_14, T_15, T_16, T_17, r_isStrong h]
  cases es : S.strong j with
  | false => simp (disch := omega) only [gd_I, nz_I, bd_S, gb_B, nar_B, I_add, I_sub, I_mul, I_neg, I_div, I_nat, I_lt, I_le, I_eq, B_0, B_1, L_0, L_1, L_2, L_3, L_4, L_5, L_6, L_7, L_8, L_9, L_10, L_11, L_12, L_13, L_14, L_15, L_16, L_17, L_24, L_31, L_45, L_80, L_127, L_200, L_640, L_1280, L_1000000000, T_0, T_1, T_2, T_3, T_4, T_5, T_6, T_7, T_8, T_9, T_10, T_11, T_12, T_13, T_14, T_15, T_16, T_17]; simp [es, B]
  | true =>
    have j2 : 1 ≤ j / S.K := by
      have es2 := of_decide_eq_true es
      rcases WF_K h with e | e | e <;> rw [e] at es2 ⊢ <;> omega
    have g1 : 0 ≤ S.gp l j ∧ S.gp l j ≤ 127 := WF_g h l (j / S.K - 1) l0 l1 (by omega) (by omega)
    have e2 : S.giv l (j / S.K - 1) = S.gp l j := rfl
    have f0 := fr0 a (S.gp l j); have f1 := fr1 h1 h2 g1.1 g1.2
    have f2 := fr0 b (S.gv l j); have f3 := fr1 h3 h4 g0.1 g0.2
    have f4 := r12_0 f0; have f5 := r12_0 f2
    simp (disch := omega) only [gd_I, nz_I, bd_S, gb_B, nar_B, I_add, I_sub, I_mul, I_neg, I_div, I_nat, I_lt, I_le, I_eq, B_0, B_1, L_0, L_1, L_2, L_3, L_4, L_5, L_6, L_7, L_8, L_9, L_10, L_11, L_12, L_13, L_14, L_15, L_16, L_17, L_24, L_31, L_45, L_80, L_127, L_200, L_640, L_1280, L_1000000000, T_0, T_1, T_2, T_3, T_4, T_5, T_6, T_7, T_8, T_9, T_10, T_11, T_12, T_13, T_14, T_15, T_16, T_17, r_at h C, r_isIn C, RS_gp C, e2, r_far, r_isAlike h C]
    unfold Su.par r12
    ((repeat' split) <;> (try simp only [sB0, sB1]) <;> (first | rfl | grind | (simp_all; done) | (simp_all; omega)))
theorem r_rule2 (h : WF S) (C : RS S nu on gi) {l j a b : Int} (l0 : 0 ≤ l) (l1 : l < S.L) (j0 : 0 < j) (j1 : j < S.N) (h1 : 0 ≤ a) (h2 : a ≤ 127) (h3 : 0 ≤ b) (h4 : b ≤ 127) : m_SpeciesSolverModel_rule2 (I S.K) gi nu (I l) (I j) (I a) (I b) = some (B (S.strong j && S.hid l j a b)) := by
  have hN := WF_N h; have hK := WF_K4 h
  have g0 := WF_gv h l0 l1 (by omega) j1
  have n8 := WF_nu h 8 (by decide); have f0 := fr0 a b; have f1 := fr1 h1 h2 h3 h4
  unfold m_SpeciesSolverModel_rule2
  simp (disch := omega) only [gd_I, nz_I, bd_S, gb_B, nar_B, I_add, I_sub, I_mul, I_neg, I_div, I_nat, I_lt, I_le, I_eq, B_0, B_1, L_0, L_1, L_2, L_3, L_4, L_5, L_6, L_7, L_8, L_9, L_10, L_11, L_12, L_13, L_14, L_15, L_16, L_17, L_24, L_31, L_45, L_80, L_127, L_200, L_640, L_1280, L_1000000000, T_0, T_1, T_2, T_3, T_4, T_5, T_6, T_7, T_8, T_9, T_10, T_11, T_12, T_13, T_14, T_15, T_16, T_17, r_isStrong h]
  cases es : S.strong j with
  | false => simp (disch := omega) only [gd_I, nz_I, bd_S, gb_B, nar_B, I_add, I_sub, I_mul, I_neg, I_div, I_nat, I_lt, I_le, I_eq, B_0, B_1, L_0, L_1, L_2, L_3, L_4, L_5, L_6, L_7, L_8, L_9, L_10, L_11, L_12, L_13, L_14, L_15, L_16, L_17, L_24, L_31, L_45, L_80, L_127, L_200, L_640, L_1280, L_1000000000, T_0, T_1, T_2, T_3, T_4, T_5, T_6, T_7, T_8, T_9, T_10, T_11, T_12, T_13, T_14, T_15, T_16, T_17]; simp [es, B]
  | true =>
    have j2 : 1 ≤ j / S.K := by
      have es2 := of_decide_eq_true es
      rcases WF_K h with e | e | e <;> rw [e] at es2 ⊢ <;> omega
    simp (disch := omega) only [gd_I, nz_I, bd_S, gb_B, nar_B, I_add, I_sub, I_mul, I_neg, I_div, I_nat, I_lt, I_le, I_eq, B_0, B_1, L_0, L_1, L_2, L_3, L_4, L_5, L_6, L_7, L_8, L_9, L_10, L_11, L_12, L_13, L_14, L_15, L_16, L_17, L_24, L_31, L_45, L_80, L_127, L_200, L_640, L_1280, L_1000000000, T_0, T_1, T_2, T_3, T_4, T_5, T_6, T_7, T_8, T_9, T_10, T_11, T_12, T_13, T_14, T_15, T_16, T_17, r_at h C, r_isIn C, r_far, r_isAlike h C, RS_nu C]
    unfold Su.hid
    ((repeat' split) <;> (try simp only [sB0, sB1]) <;> (first | rfl | grind | (simp_all; done) | (simp_all; omega)))
theorem r_rule3 (h : WF S) (C : RS S nu on gi) {l j p : Int} (l0 : 0 ≤ l) (l1 : l < S.L) (h1 : 0 ≤ j) (h2 : j < S.N) (h3 : 0 ≤ p) (h4 : p ≤ 127) : m_SpeciesSolverModel_rule3 (I S.K) (B S.ab) gi (I l) (I j) (I p) = some (B (S.cross l j p)) := by
  have g0 := WF_gv h l0 l1 h1 h2
  unfold m_SpeciesSolverModel_rule3 Su.cross
  simp (disch := omega) only [gd_I, nz_I, bd_S, gb_B, nar_B, I_add, I_sub, I_mul, I_neg, I_div, I_nat, I_lt, I_le, I_eq, B_0, B_1, L_0, L_1, L_2, L_3, L_4, L_5, L_6, L_7, L_8, L_9, L_10, L_11, L_12, L_13, L_14, L_15, L_16, L_17, L_24, L_31, L_45, L_80, L_127, L_200, L_640, L_1280, L_1000000000, T_0, T_1, T_2, T_3, T_4, T_5, T_6, T_7, T_8, T_9, T_10, T_11, T_12, T_13, T_14, T_15, T_16, T_17, r_at h C]
  ((repeat' split) <;> (try simp only [sB0, sB1]) <;> (first | rfl | grind | (simp_all; done) | (simp_all; omega)))
theorem r_isPassing (h : WF S) (C : RS S nu on gi) {x a b : Int} (x1 : 0 ≤ x) (x2 : x ≤ 127) (h1 : 0 ≤ a) (h2 : a ≤ 127) (h3 : 0 ≤ b) (h4 : b ≤ 127) : m_SpeciesSolverModel_isPassing nu (I x) (I a) (I b) = some (B (S.pass x a b)) := by
  have w0 := wy_r x a; have w1 := wy_r a b
  unfold m_SpeciesSolverModel_isPassing Su.pass
  simp (disch := omega) only [gd_I, nz_I, bd_S, gb_B, nar_B, I_add, I_sub, I_mul, I_neg, I_div, I_nat, I_lt, I_le, I_eq, B_0, B_1, L_0, L_1, L_2, L_3, L_4, L_5, L_6, L_7, L_8, L_9, L_10, L_11, L_12, L_13, L_14, L_15, L_16, L_17, L_24, L_31, L_45, L_80, L_127, L_200, L_640, L_1280, L_1000000000, T_0, T_1, T_2, T_3, T_4, T_5, T_6, T_7, T_8, T_9, T_10, T_11, T_12, T_13, T_14, T_15, T_16, T_17, r_way, r_isStep h C]
  unfold Su.step wy
  ((repeat' split) <;> (try simp only [sB0, sB1]) <;> (first | rfl | grind | (simp_all; done) | (simp_all; omega)))
theorem r_rule4 (h : WF S) (C : RS S nu on gi) {l j x a b : Int} (l0 : 0 ≤ l) (l1 : l < S.L) (j0 : 0 ≤ j) (j1 : j < S.N) (x1 : 0 ≤ x) (x2 : x ≤ 127) (h1 : 0 ≤ a) (h2 : a ≤ 127) (h3 : 0 ≤ b) (h4 : b ≤ 127) : m_SpeciesSolverModel_rule4 (I S.K) gi nu (I l) (I j) (I x) (I a) (I b) = some (B (! S.strong j && ! S.inn 3 a (S.gv l j) && ! S.pass x a b)) := by
  have hN := WF_N h
  have g0 := WF_gv h l0 l1 j0 j1
  unfold m_SpeciesSolverModel_rule4
  simp (disch := omega) only [gd_I, nz_I, bd_S, gb_B, nar_B, I_add, I_sub, I_mul, I_neg, I_div, I_nat, I_lt, I_le, I_eq, B_0, B_1, L_0, L_1, L_2, L_3, L_4, L_5, L_6, L_7, L_8, L_9, L_10, L_11, L_12, L_13, L_14, L_15, L_16, L_17, L_24, L_31, L_45, L_80, L_127, L_200, L_640, L_1280, L_1000000000, T_0, T_1, T_2, T_3, T_4, T_5, T_6, T_7, T_8, T_9, T_10, T_11, T_12, T_13, T_14, T_15, T_16, T_17, r_isStrong h, r_at h C, r_isIn C, r_isPassing h C]
  ((repeat' split) <;> (try simp only [sB0, sB1]) <;> (first | rfl | grind | (simp_all; done) | (simp_all; omega)))
theorem r_rule5 (h : WF S) (C : RS S nu on gi) {a b : Int} (h1 : 0 ≤ a) (h2 : a ≤ 127) (h3 : 0 ≤ b) (h4 : b ≤ 127) : m_SpeciesSolverModel_rule5 nu (I a) (I b) = some (B (S.leap a b)) := by
  have n8 := WF_nu h 9 (by decide); have f0 := fr0 a b; have f1 := fr1 h1 h2 h3 h4
  unfold m_SpeciesSolverModel_rule5 Su.leap bt
  simp (disch := omega) only [gd_I, nz_I, bd_S, gb_B, nar_B, I_add, I_sub, I_mul, I_neg, I_div, I_nat, I_lt, I_le, I_eq, B_0, B_1, L_0, L_1, L_2, L_3, L_4, L_5, L_6, L_7, L_8, L_9, L_10, L_11, L_12, L_13, L_14, L_15, L_16, L_17, L_24, L_31, L_45, L_80, L_127, L_200, L_640, L_1280, L_1000000000, T_0, T_1, T_2, T_3, T_4, T_5, T_6, T_7, T_8, T_9, T_10, T_11, T_12, T_13, T_14, T_15, T_16, T_17, r_far, RS_nu C]
  ((repeat' split) <;> (try simp only [sB0, sB1]) <;> (first | rfl | grind | (simp_all; done) | (simp_all; omega)))
theorem r_rule6 (h : WF S) (C : RS S nu on gi) {x a b : Int} (x1 : 0 ≤ x) (x2 : x ≤ 127) (h1 : 0 ≤ a) (h2 : a ≤ 127) (h3 : 0 ≤ b) (h4 : b ≤ 127) : m_SpeciesSolverModel_rule6 nu (I x) (I a) (I b) = some (B (S.nturn x a b)) := by
  have n8 := WF_nu h 10 (by decide); have f0 := fr0 x a; have f1 := fr1 x1 x2 h1 h2
  have w0 := wy_r x a; have w1 := wy_r a b
  have hx : x = a → fr x a = 0 := by intro e; unfold fr; split <;> omega
  unfold m_SpeciesSolverModel_rule6 Su.nturn Su.turn
  simp (disch := omega) only [gd_I, nz_I, bd_S, gb_B, nar_B, I_add, I_sub, I_mul, I_neg, I_div, I_nat, I_lt, I_le, I_eq, B_0, B_1, L_0, L_1, L_2, L_3, L_4, L_5, L_6, L_7, L_8, L_9, L_10, L_11, L_12, L_13, L_14, L_15, L_16, L_17, L_24, L_31, L_45, L_80, L_127, L_200, L_640, L_1280, L_1000000000, T_0, T_1, T_2, T_3, T_4, T_5, T_6, T_7, T_8, T_9, T_10, T_11, T_12, T_13, T_14, T_15, T_16, T_17, r_far, RS_nu C, r_way, r_isStep h C]
  unfold Su.step wy
  ((repeat' split) <;> (try simp only [sB0, sB1]) <;> (first | rfl | grind | (simp_all; done) | (simp_all; omega)))
theorem r_ih_it (h : WF S) (C : RS S nu on gi) {F : Nat} {k5 : Int32 → Int32 → Int32 → Int32 → Option Int32} {j p l : Int} {acc : Bool} (h1 : 0 ≤ j) (h2 : j < S.N) (h3 : 0 ≤ p) (h4 : p ≤ 127) (l0 : 0 ≤ l) (l1 : l < S.L) : m_SpeciesSolverModel_isHard_5b F (I S.L) (I S.K) gi nu k5 (I j) (I p) (B acc) (I l) = k5 (I j) (I p) (B (acc || ! S.inn 3 p (S.gv l j))) (I (l + 1)) := by
  have hL := WF_L h; have g0 := WF_gv h l0 l1 h1 h2
  unfold m_SpeciesSolverModel_isHard_5b m_SpeciesSolverModel_isHard_36
  simp (disch := omega) only [gd_I, nz_I, bd_S, gb_B, nar_B, I_add, I_sub, I_mul, I_neg, I_div, I_nat, I_lt, I_le, I_eq, B_0, B_1, L_0, L_1, L_2, L_3, L_4, L_5, L_6, L_7, L_8, L_9, L_10, L_11, L_12, L_13, L_14, L_15, L_16, L_17, L_24, L_31, L_45, L_80, L_127, L_200, L_640, L_1280, L_1000000000, T_0, T_1, T_2, T_3, T_4, T_5, T_6, T_7, T_8, T_9, T_10, T_11, T_12, T_13, T_14, T_15, T_16, T_17, r_at h C, r_isIn C, B_or1, B_or0]
  rw [if_neg (by omega)]
  cases S.inn 3 p (S.gv l j) <;> simp
theorem r_ih_ex (h : WF S) {F : Nat} {k5 : Int32 → Int32 → Int32 → Int32 → Option Int32} {j p l : Int} {acc : Bool} (l0 : S.L ≤ l) (l1 : l < 100) : m_SpeciesSolverModel_isHard_5b F (I S.L) (I S.K) gi nu k5 (I j) (I p) (B acc) (I l) = some (B acc) := by
  have hL := WF_L h
  unfold m_SpeciesSolverModel_isHard_5b
  simp (disch := omega) only [gd_I, nz_I, bd_S, gb_B, nar_B, I_add, I_sub, I_mul, I_neg, I_div, I_nat, I_lt, I_le, I_eq, B_0, B_1, L_0, L_1, L_2, L_3, L_4, L_5, L_6, L_7, L_8, L_9, L_10, L_11, L_12, L_13, L_14, L_15, L_16, L_17, L_24, L_31, L_45, L_80, L_127, L_200, L_640, L_1280, L_1000000000, T_0, T_1, T_2, T_3, T_4, T_5, T_6, T_7, T_8, T_9, T_10, T_11, T_12, T_13, T_14, T_15, T_16, T_17]
  rw [if_pos l0]
theorem r_isHard (h : WF S) (C : RS S nu on gi) {F : Nat} (hF : 2000 ≤ F) {j p : Int} (h1 : 0 ≤ j) (h2 : j < S.N) (h3 : 0 ≤ p) (h4 : p ≤ 127) : m_SpeciesSolverModel_isHard F (I S.L) (I S.K) gi nu (I j) (I p) = some (B (S.hard j p)) := by
  obtain ⟨G, hG⟩ : ∃ G, F = G + 4 := ⟨F - 4, by omega⟩
  have hL := WF_L h
  unfold m_SpeciesSolverModel_isHard Su.hard
  rw [show m_SpeciesSolverModel_isHard_5 F (I S.L) (I S.K) gi nu F (I j) (I p) (0 : Int32) (0 : Int32) = m_SpeciesSolverModel_isHard_5 F (I S.L) (I S.K) gi nu (G + 4) (I j) (I p) (B false) (I 0) from by rw [← hG]; rfl]
  simp only [m_SpeciesSolverModel_isHard_5]
  rcases (by omega : S.L = 0 ∨ S.L = 1 ∨ S.L = 2 ∨ S.L = 3) with e | e | e | e
  · rw [r_ih_ex h (by omega) (by omega), anyL0 e]
  · rw [r_ih_it h C h1 h2 h3 h4 (by omega) (by omega), r_ih_ex h (by omega) (by omega), anyL1 e]
  · rw [r_ih_it h C h1 h2 h3 h4 (by omega) (by omega), r_ih_it h C h1 h2 h3 h4 (by omega) (by omega), r_ih_ex h (by omega) (by omega), anyL2 e]
  · rw [r_ih_it h C h1 h2 h3 h4 (by omega) (by omega), r_ih_it h C h1 h2 h3 h4 (by omega) (by omega), r_ih_it h C h1 h2 h3 h4 (by omega) (by omega), r_ih_ex h (by omega) (by omega), anyL3 e]
theorem r_moveCost (h : WF S) (C : RS S nu on gi) {a b : Int} (h1 : 0 ≤ a) (h2 : a ≤ 127) (h3 : 0 ≤ b) (h4 : b ≤ 127) : m_SpeciesSolverModel_moveCost nu (I a) (I b) = some (I (S.mcost a b)) := by
  have n8 := WF_nu h 8 (by decide); have f0 := fr0 a b; have f1 := fr1 h1 h2 h3 h4
  unfold m_SpeciesSolverModel_moveCost Su.mcost
  simp only [m_SpeciesSolverModel_moveCost_21, m_SpeciesSolverModel_moveCost_43]
  simp (disch := omega) only [gd_I, nz_I, bd_S, gb_B, nar_B, I_add, I_sub, I_mul, I_neg, I_div, I_nat, I_lt, I_le, I_eq, B_0, B_1, L_0, L_1, L_2, L_3, L_4, L_5, L_6, L_7, L_8, L_9, L_10, L_11, L_12, L_13, L_14, L_15, L_16, L_17, L_24, L_31, L_45, L_80, L_127, L_200, L_640, L_1280, L_1000000000, T_0, T_1, T_2, T_3, T_4, T_5, T_6, T_7, T_8, T_9, T_10, T_11, T_12, T_13, T_14, T_15, T_16, T_17, r_far, RS_nu C]
  ((repeat' split) <;> (try simp only [sB0, sB1]) <;> (first | rfl | grind | (simp_all; done) | (simp_all; omega)))
theorem r_size (h : WF S) : m_SpeciesSolverModel_size (I S.n) (I S.K) = some (I S.N) := by
  unfold m_SpeciesSolverModel_size Su.N
  simp (disch := omega) only [gd_I, nz_I, bd_S, gb_B, nar_B, I_add, I_sub, I_mul, I_neg, I_div, I_nat, I_lt, I_le, I_eq, B_0, B_1, L_0, L_1, L_2, L_3, L_4, L_5, L_6, L_7, L_8, L_9, L_10, L_11, L_12, L_13, L_14, L_15, L_16, L_17, L_24, L_31, L_45, L_80, L_127, L_200, L_640, L_1280, L_1000000000, T_0, T_1, T_2, T_3, T_4, T_5, T_6, T_7, T_8, T_9, T_10, T_11, T_12, T_13, T_14, T_15, T_16, T_17]
theorem r_nc_it (h : WF S) (C : RS S nu on gi) {F : Nat} {k14 : Int32 → Int32 → Int32 → Int32 → Int32 → Option Int32} {j a b l acc : Int} (j0 : 0 < j) (hs : S.strong j = true) (j1 : j < S.N) (h1 : 0 ≤ a) (h2 : a ≤ 127) (h3 : 0 ≤ b) (h4 : b ≤ 127) (l0 : 0 ≤ l) (l1 : l < S.L) : m_SpeciesSolverModel_noteCost_14b F (I S.L) (I S.n) (I S.K) gi nu k14 (I j) (I a) (I b) (I acc) (I l) = k14 (I j) (I a) (I b) (I (acc + (if S.alike l j a b then S.nu 15 else 0) + (if j = 0 ∨ j = S.N - 1 then 0 else if S.inn 4 b (S.gv l j) then S.nu 16 else 0))) (I (l + 1)) := by
  have hL := WF_L h; have g0 := WF_gv h l0 l1 (by omega) j1; have hN := WF_N h
  have j2 : 1 ≤ j / S.K := by
    have es2 := of_decide_eq_true hs
    rcases WF_K h with e | e | e <;> rw [e] at es2 ⊢ <;> omega
  unfold m_SpeciesSolverModel_noteCost_14b m_SpeciesSolverModel_noteCost_51 m_SpeciesSolverModel_noteCost_52 m_SpeciesSolverModel_noteCost_97 m_SpeciesSolverModel_noteCost_98
  simp (disch := omega) only [gd_I, nz_I, bd_S, gb_B, nar_B, I_add, I_sub, I_mul, I_neg, I_div, I_nat, I_lt, I_le, I_eq, B_0, B_1, L_0, L_1, L_2, L_3, L_4, L_5, L_6, L_7, L_8, L_9, L_10, L_11, L_12, L_13, L_14, L_15, L_16, L_17, L_24, L_31, L_45, L_80, L_127, L_200, L_640, L_1280, L_1000000000, T_0, T_1, T_2, T_3, T_4, T_5, T_6, T_7, T_8, T_9, T_10, T_11, T_12, T_13, T_14, T_15, T_16, T_17, r_at h C, r_isIn C, r_isAlike h C, r_size h, RS_nu C]
  rw [if_neg (by omega), if_neg (by omega)]
  have c1 : ¬ j ≤ 0 := by omega
  by_cases e : S.N - 1 ≤ j
  · have e2 : j = 0 ∨ j = S.N - 1 := by omega
    cases S.alike l j a b <;> cases S.inn 4 b (S.gv l j) <;> simp [e, e2, c1]
  · have e2 : ¬ (j = 0 ∨ j = S.N - 1) := by omega
    cases S.alike l j a b <;> cases S.inn 4 b (S.gv l j) <;> simp [e, e2, c1]
theorem r_nc_it0 (h : WF S) (C : RS S nu on gi) {F : Nat} {k14 : Int32 → Int32 → Int32 → Int32 → Int32 → Option Int32} {a b l acc : Int} (l0 : 0 ≤ l) (l1 : l < S.L) : m_SpeciesSolverModel_noteCost_14b F (I S.L) (I S.n) (I S.K) gi nu k14 (I 0) (I a) (I b) (I acc) (I l) = k14 (I 0) (I a) (I b) (I acc) (I (l + 1)) := by
  have hL := WF_L h
  unfold m_SpeciesSolverModel_noteCost_14b m_SpeciesSolverModel_noteCost_51 m_SpeciesSolverModel_noteCost_52 m_SpeciesSolverModel_noteCost_97 m_SpeciesSolverModel_noteCost_98
  simp (disch := omega) only [gd_I, nz_I, bd_S, gb_B, nar_B, I_add, I_sub, I_mul, I_neg, I_div, I_nat, I_lt, I_le, I_eq, B_0, B_1, L_0, L_1, L_2, L_3, L_4, L_5, L_6, L_7, L_8, L_9, L_10, L_11, L_12, L_13, L_14, L_15, L_16, L_17, L_24, L_31, L_45, L_80, L_127, L_200, L_640, L_1280, L_1000000000, T_0, T_1, T_2, T_3, T_4, T_5, T_6, T_7, T_8, T_9, T_10, T_11, T_12, T_13, T_14, T_15, T_16, T_17]
  rw [if_neg (by omega)]
  simp
theorem r_nc_ex (h : WF S) {F : Nat} {k14 : Int32 → Int32 → Int32 → Int32 → Int32 → Option Int32} {j a b l acc : Int} (l0 : S.L ≤ l) (l1 : l < 100) : m_SpeciesSolverModel_noteCost_14b F (I S.L) (I S.n) (I S.K) gi nu k14 (I j) (I a) (I b) (I acc) (I l) = some (I acc) := by
  have hL := WF_L h
  unfold m_SpeciesSolverModel_noteCost_14b
  simp (disch := omega) only [gd_I, nz_I, bd_S, gb_B, nar_B, I_add, I_sub, I_mul, I_neg, I_div, I_nat, I_lt, I_le, I_eq, B_0, B_1, L_0, L_1, L_2, L_3, L_4, L_5, L_6, L_7, L_8, L_9, L_10, L_11, L_12, L_13, L_14, L_15, L_16, L_17, L_24, L_31, L_45, L_80, L_127, L_200, L_640, L_1280, L_1000000000, T_0, T_1, T_2, T_3, T_4, T_5, T_6, T_7, T_8, T_9, T_10, T_11, T_12, T_13, T_14, T_15, T_16, T_17]
  rw [if_pos l0]
/-- of a note behind the first: what it costs, with the STRONG move -/
theorem r_noteCost (h : WF S) (C : RS S nu on gi) {F : Nat} (hF : 2000 ≤ F) {j a b : Int} (j0 : 0 < j) (j1 : j < S.N) (h1 : 0 ≤ a) (h2 : a ≤ 127) (h3 : 0 ≤ b) (h4 : b ≤ 127) : m_SpeciesSolverModel_noteCost F (I S.L) (I S.n) (I S.K) gi nu (I j) (I a) (I b) = some (I (S.ncost j b + (if S.strong j then S.scost j a b else 0))) := by
  obtain ⟨G, hG⟩ : ∃ G, F = G + 4 := ⟨F - 4, by omega⟩
  have hL := WF_L h; have hN := WF_N h
  unfold m_SpeciesSolverModel_noteCost Su.ncost
  simp (disch := omega) only [gd_I, nz_I, bd_S, gb_B, nar_B, I_add, I_sub, I_mul, I_neg, I_div, I_nat, I_lt, I_le, I_eq, B_0, B_1, L_0, L_1, L_2, L_3, L_4, L_5, L_6, L_7, L_8, L_9, L_10, L_11, L_12, L_13, L_14, L_15, L_16, L_17, L_24, L_31, L_45, L_80, L_127, L_200, L_640, L_1280, L_1000000000, T_0, T_1, T_2, T_3, T_4, T_5, T_6, T_7, T_8, T_9, T_10, T_11, T_12, T_13, T_14, T_15, T_16, T_17, r_isStrong h, r_isHard h C hF, RS_nu C]
  cases hs : S.strong j with
  | false =>
    cases S.hard j b <;> simp
  | true =>
    simp only [Bool.true_eq_false, if_false, if_true]
    rw [show m_SpeciesSolverModel_noteCost_14 F (I S.L) (I S.n) (I S.K) gi nu F (I j) (I a) (I b) (I 0) (I 0) = m_SpeciesSolverModel_noteCost_14 F (I S.L) (I S.n) (I S.K) gi nu (G + 4) (I j) (I a) (I b) (I 0) (I 0) from by rw [← hG]]
    simp only [m_SpeciesSolverModel_noteCost_14]
    unfold Su.scost
    rcases (by omega : S.L = 0 ∨ S.L = 1 ∨ S.L = 2 ∨ S.L = 3) with e | e | e | e
    · rw [r_nc_ex h (by omega) (by omega), sumL0 e, sumL0 e]; congr 2; split <;> omega
    · rw [r_nc_it h C j0 hs j1 h1 h2 h3 h4 (by omega) (by omega), r_nc_ex h (by omega) (by omega), sumL1 e, sumL1 e]; congr 2; (repeat' split) <;> omega
    · rw [r_nc_it h C j0 hs j1 h1 h2 h3 h4 (by omega) (by omega), r_nc_it h C j0 hs j1 h1 h2 h3 h4 (by omega) (by omega), r_nc_ex h (by omega) (by omega), sumL2 e, sumL2 e]; congr 2; (repeat' split) <;> omega
    · rw [r_nc_it h C j0 hs j1 h1 h2 h3 h4 (by omega) (by omega), r_nc_it h C j0 hs j1 h1 h2 h3 h4 (by omega) (by omega), r_nc_it h C j0 hs j1 h1 h2 h3 h4 (by omega) (by omega), r_nc_ex h (by omega) (by omega), sumL3 e, sumL3 e]; congr 2; (repeat' split) <;> omega
theorem strong0 (S : Su) : S.strong 0 = true := by unfold Su.strong; simp
theorem r_noteCost0 (h : WF S) (C : RS S nu on gi) {F : Nat} (hF : 2000 ≤ F) {a b : Int} : m_SpeciesSolverModel_noteCost F (I S.L) (I S.n) (I S.K) gi nu (I 0) (I a) (I b) = some (I (S.ncost 0 b)) := by
  obtain ⟨G, hG⟩ : ∃ G, F = G + 4 := ⟨F - 4, by omega⟩
  have hL := WF_L h
  unfold m_SpeciesSolverModel_noteCost Su.ncost
  simp (disch := omega) only [gd_I, nz_I, bd_S, gb_B, nar_B, I_add, I_sub, I_mul, I_neg, I_div, I_nat, I_lt, I_le, I_eq, B_0, B_1, L_0, L_1, L_2, L_3, L_4, L_5, L_6, L_7, L_8, L_9, L_10, L_11, L_12, L_13, L_14, L_15, L_16, L_17, L_24, L_31, L_45, L_80, L_127, L_200, L_640, L_1280, L_1000000000, T_0, T_1, T_2, T_3, T_4, T_5, T_6, T_7, T_8, T_9, T_10, T_11, T_12, T_13, T_14, T_15, T_16, T_17, r_isStrong h, strong0]
  simp only [Bool.true_eq_false, if_false, if_true, true_or]
  rw [show m_SpeciesSolverModel_noteCost_14 F (I S.L) (I S.n) (I S.K) gi nu F (I 0) (I a) (I b) (I 0) (I 0) = m_SpeciesSolverModel_noteCost_14 F (I S.L) (I S.n) (I S.K) gi nu (G + 4) (I 0) (I a) (I b) (I 0) (I 0) from by rw [← hG]]
  simp only [m_SpeciesSolverModel_noteCost_14]
  rcases (by omega : S.L = 0 ∨ S.L = 1 ∨ S.L = 2 ∨ S.L = 3) with e | e | e | e
  · rw [r_nc_ex h (by omega) (by omega)]
  · rw [r_nc_it0 h C (by omega) (by omega), r_nc_ex h (by omega) (by omega)]
  · rw [r_nc_it0 h C (by omega) (by omega), r_nc_it0 h C (by omega) (by omega), r_nc_ex h (by omega) (by omega)]
  · rw [r_nc_it0 h C (by omega) (by omega), r_nc_it0 h C (by omega) (by omega), r_nc_it0 h C (by omega) (by omega), r_nc_ex h (by omega) (by omega)]
end
