/-! pure part, 3: the class's small methods -/
section
variable {S : Su} {nu on : Nat → Int32} {gi : Nat → Nat → Int32}
theorem c_dist {a b : Int} (h1 : 0 ≤ a) (h2 : a ≤ 127) (h3 : 0 ≤ b) (h4 : b ≤ 127) : m_SpeciesSolver_distance (I a) (I b) = some (I (fr a b)) := by
  unfold m_SpeciesSolver_distance fr
  simp (disch := omega) only [gd_I, nz_I, bd_S, gb_B, nar_B, I_add, I_sub, I_mul, I_neg, I_div, I_nat, I_lt, I_le, I_eq, B_0, B_1, L_0, L_1, L_2, L_3, L_4, L_5, L_6, L_7, L_8, L_9, L_10, L_11, L_12, L_13, L_14, L_15, L_16, L_17, L_24, L_31, L_45, L_80, L_127, L_200, L_640, L_1280, L_1000000000, T_0, T_1, T_2, T_3, T_4, T_5, T_6, T_7, T_8, T_9, T_10, T_11, T_12, T_13, T_14, T_15, T_16, T_17]
  split <;> rfl
theorem c_isStrong (h : WF S) {j : Int} (h1 : 0 ≤ j) (h2 : j < 45) : m_Rules_isStrong (I S.K) (I j) = some (B (S.strong j)) := by
  have := WF_K4 h
  have e : 0 ≤ j - j / S.K * S.K ∧ j - j / S.K * S.K < 45 := by rcases WF_K h with e | e | e <;> rw [e] <;> omega
  unfold m_Rules_isStrong Su.strong
  simp (disch := omega) only [gd_I, nz_I, bd_S, gb_B, nar_B, I_add, I_sub, I_mul, I_neg, I_div, I_nat, I_lt, I_le, I_eq, B_0, B_1, L_0, L_1, L_2, L_3, L_4, L_5, L_6, L_7, L_8, L_9, L_10, L_11, L_12, L_13, L_14, L_15, L_16, L_17, L_24, L_31, L_45, L_80, L_127, L_200, L_640, L_1280, L_1000000000, T_0, T_1, T_2, T_3, T_4, T_5, T_6, T_7, T_8, T_9, T_10, T_11, T_12, T_13, T_14, T_15, T_16, T_17, ite_B]
theorem c_classWith (h : WF S) (C : CS S nu on gi) {l j p : Int} (l0 : 0 ≤ l) (l1 : l < S.L) (h1 : 0 ≤ j) (h2 : j < S.N) (h3 : 0 ≤ p) (h4 : p ≤ 127) : m_Rules_classWith (I S.K) gi (I l) (I j) (I p) = some (I (r12 (fr p (S.gv l j)))) := by
  have := WF_K4 h; have := WF_L h; have := WF_n h; have := WF_N h
  have q := WF_jK h h1 h2
  have g0 := WF_g h l _ l0 l1 q.1 q.2
  unfold m_Rules_classWith fr r12 Su.gv
  simp (disch := omega) only [gd_I, nz_I, bd_S, gb_B, nar_B, I_add, I_sub, I_mul, I_neg, I_div, I_nat, I_lt, I_le, I_eq, B_0, B_1, L_0, L_1, L_2, L_3, L_4, L_5, L_6, L_7, L_8, L_9, L_10, L_11, L_12, L_13, L_14, L_15, L_16, L_17, L_24, L_31, L_45, L_80, L_127, L_200, L_640, L_1280, L_1000000000, T_0, T_1, T_2, T_3, T_4, T_5, T_6, T_7, T_8, T_9, T_10, T_11, T_12, T_13, T_14, T_15, T_16, T_17, CS_gi C]
  split
  · rw [if_pos (by omega)]
  · rw [if_neg (by omega)]
    congr 2; omega
theorem c_isIn (C : CS S nu on gi) {w c : Int} (h1 : 0 ≤ w) (h2 : w < 18) : m_Rules_isIn nu (I w) (I c) = some (B (bt (S.nu w.toNat) c)) := by
  have h3 : w.toNat < 18 := by omega
  unfold m_Rules_isIn bt
  simp (disch := omega) only [gd_I, nz_I, bd_S, gb_B, nar_B, I_add, I_sub, I_mul, I_neg, I_div, I_nat, I_lt, I_le, I_eq, B_0, B_1, L_0, L_1, L_2, L_3, L_4, L_5, L_6, L_7, L_8, L_9, L_10, L_11, L_12, L_13, L_14, L_15, L_16, L_17, L_24, L_31, L_45, L_80, L_127, L_200, L_640, L_1280, L_1000000000, T_0, T_1, T_2, T_3, T_4, T_5, T_6, T_7, T_8, T_9, T_10, T_11, T_12, T_13, T_14, T_15, T_16, T_17, ite_B, CS_nu C]
theorem c_isHard (h : WF S) (C : CS S nu on gi) {F : Nat} (hF : 2000 ≤ F) {j p : Int} (h1 : 0 ≤ j) (h2 : j < S.N) (h3 : 0 ≤ p) (h4 : p ≤ 127) : m_Rules_isHard F (I S.L) (I S.K) nu gi (I j) (I p) = some (B (S.hard j p)) := by
  obtain ⟨G, rfl⟩ : ∃ G, F = G + 4 := ⟨F - 4, by omega⟩
  have hL := WF_L h
  unfold m_Rules_isHard Su.hard anyL Su.inn
  rcases (by omega : S.L = 0 ∨ S.L = 1 ∨ S.L = 2 ∨ S.L = 3) with e | e | e | e <;> simp only [m_Rules_isHard_2, m_Rules_isHard_2b, e] <;> simp (disch := omega) only [gd_I, nz_I, bd_S, gb_B, nar_B, I_add, I_sub, I_mul, I_neg, I_div, I_nat, I_lt, I_le, I_eq, B_0, B_1, L_0, L_1, L_2, L_3, L_4, L_5, L_6, L_7, L_8, L_9, L_10, L_11, L_12, L_13, L_14, L_15, L_16, L_17, L_24, L_31, L_45, L_80, L_127, L_200, L_640, L_1280, L_1000000000, T_0, T_1, T_2, T_3, T_4, T_5, T_6, T_7, T_8, T_9, T_10, T_11, T_12, T_13, T_14, T_15, T_16, T_17, c_classWith h C, c_isIn C] <;> ((repeat' split) <;> (try simp only [sB0, sB1]) <;> (first | rfl | grind | (simp_all; done) | (simp_all; omega)))
theorem c_isHardWith (h : WF S) (C : CS S nu on gi) {l j p : Int} (l0 : 0 ≤ l) (l1 : l < S.L) (h1 : 0 ≤ j) (h2 : j < S.N) (h3 : 0 ≤ p) (h4 : p ≤ 127) : m_Rules_isHardWith (I S.K) nu gi (I l) (I j) (I p) = some (B (! S.inn 3 p (S.gv l j))) := by
  unfold m_Rules_isHardWith Su.inn
  simp (disch := omega) only [gd_I, nz_I, bd_S, gb_B, nar_B, I_add, I_sub, I_mul, I_neg, I_div, I_nat, I_lt, I_le, I_eq, B_0, B_1, L_0, L_1, L_2, L_3, L_4, L_5, L_6, L_7, L_8, L_9, L_10, L_11, L_12, L_13, L_14, L_15, L_16, L_17, L_24, L_31, L_45, L_80, L_127, L_200, L_640, L_1280, L_1000000000, T_0, T_1, T_2, T_3, T_4, T_5, T_6, T_7, T_8, T_9, T_10, T_11, T_12, T_13, T_14, T_15, T_16, T_17, c_classWith h C, c_isIn C]
  ((repeat' split) <;> (try simp only [sB0, sB1]) <;> (first | rfl | grind | (simp_all; done) | (simp_all; omega)))
theorem c_isStepwise (h : WF S) (C : CS S nu on gi) {a b : Int} (h1 : 0 ≤ a) (h2 : a ≤ 127) (h3 : 0 ≤ b) (h4 : b ≤ 127) : m_Rules_isStepwise nu (I a) (I b) = some (B (S.step a b)) := by
  have n8 := WF_nu h 8 (by decide); have f0 := fr0 a b; have f1 := fr1 h1 h2 h3 h4
  unfold m_Rules_isStepwise Su.step
  simp (disch := omega) only [gd_I, nz_I, bd_S, gb_B, nar_B, I_add, I_sub, I_mul, I_neg, I_div, I_nat, I_lt, I_le, I_eq, B_0, B_1, L_0, L_1, L_2, L_3, L_4, L_5, L_6, L_7, L_8, L_9, L_10, L_11, L_12, L_13, L_14, L_15, L_16, L_17, L_24, L_31, L_45, L_80, L_127, L_200, L_640, L_1280, L_1000000000, T_0, T_1, T_2, T_3, T_4, T_5, T_6, T_7, T_8, T_9, T_10, T_11, T_12, T_13, T_14, T_15, T_16, T_17, c_dist, CS_nu C]
  ((repeat' split) <;> (try simp only [sB0, sB1]) <;> (first | rfl | grind | (simp_all; done) | (simp_all; omega)))
theorem c_mustTurn (h : WF S) (C : CS S nu on gi) {a b : Int} (h1 : 0 ≤ a) (h2 : a ≤ 127) (h3 : 0 ≤ b) (h4 : b ≤ 127) : m_Rules_mustTurn nu (I a) (I b) = some (B (S.turn a b)) := by
  have n8 := WF_nu h 10 (by decide); have f0 := fr0 a b; have f1 := fr1 h1 h2 h3 h4
  unfold m_Rules_mustTurn Su.turn
  simp (disch := omega) only [gd_I, nz_I, bd_S, gb_B, nar_B, I_add, I_sub, I_mul, I_neg, I_div, I_nat, I_lt, I_le, I_eq, B_0, B_1, L_0, L_1, L_2, L_3, L_4, L_5, L_6, L_7, L_8, L_9, L_10, L_11, L_12, L_13, L_14, L_15, L_16, L_17, L_24, L_31, L_45, L_80, L_127, L_200, L_640, L_1280, L_1000000000, T_0, T_1, T_2, T_3, T_4, T_5, T_6, T_7, T_8, T_9, T_10, T_11, T_12, T_13, T_14, T_15, T_16, T_17, c_dist, CS_nu C]
  ((repeat' split) <;> (try simp only [sB0, sB1]) <;> (first | rfl | grind | (simp_all; done) | (simp_all; omega)))
theorem c_isLeaping (h : WF S) (C : CS S nu on gi) {a b : Int} (h1 : 0 ≤ a) (h2 : a ≤ 127) (h3 : 0 ≤ b) (h4 : b ≤ 127) : m_Rules_isLeaping nu (I a) (I b) = some (B (S.leap a b)) := by
  have n8 := WF_nu h 9 (by decide); have f0 := fr0 a b; have f1 := fr1 h1 h2 h3 h4
  unfold m_Rules_isLeaping Su.leap
  simp (disch := omega) only [gd_I, nz_I, bd_S, gb_B, nar_B, I_add, I_sub, I_mul, I_neg, I_div, I_nat, I_lt, I_le, I_eq, B_0, B_1, L_0, L_1, L_2, L_3, L_4, L_5, L_6, L_7, L_8, L_9, L_10, L_11, L_12, L_13, L_14, L_15, L_16, L_17, L_24, L_31, L_45, L_80, L_127, L_200, L_640, L_1280, L_1000000000, T_0, T_1, T_2, T_3, T_4, T_5, T_6, T_7, T_8, T_9, T_10, T_11, T_12, T_13, T_14, T_15, T_16, T_17, c_dist, CS_nu C, c_isIn C]
  ((repeat' split) <;> (try simp only [sB0, sB1]) <;> (first | rfl | grind | (simp_all; done) | (simp_all; omega)))
theorem c_isNotTurned (h : WF S) (C : CS S nu on gi) {x a b : Int} (x1 : 0 ≤ x) (x2 : x ≤ 127) (h1 : 0 ≤ a) (h2 : a ≤ 127) (h3 : 0 ≤ b) (h4 : b ≤ 127) : m_Rules_isNotTurned nu (I x) (I a) (I b) = some (B (S.nturn x a b)) := by
  unfold m_Rules_isNotTurned Su.nturn
  simp only [m_Rules_isNotTurned_10, m_Rules_isNotTurned_20, m_Rules_isNotTurned_36, m_Rules_isNotTurned_37]
  simp (disch := omega) only [gd_I, nz_I, bd_S, gb_B, nar_B, I_add, I_sub, I_mul, I_neg, I_div, I_nat, I_lt, I_le, I_eq, B_0, B_1, L_0, L_1, L_2, L_3, L_4, L_5, L_6, L_7, L_8, L_9, L_10, L_11, L_12, L_13, L_14, L_15, L_16, L_17, L_24, L_31, L_45, L_80, L_127, L_200, L_640, L_1280, L_1000000000, T_0, T_1, T_2, T_3, T_4, T_5, T_6, T_7, T_8, T_9, T_10, T_11, T_12, T_13, T_14, T_15, T_16, T_17, c_mustTurn h C, c_isStepwise h C]
  ((repeat' split) <;> (try simp only [sB0, sB1]) <;> (first | rfl | grind | (simp_all; done) | (simp_all; omega)))
theorem c_isPassing (h : WF S) (C : CS S nu on gi) {x a b : Int} (x1 : 0 ≤ x) (x2 : x ≤ 127) (h1 : 0 ≤ a) (h2 : a ≤ 127) (h3 : 0 ≤ b) (h4 : b ≤ 127) : m_Rules_isPassing nu (I x) (I a) (I b) = some (B (S.pass x a b)) := by
  unfold m_Rules_isPassing Su.pass
  simp only [m_Rules_isPassing_10, m_Rules_isPassing_20]
  simp (disch := omega) only [gd_I, nz_I, bd_S, gb_B, nar_B, I_add, I_sub, I_mul, I_neg, I_div, I_nat, I_lt, I_le, I_eq, B_0, B_1, L_0, L_1, L_2, L_3, L_4, L_5, L_6, L_7, L_8, L_9, L_10, L_11, L_12, L_13, L_14, L_15, L_16, L_17, L_24, L_31, L_45, L_80, L_127, L_200, L_640, L_1280, L_1000000000, T_0, T_1, T_2, T_3, T_4, T_5, T_6, T_7, T_8, T_9, T_10, T_11, T_12, T_13, T_14, T_15, T_16, T_17, c_isStepwise h C]
  ((repeat' split) <;> (try simp only [sB0, sB1]) <;> (first | rfl | grind | (simp_all; done) | (simp_all; omega)))
theorem c_isCrossing (h : WF S) (C : CS S nu on gi) {l j p : Int} (l0 : 0 ≤ l) (l1 : l < S.L) (h1 : 0 ≤ j) (h2 : j < S.N) (h3 : 0 ≤ p) (h4 : p ≤ 127) : m_Rules_isCrossing (I S.K) (B S.ab) gi (I l) (I j) (I p) = some (B (S.cross l j p)) := by
  have := WF_K4 h; have := WF_L h; have := WF_n h; have := WF_N h
  have q := WF_jK h h1 h2
  have g0 := WF_g h l _ l0 l1 q.1 q.2
  unfold m_Rules_isCrossing Su.cross Su.gv
  simp (disch := omega) only [gd_I, nz_I, bd_S, gb_B, nar_B, I_add, I_sub, I_mul, I_neg, I_div, I_nat, I_lt, I_le, I_eq, B_0, B_1, L_0, L_1, L_2, L_3, L_4, L_5, L_6, L_7, L_8, L_9, L_10, L_11, L_12, L_13, L_14, L_15, L_16, L_17, L_24, L_31, L_45, L_80, L_127, L_200, L_640, L_1280, L_1000000000, T_0, T_1, T_2, T_3, T_4, T_5, T_6, T_7, T_8, T_9, T_10, T_11, T_12, T_13, T_14, T_15, T_16, T_17, CS_gi C]
  ((repeat' split) <;> (try simp only [sB0, sB1]) <;> (first | rfl | grind | (simp_all; done) | (simp_all; omega)))
theorem c_isBadOpening (h : WF S) (C : CS S nu on gi) (hL : 0 < S.L) {p : Int} (h3 : 0 ≤ p) (h4 : p ≤ 127) : m_Rules_isBadOpening (I S.K) nu gi (I p) = some (B (S.bopen p)) := by
  have := WF_N2 h hL
  unfold m_Rules_isBadOpening Su.bopen Su.inn
  simp (disch := omega) only [gd_I, nz_I, bd_S, gb_B, nar_B, I_add, I_sub, I_mul, I_neg, I_div, I_nat, I_lt, I_le, I_eq, B_0, B_1, L_0, L_1, L_2, L_3, L_4, L_5, L_6, L_7, L_8, L_9, L_10, L_11, L_12, L_13, L_14, L_15, L_16, L_17, L_24, L_31, L_45, L_80, L_127, L_200, L_640, L_1280, L_1000000000, T_0, T_1, T_2, T_3, T_4, T_5, T_6, T_7, T_8, T_9, T_10, T_11, T_12, T_13, T_14, T_15, T_16, T_17, c_classWith h C, c_isIn C]
  ((repeat' split) <;> (try simp only [sB0, sB1]) <;> (first | rfl | grind | (simp_all; done) | (simp_all; omega)))
theorem c_isBadClosing (h : WF S) (C : CS S nu on gi) (hL : 0 < S.L) {j a b : Int} (j0 : 0 ≤ j) (j1 : j < S.N) (h1 : 0 ≤ a) (h2 : a ≤ 127) (h3 : 0 ≤ b) (h4 : b ≤ 127) : m_Rules_isBadClosing (I S.K) nu gi (I j) (I a) (I b) = some (B (S.bclose j a b)) := by
  unfold m_Rules_isBadClosing Su.bclose Su.inn
  simp (disch := omega) only [gd_I, nz_I, bd_S, gb_B, nar_B, I_add, I_sub, I_mul, I_neg, I_div, I_nat, I_lt, I_le, I_eq, B_0, B_1, L_0, L_1, L_2, L_3, L_4, L_5, L_6, L_7, L_8, L_9, L_10, L_11, L_12, L_13, L_14, L_15, L_16, L_17, L_24, L_31, L_45, L_80, L_127, L_200, L_640, L_1280, L_1000000000, T_0, T_1, T_2, T_3, T_4, T_5, T_6, T_7, T_8, T_9, T_10, T_11, T_12, T_13, T_14, T_15, T_16, T_17, c_classWith h C, c_isIn C, c_isStepwise h C]
  ((repeat' split) <;> (try simp only [sB0, sB1]) <;> (first | rfl | grind | (simp_all; done) | (simp_all; omega)))
theorem c_isAlike (h : WF S) (C : CS S nu on gi) {l j a b : Int} (l0 : 0 ≤ l) (l1 : l < S.L) (j0 : 1 ≤ j / S.K) (j1 : j < S.N) (h1 : 0 ≤ a) (h2 : a ≤ 127) (h3 : 0 ≤ b) (h4 : b ≤ 127) : m_Rules_isAlike (I S.K) gi (I l) (I j) (I a) (I b) = some (B (S.alike l j a b)) := by
  have hK := WF_K4 h; have := WF_L h; have := WF_n h; have := WF_N h
  have j00 : 0 ≤ j := by
    rcases WF_K h with e | e | e <;> rw [e] at j0 <;> omega
  have q := WF_jK h j00 j1
  have g0 := WF_g h l _ l0 l1 q.1 q.2
  have g1 := WF_g h l (j / S.K - 1) l0 l1 (by omega) (by omega)
  unfold m_Rules_isAlike Su.alike Su.gv Su.gp
  simp only [m_Rules_isAlike_62]
  simp (disch := omega) only [gd_I, nz_I, bd_S, gb_B, nar_B, I_add, I_sub, I_mul, I_neg, I_div, I_nat, I_lt, I_le, I_eq, B_0, B_1, L_0, L_1, L_2, L_3, L_4, L_5, L_6, L_7, L_8, L_9, L_10, L_11, L_12, L_13, L_14, L_15, L_16, L_17, L_24, L_31, L_45, L_80, L_127, L_200, L_640, L_1280, L_1000000000, T_0, T_1, T_2, T_3, T_4, T_5, T_6, T_7, T_8, T_9, T_10, T_11, T_12, T_13, T_14, T_15, T_16, T_17, CS_gi C]
  ((repeat' split) <;> (try simp only [sB0, sB1]) <;> (first | rfl | grind | (simp_all; done) | (simp_all; omega)))
theorem jK1 (h : WF S) (j : Int) : (j - S.K) / S.K = j / S.K - 1 := by
  rcases WF_K h with e | e | e <;> rw [e] <;> omega
theorem c_isParallel (h : WF S) (C : CS S nu on gi) {l j a b : Int} (l0 : 0 ≤ l) (l1 : l < S.L) (j0 : 1 ≤ j / S.K) (jj : 0 ≤ j - S.K) (j1 : j < S.N) (h1 : 0 ≤ a) (h2 : a ≤ 127) (h3 : 0 ≤ b) (h4 : b ≤ 127) : m_Rules_isParallel (I S.K) nu gi (I l) (I j) (I a) (I b) = some (B (S.par l j a b)) := by
  have hK := WF_K4 h
  have f0 := r12_0 (fr0 b (S.gv l j)); have f1 := r12_0 (fr0 a (S.gv l (j - S.K)))
  have e1 : S.gp l j = S.gv l (j - S.K) := by unfold Su.gp Su.gv; rw [jK1 h]
  unfold m_Rules_isParallel Su.par Su.inn
  rw [e1]
  simp (disch := omega) only [gd_I, nz_I, bd_S, gb_B, nar_B, I_add, I_sub, I_mul, I_neg, I_div, I_nat, I_lt, I_le, I_eq, B_0, B_1, L_0, L_1, L_2, L_3, L_4, L_5, L_6, L_7, L_8, L_9, L_10, L_11, L_12, L_13, L_14, L_15, L_16, L_17, L_24, L_31, L_45, L_80, L_127, L_200, L_640, L_1280, L_1000000000, T_0, T_1, T_2, T_3, T_4, T_5, T_6, T_7, T_8, T_9, T_10, T_11, T_12, T_13, T_14, T_15, T_16, T_17, c_classWith h C, c_isIn C, c_isAlike h C]
  ((repeat' split) <;> (try simp only [sB0, sB1]) <;> (first | rfl | grind | (simp_all; done) | (simp_all; omega)))
theorem c_isHidden (h : WF S) (C : CS S nu on gi) {l j a b : Int} (l0 : 0 ≤ l) (l1 : l < S.L) (j0 : 1 ≤ j / S.K) (jj : 0 ≤ j - S.K) (j1 : j < S.N) (h1 : 0 ≤ a) (h2 : a ≤ 127) (h3 : 0 ≤ b) (h4 : b ≤ 127) : m_Rules_isHidden (I S.K) nu gi (I l) (I j) (I a) (I b) = some (B (S.hid l j a b)) := by
  have hK := WF_K4 h
  have n8 := WF_nu h 8 (by decide); have f0 := fr0 a b; have f1 := fr1 h1 h2 h3 h4
  unfold m_Rules_isHidden Su.hid Su.inn
  simp (disch := omega) only [gd_I, nz_I, bd_S, gb_B, nar_B, I_add, I_sub, I_mul, I_neg, I_div, I_nat, I_lt, I_le, I_eq, B_0, B_1, L_0, L_1, L_2, L_3, L_4, L_5, L_6, L_7, L_8, L_9, L_10, L_11, L_12, L_13, L_14, L_15, L_16, L_17, L_24, L_31, L_45, L_80, L_127, L_200, L_640, L_1280, L_1000000000, T_0, T_1, T_2, T_3, T_4, T_5, T_6, T_7, T_8, T_9, T_10, T_11, T_12, T_13, T_14, T_15, T_16, T_17, c_classWith h C, c_isIn C, c_isAlike h C, c_dist, CS_nu C]
  ((repeat' split) <;> (try simp only [sB0, sB1]) <;> (first | rfl | grind | (simp_all; done) | (simp_all; omega)))
theorem c_total (h : WF S) : m_Setup_total (I S.L) (I S.n) (I S.K) = some (I (if S.L = 0 then 0 else S.N)) := by
  have := WF_L h
  unfold m_Setup_total Su.N
  simp (disch := omega) only [gd_I, nz_I, bd_S, gb_B, nar_B, I_add, I_sub, I_mul, I_neg, I_div, I_nat, I_lt, I_le, I_eq, B_0, B_1, L_0, L_1, L_2, L_3, L_4, L_5, L_6, L_7, L_8, L_9, L_10, L_11, L_12, L_13, L_14, L_15, L_16, L_17, L_24, L_31, L_45, L_80, L_127, L_200, L_640, L_1280, L_1000000000, T_0, T_1, T_2, T_3, T_4, T_5, T_6, T_7, T_8, T_9, T_10, T_11, T_12, T_13, T_14, T_15, T_16, T_17]
  split <;> rfl
theorem c_nc_it (h : WF S) (C : CS S nu on gi) {F : Nat} {k56 : Int32 → Int32 → Int32 → Int32 → Option Int32} {j p l acc : Int} (h1 : 0 ≤ j) (h2 : j < S.N) (h3 : 0 ≤ p) (h4 : p ≤ 127) (l0 : 0 ≤ l) (l1 : l < S.L) : m_Rules_noteCost_56b F (I S.L) (I S.n) (I S.K) nu gi k56 (I j) (I p) (I acc) (I l) = k56 (I j) (I p) (I (acc + (if S.inn 4 p (S.gv l j) then S.nu 16 else 0))) (I (l + 1)) := by
  have hL := WF_L h
  unfold m_Rules_noteCost_56b m_Rules_noteCost_97 Su.inn
  simp (disch := omega) only [gd_I, nz_I, bd_S, gb_B, nar_B, I_add, I_sub, I_mul, I_neg, I_div, I_nat, I_lt, I_le, I_eq, B_0, B_1, L_0, L_1, L_2, L_3, L_4, L_5, L_6, L_7, L_8, L_9, L_10, L_11, L_12, L_13, L_14, L_15, L_16, L_17, L_24, L_31, L_45, L_80, L_127, L_200, L_640, L_1280, L_1000000000, T_0, T_1, T_2, T_3, T_4, T_5, T_6, T_7, T_8, T_9, T_10, T_11, T_12, T_13, T_14, T_15, T_16, T_17, c_classWith h C, c_isIn C, CS_nu C]
  rw [if_neg (by omega)]
  split
  · rename_i e; rw [e, if_neg (by decide), Int.add_zero]
  · rename_i e; rw [if_pos (by simpa using e)]
theorem c_nc_ex (h : WF S) {F : Nat} {k56 : Int32 → Int32 → Int32 → Int32 → Option Int32} {j p l acc : Int} (l0 : S.L ≤ l) (l1 : l < 100) : m_Rules_noteCost_56b F (I S.L) (I S.n) (I S.K) nu gi k56 (I j) (I p) (I acc) (I l) = some (I acc) := by
  have hL := WF_L h
  unfold m_Rules_noteCost_56b
  simp (disch := omega) only [gd_I, nz_I, bd_S, gb_B, nar_B, I_add, I_sub, I_mul, I_neg, I_div, I_nat, I_lt, I_le, I_eq, B_0, B_1, L_0, L_1, L_2, L_3, L_4, L_5, L_6, L_7, L_8, L_9, L_10, L_11, L_12, L_13, L_14, L_15, L_16, L_17, L_24, L_31, L_45, L_80, L_127, L_200, L_640, L_1280, L_1000000000, T_0, T_1, T_2, T_3, T_4, T_5, T_6, T_7, T_8, T_9, T_10, T_11, T_12, T_13, T_14, T_15, T_16, T_17]
  rw [if_pos l0]
theorem c_noteCost (h : WF S) (C : CS S nu on gi) {F : Nat} (hF : 2000 ≤ F) {j p : Int} (h1 : 0 ≤ j) (h2 : j < S.N) (h3 : 0 ≤ p) (h4 : p ≤ 127) (hL : 0 < S.L) : m_Rules_noteCost F (I S.L) (I S.n) (I S.K) nu gi (I j) (I p) = some (I (S.ncost j p)) := by
  obtain ⟨G, hG⟩ : ∃ G, F = G + 4 := ⟨F - 4, by omega⟩
  have hL2 := WF_L h; have hN := WF_N h
  have e56 : m_Rules_noteCost_56 F (I S.L) (I S.n) (I S.K) nu gi F (I j) (I p) (I 0) (I 0) = some (I (sumL S.L (fun l => if S.inn 4 p (S.gv l j) then S.nu 16 else 0))) := by
    rw [show m_Rules_noteCost_56 F (I S.L) (I S.n) (I S.K) nu gi F (I j) (I p) (I 0) (I 0) = m_Rules_noteCost_56 F (I S.L) (I S.n) (I S.K) nu gi (G + 4) (I j) (I p) (I 0) (I 0) from by rw [← hG]]
    simp only [m_Rules_noteCost_56]
    rcases (by omega : S.L = 1 ∨ S.L = 2 ∨ S.L = 3) with e | e | e
    · rw [c_nc_it h C h1 h2 h3 h4 (by omega) (by omega), c_nc_ex h (by omega) (by omega), sumL1 e]
    · rw [c_nc_it h C h1 h2 h3 h4 (by omega) (by omega), c_nc_it h C h1 h2 h3 h4 (by omega) (by omega), c_nc_ex h (by omega) (by omega), sumL2 e]
    · rw [c_nc_it h C h1 h2 h3 h4 (by omega) (by omega), c_nc_it h C h1 h2 h3 h4 (by omega) (by omega), c_nc_it h C h1 h2 h3 h4 (by omega) (by omega), c_nc_ex h (by omega) (by omega), sumL3 e]
  have eL : (if S.L = 0 then 0 else S.N) = S.N := if_neg (by omega)
  unfold m_Rules_noteCost Su.ncost
  simp (disch := omega) only [gd_I, nz_I, bd_S, gb_B, nar_B, I_add, I_sub, I_mul, I_neg, I_div, I_nat, I_lt, I_le, I_eq, B_0, B_1, L_0, L_1, L_2, L_3, L_4, L_5, L_6, L_7, L_8, L_9, L_10, L_11, L_12, L_13, L_14, L_15, L_16, L_17, L_24, L_31, L_45, L_80, L_127, L_200, L_640, L_1280, L_1000000000, T_0, T_1, T_2, T_3, T_4, T_5, T_6, T_7, T_8, T_9, T_10, T_11, T_12, T_13, T_14, T_15, T_16, T_17, c_isStrong h, c_isHard h C hF, c_total h, CS_nu C, eL, e56]
  ((repeat' split) <;> (try simp only [sB0, sB1]) <;> (first | rfl | grind | (simp_all; done) | (simp_all; omega)))
theorem c_moveCost (h : WF S) (C : CS S nu on gi) {a b : Int} (h1 : 0 ≤ a) (h2 : a ≤ 127) (h3 : 0 ≤ b) (h4 : b ≤ 127) : m_Rules_moveCost nu (I a) (I b) = some (I (S.mcost a b)) := by
  have n8 := WF_nu h 8 (by decide); have f0 := fr0 a b; have f1 := fr1 h1 h2 h3 h4
  unfold m_Rules_moveCost Su.mcost
  simp only [m_Rules_moveCost_39]
  simp (disch := omega) only [gd_I, nz_I, bd_S, gb_B, nar_B, I_add, I_sub, I_mul, I_neg, I_div, I_nat, I_lt, I_le, I_eq, B_0, B_1, L_0, L_1, L_2, L_3, L_4, L_5, L_6, L_7, L_8, L_9, L_10, L_11, L_12, L_13, L_14, L_15, L_16, L_17, L_24, L_31, L_45, L_80, L_127, L_200, L_640, L_1280, L_1000000000, T_0, T_1, T_2, T_3, T_4, T_5, T_6, T_7, T_8, T_9, T_10, T_11, T_12, T_13, T_14, T_15, T_16, T_17, c_dist, CS_nu C]
  ((repeat' split) <;> (try simp only [sB0, sB1]) <;> (first | rfl | grind | (simp_all; done) | (simp_all; omega)))
theorem c_sc_it (h : WF S) (C : CS S nu on gi) {F : Nat} {k6 : Int32 → Int32 → Int32 → Int32 → Int32 → Option Int32} {j a b l acc : Int} (j0 : 1 ≤ j / S.K) (j1 : j < S.N) (h1 : 0 ≤ a) (h2 : a ≤ 127) (h3 : 0 ≤ b) (h4 : b ≤ 127) (l0 : 0 ≤ l) (l1 : l < S.L) : m_Rules_strongMoveCost_6b F (I S.L) (I S.K) nu gi k6 (I j) (I a) (I b) (I acc) (I l) = k6 (I j) (I a) (I b) (I (acc + (if S.alike l j a b then S.nu 15 else 0))) (I (l + 1)) := by
  have hL := WF_L h
  unfold m_Rules_strongMoveCost_6b m_Rules_strongMoveCost_45
  simp (disch := omega) only [gd_I, nz_I, bd_S, gb_B, nar_B, I_add, I_sub, I_mul, I_neg, I_div, I_nat, I_lt, I_le, I_eq, B_0, B_1, L_0, L_1, L_2, L_3, L_4, L_5, L_6, L_7, L_8, L_9, L_10, L_11, L_12, L_13, L_14, L_15, L_16, L_17, L_24, L_31, L_45, L_80, L_127, L_200, L_640, L_1280, L_1000000000, T_0, T_1, T_2, T_3, T_4, T_5, T_6, T_7, T_8, T_9, T_10, T_11, T_12, T_13, T_14, T_15, T_16, T_17, c_isAlike h C, CS_nu C]
  rw [if_neg (by omega)]
  split
  · rename_i e; rw [e, if_neg (by decide), Int.add_zero]
  · rename_i e; rw [if_pos (by simpa using e)]
theorem c_sc_ex (h : WF S) {F : Nat} {k6 : Int32 → Int32 → Int32 → Int32 → Int32 → Option Int32} {j a b l acc : Int} (l0 : S.L ≤ l) (l1 : l < 100) : m_Rules_strongMoveCost_6b F (I S.L) (I S.K) nu gi k6 (I j) (I a) (I b) (I acc) (I l) = some (I acc) := by
  have hL := WF_L h
  unfold m_Rules_strongMoveCost_6b
  simp (disch := omega) only [gd_I, nz_I, bd_S, gb_B, nar_B, I_add, I_sub, I_mul, I_neg, I_div, I_nat, I_lt, I_le, I_eq, B_0, B_1, L_0, L_1, L_2, L_3, L_4, L_5, L_6, L_7, L_8, L_9, L_10, L_11, L_12, L_13, L_14, L_15, L_16, L_17, L_24, L_31, L_45, L_80, L_127, L_200, L_640, L_1280, L_1000000000, T_0, T_1, T_2, T_3, T_4, T_5, T_6, T_7, T_8, T_9, T_10, T_11, T_12, T_13, T_14, T_15, T_16, T_17]
  rw [if_pos l0]
theorem c_strongMoveCost (h : WF S) (C : CS S nu on gi) {F : Nat} (hF : 2000 ≤ F) {j a b : Int} (j0 : 1 ≤ j / S.K) (j1 : j < S.N) (h1 : 0 ≤ a) (h2 : a ≤ 127) (h3 : 0 ≤ b) (h4 : b ≤ 127) : m_Rules_strongMoveCost F (I S.L) (I S.K) nu gi (I j) (I a) (I b) = some (I (S.scost j a b)) := by
  obtain ⟨G, hG⟩ : ∃ G, F = G + 4 := ⟨F - 4, by omega⟩
  have hL := WF_L h
  unfold m_Rules_strongMoveCost Su.scost
  rw [show m_Rules_strongMoveCost_6 F (I S.L) (I S.K) nu gi F (I j) (I a) (I b) (0 : Int32) (0 : Int32) = m_Rules_strongMoveCost_6 F (I S.L) (I S.K) nu gi (G + 4) (I j) (I a) (I b) (I 0) (I 0) from by rw [← hG]; rfl]
  simp only [m_Rules_strongMoveCost_6]
  rcases (by omega : S.L = 0 ∨ S.L = 1 ∨ S.L = 2 ∨ S.L = 3) with e | e | e | e
  · rw [c_sc_ex h (by omega) (by omega), sumL0 e]
  · rw [c_sc_it h C j0 j1 h1 h2 h3 h4 (by omega) (by omega), c_sc_ex h (by omega) (by omega), sumL1 e]
  · rw [c_sc_it h C j0 j1 h1 h2 h3 h4 (by omega) (by omega), c_sc_it h C j0 j1 h1 h2 h3 h4 (by omega) (by omega), c_sc_ex h (by omega) (by omega), sumL2 e]
  · rw [c_sc_it h C j0 j1 h1 h2 h3 h4 (by omega) (by omega), c_sc_it h C j0 j1 h1 h2 h3 h4 (by omega) (by omega), c_sc_it h C j0 j1 h1 h2 h3 h4 (by omega) (by omega), c_sc_ex h (by omega) (by omega), sumL3 e]
end
