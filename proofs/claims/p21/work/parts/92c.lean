/-! pure part: the class's tables of moves, turns and STRONG moves -/
section
variable {S : Su} {nu on pi : Nat → Int32} {gi : Nat → Nat → Int32} {F : Nat}
theorem c_fm_it (h : WF S) (C : CS S nu on gi) (hF : 2000 ≤ F) (hL : 0 < S.L) (hp : PP S pi) (hc : S.c ≤ 8) {k2 : (Nat → Int32) → (Nat → Int32) → (Nat → Int32) → Int32 → Option ((Nat → Int32) × (Nat → Int32) × (Nat → Int32))} {k12 : (Nat → Int32) → (Nat → Int32) → (Nat → Int32) → Int32 → Int32 → Option ((Nat → Int32) × (Nat → Int32) × (Nat → Int32))} {vp mt bc : Nat → Int32} {a b : Int} (h1 : 0 ≤ a) (h2 : a < S.c) (h3 : 0 ≤ b) (h4 : b < S.c) : m_Prices_fillMoves_12b F (I S.K) nu on gi (I S.c) (I S.N) pi k2 k12 vp mt bc (I a) (I b) = k12 (upd vp (a * 8 + b).toNat (I (S.mpv a b))) (upd mt (a * 8 + b).toNat (B (S.on 6 && S.turn (S.P a) (S.P b)))) (upd bc (a * 8 + b).toNat (B (S.cbad (S.P a) (S.P b)))) (I a) (I (b + 1)) := by
  have hN := WF_N h; have hN2 := WF_N2 h hL
  have pa := P_range h h1 h2; have pb := P_range h h3 h4
  have ea := hp a h1 h2; have eb := hp b h3 h4
  have e147 : ∀ (vp mt bc : Nat → Int32) (x : Bool), m_Prices_fillMoves_147 F (I S.K) nu on gi (I S.c) (I S.N) pi k2 k12 vp mt bc (I a) (I b) (I (a * 8 + b)) (I (a * 8 + b)) (B x) = k12 vp (upd mt (a * 8 + b).toNat (B x)) (upd bc (a * 8 + b).toNat (B (S.cbad (S.P a) (S.P b)))) (I a) (I (b + 1)) := by
    intro vp mt bc x
    simp only [m_Prices_fillMoves_147, m_Prices_fillMoves_198, m_Prices_fillMoves_199]
    unfold Su.cbad
    simp (disch := omega) only [gd_I, nz_I, bd_S, gb_B, nar_B, I_add, I_sub, I_mul, I_neg, I_div, I_nat, I_lt, I_le, I_eq, B_0, B_1, L_0, L_1, L_2, L_3, L_4, L_5, L_6, L_7, L_8, L_9, L_10, L_11, L_12, L_13, L_14, L_15, L_16, L_17, L_24, L_31, L_45, L_80, L_127, L_200, L_640, L_1280, L_1000000000, T_0, T_1, T_2, T_3, T_4, T_5, T_6, T_7, T_8, T_9, T_10, T_11, T_12, T_13, T_14, T_15, T_16, T_17, ea, eb, CS_on C, c_isBadClosing h C hL, nar_0, nar_1]
    cases S.on 9 <;> cases S.bclose (S.N - 1) (S.P a) (S.P b) <;> simp [B]
  have e101 : ∀ (vp mt bc : Nat → Int32) (v : Int), m_Prices_fillMoves_101 F (I S.K) nu on gi (I S.c) (I S.N) pi k2 k12 vp mt bc (I a) (I b) (I (a * 8 + b)) (I (a * 8 + b)) (I v) = k12 (upd vp (a * 8 + b).toNat (I v)) (upd mt (a * 8 + b).toNat (B (S.on 6 && S.turn (S.P a) (S.P b)))) (upd bc (a * 8 + b).toNat (B (S.cbad (S.P a) (S.P b)))) (I a) (I (b + 1)) := by
    intro vp mt bc v
    have e0 : I 0 = B false := rfl
    have e1 : I 1 = B true := rfl
    have f0 := e147 (upd vp (a * 8 + b).toNat (I v)) mt bc false
    have f1 := e147 (upd vp (a * 8 + b).toNat (I v)) mt bc true
    rw [← e0] at f0; rw [← e1] at f1
    simp only [m_Prices_fillMoves_101, m_Prices_fillMoves_146]
    simp (disch := omega) only [gd_I, nz_I, bd_S, gb_B, nar_B, I_add, I_sub, I_mul, I_neg, I_div, I_nat, I_lt, I_le, I_eq, B_0, B_1, L_0, L_1, L_2, L_3, L_4, L_5, L_6, L_7, L_8, L_9, L_10, L_11, L_12, L_13, L_14, L_15, L_16, L_17, L_24, L_31, L_45, L_80, L_127, L_200, L_640, L_1280, L_1000000000, T_0, T_1, T_2, T_3, T_4, T_5, T_6, T_7, T_8, T_9, T_10, T_11, T_12, T_13, T_14, T_15, T_16, T_17, ea, eb, CS_on C, c_mustTurn h C, f0, f1]
    cases S.on 6 <;> cases S.turn (S.P a) (S.P b) <;> simp [B]
  have e66 : ∀ (vp mt bc : Nat → Int32) (x : Bool), m_Prices_fillMoves_66 F (I S.K) nu on gi (I S.c) (I S.N) pi k2 k12 vp mt bc (I a) (I b) (I (a * 8 + b)) (B x) = k12 (upd vp (a * 8 + b).toNat (I (if x then -1 else S.mcost (S.P a) (S.P b)))) (upd mt (a * 8 + b).toNat (B (S.on 6 && S.turn (S.P a) (S.P b)))) (upd bc (a * 8 + b).toNat (B (S.cbad (S.P a) (S.P b)))) (I a) (I (b + 1)) := by
    intro vp mt bc x
    simp only [m_Prices_fillMoves_66]
    simp (disch := omega) only [gd_I, nz_I, bd_S, gb_B, nar_B, I_add, I_sub, I_mul, I_neg, I_div, I_nat, I_lt, I_le, I_eq, B_0, B_1, L_0, L_1, L_2, L_3, L_4, L_5, L_6, L_7, L_8, L_9, L_10, L_11, L_12, L_13, L_14, L_15, L_16, L_17, L_24, L_31, L_45, L_80, L_127, L_200, L_640, L_1280, L_1000000000, T_0, T_1, T_2, T_3, T_4, T_5, T_6, T_7, T_8, T_9, T_10, T_11, T_12, T_13, T_14, T_15, T_16, T_17, ea, eb, c_moveCost h C, e101]
    cases x <;> simp
  have f0 := e66 vp mt bc false
  have f1 := e66 vp mt bc true
  rw [show B false = I 0 from rfl] at f0; rw [show B true = I 1 from rfl] at f1
  simp only [m_Prices_fillMoves_12b, m_Prices_fillMoves_65]
  unfold Su.mpv Su.mbad
  simp (disch := omega) only [gd_I, nz_I, bd_S, gb_B, nar_B, I_add, I_sub, I_mul, I_neg, I_div, I_nat, I_lt, I_le, I_eq, B_0, B_1, L_0, L_1, L_2, L_3, L_4, L_5, L_6, L_7, L_8, L_9, L_10, L_11, L_12, L_13, L_14, L_15, L_16, L_17, L_24, L_31, L_45, L_80, L_127, L_200, L_640, L_1280, L_1000000000, T_0, T_1, T_2, T_3, T_4, T_5, T_6, T_7, T_8, T_9, T_10, T_11, T_12, T_13, T_14, T_15, T_16, T_17, ea, eb, CS_on C, c_isLeaping h C, f0, f1]
  rw [if_neg (by omega)]
  cases S.on 5 <;> cases S.leap (S.P a) (S.P b) <;> simp
theorem c_fm12 (h : WF S) (C : CS S nu on gi) (hF : 2000 ≤ F) (hL : 0 < S.L) (hp : PP S pi) (hc : S.c ≤ 8) {Q : (Nat → Int32) × (Nat → Int32) × (Nat → Int32) → Prop} {k2 : (Nat → Int32) → (Nat → Int32) → (Nat → Int32) → Int32 → Option ((Nat → Int32) × (Nat → Int32) × (Nat → Int32))} {a : Int} (h1 : 0 ≤ a) (h2 : a < S.c) (hk : ∀ vp mt bc, MT S vp mt bc ((a + 1) * 8) → Ok (k2 vp mt bc (I (a + 1))) Q) : ∀ (r n : Nat) (b : Int) (vp mt bc : Nat → Int32), ((S.c : Int) - b).toNat = r → r < n → 0 ≤ b → b ≤ S.c → MT S vp mt bc (a * 8 + b) → Ok (m_Prices_fillMoves_12 F (I S.K) nu on gi (I S.c) (I S.N) pi k2 n vp mt bc (I a) (I b)) Q
  | 0, n, b, vp, mt, bc, e, hn, b0, b1, ht => by
    obtain ⟨m, rfl⟩ : ∃ m, n = m + 1 := ⟨n - 1, by omega⟩
    simp only [m_Prices_fillMoves_12, m_Prices_fillMoves_12b]
    simp (disch := omega) only [gd_I, nz_I, bd_S, gb_B, nar_B, I_add, I_sub, I_mul, I_neg, I_div, I_nat, I_lt, I_le, I_eq, B_0, B_1, L_0, L_1, L_2, L_3, L_4, L_5, L_6, L_7, L_8, L_9, L_10, L_11, L_12, L_13, L_14, L_15, L_16, L_17, L_24, L_31, L_45, L_80, L_127, L_200, L_640, L_1280, L_1000000000, T_0, T_1, T_2, T_3, T_4, T_5, T_6, T_7, T_8, T_9, T_10, T_11, T_12, T_13, T_14, T_15, T_16, T_17]
    rw [if_pos (by omega)]
    exact hk vp mt bc (fun a2 b2 g1 g2 g3 g4 g5 => ht a2 b2 g1 g2 g3 g4 (by omega))
  | r + 1, n, b, vp, mt, bc, e, hn, b0, b1, ht => by
    obtain ⟨m, rfl⟩ : ∃ m, n = m + 1 := ⟨n - 1, by omega⟩
    simp only [m_Prices_fillMoves_12]
    rw [c_fm_it h C hF hL hp hc h1 h2 b0 (by omega)]
    refine c_fm12 h C hF hL hp hc h1 h2 hk r m (b + 1) _ _ _ (by omega) (by omega) (by omega) (by omega) ?_
    intro a2 b2 g1 g2 g3 g4 g5
    by_cases ei : a2 * 8 + b2 = a * 8 + b
    · have e1 : a2 = a := by omega
      have e2 : b2 = b := by omega
      subst e1; subst e2
      exact ⟨upd_at _ _ _, upd_at _ _ _, upd_at _ _ _⟩
    · have := ht a2 b2 g1 g2 g3 g4 (by omega)
      rw [upd_ne _ _ (by omega), upd_ne _ _ (by omega), upd_ne _ _ (by omega)]
      exact this
theorem c_fm2 (h : WF S) (C : CS S nu on gi) (hF : 2000 ≤ F) (hL : 0 < S.L) (hp : PP S pi) (hc : S.c ≤ 8) : ∀ (r n : Nat) (a : Int) (vp mt bc : Nat → Int32), ((S.c : Int) - a).toNat = r → r < n → 0 ≤ a → a ≤ S.c → MT S vp mt bc (a * 8) → Ok (m_Prices_fillMoves_2 F (I S.K) nu on gi (I S.c) (I S.N) pi n vp mt bc (I a)) (fun u => MT S u.1 u.2.1 u.2.2 64)
  | 0, n, a, vp, mt, bc, e, hn, a0, a1, ht => by
    obtain ⟨m, rfl⟩ : ∃ m, n = m + 1 := ⟨n - 1, by omega⟩
    simp only [m_Prices_fillMoves_2, m_Prices_fillMoves_2b]
    simp (disch := omega) only [gd_I, nz_I, bd_S, gb_B, nar_B, I_add, I_sub, I_mul, I_neg, I_div, I_nat, I_lt, I_le, I_eq, B_0, B_1, L_0, L_1, L_2, L_3, L_4, L_5, L_6, L_7, L_8, L_9, L_10, L_11, L_12, L_13, L_14, L_15, L_16, L_17, L_24, L_31, L_45, L_80, L_127, L_200, L_640, L_1280, L_1000000000, T_0, T_1, T_2, T_3, T_4, T_5, T_6, T_7, T_8, T_9, T_10, T_11, T_12, T_13, T_14, T_15, T_16, T_17]
    rw [if_pos (by omega)]
    exact Ok_some (fun a2 b2 g1 g2 g3 g4 g5 => ht a2 b2 g1 g2 g3 g4 (by omega))
  | r + 1, n, a, vp, mt, bc, e, hn, a0, a1, ht => by
    obtain ⟨m, rfl⟩ : ∃ m, n = m + 1 := ⟨n - 1, by omega⟩
    simp only [m_Prices_fillMoves_2, m_Prices_fillMoves_2b]
    simp (disch := omega) only [gd_I, nz_I, bd_S, gb_B, nar_B, I_add, I_sub, I_mul, I_neg, I_div, I_nat, I_lt, I_le, I_eq, B_0, B_1, L_0, L_1, L_2, L_3, L_4, L_5, L_6, L_7, L_8, L_9, L_10, L_11, L_12, L_13, L_14, L_15, L_16, L_17, L_24, L_31, L_45, L_80, L_127, L_200, L_640, L_1280, L_1000000000, T_0, T_1, T_2, T_3, T_4, T_5, T_6, T_7, T_8, T_9, T_10, T_11, T_12, T_13, T_14, T_15, T_16, T_17]
    rw [if_neg (by omega)]
    refine c_fm12 h C hF hL hp hc a0 (by omega) (fun vp2 mt2 bc2 h9 => ?_) _ F 0 vp mt bc rfl (by omega) (by omega) (by omega) (fun a2 b2 g1 g2 g3 g4 g5 => ht a2 b2 g1 g2 g3 g4 (by omega))
    exact c_fm2 h C hF hL hp hc r m (a + 1) vp2 mt2 bc2 (by omega) (by omega) (by omega) (by omega) h9
theorem c_fillMoves (h : WF S) (C : CS S nu on gi) (hF : 2000 ≤ F) (hL : 0 < S.L) (hp : PP S pi) (hc : S.c ≤ 8) (vp mt bc : Nat → Int32) : Ok (m_Prices_fillMoves F (I S.K) nu on gi (I S.c) (I S.N) pi vp mt bc) (fun u => MT S u.1 u.2.1 u.2.2 64) := by
  unfold m_Prices_fillMoves
  rw [L_0]
  exact c_fm2 h C hF hL hp hc _ F 0 vp mt bc rfl (by omega) (by omega) (by omega) (fun a2 b2 g1 g2 g3 g4 g5 => by omega)
theorem c_ft_it (h : WF S) (C : CS S nu on gi) (hF : 2000 ≤ F) (hL : 0 < S.L) (hp : PP S pi) (hc : S.c ≤ 8) {k2 : (Nat → Int32) → (Nat → Int32) → Int32 → Option ((Nat → Int32) × (Nat → Int32))} {k12 : (Nat → Int32) → (Nat → Int32) → Int32 → Int32 → Option ((Nat → Int32) × (Nat → Int32))} {k22 : (Nat → Int32) → (Nat → Int32) → Int32 → Int32 → Int32 → Option ((Nat → Int32) × (Nat → Int32))} {bt ps : Nat → Int32} {x a b : Int} (x1 : 0 ≤ x) (x2 : x < S.c) (h1 : 0 ≤ a) (h2 : a < S.c) (h3 : 0 ≤ b) (h4 : b < S.c) : m_Prices_fillTurns_22b F nu on (I S.c) pi k2 k12 k22 bt ps (I x) (I a) (I b) = k22 (upd bt ((x * 8 + a) * 8 + b).toNat (B (S.tbad (S.P x) (S.P a) (S.P b)))) (upd ps ((x * 8 + a) * 8 + b).toNat (B (S.pass (S.P x) (S.P a) (S.P b)))) (I x) (I a) (I (b + 1)) := by
  have px := P_range h x1 x2; have pa := P_range h h1 h2; have pb := P_range h h3 h4
  have ex := hp x x1 x2; have ea := hp a h1 h2; have eb := hp b h3 h4
  simp only [m_Prices_fillTurns_22b, m_Prices_fillTurns_94, m_Prices_fillTurns_95]
  unfold Su.tbad
  simp (disch := omega) only [gd_I, nz_I, bd_S, gb_B, nar_B, I_add, I_sub, I_mul, I_neg, I_div, I_nat, I_lt, I_le, I_eq, B_0, B_1, L_0, L_1, L_2, L_3, L_4, L_5, L_6, L_7, L_8, L_9, L_10, L_11, L_12, L_13, L_14, L_15, L_16, L_17, L_24, L_31, L_45, L_80, L_127, L_200, L_640, L_1280, L_1000000000, T_0, T_1, T_2, T_3, T_4, T_5, T_6, T_7, T_8, T_9, T_10, T_11, T_12, T_13, T_14, T_15, T_16, T_17, ex, ea, eb, CS_on C, c_isNotTurned h C, c_isPassing h C, nar_0, nar_1]
  rw [if_neg (by omega)]
  ((repeat' split) <;> (try simp only [sB0, sB1]) <;> (first | rfl | (simp_all [B]; done) | grind | (simp_all; omega)))
theorem c_ft22 (h : WF S) (C : CS S nu on gi) (hF : 2000 ≤ F) (hL : 0 < S.L) (hp : PP S pi) (hc : S.c ≤ 8) {Q : (Nat → Int32) × (Nat → Int32) → Prop} {k2 : (Nat → Int32) → (Nat → Int32) → Int32 → Option ((Nat → Int32) × (Nat → Int32))} {k12 : (Nat → Int32) → (Nat → Int32) → Int32 → Int32 → Option ((Nat → Int32) × (Nat → Int32))} {x a : Int} (x1 : 0 ≤ x) (x2 : x < S.c) (h1 : 0 ≤ a) (h2 : a < S.c) (hk : ∀ bt ps, TT S bt ps ((x * 8 + (a + 1)) * 8) → Ok (k12 bt ps (I x) (I (a + 1))) Q) : ∀ (r n : Nat) (b : Int) (bt ps : Nat → Int32), ((S.c : Int) - b).toNat = r → r < n → 0 ≤ b → b ≤ S.c → TT S bt ps ((x * 8 + a) * 8 + b) → Ok (m_Prices_fillTurns_22 F nu on (I S.c) pi k2 k12 n bt ps (I x) (I a) (I b)) Q
  | 0, n, b, bt, ps, e, hn, b0, b1, ht => by
    obtain ⟨m, rfl⟩ : ∃ m, n = m + 1 := ⟨n - 1, by omega⟩
    simp only [m_Prices_fillTurns_22, m_Prices_fillTurns_22b]
    simp (disch := omega) only [gd_I, nz_I, bd_S, gb_B, nar_B, I_add, I_sub, I_mul, I_neg, I_div, I_nat, I_lt, I_le, I_eq, B_0, B_1, L_0, L_1, L_2, L_3, L_4, L_5, L_6, L_7, L_8, L_9, L_10, L_11, L_12, L_13, L_14, L_15, L_16, L_17, L_24, L_31, L_45, L_80, L_127, L_200, L_640, L_1280, L_1000000000, T_0, T_1, T_2, T_3, T_4, T_5, T_6, T_7, T_8, T_9, T_10, T_11, T_12, T_13, T_14, T_15, T_16, T_17]
    rw [if_pos (by omega)]
    exact hk bt ps (fun y2 a2 b2 g1 g2 g3 g4 g5 g6 g7 => ht y2 a2 b2 g1 g2 g3 g4 g5 g6 (by omega))
  | r + 1, n, b, bt, ps, e, hn, b0, b1, ht => by
    obtain ⟨m, rfl⟩ : ∃ m, n = m + 1 := ⟨n - 1, by omega⟩
    simp only [m_Prices_fillTurns_22]
    rw [c_ft_it h C hF hL hp hc x1 x2 h1 h2 b0 (by omega)]
    refine c_ft22 h C hF hL hp hc x1 x2 h1 h2 hk r m (b + 1) _ _ (by omega) (by omega) (by omega) (by omega) ?_
    intro y2 a2 b2 g1 g2 g3 g4 g5 g6 g7
    by_cases ei : (y2 * 8 + a2) * 8 + b2 = (x * 8 + a) * 8 + b
    · have e0 : y2 = x := by omega
      have e1 : a2 = a := by omega
      have e2 : b2 = b := by omega
      subst e0; subst e1; subst e2
      exact ⟨upd_at _ _ _, upd_at _ _ _⟩
    · have := ht y2 a2 b2 g1 g2 g3 g4 g5 g6 (by omega)
      rw [upd_ne _ _ (by omega), upd_ne _ _ (by omega)]
      exact this
theorem c_ft12 (h : WF S) (C : CS S nu on gi) (hF : 2000 ≤ F) (hL : 0 < S.L) (hp : PP S pi) (hc : S.c ≤ 8) {Q : (Nat → Int32) × (Nat → Int32) → Prop} {k2 : (Nat → Int32) → (Nat → Int32) → Int32 → Option ((Nat → Int32) × (Nat → Int32))} {x : Int} (x1 : 0 ≤ x) (x2 : x < S.c) (hk : ∀ bt ps, TT S bt ps ((x + 1) * 64) → Ok (k2 bt ps (I (x + 1))) Q) : ∀ (r n : Nat) (a : Int) (bt ps : Nat → Int32), ((S.c : Int) - a).toNat = r → r < n → 0 ≤ a → a ≤ S.c → TT S bt ps ((x * 8 + a) * 8) → Ok (m_Prices_fillTurns_12 F nu on (I S.c) pi k2 n bt ps (I x) (I a)) Q
  | 0, n, a, bt, ps, e, hn, a0, a1, ht => by
    obtain ⟨m, rfl⟩ : ∃ m, n = m + 1 := ⟨n - 1, by omega⟩
    simp only [m_Prices_fillTurns_12, m_Prices_fillTurns_12b]
    simp (disch := omega) only [gd_I, nz_I, bd_S, gb_B, nar_B, I_add, I_sub, I_mul, I_neg, I_div, I_nat, I_lt, I_le, I_eq, B_0, B_1, L_0, L_1, L_2, L_3, L_4, L_5, L_6, L_7, L_8, L_9, L_10, L_11, L_12, L_13, L_14, L_15, L_16, L_17, L_24, L_31, L_45, L_80, L_127, L_200, L_640, L_1280, L_1000000000, T_0, T_1, T_2, T_3, T_4, T_5, T_6, T_7, T_8, T_9, T_10, T_11, T_12, T_13, T_14, T_15, T_16, T_17]
    rw [if_pos (by omega)]
    exact hk bt ps (fun y2 a2 b2 g1 g2 g3 g4 g5 g6 g7 => ht y2 a2 b2 g1 g2 g3 g4 g5 g6 (by omega))
  | r + 1, n, a, bt, ps, e, hn, a0, a1, ht => by
    obtain ⟨m, rfl⟩ : ∃ m, n = m + 1 := ⟨n - 1, by omega⟩
    simp only [m_Prices_fillTurns_12, m_Prices_fillTurns_12b]
    simp (disch := omega) only [gd_I, nz_I, bd_S, gb_B, nar_B, I_add, I_sub, I_mul, I_neg, I_div, I_nat, I_lt, I_le, I_eq, B_0, B_1, L_0, L_1, L_2, L_3, L_4, L_5, L_6, L_7, L_8, L_9, L_10, L_11, L_12, L_13, L_14, L_15, L_16, L_17, L_24, L_31, L_45, L_80, L_127, L_200, L_640, L_1280, L_1000000000, T_0, T_1, T_2, T_3, T_4, T_5, T_6, T_7, T_8, T_9, T_10, T_11, T_12, T_13, T_14, T_15, T_16, T_17]
    rw [if_neg (by omega)]
    refine c_ft22 h C hF hL hp hc x1 x2 a0 (by omega) (fun bt2 ps2 h9 => ?_) _ F 0 bt ps rfl (by omega) (by omega) (by omega) (fun y2 a2 b2 g1 g2 g3 g4 g5 g6 g7 => ht y2 a2 b2 g1 g2 g3 g4 g5 g6 (by omega))
    exact c_ft12 h C hF hL hp hc x1 x2 hk r m (a + 1) bt2 ps2 (by omega) (by omega) (by omega) (by omega) h9
theorem c_ft2 (h : WF S) (C : CS S nu on gi) (hF : 2000 ≤ F) (hL : 0 < S.L) (hp : PP S pi) (hc : S.c ≤ 8) : ∀ (r n : Nat) (x : Int) (bt ps : Nat → Int32), ((S.c : Int) - x).toNat = r → r < n → 0 ≤ x → x ≤ S.c → TT S bt ps (x * 64) → Ok (m_Prices_fillTurns_2 F nu on (I S.c) pi n bt ps (I x)) (fun u => TT S u.1 u.2 512)
  | 0, n, x, bt, ps, e, hn, a0, a1, ht => by
    obtain ⟨m, rfl⟩ : ∃ m, n = m + 1 := ⟨n - 1, by omega⟩
    simp only [m_Prices_fillTurns_2, m_Prices_fillTurns_2b]
    simp (disch := omega) only [gd_I, nz_I, bd_S, gb_B, nar_B, I_add, I_sub, I_mul, I_neg, I_div, I_nat, I_lt, I_le, I_eq, B_0, B_1, L_0, L_1, L_2, L_3, L_4, L_5, L_6, L_7, L_8, L_9, L_10, L_11, L_12, L_13, L_14, L_15, L_16, L_17, L_24, L_31, L_45, L_80, L_127, L_200, L_640, L_1280, L_1000000000, T_0, T_1, T_2, T_3, T_4, T_5, T_6, T_7, T_8, T_9, T_10, T_11, T_12, T_13, T_14, T_15, T_16, T_17]
    rw [if_pos (by omega)]
    exact Ok_some (fun y2 a2 b2 g1 g2 g3 g4 g5 g6 g7 => ht y2 a2 b2 g1 g2 g3 g4 g5 g6 (by omega))
  | r + 1, n, x, bt, ps, e, hn, a0, a1, ht => by
    obtain ⟨m, rfl⟩ : ∃ m, n = m + 1 := ⟨n - 1, by omega⟩
    simp only [m_Prices_fillTurns_2, m_Prices_fillTurns_2b]
    simp (disch := omega) only [gd_I, nz_I, bd_S, gb_B, nar_B, I_add, I_sub, I_mul, I_neg, I_div, I_nat, I_lt, I_le, I_eq, B_0, B_1, L_0, L_1, L_2, L_3, L_4, L_5, L_6, L_7, L_8, L_9, L_10, L_11, L_12, L_13, L_14, L_15, L_16, L_17, L_24, L_31, L_45, L_80, L_127, L_200, L_640, L_1280, L_1000000000, T_0, T_1, T_2, T_3, T_4, T_5, T_6, T_7, T_8, T_9, T_10, T_11, T_12, T_13, T_14, T_15, T_16, T_17]
    rw [if_neg (by omega)]
    refine c_ft12 h C hF hL hp hc a0 (by omega) (fun bt2 ps2 h9 => ?_) _ F 0 bt ps rfl (by omega) (by omega) (by omega) (fun y2 a2 b2 g1 g2 g3 g4 g5 g6 g7 => ht y2 a2 b2 g1 g2 g3 g4 g5 g6 (by omega))
    exact c_ft2 h C hF hL hp hc r m (x + 1) bt2 ps2 (by omega) (by omega) (by omega) (by omega) h9
theorem c_fillTurns (h : WF S) (C : CS S nu on gi) (hF : 2000 ≤ F) (hL : 0 < S.L) (hp : PP S pi) (hc : S.c ≤ 8) (bt ps : Nat → Int32) : Ok (m_Prices_fillTurns F nu on (I S.c) pi bt ps) (fun u => TT S u.1 u.2 512) := by
  unfold m_Prices_fillTurns
  rw [L_0]
  exact c_ft2 h C hF hL hp hc _ F 0 bt ps rfl (by omega) (by omega) (by omega) (fun y2 a2 b2 g1 g2 g3 g4 g5 g6 g7 => by omega)
theorem kK {S : Su} (h : WF S) {k : Int} (h1 : 1 ≤ k) (h2 : k < S.n) : k * S.K / S.K = k ∧ 0 ≤ k * S.K - S.K ∧ k * S.K < S.N ∧ 0 ≤ k * S.K := by
  have := WF_n h
  unfold Su.N
  rcases WF_K h with e | e | e <;> rw [e] <;> omega
theorem c_fs_it (h : WF S) (C : CS S nu on gi) (hF : 2000 ≤ F) (hL : 0 < S.L) (hp : PP S pi) (hc : S.c ≤ 8) {k2 : (Nat → Int32) → Int32 → Option (Nat → Int32)} {k22 : (Nat → Int32) → Int32 → Int32 → Int32 → Option (Nat → Int32)} {k33 : (Nat → Int32) → Int32 → Int32 → Int32 → Int32 → Option (Nat → Int32)} {sp : Nat → Int32} {k a b : Int} (x1 : 1 ≤ k) (x2 : k < S.n) (h1 : 0 ≤ a) (h2 : a < S.c) (h3 : 0 ≤ b) (h4 : b < S.c) : m_Prices_fillStrongMoves_33b F (I S.L) (I S.n) (I S.K) nu on gi (I S.c) (I S.K) pi k2 k22 k33 sp (I k) (I (k * S.K)) (I a) (I b) = k33 (upd sp ((k * 8 + a) * 8 + b).toNat (I (S.spv k a b))) (I k) (I (k * S.K)) (I a) (I (b + 1)) := by
  have hn := WF_n h; have hN := WF_N h
  have pa := P_range h h1 h2; have pb := P_range h h3 h4
  have ea := hp a h1 h2; have eb := hp b h3 h4
  obtain ⟨q1, q2, q3, q4⟩ := kK h x1 x2
  simp only [m_Prices_fillStrongMoves_33b, m_Prices_fillStrongMoves_108]
  unfold Su.spv
  simp (disch := omega) only [gd_I, nz_I, bd_S, gb_B, nar_B, I_add, I_sub, I_mul, I_neg, I_div, I_nat, I_lt, I_le, I_eq, B_0, B_1, L_0, L_1, L_2, L_3, L_4, L_5, L_6, L_7, L_8, L_9, L_10, L_11, L_12, L_13, L_14, L_15, L_16, L_17, L_24, L_31, L_45, L_80, L_127, L_200, L_640, L_1280, L_1000000000, T_0, T_1, T_2, T_3, T_4, T_5, T_6, T_7, T_8, T_9, T_10, T_11, T_12, T_13, T_14, T_15, T_16, T_17, ea, eb, CS_on C, c_isBadStrongMove h C hF, c_strongMoveCost h C hF]
  rw [if_neg (by omega)]
  ((repeat' split) <;> (try simp only [sB0, sB1]) <;> (first | rfl | (simp_all [B]; done) | grind | (simp_all; omega)))
theorem c_fs33 (h : WF S) (C : CS S nu on gi) (hF : 2000 ≤ F) (hL : 0 < S.L) (hp : PP S pi) (hc : S.c ≤ 8) {Q : (Nat → Int32) → Prop} {k2 : (Nat → Int32) → Int32 → Option (Nat → Int32)} {k22 : (Nat → Int32) → Int32 → Int32 → Int32 → Option (Nat → Int32)} {k a : Int} (x1 : 1 ≤ k) (x2 : k < S.n) (h1 : 0 ≤ a) (h2 : a < S.c) (hk : ∀ sp, ST S sp ((k * 8 + (a + 1)) * 8) → Ok (k22 sp (I k) (I (k * S.K)) (I (a + 1))) Q) : ∀ (r n : Nat) (b : Int) (sp : Nat → Int32), ((S.c : Int) - b).toNat = r → r < n → 0 ≤ b → b ≤ S.c → ST S sp ((k * 8 + a) * 8 + b) → Ok (m_Prices_fillStrongMoves_33 F (I S.L) (I S.n) (I S.K) nu on gi (I S.c) (I S.K) pi k2 k22 n sp (I k) (I (k * S.K)) (I a) (I b)) Q
  | 0, n, b, sp, e, hn, b0, b1, ht => by
    obtain ⟨m, rfl⟩ : ∃ m, n = m + 1 := ⟨n - 1, by omega⟩
    simp only [m_Prices_fillStrongMoves_33, m_Prices_fillStrongMoves_33b]
    simp (disch := omega) only [gd_I, nz_I, bd_S, gb_B, nar_B, I_add, I_sub, I_mul, I_neg, I_div, I_nat, I_lt, I_le, I_eq, B_0, B_1, L_0, L_1, L_2, L_3, L_4, L_5, L_6, L_7, L_8, L_9, L_10, L_11, L_12, L_13, L_14, L_15, L_16, L_17, L_24, L_31, L_45, L_80, L_127, L_200, L_640, L_1280, L_1000000000, T_0, T_1, T_2, T_3, T_4, T_5, T_6, T_7, T_8, T_9, T_10, T_11, T_12, T_13, T_14, T_15, T_16, T_17]
    rw [if_pos (by omega)]
    exact hk sp (fun y2 a2 b2 g1 g2 g3 g4 g5 g6 g7 => ht y2 a2 b2 g1 g2 g3 g4 g5 g6 (by omega))
  | r + 1, n, b, sp, e, hn, b0, b1, ht => by
    obtain ⟨m, rfl⟩ : ∃ m, n = m + 1 := ⟨n - 1, by omega⟩
    simp only [m_Prices_fillStrongMoves_33]
    rw [c_fs_it h C hF hL hp hc x1 x2 h1 h2 b0 (by omega)]
    refine c_fs33 h C hF hL hp hc x1 x2 h1 h2 hk r m (b + 1) _ (by omega) (by omega) (by omega) (by omega) ?_
    intro y2 a2 b2 g1 g2 g3 g4 g5 g6 g7
    by_cases ei : (y2 * 8 + a2) * 8 + b2 = (k * 8 + a) * 8 + b
    · have e0 : y2 = k := by omega
      have e1 : a2 = a := by omega
      have e2 : b2 = b := by omega
      subst e0; subst e1; subst e2
      exact upd_at _ _ _
    · have := ht y2 a2 b2 g1 g2 g3 g4 g5 g6 (by omega)
      rw [upd_ne _ _ (by omega)]
      exact this
theorem c_fs22 (h : WF S) (C : CS S nu on gi) (hF : 2000 ≤ F) (hL : 0 < S.L) (hp : PP S pi) (hc : S.c ≤ 8) {Q : (Nat → Int32) → Prop} {k2 : (Nat → Int32) → Int32 → Option (Nat → Int32)} {k : Int} (x1 : 1 ≤ k) (x2 : k < S.n) (hk : ∀ sp, ST S sp ((k + 1) * 64) → Ok (k2 sp (I (k + 1))) Q) : ∀ (r n : Nat) (a : Int) (sp : Nat → Int32), ((S.c : Int) - a).toNat = r → r < n → 0 ≤ a → a ≤ S.c → ST S sp ((k * 8 + a) * 8) → Ok (m_Prices_fillStrongMoves_22 F (I S.L) (I S.n) (I S.K) nu on gi (I S.c) (I S.K) pi k2 n sp (I k) (I (k * S.K)) (I a)) Q
  | 0, n, a, sp, e, hn, a0, a1, ht => by
    obtain ⟨m, rfl⟩ : ∃ m, n = m + 1 := ⟨n - 1, by omega⟩
    have hn2 := WF_n h
    simp only [m_Prices_fillStrongMoves_22, m_Prices_fillStrongMoves_22b]
    simp (disch := omega) only [gd_I, nz_I, bd_S, gb_B, nar_B, I_add, I_sub, I_mul, I_neg, I_div, I_nat, I_lt, I_le, I_eq, B_0, B_1, L_0, L_1, L_2, L_3, L_4, L_5, L_6, L_7, L_8, L_9, L_10, L_11, L_12, L_13, L_14, L_15, L_16, L_17, L_24, L_31, L_45, L_80, L_127, L_200, L_640, L_1280, L_1000000000, T_0, T_1, T_2, T_3, T_4, T_5, T_6, T_7, T_8, T_9, T_10, T_11, T_12, T_13, T_14, T_15, T_16, T_17]
    rw [if_pos (by omega)]
    exact hk sp (fun y2 a2 b2 g1 g2 g3 g4 g5 g6 g7 => ht y2 a2 b2 g1 g2 g3 g4 g5 g6 (by omega))
  | r + 1, n, a, sp, e, hn, a0, a1, ht => by
    obtain ⟨m, rfl⟩ : ∃ m, n = m + 1 := ⟨n - 1, by omega⟩
    simp only [m_Prices_fillStrongMoves_22, m_Prices_fillStrongMoves_22b]
    simp (disch := omega) only [gd_I, nz_I, bd_S, gb_B, nar_B, I_add, I_sub, I_mul, I_neg, I_div, I_nat, I_lt, I_le, I_eq, B_0, B_1, L_0, L_1, L_2, L_3, L_4, L_5, L_6, L_7, L_8, L_9, L_10, L_11, L_12, L_13, L_14, L_15, L_16, L_17, L_24, L_31, L_45, L_80, L_127, L_200, L_640, L_1280, L_1000000000, T_0, T_1, T_2, T_3, T_4, T_5, T_6, T_7, T_8, T_9, T_10, T_11, T_12, T_13, T_14, T_15, T_16, T_17]
    rw [if_neg (by omega)]
    refine c_fs33 h C hF hL hp hc x1 x2 a0 (by omega) (fun sp2 h9 => ?_) _ F 0 sp rfl (by omega) (by omega) (by omega) (fun y2 a2 b2 g1 g2 g3 g4 g5 g6 g7 => ht y2 a2 b2 g1 g2 g3 g4 g5 g6 (by omega))
    exact c_fs22 h C hF hL hp hc x1 x2 hk r m (a + 1) sp2 (by omega) (by omega) (by omega) (by omega) h9
theorem c_fs2 (h : WF S) (C : CS S nu on gi) (hF : 2000 ≤ F) (hL : 0 < S.L) (hp : PP S pi) (hc : S.c ≤ 8) : ∀ (r n : Nat) (k : Int) (sp : Nat → Int32), (S.n - k).toNat = r → r < n → 1 ≤ k → k ≤ S.n → ST S sp (k * 64) → Ok (m_Prices_fillStrongMoves_2 F (I S.L) (I S.n) (I S.K) nu on gi (I S.c) (I S.K) pi n sp (I k)) (fun u => ST S u 768)
  | 0, n, k, sp, e, hn, a0, a1, ht => by
    obtain ⟨m, rfl⟩ : ∃ m, n = m + 1 := ⟨n - 1, by omega⟩
    have hn2 := WF_n h
    simp only [m_Prices_fillStrongMoves_2, m_Prices_fillStrongMoves_2b]
    simp (disch := omega) only [gd_I, nz_I, bd_S, gb_B, nar_B, I_add, I_sub, I_mul, I_neg, I_div, I_nat, I_lt, I_le, I_eq, B_0, B_1, L_0, L_1, L_2, L_3, L_4, L_5, L_6, L_7, L_8, L_9, L_10, L_11, L_12, L_13, L_14, L_15, L_16, L_17, L_24, L_31, L_45, L_80, L_127, L_200, L_640, L_1280, L_1000000000, T_0, T_1, T_2, T_3, T_4, T_5, T_6, T_7, T_8, T_9, T_10, T_11, T_12, T_13, T_14, T_15, T_16, T_17]
    rw [if_pos (by omega)]
    exact Ok_some (fun y2 a2 b2 g1 g2 g3 g4 g5 g6 g7 => ht y2 a2 b2 g1 g2 g3 g4 g5 g6 (by omega))
  | r + 1, n, k, sp, e, hn, a0, a1, ht => by
    obtain ⟨m, rfl⟩ : ∃ m, n = m + 1 := ⟨n - 1, by omega⟩
    have hn2 := WF_n h
    simp only [m_Prices_fillStrongMoves_2, m_Prices_fillStrongMoves_2b]
    simp (disch := omega) only [gd_I, nz_I, bd_S, gb_B, nar_B, I_add, I_sub, I_mul, I_neg, I_div, I_nat, I_lt, I_le, I_eq, B_0, B_1, L_0, L_1, L_2, L_3, L_4, L_5, L_6, L_7, L_8, L_9, L_10, L_11, L_12, L_13, L_14, L_15, L_16, L_17, L_24, L_31, L_45, L_80, L_127, L_200, L_640, L_1280, L_1000000000, T_0, T_1, T_2, T_3, T_4, T_5, T_6, T_7, T_8, T_9, T_10, T_11, T_12, T_13, T_14, T_15, T_16, T_17]
    rw [if_neg (by omega)]
    refine c_fs22 h C hF hL hp hc a0 (by omega) (fun sp2 h9 => ?_) _ F 0 sp rfl (by omega) (by omega) (by omega) (fun y2 a2 b2 g1 g2 g3 g4 g5 g6 g7 => ht y2 a2 b2 g1 g2 g3 g4 g5 g6 (by omega))
    exact c_fs2 h C hF hL hp hc r m (k + 1) sp2 (by omega) (by omega) (by omega) (by omega) h9
theorem c_fillStrong (h : WF S) (C : CS S nu on gi) (hF : 2000 ≤ F) (hL : 0 < S.L) (hp : PP S pi) (hc : S.c ≤ 8) (sp : Nat → Int32) : Ok (m_Prices_fillStrongMoves F (I S.L) (I S.n) (I S.K) nu on gi (I S.c) (I S.K) pi sp) (fun u => ST S u 768) := by
  have hn2 := WF_n2 h hL; have hn3 := WF_n h
  unfold m_Prices_fillStrongMoves
  rw [L_1]
  exact c_fs2 h C hF hL hp hc _ F 1 sp rfl (by omega) (by omega) (by omega) (fun y2 a2 b2 g1 g2 g3 g4 g5 g6 g7 => by omega)
end
