/-! pure part: the class's tables -/
def Su.npv (S : Su) (j i : Int) : Int := if S.nbad j (S.P i) then -1 else S.ncost j (S.P i)
def Su.mpv (S : Su) (a b : Int) : Int := if S.mbad (S.P a) (S.P b) then -1 else S.mcost (S.P a) (S.P b)
def Su.spv (S : Su) (k a b : Int) : Int := if S.sbad (k * S.K) (S.P a) (S.P b) then -1 else S.scost (k * S.K) (S.P a) (S.P b)
def NT (S : Su) (np mp : Nat → Int32) (cur : Int) : Prop := ∀ j i : Int, 0 ≤ j → j < S.N → 0 ≤ i → i < S.c → j * 8 + i < cur → np (j * 8 + i).toNat = I (S.npv j i) ∧ mp (j * 8 + i).toNat = B (S.pmust j (S.P i))
def MT (S : Su) (vp mt bc : Nat → Int32) (cur : Int) : Prop := ∀ a b : Int, 0 ≤ a → a < S.c → 0 ≤ b → b < S.c → a * 8 + b < cur → vp (a * 8 + b).toNat = I (S.mpv a b) ∧ mt (a * 8 + b).toNat = B (S.on 6 && S.turn (S.P a) (S.P b)) ∧ bc (a * 8 + b).toNat = B (S.cbad (S.P a) (S.P b))
def TT (S : Su) (bt ps : Nat → Int32) (cur : Int) : Prop := ∀ x a b : Int, 0 ≤ x → x < S.c → 0 ≤ a → a < S.c → 0 ≤ b → b < S.c → (x * 8 + a) * 8 + b < cur → bt ((x * 8 + a) * 8 + b).toNat = B (S.tbad (S.P x) (S.P a) (S.P b)) ∧ ps ((x * 8 + a) * 8 + b).toNat = B (S.pass (S.P x) (S.P a) (S.P b))
def ST (S : Su) (sp : Nat → Int32) (cur : Int) : Prop := ∀ k a b : Int, 1 ≤ k → k < S.n → 0 ≤ a → a < S.c → 0 ≤ b → b < S.c → (k * 8 + a) * 8 + b < cur → sp ((k * 8 + a) * 8 + b).toNat = I (S.spv k a b)
def PP (S : Su) (pi : Nat → Int32) : Prop := ∀ i : Int, 0 ≤ i → i < S.c → pi i.toNat = I (S.P i)
section
variable {S : Su} {nu on pi : Nat → Int32} {gi : Nat → Nat → Int32} {F : Nat}
theorem c_isBadNote (h : WF S) (C : CS S nu on gi) (hF : 2000 ≤ F) (hL : 0 < S.L) {j p : Int} (h1 : 0 ≤ j) (h2 : j < S.N) (h3 : 0 ≤ p) (h4 : p ≤ 127) : m_Prices_isBadNote F (I S.L) (I S.K) (B S.ab) nu on gi (I j) (I p) = some (B (S.nbad j p)) := by
  have hN := WF_N h
  have hL2 := WF_L h
  have it : ∀ (k : Int32 → Int32 → Int32 → Option Int32) (l : Int), 0 ≤ l → l < S.L → m_Prices_isBadNote_69b F (I S.L) (I S.K) (B S.ab) nu on gi k (I j) (I p) (I l) = if S.on 3 then (if S.cross l j p then some (I 1) else k (I j) (I p) (I (l + 1))) else some (I 0) := by
    intro k l l0 l1
    unfold m_Prices_isBadNote_69b
    simp (disch := omega) only [gd_I, nz_I, bd_S, gb_B, nar_B, I_add, I_sub, I_mul, I_neg, I_div, I_nat, I_lt, I_le, I_eq, B_0, B_1, L_0, L_1, L_2, L_3, L_4, L_5, L_6, L_7, L_8, L_9, L_10, L_11, L_12, L_13, L_14, L_15, L_16, L_17, L_24, L_31, L_45, L_80, L_127, L_200, L_640, L_1280, L_1000000000, T_0, T_1, T_2, T_3, T_4, T_5, T_6, T_7, T_8, T_9, T_10, T_11, T_12, T_13, T_14, T_15, T_16, T_17, CS_on C, c_isCrossing h C]
    have c9 : ¬ S.L ≤ l := by omega
    cases S.on 3 <;> cases S.cross l j p <;> simp [c9]
  have ex : ∀ (k : Int32 → Int32 → Int32 → Option Int32) (l : Int), 0 ≤ l → l < 100 → S.L ≤ l → m_Prices_isBadNote_69b F (I S.L) (I S.K) (B S.ab) nu on gi k (I j) (I p) (I l) = some (I 0) := by
    intro k l l0 l1 l2
    unfold m_Prices_isBadNote_69b
    simp (disch := omega) only [gd_I, nz_I, bd_S, gb_B, nar_B, I_add, I_sub, I_mul, I_neg, I_div, I_nat, I_lt, I_le, I_eq, B_0, B_1, L_0, L_1, L_2, L_3, L_4, L_5, L_6, L_7, L_8, L_9, L_10, L_11, L_12, L_13, L_14, L_15, L_16, L_17, L_24, L_31, L_45, L_80, L_127, L_200, L_640, L_1280, L_1000000000, T_0, T_1, T_2, T_3, T_4, T_5, T_6, T_7, T_8, T_9, T_10, T_11, T_12, T_13, T_14, T_15, T_16, T_17, CS_on C]
    cases S.on 3 <;> simp [l2]
  have e69 : m_Prices_isBadNote_67 F (I S.L) (I S.K) (B S.ab) nu on gi (I j) (I p) = some (B (S.on 3 && anyL S.L (fun l => S.cross l j p))) := by
    obtain ⟨G, hG⟩ : ∃ G, F = G + 4 := ⟨F - 4, by omega⟩
    unfold m_Prices_isBadNote_67
    rw [show m_Prices_isBadNote_69 F (I S.L) (I S.K) (B S.ab) nu on gi F (I j) (I p) (0 : Int32) = m_Prices_isBadNote_69 F (I S.L) (I S.K) (B S.ab) nu on gi (G + 4) (I j) (I p) (I 0) from by rw [← hG]; rfl]
    simp only [m_Prices_isBadNote_69]
    rcases (by omega : S.L = 1 ∨ S.L = 2 ∨ S.L = 3) with e | e | e
    · rw [it _ 0 (by omega) (by omega), ex _ _ (by omega) (by omega) (by omega), anyL1 e]
      cases S.on 3 <;> cases S.cross 0 j p <;> simp [B]
    · rw [it _ 0 (by omega) (by omega), it _ _ (by omega) (by omega), ex _ _ (by omega) (by omega) (by omega), anyL2 e]
      cases S.on 3 <;> cases S.cross 0 j p <;> cases S.cross (0 + 1) j p <;> simp [B]
    · rw [it _ 0 (by omega) (by omega), it _ _ (by omega) (by omega), it _ _ (by omega) (by omega), ex _ _ (by omega) (by omega) (by omega), anyL3 e]
      cases S.on 3 <;> cases S.cross 0 j p <;> cases S.cross (0 + 1) j p <;> cases S.cross (0 + 1 + 1) j p <;> simp [B]
  have e37 : m_Prices_isBadNote_37 F (I S.L) (I S.K) (B S.ab) nu on gi (I j) (I p) = some (B ((S.on 8 && decide (j = 0) && S.bopen p) || (S.on 3 && anyL S.L (fun l => S.cross l j p)))) := by
    unfold m_Prices_isBadNote_37
    simp (disch := omega) only [gd_I, nz_I, bd_S, gb_B, nar_B, I_add, I_sub, I_mul, I_neg, I_div, I_nat, I_lt, I_le, I_eq, B_0, B_1, L_0, L_1, L_2, L_3, L_4, L_5, L_6, L_7, L_8, L_9, L_10, L_11, L_12, L_13, L_14, L_15, L_16, L_17, L_24, L_31, L_45, L_80, L_127, L_200, L_640, L_1280, L_1000000000, T_0, T_1, T_2, T_3, T_4, T_5, T_6, T_7, T_8, T_9, T_10, T_11, T_12, T_13, T_14, T_15, T_16, T_17, CS_on C, e69, c_isBadOpening h C]
    ((repeat' split) <;> (try simp only [sB0, sB1]) <;> (first | rfl | grind | (simp_all; done) | (simp_all; omega)))
  unfold m_Prices_isBadNote Su.nbad
  simp (disch := omega) only [gd_I, nz_I, bd_S, gb_B, nar_B, I_add, I_sub, I_mul, I_neg, I_div, I_nat, I_lt, I_le, I_eq, B_0, B_1, L_0, L_1, L_2, L_3, L_4, L_5, L_6, L_7, L_8, L_9, L_10, L_11, L_12, L_13, L_14, L_15, L_16, L_17, L_24, L_31, L_45, L_80, L_127, L_200, L_640, L_1280, L_1000000000, T_0, T_1, T_2, T_3, T_4, T_5, T_6, T_7, T_8, T_9, T_10, T_11, T_12, T_13, T_14, T_15, T_16, T_17, CS_on C, e37, c_isStrong h, c_isHard h C]
  ((repeat' split) <;> (try simp only [sB0, sB1]) <;> (first | rfl | grind | (simp_all; done) | (simp_all; omega)))
theorem c_isBadStrongMove (h : WF S) (C : CS S nu on gi) (hF : 2000 ≤ F) {j a b : Int} (j0 : 1 ≤ j / S.K) (jj : 0 ≤ j - S.K) (j1 : j < S.N) (h1 : 0 ≤ a) (h2 : a ≤ 127) (h3 : 0 ≤ b) (h4 : b ≤ 127) : m_Prices_isBadStrongMove F (I S.L) (I S.K) nu on gi (I j) (I a) (I b) = some (B (S.sbad j a b)) := by
  have it : ∀ (k3 : Int32 → Int32 → Int32 → Int32 → Option Int32) (l : Int), 0 ≤ l → l < S.L → m_Prices_isBadStrongMove_3b F (I S.L) (I S.K) nu on gi k3 (I j) (I a) (I b) (I l) = if ((S.on 1 && S.par l j a b) || (S.on 2 && S.hid l j a b)) then some (I 1) else k3 (I j) (I a) (I b) (I (l + 1)) := by
    intro k3 l l0 l1
    have hL2 := WF_L h
    simp only [m_Prices_isBadStrongMove_3b, m_Prices_isBadStrongMove_42, m_Prices_isBadStrongMove_71]
    simp (disch := omega) only [gd_I, nz_I, bd_S, gb_B, nar_B, I_add, I_sub, I_mul, I_neg, I_div, I_nat, I_lt, I_le, I_eq, B_0, B_1, L_0, L_1, L_2, L_3, L_4, L_5, L_6, L_7, L_8, L_9, L_10, L_11, L_12, L_13, L_14, L_15, L_16, L_17, L_24, L_31, L_45, L_80, L_127, L_200, L_640, L_1280, L_1000000000, T_0, T_1, T_2, T_3, T_4, T_5, T_6, T_7, T_8, T_9, T_10, T_11, T_12, T_13, T_14, T_15, T_16, T_17, CS_on C, c_isParallel h C, c_isHidden h C]
    rw [if_neg (by omega)]
    ((repeat' split) <;> (try simp only [sB0, sB1]) <;> (first | rfl | grind | (simp_all; done) | (simp_all; omega)))
  have ex : ∀ (k3 : Int32 → Int32 → Int32 → Int32 → Option Int32) (l : Int), 0 ≤ l → l < 100 → S.L ≤ l → m_Prices_isBadStrongMove_3b F (I S.L) (I S.K) nu on gi k3 (I j) (I a) (I b) (I l) = some (I 0) := by
    intro k3 l l0 l1 l2
    have hL2 := WF_L h
    simp only [m_Prices_isBadStrongMove_3b]
    simp (disch := omega) only [gd_I, nz_I, bd_S, gb_B, nar_B, I_add, I_sub, I_mul, I_neg, I_div, I_nat, I_lt, I_le, I_eq, B_0, B_1, L_0, L_1, L_2, L_3, L_4, L_5, L_6, L_7, L_8, L_9, L_10, L_11, L_12, L_13, L_14, L_15, L_16, L_17, L_24, L_31, L_45, L_80, L_127, L_200, L_640, L_1280, L_1000000000, T_0, T_1, T_2, T_3, T_4, T_5, T_6, T_7, T_8, T_9, T_10, T_11, T_12, T_13, T_14, T_15, T_16, T_17]
    rw [if_pos l2]
  obtain ⟨G, hG⟩ : ∃ G, F = G + 4 := ⟨F - 4, by omega⟩
  have hL2 := WF_L h
  unfold m_Prices_isBadStrongMove Su.sbad anyL
  rw [show m_Prices_isBadStrongMove_3 F (I S.L) (I S.K) nu on gi F (I j) (I a) (I b) (0 : Int32) = m_Prices_isBadStrongMove_3 F (I S.L) (I S.K) nu on gi (G + 4) (I j) (I a) (I b) (I 0) from by rw [← hG]; rfl]
  simp only [m_Prices_isBadStrongMove_3]
  rcases (by omega : S.L = 0 ∨ S.L = 1 ∨ S.L = 2 ∨ S.L = 3) with e | e | e | e
  · rw [ex _ 0 (by omega) (by omega) (by omega)]; simp [e, B]
  · rw [it _ 0 (by omega) (by omega), ex _ _ (by omega) (by omega) (by omega)]; rw [e]; ((repeat' split) <;> (try simp only [sB0, sB1]) <;> (first | rfl | grind | (simp_all; done) | (simp_all; omega)))
  · rw [it _ 0 (by omega) (by omega), it _ _ (by omega) (by omega), ex _ _ (by omega) (by omega) (by omega)]; rw [e]; ((repeat' split) <;> (try simp only [sB0, sB1]) <;> (first | rfl | grind | (simp_all; done) | (simp_all; omega)))
  · rw [it _ 0 (by omega) (by omega), it _ _ (by omega) (by omega), it _ _ (by omega) (by omega), ex _ _ (by omega) (by omega) (by omega)]; rw [e]; ((repeat' split) <;> (try simp only [sB0, sB1]) <;> (first | rfl | grind | (simp_all; done) | (simp_all; omega)))
theorem c_fn_it (h : WF S) (C : CS S nu on gi) (hF : 2000 ≤ F) (hL : 0 < S.L) (hp : PP S pi) (hc : S.c ≤ 8) {k2 : (Nat → Int32) → (Nat → Int32) → Int32 → Option ((Nat → Int32) × (Nat → Int32))} {k12 : (Nat → Int32) → (Nat → Int32) → Int32 → Int32 → Option ((Nat → Int32) × (Nat → Int32))} {np mp : Nat → Int32} {j i : Int} (h1 : 0 ≤ j) (h2 : j < S.N) (h3 : 0 ≤ i) (h4 : i < S.c) : m_Prices_fillNotes_12b F (I S.L) (I S.n) (I S.K) (B S.ab) nu on gi (I S.c) (I S.N) pi k2 k12 np mp (I j) (I i) = k12 (upd np (j * 8 + i).toNat (I (S.npv j i))) (upd mp (j * 8 + i).toNat (B (S.pmust j (S.P i)))) (I j) (I (i + 1)) := by
  have hN := WF_N h
  have p := P_range h h3 h4
  have e := hp i h3 h4
  simp only [m_Prices_fillNotes_12b, m_Prices_fillNotes_64, m_Prices_fillNotes_119, m_Prices_fillNotes_120]
  unfold Su.npv Su.pmust
  simp (disch := omega) only [gd_I, nz_I, bd_S, gb_B, nar_B, I_add, I_sub, I_mul, I_neg, I_div, I_nat, I_lt, I_le, I_eq, B_0, B_1, L_0, L_1, L_2, L_3, L_4, L_5, L_6, L_7, L_8, L_9, L_10, L_11, L_12, L_13, L_14, L_15, L_16, L_17, L_24, L_31, L_45, L_80, L_127, L_200, L_640, L_1280, L_1000000000, T_0, T_1, T_2, T_3, T_4, T_5, T_6, T_7, T_8, T_9, T_10, T_11, T_12, T_13, T_14, T_15, T_16, T_17, e, CS_on C, c_isBadNote h C hF hL, c_noteCost h C hF, c_isStrong h, c_isHard h C hF, nar_0, nar_1]
  rw [if_neg (by omega)]
  ((repeat' split) <;> (try simp only [sB0, sB1]) <;> (first | rfl | (simp_all [B]; done) | grind | (simp_all; omega)))
theorem c_fn12 (h : WF S) (C : CS S nu on gi) (hF : 2000 ≤ F) (hL : 0 < S.L) (hp : PP S pi) (hc : S.c ≤ 8) {Q : (Nat → Int32) × (Nat → Int32) → Prop} {k2 : (Nat → Int32) → (Nat → Int32) → Int32 → Option ((Nat → Int32) × (Nat → Int32))} {j : Int} (h1 : 0 ≤ j) (h2 : j < S.N) (hk : ∀ np mp, NT S np mp ((j + 1) * 8) → Ok (k2 np mp (I (j + 1))) Q) : ∀ (r n : Nat) (i : Int) (np mp : Nat → Int32), ((S.c : Int) - i).toNat = r → r < n → 0 ≤ i → i ≤ S.c → NT S np mp (j * 8 + i) → Ok (m_Prices_fillNotes_12 F (I S.L) (I S.n) (I S.K) (B S.ab) nu on gi (I S.c) (I S.N) pi k2 n np mp (I j) (I i)) Q
  | 0, n, i, np, mp, e, hn, i0, i1, ht => by
    obtain ⟨m, rfl⟩ : ∃ m, n = m + 1 := ⟨n - 1, by omega⟩
    simp only [m_Prices_fillNotes_12, m_Prices_fillNotes_12b]
    have hN := WF_N h
    simp (disch := omega) only [gd_I, nz_I, bd_S, gb_B, nar_B, I_add, I_sub, I_mul, I_neg, I_div, I_nat, I_lt, I_le, I_eq, B_0, B_1, L_0, L_1, L_2, L_3, L_4, L_5, L_6, L_7, L_8, L_9, L_10, L_11, L_12, L_13, L_14, L_15, L_16, L_17, L_24, L_31, L_45, L_80, L_127, L_200, L_640, L_1280, L_1000000000, T_0, T_1, T_2, T_3, T_4, T_5, T_6, T_7, T_8, T_9, T_10, T_11, T_12, T_13, T_14, T_15, T_16, T_17]
    rw [if_pos (by omega)]
    refine hk np mp (fun j2 i2 a1 a2 a3 a4 a5 => ht j2 i2 a1 a2 a3 a4 (by omega))
  | r + 1, n, i, np, mp, e, hn, i0, i1, ht => by
    obtain ⟨m, rfl⟩ : ∃ m, n = m + 1 := ⟨n - 1, by omega⟩
    simp only [m_Prices_fillNotes_12]
    rw [c_fn_it h C hF hL hp hc h1 h2 i0 (by omega)]
    refine c_fn12 h C hF hL hp hc h1 h2 hk r m (i + 1) _ _ (by omega) (by omega) (by omega) (by omega) ?_
    intro j2 i2 a1 a2 a3 a4 a5
    by_cases ei : j2 * 8 + i2 = j * 8 + i
    · have e1 : j2 = j := by omega
      have e2 : i2 = i := by omega
      subst e1; subst e2
      exact ⟨upd_at _ _ _, upd_at _ _ _⟩
    · have := ht j2 i2 a1 a2 a3 a4 (by omega)
      rw [upd_ne _ _ (by omega), upd_ne _ _ (by omega)]
      exact this
theorem c_fn2 (h : WF S) (C : CS S nu on gi) (hF : 2000 ≤ F) (hL : 0 < S.L) (hp : PP S pi) (hc : S.c ≤ 8) : ∀ (r n : Nat) (j : Int) (np mp : Nat → Int32), (S.N - j).toNat = r → r < n → 0 ≤ j → j ≤ S.N → NT S np mp (j * 8) → Ok (m_Prices_fillNotes_2 F (I S.L) (I S.n) (I S.K) (B S.ab) nu on gi (I S.c) (I S.N) pi n np mp (I j)) (fun u => NT S u.1 u.2 (S.N * 8))
  | 0, n, j, np, mp, e, hn, j0, j1, ht => by
    obtain ⟨m, rfl⟩ : ∃ m, n = m + 1 := ⟨n - 1, by omega⟩
    have hN := WF_N h
    simp only [m_Prices_fillNotes_2, m_Prices_fillNotes_2b]
    simp (disch := omega) only [gd_I, nz_I, bd_S, gb_B, nar_B, I_add, I_sub, I_mul, I_neg, I_div, I_nat, I_lt, I_le, I_eq, B_0, B_1, L_0, L_1, L_2, L_3, L_4, L_5, L_6, L_7, L_8, L_9, L_10, L_11, L_12, L_13, L_14, L_15, L_16, L_17, L_24, L_31, L_45, L_80, L_127, L_200, L_640, L_1280, L_1000000000, T_0, T_1, T_2, T_3, T_4, T_5, T_6, T_7, T_8, T_9, T_10, T_11, T_12, T_13, T_14, T_15, T_16, T_17]
    rw [if_pos (by omega)]
    exact Ok_some (fun j2 i2 a1 a2 a3 a4 a5 => ht j2 i2 a1 a2 a3 a4 (by omega))
  | r + 1, n, j, np, mp, e, hn, j0, j1, ht => by
    obtain ⟨m, rfl⟩ : ∃ m, n = m + 1 := ⟨n - 1, by omega⟩
    have hN := WF_N h
    simp only [m_Prices_fillNotes_2, m_Prices_fillNotes_2b]
    simp (disch := omega) only [gd_I, nz_I, bd_S, gb_B, nar_B, I_add, I_sub, I_mul, I_neg, I_div, I_nat, I_lt, I_le, I_eq, B_0, B_1, L_0, L_1, L_2, L_3, L_4, L_5, L_6, L_7, L_8, L_9, L_10, L_11, L_12, L_13, L_14, L_15, L_16, L_17, L_24, L_31, L_45, L_80, L_127, L_200, L_640, L_1280, L_1000000000, T_0, T_1, T_2, T_3, T_4, T_5, T_6, T_7, T_8, T_9, T_10, T_11, T_12, T_13, T_14, T_15, T_16, T_17]
    rw [if_neg (by omega)]
    refine c_fn12 h C hF hL hp hc j0 (by omega) (fun np2 mp2 h9 => ?_) _ F 0 np mp rfl (by omega) (by omega) (by omega) (fun j2 i2 a1 a2 a3 a4 a5 => ht j2 i2 a1 a2 a3 a4 (by omega))
    exact c_fn2 h C hF hL hp hc r m (j + 1) np2 mp2 (by omega) (by omega) (by omega) (by omega) h9
theorem c_fillNotes (h : WF S) (C : CS S nu on gi) (hF : 2000 ≤ F) (hL : 0 < S.L) (hp : PP S pi) (hc : S.c ≤ 8) (np mp : Nat → Int32) : Ok (m_Prices_fillNotes F (I S.L) (I S.n) (I S.K) (B S.ab) nu on gi (I S.c) (I S.N) pi np mp) (fun u => NT S u.1 u.2 (S.N * 8)) := by
  have hN := WF_N h; have hN2 := WF_N2 h hL
  unfold m_Prices_fillNotes
  rw [L_0]
  exact c_fn2 h C hF hL hp hc _ F 0 np mp rfl (by omega) (by omega) (by omega) (fun j2 i2 a1 a2 a3 a4 a5 => by omega)
end
