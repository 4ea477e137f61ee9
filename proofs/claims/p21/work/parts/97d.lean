/-! pure part: the reference's judge always answers -/
def RJ (M : Int) (u : Int32 × (Nat → Int32) × (Nat → Int32) × (Nat → Int32)) : Prop := ∃ b, u.1 = I b ∧ 0 ≤ b ∧ b ≤ M
section
variable {S : Su} {nu on gi X : Nat → Int32} {F : Nat} {v : Int → Int}
theorem r_blame {a M r : Int} {f1 f2 f3 : Nat → Int32} {w y z : Int32} (r0 : 0 ≤ r) (r1 : r < 11) (a0 : 0 ≤ a) (aM : a + 1 ≤ M) (M1 : M ≤ 50000) : Ok (m_SpeciesSolverModel_blame on (I a) f1 f2 f3 w (I r) y z) (RJ M) := by
  unfold m_SpeciesSolverModel_blame m_SpeciesSolverModel_blame_54
  refine Ok_ite (fun _ => Ok_some ⟨a, rfl, a0, by omega⟩) (fun _ => ?_)
  rw [gd_I r0 (by omega) (by omega)]
  refine Ok_ite (fun _ => Ok_some ⟨a, rfl, a0, by omega⟩) (fun _ => ?_)
  refine Ok_ite (fun _ => Ok_some ⟨a + 1, by simp only; rw [L_1, I_add], by omega, by omega⟩) (fun e1 => ?_)
  rw [show (200 : Int32) = I 200 from rfl, I_le (by omega) (by omega) (by omega) (by omega)] at e1
  rw [gd_I (by omega) (by omega) (by omega), gd_I (by omega) (by omega) (by omega), gd_I (by omega) (by omega) (by omega)]
  exact Ok_some ⟨a + 1, by simp only; rw [L_1, I_add], by omega, by omega⟩
theorem r_ihag (hw : WF S) (C : RS S nu on gi) (hF : 2000 ≤ F) (hL : 0 < S.L) (hX : TR S X v) {j : Int} (j0 : 0 ≤ j) (j1 : j < S.N) : ∀ (k n : Nat) (i : Int) (x y : Int32), (S.N - i).toNat = k → k < n → 0 ≤ i → i ≤ S.N → Ok (m_SpeciesSolverModel_isHighestAgain_7 F (I S.N) X n (I j) x y (I i)) (fun _ => True)
  | 0, n, i, x, y, e, hn, i0, i1 => by
    obtain ⟨m, rfl⟩ : ∃ m, n = m + 1 := ⟨n - 1, by omega⟩
    have hN := WF_N hw
    simp only [m_SpeciesSolverModel_isHighestAgain_7, m_SpeciesSolverModel_isHighestAgain_7b]
    rw [if_pos (by rw [I_le (by omega) (by omega) (by omega) (by omega)]; omega)]
    exact Ok_ite (fun _ => Ok_some trivial) (fun _ => Ok_ite (fun _ => Ok_some trivial) (fun _ => Ok_some trivial))
  | k + 1, n, i, x, y, e, hn, i0, i1 => by
    obtain ⟨m, rfl⟩ : ∃ m, n = m + 1 := ⟨n - 1, by omega⟩
    have hN := WF_N hw
    have e1 : I i + 1 = I (i + 1) := by rw [L_1, I_add]
    have ih := fun x y => r_ihag hw C hF hL hX j0 j1 k m (i + 1) x y (by omega) (by omega) (by omega) (by omega)
    have k38 : ∀ t : Int32, Ok (m_SpeciesSolverModel_isHighestAgain_38 F (I S.N) X (m_SpeciesSolverModel_isHighestAgain_7 F (I S.N) X m) (I j) y (I i) x t) (fun _ => True) := by
      intro t
      unfold m_SpeciesSolverModel_isHighestAgain_38 m_SpeciesSolverModel_isHighestAgain_67 m_SpeciesSolverModel_isHighestAgain_68
      rw [gd_I (by omega) (by omega) (by omega), gd_I (by omega) (by omega) (by omega), e1]
      exact Ok_ite (fun _ => ih _ _) (fun _ => Ok_ite (fun _ => ih _ _) (fun _ => ih _ _))
    simp only [m_SpeciesSolverModel_isHighestAgain_7, m_SpeciesSolverModel_isHighestAgain_7b]
    rw [if_neg (by rw [I_le (by omega) (by omega) (by omega) (by omega)]; omega), gd_I (by omega) (by omega) (by omega), gd_I (by omega) (by omega) (by omega)]
    exact Ok_ite (fun _ => k38 _) (fun _ => k38 _)
theorem r_irep (hw : WF S) (C : RS S nu on gi) (hF : 2000 ≤ F) (hL : 0 < S.L) (hX : TR S X v) {j : Int} (j0 : 0 ≤ j) (j1 : j < S.N) : ∀ (k n : Nat) (i : Int) (b : Bool), (S.nu 11 + 1 - i).toNat = k → k < n → 1 ≤ i → i ≤ S.nu 11 + 1 → (b = true → S.nu 11 ≤ j) → Ok (m_SpeciesSolverModel_isRepeated_19 F nu X n (I j) (B b) (I i)) (fun _ => True)
  | 0, n, i, b, e, hn, i0, i1, hb => by
    obtain ⟨m, rfl⟩ : ∃ m, n = m + 1 := ⟨n - 1, by omega⟩
    have n11 := WF_11 hw
    have e11 : nu (Int32.toNatClampNeg 11) = I (S.nu 11) := RS_nu C 11 (by decide)
    simp only [m_SpeciesSolverModel_isRepeated_19, m_SpeciesSolverModel_isRepeated_19b]
    rw [e11, if_pos (by rw [I_lt (by omega) (by omega) (by omega) (by omega)]; omega), gb_B]
    exact Ok_some trivial
  | k + 1, n, i, b, e, hn, i0, i1, hb => by
    obtain ⟨m, rfl⟩ : ∃ m, n = m + 1 := ⟨n - 1, by omega⟩
    have n11 := WF_11 hw; have hN := WF_N hw
    have e11 : nu (Int32.toNatClampNeg 11) = I (S.nu 11) := RS_nu C 11 (by decide)
    have e1 : I i + 1 = I (i + 1) := by rw [L_1, I_add]
    simp only [m_SpeciesSolverModel_isRepeated_19, m_SpeciesSolverModel_isRepeated_19b, m_SpeciesSolverModel_isRepeated_56]
    rw [e11, if_neg (by rw [I_lt (by omega) (by omega) (by omega) (by omega)]; omega), gb_B]
    cases b with
    | false => rw [show B false = 0 from rfl, if_pos rfl]; exact Ok_some trivial
    | true =>
      have hb2 := hb rfl
      rw [show B true = I 1 from rfl, if_neg (by decide), I_sub, gd_I (by omega) (by omega) (by omega), gd_I (by omega) (by omega) (by omega), e1]
      exact Ok_ite (fun _ => r_irep hw C hF hL hX j0 j1 k m (i + 1) true (by omega) (by omega) (by omega) (by omega) (fun _ => hb2)) (fun _ => r_irep hw C hF hL hX j0 j1 k m (i + 1) false (by omega) (by omega) (by omega) (by omega) (fun h => by cases h))
theorem r_isRepeated (hw : WF S) (C : RS S nu on gi) (hF : 2000 ≤ F) (hL : 0 < S.L) (hX : TR S X v) {j : Int} (j0 : 0 ≤ j) (j1 : j < S.N) : Ok (m_SpeciesSolverModel_isRepeated F nu X (I j)) (fun _ => True) := by
  have n11 := WF_11 hw; have hN := WF_N hw
  have e11 : nu (Int32.toNatClampNeg 11) = I (S.nu 11) := RS_nu C 11 (by decide)
  unfold m_SpeciesSolverModel_isRepeated m_SpeciesSolverModel_isRepeated_16
  rw [e11, show (1 : Int32) = I 1 from rfl]
  refine Ok_ite (fun _ => ?_) (fun e1 => ?_)
  · exact r_irep hw C hF hL hX j0 j1 _ F 1 false rfl (by omega) (by omega) (by omega) (fun h => by cases h)
  · rw [I_lt (by omega) (by omega) (by omega) (by omega)] at e1
    exact r_irep hw C hF hL hX j0 j1 _ F 1 true rfl (by omega) (by omega) (by omega) (fun _ => by omega)
theorem r_j422 (hw : WF S) (C : RS S nu on gi) (hF : 2000 ≤ F) (hL : 0 < S.L) (hX : TR S X v) {j : Int} (j0 : 0 ≤ j) (j1 : j < S.N) {a M : Int} {f1 f2 f3 : Nat → Int32} {t : Int32} (a0 : 0 ≤ a) (aM : a + 2 ≤ M) (M1 : M ≤ 50000) : Ok (m_SpeciesSolverModel_judgeNote_422 F (I S.L) (I S.n) (I S.K) (B S.ab) (I S.N) gi on nu X (I a) f1 f2 f3 (I j) t) (RJ M) := by
  have hN := WF_N hw
  unfold m_SpeciesSolverModel_judgeNote_422
  refine Ok_bd (r_blame (M := M - 1) (r := 9) (by omega) (by omega) a0 (by omega) (by omega)) ?_
  rintro ⟨b9, g1, g2, g3⟩ ⟨b, h1, h2, h3⟩
  simp only at h1 ⊢
  subst h1
  unfold m_SpeciesSolverModel_isHighestAgain
  rw [L_0]
  refine Ok_bd (r_ihag hw C hF hL hX j0 j1 _ F 0 _ _ rfl (by omega) (by omega) (by omega)) (fun u _ => ?_)
  refine Ok_bd (r_blame (M := M) (r := 10) (by omega) (by omega) h2 (by omega) M1) ?_
  rintro ⟨c9, k1, k2, k3⟩ hc
  exact Ok_some hc
theorem r_j409 (hw : WF S) (C : RS S nu on gi) (hF : 2000 ≤ F) (hL : 0 < S.L) (hX : TR S X v) {j t : Int} (j0 : 0 ≤ j) (j1 : j < S.N) (t0 : 0 ≤ t) (t1 : t < S.N) {a M : Int} {f1 f2 f3 : Nat → Int32} (a0 : 0 ≤ a) (aM : a + 2 ≤ M) (M1 : M ≤ 50000) : Ok (m_SpeciesSolverModel_judgeNote_409 F (I S.L) (I S.n) (I S.K) (B S.ab) (I S.N) gi on nu X (I a) f1 f2 f3 (I j) (I (v j)) (I t)) (RJ M) := by
  have hN := WF_N hw
  obtain ⟨xt, b0, b1⟩ := hX t t0 t1; obtain ⟨_, c0, c1⟩ := hX j j0 j1
  unfold m_SpeciesSolverModel_judgeNote_409 m_SpeciesSolverModel_judgeNote_417 m_SpeciesSolverModel_judgeNote_421
  rw [gd_I (by omega) (by omega) (by omega), I_nat (by omega) (by omega), xt, r_isStep hw C b0 b1 c0 c1, bd_S]
  exact Ok_ite (fun _ => r_j422 hw C hF hL hX j0 j1 a0 aM M1) (fun _ => r_j422 hw C hF hL hX j0 j1 a0 aM M1)
theorem r_j364 (hw : WF S) (C : RS S nu on gi) (hF : 2000 ≤ F) (hL : 0 < S.L) (hX : TR S X v) {j : Int} (j0 : 0 ≤ j) (j1 : j < S.N) {a M : Int} {f1 f2 f3 : Nat → Int32} {x3 t : Int32} (a0 : 0 ≤ a) (aM : a + 3 ≤ M) (M1 : M ≤ 50000) : Ok (m_SpeciesSolverModel_judgeNote_364 F (I S.L) (I S.n) (I S.K) (B S.ab) (I S.N) gi on nu X (I a) f1 f2 f3 (I j) (I (v j)) x3 t) (RJ M) := by
  have hN := WF_N hw
  obtain ⟨_, c0, c1⟩ := hX j j0 j1
  have g0 := WF_gv hw (by omega : (0 : Int) ≤ 0) hL j0 j1
  unfold m_SpeciesSolverModel_judgeNote_364 m_SpeciesSolverModel_judgeNote_417 m_SpeciesSolverModel_judgeNote_421
  refine Ok_bd (r_blame (M := M - 2) (r := 8) (by omega) (by omega) a0 (by omega) (by omega)) ?_
  rintro ⟨b9, g1, g2, g3⟩ ⟨b, h1, h2, h3⟩
  simp only at h1 ⊢
  subst h1
  refine Ok_ite (fun _ => ?_) (fun _ => r_j422 hw C hF hL hX j0 j1 h2 (by omega) M1)
  rw [L_0, r_at hw C (by omega) hL j0 j1, bd_S, show (6 : Int32) = I 6 from rfl, r_isIn C (by omega) (by omega) c0 c1 g0.1 g0.2, bd_S]
  refine Ok_ite (fun _ => r_j422 hw C hF hL hX j0 j1 h2 (by omega) M1) (fun _ => Ok_ite (fun e1 => ?_) (fun e1 => ?_))
  · exact r_j409 hw C hF hL hX j0 j1 (by omega) (by omega) h2 (by omega) M1
  · rw [I_le (by omega) (by omega) (by omega) (by omega)] at e1
    rw [show (1 : Int32) = I 1 from rfl, I_sub]
    exact r_j409 hw C hF hL hX j0 j1 (by omega) (by omega) h2 (by omega) M1
theorem r_j319 (hw : WF S) (C : RS S nu on gi) (hF : 2000 ≤ F) (hL : 0 < S.L) (hX : TR S X v) {j : Int} (j0 : 0 ≤ j) (j1 : j < S.N) {a M : Int} {f1 f2 f3 : Nat → Int32} {x3 t : Int32} (a0 : 0 ≤ a) (aM : a + 5 ≤ M) (M1 : M ≤ 50000) : Ok (m_SpeciesSolverModel_judgeNote_319 F (I S.L) (I S.n) (I S.K) (B S.ab) (I S.N) gi on nu X (I a) f1 f2 f3 (I j) (I (v j)) x3 t) (RJ M) := by
  have hN := WF_N hw; have hN2 := WF_N2 hw hL
  obtain ⟨_, c0, c1⟩ := hX j j0 j1
  have g0 := WF_gv hw (by omega : (0 : Int) ≤ 0) hL (by omega : (0 : Int) ≤ 0) (by omega)
  unfold m_SpeciesSolverModel_judgeNote_319 m_SpeciesSolverModel_judgeNote_363
  refine Ok_bd (r_blame (M := M - 4) (r := 6) (by omega) (by omega) a0 (by omega) (by omega)) ?_
  rintro ⟨b9, g1, g2, g3⟩ ⟨b, h1, h2, h3⟩
  simp only at h1 ⊢
  subst h1
  refine Ok_bd (r_isRepeated hw C hF hL hX j0 j1) (fun u _ => ?_)
  refine Ok_bd (r_blame (M := M - 3) (r := 7) (by omega) (by omega) h2 (by omega) (by omega)) ?_
  rintro ⟨b9, k1, k2, k3⟩ ⟨d, d1, d2, d3⟩
  simp only at d1 ⊢
  subst d1
  refine Ok_ite (fun _ => ?_) (fun _ => r_j364 hw C hF hL hX j0 j1 d2 (by omega) M1)
  rw [L_0, r_at hw C (by omega) hL (by omega) (by omega), bd_S, show (5 : Int32) = I 5 from rfl, r_isIn C (by omega) (by omega) c0 c1 g0.1 g0.2, bd_S]
  exact Ok_ite (fun _ => r_j364 hw C hF hL hX j0 j1 d2 (by omega) M1) (fun _ => r_j364 hw C hF hL hX j0 j1 d2 (by omega) M1)
theorem r_j260 (hw : WF S) (C : RS S nu on gi) (hF : 2000 ≤ F) (hL : 0 < S.L) (hX : TR S X v) {j : Int} (j0 : 0 ≤ j) (j1 : j < S.N) {a M : Int} {f1 f2 f3 : Nat → Int32} {x3 t : Int32} (a0 : 0 ≤ a) (aM : a + 6 ≤ M) (M1 : M ≤ 50000) : Ok (m_SpeciesSolverModel_judgeNote_260 F (I S.L) (I S.n) (I S.K) (B S.ab) (I S.N) gi on nu X (I a) f1 f2 f3 (I j) (I (v j)) x3 t) (RJ M) := by
  have hN := WF_N hw; have hN2 := WF_N2 hw hL
  obtain ⟨_, c0, c1⟩ := hX j j0 j1
  unfold m_SpeciesSolverModel_judgeNote_260 m_SpeciesSolverModel_judgeNote_318
  refine Ok_bd (r_blame (M := M - 5) (r := 5) (by omega) (by omega) a0 (by omega) (by omega)) ?_
  rintro ⟨b9, g1, g2, g3⟩ ⟨b, h1, h2, h3⟩
  simp only at h1 ⊢
  subst h1
  refine Ok_ite (fun _ => r_j319 hw C hF hL hX j0 j1 h2 (by omega) M1) (fun e1 => ?_)
  have e9 := e1
  rw [L_1, I_le (by omega) (by omega) (by omega) (by omega)] at e1
  rw [if_neg e9, show (2 : Int32) = I 2 from rfl, I_sub]
  obtain ⟨xa, p0, p1⟩ := hX (j - 1) (by omega) (by omega)
  obtain ⟨xb, q0, q1⟩ := hX (j - 2) (by omega) (by omega)
  unfold m_SpeciesSolverModel_judgeNote_289
  rw [gd_I (by omega) (by omega) (by omega), if_neg e9, show (1 : Int32) = I 1 from rfl, I_sub, I_nat (by omega) (by omega), xb]
  unfold m_SpeciesSolverModel_judgeNote_306 m_SpeciesSolverModel_judgeNote_318
  rw [gd_I (by omega) (by omega) (by omega), I_nat (by omega) (by omega), xa, r_rule6 hw C q0 q1 p0 p1 c0 c1, bd_S]
  exact Ok_ite (fun _ => r_j319 hw C hF hL hX j0 j1 h2 (by omega) M1) (fun _ => r_j319 hw C hF hL hX j0 j1 h2 (by omega) M1)
theorem r_j163 (hw : WF S) (C : RS S nu on gi) (hF : 2000 ≤ F) (hL : 0 < S.L) (hX : TR S X v) {j : Int} (j0 : 0 ≤ j) (j1 : j < S.N) {x3 : Int32} : ∀ (k n : Nat) (l : Int) (a M : Int) (f1 f2 f3 : Nat → Int32), (S.L - l).toNat = k → k < n → 0 ≤ l → l ≤ S.L → 0 ≤ a → a + (S.L - l) + 6 ≤ M → M ≤ 50000 → Ok (m_SpeciesSolverModel_judgeNote_163 F (I S.L) (I S.n) (I S.K) (B S.ab) (I S.N) gi on nu X n (I a) f1 f2 f3 (I j) (I (v j)) x3 (I l)) (RJ M)
  | 0, n, l, a, M, f1, f2, f3, e, hn, l0, l1, a0, aM, M1 => by
    obtain ⟨m, rfl⟩ : ∃ m, n = m + 1 := ⟨n - 1, by omega⟩
    have hL2 := WF_L hw; have hN := WF_N hw
    obtain ⟨_, c0, c1⟩ := hX j j0 j1
    simp only [m_SpeciesSolverModel_judgeNote_163, m_SpeciesSolverModel_judgeNote_163b, m_SpeciesSolverModel_judgeNote_259]
    rw [if_pos (by rw [I_le (by omega) (by omega) (by omega) (by omega)]; omega)]
    refine Ok_ite (fun _ => r_j260 hw C hF hL hX j0 j1 a0 (by omega) M1) (fun e1 => ?_)
    rw [if_neg e1]
    rw [L_0, I_le (by omega) (by omega) (by omega) (by omega)] at e1
    obtain ⟨xa, p0, p1⟩ := hX (j - 1) (by omega) (by omega)
    unfold m_SpeciesSolverModel_judgeNote_247 m_SpeciesSolverModel_judgeNote_259
    rw [show (1 : Int32) = I 1 from rfl, I_sub, gd_I (by omega) (by omega) (by omega), I_nat (by omega) (by omega), xa, r_rule5 hw C p0 p1 c0 c1, bd_S]
    exact Ok_ite (fun _ => r_j260 hw C hF hL hX j0 j1 a0 (by omega) M1) (fun _ => r_j260 hw C hF hL hX j0 j1 a0 (by omega) M1)
  | k + 1, n, l, a, M, f1, f2, f3, e, hn, l0, l1, a0, aM, M1 => by
    obtain ⟨m, rfl⟩ : ∃ m, n = m + 1 := ⟨n - 1, by omega⟩
    have hL2 := WF_L hw; have hN := WF_N hw
    obtain ⟨_, c0, c1⟩ := hX j j0 j1
    have e1 : I l + 1 = I (l + 1) := by rw [L_1, I_add]
    have k213 : ∀ t : Int32, Ok (m_SpeciesSolverModel_judgeNote_213 F (I S.L) (I S.n) (I S.K) (B S.ab) (I S.N) gi on nu X (m_SpeciesSolverModel_judgeNote_163 F (I S.L) (I S.n) (I S.K) (B S.ab) (I S.N) gi on nu X m) (I a) f1 f2 f3 (I j) (I (v j)) x3 (I l) t) (RJ M) := by
      intro t
      unfold m_SpeciesSolverModel_judgeNote_213
      refine Ok_bd (r_blame (M := a + 1) (r := 4) (by omega) (by omega) a0 (by omega) (by omega)) ?_
      rintro ⟨b9, g1, g2, g3⟩ ⟨b, h1, h2, h3⟩
      simp only at h1 ⊢
      subst h1
      rw [e1]
      exact r_j163 hw C hF hL hX j0 j1 k m (l + 1) b M g1 g2 g3 (by omega) (by omega) (by omega) (by omega) h2 (by omega) M1
    simp only [m_SpeciesSolverModel_judgeNote_163, m_SpeciesSolverModel_judgeNote_163b]
    rw [if_neg (by rw [I_le (by omega) (by omega) (by omega) (by omega)]; omega), r_isStrong hw j0 (by omega), bd_S, L_0]
    simp only [B_0]
    refine Ok_ite (fun es => ?_) (fun _ => k213 _)
    have jr : 1 ≤ j ∧ j + 1 < S.N := by
      have es2 := of_decide_eq_false es
      unfold Su.N at j1 ⊢
      rcases WF_K hw with k9 | k9 | k9 <;> rw [k9] at es2 j1 ⊢ <;> omega
    obtain ⟨xa, p0, p1⟩ := hX (j - 1) (by omega) (by omega)
    obtain ⟨xb, q0, q1⟩ := hX (j + 1) (by omega) (by omega)
    rw [show (1 : Int32) = I 1 from rfl, I_sub, I_add, gd_I (by omega) (by omega) (by omega), gd_I (by omega) (by omega) (by omega), I_nat (by omega) (by omega), I_nat (by omega) (by omega), xa, xb, r_rule4 hw C l0 (by omega) j0 j1 p0 p1 c0 c1 q0 q1, bd_S]
    exact Ok_ite (fun _ => k213 _) (fun _ => k213 _)
theorem r_sB (hw : WF S) (C : RS S nu on gi) (hF : 2000 ≤ F) (hL : 0 < S.L) (hX : TR S X v) {j : Int} (j0 : 0 ≤ j) (j1 : j < S.N) : ∃ w : Int, m_SpeciesSolverModel_strongBefore (I S.K) X (I j) = some (I w) ∧ 0 ≤ w ∧ w ≤ 127 ∧ (S.K ≤ j → w = v (j - S.K)) := by
  have hN := WF_N hw; have hK := WF_K4 hw; have hN2 := WF_N2 hw hL
  unfold m_SpeciesSolverModel_strongBefore
  by_cases e : S.K ≤ j
  · obtain ⟨xa, p0, p1⟩ := hX (j - S.K) (by omega) (by omega)
    rw [if_pos (by rw [I_le (by omega) (by omega) (by omega) (by omega)]; exact e), I_sub, gd_I (by omega) (by omega) (by omega), I_nat (by omega) (by omega), xa]
    exact ⟨_, rfl, p0, p1, fun _ => rfl⟩
  · obtain ⟨xa, p0, p1⟩ := hX 0 (by omega) (by omega)
    have xa2 : X (Int32.toNatClampNeg 0) = I (v 0) := xa
    rw [if_neg (by rw [I_le (by omega) (by omega) (by omega) (by omega)]; exact e), xa2]
    exact ⟨_, rfl, p0, p1, fun h => absurd h e⟩
theorem r_rule12 (hw : WF S) (C : RS S nu on gi) (hF : 2000 ≤ F) (hL : 0 < S.L) (hX : TR S X v) {l j w : Int} (j0 : 0 ≤ j) (j1 : j < S.N) (l0 : 0 ≤ l) (l1 : l < S.L) (w0 : 0 ≤ w) (w1 : w ≤ 127) : (∃ b, m_SpeciesSolverModel_rule1 (I S.K) gi nu (I l) (I j) (I w) (I (v j)) = some b) ∧ (∃ b, m_SpeciesSolverModel_rule2 (I S.K) gi nu (I l) (I j) (I w) (I (v j)) = some b) := by
  have hN := WF_N hw
  obtain ⟨_, c0, c1⟩ := hX j j0 j1
  by_cases e : j = 0
  · subst e
    exact ⟨⟨0, by unfold m_SpeciesSolverModel_rule1; rw [if_pos (by decide)]⟩, ⟨0, by unfold m_SpeciesSolverModel_rule2; rw [if_pos (by decide)]⟩⟩
  · exact ⟨⟨_, r_rule1 hw C l0 l1 (by omega) j1 w0 w1 c0 c1⟩, ⟨_, r_rule2 hw C l0 l1 (by omega) j1 w0 w1 c0 c1⟩⟩
theorem r_j129 (hw : WF S) (C : RS S nu on gi) (hF : 2000 ≤ F) (hL : 0 < S.L) (hX : TR S X v) {j : Int} (j0 : 0 ≤ j) (j1 : j < S.N) {x3 : Int32} : ∀ (k n : Nat) (l : Int) (a M : Int) (f1 f2 f3 : Nat → Int32), (S.L - l).toNat = k → k < n → 0 ≤ l → l ≤ S.L → 0 ≤ a → a + (S.L - l) + 9 ≤ M → M ≤ 50000 → Ok (m_SpeciesSolverModel_judgeNote_129 F (I S.L) (I S.n) (I S.K) (B S.ab) (I S.N) gi on nu X n (I a) f1 f2 f3 (I j) (I (v j)) x3 (I l)) (RJ M)
  | 0, n, l, a, M, f1, f2, f3, e, hn, l0, l1, a0, aM, M1 => by
    obtain ⟨m, rfl⟩ : ∃ m, n = m + 1 := ⟨n - 1, by omega⟩
    have hL2 := WF_L hw
    simp only [m_SpeciesSolverModel_judgeNote_129, m_SpeciesSolverModel_judgeNote_129b]
    rw [if_pos (by rw [I_le (by omega) (by omega) (by omega) (by omega)]; omega), L_0]
    exact r_j163 hw C hF hL hX j0 j1 _ F 0 a M f1 f2 f3 rfl (by omega) (by omega) (by omega) a0 (by omega) M1
  | k + 1, n, l, a, M, f1, f2, f3, e, hn, l0, l1, a0, aM, M1 => by
    obtain ⟨m, rfl⟩ : ∃ m, n = m + 1 := ⟨n - 1, by omega⟩
    have hL2 := WF_L hw
    obtain ⟨_, c0, c1⟩ := hX j j0 j1
    have e1 : I l + 1 = I (l + 1) := by rw [L_1, I_add]
    simp only [m_SpeciesSolverModel_judgeNote_129, m_SpeciesSolverModel_judgeNote_129b]
    rw [if_neg (by rw [I_le (by omega) (by omega) (by omega) (by omega)]; omega), e1]
    rw [r_rule3 hw C l0 (by omega) j0 j1 c0 c1, bd_S]
    refine Ok_bd (r_blame (M := a + 1) (r := 3) (by omega) (by omega) a0 (by omega) (by omega)) ?_
    rintro ⟨b9, g1, g2, g3⟩ ⟨b, h1, h2, h3⟩
    simp only at h1 ⊢
    subst h1
    exact r_j129 hw C hF hL hX j0 j1 k m (l + 1) b M g1 g2 g3 (by omega) (by omega) (by omega) (by omega) h2 (by omega) M1
theorem r_j90 (hw : WF S) (C : RS S nu on gi) (hF : 2000 ≤ F) (hL : 0 < S.L) (hX : TR S X v) {j : Int} (j0 : 0 ≤ j) (j1 : j < S.N) {x3 : Int32} : ∀ (k n : Nat) (l : Int) (a M : Int) (f1 f2 f3 : Nat → Int32), (S.L - l).toNat = k → k < n → 0 ≤ l → l ≤ S.L → 0 ≤ a → a + (S.L - l) + 12 ≤ M → M ≤ 50000 → Ok (m_SpeciesSolverModel_judgeNote_90 F (I S.L) (I S.n) (I S.K) (B S.ab) (I S.N) gi on nu X n (I a) f1 f2 f3 (I j) (I (v j)) x3 (I l)) (RJ M)
  | 0, n, l, a, M, f1, f2, f3, e, hn, l0, l1, a0, aM, M1 => by
    obtain ⟨m, rfl⟩ : ∃ m, n = m + 1 := ⟨n - 1, by omega⟩
    have hL2 := WF_L hw
    simp only [m_SpeciesSolverModel_judgeNote_90, m_SpeciesSolverModel_judgeNote_90b]
    rw [if_pos (by rw [I_le (by omega) (by omega) (by omega) (by omega)]; omega), L_0]
    exact r_j129 hw C hF hL hX j0 j1 _ F 0 a M f1 f2 f3 rfl (by omega) (by omega) (by omega) a0 (by omega) M1
  | k + 1, n, l, a, M, f1, f2, f3, e, hn, l0, l1, a0, aM, M1 => by
    obtain ⟨m, rfl⟩ : ∃ m, n = m + 1 := ⟨n - 1, by omega⟩
    have hL2 := WF_L hw
    obtain ⟨_, c0, c1⟩ := hX j j0 j1
    have e1 : I l + 1 = I (l + 1) := by rw [L_1, I_add]
    simp only [m_SpeciesSolverModel_judgeNote_90, m_SpeciesSolverModel_judgeNote_90b]
    rw [if_neg (by rw [I_le (by omega) (by omega) (by omega) (by omega)]; omega), e1]
    obtain ⟨w, ew, w0, w1, _⟩ := r_sB hw C hF hL hX j0 j1
    rw [ew, bd_S]
    obtain ⟨b8, eb⟩ := (r_rule12 hw C hF hL hX (l := l) (w := w) j0 j1 l0 (by omega) w0 w1).2
    rw [eb, bd_S]
    refine Ok_bd (r_blame (M := a + 1) (r := 2) (by omega) (by omega) a0 (by omega) (by omega)) ?_
    rintro ⟨b9, g1, g2, g3⟩ ⟨b, h1, h2, h3⟩
    simp only at h1 ⊢
    subst h1
    exact r_j90 hw C hF hL hX j0 j1 k m (l + 1) b M g1 g2 g3 (by omega) (by omega) (by omega) (by omega) h2 (by omega) M1
theorem r_j51 (hw : WF S) (C : RS S nu on gi) (hF : 2000 ≤ F) (hL : 0 < S.L) (hX : TR S X v) {j : Int} (j0 : 0 ≤ j) (j1 : j < S.N) {x3 : Int32} : ∀ (k n : Nat) (l : Int) (a M : Int) (f1 f2 f3 : Nat → Int32), (S.L - l).toNat = k → k < n → 0 ≤ l → l ≤ S.L → 0 ≤ a → a + (S.L - l) + 15 ≤ M → M ≤ 50000 → Ok (m_SpeciesSolverModel_judgeNote_51 F (I S.L) (I S.n) (I S.K) (B S.ab) (I S.N) gi on nu X n (I a) f1 f2 f3 (I j) (I (v j)) x3 (I l)) (RJ M)
  | 0, n, l, a, M, f1, f2, f3, e, hn, l0, l1, a0, aM, M1 => by
    obtain ⟨m, rfl⟩ : ∃ m, n = m + 1 := ⟨n - 1, by omega⟩
    have hL2 := WF_L hw
    simp only [m_SpeciesSolverModel_judgeNote_51, m_SpeciesSolverModel_judgeNote_51b]
    rw [if_pos (by rw [I_le (by omega) (by omega) (by omega) (by omega)]; omega), L_0]
    exact r_j90 hw C hF hL hX j0 j1 _ F 0 a M f1 f2 f3 rfl (by omega) (by omega) (by omega) a0 (by omega) M1
  | k + 1, n, l, a, M, f1, f2, f3, e, hn, l0, l1, a0, aM, M1 => by
    obtain ⟨m, rfl⟩ : ∃ m, n = m + 1 := ⟨n - 1, by omega⟩
    have hL2 := WF_L hw
    obtain ⟨_, c0, c1⟩ := hX j j0 j1
    have e1 : I l + 1 = I (l + 1) := by rw [L_1, I_add]
    simp only [m_SpeciesSolverModel_judgeNote_51, m_SpeciesSolverModel_judgeNote_51b]
    rw [if_neg (by rw [I_le (by omega) (by omega) (by omega) (by omega)]; omega), e1]
    obtain ⟨w, ew, w0, w1, _⟩ := r_sB hw C hF hL hX j0 j1
    rw [ew, bd_S]
    obtain ⟨b8, eb⟩ := (r_rule12 hw C hF hL hX (l := l) (w := w) j0 j1 l0 (by omega) w0 w1).1
    rw [eb, bd_S]
    refine Ok_bd (r_blame (M := a + 1) (r := 1) (by omega) (by omega) a0 (by omega) (by omega)) ?_
    rintro ⟨b9, g1, g2, g3⟩ ⟨b, h1, h2, h3⟩
    simp only at h1 ⊢
    subst h1
    exact r_j51 hw C hF hL hX j0 j1 k m (l + 1) b M g1 g2 g3 (by omega) (by omega) (by omega) (by omega) h2 (by omega) M1
theorem r_j17 (hw : WF S) (C : RS S nu on gi) (hF : 2000 ≤ F) (hL : 0 < S.L) (hX : TR S X v) {j : Int} (j0 : 0 ≤ j) (j1 : j < S.N) {x3 : Int32} : ∀ (k n : Nat) (l : Int) (a M : Int) (f1 f2 f3 : Nat → Int32), (S.L - l).toNat = k → k < n → 0 ≤ l → l ≤ S.L → 0 ≤ a → a + (S.L - l) + 18 ≤ M → M ≤ 50000 → Ok (m_SpeciesSolverModel_judgeNote_17 F (I S.L) (I S.n) (I S.K) (B S.ab) (I S.N) gi on nu X n (I a) f1 f2 f3 (I j) (I (v j)) x3 (I l)) (RJ M)
  | 0, n, l, a, M, f1, f2, f3, e, hn, l0, l1, a0, aM, M1 => by
    obtain ⟨m, rfl⟩ : ∃ m, n = m + 1 := ⟨n - 1, by omega⟩
    have hL2 := WF_L hw
    simp only [m_SpeciesSolverModel_judgeNote_17, m_SpeciesSolverModel_judgeNote_17b]
    rw [if_pos (by rw [I_le (by omega) (by omega) (by omega) (by omega)]; omega), L_0]
    exact r_j51 hw C hF hL hX j0 j1 _ F 0 a M f1 f2 f3 rfl (by omega) (by omega) (by omega) a0 (by omega) M1
  | k + 1, n, l, a, M, f1, f2, f3, e, hn, l0, l1, a0, aM, M1 => by
    obtain ⟨m, rfl⟩ : ∃ m, n = m + 1 := ⟨n - 1, by omega⟩
    have hL2 := WF_L hw
    obtain ⟨_, c0, c1⟩ := hX j j0 j1
    have e1 : I l + 1 = I (l + 1) := by rw [L_1, I_add]
    simp only [m_SpeciesSolverModel_judgeNote_17, m_SpeciesSolverModel_judgeNote_17b]
    rw [if_neg (by rw [I_le (by omega) (by omega) (by omega) (by omega)]; omega), e1]
    rw [r_rule0 hw C l0 (by omega) j0 j1 c0 c1, bd_S]
    refine Ok_bd (r_blame (M := a + 1) (r := 0) (by omega) (by omega) a0 (by omega) (by omega)) ?_
    rintro ⟨b9, g1, g2, g3⟩ ⟨b, h1, h2, h3⟩
    simp only at h1 ⊢
    subst h1
    exact r_j17 hw C hF hL hX j0 j1 k m (l + 1) b M g1 g2 g3 (by omega) (by omega) (by omega) (by omega) h2 (by omega) M1
theorem r_judgeNote (hw : WF S) (C : RS S nu on gi) (hF : 2000 ≤ F) (hL : 0 < S.L) (hX : TR S X v) {j : Int} (j0 : 0 ≤ j) (j1 : j < S.N) {a M : Int} {f1 f2 f3 : Nat → Int32} (a0 : 0 ≤ a) (aM : a + 21 ≤ M) (M1 : M ≤ 50000) : Ok (m_SpeciesSolverModel_judgeNote F (I S.L) (I S.n) (I S.K) (B S.ab) (I S.N) gi on nu X (I a) f1 f2 f3 (I j)) (RJ M) := by
  have hN := WF_N hw; have hL2 := WF_L hw
  obtain ⟨xj, c0, c1⟩ := hX j j0 j1
  unfold m_SpeciesSolverModel_judgeNote
  rw [gd_I (by omega) (by omega) (by omega), r_size hw, bd_S, I_nat (by omega) (by omega), xj, L_0]
  exact r_j17 hw C hF hL hX j0 j1 _ F 0 a M f1 f2 f3 rfl (by omega) (by omega) (by omega) a0 (by omega) M1
theorem r_judge27 (hw : WF S) (C : RS S nu on gi) (hF : 2000 ≤ F) (hL : 0 < S.L) (hX : TR S X v) : ∀ (k n : Nat) (j a : Int) (f1 f2 f3 : Nat → Int32), (S.N - j).toNat = k → k < n → 0 ≤ j → j ≤ S.N → 0 ≤ a → a ≤ 21 * j → Ok (m_SpeciesSolverModel_judge_27 F (I S.L) (I S.n) (I S.K) (B S.ab) (I S.N) gi on nu X n (I a) f1 f2 f3 (I j)) (fun _ => True)
  | 0, n, j, a, f1, f2, f3, e, hn, j0, j1, a0, a1 => by
    obtain ⟨m, rfl⟩ : ∃ m, n = m + 1 := ⟨n - 1, by omega⟩
    have hN := WF_N hw
    simp only [m_SpeciesSolverModel_judge_27, m_SpeciesSolverModel_judge_27b]
    rw [if_pos (by rw [I_le (by omega) (by omega) (by omega) (by omega)]; omega)]
    exact Ok_some trivial
  | k + 1, n, j, a, f1, f2, f3, e, hn, j0, j1, a0, a1 => by
    obtain ⟨m, rfl⟩ : ∃ m, n = m + 1 := ⟨n - 1, by omega⟩
    have hN := WF_N hw
    have e1 : I j + 1 = I (j + 1) := by rw [L_1, I_add]
    simp only [m_SpeciesSolverModel_judge_27, m_SpeciesSolverModel_judge_27b]
    rw [if_neg (by rw [I_le (by omega) (by omega) (by omega) (by omega)]; omega), e1]
    refine Ok_bd (r_judgeNote hw C hF hL hX (M := 21 * (j + 1)) j0 (by omega) a0 (by omega) (by omega)) ?_
    rintro ⟨b9, g1, g2, g3⟩ ⟨b, h1, h2, h3⟩
    simp only at h1 ⊢
    subst h1
    exact r_judge27 hw C hF hL hX k m (j + 1) b g1 g2 g3 (by omega) (by omega) (by omega) (by omega) h2 h3
end
