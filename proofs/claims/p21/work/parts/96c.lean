/-! pure part: how far one can come: the reference's goOn and reach; that the class comes as far -/
def HB (S : Su) (j : Nat) (b : Int → Bool) : Prop := ∀ y, 0 ≤ y → y < 640 → (b y = true ↔ ∃ t, S.HS j t ∧ hcode t = y)
def RF (S : Su) (f : Nat) : Prop := (f : Int) ≤ S.N ∧ (∀ i, i < f → ∃ t, S.HS i t) ∧ ((f : Int) < S.N → ∀ t, ¬ S.HS f t)
theorem RF_eq {S : Su} {f f2 : Nat} (h : RF S f) (h2 : RF S f2) : f = f2 := by
  obtain ⟨a1, a2, a3⟩ := h
  obtain ⟨b1, b2, b3⟩ := h2
  by_cases l1 : f < f2
  · obtain ⟨t, ht⟩ := b2 f l1
    exact absurd ht (a3 (by omega) t)
  · by_cases l2 : f2 < f
    · obtain ⟨t, ht⟩ := a2 f2 l2
      exact absurd ht (b3 (by omega) t)
    · omega
section
variable {S : Su} {nu on gi pi : Nat → Int32} {F : Nat}
theorem r_go51 (hw : WF S) (C : RS S nu on gi) (hF : 2000 ≤ F) (hL : 0 < S.L) (hp : PP S pi) (hc : S.c ≤ 8) {j : Nat} {b0 : Int → Bool} (hj : j < S.last) (hb0 : HB S j b0) : ∀ (r n : Nat) (x : Int) (ar : Nat → Int32) (b : Int → Bool) (an : Bool), (640 - x).toNat = r → r < n → 0 ≤ x → x ≤ 640 → RB ar (par2 j) b0 → RB ar (par2 (j + 1)) b → (∀ y, 0 ≤ y → y < 640 → (b y = true ↔ ∃ t, S.HS j t ∧ hcode t < x ∧ ∃ q, q < S.c ∧ S.rmay ((j + 1 : Nat) : Int) t.1 t.2.1 t.2.2.1 q false = true ∧ y = hcode (S.rnx (-1) (j + 1) t q))) → AnyB an b → Ok (m_SpeciesSolverModel_goOn_51 F (I S.L) (I S.n) (I S.K) (B S.ab) (I S.c) gi on nu pi n ar (I j) (I (par2 j)) (I (par2 (j + 1))) (B an) (I x)) (fun u => ∃ an b, u.1 = B an ∧ RB u.2 (par2 (j + 1)) b ∧ HB S (j + 1) b ∧ AnyB an b)
  | 0, n, x, ar, b, an, e, hn, x0, x1, h1, h2, h3, h4 => by
    obtain ⟨k, rfl⟩ : ∃ k, n = k + 1 := ⟨n - 1, by omega⟩
    simp only [m_SpeciesSolverModel_goOn_51, m_SpeciesSolverModel_goOn_51b]
    simp (disch := omega) only [gd_I, nz_I, bd_S, gb_B, nar_B, I_add, I_sub, I_mul, I_neg, I_div, I_nat, I_lt, I_le, I_eq, B_0, B_1, L_0, L_1, L_2, L_3, L_4, L_5, L_6, L_7, L_8, L_9, L_10, L_11, L_12, L_13, L_14, L_15, L_16, L_17, L_24, L_31, L_45, L_80, L_127, L_200, L_640, L_1280, L_1000000000, T_0, T_1, T_2, T_3, T_4, T_5, T_6, T_7, T_8, T_9, T_10, T_11, T_12, T_13, T_14, T_15, T_16, T_17]
    rw [if_pos (by omega)]
    refine Ok_some ⟨an, b, rfl, h2, fun y y0 y1 => ?_, h4⟩
    rw [h3 y y0 y1]
    constructor
    · rintro ⟨t, a1, a2, q, a3, a4, a5⟩
      exact ⟨_, ⟨t, a1, q, a3, a4, rfl⟩, a5.symm⟩
    · rintro ⟨t', ⟨t, a1, q, a3, a4, a5⟩, a6⟩
      subst a5
      have := (hcode_r hc (HS_valid hw hc j t a1).1).1
      exact ⟨t, a1, by omega, q, a3, a4, a6.symm⟩
  | r + 1, n, x, ar, b, an, e, hn, x0, x1, h1, h2, h3, h4 => by
    obtain ⟨k, rfl⟩ : ∃ k, n = k + 1 := ⟨n - 1, by omega⟩
    have l44 := last45 hw
    have pj := par2_r (by omega : 0 ≤ (j : Int))
    have ea := h1 x x0 (by omega)
    have ih := fun ar b an g1 g2 g3 g4 => r_go51 hw C hF hL hp hc hj hb0 r k (x + 1) ar b an (by omega) (by omega) (by omega) (by omega) g1 g2 g3 g4
    simp only [m_SpeciesSolverModel_goOn_51, m_SpeciesSolverModel_goOn_51b, m_SpeciesSolverModel_goOn_175]
    simp (disch := omega) only [gd_I, nz_I, bd_S, gb_B, nar_B, I_add, I_sub, I_mul, I_neg, I_div, I_nat, I_lt, I_le, I_eq, B_0, B_1, L_0, L_1, L_2, L_3, L_4, L_5, L_6, L_7, L_8, L_9, L_10, L_11, L_12, L_13, L_14, L_15, L_16, L_17, L_24, L_31, L_45, L_80, L_127, L_200, L_640, L_1280, L_1000000000, T_0, T_1, T_2, T_3, T_4, T_5, T_6, T_7, T_8, T_9, T_10, T_11, T_12, T_13, T_14, T_15, T_16, T_17, ea]
    rw [if_neg (by omega)]
    cases hbx : b0 x with
    | false =>
      simp only [if_true]
      refine ih ar b an h1 h2 (fun y y0 y1 => ?_) h4
      rw [h3 y y0 y1]
      constructor
      · rintro ⟨t, a1, a2, a3⟩; exact ⟨t, a1, by omega, a3⟩
      · rintro ⟨t, a1, a2, a3⟩
        refine ⟨t, a1, ?_, a3⟩
        by_cases e9 : hcode t = x
        · have := (hb0 x x0 (by omega)).mpr ⟨t, a1, e9⟩
          rw [hbx] at this; cases this
        · omega
    | true =>
      simp only [Bool.true_eq_false, if_false]
      obtain ⟨t, a1, a2⟩ := (hb0 x x0 (by omega)).mp hbx
      obtain ⟨v, u⟩ := HS_valid hw hc j t a1
      obtain ⟨_, d1, d2, d3⟩ := hcode_r hc v
      rw [a2] at d1 d2 d3
      obtain ⟨p, h, s, u9⟩ := t
      simp only at u d1 d2 d3
      subst u
      rw [d1, d2, d3]
      rw [show I 0 = I ((0 : Nat) : Int) from rfl]
      refine r_go98 hw C hF hL hp hc hj v (fun y => ∃ t, S.HS j t ∧ hcode t < x ∧ ∃ q, q < S.c ∧ S.rmay ((j + 1 : Nat) : Int) t.1 t.2.1 t.2.2.1 q false = true ∧ y = hcode (S.rnx (-1) (j + 1) t q)) (fun ar2 b2 an2 g1 g2 g3 g4 => ?_) _ F 0 ar b an rfl (by omega) (by omega) h1 h2 (fun y y0 y1 => ?_) h4
      · refine ih ar2 b2 an2 g1 g2 (fun y y0 y1 => ?_) g4
        rw [g3 y y0 y1]
        constructor
        · rintro (⟨t, c1, c2, c3⟩ | ⟨q, c1, c2, c3⟩)
          · exact ⟨t, c1, by omega, c3⟩
          · exact ⟨(p, h, s, 0), a1, by omega, q, c1, c2, c3⟩
        · rintro ⟨t, c1, c2, c3⟩
          by_cases e9 : hcode t = x
          · right
            obtain ⟨v2, u2⟩ := HS_valid hw hc j t c1
            obtain ⟨_, f1, f2, f3⟩ := hcode_r hc v2
            rw [e9] at f1 f2 f3
            obtain ⟨p2, h2', s2, u3⟩ := t
            simp only at u2 f1 f2 f3
            have e1 : p2 = p := by omega
            have e2 : h2' = h := by omega
            have e3 : s2 = s := by omega
            subst e1; subst e2; subst e3; subst u2
            exact c3
          · exact Or.inl ⟨t, c1, by omega, c3⟩
      · rw [h3 y y0 y1]
        constructor
        · exact fun g => Or.inl g
        · rintro (g | ⟨q', g1, _⟩)
          · exact g
          · omega
theorem r_go24 (hw : WF S) (C : RS S nu on gi) (hF : 2000 ≤ F) (hL : 0 < S.L) (hp : PP S pi) (hc : S.c ≤ 8) {j : Nat} {b0 : Int → Bool} (hj : j < S.last) (hb0 : HB S j b0) : ∀ (r n : Nat) (x : Int) (ar : Nat → Int32), (640 - x).toNat = r → r < n → 0 ≤ x → x ≤ 640 → RB ar (par2 j) b0 → (∀ y, 0 ≤ y → y < x → ar (par2 (j + 1) + y).toNat = B false) → Ok (m_SpeciesSolverModel_goOn_24 F (I S.L) (I S.n) (I S.K) (B S.ab) (I S.c) gi on nu pi n ar (I j) (I (par2 j)) (I (par2 (j + 1))) (I 0) (I x)) (fun u => ∃ an b, u.1 = B an ∧ RB u.2 (par2 (j + 1)) b ∧ HB S (j + 1) b ∧ AnyB an b)
  | 0, n, x, ar, e, hn, x0, x1, h1, h2 => by
    obtain ⟨k, rfl⟩ : ∃ k, n = k + 1 := ⟨n - 1, by omega⟩
    simp only [m_SpeciesSolverModel_goOn_24, m_SpeciesSolverModel_goOn_24b]
    simp (disch := omega) only [gd_I, nz_I, bd_S, gb_B, nar_B, I_add, I_sub, I_mul, I_neg, I_div, I_nat, I_lt, I_le, I_eq, B_0, B_1, L_0, L_1, L_2, L_3, L_4, L_5, L_6, L_7, L_8, L_9, L_10, L_11, L_12, L_13, L_14, L_15, L_16, L_17, L_24, L_31, L_45, L_80, L_127, L_200, L_640, L_1280, L_1000000000, T_0, T_1, T_2, T_3, T_4, T_5, T_6, T_7, T_8, T_9, T_10, T_11, T_12, T_13, T_14, T_15, T_16, T_17]
    rw [if_pos (by omega), show m_SpeciesSolverModel_goOn_51 F (I S.L) (I S.n) (I S.K) (B S.ab) (I S.c) gi on nu pi F ar (I j) (I (par2 j)) (I (par2 (j + 1))) (I 0) (I 0) = m_SpeciesSolverModel_goOn_51 F (I S.L) (I S.n) (I S.K) (B S.ab) (I S.c) gi on nu pi F ar (I j) (I (par2 j)) (I (par2 (j + 1))) (B false) (I 0) from rfl]
    refine r_go51 hw C hF hL hp hc hj hb0 _ F 0 ar (fun _ => false) false rfl (by omega) (by omega) (by omega) h1 (fun y y0 y1 => h2 y y0 (by omega)) (fun y y0 y1 => ?_) ?_
    · constructor
      · intro h; cases h
      · rintro ⟨t, a1, a2, _⟩
        have := (hcode_r hc (HS_valid hw hc j t a1).1).1
        omega
    · constructor
      · intro h; cases h
      · rintro ⟨_, _, _, h⟩; exact h
  | r + 1, n, x, ar, e, hn, x0, x1, h1, h2 => by
    obtain ⟨k, rfl⟩ : ∃ k, n = k + 1 := ⟨n - 1, by omega⟩
    have pj := par2_r (by omega : 0 ≤ (j : Int) + 1)
    simp only [m_SpeciesSolverModel_goOn_24, m_SpeciesSolverModel_goOn_24b]
    simp (disch := omega) only [gd_I, nz_I, bd_S, gb_B, nar_B, I_add, I_sub, I_mul, I_neg, I_div, I_nat, I_lt, I_le, I_eq, B_0, B_1, L_0, L_1, L_2, L_3, L_4, L_5, L_6, L_7, L_8, L_9, L_10, L_11, L_12, L_13, L_14, L_15, L_16, L_17, L_24, L_31, L_45, L_80, L_127, L_200, L_640, L_1280, L_1000000000, T_0, T_1, T_2, T_3, T_4, T_5, T_6, T_7, T_8, T_9, T_10, T_11, T_12, T_13, T_14, T_15, T_16, T_17, nar_0]
    rw [if_neg (by omega)]
    refine r_go24 hw C hF hL hp hc hj hb0 r k (x + 1) _ (by omega) (by omega) (by omega) (by omega) (fun y y0 y1 => ?_) (fun y y0 y1 => ?_)
    · have pn := par2_ne (j := j) (by omega) y0 y1 x0 (by omega : x < 640)
      rw [upd_ne _ _ pn]; exact h1 y y0 y1
    · by_cases e9 : y = x
      · subst e9; exact upd_at _ _ _
      · rw [upd_ne _ _ (by omega)]; exact h2 y y0 (by omega)
theorem r_goOn (hw : WF S) (C : RS S nu on gi) (hF : 2000 ≤ F) (hL : 0 < S.L) (hp : PP S pi) (hc : S.c ≤ 8) {j : Nat} {b0 : Int → Bool} {ar : Nat → Int32} (hj : j < S.last) (hb0 : HB S j b0) (h1 : RB ar (par2 j) b0) : Ok (m_SpeciesSolverModel_goOn F (I S.L) (I S.n) (I S.K) (B S.ab) (I S.c) gi on nu pi ar (I j)) (fun u => ∃ an b, u.1 = B an ∧ RB u.2 (par2 (j + 1)) b ∧ HB S (j + 1) b ∧ AnyB an b) := by
  have l44 := last45 hw
  have f := r_go24 hw C hF hL hp hc hj hb0 _ F 0 ar rfl (by omega) (by omega) (by omega) h1 (fun y y0 y1 => by omega)
  unfold m_SpeciesSolverModel_goOn
  unfold par2 at f ⊢
  simp (disch := omega) only [gd_I, nz_I, bd_S, gb_B, nar_B, I_add, I_sub, I_mul, I_neg, I_div, I_nat, I_lt, I_le, I_eq, B_0, B_1, L_0, L_1, L_2, L_3, L_4, L_5, L_6, L_7, L_8, L_9, L_10, L_11, L_12, L_13, L_14, L_15, L_16, L_17, L_24, L_31, L_45, L_80, L_127, L_200, L_640, L_1280, L_1000000000, T_0, T_1, T_2, T_3, T_4, T_5, T_6, T_7, T_8, T_9, T_10, T_11, T_12, T_13, T_14, T_15, T_16, T_17]
  exact f
theorem r_re82 (hw : WF S) (C : RS S nu on gi) (hF : 2000 ≤ F) (hL : 0 < S.L) (hp : PP S pi) (hc : S.c ≤ 8) : ∀ (r n f : Nat) (ar : Nat → Int32) (b : Int → Bool) (an : Bool), (S.N - f).toNat = r → r + 1 < n → (f : Int) ≤ S.N → (an = true → 1 ≤ f ∧ RB ar (par2 ((f : Int) - 1)) b ∧ HB S (f - 1) b) → (∀ i, i < f → ∃ t, S.HS i t) → (an = false → (f : Int) < S.N → ∀ t, ¬ S.HS f t) → Ok (m_SpeciesSolverModel_reach_82 F (I S.L) (I S.n) (I S.K) (B S.ab) gi on nu n (I S.c) pi ar (B an) (I f)) (fun u => ∃ f2, u.1 = I (f2 : Nat) ∧ RF S f2 ∧ u.2.1 = I S.c ∧ u.2.2.1 = pi)
  | r, n, f, ar, b, an, e, hn, hf, h1, h2, h3 => by
    obtain ⟨k, rfl⟩ : ∃ k, n = k + 1 := ⟨n - 1, by omega⟩
    have hN := WF_N hw; have hN2 := WF_N2 hw hL; have hl := last_N hN2
    simp only [m_SpeciesSolverModel_reach_82, m_SpeciesSolverModel_reach_82b, m_SpeciesSolverModel_reach_112]
    rw [L_0]
    simp only [B_0]
    cases han : an with
    | false =>
      simp only [if_true]
      exact Ok_some ⟨f, rfl, ⟨hf, h2, h3 han⟩, rfl, rfl⟩
    | true =>
      simp only [Bool.true_eq_false, if_false]
      rw [r_size hw, bd_S]
      obtain ⟨f1, a1, a2⟩ := h1 han
      refine Ok_ite (fun hz => ?_) (fun hz => ?_)
      · rw [I_le (by omega) (by omega) (by omega) (by omega)] at hz
        exact Ok_some ⟨f, rfl, ⟨hf, h2, fun h => by omega⟩, rfl, rfl⟩
      · rw [I_le (by omega) (by omega) (by omega) (by omega)] at hz
        have ef : I (f : Int) - 1 = I ((f - 1 : Nat) : Int) := by rw [L_1, I_sub]; congr 1; omega
        have ep : (f : Int) - 1 = ((f - 1 : Nat) : Int) := by omega
        have ep2 : f - 1 + 1 = f := by omega
        rw [ef]
        rw [ep] at a1
        refine Ok_bd (r_goOn hw C hF hL hp hc (j := f - 1) (by omega) a2 a1) ?_
        rintro ⟨a9, ar2⟩ ⟨an2, b2, u1, u2, u3, u4⟩
        simp only at u1 u2 u3 u4 ⊢
        subst u1
        simp only [B_0]
        rw [ep2] at u3
        have ep3 : ((f - 1 : Nat) : Int) + 1 = (f : Int) := by omega
        rw [ep3] at u2
        cases han2 : an2 with
        | false =>
          simp only [if_true]
          have e0 : I (f : Int) + I 0 = I (f : Int) := by rw [I_add, Int.add_zero]
          rw [e0]
          have hempty : ∀ t, ¬ S.HS f t := by
            intro t ht
            have hc9 := (hcode_r hc (HS_valid hw hc f t ht).1).1
            have := (u3 (hcode t) hc9.1 hc9.2).mpr ⟨t, ht, rfl⟩
            have := u4.mpr ⟨_, hc9.1, hc9.2, this⟩
            rw [han2] at this; cases this
          obtain ⟨k2, rfl⟩ : ∃ k2, k = k2 + 1 := ⟨k - 1, by omega⟩
          simp only [m_SpeciesSolverModel_reach_82, m_SpeciesSolverModel_reach_82b]
          rw [show B false = 0 from rfl, if_pos rfl]
          exact Ok_some ⟨f, rfl, ⟨hf, h2, fun _ => hempty⟩, rfl, rfl⟩
        | true =>
          simp only [Bool.true_eq_false, if_false]
          have e0 : I (f : Int) + 1 = I ((f + 1 : Nat) : Int) := by rw [L_1, I_add]; congr 1
          rw [e0]
          have ep4 : ((f + 1 : Nat) : Int) - 1 = (f : Int) := by omega
          obtain ⟨y, y0, y1, hy⟩ := u4.mp han2
          obtain ⟨t, ht, _⟩ := (u3 y y0 y1).mp hy
          refine r_re82 hw C hF hL hp hc (r - 1) k (f + 1) ar2 b2 true (by omega) (by omega) (by omega) (fun _ => ⟨by omega, by rw [ep4]; exact u2, u3⟩) (fun i hi => ?_) (fun h => by cases h)
          by_cases e9 : i = f
          · subst e9; exact ⟨t, ht⟩
          · exact h2 i (by omega)
  termination_by r n => n
theorem r_re35 (hw : WF S) (C : RS S nu on gi) (hF : 2000 ≤ F) (hL : 0 < S.L) (hp : PP S pi) (hc : S.c ≤ 8) : ∀ (r n q : Nat) (ar : Nat → Int32) (b : Int → Bool) (an : Bool), S.c - q = r → r < n → q ≤ S.c → RB ar 0 b → (∀ y, 0 ≤ y → y < 640 → (b y = true ↔ ∃ q', q' < q ∧ S.nbad 0 (S.P q') = false ∧ hcode (rt0 (-1) q') = y)) → AnyB an b → Ok (m_SpeciesSolverModel_reach_35 F (I S.L) (I S.n) (I S.K) (B S.ab) gi on nu n (I S.c) pi ar (B an) (I q)) (fun u => ∃ f2, u.1 = I (f2 : Nat) ∧ RF S f2 ∧ u.2.1 = I S.c ∧ u.2.2.1 = pi)
  | 0, n, q, ar, b, an, e, hn, hq, h1, h2, h3 => by
    obtain ⟨k, rfl⟩ : ∃ k, n = k + 1 := ⟨n - 1, by omega⟩
    have hN := WF_N hw; have hN2 := WF_N2 hw hL
    have eq : q = S.c := by omega
    subst eq
    have hb : HB S 0 b := by
      intro y y0 y1
      rw [h2 y y0 y1]
      constructor
      · rintro ⟨q', a1, a2, a3⟩; exact ⟨_, ⟨q', a1, a2, rfl⟩, a3⟩
      · rintro ⟨t, ⟨q', a1, a2, a3⟩, a4⟩; subst a3; exact ⟨q', a1, a2, a4⟩
    simp only [m_SpeciesSolverModel_reach_35, m_SpeciesSolverModel_reach_35b, m_SpeciesSolverModel_reach_81]
    rw [if_pos (by rw [I_le (by omega) (by omega) (by omega) (by omega)]; omega), L_0]
    simp only [B_0]
    cases han : an with
    | false =>
      simp only [if_true]
      rw [show I 0 = I ((0 : Nat) : Int) from rfl]
      refine r_re82 hw C hF hL hp hc _ F 0 ar b false rfl (by omega) (by omega) (fun h => by cases h) (fun i hi => absurd hi (Nat.not_lt_zero i)) (fun _ _ t ht => ?_)
      have hc9 := (hcode_r hc (HS_valid hw hc 0 t ht).1).1
      have := (hb (hcode t) hc9.1 hc9.2).mpr ⟨t, ht, rfl⟩
      have := h3.mpr ⟨_, hc9.1, hc9.2, this⟩
      rw [han] at this; cases this
    | true =>
      simp only [Bool.true_eq_false, if_false]
      rw [L_1, show I 1 = I ((1 : Nat) : Int) from rfl]
      obtain ⟨y, y0, y1, hy⟩ := h3.mp han
      obtain ⟨t, ht, _⟩ := (hb y y0 y1).mp hy
      refine r_re82 hw C hF hL hp hc _ F 1 ar b true rfl (by omega) (by omega) (fun _ => ⟨by omega, h1, hb⟩) (fun i hi => ?_) (fun h => by cases h)
      have : i = 0 := by omega
      subst this; exact ⟨t, ht⟩
  | r + 1, n, q, ar, b, an, e, hn, hq, h1, h2, h3 => by
    obtain ⟨k, rfl⟩ : ∃ k, n = k + 1 := ⟨n - 1, by omega⟩
    have eq1 : I (q : Int) + 1 = I ((q + 1 : Nat) : Int) := by rw [L_1, I_add]; congr 1
    have hmb := r_mayBegin hw C hF hL hp hc (by omega : (0 : Int) ≤ q) (by omega : (q : Int) < S.c)
    simp only [m_SpeciesSolverModel_reach_35, m_SpeciesSolverModel_reach_35b, m_SpeciesSolverModel_reach_66]
    rw [if_neg (by rw [I_le (by omega) (by omega) (by omega) (by omega)]; omega), hmb, bd_S, L_0]
    simp only [B_0, eq1]
    cases hb : S.nbad 0 (S.P q) with
    | true =>
      simp only [Bool.not_true, if_true]
      refine r_re35 hw C hF hL hp hc r k (q + 1) ar b an (by omega) (by omega) (by omega) h1 (fun y y0 y1 => ?_) h3
      rw [h2 y y0 y1]
      constructor
      · rintro ⟨q', a1, a2⟩; exact ⟨q', by omega, a2⟩
      · rintro ⟨q', a1, a2, a3⟩
        refine ⟨q', ?_, a2, a3⟩
        by_cases e9 : q' = q
        · subst e9; rw [hb] at a2; cases a2
        · omega
    | false =>
      simp only [Bool.not_false, Bool.true_eq_false, if_false]
      have eh : m_SpeciesSolverModel_halfState (I q) (I 0) (I q) = some (I (hcode (rt0 (-1) q))) := by
        unfold m_SpeciesSolverModel_halfState hcode rt0
        simp (disch := omega) only [gd_I, nz_I, bd_S, gb_B, nar_B, I_add, I_sub, I_mul, I_neg, I_div, I_nat, I_lt, I_le, I_eq, B_0, B_1, L_0, L_1, L_2, L_3, L_4, L_5, L_6, L_7, L_8, L_9, L_10, L_11, L_12, L_13, L_14, L_15, L_16, L_17, L_24, L_31, L_45, L_80, L_127, L_200, L_640, L_1280, L_1000000000, T_0, T_1, T_2, T_3, T_4, T_5, T_6, T_7, T_8, T_9, T_10, T_11, T_12, T_13, T_14, T_15, T_16, T_17]
      have hcr : 0 ≤ hcode (rt0 (-1) q) ∧ hcode (rt0 (-1) q) < 640 := by unfold hcode rt0; simp only; omega
      rw [eh, bd_S, gd_I hcr.1 (by omega) (by omega), I_nat hcr.1 (by omega), show (1 : Int32) = B true from rfl, nar_B]
      refine r_re35 hw C hF hL hp hc r k (q + 1) _ (fun y => if y = hcode (rt0 (-1) q) then true else b y) true (by omega) (by omega) (by omega) (fun y y0 y1 => ?_) (fun y y0 y1 => ?_) ?_
      · rw [Int.zero_add]
        by_cases e9 : y = hcode (rt0 (-1) q)
        · rw [e9, upd_at]; simp
        · rw [upd_ne _ _ (by omega)]; simp only; rw [if_neg e9]
          have := h1 y y0 y1
          rw [Int.zero_add] at this; exact this
      · constructor
        · intro g
          by_cases e9 : y = hcode (rt0 (-1) q)
          · exact ⟨q, by omega, hb, e9.symm⟩
          · rw [if_neg e9] at g
            obtain ⟨q', a1, a2⟩ := (h2 y y0 y1).mp g
            exact ⟨q', by omega, a2⟩
        · rintro ⟨q', a1, a2, a3⟩
          by_cases e9 : y = hcode (rt0 (-1) q)
          · rw [if_pos e9]
          · rw [if_neg e9]
            refine (h2 y y0 y1).mpr ⟨q', ?_, a2, a3⟩
            by_cases e8 : q' = q
            · subst e8; exact absurd a3.symm e9
            · omega
      · constructor
        · intro _; exact ⟨_, hcr.1, hcr.2, by simp⟩
        · intro _; rfl
theorem r_re13 (hw : WF S) (C : RS S nu on gi) (hF : 2000 ≤ F) (hL : 0 < S.L) (hp : PP S pi) (hc : S.c ≤ 8) : ∀ (r n : Nat) (x : Int) (ar : Nat → Int32), (640 - x).toNat = r → r < n → 0 ≤ x → x ≤ 640 → (∀ y, 0 ≤ y → y < x → ar y.toNat = B false) → Ok (m_SpeciesSolverModel_reach_13 F (I S.L) (I S.n) (I S.K) (B S.ab) gi on nu n (I S.c) pi ar (I 0) (I x)) (fun u => ∃ f2, u.1 = I (f2 : Nat) ∧ RF S f2 ∧ u.2.1 = I S.c ∧ u.2.2.1 = pi)
  | 0, n, x, ar, e, hn, x0, x1, h1 => by
    obtain ⟨k, rfl⟩ : ∃ k, n = k + 1 := ⟨n - 1, by omega⟩
    simp only [m_SpeciesSolverModel_reach_13, m_SpeciesSolverModel_reach_13b]
    rw [if_pos (by rw [show (640 : Int32) = I 640 from rfl, I_le (by omega) (by omega) (by omega) (by omega)]; omega)]
    refine r_re35 hw C hF hL hp hc _ F 0 ar (fun _ => false) false rfl (by omega) (by omega) (fun y y0 y1 => by rw [Int.zero_add]; exact h1 y y0 (by omega)) (fun y y0 y1 => ?_) ?_
    · constructor
      · intro h; cases h
      · rintro ⟨q', a1, _⟩; omega
    · constructor
      · intro h; cases h
      · rintro ⟨_, _, _, h⟩; exact h
  | r + 1, n, x, ar, e, hn, x0, x1, h1 => by
    obtain ⟨k, rfl⟩ : ∃ k, n = k + 1 := ⟨n - 1, by omega⟩
    simp only [m_SpeciesSolverModel_reach_13, m_SpeciesSolverModel_reach_13b]
    simp (disch := omega) only [gd_I, nz_I, bd_S, gb_B, nar_B, I_add, I_sub, I_mul, I_neg, I_div, I_nat, I_lt, I_le, I_eq, B_0, B_1, L_0, L_1, L_2, L_3, L_4, L_5, L_6, L_7, L_8, L_9, L_10, L_11, L_12, L_13, L_14, L_15, L_16, L_17, L_24, L_31, L_45, L_80, L_127, L_200, L_640, L_1280, L_1000000000, T_0, T_1, T_2, T_3, T_4, T_5, T_6, T_7, T_8, T_9, T_10, T_11, T_12, T_13, T_14, T_15, T_16, T_17, nar_0]
    rw [if_neg (by omega)]
    refine r_re13 hw C hF hL hp hc r k (x + 1) _ (by omega) (by omega) (by omega) (by omega) (fun y y0 y1 => ?_)
    by_cases e9 : y = x
    · subst e9; exact upd_at _ _ _
    · rw [upd_ne _ _ (by omega)]; exact h1 y y0 (by omega)
/-- the class comes as far as the reference -/
theorem SP_RF (hw : WF S) (hc : S.c ≤ 8) (hN2 : 2 ≤ S.N) {ls sz : Nat → Int32} {LL : Nat → List Int} {f : Nat} (hs : SP S S.c false LL f ls sz) : RF S f := by
  obtain ⟨s1, s2, s3, s4, s5, s6⟩ := hs
  have hm : MT9 S (-1) S.c := Or.inl ⟨by omega, rfl⟩
  have ku : ∀ q, q < S.c → rused (-1) 0 q < 2 := fun q _ => by unfold rused; rw [if_neg (by omega)]; omega
  have key : ∀ i, i ≤ f → (i : Int) < S.N → (∀ x, x ∈ LL i → ∃ t, S.HS i t ∧ Rel S (-1) S.c i x t) ∧ (∀ t, S.HS i t → ∃ x, x ∈ LL i ∧ Rel S (-1) S.c i x t) := by
    intro i
    induction i with
    | zero =>
      intro _ _
      constructor
      · intro x hx
        rw [s2] at hx
        obtain ⟨q, a1, a2, a3⟩ := (l0_mem _ _).mp hx
        have qc : q < S.c := by have := (kk_r (S := S) (t := S.c) hc (by omega)).1; omega
        subst a3
        exact ⟨rt0 (-1) q, ⟨q, qc, a2, rfl⟩, rel0 hw hc hN2 hm qc (ku q qc)⟩
      · rintro t ⟨q, a1, a2, a3⟩
        subst a3
        refine ⟨cfs S.c q, ?_, rel0 hw hc hN2 hm a1 (ku q a1)⟩
        rw [s2]
        exact (l0_mem _ _).mpr ⟨q, (kk_used hc hm a1).mpr (ku q a1), a2, rfl⟩
    | succ i ih =>
      intro h1 h2
      obtain ⟨ih1, ih2⟩ := ih (by omega) (by omega)
      have st := s6 i h1 h2
      constructor
      · intro y hy
        obtain ⟨x, hx, q, hq, hok, e⟩ := (st y).mp hy
        obtain ⟨t, ht, R⟩ := ih1 x hx
        obtain ⟨m1, R2⟩ := rel_stepf hw R hc hq (by omega) hok
        subst e
        exact ⟨_, ⟨t, ht, q, hq, m1, rfl⟩, R2⟩
      · rintro t' ⟨t, ht, q, hq, hmay, e⟩
        obtain ⟨x, hx, R⟩ := ih2 t ht
        have hu : rused (-1) t.2.2.2 q < 2 := by
          have := (HS_valid hw hc i t ht).2
          unfold rused; rw [if_neg (by omega)]; omega
        have hok : S.cok S.c false (i + 1) x q = true := by
          rw [cok_eqc hw R hc hq, hmay, decide_eq_true hu]; rfl
        obtain ⟨_, R2⟩ := rel_stepf hw R hc hq (by omega) hok
        subst e
        exact ⟨_, (st _).mpr ⟨x, hx, q, hq, hok, rfl⟩, R2⟩
  refine ⟨s1, fun i hi => ?_, fun hf t ht => ?_⟩
  · obtain ⟨k1, _⟩ := key i (by omega) (by omega)
    obtain ⟨x, l, hx⟩ := List.exists_cons_of_ne_nil (s3 i hi)
    obtain ⟨t, ht, _⟩ := k1 x (by rw [hx]; exact List.mem_cons_self)
    exact ⟨t, ht⟩
  · obtain ⟨_, k2⟩ := key f (Nat.le_refl _) hf
    obtain ⟨x, hx, _⟩ := k2 t ht
    rw [s4 hf] at hx; cases hx
end
