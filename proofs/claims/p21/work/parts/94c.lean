/-! pure part: the reference's fill, its loops -/
def hok (S : Su) (j : Nat) (h : Int) : Prop := (j = 0 ∧ h = 0) ∨ (0 < j ∧ 1 ≤ h ∧ (h ≤ S.c ∨ h = 9))
theorem rcode_parts {S : Su} {j : Nat} {t : RT} (hc : S.c ≤ 8) (h : valid S j t) {p hh s : Int} (hs0 : 0 ≤ s) (hs : s < 8) (hh0 : 0 ≤ hh) (hh1 : hh < 10) (hp : 0 ≤ p) (h1 : ((p * 10 + hh) * 8 + s) * 2 ≤ rcode t) (h2 : rcode t < ((p * 10 + hh) * 8 + s) * 2 + 2) : t.1 = p ∧ t.2.1 = hh ∧ t.2.2.1 = s := by
  obtain ⟨a1, a2, a3, a4, a5, _⟩ := h
  unfold rcode at h1 h2
  have x : 0 ≤ t.2.1 ∧ t.2.1 ≤ 9 := by
    by_cases e0 : j = 0
    · have := a4 e0; omega
    · have := a5 (by omega); omega
  omega
section
variable {S : Su} {nu on gi pi : Nat → Int32} {F : Nat}
theorem r_f84 (hw : WF S) (C : RS S nu on gi) (hF : 2000 ≤ F) (hL : 0 < S.L) (hp : PP S pi) (hc : S.c ≤ 8) {m : Int} {j : Nat} (m0 : -2 ≤ m) (m1 : m < 8) (hj : j < S.last) {Q : (Nat → Int32) × (Nat → Int64) × (Nat → Int64) → Prop} {k12 : (Nat → Int32) → (Nat → Int64) → (Nat → Int64) → Int32 → Int32 → Option ((Nat → Int32) × (Nat → Int64) × (Nat → Int64))} {k18 : (Nat → Int32) → (Nat → Int64) → (Nat → Int64) → Int32 → Int32 → Int32 → Option ((Nat → Int32) × (Nat → Int64) × (Nat → Int64))} {k29 : (Nat → Int32) → (Nat → Int64) → (Nat → Int64) → Int32 → Int32 → Int32 → Int32 → Option ((Nat → Int32) × (Nat → Int64) × (Nat → Int64))} {p h : Int} (p0 : 0 ≤ p) (p1 : p < S.c) (h0 : 0 ≤ h) (h1 : h < 10) (ho : hok S j h) (hk : ∀ le al be, Inv S m j ((p * 10 + (h + 1)) * 16) le al be → Ok (k29 le al be (I m) (I j) (I p) (I (h + 1))) Q) : ∀ (r n : Nat) (s : Int) (le : Nat → Int32) (al be : Nat → Int64), ((S.c : Int) - s).toNat = r → r < n → 0 ≤ s → s ≤ S.c → Inv S m j (((p * 10 + h) * 8 + s) * 2) le al be → Ok (m_SpeciesSolverModel_fill_84 F (I S.L) (I S.n) (I S.K) (B S.ab) (I S.c) gi on nu pi k12 k18 k29 n le al be (I m) (I j) (I p) (I h) (I 1) (I s)) Q
  | 0, n, s, le, al, be, e, hn, s0, s1, ht => by
    obtain ⟨k, rfl⟩ : ∃ k, n = k + 1 := ⟨n - 1, by omega⟩
    simp only [m_SpeciesSolverModel_fill_84, m_SpeciesSolverModel_fill_84b, m_SpeciesSolverModel_fill_142]
    simp (disch := omega) only [gd_I, nz_I, bd_S, gb_B, nar_B, I_add, I_sub, I_mul, I_neg, I_div, I_nat, I_lt, I_le, I_eq, B_0, B_1, L_0, L_1, L_2, L_3, L_4, L_5, L_6, L_7, L_8, L_9, L_10, L_11, L_12, L_13, L_14, L_15, L_16, L_17, L_24, L_31, L_45, L_80, L_127, L_200, L_640, L_1280, L_1000000000, T_0, T_1, T_2, T_3, T_4, T_5, T_6, T_7, T_8, T_9, T_10, T_11, T_12, T_13, T_14, T_15, T_16, T_17]
    rw [if_pos (by omega)]
    refine hk le al be (inv_skip ht (fun t v l1 l2 => ?_))
    obtain ⟨a1, a2, a3, a4, a5, _⟩ := v
    unfold rcode at l1 l2
    have x : 0 ≤ t.2.1 ∧ t.2.1 ≤ 9 := by
      by_cases e0 : j = 0
      · have := a4 e0; omega
      · have := a5 (by omega); omega
    omega
  | r + 1, n, s, le, al, be, e, hn, s0, s1, ht => by
    obtain ⟨k, rfl⟩ : ∃ k, n = k + 1 := ⟨n - 1, by omega⟩
    have l44 := last45 hw
    have ih := fun le al be h9 => r_f84 (k12 := k12) (k18 := k18) hw C hF hL hp hc m0 m1 hj p0 p1 h0 h1 ho hk r k (s + 1) le al be (by omega) (by omega) (by omega) (by omega) h9
    have e136 : ∀ le al be, m_SpeciesSolverModel_fill_136 F (I S.L) (I S.n) (I S.K) (B S.ab) (I S.c) gi on nu pi k12 k18 k29 (m_SpeciesSolverModel_fill_84 F (I S.L) (I S.n) (I S.K) (B S.ab) (I S.c) gi on nu pi k12 k18 k29 k) le al be (I m) (I j) (I p) (I h) (I 1) (I s) = m_SpeciesSolverModel_fill_84 F (I S.L) (I S.n) (I S.K) (B S.ab) (I S.c) gi on nu pi k12 k18 k29 k le al be (I m) (I j) (I p) (I h) (I 1) (I (s + 1)) := by
      intro le al be
      unfold m_SpeciesSolverModel_fill_136
      simp (disch := omega) only [gd_I, nz_I, bd_S, gb_B, nar_B, I_add, I_sub, I_mul, I_neg, I_div, I_nat, I_lt, I_le, I_eq, B_0, B_1, L_0, L_1, L_2, L_3, L_4, L_5, L_6, L_7, L_8, L_9, L_10, L_11, L_12, L_13, L_14, L_15, L_16, L_17, L_24, L_31, L_45, L_80, L_127, L_200, L_640, L_1280, L_1000000000, T_0, T_1, T_2, T_3, T_4, T_5, T_6, T_7, T_8, T_9, T_10, T_11, T_12, T_13, T_14, T_15, T_16, T_17]
    have e112 : (S.strong j = true → s = p) → Ok (m_SpeciesSolverModel_fill_112 F (I S.L) (I S.n) (I S.K) (B S.ab) (I S.c) gi on nu pi k12 k18 k29 (m_SpeciesSolverModel_fill_84 F (I S.L) (I S.n) (I S.K) (B S.ab) (I S.c) gi on nu pi k12 k18 k29 k) le al be (I m) (I j) (I p) (I h) (I 1) (I s)) Q := by
      intro hst
      have sc : s < S.c := by omega
      have v : ∀ u : Int, 0 ≤ u → u ≤ 1 → valid S j (p, h, s, u) := by
        intro u u0 u1
        refine ⟨⟨p0, p1⟩, ⟨s0, sc⟩, ⟨u0, u1⟩, fun e0 => ?_, fun e0 => ?_, hst⟩
        · rcases ho with ⟨_, o⟩ | ⟨o, _⟩
          · exact o
          · omega
        · rcases ho with ⟨o, _⟩ | ⟨_, o⟩
          · omega
          · exact o
      have i1 := inv_put hc ht (v 0 (by omega) (by omega)) (by unfold rcode; simp only; omega)
      have i2 := inv_put hc i1 (v 1 (by omega) (by omega)) (by unfold rcode; simp only)
      unfold m_SpeciesSolverModel_fill_112
      rw [show (0 : Int32) = I 0 from rfl, show (1 : Int32) = I 1 from rfl]
      rw [r_fillState hw C hF hL hp hc m0 m1 hj (v 0 (by omega) (by omega)) ht.2.1, bd_S]
      simp only
      rw [r_fillState hw C hF hL hp hc m0 m1 hj (v 1 (by omega) (by omega)) i1.2.1, bd_S]
      simp only
      rw [e136]
      refine ih _ _ _ ?_
      have e9 : ((p * 10 + h) * 8 + s) * 2 + 1 + 1 = ((p * 10 + h) * 8 + (s + 1)) * 2 := by omega
      rw [e9] at i2; exact i2
    simp only [m_SpeciesSolverModel_fill_84]
    unfold m_SpeciesSolverModel_fill_84b
    simp (disch := omega) only [gd_I, nz_I, bd_S, gb_B, nar_B, I_add, I_sub, I_mul, I_neg, I_div, I_nat, I_lt, I_le, I_eq, B_0, B_1, L_0, L_1, L_2, L_3, L_4, L_5, L_6, L_7, L_8, L_9, L_10, L_11, L_12, L_13, L_14, L_15, L_16, L_17, L_24, L_31, L_45, L_80, L_127, L_200, L_640, L_1280, L_1000000000, T_0, T_1, T_2, T_3, T_4, T_5, T_6, T_7, T_8, T_9, T_10, T_11, T_12, T_13, T_14, T_15, T_16, T_17, r_isStrong hw]
    rw [if_neg (by omega)]
    rw [if_neg (by decide)]
    cases hs : S.strong j with
    | false =>
      simp only [if_true]
      exact e112 (fun e0 => by rw [hs] at e0; cases e0)
    | true =>
      simp only [Bool.true_eq_false, if_false]
      refine Ok_ite (fun e0 => e112 (fun _ => e0)) (fun e0 => ?_)
      rw [e136]
      refine ih _ _ _ (inv_skip ht (fun t v l1 l2 => ?_))
      have := rcode_parts hc v s0 (by omega) h0 h1 p0 l1 (by omega)
      obtain ⟨_, _, _, _, _, v6⟩ := v
      have := v6 hs
      omega
theorem r_f79n (hw : WF S) (C : RS S nu on gi) (hF : 2000 ≤ F) (hL : 0 < S.L) (hp : PP S pi) (hc : S.c ≤ 8) {m : Int} {j : Nat} (m0 : -2 ≤ m) (m1 : m < 8) (hj : j < S.last) {Q : (Nat → Int32) × (Nat → Int64) × (Nat → Int64) → Prop} {k12 : (Nat → Int32) → (Nat → Int64) → (Nat → Int64) → Int32 → Int32 → Option ((Nat → Int32) × (Nat → Int64) × (Nat → Int64))} {k18 : (Nat → Int32) → (Nat → Int64) → (Nat → Int64) → Int32 → Int32 → Int32 → Option ((Nat → Int32) × (Nat → Int64) × (Nat → Int64))} {k29 : (Nat → Int32) → (Nat → Int64) → (Nat → Int64) → Int32 → Int32 → Int32 → Int32 → Option ((Nat → Int32) × (Nat → Int64) × (Nat → Int64))} {p h : Int} (p0 : 0 ≤ p) (p1 : p < S.c) (h0 : 0 ≤ h) (h1 : h < 10) (ho : ¬ hok S j h) (hk : ∀ le al be, Inv S m j ((p * 10 + (h + 1)) * 16) le al be → Ok (k29 le al be (I m) (I j) (I p) (I (h + 1))) Q) (le : Nat → Int32) (al be : Nat → Int64) (ht : Inv S m j ((p * 10 + h) * 16) le al be) : Ok (m_SpeciesSolverModel_fill_79 F (I S.L) (I S.n) (I S.K) (B S.ab) (I S.c) gi on nu pi k12 k18 k29 le al be (I m) (I j) (I p) (I h) (I 0)) Q := by
  obtain ⟨G, hG⟩ : ∃ G, F = G + 1 := ⟨F - 1, by omega⟩
  unfold m_SpeciesSolverModel_fill_79
  rw [show m_SpeciesSolverModel_fill_84 F (I S.L) (I S.n) (I S.K) (B S.ab) (I S.c) gi on nu pi k12 k18 k29 F le al be (I m) (I j) (I p) (I h) (I 0) (0 : Int32) = m_SpeciesSolverModel_fill_84 F (I S.L) (I S.n) (I S.K) (B S.ab) (I S.c) gi on nu pi k12 k18 k29 (G + 1) le al be (I m) (I j) (I p) (I h) (I 0) (I 0) from by rw [← hG]; rfl]
  simp only [m_SpeciesSolverModel_fill_84, m_SpeciesSolverModel_fill_84b, m_SpeciesSolverModel_fill_142]
  simp (disch := omega) only [gd_I, nz_I, bd_S, gb_B, nar_B, I_add, I_sub, I_mul, I_neg, I_div, I_nat, I_lt, I_le, I_eq, B_0, B_1, L_0, L_1, L_2, L_3, L_4, L_5, L_6, L_7, L_8, L_9, L_10, L_11, L_12, L_13, L_14, L_15, L_16, L_17, L_24, L_31, L_45, L_80, L_127, L_200, L_640, L_1280, L_1000000000, T_0, T_1, T_2, T_3, T_4, T_5, T_6, T_7, T_8, T_9, T_10, T_11, T_12, T_13, T_14, T_15, T_16, T_17]
  have hi : Inv S m j ((p * 10 + (h + 1)) * 16) le al be := by
    refine inv_skip ht (fun t v l1 l2 => ho ?_)
    have v9 := v
    obtain ⟨a1, a2, a3, a4, a5, _⟩ := v
    unfold rcode at l1 l2
    have x : 0 ≤ t.2.1 ∧ t.2.1 ≤ 9 := by
      by_cases e0 : j = 0
      · have := a4 e0; omega
      · have := a5 (by omega); omega
    have e1 : t.2.1 = h := by omega
    by_cases e0 : j = 0
    · left; exact ⟨e0, by rw [← e1]; exact a4 e0⟩
    · right; have := a5 (by omega); rw [e1] at this; exact ⟨by omega, this⟩
  refine Ok_ite (fun _ => hk le al be hi) (fun _ => ?_)
  simp only [if_true]
  exact hk le al be hi
theorem r_f79y (hw : WF S) (C : RS S nu on gi) (hF : 2000 ≤ F) (hL : 0 < S.L) (hp : PP S pi) (hc : S.c ≤ 8) {m : Int} {j : Nat} (m0 : -2 ≤ m) (m1 : m < 8) (hj : j < S.last) {Q : (Nat → Int32) × (Nat → Int64) × (Nat → Int64) → Prop} {k12 : (Nat → Int32) → (Nat → Int64) → (Nat → Int64) → Int32 → Int32 → Option ((Nat → Int32) × (Nat → Int64) × (Nat → Int64))} {k18 : (Nat → Int32) → (Nat → Int64) → (Nat → Int64) → Int32 → Int32 → Int32 → Option ((Nat → Int32) × (Nat → Int64) × (Nat → Int64))} {k29 : (Nat → Int32) → (Nat → Int64) → (Nat → Int64) → Int32 → Int32 → Int32 → Int32 → Option ((Nat → Int32) × (Nat → Int64) × (Nat → Int64))} {p h : Int} (p0 : 0 ≤ p) (p1 : p < S.c) (h0 : 0 ≤ h) (h1 : h < 10) (ho : hok S j h) (hk : ∀ le al be, Inv S m j ((p * 10 + (h + 1)) * 16) le al be → Ok (k29 le al be (I m) (I j) (I p) (I (h + 1))) Q) (le : Nat → Int32) (al be : Nat → Int64) (ht : Inv S m j ((p * 10 + h) * 16) le al be) : Ok (m_SpeciesSolverModel_fill_79 F (I S.L) (I S.n) (I S.K) (B S.ab) (I S.c) gi on nu pi k12 k18 k29 le al be (I m) (I j) (I p) (I h) (I 1)) Q := by
  unfold m_SpeciesSolverModel_fill_79
  rw [L_0]
  refine r_f84 hw C hF hL hp hc m0 m1 hj p0 p1 h0 h1 ho hk _ F 0 le al be rfl (by omega) (by omega) (by omega) ?_
  have e : ((p * 10 + h) * 8 + 0) * 2 = (p * 10 + h) * 16 := by omega
  rw [e]; exact ht
theorem r_f29 (hw : WF S) (C : RS S nu on gi) (hF : 2000 ≤ F) (hL : 0 < S.L) (hp : PP S pi) (hc : S.c ≤ 8) {m : Int} {j : Nat} (m0 : -2 ≤ m) (m1 : m < 8) (hj : j < S.last) {Q : (Nat → Int32) × (Nat → Int64) × (Nat → Int64) → Prop} {k12 : (Nat → Int32) → (Nat → Int64) → (Nat → Int64) → Int32 → Int32 → Option ((Nat → Int32) × (Nat → Int64) × (Nat → Int64))} {k18 : (Nat → Int32) → (Nat → Int64) → (Nat → Int64) → Int32 → Int32 → Int32 → Option ((Nat → Int32) × (Nat → Int64) × (Nat → Int64))} {p : Int} (p0 : 0 ≤ p) (p1 : p < S.c) (hk : ∀ le al be, Inv S m j ((p + 1) * 160) le al be → Ok (k18 le al be (I m) (I j) (I (p + 1))) Q) : ∀ (r n : Nat) (h : Int) (le : Nat → Int32) (al be : Nat → Int64), (10 - h).toNat = r → r < n → 0 ≤ h → h ≤ 10 → Inv S m j ((p * 10 + h) * 16) le al be → Ok (m_SpeciesSolverModel_fill_29 F (I S.L) (I S.n) (I S.K) (B S.ab) (I S.c) gi on nu pi k12 k18 n le al be (I m) (I j) (I p) (I h)) Q
  | 0, n, h, le, al, be, e, hn, h0, h1, ht => by
    obtain ⟨k, rfl⟩ : ∃ k, n = k + 1 := ⟨n - 1, by omega⟩
    have l44 := last45 hw
    simp only [m_SpeciesSolverModel_fill_29, m_SpeciesSolverModel_fill_29b]
    simp (disch := omega) only [gd_I, nz_I, bd_S, gb_B, nar_B, I_add, I_sub, I_mul, I_neg, I_div, I_nat, I_lt, I_le, I_eq, B_0, B_1, L_0, L_1, L_2, L_3, L_4, L_5, L_6, L_7, L_8, L_9, L_10, L_11, L_12, L_13, L_14, L_15, L_16, L_17, L_24, L_31, L_45, L_80, L_127, L_200, L_640, L_1280, L_1000000000, T_0, T_1, T_2, T_3, T_4, T_5, T_6, T_7, T_8, T_9, T_10, T_11, T_12, T_13, T_14, T_15, T_16, T_17]
    rw [if_pos (by omega)]
    refine hk le al be ?_
    have e2 : (p * 10 + h) * 16 = (p + 1) * 160 := by omega
    rw [e2] at ht; exact ht
  | r + 1, n, h, le, al, be, e, hn, h0, h1, ht => by
    obtain ⟨k, rfl⟩ : ∃ k, n = k + 1 := ⟨n - 1, by omega⟩
    have l44 := last45 hw
    have ih := fun le al be h9 => r_f29 (k12 := k12) hw C hF hL hp hc m0 m1 hj p0 p1 hk r k (h + 1) le al be (by omega) (by omega) (by omega) (by omega) h9
    have y := fun ho => r_f79y hw C hF hL hp hc m0 m1 hj (k12 := k12) (k18 := k18) p0 p1 h0 (by omega) ho ih le al be ht
    have z := fun ho => r_f79n hw C hF hL hp hc m0 m1 hj (k12 := k12) (k18 := k18) p0 p1 h0 (by omega) ho ih le al be ht
    simp only [m_SpeciesSolverModel_fill_29]
    unfold m_SpeciesSolverModel_fill_29b m_SpeciesSolverModel_fill_74 m_SpeciesSolverModel_fill_78
    simp (disch := omega) only [gd_I, nz_I, bd_S, gb_B, nar_B, I_add, I_sub, I_mul, I_neg, I_div, I_nat, I_lt, I_le, I_eq, B_0, B_1, L_0, L_1, L_2, L_3, L_4, L_5, L_6, L_7, L_8, L_9, L_10, L_11, L_12, L_13, L_14, L_15, L_16, L_17, L_24, L_31, L_45, L_80, L_127, L_200, L_640, L_1280, L_1000000000, T_0, T_1, T_2, T_3, T_4, T_5, T_6, T_7, T_8, T_9, T_10, T_11, T_12, T_13, T_14, T_15, T_16, T_17]
    rw [if_neg (by omega)]
    refine Ok_ite (fun e0 => ?_) (fun e0 => ?_)
    · refine Ok_ite (fun e1 => y (Or.inl ⟨by omega, e1⟩)) (fun e1 => z (fun o => ?_))
      rcases o with ⟨_, o⟩ | ⟨o, _⟩ <;> omega
    · refine Ok_ite (fun e1 => z (fun o => ?_)) (fun e1 => ?_)
      · rcases o with ⟨o, _⟩ | ⟨_, o, _⟩ <;> omega
      · refine Ok_ite (fun e2 => y (Or.inr ⟨by omega, by omega, Or.inr e2⟩)) (fun e2 => ?_)
        refine Ok_ite (fun e3 => z (fun o => ?_)) (fun e3 => y (Or.inr ⟨by omega, by omega, Or.inl (by omega)⟩))
        rcases o with ⟨o, _⟩ | ⟨_, _, o | o⟩ <;> omega
theorem r_f18 (hw : WF S) (C : RS S nu on gi) (hF : 2000 ≤ F) (hL : 0 < S.L) (hp : PP S pi) (hc : S.c ≤ 8) {m : Int} {j : Nat} (m0 : -2 ≤ m) (m1 : m < 8) (hj : j < S.last) {Q : (Nat → Int32) × (Nat → Int64) × (Nat → Int64) → Prop} {k12 : (Nat → Int32) → (Nat → Int64) → (Nat → Int64) → Int32 → Int32 → Option ((Nat → Int32) × (Nat → Int64) × (Nat → Int64))} (hk : ∀ le al be, Inv S m j 1280 le al be → Ok (k12 le al be (I m) (I ((j : Int) - 1))) Q) : ∀ (r n : Nat) (p : Int) (le : Nat → Int32) (al be : Nat → Int64), ((S.c : Int) - p).toNat = r → r < n → 0 ≤ p → p ≤ S.c → Inv S m j (p * 160) le al be → Ok (m_SpeciesSolverModel_fill_18 F (I S.L) (I S.n) (I S.K) (B S.ab) (I S.c) gi on nu pi k12 n le al be (I m) (I j) (I p)) Q
  | 0, n, p, le, al, be, e, hn, p0, p1, ht => by
    obtain ⟨k, rfl⟩ : ∃ k, n = k + 1 := ⟨n - 1, by omega⟩
    simp only [m_SpeciesSolverModel_fill_18, m_SpeciesSolverModel_fill_18b]
    simp (disch := omega) only [gd_I, nz_I, bd_S, gb_B, nar_B, I_add, I_sub, I_mul, I_neg, I_div, I_nat, I_lt, I_le, I_eq, B_0, B_1, L_0, L_1, L_2, L_3, L_4, L_5, L_6, L_7, L_8, L_9, L_10, L_11, L_12, L_13, L_14, L_15, L_16, L_17, L_24, L_31, L_45, L_80, L_127, L_200, L_640, L_1280, L_1000000000, T_0, T_1, T_2, T_3, T_4, T_5, T_6, T_7, T_8, T_9, T_10, T_11, T_12, T_13, T_14, T_15, T_16, T_17]
    rw [if_pos (by omega)]
    refine hk le al be (inv_skip ht (fun t v l1 l2 => ?_))
    obtain ⟨a1, a2, a3, a4, a5, _⟩ := v
    unfold rcode at l1 l2
    have x : 0 ≤ t.2.1 ∧ t.2.1 ≤ 9 := by
      by_cases e0 : j = 0
      · have := a4 e0; omega
      · have := a5 (by omega); omega
    omega
  | r + 1, n, p, le, al, be, e, hn, p0, p1, ht => by
    obtain ⟨k, rfl⟩ : ∃ k, n = k + 1 := ⟨n - 1, by omega⟩
    simp only [m_SpeciesSolverModel_fill_18, m_SpeciesSolverModel_fill_18b]
    simp (disch := omega) only [gd_I, nz_I, bd_S, gb_B, nar_B, I_add, I_sub, I_mul, I_neg, I_div, I_nat, I_lt, I_le, I_eq, B_0, B_1, L_0, L_1, L_2, L_3, L_4, L_5, L_6, L_7, L_8, L_9, L_10, L_11, L_12, L_13, L_14, L_15, L_16, L_17, L_24, L_31, L_45, L_80, L_127, L_200, L_640, L_1280, L_1000000000, T_0, T_1, T_2, T_3, T_4, T_5, T_6, T_7, T_8, T_9, T_10, T_11, T_12, T_13, T_14, T_15, T_16, T_17]
    rw [if_neg (by omega)]
    have e2 : (p * 10 + 0) * 16 = p * 160 := by omega
    refine r_f29 hw C hF hL hp hc m0 m1 hj p0 (by omega) (fun le2 al2 be2 h9 => ?_) _ F 0 le al be rfl (by omega) (by omega) (by omega) (by rw [e2]; exact ht)
    exact r_f18 hw C hF hL hp hc m0 m1 hj hk r k (p + 1) le2 al2 be2 (by omega) (by omega) (by omega) (by omega) h9
def Done (S : Su) (m : Int) (le : Nat → Int32) (al be : Nat → Int64) : Prop := (∀ i, i ≤ S.last → LE S m i le) ∧ LY S m 0 le al be 1280
theorem r_f12 (hw : WF S) (C : RS S nu on gi) (hF : 2000 ≤ F) (hL : 0 < S.L) (hp : PP S pi) (hc : S.c ≤ 8) {m : Int} (m0 : -2 ≤ m) (m1 : m < 8) : ∀ (j n : Nat) (le : Nat → Int32) (al be : Nat → Int64), j < n → j ≤ S.last → (∀ i, j ≤ i → i ≤ S.last → LE S m i le) → LY S m j le al be 1280 → Ok (m_SpeciesSolverModel_fill_12 F (I S.L) (I S.n) (I S.K) (B S.ab) (I S.c) gi on nu pi n le al be (I m) (I ((j : Int) - 1))) (fun u => Done S m u.1 u.2.1 u.2.2)
  | 0, n, le, al, be, hn, hj, h1, h2 => by
    obtain ⟨k, rfl⟩ : ∃ k, n = k + 1 := ⟨n - 1, by omega⟩
    simp only [m_SpeciesSolverModel_fill_12, m_SpeciesSolverModel_fill_12b]
    simp (disch := omega) only [gd_I, nz_I, bd_S, gb_B, nar_B, I_add, I_sub, I_mul, I_neg, I_div, I_nat, I_lt, I_le, I_eq, B_0, B_1, L_0, L_1, L_2, L_3, L_4, L_5, L_6, L_7, L_8, L_9, L_10, L_11, L_12, L_13, L_14, L_15, L_16, L_17, L_24, L_31, L_45, L_80, L_127, L_200, L_640, L_1280, L_1000000000, T_0, T_1, T_2, T_3, T_4, T_5, T_6, T_7, T_8, T_9, T_10, T_11, T_12, T_13, T_14, T_15, T_16, T_17]
    rw [if_pos (by omega)]
    exact Ok_some ⟨fun i hi => h1 i (by omega) hi, h2⟩
  | j + 1, n, le, al, be, hn, hj, h1, h2 => by
    obtain ⟨k, rfl⟩ : ∃ k, n = k + 1 := ⟨n - 1, by omega⟩
    have l44 := last45 hw
    have e : ((j + 1 : Nat) : Int) - 1 = (j : Int) := by omega
    rw [e]
    simp only [m_SpeciesSolverModel_fill_12, m_SpeciesSolverModel_fill_12b]
    simp (disch := omega) only [gd_I, nz_I, bd_S, gb_B, nar_B, I_add, I_sub, I_mul, I_neg, I_div, I_nat, I_lt, I_le, I_eq, B_0, B_1, L_0, L_1, L_2, L_3, L_4, L_5, L_6, L_7, L_8, L_9, L_10, L_11, L_12, L_13, L_14, L_15, L_16, L_17, L_24, L_31, L_45, L_80, L_127, L_200, L_640, L_1280, L_1000000000, T_0, T_1, T_2, T_3, T_4, T_5, T_6, T_7, T_8, T_9, T_10, T_11, T_12, T_13, T_14, T_15, T_16, T_17]
    rw [if_neg (by omega)]
    refine r_f18 hw C hF hL hp hc m0 m1 (by omega) (fun le2 al2 be2 h9 => ?_) _ F 0 le al be rfl (by omega) (by omega) (by omega) ⟨fun i hi hi2 => h1 i (by omega) hi2, h2, fun t v l => ?_⟩
    · obtain ⟨i1, i2, i3⟩ := h9
      refine r_f12 hw C hF hL hp hc m0 m1 j k le2 al2 be2 (by omega) (by omega) (fun i hi hi2 => ?_) i3
      by_cases e2 : i = j
      · subst e2; intro t v; exact (i3 t v (rcode_r hc v).2).1
      · exact i1 i (by omega) hi2
    · have := rcode_r hc v; omega
theorem r_fill (hw : WF S) (C : RS S nu on gi) (hF : 2000 ≤ F) (hL : 0 < S.L) (hp : PP S pi) (hc : S.c ≤ 8) {m : Int} (m0 : -2 ≤ m) (m1 : m < 8) (le : Nat → Int32) (al be : Nat → Int64) : Ok (m_SpeciesSolverModel_fill F (I S.L) (I S.n) (I S.K) (B S.ab) (I S.c) gi on nu pi le al be (I m)) (fun u => Done S m u.1 u.2.1 u.2.2) := by
  have l44 := last45 hw
  have hN2 := WF_N2 hw hL
  have hl : (S.last : Int) = S.N - 1 := by unfold Su.last; omega
  have key : ∀ (le : Nat → Int32) (al be : Nat → Int64), (∀ y : Int, 0 ≤ y → y < 1280 → le (1280 * (S.last : Int) + y).toNat = I (if m < 0 ∨ y % 2 = 1 then 0 else 1000000000) ∧ al (par S.last + y).toNat = (if m < 0 ∨ y % 2 = 1 then 1 else 0) ∧ be (par S.last + y).toNat = (if m < 0 ∨ y % 2 = 1 then 1 else 0)) → LY S m S.last le al be 1280 := by
    intro le al be hy t v l
    have rt := rcode_r hc v
    have hy2 := hy (rcode t) rt.1 rt.2
    have e2 : rcode t % 2 = t.2.2.2 := by
      obtain ⟨_, _, a3, _⟩ := v
      unfold rcode; omega
    rw [e2] at hy2
    rw [rW_last]
    unfold rfin
    by_cases e3 : m < 0 ∨ t.2.2.2 = 1
    · rw [if_pos e3, if_pos e3] at hy2; rw [if_pos e3]; exact hy2
    · rw [if_neg e3, if_neg e3] at hy2; rw [if_neg e3]; exact hy2
  unfold m_SpeciesSolverModel_fill m_SpeciesSolverModel_fillLast
  simp (disch := omega) only [gd_I, nz_I, bd_S, gb_B, nar_B, I_add, I_sub, I_mul, I_neg, I_div, I_nat, I_lt, I_le, I_eq, B_0, B_1, L_0, L_1, L_2, L_3, L_4, L_5, L_6, L_7, L_8, L_9, L_10, L_11, L_12, L_13, L_14, L_15, L_16, L_17, L_24, L_31, L_45, L_80, L_127, L_200, L_640, L_1280, L_1000000000, T_0, T_1, T_2, T_3, T_4, T_5, T_6, T_7, T_8, T_9, T_10, T_11, T_12, T_13, T_14, T_15, T_16, T_17, r_size hw]
  rw [← hl]
  refine Ok_bd (r_fillLast hw hF hL hc m m0 m1 _ F 0 le al be rfl (by omega) (by omega) (by omega) (fun y a b => by omega)) ?_
  rintro ⟨le2, al2, be2⟩ hy
  have ly := key le2 al2 be2 hy
  have e : S.N - 2 = (S.last : Int) - 1 := by omega
  rw [e]
  refine r_f12 hw C hF hL hp hc m0 m1 S.last F le2 al2 be2 (by omega) (by omega) (fun i hi hi2 => ?_) ly
  have e2 : i = S.last := by omega
  subst e2
  intro t v; exact (ly t v (rcode_r hc v).2).1
end
