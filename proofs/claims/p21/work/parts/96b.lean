/-! pure part: how far one can come: the reference -/
def hcode (t : RT) : Int := (t.1 * 10 + t.2.1) * 8 + t.2.2.1
def par2 (j : Int) : Int := (j - j / 2 * 2) * 640
def Su.HS (S : Su) : Nat → RT → Prop
  | 0, t => ∃ q, q < S.c ∧ S.nbad 0 (S.P q) = false ∧ t = rt0 (-1) q
  | j + 1, t => ∃ t', S.HS j t' ∧ ∃ q, q < S.c ∧ S.rmay ((j + 1 : Nat) : Int) t'.1 t'.2.1 t'.2.2.1 q false = true ∧ t = S.rnx (-1) (j + 1) t' q
theorem HS_valid {S : Su} (hw : WF S) (hc : S.c ≤ 8) : ∀ (j : Nat) (t : RT), S.HS j t → valid S j t ∧ t.2.2.2 = 0
  | 0, t, h => by
    obtain ⟨q, h1, _, h3⟩ := h
    subst h3
    have eu : rused (-1) 0 q = 0 := by unfold rused; rw [if_neg (by omega)]
    exact ⟨rt0_valid h1 (by rw [eu]; omega), eu⟩
  | j + 1, t, h => by
    obtain ⟨t', h1, q, h2, _, h4⟩ := h
    obtain ⟨v, u⟩ := HS_valid hw hc j t' h1
    subst h4
    have eu : rused (-1) t'.2.2.2 q = t'.2.2.2 := by unfold rused; rw [if_neg (by omega)]
    exact ⟨valid_next hw hc (Or.inr (by omega)) v h2 (by rw [eu, u]; omega), by show rused (-1) t'.2.2.2 q = 0; rw [eu]; exact u⟩
theorem hcode_r {S : Su} {j : Nat} {t : RT} (hc : S.c ≤ 8) (h : valid S j t) : (0 ≤ hcode t ∧ hcode t < 640) ∧ hcode t / 80 = t.1 ∧ hcode t / 8 - hcode t / 8 / 10 * 10 = t.2.1 ∧ hcode t - hcode t / 8 * 8 = t.2.2.1 := by
  obtain ⟨a1, a2, _, a4, a5, _⟩ := h
  have x : 0 ≤ t.2.1 ∧ t.2.1 ≤ 9 := by
    by_cases e0 : j = 0
    · have := a4 e0; omega
    · have := a5 (by omega); omega
  unfold hcode
  generalize t.1 = p at *; generalize t.2.1 = h at *; generalize t.2.2.1 = s at *
  have e1 : ((p * 10 + h) * 8 + s) / 8 = p * 10 + h := by omega
  refine ⟨⟨by omega, by omega⟩, by omega, by rw [e1]; omega, by omega⟩
/-- the reached states of a level in the array -/
def RB (ar : Nat → Int32) (base : Int) (b : Int → Bool) : Prop := ∀ y, 0 ≤ y → y < 640 → ar (base + y).toNat = B (b y)
def AnyB (an : Bool) (b : Int → Bool) : Prop := an = true ↔ ∃ y, 0 ≤ y ∧ y < 640 ∧ b y = true
theorem par2_r {j : Int} (h : 0 ≤ j) : 0 ≤ par2 j ∧ par2 j ≤ 640 := by unfold par2; omega
theorem par2_ne {j : Int} (h : 0 ≤ j) {a b : Int} (a0 : 0 ≤ a) (a1 : a < 640) (b0 : 0 ≤ b) (b1 : b < 640) : (par2 j + a).toNat ≠ (par2 (j + 1) + b).toNat := by unfold par2; omega
section
variable {S : Su} {nu on gi pi : Nat → Int32} {F : Nat}
theorem r_go98 (hw : WF S) (C : RS S nu on gi) (hF : 2000 ≤ F) (hL : 0 < S.L) (hp : PP S pi) (hc : S.c ≤ 8) {Q : Int32 × (Nat → Int32) → Prop} {k51 : (Nat → Int32) → Int32 → Int32 → Int32 → Int32 → Int32 → Option (Int32 × (Nat → Int32))} {j : Nat} {b0 : Int → Bool} {x : Int} {p h s : Int} (hj : j < S.last) (hv : valid S j (p, h, s, 0)) (Pre : Int → Prop) (hk : ∀ ar b (an : Bool), RB ar (par2 j) b0 → RB ar (par2 (j + 1)) b → (∀ y, 0 ≤ y → y < 640 → (b y = true ↔ Pre y ∨ ∃ q, q < S.c ∧ S.rmay ((j + 1 : Nat) : Int) p h s q false = true ∧ y = hcode (S.rnx (-1) (j + 1) (p, h, s, 0) q))) → AnyB an b → Ok (k51 ar (I j) (I (par2 j)) (I (par2 (j + 1))) (B an) (I (x + 1))) Q) : ∀ (r n q : Nat) (ar : Nat → Int32) (b : Int → Bool) (an : Bool), S.c - q = r → r < n → q ≤ S.c → RB ar (par2 j) b0 → RB ar (par2 (j + 1)) b → (∀ y, 0 ≤ y → y < 640 → (b y = true ↔ Pre y ∨ ∃ q', q' < q ∧ S.rmay ((j + 1 : Nat) : Int) p h s q' false = true ∧ y = hcode (S.rnx (-1) (j + 1) (p, h, s, 0) q'))) → AnyB an b → Ok (m_SpeciesSolverModel_goOn_98 F (I S.L) (I S.n) (I S.K) (B S.ab) (I S.c) gi on nu pi k51 n ar (I j) (I (par2 j)) (I (par2 (j + 1))) (B an) (I x) (I p) (I h) (I s) (I q)) Q
  | 0, n, q, ar, b, an, e, hn, hq, h1, h2, h3, h4 => by
    obtain ⟨k, rfl⟩ : ∃ k, n = k + 1 := ⟨n - 1, by omega⟩
    have eq : q = S.c := by omega
    subst eq
    simp only [m_SpeciesSolverModel_goOn_98, m_SpeciesSolverModel_goOn_98b, m_SpeciesSolverModel_goOn_175]
    rw [if_pos (by rw [I_le (by omega) (by omega) (by omega) (by omega)]; omega), L_1, I_add]
    exact hk ar b an h1 h2 h3 h4
  | r + 1, n, q, ar, b, an, e, hn, hq, h1, h2, h3, h4 => by
    obtain ⟨k, rfl⟩ : ∃ k, n = k + 1 := ⟨n - 1, by omega⟩
    have hN := WF_N hw; have hN2 := WF_N2 hw hL; have l44 := last45 hw; have hl := last_N hN2
    have ej : ((j + 1 : Nat) : Int) = (j : Int) + 1 := by omega
    have eq1 : (q : Int) + 1 = ((q + 1 : Nat) : Int) := by omega
    have hv2 := hv
    obtain ⟨⟨p0, p1⟩, ⟨s0, s1⟩, u9, h4', h5, h6⟩ := hv
    clear u9
    simp only at p0 p1 s0 s1 h4' h5 h6
    have hh : 0 ≤ h ∧ (h ≤ S.c ∨ h = 9) := by
      by_cases e : j = 0
      · have := h4' e; omega
      · have := h5 (by omega); omega
    have hmf := r_mayFollow hw C hF hL hp hc (lt := false) (j := (j : Int) + 1) (q := q) (by omega) (by omega) p0 p1 s0 s1 (by omega) (by omega) hh.1 hh.2
    rw [show B false = I 0 from rfl] at hmf
    have ih := fun ar b an g1 g2 g3 g4 => r_go98 hw C hF hL hp hc hj hv2 Pre hk r k (q + 1) ar b an (by omega) (by omega) (by omega) g1 g2 g3 g4
    have e169 : ∀ ar an, m_SpeciesSolverModel_goOn_169 F (I S.L) (I S.n) (I S.K) (B S.ab) (I S.c) gi on nu pi k51 (m_SpeciesSolverModel_goOn_98 F (I S.L) (I S.n) (I S.K) (B S.ab) (I S.c) gi on nu pi k51 k) ar (I j) (I (par2 j)) (I (par2 (j + 1))) an (I x) (I p) (I h) (I s) (I q) = m_SpeciesSolverModel_goOn_98 F (I S.L) (I S.n) (I S.K) (B S.ab) (I S.c) gi on nu pi k51 k ar (I j) (I (par2 j)) (I (par2 (j + 1))) an (I x) (I p) (I h) (I s) (I ((q + 1 : Nat) : Int)) := by
      intro ar an
      unfold m_SpeciesSolverModel_goOn_169
      simp (disch := omega) only [gd_I, nz_I, bd_S, gb_B, nar_B, I_add, I_sub, I_mul, I_neg, I_div, I_nat, I_lt, I_le, I_eq, B_0, B_1, L_0, L_1, L_2, L_3, L_4, L_5, L_6, L_7, L_8, L_9, L_10, L_11, L_12, L_13, L_14, L_15, L_16, L_17, L_24, L_31, L_45, L_80, L_127, L_200, L_640, L_1280, L_1000000000, T_0, T_1, T_2, T_3, T_4, T_5, T_6, T_7, T_8, T_9, T_10, T_11, T_12, T_13, T_14, T_15, T_16, T_17, eq1]
    simp only [m_SpeciesSolverModel_goOn_98, m_SpeciesSolverModel_goOn_98b]
    simp (disch := omega) only [gd_I, nz_I, bd_S, gb_B, nar_B, I_add, I_sub, I_mul, I_neg, I_div, I_nat, I_lt, I_le, I_eq, B_0, B_1, L_0, L_1, L_2, L_3, L_4, L_5, L_6, L_7, L_8, L_9, L_10, L_11, L_12, L_13, L_14, L_15, L_16, L_17, L_24, L_31, L_45, L_80, L_127, L_200, L_640, L_1280, L_1000000000, T_0, T_1, T_2, T_3, T_4, T_5, T_6, T_7, T_8, T_9, T_10, T_11, T_12, T_13, T_14, T_15, T_16, T_17, hmf]
    rw [if_neg (by omega)]
    cases hmay : S.rmay ((j : Int) + 1) p h s q false with
    | false =>
      simp only [if_true]
      rw [e169]
      refine ih ar b an h1 h2 (fun y y0 y1 => ?_) h4
      rw [h3 y y0 y1]
      constructor
      · rintro (g | ⟨q', g1, g2⟩)
        · exact Or.inl g
        · exact Or.inr ⟨q', by omega, g2⟩
      · rintro (g | ⟨q', g1, g2, g3⟩)
        · exact Or.inl g
        · refine Or.inr ⟨q', ?_, g2, g3⟩
          by_cases e9 : q' = q
          · subst e9; rw [ej, hmay] at g2; cases g2
          · omega
    | true =>
      simp only [Bool.true_eq_false, if_false]
      have eu : rused (-1) 0 q = 0 := by unfold rused; rw [if_neg (by omega)]
      have vn := valid_next hw (m := -1) hc (Or.inr (by simp)) hv2 (by omega : q < S.c) (by simp only; rw [eu]; omega)
      obtain ⟨⟨c0, c1⟩, _⟩ := hcode_r hc vn
      have pj := par2_r (by omega : 0 ≤ (j : Int) + 1)
      have ecode : ((q : Int) * 10 + rhow p h q) * 8 + (if S.strong ((j : Int) + 1) then (q : Int) else s) = hcode (S.rnx (-1) (j + 1) (p, h, s, 0) q) := by unfold hcode Su.rnx; simp only [ej]
      have e160 : Ok (m_SpeciesSolverModel_goOn_160 F (I S.L) (I S.n) (I S.K) (B S.ab) (I S.c) gi on nu pi k51 (m_SpeciesSolverModel_goOn_98 F (I S.L) (I S.n) (I S.K) (B S.ab) (I S.c) gi on nu pi k51 k) ar (I j) (I (par2 j)) (I (par2 (j + 1))) (I x) (I p) (I h) (I s) (I q) (I (par2 (j + 1))) (I q) (I (rhow p h q)) (I (if S.strong ((j : Int) + 1) then (q : Int) else s))) Q := by
        unfold m_SpeciesSolverModel_goOn_160 m_SpeciesSolverModel_halfState
        have z : I q * 10 + I (rhow p h q) = I ((q : Int) * 10 + rhow p h q) := by rw [L_10, I_mul, I_add]
        rw [z]
        rw [show ((I ((q : Int) * 10 + rhow p h q) * 8) + I (if S.strong ((j : Int) + 1) then (q : Int) else s)) = I (hcode (S.rnx (-1) (j + 1) (p, h, s, 0) q)) from by rw [L_8, I_mul, I_add, ecode], bd_S]
        rw [I_add, gd_I (by omega) (by omega) (by omega), I_nat (by omega) (by omega), show (1 : Int32) = B true from rfl, nar_B, e169]
        refine ih _ (fun y => if y = hcode (S.rnx (-1) (j + 1) (p, h, s, 0) q) then true else b y) true (fun y y0 y1 => ?_) (fun y y0 y1 => ?_) (fun y y0 y1 => ?_) ?_
        · have pn := par2_ne (j := j) (by omega) y0 y1 c0 c1
          rw [upd_ne _ _ pn]; exact h1 y y0 y1
        · by_cases e9 : y = hcode (S.rnx (-1) (j + 1) (p, h, s, 0) q)
          · rw [e9, upd_at]; simp
          · rw [upd_ne _ _ (by omega)]; simp only; rw [if_neg e9]; exact h2 y y0 y1
        · constructor
          · intro g
            by_cases e9 : y = hcode (S.rnx (-1) (j + 1) (p, h, s, 0) q)
            · exact Or.inr ⟨q, by omega, by rw [ej]; exact hmay, e9⟩
            · rw [if_neg e9] at g
              rcases (h3 y y0 y1).mp g with g | ⟨q', g1, g2⟩
              · exact Or.inl g
              · exact Or.inr ⟨q', by omega, g2⟩
          · intro g
            by_cases e9 : y = hcode (S.rnx (-1) (j + 1) (p, h, s, 0) q)
            · rw [if_pos e9]
            · rw [if_neg e9]
              refine (h3 y y0 y1).mpr ?_
              rcases g with g | ⟨q', g1, g2, g3⟩
              · exact Or.inl g
              · refine Or.inr ⟨q', ?_, g2, g3⟩
                by_cases e8 : q' = q
                · subst e8; exact absurd g3 e9
                · omega
        · constructor
          · intro _; exact ⟨_, c0, c1, by simp⟩
          · intro _; rfl
      simp (disch := omega) only [gd_I, nz_I, bd_S, gb_B, nar_B, I_add, I_sub, I_mul, I_neg, I_div, I_nat, I_lt, I_le, I_eq, B_0, B_1, L_0, L_1, L_2, L_3, L_4, L_5, L_6, L_7, L_8, L_9, L_10, L_11, L_12, L_13, L_14, L_15, L_16, L_17, L_24, L_31, L_45, L_80, L_127, L_200, L_640, L_1280, L_1000000000, T_0, T_1, T_2, T_3, T_4, T_5, T_6, T_7, T_8, T_9, T_10, T_11, T_12, T_13, T_14, T_15, T_16, T_17, r_nextHow, r_isStrong hw]
      cases hs : S.strong ((j : Int) + 1) with
      | true => rw [hs] at e160; simp only [Bool.true_eq_false, if_false, if_true] at e160 ⊢; exact e160
      | false => rw [hs] at e160; simp only [Bool.false_eq_true, if_false, if_true] at e160 ⊢; exact e160
end
