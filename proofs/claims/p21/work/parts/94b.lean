/-! pure part: the reference's fill -/
theorem updL_at (f : Nat → Int64) (k : Nat) (x : Int64) : vp_updL f k x k = x := by unfold vp_updL; rw [if_pos rfl]
theorem updL_ne (f : Nat → Int64) {k j : Nat} (x : Int64) (h : j ≠ k) : vp_updL f k x j = f j := by unfold vp_updL; rw [if_neg h]
def LE (S : Su) (m : Int) (j : Nat) (le : Nat → Int32) : Prop := ∀ t, valid S j t → le (1280 * (j : Int) + rcode t).toNat = I (cI (S.rW m j t).1)
def Inv (S : Su) (m : Int) (j : Nat) (X : Int) (le : Nat → Int32) (al be : Nat → Int64) : Prop := (∀ i, j < i → i ≤ S.last → LE S m i le) ∧ LY S m (j + 1) le al be 1280 ∧ LY S m j le al be X
theorem rcode_inj {S : Su} {j : Nat} {t t2 : RT} (hc : S.c ≤ 8) (h : valid S j t) (h2 : valid S j t2) (e : rcode t = rcode t2) : t = t2 := by
  obtain ⟨p, hh, s, u⟩ := t
  obtain ⟨p2, hh2, s2, u2⟩ := t2
  obtain ⟨a1, a2, a3, a4, a5, _⟩ := h
  obtain ⟨b1, b2, b3, b4, b5, _⟩ := h2
  unfold rcode at e
  simp only at a1 a2 a3 a4 a5 b1 b2 b3 b4 b5 e
  have x : 0 ≤ hh ∧ hh ≤ 9 := by
    by_cases e0 : j = 0
    · have := a4 e0; omega
    · have := a5 (by omega); omega
  have y : 0 ≤ hh2 ∧ hh2 ≤ 9 := by
    by_cases e0 : j = 0
    · have := b4 e0; omega
    · have := b5 (by omega); omega
  have e1 : p = p2 := by omega
  have e2 : hh = hh2 := by omega
  have e3 : s = s2 := by omega
  have e4 : u = u2 := by omega
  subst e1; subst e2; subst e3; subst e4; rfl
theorem par_ne {j : Int} (h : 0 ≤ j) {a b : Int} (a0 : 0 ≤ a) (a1 : a < 1280) (b0 : 0 ≤ b) (b1 : b < 1280) : (par (j + 1) + a).toNat ≠ (par j + b).toNat := by unfold par; omega
theorem inv_put {S : Su} {m : Int} {j : Nat} {X : Int} {le : Nat → Int32} {al be : Nat → Int64} {t : RT} (hc : S.c ≤ 8) (I0 : Inv S m j X le al be) (hv : valid S j t) (hX : rcode t = X) : Inv S m j (X + 1) (upd le (1280 * (j : Int) + rcode t).toNat (I (cI (S.rW m j t).1))) (vp_updL al (par j + rcode t).toNat (S.rW m j t).2.1) (vp_updL be (par j + rcode t).toNat (S.rW m j t).2.2.1) := by
  obtain ⟨i1, i2, i3⟩ := I0
  have rt := rcode_r hc hv
  refine ⟨fun i hi hi2 t2 v2 => ?_, fun t2 v2 l2 => ?_, fun t2 v2 l2 => ?_⟩
  · have r2 := rcode_r hc v2
    rw [upd_ne _ _ (by omega)]
    exact i1 i hi hi2 t2 v2
  · have r2 := rcode_r hc v2
    have pn := par_ne (j := j) (by omega) r2.1 r2.2 rt.1 rt.2
    have e : ((j + 1 : Nat) : Int) = (j : Int) + 1 := by omega
    have := i2 t2 v2 l2
    rw [e] at this ⊢
    rw [upd_ne _ _ (by omega), updL_ne _ _ pn, updL_ne _ _ pn]
    exact this
  · have r2 := rcode_r hc v2
    by_cases e : rcode t2 = rcode t
    · have e2 := rcode_inj hc v2 hv e
      subst e2
      exact ⟨upd_at _ _ _, updL_at _ _ _, updL_at _ _ _⟩
    · have pj := par_r (by omega : 0 ≤ (j : Int))
      rw [upd_ne _ _ (by omega), updL_ne _ _ (by omega), updL_ne _ _ (by omega)]
      exact i3 t2 v2 (by omega)
theorem inv_skip {S : Su} {m : Int} {j : Nat} {X Y : Int} {le : Nat → Int32} {al be : Nat → Int64} (I0 : Inv S m j X le al be) (h : ∀ t, valid S j t → X ≤ rcode t → rcode t < Y → False) : Inv S m j Y le al be := by
  obtain ⟨i1, i2, i3⟩ := I0
  refine ⟨i1, i2, fun t v l => ?_⟩
  by_cases e : rcode t < X
  · exact i3 t v e
  · exact (h t v (by omega) l).elim
section
variable {S : Su} {nu on gi pi : Nat → Int32} {F : Nat}
theorem r_fs45 (hw : WF S) (C : RS S nu on gi) (hF : 2000 ≤ F) (hL : 0 < S.L) (hp : PP S pi) (hc : S.c ≤ 8) {le : Nat → Int32} {al be : Nat → Int64} {m x : Int} {j : Nat} {p h s u : Int} (m0 : -2 ≤ m) (m1 : m < 8) (hj : j < S.last) (hv : valid S j (p, h, s, u)) (x0 : 0 ≤ x) (x1 : x < 1280) (ly : LY S m (j + 1) le al be 1280) : ∀ (r n q : Nat), S.c - q = r → r < n → q ≤ S.c → m_SpeciesSolverModel_fillState_45 F (I S.L) (I S.n) (I S.K) (B S.ab) (I S.c) gi on nu pi n le al be (I m) (I j) (I p) (I h) (I s) (I u) (I x) (I (par j)) (I (par (j + 1))) (I (cI (foldW (S.rf m j (p, h, s, u)) q).1)) (foldW (S.rf m j (p, h, s, u)) q).2.1 (foldW (S.rf m j (p, h, s, u)) q).2.2.1 (I q) = some (upd le (1280 * (j : Int) + x).toNat (I (cI (foldW (S.rf m j (p, h, s, u)) S.c).1)), vp_updL al (par j + x).toNat (foldW (S.rf m j (p, h, s, u)) S.c).2.1, vp_updL be (par j + x).toNat (foldW (S.rf m j (p, h, s, u)) S.c).2.2.1)
  | 0, n, q, e, hn, hq => by
    obtain ⟨k, rfl⟩ : ∃ k, n = k + 1 := ⟨n - 1, by omega⟩
    have eq : q = S.c := by omega
    have l44 := last45 hw; have pj := par_r (by omega : 0 ≤ (j : Int))
    simp only [m_SpeciesSolverModel_fillState_45, m_SpeciesSolverModel_fillState_45b]
    simp (disch := omega) only [gd_I, nz_I, bd_S, gb_B, nar_B, I_add, I_sub, I_mul, I_neg, I_div, I_nat, I_lt, I_le, I_eq, B_0, B_1, L_0, L_1, L_2, L_3, L_4, L_5, L_6, L_7, L_8, L_9, L_10, L_11, L_12, L_13, L_14, L_15, L_16, L_17, L_24, L_31, L_45, L_80, L_127, L_200, L_640, L_1280, L_1000000000, T_0, T_1, T_2, T_3, T_4, T_5, T_6, T_7, T_8, T_9, T_10, T_11, T_12, T_13, T_14, T_15, T_16, T_17]
    rw [if_pos (by omega), eq]
  | r + 1, n, q, e, hn, hq => by
    obtain ⟨k, rfl⟩ : ∃ k, n = k + 1 := ⟨n - 1, by omega⟩
    simp only [m_SpeciesSolverModel_fillState_45]
    rw [r_fs_it hw C hF hL hp hc m0 m1 hj hv (by omega) ly]
    exact r_fs45 hw C hF hL hp hc m0 m1 hj hv x0 x1 ly r k (q + 1) (by omega) (by omega) (by omega)
theorem r_fillState (hw : WF S) (C : RS S nu on gi) (hF : 2000 ≤ F) (hL : 0 < S.L) (hp : PP S pi) (hc : S.c ≤ 8) {le : Nat → Int32} {al be : Nat → Int64} {m : Int} {j : Nat} {p h s u : Int} (m0 : -2 ≤ m) (m1 : m < 8) (hj : j < S.last) (hv : valid S j (p, h, s, u)) (ly : LY S m (j + 1) le al be 1280) : m_SpeciesSolverModel_fillState F (I S.L) (I S.n) (I S.K) (B S.ab) (I S.c) gi on nu pi le al be (I m) (I j) (I p) (I h) (I s) (I u) = some (upd le (1280 * (j : Int) + rcode (p, h, s, u)).toNat (I (cI (S.rW m j (p, h, s, u)).1)), vp_updL al (par j + rcode (p, h, s, u)).toNat (S.rW m j (p, h, s, u)).2.1, vp_updL be (par j + rcode (p, h, s, u)).toNat (S.rW m j (p, h, s, u)).2.2.1) := by
  have rt := rcode_r hc hv
  have l44 := last45 hw
  have ez := r_fs45 hw C hF hL hp hc (x := rcode (p, h, s, u)) m0 m1 hj hv rt.1 rt.2 ly _ F 0 rfl (by omega) (by omega)
  rw [rW_step hj]
  unfold m_SpeciesSolverModel_fillState
  rw [r_state, bd_S]
  have e1 : (((p * 10 + h) * 8 + s) * 2 + u) = rcode (p, h, s, u) := rfl
  rw [e1]
  rw [← ez]
  unfold par
  simp (disch := omega) only [gd_I, nz_I, bd_S, gb_B, nar_B, I_add, I_sub, I_mul, I_neg, I_div, I_nat, I_lt, I_le, I_eq, B_0, B_1, L_0, L_1, L_2, L_3, L_4, L_5, L_6, L_7, L_8, L_9, L_10, L_11, L_12, L_13, L_14, L_15, L_16, L_17, L_24, L_31, L_45, L_80, L_127, L_200, L_640, L_1280, L_1000000000, T_0, T_1, T_2, T_3, T_4, T_5, T_6, T_7, T_8, T_9, T_10, T_11, T_12, T_13, T_14, T_15, T_16, T_17]
  rfl
theorem r_fillLast (hw : WF S) (hF : 2000 ≤ F) (hL : 0 < S.L) (hc : S.c ≤ 8) (m : Int) (m0 : -2 ≤ m) (m1 : m < 8) : ∀ (r n : Nat) (x : Int) (le : Nat → Int32) (al be : Nat → Int64), (1280 - x).toNat = r → r < n → 0 ≤ x → x ≤ 1280 → (∀ y : Int, 0 ≤ y → y < x → le (1280 * (S.last : Int) + y).toNat = I (if m < 0 ∨ y % 2 = 1 then 0 else 1000000000) ∧ al (par S.last + y).toNat = (if m < 0 ∨ y % 2 = 1 then 1 else 0) ∧ be (par S.last + y).toNat = (if m < 0 ∨ y % 2 = 1 then 1 else 0)) → Ok (m_SpeciesSolverModel_fillLast_9 F (I S.n) (I S.K) n le al be (I m) (I S.last) (I x)) (fun u => ∀ y : Int, 0 ≤ y → y < 1280 → u.1 (1280 * (S.last : Int) + y).toNat = I (if m < 0 ∨ y % 2 = 1 then 0 else 1000000000) ∧ u.2.1 (par S.last + y).toNat = (if m < 0 ∨ y % 2 = 1 then 1 else 0) ∧ u.2.2 (par S.last + y).toNat = (if m < 0 ∨ y % 2 = 1 then 1 else 0))
  | 0, n, x, le, al, be, e, hn, x0, x1, ht => by
    obtain ⟨k, rfl⟩ : ∃ k, n = k + 1 := ⟨n - 1, by omega⟩
    simp only [m_SpeciesSolverModel_fillLast_9, m_SpeciesSolverModel_fillLast_9b]
    simp (disch := omega) only [gd_I, nz_I, bd_S, gb_B, nar_B, I_add, I_sub, I_mul, I_neg, I_div, I_nat, I_lt, I_le, I_eq, B_0, B_1, L_0, L_1, L_2, L_3, L_4, L_5, L_6, L_7, L_8, L_9, L_10, L_11, L_12, L_13, L_14, L_15, L_16, L_17, L_24, L_31, L_45, L_80, L_127, L_200, L_640, L_1280, L_1000000000, T_0, T_1, T_2, T_3, T_4, T_5, T_6, T_7, T_8, T_9, T_10, T_11, T_12, T_13, T_14, T_15, T_16, T_17]
    rw [if_pos (by omega)]
    exact Ok_some (fun y a b => ht y a (by omega))
  | r + 1, n, x, le, al, be, e, hn, x0, x1, ht => by
    obtain ⟨k, rfl⟩ : ∃ k, n = k + 1 := ⟨n - 1, by omega⟩
    have l44 := last45 hw
    have pj := par_r (by omega : 0 ≤ (S.last : Int))
    have ep : ((S.last : Int) - (S.last : Int) / 2 * 2) * 1280 = par S.last := rfl
    have key : m_SpeciesSolverModel_fillLast_9b F (I S.n) (I S.K) (m_SpeciesSolverModel_fillLast_9 F (I S.n) (I S.K) k) le al be (I m) (I S.last) (I x) = m_SpeciesSolverModel_fillLast_9 F (I S.n) (I S.K) k (upd le (1280 * (S.last : Int) + x).toNat (I (if m < 0 ∨ x % 2 = 1 then 0 else 1000000000))) (vp_updL al (par S.last + x).toNat (if m < 0 ∨ x % 2 = 1 then 1 else 0)) (vp_updL be (par S.last + x).toNat (if m < 0 ∨ x % 2 = 1 then 1 else 0)) (I m) (I S.last) (I (x + 1)) := by
      simp only [m_SpeciesSolverModel_fillLast_9b, m_SpeciesSolverModel_fillLast_31, m_SpeciesSolverModel_fillLast_36, m_SpeciesSolverModel_fillLast_60, m_SpeciesSolverModel_fillLast_84, m_SpeciesSolverModel_fillLast_108]
      simp (disch := omega) only [gd_I, nz_I, bd_S, gb_B, nar_B, I_add, I_sub, I_mul, I_neg, I_div, I_nat, I_lt, I_le, I_eq, B_0, B_1, L_0, L_1, L_2, L_3, L_4, L_5, L_6, L_7, L_8, L_9, L_10, L_11, L_12, L_13, L_14, L_15, L_16, L_17, L_24, L_31, L_45, L_80, L_127, L_200, L_640, L_1280, L_1000000000, T_0, T_1, T_2, T_3, T_4, T_5, T_6, T_7, T_8, T_9, T_10, T_11, T_12, T_13, T_14, T_15, T_16, T_17, ep]
      rw [if_neg (by omega)]
      have ex : x - x / 2 * 2 = x % 2 := by omega
      rw [ex]
      by_cases e1 : m < 0
      · simp [e1]
      · by_cases e2 : x % 2 = 1
        · simp [e1, e2]
        · simp [e1, e2]
    simp only [m_SpeciesSolverModel_fillLast_9]
    rw [key]
    refine r_fillLast hw hF hL hc m m0 m1 r k (x + 1) _ _ _ (by omega) (by omega) (by omega) (by omega) ?_
    intro y y0 y1
    by_cases e2 : y = x
    · subst e2
      exact ⟨upd_at _ _ _, updL_at _ _ _, updL_at _ _ _⟩
    · rw [upd_ne _ _ (by omega), updL_ne _ _ (by omega), updL_ne _ _ (by omega)]
      exact ht y y0 (by omega)
end
