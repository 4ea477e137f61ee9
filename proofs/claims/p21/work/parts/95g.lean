/-! pure part: the class's weigh, all of it -/
/-- what weigh leaves -/
def WD (S : Su) (t : Int) (LL : Nat → List Int) (nx rc : Nat → Int32) (rl rt : Nat → Int64) : Prop := RL S t 0 (LL 0) rc rl rt (LL 0).length ∧ ∀ i, i < S.last → NX S t i (LL i) (LL (i + 1)) nx (LL i).length
section
variable {S : Su} {np mp vp mt bc bt ps sp : Nat → Int32} {F : Nat} {t : Int}
theorem c_w72 (hw : WF S) (hp : PT S np mp vp mt bc bt ps sp) (hF : 2000 ≤ F) (hc : S.c ≤ 8) (t0 : 0 ≤ t) (t1 : t ≤ 8) {ls sz : Nat → Int32} {LL : Nat → List Int} (hLL : ∀ i, i ≤ S.last → Lay ls sz i (LL i) ∧ GL S (LL i)) (hst : ∀ i, i < S.last → StepL S t true (i + 1) (LL i) (LL (i + 1))) {Q : (Nat → Int32) × (Nat → Int32) × (Nat → Int32) × (Nat → Int64) × (Nat → Int64) → Prop} {k59 : (Nat → Int32) → (Nat → Int32) → (Nat → Int32) → (Nat → Int64) → (Nat → Int64) → Int32 → Option ((Nat → Int32) × (Nat → Int32) × (Nat → Int32) × (Nat → Int64) × (Nat → Int64))} {pl : Nat → Int32} {j : Nat} (hj : j < S.last) (hpl : PLC pl (LL (j + 1)) (LL (j + 1)).length) (hk : ∀ nx rc rl rt, RL S t j (LL j) rc rl rt (LL j).length → (∀ i, j ≤ i → i < S.last → NX S t i (LL i) (LL (i + 1)) nx (LL i).length) → Ok (k59 nx pl rc rl rt (I ((j : Int) - 1))) Q) : ∀ (r n i : Nat) (nx rc : Nat → Int32) (rl rt : Nat → Int64), (LL j).length - i = r → r < n → i ≤ (LL j).length → RL S t (j + 1) (LL (j + 1)) rc rl rt (LL (j + 1)).length → RL S t j (LL j) rc rl rt i → (∀ i, j < i → i < S.last → NX S t i (LL i) (LL (i + 1)) nx (LL i).length) → NX S t j (LL j) (LL (j + 1)) nx i → Ok (m_Search_weigh_72 F (I S.c) (I S.N) (I S.K) (I S.mal) np mp vp mt bc bt ps sp (I t) (B true) ls sz k59 n nx pl rc rl rt (I j) (I i)) Q
  | 0, n, i, nx, rc, rl, rt, e, hn, hi, h1, h2, h3, h4 => by
    obtain ⟨k, rfl⟩ : ∃ k, n = k + 1 := ⟨n - 1, by omega⟩
    obtain ⟨hl, hg⟩ := hLL j (by omega)
    have len := GL_len hc hg; have l44 := last45 hw
    have ei : i = (LL j).length := by omega
    subst ei
    simp only [m_Search_weigh_72, m_Search_weigh_72b]
    simp (disch := omega) only [gd_I, nz_I, bd_S, gb_B, nar_B, I_add, I_sub, I_mul, I_neg, I_div, I_nat, I_lt, I_le, I_eq, B_0, B_1, L_0, L_1, L_2, L_3, L_4, L_5, L_6, L_7, L_8, L_9, L_10, L_11, L_12, L_13, L_14, L_15, L_16, L_17, L_24, L_31, L_45, L_80, L_127, L_200, L_640, L_1280, L_1000000000, T_0, T_1, T_2, T_3, T_4, T_5, T_6, T_7, T_8, T_9, T_10, T_11, T_12, T_13, T_14, T_15, T_16, T_17, Int.toNat_natCast, hl.1]
    simp only [Int.le_refl, if_true]
    have e9 : (j : Int) + -1 = (j : Int) - 1 := by omega
    rw [e9]
    refine hk nx rc rl rt h2 (fun i2 h5 h6 => ?_)
    by_cases e2 : i2 = j
    · subst e2; exact h4
    · exact h3 i2 (by omega) h6
  | r + 1, n, i, nx, rc, rl, rt, e, hn, hi, h1, h2, h3, h4 => by
    obtain ⟨k, rfl⟩ : ∃ k, n = k + 1 := ⟨n - 1, by omega⟩
    obtain ⟨hl, hg⟩ := hLL j (by omega)
    obtain ⟨_, hg2⟩ := hLL (j + 1) (by omega)
    have len := GL_len hc hg; have len2 := GL_len hc hg2; have l44 := last45 hw
    have ei : (i : Int) + 1 = ((i + 1 : Nat) : Int) := by omega
    have pj := par_r (by omega : 0 ≤ (j : Int))
    have ej2 : ((j + 1 : Nat) : Int) = (j : Int) + 1 := by omega
    simp only [m_Search_weigh_72, m_Search_weigh_72b]
    simp (disch := omega) only [gd_I, nz_I, bd_S, gb_B, nar_B, I_add, I_sub, I_mul, I_neg, I_div, I_nat, I_lt, I_le, I_eq, B_0, B_1, L_0, L_1, L_2, L_3, L_4, L_5, L_6, L_7, L_8, L_9, L_10, L_11, L_12, L_13, L_14, L_15, L_16, L_17, L_24, L_31, L_45, L_80, L_127, L_200, L_640, L_1280, L_1000000000, T_0, T_1, T_2, T_3, T_4, T_5, T_6, T_7, T_8, T_9, T_10, T_11, T_12, T_13, T_14, T_15, T_16, T_17, Int.toNat_natCast, hl.1, ei]
    rw [if_neg (by omega)]
    refine Ok_bd (c_weighState hw hp hF hc t0 t1 hj (by omega : i < (LL j).length) hl hg hg2 (hst j hj) hpl h1) ?_
    rintro ⟨nx2, rc2, rl2, rt2⟩ ⟨u1, u2, u3, u4, u5, u6⟩
    simp only at u1 u2 u3 u4 u5 u6 ⊢
    refine c_w72 hw hp hF hc t0 t1 hLL hst hj hpl hk r k (i + 1) nx2 rc2 rl2 rt2 (by omega) (by omega) (by omega) (fun p hp9 => ?_) (fun p hp9 => ?_) (fun i2 h5 h6 => ?_) (fun p hp9 => ?_)
    · have pn := par_ne (j := j) (by omega) (a := p) (b := i) (by omega) (by omega) (by omega) (by omega)
      have := h1 p hp9
      rw [ej2] at this ⊢
      obtain ⟨x1, x2, x3⟩ := u1 _ pn
      rw [x1, x2, x3]; exact this
    · by_cases e2 : p = i
      · subst e2; exact ⟨u2, u3, u4⟩
      · obtain ⟨x1, x2, x3⟩ := u1 (par j + p).toNat (by omega)
        rw [x1, x2, x3]; exact h2 p (by omega)
    · intro p hp9 hne
      have lenp := GL_len hc (hLL i2 (by omega)).2
      have hlt : (j + 1) * 1280 ≤ i2 * 1280 := Nat.mul_le_mul_right _ (by omega)
      obtain ⟨p2, a1, a2, a3⟩ := h3 i2 h5 h6 p hp9 hne
      exact ⟨p2, a1, by rw [u5 _ (by omega)]; exact a2, a3⟩
    · intro hne
      by_cases e2 : p = i
      · subst e2; exact u6 hne
      · obtain ⟨p2, a1, a2, a3⟩ := h4 p (by omega) hne
        exact ⟨p2, a1, by rw [u5 _ (by omega)]; exact a2, a3⟩
theorem c_w59 (hw : WF S) (hp : PT S np mp vp mt bc bt ps sp) (hF : 2000 ≤ F) (hc : S.c ≤ 8) (t0 : 0 ≤ t) (t1 : t ≤ 8) {ls sz : Nat → Int32} {LL : Nat → List Int} (hLL : ∀ i, i ≤ S.last → Lay ls sz i (LL i) ∧ GL S (LL i)) (hst : ∀ i, i < S.last → StepL S t true (i + 1) (LL i) (LL (i + 1))) : ∀ (j n : Nat) (nx pl rc : Nat → Int32) (rl rt : Nat → Int64), j < n → j ≤ S.last → RL S t j (LL j) rc rl rt (LL j).length → (∀ i, j ≤ i → i < S.last → NX S t i (LL i) (LL (i + 1)) nx (LL i).length) → Ok (m_Search_weigh_59 F (I S.c) (I S.N) (I S.K) (I S.mal) np mp vp mt bc bt ps sp (I t) (B true) ls sz n nx pl rc rl rt (I ((j : Int) - 1))) (fun u => WD S t LL u.1 u.2.2.1 u.2.2.2.1 u.2.2.2.2)
  | 0, n, nx, pl, rc, rl, rt, hn, hj, h1, h2 => by
    obtain ⟨k, rfl⟩ : ∃ k, n = k + 1 := ⟨n - 1, by omega⟩
    simp only [m_Search_weigh_59, m_Search_weigh_59b]
    simp (disch := omega) only [gd_I, nz_I, bd_S, gb_B, nar_B, I_add, I_sub, I_mul, I_neg, I_div, I_nat, I_lt, I_le, I_eq, B_0, B_1, L_0, L_1, L_2, L_3, L_4, L_5, L_6, L_7, L_8, L_9, L_10, L_11, L_12, L_13, L_14, L_15, L_16, L_17, L_24, L_31, L_45, L_80, L_127, L_200, L_640, L_1280, L_1000000000, T_0, T_1, T_2, T_3, T_4, T_5, T_6, T_7, T_8, T_9, T_10, T_11, T_12, T_13, T_14, T_15, T_16, T_17]
    rw [if_pos (by omega)]
    exact Ok_some ⟨h1, fun i hi => h2 i (by omega) hi⟩
  | j + 1, n, nx, pl, rc, rl, rt, hn, hj, h1, h2 => by
    obtain ⟨k, rfl⟩ : ∃ k, n = k + 1 := ⟨n - 1, by omega⟩
    have l44 := last45 hw
    have e : ((j + 1 : Nat) : Int) - 1 = (j : Int) := by omega
    obtain ⟨hl, hg⟩ := hLL (j + 1) hj
    have len := GL_len hc hg; have len2 := GL_len hc (hLL j (by omega)).2
    have e1 : I (j : Int) + 1 = I ((j + 1 : Nat) : Int) := by rw [L_1, I_add]; congr 1
    rw [e]
    simp only [m_Search_weigh_59, m_Search_weigh_59b]
    rw [if_neg (by rw [L_0, I_lt (by omega) (by omega) (by omega) (by omega)]; omega), e1]
    unfold m_Search_writePlaces
    rw [L_0, show I 0 = I ((0 : Nat) : Int) from rfl]
    refine Ok_bd (c_places hc (by omega) hl hg _ F 0 pl rfl (by omega) (by omega) (fun i hi => absurd hi (Nat.not_lt_zero i))) ?_
    intro pl2 hpl
    refine c_w72 hw hp hF hc t0 t1 hLL hst (by omega) hpl (fun nx2 rc2 rl2 rt2 g1 g2 => ?_) _ F 0 nx rc rl rt rfl (by omega) (by omega) h1 (fun i hi => absurd hi (Nat.not_lt_zero i)) (fun i h5 h6 => h2 i (by omega) h6) (fun i hi => absurd hi (Nat.not_lt_zero i))
    exact c_w59 hw hp hF hc t0 t1 hLL hst j k nx2 pl2 rc2 rl2 rt2 (by omega) (by omega) g1 g2
theorem c_w12 (hw : WF S) (hp : PT S np mp vp mt bc bt ps sp) (hF : 2000 ≤ F) (hc : S.c ≤ 8) (t0 : 0 ≤ t) (t1 : t ≤ 8) {ls sz : Nat → Int32} {LL : Nat → List Int} (hLL : ∀ i, i ≤ S.last → Lay ls sz i (LL i) ∧ GL S (LL i)) (hst : ∀ i, i < S.last → StepL S t true (i + 1) (LL i) (LL (i + 1))) : ∀ (r n i : Nat) (nx pl rc : Nat → Int32) (rl rt : Nat → Int64), (LL S.last).length - i = r → r < n → i ≤ (LL S.last).length → RL S t S.last (LL S.last) rc rl rt i → Ok (m_Search_weigh_12 F (I S.c) (I S.N) (I S.K) (I S.mal) np mp vp mt bc bt ps sp (I t) (B true) ls sz n nx pl rc rl rt (I S.last) (I i)) (fun u => WD S t LL u.1 u.2.2.1 u.2.2.2.1 u.2.2.2.2)
  | 0, n, i, nx, pl, rc, rl, rt, e, hn, hi, h1 => by
    obtain ⟨k, rfl⟩ : ∃ k, n = k + 1 := ⟨n - 1, by omega⟩
    obtain ⟨hl, hg⟩ := hLL S.last (Nat.le_refl _)
    have len := GL_len hc hg; have l44 := last45 hw
    have ei : i = (LL S.last).length := by omega
    subst ei
    simp only [m_Search_weigh_12, m_Search_weigh_12b]
    simp (disch := omega) only [gd_I, nz_I, bd_S, gb_B, nar_B, I_add, I_sub, I_mul, I_neg, I_div, I_nat, I_lt, I_le, I_eq, B_0, B_1, L_0, L_1, L_2, L_3, L_4, L_5, L_6, L_7, L_8, L_9, L_10, L_11, L_12, L_13, L_14, L_15, L_16, L_17, L_24, L_31, L_45, L_80, L_127, L_200, L_640, L_1280, L_1000000000, T_0, T_1, T_2, T_3, T_4, T_5, T_6, T_7, T_8, T_9, T_10, T_11, T_12, T_13, T_14, T_15, T_16, T_17, Int.toNat_natCast, hl.1]
    simp only [Int.le_refl, if_true]
    exact c_w59 hw hp hF hc t0 t1 hLL hst S.last F nx pl rc rl rt (by omega) (Nat.le_refl _) h1 (fun i h2 h3 => by omega)
  | r + 1, n, i, nx, pl, rc, rl, rt, e, hn, hi, h1 => by
    obtain ⟨k, rfl⟩ : ∃ k, n = k + 1 := ⟨n - 1, by omega⟩
    obtain ⟨hl, hg⟩ := hLL S.last (Nat.le_refl _)
    have len := GL_len hc hg; have l44 := last45 hw
    have pj := par_r (by omega : 0 ≤ (S.last : Int))
    have ei : (i : Int) + 1 = ((i + 1 : Nat) : Int) := by omega
    have er := c_restAt (j := S.last) (i := i) (by omega) (by omega)
    simp only [m_Search_weigh_12, m_Search_weigh_12b]
    simp (disch := omega) only [gd_I, nz_I, bd_S, gb_B, nar_B, I_add, I_sub, I_mul, I_neg, I_div, I_nat, I_lt, I_le, I_eq, B_0, B_1, L_0, L_1, L_2, L_3, L_4, L_5, L_6, L_7, L_8, L_9, L_10, L_11, L_12, L_13, L_14, L_15, L_16, L_17, L_24, L_31, L_45, L_80, L_127, L_200, L_640, L_1280, L_1000000000, T_0, T_1, T_2, T_3, T_4, T_5, T_6, T_7, T_8, T_9, T_10, T_11, T_12, T_13, T_14, T_15, T_16, T_17, Int.toNat_natCast, hl.1, er, ei]
    rw [if_neg (by omega)]
    refine c_w12 hw hp hF hc t0 t1 hLL hst r k (i + 1) nx pl _ _ _ (by omega) (by omega) (by omega) (fun p hp9 => ?_)
    by_cases e2 : p = i
    · subst e2; rw [cW_last]; exact ⟨upd_at _ _ _, updL_at _ _ _, updL_at _ _ _⟩
    · rw [upd_ne _ _ (by omega), updL_ne _ _ (by omega), updL_ne _ _ (by omega)]
      exact h1 p (by omega)
theorem c_weigh (hw : WF S) (hp : PT S np mp vp mt bc bt ps sp) (hF : 2000 ≤ F) (hc : S.c ≤ 8) (t0 : 0 ≤ t) (t1 : t ≤ 8) {ls sz : Nat → Int32} {LL : Nat → List Int} (hN2 : 2 ≤ S.N) (hLL : ∀ i, i ≤ S.last → Lay ls sz i (LL i) ∧ GL S (LL i)) (hst : ∀ i, i < S.last → StepL S t true (i + 1) (LL i) (LL (i + 1))) (nx pl rc : Nat → Int32) (rl rt : Nat → Int64) : Ok (m_Search_weigh F (I S.c) (I S.N) (I S.K) (I S.mal) np mp vp mt bc bt ps sp (I t) (B true) ls sz nx pl rc rl rt) (fun u => WD S t LL u.1 u.2.2.1 u.2.2.2.1 u.2.2.2.2) := by
  have hl2 : S.N - 1 = (S.last : Int) := by unfold Su.last; omega
  have len := GL_len hc (hLL S.last (Nat.le_refl _)).2
  unfold m_Search_weigh
  rw [L_1, I_sub, hl2, L_0, show I 0 = I ((0 : Nat) : Int) from rfl]
  exact c_w12 hw hp hF hc t0 t1 hLL hst _ F 0 nx pl rc rl rt rfl (by omega) (by omega) (fun i hi => absurd hi (Nat.not_lt_zero i))
end
