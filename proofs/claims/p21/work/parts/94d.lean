/-! pure part: the reference's follow -/
theorem rW_min {S : Su} {m : Int} {j : Nat} {t : RT} {x : Int} (hj : j < S.last) (h : (S.rW m j t).1 = some x) : (S.rW m j t).2.2.2 < S.c ∧ S.rok m (j + 1) t (S.rW m j t).2.2.2 = true ∧ (∃ y, (S.rW m (j + 1) (S.rnx m (j + 1) t (S.rW m j t).2.2.2)).1 = some y ∧ S.rpr (j + 1) t (S.rW m j t).2.2.2 + y = x) ∧ (∀ r, r < (S.rW m j t).2.2.2 → S.rok m (j + 1) t r = true → ∀ y, (S.rW m (j + 1) (S.rnx m (j + 1) t r)).1 = some y → x < S.rpr (j + 1) t r + y) := by
  unfold Su.rW at h ⊢
  obtain ⟨d, hd⟩ : ∃ d, S.last - j = d + 1 := ⟨S.last - j - 1, by omega⟩
  have hd2 : S.last - (j + 1) = d := by omega
  rw [hd2]
  rw [hd] at h ⊢
  exact VV_step h
def Su.rT (S : Su) (m : Int) (t : RT) (k : Nat) : RT := SA S.c (S.rok m) S.rpr (S.rnx m) (rfin m) S.last 0 t k
theorem rT_succ {S : Su} {m : Int} {t : RT} {k : Nat} : S.rT m t (k + 1) = S.rnx m (k + 1) (S.rT m t k) (S.rW m k (S.rT m t k)).2.2.2 := by
  unfold Su.rT Su.rW
  show S.rnx m (0 + k + 1) _ (VV S.c (S.rok m) S.rpr (S.rnx m) (rfin m) (S.last - k) (0 + k) _).2.2.2 = _
  rw [Nat.zero_add]
theorem rT_some {S : Su} {m : Int} {t : RT} {x : Int} (h : (S.rW m 0 t).1 = some x) {k : Nat} (hk : k ≤ S.last) : ∃ y, (S.rW m k (S.rT m t k)).1 = some y := by
  unfold Su.rW at h
  rw [Nat.sub_zero] at h
  obtain ⟨y, hy⟩ := SA_some h k hk
  refine ⟨y, ?_⟩
  unfold Su.rW Su.rT
  rw [Nat.zero_add] at hy
  exact hy
theorem rT_valid {S : Su} (hw : WF S) (hc : S.c ≤ 8) {m : Int} {t : RT} {x : Int} (hv : valid S 0 t) (h : (S.rW m 0 t).1 = some x) : ∀ (k : Nat), k ≤ S.last → valid S k (S.rT m t k)
  | 0, _ => hv
  | k + 1, hk => by
    have ih := rT_valid hw hc hv h k (by omega)
    obtain ⟨y, hy⟩ := rT_some h (by omega : k ≤ S.last)
    obtain ⟨q1, q2, _⟩ := rW_min (by omega) hy
    rw [rT_succ]
    refine valid_next hw hc (Or.inr ?_) ih q1 ?_
    · obtain ⟨_, _, ⟨_, u⟩, _⟩ := ih; exact u
    · unfold Su.rok at q2; rw [Bool.and_eq_true] at q2; exact of_decide_eq_true q2.1
section
variable {S : Su} {nu on gi pi : Nat → Int32} {F : Nat}
theorem r_fo_it (hw : WF S) (C : RS S nu on gi) (hF : 2000 ≤ F) (hL : 0 < S.L) (hp : PP S pi) (hc : S.c ≤ 8) {k32 : (Nat → Int32) → Int32 → Int32 → Int32 → Int32 → Int32 → Int32 → Option (Nat → Int32)} {k73 : (Nat → Int32) → Int32 → Int32 → Int32 → Int32 → Int32 → Int32 → Int32 → Int32 → Int32 → Option (Nat → Int32)} {ln le : Nat → Int32} {m x : Int} {j q : Nat} {p h s u : Int} (m0 : -2 ≤ m) (m1 : m < 8) (hj : j < S.last) (hv : valid S j (p, h, s, u)) (hq : q < S.c) (x0 : 0 ≤ x) (x1 : x ≤ 9500000) (hl : LE S m (j + 1) le) : m_SpeciesSolverModel_follow_73b F (I S.L) (I S.n) (I S.K) (B S.ab) gi on nu pi le k32 k73 ln (I m) (I p) (I h) (I s) (I u) (I j) (I x) (I q) (I 0) = if S.rok m (j + 1) (p, h, s, u) q = true ∧ (∃ y, (S.rW m (j + 1) (S.rnx m (j + 1) (p, h, s, u) q)).1 = some y ∧ S.rpr (j + 1) (p, h, s, u) q + y = x) then k73 ln (I m) (I p) (I h) (I s) (I u) (I j) (I x) (I q) (I 1) else k73 ln (I m) (I p) (I h) (I s) (I u) (I j) (I x) (I ((q + 1 : Nat) : Int)) (I 0) := by
  have hN := WF_N hw; have hN2 := WF_N2 hw hL; have l44 := last45 hw
  have hl2 : (S.last : Int) = S.N - 1 := by unfold Su.last; omega
  have ej : ((j + 1 : Nat) : Int) = (j : Int) + 1 := by omega
  have eq1 : ((q + 1 : Nat) : Int) = (q : Int) + 1 := by omega
  have hv2 := hv
  obtain ⟨⟨p0, p1⟩, ⟨s0, s1⟩, ⟨u0, u1⟩, h4, h5, h6⟩ := hv
  simp only at p0 p1 s0 s1 u0 u1 h4 h5 h6
  have hh : 0 ≤ h ∧ (h ≤ S.c ∨ h = 9) := by
    by_cases e : j = 0
    · have := h4 e; omega
    · have := h5 (by omega); omega
  have pp := P_range hw p0 p1; have ps := P_range hw s0 s1
  have pq := P_range hw (by omega : (0 : Int) ≤ q) (by omega : (q : Int) < S.c)
  have ep := hp _ p0 p1; have es := hp _ s0 s1; have eq := hp _ (by omega : (0 : Int) ≤ q) (by omega : (q : Int) < S.c)
  have ru : -3 ≤ rused m u q ∧ rused m u q ≤ 3 := by unfold rused; (repeat' split) <;> omega
  have hmf := r_mayFollow hw C hF hL hp hc (lt := true) (j := (j : Int) + 1) (q := q) (by omega) (by omega) p0 p1 s0 s1 (by omega) (by omega) hh.1 hh.2
  rw [show B true = I 1 from rfl] at hmf
  have e229 : m_SpeciesSolverModel_follow_229 F (I S.L) (I S.n) (I S.K) (B S.ab) gi on nu pi le k32 k73 ln (I m) (I p) (I h) (I s) (I u) (I j) (I x) (I q) (I 0) = k73 ln (I m) (I p) (I h) (I s) (I u) (I j) (I x) (I ((q : Int) + 1)) (I 0) := by
    unfold m_SpeciesSolverModel_follow_229 m_SpeciesSolverModel_follow_241
    simp (disch := omega) only [gd_I, nz_I, bd_S, gb_B, nar_B, I_add, I_sub, I_mul, I_neg, I_div, I_nat, I_lt, I_le, I_eq, B_0, B_1, L_0, L_1, L_2, L_3, L_4, L_5, L_6, L_7, L_8, L_9, L_10, L_11, L_12, L_13, L_14, L_15, L_16, L_17, L_24, L_31, L_45, L_80, L_127, L_200, L_640, L_1280, L_1000000000, T_0, T_1, T_2, T_3, T_4, T_5, T_6, T_7, T_8, T_9, T_10, T_11, T_12, T_13, T_14, T_15, T_16, T_17]
    simp
  have e229y : m_SpeciesSolverModel_follow_229 F (I S.L) (I S.n) (I S.K) (B S.ab) gi on nu pi le k32 k73 ln (I m) (I p) (I h) (I s) (I u) (I j) (I x) (I q) (I 1) = k73 ln (I m) (I p) (I h) (I s) (I u) (I j) (I x) (I q) (I 1) := by
    unfold m_SpeciesSolverModel_follow_229 m_SpeciesSolverModel_follow_241
    simp (disch := omega) only [gd_I, nz_I, bd_S, gb_B, nar_B, I_add, I_sub, I_mul, I_neg, I_div, I_nat, I_lt, I_le, I_eq, B_0, B_1, L_0, L_1, L_2, L_3, L_4, L_5, L_6, L_7, L_8, L_9, L_10, L_11, L_12, L_13, L_14, L_15, L_16, L_17, L_24, L_31, L_45, L_80, L_127, L_200, L_640, L_1280, L_1000000000, T_0, T_1, T_2, T_3, T_4, T_5, T_6, T_7, T_8, T_9, T_10, T_11, T_12, T_13, T_14, T_15, T_16, T_17]
    simp
  rw [eq1]
  unfold m_SpeciesSolverModel_follow_73b
  simp (disch := omega) only [gd_I, nz_I, bd_S, gb_B, nar_B, I_add, I_sub, I_mul, I_neg, I_div, I_nat, I_lt, I_le, I_eq, B_0, B_1, L_0, L_1, L_2, L_3, L_4, L_5, L_6, L_7, L_8, L_9, L_10, L_11, L_12, L_13, L_14, L_15, L_16, L_17, L_24, L_31, L_45, L_80, L_127, L_200, L_640, L_1280, L_1000000000, T_0, T_1, T_2, T_3, T_4, T_5, T_6, T_7, T_8, T_9, T_10, T_11, T_12, T_13, T_14, T_15, T_16, T_17, r_usedBy, hmf]
  simp only [if_true]
  by_cases hu : rused m u q < 2
  · rw [if_neg (by omega)]
    cases hmay : S.rmay ((j : Int) + 1) p h s q true with
    | false =>
      have hrok : S.rok m (j + 1) (p, h, s, u) q = false := by unfold Su.rok; simp only; rw [ej, hmay, Bool.and_false]
      simp only [if_true]
      rw [if_neg (by rw [hrok]; intro e; cases e.1), e229]
    | true =>
      have hrok : S.rok m (j + 1) (p, h, s, u) q = true := by unfold Su.rok; simp only; rw [ej, hmay, Bool.and_true]; exact decide_eq_true hu
      have vn := valid_next hw (m := m) hc (Or.inr u1) hv2 hq hu
      have rc := rcode_r hc vn
      have y1 := hl _ vn
      have ecode : rcode (S.rnx m (j + 1) (p, h, s, u) q) = (((q : Int) * 10 + rhow p h q) * 8 + (if S.strong ((j : Int) + 1) then (q : Int) else s)) * 2 + rused m u q := by unfold rcode Su.rnx; simp only [ej]
      rw [ej] at y1
      have e142 : m_SpeciesSolverModel_follow_142 F (I S.L) (I S.n) (I S.K) (B S.ab) gi on nu pi le k32 k73 ln (I m) (I p) (I h) (I s) (I u) (I j) (I x) (I q) (I (rused m u q)) (I q) (I (rhow p h q)) (I (if S.strong ((j : Int) + 1) then (q : Int) else s)) = if S.rok m (j + 1) (p, h, s, u) q = true ∧ (∃ y, (S.rW m (j + 1) (S.rnx m (j + 1) (p, h, s, u) q)).1 = some y ∧ S.rpr (j + 1) (p, h, s, u) q + y = x) then k73 ln (I m) (I p) (I h) (I s) (I u) (I j) (I x) (I q) (I 1) else k73 ln (I m) (I p) (I h) (I s) (I u) (I j) (I x) (I ((q : Int) + 1)) (I 0) := by
        unfold m_SpeciesSolverModel_follow_142 m_SpeciesSolverModel_follow_226 m_SpeciesSolverModel_follow_227
        rw [r_state, ← ecode, bd_S]
        have epr : S.rpr (j + 1) (p, h, s, u) q = S.ncost ((j : Int) + 1) (S.P q) + S.mcost (S.P p) (S.P q) + (if S.strong ((j : Int) + 1) then S.scost ((j : Int) + 1) (S.P s) (S.P q) else 0) := by unfold Su.rpr; simp only [ej]
        have prr := rpr_r hw (j + 1) (p, h, s, u) q
        cases eW : (S.rW m (j + 1) (S.rnx m (j + 1) (p, h, s, u) q)).1 with
        | none =>
          rw [eW] at y1
          simp (disch := omega) only [gd_I, nz_I, bd_S, gb_B, nar_B, I_add, I_sub, I_mul, I_neg, I_div, I_nat, I_lt, I_le, I_eq, B_0, B_1, L_0, L_1, L_2, L_3, L_4, L_5, L_6, L_7, L_8, L_9, L_10, L_11, L_12, L_13, L_14, L_15, L_16, L_17, L_24, L_31, L_45, L_80, L_127, L_200, L_640, L_1280, L_1000000000, T_0, T_1, T_2, T_3, T_4, T_5, T_6, T_7, T_8, T_9, T_10, T_11, T_12, T_13, T_14, T_15, T_16, T_17, y1, cI, e229, e229y]
          rw [if_pos (by omega), if_neg (by intro e; obtain ⟨_, y, e, _⟩ := e; cases e)]
        | some d =>
          have wr := rW_range hw eW
          rw [eW] at y1
          have e3 : cI (some d) = d := rfl
          rw [e3] at y1
          have ecc : d + S.mcost (S.P p) (S.P q) + (S.ncost ((j : Int) + 1) (S.P q) + (if S.strong ((j : Int) + 1) then S.scost ((j : Int) + 1) (S.P s) (S.P q) else 0)) = S.rpr (j + 1) (p, h, s, u) q + d := by rw [epr]; omega
          simp (disch := omega) only [gd_I, nz_I, bd_S, gb_B, nar_B, I_add, I_sub, I_mul, I_neg, I_div, I_nat, I_lt, I_le, I_eq, B_0, B_1, L_0, L_1, L_2, L_3, L_4, L_5, L_6, L_7, L_8, L_9, L_10, L_11, L_12, L_13, L_14, L_15, L_16, L_17, L_24, L_31, L_45, L_80, L_127, L_200, L_640, L_1280, L_1000000000, T_0, T_1, T_2, T_3, T_4, T_5, T_6, T_7, T_8, T_9, T_10, T_11, T_12, T_13, T_14, T_15, T_16, T_17, y1, ep, es, eq, e229, e229y, r_moveCost hw C, r_noteCost hw C hF, ecc]
          rw [if_neg (by omega)]
          by_cases l1 : S.rpr (j + 1) (p, h, s, u) q + d = x
          · rw [if_pos l1, if_pos ⟨hrok, d, rfl, l1⟩]
          · rw [if_neg l1, if_neg (by intro e; obtain ⟨_, y, e, e9⟩ := e; injection e with e; omega)]
      simp only [Bool.true_eq_false, if_false]
      simp (disch := omega) only [gd_I, nz_I, bd_S, gb_B, nar_B, I_add, I_sub, I_mul, I_neg, I_div, I_nat, I_lt, I_le, I_eq, B_0, B_1, L_0, L_1, L_2, L_3, L_4, L_5, L_6, L_7, L_8, L_9, L_10, L_11, L_12, L_13, L_14, L_15, L_16, L_17, L_24, L_31, L_45, L_80, L_127, L_200, L_640, L_1280, L_1000000000, T_0, T_1, T_2, T_3, T_4, T_5, T_6, T_7, T_8, T_9, T_10, T_11, T_12, T_13, T_14, T_15, T_16, T_17, r_nextHow, r_isStrong hw]
      cases hs : S.strong ((j : Int) + 1) with
      | true => rw [hs] at e142; simp only [Bool.true_eq_false, if_false, if_true] at e142 ⊢; exact e142
      | false => rw [hs] at e142; simp only [Bool.false_eq_true, if_false, if_true] at e142 ⊢; exact e142
  · rw [if_pos (by omega)]
    have hrok : S.rok m (j + 1) (p, h, s, u) q = false := by unfold Su.rok; simp only; rw [decide_eq_false hu, Bool.false_and]
    rw [if_neg (by rw [hrok]; intro e; cases e.1), e229]
theorem r_fo_ex (hw : WF S) (C : RS S nu on gi) (hF : 2000 ≤ F) (hL : 0 < S.L) (hp : PP S pi) (hc : S.c ≤ 8) {k32 : (Nat → Int32) → Int32 → Int32 → Int32 → Int32 → Int32 → Int32 → Option (Nat → Int32)} {k73 : (Nat → Int32) → Int32 → Int32 → Int32 → Int32 → Int32 → Int32 → Int32 → Int32 → Int32 → Option (Nat → Int32)} {ln le : Nat → Int32} {m x : Int} {j q : Nat} {p h s u : Int} (m0 : -2 ≤ m) (m1 : m < 8) (hj : j < S.last) (hv : valid S j (p, h, s, u)) (hq : q < S.c) : m_SpeciesSolverModel_follow_73b F (I S.L) (I S.n) (I S.K) (B S.ab) gi on nu pi le k32 k73 ln (I m) (I p) (I h) (I s) (I u) (I j) (I x) (I q) (I 1) = k32 (upd ln (j + 1) (I (S.P q))) (I m) (I q) (I (S.rnx m (j + 1) (p, h, s, u) q).2.1) (I (S.rnx m (j + 1) (p, h, s, u) q).2.2.1) (I (S.rnx m (j + 1) (p, h, s, u) q).2.2.2) (I ((j + 1 : Nat) : Int)) := by
  have l44 := last45 hw
  have ej : ((j + 1 : Nat) : Int) = (j : Int) + 1 := by omega
  obtain ⟨⟨p0, p1⟩, ⟨s0, s1⟩, ⟨u0, u1⟩, h4, h5, h6⟩ := hv
  simp only at p0 p1 s0 s1 u0 u1 h4 h5 h6
  have hh : 0 ≤ h ∧ (h ≤ S.c ∨ h = 9) := by
    by_cases e : j = 0
    · have := h4 e; omega
    · have := h5 (by omega); omega
  have eq := hp _ (by omega : (0 : Int) ≤ q) (by omega : (q : Int) < S.c)
  have et : ((j : Int) + 1).toNat = j + 1 := by omega
  unfold m_SpeciesSolverModel_follow_73b m_SpeciesSolverModel_follow_286 Su.rnx
  simp (disch := omega) only [gd_I, nz_I, bd_S, gb_B, nar_B, I_add, I_sub, I_mul, I_neg, I_div, I_nat, I_lt, I_le, I_eq, B_0, B_1, L_0, L_1, L_2, L_3, L_4, L_5, L_6, L_7, L_8, L_9, L_10, L_11, L_12, L_13, L_14, L_15, L_16, L_17, L_24, L_31, L_45, L_80, L_127, L_200, L_640, L_1280, L_1000000000, T_0, T_1, T_2, T_3, T_4, T_5, T_6, T_7, T_8, T_9, T_10, T_11, T_12, T_13, T_14, T_15, T_16, T_17, r_nextHow, r_usedBy, r_isStrong hw, eq, et]
  rw [if_neg (by decide), ej]
  cases S.strong ((j : Int) + 1) <;> simp
theorem r_fo73 (hw : WF S) (C : RS S nu on gi) (hF : 2000 ≤ F) (hL : 0 < S.L) (hp : PP S pi) (hc : S.c ≤ 8) {k32 : (Nat → Int32) → Int32 → Int32 → Int32 → Int32 → Int32 → Int32 → Option (Nat → Int32)} {ln le : Nat → Int32} {m x : Int} {j : Nat} {p h s u : Int} (m0 : -2 ≤ m) (m1 : m < 8) (hj : j < S.last) (hv : valid S j (p, h, s, u)) (hx : (S.rW m j (p, h, s, u)).1 = some x) (hl : LE S m (j + 1) le) : ∀ (r n q : Nat), (S.rW m j (p, h, s, u)).2.2.2 - q = r → r + 1 < n → q ≤ (S.rW m j (p, h, s, u)).2.2.2 → m_SpeciesSolverModel_follow_73 F (I S.L) (I S.n) (I S.K) (B S.ab) gi on nu pi le k32 n ln (I m) (I p) (I h) (I s) (I u) (I j) (I x) (I q) (I 0) = k32 (upd ln (j + 1) (I (S.P (S.rW m j (p, h, s, u)).2.2.2))) (I m) (I (S.rW m j (p, h, s, u)).2.2.2) (I (S.rnx m (j + 1) (p, h, s, u) (S.rW m j (p, h, s, u)).2.2.2).2.1) (I (S.rnx m (j + 1) (p, h, s, u) (S.rW m j (p, h, s, u)).2.2.2).2.2.1) (I (S.rnx m (j + 1) (p, h, s, u) (S.rW m j (p, h, s, u)).2.2.2).2.2.2) (I ((j + 1 : Nat) : Int))
  | 0, n, q, e, hn, hq => by
    obtain ⟨k, rfl⟩ : ∃ k, n = k + 2 := ⟨n - 2, by omega⟩
    have xr := rW_range hw hx
    obtain ⟨a1, a2, a3, a4⟩ := rW_min hj hx
    have eq : q = (S.rW m j (p, h, s, u)).2.2.2 := by omega
    rw [← eq] at a1 a2 a3 ⊢
    show m_SpeciesSolverModel_follow_73b F (I S.L) (I S.n) (I S.K) (B S.ab) gi on nu pi le k32 (m_SpeciesSolverModel_follow_73 F (I S.L) (I S.n) (I S.K) (B S.ab) gi on nu pi le k32 (k + 1)) ln (I m) (I p) (I h) (I s) (I u) (I j) (I x) (I q) (I 0) = _
    rw [r_fo_it hw C hF hL hp hc m0 m1 hj hv a1 xr.1 (by omega) hl, if_pos ⟨a2, a3⟩]
    show m_SpeciesSolverModel_follow_73b F (I S.L) (I S.n) (I S.K) (B S.ab) gi on nu pi le k32 (m_SpeciesSolverModel_follow_73 F (I S.L) (I S.n) (I S.K) (B S.ab) gi on nu pi le k32 k) ln (I m) (I p) (I h) (I s) (I u) (I j) (I x) (I q) (I 1) = _
    rw [r_fo_ex hw C hF hL hp hc m0 m1 hj hv a1]
  | r + 1, n, q, e, hn, hq => by
    obtain ⟨k, rfl⟩ : ∃ k, n = k + 1 := ⟨n - 1, by omega⟩
    have xr := rW_range hw hx
    obtain ⟨a1, a2, a3, a4⟩ := rW_min hj hx
    show m_SpeciesSolverModel_follow_73b F (I S.L) (I S.n) (I S.K) (B S.ab) gi on nu pi le k32 (m_SpeciesSolverModel_follow_73 F (I S.L) (I S.n) (I S.K) (B S.ab) gi on nu pi le k32 k) ln (I m) (I p) (I h) (I s) (I u) (I j) (I x) (I q) (I 0) = _
    rw [r_fo_it hw C hF hL hp hc m0 m1 hj hv (by omega) xr.1 (by omega) hl, if_neg (by
      intro e9
      obtain ⟨b1, y, b2, b3⟩ := e9
      have := a4 q (by omega) b1 y b2
      omega)]
    exact r_fo73 hw C hF hL hp hc m0 m1 hj hv hx hl r k (q + 1) (by omega) (by omega) (by omega)
theorem r_fo32 (hw : WF S) (C : RS S nu on gi) (hF : 2000 ≤ F) (hL : 0 < S.L) (hp : PP S pi) (hc : S.c ≤ 8) {le : Nat → Int32} {m x : Int} {t : RT} (m0 : -2 ≤ m) (m1 : m < 8) (hv : valid S 0 t) (hx : (S.rW m 0 t).1 = some x) (hl : ∀ i, i ≤ S.last → LE S m i le) : ∀ (r n j : Nat) (ln : Nat → Int32), S.last - j = r → r < n → j ≤ S.last → (∀ i, i ≤ j → ln i = I (S.P (S.rT m t i).1)) → Ok (m_SpeciesSolverModel_follow_32 F (I S.L) (I S.n) (I S.K) (B S.ab) gi on nu pi le n ln (I m) (I (S.rT m t j).1) (I (S.rT m t j).2.1) (I (S.rT m t j).2.2.1) (I (S.rT m t j).2.2.2) (I j)) (fun l => ∀ i, i ≤ S.last → l i = I (S.P (S.rT m t i).1))
  | 0, n, j, ln, e, hn, hj, ht => by
    obtain ⟨k, rfl⟩ : ∃ k, n = k + 1 := ⟨n - 1, by omega⟩
    have hN := WF_N hw; have hN2 := WF_N2 hw hL
    have hl2 : (S.last : Int) = S.N - 1 := by unfold Su.last; omega
    simp only [m_SpeciesSolverModel_follow_32, m_SpeciesSolverModel_follow_32b]
    simp (disch := omega) only [gd_I, nz_I, bd_S, gb_B, nar_B, I_add, I_sub, I_mul, I_neg, I_div, I_nat, I_lt, I_le, I_eq, B_0, B_1, L_0, L_1, L_2, L_3, L_4, L_5, L_6, L_7, L_8, L_9, L_10, L_11, L_12, L_13, L_14, L_15, L_16, L_17, L_24, L_31, L_45, L_80, L_127, L_200, L_640, L_1280, L_1000000000, T_0, T_1, T_2, T_3, T_4, T_5, T_6, T_7, T_8, T_9, T_10, T_11, T_12, T_13, T_14, T_15, T_16, T_17, r_size hw]
    rw [if_pos (by omega)]
    exact Ok_some (fun i hi => ht i (by omega))
  | r + 1, n, j, ln, e, hn, hj, ht => by
    obtain ⟨k, rfl⟩ : ∃ k, n = k + 1 := ⟨n - 1, by omega⟩
    have hN := WF_N hw; have hN2 := WF_N2 hw hL
    have hl2 : (S.last : Int) = S.N - 1 := by unfold Su.last; omega
    have v := rT_valid hw hc hv hx j (by omega)
    obtain ⟨y, hy⟩ := rT_some hx (by omega : j ≤ S.last)
    have es : S.rT m t (j + 1) = S.rnx m (j + 1) (S.rT m t j) (S.rW m j (S.rT m t j)).2.2.2 := rT_succ
    have es1 : (S.rT m t (j + 1)).1 = ((S.rW m j (S.rT m t j)).2.2.2 : Int) := by rw [es]; rfl
    have ih := r_fo32 hw C hF hL hp hc m0 m1 hv hx hl r k (j + 1) (upd ln (j + 1) (I (S.P (S.rW m j (S.rT m t j)).2.2.2))) (by omega) (by omega) (by omega) (fun i hi => by
      by_cases e2 : i = j + 1
      · subst e2; rw [upd_at, es1]
      · rw [upd_ne _ _ e2]; exact ht i (by omega))
    rw [es1, es] at ih
    generalize S.rT m t j = T at v hy es es1 ih ⊢
    obtain ⟨p, h, s, u⟩ := T
    have rc := rcode_r hc v
    have yr := rW_range hw hy
    have hle := hl j (by omega) _ v
    rw [hy] at hle
    have e3 : cI (some y) = y := rfl
    rw [e3] at hle
    obtain ⟨q1, _⟩ := rW_min (by omega) hy
    have ec : ((p * 10 + h) * 8 + s) * 2 + u = rcode (p, h, s, u) := rfl
    simp only [m_SpeciesSolverModel_follow_32, m_SpeciesSolverModel_follow_32b]
    rw [r_size hw, bd_S, r_state, bd_S, ec]
    simp (disch := omega) only [gd_I, nz_I, bd_S, gb_B, nar_B, I_add, I_sub, I_mul, I_neg, I_div, I_nat, I_lt, I_le, I_eq, B_0, B_1, L_0, L_1, L_2, L_3, L_4, L_5, L_6, L_7, L_8, L_9, L_10, L_11, L_12, L_13, L_14, L_15, L_16, L_17, L_24, L_31, L_45, L_80, L_127, L_200, L_640, L_1280, L_1000000000, T_0, T_1, T_2, T_3, T_4, T_5, T_6, T_7, T_8, T_9, T_10, T_11, T_12, T_13, T_14, T_15, T_16, T_17, hle]
    rw [if_neg (by omega)]
    have f := r_fo73 hw C hF hL hp hc (k32 := m_SpeciesSolverModel_follow_32 F (I S.L) (I S.n) (I S.K) (B S.ab) gi on nu pi le k) (ln := ln) m0 m1 (by omega) v hy (hl (j + 1) (by omega)) _ F 0 rfl (by omega) (by omega)
    have e0 : ((0 : Nat) : Int) = 0 := rfl
    rw [e0] at f
    rw [f]
    exact ih
end
