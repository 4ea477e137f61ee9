/-! pure part: the class's search, its small methods -/
def PT (S : Su) (np mp vp mt bc bt ps sp : Nat → Int32) : Prop := NT S np mp (S.N * 8) ∧ MT S vp mt bc 64 ∧ TT S bt ps 512 ∧ ST S sp 768
def good (S : Su) (x : Int) : Prop := (0 ≤ x ∧ x < 3072) ∧ (x % 8 < S.c ∧ x / 8 % 8 < S.c ∧ x / 64 % 8 < S.c) ∧ (0 < x / 1024 → x / 8 % 8 = x % 8)
section
variable {S : Su} {np mp vp mt bc bt ps sp : Nat → Int32}
theorem mal_r (hw : WF S) : 0 ≤ S.mal ∧ S.mal ≤ 3 := by
  have := WF_11 hw
  unfold Su.mal; split <;> omega
theorem c_over {t x q : Int} (x0 : 0 ≤ x) (x1 : x < 3072) (t0 : 0 ≤ t) (t1 : t ≤ 8) (q0 : 0 ≤ q) (q1 : q < 8) : m_Search_isOverTop (I t) (I x) (I q) = some (B (decide (t < q) || (decide (q = t) && decide (x / 512 % 2 = 1)))) := by
  unfold m_Search_isOverTop
  simp (disch := omega) only [gd_I, nz_I, bd_S, gb_B, nar_B, I_add, I_sub, I_mul, I_neg, I_div, I_nat, I_lt, I_le, I_eq, B_0, B_1, L_0, L_1, L_2, L_3, L_4, L_5, L_6, L_7, L_8, L_9, L_10, L_11, L_12, L_13, L_14, L_15, L_16, L_17, L_24, L_31, L_45, L_80, L_127, L_200, L_640, L_1280, L_1000000000, T_0, T_1, T_2, T_3, T_4, T_5, T_6, T_7, T_8, T_9, T_10, T_11, T_12, T_13, T_14, T_15, T_16, T_17, I_shr9, I_mask1]
  by_cases e1 : t < q
  · simp [e1, B]
  · by_cases e2 : q = t
    · by_cases e3 : x / 512 % 2 = 1 <;> simp [e2, e3, B]
    · simp [e1, e2, B]
theorem c_often (hw : WF S) {x q : Int} (x0 : 0 ≤ x) (x1 : x < 3072) (q0 : 0 ≤ q) (q1 : q < 8) : m_Search_isOnceTooOften (I S.mal) (I x) (I q) = some (B (decide (0 < S.mal) && (decide (q = x % 8) && decide (S.mal ≤ x / 1024 + 1)))) := by
  have := mal_r hw
  unfold m_Search_isOnceTooOften
  simp (disch := omega) only [gd_I, nz_I, bd_S, gb_B, nar_B, I_add, I_sub, I_mul, I_neg, I_div, I_nat, I_lt, I_le, I_eq, B_0, B_1, L_0, L_1, L_2, L_3, L_4, L_5, L_6, L_7, L_8, L_9, L_10, L_11, L_12, L_13, L_14, L_15, L_16, L_17, L_24, L_31, L_45, L_80, L_127, L_200, L_640, L_1280, L_1000000000, T_0, T_1, T_2, T_3, T_4, T_5, T_6, T_7, T_8, T_9, T_10, T_11, T_12, T_13, T_14, T_15, T_16, T_17, I_shr10, I_mask7]
  by_cases e1 : S.mal ≤ 0
  · have e2 : ¬ 0 < S.mal := by omega
    simp [e1, e2, B]
  · have e2 : 0 < S.mal := by omega
    by_cases e3 : q = x % 8
    · by_cases e4 : x / 1024 + 1 < S.mal
      · have e5 : ¬ S.mal ≤ x / 1024 + 1 := by omega
        simp [e1, e2, e3, e4, e5, B]
      · have e5 : S.mal ≤ x / 1024 + 1 := by omega
        simp [e1, e2, e3, e4, e5, B]
    · simp [e1, e2, e3, B]
theorem c_badTurn (hw : WF S) (hp : PT S np mp vp mt bc bt ps sp) (hc : S.c ≤ 8) {j y a q : Int} (j0 : 1 ≤ j) (j1 : j < S.N) (y0 : 0 ≤ y) (y1 : y < S.c) (a0 : 0 ≤ a) (a1 : a < S.c) (q0 : 0 ≤ q) (q1 : q < S.c) : m_Prices_isBadTurn mp bt ps (I j) (I y) (I a) (I q) = some (B (decide (2 ≤ j) && (S.tbad (S.P y) (S.P a) (S.P q) || (S.pmust (j - 1) (S.P a) && ! S.pass (S.P y) (S.P a) (S.P q))))) := by
  have hN := WF_N hw
  obtain ⟨hn, _, ht, _⟩ := hp
  obtain ⟨t1, t2⟩ := ht y a q y0 y1 a0 a1 q0 q1 (by omega)
  obtain ⟨_, n2⟩ := hn (j - 1) a (by omega) (by omega) a0 a1 (by omega)
  unfold m_Prices_isBadTurn
  by_cases e1 : j < 2
  · have e2 : ¬ 2 ≤ j := by omega
    simp (disch := omega) only [gd_I, nz_I, bd_S, gb_B, nar_B, I_add, I_sub, I_mul, I_neg, I_div, I_nat, I_lt, I_le, I_eq, B_0, B_1, L_0, L_1, L_2, L_3, L_4, L_5, L_6, L_7, L_8, L_9, L_10, L_11, L_12, L_13, L_14, L_15, L_16, L_17, L_24, L_31, L_45, L_80, L_127, L_200, L_640, L_1280, L_1000000000, T_0, T_1, T_2, T_3, T_4, T_5, T_6, T_7, T_8, T_9, T_10, T_11, T_12, T_13, T_14, T_15, T_16, T_17]
    simp [e1, e2, B]
  · have e2 : 2 ≤ j := by omega
    simp (disch := omega) only [gd_I, nz_I, bd_S, gb_B, nar_B, I_add, I_sub, I_mul, I_neg, I_div, I_nat, I_lt, I_le, I_eq, B_0, B_1, L_0, L_1, L_2, L_3, L_4, L_5, L_6, L_7, L_8, L_9, L_10, L_11, L_12, L_13, L_14, L_15, L_16, L_17, L_24, L_31, L_45, L_80, L_127, L_200, L_640, L_1280, L_1000000000, T_0, T_1, T_2, T_3, T_4, T_5, T_6, T_7, T_8, T_9, T_10, T_11, T_12, T_13, T_14, T_15, T_16, T_17, t1, t2, n2]
    cases S.tbad (S.P y) (S.P a) (S.P q) <;> cases S.pmust (j - 1) (S.P a) <;> cases S.pass (S.P y) (S.P a) (S.P q) <;> simp [e1, e2, B]
theorem c_badEnd (hw : WF S) (hp : PT S np mp vp mt bc bt ps sp) (hc : S.c ≤ 8) {t x q : Int} (x0 : 0 ≤ x) (x1 : x < 3072) (xl : x % 8 < S.c) (t0 : 0 ≤ t) (t1 : t ≤ 8) (q0 : 0 ≤ q) (q1 : q < S.c) : m_Search_isBadEnd (I S.c) bc (I t) (I x) (I q) = some (B ((decide (t < S.c) && (decide (q ≠ t) && decide (x / 512 % 2 = 0))) || S.cbad (S.P (x % 8)) (S.P q))) := by
  obtain ⟨_, hm, _, _⟩ := hp
  obtain ⟨_, _, m3⟩ := hm (x % 8) q (by omega) xl q0 q1 (by omega)
  unfold m_Search_isBadEnd m_Search_isBadEnd_35 m_Search_isBadEnd_36
  simp (disch := omega) only [gd_I, nz_I, bd_S, gb_B, nar_B, I_add, I_sub, I_mul, I_neg, I_div, I_nat, I_lt, I_le, I_eq, B_0, B_1, L_0, L_1, L_2, L_3, L_4, L_5, L_6, L_7, L_8, L_9, L_10, L_11, L_12, L_13, L_14, L_15, L_16, L_17, L_24, L_31, L_45, L_80, L_127, L_200, L_640, L_1280, L_1000000000, T_0, T_1, T_2, T_3, T_4, T_5, T_6, T_7, T_8, T_9, T_10, T_11, T_12, T_13, T_14, T_15, T_16, T_17, I_shr9, I_mask1, I_mask7, m3]
  by_cases e1 : (S.c : Int) ≤ t
  · have e2 : ¬ t < S.c := by omega
    cases S.cbad (S.P (x % 8)) (S.P q) <;> simp [e1, e2, B]
  · have e2 : t < S.c := by omega
    by_cases e3 : q = t
    · cases S.cbad (S.P (x % 8)) (S.P q) <;> simp [e1, e2, e3, B]
    · by_cases e4 : x / 512 % 2 = 0
      · cases S.cbad (S.P (x % 8)) (S.P q) <;> simp [e1, e2, e3, e4, B]
      · cases S.cbad (S.P (x % 8)) (S.P q) <;> simp [e1, e2, e3, e4, B]
theorem c_ends (hw : WF S) {j : Int} (j0 : 0 ≤ j) (j1 : j < 45) : m_Prices_endsStrongMove (I S.K) (I j) = some (B (S.ends j)) := by
  have := WF_K4 hw
  have e : 0 ≤ j - j / S.K * S.K ∧ j - j / S.K * S.K < 45 := by rcases WF_K hw with e | e | e <;> rw [e] <;> omega
  unfold m_Prices_endsStrongMove Su.ends Su.strong
  simp (disch := omega) only [gd_I, nz_I, bd_S, gb_B, nar_B, I_add, I_sub, I_mul, I_neg, I_div, I_nat, I_lt, I_le, I_eq, B_0, B_1, L_0, L_1, L_2, L_3, L_4, L_5, L_6, L_7, L_8, L_9, L_10, L_11, L_12, L_13, L_14, L_15, L_16, L_17, L_24, L_31, L_45, L_80, L_127, L_200, L_640, L_1280, L_1000000000, T_0, T_1, T_2, T_3, T_4, T_5, T_6, T_7, T_8, T_9, T_10, T_11, T_12, T_13, T_14, T_15, T_16, T_17, ite_B]
  by_cases e1 : j < S.K
  · have e2 : ¬ S.K ≤ j := by omega
    simp [e1, e2, B]
  · have e2 : S.K ≤ j := by omega
    simp [e1, e2]
theorem c_strongPrice (hw : WF S) (hp : PT S np mp vp mt bc bt ps sp) (hc : S.c ≤ 8) {j a q : Int} (j0 : 1 ≤ j) (j1 : j < S.N) (he : S.ends j = true) (a0 : 0 ≤ a) (a1 : a < S.c) (q0 : 0 ≤ q) (q1 : q < S.c) : m_Prices_strongPrice (I S.K) sp (I j) (I a) (I q) = some (I (if S.sbad j (S.P a) (S.P q) then -1 else S.scost j (S.P a) (S.P q))) := by
  have hK := WF_K4 hw; have hn := WF_n hw; have hN := WF_N hw
  have q9 := WF_jK hw (by omega : 0 ≤ j) j1
  unfold Su.ends at he
  rw [Bool.and_eq_true] at he
  have hk := of_decide_eq_true he.1
  have hs := of_decide_eq_true he.2
  have k1 : 1 ≤ j / S.K := by rcases WF_K hw with e | e | e <;> rw [e] at hk ⊢ <;> omega
  have ek : j / S.K * S.K = j := by omega
  obtain ⟨_, _, _, hst⟩ := hp
  have s1 := hst (j / S.K) a q k1 q9.2 a0 a1 q0 q1 (by omega)
  unfold Su.spv at s1
  rw [ek] at s1
  unfold m_Prices_strongPrice
  simp (disch := omega) only [gd_I, nz_I, bd_S, gb_B, nar_B, I_add, I_sub, I_mul, I_neg, I_div, I_nat, I_lt, I_le, I_eq, B_0, B_1, L_0, L_1, L_2, L_3, L_4, L_5, L_6, L_7, L_8, L_9, L_10, L_11, L_12, L_13, L_14, L_15, L_16, L_17, L_24, L_31, L_45, L_80, L_127, L_200, L_640, L_1280, L_1000000000, T_0, T_1, T_2, T_3, T_4, T_5, T_6, T_7, T_8, T_9, T_10, T_11, T_12, T_13, T_14, T_15, T_16, T_17, s1]
theorem c_priceOf (hw : WF S) (hp : PT S np mp vp mt bc bt ps sp) (hc : S.c ≤ 8) {t x : Int} {cl : Bool} {j q : Nat} (hx : good S x) (t0 : 0 ≤ t) (t1 : t ≤ 8) (j0 : 1 ≤ j) (j1 : (j : Int) < S.N) (hq : q < S.c) : m_Search_priceOf (I S.c) (I S.N) (I S.K) (I S.mal) np mp vp bc bt ps sp (I t) (B cl) (I j) (I x) (I q) = some (I (if S.cok t cl j x q then S.cpr j x q else -1)) := by
  have hN := WF_N hw
  obtain ⟨⟨x0, x1⟩, ⟨xl, xb, xs⟩, _⟩ := hx
  have hp9 := hp
  obtain ⟨hn, hm, _, _⟩ := hp
  obtain ⟨n1, _⟩ := hn j q (by omega) j1 (by omega) (by omega) (by omega)
  obtain ⟨m1, _, _⟩ := hm (x % 8) q (by omega) xl (by omega) (by omega) (by omega)
  have nr := ncost_r hw j (S.P q)
  have pl := P_range hw (by omega : 0 ≤ x % 8) xl
  have pq := P_range hw (by omega : (0 : Int) ≤ q) (by omega : (q : Int) < S.c)
  have mr := mcost_r hw pl.1 pl.2 pq.1 pq.2
  have sr := scost_r hw j (S.P (x / 64 % 8)) (S.P q)
  have nv : -1 ≤ S.npv j q ∧ S.npv j q ≤ 3000 := by unfold Su.npv; split <;> omega
  have mv : -1 ≤ S.mpv (x % 8) q ∧ S.mpv (x % 8) q ≤ 129000 := by unfold Su.mpv; split <;> omega
  have e122 : m_Search_priceOf_122 (I S.c) (I S.N) (I S.K) (I S.mal) np mp vp bc bt ps sp (I t) (B cl) (I j) (I x) (I q) (I (S.npv j q)) (I (S.mpv (x % 8) q)) = some (I (if S.ends j && S.sbad j (S.P (x / 64 % 8)) (S.P q) then -1 else S.npv j q + S.mpv (x % 8) q + (if S.ends j then S.scost j (S.P (x / 64 % 8)) (S.P q) else 0))) := by
    unfold m_Search_priceOf_122
    simp (disch := omega) only [gd_I, nz_I, bd_S, gb_B, nar_B, I_add, I_sub, I_mul, I_neg, I_div, I_nat, I_lt, I_le, I_eq, B_0, B_1, L_0, L_1, L_2, L_3, L_4, L_5, L_6, L_7, L_8, L_9, L_10, L_11, L_12, L_13, L_14, L_15, L_16, L_17, L_24, L_31, L_45, L_80, L_127, L_200, L_640, L_1280, L_1000000000, T_0, T_1, T_2, T_3, T_4, T_5, T_6, T_7, T_8, T_9, T_10, T_11, T_12, T_13, T_14, T_15, T_16, T_17, c_ends hw, I_shr6, I_mask7]
    cases he : S.ends j with
    | false => simp
    | true =>
      simp only [Bool.true_eq_false, if_false]
      rw [c_strongPrice hw hp9 hc (by omega) j1 he (by omega) xs (by omega) (by omega), bd_S]
      cases hs : S.sbad j (S.P (x / 64 % 8)) (S.P q) with
      | true => simp
      | false =>
        simp only [Bool.false_eq_true, if_false, Bool.and_false, if_true]
        simp (disch := omega) only [gd_I, nz_I, bd_S, gb_B, nar_B, I_add, I_sub, I_mul, I_neg, I_div, I_nat, I_lt, I_le, I_eq, B_0, B_1, L_0, L_1, L_2, L_3, L_4, L_5, L_6, L_7, L_8, L_9, L_10, L_11, L_12, L_13, L_14, L_15, L_16, L_17, L_24, L_31, L_45, L_80, L_127, L_200, L_640, L_1280, L_1000000000, T_0, T_1, T_2, T_3, T_4, T_5, T_6, T_7, T_8, T_9, T_10, T_11, T_12, T_13, T_14, T_15, T_16, T_17]
        rw [if_neg (by omega)]
  have eo := c_over (q := q) x0 x1 t0 t1 (by omega) (by omega)
  have eof := c_often hw (q := q) x0 x1 (by omega) (by omega)
  have ebt := c_badTurn hw hp9 hc (j := j) (y := x / 8 % 8) (a := x % 8) (q := q) (by omega) j1 (by omega) xb (by omega) xl (by omega) (by omega)
  have ebe := c_badEnd hw hp9 hc (q := q) x0 x1 xl t0 t1 (by omega) (by omega)
  have f1 : I x &&& I 7 = I (x % 8) := I_mask7 x0 (by omega)
  have f2 : I x >>> (I 3 &&& I 31) = I (x / 8) := I_shr3 x0 (by omega)
  have f3 : I (x / 8) &&& I 7 = I (x / 8 % 8) := I_mask7 (by omega) (by omega)
  have f4 : (I ((j : Int) * 8 + q)).toNatClampNeg = ((j : Int) * 8 + q).toNat := I_nat (by omega) (by omega)
  have f5 : (I (x % 8 * 8 + q)).toNatClampNeg = (x % 8 * 8 + q).toNat := I_nat (by omega) (by omega)
  unfold m_Search_priceOf
  simp only [L_0, L_1, L_3, L_7, L_8, L_31, I_neg, f1, f2, f3, I_mul, I_add, I_sub]
  rw [gd_I (by omega) (by omega) (by omega), gd_I (by omega) (by omega) (by omega)]
  simp only [f4, f5, n1, m1, eo, eof, ebt, ebe, e122, bd_S, B_0]
  have g1 : (I (S.npv j q) = I (-1)) = (S.npv j q = -1) := I_eq (by omega) (by omega) (by omega) (by omega)
  have g2 : (I (S.mpv (x % 8) q) = I (-1)) = (S.mpv (x % 8) q = -1) := I_eq (by omega) (by omega) (by omega) (by omega)
  have g3 : (I (j : Int) = I (S.N - 1)) = ((j : Int) = S.N - 1) := I_eq (by omega) (by omega) (by omega) (by omega)
  simp only [g1, g2, g3]
  unfold Su.cok Su.cpr
  have ej : (2 ≤ (j : Int)) = (2 ≤ j) := by apply propext; omega
  simp only [ej]
  by_cases a1 : S.nbad j (S.P q) = true
  · have : S.npv j q = -1 := by unfold Su.npv; rw [if_pos a1]
    rw [if_pos this, a1]; simp
  · have a1' : S.nbad j (S.P q) = false := by simpa using a1
    have en : S.npv j q = S.ncost j (S.P q) := by unfold Su.npv; rw [if_neg a1]
    rw [if_neg (by omega), a1']
    by_cases a2 : S.mbad (S.P (x % 8)) (S.P q) = true
    · have : S.mpv (x % 8) q = -1 := by unfold Su.mpv; rw [if_pos a2]
      rw [if_pos this, a2]; simp
    · have a2' : S.mbad (S.P (x % 8)) (S.P q) = false := by simpa using a2
      have em : S.mpv (x % 8) q = S.mcost (S.P (x % 8)) (S.P q) := by unfold Su.mpv; rw [if_neg a2]
      rw [if_neg (by omega), a2', en, em]
      generalize (decide (t < (q : Int)) || (decide ((q : Int) = t) && decide (x / 512 % 2 = 1))) = b1
      generalize (decide (0 < S.mal) && (decide ((q : Int) = x % 8) && decide (S.mal ≤ x / 1024 + 1))) = b2
      generalize (decide (2 ≤ j) && (S.tbad (S.P (x / 8 % 8)) (S.P (x % 8)) (S.P q) || (S.pmust ((j : Int) - 1) (S.P (x % 8)) && ! S.pass (S.P (x / 8 % 8)) (S.P (x % 8)) (S.P q)))) = b3
      generalize ((decide (t < (S.c : Int)) && (decide ((q : Int) ≠ t) && decide (x / 512 % 2 = 0))) || S.cbad (S.P (x % 8)) (S.P q)) = b4
      generalize (S.ends j && S.sbad j (S.P (x / 64 % 8)) (S.P q)) = b5
      by_cases e9 : (j : Int) = S.N - 1
      · cases b1 <;> cases b2 <;> cases b3 <;> cases b4 <;> cases b5 <;> cases cl <;> simp [e9]
      · cases b1 <;> cases b2 <;> cases b3 <;> cases b4 <;> cases b5 <;> cases cl <;> simp [e9]
theorem c_looks (hw : WF S) (hp : PT S np mp vp mt bc bt ps sp) (hc : S.c ≤ 8) {j a q : Int} (j0 : 0 ≤ j) (j1 : j < S.N) (a0 : 0 ≤ a) (a1 : a < S.c) (q0 : 0 ≤ q) (q1 : q < S.c) : m_Prices_looksBack mp mt (I j) (I a) (I q) = some (B (S.looks j a q)) := by
  have hN := WF_N hw
  obtain ⟨hn, hm, _, _⟩ := hp
  obtain ⟨_, n2⟩ := hn j q j0 j1 q0 q1 (by omega)
  obtain ⟨_, m2, _⟩ := hm a q a0 a1 q0 q1 (by omega)
  unfold m_Prices_looksBack Su.looks
  simp (disch := omega) only [gd_I, nz_I, bd_S, gb_B, nar_B, I_add, I_sub, I_mul, I_neg, I_div, I_nat, I_lt, I_le, I_eq, B_0, B_1, L_0, L_1, L_2, L_3, L_4, L_5, L_6, L_7, L_8, L_9, L_10, L_11, L_12, L_13, L_14, L_15, L_16, L_17, L_24, L_31, L_45, L_80, L_127, L_200, L_640, L_1280, L_1000000000, T_0, T_1, T_2, T_3, T_4, T_5, T_6, T_7, T_8, T_9, T_10, T_11, T_12, T_13, T_14, T_15, T_16, T_17, n2, m2]
  cases S.pmust j (S.P q) <;> cases (S.on 6 && S.turn (S.P a) (S.P q)) <;> simp [B]
theorem c_stateAfter (hw : WF S) (hp : PT S np mp vp mt bc bt ps sp) (hc : S.c ≤ 8) {t x : Int} {j q : Nat} (hx : good S x) (t0 : 0 ≤ t) (t1 : t ≤ 8) (j1 : (j : Int) < S.N) (hq : q < S.c) (ha : (q : Int) = x % 8 → 0 < S.mal → x / 1024 + 1 < 3) : m_Search_stateAfter (I S.K) (I S.mal) mp mt (I t) (I j) (I x) (I q) = some (I (S.cnx t j x q)) := by
  have hN := WF_N hw; have hK := WF_K4 hw; have hm := mal_r hw
  obtain ⟨⟨x0, x1⟩, ⟨xl, xb, xs⟩, _⟩ := hx
  have e : 0 ≤ (j : Int) - j / S.K * S.K ∧ (j : Int) - j / S.K * S.K < 45 := by rcases WF_K hw with e | e | e <;> rw [e] <;> omega
  have e71 : ∀ (b s u : Int), 0 ≤ b → b < 8 → 0 ≤ s → s < 8 → 0 ≤ u → u < 2 → m_Search_stateAfter_71 (I S.K) (I S.mal) mp mt (I t) (I x) (I q) (I (x % 8)) (I b) (I s) (I u) = some (I (q + b * 8 + s * 64 + u * 512 + (if (q : Int) = x % 8 ∧ 0 < S.mal then x / 1024 + 1 else 0) * 1024)) := by
    intro b s u b0 b1 s0 s1 u0 u1
    unfold m_Search_stateAfter_71
    by_cases e1 : (q : Int) = x % 8
    · by_cases e2 : 0 < S.mal
      · have h3 := ha e1 e2
        have hA : (if (q : Int) = x % 8 ∧ 0 < S.mal then x / 1024 + 1 else 0) = x / 1024 + 1 := if_pos ⟨e1, e2⟩
        rw [hA]
        unfold m_Search_stateAfter_98 m_Search_stateAfter_99
        simp (disch := omega) only [gd_I, nz_I, bd_S, gb_B, nar_B, I_add, I_sub, I_mul, I_neg, I_div, I_nat, I_lt, I_le, I_eq, B_0, B_1, L_0, L_1, L_2, L_3, L_4, L_5, L_6, L_7, L_8, L_9, L_10, L_11, L_12, L_13, L_14, L_15, L_16, L_17, L_24, L_31, L_45, L_80, L_127, L_200, L_640, L_1280, L_1000000000, T_0, T_1, T_2, T_3, T_4, T_5, T_6, T_7, T_8, T_9, T_10, T_11, T_12, T_13, T_14, T_15, T_16, T_17, I_shr10, I_shl3, I_shl6, I_shl9, I_shl10, I_pack]
        (repeat' split) <;> (first | rfl | omega)
      · have hA : (if (q : Int) = x % 8 ∧ 0 < S.mal then x / 1024 + 1 else 0) = 0 := if_neg (fun h => e2 h.2)
        rw [hA]
        unfold m_Search_stateAfter_98 m_Search_stateAfter_99
        have e3 : S.mal ≤ 0 := by omega
        simp only [L_0, L_1, L_3, L_6, L_9, L_10, L_31]
        rw [if_pos (by rw [e1]), if_pos (by rw [I_le (by omega) (by omega) (by omega) (by omega)]; exact e3)]
        simp (disch := omega) only [gd_I, nz_I, bd_S, gb_B, nar_B, I_add, I_sub, I_mul, I_neg, I_div, I_nat, I_lt, I_le, I_eq, B_0, B_1, L_0, L_1, L_2, L_3, L_4, L_5, L_6, L_7, L_8, L_9, L_10, L_11, L_12, L_13, L_14, L_15, L_16, L_17, L_24, L_31, L_45, L_80, L_127, L_200, L_640, L_1280, L_1000000000, T_0, T_1, T_2, T_3, T_4, T_5, T_6, T_7, T_8, T_9, T_10, T_11, T_12, T_13, T_14, T_15, T_16, T_17, I_shl3, I_shl6, I_shl9, I_shl10, I_pack]
    · have hA : (if (q : Int) = x % 8 ∧ 0 < S.mal then x / 1024 + 1 else 0) = 0 := if_neg (fun h => e1 h.1)
      rw [hA]
      unfold m_Search_stateAfter_98 m_Search_stateAfter_99
      simp only [L_0, L_1, L_3, L_6, L_9, L_10, L_31]
      rw [if_neg (by rw [I_eq (by omega) (by omega) (by omega) (by omega)]; exact e1)]
      simp (disch := omega) only [gd_I, nz_I, bd_S, gb_B, nar_B, I_add, I_sub, I_mul, I_neg, I_div, I_nat, I_lt, I_le, I_eq, B_0, B_1, L_0, L_1, L_2, L_3, L_4, L_5, L_6, L_7, L_8, L_9, L_10, L_11, L_12, L_13, L_14, L_15, L_16, L_17, L_24, L_31, L_45, L_80, L_127, L_200, L_640, L_1280, L_1000000000, T_0, T_1, T_2, T_3, T_4, T_5, T_6, T_7, T_8, T_9, T_10, T_11, T_12, T_13, T_14, T_15, T_16, T_17, I_shl3, I_shl6, I_shl9, I_shl10, I_pack]
  have e26 : ∀ (b : Int), 0 ≤ b → b < 8 → m_Search_stateAfter_26 (I S.K) (I S.mal) mp mt (I t) (I j) (I x) (I q) (I (x % 8)) (I b) = some (I (q + b * 8 + (if S.strong j then (q : Int) else x / 64 % 8) * 64 + (if (q : Int) = t then 1 else x / 512 % 2) * 512 + (if (q : Int) = x % 8 ∧ 0 < S.mal then x / 1024 + 1 else 0) * 1024)) := by
    intro b b0 b1
    unfold m_Search_stateAfter_26 m_Search_stateAfter_51 Su.strong
    simp (disch := omega) only [gd_I, nz_I, bd_S, gb_B, nar_B, I_add, I_sub, I_mul, I_neg, I_div, I_nat, I_lt, I_le, I_eq, B_0, B_1, L_0, L_1, L_2, L_3, L_4, L_5, L_6, L_7, L_8, L_9, L_10, L_11, L_12, L_13, L_14, L_15, L_16, L_17, L_24, L_31, L_45, L_80, L_127, L_200, L_640, L_1280, L_1000000000, T_0, T_1, T_2, T_3, T_4, T_5, T_6, T_7, T_8, T_9, T_10, T_11, T_12, T_13, T_14, T_15, T_16, T_17, I_shr6, I_shr9, I_mask7, I_mask1, e71]
    by_cases e1 : (j : Int) - j / S.K * S.K = 0 <;> by_cases e2 : (q : Int) = t <;> simp [e1, e2]
  unfold m_Search_stateAfter Su.cnx
  simp (disch := omega) only [gd_I, nz_I, bd_S, gb_B, nar_B, I_add, I_sub, I_mul, I_neg, I_div, I_nat, I_lt, I_le, I_eq, B_0, B_1, L_0, L_1, L_2, L_3, L_4, L_5, L_6, L_7, L_8, L_9, L_10, L_11, L_12, L_13, L_14, L_15, L_16, L_17, L_24, L_31, L_45, L_80, L_127, L_200, L_640, L_1280, L_1000000000, T_0, T_1, T_2, T_3, T_4, T_5, T_6, T_7, T_8, T_9, T_10, T_11, T_12, T_13, T_14, T_15, T_16, T_17, I_mask7, c_looks hw hp hc, e26]
  cases S.looks j (x % 8) q <;> simp
theorem c_first {t q : Int} (t0 : 0 ≤ t) (t1 : t ≤ 8) (q0 : 0 ≤ q) (q1 : q < 8) : m_Search_firstState (I t) (I q) = some (I (q + q * 8 + q * 64 + (if q = t then 1 else 0) * 512)) := by
  unfold m_Search_firstState m_Search_firstState_13
  simp (disch := omega) only [gd_I, nz_I, bd_S, gb_B, nar_B, I_add, I_sub, I_mul, I_neg, I_div, I_nat, I_lt, I_le, I_eq, B_0, B_1, L_0, L_1, L_2, L_3, L_4, L_5, L_6, L_7, L_8, L_9, L_10, L_11, L_12, L_13, L_14, L_15, L_16, L_17, L_24, L_31, L_45, L_80, L_127, L_200, L_640, L_1280, L_1000000000, T_0, T_1, T_2, T_3, T_4, T_5, T_6, T_7, T_8, T_9, T_10, T_11, T_12, T_13, T_14, T_15, T_16, T_17, I_shl3, I_shl6, I_shl9, I_pack4]
  split <;> rfl
theorem c_restAt {j i : Int} (j0 : 0 ≤ j) (j1 : j < 100) : m_Search_restAt (I j) (I i) = some (I (par j + i)) := by
  unfold m_Search_restAt par
  have e : j % 2 = j - j / 2 * 2 := by omega
  simp (disch := omega) only [gd_I, nz_I, bd_S, gb_B, nar_B, I_add, I_sub, I_mul, I_neg, I_div, I_nat, I_lt, I_le, I_eq, B_0, B_1, L_0, L_1, L_2, L_3, L_4, L_5, L_6, L_7, L_8, L_9, L_10, L_11, L_12, L_13, L_14, L_15, L_16, L_17, L_24, L_31, L_45, L_80, L_127, L_200, L_640, L_1280, L_1000000000, T_0, T_1, T_2, T_3, T_4, T_5, T_6, T_7, T_8, T_9, T_10, T_11, T_12, T_13, T_14, T_15, T_16, T_17, I_mask1, e]
end
