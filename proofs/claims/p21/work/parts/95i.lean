/-! pure part: the class's gather -/
def GC (S : Su) (g : GG) (lc : Int32) (ll : Int64) (lo : Nat → Int32) : Prop := lc = I (cN g.1) ∧ (g.1 = none → ll = 0) ∧ (g.1 ≠ none → ll = g.2.2.1) ∧ (∀ x, g.1 = some x → (0 ≤ x ∧ x ≤ 9500000) ∧ ∀ i, i ≤ S.last → g.2.2.2 i < S.c ∧ lo i = I (g.2.2.2 i))
section
variable {S : Su} {F : Nat} {m t : Int}
theorem c_trace (hw : WF S) (hF : 2000 ≤ F) (hc : S.c ≤ 8) (hN2 : 2 ≤ S.N) {ls sz nx rc : Nat → Int32} {rl rt : Nat → Int64} {LL : Nat → List Int} {x0 y : Int} (hLL : ∀ i, i ≤ S.last → Lay ls sz i (LL i) ∧ GL S (LL i)) (hd : WD S t LL nx rc rl rt) (hy : (S.cW t 0 x0).1 = some y) : ∀ (r n j : Nat) (i : Nat) (tr : Nat → Int32), S.last + 1 - j = r → r < n → j ≤ S.last → i < (LL j).length → (LL j).getD i 0 = S.cT t x0 j → (∀ k, k < j → tr k = I (S.cT t x0 k % 8)) → Ok (m_Search_trace_4 F (I S.N) ls nx n tr (I i) (I j)) (fun u => ∀ k, k ≤ S.last → u k = I (S.cT t x0 k % 8))
  | 0, n, j, i, tr, e, hn, hj, hi, hx, ht => by omega
  | r + 1, n, j, i, tr, e, hn, hj, hi, hx, ht => by
    obtain ⟨k, rfl⟩ : ∃ k, n = k + 1 := ⟨n - 1, by omega⟩
    have hN := WF_N hw; have hl := last_N hN2
    obtain ⟨hlay, hg⟩ := hLL j hj
    have len := GL_len hc hg
    have et : ((j : Int) * 1280 + (i : Int)).toNat = j * 1280 + i := by omega
    have el := hlay.2 i hi
    have gd9 := (hg.2 _ (getD_mem hi)).1
    have ej : (j : Int) + 1 = ((j + 1 : Nat) : Int) := by omega
    have em := I_mask7 gd9.1 (by omega)
    simp only [m_Search_trace_4, m_Search_trace_4b]
    simp (disch := omega) only [gd_I, nz_I, bd_S, gb_B, nar_B, I_add, I_sub, I_mul, I_neg, I_div, I_nat, I_lt, I_le, I_eq, B_0, B_1, L_0, L_1, L_2, L_3, L_4, L_5, L_6, L_7, L_8, L_9, L_10, L_11, L_12, L_13, L_14, L_15, L_16, L_17, L_24, L_31, L_45, L_80, L_127, L_200, L_640, L_1280, L_1000000000, T_0, T_1, T_2, T_3, T_4, T_5, T_6, T_7, T_8, T_9, T_10, T_11, T_12, T_13, T_14, T_15, T_16, T_17, et, el, em, Int.toNat_natCast, ej]
    rw [if_neg (by omega), hx]
    have ht2 : ∀ k, k < j + 1 → upd tr j (I (S.cT t x0 j % 8)) k = I (S.cT t x0 k % 8) := by
      intro k2 hk2
      by_cases e2 : k2 = j
      · subst e2; exact upd_at _ _ _
      · rw [upd_ne _ _ e2]; exact ht k2 (by omega)
    by_cases e9 : j = S.last
    · obtain ⟨k2, rfl⟩ : ∃ k2, k = k2 + 1 := ⟨k - 1, by omega⟩
      simp only [m_Search_trace_4, m_Search_trace_4b]
      rw [if_pos (by rw [I_le (by omega) (by omega) (by omega) (by omega)]; omega)]
      exact Ok_some (fun k3 hk3 => ht2 k3 (by omega))
    · obtain ⟨z, hz⟩ := cT_some hy (by omega : j ≤ S.last)
      obtain ⟨p, p1, p2, p3⟩ := hd.2 j (by omega) i hi (by rw [hx, hz]; intro h; cases h)
      rw [p2]
      refine c_trace hw hF hc hN2 hLL hd hy r k (j + 1) p _ (by omega) (by omega) (by omega) p1 ?_ ht2
      rw [p3, hx, cT_succ]
theorem c_lower (hw : WF S) (hF : 2000 ≤ F) (hc : S.c ≤ 8) (hN2 : 2 ≤ S.N) {a b : Nat → Nat} {lo tr : Nat → Int32} (ha : ∀ i, i ≤ S.last → a i < S.c ∧ tr i = I (a i)) (hb : ∀ i, i ≤ S.last → b i < S.c ∧ lo i = I (b i)) : ∀ (r n j : Nat), S.last + 1 - j = r → r < n → j ≤ S.last + 1 → m_Search_isTracedLower_2 F (I S.N) lo tr n (I j) = some (B (lex a b r j))
  | 0, n, j, e, hn, hj => by
    obtain ⟨k, rfl⟩ : ∃ k, n = k + 1 := ⟨n - 1, by omega⟩
    have hN := WF_N hw; have hl := last_N hN2
    simp only [m_Search_isTracedLower_2, m_Search_isTracedLower_2b]
    simp (disch := omega) only [gd_I, nz_I, bd_S, gb_B, nar_B, I_add, I_sub, I_mul, I_neg, I_div, I_nat, I_lt, I_le, I_eq, B_0, B_1, L_0, L_1, L_2, L_3, L_4, L_5, L_6, L_7, L_8, L_9, L_10, L_11, L_12, L_13, L_14, L_15, L_16, L_17, L_24, L_31, L_45, L_80, L_127, L_200, L_640, L_1280, L_1000000000, T_0, T_1, T_2, T_3, T_4, T_5, T_6, T_7, T_8, T_9, T_10, T_11, T_12, T_13, T_14, T_15, T_16, T_17]
    rw [if_pos (by omega)]
    rfl
  | r + 1, n, j, e, hn, hj => by
    obtain ⟨k, rfl⟩ : ∃ k, n = k + 1 := ⟨n - 1, by omega⟩
    have hN := WF_N hw; have hl := last_N hN2
    obtain ⟨a1, a2⟩ := ha j (by omega); obtain ⟨b1, b2⟩ := hb j (by omega)
    have ih := c_lower hw hF hc hN2 ha hb r k (j + 1) (by omega) (by omega) (by omega)
    have ej : ((j + 1 : Nat) : Int) = (j : Int) + 1 := by omega
    rw [ej] at ih
    have el : lex a b (r + 1) j = (if a j = b j then lex a b r (j + 1) else decide (a j < b j)) := rfl
    rw [el]
    simp only [m_Search_isTracedLower_2, m_Search_isTracedLower_2b]
    simp (disch := omega) only [gd_I, nz_I, bd_S, gb_B, nar_B, I_add, I_sub, I_mul, I_neg, I_div, I_nat, I_lt, I_le, I_eq, B_0, B_1, L_0, L_1, L_2, L_3, L_4, L_5, L_6, L_7, L_8, L_9, L_10, L_11, L_12, L_13, L_14, L_15, L_16, L_17, L_24, L_31, L_45, L_80, L_127, L_200, L_640, L_1280, L_1000000000, T_0, T_1, T_2, T_3, T_4, T_5, T_6, T_7, T_8, T_9, T_10, T_11, T_12, T_13, T_14, T_15, T_16, T_17, Int.toNat_natCast, a2, b2, ih]
    rw [if_neg (by omega)]
    by_cases e1 : a j = b j
    · rw [if_pos (by omega), if_pos e1]
    · by_cases l1 : a j < b j
      · rw [if_neg (by omega), if_neg (by omega), if_neg e1, decide_eq_true l1]; rfl
      · rw [if_neg (by omega), if_pos (by omega), if_neg e1, decide_eq_false l1]; rfl
theorem c_keepT (hw : WF S) (hF : 2000 ≤ F) (hc : S.c ≤ 8) (hN2 : 2 ≤ S.N) {tr : Nat → Int32} : ∀ (r n j : Nat) (lo : Nat → Int32), S.last + 1 - j = r → r < n → j ≤ S.last + 1 → (∀ i, i < j → lo i = tr i) → Ok (m_Search_keepTraced_2 F (I S.N) tr n lo (I j)) (fun u => ∀ i, i ≤ S.last → u i = tr i)
  | 0, n, j, lo, e, hn, hj, ht => by
    obtain ⟨k, rfl⟩ : ∃ k, n = k + 1 := ⟨n - 1, by omega⟩
    have hN := WF_N hw; have hl := last_N hN2
    simp only [m_Search_keepTraced_2, m_Search_keepTraced_2b]
    simp (disch := omega) only [gd_I, nz_I, bd_S, gb_B, nar_B, I_add, I_sub, I_mul, I_neg, I_div, I_nat, I_lt, I_le, I_eq, B_0, B_1, L_0, L_1, L_2, L_3, L_4, L_5, L_6, L_7, L_8, L_9, L_10, L_11, L_12, L_13, L_14, L_15, L_16, L_17, L_24, L_31, L_45, L_80, L_127, L_200, L_640, L_1280, L_1000000000, T_0, T_1, T_2, T_3, T_4, T_5, T_6, T_7, T_8, T_9, T_10, T_11, T_12, T_13, T_14, T_15, T_16, T_17]
    rw [if_pos (by omega)]
    exact Ok_some (fun i hi => ht i (by omega))
  | r + 1, n, j, lo, e, hn, hj, ht => by
    obtain ⟨k, rfl⟩ : ∃ k, n = k + 1 := ⟨n - 1, by omega⟩
    have hN := WF_N hw; have hl := last_N hN2
    have ej : (j : Int) + 1 = ((j + 1 : Nat) : Int) := by omega
    simp only [m_Search_keepTraced_2, m_Search_keepTraced_2b]
    simp (disch := omega) only [gd_I, nz_I, bd_S, gb_B, nar_B, I_add, I_sub, I_mul, I_neg, I_div, I_nat, I_lt, I_le, I_eq, B_0, B_1, L_0, L_1, L_2, L_3, L_4, L_5, L_6, L_7, L_8, L_9, L_10, L_11, L_12, L_13, L_14, L_15, L_16, L_17, L_24, L_31, L_45, L_80, L_127, L_200, L_640, L_1280, L_1000000000, T_0, T_1, T_2, T_3, T_4, T_5, T_6, T_7, T_8, T_9, T_10, T_11, T_12, T_13, T_14, T_15, T_16, T_17, Int.toNat_natCast, ej]
    rw [if_neg (by omega)]
    refine c_keepT hw hF hc hN2 r k (j + 1) _ (by omega) (by omega) (by omega) (fun i hi => ?_)
    by_cases e2 : i = j
    · subst e2; exact upd_at _ _ _
    · rw [upd_ne _ _ e2]; exact ht i (by omega)
theorem c_gatherLeast (hw : WF S) (hF : 2000 ≤ F) (hc : S.c ≤ 8) (hN2 : 2 ≤ S.N) {ls nx lo tr : Nat → Int32} {ll lines : Int64} {lc : Int32} {g : GG} {ln : Nat → Nat} {i : Nat} {sum : Int} (s0 : 0 ≤ sum) (s1 : sum ≤ 9500000) (hln : ∀ k, k ≤ S.last → ln k < S.c) (hg : GC S g lc ll lo) (htr : ∀ tr, Ok (m_Search_trace F (I S.N) ls nx tr (I i)) (fun u => ∀ k, k ≤ S.last → u k = I (ln k))) (a : Int64) : Ok (m_Search_gatherLeast F (I S.N) ls nx lc ll lo tr (I i) (I sum) lines) (fun u => GC S (wayG (S.last + 1) g sum a lines ln) u.1 u.2.1 u.2.2.1) := by
  obtain ⟨gc, ga, gt, gl⟩ := g
  obtain ⟨g1, g2, g3, g4⟩ := hg
  simp only at g1 g2 g3 g4
  subst g1
  have l44 := last45 hw
  have rng := cN_r (fun x hx => (g4 x hx).1)
  have keep : ∀ (tr2 : Nat → Int32) (lo : Nat → Int32) (c : Int32) (b : Int64), (∀ k, k ≤ S.last → tr2 k = I (ln k)) → Ok (m_Search_gatherLeast_81 F (I S.N) ls nx (I sum) b lo tr2) (fun u => u.1 = I sum ∧ u.2.1 = b ∧ ∀ k, k ≤ S.last → u.2.2.1 k = I (ln k)) := by
    intro tr2 lo c b h9
    unfold m_Search_gatherLeast_81 m_Search_keepTraced
    rw [L_0, show I 0 = I ((0 : Nat) : Int) from rfl]
    refine Ok_bd (c_keepT hw hF hc hN2 _ F 0 lo rfl (by omega) (by omega) (fun i hi => absurd hi (Nat.not_lt_zero i))) (fun u hu => Ok_some ⟨rfl, rfl, fun k hk => ?_⟩)
    simp only
    rw [hu k hk, h9 k hk]
  have new : ∀ (b : Int64), Ok (m_Search_gatherLeast_33 F (I S.N) ls nx (I (cN gc)) ll lo tr (I i) (I sum) lines) (fun u => u.1 = I sum ∧ u.2.1 = lines ∧ ∀ k, k ≤ S.last → u.2.2.1 k = I (ln k)) := by
    intro b
    unfold m_Search_gatherLeast_33 m_Search_gatherLeast_38
    rw [if_neg (by decide)]
    unfold m_Search_gatherLeast_56
    refine Ok_bd (htr tr) (fun u hu => ?_)
    rw [if_neg (by decide)]
    exact keep u lo (I sum) lines hu
  cases gc with
  | none =>
    have ec : cN (none : Option Int) = -1 := rfl
    have eW : wayG (S.last + 1) (none, ga, gt, gl) sum a lines ln = (some sum, ga + a, lines, ln) := rfl
    rw [eW]
    rw [ec] at new ⊢
    unfold m_Search_gatherLeast m_Search_gatherLeast_17
    rw [show (-1 : Int32) = I (-1) from rfl, if_pos rfl, if_pos rfl]
    refine Ok_mono (new ll) ?_
    rintro u ⟨u1, u2, u3⟩
    exact ⟨u1, fun h => (by cases h), fun _ => u2, fun x hx => (by injection hx with hx; subst hx; exact ⟨⟨s0, s1⟩, fun i hi => ⟨hln i hi, u3 i hi⟩⟩)⟩
  | some y =>
    have yr := (g4 y rfl).1
    have ec : cN (some y) = y := rfl
    rw [ec] at new ⊢
    have gl9 : ll = gt := g3 (fun h => by cases h)
    unfold m_Search_gatherLeast m_Search_gatherLeast_17
    rw [show (-1 : Int32) = I (-1) from rfl]
    have c1 : ¬ I y = I (-1) := by rw [I_eq (by omega) (by omega) (by omega) (by omega)]; omega
    rw [if_neg c1, if_neg c1]
    by_cases l1 : y < sum
    · have eW : wayG (S.last + 1) (some y, ga, gt, gl) sum a lines ln = (some y, ga + a, gt, gl) := by unfold wayG; simp only; rw [if_pos l1]
      rw [eW, if_neg (by rw [I_le (by omega) (by omega) (by omega) (by omega)]; omega)]
      exact Ok_some ⟨rfl, fun h => (by cases h), fun _ => gl9, g4⟩
    · rw [if_pos (by rw [I_le (by omega) (by omega) (by omega) (by omega)]; omega)]
      by_cases l2 : sum < y
      · have eW : wayG (S.last + 1) (some y, ga, gt, gl) sum a lines ln = (some sum, ga + a, lines, ln) := by unfold wayG; simp only; rw [if_neg l1, if_pos l2]
        rw [eW, if_neg (by rw [I_le (by omega) (by omega) (by omega) (by omega)]; omega)]
        refine Ok_mono (new ll) ?_
        rintro u ⟨u1, u2, u3⟩
        exact ⟨u1, fun h => (by cases h), fun _ => u2, fun x hx => (by injection hx with hx; subst hx; exact ⟨⟨s0, s1⟩, fun i hi => ⟨hln i hi, u3 i hi⟩⟩)⟩
      · have l3 : sum = y := by omega
        have eW : wayG (S.last + 1) (some y, ga, gt, gl) sum a lines ln = (some sum, ga + a, gt + lines, if lex ln gl (S.last + 1) 0 then ln else gl) := by unfold wayG; simp only; rw [if_neg l1, if_neg l2]
        rw [eW, if_pos (by rw [I_le (by omega) (by omega) (by omega) (by omega)]; omega)]
        unfold m_Search_gatherLeast_38
        rw [if_pos rfl]
        unfold m_Search_gatherLeast_56
        refine Ok_bd (htr tr) (fun tr2 hu => ?_)
        rw [if_pos rfl]
        have lw := c_lower hw hF hc hN2 (a := ln) (b := gl) (lo := lo) (tr := tr2) (fun k hk => ⟨hln k hk, hu k hk⟩) (fun k hk => (g4 y rfl).2 k hk) _ F 0 rfl (by omega) (by omega)
        have lw2 : m_Search_isTracedLower F (I S.N) lo tr2 = some (B (lex ln gl (S.last + 1) 0)) := lw
        rw [lw2, bd_S, L_0]
        simp only [B_0]
        cases hx : lex ln gl (S.last + 1) 0 with
        | false =>
          simp only [if_true]
          refine Ok_some ⟨rfl, fun h => (by cases h), fun _ => ?_, fun x hx2 => ?_⟩
          · simp only; rw [gl9]
          · simp only at hx2 ⊢
            injection hx2 with hx2; subst hx2
            exact ⟨⟨s0, s1⟩, (g4 y rfl).2⟩
        | true =>
          simp only [Bool.true_eq_false, if_false]
          refine Ok_mono (keep tr2 lo (I sum) (ll + lines) hu) ?_
          rintro u ⟨u1, u2, u3⟩
          refine ⟨u1, fun h => (by cases h), fun _ => ?_, fun x hx2 => ?_⟩
          · rw [u2, gl9]
          · simp only at hx2 ⊢
            injection hx2 with hx2; subst hx2
            exact ⟨⟨s0, s1⟩, fun i hi => ⟨hln i hi, u3 i hi⟩⟩
end
