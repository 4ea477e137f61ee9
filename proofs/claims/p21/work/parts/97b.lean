/-! pure part: solve, count, ties of both sides -/
section
variable {S : Su} {nu on : Nat → Int32} {gi : Nat → Nat → Int32} {F : Nat}
theorem c_solve (hw : WF S) (C : CS S nu on gi) (hF : 2000 ≤ F) (hL : 0 < S.L) (hc : S.c ≤ 8) {sr : Bool} {mk : Int} {lm : List Int} {z1 z2 z3 z4 : Int32} {pi np mp vp mt bc bt ps sp : Nat → Int32} {top cl lc : Int32} {al ll : Int64} {ls sz nx pl ma rc : Nat → Int32} {rl rt : Nat → Int64} {lo tr : Nat → Int32} (hk : 0 ≤ mk ∧ mk < 800000000) (hm : MK mk ma lm) (hs : SRS S sr z2 pi lc al ll lo) {b1 b2 b3 bs : Int32} {bn : Nat → Int32} : Ok (m_SpeciesSolver_solve F (I S.L) (I S.n) (I S.K) (B S.ab) nu on gi b1 b2 b3 (B sr) z1 z2 z3 z4 pi np mp vp mt bc bt ps sp (I mk) top cl lc al ll ls sz nx pl ma rc rl rt lo tr bs bn) (fun u => (u.2.2.2.2.1 = B true ∧ GD S S.tot u.2.2.2.2.2.2.2.2.2.2.2.2.2.2.2.2.2.2.2.2.2.1 u.2.2.2.2.2.2.2.2.2.2.2.2.2.2.2.2.2.2.2.2.2.2.1 u.2.2.2.2.2.2.2.2.2.2.2.2.2.2.2.2.2.2.2.2.2.2.2.1 u.2.2.2.2.2.2.2.2.2.2.2.2.2.2.2.2.2.2.2.2.2.2.2.2.2.2.2.2.2.2.2.2.1 ∧ PP S u.2.2.2.2.2.2.2.2.2.1 ∧ u.2.2.2.2.2.2.1 = I S.N ∧ ∃ mk2 lm2, u.2.2.2.2.2.2.2.2.2.2.2.2.2.2.2.2.2.2.1 = I mk2 ∧ mk ≤ mk2 ∧ mk2 ≤ mk + 800 ∧ MK mk2 u.2.2.2.2.2.2.2.2.2.2.2.2.2.2.2.2.2.2.2.2.2.2.2.2.2.2.2.2.1 lm2) ∧ u.2.1 = I (cN S.tot.1) ∧ (S.tot.1 = none → u.1 = I 0 ∧ u.2.2.2.2.2.2.2.2.2.2.2.2.2.2.2.2.2.2.2.2.2.2.2.2.2.2.2.2.2.2.2.2.2.2.1 = I 0) ∧ (S.tot.1 ≠ none → u.1 = I 1 ∧ u.2.2.1 = I S.K ∧ u.2.2.2.1 = I S.n ∧ u.2.2.2.2.2.2.2.2.2.2.2.2.2.2.2.2.2.2.2.2.2.2.2.2.2.2.2.2.2.2.2.2.2.2.1 = I S.N ∧ ∀ i, i ≤ S.last → u.2.2.2.2.2.2.2.2.2.2.2.2.2.2.2.2.2.2.2.2.2.2.2.2.2.2.2.2.2.2.2.2.2.2.2 i = I (S.P (S.tot.2.2.2 i)))) := by
  have hN2 := WF_N2 hw hL
  unfold m_SpeciesSolver_solve
  rw [c_cannotSearch hw C hF, bd_S]
  have e0 : (decide (S.L = 0) || decide (8 < S.c)) = false := by simp; omega
  rw [e0, show B false = 0 from rfl, if_pos rfl]
  refine Ok_bd (c_searchOnce hw C hF hL hc hk hm hs) ?_
  rintro ⟨w0, w1, w2, w3, w4, w5, w6, w7, w8, w9, w10, w11, w12, w13, w14, w15, w16, w17, w18, w19, w20, w21, w22, w23, w24, w25, w26, w27, w28, w29⟩ ⟨u1, u2, u3, u4, u5⟩
  simp only at u1 u2 u3 u4 u5 ⊢
  have u2c := u2.1.1
  have u2d := u2.1.2.2.2
  subst u4
  cases et : S.tot.1 with
  | none =>
    rw [et] at u2c
    have ec : cN (none : Option Int) = -1 := rfl
    rw [u2c, ec, if_pos (by decide)]
    rw [et, ec] at *
    refine Ok_some ⟨⟨u1, ?_, u3, rfl, u5⟩, rfl, fun _ => ⟨rfl, rfl⟩, fun h => absurd rfl h⟩
    rw [u2c] at u2; exact u2
  | some x =>
    obtain ⟨xr, hln⟩ := u2d x et
    rw [et] at u2c
    have ec : cN (some x) = x := rfl
    rw [ec] at u2c
    rw [u2c, show (-1 : Int32) = I (-1) from rfl, if_neg (by rw [I_eq (by omega) (by omega) (by omega) (by omega)]; omega)]
    have wl := c_writeLine hw hc hN2 (F := F) u3 hln _ F 0 bn rfl (by have := last45 hw; omega) (by omega) (fun i hi => absurd hi (Nat.not_lt_zero i))
    unfold m_Search_writeLine
    refine Ok_bd wl ?_
    rintro ⟨y1, y2⟩ ⟨v1, v2⟩
    simp only at v1 v2 ⊢
    refine Ok_some ⟨⟨u1, ?_, u3, rfl, u5⟩, by rw [ec], fun h => (by cases h), fun _ => ⟨rfl, rfl, rfl, v1, v2⟩⟩
    rw [u2c] at u2; exact u2
theorem c_count (hw : WF S) (C : CS S nu on gi) (hF : 2000 ≤ F) (hL : 0 < S.L) (hc : S.c ≤ 8) {sr : Bool} {mk : Int} {lm : List Int} {z1 z2 z3 z4 : Int32} {pi np mp vp mt bc bt ps sp : Nat → Int32} {top cl lc : Int32} {al ll : Int64} {ls sz nx pl ma rc : Nat → Int32} {rl rt : Nat → Int64} {lo tr : Nat → Int32} (hk : 0 ≤ mk ∧ mk < 800000000) (hm : MK mk ma lm) (hs : SRS S sr z2 pi lc al ll lo) : Ok (m_SpeciesSolver_count F (I S.L) (I S.n) (I S.K) (B S.ab) nu on gi (B sr) z1 z2 z3 z4 pi np mp vp mt bc bt ps sp (I mk) top cl lc al ll ls sz nx pl ma rc rl rt lo tr) (fun u => (u.2.1 = B true ∧ GD S S.tot u.2.2.2.2.2.2.2.2.2.2.2.2.2.2.2.2.2.2.1 u.2.2.2.2.2.2.2.2.2.2.2.2.2.2.2.2.2.2.2.1 u.2.2.2.2.2.2.2.2.2.2.2.2.2.2.2.2.2.2.2.2.1 u.2.2.2.2.2.2.2.2.2.2.2.2.2.2.2.2.2.2.2.2.2.2.2.2.2.2.2.2.2.1 ∧ PP S u.2.2.2.2.2.2.1 ∧ u.2.2.2.1 = I S.N ∧ ∃ mk2 lm2, u.2.2.2.2.2.2.2.2.2.2.2.2.2.2.2.1 = I mk2 ∧ mk ≤ mk2 ∧ mk2 ≤ mk + 800 ∧ MK mk2 u.2.2.2.2.2.2.2.2.2.2.2.2.2.2.2.2.2.2.2.2.2.2.2.2.2.1 lm2) ∧ u.1 = S.tot.2.1) := by
  unfold m_SpeciesSolver_count
  rw [c_cannotSearch hw C hF, bd_S]
  have e0 : (decide (S.L = 0) || decide (8 < S.c)) = false := by simp; omega
  rw [e0, show B false = 0 from rfl, if_pos rfl]
  refine Ok_bd (c_searchOnce hw C hF hL hc hk hm hs) ?_
  rintro ⟨w0, w1, w2, w3, w4, w5, w6, w7, w8, w9, w10, w11, w12, w13, w14, w15, w16, w17, w18, w19, w20, w21, w22, w23, w24, w25, w26, w27, w28, w29⟩ ⟨u1, u2, u3, u4, u5⟩
  exact Ok_some ⟨⟨u1, u2, u3, u4, u5⟩, u2.2⟩
theorem c_ties (hw : WF S) (C : CS S nu on gi) (hF : 2000 ≤ F) (hL : 0 < S.L) (hc : S.c ≤ 8) {sr : Bool} {mk : Int} {lm : List Int} {z1 z2 z3 z4 : Int32} {pi np mp vp mt bc bt ps sp : Nat → Int32} {top cl lc : Int32} {al ll : Int64} {ls sz nx pl ma rc : Nat → Int32} {rl rt : Nat → Int64} {lo tr : Nat → Int32} (hk : 0 ≤ mk ∧ mk < 800000000) (hm : MK mk ma lm) (hs : SRS S sr z2 pi lc al ll lo) : Ok (m_SpeciesSolver_ties F (I S.L) (I S.n) (I S.K) (B S.ab) nu on gi (B sr) z1 z2 z3 z4 pi np mp vp mt bc bt ps sp (I mk) top cl lc al ll ls sz nx pl ma rc rl rt lo tr) (fun u => (u.2.1 = B true ∧ GD S S.tot u.2.2.2.2.2.2.2.2.2.2.2.2.2.2.2.2.2.2.1 u.2.2.2.2.2.2.2.2.2.2.2.2.2.2.2.2.2.2.2.1 u.2.2.2.2.2.2.2.2.2.2.2.2.2.2.2.2.2.2.2.2.1 u.2.2.2.2.2.2.2.2.2.2.2.2.2.2.2.2.2.2.2.2.2.2.2.2.2.2.2.2.2.1 ∧ PP S u.2.2.2.2.2.2.1 ∧ u.2.2.2.1 = I S.N ∧ ∃ mk2 lm2, u.2.2.2.2.2.2.2.2.2.2.2.2.2.2.2.1 = I mk2 ∧ mk ≤ mk2 ∧ mk2 ≤ mk + 800 ∧ MK mk2 u.2.2.2.2.2.2.2.2.2.2.2.2.2.2.2.2.2.2.2.2.2.2.2.2.2.1 lm2) ∧ (S.tot.1 = none → u.1 = 0) ∧ (S.tot.1 ≠ none → u.1 = S.tot.2.2.1)) := by
  unfold m_SpeciesSolver_ties
  rw [c_cannotSearch hw C hF, bd_S]
  have e0 : (decide (S.L = 0) || decide (8 < S.c)) = false := by simp; omega
  rw [e0, show B false = 0 from rfl, if_pos rfl]
  refine Ok_bd (c_searchOnce hw C hF hL hc hk hm hs) ?_
  rintro ⟨w0, w1, w2, w3, w4, w5, w6, w7, w8, w9, w10, w11, w12, w13, w14, w15, w16, w17, w18, w19, w20, w21, w22, w23, w24, w25, w26, w27, w28, w29⟩ ⟨u1, u2, u3, u4, u5⟩
  exact Ok_some ⟨⟨u1, u2, u3, u4, u5⟩, u2.1.2.1, u2.1.2.2.1⟩
end
section
variable {S : Su} {nu on gi : Nat → Int32} {F : Nat}
theorem r_cannot (hw : WF S) (C : RS S nu on gi) (hF : 2000 ≤ F) (ch : Int32) (pi : Nat → Int32) : Ok (m_SpeciesSolverModel_cannot F (I S.L) nu ch pi) (fun u => u.1 = B (decide (S.L = 0) || decide (8 < S.c)) ∧ (S.c ≤ 8 → u.2.1 = I S.c ∧ PP S u.2.2)) := by
  have hL := WF_L hw
  have n1 := WF_nu hw 1 (by decide); have n2 := WF_nu hw 2 (by decide); have lh := WF_lh hw
  have e1 : nu (Int32.toNatClampNeg 1) = I (S.nu 1) := RS_nu C 1 (by decide)
  have cl := r_chooseL hw C (F := F) _ F 0 (S.nu 1) pi rfl (by omega) (by omega) (by omega) (by omega) (by omega)
  unfold m_SpeciesSolverModel_cannot m_SpeciesSolverModel_choose
  rw [e1]
  refine Ok_bd cl ?_
  rintro ⟨c9, pi2⟩ ⟨u1, _, u3⟩
  simp only at u1 u3 ⊢
  have hlen : (S.chl (S.nu 2 + 1 - S.nu 1).toNat (S.nu 1)).length = S.c := rfl
  rw [hlen] at u1
  have hc8 : S.c ≤ 8 → c9 = I S.c ∧ PP S pi2 := by
    intro h8
    refine ⟨by rw [u1, if_pos (by omega), Int.zero_add], fun i i0 i1 => ?_⟩
    have := u3 i.toNat (by unfold Su.c Su.cho at i1; omega) (by omega)
    have e9 : (0 : Int).toNat + i.toNat = i.toNat := by simp
    rw [e9] at this
    exact this
  subst u1
  by_cases e2 : S.L = 0
  · rw [if_pos (by rw [e2]; rfl)]
    exact Ok_some ⟨by rw [decide_eq_true e2]; rfl, hc8⟩
  · rw [if_neg (by rw [L_0, I_eq (by omega) (by omega) (by omega) (by omega)]; exact e2)]
    by_cases e3 : S.c ≤ 8
    · rw [if_pos (by rw [show (8 : Int32) = I 8 from rfl, if_pos (by omega), I_le (by omega) (by omega) (by omega) (by omega)]; omega)]
      exact Ok_some ⟨by rw [decide_eq_false e2, decide_eq_false (by omega)]; rfl, hc8⟩
    · rw [if_neg (by rw [show (8 : Int32) = I 8 from rfl]; split <;> rw [I_le (by omega) (by omega) (by omega) (by omega)] <;> omega)]
      exact Ok_some ⟨by rw [decide_eq_false e2, decide_eq_true (by omega)]; rfl, hc8⟩
theorem r_so78 (hw : WF S) (hN2 : 2 ≤ S.N) {fs fsp fn fc ch lw wc : Int32} {ma ti am at9 : Int64} {pi le ln wi : Nat → Int32} {al be : Nat → Int64} {x1 : Int32} {f : Nat} (hfs : fs = I f) (hf : f ≤ 45) : ∀ (r n j : Nat) (fo : Nat → Int32), f - j = r → r < n → j ≤ f → (∀ i, i < j → fo i = wi i) → Ok (m_SpeciesSolverModel_solve_78 F (I S.L) (I S.n) (I S.K) (B S.ab) gi on nu n fs fsp fn fc ch lw ma ti wc am at9 fo pi le al be ln wi x1 (I j)) (fun u => u.1 = (if x1 = 0 then I 0 else I 1) ∧ u.2.1 = fs ∧ u.2.2.1 = fsp ∧ u.2.2.2.1 = fn ∧ u.2.2.2.2.1 = fc ∧ ∀ i, i < f → u.2.2.2.2.2.2.2.2.2.2.2.2.1 i = wi i)
  | 0, n, j, fo, e, hn, hj, ht => by
    obtain ⟨k, rfl⟩ : ∃ k, n = k + 1 := ⟨n - 1, by omega⟩
    simp only [m_SpeciesSolverModel_solve_78, m_SpeciesSolverModel_solve_78b]
    subst hfs
    rw [if_pos (by rw [I_le (by omega) (by omega) (by omega) (by omega)]; omega)]
    refine Ok_ite (fun h1 => ?_) (fun h1 => ?_)
    · exact Ok_some ⟨by rw [if_pos h1]; rfl, rfl, rfl, rfl, rfl, fun i hi => ht i (by omega)⟩
    · exact Ok_some ⟨by rw [if_neg h1]; rfl, rfl, rfl, rfl, rfl, fun i hi => ht i (by omega)⟩
  | r + 1, n, j, fo, e, hn, hj, ht => by
    obtain ⟨k, rfl⟩ : ∃ k, n = k + 1 := ⟨n - 1, by omega⟩
    have ej : I (j : Int) + 1 = I ((j + 1 : Nat) : Int) := by rw [L_1, I_add]; congr 1
    simp only [m_SpeciesSolverModel_solve_78, m_SpeciesSolverModel_solve_78b]
    have hfs2 := hfs
    rw [if_neg (by rw [hfs, I_le (by omega) (by omega) (by omega) (by omega)]; omega), gd_I (by omega) (by omega) (by omega), gd_I (by omega) (by omega) (by omega), ej, I_nat (by omega) (by omega), Int.toNat_natCast]
    refine r_so78 hw hN2 hfs2 hf r k (j + 1) _ (by omega) (by omega) (by omega) (fun i hi => ?_)
    by_cases e2 : i = j
    · subst e2; exact upd_at _ _ _
    · rw [upd_ne _ _ e2]; exact ht i (by omega)
theorem r_solve (hw : WF S) (C : RS S nu on gi) (hF : 2000 ≤ F) (hL : 0 < S.L) (hc : S.c ≤ 8) (fs fsp fn fc ch lw wc : Int32) (ma ti am at9 : Int64) (fo pi le ln wi : Nat → Int32) (al be : Nat → Int64) : Ok (m_SpeciesSolverModel_solve F (I S.L) (I S.n) (I S.K) (B S.ab) gi on nu fs fsp fn fc ch lw ma ti wc am at9 fo pi le al be ln wi) (fun u => u.2.2.2.2.1 = I (cN S.tot.1) ∧ u.2.2.1 = I S.K ∧ u.2.2.2.1 = I S.n ∧ (S.tot.1 = none → u.1 = I 0 ∧ u.2.1 = I 0) ∧ (S.tot.1 ≠ none → u.1 = I 1 ∧ u.2.1 = I S.N ∧ (∀ i, i ≤ S.last → u.2.2.2.2.2.2.2.2.2.2.2.2.1 i = I (S.P (S.tot.2.2.2 i))) ∧ ∀ i, i ≤ S.last → S.tot.2.2.2 i < S.c)) := by
  have hN2 := WF_N2 hw hL; have hN := WF_N hw; have hl := last_N hN2
  have e0 : (decide (S.L = 0) || decide (8 < S.c)) = false := by simp; omega
  unfold m_SpeciesSolverModel_solve
  refine Ok_bd (r_cannot hw C hF ch pi) ?_
  rintro ⟨a0, a1, a2⟩ ⟨u1, u2⟩
  simp only at u1 u2 ⊢
  obtain ⟨u3, u4⟩ := u2 hc
  subst u1; subst u3
  rw [e0, show B false = 0 from rfl, if_pos rfl]
  refine Ok_bd (r_work hw C hF hL u4 hc lw wc ma ti am at9 le ln wi al be) ?_
  rintro ⟨y0, y1, y2, y3, y4, y5, y6, y7, y8, y9, y10⟩ ⟨g1, g2, g3, g4, g5⟩
  simp only at g1 g2 g3 g4 g5 ⊢
  cases et : S.tot.1 with
  | none =>
    rw [et] at g1
    subst g1
    rw [if_pos (by decide)]
    unfold m_SpeciesSolverModel_solve_27
    rw [if_pos rfl]
    unfold m_SpeciesSolverModel_solve_41
    rw [if_pos rfl]
    unfold m_SpeciesSolverModel_solve_57
    refine Ok_mono (r_so78 (S := S) (f := 0) hw hN2 rfl (by omega) _ F 0 fo rfl (by omega) (by omega) (fun i hi => absurd hi (Nat.not_lt_zero i))) ?_
    rintro u ⟨v1, v2, v3, v4, v5, v6⟩
    rw [if_pos rfl] at v1
    exact ⟨v5, v3, v4, fun _ => ⟨v1, v2⟩, fun h => absurd rfl h⟩
  | some x =>
    obtain ⟨xr, hln⟩ := g5 x et
    rw [et] at g1
    have ec : cI (some x) = x := rfl
    rw [ec] at g1
    subst g1
    rw [if_neg (by rw [show (1000000000 : Int32) = I 1000000000 from rfl, I_le (by omega) (by omega) (by omega) (by omega)]; omega)]
    unfold m_SpeciesSolverModel_solve_27
    rw [if_neg (by decide)]
    unfold m_SpeciesSolverModel_solve_41
    rw [if_neg (by decide), r_size hw, bd_S]
    unfold m_SpeciesSolverModel_solve_57
    have eN : S.N = ((S.last + 1 : Nat) : Int) := by omega
    refine Ok_mono (r_so78 (S := S) (f := S.last + 1) hw hN2 (by rw [eN]) (by omega) _ F 0 fo rfl (by omega) (by omega) (fun i hi => absurd hi (Nat.not_lt_zero i))) ?_
    rintro u ⟨v1, v2, v3, v4, v5, v6⟩
    rw [if_neg (by decide)] at v1
    refine ⟨v5, v3, v4, fun h => (by cases h), fun _ => ⟨v1, v2, fun i hi => ?_, fun i hi => (hln i hi).1⟩⟩
    rw [v6 i (by omega)]; exact (hln i hi).2
theorem r_count (hw : WF S) (C : RS S nu on gi) (hF : 2000 ≤ F) (hL : 0 < S.L) (hc : S.c ≤ 8) (ch lw wc : Int32) (ma ti am at9 : Int64) (pi le ln wi : Nat → Int32) (al be : Nat → Int64) : Ok (m_SpeciesSolverModel_count F (I S.L) (I S.n) (I S.K) (B S.ab) gi on nu ch lw ma ti wc am at9 pi le al be ln wi) (fun u => u.1 = S.tot.2.1) := by
  have e0 : (decide (S.L = 0) || decide (8 < S.c)) = false := by simp; omega
  unfold m_SpeciesSolverModel_count
  refine Ok_bd (r_cannot hw C hF ch pi) ?_
  rintro ⟨a0, a1, a2⟩ ⟨u1, u2⟩
  simp only at u1 u2 ⊢
  obtain ⟨u3, u4⟩ := u2 hc
  subst u1; subst u3
  rw [e0, show B false = 0 from rfl, if_pos rfl]
  refine Ok_bd (r_work hw C hF hL u4 hc lw wc ma ti am at9 le ln wi al be) ?_
  rintro ⟨y0, y1, y2, y3, y4, y5, y6, y7, y8, y9, y10⟩ ⟨g1, g2, g3, g4, g5⟩
  exact Ok_some g2
theorem r_ties (hw : WF S) (C : RS S nu on gi) (hF : 2000 ≤ F) (hL : 0 < S.L) (hc : S.c ≤ 8) (ch lw wc : Int32) (ma ti am at9 : Int64) (pi le ln wi : Nat → Int32) (al be : Nat → Int64) : Ok (m_SpeciesSolverModel_ties F (I S.L) (I S.n) (I S.K) (B S.ab) gi on nu ch lw ma ti wc am at9 pi le al be ln wi) (fun u => (S.tot.1 = none → u.1 = 0) ∧ (S.tot.1 ≠ none → u.1 = S.tot.2.2.1)) := by
  have e0 : (decide (S.L = 0) || decide (8 < S.c)) = false := by simp; omega
  unfold m_SpeciesSolverModel_ties
  refine Ok_bd (r_cannot hw C hF ch pi) ?_
  rintro ⟨a0, a1, a2⟩ ⟨u1, u2⟩
  simp only at u1 u2 ⊢
  obtain ⟨u3, u4⟩ := u2 hc
  subst u1; subst u3
  rw [e0, show B false = 0 from rfl, if_pos rfl]
  refine Ok_bd (r_work hw C hF hL u4 hc lw wc ma ti am at9 le ln wi al be) ?_
  rintro ⟨y0, y1, y2, y3, y4, y5, y6, y7, y8, y9, y10⟩ ⟨g1, g2, g3, g4, g5⟩
  simp only at g1 g2 g3 g4 g5 ⊢
  cases et : S.tot.1 with
  | none =>
    rw [et] at g1
    subst g1
    rw [if_pos (by decide)]
    exact Ok_some ⟨fun _ => rfl, fun h => absurd rfl h⟩
  | some x =>
    obtain ⟨xr, _⟩ := g5 x et
    rw [et] at g1
    have ec : cI (some x) = x := rfl
    rw [ec] at g1
    subst g1
    rw [if_neg (by rw [show (1000000000 : Int32) = I 1000000000 from rfl, I_le (by omega) (by omega) (by omega) (by omega)]; omega)]
    exact Ok_some ⟨fun h => (by cases h), fun _ => g4 (by rw [et]; intro h; cases h)⟩
theorem r_reach (hw : WF S) (C : RS S nu on gi) (hF : 2000 ≤ F) (hL : 0 < S.L) (hc : S.c ≤ 8) (ch : Int32) (pi ar : Nat → Int32) : Ok (m_SpeciesSolverModel_reach F (I S.L) (I S.n) (I S.K) (B S.ab) gi on nu ch pi ar) (fun u => ∃ f, u.1 = I (f : Nat) ∧ RF S f) := by
  have e0 : (decide (S.L = 0) || decide (8 < S.c)) = false := by simp; omega
  unfold m_SpeciesSolverModel_reach
  refine Ok_bd (r_cannot hw C hF ch pi) ?_
  rintro ⟨a0, a1, a2⟩ ⟨u1, u2⟩
  simp only at u1 u2 ⊢
  obtain ⟨u3, u4⟩ := u2 hc
  subst u1; subst u3
  rw [e0, show B false = 0 from rfl, if_pos rfl]
  refine Ok_mono (r_re13 hw C hF hL u4 hc _ F 0 ar rfl (by omega) (by omega) (by omega) (fun y y0 y1 => by omega)) ?_
  rintro u ⟨f, h1, h2, _⟩
  exact ⟨f, h1, h2⟩
end
