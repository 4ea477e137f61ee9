/-! pure part: one call, the searching ones -/
section
variable {S : Su} {nu on : Nat → Int32} {gi : Nat → Nat → Int32} {F : Nat}
theorem c_solve_no (hw : WF S) (C : CS S nu on gi) (hF : 2000 ≤ F) (e1 : (decide (S.L = 0) || decide (8 < S.c)) = true) {a0 a1 a2 b1 b2 b3 sr z1 z2 z3 z4 : Int32} {pi np mp vp mt bc bt ps sp : Nat → Int32} {mk top cl lc : Int32} {al ll : Int64} {ls sz nx pl ma rc : Nat → Int32} {rl rt : Nat → Int64} {lo tr : Nat → Int32} {bs : Int32} {bn : Nat → Int32} : m_SpeciesSolver_solve F (I S.L) a0 a1 a2 nu on gi b1 b2 b3 sr z1 z2 z3 z4 pi np mp vp mt bc bt ps sp mk top cl lc al ll ls sz nx pl ma rc rl rt lo tr bs bn = some (I (-1), b1, b2, b3, sr, z1, z2, z3, z4, pi, np, mp, vp, mt, bc, bt, ps, sp, mk, top, cl, lc, al, ll, ls, sz, nx, pl, ma, rc, rl, rt, lo, tr, bs, bn) := by
  unfold m_SpeciesSolver_solve
  rw [c_cannotSearch hw C hF, bd_S, e1, show B true = I 1 from rfl, if_neg (by decide)]
  rfl
theorem c_count_no (hw : WF S) (C : CS S nu on gi) (hF : 2000 ≤ F) (e1 : (decide (S.L = 0) || decide (8 < S.c)) = true) {a0 a1 a2 sr z1 z2 z3 z4 : Int32} {pi np mp vp mt bc bt ps sp : Nat → Int32} {mk top cl lc : Int32} {al ll : Int64} {ls sz nx pl ma rc : Nat → Int32} {rl rt : Nat → Int64} {lo tr : Nat → Int32} : m_SpeciesSolver_count F (I S.L) a0 a1 a2 nu on gi sr z1 z2 z3 z4 pi np mp vp mt bc bt ps sp mk top cl lc al ll ls sz nx pl ma rc rl rt lo tr = some (-1, sr, z1, z2, z3, z4, pi, np, mp, vp, mt, bc, bt, ps, sp, mk, top, cl, lc, al, ll, ls, sz, nx, pl, ma, rc, rl, rt, lo, tr) := by
  unfold m_SpeciesSolver_count
  rw [c_cannotSearch hw C hF, bd_S, e1, show B true = I 1 from rfl, if_neg (by decide)]
theorem c_ties_no (hw : WF S) (C : CS S nu on gi) (hF : 2000 ≤ F) (e1 : (decide (S.L = 0) || decide (8 < S.c)) = true) {a0 a1 a2 sr z1 z2 z3 z4 : Int32} {pi np mp vp mt bc bt ps sp : Nat → Int32} {mk top cl lc : Int32} {al ll : Int64} {ls sz nx pl ma rc : Nat → Int32} {rl rt : Nat → Int64} {lo tr : Nat → Int32} : m_SpeciesSolver_ties F (I S.L) a0 a1 a2 nu on gi sr z1 z2 z3 z4 pi np mp vp mt bc bt ps sp mk top cl lc al ll ls sz nx pl ma rc rl rt lo tr = some (-1, sr, z1, z2, z3, z4, pi, np, mp, vp, mt, bc, bt, ps, sp, mk, top, cl, lc, al, ll, ls, sz, nx, pl, ma, rc, rl, rt, lo, tr) := by
  unfold m_SpeciesSolver_ties
  rw [c_cannotSearch hw C hF, bd_S, e1, show B true = I 1 from rfl, if_neg (by decide)]
theorem c_reach_no (hw : WF S) (C : CS S nu on gi) (hF : 2000 ≤ F) (e1 : (decide (S.L = 0) || decide (8 < S.c)) = true) {a0 a1 a2 z1 z2 z3 z4 : Int32} {pi np mp vp mt bc bt ps sp : Nat → Int32} {mk top cl : Int32} {ls sz ma : Nat → Int32} : m_SpeciesSolver_reach F (I S.L) a0 a1 a2 nu on gi z1 z2 z3 z4 pi np mp vp mt bc bt ps sp mk top cl ls sz ma = some (-1, z1, z2, z3, z4, pi, np, mp, vp, mt, bc, bt, ps, sp, mk, top, cl, ls, sz, ma) := by
  unfold m_SpeciesSolver_reach
  rw [c_cannotSearch hw C hF, bd_S, e1, show B true = I 1 from rfl, if_neg (by decide)]
end
section
variable {S : Su} {nu on gi : Nat → Int32} {F : Nat}
theorem r_solve_no (hw : WF S) (C : RS S nu on gi) (hF : 2000 ≤ F) (e1 : (decide (S.L = 0) || decide (8 < S.c)) = true) (a0 a1 a2 fs fsp fn fc ch lw wc : Int32) (ma ti am at9 : Int64) (fo pi le ln wi : Nat → Int32) (al be : Nat → Int64) : Ok (m_SpeciesSolverModel_solve F (I S.L) a0 a1 a2 gi on nu fs fsp fn fc ch lw ma ti wc am at9 fo pi le al be ln wi) (fun u => u.1 = I (-1) ∧ u.2.1 = fs ∧ u.2.2.1 = fsp ∧ u.2.2.2.1 = fn ∧ u.2.2.2.2.1 = fc ∧ u.2.2.2.2.2.2.2.2.2.2.2.2.1 = fo) := by
  unfold m_SpeciesSolverModel_solve
  refine Ok_bd (r_cannot hw C hF ch pi) ?_
  rintro ⟨b0, b1, b2⟩ ⟨u1, _⟩
  simp only at u1 ⊢
  rw [u1, e1, show B true = I 1 from rfl, if_neg (by decide)]
  exact Ok_some ⟨rfl, rfl, rfl, rfl, rfl, rfl⟩
theorem r_count_no (hw : WF S) (C : RS S nu on gi) (hF : 2000 ≤ F) (e1 : (decide (S.L = 0) || decide (8 < S.c)) = true) (a0 a1 a2 ch lw wc : Int32) (ma ti am at9 : Int64) (pi le ln wi : Nat → Int32) (al be : Nat → Int64) : Ok (m_SpeciesSolverModel_count F (I S.L) a0 a1 a2 gi on nu ch lw ma ti wc am at9 pi le al be ln wi) (fun u => u.1 = -1) := by
  unfold m_SpeciesSolverModel_count
  refine Ok_bd (r_cannot hw C hF ch pi) ?_
  rintro ⟨b0, b1, b2⟩ ⟨u1, _⟩
  simp only at u1 ⊢
  rw [u1, e1, show B true = I 1 from rfl, if_neg (by decide)]
  exact Ok_some rfl
theorem r_ties_no (hw : WF S) (C : RS S nu on gi) (hF : 2000 ≤ F) (e1 : (decide (S.L = 0) || decide (8 < S.c)) = true) (a0 a1 a2 ch lw wc : Int32) (ma ti am at9 : Int64) (pi le ln wi : Nat → Int32) (al be : Nat → Int64) : Ok (m_SpeciesSolverModel_ties F (I S.L) a0 a1 a2 gi on nu ch lw ma ti wc am at9 pi le al be ln wi) (fun u => u.1 = -1) := by
  unfold m_SpeciesSolverModel_ties
  refine Ok_bd (r_cannot hw C hF ch pi) ?_
  rintro ⟨b0, b1, b2⟩ ⟨u1, _⟩
  simp only at u1 ⊢
  rw [u1, e1, show B true = I 1 from rfl, if_neg (by decide)]
  exact Ok_some rfl
theorem r_reach_no (hw : WF S) (C : RS S nu on gi) (hF : 2000 ≤ F) (e1 : (decide (S.L = 0) || decide (8 < S.c)) = true) (a0 a1 a2 ch : Int32) (pi ar : Nat → Int32) : Ok (m_SpeciesSolverModel_reach F (I S.L) a0 a1 a2 gi on nu ch pi ar) (fun u => u.1 = -1) := by
  unfold m_SpeciesSolverModel_reach
  refine Ok_bd (r_cannot hw C hF ch pi) ?_
  rintro ⟨b0, b1, b2⟩ ⟨u1, _⟩
  simp only at u1 ⊢
  rw [u1, e1, show B true = I 1 from rfl, if_neg (by decide)]
  exact Ok_some rfl
theorem can_of (hw : WF S) (e1 : ¬ (decide (S.L = 0) || decide (8 < S.c)) = true) : 0 < S.L ∧ S.c ≤ 8 := by
  have hL := WF_L hw
  simp at e1
  omega
end
section
variable {σ : SC} {τ : SM} {k F : Nat}
theorem FI_none {S : Su} {fsp fn bp bl : Int32} {bn fo : Nat → Int32} {bc fc bs fs : Int32} (h0 : bc = fc) (h1 : bs = I 0) (h2 : fs = I 0) : FI bs bn bc bp bl fs fo fc fsp fn := ⟨h0, 0, fun _ => 0, by omega, h1, h2, fun i hi => absurd hi (Nat.not_lt_zero i), fun h => absurd h (Nat.lt_irrefl 0)⟩
theorem FI_some {S : Su} (hw : WF S) (hL : 0 < S.L) {fsp fn bp bl : Int32} {bn fo : Nat → Int32} {bc fc bs fs : Int32} {ln : Nat → Nat} (h0 : bc = fc) (h1 : bs = I S.N) (h2 : fs = I S.N) (h3 : ∀ i, i ≤ S.last → bn i = I (S.P (ln i))) (h4 : ∀ i, i ≤ S.last → fo i = I (S.P (ln i))) (h5 : bp = I S.K) (h6 : fsp = I S.K) (h7 : bl = I S.n) (h8 : fn = I S.n) : FI bs bn bc bp bl fs fo fc fsp fn := by
  have hN2 := WF_N2 hw hL; have hN := WF_N hw; have hl := last_N hN2; have hn := WF_n hw; have hn2 := WF_n2 hw hL
  have eN : S.N = ((S.last + 1 : Nat) : Int) := by omega
  refine ⟨h0, S.last + 1, fun i => S.P (ln i), by omega, by rw [h1, eN], by rw [h2, eN], fun i hi => ⟨P_all hw _, h3 i (by omega), h4 i (by omega)⟩, fun _ => ⟨S.K, S.n, WF_K hw, ⟨hn2, hn.2⟩, ?_, h5, h6, h7, h8⟩⟩
  rw [← eN]; rfl
theorem st_solve (hF : 2000 ≤ F) (hk : k ≤ 2000) (h : INV σ τ k) : Ok (sc_solve F σ ) (fun u => Ok (sm_solve F τ ) (fun w => u.1 = w.1 ∧ INV u.2 w.2 (k + 1))) := by
  obtain ⟨S, ⟨hw, hz⟩, C, R, ⟨c4, c5, c6, c7⟩, ⟨r2, r3, r4, r5⟩, hdr, htr, hfo, ⟨mk, lm, m1, m2, m3, m4⟩, ⟨sr, hsr, hss⟩⟩ := h
  unfold sc_solve sm_solve
  by_cases e1 : (decide (S.L = 0) || decide (8 < S.c)) = true
  · rw [c4, r2, c_solve_no hw C hF e1, bd_S]
    refine Ok_some ?_
    refine Ok_bd (r_solve_no hw R hF e1 _ _ _ _ _ _ _ _ _ _ _ _ _ _ _ _ _ _ _ _ _) ?_
    rintro w ⟨p1, p2, p3, p4, p5, p6⟩
    have c9 := p1.symm
    have hfo2 : FI σ.2.2.2.2.2.2.2.2.2.2.2.2.2.2.2.2.2.2.2.2.2.2.2.2.2.2.2.2.2.2.2.2.2.2.2.2.2.2.2.2.2.2.2.2.2.2.2.2.2.2.1 σ.2.2.2.2.2.2.2.2.2.2.2.2.2.2.2.2.2.2.2.2.2.2.2.2.2.2.2.2.2.2.2.2.2.2.2.2.2.2.2.2.2.2.2.2.2.2.2.2.2.2.2 σ.1 σ.2.1 σ.2.2.1 w.2.1 w.2.2.2.2.2.2.2.2.2.2.2.2.1 w.2.2.2.2.1 w.2.2.1 w.2.2.2.1 := by
      rw [p2, p3, p4, p5, p6]; exact hfo
    exact Ok_some ⟨c9, S, ⟨hw, hz⟩, C, R, ⟨rfl, c5, c6, c7⟩, ⟨rfl, r3, r4, r5⟩, hdr, htr, hfo2, ⟨mk, lm, m1, m2, by omega, m4⟩, ⟨sr, hsr, hss⟩⟩
  · obtain ⟨hL, hc⟩ := can_of hw e1
    rw [c4, c5, c6, c7, hsr, m1, r2, r3, r4, r5]
    refine Ok_bd (c_solve hw C hF hL hc ⟨m2, by omega⟩ m4 hss) ?_
    rintro u ⟨⟨q1, q2, q3, q4, mk2, lm2, g1, g2, g3, g4⟩, q5, q6, q7⟩
    refine Ok_some ?_
    refine Ok_bd (r_solve hw R hF hL hc _ _ _ _ _ _ _ _ _ _ _ _ _ _ _ _ _ _) ?_
    rintro w ⟨p1, p2, p3, p4, p5⟩
    by_cases et : S.tot.1 = none
    · obtain ⟨x1, x2⟩ := q6 et
      obtain ⟨y1, y2⟩ := p4 et
      exact Ok_some ⟨x1.trans y1.symm, S, ⟨hw, hz⟩, C, R, ⟨rfl, rfl, rfl, rfl⟩, ⟨rfl, rfl, rfl, rfl⟩, hdr, htr, (FI_none (S := S) (q5.trans p1.symm) x2 y2), ⟨mk2, lm2, g1, by omega, by omega, g4⟩, ⟨true, q1, fun _ => ⟨hL, hc, q2, q3, q4⟩⟩⟩
    · obtain ⟨x1, x2, x3, x4, x5⟩ := q7 et
      obtain ⟨y1, y2, y3, y4⟩ := p5 et
      exact Ok_some ⟨x1.trans y1.symm, S, ⟨hw, hz⟩, C, R, ⟨rfl, rfl, rfl, rfl⟩, ⟨rfl, rfl, rfl, rfl⟩, hdr, htr, (FI_some hw hL (q5.trans p1.symm) x4 y2 x5 y3 x2 p2 x3 p3), ⟨mk2, lm2, g1, by omega, by omega, g4⟩, ⟨true, q1, fun _ => ⟨hL, hc, q2, q3, q4⟩⟩⟩
theorem st_count (hF : 2000 ≤ F) (hk : k ≤ 2000) (h : INV σ τ k) : Ok (sc_count F σ ) (fun u => Ok (sm_count F τ ) (fun w => u.1 = w.1 ∧ INV u.2 w.2 (k + 1))) := by
  obtain ⟨S, ⟨hw, hz⟩, C, R, ⟨c4, c5, c6, c7⟩, ⟨r2, r3, r4, r5⟩, hdr, htr, hfo, ⟨mk, lm, m1, m2, m3, m4⟩, ⟨sr, hsr, hss⟩⟩ := h
  unfold sc_count sm_count
  by_cases e1 : (decide (S.L = 0) || decide (8 < S.c)) = true
  · rw [c4, r2, c_count_no hw C hF e1, bd_S]
    refine Ok_some ?_
    refine Ok_bd (r_count_no hw R hF e1 _ _ _ _ _ _ _ _ _ _ _ _ _ _ _ _) ?_
    intro w p1
    have c9 := p1.symm
    exact Ok_some ⟨c9, S, ⟨hw, hz⟩, C, R, ⟨rfl, c5, c6, c7⟩, ⟨rfl, r3, r4, r5⟩, hdr, htr, hfo, ⟨mk, lm, m1, m2, by omega, m4⟩, ⟨sr, hsr, hss⟩⟩
  · obtain ⟨hL, hc⟩ := can_of hw e1
    rw [c4, c5, c6, c7, hsr, m1, r2, r3, r4, r5]
    refine Ok_bd (c_count hw C hF hL hc ⟨m2, by omega⟩ m4 hss) ?_
    rintro u ⟨⟨q1, q2, q3, q4, mk2, lm2, g1, g2, g3, g4⟩, q5⟩
    refine Ok_some ?_
    refine Ok_bd (r_count hw R hF hL hc _ _ _ _ _ _ _ _ _ _ _ _ _) ?_
    intro w p1
    exact Ok_some ⟨q5.trans p1.symm, S, ⟨hw, hz⟩, C, R, ⟨rfl, rfl, rfl, rfl⟩, ⟨rfl, rfl, rfl, rfl⟩, hdr, htr, hfo, ⟨mk2, lm2, g1, by omega, by omega, g4⟩, ⟨true, q1, fun _ => ⟨hL, hc, q2, q3, q4⟩⟩⟩
theorem st_ties (hF : 2000 ≤ F) (hk : k ≤ 2000) (h : INV σ τ k) : Ok (sc_ties F σ ) (fun u => Ok (sm_ties F τ ) (fun w => u.1 = w.1 ∧ INV u.2 w.2 (k + 1))) := by
  obtain ⟨S, ⟨hw, hz⟩, C, R, ⟨c4, c5, c6, c7⟩, ⟨r2, r3, r4, r5⟩, hdr, htr, hfo, ⟨mk, lm, m1, m2, m3, m4⟩, ⟨sr, hsr, hss⟩⟩ := h
  unfold sc_ties sm_ties
  by_cases e1 : (decide (S.L = 0) || decide (8 < S.c)) = true
  · rw [c4, r2, c_ties_no hw C hF e1, bd_S]
    refine Ok_some ?_
    refine Ok_bd (r_ties_no hw R hF e1 _ _ _ _ _ _ _ _ _ _ _ _ _ _ _ _) ?_
    intro w p1
    have c9 := p1.symm
    exact Ok_some ⟨c9, S, ⟨hw, hz⟩, C, R, ⟨rfl, c5, c6, c7⟩, ⟨rfl, r3, r4, r5⟩, hdr, htr, hfo, ⟨mk, lm, m1, m2, by omega, m4⟩, ⟨sr, hsr, hss⟩⟩
  · obtain ⟨hL, hc⟩ := can_of hw e1
    rw [c4, c5, c6, c7, hsr, m1, r2, r3, r4, r5]
    refine Ok_bd (c_ties hw C hF hL hc ⟨m2, by omega⟩ m4 hss) ?_
    rintro u ⟨⟨q1, q2, q3, q4, mk2, lm2, g1, g2, g3, g4⟩, q5, q6⟩
    refine Ok_some ?_
    refine Ok_bd (r_ties hw R hF hL hc _ _ _ _ _ _ _ _ _ _ _ _ _) ?_
    rintro w ⟨p1, p2⟩
    have ea : u.1 = w.1 := by
      by_cases et : S.tot.1 = none
      · rw [q5 et, p1 et]
      · rw [q6 et, p2 et]
    exact Ok_some ⟨ea, S, ⟨hw, hz⟩, C, R, ⟨rfl, rfl, rfl, rfl⟩, ⟨rfl, rfl, rfl, rfl⟩, hdr, htr, hfo, ⟨mk2, lm2, g1, by omega, by omega, g4⟩, ⟨true, q1, fun _ => ⟨hL, hc, q2, q3, q4⟩⟩⟩
theorem st_reach (hF : 2000 ≤ F) (hk : k ≤ 2000) (h : INV σ τ k) : Ok (sc_reach F σ ) (fun u => Ok (sm_reach F τ ) (fun w => u.1 = w.1 ∧ INV u.2 w.2 (k + 1))) := by
  obtain ⟨S, ⟨hw, hz⟩, C, R, ⟨c4, c5, c6, c7⟩, ⟨r2, r3, r4, r5⟩, hdr, htr, hfo, ⟨mk, lm, m1, m2, m3, m4⟩, ⟨sr, hsr, hss⟩⟩ := h
  unfold sc_reach sm_reach
  by_cases e1 : (decide (S.L = 0) || decide (8 < S.c)) = true
  · rw [c4, r2, c_reach_no hw C hF e1, bd_S]
    refine Ok_some ?_
    refine Ok_bd (r_reach_no hw R hF e1 _ _ _ _ _ _) ?_
    intro w p1
    have c9 := p1.symm
    exact Ok_some ⟨c9, S, ⟨hw, hz⟩, C, R, ⟨rfl, c5, c6, c7⟩, ⟨rfl, r3, r4, r5⟩, hdr, htr, hfo, ⟨mk, lm, m1, m2, by omega, m4⟩, ⟨sr, hsr, hss⟩⟩
  · obtain ⟨hL, hc⟩ := can_of hw e1
    rw [c4, c5, c6, c7, m1, r2, r3, r4, r5]
    refine Ok_bd (c_reachC hw C hF hL hc ⟨m2, by omega⟩ m4) ?_
    rintro u ⟨⟨f, q1, q2⟩, q3, q4, mk2, lm2, g1, g2, g3, g4⟩
    refine Ok_some ?_
    refine Ok_bd (r_reach hw R hF hL hc _ _ _) ?_
    rintro w ⟨f2, p1, p2⟩
    have ef := RF_eq q2 p2
    subst ef
    exact Ok_some ⟨q1.trans p1.symm, S, ⟨hw, hz⟩, C, R, ⟨rfl, rfl, rfl, rfl⟩, ⟨rfl, rfl, rfl, rfl⟩, hdr, htr, hfo, ⟨mk2, lm2, g1, by omega, by omega, g4⟩, ⟨sr, hsr, fun h9 => ⟨hL, hc, (hss h9).2.2.1, q3, q4⟩⟩⟩
theorem st_keep (hF : 2000 ≤ F) (h : INV σ τ k) : Ok (sc_keep F σ ) (fun u => Ok (sm_keep F τ ) (fun w => u.1 = w.1 ∧ INV u.2 w.2 (k + 1))) := by
  obtain ⟨S, ⟨hw, hz⟩, C, R, ⟨c4, c5, c6, c7⟩, ⟨r2, r3, r4, r5⟩, hdr, htr, hfo, ⟨mk, lm, m1, m2, m3, m4⟩, ⟨sr, hsr, hss⟩⟩ := h
  have hfo9 := hfo
  obtain ⟨_, d, v, hd, ed, ed2, hv, hkn⟩ := hfo9
  have hL := WF_L hw; have hn := WF_n hw; have hn2 := WF_n2 hw
  unfold sc_keep sm_keep
  by_cases d0 : d = 0
  · have ea : m_SpeciesSolver_keep F σ.2.1 σ.2.2.1 σ.2.2.2.2.2.2.2.2.2.2.2.2.2.2.2.2.2.2.2.2.2.2.2.2.2.2.2.2.2.2.2.2.2.2.2.2.2.2.2.2.2.2.2.2.2.2.2.2.2.2.1 σ.2.2.2.2.2.2.2.2.2.2.2.2.2.2.2.2.2.2.2.2.2.2.2.2.2.2.2.2.2.2.2.2.2.2.2.2.2.2.2.2.2.2.2.2.2.2.2.2.2.2.2 σ.2.2.2.1 σ.2.2.2.2.1 σ.2.2.2.2.2.1 σ.2.2.2.2.2.2.2.2.2.2.1 = some (I (-1), σ.2.2.2.1, σ.2.2.2.2.1, σ.2.2.2.2.2.1, σ.2.2.2.2.2.2.2.2.2.2.1) := by
      unfold m_SpeciesSolver_keep
      rw [ed, d0, if_pos (by decide)]; rfl
    have eb : m_SpeciesSolverModel_keep F τ.2.2.2.2.2.2.2.1 τ.2.2.2.2.2.2.2.2.1 τ.2.2.2.2.2.2.2.2.2.1 τ.2.2.2.2.2.2.2.2.2.2.2.2.2.2.2.2.2.2.2.2.2.2.2.2.1 τ.2.2.1 τ.2.2.2.1 τ.2.2.2.2.2.2.2.2.2.2.2.2.2.2.2.2.2.2.2.2.1 = some (I (-1), τ.2.2.1, τ.2.2.2.1, τ.2.2.2.2.2.2.2.2.2.2.2.2.2.2.2.2.2.2.2.2.1) := by
      unfold m_SpeciesSolverModel_keep
      rw [ed2, d0, if_pos (by decide)]; rfl
    rw [ea, bd_S]
    refine Ok_some ?_
    rw [eb, bd_S]
    exact Ok_some ⟨rfl, S, ⟨hw, hz⟩, C, R, ⟨c4, c5, c6, c7⟩, ⟨r2, r3, r4, r5⟩, hdr, htr, hfo, ⟨mk, lm, m1, m2, by omega, m4⟩, ⟨sr, hsr, hss⟩⟩
  · obtain ⟨K, n, hK, hn9, hdn, b1, b2, b3, b4⟩ := hkn (by omega)
    have d1 : ¬ I (d : Int) = 0 := by rw [L_0, I_eq (by omega) (by omega) (by omega) (by omega)]; omega
    by_cases e1 : S.L < 3 ∧ 0 < S.L ∧ n = S.n
    · have eh : m_Setup_hasPlaceFor (I S.L) (I S.n) (I n) = some (I 1) := by
        unfold m_Setup_hasPlaceFor
        simp (disch := omega) only [gd_I, nz_I, bd_S, gb_B, nar_B, I_add, I_sub, I_mul, I_neg, I_div, I_nat, I_lt, I_le, I_eq, B_0, B_1, L_0, L_1, L_2, L_3, L_4, L_5, L_6, L_7, L_8, L_9, L_10, L_11, L_12, L_13, L_14, L_15, L_16, L_17, L_24, L_31, L_45, L_80, L_127, L_200, L_640, L_1280, L_1000000000, T_0, T_1, T_2, T_3, T_4, T_5, T_6, T_7, T_8, T_9, T_10, T_11, T_12, T_13, T_14, T_15, T_16, T_17]
        rw [if_neg (by omega), if_neg (by omega), if_neg (by omega), if_neg (by omega), if_pos (by omega)]
      have hs9 : (n - 1) * K < d := by rcases hK with h | h | h <;> subst h <;> omega
      have al := c_addL (F := F) (L := S.L) (e := K) (s := n) (fun i hi => (hv i hi).2.1) hd hL.1 e1.1 hK hn9.1 hn9.2 hs9 _ F 0 (I S.n) σ.2.2.2.2.2.2.2.2.2.2.1 rfl (by omega) (by omega) (by omega) (fun k k0 k1 => by omega)
      have gl := r_keepL (F := F) (L := S.L) (e := K) (s := n) (fun i hi => (hv i hi).2.2) hd hL.1 e1.1 hK hn9.1 hn9.2 hs9 (I d) (I n) _ F 0 τ.2.2.2.2.2.2.2.2.2.2.2.2.2.2.2.2.2.2.2.2.1 rfl (by omega) (by omega) (by omega) (fun k k0 k1 => by omega)
      have ca : Ok (m_SpeciesSolver_keep F σ.2.1 σ.2.2.1 σ.2.2.2.2.2.2.2.2.2.2.2.2.2.2.2.2.2.2.2.2.2.2.2.2.2.2.2.2.2.2.2.2.2.2.2.2.2.2.2.2.2.2.2.2.2.2.2.2.2.2.1 σ.2.2.2.2.2.2.2.2.2.2.2.2.2.2.2.2.2.2.2.2.2.2.2.2.2.2.2.2.2.2.2.2.2.2.2.2.2.2.2.2.2.2.2.2.2.2.2.2.2.2.2 σ.2.2.2.1 σ.2.2.2.2.1 σ.2.2.2.2.2.1 σ.2.2.2.2.2.2.2.2.2.2.1) (fun u => u.1 = I S.L ∧ u.2.1 = I 0 ∧ u.2.2.1 = I (S.L + 1) ∧ u.2.2.2.1 = I n ∧ (∀ k : Int, 0 ≤ k → k < n → u.2.2.2.2 S.L.toNat k.toNat = I (v (k * K).toNat)) ∧ (∀ l, l ≠ S.L.toNat → ∀ k, u.2.2.2.2 l k = σ.2.2.2.2.2.2.2.2.2.2.1 l k)) := by
        unfold m_SpeciesSolver_keep m_Setup_addLine
        rw [ed, c4, c5, b1, b3, if_neg d1, if_neg (by rw [L_0, I_eq (by omega) (by omega) (by omega) (by omega)]; omega), eh, bd_S, if_neg (by decide), L_0]
        refine Ok_bd al ?_
        rintro u ⟨u1, u2, u3, u4⟩
        exact Ok_some ⟨by simp only; rw [u1, show (1 : Int32) = I 1 from rfl, I_sub]; congr 1; omega, rfl, u1, u2, u3, u4⟩
      have cb : Ok (m_SpeciesSolverModel_keep F τ.2.2.2.2.2.2.2.1 τ.2.2.2.2.2.2.2.2.1 τ.2.2.2.2.2.2.2.2.2.1 τ.2.2.2.2.2.2.2.2.2.2.2.2.2.2.2.2.2.2.2.2.2.2.2.2.1 τ.2.2.1 τ.2.2.2.1 τ.2.2.2.2.2.2.2.2.2.2.2.2.2.2.2.2.2.2.2.2.1) (fun u => u.1 = I S.L ∧ u.2.1 = I (S.L + 1) ∧ u.2.2.1 = I n ∧ (∀ k : Int, 0 ≤ k → k < n → u.2.2.2 (12 * S.L + k).toNat = I (v (k * K).toNat)) ∧ (∀ l k : Int, 0 ≤ l → l ≠ S.L → 0 ≤ k → k < 12 → u.2.2.2 (12 * l + k).toNat = τ.2.2.2.2.2.2.2.2.2.2.2.2.2.2.2.2.2.2.2.2.1 (12 * l + k).toNat)) := by
        unfold m_SpeciesSolverModel_keep
        rw [ed2, r2, r3, b2, b4, if_neg d1, if_neg (by rw [show (3 : Int32) = I 3 from rfl, I_eq (by omega) (by omega) (by omega) (by omega)]; omega), if_pos (by rw [e1.2.2]), L_0]
        exact gl
      refine Ok_bd ca ?_
      rintro u ⟨q1, q2, q3, q4, q5, q6⟩
      refine Ok_some ?_
      refine Ok_bd cb ?_
      rintro w ⟨p1, p2, p3, p4, p5⟩
      have hns : 0 < S.L → n = S.n := fun _ => e1.2.2
      refine Ok_some ⟨q1.trans p1.symm, S.addL v K n, ⟨addL_WF hw (fun i hi => (hv i hi).1) e1.1 hK hn9.1 hn9.2 hs9 hns, fun h9 => ?_⟩, addL_CS hw C hns q5 q6, addL_RS hw R hn9.2 hns p4 p5, ⟨q3, q4, c6, c7⟩, ⟨p2, p3, r4, r5⟩, hdr, htr, hfo, ⟨mk, lm, m1, m2, by omega, m4⟩, ⟨false, q2, fun h => by cases h⟩⟩
      have : S.L + 1 = 0 := h9
      omega
    · have ea : m_SpeciesSolver_keep F σ.2.1 σ.2.2.1 σ.2.2.2.2.2.2.2.2.2.2.2.2.2.2.2.2.2.2.2.2.2.2.2.2.2.2.2.2.2.2.2.2.2.2.2.2.2.2.2.2.2.2.2.2.2.2.2.2.2.2.1 σ.2.2.2.2.2.2.2.2.2.2.2.2.2.2.2.2.2.2.2.2.2.2.2.2.2.2.2.2.2.2.2.2.2.2.2.2.2.2.2.2.2.2.2.2.2.2.2.2.2.2.2 σ.2.2.2.1 σ.2.2.2.2.1 σ.2.2.2.2.2.1 σ.2.2.2.2.2.2.2.2.2.2.1 = some (I (-1), σ.2.2.2.1, σ.2.2.2.2.1, σ.2.2.2.2.2.1, σ.2.2.2.2.2.2.2.2.2.2.1) := by
        unfold m_SpeciesSolver_keep
        rw [ed, c4, c5, b3, if_neg d1]
        by_cases g0 : S.L = 0
        · rw [if_pos (by rw [g0]; rfl)]; rfl
        · have eh : m_Setup_hasPlaceFor (I S.L) (I S.n) (I n) = some (I 0) := by
            unfold m_Setup_hasPlaceFor
            simp (disch := omega) only [gd_I, nz_I, bd_S, gb_B, nar_B, I_add, I_sub, I_mul, I_neg, I_div, I_nat, I_lt, I_le, I_eq, B_0, B_1, L_0, L_1, L_2, L_3, L_4, L_5, L_6, L_7, L_8, L_9, L_10, L_11, L_12, L_13, L_14, L_15, L_16, L_17, L_24, L_31, L_45, L_80, L_127, L_200, L_640, L_1280, L_1000000000, T_0, T_1, T_2, T_3, T_4, T_5, T_6, T_7, T_8, T_9, T_10, T_11, T_12, T_13, T_14, T_15, T_16, T_17]
            by_cases g1 : 3 ≤ S.L
            · rw [if_pos g1]
            · rw [if_neg g1, if_neg (by omega), if_neg (by omega), if_neg (by omega), if_neg (by omega)]
          rw [if_neg (by rw [L_0, I_eq (by omega) (by omega) (by omega) (by omega)]; omega), eh, bd_S, if_pos (by decide)]; rfl
      have eb : m_SpeciesSolverModel_keep F τ.2.2.2.2.2.2.2.1 τ.2.2.2.2.2.2.2.2.1 τ.2.2.2.2.2.2.2.2.2.1 τ.2.2.2.2.2.2.2.2.2.2.2.2.2.2.2.2.2.2.2.2.2.2.2.2.1 τ.2.2.1 τ.2.2.2.1 τ.2.2.2.2.2.2.2.2.2.2.2.2.2.2.2.2.2.2.2.2.1 = some (I (-1), τ.2.2.1, τ.2.2.2.1, τ.2.2.2.2.2.2.2.2.2.2.2.2.2.2.2.2.2.2.2.2.1) := by
        unfold m_SpeciesSolverModel_keep
        rw [ed2, r2, r3, b4, if_neg d1]
        by_cases g0 : S.L = 3
        · rw [if_pos (by rw [g0]; rfl)]; rfl
        · have g2 : ¬ n = S.n := by
            intro g3
            by_cases g4 : S.L = 0
            · have := hz g4; omega
            · exact e1 ⟨by omega, by omega, g3⟩
          rw [if_neg (by rw [show (3 : Int32) = I 3 from rfl, I_eq (by omega) (by omega) (by omega) (by omega)]; omega), if_neg (by rw [I_eq (by omega) (by omega) (by omega) (by omega)]; exact g2)]; rfl
      rw [ea, bd_S]
      refine Ok_some ?_
      rw [eb, bd_S]
      exact Ok_some ⟨rfl, S, ⟨hw, hz⟩, C, R, ⟨c4, c5, c6, c7⟩, ⟨r2, r3, r4, r5⟩, hdr, htr, hfo, ⟨mk, lm, m1, m2, by omega, m4⟩, ⟨sr, hsr, hss⟩⟩
end
