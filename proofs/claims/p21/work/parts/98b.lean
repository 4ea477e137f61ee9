/-! pure part: one call keeps what holds of both objects, and both answer alike -/
def INV (σ : SC) (τ : SM) (k : Nat) : Prop := ∃ S : Su, (WF S ∧ (S.L = 0 → S.n = 0)) ∧ CS S σ.2.2.2.2.2.2.2.2.1 σ.2.2.2.2.2.2.2.2.2.1 σ.2.2.2.2.2.2.2.2.2.2.1 ∧ RS S τ.2.2.2.2.2.2.2.2.2.2.2.2.2.2.2.2.2.2.2.2.2.2.1 τ.2.2.2.2.2.2.2.2.2.2.2.2.2.2.2.2.2.2.2.2.2.1 τ.2.2.2.2.2.2.2.2.2.2.2.2.2.2.2.2.2.2.2.2.1 ∧ (σ.2.2.2.2.1 = I S.L ∧ σ.2.2.2.2.2.1 = I S.n ∧ σ.2.2.2.2.2.2.1 = I S.K ∧ σ.2.2.2.2.2.2.2.1 = B S.ab) ∧ (τ.2.2.1 = I S.L ∧ τ.2.2.2.1 = I S.n ∧ τ.2.2.2.2.1 = I S.K ∧ τ.2.2.2.2.2.1 = B S.ab) ∧ LN2 σ.2.2.2.2.2.2.2.2.2.2.2.2.2.2.2.2.2.2.2.2.2.2.2.2.2.2.2.2.2.2.2.2.2.2.2.2.2.2.2.2.2.2.2.2.2.2.1 σ.2.2.2.2.2.2.2.2.2.2.2.2.2.2.2.2.2.2.2.2.2.2.2.2.2.2.2.2.2.2.2.2.2.2.2.2.2.2.2.2.2.2.2.2.2.2.2.1 τ.2.1 τ.2.2.2.2.2.2.2.2.2.2.2.2.2.2.2.2.2.2.2.1 ∧ LN2 σ.2.2.2.2.2.2.2.2.2.2.2.2.2.2.2.2.2.2.2.2.2.2.2.2.2.2.2.2.2.2.2.2.2.2.2.2.2.2.2.2.2.2.2.2.2.2.2.2.1 σ.2.2.2.2.2.2.2.2.2.2.2.2.2.2.2.2.2.2.2.2.2.2.2.2.2.2.2.2.2.2.2.2.2.2.2.2.2.2.2.2.2.2.2.2.2.2.2.2.2.1 τ.2.2.2.2.2.2.1 τ.2.2.2.2.2.2.2.2.2.2.2.2.2.2.2.2.2.2.2.2.2.2.2.1 ∧ FI σ.2.2.2.2.2.2.2.2.2.2.2.2.2.2.2.2.2.2.2.2.2.2.2.2.2.2.2.2.2.2.2.2.2.2.2.2.2.2.2.2.2.2.2.2.2.2.2.2.2.2.1 σ.2.2.2.2.2.2.2.2.2.2.2.2.2.2.2.2.2.2.2.2.2.2.2.2.2.2.2.2.2.2.2.2.2.2.2.2.2.2.2.2.2.2.2.2.2.2.2.2.2.2.2 σ.1 σ.2.1 σ.2.2.1 τ.2.2.2.2.2.2.2.1 τ.2.2.2.2.2.2.2.2.2.2.2.2.2.2.2.2.2.2.2.2.2.2.2.2.1 τ.2.2.2.2.2.2.2.2.2.2.1 τ.2.2.2.2.2.2.2.2.1 τ.2.2.2.2.2.2.2.2.2.1 ∧ (∃ (mk : Int) (lm : List Int), σ.2.2.2.2.2.2.2.2.2.2.2.2.2.2.2.2.2.2.2.2.2.2.2.2.2.2.2.2.2.2.1 = I mk ∧ 0 ≤ mk ∧ mk ≤ 1000 * k ∧ MK mk σ.2.2.2.2.2.2.2.2.2.2.2.2.2.2.2.2.2.2.2.2.2.2.2.2.2.2.2.2.2.2.2.2.2.2.2.2.2.2.2.2.1 lm) ∧ (∃ sr : Bool, σ.2.2.2.1 = B sr ∧ SRS S sr σ.2.2.2.2.2.2.2.2.2.2.2.2.2.2.2.2.2.2.1 σ.2.2.2.2.2.2.2.2.2.2.2.2.2.2.2.2.2.2.2.2.2.1 σ.2.2.2.2.2.2.2.2.2.2.2.2.2.2.2.2.2.2.2.2.2.2.2.2.2.2.2.2.2.2.2.2.2.1 σ.2.2.2.2.2.2.2.2.2.2.2.2.2.2.2.2.2.2.2.2.2.2.2.2.2.2.2.2.2.2.2.2.2.2.1 σ.2.2.2.2.2.2.2.2.2.2.2.2.2.2.2.2.2.2.2.2.2.2.2.2.2.2.2.2.2.2.2.2.2.2.2.1 σ.2.2.2.2.2.2.2.2.2.2.2.2.2.2.2.2.2.2.2.2.2.2.2.2.2.2.2.2.2.2.2.2.2.2.2.2.2.2.2.2.2.2.2.2.1)
section
variable {σ : SC} {τ : SM} {k F : Nat}
theorem I_ex (a : Int32) : ∃ x : Int, a = I x ∧ -2147483648 ≤ x ∧ x < 2147483648 := ⟨a.toInt, (I_of a).symm, by have := a.le_toInt; omega, by have := a.toInt_lt; omega⟩
theorem LN2_snoc {X Y : Nat → Int32} {d : Nat} {v : Nat → Int} {p : Int} (hd : d < 45) (p0 : 0 ≤ p) (p1 : p ≤ 127) (hv : ∀ i, i < d → (0 ≤ v i ∧ v i ≤ 127) ∧ X i = I (v i) ∧ Y i = I (v i)) : LN2 (I ((d + 1 : Nat) : Int)) (upd X d (I p)) (I ((d + 1 : Nat) : Int)) (upd Y d (I p)) := by
  refine ⟨d + 1, fun i => if i = d then p else v i, by omega, rfl, rfl, fun i hi => ?_⟩
  by_cases e9 : i = d
  · subst e9
    simp only [if_true]
    exact ⟨⟨p0, p1⟩, upd_at _ _ _, upd_at _ _ _⟩
  · simp only
    rw [if_neg e9, upd_ne _ _ e9, upd_ne _ _ e9]
    exact hv i (by omega)
theorem st_note (h : INV σ τ k) (a : Int32) : Ok (sc_note F σ a) (fun u => Ok (sm_note F τ a) (fun w => u.1 = w.1 ∧ INV u.2 w.2 (k + 1))) := by
  obtain ⟨S, ⟨hw, hz⟩, C, R, ⟨c4, c5, c6, c7⟩, ⟨r2, r3, r4, r5⟩, hdr, htr, hfo, ⟨mk, lm, m1, m2, m3, m4⟩, ⟨sr, hsr, hss⟩⟩ := h
  obtain ⟨d, v, hd, ed, ed2, hv⟩ := hdr
  obtain ⟨p, ep, p0, p1⟩ := I_ex a
  subst ep
  unfold sc_note sm_note
  rw [ed, ed2]
  by_cases e1 : 0 ≤ p ∧ p ≤ 127 ∧ d < 45
  · have ea : m_SpeciesSolver_note (I d) σ.2.2.2.2.2.2.2.2.2.2.2.2.2.2.2.2.2.2.2.2.2.2.2.2.2.2.2.2.2.2.2.2.2.2.2.2.2.2.2.2.2.2.2.2.2.2.2.1 (I p) = some (I ((d + 1 : Nat) : Int), I ((d + 1 : Nat) : Int), upd σ.2.2.2.2.2.2.2.2.2.2.2.2.2.2.2.2.2.2.2.2.2.2.2.2.2.2.2.2.2.2.2.2.2.2.2.2.2.2.2.2.2.2.2.2.2.2.2.1 d (I p)) := by
      have ej : (d : Int) + 1 = ((d + 1 : Nat) : Int) := by omega
      unfold m_SpeciesSolver_note m_Line_append
      simp (disch := omega) only [gd_I, nz_I, bd_S, gb_B, nar_B, I_add, I_sub, I_mul, I_neg, I_div, I_nat, I_lt, I_le, I_eq, B_0, B_1, L_0, L_1, L_2, L_3, L_4, L_5, L_6, L_7, L_8, L_9, L_10, L_11, L_12, L_13, L_14, L_15, L_16, L_17, L_24, L_31, L_45, L_80, L_127, L_200, L_640, L_1280, L_1000000000, T_0, T_1, T_2, T_3, T_4, T_5, T_6, T_7, T_8, T_9, T_10, T_11, T_12, T_13, T_14, T_15, T_16, T_17, Int.toNat_natCast, ej]
      rw [if_neg (by omega), if_neg (by omega), if_pos (by omega), if_neg (by omega)]; rfl
    have eb : m_SpeciesSolverModel_note (I d) τ.2.2.2.2.2.2.2.2.2.2.2.2.2.2.2.2.2.2.2.1 (I p) = some (I ((d + 1 : Nat) : Int), I ((d + 1 : Nat) : Int), upd τ.2.2.2.2.2.2.2.2.2.2.2.2.2.2.2.2.2.2.2.1 d (I p)) := by
      have ej : (d : Int) + 1 = ((d + 1 : Nat) : Int) := by omega
      unfold m_SpeciesSolverModel_note
      simp (disch := omega) only [gd_I, nz_I, bd_S, gb_B, nar_B, I_add, I_sub, I_mul, I_neg, I_div, I_nat, I_lt, I_le, I_eq, B_0, B_1, L_0, L_1, L_2, L_3, L_4, L_5, L_6, L_7, L_8, L_9, L_10, L_11, L_12, L_13, L_14, L_15, L_16, L_17, L_24, L_31, L_45, L_80, L_127, L_200, L_640, L_1280, L_1000000000, T_0, T_1, T_2, T_3, T_4, T_5, T_6, T_7, T_8, T_9, T_10, T_11, T_12, T_13, T_14, T_15, T_16, T_17, Int.toNat_natCast, ej]
      rw [if_neg (by omega), if_neg (by omega), if_neg (by omega)]
    rw [ea, bd_S]
    refine Ok_some ?_
    rw [eb, bd_S]
    exact Ok_some ⟨rfl, S, ⟨hw, hz⟩, C, R, ⟨c4, c5, c6, c7⟩, ⟨r2, r3, r4, r5⟩, LN2_snoc e1.2.2 e1.1 e1.2.1 hv, htr, hfo, ⟨mk, lm, m1, m2, by omega, m4⟩, ⟨sr, hsr, hss⟩⟩
  · have ea : m_SpeciesSolver_note (I d) σ.2.2.2.2.2.2.2.2.2.2.2.2.2.2.2.2.2.2.2.2.2.2.2.2.2.2.2.2.2.2.2.2.2.2.2.2.2.2.2.2.2.2.2.2.2.2.2.1 (I p) = some (I (-1), I d, σ.2.2.2.2.2.2.2.2.2.2.2.2.2.2.2.2.2.2.2.2.2.2.2.2.2.2.2.2.2.2.2.2.2.2.2.2.2.2.2.2.2.2.2.2.2.2.2.1) := by
      unfold m_SpeciesSolver_note
      simp (disch := omega) only [gd_I, nz_I, bd_S, gb_B, nar_B, I_add, I_sub, I_mul, I_neg, I_div, I_nat, I_lt, I_le, I_eq, B_0, B_1, L_0, L_1, L_2, L_3, L_4, L_5, L_6, L_7, L_8, L_9, L_10, L_11, L_12, L_13, L_14, L_15, L_16, L_17, L_24, L_31, L_45, L_80, L_127, L_200, L_640, L_1280, L_1000000000, T_0, T_1, T_2, T_3, T_4, T_5, T_6, T_7, T_8, T_9, T_10, T_11, T_12, T_13, T_14, T_15, T_16, T_17]
      by_cases g1 : p < 0
      · rw [if_pos g1]
      · rw [if_neg g1]
        by_cases g2 : 127 < p
        · rw [if_pos g2]
        · rw [if_neg g2, if_neg (by omega)]
    have eb : m_SpeciesSolverModel_note (I d) τ.2.2.2.2.2.2.2.2.2.2.2.2.2.2.2.2.2.2.2.1 (I p) = some (I (-1), I d, τ.2.2.2.2.2.2.2.2.2.2.2.2.2.2.2.2.2.2.2.1) := by
      unfold m_SpeciesSolverModel_note
      simp (disch := omega) only [gd_I, nz_I, bd_S, gb_B, nar_B, I_add, I_sub, I_mul, I_neg, I_div, I_nat, I_lt, I_le, I_eq, B_0, B_1, L_0, L_1, L_2, L_3, L_4, L_5, L_6, L_7, L_8, L_9, L_10, L_11, L_12, L_13, L_14, L_15, L_16, L_17, L_24, L_31, L_45, L_80, L_127, L_200, L_640, L_1280, L_1000000000, T_0, T_1, T_2, T_3, T_4, T_5, T_6, T_7, T_8, T_9, T_10, T_11, T_12, T_13, T_14, T_15, T_16, T_17]
      by_cases g1 : p < 0
      · rw [if_pos g1]
      · rw [if_neg g1]
        by_cases g2 : 127 < p
        · rw [if_pos g2]
        · rw [if_neg g2, if_pos (by omega)]
    rw [ea, bd_S]
    refine Ok_some ?_
    rw [eb, bd_S]
    exact Ok_some ⟨rfl, S, ⟨hw, hz⟩, C, R, ⟨c4, c5, c6, c7⟩, ⟨r2, r3, r4, r5⟩, ⟨d, v, hd, rfl, rfl, hv⟩, htr, hfo, ⟨mk, lm, m1, m2, by omega, m4⟩, ⟨sr, hsr, hss⟩⟩
theorem st_give (hF : 2000 ≤ F) (h : INV σ τ k) : Ok (sc_give F σ ) (fun u => Ok (sm_give F τ ) (fun w => u.1 = w.1 ∧ INV u.2 w.2 (k + 1))) := by
  obtain ⟨S, ⟨hw, hz⟩, C, R, ⟨c4, c5, c6, c7⟩, ⟨r2, r3, r4, r5⟩, hdr, htr, hfo, ⟨mk, lm, m1, m2, m3, m4⟩, ⟨sr, hsr, hss⟩⟩ := h
  obtain ⟨d, v, hd, ed, ed2, hv⟩ := hdr
  have hL := WF_L hw; have hn := WF_n hw; have hn2 := WF_n2 hw
  unfold sc_give sm_give
  rw [ed, ed2, c4, c5, r2, r3]
  by_cases e1 : S.L < 3 ∧ 2 ≤ d ∧ d ≤ 12 ∧ (S.L = 0 ∨ (d : Int) = S.n)
  · have eh : m_Setup_hasPlaceFor (I S.L) (I S.n) (I d) = some (I 1) := by
      unfold m_Setup_hasPlaceFor
      simp (disch := omega) only [gd_I, nz_I, bd_S, gb_B, nar_B, I_add, I_sub, I_mul, I_neg, I_div, I_nat, I_lt, I_le, I_eq, B_0, B_1, L_0, L_1, L_2, L_3, L_4, L_5, L_6, L_7, L_8, L_9, L_10, L_11, L_12, L_13, L_14, L_15, L_16, L_17, L_24, L_31, L_45, L_80, L_127, L_200, L_640, L_1280, L_1000000000, T_0, T_1, T_2, T_3, T_4, T_5, T_6, T_7, T_8, T_9, T_10, T_11, T_12, T_13, T_14, T_15, T_16, T_17]
      rw [if_neg (by omega), if_neg (by omega), if_neg (by omega)]
      by_cases g : S.L = 0
      · rw [if_pos g]
      · rw [if_neg g, if_pos (by omega)]
    have al := c_addL (F := F) (L := S.L) (e := 1) (s := d) (fun i hi => (hv i hi).2.1) hd hL.1 e1.1 (Or.inl rfl) (by omega) (by omega) (by omega) _ F 0 (I S.n) σ.2.2.2.2.2.2.2.2.2.2.1 rfl (by omega) (by omega) (by omega) (fun k k0 k1 => by omega)
    have gl := r_giveL (F := F) (L := S.L) (s := d) (fun i hi => (hv i hi).2.2) hd hL.1 e1.1 (by omega) (by omega) (by omega) (I d) _ F 0 τ.2.2.2.2.2.2.2.2.2.2.2.2.2.2.2.2.2.2.2.2.1 rfl (by omega) (by omega) (by omega) (fun k k0 k1 => by omega)
    have eg : m_SpeciesSolverModel_give F τ.2.2.2.2.2.2.2.2.2.2.2.2.2.2.2.2.2.2.2.1 (I d) (I S.L) (I S.n) τ.2.2.2.2.2.2.2.2.2.2.2.2.2.2.2.2.2.2.2.2.1 = m_SpeciesSolverModel_give_55 F τ.2.2.2.2.2.2.2.2.2.2.2.2.2.2.2.2.2.2.2.1 F (I d) (I S.L) (I d) τ.2.2.2.2.2.2.2.2.2.2.2.2.2.2.2.2.2.2.2.2.1 (I 0) := by
      unfold m_SpeciesSolverModel_give m_SpeciesSolverModel_give_45
      simp (disch := omega) only [gd_I, nz_I, bd_S, gb_B, nar_B, I_add, I_sub, I_mul, I_neg, I_div, I_nat, I_lt, I_le, I_eq, B_0, B_1, L_0, L_1, L_2, L_3, L_4, L_5, L_6, L_7, L_8, L_9, L_10, L_11, L_12, L_13, L_14, L_15, L_16, L_17, L_24, L_31, L_45, L_80, L_127, L_200, L_640, L_1280, L_1000000000, T_0, T_1, T_2, T_3, T_4, T_5, T_6, T_7, T_8, T_9, T_10, T_11, T_12, T_13, T_14, T_15, T_16, T_17]
      rw [if_neg (by omega), if_neg (by omega), if_neg (by omega)]
      by_cases g : S.L ≤ 0
      · rw [if_pos g]
      · rw [if_neg g, if_pos (by omega)]
    unfold m_SpeciesSolver_give m_Setup_addLine
    rw [eh, bd_S, if_neg (by decide), eg, show (1 : Int32) = I 1 from rfl, L_0]
    refine Ok_bd (Ok_bd al (fun u hu => Ok_some (P := fun (w : Int32 × Int32 × Int32 × Int32 × (Nat → Nat → Int32) × Int32) => w.1 = I S.L ∧ w.2.1 = I 0 ∧ w.2.2.1 = I (S.L + 1) ∧ w.2.2.2.1 = I d ∧ (∀ k : Int, 0 ≤ k → k < d → w.2.2.2.2.1 S.L.toNat k.toNat = I (v (k * 1).toNat)) ∧ (∀ l, l ≠ S.L.toNat → ∀ k, w.2.2.2.2.1 l k = σ.2.2.2.2.2.2.2.2.2.2.1 l k) ∧ w.2.2.2.2.2 = I 0) ⟨by simp only; rw [hu.1, I_sub]; congr 1; omega, rfl, hu.1, hu.2.1, hu.2.2.1, hu.2.2.2, rfl⟩)) ?_
    rintro ⟨y0, y1, y2, y3, y4, y5⟩ ⟨q1, q2, q3, q4, q5, q6, q7⟩
    simp only at q1 q2 q3 q4 q5 q6 q7
    refine Ok_some ?_
    refine Ok_bd gl ?_
    rintro ⟨x0, x1, x2, x3, x4⟩ ⟨p1, p2, p3, p4, p5, p6⟩
    simp only at p1 p2 p3 p4 p5 p6
    have hns : 0 < S.L → (d : Int) = S.n := fun h => by omega
    refine Ok_some ⟨q1.trans p1.symm, S.addL v 1 d, ⟨addL_WF hw (fun i hi => (hv i hi).1) e1.1 (Or.inl rfl) (by omega) (by omega) (by omega) hns, fun h9 => ?_⟩, addL_CS hw C hns q5 q6, addL_RS hw R (by omega) hns p5 p6, ⟨q3, q4, c6, c7⟩, ⟨p3, p4, r4, r5⟩, ⟨0, fun _ => 0, by omega, q7, p2, fun i hi => absurd hi (Nat.not_lt_zero i)⟩, htr, hfo, ⟨mk, lm, m1, m2, by omega, m4⟩, ⟨false, q2, fun h => by cases h⟩⟩
    have : S.L + 1 = 0 := h9
    omega
  · have eh : m_Setup_hasPlaceFor (I S.L) (I S.n) (I d) = some (I 0) := by
      unfold m_Setup_hasPlaceFor
      simp (disch := omega) only [gd_I, nz_I, bd_S, gb_B, nar_B, I_add, I_sub, I_mul, I_neg, I_div, I_nat, I_lt, I_le, I_eq, B_0, B_1, L_0, L_1, L_2, L_3, L_4, L_5, L_6, L_7, L_8, L_9, L_10, L_11, L_12, L_13, L_14, L_15, L_16, L_17, L_24, L_31, L_45, L_80, L_127, L_200, L_640, L_1280, L_1000000000, T_0, T_1, T_2, T_3, T_4, T_5, T_6, T_7, T_8, T_9, T_10, T_11, T_12, T_13, T_14, T_15, T_16, T_17]
      by_cases g1 : 3 ≤ S.L
      · rw [if_pos g1]
      · rw [if_neg g1]
        by_cases g2 : (d : Int) < 2
        · rw [if_pos g2]
        · rw [if_neg g2]
          by_cases g3 : 12 < (d : Int)
          · rw [if_pos g3]
          · rw [if_neg g3, if_neg (by omega), if_neg (by omega)]
    have eg : m_SpeciesSolverModel_give F τ.2.2.2.2.2.2.2.2.2.2.2.2.2.2.2.2.2.2.2.1 (I d) (I S.L) (I S.n) τ.2.2.2.2.2.2.2.2.2.2.2.2.2.2.2.2.2.2.2.2.1 = some (I (-1), I d, I S.L, I S.n, τ.2.2.2.2.2.2.2.2.2.2.2.2.2.2.2.2.2.2.2.2.1) := by
      unfold m_SpeciesSolverModel_give
      simp (disch := omega) only [gd_I, nz_I, bd_S, gb_B, nar_B, I_add, I_sub, I_mul, I_neg, I_div, I_nat, I_lt, I_le, I_eq, B_0, B_1, L_0, L_1, L_2, L_3, L_4, L_5, L_6, L_7, L_8, L_9, L_10, L_11, L_12, L_13, L_14, L_15, L_16, L_17, L_24, L_31, L_45, L_80, L_127, L_200, L_640, L_1280, L_1000000000, T_0, T_1, T_2, T_3, T_4, T_5, T_6, T_7, T_8, T_9, T_10, T_11, T_12, T_13, T_14, T_15, T_16, T_17]
      by_cases g1 : S.L = 3
      · rw [if_pos g1]
      · rw [if_neg g1]
        by_cases g2 : (d : Int) < 2
        · rw [if_pos g2]
        · rw [if_neg g2]
          by_cases g3 : 12 < (d : Int)
          · rw [if_pos g3]
          · rw [if_neg g3, if_neg (by omega), if_neg (by omega)]
    unfold m_SpeciesSolver_give
    rw [eh, bd_S, if_pos (by decide), bd_S]
    refine Ok_some ?_
    rw [eg, bd_S]
    exact Ok_some ⟨rfl, S, ⟨hw, hz⟩, C, R, ⟨rfl, rfl, c6, c7⟩, ⟨rfl, rfl, r4, r5⟩, ⟨d, v, hd, rfl, rfl, hv⟩, htr, hfo, ⟨mk, lm, m1, m2, by omega, m4⟩, ⟨sr, hsr, hss⟩⟩
end
