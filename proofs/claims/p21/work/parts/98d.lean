/-! pure part: one call, the small ones, more -/
section
variable {σ : SC} {τ : SM} {k F : Nat}
theorem st_number (h : INV σ τ k) (a b : Int32) : Ok (sc_number F σ a b) (fun u => Ok (sm_number F τ a b) (fun w => u.1 = w.1 ∧ INV u.2 w.2 (k + 1))) := by
  obtain ⟨S, ⟨hw, hz⟩, C, R, ⟨c4, c5, c6, c7⟩, ⟨r2, r3, r4, r5⟩, hdr, htr, hfo, ⟨mk, lm, m1, m2, m3, m4⟩, ⟨sr, hsr, hss⟩⟩ := h
  obtain ⟨p, ep, p0, p1⟩ := I_ex a
  obtain ⟨v, ev, v0, v1⟩ := I_ex b
  subst ep; subst ev
  unfold sc_number sm_number
  by_cases e1 : (0 ≤ p ∧ p < 18) ∧ mnN p ≤ v ∧ v ≤ mxN p
  · obtain ⟨⟨g0, g1⟩, g2, g3⟩ := e1
    obtain ⟨t1, t2, t3, t4⟩ := stab_mn g0 g1
    obtain ⟨m8, m9⟩ := mn_mx g0 g1
    have ea : m_SpeciesSolver_number σ.2.2.2.1 σ.2.2.2.2.2.2.2.2.1 (I p) (I v) = some (I 1, I 0, upd σ.2.2.2.2.2.2.2.2.1 p.toNat (I v)) := by
      unfold m_SpeciesSolver_number
      rw [show (18 : Int32) = I 18 from rfl]
      simp (disch := omega) only [gd_I, nz_I, bd_S, gb_B, nar_B, I_add, I_sub, I_mul, I_neg, I_div, I_nat, I_lt, I_le, I_eq, B_0, B_1, L_0, L_1, L_2, L_3, L_4, L_5, L_6, L_7, L_8, L_9, L_10, L_11, L_12, L_13, L_14, L_15, L_16, L_17, L_24, L_31, L_45, L_80, L_127, L_200, L_640, L_1280, L_1000000000, T_0, T_1, T_2, T_3, T_4, T_5, T_6, T_7, T_8, T_9, T_10, T_11, T_12, T_13, T_14, T_15, T_16, T_17, t1, t2]
      rw [if_neg (by omega), if_neg (by omega), if_neg (by omega), if_pos (by omega)]
    have eb : m_SpeciesSolverModel_number τ.2.2.2.2.2.2.2.2.2.2.2.2.2.2.2.2.2.2.2.2.2.2.1 (I p) (I v) = some (I 1, upd τ.2.2.2.2.2.2.2.2.2.2.2.2.2.2.2.2.2.2.2.2.2.2.1 p.toNat (I v)) := by
      have gb1 : ∀ x : Option (Int32 × (Nat → Int32)), gb (I 1) x = x := fun x => gb_B true x
      unfold m_SpeciesSolverModel_number m_SpeciesSolverModel_number_31
      rw [show (18 : Int32) = I 18 from rfl]
      simp (disch := omega) only [gd_I, nz_I, bd_S, gb_B, nar_B, I_add, I_sub, I_mul, I_neg, I_div, I_nat, I_lt, I_le, I_eq, B_0, B_1, L_0, L_1, L_2, L_3, L_4, L_5, L_6, L_7, L_8, L_9, L_10, L_11, L_12, L_13, L_14, L_15, L_16, L_17, L_24, L_31, L_45, L_80, L_127, L_200, L_640, L_1280, L_1000000000, T_0, T_1, T_2, T_3, T_4, T_5, T_6, T_7, T_8, T_9, T_10, T_11, T_12, T_13, T_14, T_15, T_16, T_17, t3, t4, gb1]
      rw [if_neg (by omega), if_neg (by omega), if_neg (by omega), if_neg (by omega), if_neg (by decide)]
    rw [ea, bd_S]
    refine Ok_some ?_
    rw [eb, bd_S]
    obtain ⟨w1, w2, w3, w4, w5, w6, w7, w8, w9, w10, w11⟩ := hw
    have hmn := g2; have hmx := g3
    unfold mnN at hmn; unfold mxN at hmx
    refine Ok_some ⟨rfl, ((fun i => if i = p.toNat then v else S.nu i), S.on, S.giv, S.L, S.n, S.K, S.ab), ⟨⟨w1, w2, w3, w4, fun i hi => ?_, ⟨?_, ?_⟩, ?_, ?_, ?_, fun i hi hi2 => ?_, w11⟩, hz⟩, ⟨fun i hi => ?_, C.2.1, C.2.2⟩, ⟨fun i hi => ?_, R.2.1, R.2.2⟩, ⟨c4, c5, c6, c7⟩, ⟨r2, r3, r4, r5⟩, hdr, htr, hfo, ⟨mk, lm, m1, m2, by omega, m4⟩, ⟨false, rfl, SR_no⟩⟩
    · show 0 ≤ (if i = p.toNat then v else S.nu i) ∧ (if i = p.toNat then v else S.nu i) ≤ 33554431
      by_cases e9 : i = p.toNat
      · rw [if_pos e9]; omega
      · rw [if_neg e9]; exact w5 i hi
    · show (if 1 = p.toNat then v else S.nu 1) ≤ 127
      by_cases e9 : 1 = p.toNat
      · have : p = 1 := by omega
        subst this; rw [if_pos e9]; simpa using hmx
      · rw [if_neg e9]; exact w6.1
    · show (if 2 = p.toNat then v else S.nu 2) ≤ 127
      by_cases e9 : 2 = p.toNat
      · have : p = 2 := by omega
        subst this; rw [if_pos e9]; simpa using hmx
      · rw [if_neg e9]; exact w6.2
    · show 1 ≤ (if 8 = p.toNat then v else S.nu 8) ∧ (if 8 = p.toNat then v else S.nu 8) ≤ 12
      by_cases e9 : 8 = p.toNat
      · have : p = 8 := by omega
        subst this; rw [if_pos e9]; exact ⟨by simpa using hmn, by simpa using hmx⟩
      · rw [if_neg e9]; exact w7
    · show 1 ≤ (if 10 = p.toNat then v else S.nu 10) ∧ (if 10 = p.toNat then v else S.nu 10) ≤ 24
      by_cases e9 : 10 = p.toNat
      · have : p = 10 := by omega
        subst this; rw [if_pos e9]; exact ⟨by simpa using hmn, by simpa using hmx⟩
      · rw [if_neg e9]; exact w8
    · show 1 ≤ (if 11 = p.toNat then v else S.nu 11) ∧ (if 11 = p.toNat then v else S.nu 11) ≤ 3
      by_cases e9 : 11 = p.toNat
      · have : p = 11 := by omega
        subst this; rw [if_pos e9]; exact ⟨by simpa using hmn, by simpa using hmx⟩
      · rw [if_neg e9]; exact w9
    · show (if i = p.toNat then v else S.nu i) ≤ 1000
      by_cases e9 : i = p.toNat
      · rw [if_pos e9]
        rw [if_neg (by omega), if_neg (by omega), if_neg (by omega), if_neg (by omega), if_neg (by omega), if_pos (by omega)] at hmx
        exact hmx
      · rw [if_neg e9]; exact w10 i hi hi2
    · show upd σ.2.2.2.2.2.2.2.2.1 p.toNat (I v) i = I (if i = p.toNat then v else S.nu i)
      by_cases e9 : i = p.toNat
      · rw [if_pos e9, e9]; exact upd_at _ _ _
      · rw [if_neg e9, upd_ne _ _ e9]; exact C.1 i hi
    · show upd τ.2.2.2.2.2.2.2.2.2.2.2.2.2.2.2.2.2.2.2.2.2.2.1 p.toNat (I v) i = I (if i = p.toNat then v else S.nu i)
      by_cases e9 : i = p.toNat
      · rw [if_pos e9, e9]; exact upd_at _ _ _
      · rw [if_neg e9, upd_ne _ _ e9]; exact R.1 i hi
  · have gb0 : ∀ x : Option (Int32 × (Nat → Int32)), gb (I 0) x = x := fun x => gb_B false x
    have e30 : m_SpeciesSolverModel_number_30 τ.2.2.2.2.2.2.2.2.2.2.2.2.2.2.2.2.2.2.2.2.2.2.1 (I p) (I v) = some (I 0, τ.2.2.2.2.2.2.2.2.2.2.2.2.2.2.2.2.2.2.2.2.2.2.1) := by
      unfold m_SpeciesSolverModel_number_30 m_SpeciesSolverModel_number_31
      rw [if_pos rfl, L_0, gb0]
    have both : m_SpeciesSolver_number σ.2.2.2.1 σ.2.2.2.2.2.2.2.2.1 (I p) (I v) = some (I 0, σ.2.2.2.1, σ.2.2.2.2.2.2.2.2.1) ∧ m_SpeciesSolverModel_number τ.2.2.2.2.2.2.2.2.2.2.2.2.2.2.2.2.2.2.2.2.2.2.1 (I p) (I v) = some (I 0, τ.2.2.2.2.2.2.2.2.2.2.2.2.2.2.2.2.2.2.2.2.2.2.1) := by
      unfold m_SpeciesSolver_number m_SpeciesSolverModel_number
      rw [show (18 : Int32) = I 18 from rfl]
      by_cases g1 : p < 0
      · simp (disch := omega) only [gd_I, nz_I, bd_S, gb_B, nar_B, I_add, I_sub, I_mul, I_neg, I_div, I_nat, I_lt, I_le, I_eq, B_0, B_1, L_0, L_1, L_2, L_3, L_4, L_5, L_6, L_7, L_8, L_9, L_10, L_11, L_12, L_13, L_14, L_15, L_16, L_17, L_24, L_31, L_45, L_80, L_127, L_200, L_640, L_1280, L_1000000000, T_0, T_1, T_2, T_3, T_4, T_5, T_6, T_7, T_8, T_9, T_10, T_11, T_12, T_13, T_14, T_15, T_16, T_17, e30]
        rw [if_pos g1, if_pos g1]; exact ⟨rfl, rfl⟩
      · by_cases g2 : 18 ≤ p
        · simp (disch := omega) only [gd_I, nz_I, bd_S, gb_B, nar_B, I_add, I_sub, I_mul, I_neg, I_div, I_nat, I_lt, I_le, I_eq, B_0, B_1, L_0, L_1, L_2, L_3, L_4, L_5, L_6, L_7, L_8, L_9, L_10, L_11, L_12, L_13, L_14, L_15, L_16, L_17, L_24, L_31, L_45, L_80, L_127, L_200, L_640, L_1280, L_1000000000, T_0, T_1, T_2, T_3, T_4, T_5, T_6, T_7, T_8, T_9, T_10, T_11, T_12, T_13, T_14, T_15, T_16, T_17, e30]
          rw [if_neg g1, if_pos g2, if_neg g1, if_pos g2]; exact ⟨rfl, rfl⟩
        · obtain ⟨t1, t2, t3, t4⟩ := stab_mn (by omega : 0 ≤ p) (by omega)
          obtain ⟨m8, m9⟩ := mn_mx (by omega : 0 ≤ p) (by omega : p < 18)
          have m10 : mnN p ≤ 1 ∧ 3 ≤ mxN p := by unfold mnN mxN; (repeat' split) <;> omega
          simp (disch := omega) only [gd_I, nz_I, bd_S, gb_B, nar_B, I_add, I_sub, I_mul, I_neg, I_div, I_nat, I_lt, I_le, I_eq, B_0, B_1, L_0, L_1, L_2, L_3, L_4, L_5, L_6, L_7, L_8, L_9, L_10, L_11, L_12, L_13, L_14, L_15, L_16, L_17, L_24, L_31, L_45, L_80, L_127, L_200, L_640, L_1280, L_1000000000, T_0, T_1, T_2, T_3, T_4, T_5, T_6, T_7, T_8, T_9, T_10, T_11, T_12, T_13, T_14, T_15, T_16, T_17, e30, t1, t2, t3, t4]
          rw [if_neg g1, if_neg g2, if_neg g1, if_neg g2]
          by_cases g3 : v < mnN p
          · rw [if_pos g3, if_pos g3]; exact ⟨rfl, rfl⟩
          · rw [if_neg g3, if_neg g3, if_neg (by omega), if_pos (by omega)]; exact ⟨rfl, rfl⟩
    rw [both.1, bd_S]
    refine Ok_some ?_
    rw [both.2, bd_S]
    exact Ok_some ⟨rfl, S, ⟨hw, hz⟩, C, R, ⟨c4, c5, c6, c7⟩, ⟨r2, r3, r4, r5⟩, hdr, htr, hfo, ⟨mk, lm, m1, m2, by omega, m4⟩, ⟨sr, hsr, hss⟩⟩
theorem st_setting (h : INV σ τ k) (a : Int32) : Ok (sc_setting F σ a) (fun u => Ok (sm_setting F τ a) (fun w => u.1 = w.1 ∧ INV u.2 w.2 (k + 1))) := by
  obtain ⟨S, ⟨hw, hz⟩, C, R, ⟨c4, c5, c6, c7⟩, ⟨r2, r3, r4, r5⟩, hdr, htr, hfo, ⟨mk, lm, m1, m2, m3, m4⟩, ⟨sr, hsr, hss⟩⟩ := h
  obtain ⟨p, ep, p0, p1⟩ := I_ex a
  subst ep
  unfold sc_setting sm_setting
  have both : ∃ x, m_SpeciesSolver_setting σ.2.2.2.2.2.2.2.2.1 (I p) = some x ∧ m_SpeciesSolverModel_setting τ.2.2.2.2.2.2.2.2.2.2.2.2.2.2.2.2.2.2.2.2.2.2.1 (I p) = some x := by
    unfold m_SpeciesSolver_setting m_SpeciesSolverModel_setting
    rw [show (18 : Int32) = I 18 from rfl]
    by_cases g1 : p < 0
    · simp (disch := omega) only [gd_I, nz_I, bd_S, gb_B, nar_B, I_add, I_sub, I_mul, I_neg, I_div, I_nat, I_lt, I_le, I_eq, B_0, B_1, L_0, L_1, L_2, L_3, L_4, L_5, L_6, L_7, L_8, L_9, L_10, L_11, L_12, L_13, L_14, L_15, L_16, L_17, L_24, L_31, L_45, L_80, L_127, L_200, L_640, L_1280, L_1000000000, T_0, T_1, T_2, T_3, T_4, T_5, T_6, T_7, T_8, T_9, T_10, T_11, T_12, T_13, T_14, T_15, T_16, T_17]
      rw [if_pos g1, if_pos g1]; exact ⟨_, rfl, rfl⟩
    · by_cases g2 : p < 18
      · have c1 := CS_nu C p.toNat (by omega); have c2 := RS_nu R p.toNat (by omega)
        simp (disch := omega) only [gd_I, nz_I, bd_S, gb_B, nar_B, I_add, I_sub, I_mul, I_neg, I_div, I_nat, I_lt, I_le, I_eq, B_0, B_1, L_0, L_1, L_2, L_3, L_4, L_5, L_6, L_7, L_8, L_9, L_10, L_11, L_12, L_13, L_14, L_15, L_16, L_17, L_24, L_31, L_45, L_80, L_127, L_200, L_640, L_1280, L_1000000000, T_0, T_1, T_2, T_3, T_4, T_5, T_6, T_7, T_8, T_9, T_10, T_11, T_12, T_13, T_14, T_15, T_16, T_17, c1, c2]
        rw [if_neg g1, if_pos g2, if_neg g1, if_pos (by omega)]; exact ⟨_, rfl, rfl⟩
      · simp (disch := omega) only [gd_I, nz_I, bd_S, gb_B, nar_B, I_add, I_sub, I_mul, I_neg, I_div, I_nat, I_lt, I_le, I_eq, B_0, B_1, L_0, L_1, L_2, L_3, L_4, L_5, L_6, L_7, L_8, L_9, L_10, L_11, L_12, L_13, L_14, L_15, L_16, L_17, L_24, L_31, L_45, L_80, L_127, L_200, L_640, L_1280, L_1000000000, T_0, T_1, T_2, T_3, T_4, T_5, T_6, T_7, T_8, T_9, T_10, T_11, T_12, T_13, T_14, T_15, T_16, T_17]
        rw [if_neg g1, if_neg g2, if_neg g1, if_neg (by omega)]; exact ⟨_, rfl, rfl⟩
  obtain ⟨x, b1, b2⟩ := both
  rw [b1, bd_S]
  refine Ok_some ?_
  rw [b2, bd_S]
  exact Ok_some ⟨rfl, S, ⟨hw, hz⟩, C, R, ⟨c4, c5, c6, c7⟩, ⟨r2, r3, r4, r5⟩, hdr, htr, hfo, ⟨mk, lm, m1, m2, by omega, m4⟩, ⟨sr, hsr, hss⟩⟩
theorem st_choice (hF : 2000 ≤ F) (h : INV σ τ k) : Ok (sc_choice F σ ) (fun u => Ok (sm_choice F τ ) (fun w => u.1 = w.1 ∧ INV u.2 w.2 (k + 1))) := by
  obtain ⟨S, ⟨hw, hz⟩, C, R, ⟨c4, c5, c6, c7⟩, ⟨r2, r3, r4, r5⟩, hdr, htr, hfo, ⟨mk, lm, m1, m2, m3, m4⟩, ⟨sr, hsr, hss⟩⟩ := h
  have n1 := WF_nu hw 1 (by decide); have lh := WF_lh hw
  unfold sc_choice sm_choice
  unfold m_SpeciesSolver_choice
  rw [c_choiceSize hw C hF, bd_S, bd_S]
  refine Ok_some ?_
  have e1 : τ.2.2.2.2.2.2.2.2.2.2.2.2.2.2.2.2.2.2.2.2.2.2.1 (Int32.toNatClampNeg 1) = I (S.nu 1) := RS_nu R 1 (by decide)
  unfold m_SpeciesSolverModel_choice m_SpeciesSolverModel_choose
  rw [e1]
  refine Ok_bd (Ok_bd (r_chooseL hw R (F := F) _ F 0 (S.nu 1) _ rfl (by omega) (by omega) (by omega) (by omega) (by omega)) (Q := _) (P := fun (w : Int32 × Int32 × (Nat → Int32)) => w.1 = I (if (S.c : Int) ≤ 8 then (S.c : Int) else -1)) (fun u hu => ?_)) ?_
  · obtain ⟨u1, _, _⟩ := hu
    have hlen : (S.chl (S.nu 2 + 1 - S.nu 1).toNat (S.nu 1)).length = S.c := rfl
    rw [hlen, Int.zero_add] at u1
    rw [u1, show (8 : Int32) = I 8 from rfl]
    by_cases e3 : (S.c : Int) ≤ 8
    · rw [if_pos (by omega : (S.c : Int) ≤ 9), if_pos (by rw [I_le (by omega) (by omega) (by omega) (by omega)]; omega)]
      exact Ok_some (by simp only; rw [if_pos e3])
    · rw [if_neg (by split <;> rw [I_le (by omega) (by omega) (by omega) (by omega)] <;> omega)]
      exact Ok_some (by simp only; rw [if_neg e3]; rfl)
  · rintro ⟨x0, x1, x2⟩ hx
    exact Ok_some ⟨hx.symm, S, ⟨hw, hz⟩, C, R, ⟨c4, c5, c6, c7⟩, ⟨r2, r3, r4, r5⟩, hdr, htr, hfo, ⟨mk, lm, m1, m2, by omega, m4⟩, ⟨sr, hsr, hss⟩⟩
theorem st_found (h : INV σ τ k) (a : Int32) : Ok (sc_found F σ a) (fun u => Ok (sm_found F τ a) (fun w => u.1 = w.1 ∧ INV u.2 w.2 (k + 1))) := by
  obtain ⟨S, ⟨hw, hz⟩, C, R, ⟨c4, c5, c6, c7⟩, ⟨r2, r3, r4, r5⟩, hdr, htr, hfo, ⟨mk, lm, m1, m2, m3, m4⟩, ⟨sr, hsr, hss⟩⟩ := h
  obtain ⟨p, ep, p0, p1⟩ := I_ex a
  subst ep
  have hfo9 := hfo
  obtain ⟨_, d, v, hd, ed, ed2, hv, _⟩ := hfo9
  unfold sc_found sm_found
  have both : ∃ x, m_SpeciesSolver_found σ.2.2.2.2.2.2.2.2.2.2.2.2.2.2.2.2.2.2.2.2.2.2.2.2.2.2.2.2.2.2.2.2.2.2.2.2.2.2.2.2.2.2.2.2.2.2.2.2.2.2.1 σ.2.2.2.2.2.2.2.2.2.2.2.2.2.2.2.2.2.2.2.2.2.2.2.2.2.2.2.2.2.2.2.2.2.2.2.2.2.2.2.2.2.2.2.2.2.2.2.2.2.2.2 (I p) = some x ∧ m_SpeciesSolverModel_found τ.2.2.2.2.2.2.2.1 τ.2.2.2.2.2.2.2.2.2.2.2.2.2.2.2.2.2.2.2.2.2.2.2.2.1 (I p) = some x := by
    unfold m_SpeciesSolver_found m_Line_at m_SpeciesSolverModel_found
    rw [ed, ed2]
    by_cases g1 : p < 0
    · simp (disch := omega) only [gd_I, nz_I, bd_S, gb_B, nar_B, I_add, I_sub, I_mul, I_neg, I_div, I_nat, I_lt, I_le, I_eq, B_0, B_1, L_0, L_1, L_2, L_3, L_4, L_5, L_6, L_7, L_8, L_9, L_10, L_11, L_12, L_13, L_14, L_15, L_16, L_17, L_24, L_31, L_45, L_80, L_127, L_200, L_640, L_1280, L_1000000000, T_0, T_1, T_2, T_3, T_4, T_5, T_6, T_7, T_8, T_9, T_10, T_11, T_12, T_13, T_14, T_15, T_16, T_17]
      rw [if_pos g1, if_pos g1]; exact ⟨_, rfl, rfl⟩
    · by_cases g2 : p < d
      · obtain ⟨_, h1, h2⟩ := hv p.toNat (by omega)
        simp (disch := omega) only [gd_I, nz_I, bd_S, gb_B, nar_B, I_add, I_sub, I_mul, I_neg, I_div, I_nat, I_lt, I_le, I_eq, B_0, B_1, L_0, L_1, L_2, L_3, L_4, L_5, L_6, L_7, L_8, L_9, L_10, L_11, L_12, L_13, L_14, L_15, L_16, L_17, L_24, L_31, L_45, L_80, L_127, L_200, L_640, L_1280, L_1000000000, T_0, T_1, T_2, T_3, T_4, T_5, T_6, T_7, T_8, T_9, T_10, T_11, T_12, T_13, T_14, T_15, T_16, T_17, h1, h2]
        rw [if_neg g1, if_neg (by omega), if_neg g1, if_pos g2]; exact ⟨_, rfl, rfl⟩
      · simp (disch := omega) only [gd_I, nz_I, bd_S, gb_B, nar_B, I_add, I_sub, I_mul, I_neg, I_div, I_nat, I_lt, I_le, I_eq, B_0, B_1, L_0, L_1, L_2, L_3, L_4, L_5, L_6, L_7, L_8, L_9, L_10, L_11, L_12, L_13, L_14, L_15, L_16, L_17, L_24, L_31, L_45, L_80, L_127, L_200, L_640, L_1280, L_1000000000, T_0, T_1, T_2, T_3, T_4, T_5, T_6, T_7, T_8, T_9, T_10, T_11, T_12, T_13, T_14, T_15, T_16, T_17]
        rw [if_neg g1, if_pos (by omega), if_neg g1, if_neg g2]; exact ⟨_, rfl, rfl⟩
  obtain ⟨x, b1, b2⟩ := both
  rw [b1, bd_S]
  refine Ok_some ?_
  rw [b2, bd_S]
  exact Ok_some ⟨rfl, S, ⟨hw, hz⟩, C, R, ⟨c4, c5, c6, c7⟩, ⟨r2, r3, r4, r5⟩, hdr, htr, hfo, ⟨mk, lm, m1, m2, by omega, m4⟩, ⟨sr, hsr, hss⟩⟩
theorem st_cost (h : INV σ τ k) : Ok (sc_cost F σ ) (fun u => Ok (sm_cost F τ ) (fun w => u.1 = w.1 ∧ INV u.2 w.2 (k + 1))) := by
  obtain ⟨S, ⟨hw, hz⟩, C, R, ⟨c4, c5, c6, c7⟩, ⟨r2, r3, r4, r5⟩, hdr, htr, hfo, ⟨mk, lm, m1, m2, m3, m4⟩, ⟨sr, hsr, hss⟩⟩ := h
  unfold sc_cost sm_cost m_SpeciesSolver_cost m_SpeciesSolverModel_cost
  rw [bd_S, bd_S]
  exact Ok_some (Ok_some ⟨hfo.1, S, ⟨hw, hz⟩, C, R, ⟨c4, c5, c6, c7⟩, ⟨r2, r3, r4, r5⟩, hdr, htr, hfo, ⟨mk, lm, m1, m2, by omega, m4⟩, ⟨sr, hsr, hss⟩⟩)
theorem st_told (h : INV σ τ k) (a : Int32) : Ok (sc_told F σ a) (fun u => Ok (sm_told F τ a) (fun w => u.1 = w.1 ∧ INV u.2 w.2 (k + 1))) := by
  obtain ⟨S, ⟨hw, hz⟩, C, R, ⟨c4, c5, c6, c7⟩, ⟨r2, r3, r4, r5⟩, hdr, htr, hfo, ⟨mk, lm, m1, m2, m3, m4⟩, ⟨sr, hsr, hss⟩⟩ := h
  obtain ⟨d, v, hd, ed, ed2, hv⟩ := hdr
  obtain ⟨d9, v9, hd9, ed9, ed29, hv9⟩ := htr
  have hfo9 := hfo
  obtain ⟨_, d8, v8, hd8, ed8, ed28, _⟩ := hfo9
  have hL := WF_L hw
  unfold sc_told sm_told
  have both : ∃ x, m_SpeciesSolver_told σ.2.2.2.2.1 σ.2.2.2.2.2.1 σ.2.2.2.2.2.2.1 σ.2.2.2.2.2.2.2.2.2.2.2.2.2.2.2.2.2.2.2.2.2.2.2.2.2.2.2.2.2.2.2.2.2.2.2.2.2.2.2.2.2.2.2.2.2.2.1 σ.2.2.2.2.2.2.2.2.2.2.2.2.2.2.2.2.2.2.2.2.2.2.2.2.2.2.2.2.2.2.2.2.2.2.2.2.2.2.2.2.2.2.2.2.2.2.2.2.1 σ.2.2.2.2.2.2.2.2.2.2.2.2.2.2.2.2.2.2.2.2.2.2.2.2.2.2.2.2.2.2.2.2.2.2.2.2.2.2.2.2.2.2.2.2.2.2.2.2.2.2.1 a = some x ∧ m_SpeciesSolverModel_told τ.2.1 τ.2.2.1 τ.2.2.2.1 τ.2.2.2.2.1 τ.2.2.2.2.2.2.1 τ.2.2.2.2.2.2.2.1 a = some x := by
    unfold m_SpeciesSolver_told m_SpeciesSolverModel_told
    rw [c4, c5, c6, r2, r3, r4, ed, ed2, ed9, ed29, ed8, ed28, c_total hw, r_size hw, bd_S, bd_S]
    have e2 : (if I S.L = 0 then some (0 : Int32) else some (I S.N)) = some (I (if S.L = 0 then 0 else S.N)) := by
      by_cases g : S.L = 0
      · rw [if_pos g, g, if_pos (by decide)]; rfl
      · rw [if_neg g, if_neg (by rw [L_0, I_eq (by omega) (by omega) (by omega) (by omega)]; exact g)]
    rw [e2]
    by_cases a0 : a = 0
    · rw [if_pos a0]; (try rw [if_pos a0]); exact ⟨_, rfl, rfl⟩
    · rw [if_neg a0]; (try rw [if_neg a0])
      by_cases a1 : a = 1
      · rw [if_pos a1]; (try rw [if_pos a1]); exact ⟨_, rfl, rfl⟩
      · rw [if_neg a1]; (try rw [if_neg a1])
        by_cases a2 : a = 2
        · rw [if_pos a2]; (try rw [if_pos a2]); exact ⟨_, rfl, rfl⟩
        · rw [if_neg a2]; (try rw [if_neg a2])
          by_cases a3 : a = 3
          · rw [if_pos a3]; (try rw [if_pos a3]); exact ⟨_, rfl, rfl⟩
          · rw [if_neg a3]; (try rw [if_neg a3])
            by_cases a4 : a = 4
            · rw [if_pos a4]; (try rw [if_pos a4]); exact ⟨_, rfl, rfl⟩
            · rw [if_neg a4]; (try rw [if_neg a4])
              by_cases a5 : a = 5
              · rw [if_pos a5]; (try rw [if_pos a5]); exact ⟨_, rfl, rfl⟩
              · rw [if_neg a5]; (try rw [if_neg a5]); exact ⟨_, rfl, rfl⟩
  obtain ⟨x, b1, b2⟩ := both
  rw [b1, bd_S]
  refine Ok_some ?_
  rw [b2, bd_S]
  exact Ok_some ⟨rfl, S, ⟨hw, hz⟩, C, R, ⟨c4, c5, c6, c7⟩, ⟨r2, r3, r4, r5⟩, ⟨d, v, hd, ed, ed2, hv⟩, ⟨d9, v9, hd9, ed9, ed29, hv9⟩, hfo, ⟨mk, lm, m1, m2, by omega, m4⟩, ⟨sr, hsr, hss⟩⟩
theorem st_fault (h : INV σ τ k) (a b : Int32) : Ok (sc_fault F σ a b) (fun u => Ok (sm_fault F τ a b) (fun w => INV u.2 w.2 (k + 1))) := by
  obtain ⟨S, ⟨hw, hz⟩, C, R, ⟨c4, c5, c6, c7⟩, ⟨r2, r3, r4, r5⟩, hdr, htr, hfo, ⟨mk, lm, m1, m2, m3, m4⟩, ⟨sr, hsr, hss⟩⟩ := h
  unfold sc_fault sm_fault
  refine Ok_bd (fault_c a b _ _ _ _) (fun u _ => Ok_some ?_)
  refine Ok_bd (fault_r a b _ _ _ _) (fun w _ => Ok_some ?_)
  exact ⟨S, ⟨hw, hz⟩, C, R, ⟨c4, c5, c6, c7⟩, ⟨r2, r3, r4, r5⟩, hdr, htr, hfo, ⟨mk, lm, m1, m2, by omega, m4⟩, ⟨sr, hsr, hss⟩⟩
theorem TR_of {S : Su} {d : Nat} {v : Nat → Int} {X : Nat → Int32} (hd : (d : Int) = S.N) (hv : ∀ i, i < d → (0 ≤ v i ∧ v i ≤ 127) ∧ X i = I (v i)) : TR S X (fun i => v i.toNat) := by
  intro i i0 i1
  have := hv i.toNat (by omega)
  exact ⟨this.2, this.1.1, this.1.2⟩
theorem st_tried (hF : 2000 ≤ F) (h : INV σ τ k) : Ok (sc_tried F σ ) (fun u => Ok (sm_tried F τ ) (fun w => u.1 = w.1 ∧ INV u.2 w.2 (k + 1))) := by
  obtain ⟨S, ⟨hw, hz⟩, C, R, ⟨c4, c5, c6, c7⟩, ⟨r2, r3, r4, r5⟩, hdr, htr, hfo, ⟨mk, lm, m1, m2, m3, m4⟩, ⟨sr, hsr, hss⟩⟩ := h
  have htr9 := htr
  obtain ⟨d, v, hd, ed, ed2, hv⟩ := htr9
  have hL := WF_L hw; have hN := WF_N hw
  unfold sc_tried sm_tried
  have both : ∃ x, m_SpeciesSolver_tried F σ.2.2.2.2.1 σ.2.2.2.2.2.1 σ.2.2.2.2.2.2.1 σ.2.2.2.2.2.2.2.2.1 σ.2.2.2.2.2.2.2.2.2.2.1 σ.2.2.2.2.2.2.2.2.2.2.2.2.2.2.2.2.2.2.2.2.2.2.2.2.2.2.2.2.2.2.2.2.2.2.2.2.2.2.2.2.2.2.2.2.2.2.2.2.1 σ.2.2.2.2.2.2.2.2.2.2.2.2.2.2.2.2.2.2.2.2.2.2.2.2.2.2.2.2.2.2.2.2.2.2.2.2.2.2.2.2.2.2.2.2.2.2.2.2.2.1 = some x ∧ m_SpeciesSolverModel_tried F τ.2.2.1 τ.2.2.2.1 τ.2.2.2.2.1 τ.2.2.2.2.2.2.1 τ.2.2.2.2.2.2.2.2.2.2.2.2.2.2.2.2.2.2.2.2.1 τ.2.2.2.2.2.2.2.2.2.2.2.2.2.2.2.2.2.2.2.2.2.2.1 τ.2.2.2.2.2.2.2.2.2.2.2.2.2.2.2.2.2.2.2.2.2.2.2.1 = some x := by
    unfold m_SpeciesSolver_tried m_SpeciesSolver_cannotJudge m_SpeciesSolverModel_tried
    rw [c4, c5, c6, r2, r3, r4, ed, ed2, c_total hw, r_size hw, bd_S, bd_S]
    by_cases g : S.L = 0
    · rw [g, if_pos (by decide), bd_S, if_neg (by decide), if_pos (by decide)]; exact ⟨_, rfl, rfl⟩
    · have g9 : ¬ I S.L = 0 := by rw [L_0, I_eq (by omega) (by omega) (by omega) (by omega)]; exact g
      rw [if_neg g9, if_neg g9, if_neg g]
      have hN2 := WF_N2 hw (by omega)
      by_cases g2 : (d : Int) = S.N
      · rw [if_pos (by rw [g2]), bd_S, if_pos rfl, if_pos (by rw [g2]), g2]
        have a1 := c_tried4 hw C hF (by omega) (TR_of g2 (fun i hi => ⟨(hv i hi).1, (hv i hi).2.1⟩)) _ F 0 rfl (by omega) (by omega)
        have a2 := r_tried24 hw R hF (by omega) (TR_of g2 (fun i hi => ⟨(hv i hi).1, (hv i hi).2.2⟩)) _ F 0 rfl (by omega) (by omega)
        refine ⟨_, ?_, a2⟩
        unfold m_Rules_costOf
        rw [show m_Rules_costOf_4 F (I S.N) σ.2.2.2.2.2.2.2.2.2.2.2.2.2.2.2.2.2.2.2.2.2.2.2.2.2.2.2.2.2.2.2.2.2.2.2.2.2.2.2.2.2.2.2.2.2.2.2.2.2.1 (I S.L) (I S.n) (I S.K) σ.2.2.2.2.2.2.2.2.1 σ.2.2.2.2.2.2.2.2.2.2.1 F 0 0 = some (I (S.tc (fun i => v i.toNat) S.N.toNat)) from a1, bd_S]
      · have g8 : ¬ I (d : Int) = I S.N := by
          have hN0 : 2 ≤ S.N := hN2
          rw [I_eq (by omega) (by omega) (by omega) (by omega)]; exact g2
        rw [if_neg g8, bd_S, if_neg (by decide), if_neg g8]; exact ⟨_, rfl, rfl⟩
  obtain ⟨x, b1, b2⟩ := both
  rw [b1, bd_S]
  refine Ok_some ?_
  rw [b2, bd_S]
  exact Ok_some ⟨rfl, S, ⟨hw, hz⟩, C, R, ⟨c4, c5, c6, c7⟩, ⟨r2, r3, r4, r5⟩, hdr, htr, hfo, ⟨mk, lm, m1, m2, by omega, m4⟩, ⟨sr, hsr, hss⟩⟩
theorem st_judge (hF : 2000 ≤ F) (h : INV σ τ k) : Ok (sc_judge F σ ) (fun u => Ok (sm_judge F τ ) (fun w => INV u.2 w.2 (k + 1))) := by
  obtain ⟨S, ⟨hw, hz⟩, C, R, ⟨c4, c5, c6, c7⟩, ⟨r2, r3, r4, r5⟩, hdr, htr, hfo, ⟨mk, lm, m1, m2, m3, m4⟩, ⟨sr, hsr, hss⟩⟩ := h
  have htr9 := htr
  obtain ⟨d, v, hd, ed, ed2, hv⟩ := htr9
  have hL := WF_L hw; have hN := WF_N hw
  unfold sc_judge sm_judge
  have ca : Ok (m_SpeciesSolver_judge F σ.2.2.2.2.1 σ.2.2.2.2.2.1 σ.2.2.2.2.2.2.1 σ.2.2.2.2.2.2.2.1 σ.2.2.2.2.2.2.2.2.1 σ.2.2.2.2.2.2.2.2.2.1 σ.2.2.2.2.2.2.2.2.2.2.1 σ.2.2.2.2.2.2.2.2.2.2.2.2.2.2.2.2.2.2.2.2.2.2.2.2.2.2.2.2.2.2.2.2.2.2.2.2.2.2.2.2.2.2.2.2.2.2.2.2.1 σ.2.2.2.2.2.2.2.2.2.2.2.2.2.2.2.2.2.2.2.2.2.2.2.2.2.2.2.2.2.2.2.2.2.2.2.2.2.2.2.2.2.2.2.2.2.2.2.2.2.1 σ.2.2.2.2.2.2.2.2.2.2.2.1 σ.2.2.2.2.2.2.2.2.2.2.2.2.1 σ.2.2.2.2.2.2.2.2.2.2.2.2.2.1 σ.2.2.2.2.2.2.2.2.2.2.2.2.2.2.1 σ.2.2.2.2.2.2.2.2.2.2.2.2.2.2.2.1 σ.2.2.2.2.2.2.2.2.2.2.2.2.2.2.2.2.1) (fun _ => True) := by
    unfold m_SpeciesSolver_judge m_SpeciesSolver_cannotJudge
    rw [c4, c5, c6, c7, ed, c_total hw, bd_S]
    by_cases g : S.L = 0
    · rw [g, if_pos (by decide), bd_S, if_neg (by decide)]; exact Ok_some trivial
    · have g9 : ¬ I S.L = 0 := by rw [L_0, I_eq (by omega) (by omega) (by omega) (by omega)]; exact g
      rw [if_neg g9, if_neg g]
      have hN2 := WF_N2 hw (by omega)
      by_cases g2 : (d : Int) = S.N
      · rw [if_pos (by rw [g2]), bd_S, if_pos rfl, g2]
        exact Ok_bd (c_examine hw C hF (by omega) (TR_of g2 (fun i hi => ⟨(hv i hi).1, (hv i hi).2.1⟩)) _ _ _ _ _ _) (fun u _ => Ok_some trivial)
      · rw [if_neg (by rw [I_eq (by omega) (by omega) (by omega) (by omega)]; exact g2), bd_S, if_neg (by decide)]; exact Ok_some trivial
  have cb : Ok (m_SpeciesSolverModel_judge F τ.2.2.1 τ.2.2.2.1 τ.2.2.2.2.1 τ.2.2.2.2.2.1 τ.2.2.2.2.2.2.1 τ.2.2.2.2.2.2.2.2.2.2.2.2.2.2.2.2.2.2.2.2.1 τ.2.2.2.2.2.2.2.2.2.2.2.2.2.2.2.2.2.2.2.2.2.1 τ.2.2.2.2.2.2.2.2.2.2.2.2.2.2.2.2.2.2.2.2.2.2.1 τ.2.2.2.2.2.2.2.2.2.2.2.2.2.2.2.2.2.2.2.2.2.2.2.1 τ.2.2.2.2.2.2.2.2.2.2.2.2.2.2.2.2.2.2.1 τ.2.2.2.2.2.2.2.2.2.2.2.2.2.2.2.2.2.2.2.2.2.2.2.2.2.2.2.2.2.2.2.2.1 τ.2.2.2.2.2.2.2.2.2.2.2.2.2.2.2.2.2.2.2.2.2.2.2.2.2.2.2.2.2.2.2.2.2.1 τ.2.2.2.2.2.2.2.2.2.2.2.2.2.2.2.2.2.2.2.2.2.2.2.2.2.2.2.2.2.2.2.2.2.2) (fun _ => True) := by
    unfold m_SpeciesSolverModel_judge
    rw [r2, r3, r4, r5, ed2, r_size hw, bd_S]
    by_cases g : S.L = 0
    · rw [g, if_pos (by decide)]; exact Ok_some trivial
    · have g9 : ¬ I S.L = 0 := by rw [L_0, I_eq (by omega) (by omega) (by omega) (by omega)]; exact g
      rw [if_neg g9]
      have hN2 := WF_N2 hw (by omega)
      by_cases g2 : (d : Int) = S.N
      · rw [if_pos (by rw [g2]), g2]
        exact r_judge27 hw R hF (by omega) (TR_of g2 (fun i hi => ⟨(hv i hi).1, (hv i hi).2.2⟩)) _ F 0 0 _ _ _ rfl (by omega) (by omega) (by omega) (by omega) (by omega)
      · rw [if_neg (by rw [I_eq (by omega) (by omega) (by omega) (by omega)]; exact g2)]; exact Ok_some trivial
  refine Ok_bd ca (fun u _ => Ok_some ?_)
  refine Ok_bd cb (fun w _ => Ok_some ?_)
  exact ⟨S, ⟨hw, hz⟩, C, R, ⟨c4, c5, c6, c7⟩, ⟨r2, r3, r4, r5⟩, hdr, htr, hfo, ⟨mk, lm, m1, m2, by omega, m4⟩, ⟨sr, hsr, hss⟩⟩
end
