/-! pure part: one call, the small ones -/
def mnN (x : Int) : Int := if 8 ≤ x ∧ x ≤ 11 then 1 else 0
def mxN (x : Int) : Int := if x = 1 ∨ x = 2 then 127 else if x = 7 then 33554431 else if x = 8 then 12 else if x = 9 ∨ x = 10 then 24 else if x = 11 then 3 else if 11 < x then 1000 else 4095
theorem x18 {x : Int} (h0 : 0 ≤ x) (h1 : x < 18) : x = 0 ∨ x = 1 ∨ x = 2 ∨ x = 3 ∨ x = 4 ∨ x = 5 ∨ x = 6 ∨ x = 7 ∨ x = 8 ∨ x = 9 ∨ x = 10 ∨ x = 11 ∨ x = 12 ∨ x = 13 ∨ x = 14 ∨ x = 15 ∨ x = 16 ∨ x = 17 := by omega
theorem stab_mn {x : Int} (h0 : 0 ≤ x) (h1 : x < 18) : stab 1 x.toNat = I (mnN x) ∧ stab 2 x.toNat = I (mxN x) ∧ m_SpeciesSolverModel_leastOf (I x) = some (I (mnN x)) ∧ m_SpeciesSolverModel_mostOf (I x) = some (I (mxN x)) := by
  rcases x18 h0 h1 with h | h | h | h | h | h | h | h | h | h | h | h | h | h | h | h | h | h <;> subst h <;> decide
theorem mn_mx {x : Int} (h0 : 0 ≤ x) (h1 : x < 18) : 0 ≤ mnN x ∧ mxN x ≤ 33554431 := by unfold mnN mxN; (repeat' split) <;> omega
section
variable {F d : Nat} {Y : Nat → Int32}
theorem c_copy (hd : d ≤ 45) : ∀ (r n i : Nat) (z : Int32) (X : Nat → Int32), d - i = r → r < n → i ≤ d → (∀ j, j < i → X j = Y j) → Ok (m_Line_copyOf_2 F (I d) Y n z X (I i)) (fun u => u.1 = I d ∧ ∀ j, j < d → u.2 j = Y j)
  | 0, n, i, z, X, e, hn, hi, ht => by
    obtain ⟨m, rfl⟩ : ∃ m, n = m + 1 := ⟨n - 1, by omega⟩
    simp only [m_Line_copyOf_2, m_Line_copyOf_2b]
    rw [if_pos (by rw [I_le (by omega) (by omega) (by omega) (by omega)]; omega)]
    exact Ok_some ⟨rfl, fun j hj => ht j (by omega)⟩
  | r + 1, n, i, z, X, e, hn, hi, ht => by
    obtain ⟨m, rfl⟩ : ∃ m, n = m + 1 := ⟨n - 1, by omega⟩
    have ej : I (i : Int) + 1 = I ((i + 1 : Nat) : Int) := by rw [L_1, I_add]; congr 1
    simp only [m_Line_copyOf_2, m_Line_copyOf_2b]
    rw [if_neg (by rw [I_le (by omega) (by omega) (by omega) (by omega)]; omega), gd_I (by omega) (by omega) (by omega), gd_I (by omega) (by omega) (by omega), ej, I_nat (by omega) (by omega), Int.toNat_natCast]
    refine c_copy hd r m (i + 1) z _ (by omega) (by omega) (by omega) (fun j hj => ?_)
    by_cases e9 : j = i
    · subst e9; exact upd_at _ _ _
    · rw [upd_ne _ _ e9]; exact ht j (by omega)
theorem r_copy (hd : d ≤ 45) : ∀ (r n i : Nat) (X : Nat → Int32), d - i = r → r < n → i ≤ d → (∀ j, j < i → X j = Y j) → Ok (m_SpeciesSolverModel_attempt_10 F Y n (I d) (I d) X (I i)) (fun u => u.1 = I d ∧ u.2.1 = I 0 ∧ u.2.2.1 = I d ∧ ∀ j, j < d → u.2.2.2 j = Y j)
  | 0, n, i, X, e, hn, hi, ht => by
    obtain ⟨m, rfl⟩ : ∃ m, n = m + 1 := ⟨n - 1, by omega⟩
    simp only [m_SpeciesSolverModel_attempt_10, m_SpeciesSolverModel_attempt_10b]
    rw [if_pos (by rw [I_le (by omega) (by omega) (by omega) (by omega)]; omega)]
    exact Ok_some ⟨rfl, rfl, rfl, fun j hj => ht j (by omega)⟩
  | r + 1, n, i, X, e, hn, hi, ht => by
    obtain ⟨m, rfl⟩ : ∃ m, n = m + 1 := ⟨n - 1, by omega⟩
    have ej : I (i : Int) + 1 = I ((i + 1 : Nat) : Int) := by rw [L_1, I_add]; congr 1
    simp only [m_SpeciesSolverModel_attempt_10, m_SpeciesSolverModel_attempt_10b]
    rw [if_neg (by rw [I_le (by omega) (by omega) (by omega) (by omega)]; omega), gd_I (by omega) (by omega) (by omega), gd_I (by omega) (by omega) (by omega), ej, I_nat (by omega) (by omega), Int.toNat_natCast]
    refine r_copy hd r m (i + 1) _ (by omega) (by omega) (by omega) (fun j hj => ?_)
    by_cases e9 : j = i
    · subst e9; exact upd_at _ _ _
    · rw [upd_ne _ _ e9]; exact ht j (by omega)
end
section
variable {σ : SC} {τ : SM} {k F : Nat}
theorem SR_no {S : Su} {a c : Int32} {p : Nat → Int32} {x y : Int64} {q : Nat → Int32} : SRS S false a p c x y q := fun h => by cases h
theorem st_attempt (hF : 2000 ≤ F) (h : INV σ τ k) : Ok (sc_attempt F σ ) (fun u => Ok (sm_attempt F τ ) (fun w => u.1 = w.1 ∧ INV u.2 w.2 (k + 1))) := by
  obtain ⟨S, ⟨hw, hz⟩, C, R, ⟨c4, c5, c6, c7⟩, ⟨r2, r3, r4, r5⟩, hdr, htr, hfo, ⟨mk, lm, m1, m2, m3, m4⟩, ⟨sr, hsr, hss⟩⟩ := h
  obtain ⟨d, v, hd, ed, ed2, hv⟩ := hdr
  unfold sc_attempt sm_attempt
  rw [ed, ed2]
  unfold m_SpeciesSolver_attempt m_Line_copyOf m_SpeciesSolverModel_attempt
  rw [L_0]
  refine Ok_bd (Ok_bd (c_copy hd _ F 0 _ _ rfl (by omega) (by omega) (fun j hj => absurd hj (Nat.not_lt_zero j))) (fun u hu => Ok_some (P := fun (w : Int32 × Int32 × Int32 × (Nat → Int32)) => w.1 = I d ∧ w.2.1 = I 0 ∧ w.2.2.1 = I d ∧ ∀ j, j < d → w.2.2.2 j = σ.2.2.2.2.2.2.2.2.2.2.2.2.2.2.2.2.2.2.2.2.2.2.2.2.2.2.2.2.2.2.2.2.2.2.2.2.2.2.2.2.2.2.2.2.2.2.2.1 j) ⟨hu.1, rfl, hu.1, hu.2⟩)) ?_
  rintro ⟨y0, y1, y2, y3⟩ ⟨q1, q2, q3, q4⟩
  simp only at q1 q2 q3 q4
  refine Ok_some ?_
  refine Ok_bd (r_copy hd _ F 0 _ rfl (by omega) (by omega) (fun j hj => absurd hj (Nat.not_lt_zero j))) ?_
  rintro ⟨x0, x1, x2, x3⟩ ⟨p1, p2, p3, p4⟩
  simp only at p1 p2 p3 p4
  have ht2 : LN2 y2 y3 x2 x3 := ⟨d, v, hd, q3, p3, fun i hi => ⟨(hv i hi).1, (q4 i hi).trans (hv i hi).2.1, (p4 i hi).trans (hv i hi).2.2⟩⟩
  exact Ok_some ⟨q1.trans p1.symm, S, ⟨hw, hz⟩, C, R, ⟨c4, c5, c6, c7⟩, ⟨r2, r3, r4, r5⟩, ⟨0, fun _ => 0, by omega, q2, p2, fun i hi => absurd hi (Nat.not_lt_zero i)⟩, ht2, hfo, ⟨mk, lm, m1, m2, by omega, m4⟩, ⟨sr, hsr, hss⟩⟩
theorem st_drop (h : INV σ τ k) : Ok (sc_drop F σ ) (fun u => Ok (sm_drop F τ ) (fun w => u.1 = w.1 ∧ INV u.2 w.2 (k + 1))) := by
  obtain ⟨S, ⟨hw, hz⟩, C, R, ⟨c4, c5, c6, c7⟩, ⟨r2, r3, r4, r5⟩, hdr, htr, hfo, ⟨mk, lm, m1, m2, m3, m4⟩, ⟨sr, hsr, hss⟩⟩ := h
  have hL := WF_L hw; have hn := WF_n hw; have hn2 := WF_n2 hw
  unfold sc_drop sm_drop
  rw [c4, c5, r2, r3]
  by_cases e1 : S.L = 0
  · have ea : m_SpeciesSolver_drop σ.2.2.2.1 (I S.L) (I S.n) = some (I 0, σ.2.2.2.1, I S.L, I S.n) := by
      unfold m_SpeciesSolver_drop
      rw [e1, if_pos (by decide)]; rfl
    have en := hz e1
    have eb : m_SpeciesSolverModel_drop (I S.L) (I S.n) = some (I 0, I S.L, I S.n) := by
      rw [e1, en]; decide
    rw [ea, bd_S]
    refine Ok_some ?_
    rw [eb, bd_S]
    exact Ok_some ⟨rfl, S, ⟨hw, hz⟩, C, R, ⟨rfl, rfl, c6, c7⟩, ⟨rfl, rfl, r4, r5⟩, hdr, htr, hfo, ⟨mk, lm, m1, m2, by omega, m4⟩, ⟨sr, hsr, hss⟩⟩
  · have ea : m_SpeciesSolver_drop σ.2.2.2.1 (I S.L) (I S.n) = some (I 1, I 0, I (S.L - 1), I (if S.L = 1 then 0 else S.n)) := by
      unfold m_SpeciesSolver_drop m_Setup_removeLine
      simp (disch := omega) only [gd_I, nz_I, bd_S, gb_B, nar_B, I_add, I_sub, I_mul, I_neg, I_div, I_nat, I_lt, I_le, I_eq, B_0, B_1, L_0, L_1, L_2, L_3, L_4, L_5, L_6, L_7, L_8, L_9, L_10, L_11, L_12, L_13, L_14, L_15, L_16, L_17, L_24, L_31, L_45, L_80, L_127, L_200, L_640, L_1280, L_1000000000, T_0, T_1, T_2, T_3, T_4, T_5, T_6, T_7, T_8, T_9, T_10, T_11, T_12, T_13, T_14, T_15, T_16, T_17]
      rw [if_neg e1]
      by_cases g : S.L = 1
      · rw [if_pos (by omega), if_pos g]; rfl
      · rw [if_neg (by omega), if_neg g]; rfl
    have eb : m_SpeciesSolverModel_drop (I S.L) (I S.n) = some (I 1, I (S.L - 1), I (if S.L = 1 then 0 else S.n)) := by
      unfold m_SpeciesSolverModel_drop m_SpeciesSolverModel_drop_12 m_SpeciesSolverModel_drop_27
      have gb1 : ∀ x : Option (Int32 × Int32 × Int32), gb (I 1) x = x := fun x => gb_B true x
      simp (disch := omega) only [gd_I, nz_I, bd_S, gb_B, nar_B, I_add, I_sub, I_mul, I_neg, I_div, I_nat, I_lt, I_le, I_eq, B_0, B_1, L_0, L_1, L_2, L_3, L_4, L_5, L_6, L_7, L_8, L_9, L_10, L_11, L_12, L_13, L_14, L_15, L_16, L_17, L_24, L_31, L_45, L_80, L_127, L_200, L_640, L_1280, L_1000000000, T_0, T_1, T_2, T_3, T_4, T_5, T_6, T_7, T_8, T_9, T_10, T_11, T_12, T_13, T_14, T_15, T_16, T_17, gb1]
      rw [if_neg (by omega), if_neg (by decide)]
      by_cases g : S.L = 1
      · rw [if_pos (by omega), if_pos g]
      · rw [if_neg (by omega), if_neg g]
    rw [ea, bd_S]
    refine Ok_some ?_
    rw [eb, bd_S]
    obtain ⟨w1, w2, w3, w4, w5, w6, w7, w8, w9, w10, w11⟩ := hw
    refine Ok_some ⟨rfl, (S.nu, S.on, S.giv, S.L - 1, (if S.L = 1 then 0 else S.n), S.K, S.ab), ⟨⟨⟨?_, ?_⟩, w2, ⟨?_, ?_⟩, fun h9 => ?_, w5, w6, w7, w8, w9, w10, fun l k l0 l1 k0 k1 => ?_⟩, fun h9 => ?_⟩, ⟨C.1, C.2.1, fun l k l0 l1 k0 k1 => ?_⟩, ⟨R.1, R.2.1, fun l k l0 l1 k0 k1 => ?_⟩, ⟨rfl, rfl, c6, c7⟩, ⟨rfl, rfl, r4, r5⟩, hdr, htr, hfo, ⟨mk, lm, m1, m2, by omega, m4⟩, ⟨false, rfl, SR_no⟩⟩
    · show 0 ≤ S.L - 1; omega
    · show S.L - 1 ≤ 3; omega
    · show 0 ≤ (if S.L = 1 then 0 else S.n); split <;> omega
    · show (if S.L = 1 then 0 else S.n) ≤ 12; split <;> omega
    · have h9' : 0 < S.L - 1 := h9
      show 2 ≤ (if S.L = 1 then 0 else S.n); rw [if_neg (by omega)]; exact hn2 (by omega)
    · have l1' : l < S.L - 1 := l1
      have k1' : k < (if S.L = 1 then 0 else S.n) := k1
      exact w11 l k l0 (by omega) k0 (by rw [if_neg (by omega)] at k1'; exact k1')
    · have h9' : S.L - 1 = 0 := h9
      show (if S.L = 1 then 0 else S.n) = 0; rw [if_pos (by omega)]
    · have l1' : l < S.L - 1 := l1
      have k1' : k < (if S.L = 1 then 0 else S.n) := k1
      exact C.2.2 l k l0 (by omega) k0 (by rw [if_neg (by omega)] at k1'; exact k1')
    · have l1' : l < S.L - 1 := l1
      have k1' : k < (if S.L = 1 then 0 else S.n) := k1
      exact R.2.2 l k l0 (by omega) k0 (by rw [if_neg (by omega)] at k1'; exact k1')
theorem st_species (h : INV σ τ k) (a : Int32) (b : Bool) : Ok (sc_species F σ a (B b)) (fun u => Ok (sm_species F τ a (B b)) (fun w => u.1 = w.1 ∧ INV u.2 w.2 (k + 1))) := by
  obtain ⟨S, ⟨hw, hz⟩, C, R, ⟨c4, c5, c6, c7⟩, ⟨r2, r3, r4, r5⟩, hdr, htr, hfo, ⟨mk, lm, m1, m2, m3, m4⟩, ⟨sr, hsr, hss⟩⟩ := h
  obtain ⟨p, ep, p0, p1⟩ := I_ex a
  subst ep
  unfold sc_species sm_species
  by_cases e1 : p = 1 ∨ p = 2 ∨ p = 4
  · have ea : m_SpeciesSolver_species σ.2.2.2.1 σ.2.2.2.2.2.2.1 σ.2.2.2.2.2.2.2.1 (I p) (B b) = some (I 1, I 0, I p, B b) := by
      unfold m_SpeciesSolver_species m_SpeciesSolver_species_17
      simp (disch := omega) only [gd_I, nz_I, bd_S, gb_B, nar_B, I_add, I_sub, I_mul, I_neg, I_div, I_nat, I_lt, I_le, I_eq, B_0, B_1, L_0, L_1, L_2, L_3, L_4, L_5, L_6, L_7, L_8, L_9, L_10, L_11, L_12, L_13, L_14, L_15, L_16, L_17, L_24, L_31, L_45, L_80, L_127, L_200, L_640, L_1280, L_1000000000, T_0, T_1, T_2, T_3, T_4, T_5, T_6, T_7, T_8, T_9, T_10, T_11, T_12, T_13, T_14, T_15, T_16, T_17]
      by_cases g1 : p = 1
      · rw [if_pos g1]
      · rw [if_neg g1]
        by_cases g2 : p = 2
        · rw [if_pos g2]
        · rw [if_neg g2, if_pos (by omega)]
    have eb : m_SpeciesSolverModel_species τ.2.2.2.2.1 τ.2.2.2.2.2.1 (I p) (B b) = some (I 1, I p, B b) := by
      have gb1 : ∀ x : Option (Int32 × Int32 × Int32), gb (I 1) x = x := fun x => gb_B true x
      have e20 : m_SpeciesSolverModel_species_15 τ.2.2.2.2.1 τ.2.2.2.2.2.1 (I p) (B b) = some (I 1, I p, B b) := by
        unfold m_SpeciesSolverModel_species_15 m_SpeciesSolverModel_species_20
        rw [if_neg (by decide), gb_B, show (1 : Int32) = I 1 from rfl, gb1]
      unfold m_SpeciesSolverModel_species
      simp (disch := omega) only [gd_I, nz_I, bd_S, gb_B, nar_B, I_add, I_sub, I_mul, I_neg, I_div, I_nat, I_lt, I_le, I_eq, B_0, B_1, L_0, L_1, L_2, L_3, L_4, L_5, L_6, L_7, L_8, L_9, L_10, L_11, L_12, L_13, L_14, L_15, L_16, L_17, L_24, L_31, L_45, L_80, L_127, L_200, L_640, L_1280, L_1000000000, T_0, T_1, T_2, T_3, T_4, T_5, T_6, T_7, T_8, T_9, T_10, T_11, T_12, T_13, T_14, T_15, T_16, T_17, e20]
      by_cases g1 : p = 1
      · rw [if_pos g1]
      · rw [if_neg g1]
        by_cases g2 : p = 2
        · rw [if_pos g2]
        · rw [if_neg g2, if_pos (by omega)]
    rw [ea, bd_S]
    refine Ok_some ?_
    rw [eb, bd_S]
    obtain ⟨w1, w2, w3, w4, w5, w6, w7, w8, w9, w10, w11⟩ := hw
    exact Ok_some ⟨rfl, (S.nu, S.on, S.giv, S.L, S.n, p, b), ⟨⟨w1, e1, w3, w4, w5, w6, w7, w8, w9, w10, w11⟩, hz⟩, C, R, ⟨c4, c5, rfl, rfl⟩, ⟨r2, r3, rfl, rfl⟩, hdr, htr, hfo, ⟨mk, lm, m1, m2, by omega, m4⟩, ⟨false, rfl, SR_no⟩⟩
  · have ea : m_SpeciesSolver_species σ.2.2.2.1 σ.2.2.2.2.2.2.1 σ.2.2.2.2.2.2.2.1 (I p) (B b) = some (I 0, σ.2.2.2.1, σ.2.2.2.2.2.2.1, σ.2.2.2.2.2.2.2.1) := by
      unfold m_SpeciesSolver_species
      simp (disch := omega) only [gd_I, nz_I, bd_S, gb_B, nar_B, I_add, I_sub, I_mul, I_neg, I_div, I_nat, I_lt, I_le, I_eq, B_0, B_1, L_0, L_1, L_2, L_3, L_4, L_5, L_6, L_7, L_8, L_9, L_10, L_11, L_12, L_13, L_14, L_15, L_16, L_17, L_24, L_31, L_45, L_80, L_127, L_200, L_640, L_1280, L_1000000000, T_0, T_1, T_2, T_3, T_4, T_5, T_6, T_7, T_8, T_9, T_10, T_11, T_12, T_13, T_14, T_15, T_16, T_17]
      rw [if_neg (by omega), if_neg (by omega), if_neg (by omega)]
    have eb : m_SpeciesSolverModel_species τ.2.2.2.2.1 τ.2.2.2.2.2.1 (I p) (B b) = some (I 0, τ.2.2.2.2.1, τ.2.2.2.2.2.1) := by
      have gb0 : ∀ x : Option (Int32 × Int32 × Int32), gb (I 0) x = x := fun x => gb_B false x
      unfold m_SpeciesSolverModel_species m_SpeciesSolverModel_species_20
      simp (disch := omega) only [gd_I, nz_I, bd_S, gb_B, nar_B, I_add, I_sub, I_mul, I_neg, I_div, I_nat, I_lt, I_le, I_eq, B_0, B_1, L_0, L_1, L_2, L_3, L_4, L_5, L_6, L_7, L_8, L_9, L_10, L_11, L_12, L_13, L_14, L_15, L_16, L_17, L_24, L_31, L_45, L_80, L_127, L_200, L_640, L_1280, L_1000000000, T_0, T_1, T_2, T_3, T_4, T_5, T_6, T_7, T_8, T_9, T_10, T_11, T_12, T_13, T_14, T_15, T_16, T_17, gb0]
      rw [if_neg (by omega), if_neg (by omega), if_neg (by omega), if_pos trivial]
    rw [ea, bd_S]
    refine Ok_some ?_
    rw [eb, bd_S]
    exact Ok_some ⟨rfl, S, ⟨hw, hz⟩, C, R, ⟨c4, c5, c6, c7⟩, ⟨r2, r3, r4, r5⟩, hdr, htr, hfo, ⟨mk, lm, m1, m2, by omega, m4⟩, ⟨sr, hsr, hss⟩⟩
theorem st_rule (h : INV σ τ k) (a : Int32) (b : Bool) : Ok (sc_rule F σ a (B b)) (fun u => Ok (sm_rule F τ a (B b)) (fun w => u.1 = w.1 ∧ INV u.2 w.2 (k + 1))) := by
  obtain ⟨S, ⟨hw, hz⟩, C, R, ⟨c4, c5, c6, c7⟩, ⟨r2, r3, r4, r5⟩, hdr, htr, hfo, ⟨mk, lm, m1, m2, m3, m4⟩, ⟨sr, hsr, hss⟩⟩ := h
  obtain ⟨p, ep, p0, p1⟩ := I_ex a
  subst ep
  unfold sc_rule sm_rule
  by_cases e1 : 0 ≤ p ∧ p < 11
  · have ea : m_SpeciesSolver_rule σ.2.2.2.1 σ.2.2.2.2.2.2.2.2.2.1 (I p) (B b) = some (I 1, I 0, upd σ.2.2.2.2.2.2.2.2.2.1 p.toNat (B b)) := by
      unfold m_SpeciesSolver_rule
      simp (disch := omega) only [gd_I, nz_I, bd_S, gb_B, nar_B, I_add, I_sub, I_mul, I_neg, I_div, I_nat, I_lt, I_le, I_eq, B_0, B_1, L_0, L_1, L_2, L_3, L_4, L_5, L_6, L_7, L_8, L_9, L_10, L_11, L_12, L_13, L_14, L_15, L_16, L_17, L_24, L_31, L_45, L_80, L_127, L_200, L_640, L_1280, L_1000000000, T_0, T_1, T_2, T_3, T_4, T_5, T_6, T_7, T_8, T_9, T_10, T_11, T_12, T_13, T_14, T_15, T_16, T_17]
      rw [if_neg (by omega), if_pos (by omega)]
    have eb : m_SpeciesSolverModel_rule τ.2.2.2.2.2.2.2.2.2.2.2.2.2.2.2.2.2.2.2.2.2.1 (I p) (B b) = some (I 1, upd τ.2.2.2.2.2.2.2.2.2.2.2.2.2.2.2.2.2.2.2.2.2.1 p.toNat (B b)) := by
      have gb1 : ∀ x : Option (Int32 × (Nat → Int32)), gb (I 1) x = x := fun x => gb_B true x
      unfold m_SpeciesSolverModel_rule m_SpeciesSolverModel_rule_15
      simp (disch := omega) only [gd_I, nz_I, bd_S, gb_B, nar_B, I_add, I_sub, I_mul, I_neg, I_div, I_nat, I_lt, I_le, I_eq, B_0, B_1, L_0, L_1, L_2, L_3, L_4, L_5, L_6, L_7, L_8, L_9, L_10, L_11, L_12, L_13, L_14, L_15, L_16, L_17, L_24, L_31, L_45, L_80, L_127, L_200, L_640, L_1280, L_1000000000, T_0, T_1, T_2, T_3, T_4, T_5, T_6, T_7, T_8, T_9, T_10, T_11, T_12, T_13, T_14, T_15, T_16, T_17, gb1]
      rw [if_neg (by omega), if_neg (by omega), if_neg (by decide)]
    rw [ea, bd_S]
    refine Ok_some ?_
    rw [eb, bd_S]
    refine Ok_some ⟨rfl, (S.nu, (fun i => if i = p.toNat then b else S.on i), S.giv, S.L, S.n, S.K, S.ab), ⟨hw, hz⟩, ⟨C.1, fun i hi => ?_, C.2.2⟩, ⟨R.1, fun i hi => ?_, R.2.2⟩, ⟨c4, c5, c6, c7⟩, ⟨r2, r3, r4, r5⟩, hdr, htr, hfo, ⟨mk, lm, m1, m2, by omega, m4⟩, ⟨false, rfl, SR_no⟩⟩
    · show upd σ.2.2.2.2.2.2.2.2.2.1 p.toNat (B b) i = B (if i = p.toNat then b else S.on i)
      by_cases e9 : i = p.toNat
      · rw [if_pos e9, e9]; exact upd_at _ _ _
      · rw [if_neg e9, upd_ne _ _ e9]; exact C.2.1 i hi
    · show upd τ.2.2.2.2.2.2.2.2.2.2.2.2.2.2.2.2.2.2.2.2.2.1 p.toNat (B b) i = B (if i = p.toNat then b else S.on i)
      by_cases e9 : i = p.toNat
      · rw [if_pos e9, e9]; exact upd_at _ _ _
      · rw [if_neg e9, upd_ne _ _ e9]; exact R.2.1 i hi
  · have ea : m_SpeciesSolver_rule σ.2.2.2.1 σ.2.2.2.2.2.2.2.2.2.1 (I p) (B b) = some (I 0, σ.2.2.2.1, σ.2.2.2.2.2.2.2.2.2.1) := by
      unfold m_SpeciesSolver_rule
      simp (disch := omega) only [gd_I, nz_I, bd_S, gb_B, nar_B, I_add, I_sub, I_mul, I_neg, I_div, I_nat, I_lt, I_le, I_eq, B_0, B_1, L_0, L_1, L_2, L_3, L_4, L_5, L_6, L_7, L_8, L_9, L_10, L_11, L_12, L_13, L_14, L_15, L_16, L_17, L_24, L_31, L_45, L_80, L_127, L_200, L_640, L_1280, L_1000000000, T_0, T_1, T_2, T_3, T_4, T_5, T_6, T_7, T_8, T_9, T_10, T_11, T_12, T_13, T_14, T_15, T_16, T_17]
      by_cases g1 : p < 0
      · rw [if_pos g1]
      · rw [if_neg g1, if_neg (by omega)]
    have eb : m_SpeciesSolverModel_rule τ.2.2.2.2.2.2.2.2.2.2.2.2.2.2.2.2.2.2.2.2.2.1 (I p) (B b) = some (I 0, τ.2.2.2.2.2.2.2.2.2.2.2.2.2.2.2.2.2.2.2.2.2.1) := by
      have gb0 : ∀ x : Option (Int32 × (Nat → Int32)), gb (I 0) x = x := fun x => gb_B false x
      unfold m_SpeciesSolverModel_rule m_SpeciesSolverModel_rule_14 m_SpeciesSolverModel_rule_15
      simp (disch := omega) only [gd_I, nz_I, bd_S, gb_B, nar_B, I_add, I_sub, I_mul, I_neg, I_div, I_nat, I_lt, I_le, I_eq, B_0, B_1, L_0, L_1, L_2, L_3, L_4, L_5, L_6, L_7, L_8, L_9, L_10, L_11, L_12, L_13, L_14, L_15, L_16, L_17, L_24, L_31, L_45, L_80, L_127, L_200, L_640, L_1280, L_1000000000, T_0, T_1, T_2, T_3, T_4, T_5, T_6, T_7, T_8, T_9, T_10, T_11, T_12, T_13, T_14, T_15, T_16, T_17, gb0]
      simp only [if_true]
      by_cases g1 : p < 0
      · rw [if_pos g1]
      · rw [if_neg g1, if_pos (by omega)]
    rw [ea, bd_S]
    refine Ok_some ?_
    rw [eb, bd_S]
    exact Ok_some ⟨rfl, S, ⟨hw, hz⟩, C, R, ⟨c4, c5, c6, c7⟩, ⟨r2, r3, r4, r5⟩, hdr, htr, hfo, ⟨mk, lm, m1, m2, by omega, m4⟩, ⟨sr, hsr, hss⟩⟩
end
