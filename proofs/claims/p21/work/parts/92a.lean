/-! pure part: THE CHOICE, of both sides -/
def Su.ch (S : Su) (p : Int) : Bool := bt (S.nu 0) (r12 p)
def Su.chl (S : Su) : Nat → Int → List Int
  | 0, _ => []
  | r + 1, p => if S.ch p then p :: S.chl r (p + 1) else S.chl r (p + 1)
def Su.cho (S : Su) : List Int := S.chl (S.nu 2 + 1 - S.nu 1).toNat (S.nu 1)
def Su.c (S : Su) : Nat := S.cho.length
def Su.P (S : Su) (i : Int) : Int := S.cho.getD i.toNat 0
theorem chl_t {S : Su} {r : Nat} {p : Int} (h : S.ch p = true) : S.chl (r + 1) p = p :: S.chl r (p + 1) := by
  show (if S.ch p then p :: S.chl r (p + 1) else S.chl r (p + 1)) = _
  rw [if_pos h]
theorem chl_f {S : Su} {r : Nat} {p : Int} (h : S.ch p = false) : S.chl (r + 1) p = S.chl r (p + 1) := by
  show (if S.ch p then p :: S.chl r (p + 1) else S.chl r (p + 1)) = _
  rw [h]; rfl
theorem chl_len {S : Su} : ∀ (r : Nat) (p : Int), (S.chl r p).length ≤ r
  | 0, _ => Nat.le_refl 0
  | r + 1, p => by
    have ih := chl_len (S := S) r (p + 1)
    cases e : S.ch p with
    | true => rw [chl_t e, List.length_cons]; omega
    | false => rw [chl_f e]; omega
theorem chl_range {S : Su} : ∀ (r : Nat) (p : Int) (i : Nat), i < (S.chl r p).length → p ≤ (S.chl r p).getD i 0 ∧ (S.chl r p).getD i 0 < p + r
  | 0, _, i, h => absurd h (Nat.not_lt_zero i)
  | r + 1, p, i, h => by
    cases e : S.ch p with
    | true =>
      rw [chl_t e] at h ⊢
      cases i with
      | zero => simp only [List.getD_cons_zero]; omega
      | succ i =>
        simp only [List.getD_cons_succ]
        rw [List.length_cons] at h
        have := chl_range (S := S) r (p + 1) i (by omega)
        omega
    | false =>
      rw [chl_f e] at h ⊢
      have := chl_range (S := S) r (p + 1) i h
      omega
theorem chl_mono {S : Su} : ∀ (r : Nat) (p : Int) (i k : Nat), i < k → k < (S.chl r p).length → (S.chl r p).getD i 0 < (S.chl r p).getD k 0
  | 0, _, i, k, _, h => absurd h (Nat.not_lt_zero k)
  | r + 1, p, i, k, h1, h => by
    cases e : S.ch p with
    | true =>
      rw [chl_t e] at h ⊢
      rw [List.length_cons] at h
      cases k with
      | zero => omega
      | succ k =>
        cases i with
        | zero =>
          simp only [List.getD_cons_zero, List.getD_cons_succ]
          have := chl_range (S := S) r (p + 1) k (by omega)
          omega
        | succ i =>
          simp only [List.getD_cons_succ]
          exact chl_mono r (p + 1) i k (by omega) (by omega)
    | false =>
      rw [chl_f e] at h ⊢
      exact chl_mono r (p + 1) i k h1 h
theorem P_range {S : Su} (h : WF S) {i : Int} (h1 : 0 ≤ i) (h2 : i < S.c) : 0 ≤ S.P i ∧ S.P i ≤ 127 := by
  have a := WF_nu h 1 (by decide); have b := WF_lh h; have c := WF_nu h 2 (by decide)
  have := chl_range (S := S) (S.nu 2 + 1 - S.nu 1).toNat (S.nu 1) i.toNat (by unfold Su.c Su.cho at h2; omega)
  unfold Su.P Su.cho
  omega
theorem P_lt {S : Su} {i k : Int} (h1 : 0 ≤ i) (h2 : i < k) (h3 : k < S.c) : S.P i < S.P k := by
  unfold Su.P Su.cho
  exact chl_mono _ _ _ _ (by omega) (by unfold Su.c Su.cho at h3; omega)
section
variable {S : Su} {nu on : Nat → Int32} {gi : Nat → Nat → Int32}
theorem c_isChosen (C : CS S nu on gi) {p : Int} (h1 : 0 ≤ p) (h2 : p ≤ 200) : m_Setup_isChosen nu (I p) = some (B (S.ch p)) := by
  unfold m_Setup_isChosen Su.ch bt r12
  simp (disch := omega) only [gd_I, nz_I, bd_S, gb_B, nar_B, I_add, I_sub, I_mul, I_neg, I_div, I_nat, I_lt, I_le, I_eq, B_0, B_1, L_0, L_1, L_2, L_3, L_4, L_5, L_6, L_7, L_8, L_9, L_10, L_11, L_12, L_13, L_14, L_15, L_16, L_17, L_24, L_31, L_45, L_80, L_127, L_200, L_640, L_1280, L_1000000000, T_0, T_1, T_2, T_3, T_4, T_5, T_6, T_7, T_8, T_9, T_10, T_11, T_12, T_13, T_14, T_15, T_16, T_17, CS_nu C, ite_B]
theorem c_choiceL (h : WF S) (C : CS S nu on gi) {F : Nat} : ∀ (r n : Nat) (k p : Int), (S.nu 2 + 1 - p).toNat = r → r < n → 0 ≤ k → k + r ≤ 1000 → 0 ≤ p → p ≤ 128 → m_Setup_choiceSize_9 F nu n (I k) (I p) = some (I (if k + (S.chl r p).length ≤ 8 then k + (S.chl r p).length else -1))
  | 0, n, k, p, e, hn, hk, hk2, hp, hp2 => by
    obtain ⟨m, rfl⟩ : ∃ m, n = m + 1 := ⟨n - 1, by omega⟩
    have n2 := WF_nu h 2 (by decide)
    simp only [m_Setup_choiceSize_9, m_Setup_choiceSize_9b]
    simp (disch := omega) only [gd_I, nz_I, bd_S, gb_B, nar_B, I_add, I_sub, I_mul, I_neg, I_div, I_nat, I_lt, I_le, I_eq, B_0, B_1, L_0, L_1, L_2, L_3, L_4, L_5, L_6, L_7, L_8, L_9, L_10, L_11, L_12, L_13, L_14, L_15, L_16, L_17, L_24, L_31, L_45, L_80, L_127, L_200, L_640, L_1280, L_1000000000, T_0, T_1, T_2, T_3, T_4, T_5, T_6, T_7, T_8, T_9, T_10, T_11, T_12, T_13, T_14, T_15, T_16, T_17, CS_nu C]
    rw [if_pos (by omega)]
    simp only [Su.chl, List.length_nil]
    ((repeat' split) <;> (try simp only [sB0, sB1]) <;> (first | rfl | grind | (simp_all; done) | (simp_all; omega)))
  | r + 1, n, k, p, e, hn, hk, hk2, hp, hp2 => by
    obtain ⟨m, rfl⟩ : ∃ m, n = m + 1 := ⟨n - 1, by omega⟩
    have n2 := WF_nu h 2 (by decide)
    have lh := WF_lh h
    have ih1 := c_choiceL h C (F := F) r m k (p + 1) (by omega) (by omega) hk (by omega) (by omega) (by omega)
    have ih2 := c_choiceL h C (F := F) r m (k + 1) (p + 1) (by omega) (by omega) (by omega) (by omega) (by omega) (by omega)
    simp only [m_Setup_choiceSize_9, m_Setup_choiceSize_9b, m_Setup_choiceSize_30]
    simp (disch := omega) only [gd_I, nz_I, bd_S, gb_B, nar_B, I_add, I_sub, I_mul, I_neg, I_div, I_nat, I_lt, I_le, I_eq, B_0, B_1, L_0, L_1, L_2, L_3, L_4, L_5, L_6, L_7, L_8, L_9, L_10, L_11, L_12, L_13, L_14, L_15, L_16, L_17, L_24, L_31, L_45, L_80, L_127, L_200, L_640, L_1280, L_1000000000, T_0, T_1, T_2, T_3, T_4, T_5, T_6, T_7, T_8, T_9, T_10, T_11, T_12, T_13, T_14, T_15, T_16, T_17, CS_nu C, c_isChosen C]
    rw [if_neg (by omega)]
    cases ec : S.ch p with
    | true =>
      rw [chl_t ec, List.length_cons]
      simp only [Bool.true_eq_false, if_false, ih2]
      have e2 : k + 1 + ((S.chl r (p + 1)).length : Int) = k + (((S.chl r (p + 1)).length + 1 : Nat) : Int) := by omega
      rw [e2]
    | false =>
      rw [chl_f ec]
      simp only [if_true, ih1]
theorem c_choiceSize (h : WF S) (C : CS S nu on gi) {F : Nat} (hF : 2000 ≤ F) : m_Setup_choiceSize F nu = some (I (if (S.c : Int) ≤ 8 then (S.c : Int) else -1)) := by
  have n1 := WF_nu h 1 (by decide); have n2 := WF_nu h 2 (by decide); have lh := WF_lh h
  unfold m_Setup_choiceSize Su.c Su.cho
  simp (disch := omega) only [gd_I, nz_I, bd_S, gb_B, nar_B, I_add, I_sub, I_mul, I_neg, I_div, I_nat, I_lt, I_le, I_eq, B_0, B_1, L_0, L_1, L_2, L_3, L_4, L_5, L_6, L_7, L_8, L_9, L_10, L_11, L_12, L_13, L_14, L_15, L_16, L_17, L_24, L_31, L_45, L_80, L_127, L_200, L_640, L_1280, L_1000000000, T_0, T_1, T_2, T_3, T_4, T_5, T_6, T_7, T_8, T_9, T_10, T_11, T_12, T_13, T_14, T_15, T_16, T_17, CS_nu C]
  have := c_choiceL h C (F := F) _ F 0 (S.nu 1) rfl (by omega) (by omega) (by omega) (by omega) (by omega)
  rw [this]; simp only [Int.zero_add]
theorem c_writeL (h : WF S) (C : CS S nu on gi) {F : Nat} : ∀ (r n : Nat) (k p : Int) (Q : Nat → Int32), (S.nu 2 + 1 - p).toNat = r → r < n → 0 ≤ k → k + (S.chl r p).length ≤ 8 → 0 ≤ p → p ≤ 128 → Ok (m_Setup_writeChoice_9 F nu n Q (I k) (I p)) (fun u => u.1 = I (k + (S.chl r p).length) ∧ (∀ i : Nat, (i : Int) < k → u.2 i = Q i) ∧ (∀ i : Nat, i < (S.chl r p).length → u.2 (k.toNat + i) = I ((S.chl r p).getD i 0)))
  | 0, n, k, p, Q, e, hn, hk, hk2, hp, hp2 => by
    obtain ⟨m, rfl⟩ : ∃ m, n = m + 1 := ⟨n - 1, by omega⟩
    have n2 := WF_nu h 2 (by decide)
    simp only [m_Setup_writeChoice_9, m_Setup_writeChoice_9b]
    simp (disch := omega) only [gd_I, nz_I, bd_S, gb_B, nar_B, I_add, I_sub, I_mul, I_neg, I_div, I_nat, I_lt, I_le, I_eq, B_0, B_1, L_0, L_1, L_2, L_3, L_4, L_5, L_6, L_7, L_8, L_9, L_10, L_11, L_12, L_13, L_14, L_15, L_16, L_17, L_24, L_31, L_45, L_80, L_127, L_200, L_640, L_1280, L_1000000000, T_0, T_1, T_2, T_3, T_4, T_5, T_6, T_7, T_8, T_9, T_10, T_11, T_12, T_13, T_14, T_15, T_16, T_17, CS_nu C]
    rw [if_pos (by omega)]
    refine Ok_some ⟨?_, fun _ _ => rfl, fun i hi => absurd hi (Nat.not_lt_zero i)⟩
    simp only [Su.chl, List.length_nil]; congr 1; omega
  | r + 1, n, k, p, Q, e, hn, hk, hk2, hp, hp2 => by
    obtain ⟨m, rfl⟩ : ∃ m, n = m + 1 := ⟨n - 1, by omega⟩
    have n2 := WF_nu h 2 (by decide)
    have lh := WF_lh h
    simp only [m_Setup_writeChoice_9, m_Setup_writeChoice_9b, m_Setup_writeChoice_40]
    simp (disch := omega) only [gd_I, nz_I, bd_S, gb_B, nar_B, I_add, I_sub, I_mul, I_neg, I_div, I_nat, I_lt, I_le, I_eq, B_0, B_1, L_0, L_1, L_2, L_3, L_4, L_5, L_6, L_7, L_8, L_9, L_10, L_11, L_12, L_13, L_14, L_15, L_16, L_17, L_24, L_31, L_45, L_80, L_127, L_200, L_640, L_1280, L_1000000000, T_0, T_1, T_2, T_3, T_4, T_5, T_6, T_7, T_8, T_9, T_10, T_11, T_12, T_13, T_14, T_15, T_16, T_17, CS_nu C, c_isChosen C]
    rw [if_neg (by omega)]
    refine Ok_ite (fun h8 => ?_) (fun h8 => ?_)
    · have e0 : (S.chl (r + 1) p).length = 0 := by omega
      refine Ok_some ⟨?_, fun _ _ => rfl, fun i hi => by omega⟩
      simp only; congr 1; omega
    · cases ec : S.ch p with
      | true =>
        rw [chl_t ec] at hk2 ⊢
        rw [List.length_cons] at hk2 ⊢
        simp (disch := omega) only [gd_I, nz_I, bd_S, gb_B, nar_B, I_add, I_sub, I_mul, I_neg, I_div, I_nat, I_lt, I_le, I_eq, B_0, B_1, L_0, L_1, L_2, L_3, L_4, L_5, L_6, L_7, L_8, L_9, L_10, L_11, L_12, L_13, L_14, L_15, L_16, L_17, L_24, L_31, L_45, L_80, L_127, L_200, L_640, L_1280, L_1000000000, T_0, T_1, T_2, T_3, T_4, T_5, T_6, T_7, T_8, T_9, T_10, T_11, T_12, T_13, T_14, T_15, T_16, T_17, Bool.true_eq_false, if_false]
        refine Ok_mono (c_writeL h C (F := F) r m (k + 1) (p + 1) _ (by omega) (by omega) (by omega) (by omega) (by omega) (by omega)) ?_
        rintro u ⟨u1, u2, u3⟩
        refine ⟨?_, fun i hi => ?_, fun i hi => ?_⟩
        · rw [u1]; congr 1; omega
        · rw [u2 i (by omega), upd_ne _ _ (by omega)]
        · cases i with
          | zero => rw [u2 _ (by omega)]; simp only [Nat.add_zero, List.getD_cons_zero]; rw [upd_at]
          | succ i =>
            simp only [List.getD_cons_succ]
            have e9 : k.toNat + (i + 1) = (k + 1).toNat + i := by omega
            rw [e9]; exact u3 i (by omega)
      | false =>
        rw [chl_f ec] at hk2 ⊢
        simp only [if_true]
        exact c_writeL h C (F := F) r m k (p + 1) Q (by omega) (by omega) hk hk2 (by omega) (by omega)
end
section
variable {S : Su} {nu on gi : Nat → Int32}
theorem r_chooseL (h : WF S) (C : RS S nu on gi) {F : Nat} : ∀ (r n : Nat) (k p : Int) (Q : Nat → Int32), (S.nu 2 + 1 - p).toNat = r → r < n → 0 ≤ k → k ≤ 9 → 0 ≤ p → p ≤ 128 → Ok (m_SpeciesSolverModel_choose_12 F nu n (I k) Q (I p)) (fun u => u.1 = I (if k + (S.chl r p).length ≤ 9 then k + (S.chl r p).length else 9) ∧ (∀ i : Nat, (i : Int) < k → u.2 i = Q i) ∧ (∀ i : Nat, i < (S.chl r p).length → k + i < 8 → u.2 (k.toNat + i) = I ((S.chl r p).getD i 0)))
  | 0, n, k, p, Q, e, hn, hk, hk2, hp, hp2 => by
    obtain ⟨m, rfl⟩ : ∃ m, n = m + 1 := ⟨n - 1, by omega⟩
    have n2 := WF_nu h 2 (by decide)
    simp only [m_SpeciesSolverModel_choose_12, m_SpeciesSolverModel_choose_12b]
    simp (disch := omega) only [gd_I, nz_I, bd_S, gb_B, nar_B, I_add, I_sub, I_mul, I_neg, I_div, I_nat, I_lt, I_le, I_eq, B_0, B_1, L_0, L_1, L_2, L_3, L_4, L_5, L_6, L_7, L_8, L_9, L_10, L_11, L_12, L_13, L_14, L_15, L_16, L_17, L_24, L_31, L_45, L_80, L_127, L_200, L_640, L_1280, L_1000000000, T_0, T_1, T_2, T_3, T_4, T_5, T_6, T_7, T_8, T_9, T_10, T_11, T_12, T_13, T_14, T_15, T_16, T_17, RS_nu C]
    rw [if_pos (by omega)]
    refine Ok_some ⟨?_, fun _ _ => rfl, fun i hi => absurd hi (Nat.not_lt_zero i)⟩
    have e0 : ((S.chl 0 p).length : Int) = 0 := rfl
    rw [if_pos (by omega), e0, Int.add_zero]
  | r + 1, n, k, p, Q, e, hn, hk, hk2, hp, hp2 => by
    obtain ⟨m, rfl⟩ : ∃ m, n = m + 1 := ⟨n - 1, by omega⟩
    have n2 := WF_nu h 2 (by decide)
    have lh := WF_lh h
    have hc : ((I (S.nu 0) >>> (I (p - p / 12 * 12) &&& I 31)) &&& I 1 = I 1) = (S.ch p = true) := by unfold Su.ch bt r12; rw [decide_eq_true_eq]
    simp only [m_SpeciesSolverModel_choose_12, m_SpeciesSolverModel_choose_12b, m_SpeciesSolverModel_choose_77, m_SpeciesSolverModel_choose_67]
    simp (disch := omega) only [gd_I, nz_I, bd_S, gb_B, nar_B, I_add, I_sub, I_mul, I_neg, I_div, I_nat, I_lt, I_le, I_eq, B_0, B_1, L_0, L_1, L_2, L_3, L_4, L_5, L_6, L_7, L_8, L_9, L_10, L_11, L_12, L_13, L_14, L_15, L_16, L_17, L_24, L_31, L_45, L_80, L_127, L_200, L_640, L_1280, L_1000000000, T_0, T_1, T_2, T_3, T_4, T_5, T_6, T_7, T_8, T_9, T_10, T_11, T_12, T_13, T_14, T_15, T_16, T_17, RS_nu C, hc]
    rw [if_neg (by omega)]
    refine Ok_ite (fun h8 => ?_) (fun h8 => ?_)
    · refine Ok_some ⟨?_, fun _ _ => rfl, fun i hi h9 => by omega⟩
      simp only; congr 1; split <;> omega
    · cases ec : S.ch p with
      | true =>
        rw [chl_t ec, List.length_cons]
        simp only [if_true]
        refine Ok_ite (fun h7 => ?_) (fun h7 => ?_)
        · refine Ok_mono (r_chooseL h C (F := F) r m (k + 1) (p + 1) _ (by omega) (by omega) (by omega) (by omega) (by omega) (by omega)) ?_
          rintro u ⟨u1, u2, u3⟩
          refine ⟨?_, fun i hi => u2 i (by omega), fun i hi h9 => by omega⟩
          rw [u1]; congr 1; split <;> split <;> omega
        · refine Ok_mono (r_chooseL h C (F := F) r m (k + 1) (p + 1) _ (by omega) (by omega) (by omega) (by omega) (by omega) (by omega)) ?_
          rintro u ⟨u1, u2, u3⟩
          refine ⟨?_, fun i hi => ?_, fun i hi h9 => ?_⟩
          · rw [u1]; congr 1; split <;> split <;> omega
          · rw [u2 i (by omega), upd_ne _ _ (by omega)]
          · cases i with
            | zero => rw [u2 _ (by omega)]; simp only [Nat.add_zero, List.getD_cons_zero]; rw [upd_at]
            | succ i =>
              simp only [List.getD_cons_succ]
              have e9 : k.toNat + (i + 1) = (k + 1).toNat + i := by omega
              rw [e9]; exact u3 i (by omega) (by omega)
      | false =>
        rw [chl_f ec]
        simp only [Bool.false_eq_true, if_false]
        exact r_chooseL h C (F := F) r m k (p + 1) Q (by omega) (by omega) hk hk2 (by omega) (by omega)
end
