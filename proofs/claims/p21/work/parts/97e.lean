/-! pure part: what tried answers, of both sides; fault always answers -/
def Su.tc (S : Su) (v : Int → Int) : Nat → Int
  | 0 => 0
  | k + 1 => S.tc v k + (S.ncost k (v k) + (if 1 ≤ k then S.mcost (v ((k : Int) - 1)) (v k) else 0) + (if S.ends k then S.scost k (v ((k : Int) - S.K)) (v k) else 0))
section
variable {S : Su} {nu on X : Nat → Int32} {gi : Nat → Nat → Int32} {F : Nat} {v : Int → Int}
theorem c_tried4 (hw : WF S) (C : CS S nu on gi) (hF : 2000 ≤ F) (hL : 0 < S.L) (hX : TR S X v) : ∀ (k n j : Nat), (S.N - j).toNat = k → k < n → (j : Int) ≤ S.N → m_Rules_costOf_4 F (I S.N) X (I S.L) (I S.n) (I S.K) nu gi n (I (S.tc v j)) (I j) = some (I (S.tc v S.N.toNat))
  | 0, n, j, e, hn, j1 => by
    obtain ⟨m, rfl⟩ : ∃ m, n = m + 1 := ⟨n - 1, by omega⟩
    have hN := WF_N hw
    have ej : S.N.toNat = j := by omega
    simp only [m_Rules_costOf_4, m_Rules_costOf_4b]
    rw [if_pos (by rw [I_le (by omega) (by omega) (by omega) (by omega)]; omega), ej]
  | k + 1, n, j, e, hn, j1 => by
    obtain ⟨m, rfl⟩ : ∃ m, n = m + 1 := ⟨n - 1, by omega⟩
    have hN := WF_N hw; have hK := WF_K4 hw
    obtain ⟨xj, c0, c1⟩ := hX j (by omega) (by omega)
    have ih := c_tried4 hw C hF hL hX k m (j + 1) (by omega) (by omega) (by omega)
    have ej : I (j : Int) + 1 = I ((j + 1 : Nat) : Int) := by rw [L_1, I_add]; congr 1
    have k52 : ∀ acc : Int, m_Rules_costOf_52 F (I S.N) X (I S.L) (I S.n) (I S.K) nu gi (m_Rules_costOf_4 F (I S.N) X (I S.L) (I S.n) (I S.K) nu gi m) (I acc) (I j) = m_Rules_costOf_4 F (I S.N) X (I S.L) (I S.n) (I S.K) nu gi m (I (acc + (if S.ends j then S.scost j (v ((j : Int) - S.K)) (v j) else 0))) (I ((j + 1 : Nat) : Int)) := by
      intro acc
      unfold m_Rules_costOf_52 m_Rules_costOf_99 Su.ends
      rw [ej, c_isStrong hw (by omega) (by omega), bd_S]
      by_cases e1 : S.K ≤ (j : Int)
      · obtain ⟨k1, k2⟩ := ends1 hw e1
        obtain ⟨xk, w0, w1⟩ := hX ((j : Int) - S.K) k2 (by omega)
        rw [if_neg (by rw [I_lt (by omega) (by omega) (by omega) (by omega)]; omega), decide_eq_true e1]
        cases hs : S.strong j with
        | false => rw [show B false = 0 from rfl, if_pos rfl]; simp
        | true =>
          rw [show B true = I 1 from rfl, if_neg (by decide)]
          simp (disch := omega) only [gd_I, nz_I, bd_S, gb_B, nar_B, I_add, I_sub, I_mul, I_neg, I_div, I_nat, I_lt, I_le, I_eq, B_0, B_1, L_0, L_1, L_2, L_3, L_4, L_5, L_6, L_7, L_8, L_9, L_10, L_11, L_12, L_13, L_14, L_15, L_16, L_17, L_24, L_31, L_45, L_80, L_127, L_200, L_640, L_1280, L_1000000000, T_0, T_1, T_2, T_3, T_4, T_5, T_6, T_7, T_8, T_9, T_10, T_11, T_12, T_13, T_14, T_15, T_16, T_17, xk, xj, c_strongMoveCost hw C hF]
          simp
      · rw [if_pos (by rw [I_lt (by omega) (by omega) (by omega) (by omega)]; omega), decide_eq_false e1]; simp
    have et : S.tc v (j + 1) = S.tc v j + (S.ncost j (v j) + (if 1 ≤ j then S.mcost (v ((j : Int) - 1)) (v j) else 0) + (if S.ends j then S.scost j (v ((j : Int) - S.K)) (v j) else 0)) := rfl
    simp only [m_Rules_costOf_4, m_Rules_costOf_4b]
    rw [if_neg (by rw [I_le (by omega) (by omega) (by omega) (by omega)]; omega), gd_I (by omega) (by omega) (by omega), I_nat (by omega) (by omega), xj, c_noteCost hw C hF (by omega) (by omega) c0 c1 hL, bd_S, I_add]
    rw [et] at ih
    by_cases e1 : 1 ≤ j
    · obtain ⟨xa, a0, a1⟩ := hX ((j : Int) - 1) (by omega) (by omega)
      rw [if_neg (by rw [L_1, I_lt (by omega) (by omega) (by omega) (by omega)]; omega), show (1 : Int32) = I 1 from rfl, I_sub, gd_I (by omega) (by omega) (by omega), gd_I (by omega) (by omega) (by omega), I_nat (by omega) (by omega), xa, c_moveCost hw C a0 a1 c0 c1, bd_S, I_add, k52]
      rw [if_pos e1] at ih
      rw [← ih]; congr 2; omega
    · rw [if_pos (by rw [L_1, I_lt (by omega) (by omega) (by omega) (by omega)]; omega), k52]
      rw [if_neg e1] at ih
      rw [← ih]; congr 2; omega
theorem fault_c (a b : Int32) (n : Int32) (f1 f2 f3 : Nat → Int32) : Ok (m_SpeciesSolver_fault n f1 f2 f3 a b) (fun _ => True) := by
  rw [← I_of a]
  have h1 := a.toInt_lt; have h2 := a.le_toInt
  generalize a.toInt = x at *
  unfold m_SpeciesSolver_fault m_FaultFinder_tell
  refine Ok_bd (Q := fun _ => True) ?_ (fun u _ => Ok_some trivial)
  refine Ok_ite (fun _ => Ok_some trivial) (fun e1 => Ok_ite (fun _ => Ok_some trivial) (fun _ => Ok_ite (fun e2 => ?_) (fun _ => Ok_some trivial)))
  rw [L_0, I_lt (by omega) (by omega) (by omega) (by omega)] at e1
  rw [show (200 : Int32) = I 200 from rfl, I_lt (by omega) (by omega) (by omega) (by omega)] at e2
  rw [gd_I (by omega) (by omega) (by omega), gd_I (by omega) (by omega) (by omega), gd_I (by omega) (by omega) (by omega)]
  exact Ok_ite (fun _ => Ok_some trivial) (fun _ => Ok_ite (fun _ => Ok_some trivial) (fun _ => Ok_ite (fun _ => Ok_some trivial) (fun _ => Ok_some trivial)))
theorem fault_r (a b : Int32) (n : Int32) (f1 f2 f3 : Nat → Int32) : Ok (m_SpeciesSolverModel_fault n f1 f2 f3 a b) (fun _ => True) := by
  rw [← I_of a]
  have h1 := a.toInt_lt; have h2 := a.le_toInt
  generalize a.toInt = x at *
  unfold m_SpeciesSolverModel_fault
  refine Ok_ite (fun _ => Ok_some trivial) (fun e1 => Ok_ite (fun _ => Ok_some trivial) (fun _ => Ok_ite (fun _ => Ok_some trivial) (fun e2 => Ok_ite (fun _ => Ok_some trivial) (fun _ => Ok_ite (fun _ => ?_) (fun _ => Ok_some trivial)))))
  rw [L_0, I_lt (by omega) (by omega) (by omega) (by omega)] at e1
  rw [show (200 : Int32) = I 200 from rfl, I_le (by omega) (by omega) (by omega) (by omega)] at e2
  rw [gd_I (by omega) (by omega) (by omega), gd_I (by omega) (by omega) (by omega), gd_I (by omega) (by omega) (by omega)]
  exact Ok_ite (fun _ => Ok_some trivial) (fun _ => Ok_ite (fun _ => Ok_some trivial) (fun _ => Ok_some trivial))
end
section
variable {S : Su} {nu on gi X : Nat → Int32} {F : Nat} {v : Int → Int}
theorem r_tried24 (hw : WF S) (C : RS S nu on gi) (hF : 2000 ≤ F) (hL : 0 < S.L) (hX : TR S X v) : ∀ (k n j : Nat), (S.N - j).toNat = k → k < n → (j : Int) ≤ S.N → m_SpeciesSolverModel_tried_24 F (I S.L) (I S.n) (I S.K) (I S.N) gi nu X n (I (S.tc v j)) (I j) = some (I (S.tc v S.N.toNat))
  | 0, n, j, e, hn, j1 => by
    obtain ⟨m, rfl⟩ : ∃ m, n = m + 1 := ⟨n - 1, by omega⟩
    have hN := WF_N hw
    have ej : S.N.toNat = j := by omega
    simp only [m_SpeciesSolverModel_tried_24, m_SpeciesSolverModel_tried_24b]
    rw [if_pos (by rw [I_le (by omega) (by omega) (by omega) (by omega)]; omega), ej]
  | k + 1, n, j, e, hn, j1 => by
    obtain ⟨m, rfl⟩ : ∃ m, n = m + 1 := ⟨n - 1, by omega⟩
    have hN := WF_N hw; have hK := WF_K4 hw
    obtain ⟨xj, c0, c1⟩ := hX j (by omega) (by omega)
    have ih := r_tried24 hw C hF hL hX k m (j + 1) (by omega) (by omega) (by omega)
    have ej : I (j : Int) + 1 = I ((j + 1 : Nat) : Int) := by rw [L_1, I_add]; congr 1
    obtain ⟨w, ew, w0, w1, w2⟩ := r_sB hw C hF hL hX (j := j) (by omega) (by omega)
    have et : S.tc v (j + 1) = S.tc v j + (S.ncost j (v j) + (if 1 ≤ j then S.mcost (v ((j : Int) - 1)) (v j) else 0) + (if S.ends j then S.scost j (v ((j : Int) - S.K)) (v j) else 0)) := rfl
    rw [et] at ih
    simp only [m_SpeciesSolverModel_tried_24, m_SpeciesSolverModel_tried_24b, m_SpeciesSolverModel_tried_59]
    rw [if_neg (by rw [I_le (by omega) (by omega) (by omega) (by omega)]; omega), ew]
    by_cases e1 : 1 ≤ j
    · obtain ⟨xa, a0, a1⟩ := hX ((j : Int) - 1) (by omega) (by omega)
      rw [if_neg (by rw [L_0, I_le (by omega) (by omega) (by omega) (by omega)]; omega), ej, show (1 : Int32) = I 1 from rfl, I_sub, gd_I (by omega) (by omega) (by omega), gd_I (by omega) (by omega) (by omega), I_nat (by omega) (by omega), I_nat (by omega) (by omega), xa, xj, r_moveCost hw C a0 a1 c0 c1, bd_S, bd_S, gd_I (by omega) (by omega) (by omega), r_noteCost hw C hF (by omega) (by omega) w0 w1 c0 c1, bd_S, I_add, I_add]
      rw [if_pos e1, ends_eq hw (by omega)] at ih
      have ew2 : (if S.strong (j : Int) then S.scost j w (v j) else 0) = (if S.strong (j : Int) then S.scost j (v ((j : Int) - S.K)) (v j) else 0) := by
        cases hs : S.strong (j : Int) with
        | false => rfl
        | true => rw [w2 (strong_ge hw (by omega) hs)]
      rw [ew2, ← ih]; congr 2; omega
    · have e0 : j = 0 := by omega
      subst e0
      have en : S.ends ((0 : Nat) : Int) = false := by unfold Su.ends; simp; omega
      rw [if_neg e1, en] at ih
      have z : ((0 : Nat) : Int) = 0 := rfl
      rw [z] at xj c0 c1 ih ⊢
      rw [if_pos (by decide), bd_S, gd_I (by omega) (by omega) (by omega), I_nat (by omega) (by omega), xj, r_noteCost0 hw C hF, bd_S, L_0, I_add, I_add, show (1 : Int32) = I 1 from rfl, I_add]
      rw [z] at ej
      have z1 : (0 : Int) + 1 = ((0 + 1 : Nat) : Int) := rfl
      rw [z1, ← ih]; congr 2
      simp
end
