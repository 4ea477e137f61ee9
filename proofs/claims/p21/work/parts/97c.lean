/-! pure part: the class's judge always answers; what tried answers -/
def TR (S : Su) (X : Nat → Int32) (v : Int → Int) : Prop := ∀ i : Int, 0 ≤ i → i < S.N → X i.toNat = I (v i) ∧ 0 ≤ v i ∧ v i ≤ 127
def isB (x : Int32) : Prop := ∃ b : Bool, x = B b
theorem Ok_01 {c : Prop} [Decidable c] : Ok (if c then some (I 0) else some (I 1)) isB := Ok_ite (fun _ => Ok_some ⟨false, rfl⟩) (fun _ => Ok_some ⟨true, rfl⟩)
theorem Ok_10 {c : Prop} [Decidable c] : Ok (if c then some (I 1) else some (I 0)) isB := Ok_ite (fun _ => Ok_some ⟨true, rfl⟩) (fun _ => Ok_some ⟨false, rfl⟩)
section
variable {S : Su} {nu on X : Nat → Int32} {gi : Nat → Nat → Int32} {F : Nat} {v : Int → Int}
theorem ends1 (hw : WF S) {j : Int} (h : S.K ≤ j) : 1 ≤ j / S.K ∧ 0 ≤ j - S.K := by
  have := WF_K4 hw
  refine ⟨?_, by omega⟩
  rcases WF_K hw with e | e | e <;> rw [e] at h ⊢ <;> omega
theorem c_breaksWith (hw : WF S) (C : CS S nu on gi) (hF : 2000 ≤ F) (hL : 0 < S.L) (hX : TR S X v) {l r j : Int} (l0 : 0 ≤ l) (l1 : l < S.L) (r0 : 0 ≤ r) (r1 : r < 11) (j0 : 0 ≤ j) (j1 : j < S.N) : Ok (m_FaultFinder_breaksWith (I S.N) X (I S.K) (B S.ab) nu gi (I l) (I r) (I j)) isB := by
  have hN := WF_N hw; have hK := WF_K4 hw
  obtain ⟨xj, v0, v1⟩ := hX j j0 j1
  have key : ∀ (e : Bool), (e = true → S.K ≤ j) → Ok (m_FaultFinder_breaksWith_38 (I S.N) X (I S.K) (B S.ab) nu gi (I l) (I r) (I j) (I (v j)) (B e)) isB := by
    intro e he
    unfold m_FaultFinder_breaksWith_38
    have r12 : Ok (if B e = 0 then some (0 : Int32) else (gd (I j - I S.K) 45 (bd (m_Rules_isParallel (I S.K) nu gi (I l) (I j) (X (Int32.toNatClampNeg (I j - I S.K))) (I (v j))) (fun u4 => (if u4 = 0 then some 0 else some 1))))) isB := by
      cases e with
      | false => rw [show B false = 0 from rfl, if_pos rfl]; exact Ok_some ⟨false, rfl⟩
      | true =>
        obtain ⟨k1, k2⟩ := ends1 hw (he rfl)
        obtain ⟨xk, w0, w1⟩ := hX (j - S.K) k2 (by omega)
        rw [show B true = I 1 from rfl, if_neg (by decide)]
        simp (disch := omega) only [gd_I, nz_I, bd_S, gb_B, nar_B, I_add, I_sub, I_mul, I_neg, I_div, I_nat, I_lt, I_le, I_eq, B_0, B_1, L_0, L_1, L_2, L_3, L_4, L_5, L_6, L_7, L_8, L_9, L_10, L_11, L_12, L_13, L_14, L_15, L_16, L_17, L_24, L_31, L_45, L_80, L_127, L_200, L_640, L_1280, L_1000000000, T_0, T_1, T_2, T_3, T_4, T_5, T_6, T_7, T_8, T_9, T_10, T_11, T_12, T_13, T_14, T_15, T_16, T_17, xk, c_isParallel hw C]
        exact Ok_01
    have r13 : Ok (if B e = 0 then some (0 : Int32) else (gd (I j - I S.K) 45 (bd (m_Rules_isHidden (I S.K) nu gi (I l) (I j) (X (Int32.toNatClampNeg (I j - I S.K))) (I (v j))) (fun u4 => (if u4 = 0 then some 0 else some 1))))) isB := by
      cases e with
      | false => rw [show B false = 0 from rfl, if_pos rfl]; exact Ok_some ⟨false, rfl⟩
      | true =>
        obtain ⟨k1, k2⟩ := ends1 hw (he rfl)
        obtain ⟨xk, w0, w1⟩ := hX (j - S.K) k2 (by omega)
        rw [show B true = I 1 from rfl, if_neg (by decide)]
        simp (disch := omega) only [gd_I, nz_I, bd_S, gb_B, nar_B, I_add, I_sub, I_mul, I_neg, I_div, I_nat, I_lt, I_le, I_eq, B_0, B_1, L_0, L_1, L_2, L_3, L_4, L_5, L_6, L_7, L_8, L_9, L_10, L_11, L_12, L_13, L_14, L_15, L_16, L_17, L_24, L_31, L_45, L_80, L_127, L_200, L_640, L_1280, L_1000000000, T_0, T_1, T_2, T_3, T_4, T_5, T_6, T_7, T_8, T_9, T_10, T_11, T_12, T_13, T_14, T_15, T_16, T_17, xk, c_isHidden hw C]
        exact Ok_01
    refine Ok_ite (fun _ => r12) (fun _ => Ok_ite (fun _ => r13) (fun _ => Ok_ite (fun _ => ?_) (fun _ => Ok_ite (fun _ => ?_) (fun _ => Ok_some ⟨false, rfl⟩))))
    · rw [c_isCrossing hw C l0 l1 j0 j1 v0 v1, bd_S, gb_B]
      exact Ok_some ⟨_, rfl⟩
    · rw [c_isStrong hw j0 (by omega), bd_S]
      refine Ok_ite (fun _ => Ok_ite (fun _ => Ok_some ⟨false, rfl⟩) (fun e1 => Ok_ite (fun _ => Ok_some ⟨false, rfl⟩) (fun e2 => ?_))) (fun _ => Ok_some ⟨false, rfl⟩)
      rw [L_1, I_lt (by omega) (by omega) (by omega) (by omega)] at e1
      rw [L_1, I_add, I_le (by omega) (by omega) (by omega) (by omega)] at e2
      obtain ⟨xa, a0, a1⟩ := hX (j - 1) (by omega) (by omega)
      obtain ⟨xb, b0, b1⟩ := hX (j + 1) (by omega) (by omega)
      rw [c_isHardWith hw C l0 l1 j0 j1 v0 v1, bd_S]
      refine Ok_ite (fun _ => Ok_some ⟨false, rfl⟩) (fun _ => ?_)
      simp (disch := omega) only [gd_I, nz_I, bd_S, gb_B, nar_B, I_add, I_sub, I_mul, I_neg, I_div, I_nat, I_lt, I_le, I_eq, B_0, B_1, L_0, L_1, L_2, L_3, L_4, L_5, L_6, L_7, L_8, L_9, L_10, L_11, L_12, L_13, L_14, L_15, L_16, L_17, L_24, L_31, L_45, L_80, L_127, L_200, L_640, L_1280, L_1000000000, T_0, T_1, T_2, T_3, T_4, T_5, T_6, T_7, T_8, T_9, T_10, T_11, T_12, T_13, T_14, T_15, T_16, T_17, xa, xb, c_isPassing hw C]
      exact Ok_10
  have key0 := key false (fun h => by cases h)
  have key0' : Ok (m_FaultFinder_breaksWith_37 (I S.N) X (I S.K) (B S.ab) nu gi (I l) (I r) (I j) (I (v j))) isB := key0
  unfold m_FaultFinder_breaksWith
  rw [gd_I (by omega) (by omega) (by omega), I_nat (by omega) (by omega), xj]
  refine Ok_ite (fun _ => key0') (fun e1 => ?_)
  rw [I_lt (by omega) (by omega) (by omega) (by omega)] at e1
  rw [c_isStrong hw j0 (by omega), bd_S]
  refine Ok_ite (fun _ => key0') (fun _ => ?_)
  exact key true (fun _ => by omega)
theorem c_isRep (hw : WF S) (C : CS S nu on gi) (hF : 2000 ≤ F) (hL : 0 < S.L) (hX : TR S X v) {j : Int} (j0 : 0 ≤ j) (j1 : j < S.N) : ∀ (r n : Nat) (i : Int), (j - i).toNat = r → r < n → 0 ≤ i → i ≤ j → Ok (m_FaultFinder_isRepeated_23 F X nu n (I j) (I i)) isB
  | 0, n, i, e, hn, i0, i1 => by
    obtain ⟨k, rfl⟩ : ∃ k, n = k + 1 := ⟨n - 1, by omega⟩
    have hN := WF_N hw
    simp only [m_FaultFinder_isRepeated_23, m_FaultFinder_isRepeated_23b]
    simp (disch := omega) only [gd_I, nz_I, bd_S, gb_B, nar_B, I_add, I_sub, I_mul, I_neg, I_div, I_nat, I_lt, I_le, I_eq, B_0, B_1, L_0, L_1, L_2, L_3, L_4, L_5, L_6, L_7, L_8, L_9, L_10, L_11, L_12, L_13, L_14, L_15, L_16, L_17, L_24, L_31, L_45, L_80, L_127, L_200, L_640, L_1280, L_1000000000, T_0, T_1, T_2, T_3, T_4, T_5, T_6, T_7, T_8, T_9, T_10, T_11, T_12, T_13, T_14, T_15, T_16, T_17]
    rw [if_pos (by omega)]
    exact Ok_some ⟨true, rfl⟩
  | r + 1, n, i, e, hn, i0, i1 => by
    obtain ⟨k, rfl⟩ : ∃ k, n = k + 1 := ⟨n - 1, by omega⟩
    have hN := WF_N hw
    obtain ⟨xi, _, _⟩ := hX i i0 (by omega)
    obtain ⟨xj, _, _⟩ := hX j j0 j1
    simp only [m_FaultFinder_isRepeated_23, m_FaultFinder_isRepeated_23b]
    rw [if_neg (by rw [I_le (by omega) (by omega) (by omega) (by omega)]; omega), gd_I (by omega) (by omega) (by omega), gd_I (by omega) (by omega) (by omega)]
    refine Ok_ite (fun _ => ?_) (fun _ => Ok_some ⟨false, rfl⟩)
    rw [L_1, I_add]
    exact c_isRep hw C hF hL hX j0 j1 r k (i + 1) (by omega) (by omega) (by omega) (by omega)
theorem c_breaksAlone (hw : WF S) (C : CS S nu on gi) (hF : 2000 ≤ F) (hL : 0 < S.L) (hX : TR S X v) {hi fh : Int32} {r j : Int} (j0 : 0 ≤ j) (j1 : j < S.N) : Ok (m_FaultFinder_breaksAlone F (I S.N) X (I S.L) (I S.K) nu gi hi fh (I r) (I j)) isB := by
  have hN := WF_N hw; have hK := WF_K4 hw; have n11 := WF_11 hw
  obtain ⟨xj, v0, v1⟩ := hX j j0 j1
  unfold m_FaultFinder_breaksAlone
  rw [gd_I (by omega) (by omega) (by omega), I_nat (by omega) (by omega), xj]
  refine Ok_ite (fun _ => ?_) (fun _ => Ok_ite (fun _ => Ok_some ⟨false, rfl⟩) (fun _ => Ok_ite (fun _ => Ok_some ⟨false, rfl⟩) (fun _ => Ok_ite (fun _ => Ok_some ⟨false, rfl⟩) (fun _ => Ok_ite (fun _ => Ok_some ⟨false, rfl⟩) (fun _ => Ok_ite (fun _ => ?_) (fun _ => Ok_ite (fun _ => ?_) (fun _ => Ok_ite (fun _ => ?_) (fun _ => Ok_ite (fun _ => ?_) (fun _ => Ok_ite (fun _ => ?_) (fun _ => Ok_ite (fun _ => ?_) (fun _ => Ok_some ⟨false, rfl⟩)))))))))))
  · rw [c_isStrong hw j0 (by omega), bd_S]
    refine Ok_ite (fun _ => Ok_some ⟨false, rfl⟩) (fun _ => ?_)
    rw [c_isHard hw C hF j0 j1 v0 v1, bd_S]
    exact Ok_01
  · refine Ok_ite (fun _ => Ok_some ⟨false, rfl⟩) (fun e1 => ?_)
    rw [L_1, I_lt (by omega) (by omega) (by omega) (by omega)] at e1
    obtain ⟨xa, a0, a1⟩ := hX (j - 1) (by omega) (by omega)
    simp (disch := omega) only [gd_I, nz_I, bd_S, gb_B, nar_B, I_add, I_sub, I_mul, I_neg, I_div, I_nat, I_lt, I_le, I_eq, B_0, B_1, L_0, L_1, L_2, L_3, L_4, L_5, L_6, L_7, L_8, L_9, L_10, L_11, L_12, L_13, L_14, L_15, L_16, L_17, L_24, L_31, L_45, L_80, L_127, L_200, L_640, L_1280, L_1000000000, T_0, T_1, T_2, T_3, T_4, T_5, T_6, T_7, T_8, T_9, T_10, T_11, T_12, T_13, T_14, T_15, T_16, T_17, xa, c_isLeaping hw C]
    exact Ok_01
  · refine Ok_ite (fun _ => Ok_some ⟨false, rfl⟩) (fun e1 => ?_)
    rw [L_2, I_lt (by omega) (by omega) (by omega) (by omega)] at e1
    obtain ⟨xa, a0, a1⟩ := hX (j - 1) (by omega) (by omega)
    obtain ⟨xb, b0, b1⟩ := hX (j - 2) (by omega) (by omega)
    simp (disch := omega) only [gd_I, nz_I, bd_S, gb_B, nar_B, I_add, I_sub, I_mul, I_neg, I_div, I_nat, I_lt, I_le, I_eq, B_0, B_1, L_0, L_1, L_2, L_3, L_4, L_5, L_6, L_7, L_8, L_9, L_10, L_11, L_12, L_13, L_14, L_15, L_16, L_17, L_24, L_31, L_45, L_80, L_127, L_200, L_640, L_1280, L_1000000000, T_0, T_1, T_2, T_3, T_4, T_5, T_6, T_7, T_8, T_9, T_10, T_11, T_12, T_13, T_14, T_15, T_16, T_17, xa, xb, c_isNotTurned hw C]
    exact Ok_01
  · refine Ok_bd (Q := isB) ?_ (fun u hu => ?_)
    · have e11 : nu (Int32.toNatClampNeg 11) = I (S.nu 11) := CS_nu C 11 (by decide)
      unfold m_FaultFinder_isRepeated
      rw [e11]
      refine Ok_ite (fun e1 => ?_) (fun _ => Ok_some ⟨false, rfl⟩)
      rw [I_le (by omega) (by omega) (by omega) (by omega)] at e1
      rw [I_sub]
      exact c_isRep hw C hF hL hX j0 j1 _ F _ rfl (by omega) (by omega) (by omega)
    · obtain ⟨b, hb⟩ := hu
      subst hb
      rw [gb_B]; exact Ok_some ⟨b, rfl⟩
  · refine Ok_ite (fun _ => ?_) (fun _ => Ok_some ⟨false, rfl⟩)
    rw [c_isBadOpening hw C hL v0 v1, bd_S]
    exact Ok_01
  · refine Ok_ite (fun _ => Ok_some ⟨false, rfl⟩) (fun e1 => Ok_ite (fun e2 => ?_) (fun _ => Ok_some ⟨false, rfl⟩))
    rw [L_1, I_lt (by omega) (by omega) (by omega) (by omega)] at e1
    obtain ⟨xa, a0, a1⟩ := hX (j - 1) (by omega) (by omega)
    simp (disch := omega) only [gd_I, nz_I, bd_S, gb_B, nar_B, I_add, I_sub, I_mul, I_neg, I_div, I_nat, I_lt, I_le, I_eq, B_0, B_1, L_0, L_1, L_2, L_3, L_4, L_5, L_6, L_7, L_8, L_9, L_10, L_11, L_12, L_13, L_14, L_15, L_16, L_17, L_24, L_31, L_45, L_80, L_127, L_200, L_640, L_1280, L_1000000000, T_0, T_1, T_2, T_3, T_4, T_5, T_6, T_7, T_8, T_9, T_10, T_11, T_12, T_13, T_14, T_15, T_16, T_17, xa, c_isBadClosing hw C hL]
    exact Ok_01
  · refine Ok_ite (fun _ => ?_) (fun _ => Ok_some ⟨false, rfl⟩)
    exact Ok_01
theorem c_addFault {a : Int} {f1 f2 f3 : Nat → Int32} {x y z : Int32} (a0 : 0 ≤ a) (a1 : a < 100000) : Ok (m_FaultFinder_addFault (I a) f1 f2 f3 x y z) (fun u => u.1 = I (a + 1)) := by
  unfold m_FaultFinder_addFault m_FaultFinder_addFault_40
  refine Ok_ite (fun _ => Ok_some ?_) (fun e1 => ?_)
  · simp only; rw [L_1, I_add]
  · rw [show (200 : Int32) = I 200 from rfl, I_le (by omega) (by omega) (by omega) (by omega)] at e1
    rw [gd_I (by omega) (by omega) (by omega), gd_I (by omega) (by omega) (by omega), gd_I (by omega) (by omega) (by omega)]
    refine Ok_some ?_
    simp only; rw [L_1, I_add]
theorem c_ask13 (hw : WF S) (C : CS S nu on gi) (hF : 2000 ≤ F) (hL : 0 < S.L) (hX : TR S X v) {hi fh : Int32} {r j : Int} (r0 : 0 ≤ r) (r1 : r < 11) (j0 : 0 ≤ j) (j1 : j < S.N) : ∀ (k n : Nat) (l a : Int) (f1 f2 f3 : Nat → Int32), (S.L - l).toNat = k → k < n → 0 ≤ l → l ≤ S.L → 0 ≤ a → a + (S.L - l) ≤ 50000 → Ok (m_FaultFinder_ask_13 F (I S.N) X (I S.L) (I S.K) (B S.ab) nu gi hi fh n (I a) f1 f2 f3 (I r) (I j) (I l)) (fun u => ∃ b, u.1 = I b ∧ a ≤ b ∧ b ≤ a + (S.L - l))
  | 0, n, l, a, f1, f2, f3, e, hn, l0, l1, a0, a1 => by
    obtain ⟨m, rfl⟩ : ∃ m, n = m + 1 := ⟨n - 1, by omega⟩
    have hL2 := WF_L hw
    simp only [m_FaultFinder_ask_13, m_FaultFinder_ask_13b]
    rw [if_pos (by rw [I_le (by omega) (by omega) (by omega) (by omega)]; omega)]
    exact Ok_some ⟨a, rfl, by omega, by omega⟩
  | k + 1, n, l, a, f1, f2, f3, e, hn, l0, l1, a0, a1 => by
    obtain ⟨m, rfl⟩ : ∃ m, n = m + 1 := ⟨n - 1, by omega⟩
    have hL2 := WF_L hw
    simp only [m_FaultFinder_ask_13, m_FaultFinder_ask_13b, m_FaultFinder_ask_45]
    rw [if_neg (by rw [I_le (by omega) (by omega) (by omega) (by omega)]; omega)]
    have e1 : I l + 1 = I (l + 1) := by rw [L_1, I_add]
    rw [e1]
    refine Ok_bd (c_breaksWith hw C hF hL hX l0 (by omega) r0 r1 j0 j1) (fun u hu => ?_)
    refine Ok_ite (fun _ => ?_) (fun _ => ?_)
    · refine Ok_mono (c_ask13 hw C hF hL hX r0 r1 j0 j1 k m (l + 1) a f1 f2 f3 (by omega) (by omega) (by omega) (by omega) a0 (by omega)) ?_
      rintro u ⟨b, h1, h2, h3⟩; exact ⟨b, h1, h2, by omega⟩
    · refine Ok_bd (c_addFault a0 (by omega)) ?_
      rintro ⟨b9, g1, g2, g3⟩ hb
      simp only at hb ⊢
      subst hb
      refine Ok_mono (c_ask13 hw C hF hL hX r0 r1 j0 j1 k m (l + 1) (a + 1) g1 g2 g3 (by omega) (by omega) (by omega) (by omega) (by omega) (by omega)) ?_
      rintro u ⟨b, h1, h2, h3⟩; exact ⟨b, h1, by omega, by omega⟩
theorem c_ask (hw : WF S) (C : CS S nu on gi) (hF : 2000 ≤ F) (hL : 0 < S.L) (hX : TR S X v) {hi fh : Int32} {r j a : Int} {f1 f2 f3 : Nat → Int32} (r0 : 0 ≤ r) (r1 : r < 11) (j0 : 0 ≤ j) (j1 : j < S.N) (a0 : 0 ≤ a) (a1 : a ≤ 40000) : Ok (m_FaultFinder_ask F (I S.N) X (I S.L) (I S.K) (B S.ab) nu gi hi fh (I a) f1 f2 f3 (I r) (I j)) (fun u => ∃ b, u.1 = I b ∧ a ≤ b ∧ b ≤ a + 3) := by
  have hL2 := WF_L hw
  have k54 : Ok (m_FaultFinder_ask_54 F (I S.N) X (I S.L) (I S.K) (B S.ab) nu gi hi fh (I a) f1 f2 f3 (I r) (I j)) (fun u => ∃ b, u.1 = I b ∧ a ≤ b ∧ b ≤ a + 3) := by
    unfold m_FaultFinder_ask_54
    refine Ok_bd (c_breaksAlone hw C hF hL hX j0 j1) (fun u hu => ?_)
    refine Ok_ite (fun _ => Ok_some ⟨a, rfl, by omega, by omega⟩) (fun _ => ?_)
    refine Ok_bd (c_addFault a0 (by omega)) ?_
    rintro ⟨b9, g1, g2, g3⟩ hb
    exact Ok_some ⟨a + 1, hb, by omega, by omega⟩
  unfold m_FaultFinder_ask
  refine Ok_ite (fun _ => k54) (fun _ => Ok_ite (fun _ => k54) (fun _ => ?_))
  rw [L_0]
  refine Ok_mono (c_ask13 hw C hF hL hX r0 r1 j0 j1 _ F 0 a f1 f2 f3 rfl (by omega) (by omega) (by omega) a0 (by omega)) ?_
  rintro u ⟨b, h1, h2, h3⟩; exact ⟨b, h1, h2, by omega⟩
theorem c_ex22 (hw : WF S) (C : CS S nu on gi) (hF : 2000 ≤ F) (hL : 0 < S.L) (hX : TR S X v) {hi fh : Int32} {j : Int} (j0 : 0 ≤ j) (j1 : j < S.N) {k12 : Int32 → Int32 → Int32 → (Nat → Int32) → (Nat → Int32) → (Nat → Int32) → Int32 → Option (Int32 × Int32 × Int32 × Int32 × (Nat → Int32) × (Nat → Int32) × (Nat → Int32))} {Q : Int32 × Int32 × Int32 × Int32 × (Nat → Int32) × (Nat → Int32) × (Nat → Int32) → Prop} (hk : ∀ a f1 f2 f3, 0 ≤ a → a ≤ 33 * (j + 1) → Ok (k12 (I a) hi fh f1 f2 f3 (I (j + 1))) Q) : ∀ (k n : Nat) (r a : Int) (f1 f2 f3 : Nat → Int32), (11 - r).toNat = k → k < n → 0 ≤ r → r ≤ 11 → 0 ≤ a → a ≤ 33 * j + 3 * r → Ok (m_FaultFinder_examine_22 F (I S.N) X (I S.L) (I S.K) (B S.ab) nu on gi k12 n (I a) hi fh f1 f2 f3 (I j) (I r)) Q
  | 0, n, r, a, f1, f2, f3, e, hn, r0, r1, a0, a1 => by
    obtain ⟨m, rfl⟩ : ∃ m, n = m + 1 := ⟨n - 1, by omega⟩
    simp only [m_FaultFinder_examine_22, m_FaultFinder_examine_22b]
    rw [if_pos (by rw [show (11 : Int32) = I 11 from rfl, I_le (by omega) (by omega) (by omega) (by omega)]; omega), L_1, I_add]
    exact hk a f1 f2 f3 a0 (by omega)
  | k + 1, n, r, a, f1, f2, f3, e, hn, r0, r1, a0, a1 => by
    obtain ⟨m, rfl⟩ : ∃ m, n = m + 1 := ⟨n - 1, by omega⟩
    have hN := WF_N hw
    have e1 : I r + 1 = I (r + 1) := by rw [L_1, I_add]
    simp only [m_FaultFinder_examine_22, m_FaultFinder_examine_22b, m_FaultFinder_examine_47]
    rw [if_neg (by rw [show (11 : Int32) = I 11 from rfl, I_le (by omega) (by omega) (by omega) (by omega)]; omega), gd_I (by omega) (by omega) (by omega), e1]
    refine Ok_ite (fun _ => ?_) (fun _ => ?_)
    · exact c_ex22 hw C hF hL hX j0 j1 hk k m (r + 1) a f1 f2 f3 (by omega) (by omega) (by omega) (by omega) a0 (by omega)
    · refine Ok_bd (c_ask hw C hF hL hX r0 (by omega) j0 j1 a0 (by omega)) ?_
      rintro ⟨b9, g1, g2, g3⟩ ⟨b, h1, h2, h3⟩
      simp only at h1 ⊢
      subst h1
      exact c_ex22 hw C hF hL hX j0 j1 hk k m (r + 1) b g1 g2 g3 (by omega) (by omega) (by omega) (by omega) (by omega) (by omega)
theorem c_ex12 (hw : WF S) (C : CS S nu on gi) (hF : 2000 ≤ F) (hL : 0 < S.L) (hX : TR S X v) {hi fh : Int32} : ∀ (k n : Nat) (j a : Int) (f1 f2 f3 : Nat → Int32), (S.N - j).toNat = k → k < n → 0 ≤ j → j ≤ S.N → 0 ≤ a → a ≤ 33 * j → Ok (m_FaultFinder_examine_12 F (I S.N) X (I S.L) (I S.K) (B S.ab) nu on gi n (I a) hi fh f1 f2 f3 (I j)) (fun _ => True)
  | 0, n, j, a, f1, f2, f3, e, hn, j0, j1, a0, a1 => by
    obtain ⟨m, rfl⟩ : ∃ m, n = m + 1 := ⟨n - 1, by omega⟩
    have hN := WF_N hw
    simp only [m_FaultFinder_examine_12, m_FaultFinder_examine_12b]
    rw [if_pos (by rw [I_le (by omega) (by omega) (by omega) (by omega)]; omega)]
    exact Ok_some trivial
  | k + 1, n, j, a, f1, f2, f3, e, hn, j0, j1, a0, a1 => by
    obtain ⟨m, rfl⟩ : ∃ m, n = m + 1 := ⟨n - 1, by omega⟩
    have hN := WF_N hw
    simp only [m_FaultFinder_examine_12, m_FaultFinder_examine_12b]
    rw [if_neg (by rw [I_le (by omega) (by omega) (by omega) (by omega)]; omega), L_0]
    refine c_ex22 hw C hF hL hX j0 (by omega) (fun b g1 g2 g3 b0 b1 => ?_) _ F 0 a f1 f2 f3 rfl (by omega) (by omega) (by omega) a0 (by omega)
    exact c_ex12 hw C hF hL hX k m (j + 1) b g1 g2 g3 (by omega) (by omega) (by omega) (by omega) b0 b1
theorem c_high (hw : WF S) (C : CS S nu on gi) (hF : 2000 ≤ F) (hL : 0 < S.L) (hX : TR S X v) : ∀ (k n : Nat) (j : Int) (hi fh : Int32), (S.N - j).toNat = k → k < n → 0 ≤ j → j ≤ S.N → Ok (m_FaultFinder_findHighest_12 F (I S.N) X n hi fh (I j)) (fun _ => True)
  | 0, n, j, hi, fh, e, hn, j0, j1 => by
    obtain ⟨m, rfl⟩ : ∃ m, n = m + 1 := ⟨n - 1, by omega⟩
    have hN := WF_N hw
    simp only [m_FaultFinder_findHighest_12, m_FaultFinder_findHighest_12b]
    rw [if_pos (by rw [I_le (by omega) (by omega) (by omega) (by omega)]; omega)]
    exact Ok_some trivial
  | k + 1, n, j, hi, fh, e, hn, j0, j1 => by
    obtain ⟨m, rfl⟩ : ∃ m, n = m + 1 := ⟨n - 1, by omega⟩
    have hN := WF_N hw
    have e1 : I j + 1 = I (j + 1) := by rw [L_1, I_add]
    simp only [m_FaultFinder_findHighest_12, m_FaultFinder_findHighest_12b, m_FaultFinder_findHighest_48]
    rw [if_neg (by rw [I_le (by omega) (by omega) (by omega) (by omega)]; omega), gd_I (by omega) (by omega) (by omega), gd_I (by omega) (by omega) (by omega), e1]
    exact Ok_ite (fun _ => c_high hw C hF hL hX k m (j + 1) _ _ (by omega) (by omega) (by omega) (by omega)) (fun _ => c_high hw C hF hL hX k m (j + 1) _ _ (by omega) (by omega) (by omega) (by omega))
theorem c_examine (hw : WF S) (C : CS S nu on gi) (hF : 2000 ≤ F) (hL : 0 < S.L) (hX : TR S X v) (a hi fh : Int32) (f1 f2 f3 : Nat → Int32) : Ok (m_FaultFinder_examine F (I S.N) X (I S.L) (I S.K) (B S.ab) nu on gi a hi fh f1 f2 f3) (fun _ => True) := by
  have hN := WF_N hw; have hN2 := WF_N2 hw hL
  unfold m_FaultFinder_examine m_FaultFinder_findHighest
  rw [L_0]
  refine Ok_bd (c_high hw C hF hL hX _ F 0 _ _ rfl (by omega) (by omega) (by omega)) (fun u _ => ?_)
  exact c_ex12 hw C hF hL hX _ F 0 0 f1 f2 f3 rfl (by omega) (by omega) (by omega) (by omega) (by omega)
end
