/-! pure part: lines are given; what the setup becomes -/
def LN2 (a : Int32) (X : Nat → Int32) (b : Int32) (Y : Nat → Int32) : Prop := ∃ (d : Nat) (v : Nat → Int), d ≤ 45 ∧ a = I d ∧ b = I d ∧ ∀ i, i < d → (0 ≤ v i ∧ v i ≤ 127) ∧ X i = I (v i) ∧ Y i = I (v i)
def FI (bs : Int32) (bn : Nat → Int32) (bc bp bl fs : Int32) (fo : Nat → Int32) (fc fsp fn : Int32) : Prop := bc = fc ∧ ∃ (d : Nat) (v : Nat → Int), d ≤ 45 ∧ bs = I d ∧ fs = I d ∧ (∀ i, i < d → (0 ≤ v i ∧ v i ≤ 127) ∧ bn i = I (v i) ∧ fo i = I (v i)) ∧ (0 < d → ∃ K n : Int, (K = 1 ∨ K = 2 ∨ K = 4) ∧ (2 ≤ n ∧ n ≤ 12) ∧ (d : Int) = K * (n - 1) + 1 ∧ bp = I K ∧ fsp = I K ∧ bl = I n ∧ fn = I n)
theorem up2_at (f : Nat → Nat → Int32) (i j : Nat) (x : Int32) : upd2 f i j x i j = x := by unfold upd2; rw [if_pos rfl]; exact upd_at _ _ _
theorem up2_ne (f : Nat → Nat → Int32) (i : Nat) {j k : Nat} (x : Int32) (h : k ≠ j) : upd2 f i j x i k = f i k := by unfold upd2; rw [if_pos rfl]; exact upd_ne _ _ h
theorem up2_out (f : Nat → Nat → Int32) {i l : Nat} (j k : Nat) (x : Int32) (h : l ≠ i) : upd2 f i j x l k = f l k := by unfold upd2; rw [if_neg h]
/-- the setup with one line more -/
def Su.addL (S : Su) (v : Nat → Int) (e s : Int) : Su := (S.nu, S.on, (fun l k => if l = S.L then v (k * e).toNat else S.giv l k), S.L + 1, s, S.K, S.ab)
section
variable {F : Nat} {X : Nat → Int32} {v : Nat → Int} {d : Nat} {L e s : Int}
theorem c_addL (hX : ∀ i, i < d → X i = I (v i)) (hd : d ≤ 45) (L0 : 0 ≤ L) (L1 : L < 3) (e0 : e = 1 ∨ e = 2 ∨ e = 4) (s0 : 2 ≤ s) (s1 : s ≤ 12) (hs : (s - 1) * e < d) : ∀ (r n : Nat) (i : Int) (z : Int32) (gi : Nat → Nat → Int32), (s - i).toNat = r → r < n → 0 ≤ i → i ≤ s → (∀ k : Int, 0 ≤ k → k < i → gi L.toNat k.toNat = I (v (k * e).toNat)) → Ok (m_Setup_addLine_3 F (I d) X n (I L) z gi (I e) (I s) (I i)) (fun u => u.1 = I (L + 1) ∧ u.2.1 = I s ∧ (∀ k : Int, 0 ≤ k → k < s → u.2.2 L.toNat k.toNat = I (v (k * e).toNat)) ∧ (∀ l, l ≠ L.toNat → ∀ k, u.2.2 l k = gi l k))
  | 0, n, i, z, gi, er, hn, i0, i1, ht => by
    obtain ⟨m, rfl⟩ : ∃ m, n = m + 1 := ⟨n - 1, by omega⟩
    simp only [m_Setup_addLine_3, m_Setup_addLine_3b]
    rw [if_pos (by rw [I_le (by omega) (by omega) (by omega) (by omega)]; omega)]
    refine Ok_some ⟨by simp only; rw [L_1, I_add], rfl, fun k k0 k1 => ht k k0 (by omega), fun _ _ _ => rfl⟩
  | r + 1, n, i, z, gi, er, hn, i0, i1, ht => by
    obtain ⟨m, rfl⟩ : ∃ m, n = m + 1 := ⟨n - 1, by omega⟩
    have ie : 0 ≤ i * e ∧ i * e < d ∧ i * e < 45 := by rcases e0 with h | h | h <;> subst h <;> omega
    have xi := hX (i * e).toNat (by omega)
    have ea : m_Line_at (I d) X (I (i * e)) = some (I (v (i * e).toNat)) := by
      unfold m_Line_at
      simp (disch := omega) only [gd_I, nz_I, bd_S, gb_B, nar_B, I_add, I_sub, I_mul, I_neg, I_div, I_nat, I_lt, I_le, I_eq, B_0, B_1, L_0, L_1, L_2, L_3, L_4, L_5, L_6, L_7, L_8, L_9, L_10, L_11, L_12, L_13, L_14, L_15, L_16, L_17, L_24, L_31, L_45, L_80, L_127, L_200, L_640, L_1280, L_1000000000, T_0, T_1, T_2, T_3, T_4, T_5, T_6, T_7, T_8, T_9, T_10, T_11, T_12, T_13, T_14, T_15, T_16, T_17, xi]
      rw [if_neg (by omega), if_neg (by omega)]
    simp only [m_Setup_addLine_3, m_Setup_addLine_3b]
    rw [if_neg (by rw [I_le (by omega) (by omega) (by omega) (by omega)]; omega), gd_I (by omega) (by omega) (by omega), I_mul, ea, bd_S, gd_I (by omega) (by omega) (by omega), I_nat (by omega) (by omega), I_nat (by omega) (by omega), L_1, I_add]
    refine Ok_mono (c_addL hX hd L0 L1 e0 s0 s1 hs r m (i + 1) z _ (by omega) (by omega) (by omega) (by omega) (fun k k0 k1 => ?_)) ?_
    · by_cases e9 : k = i
      · subst e9; exact up2_at _ _ _ _
      · rw [up2_ne _ _ _ (by omega)]; exact ht k k0 (by omega)
    · rintro u ⟨u1, u2, u3, u4⟩
      refine ⟨u1, u2, u3, fun l hl k => ?_⟩
      rw [u4 l hl k, up2_out _ _ _ _ hl]
theorem r_giveL (hX : ∀ i, i < d → X i = I (v i)) (hd : d ≤ 45) (L0 : 0 ≤ L) (L1 : L < 3) (s0 : 2 ≤ s) (s1 : s ≤ 12) (hs : s ≤ d) (zd : Int32) : ∀ (r n : Nat) (i : Int) (gi : Nat → Int32), (s - i).toNat = r → r < n → 0 ≤ i → i ≤ s → (∀ k : Int, 0 ≤ k → k < i → gi (12 * L + k).toNat = I (v (k * 1).toNat)) → Ok (m_SpeciesSolverModel_give_55 F X n zd (I L) (I s) gi (I i)) (fun u => u.1 = I L ∧ u.2.1 = I 0 ∧ u.2.2.1 = I (L + 1) ∧ u.2.2.2.1 = I s ∧ (∀ k : Int, 0 ≤ k → k < s → u.2.2.2.2 (12 * L + k).toNat = I (v (k * 1).toNat)) ∧ (∀ l k : Int, 0 ≤ l → l ≠ L → 0 ≤ k → k < 12 → u.2.2.2.2 (12 * l + k).toNat = gi (12 * l + k).toNat))
  | 0, n, i, gi, er, hn, i0, i1, ht => by
    obtain ⟨m, rfl⟩ : ∃ m, n = m + 1 := ⟨n - 1, by omega⟩
    simp only [m_SpeciesSolverModel_give_55, m_SpeciesSolverModel_give_55b]
    rw [if_pos (by rw [I_le (by omega) (by omega) (by omega) (by omega)]; omega)]
    refine Ok_some ⟨?_, rfl, ?_, rfl, fun k k0 k1 => ht k k0 (by omega), fun _ _ _ _ _ _ => rfl⟩
    · simp only; rw [L_1, I_add, I_sub]; congr 1; omega
    · simp only; rw [L_1, I_add]
  | r + 1, n, i, gi, er, hn, i0, i1, ht => by
    obtain ⟨m, rfl⟩ : ∃ m, n = m + 1 := ⟨n - 1, by omega⟩
    have xi := hX i.toNat (by omega)
    simp only [m_SpeciesSolverModel_give_55, m_SpeciesSolverModel_give_55b]
    rw [if_neg (by rw [I_le (by omega) (by omega) (by omega) (by omega)]; omega), gd_I (by omega) (by omega) (by omega), show (12 : Int32) = I 12 from rfl, I_mul, I_add, gd_I (by omega) (by omega) (by omega), I_nat (by omega) (by omega), I_nat (by omega) (by omega), xi, L_1, I_add]
    refine Ok_mono (r_giveL hX hd L0 L1 s0 s1 hs zd r m (i + 1) _ (by omega) (by omega) (by omega) (by omega) (fun k k0 k1 => ?_)) ?_
    · by_cases e9 : k = i
      · subst e9; rw [upd_at]; congr 2; omega
      · rw [upd_ne _ _ (by omega)]; exact ht k k0 (by omega)
    · rintro u ⟨u1, u2, u3, u4, u5, u6⟩
      refine ⟨u1, u2, u3, u4, u5, fun l k l0 hl k0 k1 => ?_⟩
      rw [u6 l k l0 hl k0 k1, upd_ne _ _ (by omega)]
theorem r_keepL (hX : ∀ i, i < d → X i = I (v i)) (hd : d ≤ 45) (L0 : 0 ≤ L) (L1 : L < 3) (e0 : e = 1 ∨ e = 2 ∨ e = 4) (s0 : 2 ≤ s) (s1 : s ≤ 12) (hs : (s - 1) * e < d) (z1 z2 : Int32) : ∀ (r n : Nat) (i : Int) (gi : Nat → Int32), (s - i).toNat = r → r < n → 0 ≤ i → i ≤ s → (∀ k : Int, 0 ≤ k → k < i → gi (12 * L + k).toNat = I (v (k * e).toNat)) → Ok (m_SpeciesSolverModel_keep_38 F z1 (I e) (I s) X n (I L) z2 gi (I i)) (fun u => u.1 = I L ∧ u.2.1 = I (L + 1) ∧ u.2.2.1 = z2 ∧ (∀ k : Int, 0 ≤ k → k < s → u.2.2.2 (12 * L + k).toNat = I (v (k * e).toNat)) ∧ (∀ l k : Int, 0 ≤ l → l ≠ L → 0 ≤ k → k < 12 → u.2.2.2 (12 * l + k).toNat = gi (12 * l + k).toNat))
  | 0, n, i, gi, er, hn, i0, i1, ht => by
    obtain ⟨m, rfl⟩ : ∃ m, n = m + 1 := ⟨n - 1, by omega⟩
    simp only [m_SpeciesSolverModel_keep_38, m_SpeciesSolverModel_keep_38b]
    rw [if_pos (by rw [I_le (by omega) (by omega) (by omega) (by omega)]; omega)]
    refine Ok_some ⟨?_, ?_, rfl, fun k k0 k1 => ht k k0 (by omega), fun _ _ _ _ _ _ => rfl⟩
    · simp only; rw [L_1, I_add, I_sub]; congr 1; omega
    · simp only; rw [L_1, I_add]
  | r + 1, n, i, gi, er, hn, i0, i1, ht => by
    obtain ⟨m, rfl⟩ : ∃ m, n = m + 1 := ⟨n - 1, by omega⟩
    have ie : 0 ≤ i * e ∧ i * e < d ∧ i * e < 45 := by rcases e0 with h | h | h <;> subst h <;> omega
    have xi := hX (i * e).toNat (by omega)
    simp only [m_SpeciesSolverModel_keep_38, m_SpeciesSolverModel_keep_38b]
    rw [if_neg (by rw [I_le (by omega) (by omega) (by omega) (by omega)]; omega), I_mul, gd_I (by omega) (by omega) (by omega), show (12 : Int32) = I 12 from rfl, I_mul, I_add, gd_I (by omega) (by omega) (by omega), I_nat (by omega) (by omega), I_nat (by omega) (by omega), xi, L_1, I_add]
    refine Ok_mono (r_keepL hX hd L0 L1 e0 s0 s1 hs z1 z2 r m (i + 1) _ (by omega) (by omega) (by omega) (by omega) (fun k k0 k1 => ?_)) ?_
    · by_cases e9 : k = i
      · subst e9; exact upd_at _ _ _
      · rw [upd_ne _ _ (by omega)]; exact ht k k0 (by omega)
    · rintro u ⟨u1, u2, u3, u4, u5⟩
      refine ⟨u1, u2, u3, u4, fun l k l0 hl k0 k1 => ?_⟩
      rw [u5 l k l0 hl k0 k1, upd_ne _ _ (by omega)]
end
section
variable {S : Su} {v : Nat → Int} {d : Nat} {e s : Int}
theorem addL_WF (hw : WF S) (hv : ∀ i, i < d → 0 ≤ v i ∧ v i ≤ 127) (L1 : S.L < 3) (e0 : e = 1 ∨ e = 2 ∨ e = 4) (s0 : 2 ≤ s) (s1 : s ≤ 12) (hs : (s - 1) * e < d) (hn : 0 < S.L → s = S.n) : WF (S.addL v e s) := by
  obtain ⟨h1, h2, h3, h4, h5, h6, h7, h8, h9, h10, h11⟩ := hw
  refine ⟨⟨?_, ?_⟩, h2, ⟨?_, ?_⟩, fun _ => s0, h5, h6, h7, h8, h9, h10, fun l k l0 l1 k0 k1 => ?_⟩
  · show 0 ≤ S.L + 1; omega
  · show S.L + 1 ≤ 3; omega
  · show 0 ≤ s; omega
  · exact s1
  · have l1' : l < S.L + 1 := l1
    have k1' : k < s := k1
    show 0 ≤ (if l = S.L then v (k * e).toNat else S.giv l k) ∧ (if l = S.L then v (k * e).toNat else S.giv l k) ≤ 127
    by_cases e9 : l = S.L
    · rw [if_pos e9]
      have ke : 0 ≤ k * e ∧ k * e < d := by rcases e0 with h | h | h <;> subst h <;> omega
      exact hv _ (by omega)
    · rw [if_neg e9]
      have := hn (by omega)
      exact h11 l k l0 (by omega) k0 (by omega)
theorem addL_CS {nu on : Nat → Int32} {gi gi2 : Nat → Nat → Int32} (hw : WF S) (C : CS S nu on gi) (hn : 0 < S.L → s = S.n) (h1 : ∀ k : Int, 0 ≤ k → k < s → gi2 S.L.toNat k.toNat = I (v (k * e).toNat)) (h2 : ∀ l, l ≠ S.L.toNat → ∀ k, gi2 l k = gi l k) : CS (S.addL v e s) nu on gi2 := by
  have hL := WF_L hw
  refine ⟨C.1, C.2.1, fun l k l0 l1 k0 k1 => ?_⟩
  have l1' : l < S.L + 1 := l1
  have k1' : k < s := k1
  show gi2 l.toNat k.toNat = I (if l = S.L then v (k * e).toNat else S.giv l k)
  by_cases e9 : l = S.L
  · rw [if_pos e9, e9]; exact h1 k k0 k1'
  · rw [if_neg e9, h2 _ (by omega)]
    have := hn (by omega)
    exact C.2.2 l k l0 (by omega) k0 (by omega)
theorem addL_RS {nu on gi gi2 : Nat → Int32} (hw : WF S) (C : RS S nu on gi) (s1 : s ≤ 12) (hn : 0 < S.L → s = S.n) (h1 : ∀ k : Int, 0 ≤ k → k < s → gi2 (12 * S.L + k).toNat = I (v (k * e).toNat)) (h2 : ∀ l k : Int, 0 ≤ l → l ≠ S.L → 0 ≤ k → k < 12 → gi2 (12 * l + k).toNat = gi (12 * l + k).toNat) : RS (S.addL v e s) nu on gi2 := by
  have hL := WF_L hw
  refine ⟨C.1, C.2.1, fun l k l0 l1 k0 k1 => ?_⟩
  have l1' : l < S.L + 1 := l1
  have k1' : k < s := k1
  show gi2 (12 * l + k).toNat = I (if l = S.L then v (k * e).toNat else S.giv l k)
  by_cases e9 : l = S.L
  · rw [if_pos e9, e9]; exact h1 k k0 k1'
  · rw [if_neg e9, h2 l k l0 e9 k0 (by omega)]
    have := hn (by omega)
    exact C.2.2 l k l0 (by omega) k0 (by omega)
end
