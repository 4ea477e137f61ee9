/-! pure part: the class's spread, its first layer and all -/
def cfs (t : Int) (q : Nat) : Int := (q : Int) + q * 8 + q * 64 + (if (q : Int) = t then 1 else 0) * 512
def Su.l0 (S : Su) (t : Int) : Nat → List Int
  | 0 => []
  | k + 1 => if S.nbad 0 (S.P k) then S.l0 t k else S.l0 t k ++ [cfs t k]
def Su.kk (S : Su) (t : Int) : Nat := if t < S.c then (t + 1).toNat else S.c
theorem l0_mem {S : Su} {t : Int} : ∀ (k : Nat) (x : Int), x ∈ S.l0 t k ↔ ∃ q, q < k ∧ S.nbad 0 (S.P q) = false ∧ x = cfs t q
  | 0, x => by
    constructor
    · intro h; cases h
    · rintro ⟨q, h, _⟩; omega
  | k + 1, x => by
    have ih := l0_mem (S := S) (t := t) k x
    show x ∈ (if S.nbad 0 (S.P k) then S.l0 t k else S.l0 t k ++ [cfs t k]) ↔ _
    cases hb : S.nbad 0 (S.P k) with
    | true =>
      simp only [if_true]
      rw [ih]
      constructor
      · rintro ⟨q, h1, h2, h3⟩; exact ⟨q, by omega, h2, h3⟩
      · rintro ⟨q, h1, h2, h3⟩
        refine ⟨q, ?_, h2, h3⟩
        by_cases e : q = k
        · subst e; rw [hb] at h2; cases h2
        · omega
    | false =>
      simp only [Bool.false_eq_true, if_false]
      rw [List.mem_append, List.mem_singleton, ih]
      constructor
      · rintro (⟨q, h1, h2, h3⟩ | h)
        · exact ⟨q, by omega, h2, h3⟩
        · exact ⟨k, by omega, hb, h⟩
      · rintro ⟨q, h1, h2, h3⟩
        by_cases e : q = k
        · subst e; exact Or.inr h3
        · exact Or.inl ⟨q, by omega, h2, h3⟩
theorem dec4 {a b c d : Int} (a0 : 0 ≤ a) (a1 : a < 8) (b0 : 0 ≤ b) (b1 : b < 8) (c0 : 0 ≤ c) (c1 : c < 8) (d0 : 0 ≤ d) (d1 : d ≤ 1) : (a + b * 8 + c * 64 + d * 512) % 8 = a ∧ (a + b * 8 + c * 64 + d * 512) / 8 % 8 = b ∧ (a + b * 8 + c * 64 + d * 512) / 64 % 8 = c ∧ (a + b * 8 + c * 64 + d * 512) / 512 % 2 = d ∧ (a + b * 8 + c * 64 + d * 512) / 1024 = 0 := by
  refine ⟨by omega, by omega, by omega, by omega, by omega⟩
theorem cfs_good {S : Su} (hc : S.c ≤ 8) {t : Int} {q : Nat} (hq : q < S.c) : good S (cfs t q) := by
  have hU : 0 ≤ (if (q : Int) = t then (1 : Int) else 0) ∧ (if (q : Int) = t then (1 : Int) else 0) ≤ 1 := by split <;> omega
  unfold cfs
  generalize (if (q : Int) = t then (1 : Int) else 0) = U at *
  have q0 : 0 ≤ (q : Int) ∧ (q : Int) < S.c := by omega
  obtain ⟨d1, d2, d3, _, _⟩ := dec4 (a := q) (b := q) (c := q) (d := U) (by omega) (by omega) (by omega) (by omega) (by omega) (by omega) (by omega) (by omega)
  exact ⟨⟨by omega, by omega⟩, ⟨by rw [d1]; omega, by rw [d2]; omega, by rw [d3]; omega⟩, fun _ => by rw [d1, d2]⟩
theorem cfs_mod {t : Int} {q : Nat} (hq : q < 8) : cfs t q % 8 = q := by unfold cfs; split <;> omega
theorem l0_fresh {S : Su} {t : Int} {k : Nat} (hk : k < 8) : cfs t k ∉ S.l0 t k := by
  intro h
  obtain ⟨q, h1, _, h3⟩ := (l0_mem k _).mp h
  have a := cfs_mod (t := t) hk; have b := cfs_mod (t := t) (by omega : q < 8)
  rw [h3] at a; omega
/-- what spread leaves: f layers with states, each made of the one before it -/
def SP (S : Su) (t : Int) (cl : Bool) (LL : Nat → List Int) (f : Nat) (ls sz : Nat → Int32) : Prop := (f : Int) ≤ S.N ∧ LL 0 = S.l0 t (S.kk t) ∧ (∀ i, i < f → LL i ≠ []) ∧ ((f : Int) < S.N → LL f = []) ∧ (∀ i, i ≤ f → (i : Int) < S.N → Lay ls sz i (LL i) ∧ GL S (LL i)) ∧ (∀ i, i + 1 ≤ f → ((i + 1 : Nat) : Int) < S.N → StepL S t cl (i + 1) (LL i) (LL (i + 1)))
section
variable {S : Su} {np mp vp mt bc bt ps sp : Nat → Int32} {F : Nat} {t : Int} {cl : Bool}
theorem c_sp72 (hw : WF S) (hp : PT S np mp vp mt bc bt ps sp) (hF : 2000 ≤ F) (hc : S.c ≤ 8) (t0 : 0 ≤ t) (t1 : t ≤ 8) {mk0 : Int} (hm9 : 0 ≤ mk0 ∧ mk0 < 1000000000) : ∀ (r n j : Nat) (mk : Int) (ls sz ma : Nat → Int32) (LL : Nat → List Int) (lm : List Int), (S.N - j).toNat = r → r < n → 1 ≤ j → (j : Int) ≤ S.N → mk0 ≤ mk → mk ≤ mk0 + j → MK mk ma lm → LL 0 = S.l0 t (S.kk t) → (∀ i, i < j → LL i ≠ [] ∧ Lay ls sz i (LL i) ∧ GL S (LL i)) → (∀ i, i + 1 < j → StepL S t cl (i + 1) (LL i) (LL (i + 1))) → Ok (m_Search_spread_72 F (I S.c) (I S.N) (I S.K) (I S.mal) np mp vp mt bc bt ps sp (I t) (B cl) n (I mk) ls sz ma (I j) (I j)) (fun u => ∃ LL f mk' lm', u.1 = I (f : Nat) ∧ SP S t cl LL f u.2.2.1 u.2.2.2.1 ∧ u.2.1 = I mk' ∧ mk0 ≤ mk' ∧ mk' ≤ mk0 + 46 ∧ MK mk' u.2.2.2.2 lm')
  | 0, n, j, mv, ls, sz, ma, LL, lm, e, hn, j0, j1, k0, k1, hm, h0, h1, h2 => by
    obtain ⟨k, rfl⟩ : ∃ k, n = k + 1 := ⟨n - 1, by omega⟩
    have hN := WF_N hw
    simp only [m_Search_spread_72, m_Search_spread_72b]
    simp (disch := omega) only [gd_I, nz_I, bd_S, gb_B, nar_B, I_add, I_sub, I_mul, I_neg, I_div, I_nat, I_lt, I_le, I_eq, B_0, B_1, L_0, L_1, L_2, L_3, L_4, L_5, L_6, L_7, L_8, L_9, L_10, L_11, L_12, L_13, L_14, L_15, L_16, L_17, L_24, L_31, L_45, L_80, L_127, L_200, L_640, L_1280, L_1000000000, T_0, T_1, T_2, T_3, T_4, T_5, T_6, T_7, T_8, T_9, T_10, T_11, T_12, T_13, T_14, T_15, T_16, T_17]
    rw [if_pos (by omega)]
    refine Ok_some ⟨LL, j, mv, lm, rfl, ⟨j1, h0, fun i hi => (h1 i hi).1, fun h => by omega, fun i hi hi2 => (h1 i (by omega)).2, fun i hi hi2 => h2 i (by omega)⟩, rfl, k0, by omega, hm⟩
  | r + 1, n, j, mv, ls, sz, ma, LL, lm, e, hn, j0, j1, k0, k1, hm, h0, h1, h2 => by
    obtain ⟨k, rfl⟩ : ∃ k, n = k + 1 := ⟨n - 1, by omega⟩
    have hN := WF_N hw
    have hp1 := h1 (j - 1) (by omega)
    simp only [m_Search_spread_72, m_Search_spread_72b]
    rw [if_neg (by rw [I_le (by omega) (by omega) (by omega) (by omega)]; omega), if_pos trivial]
    refine Ok_bd (c_extendTo hw hp hF hc t0 t1 j0 (by omega) (by omega) (by omega) hp1.2.1 hp1.2.2 hm) ?_
    rintro ⟨mk2, ls2, sz2, ma2⟩ ⟨l', u1, u2, u3, u4, u5, u6, u7⟩
    simp only at u1 u2 u3 u4 u5 u6 u7 ⊢
    subst u1
    have len := GL_len hc u3
    have ej : I (j : Int) + 1 = I ((j + 1 : Nat) : Int) := by rw [L_1, I_add]; congr 1
    have esz : sz2 (I (j : Int)).toNatClampNeg = I l'.length := by rw [I_nat (by omega) (by omega), Int.toNat_natCast]; exact u2.1
    rw [gd_I (by omega) (by omega) (by omega), esz]
    have LL2 : ∀ i, i < j → (fun i => if i = j then l' else LL i) i = LL i := fun i hi => by simp only; rw [if_neg (by omega)]
    have LLj : (fun i => if i = j then l' else LL i) j = l' := by simp
    have lay2 : ∀ i, i < j → Lay ls2 sz2 i (LL i) := by
      intro i hi
      obtain ⟨_, ⟨a1, a2⟩, a3⟩ := h1 i hi
      have := GL_len hc a3
      refine ⟨by rw [u7 i (by omega)]; exact a1, fun q hq => ?_⟩
      have : i * 1280 + q < j * 1280 := by
        have : (i + 1) * 1280 ≤ j * 1280 := Nat.mul_le_mul_right _ (by omega)
        omega
      rw [u6 _ this]; exact a2 q hq
    have st2 : ∀ i, i + 1 < j + 1 → StepL S t cl (i + 1) ((fun i => if i = j then l' else LL i) i) ((fun i => if i = j then l' else LL i) (i + 1)) := by
      intro i hi
      by_cases e2 : i + 1 = j
      · subst e2
        rw [LLj, LL2 i (by omega)]
        exact u5
      · rw [LL2 i (by omega), LL2 (i + 1) (by omega)]
        exact h2 i (by omega)
    generalize (fun i => if i = j then l' else LL i) = M at LL2 LLj st2
    refine Ok_ite (fun hz => ?_) (fun hz => ?_)
    · rw [L_0, I_le (by omega) (by omega) (by omega) (by omega)] at hz
      have hnil : l' = [] := List.eq_nil_of_length_eq_zero (by omega)
      unfold m_Search_spread_105
      rw [ej]
      have hexit : m_Search_spread_72 F (I S.c) (I S.N) (I S.K) (I S.mal) np mp vp mt bc bt ps sp (I t) (B cl) k (I (mv + 1)) ls2 sz2 ma2 (I j) (I ((j + 1 : Nat) : Int)) = some (I j, I (mv + 1), ls2, sz2, ma2) := by
        obtain ⟨k2, rfl⟩ : ∃ k2, k = k2 + 1 := ⟨k - 1, by omega⟩
        simp only [m_Search_spread_72, m_Search_spread_72b]
        by_cases e3 : S.N ≤ ((j + 1 : Nat) : Int)
        · rw [if_pos (by rw [I_le (by omega) (by omega) (by omega) (by omega)]; exact e3)]
        · rw [if_neg (by rw [I_le (by omega) (by omega) (by omega) (by omega)]; exact e3), if_neg (by rw [I_eq (by omega) (by omega) (by omega) (by omega)]; omega)]
      rw [hexit]
      refine Ok_some ⟨M, j, mv + 1, l', rfl, ⟨j1, by rw [LL2 0 (by omega)]; exact h0, fun i hi => by rw [LL2 i hi]; exact (h1 i hi).1, fun _ => by rw [LLj]; exact hnil, fun i hi hi2 => ?_, fun i hi hi2 => st2 i (by omega)⟩, rfl, by omega, by omega, u4⟩
      by_cases e2 : i = j
      · subst e2; rw [LLj]; exact ⟨u2, u3⟩
      · rw [LL2 i (by omega)]; exact ⟨lay2 i (by omega), (h1 i (by omega)).2.2⟩
    · rw [L_0, I_le (by omega) (by omega) (by omega) (by omega)] at hz
      have hne : l' ≠ [] := by intro e2; rw [e2] at hz; exact hz (Int.le_refl 0)
      unfold m_Search_spread_105
      rw [ej]
      refine c_sp72 hw hp hF hc t0 t1 hm9 r k (j + 1) (mv + 1) ls2 sz2 ma2 M l' (by omega) (by omega) (by omega) (by omega) (by omega) (by omega) u4 (by rw [LL2 0 (by omega)]; exact h0) (fun i hi => ?_) st2
      by_cases e2 : i = j
      · subst e2; rw [LLj]; exact ⟨hne, u2, u3⟩
      · rw [LL2 i (by omega)]; exact ⟨(h1 i (by omega)).1, lay2 i (by omega), (h1 i (by omega)).2.2⟩
theorem c_sp55 (hw : WF S) (hp : PT S np mp vp mt bc bt ps sp) (hF : 2000 ≤ F) (hc : S.c ≤ 8) (t0 : 0 ≤ t) (t1 : t ≤ 8) {mk : Int} {ls sz ma : Nat → Int32} (hN2 : 2 ≤ S.N) (hm9 : 0 ≤ mk ∧ mk < 1000000000) (hl : Lay ls sz 0 (S.l0 t (S.kk t))) (hg : GL S (S.l0 t (S.kk t))) (hm : MK mk ma (S.l0 t (S.kk t))) : Ok (m_Search_spread_55 F (I S.c) (I S.N) (I S.K) (I S.mal) np mp vp mt bc bt ps sp (I t) (B cl) (I mk) ls sz ma) (fun u => ∃ LL f mk' lm', u.1 = I (f : Nat) ∧ SP S t cl LL f u.2.2.1 u.2.2.2.1 ∧ u.2.1 = I mk' ∧ mk ≤ mk' ∧ mk' ≤ mk + 46 ∧ MK mk' u.2.2.2.2 lm') := by
  have hN := WF_N hw
  have len := GL_len hc hg
  have esz : sz (Int32.toNatClampNeg 0) = I (S.l0 t (S.kk t)).length := hl.1
  unfold m_Search_spread_55 m_Search_spread_69
  rw [esz]
  refine Ok_ite (fun hz => ?_) (fun hz => ?_)
  · rw [L_0, I_le (by omega) (by omega) (by omega) (by omega)] at hz
    have hnil : S.l0 t (S.kk t) = [] := List.eq_nil_of_length_eq_zero (by omega)
    obtain ⟨k2, hk2⟩ : ∃ k2, F = k2 + 1 := ⟨F - 1, by omega⟩
    rw [show m_Search_spread_72 F (I S.c) (I S.N) (I S.K) (I S.mal) np mp vp mt bc bt ps sp (I t) (B cl) F (I mk) ls sz ma 0 1 = m_Search_spread_72 F (I S.c) (I S.N) (I S.K) (I S.mal) np mp vp mt bc bt ps sp (I t) (B cl) (k2 + 1) (I mk) ls sz ma (I 0) (I 1) from by rw [← hk2]; rfl]
    simp only [m_Search_spread_72, m_Search_spread_72b]
    rw [if_neg (by rw [I_le (by omega) (by omega) (by omega) (by omega)]; omega), if_neg (by decide)]
    refine Ok_some ⟨fun _ => S.l0 t (S.kk t), 0, mk, _, rfl, ⟨by omega, rfl, fun i hi => absurd hi (Nat.not_lt_zero i), fun _ => hnil, fun i hi hi2 => ?_, fun i hi => by omega⟩, rfl, by omega, by omega, hm⟩
    have : i = 0 := by omega
    subst this; exact ⟨hl, hg⟩
  · rw [L_0, I_le (by omega) (by omega) (by omega) (by omega)] at hz
    have hne : S.l0 t (S.kk t) ≠ [] := by intro e2; rw [e2] at hz; exact hz (Int.le_refl 0)
    rw [show m_Search_spread_72 F (I S.c) (I S.N) (I S.K) (I S.mal) np mp vp mt bc bt ps sp (I t) (B cl) F (I mk) ls sz ma 1 1 = m_Search_spread_72 F (I S.c) (I S.N) (I S.K) (I S.mal) np mp vp mt bc bt ps sp (I t) (B cl) F (I mk) ls sz ma (I ((1 : Nat) : Int)) (I ((1 : Nat) : Int)) from rfl]
    refine c_sp72 hw hp hF hc t0 t1 hm9 _ F 1 mk ls sz ma (fun _ => S.l0 t (S.kk t)) _ rfl (by omega) (by omega) (by omega) (by omega) (by omega) hm rfl (fun i hi => ?_) (fun i hi => by omega)
    have : i = 0 := by omega
    subst this; exact ⟨hne, hl, hg⟩
theorem kk_r (hc : S.c ≤ 8) (t0 : 0 ≤ t) : S.kk t ≤ S.c ∧ (∀ i : Nat, i < S.kk t ↔ (i < S.c ∧ (i : Int) ≤ t)) := by
  unfold Su.kk
  split
  · exact ⟨by omega, fun i => by omega⟩
  · exact ⟨by omega, fun i => by omega⟩
theorem c_sp7 (hw : WF S) (hp : PT S np mp vp mt bc bt ps sp) (hF : 2000 ≤ F) (hc : S.c ≤ 8) (t0 : 0 ≤ t) (t1 : t ≤ 8) {mk : Int} (hN2 : 2 ≤ S.N) (hm9 : 0 ≤ mk ∧ mk < 1000000000) : ∀ (r n i : Nat) (ls sz ma : Nat → Int32), S.kk t - i = r → r < n → i ≤ S.kk t → Lay ls sz 0 (S.l0 t i) → GL S (S.l0 t i) → MK mk ma (S.l0 t i) → Ok (m_Search_spread_7 F (I S.c) (I S.N) (I S.K) (I S.mal) np mp vp mt bc bt ps sp (I t) (B cl) n (I mk) ls sz ma (I i)) (fun u => ∃ LL f mk' lm', u.1 = I (f : Nat) ∧ SP S t cl LL f u.2.2.1 u.2.2.2.1 ∧ u.2.1 = I mk' ∧ mk ≤ mk' ∧ mk' ≤ mk + 46 ∧ MK mk' u.2.2.2.2 lm')
  | 0, n, i, ls, sz, ma, e, hn, hi, hl, hg, hm => by
    obtain ⟨k, rfl⟩ : ∃ k, n = k + 1 := ⟨n - 1, by omega⟩
    obtain ⟨q1, q2⟩ := kk_r (S := S) hc t0
    have ei : i = S.kk t := by omega
    have nk : ¬ (i < S.c ∧ (i : Int) ≤ t) := by rw [← q2 i]; omega
    subst ei
    simp only [m_Search_spread_7, m_Search_spread_7b]
    have f := c_sp55 hw hp hF hc t0 t1 (cl := cl) hN2 hm9 hl hg hm
    simp (disch := omega) only [gd_I, nz_I, bd_S, gb_B, nar_B, I_add, I_sub, I_mul, I_neg, I_div, I_nat, I_lt, I_le, I_eq, B_0, B_1, L_0, L_1, L_2, L_3, L_4, L_5, L_6, L_7, L_8, L_9, L_10, L_11, L_12, L_13, L_14, L_15, L_16, L_17, L_24, L_31, L_45, L_80, L_127, L_200, L_640, L_1280, L_1000000000, T_0, T_1, T_2, T_3, T_4, T_5, T_6, T_7, T_8, T_9, T_10, T_11, T_12, T_13, T_14, T_15, T_16, T_17]
    refine Ok_ite (fun _ => f) (fun h1 => ?_)
    rw [if_pos (by omega)]
    exact f
  | r + 1, n, i, ls, sz, ma, e, hn, hi, hl, hg, hm => by
    obtain ⟨k, rfl⟩ : ∃ k, n = k + 1 := ⟨n - 1, by omega⟩
    obtain ⟨q1, q2⟩ := kk_r (S := S) hc t0
    have hik := (q2 i).mp (by omega)
    have np0 := (hp.1 0 i (by omega) (by omega) (by omega) (by omega) (by omega)).1
    have z0 : (0 * 8 + (i : Int)) = (i : Int) := by omega
    rw [z0] at np0
    have nr := ncost_r hw 0 (S.P i)
    have nv : -1 ≤ S.npv 0 i ∧ S.npv 0 i ≤ 3000 := by unfold Su.npv; split <;> omega
    have ei : (i : Int) + 1 = ((i + 1 : Nat) : Int) := by omega
    simp only [m_Search_spread_7, m_Search_spread_7b, m_Search_spread_49]
    have fe := c_first (t := t) (q := i) t0 t1 (by omega) (by omega)
    simp (disch := omega) only [gd_I, nz_I, bd_S, gb_B, nar_B, I_add, I_sub, I_mul, I_neg, I_div, I_nat, I_lt, I_le, I_eq, B_0, B_1, L_0, L_1, L_2, L_3, L_4, L_5, L_6, L_7, L_8, L_9, L_10, L_11, L_12, L_13, L_14, L_15, L_16, L_17, L_24, L_31, L_45, L_80, L_127, L_200, L_640, L_1280, L_1000000000, T_0, T_1, T_2, T_3, T_4, T_5, T_6, T_7, T_8, T_9, T_10, T_11, T_12, T_13, T_14, T_15, T_16, T_17, np0, fe, ei]
    rw [if_neg (by omega), if_neg (by omega)]
    cases hb : S.nbad 0 (S.P i) with
    | true =>
      have : S.npv 0 i = -1 := by unfold Su.npv; rw [if_pos hb]
      rw [if_pos this]
      have el : S.l0 t (i + 1) = S.l0 t i := by
        show (if S.nbad 0 (S.P i) then S.l0 t i else S.l0 t i ++ [cfs t i]) = _
        rw [hb]; rfl
      rw [← el] at hl hg hm
      exact c_sp7 hw hp hF hc t0 t1 hN2 hm9 r k (i + 1) ls sz ma (by omega) (by omega) (by omega) hl hg hm
    | false =>
      have : S.npv 0 i = S.ncost 0 (S.P i) := by unfold Su.npv; rw [hb]; rfl
      rw [if_neg (by omega)]
      have el : S.l0 t (i + 1) = ins (S.l0 t i) (cfs t i) := by
        show (if S.nbad 0 (S.P i) then S.l0 t i else S.l0 t i ++ [cfs t i]) = _
        unfold ins
        rw [hb, if_neg (l0_fresh (by omega))]; rfl
      have gf := cfs_good (S := S) hc (t := t) hik.1
      have en := c_enter hc (x := cfs t i) (j := 0) (by omega) hm9.1 (by omega) hl hm hg gf
      refine Ok_bd (f := _) en ?_
      rintro ⟨ls2, sz2, ma2⟩ ⟨u1, u2, _, _⟩
      simp only at u1 u2 ⊢
      have gi := GL_ins hg gf
      rw [← el] at u1 u2 gi
      exact c_sp7 hw hp hF hc t0 t1 hN2 hm9 r k (i + 1) ls2 sz2 ma2 (by omega) (by omega) (by omega) u1 gi u2
theorem c_spread (hw : WF S) (hp : PT S np mp vp mt bc bt ps sp) (hF : 2000 ≤ F) (hc : S.c ≤ 8) (t0 : 0 ≤ t) (t1 : t ≤ 8) {mk : Int} {ls sz ma : Nat → Int32} {lm : List Int} (hN2 : 2 ≤ S.N) (hm9 : 0 ≤ mk ∧ mk < 900000000) (hm : MK mk ma lm) : Ok (m_Search_spread F (I S.c) (I S.N) (I S.K) (I S.mal) np mp vp mt bc bt ps sp (I t) (B cl) (I mk) ls sz ma) (fun u => ∃ LL f mk' lm', u.1 = I (f : Nat) ∧ SP S t cl LL f u.2.2.1 u.2.2.2.1 ∧ u.2.1 = I mk' ∧ mk ≤ mk' ∧ mk' ≤ mk + 47 ∧ MK mk' u.2.2.2.2 lm') := by
  have q1 := (kk_r (S := S) (t := t) hc t0).1
  unfold m_Search_spread
  have cb := c_begin (mk := mk) (sz := sz) (j := 0) (by omega)
  have e0 : (0 : Int32) = I ((0 : Nat) : Int) := rfl
  rw [e0, cb, bd_S]
  simp only
  refine Ok_mono (c_sp7 hw hp hF hc t0 t1 hN2 (by omega) _ F 0 ls (upd sz 0 (I 0)) ma rfl (by omega) (by omega) ⟨upd_at _ _ _, fun i hi => absurd hi (Nat.not_lt_zero i)⟩ ⟨List.nodup_nil, fun x hx => by cases hx⟩ (MK_begin hm)) ?_
  rintro u ⟨LL, f, mk', lm', u1, u2, u3, u4, u5, u6⟩
  exact ⟨LL, f, mk', lm', u1, u2, u3, by omega, by omega, u6⟩
end
