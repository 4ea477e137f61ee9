/-! pure part: the reference's work -/
def g0 : GG := (none, 0, 0, fun _ => 0)
def Su.mg (S : Su) (m : Int) (g : GG) : GG := mergeG (S.last + 1) g (S.R m) (S.ln m (S.R m).2.2.2)
def Su.GA (S : Su) : Nat → GG
  | 0 => g0
  | k + 1 => S.mg k (S.GA k)
def Su.tot (S : Su) : GG := if S.on 10 then S.GA S.c else S.mg (-1) g0
/-- what work holds of what is found -/
def WG (S : Su) (g : GG) (wc : Int32) (am at9 : Int64) (wi : Nat → Int32) : Prop := wc = I (cI g.1) ∧ am = g.2.1 ∧ (g.1 = none → at9 = 0) ∧ (g.1 ≠ none → at9 = g.2.2.1) ∧ (∀ x, g.1 = some x → (0 ≤ x ∧ x ≤ 9500000) ∧ ∀ i, i ≤ S.last → g.2.2.2 i < S.c ∧ wi i = I (S.P (g.2.2.2 i)))
section
variable {S : Su} {nu on gi pi : Nat → Int32} {F : Nat}
theorem r_w146 (hw : WF S) (C : RS S nu on gi) (hF : 2000 ≤ F) (hL : 0 < S.L) (hp : PP S pi) (hc : S.c ≤ 8) {Q : Int32 × Int64 × Int64 × Int32 × Int64 × Int64 × (Nat → Int32) × (Nat → Int64) × (Nat → Int64) × (Nat → Int32) × (Nat → Int32) → Prop} {k32 : Int32 → Int64 → Int64 → Int32 → Int64 → Int64 → (Nat → Int32) → (Nat → Int64) → (Nat → Int64) → (Nat → Int32) → (Nat → Int32) → Int32 → Option (Int32 × Int64 × Int64 × Int32 × Int64 × Int64 × (Nat → Int32) × (Nat → Int64) × (Nat → Int64) × (Nat → Int32) × (Nat → Int32))} {lo wc : Int32} {ma ti am at9 : Int64} {le ln : Nat → Int32} {al be : Nat → Int64} {x1 : Int32} (hk : ∀ wi : Nat → Int32, (∀ i, i ≤ S.last → wi i = ln i) → Ok (k32 lo ma ti lo am at9 le al be ln wi (x1 + 1)) Q) : ∀ (r n j : Nat) (wi : Nat → Int32), S.last + 1 - j = r → r < n → j ≤ S.last + 1 → (∀ i, i < j → wi i = ln i) → Ok (m_SpeciesSolverModel_work_146 F (I S.L) (I S.n) (I S.K) (B S.ab) (I S.c) gi on nu pi k32 n lo ma ti wc am at9 le al be ln wi x1 (I j)) Q
  | 0, n, j, wi, e, hn, hj, ht => by
    obtain ⟨k, rfl⟩ : ∃ k, n = k + 1 := ⟨n - 1, by omega⟩
    have hN := WF_N hw; have hN2 := WF_N2 hw hL
    have hl2 : (S.last : Int) = S.N - 1 := by unfold Su.last; omega
    simp only [m_SpeciesSolverModel_work_146, m_SpeciesSolverModel_work_146b, m_SpeciesSolverModel_work_172, m_SpeciesSolverModel_work_180]
    rw [r_size hw, bd_S, if_pos (by rw [I_le (by omega) (by omega) (by omega) (by omega)]; omega)]
    exact hk wi (fun i hi => ht i (by omega))
  | r + 1, n, j, wi, e, hn, hj, ht => by
    obtain ⟨k, rfl⟩ : ∃ k, n = k + 1 := ⟨n - 1, by omega⟩
    have hN := WF_N hw; have hN2 := WF_N2 hw hL
    have hl2 : (S.last : Int) = S.N - 1 := by unfold Su.last; omega
    have ej : ((j + 1 : Nat) : Int) = (j : Int) + 1 := by omega
    have ih := r_w146 (wc := wc) hw C hF hL hp hc hk r k (j + 1) (upd wi j (ln j)) (by omega) (by omega) (by omega) (fun i hi => by
      by_cases e2 : i = j
      · subst e2; exact upd_at _ _ _
      · rw [upd_ne _ _ e2]; exact ht i (by omega))
    rw [ej] at ih
    simp only [m_SpeciesSolverModel_work_146, m_SpeciesSolverModel_work_146b]
    simp (disch := omega) only [gd_I, nz_I, bd_S, gb_B, nar_B, I_add, I_sub, I_mul, I_neg, I_div, I_nat, I_lt, I_le, I_eq, B_0, B_1, L_0, L_1, L_2, L_3, L_4, L_5, L_6, L_7, L_8, L_9, L_10, L_11, L_12, L_13, L_14, L_15, L_16, L_17, L_24, L_31, L_45, L_80, L_127, L_200, L_640, L_1280, L_1000000000, T_0, T_1, T_2, T_3, T_4, T_5, T_6, T_7, T_8, T_9, T_10, T_11, T_12, T_13, T_14, T_15, T_16, T_17, r_size hw, Int.toNat_natCast]
    rw [if_neg (by omega)]
    exact ih
theorem r_w93 (hw : WF S) (C : RS S nu on gi) (hF : 2000 ≤ F) (hL : 0 < S.L) (hp : PP S pi) (hc : S.c ≤ 8) {Q : Int32 × Int64 × Int64 × Int32 × Int64 × Int64 × (Nat → Int32) × (Nat → Int64) × (Nat → Int64) × (Nat → Int32) × (Nat → Int32) → Prop} {k32 : Int32 → Int64 → Int64 → Int32 → Int64 → Int64 → (Nat → Int32) → (Nat → Int64) → (Nat → Int64) → (Nat → Int32) → (Nat → Int32) → Int32 → Option (Int32 × Int64 × Int64 × Int32 × Int64 × Int64 × (Nat → Int32) × (Nat → Int64) × (Nat → Int64) × (Nat → Int32) × (Nat → Int32))} {g : GG} {wc : Int32} {am at9 : Int64} {le ln wi : Nat → Int32} {al be : Nat → Int64} {m : Int} {x1 : Int32} (m0 : -2 ≤ m) (m1 : m < 8) (hg : WG S g wc am at9 wi) (hln : (S.R m).1 ≠ none → ∀ i, i ≤ S.last → ln i = I (S.P (S.ln m (S.R m).2.2.2 i))) (hk : ∀ wc am at9 wi, WG S (S.mg m g) wc am at9 wi → Ok (k32 (I (cI (S.R m).1)) (S.R m).2.1 (S.R m).2.2.1 wc am at9 le al be ln wi (x1 + 1)) Q) : Ok (if wc ≤ I (cI (S.R m).1) then m_SpeciesSolverModel_work_93 F (I S.L) (I S.n) (I S.K) (B S.ab) (I S.c) gi on nu pi k32 (I (cI (S.R m).1)) (S.R m).2.1 (S.R m).2.2.1 wc (am + (S.R m).2.1) at9 le al be ln wi x1 else m_SpeciesSolverModel_work_93 F (I S.L) (I S.n) (I S.K) (B S.ab) (I S.c) gi on nu pi k32 (I (cI (S.R m).1)) (S.R m).2.1 (S.R m).2.2.1 wc (am + (S.R m).2.1) 0 le al be ln wi x1) Q := by
  obtain ⟨g1, g2, g3, g4, g5⟩ := hg
  obtain ⟨gc, ga, gt, gl⟩ := g
  simp only at g1 g2 g3 g4 g5
  subst g1; subst g2
  have rng := cI_r (fun x hx => rb_range (k := S.c) hw (m := m) hx)
  have rng2 := cI_r (fun x hx => (g5 x hx).1)
  have eR9 : foldW (S.rb m) S.c = S.R m := rfl
  rw [eR9] at rng
  have keep : ∀ at9 : Int64, (gc = none → at9 = 0) → (gc ≠ none → at9 = gt) → (S.mg m (gc, am, gt, gl) = (gc, am + (S.R m).2.1, gt, gl)) → Ok (k32 (I (cI (S.R m).1)) (S.R m).2.1 (S.R m).2.2.1 (I (cI gc)) (am + (S.R m).2.1) at9 le al be ln wi (x1 + 1)) Q := by
    intro at9 h1 h2 e
    refine hk _ _ _ _ ?_
    rw [e]
    exact ⟨rfl, rfl, h1, h2, g5⟩
  have e180 : ∀ (a b c : Int64) (d : Int32), m_SpeciesSolverModel_work_180 F (I S.L) (I S.n) (I S.K) (B S.ab) (I S.c) gi on nu pi k32 (I (cI (S.R m).1)) (S.R m).2.1 (S.R m).2.2.1 d a b le al be ln wi x1 = k32 (I (cI (S.R m).1)) (S.R m).2.1 (S.R m).2.2.1 d a b le al be ln wi (x1 + 1) := fun _ _ _ _ => rfl
  have w144 : ∀ (at9 : Int64), (∀ wi : Nat → Int32, (∀ i, i ≤ S.last → wi i = ln i) → Ok (k32 (I (cI (S.R m).1)) (S.R m).2.1 (S.R m).2.2.1 (I (cI (S.R m).1)) (am + (S.R m).2.1) at9 le al be ln wi (x1 + 1)) Q) → Ok (m_SpeciesSolverModel_work_144 F (I S.L) (I S.n) (I S.K) (B S.ab) (I S.c) gi on nu pi k32 (I (cI (S.R m).1)) (S.R m).2.1 (S.R m).2.2.1 (I (cI gc)) (am + (S.R m).2.1) at9 le al be ln wi x1) Q := by
    intro at9 h9
    unfold m_SpeciesSolverModel_work_144
    exact r_w146 hw C hF hL hp hc h9 _ F 0 wi rfl (by have := last45 hw; omega) (by omega) (fun i hi => absurd hi (Nat.not_lt_zero i))
  unfold m_SpeciesSolverModel_work_93
  cases eR : (S.R m).1 with
  | none =>
    have em : S.mg m (gc, am, gt, gl) = (gc, am + (S.R m).2.1, gt, gl) := by unfold Su.mg mergeG; rw [eR]
    rw [eR] at keep rng e180
    have ei : cI (none : Option Int) = 1000000000 := rfl
    rw [ei] at keep rng e180 ⊢
    simp (disch := omega) only [gd_I, nz_I, bd_S, gb_B, nar_B, I_add, I_sub, I_mul, I_neg, I_div, I_nat, I_lt, I_le, I_eq, B_0, B_1, L_0, L_1, L_2, L_3, L_4, L_5, L_6, L_7, L_8, L_9, L_10, L_11, L_12, L_13, L_14, L_15, L_16, L_17, L_24, L_31, L_45, L_80, L_127, L_200, L_640, L_1280, L_1000000000, T_0, T_1, T_2, T_3, T_4, T_5, T_6, T_7, T_8, T_9, T_10, T_11, T_12, T_13, T_14, T_15, T_16, T_17]
    rw [if_pos (by omega)]
    refine Ok_ite (fun e1 => keep at9 g3 g4 em) (fun e1 => ?_)
    simp only [Int.le_refl, if_true]
    exact keep at9 g3 g4 em
  | some lo =>
    have lr := rb_range hw (k := S.c) eR
    obtain ⟨q1, q2, _, q3⟩ := ln_r hw C hF hL hp hc m0 m1 eR
    have hl := hln (by rw [eR]; intro e; cases e)
    have ei : cI (some lo) = lo := rfl
    rw [eR, ei] at keep rng e180 w144
    rw [ei]
    rw [eR, ei] at hk
    have new : ∀ at9 : Int64, at9 = (S.mg m (gc, am, gt, gl)).2.2.1 → (S.mg m (gc, am, gt, gl)).1 = some lo → (S.mg m (gc, am, gt, gl)).2.1 = am + (S.R m).2.1 → (S.mg m (gc, am, gt, gl)).2.2.2 = S.ln m (S.R m).2.2.2 → ∀ wi : Nat → Int32, (∀ i, i ≤ S.last → wi i = ln i) → Ok (k32 (I lo) (S.R m).2.1 (S.R m).2.2.1 (I lo) (am + (S.R m).2.1) at9 le al be ln wi (x1 + 1)) Q := by
      intro at9 h1 h2 h3 h4 wi hwi
      refine hk _ _ _ _ ⟨by rw [h2, ei], h3.symm, fun e => (by rw [h2] at e; cases e), fun _ => h1, fun x hx => ?_⟩
      rw [h2] at hx; injection hx with hx
      refine ⟨by omega, fun i hi => ?_⟩
      rw [h4]
      exact ⟨(q3 i hi).2, by rw [hwi i hi, hl i hi]⟩
    cases gc with
    | none =>
      have ec : cI (none : Option Int) = 1000000000 := rfl
      rw [ec] at rng2 w144 ⊢
      simp (disch := omega) only [gd_I, nz_I, bd_S, gb_B, nar_B, I_add, I_sub, I_mul, I_neg, I_div, I_nat, I_lt, I_le, I_eq, B_0, B_1, L_0, L_1, L_2, L_3, L_4, L_5, L_6, L_7, L_8, L_9, L_10, L_11, L_12, L_13, L_14, L_15, L_16, L_17, L_24, L_31, L_45, L_80, L_127, L_200, L_640, L_1280, L_1000000000, T_0, T_1, T_2, T_3, T_4, T_5, T_6, T_7, T_8, T_9, T_10, T_11, T_12, T_13, T_14, T_15, T_16, T_17]
      rw [if_neg (by omega), if_neg (by omega), if_neg (by omega), if_pos (by omega)]
      have em : S.mg m (none, am, gt, gl) = (some lo, am + (S.R m).2.1, (S.R m).2.2.1, S.ln m (S.R m).2.2.2) := by unfold Su.mg mergeG; rw [eR]
      refine w144 _ (new _ ?_ ?_ ?_ ?_)
      · rw [em, Int64.zero_add]
      · rw [em]
      · rw [em]
      · rw [em]
    | some y =>
      have yr := (g5 y rfl).1
      have ec : cI (some y) = y := rfl
      rw [ec] at rng2 w144 keep ⊢
      have ga : at9 = gt := g4 (fun e => by cases e)
      simp (disch := omega) only [gd_I, nz_I, bd_S, gb_B, nar_B, I_add, I_sub, I_mul, I_neg, I_div, I_nat, I_lt, I_le, I_eq, B_0, B_1, L_0, L_1, L_2, L_3, L_4, L_5, L_6, L_7, L_8, L_9, L_10, L_11, L_12, L_13, L_14, L_15, L_16, L_17, L_24, L_31, L_45, L_80, L_127, L_200, L_640, L_1280, L_1000000000, T_0, T_1, T_2, T_3, T_4, T_5, T_6, T_7, T_8, T_9, T_10, T_11, T_12, T_13, T_14, T_15, T_16, T_17]
      by_cases l1 : lo < y
      · rw [if_neg (by omega), if_neg (by omega), if_neg (by omega), if_pos (by omega)]
        have em : S.mg m (some y, am, gt, gl) = (some lo, am + (S.R m).2.1, (S.R m).2.2.1, S.ln m (S.R m).2.2.2) := by unfold Su.mg mergeG; rw [eR]; simp only; rw [if_pos l1]
        refine w144 _ (new _ ?_ ?_ ?_ ?_)
        · rw [em, Int64.zero_add]
        · rw [em]
        · rw [em]
        · rw [em]
      · rw [if_pos (by omega)]
        by_cases l2 : lo = y
        · rw [if_neg (by omega), if_neg (by omega), if_neg (by omega)]
          have em : S.mg m (some y, am, gt, gl) = (some y, am + (S.R m).2.1, gt + (S.R m).2.2.1, if lex (S.ln m (S.R m).2.2.2) gl (S.last + 1) 0 then S.ln m (S.R m).2.2.2 else gl) := by unfold Su.mg mergeG; rw [eR]; simp only; rw [if_neg l1, if_pos l2]
          have lw := r_isLower hw C hF hL hp hc (a := S.ln m (S.R m).2.2.2) (b := gl) (ln := ln) (wi := wi) (fun i hi => ⟨(q3 i hi).2, hl i hi⟩) (fun i hi => (g5 y rfl).2 i hi) _ F 0 rfl (by have := last45 hw; omega) (by omega)
          have lw2 : m_SpeciesSolverModel_isLower F (I S.n) (I S.K) ln wi = some (B (lex (S.ln m (S.R m).2.2.2) gl (S.last + 1) 0)) := lw
          rw [lw2, bd_S]
          simp only [B_0]
          cases hx : lex (S.ln m (S.R m).2.2.2) gl (S.last + 1) 0 with
          | false =>
            simp only [if_true]
            rw [hx] at em
            show Ok (k32 (I lo) (S.R m).2.1 (S.R m).2.2.1 (I lo) (am + (S.R m).2.1) (at9 + (S.R m).2.2.1) le al be ln wi (x1 + 1)) Q
            refine hk _ _ _ _ ?_
            rw [em, ga, l2]
            exact ⟨rfl, rfl, fun e => (by cases e), fun _ => rfl, fun x hx2 => g5 x hx2⟩
          | true =>
            simp only [Bool.true_eq_false, if_false]
            rw [hx] at em
            refine w144 _ (new _ ?_ ?_ ?_ ?_)
            · rw [em, ga]
            · rw [em, l2]
            · rw [em]
            · rw [em]; rfl
        · rw [if_pos (by omega)]
          have em : S.mg m (some y, am, gt, gl) = (some y, am + (S.R m).2.1, gt, gl) := by unfold Su.mg mergeG; rw [eR]; simp only; rw [if_neg l1, if_neg l2]
          exact keep at9 g3 g4 em
theorem r_w51 (hw : WF S) (C : RS S nu on gi) (hF : 2000 ≤ F) (hL : 0 < S.L) (hp : PP S pi) (hc : S.c ≤ 8) {Q : Int32 × Int64 × Int64 × Int32 × Int64 × Int64 × (Nat → Int32) × (Nat → Int64) × (Nat → Int64) × (Nat → Int32) × (Nat → Int32) → Prop} {k32 : Int32 → Int64 → Int64 → Int32 → Int64 → Int64 → (Nat → Int32) → (Nat → Int64) → (Nat → Int64) → (Nat → Int32) → (Nat → Int32) → Int32 → Option (Int32 × Int64 × Int64 × Int32 × Int64 × Int64 × (Nat → Int32) × (Nat → Int64) × (Nat → Int64) × (Nat → Int32) × (Nat → Int32))} {g : GG} {lo wc : Int32} {ma ti am at9 : Int64} {le ln wi : Nat → Int32} {al be : Nat → Int64} {m t1 : Int} (m0 : -2 ≤ m) (m1 : m < 8) (t0 : m < t1) (t9 : t1 < 100) (hg : WG S g wc am at9 wi) (hk : ∀ lo ma ti wc am at9 le al be ln wi, WG S (S.mg m g) wc am at9 wi → Ok (k32 lo ma ti wc am at9 le al be ln wi (I (m + 1))) Q) : Ok (m_SpeciesSolverModel_work_51 F (I S.L) (I S.n) (I S.K) (B S.ab) (I S.c) gi on nu pi k32 lo ma ti wc am at9 le al be ln wi (I m) (I m) (I t1)) Q := by
  unfold m_SpeciesSolverModel_work_51
  rw [if_neg (by rw [I_le (by omega) (by omega) (by omega) (by omega)]; omega)]
  refine Ok_bd (r_fill hw C hF hL hp hc m0 m1 le al be) ?_
  rintro ⟨le2, al2, be2⟩ hd
  refine Ok_bd (r_readOff hw C hF hL hp hc m0 m1 hd ln lo ma ti) ?_
  rintro ⟨a, b, c, d⟩ ⟨u1, u2, u3, u4⟩
  simp only at u1 u2 u3 u4 ⊢
  subst u1; subst u2; subst u3
  refine r_w93 hw C hF hL hp hc m0 m1 hg u4 (fun wc am at9 wi h9 => ?_)
  have e : I m + 1 = I (m + 1) := by rw [L_1, I_add]
  rw [e]
  exact hk _ _ _ _ _ _ _ _ _ _ _ h9
theorem r_w32 (hw : WF S) (C : RS S nu on gi) (hF : 2000 ≤ F) (hL : 0 < S.L) (hp : PP S pi) (hc : S.c ≤ 8) (h10 : S.on 10 = true) : ∀ (r n k : Nat) (lo wc : Int32) (ma ti am at9 : Int64) (le ln wi : Nat → Int32) (al be : Nat → Int64), S.c - k = r → r < n → k ≤ S.c → WG S (S.GA k) wc am at9 wi → Ok (m_SpeciesSolverModel_work_32 F (I S.L) (I S.n) (I S.K) (B S.ab) (I S.c) gi on nu pi n lo ma ti wc am at9 le al be ln wi (I k)) (fun u : Int32 × Int64 × Int64 × Int32 × Int64 × Int64 × (Nat → Int32) × (Nat → Int64) × (Nat → Int64) × (Nat → Int32) × (Nat → Int32) => WG S S.tot u.2.2.2.1 u.2.2.2.2.1 u.2.2.2.2.2.1 u.2.2.2.2.2.2.2.2.2.2)
  | 0, n, k, lo, wc, ma, ti, am, at9, le, ln, wi, al, be, e, hn, hk, hg => by
    obtain ⟨j, rfl⟩ : ∃ j, n = j + 1 := ⟨n - 1, by omega⟩
    have ek : k = S.c := by omega
    subst ek
    have et : S.tot = S.GA S.c := by unfold Su.tot; rw [if_pos h10]
    simp only [m_SpeciesSolverModel_work_32, m_SpeciesSolverModel_work_32b, m_SpeciesSolverModel_work_51]
    simp (disch := omega) only [gd_I, nz_I, bd_S, gb_B, nar_B, I_add, I_sub, I_mul, I_neg, I_div, I_nat, I_lt, I_le, I_eq, B_0, B_1, L_0, L_1, L_2, L_3, L_4, L_5, L_6, L_7, L_8, L_9, L_10, L_11, L_12, L_13, L_14, L_15, L_16, L_17, L_24, L_31, L_45, L_80, L_127, L_200, L_640, L_1280, L_1000000000, T_0, T_1, T_2, T_3, T_4, T_5, T_6, T_7, T_8, T_9, T_10, T_11, T_12, T_13, T_14, T_15, T_16, T_17, RS_on C, h10]
    simp only [Bool.true_eq_false, if_false, Int.le_refl, if_true]
    refine Ok_some ?_
    rw [et]; exact hg
  | r + 1, n, k, lo, wc, ma, ti, am, at9, le, ln, wi, al, be, e, hn, hk, hg => by
    obtain ⟨j, rfl⟩ : ∃ j, n = j + 1 := ⟨n - 1, by omega⟩
    simp only [m_SpeciesSolverModel_work_32, m_SpeciesSolverModel_work_32b]
    simp (disch := omega) only [gd_I, nz_I, bd_S, gb_B, nar_B, I_add, I_sub, I_mul, I_neg, I_div, I_nat, I_lt, I_le, I_eq, B_0, B_1, L_0, L_1, L_2, L_3, L_4, L_5, L_6, L_7, L_8, L_9, L_10, L_11, L_12, L_13, L_14, L_15, L_16, L_17, L_24, L_31, L_45, L_80, L_127, L_200, L_640, L_1280, L_1000000000, T_0, T_1, T_2, T_3, T_4, T_5, T_6, T_7, T_8, T_9, T_10, T_11, T_12, T_13, T_14, T_15, T_16, T_17, RS_on C, h10]
    simp only [Bool.true_eq_false, if_false]
    refine r_w51 hw C hF hL hp hc (by omega) (by omega) (by omega) (by omega) hg (fun lo ma ti wc am at9 le al be ln wi h9 => ?_)
    have e1 : (k : Int) + 1 = ((k + 1 : Nat) : Int) := by omega
    rw [e1]
    exact r_w32 hw C hF hL hp hc h10 r j (k + 1) _ _ _ _ _ _ _ _ _ _ _ (by omega) (by omega) (by omega) h9
theorem r_w32n (hw : WF S) (C : RS S nu on gi) (hF : 2000 ≤ F) (hL : 0 < S.L) (hp : PP S pi) (hc : S.c ≤ 8) (h10 : S.on 10 = false) {lo wc : Int32} {ma ti am at9 : Int64} {le ln wi : Nat → Int32} {al be : Nat → Int64} (hg : WG S g0 wc am at9 wi) : Ok (m_SpeciesSolverModel_work_32 F (I S.L) (I S.n) (I S.K) (B S.ab) (I S.c) gi on nu pi F lo ma ti wc am at9 le al be ln wi (I (-1))) (fun u : Int32 × Int64 × Int64 × Int32 × Int64 × Int64 × (Nat → Int32) × (Nat → Int64) × (Nat → Int64) × (Nat → Int32) × (Nat → Int32) => WG S S.tot u.2.2.2.1 u.2.2.2.2.1 u.2.2.2.2.2.1 u.2.2.2.2.2.2.2.2.2.2) := by
  obtain ⟨j, hj⟩ : ∃ j, F = j + 2 := ⟨F - 2, by omega⟩
  rw [show m_SpeciesSolverModel_work_32 F (I S.L) (I S.n) (I S.K) (B S.ab) (I S.c) gi on nu pi F lo ma ti wc am at9 le al be ln wi (I (-1)) = m_SpeciesSolverModel_work_32 F (I S.L) (I S.n) (I S.K) (B S.ab) (I S.c) gi on nu pi (j + 2) lo ma ti wc am at9 le al be ln wi (I (-1)) from by rw [← hj]]
  have et : S.tot = S.mg (-1) g0 := by unfold Su.tot; rw [h10]; rfl
  simp only [m_SpeciesSolverModel_work_32]
  unfold m_SpeciesSolverModel_work_32b
  simp (disch := omega) only [gd_I, nz_I, bd_S, gb_B, nar_B, I_add, I_sub, I_mul, I_neg, I_div, I_nat, I_lt, I_le, I_eq, B_0, B_1, L_0, L_1, L_2, L_3, L_4, L_5, L_6, L_7, L_8, L_9, L_10, L_11, L_12, L_13, L_14, L_15, L_16, L_17, L_24, L_31, L_45, L_80, L_127, L_200, L_640, L_1280, L_1000000000, T_0, T_1, T_2, T_3, T_4, T_5, T_6, T_7, T_8, T_9, T_10, T_11, T_12, T_13, T_14, T_15, T_16, T_17, RS_on C, h10]
  simp only [if_true]
  refine r_w51 hw C hF hL hp hc (by omega) (by omega) (by omega) (by omega) hg (fun lo ma ti wc am at9 le al be ln wi h9 => ?_)
  unfold m_SpeciesSolverModel_work_51
  simp (disch := omega) only [gd_I, nz_I, bd_S, gb_B, nar_B, I_add, I_sub, I_mul, I_neg, I_div, I_nat, I_lt, I_le, I_eq, B_0, B_1, L_0, L_1, L_2, L_3, L_4, L_5, L_6, L_7, L_8, L_9, L_10, L_11, L_12, L_13, L_14, L_15, L_16, L_17, L_24, L_31, L_45, L_80, L_127, L_200, L_640, L_1280, L_1000000000, T_0, T_1, T_2, T_3, T_4, T_5, T_6, T_7, T_8, T_9, T_10, T_11, T_12, T_13, T_14, T_15, T_16, T_17]
  rw [if_pos (by omega)]
  refine Ok_some ?_
  rw [et]; exact h9
/-- the reference's search finds what the spec says -/
theorem r_work (hw : WF S) (C : RS S nu on gi) (hF : 2000 ≤ F) (hL : 0 < S.L) (hp : PP S pi) (hc : S.c ≤ 8) (lo wc : Int32) (ma ti am at9 : Int64) (le ln wi : Nat → Int32) (al be : Nat → Int64) : Ok (m_SpeciesSolverModel_work F (I S.L) (I S.n) (I S.K) (B S.ab) (I S.c) gi on nu pi lo ma ti wc am at9 le al be ln wi) (fun u : Int32 × Int64 × Int64 × Int32 × Int64 × Int64 × (Nat → Int32) × (Nat → Int64) × (Nat → Int64) × (Nat → Int32) × (Nat → Int32) => WG S S.tot u.2.2.2.1 u.2.2.2.2.1 u.2.2.2.2.2.1 u.2.2.2.2.2.2.2.2.2.2) := by
  have hg : ∀ wi, WG S g0 (I 1000000000) 0 0 wi := fun wi => ⟨rfl, rfl, fun _ => rfl, fun e => absurd rfl e, fun x hx => by cases hx⟩
  unfold m_SpeciesSolverModel_work m_SpeciesSolverModel_work_31
  simp (disch := omega) only [gd_I, nz_I, bd_S, gb_B, nar_B, I_add, I_sub, I_mul, I_neg, I_div, I_nat, I_lt, I_le, I_eq, B_0, B_1, L_0, L_1, L_2, L_3, L_4, L_5, L_6, L_7, L_8, L_9, L_10, L_11, L_12, L_13, L_14, L_15, L_16, L_17, L_24, L_31, L_45, L_80, L_127, L_200, L_640, L_1280, L_1000000000, T_0, T_1, T_2, T_3, T_4, T_5, T_6, T_7, T_8, T_9, T_10, T_11, T_12, T_13, T_14, T_15, T_16, T_17, RS_on C]
  cases h10 : S.on 10 with
  | false =>
    simp only [if_true]
    exact r_w32n hw C hF hL hp hc h10 (hg wi)
  | true =>
    simp only [Bool.true_eq_false, if_false]
    exact r_w32 hw C hF hL hp hc h10 _ F 0 _ _ _ _ _ _ _ _ _ _ _ rfl (by omega) (by omega) (hg wi)
end
