/-! pure part: the reference's readOff -/
def rt0 (m : Int) (q : Nat) : RT := ((q : Int), 0, (q : Int), rused m 0 q)
def Su.rb (S : Su) (m : Int) (q : Nat) : Option (Int × V) := if decide (rused m 0 q < 2) && ! S.nbad 0 (S.P q) then some (S.ncost 0 (S.P q), S.rW m 0 (rt0 m q)) else none
def Su.R (S : Su) (m : Int) : V := foldW (S.rb m) S.c
def Su.ln (S : Su) (m : Int) (q i : Nat) : Nat := (S.rT m (rt0 m q) i).1.toNat
def fst (v : V) : Int := match v.1 with
  | none => -1
  | some _ => v.2.2.2
theorem rt0_valid {S : Su} {m : Int} {q : Nat} (hq : q < S.c) (hu : rused m 0 q < 2) : valid S 0 (rt0 m q) := by
  unfold rt0 valid
  refine ⟨⟨by simp only; omega, by simp only; omega⟩, ⟨by simp only; omega, by simp only; omega⟩, ⟨?_, by simp only; omega⟩, fun _ => rfl, fun e => absurd e (Nat.lt_irrefl 0), fun _ => rfl⟩
  simp only; unfold rused; (repeat' split) <;> omega
theorem rb_range {S : Su} (hw : WF S) {m : Int} {k : Nat} {x : Int} (h : (foldW (S.rb m) k).1 = some x) : 0 ≤ x ∧ x ≤ 9500000 := by
  obtain ⟨_, ⟨p, b, d, e1, e2, e3⟩, _, _⟩ := fold_min h
  generalize (foldW (S.rb m) k).2.2.2 = q0 at e1
  unfold Su.rb at e1
  split at e1
  · injection e1 with e1
    injection e1 with e4 e5
    have a := ncost_r hw 0 (S.P q0)
    rw [← e5] at e2
    have b := rW_range hw e2
    omega
  · cases e1
section
variable {S : Su} {nu on gi pi : Nat → Int32} {F : Nat}
theorem r_ro_it (hw : WF S) (C : RS S nu on gi) (hF : 2000 ≤ F) (hL : 0 < S.L) (hp : PP S pi) (hc : S.c ≤ 8) {k20 : Int32 → Int64 → Int64 → (Nat → Int32) → Int32 → Int32 → Int32 → Option (Int32 × Int64 × Int64 × (Nat → Int32))} {le ln : Nat → Int32} {al be : Nat → Int64} {m : Int} {q : Nat} (m0 : -2 ≤ m) (m1 : m < 8) (hq : q < S.c) (hd : Done S m le al be) : m_SpeciesSolverModel_readOff_20b F (I S.L) (I S.n) (I S.K) (B S.ab) (I S.c) gi on nu pi le al be k20 (I (cI (foldW (S.rb m) q).1)) (foldW (S.rb m) q).2.1 (foldW (S.rb m) q).2.2.1 ln (I m) (I (fst (foldW (S.rb m) q))) (I q) = k20 (I (cI (foldW (S.rb m) (q + 1)).1)) (foldW (S.rb m) (q + 1)).2.1 (foldW (S.rb m) (q + 1)).2.2.1 ln (I m) (I (fst (foldW (S.rb m) (q + 1)))) (I ((q + 1 : Nat) : Int)) := by
  have eq1 : ((q + 1 : Nat) : Int) = (q : Int) + 1 := by omega
  have pq := P_range hw (by omega : (0 : Int) ≤ q) (by omega : (q : Int) < S.c)
  have eq := hp _ (by omega : (0 : Int) ≤ q) (by omega : (q : Int) < S.c)
  have ru : -3 ≤ rused m 0 q ∧ rused m 0 q ≤ 3 := by unfold rused; (repeat' split) <;> omega
  have hmb := r_mayBegin hw C hF hL hp hc (by omega : (0 : Int) ≤ q) (by omega : (q : Int) < S.c)
  have rng := cI_r (fun x hx => rb_range (k := q) hw (m := m) hx)
  have e166 : ∀ (a b : Int64) (c f : Int32), m_SpeciesSolverModel_readOff_166 F (I S.L) (I S.n) (I S.K) (B S.ab) (I S.c) gi on nu pi le al be k20 c a b ln (I m) f (I q) = k20 c a b ln (I m) f (I ((q : Int) + 1)) := by
    intro a b c f
    unfold m_SpeciesSolverModel_readOff_166
    simp (disch := omega) only [gd_I, nz_I, bd_S, gb_B, nar_B, I_add, I_sub, I_mul, I_neg, I_div, I_nat, I_lt, I_le, I_eq, B_0, B_1, L_0, L_1, L_2, L_3, L_4, L_5, L_6, L_7, L_8, L_9, L_10, L_11, L_12, L_13, L_14, L_15, L_16, L_17, L_24, L_31, L_45, L_80, L_127, L_200, L_640, L_1280, L_1000000000, T_0, T_1, T_2, T_3, T_4, T_5, T_6, T_7, T_8, T_9, T_10, T_11, T_12, T_13, T_14, T_15, T_16, T_17]
  rw [eq1]
  unfold m_SpeciesSolverModel_readOff_20b
  simp (disch := omega) only [gd_I, nz_I, bd_S, gb_B, nar_B, I_add, I_sub, I_mul, I_neg, I_div, I_nat, I_lt, I_le, I_eq, B_0, B_1, L_0, L_1, L_2, L_3, L_4, L_5, L_6, L_7, L_8, L_9, L_10, L_11, L_12, L_13, L_14, L_15, L_16, L_17, L_24, L_31, L_45, L_80, L_127, L_200, L_640, L_1280, L_1000000000, T_0, T_1, T_2, T_3, T_4, T_5, T_6, T_7, T_8, T_9, T_10, T_11, T_12, T_13, T_14, T_15, T_16, T_17, r_usedBy, hmb]
  rw [if_neg (by omega)]
  by_cases hu : rused m 0 q < 2
  · rw [if_neg (by omega)]
    cases hb : S.nbad 0 (S.P q) with
    | true =>
      have hf : S.rb m q = none := by unfold Su.rb; rw [hb]; simp
      simp only [Bool.not_true, if_true]
      rw [fold_off hf, e166]
    | false =>
      have hf : S.rb m q = some (S.ncost 0 (S.P q), S.rW m 0 (rt0 m q)) := by unfold Su.rb; rw [hb]; simp [hu]
      have vn := rt0_valid (S := S) hq hu
      have rc := rcode_r hc vn
      obtain ⟨y1, y2, y3⟩ := hd.2 _ vn rc.2
      have p0 : par ((0 : Nat) : Int) = 0 := rfl
      have z0 : 1280 * ((0 : Nat) : Int) + rcode (rt0 m q) = rcode (rt0 m q) := by omega
      rw [z0] at y1
      rw [p0, Int.zero_add] at y2 y3
      have ecode : (((q : Int) * 10 + 0) * 8 + (q : Int)) * 2 + rused m 0 q = rcode (rt0 m q) := rfl
      have nr := ncost_r hw 0 (S.P q)
      simp only [Bool.not_false, Bool.true_eq_false, if_false]
      rw [r_state, ecode, bd_S, fold_some hf]
      cases eW : (S.rW m 0 (rt0 m q)).1 with
      | none =>
        have eV := rW_none eW
        rw [addW_none eW]
        rw [eV] at y1 y2 y3
        simp (disch := omega) only [gd_I, nz_I, bd_S, gb_B, nar_B, I_add, I_sub, I_mul, I_neg, I_div, I_nat, I_lt, I_le, I_eq, B_0, B_1, L_0, L_1, L_2, L_3, L_4, L_5, L_6, L_7, L_8, L_9, L_10, L_11, L_12, L_13, L_14, L_15, L_16, L_17, L_24, L_31, L_45, L_80, L_127, L_200, L_640, L_1280, L_1000000000, T_0, T_1, T_2, T_3, T_4, T_5, T_6, T_7, T_8, T_9, T_10, T_11, T_12, T_13, T_14, T_15, T_16, T_17, y1, y2, cI, V0, e166]
        rw [if_pos (by omega)]
        simp only [Int64.add_zero]
      | some d =>
        have wr := rW_range hw eW
        rw [eW] at y1
        have e3 : cI (some d) = d := rfl
        rw [e3] at y1
        have ecc : d + S.ncost 0 (S.P q) = S.ncost 0 (S.P q) + d := by omega
        simp (disch := omega) only [gd_I, nz_I, bd_S, gb_B, nar_B, I_add, I_sub, I_mul, I_neg, I_div, I_nat, I_lt, I_le, I_eq, B_0, B_1, L_0, L_1, L_2, L_3, L_4, L_5, L_6, L_7, L_8, L_9, L_10, L_11, L_12, L_13, L_14, L_15, L_16, L_17, L_24, L_31, L_45, L_80, L_127, L_200, L_640, L_1280, L_1000000000, T_0, T_1, T_2, T_3, T_4, T_5, T_6, T_7, T_8, T_9, T_10, T_11, T_12, T_13, T_14, T_15, T_16, T_17, y1, y2, y3, eq, e166, r_noteCost0 hw C hF, ecc]
        rw [if_neg (by omega)]
        cases eF : (foldW (S.rb m) q).1 with
        | none =>
          have ea : addW (foldW (S.rb m) q) q (S.ncost 0 (S.P q)) (S.rW m 0 (rt0 m q)) = (some (S.ncost 0 (S.P q) + d), (foldW (S.rb m) q).2.1 + (S.rW m 0 (rt0 m q)).2.1, (S.rW m 0 (rt0 m q)).2.2.1, q) := by unfold addW; rw [eW, eF]
          rw [ea]
          have ec : cI (none : Option Int) = 1000000000 := rfl
          have ec2 : cI (some (S.ncost 0 (S.P q) + d)) = S.ncost 0 (S.P q) + d := rfl
          simp only [ec2, fst]
          rw [ec, if_neg (by omega)]
        | some d0 =>
          have fr9 := rb_range hw eF
          have ec : cI (some d0) = d0 := rfl
          have ec2 : cI (some (S.ncost 0 (S.P q) + d)) = S.ncost 0 (S.P q) + d := rfl
          have ef : fst (foldW (S.rb m) q) = (foldW (S.rb m) q).2.2.2 := by unfold fst; rw [eF]
          simp only [ec, ef]
          by_cases l1 : S.ncost 0 (S.P q) + d < d0
          · have ea : addW (foldW (S.rb m) q) q (S.ncost 0 (S.P q)) (S.rW m 0 (rt0 m q)) = (some (S.ncost 0 (S.P q) + d), (foldW (S.rb m) q).2.1 + (S.rW m 0 (rt0 m q)).2.1, (S.rW m 0 (rt0 m q)).2.2.1, q) := by unfold addW; rw [eW, eF]; simp only; rw [if_pos l1]
            rw [ea]
            simp only [ec2, fst]
            rw [if_neg (by omega)]
          · by_cases l2 : S.ncost 0 (S.P q) + d = d0
            · have ea : addW (foldW (S.rb m) q) q (S.ncost 0 (S.P q)) (S.rW m 0 (rt0 m q)) = (some d0, (foldW (S.rb m) q).2.1 + (S.rW m 0 (rt0 m q)).2.1, (foldW (S.rb m) q).2.2.1 + (S.rW m 0 (rt0 m q)).2.2.1, (foldW (S.rb m) q).2.2.2) := by unfold addW; rw [eW, eF]; simp only; rw [if_neg l1, if_pos l2]
              rw [ea]
              simp only [ec, fst]
              rw [if_pos (by omega), if_pos l2]
            · have ea : addW (foldW (S.rb m) q) q (S.ncost 0 (S.P q)) (S.rW m 0 (rt0 m q)) = (some d0, (foldW (S.rb m) q).2.1 + (S.rW m 0 (rt0 m q)).2.1, (foldW (S.rb m) q).2.2.1, (foldW (S.rb m) q).2.2.2) := by unfold addW; rw [eW, eF]; simp only; rw [if_neg l1, if_neg l2]
              rw [ea]
              simp only [ec, fst]
              rw [if_pos (by omega), if_neg l2]
  · rw [if_pos (by omega)]
    have hf : S.rb m q = none := by unfold Su.rb; rw [decide_eq_false hu]; rfl
    rw [fold_off hf, e166]
theorem ln_r (hw : WF S) (C : RS S nu on gi) (hF : 2000 ≤ F) (hL : 0 < S.L) (hp : PP S pi) (hc : S.c ≤ 8) {m : Int} {x : Int} (m0 : -2 ≤ m) (m1 : m < 8) (hx : (S.R m).1 = some x) : (S.R m).2.2.2 < S.c ∧ rused m 0 (S.R m).2.2.2 < 2 ∧ (∃ y, (S.rW m 0 (rt0 m (S.R m).2.2.2)).1 = some y) ∧ (∀ i, i ≤ S.last → ((S.ln m (S.R m).2.2.2 i : Nat) : Int) = (S.rT m (rt0 m (S.R m).2.2.2) i).1 ∧ S.ln m (S.R m).2.2.2 i < S.c) := by
  unfold Su.R at hx ⊢
  obtain ⟨h1, ⟨p, b, d, e1, e2, e3⟩, _, _⟩ := fold_min hx
  generalize (foldW (S.rb m) S.c).2.2.2 = q0 at h1 e1 ⊢
  unfold Su.rb at e1
  split at e1
  · rename_i hh
    rw [Bool.and_eq_true] at hh
    have hu := of_decide_eq_true hh.1
    injection e1 with e1
    injection e1 with e4 e5
    rw [← e5] at e2
    refine ⟨h1, hu, ⟨d, e2⟩, fun i hi => ?_⟩
    have v := rT_valid hw hc (rt0_valid (S := S) h1 hu) e2 i hi
    obtain ⟨⟨a1, a2⟩, _⟩ := v
    unfold Su.ln
    omega
  · cases e1
theorem r_ro20 (hw : WF S) (C : RS S nu on gi) (hF : 2000 ≤ F) (hL : 0 < S.L) (hp : PP S pi) (hc : S.c ≤ 8) {le : Nat → Int32} {al be : Nat → Int64} {m : Int} (m0 : -2 ≤ m) (m1 : m < 8) (hd : Done S m le al be) (ln : Nat → Int32) : ∀ (r n q : Nat), S.c - q = r → r < n → q ≤ S.c → Ok (m_SpeciesSolverModel_readOff_20 F (I S.L) (I S.n) (I S.K) (B S.ab) (I S.c) gi on nu pi le al be n (I (cI (foldW (S.rb m) q).1)) (foldW (S.rb m) q).2.1 (foldW (S.rb m) q).2.2.1 ln (I m) (I (fst (foldW (S.rb m) q))) (I q)) (fun u => u.1 = I (cI (S.R m).1) ∧ u.2.1 = (S.R m).2.1 ∧ u.2.2.1 = (S.R m).2.2.1 ∧ ((S.R m).1 ≠ none → ∀ i, i ≤ S.last → u.2.2.2 i = I (S.P (S.ln m (S.R m).2.2.2 i))))
  | 0, n, q, e, hn, hq => by
    obtain ⟨k, rfl⟩ : ∃ k, n = k + 1 := ⟨n - 1, by omega⟩
    have eq : q = S.c := by omega
    subst eq
    show Ok (m_SpeciesSolverModel_readOff_20b F (I S.L) (I S.n) (I S.K) (B S.ab) (I S.c) gi on nu pi le al be (m_SpeciesSolverModel_readOff_20 F (I S.L) (I S.n) (I S.K) (B S.ab) (I S.c) gi on nu pi le al be k) (I (cI (S.R m).1)) (S.R m).2.1 (S.R m).2.2.1 ln (I m) (I (fst (S.R m))) (I S.c)) _
    unfold m_SpeciesSolverModel_readOff_20b
    cases eR : (S.R m).1 with
    | none =>
      have ef : fst (S.R m) = -1 := by unfold fst; rw [eR]
      rw [ef]
      simp (disch := omega) only [gd_I, nz_I, bd_S, gb_B, nar_B, I_add, I_sub, I_mul, I_neg, I_div, I_nat, I_lt, I_le, I_eq, B_0, B_1, L_0, L_1, L_2, L_3, L_4, L_5, L_6, L_7, L_8, L_9, L_10, L_11, L_12, L_13, L_14, L_15, L_16, L_17, L_24, L_31, L_45, L_80, L_127, L_200, L_640, L_1280, L_1000000000, T_0, T_1, T_2, T_3, T_4, T_5, T_6, T_7, T_8, T_9, T_10, T_11, T_12, T_13, T_14, T_15, T_16, T_17]
      simp only [Int.le_refl, if_true]
      rw [if_pos (by omega)]
      exact Ok_some ⟨rfl, rfl, rfl, fun h => absurd rfl h⟩
    | some x =>
      have ef : fst (S.R m) = (S.R m).2.2.2 := by unfold fst; rw [eR]
      obtain ⟨q1, q2, ⟨y, hy⟩, q3⟩ := ln_r hw C hF hL hp hc m0 m1 eR
      have eq := hp _ (by omega : (0 : Int) ≤ (S.R m).2.2.2) (by omega : ((S.R m).2.2.2 : Int) < S.c)
      rw [ef]
      have fo := r_fo32 hw C hF hL hp hc m0 m1 (rt0_valid (S := S) q1 q2) hy hd.1 _ F 0 (upd ln 0 (I (S.P (S.R m).2.2.2))) rfl (by have := last45 hw; omega) (by omega) (fun i hi => by
        have e0 : i = 0 := by omega
        subst e0; rw [upd_at]; rfl)
      have e0 : S.rT m (rt0 m (S.R m).2.2.2) 0 = rt0 m (S.R m).2.2.2 := rfl
      rw [e0] at fo
      unfold m_SpeciesSolverModel_follow
      simp (disch := omega) only [gd_I, nz_I, bd_S, gb_B, nar_B, I_add, I_sub, I_mul, I_neg, I_div, I_nat, I_lt, I_le, I_eq, B_0, B_1, L_0, L_1, L_2, L_3, L_4, L_5, L_6, L_7, L_8, L_9, L_10, L_11, L_12, L_13, L_14, L_15, L_16, L_17, L_24, L_31, L_45, L_80, L_127, L_200, L_640, L_1280, L_1000000000, T_0, T_1, T_2, T_3, T_4, T_5, T_6, T_7, T_8, T_9, T_10, T_11, T_12, T_13, T_14, T_15, T_16, T_17, r_usedBy, eq]
      simp only [Int.le_refl, if_true]
      rw [if_neg (by omega)]
      refine Ok_bd fo (fun l hl => Ok_some ⟨rfl, rfl, rfl, fun _ i hi => ?_⟩)
      simp only
      rw [hl i hi, (q3 i hi).1]
  | r + 1, n, q, e, hn, hq => by
    obtain ⟨k, rfl⟩ : ∃ k, n = k + 1 := ⟨n - 1, by omega⟩
    show Ok (m_SpeciesSolverModel_readOff_20b F (I S.L) (I S.n) (I S.K) (B S.ab) (I S.c) gi on nu pi le al be (m_SpeciesSolverModel_readOff_20 F (I S.L) (I S.n) (I S.K) (B S.ab) (I S.c) gi on nu pi le al be k) _ _ _ ln (I m) _ (I q)) _
    rw [r_ro_it hw C hF hL hp hc m0 m1 (by omega) hd]
    exact r_ro20 hw C hF hL hp hc m0 m1 hd ln r k (q + 1) (by omega) (by omega) (by omega)
theorem r_readOff (hw : WF S) (C : RS S nu on gi) (hF : 2000 ≤ F) (hL : 0 < S.L) (hp : PP S pi) (hc : S.c ≤ 8) {le : Nat → Int32} {al be : Nat → Int64} {m : Int} (m0 : -2 ≤ m) (m1 : m < 8) (hd : Done S m le al be) (ln : Nat → Int32) (a : Int32) (b c : Int64) : Ok (m_SpeciesSolverModel_readOff F (I S.L) (I S.n) (I S.K) (B S.ab) (I S.c) gi on nu pi le al be a b c ln (I m)) (fun u => u.1 = I (cI (S.R m).1) ∧ u.2.1 = (S.R m).2.1 ∧ u.2.2.1 = (S.R m).2.2.1 ∧ ((S.R m).1 ≠ none → ∀ i, i ≤ S.last → u.2.2.2 i = I (S.P (S.ln m (S.R m).2.2.2 i)))) := by
  unfold m_SpeciesSolverModel_readOff
  exact r_ro20 hw C hF hL hp hc m0 m1 hd ln _ F 0 rfl (by omega) (by omega)
theorem r_isLower (hw : WF S) (C : RS S nu on gi) (hF : 2000 ≤ F) (hL : 0 < S.L) (hp : PP S pi) (hc : S.c ≤ 8) {a b : Nat → Nat} {ln wi : Nat → Int32} (ha : ∀ i, i ≤ S.last → a i < S.c ∧ ln i = I (S.P (a i))) (hb : ∀ i, i ≤ S.last → b i < S.c ∧ wi i = I (S.P (b i))) : ∀ (r n j : Nat), S.last + 1 - j = r → r < n → j ≤ S.last + 1 → m_SpeciesSolverModel_isLower_2 F (I S.n) (I S.K) ln wi n (I j) = some (B (lex a b r j))
  | 0, n, j, e, hn, hj => by
    obtain ⟨k, rfl⟩ : ∃ k, n = k + 1 := ⟨n - 1, by omega⟩
    have hN := WF_N hw; have hN2 := WF_N2 hw hL
    have hl2 : (S.last : Int) = S.N - 1 := by unfold Su.last; omega
    simp only [m_SpeciesSolverModel_isLower_2, m_SpeciesSolverModel_isLower_2b]
    simp (disch := omega) only [gd_I, nz_I, bd_S, gb_B, nar_B, I_add, I_sub, I_mul, I_neg, I_div, I_nat, I_lt, I_le, I_eq, B_0, B_1, L_0, L_1, L_2, L_3, L_4, L_5, L_6, L_7, L_8, L_9, L_10, L_11, L_12, L_13, L_14, L_15, L_16, L_17, L_24, L_31, L_45, L_80, L_127, L_200, L_640, L_1280, L_1000000000, T_0, T_1, T_2, T_3, T_4, T_5, T_6, T_7, T_8, T_9, T_10, T_11, T_12, T_13, T_14, T_15, T_16, T_17, r_size hw]
    rw [if_pos (by omega)]
    rfl
  | r + 1, n, j, e, hn, hj => by
    obtain ⟨k, rfl⟩ : ∃ k, n = k + 1 := ⟨n - 1, by omega⟩
    have hN := WF_N hw; have hN2 := WF_N2 hw hL
    have hl2 : (S.last : Int) = S.N - 1 := by unfold Su.last; omega
    obtain ⟨a1, a2⟩ := ha j (by omega); obtain ⟨b1, b2⟩ := hb j (by omega)
    have pa := P_range hw (by omega : (0 : Int) ≤ (a j : Nat)) (by omega : ((a j : Nat) : Int) < S.c)
    have pb := P_range hw (by omega : (0 : Int) ≤ (b j : Nat)) (by omega : ((b j : Nat) : Int) < S.c)
    have ih := r_isLower hw C hF hL hp hc ha hb r k (j + 1) (by omega) (by omega) (by omega)
    have ej : ((j + 1 : Nat) : Int) = (j : Int) + 1 := by omega
    rw [ej] at ih
    simp only [m_SpeciesSolverModel_isLower_2, m_SpeciesSolverModel_isLower_2b]
    simp (disch := omega) only [gd_I, nz_I, bd_S, gb_B, nar_B, I_add, I_sub, I_mul, I_neg, I_div, I_nat, I_lt, I_le, I_eq, B_0, B_1, L_0, L_1, L_2, L_3, L_4, L_5, L_6, L_7, L_8, L_9, L_10, L_11, L_12, L_13, L_14, L_15, L_16, L_17, L_24, L_31, L_45, L_80, L_127, L_200, L_640, L_1280, L_1000000000, T_0, T_1, T_2, T_3, T_4, T_5, T_6, T_7, T_8, T_9, T_10, T_11, T_12, T_13, T_14, T_15, T_16, T_17, r_size hw, Int.toNat_natCast, a2, b2, ih]
    rw [if_neg (by omega)]
    have el : lex a b (r + 1) j = (if a j = b j then lex a b r (j + 1) else decide (a j < b j)) := rfl
    rw [el]
    by_cases e1 : a j = b j
    · rw [if_pos (by rw [e1]), if_pos e1]
    · by_cases l1 : a j < b j
      · have := P_lt (S := S) (by omega : (0 : Int) ≤ (a j : Nat)) (by omega : ((a j : Nat) : Int) < (b j : Nat)) (by omega)
        rw [if_neg (by omega), if_neg (by omega), if_neg e1, decide_eq_true l1]; rfl
      · have := P_lt (S := S) (by omega : (0 : Int) ≤ (b j : Nat)) (by omega : ((b j : Nat) : Int) < (a j : Nat)) (by omega)
        rw [if_neg (by omega), if_pos (by omega), if_neg e1, decide_eq_false l1]; rfl
end
