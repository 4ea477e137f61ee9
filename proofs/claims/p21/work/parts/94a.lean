/-! pure part: the reference's arrays hold the values -/
def cI (x : Option Int) : Int := match x with
  | none => 1000000000
  | some c => c
def par (j : Int) : Int := (j - j / 2 * 2) * 1280
def rcode (t : RT) : Int := ((t.1 * 10 + t.2.1) * 8 + t.2.2.1) * 2 + t.2.2.2
def Su.last (S : Su) : Nat := (S.N - 1).toNat
def Su.rW (S : Su) (m : Int) (j : Nat) (t : RT) : V := VV S.c (S.rok m) S.rpr (S.rnx m) (rfin m) (S.last - j) j t
def Su.rf (S : Su) (m : Int) (j : Nat) (t : RT) (q : Nat) : Option (Int × V) := if S.rok m (j + 1) t q then some (S.rpr (j + 1) t q, S.rW m (j + 1) (S.rnx m (j + 1) t q)) else none
def valid (S : Su) (j : Nat) (t : RT) : Prop := (0 ≤ t.1 ∧ t.1 < S.c) ∧ (0 ≤ t.2.2.1 ∧ t.2.2.1 < S.c) ∧ (0 ≤ t.2.2.2 ∧ t.2.2.2 ≤ 1) ∧ (j = 0 → t.2.1 = 0) ∧ (0 < j → 1 ≤ t.2.1 ∧ (t.2.1 ≤ S.c ∨ t.2.1 = 9)) ∧ (S.strong j = true → t.2.2.1 = t.1)
def LY (S : Su) (m : Int) (j : Nat) (le : Nat → Int32) (al be : Nat → Int64) (X : Int) : Prop := ∀ t, valid S j t → rcode t < X → le (1280 * (j : Int) + rcode t).toNat = I (cI (S.rW m j t).1) ∧ al (par j + rcode t).toNat = (S.rW m j t).2.1 ∧ be (par j + rcode t).toNat = (S.rW m j t).2.2.1
theorem par_r {j : Int} (h : 0 ≤ j) : 0 ≤ par j ∧ par j ≤ 1280 := by unfold par; omega
theorem rcode_r {S : Su} {j : Nat} {t : RT} (hc : S.c ≤ 8) (h : valid S j t) : 0 ≤ rcode t ∧ rcode t < 1280 := by
  obtain ⟨h1, h2, h3, h4, h5, _⟩ := h
  unfold rcode
  by_cases e : j = 0
  · have := h4 e; omega
  · have := h5 (by omega); omega
theorem rW_step {S : Su} {m : Int} {j : Nat} {t : RT} (h : j < S.last) : S.rW m j t = foldW (S.rf m j t) S.c := by
  unfold Su.rW
  obtain ⟨d, hd⟩ : ∃ d, S.last - j = d + 1 := ⟨S.last - j - 1, by omega⟩
  have hd2 : S.last - (j + 1) = d := by omega
  rw [hd]
  show foldW _ _ = foldW _ _
  congr 1
  funext q
  unfold Su.rf Su.rW
  rw [hd2]
theorem rW_last {S : Su} {m : Int} {t : RT} : S.rW m S.last t = rfin m t := by
  unfold Su.rW; rw [Nat.sub_self]; rfl
theorem rfin_none {m : Int} (t : RT) (h : (rfin m t).1 = none) : rfin m t = V0 := by
  unfold rfin at h ⊢
  split at h
  · cases h
  · rename_i e; rw [if_neg e]
theorem rW_none {S : Su} {m : Int} {j : Nat} {t : RT} (h : (S.rW m j t).1 = none) : S.rW m j t = V0 := VV_none (fun t h => rfin_none t h) h
theorem last45 {S : Su} (hw : WF S) : S.last ≤ 44 := by have := WF_N hw; unfold Su.last; omega
theorem rfin_some {m : Int} (t : RT) (x : Int) (h : (rfin m t).1 = some x) : x = 0 := by
  unfold rfin at h
  split at h
  · injection h with h; exact h.symm
  · cases h
theorem rW_range {S : Su} (hw : WF S) {m : Int} {j : Nat} {t : RT} {x : Int} (h : (S.rW m j t).1 = some x) : 0 ≤ x ∧ x ≤ 9000000 := by
  have r := VV_range (W := 200000) rfin_some (rpr_r hw) h
  have l := last45 hw
  have e : ((S.last - j : Nat) : Int) ≤ 44 := by omega
  omega
theorem fold_range {S : Su} (hw : WF S) {m : Int} {j : Nat} {t : RT} {k : Nat} {x : Int} (h : (foldW (S.rf m j t) k).1 = some x) : 0 ≤ x ∧ x ≤ 9500000 := by
  obtain ⟨_, ⟨p, b, d, e1, e2, e3⟩, _, _⟩ := fold_min h
  generalize (foldW (S.rf m j t) k).2.2.2 = q0 at e1
  unfold Su.rf at e1
  split at e1
  · injection e1 with e1
    injection e1 with e4 e5
    have a := rpr_r hw (j + 1) t q0
    rw [← e5] at e2
    have b := rW_range hw e2
    omega
  · cases e1
theorem cI_r {o : Option Int} (h : ∀ x, o = some x → 0 ≤ x ∧ x ≤ 9500000) : 0 ≤ cI o ∧ cI o ≤ 1000000000 := by
  cases o with
  | none => exact ⟨by decide, by decide⟩
  | some x => have := h x rfl; unfold cI; simp only; omega
theorem valid_next {S : Su} (hw : WF S) {m : Int} {j : Nat} {t : RT} {q : Nat} (hc : S.c ≤ 8) (hm : 0 ≤ m ∨ t.2.2.2 ≤ 1) (h : valid S j t) (hq : q < S.c) (hu : rused m t.2.2.2 q < 2) : valid S (j + 1) (S.rnx m (j + 1) t q) := by
  obtain ⟨h1, h2, h3, h4, h5, h6⟩ := h
  unfold valid Su.rnx
  simp only
  refine ⟨⟨by omega, by omega⟩, ?_, ⟨?_, by omega⟩, fun e => by omega, fun _ => ?_, fun e => by rw [if_pos e]⟩
  · split <;> omega
  · unfold rused; (repeat' split) <;> omega
  · unfold rhow; (repeat' split) <;> omega
section
variable {S : Su} {nu on gi pi : Nat → Int32} {F : Nat}
theorem r_fs_it (hw : WF S) (C : RS S nu on gi) (hF : 2000 ≤ F) (hL : 0 < S.L) (hp : PP S pi) (hc : S.c ≤ 8) {k45 : (Nat → Int32) → (Nat → Int64) → (Nat → Int64) → Int32 → Int32 → Int32 → Int32 → Int32 → Int32 → Int32 → Int32 → Int32 → Int32 → Int64 → Int64 → Int32 → Option ((Nat → Int32) × (Nat → Int64) × (Nat → Int64))} {le : Nat → Int32} {al be : Nat → Int64} {m : Int} {j q : Nat} {p h s u : Int} {x7 x8 : Int32} (m0 : -2 ≤ m) (m1 : m < 8) (hj : j < S.last) (hv : valid S j (p, h, s, u)) (hq : q < S.c) (ly : LY S m (j + 1) le al be 1280) : m_SpeciesSolverModel_fillState_45b F (I S.L) (I S.n) (I S.K) (B S.ab) (I S.c) gi on nu pi k45 le al be (I m) (I j) (I p) (I h) (I s) (I u) x7 x8 (I (par (j + 1))) (I (cI (foldW (S.rf m j (p, h, s, u)) q).1)) (foldW (S.rf m j (p, h, s, u)) q).2.1 (foldW (S.rf m j (p, h, s, u)) q).2.2.1 (I q) = k45 le al be (I m) (I j) (I p) (I h) (I s) (I u) x7 x8 (I (par (j + 1))) (I (cI (foldW (S.rf m j (p, h, s, u)) (q + 1)).1)) (foldW (S.rf m j (p, h, s, u)) (q + 1)).2.1 (foldW (S.rf m j (p, h, s, u)) (q + 1)).2.2.1 (I ((q + 1 : Nat) : Int)) := by
  have hN := WF_N hw; have hN2 := WF_N2 hw hL; have l44 := last45 hw
  have hl : (S.last : Int) = S.N - 1 := by unfold Su.last; omega
  have ej : ((j + 1 : Nat) : Int) = (j : Int) + 1 := by omega
  have eq1 : ((q + 1 : Nat) : Int) = (q : Int) + 1 := by omega
  have hv2 := hv
  obtain ⟨⟨p0, p1⟩, ⟨s0, s1⟩, ⟨u0, u1⟩, h4, h5, h6⟩ := hv
  simp only at p0 p1 s0 s1 u0 u1 h4 h5 h6
  have hh : 0 ≤ h ∧ (h ≤ S.c ∨ h = 9) := by
    by_cases e : j = 0
    · have := h4 e; omega
    · have := h5 (by omega); omega
  have pp := P_range hw p0 p1; have ps := P_range hw s0 s1
  have pq := P_range hw (by omega : (0 : Int) ≤ q) (by omega : (q : Int) < S.c)
  have ep := hp _ p0 p1; have es := hp _ s0 s1; have eq := hp _ (by omega : (0 : Int) ≤ q) (by omega : (q : Int) < S.c)
  have e254 : ∀ (a b : Int64) (c : Int32), m_SpeciesSolverModel_fillState_254 F (I S.L) (I S.n) (I S.K) (B S.ab) (I S.c) gi on nu pi k45 le al be (I m) (I j) (I p) (I h) (I s) (I u) x7 x8 (I (par (j + 1))) c a b (I q) = k45 le al be (I m) (I j) (I p) (I h) (I s) (I u) x7 x8 (I (par (j + 1))) c a b (I ((q : Int) + 1)) := by
    intro a b c
    unfold m_SpeciesSolverModel_fillState_254
    simp (disch := omega) only [gd_I, nz_I, bd_S, gb_B, nar_B, I_add, I_sub, I_mul, I_neg, I_div, I_nat, I_lt, I_le, I_eq, B_0, B_1, L_0, L_1, L_2, L_3, L_4, L_5, L_6, L_7, L_8, L_9, L_10, L_11, L_12, L_13, L_14, L_15, L_16, L_17, L_24, L_31, L_45, L_80, L_127, L_200, L_640, L_1280, L_1000000000, T_0, T_1, T_2, T_3, T_4, T_5, T_6, T_7, T_8, T_9, T_10, T_11, T_12, T_13, T_14, T_15, T_16, T_17]
  have ru : -3 ≤ rused m u q ∧ rused m u q ≤ 3 := by unfold rused; (repeat' split) <;> omega
  have hmf := r_mayFollow hw C hF hL hp hc (lt := true) (j := (j : Int) + 1) (q := q) (by omega) (by omega) p0 p1 s0 s1 (by omega) (by omega) hh.1 hh.2
  have rng := cI_r (fun x hx => fold_range (k := q) hw (m := m) (j := j) (t := (p, h, s, u)) hx)
  rw [eq1]
  unfold m_SpeciesSolverModel_fillState_45b
  rw [show (1 : Int32) = I 1 from rfl] at *
  rw [show B true = I 1 from rfl] at hmf
  simp (disch := omega) only [gd_I, nz_I, bd_S, gb_B, nar_B, I_add, I_sub, I_mul, I_neg, I_div, I_nat, I_lt, I_le, I_eq, B_0, B_1, L_0, L_1, L_2, L_3, L_4, L_5, L_6, L_7, L_8, L_9, L_10, L_11, L_12, L_13, L_14, L_15, L_16, L_17, L_24, L_31, L_45, L_80, L_127, L_200, L_640, L_1280, L_1000000000, T_0, T_1, T_2, T_3, T_4, T_5, T_6, T_7, T_8, T_9, T_10, T_11, T_12, T_13, T_14, T_15, T_16, T_17, r_usedBy, hmf]
  rw [if_neg (by omega)]
  by_cases hu : rused m u q < 2
  · rw [if_neg (by omega)]
    cases hmay : S.rmay ((j : Int) + 1) p h s q true with
    | false =>
      have hrok : S.rok m (j + 1) (p, h, s, u) q = false := by unfold Su.rok; simp only; rw [ej, hmay, Bool.and_false]
      have hf : S.rf m j (p, h, s, u) q = none := by unfold Su.rf; rw [hrok]; rfl
      simp only [if_true]
      rw [fold_off hf, e254]
    | true =>
      have hrok : S.rok m (j + 1) (p, h, s, u) q = true := by unfold Su.rok; simp only; rw [ej, hmay, Bool.and_true]; exact decide_eq_true hu
      have hf : S.rf m j (p, h, s, u) q = some (S.rpr (j + 1) (p, h, s, u) q, S.rW m (j + 1) (S.rnx m (j + 1) (p, h, s, u) q)) := by unfold Su.rf; rw [hrok]; rfl
      have vn := valid_next hw (m := m) hc (Or.inr u1) hv2 hq hu
      have rc := rcode_r hc vn
      obtain ⟨y1, y2, y3⟩ := ly _ vn rc.2
      have pj := par_r (by omega : 0 ≤ (j : Int) + 1)
      have ecode : rcode (S.rnx m (j + 1) (p, h, s, u) q) = (((q : Int) * 10 + rhow p h q) * 8 + (if S.strong ((j : Int) + 1) then (q : Int) else s)) * 2 + rused m u q := by unfold rcode Su.rnx; simp only [ej]
      rw [ej] at y1 y2 y3
      have e116 : m_SpeciesSolverModel_fillState_116 F (I S.L) (I S.n) (I S.K) (B S.ab) (I S.c) gi on nu pi k45 le al be (I m) (I j) (I p) (I h) (I s) (I u) x7 x8 (I (par (j + 1))) (I (cI (foldW (S.rf m j (p, h, s, u)) q).1)) (foldW (S.rf m j (p, h, s, u)) q).2.1 (foldW (S.rf m j (p, h, s, u)) q).2.2.1 (I q) (I (rused m u q)) (I q) (I (rhow p h q)) (I (if S.strong ((j : Int) + 1) then (q : Int) else s)) = k45 le al be (I m) (I j) (I p) (I h) (I s) (I u) x7 x8 (I (par (j + 1))) (I (cI (foldW (S.rf m j (p, h, s, u)) (q + 1)).1)) (foldW (S.rf m j (p, h, s, u)) (q + 1)).2.1 (foldW (S.rf m j (p, h, s, u)) (q + 1)).2.2.1 (I ((q : Int) + 1)) := by
        unfold m_SpeciesSolverModel_fillState_116
        rw [r_state, ← ecode, bd_S]
        rw [fold_some hf]
        have epr : S.rpr (j + 1) (p, h, s, u) q = S.ncost ((j : Int) + 1) (S.P q) + S.mcost (S.P p) (S.P q) + (if S.strong ((j : Int) + 1) then S.scost ((j : Int) + 1) (S.P s) (S.P q) else 0) := by unfold Su.rpr; simp only [ej]
        have prr := rpr_r hw (j + 1) (p, h, s, u) q
        cases eW : (S.rW m (j + 1) (S.rnx m (j + 1) (p, h, s, u) q)).1 with
        | none =>
          have eV := rW_none eW
          rw [addW_none eW]
          rw [eV] at y1 y2 y3
          simp (disch := omega) only [gd_I, nz_I, bd_S, gb_B, nar_B, I_add, I_sub, I_mul, I_neg, I_div, I_nat, I_lt, I_le, I_eq, B_0, B_1, L_0, L_1, L_2, L_3, L_4, L_5, L_6, L_7, L_8, L_9, L_10, L_11, L_12, L_13, L_14, L_15, L_16, L_17, L_24, L_31, L_45, L_80, L_127, L_200, L_640, L_1280, L_1000000000, T_0, T_1, T_2, T_3, T_4, T_5, T_6, T_7, T_8, T_9, T_10, T_11, T_12, T_13, T_14, T_15, T_16, T_17, y1, y2, cI, V0, e254]
          rw [if_pos (by omega)]
          simp only [Int64.add_zero]
        | some d =>
          have wr := rW_range hw eW
          rw [eW] at y1
          have e3 : cI (some d) = d := rfl
          rw [e3] at y1
          have ecc : d + S.mcost (S.P p) (S.P q) + (S.ncost ((j : Int) + 1) (S.P q) + (if S.strong ((j : Int) + 1) then S.scost ((j : Int) + 1) (S.P s) (S.P q) else 0)) = S.rpr (j + 1) (p, h, s, u) q + d := by rw [epr]; omega
          simp (disch := omega) only [gd_I, nz_I, bd_S, gb_B, nar_B, I_add, I_sub, I_mul, I_neg, I_div, I_nat, I_lt, I_le, I_eq, B_0, B_1, L_0, L_1, L_2, L_3, L_4, L_5, L_6, L_7, L_8, L_9, L_10, L_11, L_12, L_13, L_14, L_15, L_16, L_17, L_24, L_31, L_45, L_80, L_127, L_200, L_640, L_1280, L_1000000000, T_0, T_1, T_2, T_3, T_4, T_5, T_6, T_7, T_8, T_9, T_10, T_11, T_12, T_13, T_14, T_15, T_16, T_17, y1, y2, y3, ep, es, eq, e254, r_moveCost hw C, r_noteCost hw C hF, ecc]
          rw [if_neg (by omega)]
          cases eF : (foldW (S.rf m j (p, h, s, u)) q).1 with
          | none =>
            have ea : addW (foldW (S.rf m j (p, h, s, u)) q) q (S.rpr (j + 1) (p, h, s, u) q) (S.rW m (j + 1) (S.rnx m (j + 1) (p, h, s, u) q)) = (some (S.rpr (j + 1) (p, h, s, u) q + d), (foldW (S.rf m j (p, h, s, u)) q).2.1 + (S.rW m (j + 1) (S.rnx m (j + 1) (p, h, s, u) q)).2.1, (S.rW m (j + 1) (S.rnx m (j + 1) (p, h, s, u) q)).2.2.1, q) := by unfold addW; rw [eW, eF]
            rw [ea]
            have ec : cI (none : Option Int) = 1000000000 := rfl
            have ec2 : cI (some (S.rpr (j + 1) (p, h, s, u) q + d)) = S.rpr (j + 1) (p, h, s, u) q + d := rfl
            simp only [ec2]
            rw [ec, if_neg (by omega)]
          | some d0 =>
            have fr9 := fold_range hw eF
            have ec : cI (some d0) = d0 := rfl
            have ec2 : cI (some (S.rpr (j + 1) (p, h, s, u) q + d)) = S.rpr (j + 1) (p, h, s, u) q + d := rfl
            simp only [ec]
            by_cases l1 : S.rpr (j + 1) (p, h, s, u) q + d < d0
            · have ea : addW (foldW (S.rf m j (p, h, s, u)) q) q (S.rpr (j + 1) (p, h, s, u) q) (S.rW m (j + 1) (S.rnx m (j + 1) (p, h, s, u) q)) = (some (S.rpr (j + 1) (p, h, s, u) q + d), (foldW (S.rf m j (p, h, s, u)) q).2.1 + (S.rW m (j + 1) (S.rnx m (j + 1) (p, h, s, u) q)).2.1, (S.rW m (j + 1) (S.rnx m (j + 1) (p, h, s, u) q)).2.2.1, q) := by unfold addW; rw [eW, eF]; simp only; rw [if_pos l1]
              rw [ea]
              simp only [ec2]
              rw [if_neg (by omega)]
            · by_cases l2 : S.rpr (j + 1) (p, h, s, u) q + d = d0
              · have ea : addW (foldW (S.rf m j (p, h, s, u)) q) q (S.rpr (j + 1) (p, h, s, u) q) (S.rW m (j + 1) (S.rnx m (j + 1) (p, h, s, u) q)) = (some d0, (foldW (S.rf m j (p, h, s, u)) q).2.1 + (S.rW m (j + 1) (S.rnx m (j + 1) (p, h, s, u) q)).2.1, (foldW (S.rf m j (p, h, s, u)) q).2.2.1 + (S.rW m (j + 1) (S.rnx m (j + 1) (p, h, s, u) q)).2.2.1, (foldW (S.rf m j (p, h, s, u)) q).2.2.2) := by unfold addW; rw [eW, eF]; simp only; rw [if_neg l1, if_pos l2]
                rw [ea]
                simp only [ec]
                rw [if_pos (by omega), if_pos l2]
              · have ea : addW (foldW (S.rf m j (p, h, s, u)) q) q (S.rpr (j + 1) (p, h, s, u) q) (S.rW m (j + 1) (S.rnx m (j + 1) (p, h, s, u) q)) = (some d0, (foldW (S.rf m j (p, h, s, u)) q).2.1 + (S.rW m (j + 1) (S.rnx m (j + 1) (p, h, s, u) q)).2.1, (foldW (S.rf m j (p, h, s, u)) q).2.2.1, (foldW (S.rf m j (p, h, s, u)) q).2.2.2) := by unfold addW; rw [eW, eF]; simp only; rw [if_neg l1, if_neg l2]
                rw [ea]
                simp only [ec]
                rw [if_pos (by omega), if_neg l2]
      simp only [Bool.true_eq_false, if_false]
      simp (disch := omega) only [gd_I, nz_I, bd_S, gb_B, nar_B, I_add, I_sub, I_mul, I_neg, I_div, I_nat, I_lt, I_le, I_eq, B_0, B_1, L_0, L_1, L_2, L_3, L_4, L_5, L_6, L_7, L_8, L_9, L_10, L_11, L_12, L_13, L_14, L_15, L_16, L_17, L_24, L_31, L_45, L_80, L_127, L_200, L_640, L_1280, L_1000000000, T_0, T_1, T_2, T_3, T_4, T_5, T_6, T_7, T_8, T_9, T_10, T_11, T_12, T_13, T_14, T_15, T_16, T_17, r_nextHow, r_isStrong hw]
      cases hs : S.strong ((j : Int) + 1) with
      | true => rw [hs] at e116; simp only [Bool.true_eq_false, if_false, if_true] at e116 ⊢; exact e116
      | false => rw [hs] at e116; simp only [Bool.false_eq_true, if_false, if_true] at e116 ⊢; exact e116
  · rw [if_pos (by omega)]
    have hrok : S.rok m (j + 1) (p, h, s, u) q = false := by unfold Su.rok; simp only; rw [decide_eq_false hu, Bool.false_and]
    have hf : S.rf m j (p, h, s, u) q = none := by unfold Su.rf; rw [hrok]; rfl
    rw [fold_off hf, e254]
end
