/-! pure part: the reference's mayBegin; prices are bounded; valid states -/
section
variable {S : Su} {nu on gi pi : Nat → Int32} {F : Nat}
def Su.mb (S : Su) (p l : Int) : Bool := ! (S.on 0 && (S.strong 0 && ! S.inn 3 (S.P p) (S.gv l 0))) && ! (S.on 3 && S.cross l 0 (S.P p))
theorem r_mayBegin (hw : WF S) (C : RS S nu on gi) (hF : 2000 ≤ F) (hL : 0 < S.L) (hp : PP S pi) (hc : S.c ≤ 8) {p : Int} (p0 : 0 ≤ p) (p1 : p < S.c) : m_SpeciesSolverModel_mayBegin F (I S.L) (I S.K) (B S.ab) gi on nu pi (I p) = some (B (! S.nbad 0 (S.P p))) := by
  have hL2 := WF_L hw; have hN := WF_N2 hw hL
  have pp := P_range hw p0 p1; have ep := hp _ p0 p1
  obtain ⟨G, hG⟩ : ∃ G, F = G + 4 := ⟨F - 4, by omega⟩
  have g0 := WF_gv hw (by omega : (0 : Int) ≤ 0) hL (by omega : (0 : Int) ≤ 0) (by omega)
  have e103 : ∀ (k : Int32 → Int32 → Int32 → Option Int32) (l : Int) (x : Int32), m_SpeciesSolverModel_mayBegin_103 F (I S.L) (I S.K) (B S.ab) gi on nu pi k (I p) (I l) x = k (I p) x (I (l + 1)) := by
    intro k l x
    unfold m_SpeciesSolverModel_mayBegin_103
    simp (disch := omega) only [gd_I, nz_I, bd_S, gb_B, nar_B, I_add, I_sub, I_mul, I_neg, I_div, I_nat, I_lt, I_le, I_eq, B_0, B_1, L_0, L_1, L_2, L_3, L_4, L_5, L_6, L_7, L_8, L_9, L_10, L_11, L_12, L_13, L_14, L_15, L_16, L_17, L_24, L_31, L_45, L_80, L_127, L_200, L_640, L_1280, L_1000000000, T_0, T_1, T_2, T_3, T_4, T_5, T_6, T_7, T_8, T_9, T_10, T_11, T_12, T_13, T_14, T_15, T_16, T_17]
  have st : ∀ (k : Int32 → Int32 → Int32 → Option Int32) (l : Int), 0 ≤ l → l < S.L → m_SpeciesSolverModel_mayBegin_38b F (I S.L) (I S.K) (B S.ab) gi on nu pi k (I p) (B true) (I l) = k (I p) (B (S.mb p l)) (I (l + 1)) := by
    intro k l l0 l1
    unfold m_SpeciesSolverModel_mayBegin_38b m_SpeciesSolverModel_mayBegin_74 m_SpeciesSolverModel_mayBegin_98 m_SpeciesSolverModel_mayBegin_102 Su.mb
    simp (disch := omega) only [gd_I, nz_I, bd_S, gb_B, nar_B, I_add, I_sub, I_mul, I_neg, I_div, I_nat, I_lt, I_le, I_eq, B_0, B_1, L_0, L_1, L_2, L_3, L_4, L_5, L_6, L_7, L_8, L_9, L_10, L_11, L_12, L_13, L_14, L_15, L_16, L_17, L_24, L_31, L_45, L_80, L_127, L_200, L_640, L_1280, L_1000000000, T_0, T_1, T_2, T_3, T_4, T_5, T_6, T_7, T_8, T_9, T_10, T_11, T_12, T_13, T_14, T_15, T_16, T_17, RS_on C, ep, r_rule0 hw C, r_rule3 hw C, e103]
    rw [if_neg (by omega)]
    cases S.on 0 <;> cases S.on 3 <;> cases (S.strong 0 && ! S.inn 3 (S.P p) (S.gv l 0)) <;> cases S.cross l 0 (S.P p) <;> simp [B]
  have ex : ∀ (k : Int32 → Int32 → Int32 → Option Int32) (l : Int) (b : Bool), 0 ≤ l → l < 100 → (S.L ≤ l ∨ b = false) → m_SpeciesSolverModel_mayBegin_38b F (I S.L) (I S.K) (B S.ab) gi on nu pi k (I p) (B b) (I l) = some (B b) := by
    intro k l b l0 l1 l2
    unfold m_SpeciesSolverModel_mayBegin_38b
    simp (disch := omega) only [gd_I, nz_I, bd_S, gb_B, nar_B, I_add, I_sub, I_mul, I_neg, I_div, I_nat, I_lt, I_le, I_eq, B_0, B_1, L_0, L_1, L_2, L_3, L_4, L_5, L_6, L_7, L_8, L_9, L_10, L_11, L_12, L_13, L_14, L_15, L_16, L_17, L_24, L_31, L_45, L_80, L_127, L_200, L_640, L_1280, L_1000000000, T_0, T_1, T_2, T_3, T_4, T_5, T_6, T_7, T_8, T_9, T_10, T_11, T_12, T_13, T_14, T_15, T_16, T_17]
    rcases l2 with l2 | l2
    · rw [if_pos l2]
    · rw [if_pos l2]; split <;> rfl
  have st2 : ∀ (k : Int32 → Int32 → Int32 → Option Int32) (l : Int) (b : Bool), 0 ≤ l → l < S.L → m_SpeciesSolverModel_mayBegin_38b F (I S.L) (I S.K) (B S.ab) gi on nu pi k (I p) (B b) (I l) = if b then k (I p) (B (S.mb p l)) (I (l + 1)) else some (B false) := by
    intro k l b l0 l1
    cases b with
    | true => rw [st k l l0 l1]; rfl
    | false => rw [ex _ _ _ l0 (by omega) (Or.inr rfl)]; rfl
  have e35 : ∀ (b : Bool), m_SpeciesSolverModel_mayBegin_35 F (I S.L) (I S.K) (B S.ab) gi on nu pi (I p) (B b) = some (B (b && ! anyL S.L (fun l => ! S.mb p l))) := by
    intro b
    unfold m_SpeciesSolverModel_mayBegin_35
    rw [L_0, show m_SpeciesSolverModel_mayBegin_38 F (I S.L) (I S.K) (B S.ab) gi on nu pi F (I p) (B b) (I 0) = m_SpeciesSolverModel_mayBegin_38 F (I S.L) (I S.K) (B S.ab) gi on nu pi (G + 4) (I p) (B b) (I 0) from by rw [← hG]]
    simp only [m_SpeciesSolverModel_mayBegin_38]
    rcases (by omega : S.L = 1 ∨ S.L = 2 ∨ S.L = 3) with e | e | e
    · rw [st2 _ 0 _ (by omega) (by omega), ex _ _ _ (by omega) (by omega) (Or.inl (by omega)), anyL1 e]
      cases b <;> cases S.mb p 0 <;> simp
    · rw [st2 _ 0 _ (by omega) (by omega), st2 _ _ _ (by omega) (by omega), ex _ _ _ (by omega) (by omega) (Or.inl (by omega)), anyL2 e]
      cases b <;> cases S.mb p 0 <;> cases S.mb p (0 + 1) <;> simp
    · rw [st2 _ 0 _ (by omega) (by omega), st2 _ _ _ (by omega) (by omega), st2 _ _ _ (by omega) (by omega), ex _ _ _ (by omega) (by omega) (Or.inl (by omega)), anyL3 e]
      cases b <;> cases S.mb p 0 <;> cases S.mb p (0 + 1) <;> cases S.mb p (0 + 1 + 1) <;> simp
  have eT := e35 true
  have eF := e35 false
  rw [show B true = I 1 from rfl] at eT
  have eF2 : m_SpeciesSolverModel_mayBegin_35 F (I S.L) (I S.K) (B S.ab) gi on nu pi (I p) (I 0) = some (B false) := by rw [show I 0 = B false from rfl, eF]; rfl
  have em : (fun l => ! S.mb p l) = (fun l => ((S.on 0 && S.strong 0) && ! S.inn 3 (S.P p) (S.gv l 0)) || (S.on 3 && S.cross l 0 (S.P p))) := by
    funext l; unfold Su.mb
    generalize S.on 0 = a0; generalize S.on 3 = a3; generalize S.strong 0 = a1; generalize S.inn 3 (S.P p) (S.gv l 0) = a2; generalize S.cross l 0 (S.P p) = a4
    revert a0 a3 a1 a2 a4; decide
  unfold m_SpeciesSolverModel_mayBegin m_SpeciesSolverModel_mayBegin_30
  simp (disch := omega) only [gd_I, nz_I, bd_S, gb_B, nar_B, I_add, I_sub, I_mul, I_neg, I_div, I_nat, I_lt, I_le, I_eq, B_0, B_1, L_0, L_1, L_2, L_3, L_4, L_5, L_6, L_7, L_8, L_9, L_10, L_11, L_12, L_13, L_14, L_15, L_16, L_17, L_24, L_31, L_45, L_80, L_127, L_200, L_640, L_1280, L_1000000000, T_0, T_1, T_2, T_3, T_4, T_5, T_6, T_7, T_8, T_9, T_10, T_11, T_12, T_13, T_14, T_15, T_16, T_17, RS_on C, ep, r_at hw C, r_isIn C, eT, eF2]
  rw [em, anyL_or, anyL_and, anyL_and]
  unfold Su.nbad Su.bopen Su.hard
  simp only [decide_true, Bool.and_true]
  generalize anyL S.L (fun l => ! S.inn 3 (S.P p) (S.gv l 0)) = a1
  generalize anyL S.L (fun l => S.cross l 0 (S.P p)) = a2
  cases S.on 8 <;> cases S.inn 5 (S.P p) (S.gv 0 0) <;> cases S.on 0 <;> cases S.on 3 <;> cases S.strong 0 <;> cases a1 <;> cases a2 <;> simp [B]
theorem P_all (hw : WF S) (i : Int) : 0 ≤ S.P i ∧ S.P i ≤ 127 := by
  by_cases h : 0 ≤ i ∧ i < S.c
  · exact P_range hw h.1 h.2
  · by_cases h2 : i < 0
    · have e : S.P i = S.P 0 := by unfold Su.P; congr 1; omega
      rw [e]
      by_cases h3 : 0 < S.c
      · exact P_range hw (by omega) (by omega)
      · have : S.P 0 = 0 := by
          unfold Su.P; unfold Su.c at h3
          have : S.cho = [] := List.eq_nil_of_length_eq_zero (by omega)
          rw [this]; rfl
        omega
    · have : S.P i = 0 := by
        unfold Su.P
        rw [List.getD_eq_getElem?_getD, List.getElem?_eq_none (by unfold Su.c at h; omega)]
        rfl
      omega
theorem sumL_r {L M : Int} {f : Int → Int} (h : ∀ l, 0 ≤ f l ∧ f l ≤ M) : 0 ≤ sumL L f ∧ sumL L f ≤ 3 * M := by
  have a := h 0; have b := h 1; have c := h 2
  unfold sumL; (repeat' split) <;> omega
theorem ncost_r (hw : WF S) (j p : Int) : 0 ≤ S.ncost j p ∧ S.ncost j p ≤ 3000 := by
  have a := WF_nu hw 16 (by decide); have b := WF_nu hw 17 (by decide); have c := WF_c hw 16 (by decide) (by decide); have d := WF_c hw 17 (by decide) (by decide)
  have e := sumL_r (L := S.L) (M := 1000) (f := fun l => if S.inn 4 p (S.gv l j) then S.nu 16 else 0) (fun l => by split <;> omega)
  unfold Su.ncost; (repeat' split) <;> omega
theorem scost_r (hw : WF S) (j a b : Int) : 0 ≤ S.scost j a b ∧ S.scost j a b ≤ 3000 := by
  have x := WF_nu hw 15 (by decide); have c := WF_c hw 15 (by decide) (by decide)
  exact sumL_r (L := S.L) (M := 1000) (f := fun l => if S.alike l j a b then S.nu 15 else 0) (fun l => by split <;> omega)
theorem mcost_r (hw : WF S) {a b : Int} (h1 : 0 ≤ a) (h2 : a ≤ 127) (h3 : 0 ≤ b) (h4 : b ≤ 127) : 0 ≤ S.mcost a b ∧ S.mcost a b ≤ 129000 := by
  have f0 := fr0 a b; have f1 := fr1 h1 h2 h3 h4
  have x := WF_nu hw 14 (by decide); have c := WF_c hw 14 (by decide) (by decide)
  have x2 := WF_nu hw 12 (by decide); have c2 := WF_c hw 12 (by decide) (by decide)
  have x3 := WF_nu hw 13 (by decide); have c3 := WF_c hw 13 (by decide) (by decide)
  have p0 : 0 ≤ fr a b * S.nu 14 := Int.mul_nonneg f0 x.1
  have p1 : fr a b * S.nu 14 ≤ 127 * 1000 := Int.mul_le_mul f1 c x.1 (by omega)
  unfold Su.mcost; (repeat' split) <;> omega
theorem rpr_r (hw : WF S) (j : Nat) (t : RT) (q : Nat) : 0 ≤ S.rpr j t q ∧ S.rpr j t q ≤ (200000 : Nat) := by
  have a := ncost_r hw j (S.P q); have p1 := P_all hw t.1; have p2 := P_all hw q
  have b := mcost_r hw p1.1 p1.2 p2.1 p2.2
  have c := scost_r hw j (S.P t.2.2.1) (S.P q)
  unfold Su.rpr; split <;> omega
end
