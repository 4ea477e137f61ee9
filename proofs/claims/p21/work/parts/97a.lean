/-! pure part: the class's fill, searchOnce, writeLine -/
def SRS (S : Su) (sr : Bool) (z2 : Int32) (pi : Nat → Int32) (lc : Int32) (al ll : Int64) (lo : Nat → Int32) : Prop := sr = true → 0 < S.L ∧ S.c ≤ 8 ∧ GD S S.tot lc al ll lo ∧ PP S pi ∧ z2 = I S.N
section
variable {S : Su} {nu on : Nat → Int32} {gi : Nat → Nat → Int32} {F : Nat}
theorem c_fill (hw : WF S) (C : CS S nu on gi) (hF : 2000 ≤ F) (hL : 0 < S.L) (hc : S.c ≤ 8) {z1 z2 z3 z4 : Int32} {pi np mp vp mt bc bt ps sp : Nat → Int32} : Ok (m_Prices_fill F (I S.L) (I S.n) (I S.K) (B S.ab) nu on gi z1 z2 z3 z4 pi np mp vp mt bc bt ps sp) (fun u => u.1 = I S.c ∧ u.2.1 = I S.N ∧ u.2.2.1 = I S.K ∧ u.2.2.2.1 = I S.mal ∧ PP S u.2.2.2.2.1 ∧ PT S u.2.2.2.2.2.1 u.2.2.2.2.2.2.1 u.2.2.2.2.2.2.2.1 u.2.2.2.2.2.2.2.2.1 u.2.2.2.2.2.2.2.2.2.1 u.2.2.2.2.2.2.2.2.2.2.1 u.2.2.2.2.2.2.2.2.2.2.2.1 u.2.2.2.2.2.2.2.2.2.2.2.2) := by
  have n1 := WF_nu hw 1 (by decide); have n2 := WF_nu hw 2 (by decide); have lh := WF_lh hw
  have eL : (if S.L = 0 then 0 else S.N) = S.N := if_neg (by omega)
  have e1 : nu (Int32.toNatClampNeg 1) = I (S.nu 1) := CS_nu C 1 (by decide)
  have wl := c_writeL hw C (F := F) _ F 0 (S.nu 1) pi rfl (by omega) (by omega) (by have : S.c ≤ 8 := hc; unfold Su.c Su.cho at this; omega) (by omega) (by omega)
  unfold m_Prices_fill m_Setup_writeChoice
  rw [e1, L_0]
  refine Ok_bd wl ?_
  rintro ⟨c9, pi2⟩ ⟨u1, _, u3⟩
  simp only at u1 u3 ⊢
  have hpp : PP S pi2 := by
    intro i i0 i1
    have := u3 i.toNat (by unfold Su.c Su.cho at i1; omega)
    have e9 : (0 : Int).toNat + i.toNat = i.toNat := by simp
    rw [e9] at this
    exact this
  have ec : c9 = I S.c := by rw [u1, Int.zero_add]; rfl
  subst ec
  rw [c_total hw, bd_S, eL]
  have e7 : on (Int32.toNatClampNeg 7) = B (S.on 7) := CS_on C 7 (by decide)
  have e11 : nu (Int32.toNatClampNeg 11) = I (S.nu 11) := CS_nu C 11 (by decide)
  rw [e7, e11]
  have key : Ok (m_Prices_fill_65 F (I S.L) (I S.n) (I S.K) (B S.ab) nu on gi (I S.c) (I S.N) (I S.K) z4 pi2 np mp vp mt bc bt ps sp (I S.mal)) (fun u => u.1 = I S.c ∧ u.2.1 = I S.N ∧ u.2.2.1 = I S.K ∧ u.2.2.2.1 = I S.mal ∧ PP S u.2.2.2.2.1 ∧ PT S u.2.2.2.2.2.1 u.2.2.2.2.2.2.1 u.2.2.2.2.2.2.2.1 u.2.2.2.2.2.2.2.2.1 u.2.2.2.2.2.2.2.2.2.1 u.2.2.2.2.2.2.2.2.2.2.1 u.2.2.2.2.2.2.2.2.2.2.2.1 u.2.2.2.2.2.2.2.2.2.2.2.2) := by
    unfold m_Prices_fill_65
    refine Ok_bd (c_fillNotes hw C hF hL hpp hc np mp) ?_
    rintro ⟨np2, mp2⟩ h1
    refine Ok_bd (c_fillMoves hw C hF hL hpp hc vp mt bc) ?_
    rintro ⟨vp2, mt2, bc2⟩ h2
    refine Ok_bd (c_fillTurns hw C hF hL hpp hc bt ps) ?_
    rintro ⟨bt2, ps2⟩ h3
    refine Ok_bd (c_fillStrong hw C hF hL hpp hc sp) ?_
    intro sp2 h4
    exact Ok_some ⟨rfl, rfl, rfl, rfl, hpp, h1, h2, h3, h4⟩
  cases h7 : S.on 7 with
  | false =>
    have em : S.mal = 0 := by unfold Su.mal; rw [h7]; rfl
    rw [em] at key
    rw [show B false = I 0 from rfl, if_pos rfl, em]; exact key
  | true =>
    have em : S.mal = S.nu 11 := by unfold Su.mal; rw [h7]; rfl
    rw [em] at key
    rw [show B true = I 1 from rfl, if_neg (by decide), em]; exact key
theorem c_cannotSearch (hw : WF S) (C : CS S nu on gi) (hF : 2000 ≤ F) : m_SpeciesSolver_cannotSearch F (I S.L) nu = some (B (decide (S.L = 0) || decide (8 < S.c))) := by
  have hL := WF_L hw
  have hcn : (S.c : Int) ≤ 200 := by
    have n1 := WF_nu hw 1 (by decide); have lh := WF_lh hw
    have := chl_len (S := S) (S.nu 2 + 1 - S.nu 1).toNat (S.nu 1)
    unfold Su.c Su.cho; omega
  unfold m_SpeciesSolver_cannotSearch
  rw [c_choiceSize hw C hF, bd_S]
  by_cases e1 : S.L = 0
  · rw [if_pos (by rw [e1]; rfl), decide_eq_true e1]; rfl
  · rw [if_neg (by rw [L_0, I_eq (by omega) (by omega) (by omega) (by omega)]; exact e1), decide_eq_false e1]
    by_cases e2 : (S.c : Int) ≤ 8
    · rw [if_pos e2, if_neg (by rw [show (-1 : Int32) = I (-1) from rfl, I_eq (by omega) (by omega) (by omega) (by omega)]; omega), decide_eq_false (by omega)]; rfl
    · rw [if_neg e2, if_pos (by decide), decide_eq_true (by omega)]; rfl
theorem c_searchOnce (hw : WF S) (C : CS S nu on gi) (hF : 2000 ≤ F) (hL : 0 < S.L) (hc : S.c ≤ 8) {sr : Bool} {mk : Int} {lm : List Int} {z1 z2 z3 z4 : Int32} {pi np mp vp mt bc bt ps sp : Nat → Int32} {top cl lc : Int32} {al ll : Int64} {ls sz nx pl ma rc : Nat → Int32} {rl rt : Nat → Int64} {lo tr : Nat → Int32} (hk : 0 ≤ mk ∧ mk < 800000000) (hm : MK mk ma lm) (hs : SRS S sr z2 pi lc al ll lo) : Ok (m_SpeciesSolver_searchOnce F (I S.L) (I S.n) (I S.K) (B S.ab) nu on gi (B sr) z1 z2 z3 z4 pi np mp vp mt bc bt ps sp (I mk) top cl lc al ll ls sz nx pl ma rc rl rt lo tr) (fun u => u.1 = B true ∧ GD S S.tot u.2.2.2.2.2.2.2.2.2.2.2.2.2.2.2.2.2.1 u.2.2.2.2.2.2.2.2.2.2.2.2.2.2.2.2.2.2.1 u.2.2.2.2.2.2.2.2.2.2.2.2.2.2.2.2.2.2.2.1 u.2.2.2.2.2.2.2.2.2.2.2.2.2.2.2.2.2.2.2.2.2.2.2.2.2.2.2.2.1 ∧ PP S u.2.2.2.2.2.1 ∧ u.2.2.1 = I S.N ∧ ∃ mk2 lm2, u.2.2.2.2.2.2.2.2.2.2.2.2.2.2.1 = I mk2 ∧ mk ≤ mk2 ∧ mk2 ≤ mk + 800 ∧ MK mk2 u.2.2.2.2.2.2.2.2.2.2.2.2.2.2.2.2.2.2.2.2.2.2.2.2.1 lm2) := by
  have hN2 := WF_N2 hw hL
  unfold m_SpeciesSolver_searchOnce
  rw [L_0]
  simp only [B_0]
  cases hsr : sr with
  | true =>
    simp only [Bool.true_eq_false, if_false]
    obtain ⟨_, _, a1, a2, a3⟩ := hs hsr
    exact Ok_some ⟨rfl, a1, a2, a3, mk, lm, rfl, by omega, by omega, hm⟩
  | false =>
    simp only [if_true]
    refine Ok_bd (c_fill hw C hF hL hc) ?_
    rintro ⟨y1, y2, y3, y4, pi2, np2, mp2, vp2, mt2, bc2, bt2, ps2, sp2⟩ ⟨u1, u2, u3, u4, u5, u6⟩
    simp only at u1 u2 u3 u4 u5 u6 ⊢
    subst u1; subst u2; subst u3; subst u4
    refine Ok_bd (c_run hw u6 hF hc hN2 (CS_on C) hk top cl lc al ll ls sz nx pl ma rc rl rt lo tr hm) ?_
    rintro ⟨w0, w1, w2, w3, w4, w5, w6, w7, w8, w9, w10, w11, w12, w13, w14, w15⟩ ⟨v1, mk2, lm2, v2, v3, v4, v5⟩
    simp only at v1 v2 v3 v4 v5 ⊢
    exact Ok_some ⟨rfl, v1, u5, rfl, mk2, lm2, v2, v3, v4, v5⟩
theorem c_writeLine (hw : WF S) (hc : S.c ≤ 8) (hN2 : 2 ≤ S.N) {pi lo : Nat → Int32} {ln : Nat → Nat} (hp : PP S pi) (hln : ∀ i, i ≤ S.last → ln i < S.c ∧ lo i = I (ln i)) : ∀ (r n j : Nat) (X : Nat → Int32), S.last + 1 - j = r → r < n → j ≤ S.last + 1 → (∀ i, i < j → X i = I (S.P (ln i))) → Ok (m_Search_writeLine_7 F (I S.N) pi lo n (I j) X (I j)) (fun u => u.1 = I S.N ∧ ∀ i, i ≤ S.last → u.2 i = I (S.P (ln i)))
  | 0, n, j, X, e, hn, hj, ht => by
    obtain ⟨k, rfl⟩ : ∃ k, n = k + 1 := ⟨n - 1, by omega⟩
    have hN := WF_N hw; have hl := last_N hN2
    simp only [m_Search_writeLine_7, m_Search_writeLine_7b]
    simp (disch := omega) only [gd_I, nz_I, bd_S, gb_B, nar_B, I_add, I_sub, I_mul, I_neg, I_div, I_nat, I_lt, I_le, I_eq, B_0, B_1, L_0, L_1, L_2, L_3, L_4, L_5, L_6, L_7, L_8, L_9, L_10, L_11, L_12, L_13, L_14, L_15, L_16, L_17, L_24, L_31, L_45, L_80, L_127, L_200, L_640, L_1280, L_1000000000, T_0, T_1, T_2, T_3, T_4, T_5, T_6, T_7, T_8, T_9, T_10, T_11, T_12, T_13, T_14, T_15, T_16, T_17]
    rw [if_pos (by omega)]
    refine Ok_some ⟨?_, fun i hi => ht i (by omega)⟩
    simp only; congr 1; omega
  | r + 1, n, j, X, e, hn, hj, ht => by
    obtain ⟨k, rfl⟩ : ∃ k, n = k + 1 := ⟨n - 1, by omega⟩
    have hN := WF_N hw; have hl := last_N hN2
    obtain ⟨a1, a2⟩ := hln j (by omega)
    have ep := hp (ln j : Nat) (by omega) (by omega)
    rw [Int.toNat_natCast] at ep
    have ej : (j : Int) + 1 = ((j + 1 : Nat) : Int) := by omega
    have eap : m_Line_append (I j) X (I (S.P (ln j : Nat))) = some (I ((j + 1 : Nat) : Int), upd X j (I (S.P (ln j : Nat)))) := by
      unfold m_Line_append
      simp (disch := omega) only [gd_I, nz_I, bd_S, gb_B, nar_B, I_add, I_sub, I_mul, I_neg, I_div, I_nat, I_lt, I_le, I_eq, B_0, B_1, L_0, L_1, L_2, L_3, L_4, L_5, L_6, L_7, L_8, L_9, L_10, L_11, L_12, L_13, L_14, L_15, L_16, L_17, L_24, L_31, L_45, L_80, L_127, L_200, L_640, L_1280, L_1000000000, T_0, T_1, T_2, T_3, T_4, T_5, T_6, T_7, T_8, T_9, T_10, T_11, T_12, T_13, T_14, T_15, T_16, T_17, Int.toNat_natCast, ej]
      rw [if_neg (by omega)]
    simp only [m_Search_writeLine_7, m_Search_writeLine_7b]
    simp (disch := omega) only [gd_I, nz_I, bd_S, gb_B, nar_B, I_add, I_sub, I_mul, I_neg, I_div, I_nat, I_lt, I_le, I_eq, B_0, B_1, L_0, L_1, L_2, L_3, L_4, L_5, L_6, L_7, L_8, L_9, L_10, L_11, L_12, L_13, L_14, L_15, L_16, L_17, L_24, L_31, L_45, L_80, L_127, L_200, L_640, L_1280, L_1000000000, T_0, T_1, T_2, T_3, T_4, T_5, T_6, T_7, T_8, T_9, T_10, T_11, T_12, T_13, T_14, T_15, T_16, T_17, Int.toNat_natCast, a2, ep, eap, ej]
    rw [if_neg (by omega)]
    refine c_writeLine hw hc hN2 hp hln r k (j + 1) _ (by omega) (by omega) (by omega) (fun i hi => ?_)
    by_cases e2 : i = j
    · subst e2; exact upd_at _ _ _
    · rw [upd_ne _ _ e2]; exact ht i (by omega)
theorem c_reachC (hw : WF S) (C : CS S nu on gi) (hF : 2000 ≤ F) (hL : 0 < S.L) (hc : S.c ≤ 8) {mk : Int} {lm : List Int} {z1 z2 z3 z4 : Int32} {pi np mp vp mt bc bt ps sp : Nat → Int32} {top cl : Int32} {ls sz ma : Nat → Int32} (hk : 0 ≤ mk ∧ mk < 800000000) (hm : MK mk ma lm) : Ok (m_SpeciesSolver_reach F (I S.L) (I S.n) (I S.K) (B S.ab) nu on gi z1 z2 z3 z4 pi np mp vp mt bc bt ps sp (I mk) top cl ls sz ma) (fun u => (∃ f, u.1 = I (f : Nat) ∧ RF S f) ∧ PP S u.2.2.2.2.2.1 ∧ u.2.2.1 = I S.N ∧ ∃ mk2 lm2, u.2.2.2.2.2.2.2.2.2.2.2.2.2.2.1 = I mk2 ∧ mk ≤ mk2 ∧ mk2 ≤ mk + 800 ∧ MK mk2 u.2.2.2.2.2.2.2.2.2.2.2.2.2.2.2.2.2.2.2 lm2) := by
  have hN2 := WF_N2 hw hL
  unfold m_SpeciesSolver_reach
  rw [c_cannotSearch hw C hF, bd_S]
  have e0 : (decide (S.L = 0) || decide (8 < S.c)) = false := by simp; omega
  rw [e0, show B false = 0 from rfl, if_pos rfl]
  refine Ok_bd (c_fill hw C hF hL hc) ?_
  rintro ⟨y1, y2, y3, y4, pi2, np2, mp2, vp2, mt2, bc2, bt2, ps2, sp2⟩ ⟨u1, u2, u3, u4, u5, u6⟩
  simp only at u1 u2 u3 u4 u5 u6 ⊢
  subst u1; subst u2; subst u3; subst u4
  unfold m_Search_longestBeginning
  have sp := c_spread hw u6 hF hc (t := S.c) (cl := false) (by omega) (by omega) (ls := ls) (sz := sz) hN2 (by omega) hm
  rw [show B false = (0 : Int32) from rfl] at sp
  refine Ok_bd (Ok_bd sp (Q := _) (fun r hr => Ok_some (P := fun (v : Int32 × Int32 × Int32 × Int32 × (Nat → Int32) × (Nat → Int32) × (Nat → Int32)) => ∃ LL f mk' lm', v.1 = I (f : Nat) ∧ SP S S.c false LL f v.2.2.2.2.1 v.2.2.2.2.2.1 ∧ v.2.1 = I mk' ∧ mk ≤ mk' ∧ mk' ≤ mk + 47 ∧ MK mk' v.2.2.2.2.2.2 lm') hr)) ?_
  rintro ⟨w0, w1, w2, w3, w4, w5, w6⟩ ⟨LL, f, mk', lm', v1, v2, v3, v4, v5, v6⟩
  simp only at v1 v2 v3 v4 v5 v6 ⊢
  exact Ok_some ⟨⟨f, v1, SP_RF hw hc hN2 v2⟩, u5, rfl, mk', lm', v3, v4, by omega, v6⟩
end
