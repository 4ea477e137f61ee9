/-! pure part: the class's weigh, its loops -/
def RL (S : Su) (t : Int) (j : Nat) (l : List Int) (rc : Nat → Int32) (rl rt : Nat → Int64) (X : Nat) : Prop := ∀ i, i < X → rc (par j + i).toNat = I (cN (S.cW t j (l.getD i 0)).1) ∧ rl (par j + i).toNat = (S.cW t j (l.getD i 0)).2.1 ∧ rt (par j + i).toNat = (S.cW t j (l.getD i 0)).2.2.1
def NX (S : Su) (t : Int) (j : Nat) (l l' : List Int) (nx : Nat → Int32) (X : Nat) : Prop := ∀ i, i < X → (S.cW t j (l.getD i 0)).1 ≠ none → ∃ p : Nat, p < l'.length ∧ nx (j * 1280 + i) = I p ∧ l'.getD p 0 = S.cnx t (j + 1) (l.getD i 0) (S.cW t j (l.getD i 0)).2.2.2
section
variable {S : Su} {np mp vp mt bc bt ps sp : Nat → Int32} {F : Nat} {t : Int}
theorem c_ws47 (hw : WF S) (hp : PT S np mp vp mt bc bt ps sp) (hF : 2000 ≤ F) (hc : S.c ≤ 8) (t0 : 0 ≤ t) (t1 : t ≤ 8) {ls pl nx0 rc0 : Nat → Int32} {rl0 rt0 : Nat → Int64} {j i : Nat} {l l' : List Int} (hj : j < S.last) (hi : i < l.length) (hg : GL S l) (hg2 : GL S l') (hst : StepL S t true (j + 1) l l') (hpl : PLC pl l' l'.length) (hrl : RL S t (j + 1) l' rc0 rl0 rt0 l'.length) : ∀ (r n q : Nat) (nx rc : Nat → Int32) (rl rt : Nat → Int64), S.c - q = r → r < n → q ≤ S.c → (∀ k, k ≠ (par j + i).toNat → rc k = rc0 k ∧ rl k = rl0 k ∧ rt k = rt0 k) → rc (par j + i).toNat = I (cN (foldW (S.cf t j (l.getD i 0)) q).1) → rl (par j + i).toNat = (foldW (S.cf t j (l.getD i 0)) q).2.1 → rt (par j + i).toNat = (foldW (S.cf t j (l.getD i 0)) q).2.2.1 → (∀ k, k ≠ j * 1280 + i → nx k = nx0 k) → ((foldW (S.cf t j (l.getD i 0)) q).1 ≠ none → ∃ p : Nat, p < l'.length ∧ nx (j * 1280 + i) = I p ∧ l'.getD p 0 = S.cnx t (j + 1) (l.getD i 0) (foldW (S.cf t j (l.getD i 0)) q).2.2.2) → Ok (m_Search_weighState_47 F (I S.c) (I S.N) (I S.K) (I S.mal) np mp vp mt bc bt ps sp (I t) (B true) ls pl n nx rc rl rt (I j) (I i) (I (l.getD i 0)) (I (par j + i)) (I q)) (fun u => (∀ k, k ≠ (par j + i).toNat → u.2.1 k = rc0 k ∧ u.2.2.1 k = rl0 k ∧ u.2.2.2 k = rt0 k) ∧ u.2.1 (par j + i).toNat = I (cN (S.cW t j (l.getD i 0)).1) ∧ u.2.2.1 (par j + i).toNat = (S.cW t j (l.getD i 0)).2.1 ∧ u.2.2.2 (par j + i).toNat = (S.cW t j (l.getD i 0)).2.2.1 ∧ (∀ k, k ≠ j * 1280 + i → u.1 k = nx0 k) ∧ ((S.cW t j (l.getD i 0)).1 ≠ none → ∃ p : Nat, p < l'.length ∧ u.1 (j * 1280 + i) = I p ∧ l'.getD p 0 = S.cnx t (j + 1) (l.getD i 0) (S.cW t j (l.getD i 0)).2.2.2))
  | 0, n, q, nx, rc, rl, rt, e, hn, hq, a1, a2, a3, a4, a5, a6 => by
    obtain ⟨k, rfl⟩ : ∃ k, n = k + 1 := ⟨n - 1, by omega⟩
    have eq : q = S.c := by omega
    subst eq
    rw [cW_step hj]
    simp only [m_Search_weighState_47, m_Search_weighState_47b]
    rw [if_pos (by rw [I_le (by omega) (by omega) (by omega) (by omega)]; omega)]
    exact Ok_some ⟨a1, a2, a3, a4, a5, a6⟩
  | r + 1, n, q, nx, rc, rl, rt, e, hn, hq, a1, a2, a3, a4, a5, a6 => by
    obtain ⟨k, rfl⟩ : ∃ k, n = k + 1 := ⟨n - 1, by omega⟩
    have hN := WF_N hw; have l44 := last45 hw
    have hl2 : (S.last : Int) = S.N - 1 := by unfold Su.last at hj ⊢; omega
    have len := GL_len hc hg; have len2 := GL_len hc hg2
    have hs := hg.2 _ (getD_mem hi)
    have ej : I (j : Int) + I 1 = I ((j + 1 : Nat) : Int) := by rw [I_add]; congr 1
    have eq1 : I (q : Int) + I 1 = I ((q + 1 : Nat) : Int) := by rw [I_add]; congr 1
    have pj := par_r (by omega : 0 ≤ (j : Int)); have pj1 := par_r (by omega : 0 ≤ (j : Int) + 1)
    simp only [m_Search_weighState_47, m_Search_weighState_47b, m_Search_weighState_127]
    rw [if_neg (by rw [I_le (by omega) (by omega) (by omega) (by omega)]; omega)]
    rw [show (1 : Int32) = I 1 from rfl, ej, eq1]
    rw [c_priceOf hw hp hc hs t0 t1 (by omega) (by omega) (by omega), bd_S]
    cases hok : S.cok t true (j + 1) (l.getD i 0) q with
    | false =>
      have hf : S.cf t j (l.getD i 0) q = none := by unfold Su.cf; rw [hok]; rfl
      simp only [Bool.false_eq_true, if_false]
      rw [if_pos (by decide)]
      rw [← fold_off hf] at a2 a3 a4 a6
      exact c_ws47 hw hp hF hc t0 t1 hj hi hg hg2 hst hpl hrl r k (q + 1) nx rc rl rt (by omega) (by omega) (by omega) a1 a2 a3 a4 a5 a6
    | true =>
      have hf : S.cf t j (l.getD i 0) q = some (S.cpr (j + 1) (l.getD i 0) q, S.cW t (j + 1) (S.cnx t (j + 1) (l.getD i 0) q)) := by unfold Su.cf; rw [hok]; rfl
      have pr0 := cpr_r hw (j + 1) (l.getD i 0) q
      simp only [if_true]
      rw [show -I 1 = I (-1) from rfl, if_neg (by rw [I_eq (by omega) (by omega) (by omega) (by omega)]; omega)]
      rw [c_stateAfter hw hp hc hs t0 t1 (by omega) (by omega) (cok_al hw hok), bd_S]
      obtain ⟨p, p1, p2⟩ := mem_getD ((hst _).mpr ⟨l.getD i 0, getD_mem hi, q, by omega, hok, rfl⟩)
      have gp := (hg2.2 _ (getD_mem p1)).1
      have ep := hpl p p1
      rw [p2] at ep gp
      have ej2 : ((j + 1 : Nat) : Int) = (j : Int) + 1 := by omega
      rw [gd_I gp.1 (by omega) (by omega), I_nat gp.1 (by omega), ep, c_restAt (by omega) (by omega), bd_S]
      obtain ⟨b1, b2, b3⟩ := hrl p p1
      rw [p2] at b1 b2 b3
      rw [ej2] at b1 b2 b3 ⊢
      have pn := par_ne (j := j) (by omega) (a := p) (b := i) (by omega) (by omega) (by omega) (by omega)
      obtain ⟨c1, c2, c3⟩ := a1 _ pn
      rw [← c1] at b1; rw [← c2] at b2; rw [← c3] at b3
      refine Ok_bd (c_addWay (v := foldW (S.cf t j (l.getD i 0)) q) (b := S.cW t (j + 1) (S.cnx t (j + 1) (l.getD i 0) q)) q (by omega) (by omega) (by omega) (by omega) (by omega) (fun x hx => cf_range hw hx) (fun x hx => cW_range hw hx) (by omega) a2 a3 a4 b1 b2 b3) ?_
      rintro ⟨u0, rc2, rl2, rt2⟩ ⟨f, u1, u2, u3, u4, u5, u6, u7⟩
      simp only at u1 u2 u3 u4 u5 u6 u7 ⊢
      subst u1
      rw [← fold_some hf] at u3 u4 u5 u6 u7
      have a1' : ∀ k, k ≠ (par j + i).toNat → rc2 k = rc0 k ∧ rl2 k = rl0 k ∧ rt2 k = rt0 k := fun k hk => by
        obtain ⟨x1, x2, x3⟩ := u2 k hk
        obtain ⟨y1, y2, y3⟩ := a1 k hk
        exact ⟨x1.trans y1, x2.trans y2, x3.trans y3⟩
      cases f with
      | false =>
        rw [show B false = I 0 from rfl, if_pos (by decide)]
        obtain ⟨v1, v2⟩ := u7 rfl
        refine c_ws47 hw hp hF hc t0 t1 hj hi hg hg2 hst hpl hrl r k (q + 1) nx rc2 rl2 rt2 (by omega) (by omega) (by omega) a1' u3 u4 u5 a5 (fun h9 => ?_)
        rw [v1]; exact a6 (v2 h9)
      | true =>
        rw [show B true = I 1 from rfl, if_neg (by decide)]
        simp (disch := omega) only [gd_I, nz_I, bd_S, gb_B, nar_B, I_add, I_sub, I_mul, I_neg, I_div, I_nat, I_lt, I_le, I_eq, B_0, B_1, L_0, L_1, L_2, L_3, L_4, L_5, L_6, L_7, L_8, L_9, L_10, L_11, L_12, L_13, L_14, L_15, L_16, L_17, L_24, L_31, L_45, L_80, L_127, L_200, L_640, L_1280, L_1000000000, T_0, T_1, T_2, T_3, T_4, T_5, T_6, T_7, T_8, T_9, T_10, T_11, T_12, T_13, T_14, T_15, T_16, T_17]
        have et : ((j : Int) * 1280 + (i : Int)).toNat = j * 1280 + i := by omega
        rw [et]
        refine c_ws47 hw hp hF hc t0 t1 hj hi hg hg2 hst hpl hrl r k (q + 1) (upd nx (j * 1280 + i) (I p)) rc2 rl2 rt2 (by omega) (by omega) (by omega) a1' u3 u4 u5 (fun k hk => by rw [upd_ne _ _ hk]; exact a5 k hk) (fun h9 => ?_)
        refine ⟨p, p1, upd_at _ _ _, ?_⟩
        rw [u6 rfl]; exact p2
theorem c_weighState (hw : WF S) (hp : PT S np mp vp mt bc bt ps sp) (hF : 2000 ≤ F) (hc : S.c ≤ 8) (t0 : 0 ≤ t) (t1 : t ≤ 8) {ls sz pl nx0 rc0 : Nat → Int32} {rl0 rt0 : Nat → Int64} {j i : Nat} {l l' : List Int} (hj : j < S.last) (hi : i < l.length) (hl : Lay ls sz j l) (hg : GL S l) (hg2 : GL S l') (hst : StepL S t true (j + 1) l l') (hpl : PLC pl l' l'.length) (hrl : RL S t (j + 1) l' rc0 rl0 rt0 l'.length) : Ok (m_Search_weighState F (I S.c) (I S.N) (I S.K) (I S.mal) np mp vp mt bc bt ps sp (I t) (B true) ls pl nx0 rc0 rl0 rt0 (I j) (I i)) (fun u => (∀ k, k ≠ (par j + i).toNat → u.2.1 k = rc0 k ∧ u.2.2.1 k = rl0 k ∧ u.2.2.2 k = rt0 k) ∧ u.2.1 (par j + i).toNat = I (cN (S.cW t j (l.getD i 0)).1) ∧ u.2.2.1 (par j + i).toNat = (S.cW t j (l.getD i 0)).2.1 ∧ u.2.2.2 (par j + i).toNat = (S.cW t j (l.getD i 0)).2.2.1 ∧ (∀ k, k ≠ j * 1280 + i → u.1 k = nx0 k) ∧ ((S.cW t j (l.getD i 0)).1 ≠ none → ∃ p : Nat, p < l'.length ∧ u.1 (j * 1280 + i) = I p ∧ l'.getD p 0 = S.cnx t (j + 1) (l.getD i 0) (S.cW t j (l.getD i 0)).2.2.2)) := by
  have l44 := last45 hw; have len := GL_len hc hg
  have pj := par_r (by omega : 0 ≤ (j : Int))
  have et : ((j : Int) * 1280 + (i : Int)).toNat = j * 1280 + i := by omega
  have el := hl.2 i hi
  unfold m_Search_weighState
  rw [c_restAt (by omega) (by omega), bd_S]
  rw [show (1280 : Int32) = I 1280 from rfl, I_mul, I_add, gd_I (by omega) (by omega) (by omega), gd_I (by omega) (by omega) (by omega), gd_I (by omega) (by omega) (by omega), gd_I (by omega) (by omega) (by omega), I_nat (by omega) (by omega), I_nat (by omega) (by omega), et, el]
  refine c_ws47 hw hp hF hc t0 t1 (ls := ls) (nx0 := nx0) (rc0 := rc0) (rl0 := rl0) (rt0 := rt0) hj hi hg hg2 hst hpl hrl _ F 0 nx0 _ _ _ rfl (by omega) (by omega) (fun k hk => ⟨upd_ne _ _ hk, updL_ne _ _ hk, updL_ne _ _ hk⟩) (upd_at _ _ _) (updL_at _ _ _) (updL_at _ _ _) (fun _ _ => rfl) (fun h => absurd rfl h)
end
