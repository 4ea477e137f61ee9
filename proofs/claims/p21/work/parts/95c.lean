/-! pure part: the class's spread -/
/-- a layer under way: its list, with what stands besides left as it was -/
def LW (S : Su) (mk : Int) (j : Nat) (ls0 sz0 : Nat → Int32) (ls sz ma : Nat → Int32) (l : List Int) : Prop := Lay ls sz j l ∧ GL S l ∧ MK mk ma l ∧ (∀ i, i < j * 1280 → ls i = ls0 i) ∧ (∀ i, i ≠ j → sz i = sz0 i)
section
variable {S : Su} {np mp vp mt bc bt ps sp : Nat → Int32} {F : Nat} {t : Int} {cl : Bool}
theorem c_ex37 (hw : WF S) (hp : PT S np mp vp mt bc bt ps sp) (hF : 2000 ≤ F) (hc : S.c ≤ 8) (t0 : 0 ≤ t) (t1 : t ≤ 8) {Q : Int32 × (Nat → Int32) × (Nat → Int32) × (Nat → Int32) → Prop} {k7 : Int32 → (Nat → Int32) → (Nat → Int32) → (Nat → Int32) → Int32 → Int32 → Option (Int32 × (Nat → Int32) × (Nat → Int32) × (Nat → Int32))} {mk : Int} {j i : Nat} {s : Int} {ls0 sz0 : Nat → Int32} (hj0 : 1 ≤ j) (hj : (j : Int) < S.N) (hm0 : 0 ≤ mk) (hm1 : mk < 2000000000) (hs : good S s) (Pre : Int → Prop) (hk : ∀ ls sz ma l, LW S mk j ls0 sz0 ls sz ma l → (∀ y, y ∈ l ↔ Pre y ∨ ∃ q, q < S.c ∧ S.cok t cl j s q = true ∧ y = S.cnx t j s q) → Ok (k7 (I mk) ls sz ma (I j) (I ((i + 1 : Nat) : Int))) Q) : ∀ (r n q : Nat) (ls sz ma : Nat → Int32) (l : List Int), S.c - q = r → r < n → q ≤ S.c → LW S mk j ls0 sz0 ls sz ma l → (∀ y, y ∈ l ↔ Pre y ∨ ∃ q', q' < q ∧ S.cok t cl j s q' = true ∧ y = S.cnx t j s q') → Ok (m_Search_extendTo_37 F (I S.c) (I S.N) (I S.K) (I S.mal) np mp vp mt bc bt ps sp (I t) (B cl) k7 n (I mk) ls sz ma (I j) (I i) (I s) (I q)) Q
  | 0, n, q, ls, sz, ma, l, e, hn, hq, hl, hy => by
    obtain ⟨k, rfl⟩ : ∃ k, n = k + 1 := ⟨n - 1, by omega⟩
    have eq : q = S.c := by omega
    subst eq
    have ei : I (i : Int) + 1 = I ((i + 1 : Nat) : Int) := by rw [L_1, I_add]; congr 1
    simp only [m_Search_extendTo_37, m_Search_extendTo_37b]
    rw [if_pos (by rw [I_le (by omega) (by omega) (by omega) (by omega)]; omega), ei]
    exact hk ls sz ma l hl hy
  | r + 1, n, q, ls, sz, ma, l, e, hn, hq, hl, hy => by
    obtain ⟨k, rfl⟩ : ∃ k, n = k + 1 := ⟨n - 1, by omega⟩
    have hN := WF_N hw
    have eq1 : I (q : Int) + 1 = I ((q + 1 : Nat) : Int) := by rw [L_1, I_add]; congr 1
    simp only [m_Search_extendTo_37, m_Search_extendTo_37b, m_Search_extendTo_74]
    rw [if_neg (by rw [I_le (by omega) (by omega) (by omega) (by omega)]; omega), c_priceOf hw hp hc hs t0 t1 hj0 hj (by omega), bd_S, eq1]
    cases hok : S.cok t cl j s q with
    | false =>
      simp only [Bool.false_eq_true, if_false]
      rw [if_pos (by decide)]
      refine c_ex37 hw hp hF hc t0 t1 hj0 hj hm0 hm1 hs Pre hk r k (q + 1) ls sz ma l (by omega) (by omega) (by omega) hl (fun y => ?_)
      rw [hy y]
      constructor
      · rintro (h | ⟨q', h1, h2, h3⟩)
        · exact Or.inl h
        · exact Or.inr ⟨q', by omega, h2, h3⟩
      · rintro (h | ⟨q', h1, h2, h3⟩)
        · exact Or.inl h
        · refine Or.inr ⟨q', ?_, h2, h3⟩
          by_cases e9 : q' = q
          · subst e9; rw [hok] at h2; cases h2
          · omega
    | true =>
      simp only [if_true]
      have pr0 : 0 ≤ S.cpr j s q ∧ S.cpr j s q < 1000000 := by
        have a := ncost_r hw j (S.P q); have p1 := P_all hw (s % 8); have p2 := P_all hw q
        have b := mcost_r hw p1.1 p1.2 p2.1 p2.2
        have c := scost_r hw j (S.P (s / 64 % 8)) (S.P q)
        unfold Su.cpr; split <;> omega
      have em : (-1 : Int32) = I (-1) := rfl
      rw [em, if_neg (by rw [I_eq (by omega) (by omega) (by omega) (by omega)]; omega)]
      rw [c_stateAfter hw hp hc hs t0 t1 hj (by omega) (cok_al hw hok), bd_S]
      obtain ⟨l1, l2, l3, l4, l5⟩ := hl
      have gn := good_next hw hc hs (by omega) hok
      refine Ok_bd (c_enter hc (by omega) hm0 hm1 l1 l3 l2 gn) ?_
      rintro ⟨ls2, sz2, ma2⟩ ⟨u1, u2, u3, u4⟩
      simp only at u1 u2 u3 u4 ⊢
      refine c_ex37 hw hp hF hc t0 t1 hj0 hj hm0 hm1 hs Pre hk r k (q + 1) ls2 sz2 ma2 (ins l (S.cnx t j s q)) (by omega) (by omega) (by omega) ⟨u1, GL_ins l2 gn, u2, fun i hi => by rw [u3 i hi, l4 i hi], fun i hi => by rw [u4 i hi, l5 i hi]⟩ (fun y => ?_)
      rw [mem_ins, hy y]
      constructor
      · rintro ((h | ⟨q', h1, h2, h3⟩) | h)
        · exact Or.inl h
        · exact Or.inr ⟨q', by omega, h2, h3⟩
        · exact Or.inr ⟨q, by omega, hok, h⟩
      · rintro (h | ⟨q', h1, h2, h3⟩)
        · exact Or.inl (Or.inl h)
        · by_cases e9 : q' = q
          · subst e9; exact Or.inr h3
          · exact Or.inl (Or.inr ⟨q', by omega, h2, h3⟩)
theorem c_ex7 (hw : WF S) (hp : PT S np mp vp mt bc bt ps sp) (hF : 2000 ≤ F) (hc : S.c ≤ 8) (t0 : 0 ≤ t) (t1 : t ≤ 8) {mk : Int} {j : Nat} {ls0 sz0 : Nat → Int32} {l0 : List Int} (hj0 : 1 ≤ j) (hj : (j : Int) < S.N) (hm0 : 0 ≤ mk) (hm1 : mk < 2000000000) (h0 : Lay ls0 sz0 (j - 1) l0) (g0 : GL S l0) : ∀ (r n i : Nat) (ls sz ma : Nat → Int32) (l : List Int), l0.length - i = r → r < n → i ≤ l0.length → LW S mk j ls0 sz0 ls sz ma l → (∀ y, y ∈ l ↔ ∃ i', i' < i ∧ ∃ q, q < S.c ∧ S.cok t cl j (l0.getD i' 0) q = true ∧ y = S.cnx t j (l0.getD i' 0) q) → Ok (m_Search_extendTo_7 F (I S.c) (I S.N) (I S.K) (I S.mal) np mp vp mt bc bt ps sp (I t) (B cl) n (I mk) ls sz ma (I j) (I i)) (fun u => ∃ l', u.1 = I mk ∧ LW S mk j ls0 sz0 u.2.1 u.2.2.1 u.2.2.2 l' ∧ (∀ y, y ∈ l' ↔ ∃ i', i' < l0.length ∧ ∃ q, q < S.c ∧ S.cok t cl j (l0.getD i' 0) q = true ∧ y = S.cnx t j (l0.getD i' 0) q))
  | 0, n, i, ls, sz, ma, l, e, hn, hi, hl, hy => by
    obtain ⟨k, rfl⟩ : ∃ k, n = k + 1 := ⟨n - 1, by omega⟩
    have hN := WF_N hw; have len := GL_len hc g0
    have ei : i = l0.length := by omega
    subst ei
    have es : sz ((j : Int) - 1).toNat = I l0.length := by
      have e1 : ((j : Int) - 1).toNat = j - 1 := by omega
      rw [e1, hl.2.2.2.2 (j - 1) (by omega)]; exact h0.1
    simp only [m_Search_extendTo_7, m_Search_extendTo_7b]
    simp (disch := omega) only [gd_I, nz_I, bd_S, gb_B, nar_B, I_add, I_sub, I_mul, I_neg, I_div, I_nat, I_lt, I_le, I_eq, B_0, B_1, L_0, L_1, L_2, L_3, L_4, L_5, L_6, L_7, L_8, L_9, L_10, L_11, L_12, L_13, L_14, L_15, L_16, L_17, L_24, L_31, L_45, L_80, L_127, L_200, L_640, L_1280, L_1000000000, T_0, T_1, T_2, T_3, T_4, T_5, T_6, T_7, T_8, T_9, T_10, T_11, T_12, T_13, T_14, T_15, T_16, T_17, es]
    simp only [Int.le_refl, if_true]
    exact Ok_some ⟨l, rfl, hl, hy⟩
  | r + 1, n, i, ls, sz, ma, l, e, hn, hi, hl, hy => by
    obtain ⟨k, rfl⟩ : ∃ k, n = k + 1 := ⟨n - 1, by omega⟩
    have hN := WF_N hw; have len := GL_len hc g0
    have es : sz ((j : Int) - 1).toNat = I l0.length := by
      have e1 : ((j : Int) - 1).toNat = j - 1 := by omega
      rw [e1, hl.2.2.2.2 (j - 1) (by omega)]; exact h0.1
    have el : ls (((j : Int) - 1) * 1280 + (i : Int)).toNat = I (l0.getD i 0) := by
      have e1 : (((j : Int) - 1) * 1280 + (i : Int)).toNat = (j - 1) * 1280 + i := by omega
      rw [e1, hl.2.2.2.1 _ (by omega)]; exact h0.2 i (by omega)
    have hgd : good S (l0.getD i 0) := by
      refine g0.2 _ ?_
      rw [List.getD_eq_getElem?_getD, List.getElem?_eq_getElem (by omega)]
      exact List.getElem_mem _
    simp only [m_Search_extendTo_7, m_Search_extendTo_7b]
    simp (disch := omega) only [gd_I, nz_I, bd_S, gb_B, nar_B, I_add, I_sub, I_mul, I_neg, I_div, I_nat, I_lt, I_le, I_eq, B_0, B_1, L_0, L_1, L_2, L_3, L_4, L_5, L_6, L_7, L_8, L_9, L_10, L_11, L_12, L_13, L_14, L_15, L_16, L_17, L_24, L_31, L_45, L_80, L_127, L_200, L_640, L_1280, L_1000000000, T_0, T_1, T_2, T_3, T_4, T_5, T_6, T_7, T_8, T_9, T_10, T_11, T_12, T_13, T_14, T_15, T_16, T_17, es, el]
    rw [if_neg (by omega)]
    have e0 : I 0 = I ((0 : Nat) : Int) := rfl
    rw [e0]
    refine c_ex37 hw hp hF hc t0 t1 hj0 hj hm0 hm1 hgd (fun y => ∃ i', i' < i ∧ ∃ q, q < S.c ∧ S.cok t cl j (l0.getD i' 0) q = true ∧ y = S.cnx t j (l0.getD i' 0) q) (fun ls2 sz2 ma2 l2 hl2 hy2 => ?_) _ F 0 ls sz ma l rfl (by omega) (by omega) hl (fun y => ?_)
    · refine c_ex7 hw hp hF hc t0 t1 hj0 hj hm0 hm1 h0 g0 r k (i + 1) ls2 sz2 ma2 l2 (by omega) (by omega) (by omega) hl2 (fun y => ?_)
      rw [hy2 y]
      constructor
      · rintro (⟨i', h1, h2⟩ | h)
        · exact ⟨i', by omega, h2⟩
        · exact ⟨i, by omega, h⟩
      · rintro ⟨i', h1, h2⟩
        by_cases e9 : i' = i
        · subst e9; exact Or.inr h2
        · exact Or.inl ⟨i', by omega, h2⟩
    · rw [hy y]
      constructor
      · exact fun h => Or.inl h
      · rintro (h | ⟨q', h1, _⟩)
        · exact h
        · omega
def StepL (S : Su) (t : Int) (cl : Bool) (j : Nat) (l l' : List Int) : Prop := ∀ y, y ∈ l' ↔ ∃ s, s ∈ l ∧ ∃ q, q < S.c ∧ S.cok t cl j s q = true ∧ y = S.cnx t j s q
theorem c_extendTo (hw : WF S) (hp : PT S np mp vp mt bc bt ps sp) (hF : 2000 ≤ F) (hc : S.c ≤ 8) (t0 : 0 ≤ t) (t1 : t ≤ 8) {mk : Int} {j : Nat} {ls sz ma : Nat → Int32} {l0 lm : List Int} (hj0 : 1 ≤ j) (hj : (j : Int) < S.N) (hm0 : 0 ≤ mk) (hm1 : mk < 1900000000) (h0 : Lay ls sz (j - 1) l0) (g0 : GL S l0) (hm : MK mk ma lm) : Ok (m_Search_extendTo F (I S.c) (I S.N) (I S.K) (I S.mal) np mp vp mt bc bt ps sp (I t) (B cl) (I mk) ls sz ma (I j)) (fun u => ∃ l', u.1 = I (mk + 1) ∧ Lay u.2.1 u.2.2.1 j l' ∧ GL S l' ∧ MK (mk + 1) u.2.2.2 l' ∧ StepL S t cl j l0 l' ∧ (∀ i, i < j * 1280 → u.2.1 i = ls i) ∧ (∀ i, i ≠ j → u.2.2.1 i = sz i)) := by
  have hN := WF_N hw; have len := GL_len hc g0
  unfold m_Search_extendTo
  rw [c_begin (by omega), bd_S]
  have e0 : (0 : Int32) = I ((0 : Nat) : Int) := rfl
  simp only
  rw [e0]
  have h02 : Lay ls (upd sz j (I 0)) (j - 1) l0 := ⟨by rw [upd_ne _ _ (by omega)]; exact h0.1, h0.2⟩
  refine Ok_mono (c_ex7 hw hp hF hc t0 t1 (ls0 := ls) (sz0 := upd sz j (I 0)) hj0 hj (by omega) (by omega) h02 g0 _ F 0 ls (upd sz j (I 0)) ma [] rfl (by omega) (by omega) ⟨⟨by rw [upd_at]; rfl, fun i hi => absurd hi (Nat.not_lt_zero i)⟩, ⟨List.nodup_nil, fun x hx => by cases hx⟩, MK_begin hm, fun _ _ => rfl, fun _ _ => rfl⟩ (fun y => ?_)) ?_
  · constructor
    · intro h; cases h
    · rintro ⟨i', h1, _⟩; omega
  · rintro u ⟨l', u1, ⟨u2, u3, u4, u5, u6⟩, u7⟩
    refine ⟨l', u1, u2, u3, u4, fun y => ?_, u5, fun i hi => by rw [u6 i hi, upd_ne _ _ hi]⟩
    rw [u7 y]
    constructor
    · rintro ⟨i', h1, h2⟩
      refine ⟨l0.getD i' 0, ?_, h2⟩
      rw [List.getD_eq_getElem?_getD, List.getElem?_eq_getElem h1]
      exact List.getElem_mem _
    · rintro ⟨s, h1, h2⟩
      obtain ⟨i', h3, h4⟩ := List.getElem_of_mem h1
      refine ⟨i', h3, ?_⟩
      rw [List.getD_eq_getElem?_getD, List.getElem?_eq_getElem h3]
      simp only [Option.getD_some]
      rw [h4]; exact h2
end
