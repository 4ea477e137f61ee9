/-! pure part: the class's weigh -/
def cN (x : Option Int) : Int := match x with
  | none => -1
  | some c => c
def Su.cW (S : Su) (t : Int) (j : Nat) (x : Int) : V := VV S.c (S.cok t true) S.cpr (S.cnx t) cfin (S.last - j) j x
def Su.cf (S : Su) (t : Int) (j : Nat) (x : Int) (q : Nat) : Option (Int × V) := if S.cok t true (j + 1) x q then some (S.cpr (j + 1) x q, S.cW t (j + 1) (S.cnx t (j + 1) x q)) else none
theorem cpr_r {S : Su} (hw : WF S) (j : Nat) (x : Int) (q : Nat) : 0 ≤ S.cpr j x q ∧ S.cpr j x q ≤ (200000 : Nat) := by
  have a := ncost_r hw j (S.P q); have p1 := P_all hw (x % 8); have p2 := P_all hw q
  have b := mcost_r hw p1.1 p1.2 p2.1 p2.2
  have c := scost_r hw j (S.P (x / 64 % 8)) (S.P q)
  unfold Su.cpr; split <;> omega
theorem cW_step {S : Su} {t : Int} {j : Nat} {x : Int} (h : j < S.last) : S.cW t j x = foldW (S.cf t j x) S.c := by
  unfold Su.cW
  obtain ⟨d, hd⟩ : ∃ d, S.last - j = d + 1 := ⟨S.last - j - 1, by omega⟩
  have hd2 : S.last - (j + 1) = d := by omega
  rw [hd]
  show foldW _ _ = foldW _ _
  congr 1
  funext q
  unfold Su.cf Su.cW
  rw [hd2]
theorem cW_last {S : Su} {t : Int} {x : Int} : S.cW t S.last x = (some 0, 1, 1, 0) := by
  unfold Su.cW; rw [Nat.sub_self]; rfl
theorem cW_none {S : Su} {t : Int} {j : Nat} {x : Int} (h : (S.cW t j x).1 = none) : S.cW t j x = V0 := VV_none (fun _ h => by cases h) h
theorem cW_range {S : Su} (hw : WF S) {t : Int} {j : Nat} {x : Int} {y : Int} (h : (S.cW t j x).1 = some y) : 0 ≤ y ∧ y ≤ 9000000 := by
  have r := VV_range (W := 200000) (fun s x h => by unfold cfin at h; injection h with h; exact h.symm) (cpr_r hw) h
  have l := last45 hw
  have e : ((S.last - j : Nat) : Int) ≤ 44 := by omega
  omega
theorem cf_range {S : Su} (hw : WF S) {t : Int} {j : Nat} {x : Int} {k : Nat} {y : Int} (h : (foldW (S.cf t j x) k).1 = some y) : 0 ≤ y ∧ y ≤ 9500000 := by
  obtain ⟨_, ⟨p, b, d, e1, e2, e3⟩, _, _⟩ := fold_min h
  generalize (foldW (S.cf t j x) k).2.2.2 = q0 at e1
  unfold Su.cf at e1
  split at e1
  · injection e1 with e1
    injection e1 with e4 e5
    have a := cpr_r hw (j + 1) x q0
    rw [← e5] at e2
    have b := cW_range hw e2
    omega
  · cases e1
theorem cN_r {o : Option Int} (h : ∀ x, o = some x → 0 ≤ x ∧ x ≤ 9500000) : -1 ≤ cN o ∧ cN o ≤ 9500000 := by
  cases o with
  | none => exact ⟨by decide, by decide⟩
  | some x => have := h x rfl; unfold cN; simp only; omega
theorem c_addWay {v b : V} {rc : Nat → Int32} {rl rt : Nat → Int64} {a bb : Int} {pr : Int} (q : Nat) (a0 : 0 ≤ a) (a1 : a < 2560) (b0 : 0 ≤ bb) (b1 : bb < 2560) (hne : a ≠ bb) (hv : ∀ x, v.1 = some x → 0 ≤ x ∧ x ≤ 9500000) (hb9 : ∀ x, b.1 = some x → 0 ≤ x ∧ x ≤ 9000000) (pr0 : 0 ≤ pr ∧ pr ≤ 200000) (ha : rc a.toNat = I (cN v.1)) (hla : rl a.toNat = v.2.1) (hta : rt a.toNat = v.2.2.1) (hb : rc bb.toNat = I (cN b.1)) (hlb : rl bb.toNat = b.2.1) (htb : rt bb.toNat = b.2.2.1) : Ok (m_Search_addWay rc rl rt (I a) (I bb) (I pr)) (fun u => ∃ f : Bool, u.1 = B f ∧ (∀ k, k ≠ a.toNat → u.2.1 k = rc k ∧ u.2.2.1 k = rl k ∧ u.2.2.2 k = rt k) ∧ u.2.1 a.toNat = I (cN (addW v q pr b).1) ∧ u.2.2.1 a.toNat = (addW v q pr b).2.1 ∧ u.2.2.2 a.toNat = (addW v q pr b).2.2.1 ∧ (f = true → (addW v q pr b).2.2.2 = q) ∧ (f = false → (addW v q pr b).2.2.2 = v.2.2.2 ∧ ((addW v q pr b).1 ≠ none → v.1 ≠ none))) := by
  unfold m_Search_addWay m_Search_addWay_58
  cases eb : b.1 with
  | none =>
    have e1 : cN (none : Option Int) = -1 := rfl
    rw [eb, e1] at hb
    rw [addW_none eb]
    simp (disch := omega) only [gd_I, nz_I, bd_S, gb_B, nar_B, I_add, I_sub, I_mul, I_neg, I_div, I_nat, I_lt, I_le, I_eq, B_0, B_1, L_0, L_1, L_2, L_3, L_4, L_5, L_6, L_7, L_8, L_9, L_10, L_11, L_12, L_13, L_14, L_15, L_16, L_17, L_24, L_31, L_45, L_80, L_127, L_200, L_640, L_1280, L_1000000000, T_0, T_1, T_2, T_3, T_4, T_5, T_6, T_7, T_8, T_9, T_10, T_11, T_12, T_13, T_14, T_15, T_16, T_17, hb, ha, hla, hta]
    simp only [if_true]
    exact Ok_some ⟨false, rfl, fun k hk => ⟨rfl, rfl, rfl⟩, ha, hla, hta, fun e => (by cases e), fun _ => ⟨(by first | rfl | trivial), fun h => h⟩⟩
  | some d =>
    have e1 : cN (some d) = d := rfl
    rw [eb, e1] at hb
    have d9 := hb9 d eb
    have hn2 : bb.toNat ≠ a.toNat := by omega
    cases ea : v.1 with
    | none =>
      have e2 : cN (none : Option Int) = -1 := rfl
      rw [ea, e2] at ha
      have eA : addW v q pr b = (some (pr + d), v.2.1 + b.2.1, b.2.2.1, q) := by unfold addW; rw [eb, ea]
      rw [eA]
      simp (disch := omega) only [gd_I, nz_I, bd_S, gb_B, nar_B, I_add, I_sub, I_mul, I_neg, I_div, I_nat, I_lt, I_le, I_eq, B_0, B_1, L_0, L_1, L_2, L_3, L_4, L_5, L_6, L_7, L_8, L_9, L_10, L_11, L_12, L_13, L_14, L_15, L_16, L_17, L_24, L_31, L_45, L_80, L_127, L_200, L_640, L_1280, L_1000000000, T_0, T_1, T_2, T_3, T_4, T_5, T_6, T_7, T_8, T_9, T_10, T_11, T_12, T_13, T_14, T_15, T_16, T_17, hb, ha, hla, hta, hlb, htb]
      rw [if_neg (by omega)]
      simp only [if_true]
      refine Ok_some ⟨true, rfl, fun k hk => ⟨upd_ne _ _ hk, updL_ne _ _ hk, updL_ne _ _ hk⟩, upd_at _ _ _, ?_, ?_, fun _ => (by first | rfl | trivial), fun e => (by cases e)⟩
      · exact updL_at _ _ _
      · exact updL_at _ _ _
    | some x =>
      have e2 : cN (some x) = x := rfl
      rw [ea, e2] at ha
      have x9 := hv x ea
      by_cases l1 : pr + d < x
      · have eA : addW v q pr b = (some (pr + d), v.2.1 + b.2.1, b.2.2.1, q) := by unfold addW; rw [eb, ea]; simp only; rw [if_pos l1]
        rw [eA]
        simp (disch := omega) only [gd_I, nz_I, bd_S, gb_B, nar_B, I_add, I_sub, I_mul, I_neg, I_div, I_nat, I_lt, I_le, I_eq, B_0, B_1, L_0, L_1, L_2, L_3, L_4, L_5, L_6, L_7, L_8, L_9, L_10, L_11, L_12, L_13, L_14, L_15, L_16, L_17, L_24, L_31, L_45, L_80, L_127, L_200, L_640, L_1280, L_1000000000, T_0, T_1, T_2, T_3, T_4, T_5, T_6, T_7, T_8, T_9, T_10, T_11, T_12, T_13, T_14, T_15, T_16, T_17, hb, ha, hla, hta, hlb, htb]
        rw [if_neg (by omega), if_neg (by omega), if_neg (by omega)]
        refine Ok_some ⟨true, rfl, fun k hk => ⟨upd_ne _ _ hk, updL_ne _ _ hk, updL_ne _ _ hk⟩, upd_at _ _ _, ?_, ?_, fun _ => (by first | rfl | trivial), fun e => (by cases e)⟩
        · exact updL_at _ _ _
        · exact updL_at _ _ _
      · by_cases l2 : pr + d = x
        · have eA : addW v q pr b = (some x, v.2.1 + b.2.1, v.2.2.1 + b.2.2.1, v.2.2.2) := by unfold addW; rw [eb, ea]; simp only; rw [if_neg l1, if_pos l2]
          rw [eA]
          simp (disch := omega) only [gd_I, nz_I, bd_S, gb_B, nar_B, I_add, I_sub, I_mul, I_neg, I_div, I_nat, I_lt, I_le, I_eq, B_0, B_1, L_0, L_1, L_2, L_3, L_4, L_5, L_6, L_7, L_8, L_9, L_10, L_11, L_12, L_13, L_14, L_15, L_16, L_17, L_24, L_31, L_45, L_80, L_127, L_200, L_640, L_1280, L_1000000000, T_0, T_1, T_2, T_3, T_4, T_5, T_6, T_7, T_8, T_9, T_10, T_11, T_12, T_13, T_14, T_15, T_16, T_17, hb, ha, hla, hta, hlb, htb]
          rw [if_neg (by omega), if_neg (by omega), if_pos (by omega), if_pos l2]
          refine Ok_some ⟨false, rfl, fun k hk => ⟨rfl, updL_ne _ _ hk, updL_ne _ _ hk⟩, ha, ?_, ?_, fun e => (by cases e), fun _ => ⟨(by first | rfl | trivial), fun _ h => (by cases h)⟩⟩
          · exact updL_at _ _ _
          · exact updL_at _ _ _
        · have eA : addW v q pr b = (some x, v.2.1 + b.2.1, v.2.2.1, v.2.2.2) := by unfold addW; rw [eb, ea]; simp only; rw [if_neg l1, if_neg l2]
          rw [eA]
          simp (disch := omega) only [gd_I, nz_I, bd_S, gb_B, nar_B, I_add, I_sub, I_mul, I_neg, I_div, I_nat, I_lt, I_le, I_eq, B_0, B_1, L_0, L_1, L_2, L_3, L_4, L_5, L_6, L_7, L_8, L_9, L_10, L_11, L_12, L_13, L_14, L_15, L_16, L_17, L_24, L_31, L_45, L_80, L_127, L_200, L_640, L_1280, L_1000000000, T_0, T_1, T_2, T_3, T_4, T_5, T_6, T_7, T_8, T_9, T_10, T_11, T_12, T_13, T_14, T_15, T_16, T_17, hb, ha, hla, hta, hlb, htb]
          rw [if_neg (by omega), if_neg (by omega), if_pos (by omega), if_neg l2]
          refine Ok_some ⟨false, rfl, fun k hk => ⟨rfl, updL_ne _ _ hk, rfl⟩, ha, ?_, hta, fun e => (by cases e), fun _ => ⟨(by first | rfl | trivial), fun _ h => (by cases h)⟩⟩
          exact updL_at _ _ _
theorem getD_mem {l : List Int} {i : Nat} (h : i < l.length) : l.getD i 0 ∈ l := by
  rw [List.getD_eq_getElem?_getD, List.getElem?_eq_getElem h]
  exact List.getElem_mem _
theorem mem_getD {l : List Int} {x : Int} (h : x ∈ l) : ∃ i, i < l.length ∧ l.getD i 0 = x := by
  obtain ⟨i, h1, h2⟩ := List.getElem_of_mem h
  refine ⟨i, h1, ?_⟩
  rw [List.getD_eq_getElem?_getD, List.getElem?_eq_getElem h1]
  exact h2
theorem getD_inj {l : List Int} (hd : l.Nodup) {i k : Nat} (hi : i < l.length) (hk : k < l.length) (e : l.getD i 0 = l.getD k 0) : i = k := by
  rw [List.getD_eq_getElem?_getD, List.getElem?_eq_getElem hi, List.getD_eq_getElem?_getD, List.getElem?_eq_getElem hk] at e
  simp only [Option.getD_some] at e
  exact (List.getElem?_inj hi hd).mp (by rw [List.getElem?_eq_getElem hi, List.getElem?_eq_getElem hk, e])
def PLC (pl : Nat → Int32) (l : List Int) (X : Nat) : Prop := ∀ i, i < X → pl (l.getD i 0).toNat = I i
theorem c_places {S : Su} (hc : S.c ≤ 8) {ls sz : Nat → Int32} {j F : Nat} {l : List Int} (hj : j < 45) (hl : Lay ls sz j l) (hg : GL S l) : ∀ (r n i : Nat) (pl : Nat → Int32), l.length - i = r → r < n → i ≤ l.length → PLC pl l i → Ok (m_Search_writePlaces_2 F ls sz n pl (I j) (I i)) (fun u => PLC u l l.length)
  | 0, n, i, pl, e, hn, hi, hp => by
    obtain ⟨k, rfl⟩ : ∃ k, n = k + 1 := ⟨n - 1, by omega⟩
    have len := GL_len hc hg
    have ei : i = l.length := by omega
    subst ei
    simp only [m_Search_writePlaces_2, m_Search_writePlaces_2b]
    simp (disch := omega) only [gd_I, nz_I, bd_S, gb_B, nar_B, I_add, I_sub, I_mul, I_neg, I_div, I_nat, I_lt, I_le, I_eq, B_0, B_1, L_0, L_1, L_2, L_3, L_4, L_5, L_6, L_7, L_8, L_9, L_10, L_11, L_12, L_13, L_14, L_15, L_16, L_17, L_24, L_31, L_45, L_80, L_127, L_200, L_640, L_1280, L_1000000000, T_0, T_1, T_2, T_3, T_4, T_5, T_6, T_7, T_8, T_9, T_10, T_11, T_12, T_13, T_14, T_15, T_16, T_17, Int.toNat_natCast, hl.1]
    simp only [Int.le_refl, if_true]
    exact Ok_some hp
  | r + 1, n, i, pl, e, hn, hi, hp => by
    obtain ⟨k, rfl⟩ : ∃ k, n = k + 1 := ⟨n - 1, by omega⟩
    have len := GL_len hc hg
    have gd9 := (hg.2 _ (getD_mem (by omega : i < l.length))).1
    have et : ((j : Int) * 1280 + (i : Int)).toNat = j * 1280 + i := by omega
    have el := hl.2 i (by omega)
    have ei : (i : Int) + 1 = ((i + 1 : Nat) : Int) := by omega
    simp only [m_Search_writePlaces_2, m_Search_writePlaces_2b]
    simp (disch := omega) only [gd_I, nz_I, bd_S, gb_B, nar_B, I_add, I_sub, I_mul, I_neg, I_div, I_nat, I_lt, I_le, I_eq, B_0, B_1, L_0, L_1, L_2, L_3, L_4, L_5, L_6, L_7, L_8, L_9, L_10, L_11, L_12, L_13, L_14, L_15, L_16, L_17, L_24, L_31, L_45, L_80, L_127, L_200, L_640, L_1280, L_1000000000, T_0, T_1, T_2, T_3, T_4, T_5, T_6, T_7, T_8, T_9, T_10, T_11, T_12, T_13, T_14, T_15, T_16, T_17, Int.toNat_natCast, hl.1, et, el, ei]
    rw [if_neg (by omega)]
    refine c_places hc hj hl hg r k (i + 1) _ (by omega) (by omega) (by omega) (fun i2 h2 => ?_)
    by_cases e2 : i2 = i
    · subst e2; exact upd_at _ _ _
    · have g2 := (hg.2 _ (getD_mem (by omega : i2 < l.length))).1
      have : l.getD i2 0 ≠ l.getD i 0 := fun e3 => e2 (getD_inj hg.1 (by omega) (by omega) e3)
      rw [upd_ne _ _ (by omega)]
      exact hp i2 (by omega)
