/-! pure part: the class's layers -/
theorem pig : ∀ (n : Nat) (l : List Nat), l.Nodup → (∀ x ∈ l, x < n) → l.length ≤ n
  | 0, l, _, h => by
    cases l with
    | nil => exact Nat.le_refl 0
    | cons a l => exact absurd (h a (List.mem_cons_self)) (Nat.not_lt_zero a)
  | n + 1, l, hd, h => by
    have h1 : (l.erase n).Nodup := hd.erase n
    have h2 : ∀ x ∈ l.erase n, x < n := by
      intro x hx
      have hx2 := (List.Nodup.mem_erase_iff hd).mp hx
      have := h x hx2.2
      omega
    have h3 := pig n (l.erase n) h1 h2
    by_cases hm : n ∈ l
    · have := List.length_erase_of_mem hm
      omega
    · rw [List.erase_of_not_mem hm] at h3; omega
def cix (x : Int) : Nat := ((((if x / 1024 = 0 then x % 8 * 8 + x / 8 % 8 else 64 + x % 8 * 2 + (x / 1024 - 1)) * 8 + x / 64 % 8) * 2 + x / 512 % 2).toNat)
theorem cix_lt {S : Su} (hc : S.c ≤ 8) {x : Int} (h : good S x) : cix x < 1280 := by
  obtain ⟨⟨x0, x1⟩, ⟨a, b, c⟩, d⟩ := h
  unfold cix; split <;> omega
theorem xdec {x : Int} (x0 : 0 ≤ x) (x1 : x < 3072) : x = x % 8 + x / 8 % 8 * 8 + x / 64 % 8 * 64 + x / 512 % 2 * 512 + x / 1024 * 1024 ∧ (0 ≤ x % 8 ∧ x % 8 < 8) ∧ (0 ≤ x / 8 % 8 ∧ x / 8 % 8 < 8) ∧ (0 ≤ x / 64 % 8 ∧ x / 64 % 8 < 8) ∧ (0 ≤ x / 512 % 2 ∧ x / 512 % 2 < 2) ∧ (0 ≤ x / 1024 ∧ x / 1024 ≤ 2) := by omega
theorem cix_inj {S : Su} (hc : S.c ≤ 8) {x y : Int} (h : good S x) (h2 : good S y) (e : cix x = cix y) : x = y := by
  obtain ⟨⟨x0, x1⟩, _, d⟩ := h
  obtain ⟨⟨y0, y1⟩, _, d2⟩ := h2
  obtain ⟨ex, r1, r2, r3, r4, r5⟩ := xdec x0 x1
  obtain ⟨ey, s1, s2, s3, s4, s5⟩ := xdec y0 y1
  unfold cix at e
  rw [ex, ey]
  clear ex ey
  generalize x % 8 = a1 at *; generalize x / 8 % 8 = a2 at *; generalize x / 64 % 8 = a3 at *; generalize x / 512 % 2 = a4 at *; generalize x / 1024 = a5 at *
  generalize y % 8 = b1 at *; generalize y / 8 % 8 = b2 at *; generalize y / 64 % 8 = b3 at *; generalize y / 512 % 2 = b4 at *; generalize y / 1024 = b5 at *
  clear x0 x1 y0 y1
  split at e <;> split at e
  · omega
  · omega
  · omega
  · have := d (by omega); have := d2 (by omega); omega
def GL (S : Su) (l : List Int) : Prop := l.Nodup ∧ ∀ x ∈ l, good S x
theorem map_nodup {f : Int → Nat} : ∀ {l : List Int}, l.Nodup → (∀ x ∈ l, ∀ y ∈ l, f x = f y → x = y) → (l.map f).Nodup
  | [], _, _ => List.nodup_nil
  | a :: l, h, hi => by
    rw [List.nodup_cons] at h
    rw [List.map_cons, List.nodup_cons]
    refine ⟨fun hm => ?_, map_nodup h.2 (fun x hx y hy => hi x (List.mem_cons_of_mem _ hx) y (List.mem_cons_of_mem _ hy))⟩
    obtain ⟨b, hb, e⟩ := List.mem_map.mp hm
    have := hi b (List.mem_cons_of_mem _ hb) a (List.mem_cons_self) e
    subst this; exact h.1 hb
theorem GL_len {S : Su} (hc : S.c ≤ 8) {l : List Int} (h : GL S l) : l.length ≤ 1280 := by
  have := pig 1280 (l.map cix) (map_nodup h.1 (fun x hx y hy e => cix_inj hc (h.2 x hx) (h.2 y hy) e)) (by
    intro x hx
    obtain ⟨y, hy, e⟩ := List.mem_map.mp hx
    rw [← e]; exact cix_lt hc (h.2 y hy))
  rw [List.length_map] at this; exact this
theorem GL_snoc {S : Su} {l : List Int} {x : Int} (h : GL S l) (hx : good S x) (hn : x ∉ l) : GL S (l ++ [x]) := by
  refine ⟨?_, fun y hy => ?_⟩
  · rw [List.nodup_append]
    refine ⟨h.1, by simp, ?_⟩
    intro a ha b hb e
    rw [List.mem_singleton] at hb
    subst hb; subst e; exact hn ha
  · rcases List.mem_append.mp hy with hy | hy
    · exact h.2 y hy
    · rw [List.mem_singleton] at hy; subst hy; exact hx
def Lay (ls sz : Nat → Int32) (j : Nat) (l : List Int) : Prop := sz j = I l.length ∧ ∀ i, i < l.length → ls (j * 1280 + i) = I (l.getD i 0)
def MK (mk : Int) (ma : Nat → Int32) (l : List Int) : Prop := ∀ x : Int, 0 ≤ x → x < 3072 → ∃ v : Int, 0 ≤ v ∧ v ≤ mk ∧ ma x.toNat = I v ∧ (v = mk ↔ x ∈ l)
def ins (l : List Int) (x : Int) : List Int := if x ∈ l then l else l ++ [x]
theorem mem_ins {l : List Int} {x y : Int} : y ∈ ins l x ↔ y ∈ l ∨ y = x := by
  unfold ins
  split
  · rename_i h
    constructor
    · exact fun h2 => Or.inl h2
    · rintro (h2 | h2)
      · exact h2
      · subst h2; exact h
  · rw [List.mem_append, List.mem_singleton]
theorem GL_ins {S : Su} {l : List Int} {x : Int} (h : GL S l) (hx : good S x) : GL S (ins l x) := by
  unfold ins
  split
  · exact h
  · rename_i hn; exact GL_snoc h hx hn
theorem c_begin {mk : Int} {sz : Nat → Int32} {j : Nat} (hj : j < 45) : m_Search_beginLayer (I mk) sz (I j) = some (I (mk + 1), upd sz j (I 0)) := by
  unfold m_Search_beginLayer
  simp (disch := omega) only [gd_I, nz_I, bd_S, gb_B, nar_B, I_add, I_sub, I_mul, I_neg, I_div, I_nat, I_lt, I_le, I_eq, B_0, B_1, L_0, L_1, L_2, L_3, L_4, L_5, L_6, L_7, L_8, L_9, L_10, L_11, L_12, L_13, L_14, L_15, L_16, L_17, L_24, L_31, L_45, L_80, L_127, L_200, L_640, L_1280, L_1000000000, T_0, T_1, T_2, T_3, T_4, T_5, T_6, T_7, T_8, T_9, T_10, T_11, T_12, T_13, T_14, T_15, T_16, T_17, Int.toNat_natCast]
theorem MK_begin {mk : Int} {ma : Nat → Int32} {l : List Int} (h : MK mk ma l) : MK (mk + 1) ma [] := by
  intro x x0 x1
  obtain ⟨v, v0, v1, e, _⟩ := h x x0 x1
  refine ⟨v, v0, by omega, e, ?_⟩
  constructor
  · intro h; omega
  · intro h; cases h
theorem getD_l {l : List Int} {x : Int} {i : Nat} (h : i < l.length) : (l ++ [x]).getD i 0 = l.getD i 0 := by
  rw [List.getD_eq_getElem?_getD, List.getD_eq_getElem?_getD, List.getElem?_append_left h]
theorem getD_r {l : List Int} {x : Int} : (l ++ [x]).getD l.length 0 = x := by
  rw [List.getD_eq_getElem?_getD, List.getElem?_append_right (Nat.le_refl _)]; simp
theorem c_enter {S : Su} (hc : S.c ≤ 8) {mk : Int} {ls sz ma : Nat → Int32} {j : Nat} {l : List Int} {x : Int} (hj : j < 45) (hm0 : 0 ≤ mk) (hm1 : mk < 2000000000) (hl : Lay ls sz j l) (hm : MK mk ma l) (hg : GL S l) (hx : good S x) : Ok (m_Search_enter (I mk) ls sz ma (I j) (I x)) (fun u => Lay u.1 u.2.1 j (ins l x) ∧ MK mk u.2.2 (ins l x) ∧ (∀ i, i < j * 1280 → u.1 i = ls i) ∧ (∀ i, i ≠ j → u.2.1 i = sz i)) := by
  obtain ⟨v, v0, v1, ev, hv⟩ := hm x hx.1.1 hx.1.2
  obtain ⟨l1, l2⟩ := hl
  have len := GL_len hc hg
  have x0 := hx.1.1; have x1 := hx.1.2
  unfold m_Search_enter
  simp (disch := omega) only [gd_I, nz_I, bd_S, gb_B, nar_B, I_add, I_sub, I_mul, I_neg, I_div, I_nat, I_lt, I_le, I_eq, B_0, B_1, L_0, L_1, L_2, L_3, L_4, L_5, L_6, L_7, L_8, L_9, L_10, L_11, L_12, L_13, L_14, L_15, L_16, L_17, L_24, L_31, L_45, L_80, L_127, L_200, L_640, L_1280, L_1000000000, T_0, T_1, T_2, T_3, T_4, T_5, T_6, T_7, T_8, T_9, T_10, T_11, T_12, T_13, T_14, T_15, T_16, T_17, Int.toNat_natCast, ev, l1]
  by_cases e : v = mk
  · rw [if_pos e]
    have hm9 := hv.mp e
    have ei : ins l x = l := by unfold ins; rw [if_pos hm9]
    rw [ei]
    exact Ok_some ⟨⟨l1, l2⟩, hm, fun _ _ => rfl, fun _ _ => rfl⟩
  · rw [if_neg e]
    have hn : x ∉ l := fun h => e (hv.mpr h)
    have len2 := GL_len hc (GL_snoc hg hx hn)
    rw [List.length_append, List.length_singleton] at len2
    rw [if_neg (by omega)]
    have ei : ins l x = l ++ [x] := by unfold ins; rw [if_neg hn]
    rw [ei]
    have et : ((j : Int) * 1280 + (l.length : Int)).toNat = j * 1280 + l.length := by omega
    rw [et]
    refine Ok_some ⟨⟨?_, fun i hi => ?_⟩, fun y y0 y1 => ?_, fun i hi => ?_, fun i hi => ?_⟩
    · simp only
      rw [upd_at, List.length_append, List.length_singleton]; congr 1
    · simp only
      rw [List.length_append, List.length_singleton] at hi
      by_cases e2 : i = l.length
      · subst e2
        rw [upd_at, getD_r]
      · rw [upd_ne _ _ (by omega), getD_l (by omega)]
        exact l2 i (by omega)
    · simp only
      by_cases e2 : y = x
      · subst e2
        refine ⟨mk, hm0, Int.le_refl _, upd_at _ _ _, ?_⟩
        simp
      · obtain ⟨w, w0, w1, ew, hw⟩ := hm y y0 y1
        refine ⟨w, w0, w1, ?_, ?_⟩
        · rw [upd_ne _ _ (by omega)]; exact ew
        · rw [hw, List.mem_append, List.mem_singleton]
          constructor
          · exact fun h => Or.inl h
          · rintro (h | h)
            · exact h
            · exact absurd h e2
    · simp only; rw [upd_ne _ _ (by omega)]
    · simp only; rw [upd_ne _ _ hi]
theorem cok_al {S : Su} (hw : WF S) {t x : Int} {cl : Bool} {j q : Nat} (h : S.cok t cl j x q = true) : (q : Int) = x % 8 → 0 < S.mal → x / 1024 + 1 < 3 := by
  intro e1 e2
  have hm := mal_r hw
  unfold Su.cok at h
  simp only [Bool.and_eq_true, Bool.not_eq_true'] at h
  have h4 := h.1.1.1.2
  simp only [Bool.and_eq_false_iff, decide_eq_false_iff_not] at h4
  omega
theorem good_next {S : Su} (hw : WF S) (hc : S.c ≤ 8) {t x : Int} {cl : Bool} {j q : Nat} (hx : good S x) (hq : q < S.c) (h : S.cok t cl j x q = true) : good S (S.cnx t j x q) := by
  have ha := cok_al hw h
  obtain ⟨⟨x0, x1⟩, ⟨a, b, c⟩, d⟩ := hx
  have hA : 0 ≤ (if (q : Int) = x % 8 ∧ 0 < S.mal then x / 1024 + 1 else 0) ∧ (if (q : Int) = x % 8 ∧ 0 < S.mal then x / 1024 + 1 else 0) ≤ 2 ∧ (0 < (if (q : Int) = x % 8 ∧ 0 < S.mal then x / 1024 + 1 else 0) → (q : Int) = x % 8) := by
    split
    · rename_i h9; have := ha h9.1 h9.2; exact ⟨by omega, by omega, fun _ => h9.1⟩
    · exact ⟨by omega, by omega, fun h9 => by omega⟩
  have hB : 0 ≤ (if S.looks j (x % 8) q then x % 8 else (q : Int)) ∧ (if S.looks j (x % 8) q then x % 8 else (q : Int)) < S.c ∧ ((q : Int) = x % 8 → (if S.looks j (x % 8) q then x % 8 else (q : Int)) = q) := by split <;> omega
  have hS : 0 ≤ (if S.strong j then (q : Int) else x / 64 % 8) ∧ (if S.strong j then (q : Int) else x / 64 % 8) < S.c := by split <;> omega
  have hU : 0 ≤ (if (q : Int) = t then 1 else x / 512 % 2) ∧ (if (q : Int) = t then 1 else x / 512 % 2) ≤ 1 := by split <;> omega
  unfold Su.cnx
  generalize (if (q : Int) = x % 8 ∧ 0 < S.mal then x / 1024 + 1 else 0) = A at *
  generalize (if S.looks j (x % 8) q then x % 8 else (q : Int)) = B at *
  generalize (if S.strong j then (q : Int) else x / 64 % 8) = C at *
  generalize (if (q : Int) = t then 1 else x / 512 % 2) = U at *
  have q0 : 0 ≤ (q : Int) ∧ (q : Int) < S.c := by omega
  have d1 : ((q : Int) + B * 8 + C * 64 + U * 512 + A * 1024) % 8 = q := by omega
  have d2 : ((q : Int) + B * 8 + C * 64 + U * 512 + A * 1024) / 8 % 8 = B := by omega
  have d3 : ((q : Int) + B * 8 + C * 64 + U * 512 + A * 1024) / 64 % 8 = C := by omega
  have d5 : ((q : Int) + B * 8 + C * 64 + U * 512 + A * 1024) / 1024 = A := by omega
  refine ⟨⟨by omega, by omega⟩, ⟨by rw [d1]; omega, by rw [d2]; omega, by rw [d3]; omega⟩, fun h9 => ?_⟩
  rw [d5] at h9
  rw [d1, d2]
  exact hB.2.2 (hA.2.2 h9)
