/-! pure part, searches: joining the lines of one highest note to those found before -/
def lex (a b : Nat → Nat) : Nat → Nat → Bool
  | 0, _ => false
  | r + 1, j => if a j = b j then lex a b r (j + 1) else decide (a j < b j)
theorem lex_trans {a b c : Nat → Nat} : ∀ {r j : Nat}, lex a b r j = true → lex b c r j = true → lex a c r j = true
  | 0, _, h, _ => h
  | r + 1, j, h1, h2 => by
    unfold lex at h1 h2 ⊢
    by_cases e1 : a j = b j
    · rw [if_pos e1] at h1
      by_cases e2 : b j = c j
      · rw [if_pos e2] at h2; rw [if_pos (e1.trans e2)]; exact lex_trans h1 h2
      · rw [if_neg e2] at h2; rw [if_neg (by rw [e1]; exact e2), e1]; exact h2
    · rw [if_neg e1] at h1
      have l1 := of_decide_eq_true h1
      by_cases e2 : b j = c j
      · rw [if_neg (by rw [← e2]; exact e1), ← e2]; exact h1
      · rw [if_neg e2] at h2
        have l2 := of_decide_eq_true h2
        rw [if_neg (by omega)]; exact decide_eq_true (by omega)
theorem lex_lt {a b : Nat → Nat} {r j : Nat} (h : a j < b j) : lex a b (r + 1) j = true := by
  unfold lex; rw [if_neg (by omega)]; exact decide_eq_true h
theorem lex_gt {a b : Nat → Nat} {r j : Nat} (h : b j < a j) : lex a b (r + 1) j = false := by
  unfold lex; rw [if_neg (by omega)]; exact decide_eq_false (by omega)
/-- what is found: least cost, how many, how many of least cost, the lowest line -/
abbrev GG : Type := Option Int × Int64 × Int64 × (Nat → Nat)
def mergeG (N : Nat) (g : GG) (v : V) (ln : Nat → Nat) : GG :=
  match v.1 with
  | none => (g.1, g.2.1 + v.2.1, g.2.2.1, g.2.2.2)
  | some low => match g.1 with
    | none => (some low, g.2.1 + v.2.1, v.2.2.1, ln)
    | some y => if low < y then (some low, g.2.1 + v.2.1, v.2.2.1, ln) else if low = y then (some y, g.2.1 + v.2.1, g.2.2.1 + v.2.2.1, if lex ln g.2.2.2 N 0 then ln else g.2.2.2) else (some y, g.2.1 + v.2.1, g.2.2.1, g.2.2.2)
def wayG (N : Nat) (g : GG) (sum : Int) (a t : Int64) (ln : Nat → Nat) : GG :=
  match g.1 with
  | none => (some sum, g.2.1 + a, t, ln)
  | some y => if y < sum then (some y, g.2.1 + a, g.2.2.1, g.2.2.2) else if sum < y then (some sum, g.2.1 + a, t, ln) else (some sum, g.2.1 + a, g.2.2.1 + t, if lex ln g.2.2.2 N 0 then ln else g.2.2.2)
theorem i64_assoc (a b c : Int64) : a + (b + c) = a + b + c := (Int64.add_assoc a b c).symm
theorem way_merge {N : Nat} {g : GG} {acc b : V} {k : Nat} {p d : Int} {ln : Nat → Nat → Nat} (hb : b.1 = some d) (hl : ∀ q, ln q 0 = q) (h0 : acc.1 = none → acc = V0) (hq : ∀ x, acc.1 = some x → acc.2.2.2 < k) : wayG (N + 1) (mergeG (N + 1) g acc (ln acc.2.2.2)) (p + d) b.2.1 b.2.2.1 (ln k) = mergeG (N + 1) g (addW acc k p b) (ln (addW acc k p b).2.2.2) := by
  obtain ⟨gc, ga, gt, gl⟩ := g
  cases ea : acc.1 with
  | none =>
    have ez := h0 ea
    subst ez
    have e1 : addW V0 k p b = (some (p + d), 0 + b.2.1, b.2.2.1, k) := by unfold addW V0; rw [hb]
    rw [e1]
    unfold mergeG wayG V0
    cases gc with
    | none => simp only [Int64.zero_add, Int64.add_zero]
    | some y =>
      simp only [Int64.zero_add, Int64.add_zero]
      by_cases l1 : y < p + d
      · rw [if_pos l1, if_neg (by omega), if_neg (by omega)]
      · rw [if_neg l1]
        by_cases l2 : p + d < y
        · rw [if_pos l2, if_pos l2]
        · have l3 : p + d = y := by omega
          rw [if_neg l2, if_neg l2, if_pos l3, l3]
  | some x =>
    have hk := hq x ea
    obtain ⟨ac, aa, at', aq⟩ := acc
    simp only at ea hk
    subst ea
    have hlt : lex (ln aq) (ln k) (N + 1) 0 = true := lex_lt (by rw [hl, hl]; exact hk)
    have hgt : lex (ln k) (ln aq) (N + 1) 0 = false := lex_gt (by rw [hl, hl]; exact hk)
    have e1 : addW (some x, aa, at', aq) k p b = if p + d < x then (some (p + d), aa + b.2.1, b.2.2.1, k) else if p + d = x then (some x, aa + b.2.1, at' + b.2.2.1, aq) else (some x, aa + b.2.1, at', aq) := by unfold addW; rw [hb]
    rw [e1]
    by_cases l1 : p + d < x
    · rw [if_pos l1]
      unfold mergeG wayG
      cases gc with
      | none => simp only; rw [if_neg (by omega), if_pos l1, i64_assoc]
      | some y =>
        simp only
        by_cases m1 : x < y
        · rw [if_pos m1]; simp only; rw [if_neg (by omega), if_pos l1, if_pos (by omega), i64_assoc]
        · rw [if_neg m1]
          by_cases m2 : x = y
          · subst m2; rw [if_pos rfl]; simp only; rw [if_neg (by omega), if_pos l1, if_pos l1, i64_assoc]
          · rw [if_neg m2]; simp only
            by_cases n1 : y < p + d
            · rw [if_pos n1, if_neg (by omega), if_neg (by omega), i64_assoc]
            · rw [if_neg n1]
              by_cases n2 : p + d < y
              · rw [if_pos n2, if_pos n2, i64_assoc]
              · have n3 : p + d = y := by omega
                rw [if_neg n2, if_neg n2, if_pos n3, i64_assoc, n3]
    · rw [if_neg l1]
      by_cases l2 : p + d = x
      · rw [if_pos l2]
        unfold mergeG wayG
        cases gc with
        | none => simp only; rw [if_neg (by omega), if_neg (by omega), hgt, l2, i64_assoc]; simp
        | some y =>
          simp only
          by_cases m1 : x < y
          · rw [if_pos m1, if_pos m1]; simp only; rw [if_neg (by omega), if_neg (by omega), hgt, l2, i64_assoc]; simp
          · rw [if_neg m1, if_neg m1]
            by_cases m2 : x = y
            · subst m2; rw [if_pos rfl, if_pos rfl]; simp only
              rw [if_neg (by omega), if_neg (by omega), l2, i64_assoc, i64_assoc]
              cases hl2 : lex (ln aq) gl (N + 1) 0 with
              | true => simp [hgt]
              | false =>
                have hn : lex (ln k) gl (N + 1) 0 = false := by
                  cases hz : lex (ln k) gl (N + 1) 0 with
                  | false => rfl
                  | true => rw [lex_trans hlt hz] at hl2; cases hl2
                simp [hn]
            · rw [if_neg m2, if_neg m2]; simp only
              rw [if_pos (by omega), i64_assoc]
      · rw [if_neg l2]
        unfold mergeG wayG
        cases gc with
        | none => simp only; rw [if_pos (by omega), i64_assoc]
        | some y =>
          simp only
          by_cases m1 : x < y
          · rw [if_pos m1, if_pos m1]; simp only; rw [if_pos (by omega), i64_assoc]
          · rw [if_neg m1, if_neg m1]
            by_cases m2 : x = y
            · subst m2; rw [if_pos rfl, if_pos rfl]; simp only
              rw [if_pos (by omega), i64_assoc]
            · rw [if_neg m2, if_neg m2]; simp only
              rw [if_pos (by omega), i64_assoc]
