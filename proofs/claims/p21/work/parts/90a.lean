/-! pure part, 1: Int32 as the image of Int; the combinators -/
def I (n : Int) : Int32 := Int32.ofInt n
theorem I_toInt {a : Int} (h1 : -2147483648 ≤ a) (h2 : a < 2147483648) : (I a).toInt = a := by
  unfold I; exact Int32.toInt_ofInt_of_le (by simpa using h1) (by simpa using h2)
theorem I_of (x : Int32) : I x.toInt = x := by unfold I; exact Int32.ofInt_toInt x
theorem I_add (a b : Int) : I a + I b = I (a + b) := by unfold I; exact (Int32.ofInt_add a b).symm
theorem I_sub (a b : Int) : I a - I b = I (a - b) := by unfold I; exact (Int32.ofInt_sub a b).symm
theorem I_mul (a b : Int) : I a * I b = I (a * b) := by unfold I; exact (Int32.ofInt_mul a b).symm
theorem I_neg (a : Int) : - I a = I (- a) := by unfold I; exact (Int32.ofInt_neg a).symm
theorem I_lit (n : Nat) : (OfNat.ofNat n : Int32) = I (n : Int) := by
  unfold I; exact (Int32.ofInt_eq_ofNat).symm
theorem L_0 : (0 : Int32) = I 0 := I_lit 0
theorem L_1 : (1 : Int32) = I 1 := I_lit 1
theorem L_2 : (2 : Int32) = I 2 := I_lit 2
theorem L_3 : (3 : Int32) = I 3 := I_lit 3
theorem L_4 : (4 : Int32) = I 4 := I_lit 4
theorem L_5 : (5 : Int32) = I 5 := I_lit 5
theorem L_6 : (6 : Int32) = I 6 := I_lit 6
theorem L_7 : (7 : Int32) = I 7 := I_lit 7
theorem L_8 : (8 : Int32) = I 8 := I_lit 8
theorem L_9 : (9 : Int32) = I 9 := I_lit 9
theorem L_10 : (10 : Int32) = I 10 := I_lit 10
theorem L_11 : (11 : Int32) = I 11 := I_lit 11
theorem L_12 : (12 : Int32) = I 12 := I_lit 12
theorem L_13 : (13 : Int32) = I 13 := I_lit 13
theorem L_14 : (14 : Int32) = I 14 := I_lit 14
theorem L_15 : (15 : Int32) = I 15 := I_lit 15
theorem L_16 : (16 : Int32) = I 16 := I_lit 16
theorem L_17 : (17 : Int32) = I 17 := I_lit 17
theorem L_24 : (24 : Int32) = I 24 := I_lit 24
theorem L_31 : (31 : Int32) = I 31 := I_lit 31
theorem L_45 : (45 : Int32) = I 45 := I_lit 45
theorem L_80 : (80 : Int32) = I 80 := I_lit 80
theorem L_127 : (127 : Int32) = I 127 := I_lit 127
theorem L_200 : (200 : Int32) = I 200 := I_lit 200
theorem L_640 : (640 : Int32) = I 640 := I_lit 640
theorem L_1280 : (1280 : Int32) = I 1280 := I_lit 1280
theorem L_1000000000 : (1000000000 : Int32) = I 1000000000 := I_lit 1000000000
theorem T_0 : Int.toNat 0 = 0 := rfl
theorem T_1 : Int.toNat 1 = 1 := rfl
theorem T_2 : Int.toNat 2 = 2 := rfl
theorem T_3 : Int.toNat 3 = 3 := rfl
theorem T_4 : Int.toNat 4 = 4 := rfl
theorem T_5 : Int.toNat 5 = 5 := rfl
theorem T_6 : Int.toNat 6 = 6 := rfl
theorem T_7 : Int.toNat 7 = 7 := rfl
theorem T_8 : Int.toNat 8 = 8 := rfl
theorem T_9 : Int.toNat 9 = 9 := rfl
theorem T_10 : Int.toNat 10 = 10 := rfl
theorem T_11 : Int.toNat 11 = 11 := rfl
theorem T_12 : Int.toNat 12 = 12 := rfl
theorem T_13 : Int.toNat 13 = 13 := rfl
theorem T_14 : Int.toNat 14 = 14 := rfl
theorem T_15 : Int.toNat 15 = 15 := rfl
theorem T_16 : Int.toNat 16 = 16 := rfl
theorem T_17 : Int.toNat 17 = 17 := rfl
theorem I_lt {a b : Int} (h1 : -2147483648 ≤ a) (h2 : a < 2147483648) (h3 : -2147483648 ≤ b) (h4 : b < 2147483648) : (I a < I b) = (a < b) := by
  rw [Int32.lt_iff_toInt_lt, I_toInt h1 h2, I_toInt h3 h4]
theorem I_le {a b : Int} (h1 : -2147483648 ≤ a) (h2 : a < 2147483648) (h3 : -2147483648 ≤ b) (h4 : b < 2147483648) : (I a ≤ I b) = (a ≤ b) := by
  rw [Int32.le_iff_toInt_le, I_toInt h1 h2, I_toInt h3 h4]
theorem I_eq {a b : Int} (h1 : -2147483648 ≤ a) (h2 : a < 2147483648) (h3 : -2147483648 ≤ b) (h4 : b < 2147483648) : (I a = I b) = (a = b) := by
  apply propext
  constructor
  · intro h; rw [← I_toInt h1 h2, h, I_toInt h3 h4]
  · intro h; rw [h]
theorem I_nat {a : Int} (h1 : 0 ≤ a) (h2 : a < 2147483648) : (I a).toNatClampNeg = a.toNat := by
  unfold Int32.toNatClampNeg; rw [I_toInt (by omega) h2]
theorem I_div {a b : Int} (h1 : 0 ≤ a) (h2 : a < 2147483648) (h3 : 0 < b) (h4 : b < 2147483648) : I a / I b = I (a / b) := by
  apply Int32.toInt_inj.mp
  have e : (I a / I b).toInt = a.tdiv b := by
    rw [Int32.toInt_div, I_toInt (by omega) h2, I_toInt (by omega) h4]
    have h5 : a.tdiv b = a / b := Int.tdiv_eq_ediv_of_nonneg h1
    rw [h5]
    have h6 : a / b ≤ a := Int.ediv_le_self b h1
    have h7 : 0 ≤ a / b := Int.ediv_nonneg h1 (by omega)
    rw [Int.bmod_def]; omega
  have h6 : a / b ≤ a := Int.ediv_le_self b h1
  have h7 : 0 ≤ a / b := Int.ediv_nonneg h1 (by omega)
  rw [e, I_toInt (by omega) (by omega), Int.tdiv_eq_ediv_of_nonneg h1]
theorem gd_I {α : Type} {a : Int} {n : Nat} {x : Option α} (h1 : 0 ≤ a) (h2 : a < n) (h3 : n ≤ 2147483648) : gd (I a) n x = x := by
  have h : ¬ (I a < 0 ∨ n ≤ (I a).toNatClampNeg) := by
    rw [I_nat h1 (by omega), L_0, I_lt (by omega) (by omega) (by omega) (by omega)]
    omega
  unfold gd; rw [if_neg h]
theorem nz_I {α : Type} {a : Int} {x : Option α} (h1 : 0 < a) (h2 : a < 2147483648) : nz (I a) x = x := by
  unfold nz; rw [if_neg]; rw [L_0, I_eq (by omega) (by omega) (by omega) (by omega)]; omega
theorem bd_S {α β : Type} (a : α) (f : α → Option β) : bd (some a) f = f a := rfl
def B (b : Bool) : Int32 := if b then I 1 else I 0
theorem B_t : B true = I 1 := rfl
theorem B_f : B false = I 0 := rfl
theorem B_0 (b : Bool) : (B b = I 0) = (b = false) := by cases b <;> decide
theorem B_1 (b : Bool) : (B b = I 1) = (b = true) := by cases b <;> decide
theorem gb_B {α : Type} (b : Bool) (x : Option α) : gb (B b) x = x := by
  unfold gb; rw [if_pos]; cases b
  · exact Or.inl (by decide)
  · exact Or.inr (by decide)
theorem nar_B (b : Bool) : vp_nar .boolean (B b) = B b := by cases b <;> rfl
theorem nar_0 : vp_nar .boolean (I 0) = I 0 := rfl
theorem nar_1 : vp_nar .boolean (I 1) = I 1 := rfl
theorem upd_at (f : Nat → Int32) (k : Nat) (x : Int32) : upd f k x k = x := by unfold upd; rw [if_pos rfl]
theorem upd_ne (f : Nat → Int32) {k j : Nat} (x : Int32) (h : j ≠ k) : upd f k x j = f j := by unfold upd; rw [if_neg h]
/-- what a model answers, and what holds of it -/
def Ok {α : Type} (x : Option α) (P : α → Prop) : Prop := ∃ r, x = some r ∧ P r
theorem Ok_some {α : Type} {r : α} {P : α → Prop} (h : P r) : Ok (some r) P := ⟨r, rfl, h⟩
theorem Ok_bd {α β : Type} {x : Option α} {f : α → Option β} {Q : α → Prop} {P : β → Prop} (h : Ok x Q) (h2 : ∀ r, Q r → Ok (f r) P) : Ok (bd x f) P := by
  obtain ⟨r, e, q⟩ := h; rw [e]; exact h2 r q
theorem Ok_mono {α : Type} {x : Option α} {P Q : α → Prop} (h : Ok x P) (h2 : ∀ r, P r → Q r) : Ok x Q := by
  obtain ⟨r, e, q⟩ := h; exact ⟨r, e, h2 r q⟩
theorem Ok_ite {α : Type} {c : Prop} [Decidable c] {x y : Option α} {P : α → Prop} (h1 : c → Ok x P) (h2 : ¬ c → Ok y P) : Ok (if c then x else y) P := by
  by_cases h : c
  · rw [if_pos h]; exact h1 h
  · rw [if_neg h]; exact h2 h
theorem ite_B {c : Prop} [Decidable c] : (if c then some (I 1) else some (I 0)) = some (B (decide c)) := by
  by_cases h : c <;> simp [h, B]
theorem ite_Bn {c : Prop} [Decidable c] : (if c then some (I 0) else some (I 1)) = some (B (! decide c)) := by
  by_cases h : c <;> simp [h, B]
theorem sB0 (x : Bool) : (some (I 0) = some (B x)) = (x = false) := by cases x <;> simp [B] <;> decide
theorem sB1 (x : Bool) : (some (I 1) = some (B x)) = (x = true) := by cases x <;> simp [B] <;> decide
