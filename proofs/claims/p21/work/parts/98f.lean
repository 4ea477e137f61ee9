/-! pure part: both constructors answer, and what holds at first -/
section
variable {F : Nat}
theorem c_init78 {nu : Nat → Int32} : ∀ (r n i : Nat) (on : Nat → Int32), 11 - i = r → r < n → i ≤ 11 → (∀ j, j < i → on j = B true) → Ok (m_Setup_init_78 F n nu on (I i)) (fun u => u.1 = nu ∧ ∀ j, j < 11 → u.2 j = B true)
  | 0, n, i, on, e, hn, hi, ht => by
    obtain ⟨m, rfl⟩ : ∃ m, n = m + 1 := ⟨n - 1, by omega⟩
    simp only [m_Setup_init_78, m_Setup_init_78b]
    rw [if_pos (by rw [show (11 : Int32) = I 11 from rfl, I_le (by omega) (by omega) (by omega) (by omega)]; omega)]
    exact Ok_some ⟨rfl, fun j hj => ht j (by omega)⟩
  | r + 1, n, i, on, e, hn, hi, ht => by
    obtain ⟨m, rfl⟩ : ∃ m, n = m + 1 := ⟨n - 1, by omega⟩
    have ej : I (i : Int) + 1 = I ((i + 1 : Nat) : Int) := by rw [L_1, I_add]; congr 1
    simp only [m_Setup_init_78, m_Setup_init_78b]
    rw [if_neg (by rw [show (11 : Int32) = I 11 from rfl, I_le (by omega) (by omega) (by omega) (by omega)]; omega), gd_I (by omega) (by omega) (by omega), ej, I_nat (by omega) (by omega), Int.toNat_natCast]
    refine c_init78 r m (i + 1) _ (by omega) (by omega) (by omega) (fun j hj => ?_)
    by_cases e9 : j = i
    · subst e9; rw [upd_at]; exact nar_B true
    · rw [upd_ne _ _ e9]; exact ht j (by omega)
theorem c_init53 (hF : 2000 ≤ F) : ∀ (r n i : Nat) (nu on : Nat → Int32), 18 - i = r → r < n → i ≤ 18 → (∀ j, j < i → nu j = stab 0 j) → Ok (m_Setup_init_53 F n nu on (I i)) (fun u => (∀ j, j < 18 → u.1 j = stab 0 j) ∧ ∀ j, j < 11 → u.2 j = B true)
  | 0, n, i, nu, on, e, hn, hi, ht => by
    obtain ⟨m, rfl⟩ : ∃ m, n = m + 1 := ⟨n - 1, by omega⟩
    simp only [m_Setup_init_53, m_Setup_init_53b]
    rw [if_pos (by rw [show (18 : Int32) = I 18 from rfl, I_le (by omega) (by omega) (by omega) (by omega)]; omega)]
    refine Ok_mono (c_init78 _ F 0 on rfl (by omega) (by omega) (fun j hj => absurd hj (Nat.not_lt_zero j))) ?_
    rintro u ⟨u1, u2⟩
    exact ⟨fun j hj => by rw [u1]; exact ht j (by omega), u2⟩
  | r + 1, n, i, nu, on, e, hn, hi, ht => by
    obtain ⟨m, rfl⟩ : ∃ m, n = m + 1 := ⟨n - 1, by omega⟩
    have ej : I (i : Int) + 1 = I ((i + 1 : Nat) : Int) := by rw [L_1, I_add]; congr 1
    simp only [m_Setup_init_53, m_Setup_init_53b]
    rw [if_neg (by rw [show (18 : Int32) = I 18 from rfl, I_le (by omega) (by omega) (by omega) (by omega)]; omega), gd_I (by omega) (by omega) (by omega), gd_I (by omega) (by omega) (by omega), ej, I_nat (by omega) (by omega), Int.toNat_natCast]
    refine c_init53 hF r m (i + 1) _ _ (by omega) (by omega) (by omega) (fun j hj => ?_)
    by_cases e9 : j = i
    · subst e9; exact upd_at _ _ _
    · rw [upd_ne _ _ e9]; exact ht j (by omega)
theorem c_init (hF : 2000 ≤ F) : Ok (m_SpeciesSolver_init F) (fun u => (∀ j, j < 18 → u.1 j = stab 0 j) ∧ ∀ j, j < 11 → u.2 j = B true) := by
  unfold m_SpeciesSolver_init m_Line_init m_Rules_init m_FaultFinder_init m_Prices_init m_Search_init m_Setup_init
  rw [bd_S, bd_S, bd_S]
  refine Ok_bd (c_init53 hF _ F 0 _ _ rfl (by omega) (by omega) (fun j hj => absurd hj (Nat.not_lt_zero j))) ?_
  intro u hu
  rw [bd_S, bd_S, bd_S, bd_S]
  exact Ok_some hu
theorem upd18 {f : Nat → Int32} {j i : Nat} {a : Int32} {x : Int32} {y : Int32} (hi : Int32.toNatClampNeg a = i) (h : if j = i then x = y else f j = y) : upd f (Int32.toNatClampNeg a) x j = y := by
  rw [hi]
  by_cases e : j = i
  · rw [if_pos e] at h; subst e; rw [upd_at]; exact h
  · rw [if_neg e] at h; rw [upd_ne _ _ e]; exact h
theorem r_init150 : ∀ (r n i : Nat) (on nu : Nat → Int32), 11 - i = r → r < n → i ≤ 11 → (∀ j, j < i → on j = B true) → Ok (m_SpeciesSolverModel_init_150 F n on nu (I i)) (fun u => (∀ j, j < 11 → u.1 j = B true) ∧ ∀ j, j < 18 → u.2 j = stab 0 j)
  | 0, n, i, on, nu, e, hn, hi, ht => by
    obtain ⟨m, rfl⟩ : ∃ m, n = m + 1 := ⟨n - 1, by omega⟩
    simp only [m_SpeciesSolverModel_init_150, m_SpeciesSolverModel_init_150b]
    rw [if_pos (by rw [show (11 : Int32) = I 11 from rfl, I_le (by omega) (by omega) (by omega) (by omega)]; omega)]
    refine Ok_some ⟨fun j hj => ht j (by omega), fun j hj => ?_⟩
    have h18 : j = 0 ∨ j = 1 ∨ j = 2 ∨ j = 3 ∨ j = 4 ∨ j = 5 ∨ j = 6 ∨ j = 7 ∨ j = 8 ∨ j = 9 ∨ j = 10 ∨ j = 11 ∨ j = 12 ∨ j = 13 ∨ j = 14 ∨ j = 15 ∨ j = 16 ∨ j = 17 := by omega
    rcases h18 with h | h | h | h | h | h | h | h | h | h | h | h | h | h | h | h | h | h <;> subst h <;> rfl
  | r + 1, n, i, on, nu, e, hn, hi, ht => by
    obtain ⟨m, rfl⟩ : ∃ m, n = m + 1 := ⟨n - 1, by omega⟩
    have ej : I (i : Int) + 1 = I ((i + 1 : Nat) : Int) := by rw [L_1, I_add]; congr 1
    simp only [m_SpeciesSolverModel_init_150, m_SpeciesSolverModel_init_150b]
    rw [if_neg (by rw [show (11 : Int32) = I 11 from rfl, I_le (by omega) (by omega) (by omega) (by omega)]; omega), gd_I (by omega) (by omega) (by omega), ej, I_nat (by omega) (by omega), Int.toNat_natCast]
    refine r_init150 r m (i + 1) _ _ (by omega) (by omega) (by omega) (fun j hj => ?_)
    by_cases e9 : j = i
    · subst e9; rw [upd_at]; exact nar_B true
    · rw [upd_ne _ _ e9]; exact ht j (by omega)
theorem r_init (hF : 2000 ≤ F) : Ok (m_SpeciesSolverModel_init F) (fun u => (∀ j, j < 11 → u.1 j = B true) ∧ ∀ j, j < 18 → u.2 j = stab 0 j) := by
  unfold m_SpeciesSolverModel_init
  exact r_init150 _ F 0 _ _ rfl (by omega) (by omega) (fun j hj => absurd hj (Nat.not_lt_zero j))
end
def S0 : Su := (fun i => (stab 0 i).toInt, fun _ => true, fun _ _ => 0, 0, 0, 1, true)
theorem S0_r : ∀ i, i < 18 → 0 ≤ (stab 0 i).toInt ∧ (stab 0 i).toInt ≤ 33554431 := by decide
theorem S0_c : ∀ i, i < 18 → 12 ≤ i → (stab 0 i).toInt ≤ 1000 := by decide
theorem S0_WF : WF S0 := by
  refine ⟨⟨?_, ?_⟩, Or.inl rfl, ⟨?_, ?_⟩, fun h => ?_, S0_r, ⟨?_, ?_⟩, ⟨?_, ?_⟩, ⟨?_, ?_⟩, ⟨?_, ?_⟩, fun i h1 h2 => S0_c i h2 h1, fun l k l0 l1 k0 k1 => ?_⟩
  · show (0 : Int) ≤ 0; omega
  · show (0 : Int) ≤ 3; omega
  · show (0 : Int) ≤ 0; omega
  · show (0 : Int) ≤ 12; omega
  · have h9 : (0 : Int) < 0 := h
    omega
  · show (stab 0 1).toInt ≤ 127; decide
  · show (stab 0 2).toInt ≤ 127; decide
  · show 1 ≤ (stab 0 8).toInt; decide
  · show (stab 0 8).toInt ≤ 12; decide
  · show 1 ≤ (stab 0 10).toInt; decide
  · show (stab 0 10).toInt ≤ 24; decide
  · show 1 ≤ (stab 0 11).toInt; decide
  · show (stab 0 11).toInt ≤ 3; decide
  · have l9 : l < (0 : Int) := l1
    omega
theorem MK_first : MK 0 (fun _ => 0) ((List.range 3072).map Int.ofNat) := by
  intro x x0 x1
  refine ⟨0, by omega, by omega, rfl, ?_⟩
  constructor
  · intro _
    rw [List.mem_map]
    exact ⟨x.toNat, by rw [List.mem_range]; omega, by rw [Int.ofNat_eq_natCast]; omega⟩
  · intro _; rfl
theorem INV_first {u v : (Nat → Int32) × (Nat → Int32)} (hu : (∀ j, j < 18 → u.1 j = stab 0 j) ∧ ∀ j, j < 11 → u.2 j = B true) (hv : (∀ j, j < 11 → v.1 j = B true) ∧ ∀ j, j < 18 → v.2 j = stab 0 j) : INV (sc0 u) (sm0 v) 0 := by
  refine ⟨S0, ⟨S0_WF, fun _ => rfl⟩, ⟨fun i hi => ?_, fun i hi => hu.2 i hi, fun l k l0 l1 k0 k1 => ?_⟩, ⟨fun i hi => ?_, fun i hi => hv.1 i hi, fun l k l0 l1 k0 k1 => ?_⟩, ⟨rfl, rfl, rfl, rfl⟩, ⟨rfl, rfl, rfl, rfl⟩, ⟨0, fun _ => 0, by omega, rfl, rfl, fun i hi => absurd hi (Nat.not_lt_zero i)⟩, ⟨0, fun _ => 0, by omega, rfl, rfl, fun i hi => absurd hi (Nat.not_lt_zero i)⟩, FI_none (S := S0) rfl rfl rfl, ⟨0, _, rfl, by omega, by omega, MK_first⟩, ⟨false, rfl, SR_no⟩⟩
  · exact (hu.1 i hi).trans (I_of _).symm
  · have l9 : l < (0 : Int) := l1
    omega
  · exact (hv.2 i hi).trans (I_of _).symm
  · have l9 : l < (0 : Int) := l1
    omega
