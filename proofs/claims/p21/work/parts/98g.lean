/-! pure part: the law answers true -/
theorem INV_succ {σ : SC} {τ : SM} {k : Nat} (h : INV σ τ k) : INV σ τ (k + 1) := by
  obtain ⟨S, ⟨hw, hz⟩, C, R, ⟨c4, c5, c6, c7⟩, ⟨r2, r3, r4, r5⟩, hdr, htr, hfo, ⟨mk, lm, m1, m2, m3, m4⟩, ⟨sr, hsr, hss⟩⟩ := h
  exact ⟨S, ⟨hw, hz⟩, C, R, ⟨c4, c5, c6, c7⟩, ⟨r2, r3, r4, r5⟩, hdr, htr, hfo, ⟨mk, lm, m1, m2, by omega, m4⟩, ⟨sr, hsr, hss⟩⟩
theorem ite1 {α : Type} {c : Prop} [Decidable c] {a b r : α} (h1 : c → a = r) (h2 : ¬ c → b = r) : (if c then a else b) = r := by
  by_cases h : c
  · rw [if_pos h]; exact h1 h
  · rw [if_neg h]; exact h2 h
section
variable {k : Nat} {kk : SC → SM → Int32 → Option Int32} {z : Int32} {r0 : Option Int32}
theorem two_c {α : Type} [DecidableEq α] {x : Option (α × SC)} {y : Option (α × SM)} (hk : ∀ u w, INV u w (k + 1) → kk u w z = some 1) (h : Ok x (fun u => Ok y (fun w => u.1 = w.1 ∧ INV u.2 w.2 (k + 1)))) : bd x (fun u => bd y (fun w => if u.1 = w.1 then kk u.2 w.2 z else r0)) = some 1 := by
  obtain ⟨u, hu, w, hw, e, i⟩ := h
  rw [hu, bd_S, hw, bd_S, if_pos e]; exact hk _ _ i
theorem two_u {α : Type} {x : Option (α × SC)} {y : Option (α × SM)} (hk : ∀ u w, INV u w (k + 1) → kk u w z = some 1) (h : Ok x (fun u => Ok y (fun w => u.1 = w.1 ∧ INV u.2 w.2 (k + 1)))) : bd x (fun u => bd y (fun w => kk u.2 w.2 z)) = some 1 := by
  obtain ⟨u, hu, w, hw, e, i⟩ := h
  rw [hu, bd_S, hw, bd_S]; exact hk _ _ i
theorem two_d {α : Type} {x : Option (α × SC)} {y : Option (α × SM)} (hk : ∀ u w, INV u w (k + 1) → kk u w z = some 1) (h : Ok x (fun u => Ok y (fun w => INV u.2 w.2 (k + 1)))) : bd x (fun u => bd y (fun w => kk u.2 w.2 z)) = some 1 := by
  obtain ⟨u, hu, w, hw, i⟩ := h
  rw [hu, bd_S, hw, bd_S]; exact hk _ _ i
end
theorem law_step {F L k : Nat} {xs : Nat → Int32} {σ : SC} {τ : SM} {kk : SC → SM → Int32 → Option Int32} (hF : 2000 ≤ F) (hL : L ≤ 1536) (hk : k ≤ 2000) (h : INV σ τ k) (hn : 3 * (k : Int) + 3 ≤ L → ∀ u w, INV u w (k + 1) → kk u w (I (3 * (k : Int)) + 3) = some 1) : m_law_b F L xs kk σ τ (I (3 * (k : Int))) = some 1 := by
  have eL : Int32.ofNat L - 3 = I ((L : Int) - 3) := by
    rw [show Int32.ofNat L = I (L : Int) from (Int32.ofInt_eq_ofNat (n := L)).symm, show (3 : Int32) = I 3 from rfl, I_sub]
  unfold m_law_b
  rw [eL]
  refine ite1 (fun _ => rfl) (fun hc => ?_)
  rw [I_lt (by omega) (by omega) (by omega) (by omega)] at hc
  have hn2 := hn (by omega)
  have g0 : ∀ e : Option Int32, gd (I (3 * (k : Int))) L e = e := fun e => gd_I (by omega) (by omega) (by omega)
  have g1 : ∀ e : Option Int32, gd (I (3 * (k : Int)) + 1) L e = e := fun e => by
    rw [L_1, I_add]; exact gd_I (by omega) (by omega) (by omega)
  have g2 : ∀ e : Option Int32, gd (I (3 * (k : Int)) + 2) L e = e := fun e => by
    rw [show (2 : Int32) = I 2 from rfl, I_add]; exact gd_I (by omega) (by omega) (by omega)
  simp only [g0, g1, g2]
  refine ite1 (fun _ => ?_) (fun _ => ?_)
  · first | exact two_u hn2 (st_note h _) | exact two_c hn2 (st_note h _)
  refine ite1 (fun _ => ?_) (fun _ => ?_)
  · first | exact two_u hn2 (st_give hF h) | exact two_c hn2 (st_give hF h)
  refine ite1 (fun _ => ?_) (fun _ => ?_)
  · first | exact two_u hn2 (st_attempt hF h) | exact two_c hn2 (st_attempt hF h)
  refine ite1 (fun _ => ?_) (fun _ => ?_)
  · first | exact two_u hn2 (st_drop h) | exact two_c hn2 (st_drop h)
  refine ite1 (fun _ => ?_) (fun _ => ?_)
  · refine ite1 (fun e0 => ?_) (fun e0 => ?_)
    · simp only [if_pos e0]
      first | exact two_u hn2 (st_species h _ false) | exact two_c hn2 (st_species h _ false)
    · simp only [if_neg e0]
      first | exact two_u hn2 (st_species h _ true) | exact two_c hn2 (st_species h _ true)
  refine ite1 (fun _ => ?_) (fun _ => ?_)
  · refine ite1 (fun e0 => ?_) (fun e0 => ?_)
    · simp only [if_pos e0]
      first | exact two_u hn2 (st_rule h _ false) | exact two_c hn2 (st_rule h _ false)
    · simp only [if_neg e0]
      first | exact two_u hn2 (st_rule h _ true) | exact two_c hn2 (st_rule h _ true)
  refine ite1 (fun _ => ?_) (fun _ => ?_)
  · first | exact two_u hn2 (st_number h _ _) | exact two_c hn2 (st_number h _ _)
  refine ite1 (fun _ => ?_) (fun _ => ?_)
  · first | exact two_u hn2 (st_setting h _) | exact two_c hn2 (st_setting h _)
  refine ite1 (fun _ => ?_) (fun _ => ?_)
  · first | exact two_u hn2 (st_choice hF h) | exact two_c hn2 (st_choice hF h)
  refine ite1 (fun _ => ?_) (fun _ => ?_)
  · first | exact two_u hn2 (st_solve hF hk h) | exact two_c hn2 (st_solve hF hk h)
  refine ite1 (fun _ => ?_) (fun _ => ?_)
  · first | exact two_u hn2 (st_found h _) | exact two_c hn2 (st_found h _)
  refine ite1 (fun _ => ?_) (fun _ => ?_)
  · first | exact two_u hn2 (st_cost h) | exact two_c hn2 (st_cost h)
  refine ite1 (fun _ => ?_) (fun _ => ?_)
  · first | exact two_u hn2 (st_count hF hk h) | exact two_c hn2 (st_count hF hk h)
  refine ite1 (fun _ => ?_) (fun _ => ?_)
  · first | exact two_u hn2 (st_ties hF hk h) | exact two_c hn2 (st_ties hF hk h)
  refine ite1 (fun _ => ?_) (fun _ => ?_)
  · first | exact two_u hn2 (st_reach hF hk h) | exact two_c hn2 (st_reach hF hk h)
  refine ite1 (fun _ => ?_) (fun _ => ?_)
  · first | exact two_u hn2 (st_keep hF h) | exact two_c hn2 (st_keep hF h)
  refine ite1 (fun _ => ?_) (fun _ => ?_)
  · exact two_d hn2 (st_judge hF h)
  refine ite1 (fun _ => ?_) (fun _ => ?_)
  · exact two_d hn2 (st_fault h _ _)
  refine ite1 (fun _ => ?_) (fun _ => ?_)
  · first | exact two_u hn2 (st_tried hF h) | exact two_c hn2 (st_tried hF h)
  refine ite1 (fun _ => ?_) (fun _ => ?_)
  · first | exact two_u hn2 (st_told h _) | exact two_c hn2 (st_told h _)
  exact hn2 _ _ (INV_succ h)
theorem law_loop {F L : Nat} {xs : Nat → Int32} (hF : 2000 ≤ F) (hL : L ≤ 1536) : ∀ (r n k : Nat) (σ : SC) (τ : SM), 600 - k = r → r < n → k ≤ 600 → 3 * (k : Int) ≤ (L : Int) + 3 → INV σ τ k → m_law_l F L xs n σ τ (I (3 * (k : Int))) = some 1
  | 0, n, k, σ, τ, e, hn, hk, h3, h => by exfalso; omega
  | r + 1, n, k, σ, τ, e, hn, hk, h3, h => by
    obtain ⟨m, rfl⟩ : ∃ m, n = m + 1 := ⟨n - 1, by omega⟩
    have ez : I (3 * (k : Int)) + 3 = I (3 * ((k + 1 : Nat) : Int)) := by
      rw [show (3 : Int32) = I 3 from rfl, I_add]; congr 1
    refine law_step hF hL (by omega) h (fun h9 u w hi => ?_)
    rw [ez]
    exact law_loop hF hL r m (k + 1) u w (by omega) (by omega) (by omega) (by omega) hi
theorem law_true' {F L : Nat} {xs : Nat → Int32} (hF : 2000 ≤ F) (hL : L ≤ 1536) : m_law F L xs = some 1 := by
  obtain ⟨u, hu, h1⟩ := c_init hF
  obtain ⟨v, hv, h2⟩ := r_init hF
  unfold m_law
  rw [hu, bd_S, hv, bd_S]
  have a := law_loop (xs := xs) hF hL 600 F 0 (sc0 u) (sm0 v) (by omega) (by omega) (by omega) (by omega) (INV_first h1 h2)
  rw [show I (3 * ((0 : Nat) : Int)) = 0 from rfl] at a
  exact a
theorem law_true {L : Nat} {xs : Nat → Int32} (hL : L ≤ 1536) : m_law 100000 L xs = some 1 := law_true' (by omega) hL
