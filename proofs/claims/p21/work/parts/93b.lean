/-! pure part: the two systems go alike -/
theorem strong_ge {S : Su} (h : WF S) {j : Int} (h1 : 0 < j) (h2 : S.strong j = true) : S.K ≤ j := by
  have e := of_decide_eq_true h2
  rcases WF_K h with k | k | k <;> rw [k] at e ⊢ <;> omega
theorem ends_eq {S : Su} (h : WF S) {j : Int} (h1 : 0 < j) : S.ends j = S.strong j := by
  unfold Su.ends
  cases e : S.strong j with
  | false => simp
  | true => simp [strong_ge h h1 e]
theorem turn_self {S : Su} (h : WF S) (a : Int) : S.turn a a = false := by
  have := WF_10 h
  unfold Su.turn fr; simp; omega
theorem rbef_next {p h q : Int} (hp : p < 8) : rbef q (rhow p h q) = p := by
  unfold rbef rhow
  (repeat' split) <;> omega
theorem turn_eq {S : Su} (h : WF S) {j x p hh q : Int} (hb : x / 8 % 8 = if S.looks j (rbef p hh) p then rbef p hh else p) : (S.tbad (S.P (x / 8 % 8)) (S.P p) (S.P q) || (S.pmust j (S.P p) && ! S.pass (S.P (x / 8 % 8)) (S.P p) (S.P q))) = (S.tbad (S.P (rbef p hh)) (S.P p) (S.P q) || (S.pmust j (S.P p) && ! S.pass (S.P (rbef p hh)) (S.P p) (S.P q))) := by
  cases e : S.looks j (rbef p hh) p with
  | true => rw [e, if_pos rfl] at hb; rw [hb]
  | false =>
    rw [e, if_neg (by decide)] at hb
    rw [hb]
    unfold Su.looks at e
    rw [Bool.or_eq_false_iff] at e
    rw [e.1]
    unfold Su.tbad Su.nturn
    rw [turn_self h]
    have e2 := e.2
    cases e6 : S.on 6 with
    | false => simp
    | true => rw [e6] at e2; simp at e2; simp [e2]
/-- what the class forbids, in the reference's words -/
theorem cok_eq {S : Su} (h : WF S) {m t : Int} {j : Nat} {x : Int} {r : RT} {q : Nat} (R : Rel S m t j x r) (hc : S.c ≤ 8) (hq : q < S.c) : S.cok t true (j + 1) x q = (S.rok m (j + 1) r q && ! (decide (((j + 1 : Nat) : Int) = S.N - 1) && (decide (t < S.c) && (decide ((q : Int) ≠ t) && decide (r.2.2.2 = 0))))) := by
  obtain ⟨p, hh, s, u⟩ := r
  obtain ⟨⟨x0, x1, xp, xs, xu⟩, ⟨p0, p1, s0, s1, u0, u1⟩, hj0, hj1, hst, hbe, h7, h7n, hm, _⟩ := R
  simp only at xp xs xu p0 p1 s0 s1 u0 u1 hj0 hj1 hst hbe h7 h7n hm ⊢
  have n11 := WF_11 h
  have eA : (! (decide (t < (q : Int)) || (decide ((q : Int) = t) && decide (u = 1)))) = decide (rused m u q < 2) := by
    apply Bool.eq_iff_iff.mpr
    simp only [Bool.not_eq_true', Bool.or_eq_false_iff, Bool.and_eq_false_iff, decide_eq_false_iff_not, decide_eq_true_eq]
    unfold rused
    rcases hm with ⟨m0, mt, mu⟩ | ⟨m0, mc, mt⟩
    · rw [if_neg (by omega)]; omega
    · rw [if_pos m0]; subst mt
      (repeat' split) <;> omega
  have eD : (decide (0 < S.mal) && (decide ((q : Int) = p) && decide (S.mal ≤ x / 1024 + 1))) = (S.on 7 && (decide ((q : Int) = p) && decide (S.nu 11 ≤ rrun p hh))) := by
    unfold Su.mal
    cases e7 : S.on 7 with
    | false => simp
    | true => rw [h7 e7]; simp; omega
  have eJ : ((j + 1 : Nat) : Int) - 1 = (j : Int) := by omega
  have eE : (decide (2 ≤ j + 1) && (S.tbad (S.P (x / 8 % 8)) (S.P p) (S.P q) || (S.pmust j (S.P p) && ! S.pass (S.P (x / 8 % 8)) (S.P p) (S.P q)))) = (decide (0 < hh) && (S.tbad (S.P (rbef p hh)) (S.P p) (S.P q) || (S.pmust j (S.P p) && ! S.pass (S.P (rbef p hh)) (S.P p) (S.P q)))) := by
    by_cases e0 : j = 0
    · have := hj0 e0; subst e0; simp [this]
    · have e1 := hj1 (by omega)
      rw [turn_eq h (hbe (by omega))]
      have d1 : decide (2 ≤ j + 1) = true := decide_eq_true (by omega)
      have d2 : decide (0 < hh) = true := decide_eq_true (by omega)
      rw [d1, d2]
  have eG : S.ends ((j + 1 : Nat) : Int) = S.strong ((j + 1 : Nat) : Int) := ends_eq h (by omega)
  unfold Su.cok Su.rok
  simp only
  rw [rmay_eq (by omega), xp, xs, xu, eA, eD, eJ, eE, eG]
  unfold Su.rtail Su.mbad Su.tbad Su.cbad
  have eN : (decide (((j + 1 : Nat) : Int) = S.N - 1) && (S.on 9 && S.bclose ((j + 1 : Nat) : Int) (S.P p) (S.P q))) = (decide (((j + 1 : Nat) : Int) = S.N - 1) && (S.on 9 && S.bclose (S.N - 1) (S.P p) (S.P q))) := by
    by_cases e : ((j + 1 : Nat) : Int) = S.N - 1
    · rw [e]
    · rw [decide_eq_false e, Bool.false_and, Bool.false_and]
  rw [eN]
  generalize S.nbad ((j + 1 : Nat) : Int) (S.P q) = a0
  generalize S.on 5 = a1; generalize S.leap (S.P p) (S.P q) = a2
  generalize decide (rused m u q < 2) = a3
  generalize S.on 7 = a4; generalize (decide ((q : Int) = p) && decide (S.nu 11 ≤ rrun p hh)) = a5
  generalize decide (0 < hh) = a6; generalize S.on 6 = a7; generalize S.nturn (S.P (rbef p hh)) (S.P p) (S.P q) = a8
  generalize S.pmust j (S.P p) = a9; generalize S.pass (S.P (rbef p hh)) (S.P p) (S.P q) = a10
  generalize decide (((j + 1 : Nat) : Int) = S.N - 1) = a11
  generalize (decide (t < (S.c : Int)) && (decide ((q : Int) ≠ t) && decide (u = 0))) = a12
  generalize S.on 9 = a13; generalize S.bclose (S.N - 1) (S.P p) (S.P q) = a14
  generalize S.strong ((j + 1 : Nat) : Int) = a15; generalize S.sbad ((j + 1 : Nat) : Int) (S.P s) (S.P q) = a16
  clear hm h7 h7n hbe hst hj0 hj1 eA eD eE eG eN
  cases a0 <;> cases a3 <;> cases a11 <;> simp <;> grind
theorem rel_step {S : Su} (h : WF S) {m t : Int} {j : Nat} {x : Int} {r : RT} {q : Nat} (R : Rel S m t j x r) (hc : S.c ≤ 8) (hq : q < S.c) (hok : S.cok t true (j + 1) x q = true) : S.rok m (j + 1) r q = true ∧ S.cpr (j + 1) x q = S.rpr (j + 1) r q ∧ Rel S m t (j + 1) (S.cnx t (j + 1) x q) (S.rnx m (j + 1) r q) := by
  rw [cok_eq h R hc hq] at hok
  rw [Bool.and_eq_true] at hok
  obtain ⟨ok1, ok2⟩ := hok
  obtain ⟨p, hh, s, u⟩ := r
  obtain ⟨⟨x0, x1, xp, xs, xu⟩, ⟨p0, p1, s0, s1, u0, u1⟩, hj0, hj1, hst, hbe, h7, h7n, hm, _⟩ := R
  simp only at xp xs xu p0 p1 s0 s1 u0 u1 hj0 hj1 hst hbe h7 h7n hm ok2
  have n11 := WF_11 h
  refine ⟨ok1, ?_, ?_⟩
  · unfold Su.cpr Su.rpr
    simp only
    rw [ends_eq h (by omega), xp, xs]
  · have okr := ok1
    unfold Su.rok at okr
    simp only [Bool.and_eq_true, decide_eq_true_eq] at okr
    obtain ⟨ou, om⟩ := okr
    have run1 : 1 ≤ rrun p hh ∧ rrun p hh ≤ 3 := by unfold rrun; (repeat' split) <;> omega
    have hrun : S.on 7 = true → (q : Int) = p → rrun p hh < S.nu 11 := by
      intro e7 eq
      unfold Su.rmay Su.rtail at om
      rw [e7] at om
      simp [eq] at om
      omega
    have al : 0 ≤ x / 1024 ∧ x / 1024 ≤ 2 := by omega
    have hu : rused m u q = (if (q : Int) = t then 1 else u) := by
      unfold rused at ou ⊢
      rcases hm with ⟨m0, mt, mu⟩ | ⟨m0, mc, mt⟩
      · rw [if_neg (by omega), if_neg (by omega)]
      · subst mt; rw [if_pos m0] at ou ⊢
        split at ou
        · rename_i l1; rw [if_pos l1]
          split at ou
          · rename_i l2; rw [if_pos l2]; split <;> omega
          · rename_i l2; rw [if_neg l2]; split <;> omega
        · omega
    have hu2 : 0 ≤ rused m u q ∧ rused m u q ≤ 1 := by rw [hu]; split <;> omega
    have ha : 0 ≤ (if (q : Int) = p ∧ 0 < S.mal then x / 1024 + 1 else 0) ∧ (if (q : Int) = p ∧ 0 < S.mal then x / 1024 + 1 else 0) ≤ 2 ∧ (S.on 7 = true → (if (q : Int) = p ∧ 0 < S.mal then x / 1024 + 1 else 0) + 1 = rrun q (rhow p hh q)) ∧ (S.on 7 = false → (if (q : Int) = p ∧ 0 < S.mal then x / 1024 + 1 else 0) = 0) := by
      cases e7 : S.on 7 with
      | false =>
        have hmal : S.mal = 0 := by unfold Su.mal; rw [e7]; rfl
        rw [if_neg (by rw [hmal]; omega)]
        simp
      | true =>
        have hmal : S.mal = S.nu 11 := by unfold Su.mal; rw [e7]; rfl
        have a1 := h7 e7
        by_cases eq : (q : Int) = p
        · have a2 := hrun e7 eq
          rw [if_pos ⟨eq, by omega⟩]
          refine ⟨by omega, by omega, fun _ => ?_, fun e => by cases e⟩
          unfold rhow; rw [if_pos eq]
          by_cases l1 : rrun p hh < 2
          · rw [if_pos l1]
            have : rrun q (p + 1) = 2 := by unfold rrun; rw [if_neg (by omega), if_neg (by omega), if_pos (by omega)]
            omega
          · rw [if_neg l1]
            have : rrun (q : Int) 9 = 3 := by unfold rrun; rfl
            omega
        · rw [if_neg (fun e => eq e.1)]
          refine ⟨by omega, by omega, fun _ => ?_, fun e => by cases e⟩
          unfold rhow; rw [if_neg eq]
          unfold rrun; rw [if_neg (by omega), if_neg (by omega), if_neg (by omega)]; omega
    have hs : 0 ≤ (if S.strong ((j + 1 : Nat) : Int) then (q : Int) else s) ∧ (if S.strong ((j + 1 : Nat) : Int) then (q : Int) else s) < S.c := by split <;> omega
    have hl : 0 ≤ (if S.looks ((j + 1 : Nat) : Int) p q then p else (q : Int)) ∧ (if S.looks ((j + 1 : Nat) : Int) p q then p else (q : Int)) < 8 := by split <;> omega
    have hw : 1 ≤ rhow p hh q ∧ (rhow p hh q ≤ S.c ∨ rhow p hh q = 9) := by unfold rhow; (repeat' split) <;> omega
    have hb2 := rbef_next (p := p) (h := hh) (q := q) (by omega)
    unfold Su.cnx Su.rnx Rel
    simp only
    rw [xp, xs, xu, ← hu, hb2]
    generalize (if S.looks ((j + 1 : Nat) : Int) p q then p else (q : Int)) = b at hl ⊢
    generalize hse : (if S.strong ((j + 1 : Nat) : Int) then (q : Int) else s) = s' at hs ⊢
    generalize (if (q : Int) = p ∧ 0 < S.mal then x / 1024 + 1 else 0) = a at ha ⊢
    obtain ⟨a0, a1, a2, a3⟩ := ha
    have d1 : ((q : Int) + b * 8 + s' * 64 + rused m u q * 512 + a * 1024) % 8 = q := by omega
    have d2 : ((q : Int) + b * 8 + s' * 64 + rused m u q * 512 + a * 1024) / 8 % 8 = b := by omega
    have d3 : ((q : Int) + b * 8 + s' * 64 + rused m u q * 512 + a * 1024) / 64 % 8 = s' := by omega
    have d4 : ((q : Int) + b * 8 + s' * 64 + rused m u q * 512 + a * 1024) / 512 % 2 = rused m u q := by omega
    have d5 : ((q : Int) + b * 8 + s' * 64 + rused m u q * 512 + a * 1024) / 1024 = a := by omega
    refine ⟨⟨by omega, by omega, d1, d3, d4⟩, ⟨by omega, by omega, hs.1, hs.2, hu2.1, hu2.2⟩, fun e => by omega, fun _ => hw, fun e => ?_, fun _ => d2, fun e => ?_, fun e => ?_, ?_, fun e e2 => ?_⟩
    · rw [← hse, if_pos e]
    · rw [d5]; exact a2 e
    · rw [d5]; exact a3 e
    · rcases hm with ⟨m0, mt, mu⟩ | hm
      · left; refine ⟨m0, mt, ?_⟩
        unfold rused; rw [if_neg (by omega)]; exact mu
      · right; exact hm
    · rcases hm with ⟨m0, _, _⟩ | ⟨m0, mc, mt⟩
      · omega
      · rw [hu]
        by_cases eq : (q : Int) = t
        · rw [if_pos eq]
        · rw [if_neg eq]
          have e3 : (t < (S.c : Int)) := by omega
          simp [e, e3, eq] at ok2
          omega
