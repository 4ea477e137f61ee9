/-! pure part: the class's values are the reference's -/
def MT9 (S : Su) (m t : Int) : Prop := (m < 0 ∧ t = S.c) ∨ (0 ≤ m ∧ m < S.c ∧ t = m)
section
variable {S : Su} {m t : Int}
theorem last_N {S : Su} (hN2 : 2 ≤ S.N) : (S.last : Int) = S.N - 1 := by unfold Su.last; omega
theorem bis_step (hw : WF S) (hc : S.c ≤ 8) (hN2 : 2 ≤ S.N) (j : Nat) (x : Int) (r : RT) (q : Nat) (R : Rel S m t j x r) (hj : j < S.last) (hq : q < S.c) : (S.cok t true (j + 1) x q = true ∧ S.rok m (j + 1) r q = true ∧ S.cpr (j + 1) x q = S.rpr (j + 1) r q ∧ Rel S m t (j + 1) (S.cnx t (j + 1) x q) (S.rnx m (j + 1) r q)) ∨ (S.cok t true (j + 1) x q = false ∧ (S.rok m (j + 1) r q = false ∨ (j + 1 = S.last ∧ (rfin m (S.rnx m (j + 1) r q)).1 = none))) := by
  have hl := last_N hN2
  cases hok : S.cok t true (j + 1) x q with
  | true =>
    left
    have := rel_step hw R hc hq hok
    exact ⟨rfl, this.1, this.2.1, this.2.2⟩
  | false =>
    right
    refine ⟨rfl, ?_⟩
    have e := cok_eq hw R hc hq
    rw [hok] at e
    cases hr : S.rok m (j + 1) r q with
    | false => exact Or.inl rfl
    | true =>
      right
      rw [hr] at e
      simp only [Bool.true_and] at e
      have e2 : (decide (((j + 1 : Nat) : Int) = S.N - 1) && (decide (t < S.c) && (decide ((q : Int) ≠ t) && decide (r.2.2.2 = 0)))) = true := by
        cases h : (decide (((j + 1 : Nat) : Int) = S.N - 1) && (decide (t < S.c) && (decide ((q : Int) ≠ t) && decide (r.2.2.2 = 0)))) with
        | true => rfl
        | false => rw [h] at e; cases e
      simp only [Bool.and_eq_true, decide_eq_true_eq] at e2
      obtain ⟨a1, a2, a3, a4⟩ := e2
      refine ⟨by omega, ?_⟩
      obtain ⟨_, _, _, _, _, _, _, _, hm, _⟩ := R
      unfold rfin Su.rnx
      simp only
      have hu : rused m r.2.2.2 q ≠ 1 := by
        rcases hm with ⟨m0, mt, _⟩ | ⟨m0, mc, mt⟩
        · omega
        · unfold rused; (repeat' split) <;> omega
      have hm0 : ¬ m < 0 := by
        rcases hm with ⟨m0, mt, _⟩ | ⟨m0, mc, mt⟩ <;> omega
      rw [if_neg (fun h => h.elim hm0 hu)]
      rfl
theorem bis_fin (hN2 : 2 ≤ S.N) (x : Int) (r : RT) (R : Rel S m t S.last x r) : cfin x = rfin m r := by
  have hl := last_N hN2
  obtain ⟨_, _, _, _, _, _, _, _, hm, h9⟩ := R
  unfold cfin rfin
  rcases hm with ⟨m0, _, _⟩ | ⟨m0, _, _⟩
  · rw [if_pos (Or.inl m0)]
  · rw [if_pos (Or.inr (h9 hl m0))]
theorem cW_rW (hw : WF S) (hc : S.c ≤ 8) (hN2 : 2 ≤ S.N) {x : Int} {r : RT} (R : Rel S m t 0 x r) : S.cW t 0 x = S.rW m 0 r := by
  unfold Su.cW Su.rW
  exact bisim (Rel S m t) (bis_fin hN2) (bis_step hw hc hN2) _ 0 x r (by omega) R
def Su.cT (S : Su) (t : Int) (x : Int) (k : Nat) : Int := SA S.c (S.cok t true) S.cpr (S.cnx t) cfin S.last 0 x k
theorem cT_succ {x : Int} {k : Nat} : S.cT t x (k + 1) = S.cnx t (k + 1) (S.cT t x k) (S.cW t k (S.cT t x k)).2.2.2 := by
  unfold Su.cT Su.cW
  show S.cnx t (0 + k + 1) _ (VV S.c (S.cok t true) S.cpr (S.cnx t) cfin (S.last - k) (0 + k) _).2.2.2 = _
  rw [Nat.zero_add]
theorem cT_some {x y : Int} (h : (S.cW t 0 x).1 = some y) {k : Nat} (hk : k ≤ S.last) : ∃ z, (S.cW t k (S.cT t x k)).1 = some z := by
  unfold Su.cW at h
  rw [Nat.sub_zero] at h
  obtain ⟨z, hz⟩ := SA_some h k hk
  refine ⟨z, ?_⟩
  unfold Su.cW Su.cT
  rw [Nat.zero_add] at hz
  exact hz
theorem cT_rT (hw : WF S) (hc : S.c ≤ 8) (hN2 : 2 ≤ S.N) {x y : Int} {r : RT} (R : Rel S m t 0 x r) (h : (S.cW t 0 x).1 = some y) {k : Nat} (hk : k ≤ S.last) : S.cT t x k % 8 = (S.rT m r k).1 := by
  unfold Su.cW at h
  rw [Nat.sub_zero] at h
  have := SA_bisim (Rel S m t) (bis_fin hN2) (bis_step hw hc hN2) (j := 0) (by omega) R h k hk
  rw [Nat.zero_add] at this
  exact this.1.2.2.1
theorem rel0 (hw : WF S) (hc : S.c ≤ 8) (hN2 : 2 ≤ S.N) (hm : MT9 S m t) {q : Nat} (hq : q < S.c) (hu : rused m 0 q < 2) : Rel S m t 0 (cfs t q) (rt0 m q) := by
  have eu : rused m 0 q = (if (q : Int) = t then 1 else 0) := by
    unfold rused at hu ⊢
    rcases hm with ⟨m0, mt⟩ | ⟨m0, mc, mt⟩
    · rw [if_neg (by omega), if_neg (by omega)]
    · subst mt
      rw [if_pos m0] at hu ⊢
      (repeat' split) <;> (repeat' split at hu) <;> omega
  have hU : 0 ≤ (if (q : Int) = t then (1 : Int) else 0) ∧ (if (q : Int) = t then (1 : Int) else 0) ≤ 1 := by split <;> omega
  obtain ⟨d1, d2, d3, d4, d5⟩ := dec4 (a := q) (b := q) (c := q) (d := if (q : Int) = t then 1 else 0) (by omega) (by omega) (by omega) (by omega) (by omega) (by omega) hU.1 hU.2
  have g := cfs_good (S := S) hc (t := t) hq
  unfold rt0 Rel
  simp only
  rw [eu]
  refine ⟨⟨g.1.1, g.1.2, d1, d3, d4⟩, ⟨by omega, by omega, by omega, by omega, hU.1, hU.2⟩, fun _ => trivial, fun h => absurd h (Nat.lt_irrefl 0), fun _ => trivial, fun h => absurd h (Nat.lt_irrefl 0), fun _ => ?_, fun _ => d5, ?_, fun h => by omega⟩
  · unfold cfs; rw [d5]; rfl
  · rcases hm with ⟨m0, mt⟩ | h
    · left; refine ⟨m0, mt, ?_⟩; rw [if_neg (by omega)]
    · right; exact h
theorem kk_used (hc : S.c ≤ 8) (hm : MT9 S m t) {q : Nat} (hq : q < S.c) : q < S.kk t ↔ rused m 0 q < 2 := by
  have t0 : 0 ≤ t := by rcases hm with ⟨_, h⟩ | ⟨h, _, h2⟩ <;> omega
  rw [(kk_r (S := S) hc t0).2 q]
  unfold rused
  rcases hm with ⟨m0, mt⟩ | ⟨m0, mc, mt⟩
  · rw [if_neg (by omega)]; omega
  · rw [if_pos m0]; (repeat' split) <;> omega
theorem l0_pos {S : Su} {t : Int} : ∀ (k q : Nat), q < k → S.nbad 0 (S.P q) = false → (S.l0 t q).length < (S.l0 t k).length ∧ (S.l0 t k).getD (S.l0 t q).length 0 = cfs t q
  | 0, q, h, _ => absurd h (Nat.not_lt_zero q)
  | k + 1, q, h, hb => by
    have el : S.l0 t (k + 1) = if S.nbad 0 (S.P k) then S.l0 t k else S.l0 t k ++ [cfs t k] := rfl
    by_cases e : q = k
    · subst e
      rw [el, hb]
      simp only [Bool.false_eq_true, if_false]
      rw [List.length_append, List.length_singleton]
      exact ⟨by omega, getD_r⟩
    · obtain ⟨a, b⟩ := l0_pos k q (by omega) hb
      rw [el]
      split
      · exact ⟨a, b⟩
      · rw [List.length_append, List.length_singleton, getD_l a]
        exact ⟨by omega, b⟩
end
