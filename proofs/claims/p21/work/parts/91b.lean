/-! pure part, searches: what can come behind a state: least cost, how many, how many of least cost, the lowest first step -/
abbrev V : Type := Option Int × Int64 × Int64 × Nat
def V0 : V := (none, 0, 0, 0)
def addW (a : V) (q : Nat) (pr : Int) (b : V) : V :=
  match b.1 with
  | none => a
  | some c => match a.1 with
    | none => (some (pr + c), a.2.1 + b.2.1, b.2.2.1, q)
    | some d => if pr + c < d then (some (pr + c), a.2.1 + b.2.1, b.2.2.1, q) else if pr + c = d then (some d, a.2.1 + b.2.1, a.2.2.1 + b.2.2.1, a.2.2.2) else (some d, a.2.1 + b.2.1, a.2.2.1, a.2.2.2)
def foldW (f : Nat → Option (Int × V)) : Nat → V
  | 0 => V0
  | k + 1 => match f k with
    | none => foldW f k
    | some x => addW (foldW f k) k x.1 x.2
def neut (x : Option (Int × V)) : Prop := ∀ p b, x = some (p, b) → b.1 = none
theorem addW_none {a b : V} {q : Nat} {p : Int} (h : b.1 = none) : addW a q p b = a := by
  unfold addW; rw [h]
theorem fold_neut {f : Nat → Option (Int × V)} {k : Nat} (h : neut (f k)) : foldW f (k + 1) = foldW f k := by
  show (match f k with | none => foldW f k | some x => addW (foldW f k) k x.1 x.2) = foldW f k
  cases e : f k with
  | none => rfl
  | some x => exact addW_none (h x.1 x.2 e)
theorem fold_some {f : Nat → Option (Int × V)} {k : Nat} {p : Int} {b : V} (h : f k = some (p, b)) : foldW f (k + 1) = addW (foldW f k) k p b := by
  show (match f k with | none => foldW f k | some x => addW (foldW f k) k x.1 x.2) = _
  rw [h]
theorem fold_off {f : Nat → Option (Int × V)} {k : Nat} (h : f k = none) : foldW f (k + 1) = foldW f k := by
  show (match f k with | none => foldW f k | some x => addW (foldW f k) k x.1 x.2) = foldW f k
  rw [h]
theorem fold_congr {f g : Nat → Option (Int × V)} : ∀ {k : Nat}, (∀ q, q < k → f q = g q ∨ (neut (f q) ∧ neut (g q))) → foldW f k = foldW g k
  | 0, _ => rfl
  | k + 1, h => by
    have ih := fold_congr (k := k) (fun q hq => h q (Nat.lt_succ_of_lt hq))
    rcases h k (Nat.lt_succ_self k) with e | ⟨e1, e2⟩
    · show (match f k with | none => foldW f k | some x => addW (foldW f k) k x.1 x.2) = (match g k with | none => foldW g k | some x => addW (foldW g k) k x.1 x.2)
      rw [e, ih]
    · rw [fold_neut e1, fold_neut e2, ih]
theorem fold_none {f : Nat → Option (Int × V)} : ∀ {k : Nat}, (foldW f k).1 = none → foldW f k = V0
  | 0, _ => rfl
  | k + 1, h => by
    cases e : f k with
    | none => rw [fold_off e] at h ⊢; exact fold_none h
    | some x =>
      obtain ⟨p, b⟩ := x
      rw [fold_some e] at h ⊢
      cases eb : b.1 with
      | none => rw [addW_none eb] at h ⊢; exact fold_none h
      | some c =>
        exfalso
        unfold addW at h
        rw [eb] at h
        cases ea : (foldW f k).1 with
        | none => rw [ea] at h; cases h
        | some d =>
          rw [ea] at h
          simp only at h
          split at h
          · cases h
          · split at h <;> cases h
theorem addW_some {a b : V} {q : Nat} {p c : Int} (h : b.1 = some c) : (addW a q p b).1 ≠ none := by
  unfold addW; rw [h]
  cases a.1 with
  | none => intro h; cases h
  | some d =>
    simp only
    intro h
    split at h
    · cases h
    · split at h <;> cases h
theorem addW_keep {a b : V} {q : Nat} {p : Int} (h : a.1 ≠ none) : (addW a q p b).1 ≠ none := by
  cases e : b.1 with
  | none => rw [addW_none e]; exact h
  | some c => exact addW_some e
theorem fold_hit {f : Nat → Option (Int × V)} {r : Nat} {p d : Int} {b : V} : ∀ {k : Nat}, r < k → f r = some (p, b) → b.1 = some d → (foldW f k).1 ≠ none
  | 0, h, _, _ => absurd h (Nat.not_lt_zero r)
  | k + 1, h, e1, e2 => by
    rcases Nat.lt_succ_iff_lt_or_eq.mp h with h | rfl
    · have ih := fold_hit h e1 e2
      cases e : f k with
      | none => rw [fold_off e]; exact ih
      | some x => obtain ⟨p2, b2⟩ := x; rw [fold_some e]; exact addW_keep ih
    · rw [fold_some e1]; exact addW_some e2
/-- the least cost is that of the lowest way that has it, and none has less -/
theorem fold_min {f : Nat → Option (Int × V)} : ∀ {k : Nat} {c : Int}, (foldW f k).1 = some c → (foldW f k).2.2.2 < k ∧ (∃ p b d, f (foldW f k).2.2.2 = some (p, b) ∧ b.1 = some d ∧ p + d = c) ∧ (∀ r, r < k → ∀ p b d, f r = some (p, b) → b.1 = some d → c ≤ p + d) ∧ (∀ r, r < (foldW f k).2.2.2 → ∀ p b d, f r = some (p, b) → b.1 = some d → c < p + d)
  | 0, c, h => by cases h
  | k + 1, c, h => by
    by_cases hn : neut (f k)
    · rw [fold_neut hn] at h ⊢
      obtain ⟨h1, h2, h3, h4⟩ := fold_min h
      refine ⟨Nat.lt_succ_of_lt h1, h2, fun r hr p b d e1 e2 => ?_, h4⟩
      rcases Nat.lt_succ_iff_lt_or_eq.mp hr with hr | rfl
      · exact h3 r hr p b d e1 e2
      · rw [hn p b e1] at e2; cases e2
    · cases e : f k with
      | none => exact absurd (fun p b e2 => by rw [e] at e2; cases e2) hn
      | some x =>
        obtain ⟨p, b⟩ := x
        cases eb : b.1 with
        | none => exact absurd (fun p2 b2 e2 => by rw [e] at e2; cases e2; exact eb) hn
        | some d =>
          rw [fold_some e] at h ⊢
          cases ea : (foldW f k).1 with
          | none =>
            have hz := fold_none ea
            have hw : addW (foldW f k) k p b = (some (p + d), (foldW f k).2.1 + b.2.1, b.2.2.1, k) := by unfold addW; rw [eb, ea]
            rw [hw] at h ⊢
            have hc : p + d = c := by injection h
            have hlow : ∀ r, r < k → ∀ p b d, f r = some (p, b) → b.1 = some d → c < p + d := by
              intro r hr p2 b2 d2 e1 e2
              exact absurd ea (fold_hit hr e1 e2)
            refine ⟨Nat.lt_succ_self k, ⟨p, b, d, e, eb, hc⟩, fun r hr p2 b2 d2 e1 e2 => ?_, hlow⟩
            rcases Nat.lt_succ_iff_lt_or_eq.mp hr with hr | rfl
            · exact Int.le_of_lt (hlow r hr p2 b2 d2 e1 e2)
            · rw [e] at e1; cases e1; rw [eb] at e2; cases e2; omega
          | some d0 =>
            obtain ⟨h1, h2, h3, h4⟩ := fold_min ea
            by_cases l1 : p + d < d0
            · have hw : addW (foldW f k) k p b = (some (p + d), (foldW f k).2.1 + b.2.1, b.2.2.1, k) := by unfold addW; rw [eb, ea]; simp only; rw [if_pos l1]
              rw [hw] at h ⊢
              have hc : p + d = c := by injection h
              have hlow : ∀ r, r < k → ∀ p b d, f r = some (p, b) → b.1 = some d → c < p + d := by
                intro r hr p2 b2 d2 e1 e2
                have := h3 r hr p2 b2 d2 e1 e2
                omega
              refine ⟨Nat.lt_succ_self k, ⟨p, b, d, e, eb, hc⟩, fun r hr p2 b2 d2 e1 e2 => ?_, hlow⟩
              rcases Nat.lt_succ_iff_lt_or_eq.mp hr with hr | rfl
              · exact Int.le_of_lt (hlow r hr p2 b2 d2 e1 e2)
              · rw [e] at e1; cases e1; rw [eb] at e2; cases e2; omega
            · have hw : (addW (foldW f k) k p b).1 = some d0 ∧ (addW (foldW f k) k p b).2.2.2 = (foldW f k).2.2.2 := by
                unfold addW; rw [eb, ea]; simp only; rw [if_neg l1]; split <;> exact ⟨rfl, rfl⟩
              rw [hw.1] at h
              have hc : d0 = c := by injection h
              rw [hw.2]
              refine ⟨Nat.lt_succ_of_lt h1, ?_, fun r hr p2 b2 d2 e1 e2 => ?_, fun r hr p2 b2 d2 e1 e2 => ?_⟩
              · obtain ⟨p2, b2, d2, e1, e2, e3⟩ := h2
                exact ⟨p2, b2, d2, e1, e2, e3.trans hc⟩
              · rcases Nat.lt_succ_iff_lt_or_eq.mp hr with hr | rfl
                · have := h3 r hr p2 b2 d2 e1 e2; omega
                · rw [e] at e1; cases e1; rw [eb] at e2; cases e2; omega
              · have := h4 r hr p2 b2 d2 e1 e2; omega
/-- the value of a state with d steps left, at level j -/
def VV {σ : Type} (c : Nat) (ok : Nat → σ → Nat → Bool) (pr : Nat → σ → Nat → Int) (nx : Nat → σ → Nat → σ) (fin : σ → V) : Nat → Nat → σ → V
  | 0, _, s => fin s
  | d + 1, j, s => foldW (fun q => if ok (j + 1) s q then some (pr (j + 1) s q, VV c ok pr nx fin d (j + 1) (nx (j + 1) s q)) else none) c
theorem VV_none {σ : Type} {c : Nat} {ok : Nat → σ → Nat → Bool} {pr : Nat → σ → Nat → Int} {nx : Nat → σ → Nat → σ} {fin : σ → V} (hf : ∀ s, (fin s).1 = none → fin s = V0) : ∀ {d j : Nat} {s : σ}, (VV c ok pr nx fin d j s).1 = none → VV c ok pr nx fin d j s = V0
  | 0, _, s, h => hf s h
  | d + 1, j, s, h => fold_none h
/-- one step of VV -/
theorem VV_step {σ : Type} {c : Nat} {ok : Nat → σ → Nat → Bool} {pr : Nat → σ → Nat → Int} {nx : Nat → σ → Nat → σ} {fin : σ → V} {d j : Nat} {s : σ} {x : Int} (h : (VV c ok pr nx fin (d + 1) j s).1 = some x) : (VV c ok pr nx fin (d + 1) j s).2.2.2 < c ∧ ok (j + 1) s (VV c ok pr nx fin (d + 1) j s).2.2.2 = true ∧ (∃ y, (VV c ok pr nx fin d (j + 1) (nx (j + 1) s (VV c ok pr nx fin (d + 1) j s).2.2.2)).1 = some y ∧ pr (j + 1) s (VV c ok pr nx fin (d + 1) j s).2.2.2 + y = x) ∧ (∀ r, r < (VV c ok pr nx fin (d + 1) j s).2.2.2 → ok (j + 1) s r = true → ∀ y, (VV c ok pr nx fin d (j + 1) (nx (j + 1) s r)).1 = some y → x < pr (j + 1) s r + y) := by
  have hV : VV c ok pr nx fin (d + 1) j s = foldW (fun q => if ok (j + 1) s q then some (pr (j + 1) s q, VV c ok pr nx fin d (j + 1) (nx (j + 1) s q)) else none) c := rfl
  rw [hV] at h ⊢
  obtain ⟨h1, ⟨p, b, y, e1, e2, e3⟩, _, h4⟩ := fold_min h
  generalize (foldW (fun q => if ok (j + 1) s q then some (pr (j + 1) s q, VV c ok pr nx fin d (j + 1) (nx (j + 1) s q)) else none) c).2.2.2 = q at h1 e1 h4 ⊢
  by_cases hk : ok (j + 1) s q = true
  · rw [if_pos hk] at e1
    injection e1 with e1
    injection e1 with e4 e5
    refine ⟨h1, hk, ⟨y, by rw [e5]; exact e2, by rw [e4]; exact e3⟩, ?_⟩
    intro r hr hok y2 hy
    exact h4 r hr _ _ y2 (if_pos hok) hy
  · rw [if_neg hk] at e1; cases e1
theorem VV_range {σ : Type} {c W : Nat} {ok : Nat → σ → Nat → Bool} {pr : Nat → σ → Nat → Int} {nx : Nat → σ → Nat → σ} {fin : σ → V} (hf : ∀ s x, (fin s).1 = some x → x = 0) (hp : ∀ j s q, 0 ≤ pr j s q ∧ pr j s q ≤ W) : ∀ {d j : Nat} {s : σ} {x : Int}, (VV c ok pr nx fin d j s).1 = some x → 0 ≤ x ∧ x ≤ d * W
  | 0, _, s, x, h => by rw [hf s x h]; omega
  | d + 1, j, s, x, h => by
    obtain ⟨_, _, ⟨y, h3, h4⟩, _⟩ := VV_step h
    have h5 := VV_range hf hp h3
    have h6 := hp (j + 1) s (VV c ok pr nx fin (d + 1) j s).2.2.2
    have h7 : ((d + 1 : Nat) : Int) * (W : Int) = (d : Int) * W + W := by rw [Int.natCast_add, Int.add_mul]; simp
    omega
/-- two systems that go alike have the same values -/
theorem bisim {σ τ : Type} {c last : Nat} {ok1 : Nat → σ → Nat → Bool} {pr1 : Nat → σ → Nat → Int} {nx1 : Nat → σ → Nat → σ} {fin1 : σ → V} {ok2 : Nat → τ → Nat → Bool} {pr2 : Nat → τ → Nat → Int} {nx2 : Nat → τ → Nat → τ} {fin2 : τ → V} (R : Nat → σ → τ → Prop) (hfin : ∀ s t, R last s t → fin1 s = fin2 t) (hst : ∀ j s t q, R j s t → j < last → q < c → (ok1 (j + 1) s q = true ∧ ok2 (j + 1) t q = true ∧ pr1 (j + 1) s q = pr2 (j + 1) t q ∧ R (j + 1) (nx1 (j + 1) s q) (nx2 (j + 1) t q)) ∨ (ok1 (j + 1) s q = false ∧ (ok2 (j + 1) t q = false ∨ (j + 1 = last ∧ (fin2 (nx2 (j + 1) t q)).1 = none)))) : ∀ (d j : Nat) (s : σ) (t : τ), j + d = last → R j s t → VV c ok1 pr1 nx1 fin1 d j s = VV c ok2 pr2 nx2 fin2 d j t
  | 0, j, s, t, e, r => by
    have e2 : j = last := by omega
    subst e2
    exact hfin s t r
  | d + 1, j, s, t, e, r => by
    unfold VV
    apply fold_congr
    intro q hq
    rcases hst j s t q r (by omega) hq with ⟨a1, a2, a3, a4⟩ | ⟨a1, a2⟩
    · left
      rw [if_pos a1, if_pos a2, a3, bisim R hfin hst d (j + 1) _ _ (by omega) a4]
    · right
      refine ⟨?_, ?_⟩
      · rw [a1]; intro p b e2; cases e2
      · rcases a2 with a2 | ⟨a2, a3⟩
        · rw [a2]; intro p b e2; cases e2
        · have hd : d = 0 := by omega
          subst hd
          cases hk : ok2 (j + 1) t q with
          | false => intro p b e2; cases e2
          | true =>
            intro p b e2
            injection e2 with e2
            injection e2 with e3 e4
            rw [← e4]; exact a3
/-- the state after k steps by the lowest ways of least cost -/
def SA {σ : Type} (c : Nat) (ok : Nat → σ → Nat → Bool) (pr : Nat → σ → Nat → Int) (nx : Nat → σ → Nat → σ) (fin : σ → V) (d j : Nat) (s : σ) : Nat → σ
  | 0 => s
  | k + 1 => nx (j + k + 1) (SA c ok pr nx fin d j s k) (VV c ok pr nx fin (d - k) (j + k) (SA c ok pr nx fin d j s k)).2.2.2
theorem SA_some {σ : Type} {c : Nat} {ok : Nat → σ → Nat → Bool} {pr : Nat → σ → Nat → Int} {nx : Nat → σ → Nat → σ} {fin : σ → V} {d j : Nat} {s : σ} {x : Int} (h : (VV c ok pr nx fin d j s).1 = some x) : ∀ (k : Nat), k ≤ d → ∃ y, (VV c ok pr nx fin (d - k) (j + k) (SA c ok pr nx fin d j s k)).1 = some y
  | 0, _ => ⟨x, h⟩
  | k + 1, hk => by
    obtain ⟨y, hy⟩ := SA_some h k (by omega)
    have e : d - k = (d - (k + 1)) + 1 := by omega
    rw [e] at hy
    obtain ⟨_, _, ⟨z, hz, _⟩, _⟩ := VV_step hy
    refine ⟨z, ?_⟩
    show (VV c ok pr nx fin (d - (k + 1)) (j + k + 1) (nx (j + k + 1) (SA c ok pr nx fin d j s k) (VV c ok pr nx fin (d - k) (j + k) (SA c ok pr nx fin d j s k)).2.2.2)).1 = some z
    rw [e]; exact hz
theorem SA_bisim {σ τ : Type} {c last : Nat} {ok1 : Nat → σ → Nat → Bool} {pr1 : Nat → σ → Nat → Int} {nx1 : Nat → σ → Nat → σ} {fin1 : σ → V} {ok2 : Nat → τ → Nat → Bool} {pr2 : Nat → τ → Nat → Int} {nx2 : Nat → τ → Nat → τ} {fin2 : τ → V} (R : Nat → σ → τ → Prop) (hfin : ∀ s t, R last s t → fin1 s = fin2 t) (hst : ∀ j s t q, R j s t → j < last → q < c → (ok1 (j + 1) s q = true ∧ ok2 (j + 1) t q = true ∧ pr1 (j + 1) s q = pr2 (j + 1) t q ∧ R (j + 1) (nx1 (j + 1) s q) (nx2 (j + 1) t q)) ∨ (ok1 (j + 1) s q = false ∧ (ok2 (j + 1) t q = false ∨ (j + 1 = last ∧ (fin2 (nx2 (j + 1) t q)).1 = none)))) {d j : Nat} {s : σ} {t : τ} (e : j + d = last) (r : R j s t) {x : Int} (hx : (VV c ok1 pr1 nx1 fin1 d j s).1 = some x) : ∀ (k : Nat), k ≤ d → R (j + k) (SA c ok1 pr1 nx1 fin1 d j s k) (SA c ok2 pr2 nx2 fin2 d j t k)
  | 0, _ => r
  | k + 1, hk => by
    have ih := SA_bisim R hfin hst e r hx k (by omega)
    obtain ⟨y, hy⟩ := SA_some hx k (by omega)
    have eq := bisim R hfin hst (d - k) (j + k) _ _ (by omega) ih
    have e2 : d - k = (d - (k + 1)) + 1 := by omega
    have hy2 := hy
    rw [e2] at hy2
    obtain ⟨h1, h2, _, _⟩ := VV_step hy2
    rw [← e2] at h1 h2
    rcases hst (j + k) _ _ _ ih (by omega) h1 with ⟨_, _, _, a4⟩ | ⟨a1, _⟩
    · show R (j + (k + 1)) (nx1 (j + k + 1) _ (VV c ok1 pr1 nx1 fin1 (d - k) (j + k) (SA c ok1 pr1 nx1 fin1 d j s k)).2.2.2) (nx2 (j + k + 1) _ (VV c ok2 pr2 nx2 fin2 (d - k) (j + k) (SA c ok2 pr2 nx2 fin2 d j t k)).2.2.2)
      rw [← eq]; exact a4
    · rw [h2] at a1; cases a1
