/-! pure part: the class's run -/
section
variable {S : Su} {np mp vp mt bc bt ps sp on : Nat → Int32} {F : Nat} {m t : Int}
theorem mg_none {g : GG} (h : (S.R m).1 = none) : S.mg m g = g := by
  have e : S.R m = V0 := fold_none h
  unfold Su.mg
  rw [e]
  obtain ⟨gc, ga, gt, gl⟩ := g
  show (gc, ga + 0, gt, gl) = _
  rw [Int64.add_zero]
theorem c_run_it (hw : WF S) (hp : PT S np mp vp mt bc bt ps sp) (hF : 2000 ≤ F) (hc : S.c ≤ 8) (hN2 : 2 ≤ S.N) (hm : MT9 S m t) {Q : Int32 × Int32 × Int32 × Int32 × Int64 × Int64 × (Nat → Int32) × (Nat → Int32) × (Nat → Int32) × (Nat → Int32) × (Nat → Int32) × (Nat → Int32) × (Nat → Int64) × (Nat → Int64) × (Nat → Int32) × (Nat → Int32) → Prop} {k80 : Int32 → Int32 → Int32 → Int32 → Int64 → Int64 → (Nat → Int32) → (Nat → Int32) → (Nat → Int32) → (Nat → Int32) → (Nat → Int32) → (Nat → Int32) → (Nat → Int64) → (Nat → Int64) → (Nat → Int32) → (Nat → Int32) → Int32 → Int32 → Option (Int32 × Int32 × Int32 × Int32 × Int64 × Int64 × (Nat → Int32) × (Nat → Int32) × (Nat → Int32) × (Nat → Int32) × (Nat → Int32) × (Nat → Int32) × (Nat → Int64) × (Nat → Int64) × (Nat → Int32) × (Nat → Int32))} {mk : Int} {lm : List Int} {tp lc : Int32} {al ll : Int64} {ls sz nx pl ma rc : Nat → Int32} {rl rt : Nat → Int64} {lo tr : Nat → Int32} {x2 : Int} {g : GG} (hx0 : t ≤ x2) (hx1 : x2 < 100) (hk0 : 0 ≤ mk ∧ mk < 900000000) (hmk : MK mk ma lm) (hg : GD S g lc al ll lo) (hk : ∀ mk2 lm2 lc al ll ls sz nx pl ma rc rl rt lo tr, mk ≤ mk2 → mk2 ≤ mk + 47 → MK mk2 ma lm2 → GD S (S.mg m g) lc al ll lo → Ok (k80 (I mk2) (I t) (B true) lc al ll ls sz nx pl ma rc rl rt lo tr (I x2) (I (t + 1))) Q) : Ok (m_Search_run_80b F on (I S.c) (I S.N) (I S.K) (I S.mal) np mp vp mt bc bt ps sp k80 (I mk) tp (B true) lc al ll ls sz nx pl ma rc rl rt lo tr (I x2) (I t)) Q := by
  have t0 : 0 ≤ t := by rcases hm with ⟨_, h⟩ | ⟨h, _, h2⟩ <;> omega
  have t1 : t ≤ 8 := by rcases hm with ⟨_, h⟩ | ⟨h, _, h2⟩ <;> omega
  have hN := WF_N hw; have hl := last_N hN2
  have et : I t + 1 = I (t + 1) := by rw [L_1, I_add]
  unfold m_Search_run_80b m_Search_run_112
  rw [if_neg (by rw [I_lt (by omega) (by omega) (by omega) (by omega)]; omega), et]
  refine Ok_bd (c_spread hw hp hF hc t0 t1 (cl := true) hN2 hk0 hmk) ?_
  rintro ⟨f9, mk9, ls2, sz2, ma2⟩ ⟨LL, f, mk2, lm2, u1, u2, u3, u4, u5, u6⟩
  simp only at u1 u2 u3 u4 u5 u6 ⊢
  subst u1; subst u3
  have fN := u2.1
  refine Ok_ite (fun hz => ?_) (fun hz => ?_)
  · rw [I_eq (by omega) (by omega) (by omega) (by omega)] at hz
    have hLL : ∀ i, i ≤ S.last → Lay ls2 sz2 i (LL i) ∧ GL S (LL i) := fun i hi => u2.2.2.2.2.1 i (by omega) (by omega)
    have hst : ∀ i, i < S.last → StepL S t true (i + 1) (LL i) (LL (i + 1)) := fun i hi => u2.2.2.2.2.2 i (by omega) (by omega)
    refine Ok_bd (c_weigh hw hp hF hc t0 t1 hN2 hLL hst nx pl rc rl rt) ?_
    rintro ⟨nx2, pl2, rc2, rl2, rt2⟩ hwd
    simp only at hwd ⊢
    refine Ok_bd (c_gather hw hp hF hc hN2 hm u2.2.1 hLL hwd (tr := tr) hg) ?_
    rintro ⟨a1, a2, a3, a4, a5⟩ hgd
    simp only at hgd ⊢
    exact hk _ _ _ _ _ _ _ _ _ _ _ _ _ _ _ u4 u5 u6 hgd
  · rw [I_eq (by omega) (by omega) (by omega) (by omega)] at hz
    have hnone := short_none hw hc hN2 hm u2 (by omega)
    refine hk _ _ _ _ _ _ _ _ _ _ _ _ _ _ _ u4 u5 u6 ?_
    rw [mg_none hnone]; exact hg
theorem c_run80 (hw : WF S) (hp : PT S np mp vp mt bc bt ps sp) (hF : 2000 ≤ F) (hc : S.c ≤ 8) (hN2 : 2 ≤ S.N) (h10 : S.on 10 = true) {mk0 : Int} (k00 : 0 ≤ mk0 ∧ mk0 < 800000000) : ∀ (r n k : Nat) (mv : Int) (lm : List Int) (tp lc : Int32) (al ll : Int64) (ls sz nx pl ma rc : Nat → Int32) (rl rt : Nat → Int64) (lo tr : Nat → Int32), S.c - k = r → r < n → k ≤ S.c → mk0 ≤ mv → mv ≤ mk0 + 47 * k → MK mv ma lm → GD S (S.GA k) lc al ll lo → Ok (m_Search_run_80 F on (I S.c) (I S.N) (I S.K) (I S.mal) np mp vp mt bc bt ps sp n (I mv) tp (B true) lc al ll ls sz nx pl ma rc rl rt lo tr (I ((S.c : Int) - 1)) (I k)) (fun u : Int32 × Int32 × Int32 × Int32 × Int64 × Int64 × (Nat → Int32) × (Nat → Int32) × (Nat → Int32) × (Nat → Int32) × (Nat → Int32) × (Nat → Int32) × (Nat → Int64) × (Nat → Int64) × (Nat → Int32) × (Nat → Int32) => GD S S.tot u.2.2.2.1 u.2.2.2.2.1 u.2.2.2.2.2.1 u.2.2.2.2.2.2.2.2.2.2.2.2.2.2.1 ∧ ∃ mk2 lm2, u.1 = I mk2 ∧ mk0 ≤ mk2 ∧ mk2 ≤ mk0 + 800 ∧ MK mk2 u.2.2.2.2.2.2.2.2.2.2.1 lm2)
  | 0, n, k, mv, lm, tp, lc, al, ll, ls, sz, nx, pl, ma, rc, rl, rt, lo, tr, e, hn, hk, k1, k2, hm, hg => by
    obtain ⟨j, rfl⟩ : ∃ j, n = j + 1 := ⟨n - 1, by omega⟩
    have ek : k = S.c := by omega
    subst ek
    have et : S.tot = S.GA S.c := by unfold Su.tot; rw [if_pos h10]
    simp only [m_Search_run_80, m_Search_run_80b]
    rw [if_pos (by rw [I_lt (by omega) (by omega) (by omega) (by omega)]; omega), et]
    exact Ok_some ⟨hg, mv, lm, rfl, k1, by omega, hm⟩
  | r + 1, n, k, mv, lm, tp, lc, al, ll, ls, sz, nx, pl, ma, rc, rl, rt, lo, tr, e, hn, hk, k1, k2, hm, hg => by
    obtain ⟨j, rfl⟩ : ∃ j, n = j + 1 := ⟨n - 1, by omega⟩
    simp only [m_Search_run_80]
    refine c_run_it hw hp hF hc hN2 (m := k) (t := k) (Or.inr ⟨by omega, by omega, rfl⟩) (by omega) (by omega) (by omega) hm hg (fun mk2 lm2 lc al ll ls sz nx pl ma rc rl rt lo tr a1 a2 a3 a4 => ?_)
    have e1 : (k : Int) + 1 = ((k + 1 : Nat) : Int) := by omega
    rw [e1]
    exact c_run80 hw hp hF hc hN2 h10 k00 r j (k + 1) mk2 lm2 _ lc al ll ls sz nx pl ma rc rl rt lo tr (by omega) (by omega) (by omega) (by omega) (by omega) a3 a4
theorem c_run (hw : WF S) (hp : PT S np mp vp mt bc bt ps sp) (hF : 2000 ≤ F) (hc : S.c ≤ 8) (hN2 : 2 ≤ S.N) (hon : ∀ i, i < 11 → on i = B (S.on i)) {mk0 : Int} (k00 : 0 ≤ mk0 ∧ mk0 < 800000000) {lm : List Int} (top cl : Int32) (lc : Int32) (al ll : Int64) (ls sz nx pl ma rc : Nat → Int32) (rl rt : Nat → Int64) (lo tr : Nat → Int32) (hm : MK mk0 ma lm) : Ok (m_Search_run F on (I S.c) (I S.N) (I S.K) (I S.mal) np mp vp mt bc bt ps sp (I mk0) top cl lc al ll ls sz nx pl ma rc rl rt lo tr) (fun u : Int32 × Int32 × Int32 × Int32 × Int64 × Int64 × (Nat → Int32) × (Nat → Int32) × (Nat → Int32) × (Nat → Int32) × (Nat → Int32) × (Nat → Int32) × (Nat → Int64) × (Nat → Int64) × (Nat → Int32) × (Nat → Int32) => GD S S.tot u.2.2.2.1 u.2.2.2.2.1 u.2.2.2.2.2.1 u.2.2.2.2.2.2.2.2.2.2.2.2.2.2.1 ∧ ∃ mk2 lm2, u.1 = I mk2 ∧ mk0 ≤ mk2 ∧ mk2 ≤ mk0 + 800 ∧ MK mk2 u.2.2.2.2.2.2.2.2.2.2.1 lm2) := by
  have hg : ∀ lo, GD S g0 (I (-1)) 0 0 lo := fun lo => ⟨⟨rfl, fun _ => rfl, fun h => absurd rfl h, fun x hx => by cases hx⟩, rfl⟩
  have e10 : on (Int32.toNatClampNeg 10) = B (S.on 10) := hon 10 (by decide)
  unfold m_Search_run m_Search_run_44 m_Search_run_77
  rw [e10]
  rw [show (1 : Int32) = I 1 from rfl, show -I 1 = I (-1) from rfl, L_0]
  simp only [B_0]
  cases h10 : S.on 10 with
  | true =>
    simp only [Bool.true_eq_false, if_false]
    rw [show I 1 = B true from rfl]
    have e1 : I (S.c : Int) - B true = I ((S.c : Int) - 1) := by rw [show B true = I 1 from rfl, I_sub]
    rw [e1]
    exact c_run80 hw hp hF hc hN2 h10 k00 _ F 0 mk0 lm _ _ _ _ ls sz nx pl ma rc rl rt lo tr rfl (by omega) (by omega) (by omega) (by omega) hm (hg lo)
  | false =>
    simp only [if_true]
    obtain ⟨j, hj⟩ : ∃ j, F = j + 2 := ⟨F - 2, by omega⟩
    rw [show I 1 = B true from rfl]
    rw [show m_Search_run_80 F on (I S.c) (I S.N) (I S.K) (I S.mal) np mp vp mt bc bt ps sp F (I mk0) top (B true) (I (-1)) 0 0 ls sz nx pl ma rc rl rt lo tr (I S.c) (I S.c) = m_Search_run_80 F on (I S.c) (I S.N) (I S.K) (I S.mal) np mp vp mt bc bt ps sp (j + 2) (I mk0) top (B true) (I (-1)) 0 0 ls sz nx pl ma rc rl rt lo tr (I S.c) (I S.c) from by rw [← hj]]
    simp only [m_Search_run_80]
    have et : S.tot = S.mg (-1) g0 := by unfold Su.tot; rw [h10]; rfl
    refine c_run_it hw hp hF hc hN2 (m := -1) (t := S.c) (Or.inl ⟨by omega, rfl⟩) (by omega) (by omega) (by omega) hm (hg lo) (fun mk2 lm2 lc al ll ls sz nx pl ma rc rl rt lo tr a1 a2 a3 a4 => ?_)
    unfold m_Search_run_80b
    rw [if_pos (by rw [I_lt (by omega) (by omega) (by omega) (by omega)]; omega), et]
    exact Ok_some ⟨a4, mk2, lm2, rfl, by omega, by omega, a3⟩
end
