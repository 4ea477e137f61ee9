/-! pure part: the class's gather and run -/
/-- what the class has found -/
def GD (S : Su) (g : GG) (lc : Int32) (al ll : Int64) (lo : Nat → Int32) : Prop := GC S g lc ll lo ∧ al = g.2.1
section
variable {S : Su} {np mp vp mt bc bt ps sp : Nat → Int32} {F : Nat} {m t : Int}
theorem ln_first {q : Nat} : S.ln m q 0 = q := by
  unfold Su.ln
  show ((rt0 m q).1).toNat = q
  unfold rt0; simp
theorem c_g2 (hw : WF S) (hp : PT S np mp vp mt bc bt ps sp) (hF : 2000 ≤ F) (hc : S.c ≤ 8) (hN2 : 2 ≤ S.N) (hm : MT9 S m t) {ls sz nx rc : Nat → Int32} {rl rt : Nat → Int64} {LL : Nat → List Int} (h0 : LL 0 = S.l0 t (S.kk t)) (hLL : ∀ i, i ≤ S.last → Lay ls sz i (LL i) ∧ GL S (LL i)) (hd : WD S t LL nx rc rl rt) (g : GG) : ∀ (r n q : Nat) (lc : Int32) (al ll : Int64) (lo tr : Nat → Int32), S.kk t - q = r → r < n → q ≤ S.kk t → GD S (mergeG (S.last + 1) g (foldW (S.rb m) q) (S.ln m (foldW (S.rb m) q).2.2.2)) lc al ll lo → Ok (m_Search_gather_2 F (I S.N) np ls sz nx rc rl rt n lc al ll lo tr (I (S.l0 t q).length)) (fun u => GD S (mergeG (S.last + 1) g (foldW (S.rb m) (S.kk t)) (S.ln m (foldW (S.rb m) (S.kk t)).2.2.2)) u.1 u.2.1 u.2.2.1 u.2.2.2.1)
  | 0, n, q, lc, al, ll, lo, tr, e, hn, hq, hg => by
    obtain ⟨k, rfl⟩ : ∃ k, n = k + 1 := ⟨n - 1, by omega⟩
    have eq : q = S.kk t := by omega
    subst eq
    obtain ⟨hl, hgl⟩ := hLL 0 (Nat.zero_le _)
    rw [h0] at hl hgl
    have len := GL_len hc hgl
    have esz : sz (Int32.toNatClampNeg 0) = I (S.l0 t (S.kk t)).length := hl.1
    simp only [m_Search_gather_2, m_Search_gather_2b]
    rw [esz, if_pos (by rw [I_le (by omega) (by omega) (by omega) (by omega)]; omega)]
    exact Ok_some hg
  | r + 1, n, q, lc, al, ll, lo, tr, e, hn, hq, hg => by
    have t0 : 0 ≤ t := by rcases hm with ⟨_, h⟩ | ⟨h, _, h2⟩ <;> omega
    have kc := (kk_r (S := S) hc t0).1
    have hqc : q < S.c := by omega
    have hu := (kk_used hc hm hqc).mp (by omega)
    cases hb : S.nbad 0 (S.P q) with
    | true =>
      have hf : S.rb m q = none := by unfold Su.rb; rw [hb]; simp
      have el : S.l0 t (q + 1) = S.l0 t q := by
        show (if S.nbad 0 (S.P q) then S.l0 t q else S.l0 t q ++ [cfs t q]) = _
        rw [hb]; rfl
      rw [← fold_off hf] at hg
      have := c_g2 hw hp hF hc hN2 hm h0 hLL hd g r n (q + 1) lc al ll lo tr (by omega) (by omega) (by omega) hg
      rw [el] at this; exact this
    | false =>
      obtain ⟨k, rfl⟩ : ∃ k, n = k + 1 := ⟨n - 1, by omega⟩
      have hf : S.rb m q = some (S.ncost 0 (S.P q), S.rW m 0 (rt0 m q)) := by unfold Su.rb; rw [hb]; simp [hu]
      have R := rel0 hw hc hN2 hm hqc hu
      have eV := cW_rW hw hc hN2 R
      obtain ⟨hl, hgl⟩ := hLL 0 (Nat.zero_le _)
      rw [h0] at hl hgl
      have len := GL_len hc hgl
      obtain ⟨p1, p2⟩ := l0_pos (S := S) (t := t) (S.kk t) q (by omega) hb
      have esz : sz (Int32.toNatClampNeg 0) = I (S.l0 t (S.kk t)).length := hl.1
      have hrl := hd.1 (S.l0 t q).length (by rw [h0]; exact p1)
      rw [h0, p2] at hrl
      obtain ⟨r1, r2, r3⟩ := hrl
      have p0 : par ((0 : Nat) : Int) = 0 := rfl
      rw [p0, Int.zero_add, Int.toNat_natCast] at r1 r2 r3
      have els := hl.2 _ p1
      rw [p2, Nat.zero_mul, Nat.zero_add] at els
      have gf := cfs_good (S := S) hc (t := t) hqc
      have cm := cfs_mod (t := t) (by omega : q < 8)
      have em : I (cfs t q) &&& I 7 = I q := by rw [I_mask7 gf.1.1 (by have := gf.1.2; omega), cm]
      have npq := (hp.1 0 q (by omega) (by omega) (by omega) (by omega) (by omega)).1
      have z0 : (0 * 8 + (q : Int)) = (q : Int) := by omega
      have enp : S.npv 0 q = S.ncost 0 (S.P q) := by unfold Su.npv; rw [hb]; rfl
      rw [z0, enp, Int.toNat_natCast] at npq
      have nr := ncost_r hw 0 (S.P q)
      have er := c_restAt (j := 0) (i := (S.l0 t q).length) (by omega) (by omega)
      have pz : par 0 + ((S.l0 t q).length : Int) = ((S.l0 t q).length : Int) := by
        have : par 0 = 0 := rfl
        omega
      rw [pz] at er
      have el : S.l0 t (q + 1) = S.l0 t q ++ [cfs t q] := by
        show (if S.nbad 0 (S.P q) then S.l0 t q else S.l0 t q ++ [cfs t q]) = _
        rw [hb]; rfl
      have ei : ((S.l0 t q).length : Int) + 1 = ((S.l0 t (q + 1)).length : Int) := by rw [el, List.length_append, List.length_singleton]; omega
      have esz2 : sz 0 = I (S.l0 t (S.kk t)).length := hl.1
      have ih := fun lc al ll lo tr h9 => c_g2 hw hp hF hc hN2 hm h0 hLL hd g r k (q + 1) lc al ll lo tr (by omega) (by omega) (by omega) h9
      simp only [m_Search_gather_2, m_Search_gather_2b, m_Search_gather_78]
      cases eW : (S.rW m 0 (rt0 m q)).1 with
      | none =>
        rw [eV, eW] at r1
        have ec : cN (none : Option Int) = -1 := rfl
        rw [ec] at r1
        have hz : foldW (S.rb m) (q + 1) = foldW (S.rb m) q := by rw [fold_some hf, addW_none eW]
        rw [← hz] at hg
        simp (disch := omega) only [gd_I, nz_I, bd_S, gb_B, nar_B, I_add, I_sub, I_mul, I_neg, I_div, I_nat, I_lt, I_le, I_eq, B_0, B_1, L_0, L_1, L_2, L_3, L_4, L_5, L_6, L_7, L_8, L_9, L_10, L_11, L_12, L_13, L_14, L_15, L_16, L_17, L_24, L_31, L_45, L_80, L_127, L_200, L_640, L_1280, L_1000000000, T_0, T_1, T_2, T_3, T_4, T_5, T_6, T_7, T_8, T_9, T_10, T_11, T_12, T_13, T_14, T_15, T_16, T_17, esz2, er, Int.toNat_natCast, r1, ei]
        rw [if_neg (by omega)]
        simp only [if_true]
        exact ih _ _ _ _ _ hg
      | some d =>
        have wr := rW_range hw eW
        rw [eV, eW] at r1
        have ec : cN (some d) = d := rfl
        rw [ec] at r1
        rw [eV] at r2 r3
        have hy : (S.cW t 0 (cfs t q)).1 = some d := by rw [eV]; exact eW
        have hln : ∀ k, k ≤ S.last → S.ln m q k < S.c ∧ S.cT t (cfs t q) k % 8 = ((S.ln m q k : Nat) : Int) := by
          intro k2 hk2
          have v := rT_valid hw hc (rt0_valid (S := S) hqc hu) eW k2 hk2
          have c9 := cT_rT hw hc hN2 R hy hk2
          obtain ⟨⟨v1, v2⟩, _⟩ := v
          unfold Su.ln
          omega
        have htr : ∀ tr, Ok (m_Search_trace F (I S.N) ls nx tr (I ((S.l0 t q).length : Nat))) (fun u => ∀ k, k ≤ S.last → u k = I (S.ln m q k)) := by
          intro tr
          unfold m_Search_trace
          rw [L_0, show I 0 = I ((0 : Nat) : Int) from rfl]
          refine Ok_mono (c_trace hw hF hc hN2 hLL hd hy _ F 0 (S.l0 t q).length tr rfl (by have := last45 hw; omega) (Nat.zero_le _) (by rw [h0]; exact p1) (by rw [h0, p2]; rfl) (fun k hk => absurd hk (Nat.not_lt_zero k))) ?_
          intro u hu9 k2 hk2
          rw [hu9 k2 hk2, (hln k2 hk2).2]
        have esum : S.ncost 0 (S.P q) + d = S.ncost 0 (S.P q) + d := rfl
        simp (disch := omega) only [gd_I, nz_I, bd_S, gb_B, nar_B, I_add, I_sub, I_mul, I_neg, I_div, I_nat, I_lt, I_le, I_eq, B_0, B_1, L_0, L_1, L_2, L_3, L_4, L_5, L_6, L_7, L_8, L_9, L_10, L_11, L_12, L_13, L_14, L_15, L_16, L_17, L_24, L_31, L_45, L_80, L_127, L_200, L_640, L_1280, L_1000000000, T_0, T_1, T_2, T_3, T_4, T_5, T_6, T_7, T_8, T_9, T_10, T_11, T_12, T_13, T_14, T_15, T_16, T_17, esz2, er, Int.toNat_natCast, r1, els, em, npq, ei, r2, r3]
        rw [if_neg (by omega), if_neg (by omega)]
        have sr : 0 ≤ S.ncost 0 (S.P q) + d ∧ S.ncost 0 (S.P q) + d ≤ 9500000 := by omega
        have gl9 := c_gatherLeast hw hF hc hN2 (ls := ls) (nx := nx) (lo := lo) (tr := tr) (ll := ll) (lc := lc) (g := mergeG (S.last + 1) g (foldW (S.rb m) q) (S.ln m (foldW (S.rb m) q).2.2.2)) (ln := S.ln m q) (i := (S.l0 t q).length) (sum := S.ncost 0 (S.P q) + d) (lines := (S.rW m 0 (rt0 m q)).2.2.1) sr.1 sr.2 (fun k hk => (hln k hk).1) hg.1 htr (S.rW m 0 (rt0 m q)).2.1
        refine Ok_bd gl9 ?_
        rintro ⟨a1, a2, a3, a4⟩ hgc
        simp only at hgc ⊢
        refine ih _ _ _ _ _ ?_
        have wm := way_merge (N := S.last) (g := g) (acc := foldW (S.rb m) q) (b := S.rW m 0 (rt0 m q)) (k := q) (p := S.ncost 0 (S.P q)) (d := d) (ln := S.ln m) eW (fun q2 => ln_first) (fun h => fold_none h) (fun x hx => (fold_min hx).1)
        rw [fold_some hf, ← wm]
        refine ⟨hgc, ?_⟩
        rw [hg.2]
        generalize mergeG (S.last + 1) g (foldW (S.rb m) q) (S.ln m (foldW (S.rb m) q).2.2.2) = g9
        unfold wayG
        cases g9.1 with
        | none => rfl
        | some y => simp only; (repeat' split) <;> rfl
theorem fold_kk (hc : S.c ≤ 8) (hm : MT9 S m t) : ∀ (k : Nat), S.kk t ≤ k → k ≤ S.c → foldW (S.rb m) k = foldW (S.rb m) (S.kk t)
  | 0, h, _ => by
    have : S.kk t = 0 := by omega
    rw [this]
  | k + 1, h, h2 => by
    by_cases e : S.kk t = k + 1
    · rw [e]
    · have hu : ¬ rused m 0 k < 2 := fun h9 => by
        have := (kk_used hc hm (by omega : k < S.c)).mpr h9
        omega
      have hf : S.rb m k = none := by unfold Su.rb; rw [decide_eq_false hu]; rfl
      rw [fold_off hf]
      exact fold_kk hc hm k (by omega) (by omega)
theorem c_gather (hw : WF S) (hp : PT S np mp vp mt bc bt ps sp) (hF : 2000 ≤ F) (hc : S.c ≤ 8) (hN2 : 2 ≤ S.N) (hm : MT9 S m t) {ls sz nx rc : Nat → Int32} {rl rt : Nat → Int64} {LL : Nat → List Int} (h0 : LL 0 = S.l0 t (S.kk t)) (hLL : ∀ i, i ≤ S.last → Lay ls sz i (LL i) ∧ GL S (LL i)) (hd : WD S t LL nx rc rl rt) {g : GG} {lc : Int32} {al ll : Int64} {lo tr : Nat → Int32} (hg : GD S g lc al ll lo) : Ok (m_Search_gather F (I S.N) np ls sz nx rc rl rt lc al ll lo tr) (fun u => GD S (S.mg m g) u.1 u.2.1 u.2.2.1 u.2.2.2.1) := by
  have t0 : 0 ≤ t := by rcases hm with ⟨_, h⟩ | ⟨h, _, h2⟩ <;> omega
  have kc := (kk_r (S := S) hc t0).1
  have eg : mergeG (S.last + 1) g (foldW (S.rb m) 0) (S.ln m (foldW (S.rb m) 0).2.2.2) = g := by
    obtain ⟨gc, ga, gt, gl⟩ := g
    show (gc, ga + 0, gt, gl) = _
    rw [Int64.add_zero]
  have f := c_g2 hw hp hF hc hN2 hm h0 hLL hd g _ F 0 lc al ll lo tr rfl (by omega) (by omega) (by rw [eg]; exact hg)
  unfold m_Search_gather Su.mg Su.R
  rw [fold_kk hc hm S.c kc (Nat.le_refl _)]
  exact f
/-- a spread that does not come to the end: no line -/
theorem short_none (hw : WF S) (hc : S.c ≤ 8) (hN2 : 2 ≤ S.N) (hm : MT9 S m t) {ls sz : Nat → Int32} {LL : Nat → List Int} {f : Nat} (hs : SP S t true LL f ls sz) (hf : (f : Int) < S.N) : (S.R m).1 = none := by
  obtain ⟨s1, s2, s3, s4, s5, s6⟩ := hs
  have hl := last_N hN2
  cases hR : (S.R m).1 with
  | none => rfl
  | some x =>
    exfalso
    unfold Su.R at hR
    obtain ⟨h1, ⟨p, b, d, e1, e2, e3⟩, _, _⟩ := fold_min hR
    generalize (foldW (S.rb m) S.c).2.2.2 = q0 at h1 e1
    unfold Su.rb at e1
    split at e1
    · rename_i hh
      rw [Bool.and_eq_true] at hh
      have hu := of_decide_eq_true hh.1
      have hb : S.nbad 0 (S.P q0) = false := by
        cases h9 : S.nbad 0 (S.P q0) with
        | false => rfl
        | true => rw [h9] at hh; cases hh.2
      injection e1 with e1
      injection e1 with e4 e5
      rw [← e5] at e2
      have R := rel0 hw hc hN2 hm h1 hu
      have hy : (S.cW t 0 (cfs t q0)).1 = some d := by rw [cW_rW hw hc hN2 R]; exact e2
      have key : ∀ k, k ≤ f → k ≤ S.last → S.cT t (cfs t q0) k ∈ LL k := by
        intro k
        induction k with
        | zero =>
          intro _ _
          rw [s2]
          exact (l0_mem _ _).mpr ⟨q0, (kk_used hc hm h1).mpr hu, hb, rfl⟩
        | succ k ih =>
          intro k1 k2
          obtain ⟨z, hz⟩ := cT_some hy (by omega : k ≤ S.last)
          rw [cT_succ]
          refine (s6 k k1 (by omega) _).mpr ⟨_, ih (by omega) (by omega), _, ?_, ?_, rfl⟩
          · rw [cW_step (by omega)] at hz ⊢
            exact (fold_min hz).1
          · rw [cW_step (by omega)] at hz ⊢
            obtain ⟨_, ⟨p9, b9, d9, f1, _, _⟩, _, _⟩ := fold_min hz
            generalize (foldW (S.cf t k (S.cT t (cfs t q0) k)) S.c).2.2.2 = q1 at f1 ⊢
            unfold Su.cf at f1
            split at f1
            · assumption
            · cases f1
      have := key f (Nat.le_refl _) (by omega)
      rw [s4 hf] at this
      cases this
    · cases e1
end
