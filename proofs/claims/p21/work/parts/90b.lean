/-! pure part, 2: the setup as numbers; what the rules say of notes and moves -/
def fr (a b : Int) : Int := if b ≤ a then a - b else b - a
def bt (x c : Int) : Bool := decide ((((I x) >>> ((I c) &&& I 31)) &&& I 1) = I 1)
def r12 (x : Int) : Int := x - x / 12 * 12
def Su : Type := (Nat → Int) × (Nat → Bool) × (Int → Int → Int) × Int × Int × Int × Bool
def Su.nu (S : Su) : Nat → Int := Prod.fst S
def Su.on (S : Su) : Nat → Bool := Prod.fst (Prod.snd S)
def Su.giv (S : Su) : Int → Int → Int := Prod.fst (Prod.snd (Prod.snd S))
def Su.L (S : Su) : Int := Prod.fst (Prod.snd (Prod.snd (Prod.snd S)))
def Su.n (S : Su) : Int := Prod.fst (Prod.snd (Prod.snd (Prod.snd (Prod.snd S))))
def Su.K (S : Su) : Int := Prod.fst (Prod.snd (Prod.snd (Prod.snd (Prod.snd (Prod.snd S)))))
def Su.ab (S : Su) : Bool := Prod.snd (Prod.snd (Prod.snd (Prod.snd (Prod.snd (Prod.snd S)))))
def Su.N (S : Su) : Int := S.K * (S.n - 1) + 1
def anyL (L : Int) (f : Int → Bool) : Bool := (decide (0 < L) && f 0) || (decide (1 < L) && f 1) || (decide (2 < L) && f 2)
def sumL (L : Int) (f : Int → Int) : Int := (if 0 < L then f 0 else 0) + (if 1 < L then f 1 else 0) + (if 2 < L then f 2 else 0)
theorem sumL0 {L : Int} {f : Int → Int} (h : L = 0) : sumL L f = 0 := by subst h; simp [sumL]
theorem sumL1 {L : Int} {f : Int → Int} (h : L = 1) : sumL L f = 0 + f 0 := by subst h; simp [sumL]
theorem sumL2 {L : Int} {f : Int → Int} (h : L = 2) : sumL L f = 0 + f 0 + f (0 + 1) := by subst h; simp [sumL]
theorem sumL3 {L : Int} {f : Int → Int} (h : L = 3) : sumL L f = 0 + f 0 + f (0 + 1) + f (0 + 1 + 1) := by subst h; simp [sumL]
theorem anyL0 {L : Int} {f : Int → Bool} (h : L = 0) : anyL L f = false := by subst h; simp [anyL]
theorem anyL1 {L : Int} {f : Int → Bool} (h : L = 1) : anyL L f = (false || f 0) := by subst h; simp [anyL]
theorem anyL2 {L : Int} {f : Int → Bool} (h : L = 2) : anyL L f = (false || f 0 || f (0 + 1)) := by subst h; simp [anyL]
theorem anyL3 {L : Int} {f : Int → Bool} (h : L = 3) : anyL L f = (false || f 0 || f (0 + 1) || f (0 + 1 + 1)) := by subst h; simp [anyL]
def Su.inn (S : Su) (w : Nat) (a b : Int) : Bool := bt (S.nu w) (r12 (fr a b))
def Su.gv (S : Su) (l j : Int) : Int := S.giv l (j / S.K)
def Su.gp (S : Su) (l j : Int) : Int := S.giv l (j / S.K - 1)
def Su.strong (S : Su) (j : Int) : Bool := decide (j - j / S.K * S.K = 0)
def Su.step (S : Su) (a b : Int) : Bool := decide (a ≠ b) && decide (fr a b ≤ S.nu 8)
def Su.alike (S : Su) (l j a b : Int) : Bool := (decide (a < b) && decide (S.gp l j < S.gv l j)) || (decide (b < a) && decide (S.gv l j < S.gp l j))
def Su.hard (S : Su) (j p : Int) : Bool := anyL S.L (fun l => ! S.inn 3 p (S.gv l j))
def Su.par (S : Su) (l j a b : Int) : Bool := S.alike l j a b && S.inn 4 b (S.gv l j) && decide (r12 (fr b (S.gv l j)) = r12 (fr a (S.gp l j)))
def Su.hid (S : Su) (l j a b : Int) : Bool := S.alike l j a b && S.inn 4 b (S.gv l j) && decide (S.nu 8 < fr a b)
def Su.cross (S : Su) (l j p : Int) : Bool := if S.ab then decide (p < S.gv l j) else decide (S.gv l j < p)
def Su.pass (S : Su) (x a b : Int) : Bool := decide (x < a ↔ a < b) && S.step x a && S.step a b
def Su.leap (S : Su) (a b : Int) : Bool := decide (S.nu 9 < fr a b) || (decide (fr a b ≤ 24) && bt (S.nu 7) (fr a b))
def Su.turn (S : Su) (a b : Int) : Bool := decide (S.nu 10 < fr a b)
def Su.nturn (S : Su) (x a b : Int) : Bool := S.turn x a && ! (decide (x < a ↔ b < a) && S.step a b)
def Su.bopen (S : Su) (p : Int) : Bool := ! S.inn 5 p (S.gv 0 0)
def Su.bclose (S : Su) (j a b : Int) : Bool := ! S.inn 6 b (S.gv 0 j) || ! S.step a b
def Su.ncost (S : Su) (j p : Int) : Int := if S.strong j then (if j = 0 ∨ j = S.N - 1 then 0 else sumL S.L (fun l => if S.inn 4 p (S.gv l j) then S.nu 16 else 0)) else (if S.hard j p then S.nu 17 else 0)
def Su.mcost (S : Su) (a b : Int) : Int := fr a b * S.nu 14 + (if fr a b = 0 then S.nu 12 else 0) + (if S.nu 8 < fr a b then S.nu 13 else 0)
def Su.scost (S : Su) (j a b : Int) : Int := sumL S.L (fun l => if S.alike l j a b then S.nu 15 else 0)
def Su.nbad (S : Su) (j p : Int) : Bool := (S.on 0 && S.strong j && S.hard j p) || (S.on 8 && decide (j = 0) && S.bopen p) || (S.on 3 && anyL S.L (fun l => S.cross l j p))
def Su.sbad (S : Su) (j a b : Int) : Bool := anyL S.L (fun l => (S.on 1 && S.par l j a b) || (S.on 2 && S.hid l j a b))
def Su.mbad (S : Su) (a b : Int) : Bool := S.on 5 && S.leap a b
def Su.tbad (S : Su) (x a b : Int) : Bool := S.on 6 && S.nturn x a b
def Su.pmust (S : Su) (j a : Int) : Bool := S.on 4 && ! S.strong j && S.hard j a
def Su.cbad (S : Su) (a b : Int) : Bool := S.on 9 && S.bclose (S.N - 1) a b
def WF (S : Su) : Prop := (0 ≤ S.L ∧ S.L ≤ 3) ∧ (S.K = 1 ∨ S.K = 2 ∨ S.K = 4) ∧ (0 ≤ S.n ∧ S.n ≤ 12) ∧ (0 < S.L → 2 ≤ S.n) ∧ (∀ i, i < 18 → 0 ≤ S.nu i ∧ S.nu i ≤ 33554431) ∧ (S.nu 1 ≤ 127 ∧ S.nu 2 ≤ 127) ∧ (1 ≤ S.nu 8 ∧ S.nu 8 ≤ 12) ∧ (1 ≤ S.nu 10 ∧ S.nu 10 ≤ 24) ∧ (1 ≤ S.nu 11 ∧ S.nu 11 ≤ 3) ∧ (∀ i, 12 ≤ i → i < 18 → S.nu i ≤ 1000) ∧ (∀ l k, 0 ≤ l → l < S.L → 0 ≤ k → k < S.n → 0 ≤ S.giv l k ∧ S.giv l k ≤ 127)
theorem WF_L {S : Su} (h : WF S) : 0 ≤ S.L ∧ S.L ≤ 3 := h.1
theorem WF_K {S : Su} (h : WF S) : S.K = 1 ∨ S.K = 2 ∨ S.K = 4 := h.2.1
theorem WF_n {S : Su} (h : WF S) : 0 ≤ S.n ∧ S.n ≤ 12 := h.2.2.1
theorem WF_n2 {S : Su} (h : WF S) : 0 < S.L → 2 ≤ S.n := h.2.2.2.1
theorem WF_nu {S : Su} (h : WF S) : ∀ i, i < 18 → 0 ≤ S.nu i ∧ S.nu i ≤ 33554431 := h.2.2.2.2.1
theorem WF_lh {S : Su} (h : WF S) : S.nu 1 ≤ 127 ∧ S.nu 2 ≤ 127 := h.2.2.2.2.2.1
theorem WF_8 {S : Su} (h : WF S) : 1 ≤ S.nu 8 ∧ S.nu 8 ≤ 12 := h.2.2.2.2.2.2.1
theorem WF_10 {S : Su} (h : WF S) : 1 ≤ S.nu 10 ∧ S.nu 10 ≤ 24 := h.2.2.2.2.2.2.2.1
theorem WF_11 {S : Su} (h : WF S) : 1 ≤ S.nu 11 ∧ S.nu 11 ≤ 3 := h.2.2.2.2.2.2.2.2.1
theorem WF_c {S : Su} (h : WF S) : ∀ i, 12 ≤ i → i < 18 → S.nu i ≤ 1000 := h.2.2.2.2.2.2.2.2.2.1
theorem WF_g {S : Su} (h : WF S) : ∀ l k, 0 ≤ l → l < S.L → 0 ≤ k → k < S.n → 0 ≤ S.giv l k ∧ S.giv l k ≤ 127 := h.2.2.2.2.2.2.2.2.2.2
theorem WF_K4 {S : Su} (h : WF S) : 0 < S.K ∧ S.K ≤ 4 := by rcases WF_K h with e | e | e <;> omega
theorem WF_jK {S : Su} (h : WF S) {j : Int} (h1 : 0 ≤ j) (h2 : j < S.N) : 0 ≤ j / S.K ∧ j / S.K < S.n := by
  unfold Su.N at h2
  rcases WF_K h with e | e | e <;> rw [e] at h2 ⊢ <;> omega
theorem WF_N {S : Su} (h : WF S) : S.N ≤ 45 := by
  have := WF_n h
  unfold Su.N; rcases WF_K h with e | e | e <;> rw [e] <;> omega
theorem WF_N2 {S : Su} (h : WF S) (hL : 0 < S.L) : 2 ≤ S.N := by
  have := WF_n2 h hL
  unfold Su.N; rcases WF_K h with e | e | e <;> rw [e] <;> omega
theorem WF_gv {S : Su} (h : WF S) {l j : Int} (l0 : 0 ≤ l) (l1 : l < S.L) (h1 : 0 ≤ j) (h2 : j < S.N) : 0 ≤ S.gv l j ∧ S.gv l j ≤ 127 :=
  have q := WF_jK h h1 h2
  WF_g h _ _ l0 l1 q.1 q.2
theorem fr0 (a b : Int) : 0 ≤ fr a b := by unfold fr; split <;> omega
theorem fr1 {a b : Int} (h1 : 0 ≤ a) (h2 : a ≤ 127) (h3 : 0 ≤ b) (h4 : b ≤ 127) : fr a b ≤ 127 := by unfold fr; split <;> omega
theorem r12_0 {a : Int} (h : 0 ≤ a) : 0 ≤ r12 a ∧ r12 a < 12 := by unfold r12; omega
/-- the class's setup -/
def CS (S : Su) (nu on : Nat → Int32) (gi : Nat → Nat → Int32) : Prop := (∀ i, i < 18 → nu i = I (S.nu i)) ∧ (∀ i, i < 11 → on i = B (S.on i)) ∧ (∀ l k : Int, 0 ≤ l → l < S.L → 0 ≤ k → k < S.n → gi l.toNat k.toNat = I (S.giv l k))
/-- the reference's setup -/
def RS (S : Su) (nu on gi : Nat → Int32) : Prop := (∀ i, i < 18 → nu i = I (S.nu i)) ∧ (∀ i, i < 11 → on i = B (S.on i)) ∧ (∀ l k : Int, 0 ≤ l → l < S.L → 0 ≤ k → k < S.n → gi (12 * l + k).toNat = I (S.giv l k))
theorem CS_nu {S : Su} {nu on : Nat → Int32} {gi : Nat → Nat → Int32} (C : CS S nu on gi) : ∀ i, i < 18 → nu i = I (S.nu i) := C.1
theorem CS_on {S : Su} {nu on : Nat → Int32} {gi : Nat → Nat → Int32} (C : CS S nu on gi) : ∀ i, i < 11 → on i = B (S.on i) := C.2.1
theorem CS_gi {S : Su} {nu on : Nat → Int32} {gi : Nat → Nat → Int32} (C : CS S nu on gi) : ∀ l k : Int, 0 ≤ l → l < S.L → 0 ≤ k → k < S.n → gi l.toNat k.toNat = I (S.giv l k) := C.2.2
theorem RS_nu {S : Su} {nu on gi : Nat → Int32} (C : RS S nu on gi) : ∀ i, i < 18 → nu i = I (S.nu i) := C.1
theorem RS_on {S : Su} {nu on gi : Nat → Int32} (C : RS S nu on gi) : ∀ i, i < 11 → on i = B (S.on i) := C.2.1
theorem RS_gi {S : Su} {nu on gi : Nat → Int32} (C : RS S nu on gi) : ∀ l k : Int, 0 ≤ l → l < S.L → 0 ≤ k → k < S.n → gi (12 * l + k).toNat = I (S.giv l k) := C.2.2
