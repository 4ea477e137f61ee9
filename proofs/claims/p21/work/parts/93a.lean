/-! pure part: both searches as systems of states, and that they go alike -/
def rbef (p h : Int) : Int := if h = 9 then p else h - 1
def rrun (p h : Int) : Int := if h = 9 then 3 else if h ≤ 0 then 1 else if h - 1 = p then 2 else 1
def rhow (p h q : Int) : Int := if q = p then (if rrun p h < 2 then p + 1 else 9) else p + 1
def rused (m u q : Int) : Int := if 0 ≤ m then (if q ≤ m then (if q = m then u + 1 else u) else 2) else u
def Su.mayL (S : Su) (j p h s q l : Int) : Bool := ! (S.on 0 && (S.strong j && ! S.inn 3 (S.P q) (S.gv l j))) && ! (S.on 1 && (S.strong j && S.par l j (S.P s) (S.P q))) && ! (S.on 2 && (S.strong j && S.hid l j (S.P s) (S.P q))) && ! (S.on 3 && S.cross l j (S.P q)) && ! (S.on 4 && (decide (0 < h) && (! S.strong (j - 1) && ! S.inn 3 (S.P p) (S.gv l (j - 1)) && ! S.pass (S.P (rbef p h)) (S.P p) (S.P q))))
def Su.rtail (S : Su) (j p h q : Int) (lt : Bool) : Bool := ! (S.on 5 && S.leap (S.P p) (S.P q)) && ! (S.on 6 && (decide (0 < h) && S.nturn (S.P (rbef p h)) (S.P p) (S.P q))) && ! (S.on 7 && (decide (q = p) && decide (S.nu 11 ≤ rrun p h))) && ! (lt && (decide (j = S.N - 1) && (S.on 9 && S.bclose j (S.P p) (S.P q))))
def Su.rmay (S : Su) (j p h s q : Int) (lt : Bool) : Bool := ! anyL S.L (fun l => ! S.mayL j p h s q l) && S.rtail j p h q lt
theorem anyL_or {L : Int} {f g : Int → Bool} : anyL L (fun l => f l || g l) = (anyL L f || anyL L g) := by
  unfold anyL; simp only
  generalize decide (0 < L) = a; generalize decide (1 < L) = b; generalize decide (2 < L) = c; generalize f 0 = d; generalize f 1 = e; generalize f 2 = k; generalize g 0 = m; generalize g 1 = n; generalize g 2 = o
  revert a b c d e k m n o; decide +kernel
theorem anyL_and {L : Int} {b : Bool} {f : Int → Bool} : anyL L (fun l => b && f l) = (b && anyL L f) := by
  unfold anyL; simp only
  generalize decide (0 < L) = a; generalize decide (1 < L) = x; generalize decide (2 < L) = c; generalize f 0 = d; generalize f 1 = e; generalize f 2 = k
  revert a b x c d e k; decide +kernel
theorem anyL_andr {L : Int} {b : Bool} {f : Int → Bool} : anyL L (fun l => f l && b) = (anyL L f && b) := by
  unfold anyL; simp only
  generalize decide (0 < L) = a; generalize decide (1 < L) = x; generalize decide (2 < L) = c; generalize f 0 = d; generalize f 1 = e; generalize f 2 = k
  revert a b x c d e k; decide +kernel
theorem rmay_eq {S : Su} {j p h s q : Int} {lt : Bool} (hj : j ≠ 0) : S.rmay j p h s q lt = (! S.nbad j (S.P q) && ! (S.strong j && S.sbad j (S.P s) (S.P q)) && ! (decide (0 < h) && (S.pmust (j - 1) (S.P p) && ! S.pass (S.P (rbef p h)) (S.P p) (S.P q))) && S.rtail j p h q lt) := by
  have e1 : (fun l => ! S.mayL j p h s q l) = (fun l => (((((S.on 0 && S.strong j) && ! S.inn 3 (S.P q) (S.gv l j)) || (S.strong j && ((S.on 1 && S.par l j (S.P s) (S.P q)) || (S.on 2 && S.hid l j (S.P s) (S.P q))))) || (S.on 3 && S.cross l j (S.P q))) || ((S.on 4 && (decide (0 < h) && ! S.strong (j - 1))) && ((! S.inn 3 (S.P p) (S.gv l (j - 1))) && ! S.pass (S.P (rbef p h)) (S.P p) (S.P q))))) := by
    funext l
    unfold Su.mayL
    generalize S.on 0 = a0; generalize S.on 1 = a1; generalize S.on 2 = a2; generalize S.on 3 = a3; generalize S.on 4 = a4
    generalize S.strong j = b0; generalize S.inn 3 (S.P q) (S.gv l j) = b1; generalize S.par l j (S.P s) (S.P q) = b2; generalize S.hid l j (S.P s) (S.P q) = b3; generalize S.cross l j (S.P q) = b4
    generalize decide (0 < h) = c0; generalize S.strong (j - 1) = c1; generalize S.inn 3 (S.P p) (S.gv l (j - 1)) = c2; generalize S.pass (S.P (rbef p h)) (S.P p) (S.P q) = c3
    revert a0 a1 a2 a3 a4 b0 b1 b2 b3 b4 c0 c1 c2 c3
    decide +kernel
  unfold Su.rmay
  rw [e1, anyL_or, anyL_or, anyL_or, anyL_and, anyL_and, anyL_and, anyL_and, anyL_andr]
  have e2 : S.nbad j (S.P q) = ((S.on 0 && S.strong j && S.hard j (S.P q)) || (S.on 3 && anyL S.L (fun l => S.cross l j (S.P q)))) := by
    unfold Su.nbad; simp [hj]
  rw [e2]
  unfold Su.sbad Su.pmust Su.hard
  generalize anyL S.L (fun l => ! S.inn 3 (S.P q) (S.gv l j)) = b1
  generalize anyL S.L (fun l => (S.on 1 && S.par l j (S.P s) (S.P q)) || (S.on 2 && S.hid l j (S.P s) (S.P q))) = b2
  generalize anyL S.L (fun l => S.cross l j (S.P q)) = b3
  generalize anyL S.L (fun l => ! S.inn 3 (S.P p) (S.gv l (j - 1))) = b4
  generalize S.pass (S.P (rbef p h)) (S.P p) (S.P q) = b5
  generalize S.rtail j p h q lt = b6
  generalize S.on 0 = a0; generalize S.on 3 = a3; generalize S.on 4 = a4; generalize S.strong j = c0; generalize S.strong (j - 1) = c1; generalize decide (0 < h) = c2
  revert b1 b2 b3 b4 b5 b6 a0 a3 a4 c0 c1 c2
  decide +kernel
abbrev RT : Type := Int × Int × Int × Int
def Su.rok (S : Su) (m : Int) (j : Nat) (t : RT) (q : Nat) : Bool := decide (rused m t.2.2.2 q < 2) && S.rmay j t.1 t.2.1 t.2.2.1 q true
def Su.rpr (S : Su) (j : Nat) (t : RT) (q : Nat) : Int := S.ncost j (S.P q) + S.mcost (S.P t.1) (S.P q) + (if S.strong j then S.scost j (S.P t.2.2.1) (S.P q) else 0)
def Su.rnx (S : Su) (m : Int) (j : Nat) (t : RT) (q : Nat) : RT := ((q : Int), rhow t.1 t.2.1 q, (if S.strong j then (q : Int) else t.2.2.1), rused m t.2.2.2 q)
def rfin (m : Int) (t : RT) : V := if m < 0 ∨ t.2.2.2 = 1 then (some 0, 1, 1, 0) else V0
def Su.mal (S : Su) : Int := if S.on 7 then S.nu 11 else 0
def Su.looks (S : Su) (j a b : Int) : Bool := S.pmust j (S.P b) || (S.on 6 && S.turn (S.P a) (S.P b))
def Su.ends (S : Su) (j : Int) : Bool := decide (S.K ≤ j) && S.strong j
def Su.cok (S : Su) (t : Int) (cl : Bool) (j : Nat) (x : Int) (q : Nat) : Bool := ! S.nbad j (S.P q) && ! S.mbad (S.P (x % 8)) (S.P q) && ! (decide (t < q) || (decide ((q : Int) = t) && decide (x / 512 % 2 = 1))) && ! (decide (0 < S.mal) && (decide ((q : Int) = x % 8) && decide (S.mal ≤ x / 1024 + 1))) && ! (decide (2 ≤ j) && (S.tbad (S.P (x / 8 % 8)) (S.P (x % 8)) (S.P q) || (S.pmust ((j : Int) - 1) (S.P (x % 8)) && ! S.pass (S.P (x / 8 % 8)) (S.P (x % 8)) (S.P q)))) && ! (cl && (decide ((j : Int) = S.N - 1) && ((decide (t < S.c) && (decide ((q : Int) ≠ t) && decide (x / 512 % 2 = 0))) || S.cbad (S.P (x % 8)) (S.P q)))) && ! (S.ends j && S.sbad j (S.P (x / 64 % 8)) (S.P q))
def Su.cpr (S : Su) (j : Nat) (x : Int) (q : Nat) : Int := S.ncost j (S.P q) + S.mcost (S.P (x % 8)) (S.P q) + (if S.ends j then S.scost j (S.P (x / 64 % 8)) (S.P q) else 0)
def Su.cnx (S : Su) (t : Int) (j : Nat) (x : Int) (q : Nat) : Int := q + (if S.looks j (x % 8) q then x % 8 else q) * 8 + (if S.strong j then (q : Int) else x / 64 % 8) * 64 + (if (q : Int) = t then 1 else x / 512 % 2) * 512 + (if (q : Int) = x % 8 ∧ 0 < S.mal then x / 1024 + 1 else 0) * 1024
def cfin (_ : Int) : V := (some 0, 1, 1, 0)
def Rel (S : Su) (m t : Int) (j : Nat) (x : Int) (r : RT) : Prop := (0 ≤ x ∧ x < 3072 ∧ x % 8 = r.1 ∧ x / 64 % 8 = r.2.2.1 ∧ x / 512 % 2 = r.2.2.2) ∧ (0 ≤ r.1 ∧ r.1 < S.c ∧ 0 ≤ r.2.2.1 ∧ r.2.2.1 < S.c ∧ 0 ≤ r.2.2.2 ∧ r.2.2.2 ≤ 1) ∧ (j = 0 → r.2.1 = 0) ∧ (0 < j → 1 ≤ r.2.1 ∧ (r.2.1 ≤ S.c ∨ r.2.1 = 9)) ∧ (S.strong j = true → r.2.2.1 = r.1) ∧ (0 < j → x / 8 % 8 = if S.looks j (rbef r.1 r.2.1) r.1 then rbef r.1 r.2.1 else r.1) ∧ (S.on 7 = true → x / 1024 + 1 = rrun r.1 r.2.1) ∧ (S.on 7 = false → x / 1024 = 0) ∧ ((m < 0 ∧ t = S.c ∧ r.2.2.2 = 0) ∨ (0 ≤ m ∧ m < S.c ∧ t = m)) ∧ ((j : Int) = S.N - 1 → 0 ≤ m → r.2.2.2 = 1)
