theorem in_lit {i : Int32} {n : Nat} (h : ¬ (i < 0 ∨ n ≤ i.toNatClampNeg)) : vp_in i n := h
/-! rows of a grid (an array of three int arrays) -/
theorem set_id {α : Type} {l : List α} {i : Nat} {v : α} (h : l[i]? = some v) : l.set i v = l := by
  apply List.ext_getElem?
  intro j
  rw [List.getElem?_set]
  by_cases e : i = j
  · subst e
    obtain ⟨hl, he⟩ := List.getElem?_eq_some_iff.mp h
    simp [hl, he]
  · simp [e]
theorem upd2_self {g : Nat → Nat → Int32} {i j : Nat} {x : Int32} : upd2 g i j x i = upd (g i) j x := by simp [upd2]
theorem upd2_ne {g : Nat → Nat → Int32} {i j a : Nat} {x : Int32} (h : a ≠ i) : upd2 g i j x a = g a := by simp [upd2, h]
section ZGRID
variable {p : Program} {l : Launch} {e : Env} {R : Room} {s : State} {m : MethodId} {args : Array Value} {below : List Frame} {meth : Method} {c : Code} {H : Heap} {locs : List Loc} {cells slots : Nat} {Q : State → Prop}
variable {cc : ByteArray} {pc : Nat} {ls : Array Slot} {rest : List Value} {D : va_G} {cl : List vw_C} {A : Nat → Prop} {a : Nat} {tys : List (ClassId × FieldType)} {ws : va_W} {H0 : Heap}
theorem zg_aald {ad : Nat → Nat} {k : Nat} (hexec : p.tables.exec = Jvm.exec) (hb : c.code = cc) (hK : va_K D cl tys s) (hP : va_P D cl ws H) (q0 t0 : Nat) {cA : ClassId} {ty : FieldType} {n : Nat} (ha : ws[q0]? = some (a, .inl (cA, n, .inr (.inr (.inr (.inr (fun i => if i < n then some (ad (k + i)) else none))))))) (ht : tys[t0]? = some (cA, .array ty)) {i : Int32} (hin : vp_in i n) (hdg : decode cc pc = .ok (.aaload, 1))
    (kk : W p l e R s m args below meth c H locs cells slots Q (F0 m (pc + 1) ls (.ref (ad (k + i.toNatClampNeg)) :: rest))) : W p l e R s m args below meth c H locs cells slots Q (F0 m pc ls (.int i :: .ref a :: rest)) := by
  have hlt : i.toNatClampNeg < n := Nat.not_le.mp fun q => hin (Or.inr q)
  exact W.aald (v := .ref (ad (k + i.toNatClampNeg))) (ty := .array ty) hexec hb (hP q0 _ ha) ((hK.2 t0 _ ht).1 n (fun j => va_rf (if j < n then some (ad (k + j)) else none))) rfl (fun q => by cases q) (by show ¬ (i < 0 ∨ (arrV _ _ _).slots.size ≤ _); rw [arrV_size]; exact hin) (by show (arrV _ _ _).slots[_]? = _; rw [arrV_read _ _ hlt]; simp [va_rf, hlt]) rfl rfl hdg kk
theorem zg_iald {ad : Nat → Nat} {k w : Nat} {g : Nat → Nat → Int32} (hexec : p.tables.exec = Jvm.exec) (hb : c.code = cc) (hK : va_K D cl tys s) (hP : va_P D cl ws H) (q0 t0 : Nat) {cA : ClassId} (ha0 : ws[q0]? = some (ad (k + 0), .inl (cA, w, .inl (g 0)))) (ha1 : ws[q0 + 1]? = some (ad (k + 1), .inl (cA, w, .inl (g 1)))) (ha2 : ws[q0 + 2]? = some (ad (k + 2), .inl (cA, w, .inl (g 2)))) (ht : tys[t0]? = some (cA, .int)) {i j : Int32} (hi : vp_in i 3) (hin : vp_in j w) (hdg : decode cc pc = .ok (.iaload, 1))
    (kk : W p l e R s m args below meth c H locs cells slots Q (F0 m (pc + 1) ls (.int (g i.toNatClampNeg j.toNatClampNeg) :: rest))) : W p l e R s m args below meth c H locs cells slots Q (F0 m pc ls (.int j :: .ref (ad (k + i.toNatClampNeg)) :: rest)) := by
  obtain ⟨n, hn, rfl⟩ := vp_in_of hi (by decide)
  rw [nI_clamp (by omega)] at kk ⊢
  rcases (show n = 0 ∨ n = 1 ∨ n = 2 by omega) with rfl | rfl | rfl
  · exact va_iald hexec hb hK hP q0 t0 ha0 ht hin hdg kk
  · exact va_iald hexec hb hK hP (q0 + 1) t0 ha1 ht hin hdg kk
  · exact va_iald hexec hb hK hP (q0 + 2) t0 ha2 ht hin hdg kk
theorem zg_iast {ad : Nat → Nat} {k w : Nat} {g : Nat → Nat → Int32} (hexec : p.tables.exec = Jvm.exec) (hb : c.code = cc) (hK : va_K D cl tys s) (hP : va_P D cl ws H) (hD : va_D A ws) (hS : va_S A H0 H locs) (q0 t0 : Nat) {cA : ClassId} (ha0 : ws[q0]? = some (ad (k + 0), .inl (cA, w, .inl (g 0)))) (ha1 : ws[q0 + 1]? = some (ad (k + 1), .inl (cA, w, .inl (g 1)))) (ha2 : ws[q0 + 2]? = some (ad (k + 2), .inl (cA, w, .inl (g 2)))) (ht : tys[t0]? = some (cA, .int)) {i j x : Int32} (hi : vp_in i 3) (hin : vp_in j w) (hdg : decode cc pc = .ok (.iastore, 1)) {ws1 : va_W} (hw : ((ws.set q0 (ad (k + 0), .inl (cA, w, .inl (upd2 g i.toNatClampNeg j.toNatClampNeg x 0)))).set (q0 + 1) (ad (k + 1), .inl (cA, w, .inl (upd2 g i.toNatClampNeg j.toNatClampNeg x 1)))).set (q0 + 2) (ad (k + 2), .inl (cA, w, .inl (upd2 g i.toNatClampNeg j.toNatClampNeg x 2))) = ws1)
    (kk : ∀ (H1 : Heap) (locs1 : List Loc), va_P D cl ws1 H1 → va_D A ws1 → va_S A H0 H1 locs1 → W p l e R s m args below meth c H1 locs1 cells slots Q (F0 m (pc + 1) ls rest)) : W p l e R s m args below meth c H locs cells slots Q (F0 m pc ls (.int x :: .int j :: .ref (ad (k + i.toNatClampNeg)) :: rest)) := by
  obtain ⟨n, hn, rfl⟩ := vp_in_of hi (by decide)
  rw [nI_clamp (by omega)] at hw ⊢
  rcases (show n = 0 ∨ n = 1 ∨ n = 2 by omega) with rfl | rfl | rfl
  · rw [upd2_self, upd2_ne (by decide), upd2_ne (by decide)] at hw
    refine va_iast hexec hb hK hP hD hS q0 t0 ha0 ht hin hdg (fun H1 locs1 h1 h2 h3 => ?_)
    have h1' : (ws.set q0 (ad (k + 0), .inl (cA, w, .inl (upd (g 0) j.toNatClampNeg x))))[q0 + 1]? = some (ad (k + 1), .inl (cA, w, .inl (g 1))) := by rw [List.getElem?_set_ne (by omega)]; exact ha1
    have h2' : (ws.set q0 (ad (k + 0), .inl (cA, w, .inl (upd (g 0) j.toNatClampNeg x))))[q0 + 2]? = some (ad (k + 2), .inl (cA, w, .inl (g 2))) := by rw [List.getElem?_set_ne (by omega)]; exact ha2
    rw [set_id h1', set_id h2'] at hw
    rw [hw] at h1 h2
    exact kk H1 locs1 h1 h2 h3
  · rw [upd2_self, upd2_ne (by decide), upd2_ne (by decide)] at hw
    rw [set_id ha0] at hw
    refine va_iast hexec hb hK hP hD hS (q0 + 1) t0 ha1 ht hin hdg (fun H1 locs1 h1 h2 h3 => ?_)
    have h2' : (ws.set (q0 + 1) (ad (k + 1), .inl (cA, w, .inl (upd (g 1) j.toNatClampNeg x))))[q0 + 2]? = some (ad (k + 2), .inl (cA, w, .inl (g 2))) := by rw [List.getElem?_set_ne (by omega)]; exact ha2
    rw [set_id h2'] at hw
    rw [hw] at h1 h2
    exact kk H1 locs1 h1 h2 h3
  · rw [upd2_self, upd2_ne (by decide), upd2_ne (by decide)] at hw
    rw [set_id ha0, set_id ha1] at hw
    refine va_iast hexec hb hK hP hD hS (q0 + 2) t0 ha2 ht hin hdg (fun H1 locs1 h1 h2 h3 => ?_)
    rw [hw] at h1 h2
    exact kk H1 locs1 h1 h2 h3
end ZGRID
