/-! base: models in Option, the world of a method, contracts out of one walk, calls -/
def gd {α : Type} (i : Int32) (n : Nat) (x : Option α) : Option α := if i < 0 ∨ n ≤ i.toNatClampNeg then none else x
theorem gd_some {α : Type} {i : Int32} {n : Nat} {x : Option α} {r : α} (h : gd i n x = some r) : vp_in i n ∧ x = some r := by
  unfold gd at h
  by_cases c : i < 0 ∨ n ≤ i.toNatClampNeg
  · rw [if_pos c] at h; cases h
  · rw [if_neg c] at h; exact ⟨c, h⟩
def nz {α : Type} (i : Int32) (x : Option α) : Option α := if i = 0 then none else x
theorem nz_some {α : Type} {i : Int32} {x : Option α} {r : α} (h : nz i x = some r) : (¬ i = 0) ∧ x = some r := by
  unfold nz at h
  by_cases c : i = 0
  · rw [if_pos c] at h; cases h
  · rw [if_neg c] at h; exact ⟨c, h⟩
def gb {α : Type} (i : Int32) (x : Option α) : Option α := if i = 0 ∨ i = 1 then x else none
theorem gb_some {α : Type} {i : Int32} {x : Option α} {r : α} (h : gb i x = some r) : (i = 0 ∨ i = 1) ∧ x = some r := by
  unfold gb at h
  by_cases c : i = 0 ∨ i = 1
  · rw [if_pos c] at h; exact ⟨c, h⟩
  · rw [if_neg c] at h; cases h
theorem gb_nar {i : Int32} (h : i = 0 ∨ i = 1) : narrow .boolean (.int i) = .int i := by rcases h with rfl | rfl <;> rfl
theorem gb_fit {i : Int32} (h : i = 0 ∨ i = 1) : fits .boolean (.int i) = true := by rcases h with rfl | rfl <;> rfl
def bd {α β : Type} (x : Option α) (f : α → Option β) : Option β := match x with
  | none => none
  | some a => f a
theorem bd_some {α β : Type} {x : Option α} {f : α → Option β} {r : β} (h : bd x f = some r) : ∃ a, x = some a ∧ f a = some r := by
  cases x with
  | none => cases h
  | some a => exact ⟨a, rfl, h⟩
theorem ifT {α : Type} {c : Prop} [Decidable c] {a b o : α} (h : (if c then a else b) = o) (hc : c) : a = o := by rw [if_pos hc] at h; exact h
theorem ifF {α : Type} {c : Prop} [Decidable c] {a b o : α} (h : (if c then a else b) = o) (hc : ¬ c) : b = o := by rw [if_neg hc] at h; exact h
theorem ti_ne {x y : Int32} {k : Int} (hk : y.toInt = k) (h : ¬ x = y) : x.toInt ≠ k := fun e => h (Int32.toInt_inj.mp (e.trans hk.symm))
def upd2 (f : Nat → Nat → Int32) (i j : Nat) (x : Int32) : Nat → Nat → Int32 := fun a => if a = i then upd (f i) j x else f a
theorem fm_of {α β : Type} {f : α → Option β} : ∀ {l : List α} {w : List β}, l.map f = w.map some → l.filterMap f = w
  | [], [], _ => rfl
  | [], _ :: _, h => by cases h
  | _ :: _, [], h => by cases h
  | a :: l, b :: w, h => by
    simp only [List.map_cons, List.cons.injEq] at h
    rw [List.filterMap_cons_some h.1, fm_of h.2]
/-! the tables' words that every method has, and those of nest mates -/
theorem gw_good : ∀ w ∈ GW, (w.onTables && w.keeps) = true ∨ ∃ ty, w = .arrayClass ty := fun w h => by
  have h2 := (List.mem_filter.mp h).2
  cases w <;> first | (simp [gwk] at h2; done) | exact Or.inl rfl | exact Or.inr ⟨_, rfl⟩
theorem gw_call {w : Cond} (h : w ∈ GW) : GoodIn GW (w :: GW) := fun v hv => by
  rcases List.mem_cons.mp hv with rfl | hv
  · exact ⟨h, gw_good _ h⟩
  · exact ⟨hv, gw_good _ hv⟩
theorem gw_wsV {own C : String} {idx : Nat} {y : MethodName} {w : Cond} (h : w ∈ GW) (h1 : Cond.methodLink own idx y ∈ GW) (h2 : Cond.instanceMethod y ∈ GW) (h3 : Cond.selects C y y ∈ GW) (h4 : Cond.initialized C ∈ GW) : GoodIn GW (wsV own idx C y (w :: GW)) := fun v hv => by
  unfold wsV at hv
  have hv2 : v ∈ GW := by
    rcases List.mem_append.mp hv with hv | hv
    · simp only [List.mem_cons, List.not_mem_nil, or_false] at hv
      rcases hv with rfl | rfl | rfl | rfl
      · exact h1
      · exact h2
      · exact h3
      · exact h4
    · exact (gw_call h v hv).1
  exact ⟨hv2, gw_good _ hv2⟩
theorem gw_wsS {own : String} {idx : Nat} {y : MethodName} {w : Cond} (h : w ∈ GW) (h1 : Cond.methodLink own idx y ∈ GW) (h2 : Cond.static y ∈ GW) (h4 : Cond.initialized own ∈ GW) : GoodIn GW (wsS own idx y (w :: GW)) := fun v hv => by
  unfold wsS at hv
  have hv2 : v ∈ GW := by
    rcases List.mem_append.mp hv with hv | hv
    · simp only [List.mem_cons, List.not_mem_nil, or_false] at hv
      rcases hv with rfl | rfl | rfl
      · exact h1
      · exact h2
      · exact h4
    · exact (gw_call h v hv).1
  exact ⟨hv2, gw_good _ hv2⟩
theorem nws_nest : ∀ w ∈ NWs, isNest w = true := fun w h => (List.mem_filter.mp h).2
def NW (U : State) : Prop := ∀ w ∈ NWs, va_Nw w U
theorem NW_warm {s U : State} (hW : s.WarmedH U.vm) (h : NW s) : NW U := by
  intro w hw
  have h1 := h w hw
  have h2 := nws_nest w hw
  cases w <;> first | (simp [isNest] at h2; done) | exact va_Nw.warmF hW h1 | exact va_Nw.warmM hW h1
theorem NW_same {u U : State} (hvm : u.vm = U.vm) (h : NW u) : NW U := by
  intro w hw
  have h1 := h w hw
  have h2 := nws_nest w hw
  cases w <;> first | (simp [isNest] at h2; done) | exact va_Nw.same rfl hvm h1
/-! static arrays of ints: their places ts, their contents stab (words part) -/
def SXa (ts : Nat → Nat) (A : Nat → Prop) (U : State) (H : Heap) : Prop := ∀ k, k < 3 → va_Z stC (stN k) "[I" (.ref (ts k)) A U H ∧ va_T .int (ts k) 18 (fun j => .int (stab k j)) A U H
def SX (A : Nat → Prop) (U : State) (H : Heap) : Prop := ∃ ts : Nat → Nat, SXa ts A U H
theorem SX.moved {A : Nat → Prop} {u U : State} {H : Heap} (hvm : u.vm.Alike U.vm) (h : SX A u H) : SX A U H := by
  obtain ⟨ts, h⟩ := h
  exact ⟨ts, fun k hk => ⟨(h k hk).1.moved hvm, (h k hk).2.moved hvm⟩⟩
theorem SX.kept {A : Nat → Prop} {U : State} {H H1 : Heap} (h : SX A U H) (hq : ∀ a : Nat, a < H.size → ¬ A a → H1[a]? = H[a]?) : SX A U H1 := by
  obtain ⟨ts, h⟩ := h
  exact ⟨ts, fun k hk => ⟨(h k hk).1.kept hq, (h k hk).2.kept hq⟩⟩
theorem SX.narrow {A B : Nat → Prop} {U : State} {H : Heap} (h : SX A U H) (hAB : ∀ q, B q → A q) : SX B U H := by
  obtain ⟨ts, h⟩ := h
  exact ⟨ts, fun k hk => ⟨(h k hk).1.narrow hAB, (h k hk).2.narrow hAB⟩⟩
/-! a method's start, its ends -/
abbrev tysG (kc : Nat → ClassId) : List (ClassId × FieldType) := [(kc 0, .int), (kc 1, .boolean), (kc 2, .long), (kc 3, .array .int)]
def Bz (D : va_G) (kc : Nat → ClassId) (sz : Nat) (WS : va_W) (U : State) : Prop := U.heap.size = sz ∧ va_P D vwCl WS U.heap ∧ va_K D vwCl (tysG kc) U ∧ NW U ∧ va_D (fun _ => True) WS ∧ SX (va_A WS sz) U U.heap
theorem Bz_blind {av : List Value} {D : va_G} {kc : Nat → ClassId} {sz : Nat} {WS : va_W} : FrameBlind (va_Pc av (Bz D kc sz WS)) := fun a U g mk q => by
  obtain ⟨q0, q1, qP, qK, qN, qD, qX⟩ := q
  exact ⟨q0, q1, qP, va_K.moved (u := U) (U := U.calling g mk a) (Vm.Alike.refl U.vm) qK, NW_same (u := U) (U := U.calling g mk a) rfl qN, qD, SX.moved (u := U) (U := U.calling g mk a) (Vm.Alike.refl U.vm) qX⟩
abbrev Qi (D : va_G) (A : Nat → Prop) (w1 : va_W) (rv : Int32) : Array Value → State → Outcome → State → Prop := va_Qi (fun (r : Int32) (_ : Unit) => r = rv) (fun _ t => va_P D vwCl w1 t.heap ∧ va_D A w1) A
abbrev Ql (D : va_G) (A : Nat → Prop) (w1 : va_W) (rv : Int64) : Array Value → State → Outcome → State → Prop := va_Ql (fun (r : Int64) (_ : Unit) => r = rv) (fun _ t => va_P D vwCl w1 t.heap ∧ va_D A w1) A
abbrev Qv (D : va_G) (A : Nat → Prop) (w1 : va_W) : Array Value → State → Outcome → State → Prop := va_Qv (fun (_ : Unit) => True) (fun _ t => va_P D vwCl w1 t.heap ∧ va_D A w1) A
abbrev Ci (l : Launch) (y : MethodName) (ws : List Cond) (rm : Room) (D : va_G) (kc : Nat → ClassId) (sz : Nat) (av : List Value) (WS w1 : va_W) (rv : Int32) : Prop := Met l y ws rm (va_Pc av (Bz D kc sz WS)) (Qi D (va_A WS sz) w1 rv) 0 0 (va_A WS sz)
abbrev Cl (l : Launch) (y : MethodName) (ws : List Cond) (rm : Room) (D : va_G) (kc : Nat → ClassId) (sz : Nat) (av : List Value) (WS w1 : va_W) (rv : Int64) : Prop := Met l y ws rm (va_Pc av (Bz D kc sz WS)) (Ql D (va_A WS sz) w1 rv) 0 0 (va_A WS sz)
abbrev Cv (l : Launch) (y : MethodName) (ws : List Cond) (rm : Room) (D : va_G) (kc : Nat → ClassId) (sz : Nat) (av : List Value) (WS w1 : va_W) : Prop := Met l y ws rm (va_Pc av (Bz D kc sz WS)) (Qv D (va_A WS sz) w1) 0 0 (va_A WS sz)
abbrev Cx (p : Program) (s : State) (m : MethodId) (meth : Method) (c : Code) (args : Array Value) (A : Nat → Prop) (D : va_G) (kc : Nat → ClassId) (own : String) (cc : ByteArray) (nL : Nat) (ret : Option FieldType) : Prop :=
  p.tables.exec = Jvm.exec ∧ c.code = cc ∧ meth.sig.returnType = ret ∧ (∀ w ∈ GW, w.before args s = true) ∧ s.vm.findClass own = some m.cls ∧ c.maxLocals = nL ∧ meth.locks = false ∧ va_K D vwCl (tysG kc) s ∧ NW s ∧ (∀ q, s.heap.size ≤ q → A q) ∧ SX A s s.heap
abbrev St (D : va_G) (A : Nat → Prop) (s : State) (ws : va_W) (H : Heap) (locs : List Loc) : Prop := va_P D vwCl ws H ∧ va_D A ws ∧ va_S A s.heap H locs
section ZOF
variable {l : Launch} {y : MethodName} {rm : Room} {D : va_G} {kc : Nat → ClassId} {sz : Nat} {av : List Value} {WS w1 : va_W} {cc : ByteArray} {maxL : Nat} {ret : Option FieldType} {lv : List (Nat × Value)}
theorem Cz_of {Qf : (Nat → Prop) → Array Value → State → Outcome → State → Prop} (hy : plainName y.cls = true) (hle : Nat.ble (lg_sl av).length maxL = true) (hlv : lv_args 0 av = lv)
    (body : ∀ {p : Program} {e : Env} {s : State} {m : MethodId} {args : Array Value} {below : List Frame} {meth : Method} {c : Code} {A : Nat → Prop} {H : Heap} {locs : List Loc} {ls : Array Slot}, Cx p s m meth c args A D kc y.cls cc maxL ret → St D A s WS H locs → lv_has ls maxL lv → W p l e rm s m args below meth c H locs 0 0 (MQ below (Qf A) args s 0 0 A) (F0 m 0 ls [])) :
    Met l y (Cond.code y cc maxL ret :: GW) rm (va_Pc av (Bz D kc sz WS)) (Qf (va_A WS sz)) 0 0 (va_A WS sz) := by
  refine Met.ofW (cc := cc) (maxL := maxL) (ret := ret) hy rfl ?_
  intro p e s m args below meth c s₁ B hml hv
  obtain ⟨rfl, hsz, hP, hK, hN, hD0, hX⟩ := hv
  have hts := atoms_spec (ws := Cond.code y cc maxL ret :: GW) B.pre
  have hown : s.vm.findClass y.cls = some m.cls := findClass_of_methodNamed B.named
  subst hsz
  have hD := hD0.self (sz := s.heap.size)
  have hl := lv_entry av (n := maxL) (Nat.le_of_ble_eq_true hle)
  rw [hlv] at hl
  rw [lg_entry_eq]
  exact body ⟨B.exec, B.bytes, B.returns, fun w h => hts w (List.mem_cons_of_mem _ h), hown, hml, B.notSynchronized, hK, hN, fun q h => Or.inr h, hX⟩ ⟨hP, hD, va_S.rf⟩ hl
end ZOF
section ZRET
variable {p : Program} {l : Launch} {e : Env} {R : Room} {s : State} {m : MethodId} {args : Array Value} {below : List Frame} {meth : Method} {c : Code} {H : Heap} {locs : List Loc} {D : va_G} {kc : Nat → ClassId} {A : Nat → Prop} {w : va_W} {own : String} {cc : ByteArray} {nL pc : Nat} {ls : Array Slot} {cells slots : Nat}
theorem zret_i {v : Int32} (C : Cx p s m meth c args A D kc own cc nL (some .int)) (hP : va_P D vwCl w H) (hD : va_D A w) (hS : va_S A s.heap H locs) (hdg : decode cc pc = .ok (.ireturn, 1)) : W p l e R s m args below meth c H locs cells slots (MQ below (Qi D A w v) args s cells slots A) (F0 m pc ls [.int v]) :=
  W.iret (v := v) C.1 C.2.1 C.2.2.1 (fun t ht _ => ⟨⟨v, (), rfl, rfl, by rw [ht]; exact hP, hD⟩, hS.F ht⟩) hS.2.2 hdg C.2.2.2.2.2.2.1
theorem zret_z {v : Int32} (C : Cx p s m meth c args A D kc own cc nL (some .boolean)) (hP : va_P D vwCl w H) (hD : va_D A w) (hS : va_S A s.heap H locs) (hn : narrow .boolean (.int v) = .int v) (hdg : decode cc pc = .ok (.ireturn, 1)) : W p l e R s m args below meth c H locs cells slots (MQ below (Qi D A w v) args s cells slots A) (F0 m pc ls [.int v]) :=
  W.zret (v := v) C.1 C.2.1 C.2.2.1 hn (fun t ht _ => ⟨⟨v, (), rfl, rfl, by rw [ht]; exact hP, hD⟩, hS.F ht⟩) hS.2.2 hdg C.2.2.2.2.2.2.1
theorem zret_l {v : Int64} (C : Cx p s m meth c args A D kc own cc nL (some .long)) (hP : va_P D vwCl w H) (hD : va_D A w) (hS : va_S A s.heap H locs) (hdg : decode cc pc = .ok (.lreturn, 1)) : W p l e R s m args below meth c H locs cells slots (MQ below (Ql D A w v) args s cells slots A) (F0 m pc ls [.long v]) :=
  W.lret (v := v) C.1 C.2.1 C.2.2.1 (fun t ht _ => ⟨⟨v, (), rfl, rfl, by rw [ht]; exact hP, hD⟩, hS.F ht⟩) hS.2.2 hdg C.2.2.2.2.2.2.1
theorem zret_v (C : Cx p s m meth c args A D kc own cc nL none) (hP : va_P D vwCl w H) (hD : va_D A w) (hS : va_S A s.heap H locs) (hdg : decode cc pc = .ok (.return_, 1)) : W p l e R s m args below meth c H locs cells slots (MQ below (Qv D A w) args s cells slots A) (F0 m pc ls []) :=
  W.vret C.1 C.2.1 C.2.2.1 (fun t ht _ => ⟨⟨(), rfl, trivial, by rw [ht]; exact hP, hD⟩, hS.F ht⟩) hS.2.2 hdg C.2.2.2.2.2.2.1
end ZRET
