/-! constructors: what comes new -/
def aoA (U : State) : Prop := (Cond.arrayOver (.array .int)).before #[] U = true
theorem aoA.of {A : Array Value} {U : State} (h : (Cond.arrayOver (.array .int)).before A U = true) : aoA U := h
theorem aoA.use {A : Array Value} {U : State} (h : aoA U) : (Cond.arrayOver (.array .int)).before A U = true := h
theorem aoA.moved {u U : State} (hvm : u.vm.Alike U.vm) (h : aoA u) : aoA U := by
  obtain ⟨comp, c, k, h1, h2, h3, h4, h5⟩ := arrayOverA_spec h
  obtain ⟨k', hk', he⟩ := hvm.2.2 _ _ h3
  have hi : (U.vm.classes.findIdx? fun (x : Class) => match x.kind with | .array component _ => component == comp | _ => false) = some c := by
    have e1 := va_idx_bare U.vm comp
    have e2 := va_idx_bare u.vm comp
    have e3 : U.vm.bare = u.vm.bare := by first | exact hvm.bare_eq | exact hvm.bare_eq.symm
    rw [e3] at e1
    exact e1.symm.trans (e2.trans h2)
  have hkind : k'.kind = .array comp (.array .int) := by rw [he]; exact h4
  have f1 : U.vm.findClass (FieldType.array .int).toString = some comp := by rw [hvm.findClass]; exact h1
  have f2 : U.vm.findClass ("[" ++ (FieldType.array .int).toString) = some c := by rw [hvm.findClass]; exact h5
  unfold aoA Cond.before Cond.holds
  simp only [Cond.value]
  rw [f1, Option.bind_some]
  refine (congrArg (fun o : Option Nat => (o.bind (fun c => (U.vm.classes[c]?).map fun (k : Class) => match k.kind with | .array _ ty => decide (ty = FieldType.array .int) && decide (U.vm.findClass ("[" ++ (FieldType.array .int).toString) = some c) | _ => false) == some true)) hi).trans ?_
  simp [hk', hkind, f2]
def Bn (D : va_G) (kc : Nat → ClassId) (sz : Nat) (WS : va_W) (U : State) : Prop := Bz D kc sz WS U ∧ aoA U
theorem Bn_blind {av : List Value} {D : va_G} {kc : Nat → ClassId} {sz : Nat} {WS : va_W} : FrameBlind (va_Pc av (Bn D kc sz WS)) := fun a U g mk q => by
  obtain ⟨q0, q1, q2⟩ := q
  obtain ⟨r0, r1⟩ := Bz_blind (av := av) a U g mk ⟨q0, q1⟩
  exact ⟨r0, r1, aoA.moved (u := U) (U := U.calling g mk a) (Vm.Alike.refl U.vm) q2⟩
abbrev Qn (D : va_G) (A : Nat → Prop) (w1 : (Nat → Nat) → va_W) : Array Value → State → Outcome → State → Prop := va_Qv (fun (_ : Nat → Nat) => True) (fun ad t => va_P D vwCl (w1 ad) t.heap ∧ va_D A (w1 ad)) A
abbrev Cn (l : Launch) (y : MethodName) (ws : List Cond) (rm : Room) (D : va_G) (kc : Nat → ClassId) (sz : Nat) (av : List Value) (WS : va_W) (w1 : (Nat → Nat) → va_W) (mc ms : Nat) : Prop := Met l y ws rm (va_Pc av (Bn D kc sz WS)) (Qn D (va_A WS sz) w1) mc ms (va_A WS sz)
section ZNOF
variable {l : Launch} {y : MethodName} {rm : Room} {D : va_G} {kc : Nat → ClassId} {sz : Nat} {av : List Value} {WS : va_W} {w1 : (Nat → Nat) → va_W} {cc : ByteArray} {maxL mc ms : Nat} {lv : List (Nat × Value)}
theorem Cn_of (hy : plainName y.cls = true) (hyn : y.name = "<init>") (hle : Nat.ble (lg_sl av).length maxL = true) (hlv : lv_args 0 av = lv)
    (body : ∀ {p : Program} {e : Env} {s : State} {m : MethodId} {args : Array Value} {below : List Frame} {meth : Method} {c : Code} {A : Nat → Prop} {H : Heap} {locs : List Loc} {ls : Array Slot}, Cx p s m meth c args A D kc y.cls cc maxL none → (aoA s ∧ meth.name = "<init>") → St D A s WS H locs → lv_has ls maxL lv → W p l e rm s m args below meth c H locs 0 0 (MQ below (Qn D A w1) args s mc ms A) (F0 m 0 ls [])) :
    Cn l y (Cond.code y cc maxL none :: GW) rm D kc sz av WS w1 mc ms := by
  refine Met.ofW (cc := cc) (maxL := maxL) (ret := none) hy rfl ?_
  intro p e s m args below meth c s₁ B hml hv
  obtain ⟨rfl, ⟨hsz, hP, hK, hN, hD0, hX⟩, hO⟩ := hv
  have hts := atoms_spec (ws := Cond.code y cc maxL none :: GW) B.pre
  have hown : s.vm.findClass y.cls = some m.cls := findClass_of_methodNamed B.named
  have hin : meth.name = "<init>" := (name_of_methodNamed B.named B.method).1.trans hyn
  subst hsz
  have hD := hD0.self (sz := s.heap.size)
  have hl := lv_entry av (n := maxL) (Nat.le_of_ble_eq_true hle)
  rw [hlv] at hl
  rw [lg_entry_eq]
  exact body ⟨B.exec, B.bytes, B.returns, fun w h => hts w (List.mem_cons_of_mem _ h), hown, hml, B.notSynchronized, hK, hN, fun q h => Or.inr h, hX⟩ ⟨hO, hin⟩ ⟨hP, hD, va_S.rf⟩ hl
end ZNOF
section ZN
variable {p : Program} {l : Launch} {e : Env} {R : Room} {s : State} {m : MethodId} {args : Array Value} {below : List Frame} {meth : Method} {c : Code} {H : Heap} {locs : List Loc} {cells slots : Nat} {Q : State → Prop}
variable {cc bytes : ByteArray} {pc nL maxL index n mc ms : Nat} {ls : Array Slot} {rest As st0 : List Value} {D : va_G} {kc : Nat → ClassId} {A : Nat → Prop} {ws ws0 wc wr : va_W} {own : String} {y : MethodName} {rm : Room} {w1 : (Nat → Nat) → va_W}
theorem zret_n (ad : Nat → Nat) (C : Cx p s m meth c args A D kc own cc nL none) (hP : va_P D vwCl (w1 ad) H) (hD : va_D A (w1 ad)) (hS : va_S A s.heap H locs) (hdg : decode cc pc = .ok (.return_, 1)) : W p l e R s m args below meth c H locs cells slots (MQ below (Qn D A w1) args s cells slots A) (F0 m pc ls []) :=
  W.vret C.1 C.2.1 C.2.2.1 (fun t ht _ => ⟨⟨ad, rfl, trivial, by rw [ht]; exact hP, hD⟩, hS.F ht⟩) hS.2.2 hdg C.2.2.2.2.2.2.1
theorem zn_newa {t0 : Nat} (hexec : p.tables.exec = Jvm.exec) (hb : c.code = cc) {atype : ArrayType} {ty : FieldType} (harr : (Cond.arrayClass (newarray.typeOf atype)).before args s = true) (hty : newarray.typeOf atype = ty) (hRA : ∀ cA, va_RA s cA ty → s.vm.findClass ("[" ++ ty.toString) = some cA) (hK : va_K D vwCl (tysG kc) s) (ht0 : (tysG kc)[t0]? = some (kc t0, ty)) (hP : va_P D vwCl ws H) (hD : va_D A ws) (hS : va_S A s.heap H locs) (hA : ∀ q, s.heap.size ≤ q → A q)
    {n : Int32} {N' : Nat} {a0 : vp_A} (ha : ∀ cA : ClassId, vp_cell cA a0 = arrV cA N' (fun _ => defaultValue ty)) (hn : ¬ n < 0) (hN : n.toNatClampNeg = N') (hbytes : N' * componentBytes ty ≤ 536870912) (hcells : cells + 1 ≤ R.cells) (hslots : slots + N' ≤ R.slots) (hdg : decode cc pc = .ok (.newarray atype, 2))
    (kk : ∀ (q : Nat) (H1 : Heap), va_P D vwCl (ws ++ [(q, .inl (kc t0, a0))]) H1 → va_D A (ws ++ [(q, .inl (kc t0, a0))]) → va_S A s.heap H1 locs → W p l e R s m args below meth c H1 locs (cells + 1) (slots + N') Q (F0 m (pc + 2) ls (.ref q :: rest))) : W p l e R s m args below meth c H locs cells slots Q (F0 m pc ls (.int n :: rest)) := by
  refine va_newa hexec hb harr hty hK hP hD hS hA ha hn hN hbytes hcells hslots hdg (fun q cA H1 hK' hP' hD' hS' => ?_)
  have h1 := hRA _ (hK'.2 4 (cA, ty) rfl).2
  have h2 := hRA _ (hK.2 t0 _ ht0).2
  have e9 : cA = kc t0 := Option.some.inj (h1.symm.trans h2)
  subst e9
  exact kk q H1 hP' hD' hS'
theorem zn_run {host : String} {b : Nat} (nest : Bool) (S : CallFix p m c cc nL s args GW own) (hM : ∀ sz : Nat, Cn l y (Cond.code y bytes maxL none :: GW) rm D kc sz (.ref b :: As) wc w1 mc ms) (hcode : Cond.code y bytes maxL none ∈ GW) (hlk : (nest = true ∧ va_Nw (.methodLinkNest own index y host) s) ∨ (nest = false ∧ Cond.methodLink own index y ∈ GW)) (hinst : Cond.instanceMethod y ∈ GW) (hini : Cond.initialized y.cls ∈ GW) (hyn : y.name = "<init>")
    (hd : y.cls ≠ "java/lang/invoke/MethodHandle" ∧ y.cls ≠ "java/lang/invoke/VarHandle" ∧ (parseMethodDescriptor y.desc).map (fun d => d.parameters.length) = some n) (hR : rm.frames + 1 ≤ R.frames ∧ 8 + (maxL + 11) + rm.locals ≤ R.locals) (hz : rm.cells = mc ∧ rm.slots = ms) (hcs : cells + mc ≤ R.cells ∧ slots + ms ≤ R.slots)
    (hK : va_K D vwCl (tysG kc) s) (hN : NW s) (hP : va_P D vwCl ws0 H) (hD : va_D A ws0) (hS : va_S A s.heap H locs) (hA : ∀ q, s.heap.size ≤ q → A q) (hX : SX A s s.heap) (hO : aoA s)
    (isC isR : List Nat) (hC : isC.map (fun i => ws0[i]?) = wc.map some) (hR2 : isR.map (fun i => ws0[i]?) = wr.map some) (hnC : va_nd isC = true) (hnR : va_nd isR = true) (hdis : ∀ i ∈ isR, i ∉ isC)
    (hn : As.length = n) (hsize : ls.size = nL) (hst : st0 = As.reverse ++ .ref b :: rest) (h8 : (rest.map fun v => v.category).sum ≤ 8) (hdg : decode cc pc = .ok (.invokespecial index, 3))
    (kk : ∀ (ad : Nat → Nat) (H1 : Heap) (locs1 : List Loc), va_P D vwCl (wr ++ w1 ad) H1 → va_D A (wr ++ w1 ad) → va_S A s.heap H1 locs1 → W p l e R s m args below meth c H1 locs1 (cells + mc) (slots + ms) Q (F0 m (pc + 3) ls rest)) : W p l e R s m args below meth c H locs cells slots Q (F0 m pc ls st0) := by
  have hts := S.2.2.2.2
  have hPc := hP.sub (ws' := wc) isC (fm_of hC)
  have hDc := hD.sub (ws' := wc) isC hnC hC
  have hFc := va_free (wc := wc) hD hS hA isC hC
  have hpre : PreS s H (va_Pc (.ref b :: As) (Bn D kc H.size wc)) (.ref b :: As) := ⟨Bn_blind, fun U hU hW => ⟨rfl, ⟨by rw [hU], by rw [hU]; exact hPc, va_K.moved hW.alike hK, NW_warm hW hN, hDc.weaken (fun _ _ _ _ => trivial), by rw [hU]; exact ((hX.moved hW.alike).kept (fun a h1 h2 => hS.2.1 a h1 h2)).narrow hFc⟩, aoA.moved hW.alike hO⟩⟩
  have hrun : va_Run p l e R s m args below meth c H locs cells slots mc ms (F0 m pc ls st0) rest (Qn D (va_A wc H.size) w1 (Value.ref b :: As).toArray) (va_A wc H.size) := by
    rcases hlk with ⟨-, hlk⟩ | ⟨-, hlk⟩
    · exact va_runIN (As := As) (rest := rest) S (hM H.size) ⟨va_cnB n hts (gw_call hcode) rfl hz.1 hz.2 hlk (hts _ hini) hd hR, hyn, hts _ hinst⟩ hpre rfl hn hsize hst (lv_room h8) hdg hcs
    · exact va_runI (As := As) (rest := rest) S (hM H.size) (cwI n hts (gw_call hcode) rfl hz.1 hz.2 (hts _ hini) (hts _ hlk) (hts _ hinst) hyn hd hR) hpre rfl hn hsize hst (lv_room h8) hdg hcs
  refine va_callv hrun hS (fun q _ h => hFc q h) hFc (fun ad t H1 locs1 ht hvm hw hB hz1 hk1 hS1 => ?_)
  obtain ⟨hP1, hD1⟩ := hB
  rw [ht] at hP1
  obtain ⟨hP2, hD2⟩ := va_join (wr := wr) (w1 := w1 ad) hP hD isC isR hC hR2 hnR hdis hk1 hFc hP1 hD1
  exact kk ad H1 locs1 hP2 hD2 hS1
end ZN
theorem fo_eq {f g : Nat → Nat} (n : Nat) (h : ∀ i, i < n → f i = g i) : (fun i => if i < n then some (f i) else none) = (fun i => if i < n then some (g i) else none) := by
  funext i
  by_cases c : i < n
  · simp [c, h i c]
  · simp [c]
