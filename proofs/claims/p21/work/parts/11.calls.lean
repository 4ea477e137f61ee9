section ZCALL
variable {p : Program} {l : Launch} {e : Env} {R : Room} {s : State} {m : MethodId} {args : Array Value} {below : List Frame} {meth : Method} {c : Code} {H : Heap} {locs : List Loc} {D : va_G} {kc : Nat → ClassId} {A : Nat → Prop} {own : String} {cc bytes : ByteArray} {nL maxL pc index n cells slots : Nat} {ret : Option FieldType} {ls : Array Slot} {Q : State → Prop} {y : MethodName} {rm : Room} {As rest st0 : List Value} {ws0 wc wr w1 ws1 : va_W}
theorem zV_i {b ci q0 Nn : Nat} {T : u_T} {fs : List Value} {rv : Int32} (S : CallFix p m c cc nL s args GW own) (hM : ∀ sz : Nat, Ci l y (Cond.code y bytes maxL ret :: GW) rm D kc sz (.ref b :: As) wc w1 rv) (hcode : Cond.code y bytes maxL ret ∈ GW) (hlk : Cond.methodLink own index y ∈ GW) (hinst : Cond.instanceMethod y ∈ GW) (hsel : Cond.selects y.cls y y ∈ GW) (hini : Cond.initialized y.cls ∈ GW)
    (hd : y.cls ≠ "java/lang/invoke/MethodHandle" ∧ y.cls ≠ "java/lang/invoke/VarHandle" ∧ (parseMethodDescriptor y.desc).map (fun d => d.parameters.length) = some n) (hR : rm.frames + 1 ≤ R.frames ∧ 8 + (maxL + 11) + rm.locals ≤ R.locals) (hz : rm.cells = 0 ∧ rm.slots = 0) (hcs : cells ≤ R.cells ∧ slots ≤ R.slots)
    (hK : va_K D vwCl (tysG kc) s) (hN : NW s) (hP : va_P D vwCl ws0 H) (hD : va_D A ws0) (hS : va_S A s.heap H locs) (hA : ∀ q, s.heap.size ≤ q → A q) (hX : SX A s s.heap)
    (isC isR pm : List Nat) (hC : isC.map (fun i => ws0[i]?) = wc.map some) (hR2 : isR.map (fun i => ws0[i]?) = wr.map some) (hnC : va_nd isC = true) (hnR : va_nd isR = true) (hdis : ∀ i ∈ isR, i ∉ isC) (hpm : pm.map (fun i => (wr ++ w1)[i]?) = ws1.map some) (hnpm : va_nd pm = true) (hrc : vwCl[ci]? = some (y.cls, T, Nn)) (hre : wc[q0]? = some (b, .inr (ci, fs)))
    (hn : As.length = n) (hsize : ls.size = nL) (hst : st0 = As.reverse ++ .ref b :: rest) (h8 : (rest.map fun v => v.category).sum ≤ 8) (hdg : decode cc pc = .ok (.invokevirtual index, 3))
    (kk : ∀ (H1 : Heap) (locs1 : List Loc), va_P D vwCl ws1 H1 → va_D A ws1 → va_S A s.heap H1 locs1 → W p l e R s m args below meth c H1 locs1 cells slots Q (F0 m (pc + 3) ls (.int rv :: rest))) : W p l e R s m args below meth c H locs cells slots Q (F0 m pc ls st0) := by
  have hts := S.2.2.2.2
  have hPc := hP.sub (ws' := wc) isC (fm_of hC)
  have hDc := hD.sub (ws' := wc) isC hnC hC
  have hFc := va_free (wc := wc) hD hS hA isC hC
  refine va_calli (va_runV (As := As) (rest := rest) S (hM H.size) (cwV n hts (gw_wsV hcode hlk hinst hsel hini) rfl hz.1 hz.2 ⟨rfl, hd⟩ hR) ⟨Bz_blind, va_recv hK hPc hrc hre, fun U hU hW => ⟨rfl, by rw [hU], by rw [hU]; exact hPc, va_K.moved hW.alike hK, NW_warm hW hN, hDc.weaken (fun _ _ _ _ => trivial), by rw [hU]; exact ((hX.moved hW.alike).kept (fun a h1 h2 => hS.2.1 a h1 h2)).narrow hFc⟩⟩ rfl hn hsize hst (lv_room h8) hdg ⟨hcs.1, hcs.2⟩) hS (fun q _ h => hFc q h) hFc (fun r u t H1 locs1 ht hvm hw hB hz1 hk1 hS1 => ?_)
  obtain ⟨hP1, hD1⟩ := hB
  rw [ht] at hP1
  obtain ⟨hP2, hD2⟩ := va_join (wr := wr) (w1 := w1) hP hD isC isR hC hR2 hnR hdis hk1 hFc hP1 hD1
  have e9 : r = rv := hw
  subst e9
  exact kk H1 locs1 (hP2.sub pm (fm_of hpm)) (hD2.sub pm hnpm hpm) hS1
theorem zVN_i {b ci q0 Nn : Nat} {T : u_T} {fs : List Value} {host : String} {rv : Int32} (S : CallFix p m c cc nL s args GW own) (hM : ∀ sz : Nat, Ci l y (Cond.code y bytes maxL ret :: GW) rm D kc sz (.ref b :: As) wc w1 rv) (hcode : Cond.code y bytes maxL ret ∈ GW) (hlk : va_Nw (.methodLinkNest own index y host) s) (hinst : Cond.instanceMethod y ∈ GW) (hsel : Cond.selects y.cls y y ∈ GW) (hini : Cond.initialized y.cls ∈ GW)
    (hd : y.cls ≠ "java/lang/invoke/MethodHandle" ∧ y.cls ≠ "java/lang/invoke/VarHandle" ∧ (parseMethodDescriptor y.desc).map (fun d => d.parameters.length) = some n) (hR : rm.frames + 1 ≤ R.frames ∧ 8 + (maxL + 11) + rm.locals ≤ R.locals) (hz : rm.cells = 0 ∧ rm.slots = 0) (hcs : cells ≤ R.cells ∧ slots ≤ R.slots)
    (hK : va_K D vwCl (tysG kc) s) (hN : NW s) (hP : va_P D vwCl ws0 H) (hD : va_D A ws0) (hS : va_S A s.heap H locs) (hA : ∀ q, s.heap.size ≤ q → A q) (hX : SX A s s.heap)
    (isC isR pm : List Nat) (hC : isC.map (fun i => ws0[i]?) = wc.map some) (hR2 : isR.map (fun i => ws0[i]?) = wr.map some) (hnC : va_nd isC = true) (hnR : va_nd isR = true) (hdis : ∀ i ∈ isR, i ∉ isC) (hpm : pm.map (fun i => (wr ++ w1)[i]?) = ws1.map some) (hnpm : va_nd pm = true) (hrc : vwCl[ci]? = some (y.cls, T, Nn)) (hre : wc[q0]? = some (b, .inr (ci, fs)))
    (hn : As.length = n) (hsize : ls.size = nL) (hst : st0 = As.reverse ++ .ref b :: rest) (h8 : (rest.map fun v => v.category).sum ≤ 8) (hdg : decode cc pc = .ok (.invokevirtual index, 3))
    (kk : ∀ (H1 : Heap) (locs1 : List Loc), va_P D vwCl ws1 H1 → va_D A ws1 → va_S A s.heap H1 locs1 → W p l e R s m args below meth c H1 locs1 cells slots Q (F0 m (pc + 3) ls (.int rv :: rest))) : W p l e R s m args below meth c H locs cells slots Q (F0 m pc ls st0) := by
  have hts := S.2.2.2.2
  have hPc := hP.sub (ws' := wc) isC (fm_of hC)
  have hDc := hD.sub (ws' := wc) isC hnC hC
  have hFc := va_free (wc := wc) hD hS hA isC hC
  refine va_calli (va_runVN (As := As) (rest := rest) S (hM H.size) ⟨va_cnB n hts (gw_call hcode) rfl hz.1 hz.2 hlk (hts _ hini) hd hR, hts _ hinst, hts _ hsel⟩ ⟨Bz_blind, va_recv hK hPc hrc hre, fun U hU hW => ⟨rfl, by rw [hU], by rw [hU]; exact hPc, va_K.moved hW.alike hK, NW_warm hW hN, hDc.weaken (fun _ _ _ _ => trivial), by rw [hU]; exact ((hX.moved hW.alike).kept (fun a h1 h2 => hS.2.1 a h1 h2)).narrow hFc⟩⟩ rfl hn hsize hst (lv_room h8) hdg ⟨hcs.1, hcs.2⟩) hS (fun q _ h => hFc q h) hFc (fun r u t H1 locs1 ht hvm hw hB hz1 hk1 hS1 => ?_)
  obtain ⟨hP1, hD1⟩ := hB
  rw [ht] at hP1
  obtain ⟨hP2, hD2⟩ := va_join (wr := wr) (w1 := w1) hP hD isC isR hC hR2 hnR hdis hk1 hFc hP1 hD1
  have e9 : r = rv := hw
  subst e9
  exact kk H1 locs1 (hP2.sub pm (fm_of hpm)) (hD2.sub pm hnpm hpm) hS1
theorem zS_i {rv : Int32} (S : CallFix p m c cc nL s args GW own) (hM : ∀ sz : Nat, Ci l y (Cond.code y bytes maxL ret :: GW) rm D kc sz As wc w1 rv) (hcode : Cond.code y bytes maxL ret ∈ GW) (hlk : Cond.methodLink own index y ∈ GW) (hstt : Cond.static y ∈ GW) (hini : Cond.initialized y.cls ∈ GW) (hyo : y.cls = own)
    (hd : y.cls ≠ "java/lang/invoke/MethodHandle" ∧ y.cls ≠ "java/lang/invoke/VarHandle" ∧ (parseMethodDescriptor y.desc).map (fun d => d.parameters.length) = some n) (hR : rm.frames + 1 ≤ R.frames ∧ 8 + (maxL + 11) + rm.locals ≤ R.locals) (hz : rm.cells = 0 ∧ rm.slots = 0) (hcs : cells ≤ R.cells ∧ slots ≤ R.slots)
    (hK : va_K D vwCl (tysG kc) s) (hN : NW s) (hP : va_P D vwCl ws0 H) (hD : va_D A ws0) (hS : va_S A s.heap H locs) (hA : ∀ q, s.heap.size ≤ q → A q) (hX : SX A s s.heap)
    (isC isR pm : List Nat) (hC : isC.map (fun i => ws0[i]?) = wc.map some) (hR2 : isR.map (fun i => ws0[i]?) = wr.map some) (hnC : va_nd isC = true) (hnR : va_nd isR = true) (hdis : ∀ i ∈ isR, i ∉ isC) (hpm : pm.map (fun i => (wr ++ w1)[i]?) = ws1.map some) (hnpm : va_nd pm = true)
    (hn : As.length = n) (hsize : ls.size = nL) (hst : st0 = As.reverse ++ rest) (h8 : (rest.map fun v => v.category).sum ≤ 8) (hdg : decode cc pc = .ok (.invokestatic index, 3))
    (kk : ∀ (H1 : Heap) (locs1 : List Loc), va_P D vwCl ws1 H1 → va_D A ws1 → va_S A s.heap H1 locs1 → W p l e R s m args below meth c H1 locs1 cells slots Q (F0 m (pc + 3) ls (.int rv :: rest))) : W p l e R s m args below meth c H locs cells slots Q (F0 m pc ls st0) := by
  have hts := S.2.2.2.2
  have hPc := hP.sub (ws' := wc) isC (fm_of hC)
  have hDc := hD.sub (ws' := wc) isC hnC hC
  have hFc := va_free (wc := wc) hD hS hA isC hC
  refine va_calli (va_runS (As := As) (rest := rest) S (hM H.size) (cwS n hts (gw_wsS hcode hlk hstt (hyo ▸ hini)) rfl hz.1 hz.2 ⟨hyo, hd⟩ hR) ⟨Bz_blind, fun U hU hW => ⟨rfl, by rw [hU], by rw [hU]; exact hPc, va_K.moved hW.alike hK, NW_warm hW hN, hDc.weaken (fun _ _ _ _ => trivial), by rw [hU]; exact ((hX.moved hW.alike).kept (fun a h1 h2 => hS.2.1 a h1 h2)).narrow hFc⟩⟩ rfl hn hsize hst (lv_room h8) hdg ⟨hcs.1, hcs.2⟩) hS (fun q _ h => hFc q h) hFc (fun r u t H1 locs1 ht hvm hw hB hz1 hk1 hS1 => ?_)
  obtain ⟨hP1, hD1⟩ := hB
  rw [ht] at hP1
  obtain ⟨hP2, hD2⟩ := va_join (wr := wr) (w1 := w1) hP hD isC isR hC hR2 hnR hdis hk1 hFc hP1 hD1
  have e9 : r = rv := hw
  subst e9
  exact kk H1 locs1 (hP2.sub pm (fm_of hpm)) (hD2.sub pm hnpm hpm) hS1
theorem zSN_i {host : String} {rv : Int32} (S : CallFix p m c cc nL s args GW own) (hM : ∀ sz : Nat, Ci l y (Cond.code y bytes maxL ret :: GW) rm D kc sz As wc w1 rv) (hcode : Cond.code y bytes maxL ret ∈ GW) (hlk : va_Nw (.methodLinkNest own index y host) s) (hstt : Cond.static y ∈ GW) (hini : Cond.initialized y.cls ∈ GW)
    (hd : y.cls ≠ "java/lang/invoke/MethodHandle" ∧ y.cls ≠ "java/lang/invoke/VarHandle" ∧ (parseMethodDescriptor y.desc).map (fun d => d.parameters.length) = some n) (hR : rm.frames + 1 ≤ R.frames ∧ 8 + (maxL + 11) + rm.locals ≤ R.locals) (hz : rm.cells = 0 ∧ rm.slots = 0) (hcs : cells ≤ R.cells ∧ slots ≤ R.slots)
    (hK : va_K D vwCl (tysG kc) s) (hN : NW s) (hP : va_P D vwCl ws0 H) (hD : va_D A ws0) (hS : va_S A s.heap H locs) (hA : ∀ q, s.heap.size ≤ q → A q) (hX : SX A s s.heap)
    (isC isR pm : List Nat) (hC : isC.map (fun i => ws0[i]?) = wc.map some) (hR2 : isR.map (fun i => ws0[i]?) = wr.map some) (hnC : va_nd isC = true) (hnR : va_nd isR = true) (hdis : ∀ i ∈ isR, i ∉ isC) (hpm : pm.map (fun i => (wr ++ w1)[i]?) = ws1.map some) (hnpm : va_nd pm = true)
    (hn : As.length = n) (hsize : ls.size = nL) (hst : st0 = As.reverse ++ rest) (h8 : (rest.map fun v => v.category).sum ≤ 8) (hdg : decode cc pc = .ok (.invokestatic index, 3))
    (kk : ∀ (H1 : Heap) (locs1 : List Loc), va_P D vwCl ws1 H1 → va_D A ws1 → va_S A s.heap H1 locs1 → W p l e R s m args below meth c H1 locs1 cells slots Q (F0 m (pc + 3) ls (.int rv :: rest))) : W p l e R s m args below meth c H locs cells slots Q (F0 m pc ls st0) := by
  have hts := S.2.2.2.2
  have hPc := hP.sub (ws' := wc) isC (fm_of hC)
  have hDc := hD.sub (ws' := wc) isC hnC hC
  have hFc := va_free (wc := wc) hD hS hA isC hC
  refine va_calli (va_runSN (As := As) (rest := rest) S (hM H.size) ⟨va_cnB n hts (gw_call hcode) rfl hz.1 hz.2 hlk (hts _ hini) hd hR, hts _ hstt, trivial⟩ ⟨Bz_blind, fun U hU hW => ⟨rfl, by rw [hU], by rw [hU]; exact hPc, va_K.moved hW.alike hK, NW_warm hW hN, hDc.weaken (fun _ _ _ _ => trivial), by rw [hU]; exact ((hX.moved hW.alike).kept (fun a h1 h2 => hS.2.1 a h1 h2)).narrow hFc⟩⟩ rfl hn hsize hst (lv_room h8) hdg ⟨hcs.1, hcs.2⟩) hS (fun q _ h => hFc q h) hFc (fun r u t H1 locs1 ht hvm hw hB hz1 hk1 hS1 => ?_)
  obtain ⟨hP1, hD1⟩ := hB
  rw [ht] at hP1
  obtain ⟨hP2, hD2⟩ := va_join (wr := wr) (w1 := w1) hP hD isC isR hC hR2 hnR hdis hk1 hFc hP1 hD1
  have e9 : r = rv := hw
  subst e9
  exact kk H1 locs1 (hP2.sub pm (fm_of hpm)) (hD2.sub pm hnpm hpm) hS1
theorem zV_l {b ci q0 Nn : Nat} {T : u_T} {fs : List Value} {rv : Int64} (S : CallFix p m c cc nL s args GW own) (hM : ∀ sz : Nat, Cl l y (Cond.code y bytes maxL ret :: GW) rm D kc sz (.ref b :: As) wc w1 rv) (hcode : Cond.code y bytes maxL ret ∈ GW) (hlk : Cond.methodLink own index y ∈ GW) (hinst : Cond.instanceMethod y ∈ GW) (hsel : Cond.selects y.cls y y ∈ GW) (hini : Cond.initialized y.cls ∈ GW)
    (hd : y.cls ≠ "java/lang/invoke/MethodHandle" ∧ y.cls ≠ "java/lang/invoke/VarHandle" ∧ (parseMethodDescriptor y.desc).map (fun d => d.parameters.length) = some n) (hR : rm.frames + 1 ≤ R.frames ∧ 8 + (maxL + 11) + rm.locals ≤ R.locals) (hz : rm.cells = 0 ∧ rm.slots = 0) (hcs : cells ≤ R.cells ∧ slots ≤ R.slots)
    (hK : va_K D vwCl (tysG kc) s) (hN : NW s) (hP : va_P D vwCl ws0 H) (hD : va_D A ws0) (hS : va_S A s.heap H locs) (hA : ∀ q, s.heap.size ≤ q → A q) (hX : SX A s s.heap)
    (isC isR pm : List Nat) (hC : isC.map (fun i => ws0[i]?) = wc.map some) (hR2 : isR.map (fun i => ws0[i]?) = wr.map some) (hnC : va_nd isC = true) (hnR : va_nd isR = true) (hdis : ∀ i ∈ isR, i ∉ isC) (hpm : pm.map (fun i => (wr ++ w1)[i]?) = ws1.map some) (hnpm : va_nd pm = true) (hrc : vwCl[ci]? = some (y.cls, T, Nn)) (hre : wc[q0]? = some (b, .inr (ci, fs)))
    (hn : As.length = n) (hsize : ls.size = nL) (hst : st0 = As.reverse ++ .ref b :: rest) (h8 : (rest.map fun v => v.category).sum ≤ 8) (hdg : decode cc pc = .ok (.invokevirtual index, 3))
    (kk : ∀ (H1 : Heap) (locs1 : List Loc), va_P D vwCl ws1 H1 → va_D A ws1 → va_S A s.heap H1 locs1 → W p l e R s m args below meth c H1 locs1 cells slots Q (F0 m (pc + 3) ls (.long rv :: rest))) : W p l e R s m args below meth c H locs cells slots Q (F0 m pc ls st0) := by
  have hts := S.2.2.2.2
  have hPc := hP.sub (ws' := wc) isC (fm_of hC)
  have hDc := hD.sub (ws' := wc) isC hnC hC
  have hFc := va_free (wc := wc) hD hS hA isC hC
  refine va_calll (va_runV (As := As) (rest := rest) S (hM H.size) (cwV n hts (gw_wsV hcode hlk hinst hsel hini) rfl hz.1 hz.2 ⟨rfl, hd⟩ hR) ⟨Bz_blind, va_recv hK hPc hrc hre, fun U hU hW => ⟨rfl, by rw [hU], by rw [hU]; exact hPc, va_K.moved hW.alike hK, NW_warm hW hN, hDc.weaken (fun _ _ _ _ => trivial), by rw [hU]; exact ((hX.moved hW.alike).kept (fun a h1 h2 => hS.2.1 a h1 h2)).narrow hFc⟩⟩ rfl hn hsize hst (lv_room h8) hdg ⟨hcs.1, hcs.2⟩) hS (fun q _ h => hFc q h) hFc (fun r u t H1 locs1 ht hvm hw hB hz1 hk1 hS1 => ?_)
  obtain ⟨hP1, hD1⟩ := hB
  rw [ht] at hP1
  obtain ⟨hP2, hD2⟩ := va_join (wr := wr) (w1 := w1) hP hD isC isR hC hR2 hnR hdis hk1 hFc hP1 hD1
  have e9 : r = rv := hw
  subst e9
  exact kk H1 locs1 (hP2.sub pm (fm_of hpm)) (hD2.sub pm hnpm hpm) hS1
theorem zVN_l {b ci q0 Nn : Nat} {T : u_T} {fs : List Value} {host : String} {rv : Int64} (S : CallFix p m c cc nL s args GW own) (hM : ∀ sz : Nat, Cl l y (Cond.code y bytes maxL ret :: GW) rm D kc sz (.ref b :: As) wc w1 rv) (hcode : Cond.code y bytes maxL ret ∈ GW) (hlk : va_Nw (.methodLinkNest own index y host) s) (hinst : Cond.instanceMethod y ∈ GW) (hsel : Cond.selects y.cls y y ∈ GW) (hini : Cond.initialized y.cls ∈ GW)
    (hd : y.cls ≠ "java/lang/invoke/MethodHandle" ∧ y.cls ≠ "java/lang/invoke/VarHandle" ∧ (parseMethodDescriptor y.desc).map (fun d => d.parameters.length) = some n) (hR : rm.frames + 1 ≤ R.frames ∧ 8 + (maxL + 11) + rm.locals ≤ R.locals) (hz : rm.cells = 0 ∧ rm.slots = 0) (hcs : cells ≤ R.cells ∧ slots ≤ R.slots)
    (hK : va_K D vwCl (tysG kc) s) (hN : NW s) (hP : va_P D vwCl ws0 H) (hD : va_D A ws0) (hS : va_S A s.heap H locs) (hA : ∀ q, s.heap.size ≤ q → A q) (hX : SX A s s.heap)
    (isC isR pm : List Nat) (hC : isC.map (fun i => ws0[i]?) = wc.map some) (hR2 : isR.map (fun i => ws0[i]?) = wr.map some) (hnC : va_nd isC = true) (hnR : va_nd isR = true) (hdis : ∀ i ∈ isR, i ∉ isC) (hpm : pm.map (fun i => (wr ++ w1)[i]?) = ws1.map some) (hnpm : va_nd pm = true) (hrc : vwCl[ci]? = some (y.cls, T, Nn)) (hre : wc[q0]? = some (b, .inr (ci, fs)))
    (hn : As.length = n) (hsize : ls.size = nL) (hst : st0 = As.reverse ++ .ref b :: rest) (h8 : (rest.map fun v => v.category).sum ≤ 8) (hdg : decode cc pc = .ok (.invokevirtual index, 3))
    (kk : ∀ (H1 : Heap) (locs1 : List Loc), va_P D vwCl ws1 H1 → va_D A ws1 → va_S A s.heap H1 locs1 → W p l e R s m args below meth c H1 locs1 cells slots Q (F0 m (pc + 3) ls (.long rv :: rest))) : W p l e R s m args below meth c H locs cells slots Q (F0 m pc ls st0) := by
  have hts := S.2.2.2.2
  have hPc := hP.sub (ws' := wc) isC (fm_of hC)
  have hDc := hD.sub (ws' := wc) isC hnC hC
  have hFc := va_free (wc := wc) hD hS hA isC hC
  refine va_calll (va_runVN (As := As) (rest := rest) S (hM H.size) ⟨va_cnB n hts (gw_call hcode) rfl hz.1 hz.2 hlk (hts _ hini) hd hR, hts _ hinst, hts _ hsel⟩ ⟨Bz_blind, va_recv hK hPc hrc hre, fun U hU hW => ⟨rfl, by rw [hU], by rw [hU]; exact hPc, va_K.moved hW.alike hK, NW_warm hW hN, hDc.weaken (fun _ _ _ _ => trivial), by rw [hU]; exact ((hX.moved hW.alike).kept (fun a h1 h2 => hS.2.1 a h1 h2)).narrow hFc⟩⟩ rfl hn hsize hst (lv_room h8) hdg ⟨hcs.1, hcs.2⟩) hS (fun q _ h => hFc q h) hFc (fun r u t H1 locs1 ht hvm hw hB hz1 hk1 hS1 => ?_)
  obtain ⟨hP1, hD1⟩ := hB
  rw [ht] at hP1
  obtain ⟨hP2, hD2⟩ := va_join (wr := wr) (w1 := w1) hP hD isC isR hC hR2 hnR hdis hk1 hFc hP1 hD1
  have e9 : r = rv := hw
  subst e9
  exact kk H1 locs1 (hP2.sub pm (fm_of hpm)) (hD2.sub pm hnpm hpm) hS1
theorem zS_l {rv : Int64} (S : CallFix p m c cc nL s args GW own) (hM : ∀ sz : Nat, Cl l y (Cond.code y bytes maxL ret :: GW) rm D kc sz As wc w1 rv) (hcode : Cond.code y bytes maxL ret ∈ GW) (hlk : Cond.methodLink own index y ∈ GW) (hstt : Cond.static y ∈ GW) (hini : Cond.initialized y.cls ∈ GW) (hyo : y.cls = own)
    (hd : y.cls ≠ "java/lang/invoke/MethodHandle" ∧ y.cls ≠ "java/lang/invoke/VarHandle" ∧ (parseMethodDescriptor y.desc).map (fun d => d.parameters.length) = some n) (hR : rm.frames + 1 ≤ R.frames ∧ 8 + (maxL + 11) + rm.locals ≤ R.locals) (hz : rm.cells = 0 ∧ rm.slots = 0) (hcs : cells ≤ R.cells ∧ slots ≤ R.slots)
    (hK : va_K D vwCl (tysG kc) s) (hN : NW s) (hP : va_P D vwCl ws0 H) (hD : va_D A ws0) (hS : va_S A s.heap H locs) (hA : ∀ q, s.heap.size ≤ q → A q) (hX : SX A s s.heap)
    (isC isR pm : List Nat) (hC : isC.map (fun i => ws0[i]?) = wc.map some) (hR2 : isR.map (fun i => ws0[i]?) = wr.map some) (hnC : va_nd isC = true) (hnR : va_nd isR = true) (hdis : ∀ i ∈ isR, i ∉ isC) (hpm : pm.map (fun i => (wr ++ w1)[i]?) = ws1.map some) (hnpm : va_nd pm = true)
    (hn : As.length = n) (hsize : ls.size = nL) (hst : st0 = As.reverse ++ rest) (h8 : (rest.map fun v => v.category).sum ≤ 8) (hdg : decode cc pc = .ok (.invokestatic index, 3))
    (kk : ∀ (H1 : Heap) (locs1 : List Loc), va_P D vwCl ws1 H1 → va_D A ws1 → va_S A s.heap H1 locs1 → W p l e R s m args below meth c H1 locs1 cells slots Q (F0 m (pc + 3) ls (.long rv :: rest))) : W p l e R s m args below meth c H locs cells slots Q (F0 m pc ls st0) := by
  have hts := S.2.2.2.2
  have hPc := hP.sub (ws' := wc) isC (fm_of hC)
  have hDc := hD.sub (ws' := wc) isC hnC hC
  have hFc := va_free (wc := wc) hD hS hA isC hC
  refine va_calll (va_runS (As := As) (rest := rest) S (hM H.size) (cwS n hts (gw_wsS hcode hlk hstt (hyo ▸ hini)) rfl hz.1 hz.2 ⟨hyo, hd⟩ hR) ⟨Bz_blind, fun U hU hW => ⟨rfl, by rw [hU], by rw [hU]; exact hPc, va_K.moved hW.alike hK, NW_warm hW hN, hDc.weaken (fun _ _ _ _ => trivial), by rw [hU]; exact ((hX.moved hW.alike).kept (fun a h1 h2 => hS.2.1 a h1 h2)).narrow hFc⟩⟩ rfl hn hsize hst (lv_room h8) hdg ⟨hcs.1, hcs.2⟩) hS (fun q _ h => hFc q h) hFc (fun r u t H1 locs1 ht hvm hw hB hz1 hk1 hS1 => ?_)
  obtain ⟨hP1, hD1⟩ := hB
  rw [ht] at hP1
  obtain ⟨hP2, hD2⟩ := va_join (wr := wr) (w1 := w1) hP hD isC isR hC hR2 hnR hdis hk1 hFc hP1 hD1
  have e9 : r = rv := hw
  subst e9
  exact kk H1 locs1 (hP2.sub pm (fm_of hpm)) (hD2.sub pm hnpm hpm) hS1
theorem zSN_l {host : String} {rv : Int64} (S : CallFix p m c cc nL s args GW own) (hM : ∀ sz : Nat, Cl l y (Cond.code y bytes maxL ret :: GW) rm D kc sz As wc w1 rv) (hcode : Cond.code y bytes maxL ret ∈ GW) (hlk : va_Nw (.methodLinkNest own index y host) s) (hstt : Cond.static y ∈ GW) (hini : Cond.initialized y.cls ∈ GW)
    (hd : y.cls ≠ "java/lang/invoke/MethodHandle" ∧ y.cls ≠ "java/lang/invoke/VarHandle" ∧ (parseMethodDescriptor y.desc).map (fun d => d.parameters.length) = some n) (hR : rm.frames + 1 ≤ R.frames ∧ 8 + (maxL + 11) + rm.locals ≤ R.locals) (hz : rm.cells = 0 ∧ rm.slots = 0) (hcs : cells ≤ R.cells ∧ slots ≤ R.slots)
    (hK : va_K D vwCl (tysG kc) s) (hN : NW s) (hP : va_P D vwCl ws0 H) (hD : va_D A ws0) (hS : va_S A s.heap H locs) (hA : ∀ q, s.heap.size ≤ q → A q) (hX : SX A s s.heap)
    (isC isR pm : List Nat) (hC : isC.map (fun i => ws0[i]?) = wc.map some) (hR2 : isR.map (fun i => ws0[i]?) = wr.map some) (hnC : va_nd isC = true) (hnR : va_nd isR = true) (hdis : ∀ i ∈ isR, i ∉ isC) (hpm : pm.map (fun i => (wr ++ w1)[i]?) = ws1.map some) (hnpm : va_nd pm = true)
    (hn : As.length = n) (hsize : ls.size = nL) (hst : st0 = As.reverse ++ rest) (h8 : (rest.map fun v => v.category).sum ≤ 8) (hdg : decode cc pc = .ok (.invokestatic index, 3))
    (kk : ∀ (H1 : Heap) (locs1 : List Loc), va_P D vwCl ws1 H1 → va_D A ws1 → va_S A s.heap H1 locs1 → W p l e R s m args below meth c H1 locs1 cells slots Q (F0 m (pc + 3) ls (.long rv :: rest))) : W p l e R s m args below meth c H locs cells slots Q (F0 m pc ls st0) := by
  have hts := S.2.2.2.2
  have hPc := hP.sub (ws' := wc) isC (fm_of hC)
  have hDc := hD.sub (ws' := wc) isC hnC hC
  have hFc := va_free (wc := wc) hD hS hA isC hC
  refine va_calll (va_runSN (As := As) (rest := rest) S (hM H.size) ⟨va_cnB n hts (gw_call hcode) rfl hz.1 hz.2 hlk (hts _ hini) hd hR, hts _ hstt, trivial⟩ ⟨Bz_blind, fun U hU hW => ⟨rfl, by rw [hU], by rw [hU]; exact hPc, va_K.moved hW.alike hK, NW_warm hW hN, hDc.weaken (fun _ _ _ _ => trivial), by rw [hU]; exact ((hX.moved hW.alike).kept (fun a h1 h2 => hS.2.1 a h1 h2)).narrow hFc⟩⟩ rfl hn hsize hst (lv_room h8) hdg ⟨hcs.1, hcs.2⟩) hS (fun q _ h => hFc q h) hFc (fun r u t H1 locs1 ht hvm hw hB hz1 hk1 hS1 => ?_)
  obtain ⟨hP1, hD1⟩ := hB
  rw [ht] at hP1
  obtain ⟨hP2, hD2⟩ := va_join (wr := wr) (w1 := w1) hP hD isC isR hC hR2 hnR hdis hk1 hFc hP1 hD1
  have e9 : r = rv := hw
  subst e9
  exact kk H1 locs1 (hP2.sub pm (fm_of hpm)) (hD2.sub pm hnpm hpm) hS1
theorem zV_v {b ci q0 Nn : Nat} {T : u_T} {fs : List Value} (S : CallFix p m c cc nL s args GW own) (hM : ∀ sz : Nat, Cv l y (Cond.code y bytes maxL ret :: GW) rm D kc sz (.ref b :: As) wc w1) (hcode : Cond.code y bytes maxL ret ∈ GW) (hlk : Cond.methodLink own index y ∈ GW) (hinst : Cond.instanceMethod y ∈ GW) (hsel : Cond.selects y.cls y y ∈ GW) (hini : Cond.initialized y.cls ∈ GW)
    (hd : y.cls ≠ "java/lang/invoke/MethodHandle" ∧ y.cls ≠ "java/lang/invoke/VarHandle" ∧ (parseMethodDescriptor y.desc).map (fun d => d.parameters.length) = some n) (hR : rm.frames + 1 ≤ R.frames ∧ 8 + (maxL + 11) + rm.locals ≤ R.locals) (hz : rm.cells = 0 ∧ rm.slots = 0) (hcs : cells ≤ R.cells ∧ slots ≤ R.slots)
    (hK : va_K D vwCl (tysG kc) s) (hN : NW s) (hP : va_P D vwCl ws0 H) (hD : va_D A ws0) (hS : va_S A s.heap H locs) (hA : ∀ q, s.heap.size ≤ q → A q) (hX : SX A s s.heap)
    (isC isR pm : List Nat) (hC : isC.map (fun i => ws0[i]?) = wc.map some) (hR2 : isR.map (fun i => ws0[i]?) = wr.map some) (hnC : va_nd isC = true) (hnR : va_nd isR = true) (hdis : ∀ i ∈ isR, i ∉ isC) (hpm : pm.map (fun i => (wr ++ w1)[i]?) = ws1.map some) (hnpm : va_nd pm = true) (hrc : vwCl[ci]? = some (y.cls, T, Nn)) (hre : wc[q0]? = some (b, .inr (ci, fs)))
    (hn : As.length = n) (hsize : ls.size = nL) (hst : st0 = As.reverse ++ .ref b :: rest) (h8 : (rest.map fun v => v.category).sum ≤ 8) (hdg : decode cc pc = .ok (.invokevirtual index, 3))
    (kk : ∀ (H1 : Heap) (locs1 : List Loc), va_P D vwCl ws1 H1 → va_D A ws1 → va_S A s.heap H1 locs1 → W p l e R s m args below meth c H1 locs1 cells slots Q (F0 m (pc + 3) ls rest)) : W p l e R s m args below meth c H locs cells slots Q (F0 m pc ls st0) := by
  have hts := S.2.2.2.2
  have hPc := hP.sub (ws' := wc) isC (fm_of hC)
  have hDc := hD.sub (ws' := wc) isC hnC hC
  have hFc := va_free (wc := wc) hD hS hA isC hC
  refine va_callv (va_runV (As := As) (rest := rest) S (hM H.size) (cwV n hts (gw_wsV hcode hlk hinst hsel hini) rfl hz.1 hz.2 ⟨rfl, hd⟩ hR) ⟨Bz_blind, va_recv hK hPc hrc hre, fun U hU hW => ⟨rfl, by rw [hU], by rw [hU]; exact hPc, va_K.moved hW.alike hK, NW_warm hW hN, hDc.weaken (fun _ _ _ _ => trivial), by rw [hU]; exact ((hX.moved hW.alike).kept (fun a h1 h2 => hS.2.1 a h1 h2)).narrow hFc⟩⟩ rfl hn hsize hst (lv_room h8) hdg ⟨hcs.1, hcs.2⟩) hS (fun q _ h => hFc q h) hFc (fun u t H1 locs1 ht hvm hw hB hz1 hk1 hS1 => ?_)
  obtain ⟨hP1, hD1⟩ := hB
  rw [ht] at hP1
  obtain ⟨hP2, hD2⟩ := va_join (wr := wr) (w1 := w1) hP hD isC isR hC hR2 hnR hdis hk1 hFc hP1 hD1
  exact kk H1 locs1 (hP2.sub pm (fm_of hpm)) (hD2.sub pm hnpm hpm) hS1
theorem zVN_v {b ci q0 Nn : Nat} {T : u_T} {fs : List Value} {host : String} (S : CallFix p m c cc nL s args GW own) (hM : ∀ sz : Nat, Cv l y (Cond.code y bytes maxL ret :: GW) rm D kc sz (.ref b :: As) wc w1) (hcode : Cond.code y bytes maxL ret ∈ GW) (hlk : va_Nw (.methodLinkNest own index y host) s) (hinst : Cond.instanceMethod y ∈ GW) (hsel : Cond.selects y.cls y y ∈ GW) (hini : Cond.initialized y.cls ∈ GW)
    (hd : y.cls ≠ "java/lang/invoke/MethodHandle" ∧ y.cls ≠ "java/lang/invoke/VarHandle" ∧ (parseMethodDescriptor y.desc).map (fun d => d.parameters.length) = some n) (hR : rm.frames + 1 ≤ R.frames ∧ 8 + (maxL + 11) + rm.locals ≤ R.locals) (hz : rm.cells = 0 ∧ rm.slots = 0) (hcs : cells ≤ R.cells ∧ slots ≤ R.slots)
    (hK : va_K D vwCl (tysG kc) s) (hN : NW s) (hP : va_P D vwCl ws0 H) (hD : va_D A ws0) (hS : va_S A s.heap H locs) (hA : ∀ q, s.heap.size ≤ q → A q) (hX : SX A s s.heap)
    (isC isR pm : List Nat) (hC : isC.map (fun i => ws0[i]?) = wc.map some) (hR2 : isR.map (fun i => ws0[i]?) = wr.map some) (hnC : va_nd isC = true) (hnR : va_nd isR = true) (hdis : ∀ i ∈ isR, i ∉ isC) (hpm : pm.map (fun i => (wr ++ w1)[i]?) = ws1.map some) (hnpm : va_nd pm = true) (hrc : vwCl[ci]? = some (y.cls, T, Nn)) (hre : wc[q0]? = some (b, .inr (ci, fs)))
    (hn : As.length = n) (hsize : ls.size = nL) (hst : st0 = As.reverse ++ .ref b :: rest) (h8 : (rest.map fun v => v.category).sum ≤ 8) (hdg : decode cc pc = .ok (.invokevirtual index, 3))
    (kk : ∀ (H1 : Heap) (locs1 : List Loc), va_P D vwCl ws1 H1 → va_D A ws1 → va_S A s.heap H1 locs1 → W p l e R s m args below meth c H1 locs1 cells slots Q (F0 m (pc + 3) ls rest)) : W p l e R s m args below meth c H locs cells slots Q (F0 m pc ls st0) := by
  have hts := S.2.2.2.2
  have hPc := hP.sub (ws' := wc) isC (fm_of hC)
  have hDc := hD.sub (ws' := wc) isC hnC hC
  have hFc := va_free (wc := wc) hD hS hA isC hC
  refine va_callv (va_runVN (As := As) (rest := rest) S (hM H.size) ⟨va_cnB n hts (gw_call hcode) rfl hz.1 hz.2 hlk (hts _ hini) hd hR, hts _ hinst, hts _ hsel⟩ ⟨Bz_blind, va_recv hK hPc hrc hre, fun U hU hW => ⟨rfl, by rw [hU], by rw [hU]; exact hPc, va_K.moved hW.alike hK, NW_warm hW hN, hDc.weaken (fun _ _ _ _ => trivial), by rw [hU]; exact ((hX.moved hW.alike).kept (fun a h1 h2 => hS.2.1 a h1 h2)).narrow hFc⟩⟩ rfl hn hsize hst (lv_room h8) hdg ⟨hcs.1, hcs.2⟩) hS (fun q _ h => hFc q h) hFc (fun u t H1 locs1 ht hvm hw hB hz1 hk1 hS1 => ?_)
  obtain ⟨hP1, hD1⟩ := hB
  rw [ht] at hP1
  obtain ⟨hP2, hD2⟩ := va_join (wr := wr) (w1 := w1) hP hD isC isR hC hR2 hnR hdis hk1 hFc hP1 hD1
  exact kk H1 locs1 (hP2.sub pm (fm_of hpm)) (hD2.sub pm hnpm hpm) hS1
theorem zS_v (S : CallFix p m c cc nL s args GW own) (hM : ∀ sz : Nat, Cv l y (Cond.code y bytes maxL ret :: GW) rm D kc sz As wc w1) (hcode : Cond.code y bytes maxL ret ∈ GW) (hlk : Cond.methodLink own index y ∈ GW) (hstt : Cond.static y ∈ GW) (hini : Cond.initialized y.cls ∈ GW) (hyo : y.cls = own)
    (hd : y.cls ≠ "java/lang/invoke/MethodHandle" ∧ y.cls ≠ "java/lang/invoke/VarHandle" ∧ (parseMethodDescriptor y.desc).map (fun d => d.parameters.length) = some n) (hR : rm.frames + 1 ≤ R.frames ∧ 8 + (maxL + 11) + rm.locals ≤ R.locals) (hz : rm.cells = 0 ∧ rm.slots = 0) (hcs : cells ≤ R.cells ∧ slots ≤ R.slots)
    (hK : va_K D vwCl (tysG kc) s) (hN : NW s) (hP : va_P D vwCl ws0 H) (hD : va_D A ws0) (hS : va_S A s.heap H locs) (hA : ∀ q, s.heap.size ≤ q → A q) (hX : SX A s s.heap)
    (isC isR pm : List Nat) (hC : isC.map (fun i => ws0[i]?) = wc.map some) (hR2 : isR.map (fun i => ws0[i]?) = wr.map some) (hnC : va_nd isC = true) (hnR : va_nd isR = true) (hdis : ∀ i ∈ isR, i ∉ isC) (hpm : pm.map (fun i => (wr ++ w1)[i]?) = ws1.map some) (hnpm : va_nd pm = true)
    (hn : As.length = n) (hsize : ls.size = nL) (hst : st0 = As.reverse ++ rest) (h8 : (rest.map fun v => v.category).sum ≤ 8) (hdg : decode cc pc = .ok (.invokestatic index, 3))
    (kk : ∀ (H1 : Heap) (locs1 : List Loc), va_P D vwCl ws1 H1 → va_D A ws1 → va_S A s.heap H1 locs1 → W p l e R s m args below meth c H1 locs1 cells slots Q (F0 m (pc + 3) ls rest)) : W p l e R s m args below meth c H locs cells slots Q (F0 m pc ls st0) := by
  have hts := S.2.2.2.2
  have hPc := hP.sub (ws' := wc) isC (fm_of hC)
  have hDc := hD.sub (ws' := wc) isC hnC hC
  have hFc := va_free (wc := wc) hD hS hA isC hC
  refine va_callv (va_runS (As := As) (rest := rest) S (hM H.size) (cwS n hts (gw_wsS hcode hlk hstt (hyo ▸ hini)) rfl hz.1 hz.2 ⟨hyo, hd⟩ hR) ⟨Bz_blind, fun U hU hW => ⟨rfl, by rw [hU], by rw [hU]; exact hPc, va_K.moved hW.alike hK, NW_warm hW hN, hDc.weaken (fun _ _ _ _ => trivial), by rw [hU]; exact ((hX.moved hW.alike).kept (fun a h1 h2 => hS.2.1 a h1 h2)).narrow hFc⟩⟩ rfl hn hsize hst (lv_room h8) hdg ⟨hcs.1, hcs.2⟩) hS (fun q _ h => hFc q h) hFc (fun u t H1 locs1 ht hvm hw hB hz1 hk1 hS1 => ?_)
  obtain ⟨hP1, hD1⟩ := hB
  rw [ht] at hP1
  obtain ⟨hP2, hD2⟩ := va_join (wr := wr) (w1 := w1) hP hD isC isR hC hR2 hnR hdis hk1 hFc hP1 hD1
  exact kk H1 locs1 (hP2.sub pm (fm_of hpm)) (hD2.sub pm hnpm hpm) hS1
theorem zSN_v {host : String} (S : CallFix p m c cc nL s args GW own) (hM : ∀ sz : Nat, Cv l y (Cond.code y bytes maxL ret :: GW) rm D kc sz As wc w1) (hcode : Cond.code y bytes maxL ret ∈ GW) (hlk : va_Nw (.methodLinkNest own index y host) s) (hstt : Cond.static y ∈ GW) (hini : Cond.initialized y.cls ∈ GW)
    (hd : y.cls ≠ "java/lang/invoke/MethodHandle" ∧ y.cls ≠ "java/lang/invoke/VarHandle" ∧ (parseMethodDescriptor y.desc).map (fun d => d.parameters.length) = some n) (hR : rm.frames + 1 ≤ R.frames ∧ 8 + (maxL + 11) + rm.locals ≤ R.locals) (hz : rm.cells = 0 ∧ rm.slots = 0) (hcs : cells ≤ R.cells ∧ slots ≤ R.slots)
    (hK : va_K D vwCl (tysG kc) s) (hN : NW s) (hP : va_P D vwCl ws0 H) (hD : va_D A ws0) (hS : va_S A s.heap H locs) (hA : ∀ q, s.heap.size ≤ q → A q) (hX : SX A s s.heap)
    (isC isR pm : List Nat) (hC : isC.map (fun i => ws0[i]?) = wc.map some) (hR2 : isR.map (fun i => ws0[i]?) = wr.map some) (hnC : va_nd isC = true) (hnR : va_nd isR = true) (hdis : ∀ i ∈ isR, i ∉ isC) (hpm : pm.map (fun i => (wr ++ w1)[i]?) = ws1.map some) (hnpm : va_nd pm = true)
    (hn : As.length = n) (hsize : ls.size = nL) (hst : st0 = As.reverse ++ rest) (h8 : (rest.map fun v => v.category).sum ≤ 8) (hdg : decode cc pc = .ok (.invokestatic index, 3))
    (kk : ∀ (H1 : Heap) (locs1 : List Loc), va_P D vwCl ws1 H1 → va_D A ws1 → va_S A s.heap H1 locs1 → W p l e R s m args below meth c H1 locs1 cells slots Q (F0 m (pc + 3) ls rest)) : W p l e R s m args below meth c H locs cells slots Q (F0 m pc ls st0) := by
  have hts := S.2.2.2.2
  have hPc := hP.sub (ws' := wc) isC (fm_of hC)
  have hDc := hD.sub (ws' := wc) isC hnC hC
  have hFc := va_free (wc := wc) hD hS hA isC hC
  refine va_callv (va_runSN (As := As) (rest := rest) S (hM H.size) ⟨va_cnB n hts (gw_call hcode) rfl hz.1 hz.2 hlk (hts _ hini) hd hR, hts _ hstt, trivial⟩ ⟨Bz_blind, fun U hU hW => ⟨rfl, by rw [hU], by rw [hU]; exact hPc, va_K.moved hW.alike hK, NW_warm hW hN, hDc.weaken (fun _ _ _ _ => trivial), by rw [hU]; exact ((hX.moved hW.alike).kept (fun a h1 h2 => hS.2.1 a h1 h2)).narrow hFc⟩⟩ rfl hn hsize hst (lv_room h8) hdg ⟨hcs.1, hcs.2⟩) hS (fun q _ h => hFc q h) hFc (fun u t H1 locs1 ht hvm hw hB hz1 hk1 hS1 => ?_)
  obtain ⟨hP1, hD1⟩ := hB
  rw [ht] at hP1
  obtain ⟨hP2, hD2⟩ := va_join (wr := wr) (w1 := w1) hP hD isC isR hC hR2 hnR hdis hk1 hFc hP1 hD1
  exact kk H1 locs1 (hP2.sub pm (fm_of hpm)) (hD2.sub pm hnpm hpm) hS1
end ZCALL
