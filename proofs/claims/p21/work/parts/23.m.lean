section
variable {p : Program} {l : Launch} {e : Env} {s : State} {m : MethodId} {args : Array Value} {below : List Frame} {meth : Method} {c : Code} {D : va_G} {kc : Nat → ClassId} {A : Nat → Prop}
abbrev b_Rules_isBadClosing : ByteArray := prog_5_method_17_code
abbrev y_Rules_isBadClosing : MethodName := ⟨"SpeciesSolver$Rules", "isBadClosing", "(III)Z"⟩
theorem d_Rules_isBadClosing_0 : decode b_Rules_isBadClosing 0 = .ok (.aload_n 0, 1) := by decide +kernel
theorem d_Rules_isBadClosing_1 : decode b_Rules_isBadClosing 1 = .ok (.bipush 6, 2) := by decide +kernel
theorem d_Rules_isBadClosing_3 : decode b_Rules_isBadClosing 3 = .ok (.aload_n 0, 1) := by decide +kernel
theorem d_Rules_isBadClosing_4 : decode b_Rules_isBadClosing 4 = .ok (.iconst 0, 1) := by decide +kernel
theorem d_Rules_isBadClosing_5 : decode b_Rules_isBadClosing 5 = .ok (.iload_n 1, 1) := by decide +kernel
theorem d_Rules_isBadClosing_6 : decode b_Rules_isBadClosing 6 = .ok (.iload_n 3, 1) := by decide +kernel
theorem d_Rules_isBadClosing_7 : decode b_Rules_isBadClosing 7 = .ok (.invokevirtual 29, 3) := by decide +kernel
theorem d_Rules_isBadClosing_10 : decode b_Rules_isBadClosing 10 = .ok (.invokevirtual 33, 3) := by decide +kernel
theorem d_Rules_isBadClosing_13 : decode b_Rules_isBadClosing 13 = .ok (.ifCond .eq 12, 3) := by decide +kernel
theorem d_Rules_isBadClosing_16 : decode b_Rules_isBadClosing 16 = .ok (.aload_n 0, 1) := by decide +kernel
theorem d_Rules_isBadClosing_17 : decode b_Rules_isBadClosing 17 = .ok (.iload_n 2, 1) := by decide +kernel
theorem d_Rules_isBadClosing_18 : decode b_Rules_isBadClosing 18 = .ok (.iload_n 3, 1) := by decide +kernel
theorem d_Rules_isBadClosing_19 : decode b_Rules_isBadClosing 19 = .ok (.invokevirtual 52, 3) := by decide +kernel
theorem d_Rules_isBadClosing_22 : decode b_Rules_isBadClosing 22 = .ok (.ifCond .ne 7, 3) := by decide +kernel
theorem d_Rules_isBadClosing_25 : decode b_Rules_isBadClosing 25 = .ok (.iconst 1, 1) := by decide +kernel
theorem d_Rules_isBadClosing_26 : decode b_Rules_isBadClosing 26 = .ok (.goto 4, 3) := by decide +kernel
theorem d_Rules_isBadClosing_29 : decode b_Rules_isBadClosing 29 = .ok (.iconst 0, 1) := by decide +kernel
theorem d_Rules_isBadClosing_30 : decode b_Rules_isBadClosing 30 = .ok (.ireturn, 1) := by decide +kernel
abbrev wd_Rules_isBadClosing (kc : Nat → ClassId) (ad : Nat → Nat) (su_lines : Int32) (su_length : Int32) (su_perNote : Int32) (su_above : Int32) (su_numbers : Nat → Int32) (su_given : Nat → Nat → Int32) : va_W := [((ad 1), .inr (7, [.ref (ad 2), .ref (ad 3), .ref (ad 4), .int su_lines, .int su_length, .int su_perNote, .int su_above])), ((ad 2), .inl (kc 0, 18, .inl su_numbers)), ((ad 4), .inl (kc 3, 3, .inr (.inr (.inr (.inr (fun i => if i < 3 then some (ad (5 + i)) else none)))))), ((ad 5), .inl (kc 0, 12, .inl (su_given 0))), ((ad 6), .inl (kc 0, 12, .inl (su_given 1))), ((ad 7), .inl (kc 0, 12, .inl (su_given 2))), ((ad 8), .inr (5, [.ref (ad 1)]))]
abbrev rm_Rules_isBadClosing : Room := { frames := 2, cells := 0, slots := 0, locals := 43 }
abbrev cw_Rules_isBadClosing : Cond := .code y_Rules_isBadClosing b_Rules_isBadClosing 4 (some .boolean)
abbrev ws_Rules_isBadClosing : List Cond := cw_Rules_isBadClosing :: GW
theorem hd_Rules_isBadClosing : y_Rules_isBadClosing.cls ≠ "java/lang/invoke/MethodHandle" ∧ y_Rules_isBadClosing.cls ≠ "java/lang/invoke/VarHandle" ∧ (parseMethodDescriptor y_Rules_isBadClosing.desc).map (fun d => d.parameters.length) = some 3 := by decide +kernel
def m_Rules_isBadClosing (su_perNote : Int32) (su_numbers : Nat → Int32) (su_given : Nat → Nat → Int32)  (a1 : Int32) (a2 : Int32) (a3 : Int32) : Option (Int32) :=
  (bd (m_Rules_classWith su_perNote su_given (0 : Int32) a1 a3) (fun u1 => (bd (m_Rules_isIn su_numbers (6 : Int32) u1) (fun u3 => (if u3 = (0 : Int32) then
    (some (1 : Int32))
  else
    (bd (m_Rules_isStepwise su_numbers a2 a3) (fun u6 => (if u6 = (0 : Int32) then
      (some (1 : Int32))
    else
      (some (0 : Int32))))))))))
set_option maxHeartbeats 4000000 in
set_option maxRecDepth 100000 in
theorem e_Rules_isBadClosing {r : Int32} {ad : Nat → Nat} {su_lines : Int32} {su_length : Int32} {su_perNote : Int32} {su_above : Int32} {su_numbers : Nat → Int32} {su_given : Nat → Nat → Int32} {a1 : Int32} {a2 : Int32} {a3 : Int32} {H : Heap} {locs : List Loc} {ls : Array Slot} (C : Cx p s m meth c args A D kc R_Rules b_Rules_isBadClosing 4 (some .boolean)) (hm : m_Rules_isBadClosing su_perNote su_numbers su_given a1 a2 a3 = some r) (hZ : St D A s (wd_Rules_isBadClosing kc ad su_lines su_length su_perNote su_above su_numbers su_given) H locs) (hl : lv_has ls 4 [(0, .ref (ad 8)), (1, .int a1), (2, .int a2), (3, .int a3)]) : W p l e rm_Rules_isBadClosing s m args below meth c H locs 0 0 (MQ below (Qi D A (wd_Rules_isBadClosing kc ad su_lines su_length su_perNote su_above su_numbers su_given) r) args s 0 0 A) (F0 m 0 ls []) := by
  obtain ⟨hx, hb, hr, hts, hown, hml, hlocks, hK, hN, hA, hX⟩ := id C
  obtain ⟨hP, hD, hS⟩ := hZ
  unfold m_Rules_isBadClosing at hm
  refine lv_aload_n hx hb d_Rules_isBadClosing_0 rfl (lv_at hl 0 rfl) ?_
  refine lv_bipush (v := 6) hx hb d_Rules_isBadClosing_1 (by decide) ?_
  refine lv_aload_n hx hb d_Rules_isBadClosing_3 rfl (lv_at hl 0 rfl) ?_
  refine lv_iconst (v := 0) hx hb d_Rules_isBadClosing_4 (by decide) ?_
  refine lv_iload_n hx hb d_Rules_isBadClosing_5 rfl (lv_at hl 1 rfl) ?_
  refine lv_iload_n hx hb d_Rules_isBadClosing_6 rfl (lv_at hl 3 rfl) ?_
  obtain ⟨u1, hc2, hm⟩ := bd_some hm
  refine zV_i (n := 3) (wr := [((ad 2), .inl (kc 0, 18, .inl su_numbers))]) (w1 := (wd_Rules_classWith kc ad su_lines su_length su_perNote su_above su_given)) (ws1 := (wd_Rules_isBadClosing kc ad su_lines su_length su_perNote su_above su_numbers su_given)) (As := [.int (0 : Int32), .int a1, .int a3]) (rest := [.int (6 : Int32), .ref (ad 8)]) (ci := 5) (q0 := 5) (y := y_Rules_classWith) ⟨hx, hb, hml, hown, hts⟩ (fun sz => c_Rules_classWith hc2 sz) gw_520 gw_517 gw_519 gw_17 gw_114 hd_Rules_classWith ⟨Nat.le_of_ble_eq_true rfl, Nat.le_of_ble_eq_true rfl⟩ ⟨rfl, rfl⟩ ⟨Nat.zero_le _, Nat.zero_le _⟩ hK hN hP hD hS hA hX [0, 2, 3, 4, 5, 6] [1] [1, 0, 2, 3, 4, 5, 6] rfl rfl (by decide) (by decide) (by decide) rfl (by decide) rfl rfl rfl hl.1 rfl (Nat.le_of_ble_eq_true rfl) d_Rules_isBadClosing_7 (fun H locs hP hD hS => ?_)
  obtain ⟨u3, hc4, hm⟩ := bd_some hm
  refine zV_i (n := 2) (wr := [((ad 4), .inl (kc 3, 3, .inr (.inr (.inr (.inr (fun i => if i < 3 then some (ad (5 + i)) else none)))))), ((ad 5), .inl (kc 0, 12, .inl (su_given 0))), ((ad 6), .inl (kc 0, 12, .inl (su_given 1))), ((ad 7), .inl (kc 0, 12, .inl (su_given 2)))]) (w1 := (wd_Rules_isIn kc ad su_lines su_length su_perNote su_above su_numbers)) (ws1 := (wd_Rules_isBadClosing kc ad su_lines su_length su_perNote su_above su_numbers su_given)) (As := [.int (6 : Int32), .int u1]) (rest := []) (ci := 5) (q0 := 2) (y := y_Rules_isIn) ⟨hx, hb, hml, hown, hts⟩ (fun sz => c_Rules_isIn hc4 sz) gw_524 gw_521 gw_523 gw_18 gw_114 hd_Rules_isIn ⟨Nat.le_of_ble_eq_true rfl, Nat.le_of_ble_eq_true rfl⟩ ⟨rfl, rfl⟩ ⟨Nat.zero_le _, Nat.zero_le _⟩ hK hN hP hD hS hA hX [0, 1, 6] [2, 3, 4, 5] [4, 5, 0, 1, 2, 3, 6] rfl rfl (by decide) (by decide) (by decide) rfl (by decide) rfl rfl rfl hl.1 rfl (Nat.le_of_ble_eq_true rfl) d_Rules_isBadClosing_10 (fun H locs hP hD hS => ?_)
  refine lv_if_eq (tgt := 25) hx hb d_Rules_isBadClosing_13 (by decide) (fun c5 => ?_) (fun c5 => ?_)
  · replace hm := ifT hm c5
    refine lv_iconst (v := 1) hx hb d_Rules_isBadClosing_25 (by decide) ?_
    refine lv_goto (tgt := 30) hx hb d_Rules_isBadClosing_26 (by decide) ?_
    replace hm := Option.some.inj hm; subst hm
    exact zret_z (v := 1) C hP hD hS (by rfl) d_Rules_isBadClosing_30
  · replace hm := ifF hm c5
    refine lv_aload_n hx hb d_Rules_isBadClosing_16 rfl (lv_at hl 0 rfl) ?_
    refine lv_iload_n hx hb d_Rules_isBadClosing_17 rfl (lv_at hl 2 rfl) ?_
    refine lv_iload_n hx hb d_Rules_isBadClosing_18 rfl (lv_at hl 3 rfl) ?_
    obtain ⟨u6, hc7, hm⟩ := bd_some hm
    refine zV_i (n := 2) (wr := [((ad 4), .inl (kc 3, 3, .inr (.inr (.inr (.inr (fun i => if i < 3 then some (ad (5 + i)) else none)))))), ((ad 5), .inl (kc 0, 12, .inl (su_given 0))), ((ad 6), .inl (kc 0, 12, .inl (su_given 1))), ((ad 7), .inl (kc 0, 12, .inl (su_given 2)))]) (w1 := (wd_Rules_isStepwise kc ad su_lines su_length su_perNote su_above su_numbers)) (ws1 := (wd_Rules_isBadClosing kc ad su_lines su_length su_perNote su_above su_numbers su_given)) (As := [.int a2, .int a3]) (rest := []) (ci := 5) (q0 := 2) (y := y_Rules_isStepwise) ⟨hx, hb, hml, hown, hts⟩ (fun sz => c_Rules_isStepwise hc7 sz) gw_566 gw_563 gw_565 gw_27 gw_114 hd_Rules_isStepwise ⟨Nat.le_of_ble_eq_true rfl, Nat.le_of_ble_eq_true rfl⟩ ⟨rfl, rfl⟩ ⟨Nat.zero_le _, Nat.zero_le _⟩ hK hN hP hD hS hA hX [0, 1, 6] [2, 3, 4, 5] [4, 5, 0, 1, 2, 3, 6] rfl rfl (by decide) (by decide) (by decide) rfl (by decide) rfl rfl rfl hl.1 rfl (Nat.le_of_ble_eq_true rfl) d_Rules_isBadClosing_19 (fun H locs hP hD hS => ?_)
    refine lv_if_ne (tgt := 29) hx hb d_Rules_isBadClosing_22 (by decide) (fun c8 => ?_) (fun c8 => ?_)
    · replace hm := ifF hm c8
      refine lv_iconst (v := 0) hx hb d_Rules_isBadClosing_29 (by decide) ?_
      replace hm := Option.some.inj hm; subst hm
      exact zret_z (v := 0) C hP hD hS (by rfl) d_Rules_isBadClosing_30
    · replace hm := ifT hm c8
      refine lv_iconst (v := 1) hx hb d_Rules_isBadClosing_25 (by decide) ?_
      refine lv_goto (tgt := 30) hx hb d_Rules_isBadClosing_26 (by decide) ?_
      replace hm := Option.some.inj hm; subst hm
      exact zret_z (v := 1) C hP hD hS (by rfl) d_Rules_isBadClosing_30
set_option maxHeartbeats 4000000 in
set_option maxRecDepth 100000 in
theorem c_Rules_isBadClosing {l : Launch} {D : va_G} {kc : Nat → ClassId} {r : Int32} {ad : Nat → Nat} {su_lines : Int32} {su_length : Int32} {su_perNote : Int32} {su_above : Int32} {su_numbers : Nat → Int32} {su_given : Nat → Nat → Int32} {a1 : Int32} {a2 : Int32} {a3 : Int32} (hm : m_Rules_isBadClosing su_perNote su_numbers su_given a1 a2 a3 = some r) (sz : Nat) : Ci l y_Rules_isBadClosing ws_Rules_isBadClosing rm_Rules_isBadClosing D kc sz [.ref (ad 8), .int a1, .int a2, .int a3] (wd_Rules_isBadClosing kc ad su_lines su_length su_perNote su_above su_numbers su_given) (wd_Rules_isBadClosing kc ad su_lines su_length su_perNote su_above su_numbers su_given) r :=
  Cz_of (Qf := fun A => (Qi D A (wd_Rules_isBadClosing kc ad su_lines su_length su_perNote su_above su_numbers su_given) r)) (cc := b_Rules_isBadClosing) (maxL := 4) (ret := (some .boolean)) (by decide) rfl rfl (fun C hZ hl => e_Rules_isBadClosing C hm hZ hl)
abbrev b_Rules_moveCost : ByteArray := prog_5_method_19_code
abbrev y_Rules_moveCost : MethodName := ⟨"SpeciesSolver$Rules", "moveCost", "(II)I"⟩
theorem d_Rules_moveCost_0 : decode b_Rules_moveCost 0 = .ok (.iload_n 1, 1) := by decide +kernel
theorem d_Rules_moveCost_1 : decode b_Rules_moveCost 1 = .ok (.iload_n 2, 1) := by decide +kernel
theorem d_Rules_moveCost_2 : decode b_Rules_moveCost 2 = .ok (.invokestatic 40, 3) := by decide +kernel
theorem d_Rules_moveCost_5 : decode b_Rules_moveCost 5 = .ok (.istore_n 3, 1) := by decide +kernel
theorem d_Rules_moveCost_6 : decode b_Rules_moveCost 6 = .ok (.iload_n 3, 1) := by decide +kernel
theorem d_Rules_moveCost_7 : decode b_Rules_moveCost 7 = .ok (.aload_n 0, 1) := by decide +kernel
theorem d_Rules_moveCost_8 : decode b_Rules_moveCost 8 = .ok (.getfield 9, 3) := by decide +kernel
theorem d_Rules_moveCost_11 : decode b_Rules_moveCost 11 = .ok (.getfield 15, 3) := by decide +kernel
theorem d_Rules_moveCost_14 : decode b_Rules_moveCost 14 = .ok (.bipush 14, 2) := by decide +kernel
theorem d_Rules_moveCost_16 : decode b_Rules_moveCost 16 = .ok (.iaload, 1) := by decide +kernel
theorem d_Rules_moveCost_17 : decode b_Rules_moveCost 17 = .ok (.imul, 1) := by decide +kernel
theorem d_Rules_moveCost_18 : decode b_Rules_moveCost 18 = .ok (.istore 4, 2) := by decide +kernel
theorem d_Rules_moveCost_20 : decode b_Rules_moveCost 20 = .ok (.iload_n 3, 1) := by decide +kernel
theorem d_Rules_moveCost_21 : decode b_Rules_moveCost 21 = .ok (.ifCond .ne 18, 3) := by decide +kernel
theorem d_Rules_moveCost_24 : decode b_Rules_moveCost 24 = .ok (.iload 4, 2) := by decide +kernel
theorem d_Rules_moveCost_26 : decode b_Rules_moveCost 26 = .ok (.aload_n 0, 1) := by decide +kernel
theorem d_Rules_moveCost_27 : decode b_Rules_moveCost 27 = .ok (.getfield 9, 3) := by decide +kernel
theorem d_Rules_moveCost_30 : decode b_Rules_moveCost 30 = .ok (.getfield 15, 3) := by decide +kernel
theorem d_Rules_moveCost_33 : decode b_Rules_moveCost 33 = .ok (.bipush 12, 2) := by decide +kernel
theorem d_Rules_moveCost_35 : decode b_Rules_moveCost 35 = .ok (.iaload, 1) := by decide +kernel
theorem d_Rules_moveCost_36 : decode b_Rules_moveCost 36 = .ok (.iadd, 1) := by decide +kernel
theorem d_Rules_moveCost_37 : decode b_Rules_moveCost 37 = .ok (.istore 4, 2) := by decide +kernel
theorem d_Rules_moveCost_39 : decode b_Rules_moveCost 39 = .ok (.iload_n 3, 1) := by decide +kernel
theorem d_Rules_moveCost_40 : decode b_Rules_moveCost 40 = .ok (.aload_n 0, 1) := by decide +kernel
theorem d_Rules_moveCost_41 : decode b_Rules_moveCost 41 = .ok (.getfield 9, 3) := by decide +kernel
theorem d_Rules_moveCost_44 : decode b_Rules_moveCost 44 = .ok (.getfield 15, 3) := by decide +kernel
theorem d_Rules_moveCost_47 : decode b_Rules_moveCost 47 = .ok (.bipush 8, 2) := by decide +kernel
theorem d_Rules_moveCost_49 : decode b_Rules_moveCost 49 = .ok (.iaload, 1) := by decide +kernel
theorem d_Rules_moveCost_50 : decode b_Rules_moveCost 50 = .ok (.if_icmp .le 18, 3) := by decide +kernel
theorem d_Rules_moveCost_53 : decode b_Rules_moveCost 53 = .ok (.iload 4, 2) := by decide +kernel
theorem d_Rules_moveCost_55 : decode b_Rules_moveCost 55 = .ok (.aload_n 0, 1) := by decide +kernel
theorem d_Rules_moveCost_56 : decode b_Rules_moveCost 56 = .ok (.getfield 9, 3) := by decide +kernel
theorem d_Rules_moveCost_59 : decode b_Rules_moveCost 59 = .ok (.getfield 15, 3) := by decide +kernel
theorem d_Rules_moveCost_62 : decode b_Rules_moveCost 62 = .ok (.bipush 13, 2) := by decide +kernel
theorem d_Rules_moveCost_64 : decode b_Rules_moveCost 64 = .ok (.iaload, 1) := by decide +kernel
theorem d_Rules_moveCost_65 : decode b_Rules_moveCost 65 = .ok (.iadd, 1) := by decide +kernel
theorem d_Rules_moveCost_66 : decode b_Rules_moveCost 66 = .ok (.istore 4, 2) := by decide +kernel
theorem d_Rules_moveCost_68 : decode b_Rules_moveCost 68 = .ok (.iload 4, 2) := by decide +kernel
theorem d_Rules_moveCost_70 : decode b_Rules_moveCost 70 = .ok (.ireturn, 1) := by decide +kernel
abbrev wd_Rules_moveCost (kc : Nat → ClassId) (ad : Nat → Nat) (su_lines : Int32) (su_length : Int32) (su_perNote : Int32) (su_above : Int32) (su_numbers : Nat → Int32) : va_W := [((ad 1), .inr (7, [.ref (ad 2), .ref (ad 3), .ref (ad 4), .int su_lines, .int su_length, .int su_perNote, .int su_above])), ((ad 2), .inl (kc 0, 18, .inl su_numbers)), ((ad 8), .inr (5, [.ref (ad 1)]))]
abbrev rm_Rules_moveCost : Room := { frames := 1, cells := 0, slots := 0, locals := 21 }
abbrev cw_Rules_moveCost : Cond := .code y_Rules_moveCost b_Rules_moveCost 5 (some .int)
abbrev ws_Rules_moveCost : List Cond := cw_Rules_moveCost :: GW
theorem hd_Rules_moveCost : y_Rules_moveCost.cls ≠ "java/lang/invoke/MethodHandle" ∧ y_Rules_moveCost.cls ≠ "java/lang/invoke/VarHandle" ∧ (parseMethodDescriptor y_Rules_moveCost.desc).map (fun d => d.parameters.length) = some 2 := by decide +kernel
def m_Rules_moveCost_39 (su_numbers : Nat → Int32)   (x3 : Int32) (x4 : Int32) : Option (Int32) :=
  (if x3 ≤ (su_numbers (Int32.toNatClampNeg (8 : Int32))) then
    (some x4)
  else
    (some (x4 + (su_numbers (Int32.toNatClampNeg (13 : Int32))))))
set_option maxHeartbeats 4000000 in
set_option maxRecDepth 100000 in
theorem l_Rules_moveCost_39 {r : Int32} {ad : Nat → Nat} {su_lines : Int32} {su_length : Int32} {su_perNote : Int32} {su_above : Int32} {su_numbers : Nat → Int32}  {x3 : Int32} {x4 : Int32} {H : Heap} {locs : List Loc} {ls : Array Slot} (C : Cx p s m meth c args A D kc R_Rules b_Rules_moveCost 5 (some .int))  (hm : m_Rules_moveCost_39 su_numbers  x3 x4 = some r) (hZ : St D A s (wd_Rules_moveCost kc ad su_lines su_length su_perNote su_above su_numbers) H locs) (hl : lv_has ls 5 [(0, .ref (ad 8)), (3, .int x3), (4, .int x4)]) : W p l e rm_Rules_moveCost s m args below meth c H locs 0 0 (MQ below (Qi D A (wd_Rules_moveCost kc ad su_lines su_length su_perNote su_above su_numbers) r) args s 0 0 A) (F0 m 39 ls []) := by
  obtain ⟨hx, hb, hr, hts, hown, hml, hlocks, hK, hN, hA, hX⟩ := id C
  obtain ⟨hP, hD, hS⟩ := hZ
  unfold m_Rules_moveCost_39 at hm
  refine lv_iload_n hx hb d_Rules_moveCost_39 rfl (lv_at hl 1 rfl) ?_
  refine lv_aload_n hx hb d_Rules_moveCost_40 rfl (lv_at hl 0 rfl) ?_
  refine va_get (D := D) (ci := 5) (v := .ref (ad 1)) (C := R_Rules) (T := T_Rules) (N := 1) hx hb hts inG_Rules hown hK hP 2 rfl rfl 0 (by decide) (hts _ gw_207) (fun _ h9 => h9) rfl d_Rules_moveCost_41 ?_
  refine va_getN (D := D) (ci := 7) (v := .ref (ad 2)) (C := R_Setup) (T := T_Setup) (N := 7) hx hb hts inG_Setup hown hK hP 0 rfl rfl 0 (by decide) (va_Nw.use rfl (hN _ nw_158)) (fun _ h9 => h9) rfl d_Rules_moveCost_44 ?_
  refine lv_bipush (v := 8) hx hb d_Rules_moveCost_47 (by decide) ?_
  refine va_iald hx hb hK hP 1 0 rfl rfl (in_lit (by decide)) d_Rules_moveCost_49 ?_
  refine lv_icmp_le (tgt := 68) hx hb d_Rules_moveCost_50 (by decide) (fun c1 => ?_) (fun c1 => ?_)
  · replace hm := ifT hm c1
    refine lv_iload hx hb d_Rules_moveCost_68 (lv_at hl 2 rfl) ?_
    replace hm := Option.some.inj hm; subst hm
    exact zret_i C hP hD hS d_Rules_moveCost_70
  · replace hm := ifF hm c1
    refine lv_iload hx hb d_Rules_moveCost_53 (lv_at hl 2 rfl) ?_
    refine lv_aload_n hx hb d_Rules_moveCost_55 rfl (lv_at hl 0 rfl) ?_
    refine va_get (D := D) (ci := 5) (v := .ref (ad 1)) (C := R_Rules) (T := T_Rules) (N := 1) hx hb hts inG_Rules hown hK hP 2 rfl rfl 0 (by decide) (hts _ gw_207) (fun _ h9 => h9) rfl d_Rules_moveCost_56 ?_
    refine va_getN (D := D) (ci := 7) (v := .ref (ad 2)) (C := R_Setup) (T := T_Setup) (N := 7) hx hb hts inG_Setup hown hK hP 0 rfl rfl 0 (by decide) (va_Nw.use rfl (hN _ nw_158)) (fun _ h9 => h9) rfl d_Rules_moveCost_59 ?_
    refine lv_bipush (v := 13) hx hb d_Rules_moveCost_62 (by decide) ?_
    refine va_iald hx hb hK hP 1 0 rfl rfl (in_lit (by decide)) d_Rules_moveCost_64 ?_
    refine lv_iadd hx hb d_Rules_moveCost_65 ?_
    refine lv_istore (lv' := [(4, .int (x4 + (su_numbers (Int32.toNatClampNeg (13 : Int32))))), (0, .ref (ad 8)), (3, .int x3)]) hx hb d_Rules_moveCost_66 hl (by decide) rfl (fun ls hl => ?_)
    refine lv_iload hx hb d_Rules_moveCost_68 (lv_at hl 0 rfl) ?_
    replace hm := Option.some.inj hm; subst hm
    exact zret_i C hP hD hS d_Rules_moveCost_70
def m_Rules_moveCost (su_numbers : Nat → Int32)  (a1 : Int32) (a2 : Int32) : Option (Int32) :=
  (bd (m_SpeciesSolver_distance a1 a2) (fun u1 => (if u1 = (0 : Int32) then
    m_Rules_moveCost_39 su_numbers  u1 ((u1 * (su_numbers (Int32.toNatClampNeg (14 : Int32)))) + (su_numbers (Int32.toNatClampNeg (12 : Int32))))
  else
    m_Rules_moveCost_39 su_numbers  u1 (u1 * (su_numbers (Int32.toNatClampNeg (14 : Int32)))))))
set_option maxHeartbeats 4000000 in
set_option maxRecDepth 100000 in
theorem e_Rules_moveCost {r : Int32} {ad : Nat → Nat} {su_lines : Int32} {su_length : Int32} {su_perNote : Int32} {su_above : Int32} {su_numbers : Nat → Int32} {a1 : Int32} {a2 : Int32} {H : Heap} {locs : List Loc} {ls : Array Slot} (C : Cx p s m meth c args A D kc R_Rules b_Rules_moveCost 5 (some .int)) (hm : m_Rules_moveCost su_numbers a1 a2 = some r) (hZ : St D A s (wd_Rules_moveCost kc ad su_lines su_length su_perNote su_above su_numbers) H locs) (hl : lv_has ls 5 [(0, .ref (ad 8)), (1, .int a1), (2, .int a2)]) : W p l e rm_Rules_moveCost s m args below meth c H locs 0 0 (MQ below (Qi D A (wd_Rules_moveCost kc ad su_lines su_length su_perNote su_above su_numbers) r) args s 0 0 A) (F0 m 0 ls []) := by
  obtain ⟨hx, hb, hr, hts, hown, hml, hlocks, hK, hN, hA, hX⟩ := id C
  obtain ⟨hP, hD, hS⟩ := hZ
  unfold m_Rules_moveCost at hm
  refine lv_iload_n hx hb d_Rules_moveCost_0 rfl (lv_at hl 1 rfl) ?_
  refine lv_iload_n hx hb d_Rules_moveCost_1 rfl (lv_at hl 2 rfl) ?_
  obtain ⟨u1, hc2, hm⟩ := bd_some hm
  refine zSN_i (n := 2) (wr := [((ad 1), .inr (7, [.ref (ad 2), .ref (ad 3), .ref (ad 4), .int su_lines, .int su_length, .int su_perNote, .int su_above])), ((ad 2), .inl (kc 0, 18, .inl su_numbers)), ((ad 8), .inr (5, [.ref (ad 1)]))]) (w1 := (wd_SpeciesSolver_distance kc )) (ws1 := (wd_Rules_moveCost kc ad su_lines su_length su_perNote su_above su_numbers)) (As := [.int a1, .int a2]) (rest := []) (y := y_SpeciesSolver_distance) ⟨hx, hb, hml, hown, hts⟩ (fun sz => c_SpeciesSolver_distance hc2 sz) gw_550 (hN _ nw_548) gw_549 gw_111 hd_SpeciesSolver_distance ⟨Nat.le_of_ble_eq_true rfl, Nat.le_of_ble_eq_true rfl⟩ ⟨rfl, rfl⟩ ⟨Nat.zero_le _, Nat.zero_le _⟩ hK hN hP hD hS hA hX [] [0, 1, 2] [0, 1, 2] rfl rfl (by decide) (by decide) (by decide) rfl (by decide) rfl hl.1 rfl (Nat.le_of_ble_eq_true rfl) d_Rules_moveCost_2 (fun H locs hP hD hS => ?_)
  refine lv_istore_n (lv' := [(3, .int u1), (0, .ref (ad 8)), (1, .int a1), (2, .int a2)]) hx hb d_Rules_moveCost_5 rfl hl (by decide) rfl (fun ls hl => ?_)
  refine lv_iload_n hx hb d_Rules_moveCost_6 rfl (lv_at hl 0 rfl) ?_
  refine lv_aload_n hx hb d_Rules_moveCost_7 rfl (lv_at hl 1 rfl) ?_
  refine va_get (D := D) (ci := 5) (v := .ref (ad 1)) (C := R_Rules) (T := T_Rules) (N := 1) hx hb hts inG_Rules hown hK hP 2 rfl rfl 0 (by decide) (hts _ gw_207) (fun _ h9 => h9) rfl d_Rules_moveCost_8 ?_
  refine va_getN (D := D) (ci := 7) (v := .ref (ad 2)) (C := R_Setup) (T := T_Setup) (N := 7) hx hb hts inG_Setup hown hK hP 0 rfl rfl 0 (by decide) (va_Nw.use rfl (hN _ nw_158)) (fun _ h9 => h9) rfl d_Rules_moveCost_11 ?_
  refine lv_bipush (v := 14) hx hb d_Rules_moveCost_14 (by decide) ?_
  refine va_iald hx hb hK hP 1 0 rfl rfl (in_lit (by decide)) d_Rules_moveCost_16 ?_
  refine lv_imul hx hb d_Rules_moveCost_17 ?_
  refine lv_istore (lv' := [(4, .int (u1 * (su_numbers (Int32.toNatClampNeg (14 : Int32))))), (3, .int u1), (0, .ref (ad 8)), (1, .int a1), (2, .int a2)]) hx hb d_Rules_moveCost_18 hl (by decide) rfl (fun ls hl => ?_)
  refine lv_iload_n hx hb d_Rules_moveCost_20 rfl (lv_at hl 1 rfl) ?_
  refine lv_if_ne (tgt := 39) hx hb d_Rules_moveCost_21 (by decide) (fun c3 => ?_) (fun c3 => ?_)
  · replace hm := ifF hm c3
    exact l_Rules_moveCost_39 C  hm ⟨hP, hD, hS⟩ (lv_sub hl [2, 1, 0] rfl)
  · replace hm := ifT hm c3
    refine lv_iload hx hb d_Rules_moveCost_24 (lv_at hl 0 rfl) ?_
    refine lv_aload_n hx hb d_Rules_moveCost_26 rfl (lv_at hl 2 rfl) ?_
    refine va_get (D := D) (ci := 5) (v := .ref (ad 1)) (C := R_Rules) (T := T_Rules) (N := 1) hx hb hts inG_Rules hown hK hP 2 rfl rfl 0 (by decide) (hts _ gw_207) (fun _ h9 => h9) rfl d_Rules_moveCost_27 ?_
    refine va_getN (D := D) (ci := 7) (v := .ref (ad 2)) (C := R_Setup) (T := T_Setup) (N := 7) hx hb hts inG_Setup hown hK hP 0 rfl rfl 0 (by decide) (va_Nw.use rfl (hN _ nw_158)) (fun _ h9 => h9) rfl d_Rules_moveCost_30 ?_
    refine lv_bipush (v := 12) hx hb d_Rules_moveCost_33 (by decide) ?_
    refine va_iald hx hb hK hP 1 0 rfl rfl (in_lit (by decide)) d_Rules_moveCost_35 ?_
    refine lv_iadd hx hb d_Rules_moveCost_36 ?_
    refine lv_istore (lv' := [(4, .int ((u1 * (su_numbers (Int32.toNatClampNeg (14 : Int32)))) + (su_numbers (Int32.toNatClampNeg (12 : Int32))))), (3, .int u1), (0, .ref (ad 8)), (1, .int a1), (2, .int a2)]) hx hb d_Rules_moveCost_37 hl (by decide) rfl (fun ls hl => ?_)
    exact l_Rules_moveCost_39 C  hm ⟨hP, hD, hS⟩ (lv_sub hl [2, 1, 0] rfl)
set_option maxHeartbeats 4000000 in
set_option maxRecDepth 100000 in
theorem c_Rules_moveCost {l : Launch} {D : va_G} {kc : Nat → ClassId} {r : Int32} {ad : Nat → Nat} {su_lines : Int32} {su_length : Int32} {su_perNote : Int32} {su_above : Int32} {su_numbers : Nat → Int32} {a1 : Int32} {a2 : Int32} (hm : m_Rules_moveCost su_numbers a1 a2 = some r) (sz : Nat) : Ci l y_Rules_moveCost ws_Rules_moveCost rm_Rules_moveCost D kc sz [.ref (ad 8), .int a1, .int a2] (wd_Rules_moveCost kc ad su_lines su_length su_perNote su_above su_numbers) (wd_Rules_moveCost kc ad su_lines su_length su_perNote su_above su_numbers) r :=
  Cz_of (Qf := fun A => (Qi D A (wd_Rules_moveCost kc ad su_lines su_length su_perNote su_above su_numbers) r)) (cc := b_Rules_moveCost) (maxL := 5) (ret := (some .int)) (by decide) rfl rfl (fun C hZ hl => e_Rules_moveCost C hm hZ hl)
abbrev b_Prices_fillMoves : ByteArray := prog_4_method_5_code
abbrev y_Prices_fillMoves : MethodName := ⟨"SpeciesSolver$Prices", "fillMoves", "()V"⟩
theorem d_Prices_fillMoves_0 : decode b_Prices_fillMoves 0 = .ok (.iconst 0, 1) := by decide +kernel
theorem d_Prices_fillMoves_1 : decode b_Prices_fillMoves 1 = .ok (.istore_n 1, 1) := by decide +kernel
theorem d_Prices_fillMoves_2 : decode b_Prices_fillMoves 2 = .ok (.iload_n 1, 1) := by decide +kernel
theorem d_Prices_fillMoves_3 : decode b_Prices_fillMoves 3 = .ok (.aload_n 0, 1) := by decide +kernel
theorem d_Prices_fillMoves_4 : decode b_Prices_fillMoves 4 = .ok (.getfield 40, 3) := by decide +kernel
theorem d_Prices_fillMoves_7 : decode b_Prices_fillMoves 7 = .ok (.if_icmp .ge 205, 3) := by decide +kernel
theorem d_Prices_fillMoves_10 : decode b_Prices_fillMoves 10 = .ok (.iconst 0, 1) := by decide +kernel
theorem d_Prices_fillMoves_11 : decode b_Prices_fillMoves 11 = .ok (.istore_n 2, 1) := by decide +kernel
theorem d_Prices_fillMoves_12 : decode b_Prices_fillMoves 12 = .ok (.iload_n 2, 1) := by decide +kernel
theorem d_Prices_fillMoves_13 : decode b_Prices_fillMoves 13 = .ok (.aload_n 0, 1) := by decide +kernel
theorem d_Prices_fillMoves_14 : decode b_Prices_fillMoves 14 = .ok (.getfield 40, 3) := by decide +kernel
theorem d_Prices_fillMoves_17 : decode b_Prices_fillMoves 17 = .ok (.if_icmp .ge 189, 3) := by decide +kernel
theorem d_Prices_fillMoves_20 : decode b_Prices_fillMoves 20 = .ok (.iload_n 1, 1) := by decide +kernel
theorem d_Prices_fillMoves_21 : decode b_Prices_fillMoves 21 = .ok (.bipush 8, 2) := by decide +kernel
theorem d_Prices_fillMoves_23 : decode b_Prices_fillMoves 23 = .ok (.imul, 1) := by decide +kernel
theorem d_Prices_fillMoves_24 : decode b_Prices_fillMoves 24 = .ok (.iload_n 2, 1) := by decide +kernel
theorem d_Prices_fillMoves_25 : decode b_Prices_fillMoves 25 = .ok (.iadd, 1) := by decide +kernel
theorem d_Prices_fillMoves_26 : decode b_Prices_fillMoves 26 = .ok (.istore_n 3, 1) := by decide +kernel
theorem d_Prices_fillMoves_27 : decode b_Prices_fillMoves 27 = .ok (.aload_n 0, 1) := by decide +kernel
theorem d_Prices_fillMoves_28 : decode b_Prices_fillMoves 28 = .ok (.getfield 53, 3) := by decide +kernel
theorem d_Prices_fillMoves_31 : decode b_Prices_fillMoves 31 = .ok (.getfield 71, 3) := by decide +kernel
theorem d_Prices_fillMoves_34 : decode b_Prices_fillMoves 34 = .ok (.iconst 5, 1) := by decide +kernel
theorem d_Prices_fillMoves_35 : decode b_Prices_fillMoves 35 = .ok (.baload, 1) := by decide +kernel
theorem d_Prices_fillMoves_36 : decode b_Prices_fillMoves 36 = .ok (.ifCond .eq 29, 3) := by decide +kernel
theorem d_Prices_fillMoves_39 : decode b_Prices_fillMoves 39 = .ok (.aload_n 0, 1) := by decide +kernel
theorem d_Prices_fillMoves_40 : decode b_Prices_fillMoves 40 = .ok (.getfield 57, 3) := by decide +kernel
theorem d_Prices_fillMoves_43 : decode b_Prices_fillMoves 43 = .ok (.aload_n 0, 1) := by decide +kernel
theorem d_Prices_fillMoves_44 : decode b_Prices_fillMoves 44 = .ok (.getfield 11, 3) := by decide +kernel
theorem d_Prices_fillMoves_47 : decode b_Prices_fillMoves 47 = .ok (.iload_n 1, 1) := by decide +kernel
theorem d_Prices_fillMoves_48 : decode b_Prices_fillMoves 48 = .ok (.iaload, 1) := by decide +kernel
theorem d_Prices_fillMoves_49 : decode b_Prices_fillMoves 49 = .ok (.aload_n 0, 1) := by decide +kernel
theorem d_Prices_fillMoves_50 : decode b_Prices_fillMoves 50 = .ok (.getfield 11, 3) := by decide +kernel
theorem d_Prices_fillMoves_53 : decode b_Prices_fillMoves 53 = .ok (.iload_n 2, 1) := by decide +kernel
theorem d_Prices_fillMoves_54 : decode b_Prices_fillMoves 54 = .ok (.iaload, 1) := by decide +kernel
theorem d_Prices_fillMoves_55 : decode b_Prices_fillMoves 55 = .ok (.invokevirtual 116, 3) := by decide +kernel
theorem d_Prices_fillMoves_58 : decode b_Prices_fillMoves 58 = .ok (.ifCond .eq 7, 3) := by decide +kernel
theorem d_Prices_fillMoves_61 : decode b_Prices_fillMoves 61 = .ok (.iconst 1, 1) := by decide +kernel
theorem d_Prices_fillMoves_62 : decode b_Prices_fillMoves 62 = .ok (.goto 4, 3) := by decide +kernel
theorem d_Prices_fillMoves_65 : decode b_Prices_fillMoves 65 = .ok (.iconst 0, 1) := by decide +kernel
theorem d_Prices_fillMoves_66 : decode b_Prices_fillMoves 66 = .ok (.istore 4, 2) := by decide +kernel
theorem d_Prices_fillMoves_68 : decode b_Prices_fillMoves 68 = .ok (.aload_n 0, 1) := by decide +kernel
theorem d_Prices_fillMoves_69 : decode b_Prices_fillMoves 69 = .ok (.getfield 22, 3) := by decide +kernel
theorem d_Prices_fillMoves_72 : decode b_Prices_fillMoves 72 = .ok (.iload_n 3, 1) := by decide +kernel
theorem d_Prices_fillMoves_73 : decode b_Prices_fillMoves 73 = .ok (.iload 4, 2) := by decide +kernel
theorem d_Prices_fillMoves_75 : decode b_Prices_fillMoves 75 = .ok (.ifCond .eq 7, 3) := by decide +kernel
theorem d_Prices_fillMoves_78 : decode b_Prices_fillMoves 78 = .ok (.iconst (-1), 1) := by decide +kernel
theorem d_Prices_fillMoves_79 : decode b_Prices_fillMoves 79 = .ok (.goto 22, 3) := by decide +kernel
theorem d_Prices_fillMoves_82 : decode b_Prices_fillMoves 82 = .ok (.aload_n 0, 1) := by decide +kernel
theorem d_Prices_fillMoves_83 : decode b_Prices_fillMoves 83 = .ok (.getfield 57, 3) := by decide +kernel
theorem d_Prices_fillMoves_86 : decode b_Prices_fillMoves 86 = .ok (.aload_n 0, 1) := by decide +kernel
theorem d_Prices_fillMoves_87 : decode b_Prices_fillMoves 87 = .ok (.getfield 11, 3) := by decide +kernel
theorem d_Prices_fillMoves_90 : decode b_Prices_fillMoves 90 = .ok (.iload_n 1, 1) := by decide +kernel
theorem d_Prices_fillMoves_91 : decode b_Prices_fillMoves 91 = .ok (.iaload, 1) := by decide +kernel
theorem d_Prices_fillMoves_92 : decode b_Prices_fillMoves 92 = .ok (.aload_n 0, 1) := by decide +kernel
theorem d_Prices_fillMoves_93 : decode b_Prices_fillMoves 93 = .ok (.getfield 11, 3) := by decide +kernel
theorem d_Prices_fillMoves_96 : decode b_Prices_fillMoves 96 = .ok (.iload_n 2, 1) := by decide +kernel
theorem d_Prices_fillMoves_97 : decode b_Prices_fillMoves 97 = .ok (.iaload, 1) := by decide +kernel
theorem d_Prices_fillMoves_98 : decode b_Prices_fillMoves 98 = .ok (.invokevirtual 119, 3) := by decide +kernel
theorem d_Prices_fillMoves_101 : decode b_Prices_fillMoves 101 = .ok (.iastore, 1) := by decide +kernel
theorem d_Prices_fillMoves_102 : decode b_Prices_fillMoves 102 = .ok (.aload_n 0, 1) := by decide +kernel
theorem d_Prices_fillMoves_103 : decode b_Prices_fillMoves 103 = .ok (.getfield 25, 3) := by decide +kernel
theorem d_Prices_fillMoves_106 : decode b_Prices_fillMoves 106 = .ok (.iload_n 3, 1) := by decide +kernel
theorem d_Prices_fillMoves_107 : decode b_Prices_fillMoves 107 = .ok (.aload_n 0, 1) := by decide +kernel
theorem d_Prices_fillMoves_108 : decode b_Prices_fillMoves 108 = .ok (.getfield 53, 3) := by decide +kernel
theorem d_Prices_fillMoves_111 : decode b_Prices_fillMoves 111 = .ok (.getfield 71, 3) := by decide +kernel
theorem d_Prices_fillMoves_114 : decode b_Prices_fillMoves 114 = .ok (.bipush 6, 2) := by decide +kernel
theorem d_Prices_fillMoves_116 : decode b_Prices_fillMoves 116 = .ok (.baload, 1) := by decide +kernel
theorem d_Prices_fillMoves_117 : decode b_Prices_fillMoves 117 = .ok (.ifCond .eq 29, 3) := by decide +kernel
theorem d_Prices_fillMoves_120 : decode b_Prices_fillMoves 120 = .ok (.aload_n 0, 1) := by decide +kernel
theorem d_Prices_fillMoves_121 : decode b_Prices_fillMoves 121 = .ok (.getfield 57, 3) := by decide +kernel
theorem d_Prices_fillMoves_124 : decode b_Prices_fillMoves 124 = .ok (.aload_n 0, 1) := by decide +kernel
theorem d_Prices_fillMoves_125 : decode b_Prices_fillMoves 125 = .ok (.getfield 11, 3) := by decide +kernel
theorem d_Prices_fillMoves_128 : decode b_Prices_fillMoves 128 = .ok (.iload_n 1, 1) := by decide +kernel
theorem d_Prices_fillMoves_129 : decode b_Prices_fillMoves 129 = .ok (.iaload, 1) := by decide +kernel
theorem d_Prices_fillMoves_130 : decode b_Prices_fillMoves 130 = .ok (.aload_n 0, 1) := by decide +kernel
theorem d_Prices_fillMoves_131 : decode b_Prices_fillMoves 131 = .ok (.getfield 11, 3) := by decide +kernel
theorem d_Prices_fillMoves_134 : decode b_Prices_fillMoves 134 = .ok (.iload_n 2, 1) := by decide +kernel
theorem d_Prices_fillMoves_135 : decode b_Prices_fillMoves 135 = .ok (.iaload, 1) := by decide +kernel
theorem d_Prices_fillMoves_136 : decode b_Prices_fillMoves 136 = .ok (.invokevirtual 122, 3) := by decide +kernel
theorem d_Prices_fillMoves_139 : decode b_Prices_fillMoves 139 = .ok (.ifCond .eq 7, 3) := by decide +kernel
theorem d_Prices_fillMoves_142 : decode b_Prices_fillMoves 142 = .ok (.iconst 1, 1) := by decide +kernel
theorem d_Prices_fillMoves_143 : decode b_Prices_fillMoves 143 = .ok (.goto 4, 3) := by decide +kernel
theorem d_Prices_fillMoves_146 : decode b_Prices_fillMoves 146 = .ok (.iconst 0, 1) := by decide +kernel
theorem d_Prices_fillMoves_147 : decode b_Prices_fillMoves 147 = .ok (.bastore, 1) := by decide +kernel
theorem d_Prices_fillMoves_148 : decode b_Prices_fillMoves 148 = .ok (.aload_n 0, 1) := by decide +kernel
theorem d_Prices_fillMoves_149 : decode b_Prices_fillMoves 149 = .ok (.getfield 28, 3) := by decide +kernel
theorem d_Prices_fillMoves_152 : decode b_Prices_fillMoves 152 = .ok (.iload_n 3, 1) := by decide +kernel
theorem d_Prices_fillMoves_153 : decode b_Prices_fillMoves 153 = .ok (.aload_n 0, 1) := by decide +kernel
theorem d_Prices_fillMoves_154 : decode b_Prices_fillMoves 154 = .ok (.getfield 53, 3) := by decide +kernel
theorem d_Prices_fillMoves_157 : decode b_Prices_fillMoves 157 = .ok (.getfield 71, 3) := by decide +kernel
theorem d_Prices_fillMoves_160 : decode b_Prices_fillMoves 160 = .ok (.bipush 9, 2) := by decide +kernel
theorem d_Prices_fillMoves_162 : decode b_Prices_fillMoves 162 = .ok (.baload, 1) := by decide +kernel
theorem d_Prices_fillMoves_163 : decode b_Prices_fillMoves 163 = .ok (.ifCond .eq 35, 3) := by decide +kernel
theorem d_Prices_fillMoves_166 : decode b_Prices_fillMoves 166 = .ok (.aload_n 0, 1) := by decide +kernel
theorem d_Prices_fillMoves_167 : decode b_Prices_fillMoves 167 = .ok (.getfield 57, 3) := by decide +kernel
theorem d_Prices_fillMoves_170 : decode b_Prices_fillMoves 170 = .ok (.aload_n 0, 1) := by decide +kernel
theorem d_Prices_fillMoves_171 : decode b_Prices_fillMoves 171 = .ok (.getfield 44, 3) := by decide +kernel
theorem d_Prices_fillMoves_174 : decode b_Prices_fillMoves 174 = .ok (.iconst 1, 1) := by decide +kernel
theorem d_Prices_fillMoves_175 : decode b_Prices_fillMoves 175 = .ok (.isub, 1) := by decide +kernel
theorem d_Prices_fillMoves_176 : decode b_Prices_fillMoves 176 = .ok (.aload_n 0, 1) := by decide +kernel
theorem d_Prices_fillMoves_177 : decode b_Prices_fillMoves 177 = .ok (.getfield 11, 3) := by decide +kernel
theorem d_Prices_fillMoves_180 : decode b_Prices_fillMoves 180 = .ok (.iload_n 1, 1) := by decide +kernel
theorem d_Prices_fillMoves_181 : decode b_Prices_fillMoves 181 = .ok (.iaload, 1) := by decide +kernel
theorem d_Prices_fillMoves_182 : decode b_Prices_fillMoves 182 = .ok (.aload_n 0, 1) := by decide +kernel
theorem d_Prices_fillMoves_183 : decode b_Prices_fillMoves 183 = .ok (.getfield 11, 3) := by decide +kernel
theorem d_Prices_fillMoves_186 : decode b_Prices_fillMoves 186 = .ok (.iload_n 2, 1) := by decide +kernel
theorem d_Prices_fillMoves_187 : decode b_Prices_fillMoves 187 = .ok (.iaload, 1) := by decide +kernel
theorem d_Prices_fillMoves_188 : decode b_Prices_fillMoves 188 = .ok (.invokevirtual 124, 3) := by decide +kernel
theorem d_Prices_fillMoves_191 : decode b_Prices_fillMoves 191 = .ok (.ifCond .eq 7, 3) := by decide +kernel
theorem d_Prices_fillMoves_194 : decode b_Prices_fillMoves 194 = .ok (.iconst 1, 1) := by decide +kernel
theorem d_Prices_fillMoves_195 : decode b_Prices_fillMoves 195 = .ok (.goto 4, 3) := by decide +kernel
theorem d_Prices_fillMoves_198 : decode b_Prices_fillMoves 198 = .ok (.iconst 0, 1) := by decide +kernel
theorem d_Prices_fillMoves_199 : decode b_Prices_fillMoves 199 = .ok (.bastore, 1) := by decide +kernel
theorem d_Prices_fillMoves_200 : decode b_Prices_fillMoves 200 = .ok (.iinc 2 1, 3) := by decide +kernel
theorem d_Prices_fillMoves_203 : decode b_Prices_fillMoves 203 = .ok (.goto (-191), 3) := by decide +kernel
theorem d_Prices_fillMoves_206 : decode b_Prices_fillMoves 206 = .ok (.iinc 1 1, 3) := by decide +kernel
theorem d_Prices_fillMoves_209 : decode b_Prices_fillMoves 209 = .ok (.goto (-207), 3) := by decide +kernel
theorem d_Prices_fillMoves_212 : decode b_Prices_fillMoves 212 = .ok (.return_, 1) := by decide +kernel
abbrev wd_Prices_fillMoves (kc : Nat → ClassId) (ad : Nat → Nat) (su_lines : Int32) (su_length : Int32) (su_perNote : Int32) (su_above : Int32) (su_numbers : Nat → Int32) (su_on : Nat → Int32) (su_given : Nat → Nat → Int32) (pr_size : Int32) (pr_total : Int32) (pr_perNote : Int32) (pr_mostAlike : Int32) (pr_pitches : Nat → Int32) (pr_movePrices : Nat → Int32) (pr_mustTurn : Nat → Int32) (pr_badClosings : Nat → Int32) : va_W := [((ad 1), .inr (7, [.ref (ad 2), .ref (ad 3), .ref (ad 4), .int su_lines, .int su_length, .int su_perNote, .int su_above])), ((ad 2), .inl (kc 0, 18, .inl su_numbers)), ((ad 3), .inl (kc 1, 11, .inl su_on)), ((ad 4), .inl (kc 3, 3, .inr (.inr (.inr (.inr (fun i => if i < 3 then some (ad (5 + i)) else none)))))), ((ad 5), .inl (kc 0, 12, .inl (su_given 0))), ((ad 6), .inl (kc 0, 12, .inl (su_given 1))), ((ad 7), .inl (kc 0, 12, .inl (su_given 2))), ((ad 8), .inr (5, [.ref (ad 1)])), ((ad 13), .inr (4, [.ref (ad 1), .ref (ad 8), .ref (ad 14), .ref (ad 15), .ref (ad 16), .ref (ad 17), .ref (ad 18), .ref (ad 19), .ref (ad 20), .ref (ad 21), .ref (ad 22), .int pr_size, .int pr_total, .int pr_perNote, .int pr_mostAlike])), ((ad 14), .inl (kc 0, 8, .inl pr_pitches)), ((ad 17), .inl (kc 0, 64, .inl pr_movePrices)), ((ad 18), .inl (kc 1, 64, .inl pr_mustTurn)), ((ad 19), .inl (kc 1, 64, .inl pr_badClosings))]
abbrev rm_Prices_fillMoves : Room := { frames := 3, cells := 0, slots := 0, locals := 66 }
abbrev cw_Prices_fillMoves : Cond := .code y_Prices_fillMoves b_Prices_fillMoves 5 none
abbrev ws_Prices_fillMoves : List Cond := cw_Prices_fillMoves :: GW
theorem hd_Prices_fillMoves : y_Prices_fillMoves.cls ≠ "java/lang/invoke/MethodHandle" ∧ y_Prices_fillMoves.cls ≠ "java/lang/invoke/VarHandle" ∧ (parseMethodDescriptor y_Prices_fillMoves.desc).map (fun d => d.parameters.length) = some 0 := by decide +kernel
def m_Prices_fillMoves_199 (F : Nat) (su_perNote : Int32) (su_numbers : Nat → Int32) (su_on : Nat → Int32) (su_given : Nat → Nat → Int32) (pr_size : Int32) (pr_total : Int32) (pr_pitches : Nat → Int32) (k2 : (Nat → Int32) → (Nat → Int32) → (Nat → Int32) → Int32 → Option ((Nat → Int32) × (Nat → Int32) × (Nat → Int32))) (k12 : (Nat → Int32) → (Nat → Int32) → (Nat → Int32) → Int32 → Int32 → Option ((Nat → Int32) × (Nat → Int32) × (Nat → Int32))) (pr_movePrices : Nat → Int32) (pr_mustTurn : Nat → Int32) (pr_badClosings : Nat → Int32) (x1 : Int32) (x2 : Int32) (t1 : Int32) (t2 : Int32) : Option ((Nat → Int32) × (Nat → Int32) × (Nat → Int32)) :=
  (gd t1 64 (k12 pr_movePrices pr_mustTurn (upd pr_badClosings (Int32.toNatClampNeg t1) (vp_nar .boolean t2)) x1 (x2 + 1)))
set_option maxHeartbeats 4000000 in
set_option maxRecDepth 100000 in
theorem l_Prices_fillMoves_199 {r : (Nat → Int32) × (Nat → Int32) × (Nat → Int32)} {F : Nat} {ad : Nat → Nat} {su_lines : Int32} {su_length : Int32} {su_perNote : Int32} {su_above : Int32} {su_numbers : Nat → Int32} {su_on : Nat → Int32} {su_given : Nat → Nat → Int32} {pr_size : Int32} {pr_total : Int32} {pr_perNote : Int32} {pr_mostAlike : Int32} {pr_pitches : Nat → Int32} {pr_movePrices : Nat → Int32} {pr_mustTurn : Nat → Int32} {pr_badClosings : Nat → Int32} {k2 : (Nat → Int32) → (Nat → Int32) → (Nat → Int32) → Int32 → Option ((Nat → Int32) × (Nat → Int32) × (Nat → Int32))} {k12 : (Nat → Int32) → (Nat → Int32) → (Nat → Int32) → Int32 → Int32 → Option ((Nat → Int32) × (Nat → Int32) × (Nat → Int32))} {x1 : Int32} {x2 : Int32} {t1 : Int32} {t2 : Int32} {H : Heap} {locs : List Loc} {ls : Array Slot} (C : Cx p s m meth c args A D kc R_Prices b_Prices_fillMoves 5 none) (hk2 : (∀ (pr_movePrices : Nat → Int32) (pr_mustTurn : Nat → Int32) (pr_badClosings : Nat → Int32) (x1 : Int32) (H : Heap) (locs : List Loc) (ls : Array Slot), k2 pr_movePrices pr_mustTurn pr_badClosings x1 = some r → St D A s (wd_Prices_fillMoves kc ad su_lines su_length su_perNote su_above su_numbers su_on su_given pr_size pr_total pr_perNote pr_mostAlike pr_pitches pr_movePrices pr_mustTurn pr_badClosings) H locs → lv_has ls 5 [(0, .ref (ad 13)), (1, .int x1)] → W p l e rm_Prices_fillMoves s m args below meth c H locs 0 0 (MQ below (Qv D A (wd_Prices_fillMoves kc ad su_lines su_length su_perNote su_above su_numbers su_on su_given pr_size pr_total pr_perNote pr_mostAlike pr_pitches r.1 r.2.1 r.2.2)) args s 0 0 A) (F0 m 2 ls []))) (hk12 : (∀ (pr_movePrices : Nat → Int32) (pr_mustTurn : Nat → Int32) (pr_badClosings : Nat → Int32) (x1 : Int32) (x2 : Int32) (H : Heap) (locs : List Loc) (ls : Array Slot), k12 pr_movePrices pr_mustTurn pr_badClosings x1 x2 = some r → St D A s (wd_Prices_fillMoves kc ad su_lines su_length su_perNote su_above su_numbers su_on su_given pr_size pr_total pr_perNote pr_mostAlike pr_pitches pr_movePrices pr_mustTurn pr_badClosings) H locs → lv_has ls 5 [(0, .ref (ad 13)), (1, .int x1), (2, .int x2)] → W p l e rm_Prices_fillMoves s m args below meth c H locs 0 0 (MQ below (Qv D A (wd_Prices_fillMoves kc ad su_lines su_length su_perNote su_above su_numbers su_on su_given pr_size pr_total pr_perNote pr_mostAlike pr_pitches r.1 r.2.1 r.2.2)) args s 0 0 A) (F0 m 12 ls []))) (hm : m_Prices_fillMoves_199 F su_perNote su_numbers su_on su_given pr_size pr_total pr_pitches k2 k12 pr_movePrices pr_mustTurn pr_badClosings x1 x2 t1 t2 = some r) (hZ : St D A s (wd_Prices_fillMoves kc ad su_lines su_length su_perNote su_above su_numbers su_on su_given pr_size pr_total pr_perNote pr_mostAlike pr_pitches pr_movePrices pr_mustTurn pr_badClosings) H locs) (hl : lv_has ls 5 [(0, .ref (ad 13)), (1, .int x1), (2, .int x2)]) : W p l e rm_Prices_fillMoves s m args below meth c H locs 0 0 (MQ below (Qv D A (wd_Prices_fillMoves kc ad su_lines su_length su_perNote su_above su_numbers su_on su_given pr_size pr_total pr_perNote pr_mostAlike pr_pitches r.1 r.2.1 r.2.2)) args s 0 0 A) (F0 m 199 ls [.int t2, .int t1, .ref (ad 19)]) := by
  obtain ⟨hx, hb, hr, hts, hown, hml, hlocks, hK, hN, hA, hX⟩ := id C
  obtain ⟨hP, hD, hS⟩ := hZ
  unfold m_Prices_fillMoves_199 at hm
  obtain ⟨hi1, hm⟩ := gd_some hm
  refine va_zast hx hb hK hP hD hS 12 1 rfl rfl hi1 d_Prices_fillMoves_199 (fun H locs hP hD hS => ?_)
  replace hP : va_P D vwCl (wd_Prices_fillMoves kc ad su_lines su_length su_perNote su_above su_numbers su_on su_given pr_size pr_total pr_perNote pr_mostAlike pr_pitches pr_movePrices pr_mustTurn (upd pr_badClosings (Int32.toNatClampNeg t1) (vp_nar .boolean t2))) H := hP
  replace hD : va_D A (wd_Prices_fillMoves kc ad su_lines su_length su_perNote su_above su_numbers su_on su_given pr_size pr_total pr_perNote pr_mostAlike pr_pitches pr_movePrices pr_mustTurn (upd pr_badClosings (Int32.toNatClampNeg t1) (vp_nar .boolean t2))) := hD
  refine lv_iinc (v := (x2 + 1)) (lv' := [(2, .int (x2 + 1)), (0, .ref (ad 13)), (1, .int x1)]) hx hb d_Prices_fillMoves_200 hl (k := 2) rfl rfl (by decide) rfl (fun ls hl => ?_)
  refine lv_goto (tgt := 12) hx hb d_Prices_fillMoves_203 (by decide) ?_
  exact hk12 pr_movePrices pr_mustTurn (upd pr_badClosings (Int32.toNatClampNeg t1) (vp_nar .boolean t2)) x1 (x2 + 1) _ _ _ hm ⟨hP, hD, hS⟩ (lv_sub hl [1, 2, 0] rfl)
def m_Prices_fillMoves_198 (F : Nat) (su_perNote : Int32) (su_numbers : Nat → Int32) (su_on : Nat → Int32) (su_given : Nat → Nat → Int32) (pr_size : Int32) (pr_total : Int32) (pr_pitches : Nat → Int32) (k2 : (Nat → Int32) → (Nat → Int32) → (Nat → Int32) → Int32 → Option ((Nat → Int32) × (Nat → Int32) × (Nat → Int32))) (k12 : (Nat → Int32) → (Nat → Int32) → (Nat → Int32) → Int32 → Int32 → Option ((Nat → Int32) × (Nat → Int32) × (Nat → Int32))) (pr_movePrices : Nat → Int32) (pr_mustTurn : Nat → Int32) (pr_badClosings : Nat → Int32) (x1 : Int32) (x2 : Int32) (t1 : Int32) : Option ((Nat → Int32) × (Nat → Int32) × (Nat → Int32)) :=
  m_Prices_fillMoves_199 F su_perNote su_numbers su_on su_given pr_size pr_total pr_pitches k2 k12 pr_movePrices pr_mustTurn pr_badClosings x1 x2 t1 (0 : Int32)
set_option maxHeartbeats 4000000 in
set_option maxRecDepth 100000 in
theorem l_Prices_fillMoves_198 {r : (Nat → Int32) × (Nat → Int32) × (Nat → Int32)} {F : Nat} {ad : Nat → Nat} {su_lines : Int32} {su_length : Int32} {su_perNote : Int32} {su_above : Int32} {su_numbers : Nat → Int32} {su_on : Nat → Int32} {su_given : Nat → Nat → Int32} {pr_size : Int32} {pr_total : Int32} {pr_perNote : Int32} {pr_mostAlike : Int32} {pr_pitches : Nat → Int32} {pr_movePrices : Nat → Int32} {pr_mustTurn : Nat → Int32} {pr_badClosings : Nat → Int32} {k2 : (Nat → Int32) → (Nat → Int32) → (Nat → Int32) → Int32 → Option ((Nat → Int32) × (Nat → Int32) × (Nat → Int32))} {k12 : (Nat → Int32) → (Nat → Int32) → (Nat → Int32) → Int32 → Int32 → Option ((Nat → Int32) × (Nat → Int32) × (Nat → Int32))} {x1 : Int32} {x2 : Int32} {t1 : Int32} {H : Heap} {locs : List Loc} {ls : Array Slot} (C : Cx p s m meth c args A D kc R_Prices b_Prices_fillMoves 5 none) (hk2 : (∀ (pr_movePrices : Nat → Int32) (pr_mustTurn : Nat → Int32) (pr_badClosings : Nat → Int32) (x1 : Int32) (H : Heap) (locs : List Loc) (ls : Array Slot), k2 pr_movePrices pr_mustTurn pr_badClosings x1 = some r → St D A s (wd_Prices_fillMoves kc ad su_lines su_length su_perNote su_above su_numbers su_on su_given pr_size pr_total pr_perNote pr_mostAlike pr_pitches pr_movePrices pr_mustTurn pr_badClosings) H locs → lv_has ls 5 [(0, .ref (ad 13)), (1, .int x1)] → W p l e rm_Prices_fillMoves s m args below meth c H locs 0 0 (MQ below (Qv D A (wd_Prices_fillMoves kc ad su_lines su_length su_perNote su_above su_numbers su_on su_given pr_size pr_total pr_perNote pr_mostAlike pr_pitches r.1 r.2.1 r.2.2)) args s 0 0 A) (F0 m 2 ls []))) (hk12 : (∀ (pr_movePrices : Nat → Int32) (pr_mustTurn : Nat → Int32) (pr_badClosings : Nat → Int32) (x1 : Int32) (x2 : Int32) (H : Heap) (locs : List Loc) (ls : Array Slot), k12 pr_movePrices pr_mustTurn pr_badClosings x1 x2 = some r → St D A s (wd_Prices_fillMoves kc ad su_lines su_length su_perNote su_above su_numbers su_on su_given pr_size pr_total pr_perNote pr_mostAlike pr_pitches pr_movePrices pr_mustTurn pr_badClosings) H locs → lv_has ls 5 [(0, .ref (ad 13)), (1, .int x1), (2, .int x2)] → W p l e rm_Prices_fillMoves s m args below meth c H locs 0 0 (MQ below (Qv D A (wd_Prices_fillMoves kc ad su_lines su_length su_perNote su_above su_numbers su_on su_given pr_size pr_total pr_perNote pr_mostAlike pr_pitches r.1 r.2.1 r.2.2)) args s 0 0 A) (F0 m 12 ls []))) (hm : m_Prices_fillMoves_198 F su_perNote su_numbers su_on su_given pr_size pr_total pr_pitches k2 k12 pr_movePrices pr_mustTurn pr_badClosings x1 x2 t1 = some r) (hZ : St D A s (wd_Prices_fillMoves kc ad su_lines su_length su_perNote su_above su_numbers su_on su_given pr_size pr_total pr_perNote pr_mostAlike pr_pitches pr_movePrices pr_mustTurn pr_badClosings) H locs) (hl : lv_has ls 5 [(0, .ref (ad 13)), (1, .int x1), (2, .int x2)]) : W p l e rm_Prices_fillMoves s m args below meth c H locs 0 0 (MQ below (Qv D A (wd_Prices_fillMoves kc ad su_lines su_length su_perNote su_above su_numbers su_on su_given pr_size pr_total pr_perNote pr_mostAlike pr_pitches r.1 r.2.1 r.2.2)) args s 0 0 A) (F0 m 198 ls [.int t1, .ref (ad 19)]) := by
  obtain ⟨hx, hb, hr, hts, hown, hml, hlocks, hK, hN, hA, hX⟩ := id C
  obtain ⟨hP, hD, hS⟩ := hZ
  unfold m_Prices_fillMoves_198 at hm
  refine lv_iconst (v := 0) hx hb d_Prices_fillMoves_198 (by decide) ?_
  exact l_Prices_fillMoves_199 C hk2 hk12 hm ⟨hP, hD, hS⟩ (lv_sub hl [0, 1, 2] rfl)
def m_Prices_fillMoves_147 (F : Nat) (su_perNote : Int32) (su_numbers : Nat → Int32) (su_on : Nat → Int32) (su_given : Nat → Nat → Int32) (pr_size : Int32) (pr_total : Int32) (pr_pitches : Nat → Int32) (k2 : (Nat → Int32) → (Nat → Int32) → (Nat → Int32) → Int32 → Option ((Nat → Int32) × (Nat → Int32) × (Nat → Int32))) (k12 : (Nat → Int32) → (Nat → Int32) → (Nat → Int32) → Int32 → Int32 → Option ((Nat → Int32) × (Nat → Int32) × (Nat → Int32))) (pr_movePrices : Nat → Int32) (pr_mustTurn : Nat → Int32) (pr_badClosings : Nat → Int32) (x1 : Int32) (x2 : Int32) (x3 : Int32) (t1 : Int32) (t2 : Int32) : Option ((Nat → Int32) × (Nat → Int32) × (Nat → Int32)) :=
  (gd t1 64 (if (su_on (Int32.toNatClampNeg (9 : Int32))) = (0 : Int32) then
    m_Prices_fillMoves_198 F su_perNote su_numbers su_on su_given pr_size pr_total pr_pitches k2 k12 pr_movePrices (upd pr_mustTurn (Int32.toNatClampNeg t1) (vp_nar .boolean t2)) pr_badClosings x1 x2 x3
  else
    (gd x1 8 (gd x2 8 (bd (m_Rules_isBadClosing su_perNote su_numbers su_given (pr_total - (1 : Int32)) (pr_pitches (Int32.toNatClampNeg x1)) (pr_pitches (Int32.toNatClampNeg x2))) (fun u5 => (if u5 = (0 : Int32) then
      m_Prices_fillMoves_198 F su_perNote su_numbers su_on su_given pr_size pr_total pr_pitches k2 k12 pr_movePrices (upd pr_mustTurn (Int32.toNatClampNeg t1) (vp_nar .boolean t2)) pr_badClosings x1 x2 x3
    else
      m_Prices_fillMoves_199 F su_perNote su_numbers su_on su_given pr_size pr_total pr_pitches k2 k12 pr_movePrices (upd pr_mustTurn (Int32.toNatClampNeg t1) (vp_nar .boolean t2)) pr_badClosings x1 x2 x3 (1 : Int32))))))))
set_option maxHeartbeats 4000000 in
set_option maxRecDepth 100000 in
theorem l_Prices_fillMoves_147 {r : (Nat → Int32) × (Nat → Int32) × (Nat → Int32)} {F : Nat} {ad : Nat → Nat} {su_lines : Int32} {su_length : Int32} {su_perNote : Int32} {su_above : Int32} {su_numbers : Nat → Int32} {su_on : Nat → Int32} {su_given : Nat → Nat → Int32} {pr_size : Int32} {pr_total : Int32} {pr_perNote : Int32} {pr_mostAlike : Int32} {pr_pitches : Nat → Int32} {pr_movePrices : Nat → Int32} {pr_mustTurn : Nat → Int32} {pr_badClosings : Nat → Int32} {k2 : (Nat → Int32) → (Nat → Int32) → (Nat → Int32) → Int32 → Option ((Nat → Int32) × (Nat → Int32) × (Nat → Int32))} {k12 : (Nat → Int32) → (Nat → Int32) → (Nat → Int32) → Int32 → Int32 → Option ((Nat → Int32) × (Nat → Int32) × (Nat → Int32))} {x1 : Int32} {x2 : Int32} {x3 : Int32} {t1 : Int32} {t2 : Int32} {H : Heap} {locs : List Loc} {ls : Array Slot} (C : Cx p s m meth c args A D kc R_Prices b_Prices_fillMoves 5 none) (hk2 : (∀ (pr_movePrices : Nat → Int32) (pr_mustTurn : Nat → Int32) (pr_badClosings : Nat → Int32) (x1 : Int32) (H : Heap) (locs : List Loc) (ls : Array Slot), k2 pr_movePrices pr_mustTurn pr_badClosings x1 = some r → St D A s (wd_Prices_fillMoves kc ad su_lines su_length su_perNote su_above su_numbers su_on su_given pr_size pr_total pr_perNote pr_mostAlike pr_pitches pr_movePrices pr_mustTurn pr_badClosings) H locs → lv_has ls 5 [(0, .ref (ad 13)), (1, .int x1)] → W p l e rm_Prices_fillMoves s m args below meth c H locs 0 0 (MQ below (Qv D A (wd_Prices_fillMoves kc ad su_lines su_length su_perNote su_above su_numbers su_on su_given pr_size pr_total pr_perNote pr_mostAlike pr_pitches r.1 r.2.1 r.2.2)) args s 0 0 A) (F0 m 2 ls []))) (hk12 : (∀ (pr_movePrices : Nat → Int32) (pr_mustTurn : Nat → Int32) (pr_badClosings : Nat → Int32) (x1 : Int32) (x2 : Int32) (H : Heap) (locs : List Loc) (ls : Array Slot), k12 pr_movePrices pr_mustTurn pr_badClosings x1 x2 = some r → St D A s (wd_Prices_fillMoves kc ad su_lines su_length su_perNote su_above su_numbers su_on su_given pr_size pr_total pr_perNote pr_mostAlike pr_pitches pr_movePrices pr_mustTurn pr_badClosings) H locs → lv_has ls 5 [(0, .ref (ad 13)), (1, .int x1), (2, .int x2)] → W p l e rm_Prices_fillMoves s m args below meth c H locs 0 0 (MQ below (Qv D A (wd_Prices_fillMoves kc ad su_lines su_length su_perNote su_above su_numbers su_on su_given pr_size pr_total pr_perNote pr_mostAlike pr_pitches r.1 r.2.1 r.2.2)) args s 0 0 A) (F0 m 12 ls []))) (hm : m_Prices_fillMoves_147 F su_perNote su_numbers su_on su_given pr_size pr_total pr_pitches k2 k12 pr_movePrices pr_mustTurn pr_badClosings x1 x2 x3 t1 t2 = some r) (hZ : St D A s (wd_Prices_fillMoves kc ad su_lines su_length su_perNote su_above su_numbers su_on su_given pr_size pr_total pr_perNote pr_mostAlike pr_pitches pr_movePrices pr_mustTurn pr_badClosings) H locs) (hl : lv_has ls 5 [(0, .ref (ad 13)), (1, .int x1), (2, .int x2), (3, .int x3)]) : W p l e rm_Prices_fillMoves s m args below meth c H locs 0 0 (MQ below (Qv D A (wd_Prices_fillMoves kc ad su_lines su_length su_perNote su_above su_numbers su_on su_given pr_size pr_total pr_perNote pr_mostAlike pr_pitches r.1 r.2.1 r.2.2)) args s 0 0 A) (F0 m 147 ls [.int t2, .int t1, .ref (ad 18)]) := by
  obtain ⟨hx, hb, hr, hts, hown, hml, hlocks, hK, hN, hA, hX⟩ := id C
  obtain ⟨hP, hD, hS⟩ := hZ
  unfold m_Prices_fillMoves_147 at hm
  obtain ⟨hi1, hm⟩ := gd_some hm
  refine va_zast hx hb hK hP hD hS 11 1 rfl rfl hi1 d_Prices_fillMoves_147 (fun H locs hP hD hS => ?_)
  replace hP : va_P D vwCl (wd_Prices_fillMoves kc ad su_lines su_length su_perNote su_above su_numbers su_on su_given pr_size pr_total pr_perNote pr_mostAlike pr_pitches pr_movePrices (upd pr_mustTurn (Int32.toNatClampNeg t1) (vp_nar .boolean t2)) pr_badClosings) H := hP
  replace hD : va_D A (wd_Prices_fillMoves kc ad su_lines su_length su_perNote su_above su_numbers su_on su_given pr_size pr_total pr_perNote pr_mostAlike pr_pitches pr_movePrices (upd pr_mustTurn (Int32.toNatClampNeg t1) (vp_nar .boolean t2)) pr_badClosings) := hD
  refine lv_aload_n hx hb d_Prices_fillMoves_148 rfl (lv_at hl 0 rfl) ?_
  refine va_get (D := D) (ci := 4) (v := .ref (ad 19)) (C := R_Prices) (T := T_Prices) (N := 15) hx hb hts inG_Prices hown hK hP 8 rfl rfl 7 (by decide) (hts _ gw_258) (fun _ h9 => h9) rfl d_Prices_fillMoves_149 ?_
  refine lv_iload_n hx hb d_Prices_fillMoves_152 rfl (lv_at hl 3 rfl) ?_
  refine lv_aload_n hx hb d_Prices_fillMoves_153 rfl (lv_at hl 0 rfl) ?_
  refine va_get (D := D) (ci := 4) (v := .ref (ad 1)) (C := R_Prices) (T := T_Prices) (N := 15) hx hb hts inG_Prices hown hK hP 8 rfl rfl 0 (by decide) (hts _ gw_248) (fun _ h9 => h9) rfl d_Prices_fillMoves_154 ?_
  refine va_getN (D := D) (ci := 7) (v := .ref (ad 3)) (C := R_Setup) (T := T_Setup) (N := 7) hx hb hts inG_Setup hown hK hP 0 rfl rfl 1 (by decide) (va_Nw.use rfl (hN _ nw_165)) (fun _ h9 => h9) rfl d_Prices_fillMoves_157 ?_
  refine lv_bipush (v := 9) hx hb d_Prices_fillMoves_160 (by decide) ?_
  refine va_zald hx hb hK hP 2 1 rfl rfl (in_lit (by decide)) d_Prices_fillMoves_162 ?_
  refine lv_if_eq (tgt := 198) hx hb d_Prices_fillMoves_163 (by decide) (fun c2 => ?_) (fun c2 => ?_)
  · replace hm := ifT hm c2
    exact l_Prices_fillMoves_198 C hk2 hk12 hm ⟨hP, hD, hS⟩ (lv_sub hl [0, 1, 2] rfl)
  · replace hm := ifF hm c2
    refine lv_aload_n hx hb d_Prices_fillMoves_166 rfl (lv_at hl 0 rfl) ?_
    refine va_get (D := D) (ci := 4) (v := .ref (ad 8)) (C := R_Prices) (T := T_Prices) (N := 15) hx hb hts inG_Prices hown hK hP 8 rfl rfl 1 (by decide) (hts _ gw_249) (fun _ h9 => h9) rfl d_Prices_fillMoves_167 ?_
    refine lv_aload_n hx hb d_Prices_fillMoves_170 rfl (lv_at hl 0 rfl) ?_
    refine va_get (D := D) (ci := 4) (v := .int pr_total) (C := R_Prices) (T := T_Prices) (N := 15) hx hb hts inG_Prices hown hK hP 8 rfl rfl 12 (by decide) (hts _ gw_265) (fun _ h9 => h9) rfl d_Prices_fillMoves_171 ?_
    refine lv_iconst (v := 1) hx hb d_Prices_fillMoves_174 (by decide) ?_
    refine lv_isub hx hb d_Prices_fillMoves_175 ?_
    refine lv_aload_n hx hb d_Prices_fillMoves_176 rfl (lv_at hl 0 rfl) ?_
    refine va_get (D := D) (ci := 4) (v := .ref (ad 14)) (C := R_Prices) (T := T_Prices) (N := 15) hx hb hts inG_Prices hown hK hP 8 rfl rfl 2 (by decide) (hts _ gw_250) (fun _ h9 => h9) rfl d_Prices_fillMoves_177 ?_
    refine lv_iload_n hx hb d_Prices_fillMoves_180 rfl (lv_at hl 1 rfl) ?_
    obtain ⟨hi3, hm⟩ := gd_some hm
    refine va_iald hx hb hK hP 9 0 rfl rfl hi3 d_Prices_fillMoves_181 ?_
    refine lv_aload_n hx hb d_Prices_fillMoves_182 rfl (lv_at hl 0 rfl) ?_
    refine va_get (D := D) (ci := 4) (v := .ref (ad 14)) (C := R_Prices) (T := T_Prices) (N := 15) hx hb hts inG_Prices hown hK hP 8 rfl rfl 2 (by decide) (hts _ gw_250) (fun _ h9 => h9) rfl d_Prices_fillMoves_183 ?_
    refine lv_iload_n hx hb d_Prices_fillMoves_186 rfl (lv_at hl 2 rfl) ?_
    obtain ⟨hi4, hm⟩ := gd_some hm
    refine va_iald hx hb hK hP 9 0 rfl rfl hi4 d_Prices_fillMoves_187 ?_
    obtain ⟨u5, hc6, hm⟩ := bd_some hm
    refine zVN_i (n := 3) (wr := [((ad 3), .inl (kc 1, 11, .inl su_on)), ((ad 13), .inr (4, [.ref (ad 1), .ref (ad 8), .ref (ad 14), .ref (ad 15), .ref (ad 16), .ref (ad 17), .ref (ad 18), .ref (ad 19), .ref (ad 20), .ref (ad 21), .ref (ad 22), .int pr_size, .int pr_total, .int pr_perNote, .int pr_mostAlike])), ((ad 14), .inl (kc 0, 8, .inl pr_pitches)), ((ad 17), .inl (kc 0, 64, .inl pr_movePrices)), ((ad 18), .inl (kc 1, 64, .inl (upd pr_mustTurn (Int32.toNatClampNeg t1) (vp_nar .boolean t2)))), ((ad 19), .inl (kc 1, 64, .inl pr_badClosings))]) (w1 := (wd_Rules_isBadClosing kc ad su_lines su_length su_perNote su_above su_numbers su_given)) (ws1 := (wd_Prices_fillMoves kc ad su_lines su_length su_perNote su_above su_numbers su_on su_given pr_size pr_total pr_perNote pr_mostAlike pr_pitches pr_movePrices (upd pr_mustTurn (Int32.toNatClampNeg t1) (vp_nar .boolean t2)) pr_badClosings)) (As := [.int (pr_total - (1 : Int32)), .int (pr_pitches (Int32.toNatClampNeg x1)), .int (pr_pitches (Int32.toNatClampNeg x2))]) (rest := [.int x3, .ref (ad 19)]) (ci := 5) (q0 := 6) (y := y_Rules_isBadClosing) (host := "SpeciesSolver") ⟨hx, hb, hml, hown, hts⟩ (fun sz => c_Rules_isBadClosing hc6 sz) gw_562 (hN _ nw_559) gw_561 gw_26 gw_114 hd_Rules_isBadClosing ⟨Nat.le_of_ble_eq_true rfl, Nat.le_of_ble_eq_true rfl⟩ ⟨rfl, rfl⟩ ⟨Nat.zero_le _, Nat.zero_le _⟩ hK hN hP hD hS hA hX [0, 1, 3, 4, 5, 6, 7] [2, 8, 9, 10, 11, 12] [6, 7, 0, 8, 9, 10, 11, 12, 1, 2, 3, 4, 5] rfl rfl (by decide) (by decide) (by decide) rfl (by decide) rfl rfl rfl hl.1 rfl (Nat.le_of_ble_eq_true rfl) d_Prices_fillMoves_188 (fun H locs hP hD hS => ?_)
    refine lv_if_eq (tgt := 198) hx hb d_Prices_fillMoves_191 (by decide) (fun c7 => ?_) (fun c7 => ?_)
    · replace hm := ifT hm c7
      exact l_Prices_fillMoves_198 C hk2 hk12 hm ⟨hP, hD, hS⟩ (lv_sub hl [0, 1, 2] rfl)
    · replace hm := ifF hm c7
      refine lv_iconst (v := 1) hx hb d_Prices_fillMoves_194 (by decide) ?_
      refine lv_goto (tgt := 199) hx hb d_Prices_fillMoves_195 (by decide) ?_
      exact l_Prices_fillMoves_199 C hk2 hk12 hm ⟨hP, hD, hS⟩ (lv_sub hl [0, 1, 2] rfl)
def m_Prices_fillMoves_146 (F : Nat) (su_perNote : Int32) (su_numbers : Nat → Int32) (su_on : Nat → Int32) (su_given : Nat → Nat → Int32) (pr_size : Int32) (pr_total : Int32) (pr_pitches : Nat → Int32) (k2 : (Nat → Int32) → (Nat → Int32) → (Nat → Int32) → Int32 → Option ((Nat → Int32) × (Nat → Int32) × (Nat → Int32))) (k12 : (Nat → Int32) → (Nat → Int32) → (Nat → Int32) → Int32 → Int32 → Option ((Nat → Int32) × (Nat → Int32) × (Nat → Int32))) (pr_movePrices : Nat → Int32) (pr_mustTurn : Nat → Int32) (pr_badClosings : Nat → Int32) (x1 : Int32) (x2 : Int32) (x3 : Int32) (t1 : Int32) : Option ((Nat → Int32) × (Nat → Int32) × (Nat → Int32)) :=
  m_Prices_fillMoves_147 F su_perNote su_numbers su_on su_given pr_size pr_total pr_pitches k2 k12 pr_movePrices pr_mustTurn pr_badClosings x1 x2 x3 t1 (0 : Int32)
set_option maxHeartbeats 4000000 in
set_option maxRecDepth 100000 in
theorem l_Prices_fillMoves_146 {r : (Nat → Int32) × (Nat → Int32) × (Nat → Int32)} {F : Nat} {ad : Nat → Nat} {su_lines : Int32} {su_length : Int32} {su_perNote : Int32} {su_above : Int32} {su_numbers : Nat → Int32} {su_on : Nat → Int32} {su_given : Nat → Nat → Int32} {pr_size : Int32} {pr_total : Int32} {pr_perNote : Int32} {pr_mostAlike : Int32} {pr_pitches : Nat → Int32} {pr_movePrices : Nat → Int32} {pr_mustTurn : Nat → Int32} {pr_badClosings : Nat → Int32} {k2 : (Nat → Int32) → (Nat → Int32) → (Nat → Int32) → Int32 → Option ((Nat → Int32) × (Nat → Int32) × (Nat → Int32))} {k12 : (Nat → Int32) → (Nat → Int32) → (Nat → Int32) → Int32 → Int32 → Option ((Nat → Int32) × (Nat → Int32) × (Nat → Int32))} {x1 : Int32} {x2 : Int32} {x3 : Int32} {t1 : Int32} {H : Heap} {locs : List Loc} {ls : Array Slot} (C : Cx p s m meth c args A D kc R_Prices b_Prices_fillMoves 5 none) (hk2 : (∀ (pr_movePrices : Nat → Int32) (pr_mustTurn : Nat → Int32) (pr_badClosings : Nat → Int32) (x1 : Int32) (H : Heap) (locs : List Loc) (ls : Array Slot), k2 pr_movePrices pr_mustTurn pr_badClosings x1 = some r → St D A s (wd_Prices_fillMoves kc ad su_lines su_length su_perNote su_above su_numbers su_on su_given pr_size pr_total pr_perNote pr_mostAlike pr_pitches pr_movePrices pr_mustTurn pr_badClosings) H locs → lv_has ls 5 [(0, .ref (ad 13)), (1, .int x1)] → W p l e rm_Prices_fillMoves s m args below meth c H locs 0 0 (MQ below (Qv D A (wd_Prices_fillMoves kc ad su_lines su_length su_perNote su_above su_numbers su_on su_given pr_size pr_total pr_perNote pr_mostAlike pr_pitches r.1 r.2.1 r.2.2)) args s 0 0 A) (F0 m 2 ls []))) (hk12 : (∀ (pr_movePrices : Nat → Int32) (pr_mustTurn : Nat → Int32) (pr_badClosings : Nat → Int32) (x1 : Int32) (x2 : Int32) (H : Heap) (locs : List Loc) (ls : Array Slot), k12 pr_movePrices pr_mustTurn pr_badClosings x1 x2 = some r → St D A s (wd_Prices_fillMoves kc ad su_lines su_length su_perNote su_above su_numbers su_on su_given pr_size pr_total pr_perNote pr_mostAlike pr_pitches pr_movePrices pr_mustTurn pr_badClosings) H locs → lv_has ls 5 [(0, .ref (ad 13)), (1, .int x1), (2, .int x2)] → W p l e rm_Prices_fillMoves s m args below meth c H locs 0 0 (MQ below (Qv D A (wd_Prices_fillMoves kc ad su_lines su_length su_perNote su_above su_numbers su_on su_given pr_size pr_total pr_perNote pr_mostAlike pr_pitches r.1 r.2.1 r.2.2)) args s 0 0 A) (F0 m 12 ls []))) (hm : m_Prices_fillMoves_146 F su_perNote su_numbers su_on su_given pr_size pr_total pr_pitches k2 k12 pr_movePrices pr_mustTurn pr_badClosings x1 x2 x3 t1 = some r) (hZ : St D A s (wd_Prices_fillMoves kc ad su_lines su_length su_perNote su_above su_numbers su_on su_given pr_size pr_total pr_perNote pr_mostAlike pr_pitches pr_movePrices pr_mustTurn pr_badClosings) H locs) (hl : lv_has ls 5 [(0, .ref (ad 13)), (1, .int x1), (2, .int x2), (3, .int x3)]) : W p l e rm_Prices_fillMoves s m args below meth c H locs 0 0 (MQ below (Qv D A (wd_Prices_fillMoves kc ad su_lines su_length su_perNote su_above su_numbers su_on su_given pr_size pr_total pr_perNote pr_mostAlike pr_pitches r.1 r.2.1 r.2.2)) args s 0 0 A) (F0 m 146 ls [.int t1, .ref (ad 18)]) := by
  obtain ⟨hx, hb, hr, hts, hown, hml, hlocks, hK, hN, hA, hX⟩ := id C
  obtain ⟨hP, hD, hS⟩ := hZ
  unfold m_Prices_fillMoves_146 at hm
  refine lv_iconst (v := 0) hx hb d_Prices_fillMoves_146 (by decide) ?_
  exact l_Prices_fillMoves_147 C hk2 hk12 hm ⟨hP, hD, hS⟩ (lv_sub hl [0, 1, 2, 3] rfl)
def m_Prices_fillMoves_101 (F : Nat) (su_perNote : Int32) (su_numbers : Nat → Int32) (su_on : Nat → Int32) (su_given : Nat → Nat → Int32) (pr_size : Int32) (pr_total : Int32) (pr_pitches : Nat → Int32) (k2 : (Nat → Int32) → (Nat → Int32) → (Nat → Int32) → Int32 → Option ((Nat → Int32) × (Nat → Int32) × (Nat → Int32))) (k12 : (Nat → Int32) → (Nat → Int32) → (Nat → Int32) → Int32 → Int32 → Option ((Nat → Int32) × (Nat → Int32) × (Nat → Int32))) (pr_movePrices : Nat → Int32) (pr_mustTurn : Nat → Int32) (pr_badClosings : Nat → Int32) (x1 : Int32) (x2 : Int32) (x3 : Int32) (t1 : Int32) (t2 : Int32) : Option ((Nat → Int32) × (Nat → Int32) × (Nat → Int32)) :=
  (gd t1 64 (if (su_on (Int32.toNatClampNeg (6 : Int32))) = (0 : Int32) then
    m_Prices_fillMoves_146 F su_perNote su_numbers su_on su_given pr_size pr_total pr_pitches k2 k12 (upd pr_movePrices (Int32.toNatClampNeg t1) t2) pr_mustTurn pr_badClosings x1 x2 x3 x3
  else
    (gd x1 8 (gd x2 8 (bd (m_Rules_mustTurn su_numbers (pr_pitches (Int32.toNatClampNeg x1)) (pr_pitches (Int32.toNatClampNeg x2))) (fun u5 => (if u5 = (0 : Int32) then
      m_Prices_fillMoves_146 F su_perNote su_numbers su_on su_given pr_size pr_total pr_pitches k2 k12 (upd pr_movePrices (Int32.toNatClampNeg t1) t2) pr_mustTurn pr_badClosings x1 x2 x3 x3
    else
      m_Prices_fillMoves_147 F su_perNote su_numbers su_on su_given pr_size pr_total pr_pitches k2 k12 (upd pr_movePrices (Int32.toNatClampNeg t1) t2) pr_mustTurn pr_badClosings x1 x2 x3 x3 (1 : Int32))))))))
set_option maxHeartbeats 4000000 in
set_option maxRecDepth 100000 in
theorem l_Prices_fillMoves_101 {r : (Nat → Int32) × (Nat → Int32) × (Nat → Int32)} {F : Nat} {ad : Nat → Nat} {su_lines : Int32} {su_length : Int32} {su_perNote : Int32} {su_above : Int32} {su_numbers : Nat → Int32} {su_on : Nat → Int32} {su_given : Nat → Nat → Int32} {pr_size : Int32} {pr_total : Int32} {pr_perNote : Int32} {pr_mostAlike : Int32} {pr_pitches : Nat → Int32} {pr_movePrices : Nat → Int32} {pr_mustTurn : Nat → Int32} {pr_badClosings : Nat → Int32} {k2 : (Nat → Int32) → (Nat → Int32) → (Nat → Int32) → Int32 → Option ((Nat → Int32) × (Nat → Int32) × (Nat → Int32))} {k12 : (Nat → Int32) → (Nat → Int32) → (Nat → Int32) → Int32 → Int32 → Option ((Nat → Int32) × (Nat → Int32) × (Nat → Int32))} {x1 : Int32} {x2 : Int32} {x3 : Int32} {t1 : Int32} {t2 : Int32} {H : Heap} {locs : List Loc} {ls : Array Slot} (C : Cx p s m meth c args A D kc R_Prices b_Prices_fillMoves 5 none) (hk2 : (∀ (pr_movePrices : Nat → Int32) (pr_mustTurn : Nat → Int32) (pr_badClosings : Nat → Int32) (x1 : Int32) (H : Heap) (locs : List Loc) (ls : Array Slot), k2 pr_movePrices pr_mustTurn pr_badClosings x1 = some r → St D A s (wd_Prices_fillMoves kc ad su_lines su_length su_perNote su_above su_numbers su_on su_given pr_size pr_total pr_perNote pr_mostAlike pr_pitches pr_movePrices pr_mustTurn pr_badClosings) H locs → lv_has ls 5 [(0, .ref (ad 13)), (1, .int x1)] → W p l e rm_Prices_fillMoves s m args below meth c H locs 0 0 (MQ below (Qv D A (wd_Prices_fillMoves kc ad su_lines su_length su_perNote su_above su_numbers su_on su_given pr_size pr_total pr_perNote pr_mostAlike pr_pitches r.1 r.2.1 r.2.2)) args s 0 0 A) (F0 m 2 ls []))) (hk12 : (∀ (pr_movePrices : Nat → Int32) (pr_mustTurn : Nat → Int32) (pr_badClosings : Nat → Int32) (x1 : Int32) (x2 : Int32) (H : Heap) (locs : List Loc) (ls : Array Slot), k12 pr_movePrices pr_mustTurn pr_badClosings x1 x2 = some r → St D A s (wd_Prices_fillMoves kc ad su_lines su_length su_perNote su_above su_numbers su_on su_given pr_size pr_total pr_perNote pr_mostAlike pr_pitches pr_movePrices pr_mustTurn pr_badClosings) H locs → lv_has ls 5 [(0, .ref (ad 13)), (1, .int x1), (2, .int x2)] → W p l e rm_Prices_fillMoves s m args below meth c H locs 0 0 (MQ below (Qv D A (wd_Prices_fillMoves kc ad su_lines su_length su_perNote su_above su_numbers su_on su_given pr_size pr_total pr_perNote pr_mostAlike pr_pitches r.1 r.2.1 r.2.2)) args s 0 0 A) (F0 m 12 ls []))) (hm : m_Prices_fillMoves_101 F su_perNote su_numbers su_on su_given pr_size pr_total pr_pitches k2 k12 pr_movePrices pr_mustTurn pr_badClosings x1 x2 x3 t1 t2 = some r) (hZ : St D A s (wd_Prices_fillMoves kc ad su_lines su_length su_perNote su_above su_numbers su_on su_given pr_size pr_total pr_perNote pr_mostAlike pr_pitches pr_movePrices pr_mustTurn pr_badClosings) H locs) (hl : lv_has ls 5 [(0, .ref (ad 13)), (1, .int x1), (2, .int x2), (3, .int x3)]) : W p l e rm_Prices_fillMoves s m args below meth c H locs 0 0 (MQ below (Qv D A (wd_Prices_fillMoves kc ad su_lines su_length su_perNote su_above su_numbers su_on su_given pr_size pr_total pr_perNote pr_mostAlike pr_pitches r.1 r.2.1 r.2.2)) args s 0 0 A) (F0 m 101 ls [.int t2, .int t1, .ref (ad 17)]) := by
  obtain ⟨hx, hb, hr, hts, hown, hml, hlocks, hK, hN, hA, hX⟩ := id C
  obtain ⟨hP, hD, hS⟩ := hZ
  unfold m_Prices_fillMoves_101 at hm
  obtain ⟨hi1, hm⟩ := gd_some hm
  refine va_iast hx hb hK hP hD hS 10 0 rfl rfl hi1 d_Prices_fillMoves_101 (fun H locs hP hD hS => ?_)
  replace hP : va_P D vwCl (wd_Prices_fillMoves kc ad su_lines su_length su_perNote su_above su_numbers su_on su_given pr_size pr_total pr_perNote pr_mostAlike pr_pitches (upd pr_movePrices (Int32.toNatClampNeg t1) t2) pr_mustTurn pr_badClosings) H := hP
  replace hD : va_D A (wd_Prices_fillMoves kc ad su_lines su_length su_perNote su_above su_numbers su_on su_given pr_size pr_total pr_perNote pr_mostAlike pr_pitches (upd pr_movePrices (Int32.toNatClampNeg t1) t2) pr_mustTurn pr_badClosings) := hD
  refine lv_aload_n hx hb d_Prices_fillMoves_102 rfl (lv_at hl 0 rfl) ?_
  refine va_get (D := D) (ci := 4) (v := .ref (ad 18)) (C := R_Prices) (T := T_Prices) (N := 15) hx hb hts inG_Prices hown hK hP 8 rfl rfl 6 (by decide) (hts _ gw_257) (fun _ h9 => h9) rfl d_Prices_fillMoves_103 ?_
  refine lv_iload_n hx hb d_Prices_fillMoves_106 rfl (lv_at hl 3 rfl) ?_
  refine lv_aload_n hx hb d_Prices_fillMoves_107 rfl (lv_at hl 0 rfl) ?_
  refine va_get (D := D) (ci := 4) (v := .ref (ad 1)) (C := R_Prices) (T := T_Prices) (N := 15) hx hb hts inG_Prices hown hK hP 8 rfl rfl 0 (by decide) (hts _ gw_248) (fun _ h9 => h9) rfl d_Prices_fillMoves_108 ?_
  refine va_getN (D := D) (ci := 7) (v := .ref (ad 3)) (C := R_Setup) (T := T_Setup) (N := 7) hx hb hts inG_Setup hown hK hP 0 rfl rfl 1 (by decide) (va_Nw.use rfl (hN _ nw_165)) (fun _ h9 => h9) rfl d_Prices_fillMoves_111 ?_
  refine lv_bipush (v := 6) hx hb d_Prices_fillMoves_114 (by decide) ?_
  refine va_zald hx hb hK hP 2 1 rfl rfl (in_lit (by decide)) d_Prices_fillMoves_116 ?_
  refine lv_if_eq (tgt := 146) hx hb d_Prices_fillMoves_117 (by decide) (fun c2 => ?_) (fun c2 => ?_)
  · replace hm := ifT hm c2
    exact l_Prices_fillMoves_146 C hk2 hk12 hm ⟨hP, hD, hS⟩ (lv_sub hl [0, 1, 2, 3] rfl)
  · replace hm := ifF hm c2
    refine lv_aload_n hx hb d_Prices_fillMoves_120 rfl (lv_at hl 0 rfl) ?_
    refine va_get (D := D) (ci := 4) (v := .ref (ad 8)) (C := R_Prices) (T := T_Prices) (N := 15) hx hb hts inG_Prices hown hK hP 8 rfl rfl 1 (by decide) (hts _ gw_249) (fun _ h9 => h9) rfl d_Prices_fillMoves_121 ?_
    refine lv_aload_n hx hb d_Prices_fillMoves_124 rfl (lv_at hl 0 rfl) ?_
    refine va_get (D := D) (ci := 4) (v := .ref (ad 14)) (C := R_Prices) (T := T_Prices) (N := 15) hx hb hts inG_Prices hown hK hP 8 rfl rfl 2 (by decide) (hts _ gw_250) (fun _ h9 => h9) rfl d_Prices_fillMoves_125 ?_
    refine lv_iload_n hx hb d_Prices_fillMoves_128 rfl (lv_at hl 1 rfl) ?_
    obtain ⟨hi3, hm⟩ := gd_some hm
    refine va_iald hx hb hK hP 9 0 rfl rfl hi3 d_Prices_fillMoves_129 ?_
    refine lv_aload_n hx hb d_Prices_fillMoves_130 rfl (lv_at hl 0 rfl) ?_
    refine va_get (D := D) (ci := 4) (v := .ref (ad 14)) (C := R_Prices) (T := T_Prices) (N := 15) hx hb hts inG_Prices hown hK hP 8 rfl rfl 2 (by decide) (hts _ gw_250) (fun _ h9 => h9) rfl d_Prices_fillMoves_131 ?_
    refine lv_iload_n hx hb d_Prices_fillMoves_134 rfl (lv_at hl 2 rfl) ?_
    obtain ⟨hi4, hm⟩ := gd_some hm
    refine va_iald hx hb hK hP 9 0 rfl rfl hi4 d_Prices_fillMoves_135 ?_
    obtain ⟨u5, hc6, hm⟩ := bd_some hm
    refine zVN_i (n := 2) (wr := [((ad 3), .inl (kc 1, 11, .inl su_on)), ((ad 4), .inl (kc 3, 3, .inr (.inr (.inr (.inr (fun i => if i < 3 then some (ad (5 + i)) else none)))))), ((ad 5), .inl (kc 0, 12, .inl (su_given 0))), ((ad 6), .inl (kc 0, 12, .inl (su_given 1))), ((ad 7), .inl (kc 0, 12, .inl (su_given 2))), ((ad 13), .inr (4, [.ref (ad 1), .ref (ad 8), .ref (ad 14), .ref (ad 15), .ref (ad 16), .ref (ad 17), .ref (ad 18), .ref (ad 19), .ref (ad 20), .ref (ad 21), .ref (ad 22), .int pr_size, .int pr_total, .int pr_perNote, .int pr_mostAlike])), ((ad 14), .inl (kc 0, 8, .inl pr_pitches)), ((ad 17), .inl (kc 0, 64, .inl (upd pr_movePrices (Int32.toNatClampNeg t1) t2))), ((ad 18), .inl (kc 1, 64, .inl pr_mustTurn)), ((ad 19), .inl (kc 1, 64, .inl pr_badClosings))]) (w1 := (wd_Rules_mustTurn kc ad su_lines su_length su_perNote su_above su_numbers)) (ws1 := (wd_Prices_fillMoves kc ad su_lines su_length su_perNote su_above su_numbers su_on su_given pr_size pr_total pr_perNote pr_mostAlike pr_pitches (upd pr_movePrices (Int32.toNatClampNeg t1) t2) pr_mustTurn pr_badClosings)) (As := [.int (pr_pitches (Int32.toNatClampNeg x1)), .int (pr_pitches (Int32.toNatClampNeg x2))]) (rest := [.int x3, .ref (ad 18)]) (ci := 5) (q0 := 2) (y := y_Rules_mustTurn) (host := "SpeciesSolver") ⟨hx, hb, hml, hown, hts⟩ (fun sz => c_Rules_mustTurn hc6 sz) gw_558 (hN _ nw_555) gw_557 gw_25 gw_114 hd_Rules_mustTurn ⟨Nat.le_of_ble_eq_true rfl, Nat.le_of_ble_eq_true rfl⟩ ⟨rfl, rfl⟩ ⟨Nat.zero_le _, Nat.zero_le _⟩ hK hN hP hD hS hA hX [0, 1, 7] [2, 3, 4, 5, 6, 8, 9, 10, 11, 12] [10, 11, 0, 1, 2, 3, 4, 12, 5, 6, 7, 8, 9] rfl rfl (by decide) (by decide) (by decide) rfl (by decide) rfl rfl rfl hl.1 rfl (Nat.le_of_ble_eq_true rfl) d_Prices_fillMoves_136 (fun H locs hP hD hS => ?_)
    refine lv_if_eq (tgt := 146) hx hb d_Prices_fillMoves_139 (by decide) (fun c7 => ?_) (fun c7 => ?_)
    · replace hm := ifT hm c7
      exact l_Prices_fillMoves_146 C hk2 hk12 hm ⟨hP, hD, hS⟩ (lv_sub hl [0, 1, 2, 3] rfl)
    · replace hm := ifF hm c7
      refine lv_iconst (v := 1) hx hb d_Prices_fillMoves_142 (by decide) ?_
      refine lv_goto (tgt := 147) hx hb d_Prices_fillMoves_143 (by decide) ?_
      exact l_Prices_fillMoves_147 C hk2 hk12 hm ⟨hP, hD, hS⟩ (lv_sub hl [0, 1, 2, 3] rfl)
def m_Prices_fillMoves_66 (F : Nat) (su_perNote : Int32) (su_numbers : Nat → Int32) (su_on : Nat → Int32) (su_given : Nat → Nat → Int32) (pr_size : Int32) (pr_total : Int32) (pr_pitches : Nat → Int32) (k2 : (Nat → Int32) → (Nat → Int32) → (Nat → Int32) → Int32 → Option ((Nat → Int32) × (Nat → Int32) × (Nat → Int32))) (k12 : (Nat → Int32) → (Nat → Int32) → (Nat → Int32) → Int32 → Int32 → Option ((Nat → Int32) × (Nat → Int32) × (Nat → Int32))) (pr_movePrices : Nat → Int32) (pr_mustTurn : Nat → Int32) (pr_badClosings : Nat → Int32) (x1 : Int32) (x2 : Int32) (x3 : Int32) (t0 : Int32) : Option ((Nat → Int32) × (Nat → Int32) × (Nat → Int32)) :=
  (if t0 = (0 : Int32) then
    (gd x1 8 (gd x2 8 (bd (m_Rules_moveCost su_numbers (pr_pitches (Int32.toNatClampNeg x1)) (pr_pitches (Int32.toNatClampNeg x2))) (fun u4 => m_Prices_fillMoves_101 F su_perNote su_numbers su_on su_given pr_size pr_total pr_pitches k2 k12 pr_movePrices pr_mustTurn pr_badClosings x1 x2 x3 x3 u4))))
  else
    m_Prices_fillMoves_101 F su_perNote su_numbers su_on su_given pr_size pr_total pr_pitches k2 k12 pr_movePrices pr_mustTurn pr_badClosings x1 x2 x3 x3 (-1 : Int32))
set_option maxHeartbeats 4000000 in
set_option maxRecDepth 100000 in
theorem l_Prices_fillMoves_66 {r : (Nat → Int32) × (Nat → Int32) × (Nat → Int32)} {F : Nat} {ad : Nat → Nat} {su_lines : Int32} {su_length : Int32} {su_perNote : Int32} {su_above : Int32} {su_numbers : Nat → Int32} {su_on : Nat → Int32} {su_given : Nat → Nat → Int32} {pr_size : Int32} {pr_total : Int32} {pr_perNote : Int32} {pr_mostAlike : Int32} {pr_pitches : Nat → Int32} {pr_movePrices : Nat → Int32} {pr_mustTurn : Nat → Int32} {pr_badClosings : Nat → Int32} {k2 : (Nat → Int32) → (Nat → Int32) → (Nat → Int32) → Int32 → Option ((Nat → Int32) × (Nat → Int32) × (Nat → Int32))} {k12 : (Nat → Int32) → (Nat → Int32) → (Nat → Int32) → Int32 → Int32 → Option ((Nat → Int32) × (Nat → Int32) × (Nat → Int32))} {x1 : Int32} {x2 : Int32} {x3 : Int32} {t0 : Int32} {H : Heap} {locs : List Loc} {ls : Array Slot} (C : Cx p s m meth c args A D kc R_Prices b_Prices_fillMoves 5 none) (hk2 : (∀ (pr_movePrices : Nat → Int32) (pr_mustTurn : Nat → Int32) (pr_badClosings : Nat → Int32) (x1 : Int32) (H : Heap) (locs : List Loc) (ls : Array Slot), k2 pr_movePrices pr_mustTurn pr_badClosings x1 = some r → St D A s (wd_Prices_fillMoves kc ad su_lines su_length su_perNote su_above su_numbers su_on su_given pr_size pr_total pr_perNote pr_mostAlike pr_pitches pr_movePrices pr_mustTurn pr_badClosings) H locs → lv_has ls 5 [(0, .ref (ad 13)), (1, .int x1)] → W p l e rm_Prices_fillMoves s m args below meth c H locs 0 0 (MQ below (Qv D A (wd_Prices_fillMoves kc ad su_lines su_length su_perNote su_above su_numbers su_on su_given pr_size pr_total pr_perNote pr_mostAlike pr_pitches r.1 r.2.1 r.2.2)) args s 0 0 A) (F0 m 2 ls []))) (hk12 : (∀ (pr_movePrices : Nat → Int32) (pr_mustTurn : Nat → Int32) (pr_badClosings : Nat → Int32) (x1 : Int32) (x2 : Int32) (H : Heap) (locs : List Loc) (ls : Array Slot), k12 pr_movePrices pr_mustTurn pr_badClosings x1 x2 = some r → St D A s (wd_Prices_fillMoves kc ad su_lines su_length su_perNote su_above su_numbers su_on su_given pr_size pr_total pr_perNote pr_mostAlike pr_pitches pr_movePrices pr_mustTurn pr_badClosings) H locs → lv_has ls 5 [(0, .ref (ad 13)), (1, .int x1), (2, .int x2)] → W p l e rm_Prices_fillMoves s m args below meth c H locs 0 0 (MQ below (Qv D A (wd_Prices_fillMoves kc ad su_lines su_length su_perNote su_above su_numbers su_on su_given pr_size pr_total pr_perNote pr_mostAlike pr_pitches r.1 r.2.1 r.2.2)) args s 0 0 A) (F0 m 12 ls []))) (hm : m_Prices_fillMoves_66 F su_perNote su_numbers su_on su_given pr_size pr_total pr_pitches k2 k12 pr_movePrices pr_mustTurn pr_badClosings x1 x2 x3 t0 = some r) (hZ : St D A s (wd_Prices_fillMoves kc ad su_lines su_length su_perNote su_above su_numbers su_on su_given pr_size pr_total pr_perNote pr_mostAlike pr_pitches pr_movePrices pr_mustTurn pr_badClosings) H locs) (hl : lv_has ls 5 [(0, .ref (ad 13)), (1, .int x1), (2, .int x2), (3, .int x3)]) : W p l e rm_Prices_fillMoves s m args below meth c H locs 0 0 (MQ below (Qv D A (wd_Prices_fillMoves kc ad su_lines su_length su_perNote su_above su_numbers su_on su_given pr_size pr_total pr_perNote pr_mostAlike pr_pitches r.1 r.2.1 r.2.2)) args s 0 0 A) (F0 m 66 ls [.int t0]) := by
  obtain ⟨hx, hb, hr, hts, hown, hml, hlocks, hK, hN, hA, hX⟩ := id C
  obtain ⟨hP, hD, hS⟩ := hZ
  unfold m_Prices_fillMoves_66 at hm
  refine lv_istore (lv' := [(4, .int t0), (0, .ref (ad 13)), (1, .int x1), (2, .int x2), (3, .int x3)]) hx hb d_Prices_fillMoves_66 hl (by decide) rfl (fun ls hl => ?_)
  refine lv_aload_n hx hb d_Prices_fillMoves_68 rfl (lv_at hl 1 rfl) ?_
  refine va_get (D := D) (ci := 4) (v := .ref (ad 17)) (C := R_Prices) (T := T_Prices) (N := 15) hx hb hts inG_Prices hown hK hP 8 rfl rfl 5 (by decide) (hts _ gw_255) (fun _ h9 => h9) rfl d_Prices_fillMoves_69 ?_
  refine lv_iload_n hx hb d_Prices_fillMoves_72 rfl (lv_at hl 4 rfl) ?_
  refine lv_iload hx hb d_Prices_fillMoves_73 (lv_at hl 0 rfl) ?_
  refine lv_if_eq (tgt := 82) hx hb d_Prices_fillMoves_75 (by decide) (fun c1 => ?_) (fun c1 => ?_)
  · replace hm := ifT hm c1
    refine lv_aload_n hx hb d_Prices_fillMoves_82 rfl (lv_at hl 1 rfl) ?_
    refine va_get (D := D) (ci := 4) (v := .ref (ad 8)) (C := R_Prices) (T := T_Prices) (N := 15) hx hb hts inG_Prices hown hK hP 8 rfl rfl 1 (by decide) (hts _ gw_249) (fun _ h9 => h9) rfl d_Prices_fillMoves_83 ?_
    refine lv_aload_n hx hb d_Prices_fillMoves_86 rfl (lv_at hl 1 rfl) ?_
    refine va_get (D := D) (ci := 4) (v := .ref (ad 14)) (C := R_Prices) (T := T_Prices) (N := 15) hx hb hts inG_Prices hown hK hP 8 rfl rfl 2 (by decide) (hts _ gw_250) (fun _ h9 => h9) rfl d_Prices_fillMoves_87 ?_
    refine lv_iload_n hx hb d_Prices_fillMoves_90 rfl (lv_at hl 2 rfl) ?_
    obtain ⟨hi2, hm⟩ := gd_some hm
    refine va_iald hx hb hK hP 9 0 rfl rfl hi2 d_Prices_fillMoves_91 ?_
    refine lv_aload_n hx hb d_Prices_fillMoves_92 rfl (lv_at hl 1 rfl) ?_
    refine va_get (D := D) (ci := 4) (v := .ref (ad 14)) (C := R_Prices) (T := T_Prices) (N := 15) hx hb hts inG_Prices hown hK hP 8 rfl rfl 2 (by decide) (hts _ gw_250) (fun _ h9 => h9) rfl d_Prices_fillMoves_93 ?_
    refine lv_iload_n hx hb d_Prices_fillMoves_96 rfl (lv_at hl 3 rfl) ?_
    obtain ⟨hi3, hm⟩ := gd_some hm
    refine va_iald hx hb hK hP 9 0 rfl rfl hi3 d_Prices_fillMoves_97 ?_
    obtain ⟨u4, hc5, hm⟩ := bd_some hm
    refine zVN_i (n := 2) (wr := [((ad 3), .inl (kc 1, 11, .inl su_on)), ((ad 4), .inl (kc 3, 3, .inr (.inr (.inr (.inr (fun i => if i < 3 then some (ad (5 + i)) else none)))))), ((ad 5), .inl (kc 0, 12, .inl (su_given 0))), ((ad 6), .inl (kc 0, 12, .inl (su_given 1))), ((ad 7), .inl (kc 0, 12, .inl (su_given 2))), ((ad 13), .inr (4, [.ref (ad 1), .ref (ad 8), .ref (ad 14), .ref (ad 15), .ref (ad 16), .ref (ad 17), .ref (ad 18), .ref (ad 19), .ref (ad 20), .ref (ad 21), .ref (ad 22), .int pr_size, .int pr_total, .int pr_perNote, .int pr_mostAlike])), ((ad 14), .inl (kc 0, 8, .inl pr_pitches)), ((ad 17), .inl (kc 0, 64, .inl pr_movePrices)), ((ad 18), .inl (kc 1, 64, .inl pr_mustTurn)), ((ad 19), .inl (kc 1, 64, .inl pr_badClosings))]) (w1 := (wd_Rules_moveCost kc ad su_lines su_length su_perNote su_above su_numbers)) (ws1 := (wd_Prices_fillMoves kc ad su_lines su_length su_perNote su_above su_numbers su_on su_given pr_size pr_total pr_perNote pr_mostAlike pr_pitches pr_movePrices pr_mustTurn pr_badClosings)) (As := [.int (pr_pitches (Int32.toNatClampNeg x1)), .int (pr_pitches (Int32.toNatClampNeg x2))]) (rest := [.int x3, .ref (ad 17)]) (ci := 5) (q0 := 2) (y := y_Rules_moveCost) (host := "SpeciesSolver") ⟨hx, hb, hml, hown, hts⟩ (fun sz => c_Rules_moveCost hc5 sz) gw_554 (hN _ nw_551) gw_553 gw_24 gw_114 hd_Rules_moveCost ⟨Nat.le_of_ble_eq_true rfl, Nat.le_of_ble_eq_true rfl⟩ ⟨rfl, rfl⟩ ⟨Nat.zero_le _, Nat.zero_le _⟩ hK hN hP hD hS hA hX [0, 1, 7] [2, 3, 4, 5, 6, 8, 9, 10, 11, 12] [10, 11, 0, 1, 2, 3, 4, 12, 5, 6, 7, 8, 9] rfl rfl (by decide) (by decide) (by decide) rfl (by decide) rfl rfl rfl hl.1 rfl (Nat.le_of_ble_eq_true rfl) d_Prices_fillMoves_98 (fun H locs hP hD hS => ?_)
    exact l_Prices_fillMoves_101 C hk2 hk12 hm ⟨hP, hD, hS⟩ (lv_sub hl [1, 2, 3, 4] rfl)
  · replace hm := ifF hm c1
    refine lv_iconst (v := -1) hx hb d_Prices_fillMoves_78 (by decide) ?_
    refine lv_goto (tgt := 101) hx hb d_Prices_fillMoves_79 (by decide) ?_
    exact l_Prices_fillMoves_101 C hk2 hk12 hm ⟨hP, hD, hS⟩ (lv_sub hl [1, 2, 3, 4] rfl)
def m_Prices_fillMoves_65 (F : Nat) (su_perNote : Int32) (su_numbers : Nat → Int32) (su_on : Nat → Int32) (su_given : Nat → Nat → Int32) (pr_size : Int32) (pr_total : Int32) (pr_pitches : Nat → Int32) (k2 : (Nat → Int32) → (Nat → Int32) → (Nat → Int32) → Int32 → Option ((Nat → Int32) × (Nat → Int32) × (Nat → Int32))) (k12 : (Nat → Int32) → (Nat → Int32) → (Nat → Int32) → Int32 → Int32 → Option ((Nat → Int32) × (Nat → Int32) × (Nat → Int32))) (pr_movePrices : Nat → Int32) (pr_mustTurn : Nat → Int32) (pr_badClosings : Nat → Int32) (x1 : Int32) (x2 : Int32) (x3 : Int32) : Option ((Nat → Int32) × (Nat → Int32) × (Nat → Int32)) :=
  m_Prices_fillMoves_66 F su_perNote su_numbers su_on su_given pr_size pr_total pr_pitches k2 k12 pr_movePrices pr_mustTurn pr_badClosings x1 x2 x3 (0 : Int32)
set_option maxHeartbeats 4000000 in
set_option maxRecDepth 100000 in
theorem l_Prices_fillMoves_65 {r : (Nat → Int32) × (Nat → Int32) × (Nat → Int32)} {F : Nat} {ad : Nat → Nat} {su_lines : Int32} {su_length : Int32} {su_perNote : Int32} {su_above : Int32} {su_numbers : Nat → Int32} {su_on : Nat → Int32} {su_given : Nat → Nat → Int32} {pr_size : Int32} {pr_total : Int32} {pr_perNote : Int32} {pr_mostAlike : Int32} {pr_pitches : Nat → Int32} {pr_movePrices : Nat → Int32} {pr_mustTurn : Nat → Int32} {pr_badClosings : Nat → Int32} {k2 : (Nat → Int32) → (Nat → Int32) → (Nat → Int32) → Int32 → Option ((Nat → Int32) × (Nat → Int32) × (Nat → Int32))} {k12 : (Nat → Int32) → (Nat → Int32) → (Nat → Int32) → Int32 → Int32 → Option ((Nat → Int32) × (Nat → Int32) × (Nat → Int32))} {x1 : Int32} {x2 : Int32} {x3 : Int32} {H : Heap} {locs : List Loc} {ls : Array Slot} (C : Cx p s m meth c args A D kc R_Prices b_Prices_fillMoves 5 none) (hk2 : (∀ (pr_movePrices : Nat → Int32) (pr_mustTurn : Nat → Int32) (pr_badClosings : Nat → Int32) (x1 : Int32) (H : Heap) (locs : List Loc) (ls : Array Slot), k2 pr_movePrices pr_mustTurn pr_badClosings x1 = some r → St D A s (wd_Prices_fillMoves kc ad su_lines su_length su_perNote su_above su_numbers su_on su_given pr_size pr_total pr_perNote pr_mostAlike pr_pitches pr_movePrices pr_mustTurn pr_badClosings) H locs → lv_has ls 5 [(0, .ref (ad 13)), (1, .int x1)] → W p l e rm_Prices_fillMoves s m args below meth c H locs 0 0 (MQ below (Qv D A (wd_Prices_fillMoves kc ad su_lines su_length su_perNote su_above su_numbers su_on su_given pr_size pr_total pr_perNote pr_mostAlike pr_pitches r.1 r.2.1 r.2.2)) args s 0 0 A) (F0 m 2 ls []))) (hk12 : (∀ (pr_movePrices : Nat → Int32) (pr_mustTurn : Nat → Int32) (pr_badClosings : Nat → Int32) (x1 : Int32) (x2 : Int32) (H : Heap) (locs : List Loc) (ls : Array Slot), k12 pr_movePrices pr_mustTurn pr_badClosings x1 x2 = some r → St D A s (wd_Prices_fillMoves kc ad su_lines su_length su_perNote su_above su_numbers su_on su_given pr_size pr_total pr_perNote pr_mostAlike pr_pitches pr_movePrices pr_mustTurn pr_badClosings) H locs → lv_has ls 5 [(0, .ref (ad 13)), (1, .int x1), (2, .int x2)] → W p l e rm_Prices_fillMoves s m args below meth c H locs 0 0 (MQ below (Qv D A (wd_Prices_fillMoves kc ad su_lines su_length su_perNote su_above su_numbers su_on su_given pr_size pr_total pr_perNote pr_mostAlike pr_pitches r.1 r.2.1 r.2.2)) args s 0 0 A) (F0 m 12 ls []))) (hm : m_Prices_fillMoves_65 F su_perNote su_numbers su_on su_given pr_size pr_total pr_pitches k2 k12 pr_movePrices pr_mustTurn pr_badClosings x1 x2 x3 = some r) (hZ : St D A s (wd_Prices_fillMoves kc ad su_lines su_length su_perNote su_above su_numbers su_on su_given pr_size pr_total pr_perNote pr_mostAlike pr_pitches pr_movePrices pr_mustTurn pr_badClosings) H locs) (hl : lv_has ls 5 [(0, .ref (ad 13)), (1, .int x1), (2, .int x2), (3, .int x3)]) : W p l e rm_Prices_fillMoves s m args below meth c H locs 0 0 (MQ below (Qv D A (wd_Prices_fillMoves kc ad su_lines su_length su_perNote su_above su_numbers su_on su_given pr_size pr_total pr_perNote pr_mostAlike pr_pitches r.1 r.2.1 r.2.2)) args s 0 0 A) (F0 m 65 ls []) := by
  obtain ⟨hx, hb, hr, hts, hown, hml, hlocks, hK, hN, hA, hX⟩ := id C
  obtain ⟨hP, hD, hS⟩ := hZ
  unfold m_Prices_fillMoves_65 at hm
  refine lv_iconst (v := 0) hx hb d_Prices_fillMoves_65 (by decide) ?_
  exact l_Prices_fillMoves_66 C hk2 hk12 hm ⟨hP, hD, hS⟩ (lv_sub hl [0, 1, 2, 3] rfl)
def m_Prices_fillMoves_12b (F : Nat) (su_perNote : Int32) (su_numbers : Nat → Int32) (su_on : Nat → Int32) (su_given : Nat → Nat → Int32) (pr_size : Int32) (pr_total : Int32) (pr_pitches : Nat → Int32) (k2 : (Nat → Int32) → (Nat → Int32) → (Nat → Int32) → Int32 → Option ((Nat → Int32) × (Nat → Int32) × (Nat → Int32))) (k12 : (Nat → Int32) → (Nat → Int32) → (Nat → Int32) → Int32 → Int32 → Option ((Nat → Int32) × (Nat → Int32) × (Nat → Int32))) (pr_movePrices : Nat → Int32) (pr_mustTurn : Nat → Int32) (pr_badClosings : Nat → Int32) (x1 : Int32) (x2 : Int32) : Option ((Nat → Int32) × (Nat → Int32) × (Nat → Int32)) :=
  (if pr_size ≤ x2 then
    k2 pr_movePrices pr_mustTurn pr_badClosings (x1 + 1)
  else
    (if (su_on (Int32.toNatClampNeg (5 : Int32))) = (0 : Int32) then
      m_Prices_fillMoves_65 F su_perNote su_numbers su_on su_given pr_size pr_total pr_pitches k2 k12 pr_movePrices pr_mustTurn pr_badClosings x1 x2 ((x1 * (8 : Int32)) + x2)
    else
      (gd x1 8 (gd x2 8 (bd (m_Rules_isLeaping su_numbers (pr_pitches (Int32.toNatClampNeg x1)) (pr_pitches (Int32.toNatClampNeg x2))) (fun u5 => (if u5 = (0 : Int32) then
        m_Prices_fillMoves_65 F su_perNote su_numbers su_on su_given pr_size pr_total pr_pitches k2 k12 pr_movePrices pr_mustTurn pr_badClosings x1 x2 ((x1 * (8 : Int32)) + x2)
      else
        m_Prices_fillMoves_66 F su_perNote su_numbers su_on su_given pr_size pr_total pr_pitches k2 k12 pr_movePrices pr_mustTurn pr_badClosings x1 x2 ((x1 * (8 : Int32)) + x2) (1 : Int32))))))))
set_option maxHeartbeats 4000000 in
set_option maxRecDepth 100000 in
theorem l_Prices_fillMoves_12 {r : (Nat → Int32) × (Nat → Int32) × (Nat → Int32)} {F : Nat} {ad : Nat → Nat} {su_lines : Int32} {su_length : Int32} {su_perNote : Int32} {su_above : Int32} {su_numbers : Nat → Int32} {su_on : Nat → Int32} {su_given : Nat → Nat → Int32} {pr_size : Int32} {pr_total : Int32} {pr_perNote : Int32} {pr_mostAlike : Int32} {pr_pitches : Nat → Int32} {pr_movePrices : Nat → Int32} {pr_mustTurn : Nat → Int32} {pr_badClosings : Nat → Int32} {k2 : (Nat → Int32) → (Nat → Int32) → (Nat → Int32) → Int32 → Option ((Nat → Int32) × (Nat → Int32) × (Nat → Int32))} {k12 : (Nat → Int32) → (Nat → Int32) → (Nat → Int32) → Int32 → Int32 → Option ((Nat → Int32) × (Nat → Int32) × (Nat → Int32))} {x1 : Int32} {x2 : Int32} {H : Heap} {locs : List Loc} {ls : Array Slot} (C : Cx p s m meth c args A D kc R_Prices b_Prices_fillMoves 5 none) (hk2 : (∀ (pr_movePrices : Nat → Int32) (pr_mustTurn : Nat → Int32) (pr_badClosings : Nat → Int32) (x1 : Int32) (H : Heap) (locs : List Loc) (ls : Array Slot), k2 pr_movePrices pr_mustTurn pr_badClosings x1 = some r → St D A s (wd_Prices_fillMoves kc ad su_lines su_length su_perNote su_above su_numbers su_on su_given pr_size pr_total pr_perNote pr_mostAlike pr_pitches pr_movePrices pr_mustTurn pr_badClosings) H locs → lv_has ls 5 [(0, .ref (ad 13)), (1, .int x1)] → W p l e rm_Prices_fillMoves s m args below meth c H locs 0 0 (MQ below (Qv D A (wd_Prices_fillMoves kc ad su_lines su_length su_perNote su_above su_numbers su_on su_given pr_size pr_total pr_perNote pr_mostAlike pr_pitches r.1 r.2.1 r.2.2)) args s 0 0 A) (F0 m 2 ls []))) (hk12 : (∀ (pr_movePrices : Nat → Int32) (pr_mustTurn : Nat → Int32) (pr_badClosings : Nat → Int32) (x1 : Int32) (x2 : Int32) (H : Heap) (locs : List Loc) (ls : Array Slot), k12 pr_movePrices pr_mustTurn pr_badClosings x1 x2 = some r → St D A s (wd_Prices_fillMoves kc ad su_lines su_length su_perNote su_above su_numbers su_on su_given pr_size pr_total pr_perNote pr_mostAlike pr_pitches pr_movePrices pr_mustTurn pr_badClosings) H locs → lv_has ls 5 [(0, .ref (ad 13)), (1, .int x1), (2, .int x2)] → W p l e rm_Prices_fillMoves s m args below meth c H locs 0 0 (MQ below (Qv D A (wd_Prices_fillMoves kc ad su_lines su_length su_perNote su_above su_numbers su_on su_given pr_size pr_total pr_perNote pr_mostAlike pr_pitches r.1 r.2.1 r.2.2)) args s 0 0 A) (F0 m 12 ls []))) (hm : m_Prices_fillMoves_12b F su_perNote su_numbers su_on su_given pr_size pr_total pr_pitches k2 k12 pr_movePrices pr_mustTurn pr_badClosings x1 x2 = some r) (hZ : St D A s (wd_Prices_fillMoves kc ad su_lines su_length su_perNote su_above su_numbers su_on su_given pr_size pr_total pr_perNote pr_mostAlike pr_pitches pr_movePrices pr_mustTurn pr_badClosings) H locs) (hl : lv_has ls 5 [(0, .ref (ad 13)), (1, .int x1), (2, .int x2)]) : W p l e rm_Prices_fillMoves s m args below meth c H locs 0 0 (MQ below (Qv D A (wd_Prices_fillMoves kc ad su_lines su_length su_perNote su_above su_numbers su_on su_given pr_size pr_total pr_perNote pr_mostAlike pr_pitches r.1 r.2.1 r.2.2)) args s 0 0 A) (F0 m 12 ls []) := by
  obtain ⟨hx, hb, hr, hts, hown, hml, hlocks, hK, hN, hA, hX⟩ := id C
  obtain ⟨hP, hD, hS⟩ := hZ
  unfold m_Prices_fillMoves_12b at hm
  refine lv_iload_n hx hb d_Prices_fillMoves_12 rfl (lv_at hl 2 rfl) ?_
  refine lv_aload_n hx hb d_Prices_fillMoves_13 rfl (lv_at hl 0 rfl) ?_
  refine va_get (D := D) (ci := 4) (v := .int pr_size) (C := R_Prices) (T := T_Prices) (N := 15) hx hb hts inG_Prices hown hK hP 8 rfl rfl 11 (by decide) (hts _ gw_263) (fun _ h9 => h9) rfl d_Prices_fillMoves_14 ?_
  refine lv_icmp_ge (tgt := 206) hx hb d_Prices_fillMoves_17 (by decide) (fun c1 => ?_) (fun c1 => ?_)
  · replace hm := ifT hm c1
    refine lv_iinc (v := (x1 + 1)) (lv' := [(1, .int (x1 + 1)), (0, .ref (ad 13)), (2, .int x2)]) hx hb d_Prices_fillMoves_206 hl (k := 1) rfl rfl (by decide) rfl (fun ls hl => ?_)
    refine lv_goto (tgt := 2) hx hb d_Prices_fillMoves_209 (by decide) ?_
    exact hk2 pr_movePrices pr_mustTurn pr_badClosings (x1 + 1) _ _ _ hm ⟨hP, hD, hS⟩ (lv_sub hl [1, 0] rfl)
  · replace hm := ifF hm c1
    refine lv_iload_n hx hb d_Prices_fillMoves_20 rfl (lv_at hl 1 rfl) ?_
    refine lv_bipush (v := 8) hx hb d_Prices_fillMoves_21 (by decide) ?_
    refine lv_imul hx hb d_Prices_fillMoves_23 ?_
    refine lv_iload_n hx hb d_Prices_fillMoves_24 rfl (lv_at hl 2 rfl) ?_
    refine lv_iadd hx hb d_Prices_fillMoves_25 ?_
    refine lv_istore_n (lv' := [(3, .int ((x1 * (8 : Int32)) + x2)), (0, .ref (ad 13)), (1, .int x1), (2, .int x2)]) hx hb d_Prices_fillMoves_26 rfl hl (by decide) rfl (fun ls hl => ?_)
    refine lv_aload_n hx hb d_Prices_fillMoves_27 rfl (lv_at hl 1 rfl) ?_
    refine va_get (D := D) (ci := 4) (v := .ref (ad 1)) (C := R_Prices) (T := T_Prices) (N := 15) hx hb hts inG_Prices hown hK hP 8 rfl rfl 0 (by decide) (hts _ gw_248) (fun _ h9 => h9) rfl d_Prices_fillMoves_28 ?_
    refine va_getN (D := D) (ci := 7) (v := .ref (ad 3)) (C := R_Setup) (T := T_Setup) (N := 7) hx hb hts inG_Setup hown hK hP 0 rfl rfl 1 (by decide) (va_Nw.use rfl (hN _ nw_165)) (fun _ h9 => h9) rfl d_Prices_fillMoves_31 ?_
    refine lv_iconst (v := 5) hx hb d_Prices_fillMoves_34 (by decide) ?_
    refine va_zald hx hb hK hP 2 1 rfl rfl (in_lit (by decide)) d_Prices_fillMoves_35 ?_
    refine lv_if_eq (tgt := 65) hx hb d_Prices_fillMoves_36 (by decide) (fun c2 => ?_) (fun c2 => ?_)
    · replace hm := ifT hm c2
      exact l_Prices_fillMoves_65 C hk2 hk12 hm ⟨hP, hD, hS⟩ (lv_sub hl [1, 2, 3, 0] rfl)
    · replace hm := ifF hm c2
      refine lv_aload_n hx hb d_Prices_fillMoves_39 rfl (lv_at hl 1 rfl) ?_
      refine va_get (D := D) (ci := 4) (v := .ref (ad 8)) (C := R_Prices) (T := T_Prices) (N := 15) hx hb hts inG_Prices hown hK hP 8 rfl rfl 1 (by decide) (hts _ gw_249) (fun _ h9 => h9) rfl d_Prices_fillMoves_40 ?_
      refine lv_aload_n hx hb d_Prices_fillMoves_43 rfl (lv_at hl 1 rfl) ?_
      refine va_get (D := D) (ci := 4) (v := .ref (ad 14)) (C := R_Prices) (T := T_Prices) (N := 15) hx hb hts inG_Prices hown hK hP 8 rfl rfl 2 (by decide) (hts _ gw_250) (fun _ h9 => h9) rfl d_Prices_fillMoves_44 ?_
      refine lv_iload_n hx hb d_Prices_fillMoves_47 rfl (lv_at hl 2 rfl) ?_
      obtain ⟨hi3, hm⟩ := gd_some hm
      refine va_iald hx hb hK hP 9 0 rfl rfl hi3 d_Prices_fillMoves_48 ?_
      refine lv_aload_n hx hb d_Prices_fillMoves_49 rfl (lv_at hl 1 rfl) ?_
      refine va_get (D := D) (ci := 4) (v := .ref (ad 14)) (C := R_Prices) (T := T_Prices) (N := 15) hx hb hts inG_Prices hown hK hP 8 rfl rfl 2 (by decide) (hts _ gw_250) (fun _ h9 => h9) rfl d_Prices_fillMoves_50 ?_
      refine lv_iload_n hx hb d_Prices_fillMoves_53 rfl (lv_at hl 3 rfl) ?_
      obtain ⟨hi4, hm⟩ := gd_some hm
      refine va_iald hx hb hK hP 9 0 rfl rfl hi4 d_Prices_fillMoves_54 ?_
      obtain ⟨u5, hc6, hm⟩ := bd_some hm
      refine zVN_i (n := 2) (wr := [((ad 3), .inl (kc 1, 11, .inl su_on)), ((ad 4), .inl (kc 3, 3, .inr (.inr (.inr (.inr (fun i => if i < 3 then some (ad (5 + i)) else none)))))), ((ad 5), .inl (kc 0, 12, .inl (su_given 0))), ((ad 6), .inl (kc 0, 12, .inl (su_given 1))), ((ad 7), .inl (kc 0, 12, .inl (su_given 2))), ((ad 13), .inr (4, [.ref (ad 1), .ref (ad 8), .ref (ad 14), .ref (ad 15), .ref (ad 16), .ref (ad 17), .ref (ad 18), .ref (ad 19), .ref (ad 20), .ref (ad 21), .ref (ad 22), .int pr_size, .int pr_total, .int pr_perNote, .int pr_mostAlike])), ((ad 14), .inl (kc 0, 8, .inl pr_pitches)), ((ad 17), .inl (kc 0, 64, .inl pr_movePrices)), ((ad 18), .inl (kc 1, 64, .inl pr_mustTurn)), ((ad 19), .inl (kc 1, 64, .inl pr_badClosings))]) (w1 := (wd_Rules_isLeaping kc ad su_lines su_length su_perNote su_above su_numbers)) (ws1 := (wd_Prices_fillMoves kc ad su_lines su_length su_perNote su_above su_numbers su_on su_given pr_size pr_total pr_perNote pr_mostAlike pr_pitches pr_movePrices pr_mustTurn pr_badClosings)) (As := [.int (pr_pitches (Int32.toNatClampNeg x1)), .int (pr_pitches (Int32.toNatClampNeg x2))]) (rest := []) (ci := 5) (q0 := 2) (y := y_Rules_isLeaping) (host := "SpeciesSolver") ⟨hx, hb, hml, hown, hts⟩ (fun sz => c_Rules_isLeaping hc6 sz) gw_547 (hN _ nw_544) gw_546 gw_23 gw_114 hd_Rules_isLeaping ⟨Nat.le_of_ble_eq_true rfl, Nat.le_of_ble_eq_true rfl⟩ ⟨rfl, rfl⟩ ⟨Nat.zero_le _, Nat.zero_le _⟩ hK hN hP hD hS hA hX [0, 1, 7] [2, 3, 4, 5, 6, 8, 9, 10, 11, 12] [10, 11, 0, 1, 2, 3, 4, 12, 5, 6, 7, 8, 9] rfl rfl (by decide) (by decide) (by decide) rfl (by decide) rfl rfl rfl hl.1 rfl (Nat.le_of_ble_eq_true rfl) d_Prices_fillMoves_55 (fun H locs hP hD hS => ?_)
      refine lv_if_eq (tgt := 65) hx hb d_Prices_fillMoves_58 (by decide) (fun c7 => ?_) (fun c7 => ?_)
      · replace hm := ifT hm c7
        exact l_Prices_fillMoves_65 C hk2 hk12 hm ⟨hP, hD, hS⟩ (lv_sub hl [1, 2, 3, 0] rfl)
      · replace hm := ifF hm c7
        refine lv_iconst (v := 1) hx hb d_Prices_fillMoves_61 (by decide) ?_
        refine lv_goto (tgt := 66) hx hb d_Prices_fillMoves_62 (by decide) ?_
        exact l_Prices_fillMoves_66 C hk2 hk12 hm ⟨hP, hD, hS⟩ (lv_sub hl [1, 2, 3, 0] rfl)
def m_Prices_fillMoves_12 (F : Nat) (su_perNote : Int32) (su_numbers : Nat → Int32) (su_on : Nat → Int32) (su_given : Nat → Nat → Int32) (pr_size : Int32) (pr_total : Int32) (pr_pitches : Nat → Int32) (k2 : (Nat → Int32) → (Nat → Int32) → (Nat → Int32) → Int32 → Option ((Nat → Int32) × (Nat → Int32) × (Nat → Int32))) : Nat → (Nat → Int32) → (Nat → Int32) → (Nat → Int32) → Int32 → Int32 → Option ((Nat → Int32) × (Nat → Int32) × (Nat → Int32))
  | 0 => fun _ _ _ _ _ => none
  | n + 1 => m_Prices_fillMoves_12b F su_perNote su_numbers su_on su_given pr_size pr_total pr_pitches k2 (m_Prices_fillMoves_12 F su_perNote su_numbers su_on su_given pr_size pr_total pr_pitches k2 n)
set_option maxHeartbeats 4000000 in
set_option maxRecDepth 100000 in
theorem lp_Prices_fillMoves_12 {r : (Nat → Int32) × (Nat → Int32) × (Nat → Int32)} {F : Nat} {ad : Nat → Nat} {su_lines : Int32} {su_length : Int32} {su_perNote : Int32} {su_above : Int32} {su_numbers : Nat → Int32} {su_on : Nat → Int32} {su_given : Nat → Nat → Int32} {pr_size : Int32} {pr_total : Int32} {pr_perNote : Int32} {pr_mostAlike : Int32} {pr_pitches : Nat → Int32} {k2 : (Nat → Int32) → (Nat → Int32) → (Nat → Int32) → Int32 → Option ((Nat → Int32) × (Nat → Int32) × (Nat → Int32))} (C : Cx p s m meth c args A D kc R_Prices b_Prices_fillMoves 5 none) (hk2 : (∀ (pr_movePrices : Nat → Int32) (pr_mustTurn : Nat → Int32) (pr_badClosings : Nat → Int32) (x1 : Int32) (H : Heap) (locs : List Loc) (ls : Array Slot), k2 pr_movePrices pr_mustTurn pr_badClosings x1 = some r → St D A s (wd_Prices_fillMoves kc ad su_lines su_length su_perNote su_above su_numbers su_on su_given pr_size pr_total pr_perNote pr_mostAlike pr_pitches pr_movePrices pr_mustTurn pr_badClosings) H locs → lv_has ls 5 [(0, .ref (ad 13)), (1, .int x1)] → W p l e rm_Prices_fillMoves s m args below meth c H locs 0 0 (MQ below (Qv D A (wd_Prices_fillMoves kc ad su_lines su_length su_perNote su_above su_numbers su_on su_given pr_size pr_total pr_perNote pr_mostAlike pr_pitches r.1 r.2.1 r.2.2)) args s 0 0 A) (F0 m 2 ls []))) : ∀ (n : Nat) (pr_movePrices : Nat → Int32) (pr_mustTurn : Nat → Int32) (pr_badClosings : Nat → Int32) (x1 : Int32) (x2 : Int32) (H : Heap) (locs : List Loc) (ls : Array Slot), m_Prices_fillMoves_12 F su_perNote su_numbers su_on su_given pr_size pr_total pr_pitches k2 n pr_movePrices pr_mustTurn pr_badClosings x1 x2 = some r → St D A s (wd_Prices_fillMoves kc ad su_lines su_length su_perNote su_above su_numbers su_on su_given pr_size pr_total pr_perNote pr_mostAlike pr_pitches pr_movePrices pr_mustTurn pr_badClosings) H locs → lv_has ls 5 [(0, .ref (ad 13)), (1, .int x1), (2, .int x2)] → W p l e rm_Prices_fillMoves s m args below meth c H locs 0 0 (MQ below (Qv D A (wd_Prices_fillMoves kc ad su_lines su_length su_perNote su_above su_numbers su_on su_given pr_size pr_total pr_perNote pr_mostAlike pr_pitches r.1 r.2.1 r.2.2)) args s 0 0 A) (F0 m 12 ls []) := by
  intro n
  induction n with
  | zero => intro pr_movePrices pr_mustTurn pr_badClosings x1 x2 H locs ls hm; cases hm
  | succ n ih => intro pr_movePrices pr_mustTurn pr_badClosings x1 x2 H locs ls hm hZ hl; exact l_Prices_fillMoves_12 C hk2 ih hm hZ hl
def m_Prices_fillMoves_2b (F : Nat) (su_perNote : Int32) (su_numbers : Nat → Int32) (su_on : Nat → Int32) (su_given : Nat → Nat → Int32) (pr_size : Int32) (pr_total : Int32) (pr_pitches : Nat → Int32) (k2 : (Nat → Int32) → (Nat → Int32) → (Nat → Int32) → Int32 → Option ((Nat → Int32) × (Nat → Int32) × (Nat → Int32))) (pr_movePrices : Nat → Int32) (pr_mustTurn : Nat → Int32) (pr_badClosings : Nat → Int32) (x1 : Int32) : Option ((Nat → Int32) × (Nat → Int32) × (Nat → Int32)) :=
  (if pr_size ≤ x1 then
    (some (pr_movePrices, pr_mustTurn, pr_badClosings))
  else
    m_Prices_fillMoves_12 F su_perNote su_numbers su_on su_given pr_size pr_total pr_pitches k2 F pr_movePrices pr_mustTurn pr_badClosings x1 (0 : Int32))
set_option maxHeartbeats 4000000 in
set_option maxRecDepth 100000 in
theorem l_Prices_fillMoves_2 {r : (Nat → Int32) × (Nat → Int32) × (Nat → Int32)} {F : Nat} {ad : Nat → Nat} {su_lines : Int32} {su_length : Int32} {su_perNote : Int32} {su_above : Int32} {su_numbers : Nat → Int32} {su_on : Nat → Int32} {su_given : Nat → Nat → Int32} {pr_size : Int32} {pr_total : Int32} {pr_perNote : Int32} {pr_mostAlike : Int32} {pr_pitches : Nat → Int32} {pr_movePrices : Nat → Int32} {pr_mustTurn : Nat → Int32} {pr_badClosings : Nat → Int32} {k2 : (Nat → Int32) → (Nat → Int32) → (Nat → Int32) → Int32 → Option ((Nat → Int32) × (Nat → Int32) × (Nat → Int32))} {x1 : Int32} {H : Heap} {locs : List Loc} {ls : Array Slot} (C : Cx p s m meth c args A D kc R_Prices b_Prices_fillMoves 5 none) (hk2 : (∀ (pr_movePrices : Nat → Int32) (pr_mustTurn : Nat → Int32) (pr_badClosings : Nat → Int32) (x1 : Int32) (H : Heap) (locs : List Loc) (ls : Array Slot), k2 pr_movePrices pr_mustTurn pr_badClosings x1 = some r → St D A s (wd_Prices_fillMoves kc ad su_lines su_length su_perNote su_above su_numbers su_on su_given pr_size pr_total pr_perNote pr_mostAlike pr_pitches pr_movePrices pr_mustTurn pr_badClosings) H locs → lv_has ls 5 [(0, .ref (ad 13)), (1, .int x1)] → W p l e rm_Prices_fillMoves s m args below meth c H locs 0 0 (MQ below (Qv D A (wd_Prices_fillMoves kc ad su_lines su_length su_perNote su_above su_numbers su_on su_given pr_size pr_total pr_perNote pr_mostAlike pr_pitches r.1 r.2.1 r.2.2)) args s 0 0 A) (F0 m 2 ls []))) (hm : m_Prices_fillMoves_2b F su_perNote su_numbers su_on su_given pr_size pr_total pr_pitches k2 pr_movePrices pr_mustTurn pr_badClosings x1 = some r) (hZ : St D A s (wd_Prices_fillMoves kc ad su_lines su_length su_perNote su_above su_numbers su_on su_given pr_size pr_total pr_perNote pr_mostAlike pr_pitches pr_movePrices pr_mustTurn pr_badClosings) H locs) (hl : lv_has ls 5 [(0, .ref (ad 13)), (1, .int x1)]) : W p l e rm_Prices_fillMoves s m args below meth c H locs 0 0 (MQ below (Qv D A (wd_Prices_fillMoves kc ad su_lines su_length su_perNote su_above su_numbers su_on su_given pr_size pr_total pr_perNote pr_mostAlike pr_pitches r.1 r.2.1 r.2.2)) args s 0 0 A) (F0 m 2 ls []) := by
  obtain ⟨hx, hb, hr, hts, hown, hml, hlocks, hK, hN, hA, hX⟩ := id C
  obtain ⟨hP, hD, hS⟩ := hZ
  unfold m_Prices_fillMoves_2b at hm
  refine lv_iload_n hx hb d_Prices_fillMoves_2 rfl (lv_at hl 1 rfl) ?_
  refine lv_aload_n hx hb d_Prices_fillMoves_3 rfl (lv_at hl 0 rfl) ?_
  refine va_get (D := D) (ci := 4) (v := .int pr_size) (C := R_Prices) (T := T_Prices) (N := 15) hx hb hts inG_Prices hown hK hP 8 rfl rfl 11 (by decide) (hts _ gw_263) (fun _ h9 => h9) rfl d_Prices_fillMoves_4 ?_
  refine lv_icmp_ge (tgt := 212) hx hb d_Prices_fillMoves_7 (by decide) (fun c1 => ?_) (fun c1 => ?_)
  · replace hm := ifT hm c1
    replace hm := Option.some.inj hm; subst hm
    exact zret_v C hP hD hS d_Prices_fillMoves_212
  · replace hm := ifF hm c1
    refine lv_iconst (v := 0) hx hb d_Prices_fillMoves_10 (by decide) ?_
    refine lv_istore_n (lv' := [(2, .int (0 : Int32)), (0, .ref (ad 13)), (1, .int x1)]) hx hb d_Prices_fillMoves_11 rfl hl (by decide) rfl (fun ls hl => ?_)
    exact lp_Prices_fillMoves_12 C hk2 F pr_movePrices pr_mustTurn pr_badClosings x1 (0 : Int32) _ _ _ hm ⟨hP, hD, hS⟩ (lv_sub hl [1, 2, 0] rfl)
def m_Prices_fillMoves_2 (F : Nat) (su_perNote : Int32) (su_numbers : Nat → Int32) (su_on : Nat → Int32) (su_given : Nat → Nat → Int32) (pr_size : Int32) (pr_total : Int32) (pr_pitches : Nat → Int32)  : Nat → (Nat → Int32) → (Nat → Int32) → (Nat → Int32) → Int32 → Option ((Nat → Int32) × (Nat → Int32) × (Nat → Int32))
  | 0 => fun _ _ _ _ => none
  | n + 1 => m_Prices_fillMoves_2b F su_perNote su_numbers su_on su_given pr_size pr_total pr_pitches  (m_Prices_fillMoves_2 F su_perNote su_numbers su_on su_given pr_size pr_total pr_pitches  n)
set_option maxHeartbeats 4000000 in
set_option maxRecDepth 100000 in
theorem lp_Prices_fillMoves_2 {r : (Nat → Int32) × (Nat → Int32) × (Nat → Int32)} {F : Nat} {ad : Nat → Nat} {su_lines : Int32} {su_length : Int32} {su_perNote : Int32} {su_above : Int32} {su_numbers : Nat → Int32} {su_on : Nat → Int32} {su_given : Nat → Nat → Int32} {pr_size : Int32} {pr_total : Int32} {pr_perNote : Int32} {pr_mostAlike : Int32} {pr_pitches : Nat → Int32}  (C : Cx p s m meth c args A D kc R_Prices b_Prices_fillMoves 5 none)  : ∀ (n : Nat) (pr_movePrices : Nat → Int32) (pr_mustTurn : Nat → Int32) (pr_badClosings : Nat → Int32) (x1 : Int32) (H : Heap) (locs : List Loc) (ls : Array Slot), m_Prices_fillMoves_2 F su_perNote su_numbers su_on su_given pr_size pr_total pr_pitches  n pr_movePrices pr_mustTurn pr_badClosings x1 = some r → St D A s (wd_Prices_fillMoves kc ad su_lines su_length su_perNote su_above su_numbers su_on su_given pr_size pr_total pr_perNote pr_mostAlike pr_pitches pr_movePrices pr_mustTurn pr_badClosings) H locs → lv_has ls 5 [(0, .ref (ad 13)), (1, .int x1)] → W p l e rm_Prices_fillMoves s m args below meth c H locs 0 0 (MQ below (Qv D A (wd_Prices_fillMoves kc ad su_lines su_length su_perNote su_above su_numbers su_on su_given pr_size pr_total pr_perNote pr_mostAlike pr_pitches r.1 r.2.1 r.2.2)) args s 0 0 A) (F0 m 2 ls []) := by
  intro n
  induction n with
  | zero => intro pr_movePrices pr_mustTurn pr_badClosings x1 H locs ls hm; cases hm
  | succ n ih => intro pr_movePrices pr_mustTurn pr_badClosings x1 H locs ls hm hZ hl; exact l_Prices_fillMoves_2 C  ih hm hZ hl
def m_Prices_fillMoves (F : Nat) (su_perNote : Int32) (su_numbers : Nat → Int32) (su_on : Nat → Int32) (su_given : Nat → Nat → Int32) (pr_size : Int32) (pr_total : Int32) (pr_pitches : Nat → Int32) (pr_movePrices : Nat → Int32) (pr_mustTurn : Nat → Int32) (pr_badClosings : Nat → Int32)  : Option ((Nat → Int32) × (Nat → Int32) × (Nat → Int32)) :=
  m_Prices_fillMoves_2 F su_perNote su_numbers su_on su_given pr_size pr_total pr_pitches  F pr_movePrices pr_mustTurn pr_badClosings (0 : Int32)
set_option maxHeartbeats 4000000 in
set_option maxRecDepth 100000 in
theorem e_Prices_fillMoves {r : (Nat → Int32) × (Nat → Int32) × (Nat → Int32)} {F : Nat} {ad : Nat → Nat} {su_lines : Int32} {su_length : Int32} {su_perNote : Int32} {su_above : Int32} {su_numbers : Nat → Int32} {su_on : Nat → Int32} {su_given : Nat → Nat → Int32} {pr_size : Int32} {pr_total : Int32} {pr_perNote : Int32} {pr_mostAlike : Int32} {pr_pitches : Nat → Int32} {pr_movePrices : Nat → Int32} {pr_mustTurn : Nat → Int32} {pr_badClosings : Nat → Int32}  {H : Heap} {locs : List Loc} {ls : Array Slot} (C : Cx p s m meth c args A D kc R_Prices b_Prices_fillMoves 5 none) (hm : m_Prices_fillMoves F su_perNote su_numbers su_on su_given pr_size pr_total pr_pitches pr_movePrices pr_mustTurn pr_badClosings = some r) (hZ : St D A s (wd_Prices_fillMoves kc ad su_lines su_length su_perNote su_above su_numbers su_on su_given pr_size pr_total pr_perNote pr_mostAlike pr_pitches pr_movePrices pr_mustTurn pr_badClosings) H locs) (hl : lv_has ls 5 [(0, .ref (ad 13))]) : W p l e rm_Prices_fillMoves s m args below meth c H locs 0 0 (MQ below (Qv D A (wd_Prices_fillMoves kc ad su_lines su_length su_perNote su_above su_numbers su_on su_given pr_size pr_total pr_perNote pr_mostAlike pr_pitches r.1 r.2.1 r.2.2)) args s 0 0 A) (F0 m 0 ls []) := by
  obtain ⟨hx, hb, hr, hts, hown, hml, hlocks, hK, hN, hA, hX⟩ := id C
  obtain ⟨hP, hD, hS⟩ := hZ
  unfold m_Prices_fillMoves at hm
  refine lv_iconst (v := 0) hx hb d_Prices_fillMoves_0 (by decide) ?_
  refine lv_istore_n (lv' := [(1, .int (0 : Int32)), (0, .ref (ad 13))]) hx hb d_Prices_fillMoves_1 rfl hl (by decide) rfl (fun ls hl => ?_)
  exact lp_Prices_fillMoves_2 C  F pr_movePrices pr_mustTurn pr_badClosings (0 : Int32) _ _ _ hm ⟨hP, hD, hS⟩ (lv_sub hl [1, 0] rfl)
set_option maxHeartbeats 4000000 in
set_option maxRecDepth 100000 in
theorem c_Prices_fillMoves {l : Launch} {D : va_G} {kc : Nat → ClassId} {r : (Nat → Int32) × (Nat → Int32) × (Nat → Int32)} {F : Nat} {ad : Nat → Nat} {su_lines : Int32} {su_length : Int32} {su_perNote : Int32} {su_above : Int32} {su_numbers : Nat → Int32} {su_on : Nat → Int32} {su_given : Nat → Nat → Int32} {pr_size : Int32} {pr_total : Int32} {pr_perNote : Int32} {pr_mostAlike : Int32} {pr_pitches : Nat → Int32} {pr_movePrices : Nat → Int32} {pr_mustTurn : Nat → Int32} {pr_badClosings : Nat → Int32}  (hm : m_Prices_fillMoves F su_perNote su_numbers su_on su_given pr_size pr_total pr_pitches pr_movePrices pr_mustTurn pr_badClosings = some r) (sz : Nat) : Cv l y_Prices_fillMoves ws_Prices_fillMoves rm_Prices_fillMoves D kc sz [.ref (ad 13)] (wd_Prices_fillMoves kc ad su_lines su_length su_perNote su_above su_numbers su_on su_given pr_size pr_total pr_perNote pr_mostAlike pr_pitches pr_movePrices pr_mustTurn pr_badClosings) (wd_Prices_fillMoves kc ad su_lines su_length su_perNote su_above su_numbers su_on su_given pr_size pr_total pr_perNote pr_mostAlike pr_pitches r.1 r.2.1 r.2.2) :=
  Cz_of (Qf := fun A => (Qv D A (wd_Prices_fillMoves kc ad su_lines su_length su_perNote su_above su_numbers su_on su_given pr_size pr_total pr_perNote pr_mostAlike pr_pitches r.1 r.2.1 r.2.2))) (cc := b_Prices_fillMoves) (maxL := 5) (ret := none) (by decide) rfl rfl (fun C hZ hl => e_Prices_fillMoves C hm hZ hl)
abbrev b_Rules_isNotTurned : ByteArray := prog_5_method_15_code
abbrev y_Rules_isNotTurned : MethodName := ⟨"SpeciesSolver$Rules", "isNotTurned", "(III)Z"⟩
theorem d_Rules_isNotTurned_0 : decode b_Rules_isNotTurned 0 = .ok (.iload_n 1, 1) := by decide +kernel
theorem d_Rules_isNotTurned_1 : decode b_Rules_isNotTurned 1 = .ok (.iload_n 2, 1) := by decide +kernel
theorem d_Rules_isNotTurned_2 : decode b_Rules_isNotTurned 2 = .ok (.if_icmp .ge 7, 3) := by decide +kernel
theorem d_Rules_isNotTurned_5 : decode b_Rules_isNotTurned 5 = .ok (.iconst 1, 1) := by decide +kernel
theorem d_Rules_isNotTurned_6 : decode b_Rules_isNotTurned 6 = .ok (.goto 4, 3) := by decide +kernel
theorem d_Rules_isNotTurned_9 : decode b_Rules_isNotTurned 9 = .ok (.iconst 0, 1) := by decide +kernel
theorem d_Rules_isNotTurned_10 : decode b_Rules_isNotTurned 10 = .ok (.iload_n 3, 1) := by decide +kernel
theorem d_Rules_isNotTurned_11 : decode b_Rules_isNotTurned 11 = .ok (.iload_n 2, 1) := by decide +kernel
theorem d_Rules_isNotTurned_12 : decode b_Rules_isNotTurned 12 = .ok (.if_icmp .ge 7, 3) := by decide +kernel
theorem d_Rules_isNotTurned_15 : decode b_Rules_isNotTurned 15 = .ok (.iconst 1, 1) := by decide +kernel
theorem d_Rules_isNotTurned_16 : decode b_Rules_isNotTurned 16 = .ok (.goto 4, 3) := by decide +kernel
theorem d_Rules_isNotTurned_19 : decode b_Rules_isNotTurned 19 = .ok (.iconst 0, 1) := by decide +kernel
theorem d_Rules_isNotTurned_20 : decode b_Rules_isNotTurned 20 = .ok (.if_icmp .ne 16, 3) := by decide +kernel
theorem d_Rules_isNotTurned_23 : decode b_Rules_isNotTurned 23 = .ok (.aload_n 0, 1) := by decide +kernel
theorem d_Rules_isNotTurned_24 : decode b_Rules_isNotTurned 24 = .ok (.iload_n 2, 1) := by decide +kernel
theorem d_Rules_isNotTurned_25 : decode b_Rules_isNotTurned 25 = .ok (.iload_n 3, 1) := by decide +kernel
theorem d_Rules_isNotTurned_26 : decode b_Rules_isNotTurned 26 = .ok (.invokevirtual 52, 3) := by decide +kernel
theorem d_Rules_isNotTurned_29 : decode b_Rules_isNotTurned 29 = .ok (.ifCond .eq 7, 3) := by decide +kernel
theorem d_Rules_isNotTurned_32 : decode b_Rules_isNotTurned 32 = .ok (.iconst 1, 1) := by decide +kernel
theorem d_Rules_isNotTurned_33 : decode b_Rules_isNotTurned 33 = .ok (.goto 4, 3) := by decide +kernel
theorem d_Rules_isNotTurned_36 : decode b_Rules_isNotTurned 36 = .ok (.iconst 0, 1) := by decide +kernel
theorem d_Rules_isNotTurned_37 : decode b_Rules_isNotTurned 37 = .ok (.istore 4, 2) := by decide +kernel
theorem d_Rules_isNotTurned_39 : decode b_Rules_isNotTurned 39 = .ok (.aload_n 0, 1) := by decide +kernel
theorem d_Rules_isNotTurned_40 : decode b_Rules_isNotTurned 40 = .ok (.iload_n 1, 1) := by decide +kernel
theorem d_Rules_isNotTurned_41 : decode b_Rules_isNotTurned 41 = .ok (.iload_n 2, 1) := by decide +kernel
theorem d_Rules_isNotTurned_42 : decode b_Rules_isNotTurned 42 = .ok (.invokevirtual 55, 3) := by decide +kernel
theorem d_Rules_isNotTurned_45 : decode b_Rules_isNotTurned 45 = .ok (.ifCond .eq 12, 3) := by decide +kernel
theorem d_Rules_isNotTurned_48 : decode b_Rules_isNotTurned 48 = .ok (.iload 4, 2) := by decide +kernel
theorem d_Rules_isNotTurned_50 : decode b_Rules_isNotTurned 50 = .ok (.ifCond .ne 7, 3) := by decide +kernel
theorem d_Rules_isNotTurned_53 : decode b_Rules_isNotTurned 53 = .ok (.iconst 1, 1) := by decide +kernel
theorem d_Rules_isNotTurned_54 : decode b_Rules_isNotTurned 54 = .ok (.goto 4, 3) := by decide +kernel
theorem d_Rules_isNotTurned_57 : decode b_Rules_isNotTurned 57 = .ok (.iconst 0, 1) := by decide +kernel
theorem d_Rules_isNotTurned_58 : decode b_Rules_isNotTurned 58 = .ok (.ireturn, 1) := by decide +kernel
abbrev wd_Rules_isNotTurned (kc : Nat → ClassId) (ad : Nat → Nat) (su_lines : Int32) (su_length : Int32) (su_perNote : Int32) (su_above : Int32) (su_numbers : Nat → Int32) : va_W := [((ad 1), .inr (7, [.ref (ad 2), .ref (ad 3), .ref (ad 4), .int su_lines, .int su_length, .int su_perNote, .int su_above])), ((ad 2), .inl (kc 0, 18, .inl su_numbers)), ((ad 8), .inr (5, [.ref (ad 1)]))]
abbrev rm_Rules_isNotTurned : Room := { frames := 2, cells := 0, slots := 0, locals := 43 }
abbrev cw_Rules_isNotTurned : Cond := .code y_Rules_isNotTurned b_Rules_isNotTurned 5 (some .boolean)
abbrev ws_Rules_isNotTurned : List Cond := cw_Rules_isNotTurned :: GW
theorem hd_Rules_isNotTurned : y_Rules_isNotTurned.cls ≠ "java/lang/invoke/MethodHandle" ∧ y_Rules_isNotTurned.cls ≠ "java/lang/invoke/VarHandle" ∧ (parseMethodDescriptor y_Rules_isNotTurned.desc).map (fun d => d.parameters.length) = some 3 := by decide +kernel
def m_Rules_isNotTurned_37 (su_numbers : Nat → Int32)   (x1 : Int32) (x2 : Int32) (t0 : Int32) : Option (Int32) :=
  (bd (m_Rules_mustTurn su_numbers x1 x2) (fun u1 => (if u1 = (0 : Int32) then
    (some (0 : Int32))
  else
    (if t0 = (0 : Int32) then
      (some (1 : Int32))
    else
      (some (0 : Int32))))))
set_option maxHeartbeats 4000000 in
set_option maxRecDepth 100000 in
theorem l_Rules_isNotTurned_37 {r : Int32} {ad : Nat → Nat} {su_lines : Int32} {su_length : Int32} {su_perNote : Int32} {su_above : Int32} {su_numbers : Nat → Int32}  {x1 : Int32} {x2 : Int32} {t0 : Int32} {H : Heap} {locs : List Loc} {ls : Array Slot} (C : Cx p s m meth c args A D kc R_Rules b_Rules_isNotTurned 5 (some .boolean))  (hm : m_Rules_isNotTurned_37 su_numbers  x1 x2 t0 = some r) (hZ : St D A s (wd_Rules_isNotTurned kc ad su_lines su_length su_perNote su_above su_numbers) H locs) (hl : lv_has ls 5 [(0, .ref (ad 8)), (1, .int x1), (2, .int x2)]) : W p l e rm_Rules_isNotTurned s m args below meth c H locs 0 0 (MQ below (Qi D A (wd_Rules_isNotTurned kc ad su_lines su_length su_perNote su_above su_numbers) r) args s 0 0 A) (F0 m 37 ls [.int t0]) := by
  obtain ⟨hx, hb, hr, hts, hown, hml, hlocks, hK, hN, hA, hX⟩ := id C
  obtain ⟨hP, hD, hS⟩ := hZ
  unfold m_Rules_isNotTurned_37 at hm
  refine lv_istore (lv' := [(4, .int t0), (0, .ref (ad 8)), (1, .int x1), (2, .int x2)]) hx hb d_Rules_isNotTurned_37 hl (by decide) rfl (fun ls hl => ?_)
  refine lv_aload_n hx hb d_Rules_isNotTurned_39 rfl (lv_at hl 1 rfl) ?_
  refine lv_iload_n hx hb d_Rules_isNotTurned_40 rfl (lv_at hl 2 rfl) ?_
  refine lv_iload_n hx hb d_Rules_isNotTurned_41 rfl (lv_at hl 3 rfl) ?_
  obtain ⟨u1, hc2, hm⟩ := bd_some hm
  refine zV_i (n := 2) (wr := []) (w1 := (wd_Rules_mustTurn kc ad su_lines su_length su_perNote su_above su_numbers)) (ws1 := (wd_Rules_isNotTurned kc ad su_lines su_length su_perNote su_above su_numbers)) (As := [.int x1, .int x2]) (rest := []) (ci := 5) (q0 := 2) (y := y_Rules_mustTurn) ⟨hx, hb, hml, hown, hts⟩ (fun sz => c_Rules_mustTurn hc2 sz) gw_558 gw_575 gw_557 gw_25 gw_114 hd_Rules_mustTurn ⟨Nat.le_of_ble_eq_true rfl, Nat.le_of_ble_eq_true rfl⟩ ⟨rfl, rfl⟩ ⟨Nat.zero_le _, Nat.zero_le _⟩ hK hN hP hD hS hA hX [0, 1, 2] [] [0, 1, 2] rfl rfl (by decide) (by decide) (by decide) rfl (by decide) rfl rfl rfl hl.1 rfl (Nat.le_of_ble_eq_true rfl) d_Rules_isNotTurned_42 (fun H locs hP hD hS => ?_)
  refine lv_if_eq (tgt := 57) hx hb d_Rules_isNotTurned_45 (by decide) (fun c3 => ?_) (fun c3 => ?_)
  · replace hm := ifT hm c3
    refine lv_iconst (v := 0) hx hb d_Rules_isNotTurned_57 (by decide) ?_
    replace hm := Option.some.inj hm; subst hm
    exact zret_z (v := 0) C hP hD hS (by rfl) d_Rules_isNotTurned_58
  · replace hm := ifF hm c3
    refine lv_iload hx hb d_Rules_isNotTurned_48 (lv_at hl 0 rfl) ?_
    refine lv_if_ne (tgt := 57) hx hb d_Rules_isNotTurned_50 (by decide) (fun c4 => ?_) (fun c4 => ?_)
    · replace hm := ifF hm c4
      refine lv_iconst (v := 0) hx hb d_Rules_isNotTurned_57 (by decide) ?_
      replace hm := Option.some.inj hm; subst hm
      exact zret_z (v := 0) C hP hD hS (by rfl) d_Rules_isNotTurned_58
    · replace hm := ifT hm c4
      refine lv_iconst (v := 1) hx hb d_Rules_isNotTurned_53 (by decide) ?_
      refine lv_goto (tgt := 58) hx hb d_Rules_isNotTurned_54 (by decide) ?_
      replace hm := Option.some.inj hm; subst hm
      exact zret_z (v := 1) C hP hD hS (by rfl) d_Rules_isNotTurned_58
def m_Rules_isNotTurned_36 (su_numbers : Nat → Int32)   (x1 : Int32) (x2 : Int32) : Option (Int32) :=
  m_Rules_isNotTurned_37 su_numbers  x1 x2 (0 : Int32)
set_option maxHeartbeats 4000000 in
set_option maxRecDepth 100000 in
theorem l_Rules_isNotTurned_36 {r : Int32} {ad : Nat → Nat} {su_lines : Int32} {su_length : Int32} {su_perNote : Int32} {su_above : Int32} {su_numbers : Nat → Int32}  {x1 : Int32} {x2 : Int32} {H : Heap} {locs : List Loc} {ls : Array Slot} (C : Cx p s m meth c args A D kc R_Rules b_Rules_isNotTurned 5 (some .boolean))  (hm : m_Rules_isNotTurned_36 su_numbers  x1 x2 = some r) (hZ : St D A s (wd_Rules_isNotTurned kc ad su_lines su_length su_perNote su_above su_numbers) H locs) (hl : lv_has ls 5 [(0, .ref (ad 8)), (1, .int x1), (2, .int x2)]) : W p l e rm_Rules_isNotTurned s m args below meth c H locs 0 0 (MQ below (Qi D A (wd_Rules_isNotTurned kc ad su_lines su_length su_perNote su_above su_numbers) r) args s 0 0 A) (F0 m 36 ls []) := by
  obtain ⟨hx, hb, hr, hts, hown, hml, hlocks, hK, hN, hA, hX⟩ := id C
  obtain ⟨hP, hD, hS⟩ := hZ
  unfold m_Rules_isNotTurned_36 at hm
  refine lv_iconst (v := 0) hx hb d_Rules_isNotTurned_36 (by decide) ?_
  exact l_Rules_isNotTurned_37 C  hm ⟨hP, hD, hS⟩ (lv_sub hl [0, 1, 2] rfl)
def m_Rules_isNotTurned_20 (su_numbers : Nat → Int32)   (x1 : Int32) (x2 : Int32) (x3 : Int32) (t0 : Int32) (t1 : Int32) : Option (Int32) :=
  (if t0 = t1 then
    (bd (m_Rules_isStepwise su_numbers x2 x3) (fun u2 => (if u2 = (0 : Int32) then
      m_Rules_isNotTurned_36 su_numbers  x1 x2
    else
      m_Rules_isNotTurned_37 su_numbers  x1 x2 (1 : Int32))))
  else
    m_Rules_isNotTurned_36 su_numbers  x1 x2)
set_option maxHeartbeats 4000000 in
set_option maxRecDepth 100000 in
theorem l_Rules_isNotTurned_20 {r : Int32} {ad : Nat → Nat} {su_lines : Int32} {su_length : Int32} {su_perNote : Int32} {su_above : Int32} {su_numbers : Nat → Int32}  {x1 : Int32} {x2 : Int32} {x3 : Int32} {t0 : Int32} {t1 : Int32} {H : Heap} {locs : List Loc} {ls : Array Slot} (C : Cx p s m meth c args A D kc R_Rules b_Rules_isNotTurned 5 (some .boolean))  (hm : m_Rules_isNotTurned_20 su_numbers  x1 x2 x3 t0 t1 = some r) (hZ : St D A s (wd_Rules_isNotTurned kc ad su_lines su_length su_perNote su_above su_numbers) H locs) (hl : lv_has ls 5 [(0, .ref (ad 8)), (1, .int x1), (2, .int x2), (3, .int x3)]) : W p l e rm_Rules_isNotTurned s m args below meth c H locs 0 0 (MQ below (Qi D A (wd_Rules_isNotTurned kc ad su_lines su_length su_perNote su_above su_numbers) r) args s 0 0 A) (F0 m 20 ls [.int t1, .int t0]) := by
  obtain ⟨hx, hb, hr, hts, hown, hml, hlocks, hK, hN, hA, hX⟩ := id C
  obtain ⟨hP, hD, hS⟩ := hZ
  unfold m_Rules_isNotTurned_20 at hm
  refine lv_icmp_ne (tgt := 36) hx hb d_Rules_isNotTurned_20 (by decide) (fun c1 => ?_) (fun c1 => ?_)
  · replace hm := ifF hm c1
    exact l_Rules_isNotTurned_36 C  hm ⟨hP, hD, hS⟩ (lv_sub hl [0, 1, 2] rfl)
  · replace hm := ifT hm c1
    refine lv_aload_n hx hb d_Rules_isNotTurned_23 rfl (lv_at hl 0 rfl) ?_
    refine lv_iload_n hx hb d_Rules_isNotTurned_24 rfl (lv_at hl 2 rfl) ?_
    refine lv_iload_n hx hb d_Rules_isNotTurned_25 rfl (lv_at hl 3 rfl) ?_
    obtain ⟨u2, hc3, hm⟩ := bd_some hm
    refine zV_i (n := 2) (wr := []) (w1 := (wd_Rules_isStepwise kc ad su_lines su_length su_perNote su_above su_numbers)) (ws1 := (wd_Rules_isNotTurned kc ad su_lines su_length su_perNote su_above su_numbers)) (As := [.int x2, .int x3]) (rest := []) (ci := 5) (q0 := 2) (y := y_Rules_isStepwise) ⟨hx, hb, hml, hown, hts⟩ (fun sz => c_Rules_isStepwise hc3 sz) gw_566 gw_563 gw_565 gw_27 gw_114 hd_Rules_isStepwise ⟨Nat.le_of_ble_eq_true rfl, Nat.le_of_ble_eq_true rfl⟩ ⟨rfl, rfl⟩ ⟨Nat.zero_le _, Nat.zero_le _⟩ hK hN hP hD hS hA hX [0, 1, 2] [] [0, 1, 2] rfl rfl (by decide) (by decide) (by decide) rfl (by decide) rfl rfl rfl hl.1 rfl (Nat.le_of_ble_eq_true rfl) d_Rules_isNotTurned_26 (fun H locs hP hD hS => ?_)
    refine lv_if_eq (tgt := 36) hx hb d_Rules_isNotTurned_29 (by decide) (fun c4 => ?_) (fun c4 => ?_)
    · replace hm := ifT hm c4
      exact l_Rules_isNotTurned_36 C  hm ⟨hP, hD, hS⟩ (lv_sub hl [0, 1, 2] rfl)
    · replace hm := ifF hm c4
      refine lv_iconst (v := 1) hx hb d_Rules_isNotTurned_32 (by decide) ?_
      refine lv_goto (tgt := 37) hx hb d_Rules_isNotTurned_33 (by decide) ?_
      exact l_Rules_isNotTurned_37 C  hm ⟨hP, hD, hS⟩ (lv_sub hl [0, 1, 2] rfl)
def m_Rules_isNotTurned_10 (su_numbers : Nat → Int32)   (x1 : Int32) (x2 : Int32) (x3 : Int32) (t0 : Int32) : Option (Int32) :=
  (if x2 ≤ x3 then
    m_Rules_isNotTurned_20 su_numbers  x1 x2 x3 t0 (0 : Int32)
  else
    m_Rules_isNotTurned_20 su_numbers  x1 x2 x3 t0 (1 : Int32))
set_option maxHeartbeats 4000000 in
set_option maxRecDepth 100000 in
theorem l_Rules_isNotTurned_10 {r : Int32} {ad : Nat → Nat} {su_lines : Int32} {su_length : Int32} {su_perNote : Int32} {su_above : Int32} {su_numbers : Nat → Int32}  {x1 : Int32} {x2 : Int32} {x3 : Int32} {t0 : Int32} {H : Heap} {locs : List Loc} {ls : Array Slot} (C : Cx p s m meth c args A D kc R_Rules b_Rules_isNotTurned 5 (some .boolean))  (hm : m_Rules_isNotTurned_10 su_numbers  x1 x2 x3 t0 = some r) (hZ : St D A s (wd_Rules_isNotTurned kc ad su_lines su_length su_perNote su_above su_numbers) H locs) (hl : lv_has ls 5 [(0, .ref (ad 8)), (1, .int x1), (2, .int x2), (3, .int x3)]) : W p l e rm_Rules_isNotTurned s m args below meth c H locs 0 0 (MQ below (Qi D A (wd_Rules_isNotTurned kc ad su_lines su_length su_perNote su_above su_numbers) r) args s 0 0 A) (F0 m 10 ls [.int t0]) := by
  obtain ⟨hx, hb, hr, hts, hown, hml, hlocks, hK, hN, hA, hX⟩ := id C
  obtain ⟨hP, hD, hS⟩ := hZ
  unfold m_Rules_isNotTurned_10 at hm
  refine lv_iload_n hx hb d_Rules_isNotTurned_10 rfl (lv_at hl 3 rfl) ?_
  refine lv_iload_n hx hb d_Rules_isNotTurned_11 rfl (lv_at hl 2 rfl) ?_
  refine lv_icmp_ge (tgt := 19) hx hb d_Rules_isNotTurned_12 (by decide) (fun c1 => ?_) (fun c1 => ?_)
  · replace hm := ifT hm c1
    refine lv_iconst (v := 0) hx hb d_Rules_isNotTurned_19 (by decide) ?_
    exact l_Rules_isNotTurned_20 C  hm ⟨hP, hD, hS⟩ (lv_sub hl [0, 1, 2, 3] rfl)
  · replace hm := ifF hm c1
    refine lv_iconst (v := 1) hx hb d_Rules_isNotTurned_15 (by decide) ?_
    refine lv_goto (tgt := 20) hx hb d_Rules_isNotTurned_16 (by decide) ?_
    exact l_Rules_isNotTurned_20 C  hm ⟨hP, hD, hS⟩ (lv_sub hl [0, 1, 2, 3] rfl)
def m_Rules_isNotTurned (su_numbers : Nat → Int32)  (a1 : Int32) (a2 : Int32) (a3 : Int32) : Option (Int32) :=
  (if a2 ≤ a1 then
    m_Rules_isNotTurned_10 su_numbers  a1 a2 a3 (0 : Int32)
  else
    m_Rules_isNotTurned_10 su_numbers  a1 a2 a3 (1 : Int32))
set_option maxHeartbeats 4000000 in
set_option maxRecDepth 100000 in
theorem e_Rules_isNotTurned {r : Int32} {ad : Nat → Nat} {su_lines : Int32} {su_length : Int32} {su_perNote : Int32} {su_above : Int32} {su_numbers : Nat → Int32} {a1 : Int32} {a2 : Int32} {a3 : Int32} {H : Heap} {locs : List Loc} {ls : Array Slot} (C : Cx p s m meth c args A D kc R_Rules b_Rules_isNotTurned 5 (some .boolean)) (hm : m_Rules_isNotTurned su_numbers a1 a2 a3 = some r) (hZ : St D A s (wd_Rules_isNotTurned kc ad su_lines su_length su_perNote su_above su_numbers) H locs) (hl : lv_has ls 5 [(0, .ref (ad 8)), (1, .int a1), (2, .int a2), (3, .int a3)]) : W p l e rm_Rules_isNotTurned s m args below meth c H locs 0 0 (MQ below (Qi D A (wd_Rules_isNotTurned kc ad su_lines su_length su_perNote su_above su_numbers) r) args s 0 0 A) (F0 m 0 ls []) := by
  obtain ⟨hx, hb, hr, hts, hown, hml, hlocks, hK, hN, hA, hX⟩ := id C
  obtain ⟨hP, hD, hS⟩ := hZ
  unfold m_Rules_isNotTurned at hm
  refine lv_iload_n hx hb d_Rules_isNotTurned_0 rfl (lv_at hl 1 rfl) ?_
  refine lv_iload_n hx hb d_Rules_isNotTurned_1 rfl (lv_at hl 2 rfl) ?_
  refine lv_icmp_ge (tgt := 9) hx hb d_Rules_isNotTurned_2 (by decide) (fun c1 => ?_) (fun c1 => ?_)
  · replace hm := ifT hm c1
    refine lv_iconst (v := 0) hx hb d_Rules_isNotTurned_9 (by decide) ?_
    exact l_Rules_isNotTurned_10 C  hm ⟨hP, hD, hS⟩ (lv_sub hl [0, 1, 2, 3] rfl)
  · replace hm := ifF hm c1
    refine lv_iconst (v := 1) hx hb d_Rules_isNotTurned_5 (by decide) ?_
    refine lv_goto (tgt := 10) hx hb d_Rules_isNotTurned_6 (by decide) ?_
    exact l_Rules_isNotTurned_10 C  hm ⟨hP, hD, hS⟩ (lv_sub hl [0, 1, 2, 3] rfl)
set_option maxHeartbeats 4000000 in
set_option maxRecDepth 100000 in
theorem c_Rules_isNotTurned {l : Launch} {D : va_G} {kc : Nat → ClassId} {r : Int32} {ad : Nat → Nat} {su_lines : Int32} {su_length : Int32} {su_perNote : Int32} {su_above : Int32} {su_numbers : Nat → Int32} {a1 : Int32} {a2 : Int32} {a3 : Int32} (hm : m_Rules_isNotTurned su_numbers a1 a2 a3 = some r) (sz : Nat) : Ci l y_Rules_isNotTurned ws_Rules_isNotTurned rm_Rules_isNotTurned D kc sz [.ref (ad 8), .int a1, .int a2, .int a3] (wd_Rules_isNotTurned kc ad su_lines su_length su_perNote su_above su_numbers) (wd_Rules_isNotTurned kc ad su_lines su_length su_perNote su_above su_numbers) r :=
  Cz_of (Qf := fun A => (Qi D A (wd_Rules_isNotTurned kc ad su_lines su_length su_perNote su_above su_numbers) r)) (cc := b_Rules_isNotTurned) (maxL := 5) (ret := (some .boolean)) (by decide) rfl rfl (fun C hZ hl => e_Rules_isNotTurned C hm hZ hl)
abbrev b_Rules_isPassing : ByteArray := prog_5_method_12_code
abbrev y_Rules_isPassing : MethodName := ⟨"SpeciesSolver$Rules", "isPassing", "(III)Z"⟩
theorem d_Rules_isPassing_0 : decode b_Rules_isPassing 0 = .ok (.iload_n 1, 1) := by decide +kernel
theorem d_Rules_isPassing_1 : decode b_Rules_isPassing 1 = .ok (.iload_n 2, 1) := by decide +kernel
theorem d_Rules_isPassing_2 : decode b_Rules_isPassing 2 = .ok (.if_icmp .ge 7, 3) := by decide +kernel
theorem d_Rules_isPassing_5 : decode b_Rules_isPassing 5 = .ok (.iconst 1, 1) := by decide +kernel
theorem d_Rules_isPassing_6 : decode b_Rules_isPassing 6 = .ok (.goto 4, 3) := by decide +kernel
theorem d_Rules_isPassing_9 : decode b_Rules_isPassing 9 = .ok (.iconst 0, 1) := by decide +kernel
theorem d_Rules_isPassing_10 : decode b_Rules_isPassing 10 = .ok (.iload_n 2, 1) := by decide +kernel
theorem d_Rules_isPassing_11 : decode b_Rules_isPassing 11 = .ok (.iload_n 3, 1) := by decide +kernel
theorem d_Rules_isPassing_12 : decode b_Rules_isPassing 12 = .ok (.if_icmp .ge 7, 3) := by decide +kernel
theorem d_Rules_isPassing_15 : decode b_Rules_isPassing 15 = .ok (.iconst 1, 1) := by decide +kernel
theorem d_Rules_isPassing_16 : decode b_Rules_isPassing 16 = .ok (.goto 4, 3) := by decide +kernel
theorem d_Rules_isPassing_19 : decode b_Rules_isPassing 19 = .ok (.iconst 0, 1) := by decide +kernel
theorem d_Rules_isPassing_20 : decode b_Rules_isPassing 20 = .ok (.if_icmp .ne 25, 3) := by decide +kernel
theorem d_Rules_isPassing_23 : decode b_Rules_isPassing 23 = .ok (.aload_n 0, 1) := by decide +kernel
theorem d_Rules_isPassing_24 : decode b_Rules_isPassing 24 = .ok (.iload_n 1, 1) := by decide +kernel
theorem d_Rules_isPassing_25 : decode b_Rules_isPassing 25 = .ok (.iload_n 2, 1) := by decide +kernel
theorem d_Rules_isPassing_26 : decode b_Rules_isPassing 26 = .ok (.invokevirtual 52, 3) := by decide +kernel
theorem d_Rules_isPassing_29 : decode b_Rules_isPassing 29 = .ok (.ifCond .eq 16, 3) := by decide +kernel
theorem d_Rules_isPassing_32 : decode b_Rules_isPassing 32 = .ok (.aload_n 0, 1) := by decide +kernel
theorem d_Rules_isPassing_33 : decode b_Rules_isPassing 33 = .ok (.iload_n 2, 1) := by decide +kernel
theorem d_Rules_isPassing_34 : decode b_Rules_isPassing 34 = .ok (.iload_n 3, 1) := by decide +kernel
theorem d_Rules_isPassing_35 : decode b_Rules_isPassing 35 = .ok (.invokevirtual 52, 3) := by decide +kernel
theorem d_Rules_isPassing_38 : decode b_Rules_isPassing 38 = .ok (.ifCond .eq 7, 3) := by decide +kernel
theorem d_Rules_isPassing_41 : decode b_Rules_isPassing 41 = .ok (.iconst 1, 1) := by decide +kernel
theorem d_Rules_isPassing_42 : decode b_Rules_isPassing 42 = .ok (.goto 4, 3) := by decide +kernel
theorem d_Rules_isPassing_45 : decode b_Rules_isPassing 45 = .ok (.iconst 0, 1) := by decide +kernel
theorem d_Rules_isPassing_46 : decode b_Rules_isPassing 46 = .ok (.ireturn, 1) := by decide +kernel
abbrev wd_Rules_isPassing (kc : Nat → ClassId) (ad : Nat → Nat) (su_lines : Int32) (su_length : Int32) (su_perNote : Int32) (su_above : Int32) (su_numbers : Nat → Int32) : va_W := [((ad 1), .inr (7, [.ref (ad 2), .ref (ad 3), .ref (ad 4), .int su_lines, .int su_length, .int su_perNote, .int su_above])), ((ad 2), .inl (kc 0, 18, .inl su_numbers)), ((ad 8), .inr (5, [.ref (ad 1)]))]
abbrev rm_Rules_isPassing : Room := { frames := 2, cells := 0, slots := 0, locals := 43 }
abbrev cw_Rules_isPassing : Cond := .code y_Rules_isPassing b_Rules_isPassing 4 (some .boolean)
abbrev ws_Rules_isPassing : List Cond := cw_Rules_isPassing :: GW
theorem hd_Rules_isPassing : y_Rules_isPassing.cls ≠ "java/lang/invoke/MethodHandle" ∧ y_Rules_isPassing.cls ≠ "java/lang/invoke/VarHandle" ∧ (parseMethodDescriptor y_Rules_isPassing.desc).map (fun d => d.parameters.length) = some 3 := by decide +kernel
def m_Rules_isPassing_20 (su_numbers : Nat → Int32)   (x1 : Int32) (x2 : Int32) (x3 : Int32) (t0 : Int32) (t1 : Int32) : Option (Int32) :=
  (if t0 = t1 then
    (bd (m_Rules_isStepwise su_numbers x1 x2) (fun u2 => (if u2 = (0 : Int32) then
      (some (0 : Int32))
    else
      (bd (m_Rules_isStepwise su_numbers x2 x3) (fun u5 => (if u5 = (0 : Int32) then
        (some (0 : Int32))
      else
        (some (1 : Int32))))))))
  else
    (some (0 : Int32)))
set_option maxHeartbeats 4000000 in
set_option maxRecDepth 100000 in
theorem l_Rules_isPassing_20 {r : Int32} {ad : Nat → Nat} {su_lines : Int32} {su_length : Int32} {su_perNote : Int32} {su_above : Int32} {su_numbers : Nat → Int32}  {x1 : Int32} {x2 : Int32} {x3 : Int32} {t0 : Int32} {t1 : Int32} {H : Heap} {locs : List Loc} {ls : Array Slot} (C : Cx p s m meth c args A D kc R_Rules b_Rules_isPassing 4 (some .boolean))  (hm : m_Rules_isPassing_20 su_numbers  x1 x2 x3 t0 t1 = some r) (hZ : St D A s (wd_Rules_isPassing kc ad su_lines su_length su_perNote su_above su_numbers) H locs) (hl : lv_has ls 4 [(0, .ref (ad 8)), (1, .int x1), (2, .int x2), (3, .int x3)]) : W p l e rm_Rules_isPassing s m args below meth c H locs 0 0 (MQ below (Qi D A (wd_Rules_isPassing kc ad su_lines su_length su_perNote su_above su_numbers) r) args s 0 0 A) (F0 m 20 ls [.int t1, .int t0]) := by
  obtain ⟨hx, hb, hr, hts, hown, hml, hlocks, hK, hN, hA, hX⟩ := id C
  obtain ⟨hP, hD, hS⟩ := hZ
  unfold m_Rules_isPassing_20 at hm
  refine lv_icmp_ne (tgt := 45) hx hb d_Rules_isPassing_20 (by decide) (fun c1 => ?_) (fun c1 => ?_)
  · replace hm := ifF hm c1
    refine lv_iconst (v := 0) hx hb d_Rules_isPassing_45 (by decide) ?_
    replace hm := Option.some.inj hm; subst hm
    exact zret_z (v := 0) C hP hD hS (by rfl) d_Rules_isPassing_46
  · replace hm := ifT hm c1
    refine lv_aload_n hx hb d_Rules_isPassing_23 rfl (lv_at hl 0 rfl) ?_
    refine lv_iload_n hx hb d_Rules_isPassing_24 rfl (lv_at hl 1 rfl) ?_
    refine lv_iload_n hx hb d_Rules_isPassing_25 rfl (lv_at hl 2 rfl) ?_
    obtain ⟨u2, hc3, hm⟩ := bd_some hm
    refine zV_i (n := 2) (wr := []) (w1 := (wd_Rules_isStepwise kc ad su_lines su_length su_perNote su_above su_numbers)) (ws1 := (wd_Rules_isPassing kc ad su_lines su_length su_perNote su_above su_numbers)) (As := [.int x1, .int x2]) (rest := []) (ci := 5) (q0 := 2) (y := y_Rules_isStepwise) ⟨hx, hb, hml, hown, hts⟩ (fun sz => c_Rules_isStepwise hc3 sz) gw_566 gw_563 gw_565 gw_27 gw_114 hd_Rules_isStepwise ⟨Nat.le_of_ble_eq_true rfl, Nat.le_of_ble_eq_true rfl⟩ ⟨rfl, rfl⟩ ⟨Nat.zero_le _, Nat.zero_le _⟩ hK hN hP hD hS hA hX [0, 1, 2] [] [0, 1, 2] rfl rfl (by decide) (by decide) (by decide) rfl (by decide) rfl rfl rfl hl.1 rfl (Nat.le_of_ble_eq_true rfl) d_Rules_isPassing_26 (fun H locs hP hD hS => ?_)
    refine lv_if_eq (tgt := 45) hx hb d_Rules_isPassing_29 (by decide) (fun c4 => ?_) (fun c4 => ?_)
    · replace hm := ifT hm c4
      refine lv_iconst (v := 0) hx hb d_Rules_isPassing_45 (by decide) ?_
      replace hm := Option.some.inj hm; subst hm
      exact zret_z (v := 0) C hP hD hS (by rfl) d_Rules_isPassing_46
    · replace hm := ifF hm c4
      refine lv_aload_n hx hb d_Rules_isPassing_32 rfl (lv_at hl 0 rfl) ?_
      refine lv_iload_n hx hb d_Rules_isPassing_33 rfl (lv_at hl 2 rfl) ?_
      refine lv_iload_n hx hb d_Rules_isPassing_34 rfl (lv_at hl 3 rfl) ?_
      obtain ⟨u5, hc6, hm⟩ := bd_some hm
      refine zV_i (n := 2) (wr := []) (w1 := (wd_Rules_isStepwise kc ad su_lines su_length su_perNote su_above su_numbers)) (ws1 := (wd_Rules_isPassing kc ad su_lines su_length su_perNote su_above su_numbers)) (As := [.int x2, .int x3]) (rest := []) (ci := 5) (q0 := 2) (y := y_Rules_isStepwise) ⟨hx, hb, hml, hown, hts⟩ (fun sz => c_Rules_isStepwise hc6 sz) gw_566 gw_563 gw_565 gw_27 gw_114 hd_Rules_isStepwise ⟨Nat.le_of_ble_eq_true rfl, Nat.le_of_ble_eq_true rfl⟩ ⟨rfl, rfl⟩ ⟨Nat.zero_le _, Nat.zero_le _⟩ hK hN hP hD hS hA hX [0, 1, 2] [] [0, 1, 2] rfl rfl (by decide) (by decide) (by decide) rfl (by decide) rfl rfl rfl hl.1 rfl (Nat.le_of_ble_eq_true rfl) d_Rules_isPassing_35 (fun H locs hP hD hS => ?_)
      refine lv_if_eq (tgt := 45) hx hb d_Rules_isPassing_38 (by decide) (fun c7 => ?_) (fun c7 => ?_)
      · replace hm := ifT hm c7
        refine lv_iconst (v := 0) hx hb d_Rules_isPassing_45 (by decide) ?_
        replace hm := Option.some.inj hm; subst hm
        exact zret_z (v := 0) C hP hD hS (by rfl) d_Rules_isPassing_46
      · replace hm := ifF hm c7
        refine lv_iconst (v := 1) hx hb d_Rules_isPassing_41 (by decide) ?_
        refine lv_goto (tgt := 46) hx hb d_Rules_isPassing_42 (by decide) ?_
        replace hm := Option.some.inj hm; subst hm
        exact zret_z (v := 1) C hP hD hS (by rfl) d_Rules_isPassing_46
def m_Rules_isPassing_10 (su_numbers : Nat → Int32)   (x1 : Int32) (x2 : Int32) (x3 : Int32) (t0 : Int32) : Option (Int32) :=
  (if x3 ≤ x2 then
    m_Rules_isPassing_20 su_numbers  x1 x2 x3 t0 (0 : Int32)
  else
    m_Rules_isPassing_20 su_numbers  x1 x2 x3 t0 (1 : Int32))
set_option maxHeartbeats 4000000 in
set_option maxRecDepth 100000 in
theorem l_Rules_isPassing_10 {r : Int32} {ad : Nat → Nat} {su_lines : Int32} {su_length : Int32} {su_perNote : Int32} {su_above : Int32} {su_numbers : Nat → Int32}  {x1 : Int32} {x2 : Int32} {x3 : Int32} {t0 : Int32} {H : Heap} {locs : List Loc} {ls : Array Slot} (C : Cx p s m meth c args A D kc R_Rules b_Rules_isPassing 4 (some .boolean))  (hm : m_Rules_isPassing_10 su_numbers  x1 x2 x3 t0 = some r) (hZ : St D A s (wd_Rules_isPassing kc ad su_lines su_length su_perNote su_above su_numbers) H locs) (hl : lv_has ls 4 [(0, .ref (ad 8)), (1, .int x1), (2, .int x2), (3, .int x3)]) : W p l e rm_Rules_isPassing s m args below meth c H locs 0 0 (MQ below (Qi D A (wd_Rules_isPassing kc ad su_lines su_length su_perNote su_above su_numbers) r) args s 0 0 A) (F0 m 10 ls [.int t0]) := by
  obtain ⟨hx, hb, hr, hts, hown, hml, hlocks, hK, hN, hA, hX⟩ := id C
  obtain ⟨hP, hD, hS⟩ := hZ
  unfold m_Rules_isPassing_10 at hm
  refine lv_iload_n hx hb d_Rules_isPassing_10 rfl (lv_at hl 2 rfl) ?_
  refine lv_iload_n hx hb d_Rules_isPassing_11 rfl (lv_at hl 3 rfl) ?_
  refine lv_icmp_ge (tgt := 19) hx hb d_Rules_isPassing_12 (by decide) (fun c1 => ?_) (fun c1 => ?_)
  · replace hm := ifT hm c1
    refine lv_iconst (v := 0) hx hb d_Rules_isPassing_19 (by decide) ?_
    exact l_Rules_isPassing_20 C  hm ⟨hP, hD, hS⟩ (lv_sub hl [0, 1, 2, 3] rfl)
  · replace hm := ifF hm c1
    refine lv_iconst (v := 1) hx hb d_Rules_isPassing_15 (by decide) ?_
    refine lv_goto (tgt := 20) hx hb d_Rules_isPassing_16 (by decide) ?_
    exact l_Rules_isPassing_20 C  hm ⟨hP, hD, hS⟩ (lv_sub hl [0, 1, 2, 3] rfl)
def m_Rules_isPassing (su_numbers : Nat → Int32)  (a1 : Int32) (a2 : Int32) (a3 : Int32) : Option (Int32) :=
  (if a2 ≤ a1 then
    m_Rules_isPassing_10 su_numbers  a1 a2 a3 (0 : Int32)
  else
    m_Rules_isPassing_10 su_numbers  a1 a2 a3 (1 : Int32))
set_option maxHeartbeats 4000000 in
set_option maxRecDepth 100000 in
theorem e_Rules_isPassing {r : Int32} {ad : Nat → Nat} {su_lines : Int32} {su_length : Int32} {su_perNote : Int32} {su_above : Int32} {su_numbers : Nat → Int32} {a1 : Int32} {a2 : Int32} {a3 : Int32} {H : Heap} {locs : List Loc} {ls : Array Slot} (C : Cx p s m meth c args A D kc R_Rules b_Rules_isPassing 4 (some .boolean)) (hm : m_Rules_isPassing su_numbers a1 a2 a3 = some r) (hZ : St D A s (wd_Rules_isPassing kc ad su_lines su_length su_perNote su_above su_numbers) H locs) (hl : lv_has ls 4 [(0, .ref (ad 8)), (1, .int a1), (2, .int a2), (3, .int a3)]) : W p l e rm_Rules_isPassing s m args below meth c H locs 0 0 (MQ below (Qi D A (wd_Rules_isPassing kc ad su_lines su_length su_perNote su_above su_numbers) r) args s 0 0 A) (F0 m 0 ls []) := by
  obtain ⟨hx, hb, hr, hts, hown, hml, hlocks, hK, hN, hA, hX⟩ := id C
  obtain ⟨hP, hD, hS⟩ := hZ
  unfold m_Rules_isPassing at hm
  refine lv_iload_n hx hb d_Rules_isPassing_0 rfl (lv_at hl 1 rfl) ?_
  refine lv_iload_n hx hb d_Rules_isPassing_1 rfl (lv_at hl 2 rfl) ?_
  refine lv_icmp_ge (tgt := 9) hx hb d_Rules_isPassing_2 (by decide) (fun c1 => ?_) (fun c1 => ?_)
  · replace hm := ifT hm c1
    refine lv_iconst (v := 0) hx hb d_Rules_isPassing_9 (by decide) ?_
    exact l_Rules_isPassing_10 C  hm ⟨hP, hD, hS⟩ (lv_sub hl [0, 1, 2, 3] rfl)
  · replace hm := ifF hm c1
    refine lv_iconst (v := 1) hx hb d_Rules_isPassing_5 (by decide) ?_
    refine lv_goto (tgt := 10) hx hb d_Rules_isPassing_6 (by decide) ?_
    exact l_Rules_isPassing_10 C  hm ⟨hP, hD, hS⟩ (lv_sub hl [0, 1, 2, 3] rfl)
set_option maxHeartbeats 4000000 in
set_option maxRecDepth 100000 in
theorem c_Rules_isPassing {l : Launch} {D : va_G} {kc : Nat → ClassId} {r : Int32} {ad : Nat → Nat} {su_lines : Int32} {su_length : Int32} {su_perNote : Int32} {su_above : Int32} {su_numbers : Nat → Int32} {a1 : Int32} {a2 : Int32} {a3 : Int32} (hm : m_Rules_isPassing su_numbers a1 a2 a3 = some r) (sz : Nat) : Ci l y_Rules_isPassing ws_Rules_isPassing rm_Rules_isPassing D kc sz [.ref (ad 8), .int a1, .int a2, .int a3] (wd_Rules_isPassing kc ad su_lines su_length su_perNote su_above su_numbers) (wd_Rules_isPassing kc ad su_lines su_length su_perNote su_above su_numbers) r :=
  Cz_of (Qf := fun A => (Qi D A (wd_Rules_isPassing kc ad su_lines su_length su_perNote su_above su_numbers) r)) (cc := b_Rules_isPassing) (maxL := 4) (ret := (some .boolean)) (by decide) rfl rfl (fun C hZ hl => e_Rules_isPassing C hm hZ hl)
end
