section
variable {p : Program} {l : Launch} {e : Env} {s : State} {m : MethodId} {args : Array Value} {below : List Frame} {meth : Method} {c : Code} {D : va_G} {kc : Nat → ClassId} {A : Nat → Prop}
abbrev b_SpeciesSolver_number : ByteArray := prog_1_method_8_code
abbrev y_SpeciesSolver_number : MethodName := ⟨"SpeciesSolver", "number", "(II)Z"⟩
theorem d_SpeciesSolver_number_0 : decode b_SpeciesSolver_number 0 = .ok (.iload_n 1, 1) := by decide +kernel
theorem d_SpeciesSolver_number_1 : decode b_SpeciesSolver_number 1 = .ok (.ifCond .lt 27, 3) := by decide +kernel
theorem d_SpeciesSolver_number_4 : decode b_SpeciesSolver_number 4 = .ok (.iload_n 1, 1) := by decide +kernel
theorem d_SpeciesSolver_number_5 : decode b_SpeciesSolver_number 5 = .ok (.bipush 18, 2) := by decide +kernel
theorem d_SpeciesSolver_number_7 : decode b_SpeciesSolver_number 7 = .ok (.if_icmp .ge 21, 3) := by decide +kernel
theorem d_SpeciesSolver_number_10 : decode b_SpeciesSolver_number 10 = .ok (.iload_n 2, 1) := by decide +kernel
theorem d_SpeciesSolver_number_11 : decode b_SpeciesSolver_number 11 = .ok (.getstatic 112, 3) := by decide +kernel
theorem d_SpeciesSolver_number_14 : decode b_SpeciesSolver_number 14 = .ok (.iload_n 1, 1) := by decide +kernel
theorem d_SpeciesSolver_number_15 : decode b_SpeciesSolver_number 15 = .ok (.iaload, 1) := by decide +kernel
theorem d_SpeciesSolver_number_16 : decode b_SpeciesSolver_number 16 = .ok (.if_icmp .lt 12, 3) := by decide +kernel
theorem d_SpeciesSolver_number_19 : decode b_SpeciesSolver_number 19 = .ok (.iload_n 2, 1) := by decide +kernel
theorem d_SpeciesSolver_number_20 : decode b_SpeciesSolver_number 20 = .ok (.getstatic 116, 3) := by decide +kernel
theorem d_SpeciesSolver_number_23 : decode b_SpeciesSolver_number 23 = .ok (.iload_n 1, 1) := by decide +kernel
theorem d_SpeciesSolver_number_24 : decode b_SpeciesSolver_number 24 = .ok (.iaload, 1) := by decide +kernel
theorem d_SpeciesSolver_number_25 : decode b_SpeciesSolver_number 25 = .ok (.if_icmp .le 5, 3) := by decide +kernel
theorem d_SpeciesSolver_number_28 : decode b_SpeciesSolver_number 28 = .ok (.iconst 0, 1) := by decide +kernel
theorem d_SpeciesSolver_number_29 : decode b_SpeciesSolver_number 29 = .ok (.ireturn, 1) := by decide +kernel
theorem d_SpeciesSolver_number_30 : decode b_SpeciesSolver_number 30 = .ok (.aload_n 0, 1) := by decide +kernel
theorem d_SpeciesSolver_number_31 : decode b_SpeciesSolver_number 31 = .ok (.getfield 39, 3) := by decide +kernel
theorem d_SpeciesSolver_number_34 : decode b_SpeciesSolver_number 34 = .ok (.getfield 119, 3) := by decide +kernel
theorem d_SpeciesSolver_number_37 : decode b_SpeciesSolver_number 37 = .ok (.iload_n 1, 1) := by decide +kernel
theorem d_SpeciesSolver_number_38 : decode b_SpeciesSolver_number 38 = .ok (.iload_n 2, 1) := by decide +kernel
theorem d_SpeciesSolver_number_39 : decode b_SpeciesSolver_number 39 = .ok (.iastore, 1) := by decide +kernel
theorem d_SpeciesSolver_number_40 : decode b_SpeciesSolver_number 40 = .ok (.aload_n 0, 1) := by decide +kernel
theorem d_SpeciesSolver_number_41 : decode b_SpeciesSolver_number 41 = .ok (.iconst 0, 1) := by decide +kernel
theorem d_SpeciesSolver_number_42 : decode b_SpeciesSolver_number 42 = .ok (.putfield 32, 3) := by decide +kernel
theorem d_SpeciesSolver_number_45 : decode b_SpeciesSolver_number 45 = .ok (.iconst 1, 1) := by decide +kernel
theorem d_SpeciesSolver_number_46 : decode b_SpeciesSolver_number 46 = .ok (.ireturn, 1) := by decide +kernel
abbrev wd_SpeciesSolver_number (kc : Nat → ClassId) (ad : Nat → Nat) (mn_bestCost : Int32) (mn_bestPerNote : Int32) (mn_bestLength : Int32) (mn_searched : Int32) (su_lines : Int32) (su_length : Int32) (su_perNote : Int32) (su_above : Int32) (su_numbers : Nat → Int32) : va_W := [((ad 0), .inr (0, [.ref (ad 1), .ref (ad 8), .ref (ad 9), .ref (ad 13), .ref (ad 23), .ref (ad 34), .ref (ad 36), .ref (ad 38), .int mn_bestCost, .int mn_bestPerNote, .int mn_bestLength, .int mn_searched])), ((ad 1), .inr (7, [.ref (ad 2), .ref (ad 3), .ref (ad 4), .int su_lines, .int su_length, .int su_perNote, .int su_above])), ((ad 2), .inl (kc 0, 18, .inl su_numbers))]
abbrev rm_SpeciesSolver_number : Room := { frames := 0, cells := 0, slots := 0, locals := 0 }
abbrev cw_SpeciesSolver_number : Cond := .code y_SpeciesSolver_number b_SpeciesSolver_number 3 (some .boolean)
abbrev ws_SpeciesSolver_number : List Cond := cw_SpeciesSolver_number :: GW
theorem hd_SpeciesSolver_number : y_SpeciesSolver_number.cls ≠ "java/lang/invoke/MethodHandle" ∧ y_SpeciesSolver_number.cls ≠ "java/lang/invoke/VarHandle" ∧ (parseMethodDescriptor y_SpeciesSolver_number.desc).map (fun d => d.parameters.length) = some 2 := by decide +kernel
def m_SpeciesSolver_number  (mn_searched : Int32) (su_numbers : Nat → Int32) (a1 : Int32) (a2 : Int32) : Option (Int32 × Int32 × (Nat → Int32)) :=
  (if a1 < (0 : Int32) then
    (some ((0 : Int32), mn_searched, su_numbers))
  else
    (if (18 : Int32) ≤ a1 then
      (some ((0 : Int32), mn_searched, su_numbers))
    else
      (gd a1 18 (if a2 < (stab 1 (Int32.toNatClampNeg a1)) then
        (some ((0 : Int32), mn_searched, su_numbers))
      else
        (gd a1 18 (if a2 ≤ (stab 2 (Int32.toNatClampNeg a1)) then
          (gd a1 18 (some ((1 : Int32), (0 : Int32), (upd su_numbers (Int32.toNatClampNeg a1) a2))))
        else
          (some ((0 : Int32), mn_searched, su_numbers))))))))
set_option maxHeartbeats 4000000 in
set_option maxRecDepth 100000 in
theorem e_SpeciesSolver_number {r : Int32 × Int32 × (Nat → Int32)} {ad : Nat → Nat} {mn_bestCost : Int32} {mn_bestPerNote : Int32} {mn_bestLength : Int32} {mn_searched : Int32} {su_lines : Int32} {su_length : Int32} {su_perNote : Int32} {su_above : Int32} {su_numbers : Nat → Int32} {a1 : Int32} {a2 : Int32} {H : Heap} {locs : List Loc} {ls : Array Slot} (C : Cx p s m meth c args A D kc R_SpeciesSolver b_SpeciesSolver_number 3 (some .boolean)) (hm : m_SpeciesSolver_number  mn_searched su_numbers a1 a2 = some r) (hZ : St D A s (wd_SpeciesSolver_number kc ad mn_bestCost mn_bestPerNote mn_bestLength mn_searched su_lines su_length su_perNote su_above su_numbers) H locs) (hl : lv_has ls 3 [(0, .ref (ad 0)), (1, .int a1), (2, .int a2)]) : W p l e rm_SpeciesSolver_number s m args below meth c H locs 0 0 (MQ below (Qi D A (wd_SpeciesSolver_number kc ad mn_bestCost mn_bestPerNote mn_bestLength r.2.1 su_lines su_length su_perNote su_above r.2.2) r.1) args s 0 0 A) (F0 m 0 ls []) := by
  obtain ⟨hx, hb, hr, hts, hown, hml, hlocks, hK, hN, hA, hX⟩ := id C
  obtain ⟨hP, hD, hS⟩ := hZ
  unfold m_SpeciesSolver_number at hm
  refine lv_iload_n hx hb d_SpeciesSolver_number_0 rfl (lv_at hl 1 rfl) ?_
  refine lv_if_lt (tgt := 28) hx hb d_SpeciesSolver_number_1 (by decide) (fun c1 => ?_) (fun c1 => ?_)
  · replace hm := ifT hm c1
    refine lv_iconst (v := 0) hx hb d_SpeciesSolver_number_28 (by decide) ?_
    replace hm := Option.some.inj hm; subst hm
    exact zret_z (v := 0) C hP hD hS (by rfl) d_SpeciesSolver_number_29
  · replace hm := ifF hm c1
    refine lv_iload_n hx hb d_SpeciesSolver_number_4 rfl (lv_at hl 1 rfl) ?_
    refine lv_bipush (v := 18) hx hb d_SpeciesSolver_number_5 (by decide) ?_
    refine lv_icmp_ge (tgt := 28) hx hb d_SpeciesSolver_number_7 (by decide) (fun c2 => ?_) (fun c2 => ?_)
    · replace hm := ifT hm c2
      refine lv_iconst (v := 0) hx hb d_SpeciesSolver_number_28 (by decide) ?_
      replace hm := Option.some.inj hm; subst hm
      exact zret_z (v := 0) C hP hD hS (by rfl) d_SpeciesSolver_number_29
    · replace hm := ifF hm c2
      refine lv_iload_n hx hb d_SpeciesSolver_number_10 rfl (lv_at hl 2 rfl) ?_
      obtain ⟨ts, hXa⟩ := id hX
      refine va_gets hx hb (hXa 1 (by decide)).1 hS hown (hts _ gw_457) (fun _ h9 => h9) d_SpeciesSolver_number_11 ?_
      refine lv_iload_n hx hb d_SpeciesSolver_number_14 rfl (lv_at hl 1 rfl) ?_
      obtain ⟨hi3, hm⟩ := gd_some hm
      refine va_ti hx hb (hXa 1 (by decide)).2 hS hi3 rfl d_SpeciesSolver_number_15 ?_
      refine lv_icmp_lt (tgt := 28) hx hb d_SpeciesSolver_number_16 (by decide) (fun c4 => ?_) (fun c4 => ?_)
      · replace hm := ifT hm c4
        refine lv_iconst (v := 0) hx hb d_SpeciesSolver_number_28 (by decide) ?_
        replace hm := Option.some.inj hm; subst hm
        exact zret_z (v := 0) C hP hD hS (by rfl) d_SpeciesSolver_number_29
      · replace hm := ifF hm c4
        refine lv_iload_n hx hb d_SpeciesSolver_number_19 rfl (lv_at hl 2 rfl) ?_
        obtain ⟨ts, hXa⟩ := id hX
        refine va_gets hx hb (hXa 2 (by decide)).1 hS hown (hts _ gw_459) (fun _ h9 => h9) d_SpeciesSolver_number_20 ?_
        refine lv_iload_n hx hb d_SpeciesSolver_number_23 rfl (lv_at hl 1 rfl) ?_
        obtain ⟨hi5, hm⟩ := gd_some hm
        refine va_ti hx hb (hXa 2 (by decide)).2 hS hi5 rfl d_SpeciesSolver_number_24 ?_
        refine lv_icmp_le (tgt := 30) hx hb d_SpeciesSolver_number_25 (by decide) (fun c6 => ?_) (fun c6 => ?_)
        · replace hm := ifT hm c6
          refine lv_aload_n hx hb d_SpeciesSolver_number_30 rfl (lv_at hl 0 rfl) ?_
          refine va_get (D := D) (ci := 0) (v := .ref (ad 1)) (C := R_SpeciesSolver) (T := T_SpeciesSolver) (N := 12) hx hb hts inG_SpeciesSolver hown hK hP 0 rfl rfl 0 (by decide) (hts _ gw_368) (fun _ h9 => h9) rfl d_SpeciesSolver_number_31 ?_
          refine va_getN (D := D) (ci := 7) (v := .ref (ad 2)) (C := R_Setup) (T := T_Setup) (N := 7) hx hb hts inG_Setup hown hK hP 1 rfl rfl 0 (by decide) (va_Nw.use rfl (hN _ nw_160)) (fun _ h9 => h9) rfl d_SpeciesSolver_number_34 ?_
          refine lv_iload_n hx hb d_SpeciesSolver_number_37 rfl (lv_at hl 1 rfl) ?_
          refine lv_iload_n hx hb d_SpeciesSolver_number_38 rfl (lv_at hl 2 rfl) ?_
          obtain ⟨hi7, hm⟩ := gd_some hm
          refine va_iast hx hb hK hP hD hS 2 0 rfl rfl hi7 d_SpeciesSolver_number_39 (fun H locs hP hD hS => ?_)
          replace hP : va_P D vwCl (wd_SpeciesSolver_number kc ad mn_bestCost mn_bestPerNote mn_bestLength mn_searched su_lines su_length su_perNote su_above (upd su_numbers (Int32.toNatClampNeg a1) a2)) H := hP
          replace hD : va_D A (wd_SpeciesSolver_number kc ad mn_bestCost mn_bestPerNote mn_bestLength mn_searched su_lines su_length su_perNote su_above (upd su_numbers (Int32.toNatClampNeg a1) a2)) := hD
          refine lv_aload_n hx hb d_SpeciesSolver_number_40 rfl (lv_at hl 0 rfl) ?_
          refine lv_iconst (v := 0) hx hb d_SpeciesSolver_number_41 (by decide) ?_
          refine va_put (D := D) (ci := 0) (v := .int (0 : Int32)) (ty := .boolean) (C := R_SpeciesSolver) (T := T_SpeciesSolver) (N := 12) hx hb hts inG_SpeciesSolver ty_SpeciesSolver tok_SpeciesSolver nmo_SpeciesSolver hown hK hP hD hS 0 rfl rfl 11 (by decide) (hts _ gw_379) (fun _ h9 => h9) rfl (tok_SpeciesSolver 11 (by decide)) rfl rfl (Nat.le_of_ble_eq_true rfl) d_SpeciesSolver_number_42 (fun H locs hP hD hS => ?_)
          replace hP : va_P D vwCl (wd_SpeciesSolver_number kc ad mn_bestCost mn_bestPerNote mn_bestLength (0 : Int32) su_lines su_length su_perNote su_above (upd su_numbers (Int32.toNatClampNeg a1) a2)) H := hP
          replace hD : va_D A (wd_SpeciesSolver_number kc ad mn_bestCost mn_bestPerNote mn_bestLength (0 : Int32) su_lines su_length su_perNote su_above (upd su_numbers (Int32.toNatClampNeg a1) a2)) := hD
          refine lv_iconst (v := 1) hx hb d_SpeciesSolver_number_45 (by decide) ?_
          replace hm := Option.some.inj hm; subst hm
          exact zret_z (v := 1) C hP hD hS (by rfl) d_SpeciesSolver_number_46
        · replace hm := ifF hm c6
          refine lv_iconst (v := 0) hx hb d_SpeciesSolver_number_28 (by decide) ?_
          replace hm := Option.some.inj hm; subst hm
          exact zret_z (v := 0) C hP hD hS (by rfl) d_SpeciesSolver_number_29
set_option maxHeartbeats 4000000 in
set_option maxRecDepth 100000 in
theorem c_SpeciesSolver_number {l : Launch} {D : va_G} {kc : Nat → ClassId} {r : Int32 × Int32 × (Nat → Int32)} {ad : Nat → Nat} {mn_bestCost : Int32} {mn_bestPerNote : Int32} {mn_bestLength : Int32} {mn_searched : Int32} {su_lines : Int32} {su_length : Int32} {su_perNote : Int32} {su_above : Int32} {su_numbers : Nat → Int32} {a1 : Int32} {a2 : Int32} (hm : m_SpeciesSolver_number  mn_searched su_numbers a1 a2 = some r) (sz : Nat) : Ci l y_SpeciesSolver_number ws_SpeciesSolver_number rm_SpeciesSolver_number D kc sz [.ref (ad 0), .int a1, .int a2] (wd_SpeciesSolver_number kc ad mn_bestCost mn_bestPerNote mn_bestLength mn_searched su_lines su_length su_perNote su_above su_numbers) (wd_SpeciesSolver_number kc ad mn_bestCost mn_bestPerNote mn_bestLength r.2.1 su_lines su_length su_perNote su_above r.2.2) r.1 :=
  Cz_of (Qf := fun A => (Qi D A (wd_SpeciesSolver_number kc ad mn_bestCost mn_bestPerNote mn_bestLength r.2.1 su_lines su_length su_perNote su_above r.2.2) r.1)) (cc := b_SpeciesSolver_number) (maxL := 3) (ret := (some .boolean)) (by decide) rfl rfl (fun C hZ hl => e_SpeciesSolver_number C hm hZ hl)
abbrev b_SpeciesSolver_setting : ByteArray := prog_1_method_9_code
abbrev y_SpeciesSolver_setting : MethodName := ⟨"SpeciesSolver", "setting", "(I)I"⟩
theorem d_SpeciesSolver_setting_0 : decode b_SpeciesSolver_setting 0 = .ok (.iload_n 1, 1) := by decide +kernel
theorem d_SpeciesSolver_setting_1 : decode b_SpeciesSolver_setting 1 = .ok (.ifCond .lt 9, 3) := by decide +kernel
theorem d_SpeciesSolver_setting_4 : decode b_SpeciesSolver_setting 4 = .ok (.iload_n 1, 1) := by decide +kernel
theorem d_SpeciesSolver_setting_5 : decode b_SpeciesSolver_setting 5 = .ok (.bipush 18, 2) := by decide +kernel
theorem d_SpeciesSolver_setting_7 : decode b_SpeciesSolver_setting 7 = .ok (.if_icmp .lt 7, 3) := by decide +kernel
theorem d_SpeciesSolver_setting_10 : decode b_SpeciesSolver_setting 10 = .ok (.iconst (-1), 1) := by decide +kernel
theorem d_SpeciesSolver_setting_11 : decode b_SpeciesSolver_setting 11 = .ok (.goto 12, 3) := by decide +kernel
theorem d_SpeciesSolver_setting_14 : decode b_SpeciesSolver_setting 14 = .ok (.aload_n 0, 1) := by decide +kernel
theorem d_SpeciesSolver_setting_15 : decode b_SpeciesSolver_setting 15 = .ok (.getfield 39, 3) := by decide +kernel
theorem d_SpeciesSolver_setting_18 : decode b_SpeciesSolver_setting 18 = .ok (.getfield 119, 3) := by decide +kernel
theorem d_SpeciesSolver_setting_21 : decode b_SpeciesSolver_setting 21 = .ok (.iload_n 1, 1) := by decide +kernel
theorem d_SpeciesSolver_setting_22 : decode b_SpeciesSolver_setting 22 = .ok (.iaload, 1) := by decide +kernel
theorem d_SpeciesSolver_setting_23 : decode b_SpeciesSolver_setting 23 = .ok (.ireturn, 1) := by decide +kernel
abbrev wd_SpeciesSolver_setting (kc : Nat → ClassId) (ad : Nat → Nat) (mn_bestCost : Int32) (mn_bestPerNote : Int32) (mn_bestLength : Int32) (mn_searched : Int32) (su_lines : Int32) (su_length : Int32) (su_perNote : Int32) (su_above : Int32) (su_numbers : Nat → Int32) : va_W := [((ad 0), .inr (0, [.ref (ad 1), .ref (ad 8), .ref (ad 9), .ref (ad 13), .ref (ad 23), .ref (ad 34), .ref (ad 36), .ref (ad 38), .int mn_bestCost, .int mn_bestPerNote, .int mn_bestLength, .int mn_searched])), ((ad 1), .inr (7, [.ref (ad 2), .ref (ad 3), .ref (ad 4), .int su_lines, .int su_length, .int su_perNote, .int su_above])), ((ad 2), .inl (kc 0, 18, .inl su_numbers))]
abbrev rm_SpeciesSolver_setting : Room := { frames := 0, cells := 0, slots := 0, locals := 0 }
abbrev cw_SpeciesSolver_setting : Cond := .code y_SpeciesSolver_setting b_SpeciesSolver_setting 2 (some .int)
abbrev ws_SpeciesSolver_setting : List Cond := cw_SpeciesSolver_setting :: GW
theorem hd_SpeciesSolver_setting : y_SpeciesSolver_setting.cls ≠ "java/lang/invoke/MethodHandle" ∧ y_SpeciesSolver_setting.cls ≠ "java/lang/invoke/VarHandle" ∧ (parseMethodDescriptor y_SpeciesSolver_setting.desc).map (fun d => d.parameters.length) = some 1 := by decide +kernel
def m_SpeciesSolver_setting (su_numbers : Nat → Int32)  (a1 : Int32) : Option (Int32) :=
  (if a1 < (0 : Int32) then
    (some (-1 : Int32))
  else
    (if a1 < (18 : Int32) then
      (gd a1 18 (some (su_numbers (Int32.toNatClampNeg a1))))
    else
      (some (-1 : Int32))))
set_option maxHeartbeats 4000000 in
set_option maxRecDepth 100000 in
theorem e_SpeciesSolver_setting {r : Int32} {ad : Nat → Nat} {mn_bestCost : Int32} {mn_bestPerNote : Int32} {mn_bestLength : Int32} {mn_searched : Int32} {su_lines : Int32} {su_length : Int32} {su_perNote : Int32} {su_above : Int32} {su_numbers : Nat → Int32} {a1 : Int32} {H : Heap} {locs : List Loc} {ls : Array Slot} (C : Cx p s m meth c args A D kc R_SpeciesSolver b_SpeciesSolver_setting 2 (some .int)) (hm : m_SpeciesSolver_setting su_numbers a1 = some r) (hZ : St D A s (wd_SpeciesSolver_setting kc ad mn_bestCost mn_bestPerNote mn_bestLength mn_searched su_lines su_length su_perNote su_above su_numbers) H locs) (hl : lv_has ls 2 [(0, .ref (ad 0)), (1, .int a1)]) : W p l e rm_SpeciesSolver_setting s m args below meth c H locs 0 0 (MQ below (Qi D A (wd_SpeciesSolver_setting kc ad mn_bestCost mn_bestPerNote mn_bestLength mn_searched su_lines su_length su_perNote su_above su_numbers) r) args s 0 0 A) (F0 m 0 ls []) := by
  obtain ⟨hx, hb, hr, hts, hown, hml, hlocks, hK, hN, hA, hX⟩ := id C
  obtain ⟨hP, hD, hS⟩ := hZ
  unfold m_SpeciesSolver_setting at hm
  refine lv_iload_n hx hb d_SpeciesSolver_setting_0 rfl (lv_at hl 1 rfl) ?_
  refine lv_if_lt (tgt := 10) hx hb d_SpeciesSolver_setting_1 (by decide) (fun c1 => ?_) (fun c1 => ?_)
  · replace hm := ifT hm c1
    refine lv_iconst (v := -1) hx hb d_SpeciesSolver_setting_10 (by decide) ?_
    refine lv_goto (tgt := 23) hx hb d_SpeciesSolver_setting_11 (by decide) ?_
    replace hm := Option.some.inj hm; subst hm
    exact zret_i C hP hD hS d_SpeciesSolver_setting_23
  · replace hm := ifF hm c1
    refine lv_iload_n hx hb d_SpeciesSolver_setting_4 rfl (lv_at hl 1 rfl) ?_
    refine lv_bipush (v := 18) hx hb d_SpeciesSolver_setting_5 (by decide) ?_
    refine lv_icmp_lt (tgt := 14) hx hb d_SpeciesSolver_setting_7 (by decide) (fun c2 => ?_) (fun c2 => ?_)
    · replace hm := ifT hm c2
      refine lv_aload_n hx hb d_SpeciesSolver_setting_14 rfl (lv_at hl 0 rfl) ?_
      refine va_get (D := D) (ci := 0) (v := .ref (ad 1)) (C := R_SpeciesSolver) (T := T_SpeciesSolver) (N := 12) hx hb hts inG_SpeciesSolver hown hK hP 0 rfl rfl 0 (by decide) (hts _ gw_368) (fun _ h9 => h9) rfl d_SpeciesSolver_setting_15 ?_
      refine va_getN (D := D) (ci := 7) (v := .ref (ad 2)) (C := R_Setup) (T := T_Setup) (N := 7) hx hb hts inG_Setup hown hK hP 1 rfl rfl 0 (by decide) (va_Nw.use rfl (hN _ nw_160)) (fun _ h9 => h9) rfl d_SpeciesSolver_setting_18 ?_
      refine lv_iload_n hx hb d_SpeciesSolver_setting_21 rfl (lv_at hl 1 rfl) ?_
      obtain ⟨hi3, hm⟩ := gd_some hm
      refine va_iald hx hb hK hP 2 0 rfl rfl hi3 d_SpeciesSolver_setting_22 ?_
      replace hm := Option.some.inj hm; subst hm
      exact zret_i C hP hD hS d_SpeciesSolver_setting_23
    · replace hm := ifF hm c2
      refine lv_iconst (v := -1) hx hb d_SpeciesSolver_setting_10 (by decide) ?_
      refine lv_goto (tgt := 23) hx hb d_SpeciesSolver_setting_11 (by decide) ?_
      replace hm := Option.some.inj hm; subst hm
      exact zret_i C hP hD hS d_SpeciesSolver_setting_23
set_option maxHeartbeats 4000000 in
set_option maxRecDepth 100000 in
theorem c_SpeciesSolver_setting {l : Launch} {D : va_G} {kc : Nat → ClassId} {r : Int32} {ad : Nat → Nat} {mn_bestCost : Int32} {mn_bestPerNote : Int32} {mn_bestLength : Int32} {mn_searched : Int32} {su_lines : Int32} {su_length : Int32} {su_perNote : Int32} {su_above : Int32} {su_numbers : Nat → Int32} {a1 : Int32} (hm : m_SpeciesSolver_setting su_numbers a1 = some r) (sz : Nat) : Ci l y_SpeciesSolver_setting ws_SpeciesSolver_setting rm_SpeciesSolver_setting D kc sz [.ref (ad 0), .int a1] (wd_SpeciesSolver_setting kc ad mn_bestCost mn_bestPerNote mn_bestLength mn_searched su_lines su_length su_perNote su_above su_numbers) (wd_SpeciesSolver_setting kc ad mn_bestCost mn_bestPerNote mn_bestLength mn_searched su_lines su_length su_perNote su_above su_numbers) r :=
  Cz_of (Qf := fun A => (Qi D A (wd_SpeciesSolver_setting kc ad mn_bestCost mn_bestPerNote mn_bestLength mn_searched su_lines su_length su_perNote su_above su_numbers) r)) (cc := b_SpeciesSolver_setting) (maxL := 2) (ret := (some .int)) (by decide) rfl rfl (fun C hZ hl => e_SpeciesSolver_setting C hm hZ hl)
abbrev b_Setup_isChosen : ByteArray := prog_7_method_6_code
abbrev y_Setup_isChosen : MethodName := ⟨"SpeciesSolver$Setup", "isChosen", "(I)Z"⟩
theorem d_Setup_isChosen_0 : decode b_Setup_isChosen 0 = .ok (.aload_n 0, 1) := by decide +kernel
theorem d_Setup_isChosen_1 : decode b_Setup_isChosen 1 = .ok (.getfield 9, 3) := by decide +kernel
theorem d_Setup_isChosen_4 : decode b_Setup_isChosen 4 = .ok (.iconst 0, 1) := by decide +kernel
theorem d_Setup_isChosen_5 : decode b_Setup_isChosen 5 = .ok (.iaload, 1) := by decide +kernel
theorem d_Setup_isChosen_6 : decode b_Setup_isChosen 6 = .ok (.iload_n 1, 1) := by decide +kernel
theorem d_Setup_isChosen_7 : decode b_Setup_isChosen 7 = .ok (.bipush 12, 2) := by decide +kernel
theorem d_Setup_isChosen_9 : decode b_Setup_isChosen 9 = .ok (.irem, 1) := by decide +kernel
theorem d_Setup_isChosen_10 : decode b_Setup_isChosen 10 = .ok (.ishr, 1) := by decide +kernel
theorem d_Setup_isChosen_11 : decode b_Setup_isChosen 11 = .ok (.iconst 1, 1) := by decide +kernel
theorem d_Setup_isChosen_12 : decode b_Setup_isChosen 12 = .ok (.iand, 1) := by decide +kernel
theorem d_Setup_isChosen_13 : decode b_Setup_isChosen 13 = .ok (.iconst 1, 1) := by decide +kernel
theorem d_Setup_isChosen_14 : decode b_Setup_isChosen 14 = .ok (.if_icmp .ne 7, 3) := by decide +kernel
theorem d_Setup_isChosen_17 : decode b_Setup_isChosen 17 = .ok (.iconst 1, 1) := by decide +kernel
theorem d_Setup_isChosen_18 : decode b_Setup_isChosen 18 = .ok (.goto 4, 3) := by decide +kernel
theorem d_Setup_isChosen_21 : decode b_Setup_isChosen 21 = .ok (.iconst 0, 1) := by decide +kernel
theorem d_Setup_isChosen_22 : decode b_Setup_isChosen 22 = .ok (.ireturn, 1) := by decide +kernel
abbrev wd_Setup_isChosen (kc : Nat → ClassId) (ad : Nat → Nat) (su_lines : Int32) (su_length : Int32) (su_perNote : Int32) (su_above : Int32) (su_numbers : Nat → Int32) : va_W := [((ad 1), .inr (7, [.ref (ad 2), .ref (ad 3), .ref (ad 4), .int su_lines, .int su_length, .int su_perNote, .int su_above])), ((ad 2), .inl (kc 0, 18, .inl su_numbers))]
abbrev rm_Setup_isChosen : Room := { frames := 0, cells := 0, slots := 0, locals := 0 }
abbrev cw_Setup_isChosen : Cond := .code y_Setup_isChosen b_Setup_isChosen 2 (some .boolean)
abbrev ws_Setup_isChosen : List Cond := cw_Setup_isChosen :: GW
theorem hd_Setup_isChosen : y_Setup_isChosen.cls ≠ "java/lang/invoke/MethodHandle" ∧ y_Setup_isChosen.cls ≠ "java/lang/invoke/VarHandle" ∧ (parseMethodDescriptor y_Setup_isChosen.desc).map (fun d => d.parameters.length) = some 1 := by decide +kernel
def m_Setup_isChosen (su_numbers : Nat → Int32)  (a1 : Int32) : Option (Int32) :=
  (if (((su_numbers (Int32.toNatClampNeg (0 : Int32))) >>> ((a1 - a1 / (12 : Int32) * (12 : Int32)) &&& 31)) &&& (1 : Int32)) = (1 : Int32) then
    (some (1 : Int32))
  else
    (some (0 : Int32)))
set_option maxHeartbeats 4000000 in
set_option maxRecDepth 100000 in
theorem e_Setup_isChosen {r : Int32} {ad : Nat → Nat} {su_lines : Int32} {su_length : Int32} {su_perNote : Int32} {su_above : Int32} {su_numbers : Nat → Int32} {a1 : Int32} {H : Heap} {locs : List Loc} {ls : Array Slot} (C : Cx p s m meth c args A D kc R_Setup b_Setup_isChosen 2 (some .boolean)) (hm : m_Setup_isChosen su_numbers a1 = some r) (hZ : St D A s (wd_Setup_isChosen kc ad su_lines su_length su_perNote su_above su_numbers) H locs) (hl : lv_has ls 2 [(0, .ref (ad 1)), (1, .int a1)]) : W p l e rm_Setup_isChosen s m args below meth c H locs 0 0 (MQ below (Qi D A (wd_Setup_isChosen kc ad su_lines su_length su_perNote su_above su_numbers) r) args s 0 0 A) (F0 m 0 ls []) := by
  obtain ⟨hx, hb, hr, hts, hown, hml, hlocks, hK, hN, hA, hX⟩ := id C
  obtain ⟨hP, hD, hS⟩ := hZ
  unfold m_Setup_isChosen at hm
  refine lv_aload_n hx hb d_Setup_isChosen_0 rfl (lv_at hl 0 rfl) ?_
  refine va_get (D := D) (ci := 7) (v := .ref (ad 2)) (C := R_Setup) (T := T_Setup) (N := 7) hx hb hts inG_Setup hown hK hP 0 rfl rfl 0 (by decide) (hts _ gw_157) (fun _ h9 => h9) rfl d_Setup_isChosen_1 ?_
  refine lv_iconst (v := 0) hx hb d_Setup_isChosen_4 (by decide) ?_
  refine va_iald hx hb hK hP 1 0 rfl rfl (in_lit (by decide)) d_Setup_isChosen_5 ?_
  refine lv_iload_n hx hb d_Setup_isChosen_6 rfl (lv_at hl 1 rfl) ?_
  refine lv_bipush (v := 12) hx hb d_Setup_isChosen_7 (by decide) ?_
  refine lv_irem hx hb d_Setup_isChosen_9 (by decide) ?_
  refine lv_ishr hx hb d_Setup_isChosen_10 ?_
  refine lv_iconst (v := 1) hx hb d_Setup_isChosen_11 (by decide) ?_
  refine lv_iand hx hb d_Setup_isChosen_12 ?_
  refine lv_iconst (v := 1) hx hb d_Setup_isChosen_13 (by decide) ?_
  refine lv_icmp_ne (tgt := 21) hx hb d_Setup_isChosen_14 (by decide) (fun c1 => ?_) (fun c1 => ?_)
  · replace hm := ifF hm c1
    refine lv_iconst (v := 0) hx hb d_Setup_isChosen_21 (by decide) ?_
    replace hm := Option.some.inj hm; subst hm
    exact zret_z (v := 0) C hP hD hS (by rfl) d_Setup_isChosen_22
  · replace hm := ifT hm c1
    refine lv_iconst (v := 1) hx hb d_Setup_isChosen_17 (by decide) ?_
    refine lv_goto (tgt := 22) hx hb d_Setup_isChosen_18 (by decide) ?_
    replace hm := Option.some.inj hm; subst hm
    exact zret_z (v := 1) C hP hD hS (by rfl) d_Setup_isChosen_22
set_option maxHeartbeats 4000000 in
set_option maxRecDepth 100000 in
theorem c_Setup_isChosen {l : Launch} {D : va_G} {kc : Nat → ClassId} {r : Int32} {ad : Nat → Nat} {su_lines : Int32} {su_length : Int32} {su_perNote : Int32} {su_above : Int32} {su_numbers : Nat → Int32} {a1 : Int32} (hm : m_Setup_isChosen su_numbers a1 = some r) (sz : Nat) : Ci l y_Setup_isChosen ws_Setup_isChosen rm_Setup_isChosen D kc sz [.ref (ad 1), .int a1] (wd_Setup_isChosen kc ad su_lines su_length su_perNote su_above su_numbers) (wd_Setup_isChosen kc ad su_lines su_length su_perNote su_above su_numbers) r :=
  Cz_of (Qf := fun A => (Qi D A (wd_Setup_isChosen kc ad su_lines su_length su_perNote su_above su_numbers) r)) (cc := b_Setup_isChosen) (maxL := 2) (ret := (some .boolean)) (by decide) rfl rfl (fun C hZ hl => e_Setup_isChosen C hm hZ hl)
abbrev b_Setup_choiceSize : ByteArray := prog_7_method_7_code
abbrev y_Setup_choiceSize : MethodName := ⟨"SpeciesSolver$Setup", "choiceSize", "()I"⟩
theorem d_Setup_choiceSize_0 : decode b_Setup_choiceSize 0 = .ok (.iconst 0, 1) := by decide +kernel
theorem d_Setup_choiceSize_1 : decode b_Setup_choiceSize 1 = .ok (.istore_n 1, 1) := by decide +kernel
theorem d_Setup_choiceSize_2 : decode b_Setup_choiceSize 2 = .ok (.aload_n 0, 1) := by decide +kernel
theorem d_Setup_choiceSize_3 : decode b_Setup_choiceSize 3 = .ok (.getfield 9, 3) := by decide +kernel
theorem d_Setup_choiceSize_6 : decode b_Setup_choiceSize 6 = .ok (.iconst 1, 1) := by decide +kernel
theorem d_Setup_choiceSize_7 : decode b_Setup_choiceSize 7 = .ok (.iaload, 1) := by decide +kernel
theorem d_Setup_choiceSize_8 : decode b_Setup_choiceSize 8 = .ok (.istore_n 2, 1) := by decide +kernel
theorem d_Setup_choiceSize_9 : decode b_Setup_choiceSize 9 = .ok (.iload_n 2, 1) := by decide +kernel
theorem d_Setup_choiceSize_10 : decode b_Setup_choiceSize 10 = .ok (.aload_n 0, 1) := by decide +kernel
theorem d_Setup_choiceSize_11 : decode b_Setup_choiceSize 11 = .ok (.getfield 9, 3) := by decide +kernel
theorem d_Setup_choiceSize_14 : decode b_Setup_choiceSize 14 = .ok (.iconst 2, 1) := by decide +kernel
theorem d_Setup_choiceSize_15 : decode b_Setup_choiceSize 15 = .ok (.iaload, 1) := by decide +kernel
theorem d_Setup_choiceSize_16 : decode b_Setup_choiceSize 16 = .ok (.if_icmp .gt 20, 3) := by decide +kernel
theorem d_Setup_choiceSize_19 : decode b_Setup_choiceSize 19 = .ok (.aload_n 0, 1) := by decide +kernel
theorem d_Setup_choiceSize_20 : decode b_Setup_choiceSize 20 = .ok (.iload_n 2, 1) := by decide +kernel
theorem d_Setup_choiceSize_21 : decode b_Setup_choiceSize 21 = .ok (.invokevirtual 47, 3) := by decide +kernel
theorem d_Setup_choiceSize_24 : decode b_Setup_choiceSize 24 = .ok (.ifCond .eq 6, 3) := by decide +kernel
theorem d_Setup_choiceSize_27 : decode b_Setup_choiceSize 27 = .ok (.iinc 1 1, 3) := by decide +kernel
theorem d_Setup_choiceSize_30 : decode b_Setup_choiceSize 30 = .ok (.iinc 2 1, 3) := by decide +kernel
theorem d_Setup_choiceSize_33 : decode b_Setup_choiceSize 33 = .ok (.goto (-24), 3) := by decide +kernel
theorem d_Setup_choiceSize_36 : decode b_Setup_choiceSize 36 = .ok (.iload_n 1, 1) := by decide +kernel
theorem d_Setup_choiceSize_37 : decode b_Setup_choiceSize 37 = .ok (.bipush 8, 2) := by decide +kernel
theorem d_Setup_choiceSize_39 : decode b_Setup_choiceSize 39 = .ok (.if_icmp .le 7, 3) := by decide +kernel
theorem d_Setup_choiceSize_42 : decode b_Setup_choiceSize 42 = .ok (.iconst (-1), 1) := by decide +kernel
theorem d_Setup_choiceSize_43 : decode b_Setup_choiceSize 43 = .ok (.goto 4, 3) := by decide +kernel
theorem d_Setup_choiceSize_46 : decode b_Setup_choiceSize 46 = .ok (.iload_n 1, 1) := by decide +kernel
theorem d_Setup_choiceSize_47 : decode b_Setup_choiceSize 47 = .ok (.ireturn, 1) := by decide +kernel
abbrev wd_Setup_choiceSize (kc : Nat → ClassId) (ad : Nat → Nat) (su_lines : Int32) (su_length : Int32) (su_perNote : Int32) (su_above : Int32) (su_numbers : Nat → Int32) : va_W := [((ad 1), .inr (7, [.ref (ad 2), .ref (ad 3), .ref (ad 4), .int su_lines, .int su_length, .int su_perNote, .int su_above])), ((ad 2), .inl (kc 0, 18, .inl su_numbers))]
abbrev rm_Setup_choiceSize : Room := { frames := 1, cells := 0, slots := 0, locals := 21 }
abbrev cw_Setup_choiceSize : Cond := .code y_Setup_choiceSize b_Setup_choiceSize 3 (some .int)
abbrev ws_Setup_choiceSize : List Cond := cw_Setup_choiceSize :: GW
theorem hd_Setup_choiceSize : y_Setup_choiceSize.cls ≠ "java/lang/invoke/MethodHandle" ∧ y_Setup_choiceSize.cls ≠ "java/lang/invoke/VarHandle" ∧ (parseMethodDescriptor y_Setup_choiceSize.desc).map (fun d => d.parameters.length) = some 0 := by decide +kernel
def m_Setup_choiceSize_30 (F : Nat) (su_numbers : Nat → Int32) (k9 : Int32 → Int32 → Option (Int32))  (x1 : Int32) (x2 : Int32) : Option (Int32) :=
  k9 x1 (x2 + 1)
set_option maxHeartbeats 4000000 in
set_option maxRecDepth 100000 in
theorem l_Setup_choiceSize_30 {r : Int32} {F : Nat} {ad : Nat → Nat} {su_lines : Int32} {su_length : Int32} {su_perNote : Int32} {su_above : Int32} {su_numbers : Nat → Int32} {k9 : Int32 → Int32 → Option (Int32)} {x1 : Int32} {x2 : Int32} {H : Heap} {locs : List Loc} {ls : Array Slot} (C : Cx p s m meth c args A D kc R_Setup b_Setup_choiceSize 3 (some .int)) (hk9 : (∀  (x1 : Int32) (x2 : Int32) (H : Heap) (locs : List Loc) (ls : Array Slot), k9 x1 x2 = some r → St D A s (wd_Setup_choiceSize kc ad su_lines su_length su_perNote su_above su_numbers) H locs → lv_has ls 3 [(0, .ref (ad 1)), (1, .int x1), (2, .int x2)] → W p l e rm_Setup_choiceSize s m args below meth c H locs 0 0 (MQ below (Qi D A (wd_Setup_choiceSize kc ad su_lines su_length su_perNote su_above su_numbers) r) args s 0 0 A) (F0 m 9 ls []))) (hm : m_Setup_choiceSize_30 F su_numbers k9 x1 x2 = some r) (hZ : St D A s (wd_Setup_choiceSize kc ad su_lines su_length su_perNote su_above su_numbers) H locs) (hl : lv_has ls 3 [(0, .ref (ad 1)), (1, .int x1), (2, .int x2)]) : W p l e rm_Setup_choiceSize s m args below meth c H locs 0 0 (MQ below (Qi D A (wd_Setup_choiceSize kc ad su_lines su_length su_perNote su_above su_numbers) r) args s 0 0 A) (F0 m 30 ls []) := by
  obtain ⟨hx, hb, hr, hts, hown, hml, hlocks, hK, hN, hA, hX⟩ := id C
  obtain ⟨hP, hD, hS⟩ := hZ
  unfold m_Setup_choiceSize_30 at hm
  refine lv_iinc (v := (x2 + 1)) (lv' := [(2, .int (x2 + 1)), (0, .ref (ad 1)), (1, .int x1)]) hx hb d_Setup_choiceSize_30 hl (k := 2) rfl rfl (by decide) rfl (fun ls hl => ?_)
  refine lv_goto (tgt := 9) hx hb d_Setup_choiceSize_33 (by decide) ?_
  exact hk9 x1 (x2 + 1) _ _ _ hm ⟨hP, hD, hS⟩ (lv_sub hl [1, 2, 0] rfl)
def m_Setup_choiceSize_9b (F : Nat) (su_numbers : Nat → Int32) (k9 : Int32 → Int32 → Option (Int32))  (x1 : Int32) (x2 : Int32) : Option (Int32) :=
  (if (su_numbers (Int32.toNatClampNeg (2 : Int32))) < x2 then
    (if x1 ≤ (8 : Int32) then
      (some x1)
    else
      (some (-1 : Int32)))
  else
    (bd (m_Setup_isChosen su_numbers x2) (fun u3 => (if u3 = (0 : Int32) then
      m_Setup_choiceSize_30 F su_numbers k9 x1 x2
    else
      m_Setup_choiceSize_30 F su_numbers k9 (x1 + 1) x2))))
set_option maxHeartbeats 4000000 in
set_option maxRecDepth 100000 in
theorem l_Setup_choiceSize_9 {r : Int32} {F : Nat} {ad : Nat → Nat} {su_lines : Int32} {su_length : Int32} {su_perNote : Int32} {su_above : Int32} {su_numbers : Nat → Int32} {k9 : Int32 → Int32 → Option (Int32)} {x1 : Int32} {x2 : Int32} {H : Heap} {locs : List Loc} {ls : Array Slot} (C : Cx p s m meth c args A D kc R_Setup b_Setup_choiceSize 3 (some .int)) (hk9 : (∀  (x1 : Int32) (x2 : Int32) (H : Heap) (locs : List Loc) (ls : Array Slot), k9 x1 x2 = some r → St D A s (wd_Setup_choiceSize kc ad su_lines su_length su_perNote su_above su_numbers) H locs → lv_has ls 3 [(0, .ref (ad 1)), (1, .int x1), (2, .int x2)] → W p l e rm_Setup_choiceSize s m args below meth c H locs 0 0 (MQ below (Qi D A (wd_Setup_choiceSize kc ad su_lines su_length su_perNote su_above su_numbers) r) args s 0 0 A) (F0 m 9 ls []))) (hm : m_Setup_choiceSize_9b F su_numbers k9 x1 x2 = some r) (hZ : St D A s (wd_Setup_choiceSize kc ad su_lines su_length su_perNote su_above su_numbers) H locs) (hl : lv_has ls 3 [(0, .ref (ad 1)), (1, .int x1), (2, .int x2)]) : W p l e rm_Setup_choiceSize s m args below meth c H locs 0 0 (MQ below (Qi D A (wd_Setup_choiceSize kc ad su_lines su_length su_perNote su_above su_numbers) r) args s 0 0 A) (F0 m 9 ls []) := by
  obtain ⟨hx, hb, hr, hts, hown, hml, hlocks, hK, hN, hA, hX⟩ := id C
  obtain ⟨hP, hD, hS⟩ := hZ
  unfold m_Setup_choiceSize_9b at hm
  refine lv_iload_n hx hb d_Setup_choiceSize_9 rfl (lv_at hl 2 rfl) ?_
  refine lv_aload_n hx hb d_Setup_choiceSize_10 rfl (lv_at hl 0 rfl) ?_
  refine va_get (D := D) (ci := 7) (v := .ref (ad 2)) (C := R_Setup) (T := T_Setup) (N := 7) hx hb hts inG_Setup hown hK hP 0 rfl rfl 0 (by decide) (hts _ gw_157) (fun _ h9 => h9) rfl d_Setup_choiceSize_11 ?_
  refine lv_iconst (v := 2) hx hb d_Setup_choiceSize_14 (by decide) ?_
  refine va_iald hx hb hK hP 1 0 rfl rfl (in_lit (by decide)) d_Setup_choiceSize_15 ?_
  refine lv_icmp_gt (tgt := 36) hx hb d_Setup_choiceSize_16 (by decide) (fun c1 => ?_) (fun c1 => ?_)
  · replace hm := ifT hm c1
    refine lv_iload_n hx hb d_Setup_choiceSize_36 rfl (lv_at hl 1 rfl) ?_
    refine lv_bipush (v := 8) hx hb d_Setup_choiceSize_37 (by decide) ?_
    refine lv_icmp_le (tgt := 46) hx hb d_Setup_choiceSize_39 (by decide) (fun c2 => ?_) (fun c2 => ?_)
    · replace hm := ifT hm c2
      refine lv_iload_n hx hb d_Setup_choiceSize_46 rfl (lv_at hl 1 rfl) ?_
      replace hm := Option.some.inj hm; subst hm
      exact zret_i C hP hD hS d_Setup_choiceSize_47
    · replace hm := ifF hm c2
      refine lv_iconst (v := -1) hx hb d_Setup_choiceSize_42 (by decide) ?_
      refine lv_goto (tgt := 47) hx hb d_Setup_choiceSize_43 (by decide) ?_
      replace hm := Option.some.inj hm; subst hm
      exact zret_i C hP hD hS d_Setup_choiceSize_47
  · replace hm := ifF hm c1
    refine lv_aload_n hx hb d_Setup_choiceSize_19 rfl (lv_at hl 0 rfl) ?_
    refine lv_iload_n hx hb d_Setup_choiceSize_20 rfl (lv_at hl 2 rfl) ?_
    obtain ⟨u3, hc4, hm⟩ := bd_some hm
    refine zV_i (n := 1) (wr := []) (w1 := (wd_Setup_isChosen kc ad su_lines su_length su_perNote su_above su_numbers)) (ws1 := (wd_Setup_choiceSize kc ad su_lines su_length su_perNote su_above su_numbers)) (As := [.int x2]) (rest := []) (ci := 7) (q0 := 0) (y := y_Setup_isChosen) ⟨hx, hb, hml, hown, hts⟩ (fun sz => c_Setup_isChosen hc4 sz) gw_476 gw_473 gw_475 gw_7 gw_113 hd_Setup_isChosen ⟨Nat.le_of_ble_eq_true rfl, Nat.le_of_ble_eq_true rfl⟩ ⟨rfl, rfl⟩ ⟨Nat.zero_le _, Nat.zero_le _⟩ hK hN hP hD hS hA hX [0, 1] [] [0, 1] rfl rfl (by decide) (by decide) (by decide) rfl (by decide) rfl rfl rfl hl.1 rfl (Nat.le_of_ble_eq_true rfl) d_Setup_choiceSize_21 (fun H locs hP hD hS => ?_)
    refine lv_if_eq (tgt := 30) hx hb d_Setup_choiceSize_24 (by decide) (fun c5 => ?_) (fun c5 => ?_)
    · replace hm := ifT hm c5
      exact l_Setup_choiceSize_30 C hk9 hm ⟨hP, hD, hS⟩ (lv_sub hl [0, 1, 2] rfl)
    · replace hm := ifF hm c5
      refine lv_iinc (v := (x1 + 1)) (lv' := [(1, .int (x1 + 1)), (0, .ref (ad 1)), (2, .int x2)]) hx hb d_Setup_choiceSize_27 hl (k := 1) rfl rfl (by decide) rfl (fun ls hl => ?_)
      exact l_Setup_choiceSize_30 C hk9 hm ⟨hP, hD, hS⟩ (lv_sub hl [1, 0, 2] rfl)
def m_Setup_choiceSize_9 (F : Nat) (su_numbers : Nat → Int32)  : Nat → Int32 → Int32 → Option (Int32)
  | 0 => fun _ _ => none
  | n + 1 => m_Setup_choiceSize_9b F su_numbers  (m_Setup_choiceSize_9 F su_numbers  n)
set_option maxHeartbeats 4000000 in
set_option maxRecDepth 100000 in
theorem lp_Setup_choiceSize_9 {r : Int32} {F : Nat} {ad : Nat → Nat} {su_lines : Int32} {su_length : Int32} {su_perNote : Int32} {su_above : Int32} {su_numbers : Nat → Int32}  (C : Cx p s m meth c args A D kc R_Setup b_Setup_choiceSize 3 (some .int))  : ∀ (n : Nat)  (x1 : Int32) (x2 : Int32) (H : Heap) (locs : List Loc) (ls : Array Slot), m_Setup_choiceSize_9 F su_numbers  n x1 x2 = some r → St D A s (wd_Setup_choiceSize kc ad su_lines su_length su_perNote su_above su_numbers) H locs → lv_has ls 3 [(0, .ref (ad 1)), (1, .int x1), (2, .int x2)] → W p l e rm_Setup_choiceSize s m args below meth c H locs 0 0 (MQ below (Qi D A (wd_Setup_choiceSize kc ad su_lines su_length su_perNote su_above su_numbers) r) args s 0 0 A) (F0 m 9 ls []) := by
  intro n
  induction n with
  | zero => intro x1 x2 H locs ls hm; cases hm
  | succ n ih => intro x1 x2 H locs ls hm hZ hl; exact l_Setup_choiceSize_9 C  ih hm hZ hl
def m_Setup_choiceSize (F : Nat) (su_numbers : Nat → Int32)   : Option (Int32) :=
  m_Setup_choiceSize_9 F su_numbers  F (0 : Int32) (su_numbers (Int32.toNatClampNeg (1 : Int32)))
set_option maxHeartbeats 4000000 in
set_option maxRecDepth 100000 in
theorem e_Setup_choiceSize {r : Int32} {F : Nat} {ad : Nat → Nat} {su_lines : Int32} {su_length : Int32} {su_perNote : Int32} {su_above : Int32} {su_numbers : Nat → Int32}  {H : Heap} {locs : List Loc} {ls : Array Slot} (C : Cx p s m meth c args A D kc R_Setup b_Setup_choiceSize 3 (some .int)) (hm : m_Setup_choiceSize F su_numbers  = some r) (hZ : St D A s (wd_Setup_choiceSize kc ad su_lines su_length su_perNote su_above su_numbers) H locs) (hl : lv_has ls 3 [(0, .ref (ad 1))]) : W p l e rm_Setup_choiceSize s m args below meth c H locs 0 0 (MQ below (Qi D A (wd_Setup_choiceSize kc ad su_lines su_length su_perNote su_above su_numbers) r) args s 0 0 A) (F0 m 0 ls []) := by
  obtain ⟨hx, hb, hr, hts, hown, hml, hlocks, hK, hN, hA, hX⟩ := id C
  obtain ⟨hP, hD, hS⟩ := hZ
  unfold m_Setup_choiceSize at hm
  refine lv_iconst (v := 0) hx hb d_Setup_choiceSize_0 (by decide) ?_
  refine lv_istore_n (lv' := [(1, .int (0 : Int32)), (0, .ref (ad 1))]) hx hb d_Setup_choiceSize_1 rfl hl (by decide) rfl (fun ls hl => ?_)
  refine lv_aload_n hx hb d_Setup_choiceSize_2 rfl (lv_at hl 1 rfl) ?_
  refine va_get (D := D) (ci := 7) (v := .ref (ad 2)) (C := R_Setup) (T := T_Setup) (N := 7) hx hb hts inG_Setup hown hK hP 0 rfl rfl 0 (by decide) (hts _ gw_157) (fun _ h9 => h9) rfl d_Setup_choiceSize_3 ?_
  refine lv_iconst (v := 1) hx hb d_Setup_choiceSize_6 (by decide) ?_
  refine va_iald hx hb hK hP 1 0 rfl rfl (in_lit (by decide)) d_Setup_choiceSize_7 ?_
  refine lv_istore_n (lv' := [(2, .int (su_numbers (Int32.toNatClampNeg (1 : Int32)))), (1, .int (0 : Int32)), (0, .ref (ad 1))]) hx hb d_Setup_choiceSize_8 rfl hl (by decide) rfl (fun ls hl => ?_)
  exact lp_Setup_choiceSize_9 C  F (0 : Int32) (su_numbers (Int32.toNatClampNeg (1 : Int32))) _ _ _ hm ⟨hP, hD, hS⟩ (lv_sub hl [2, 1, 0] rfl)
set_option maxHeartbeats 4000000 in
set_option maxRecDepth 100000 in
theorem c_Setup_choiceSize {l : Launch} {D : va_G} {kc : Nat → ClassId} {r : Int32} {F : Nat} {ad : Nat → Nat} {su_lines : Int32} {su_length : Int32} {su_perNote : Int32} {su_above : Int32} {su_numbers : Nat → Int32}  (hm : m_Setup_choiceSize F su_numbers  = some r) (sz : Nat) : Ci l y_Setup_choiceSize ws_Setup_choiceSize rm_Setup_choiceSize D kc sz [.ref (ad 1)] (wd_Setup_choiceSize kc ad su_lines su_length su_perNote su_above su_numbers) (wd_Setup_choiceSize kc ad su_lines su_length su_perNote su_above su_numbers) r :=
  Cz_of (Qf := fun A => (Qi D A (wd_Setup_choiceSize kc ad su_lines su_length su_perNote su_above su_numbers) r)) (cc := b_Setup_choiceSize) (maxL := 3) (ret := (some .int)) (by decide) rfl rfl (fun C hZ hl => e_Setup_choiceSize C hm hZ hl)
abbrev b_SpeciesSolver_choice : ByteArray := prog_1_method_10_code
abbrev y_SpeciesSolver_choice : MethodName := ⟨"SpeciesSolver", "choice", "()I"⟩
theorem d_SpeciesSolver_choice_0 : decode b_SpeciesSolver_choice 0 = .ok (.aload_n 0, 1) := by decide +kernel
theorem d_SpeciesSolver_choice_1 : decode b_SpeciesSolver_choice 1 = .ok (.getfield 39, 3) := by decide +kernel
theorem d_SpeciesSolver_choice_4 : decode b_SpeciesSolver_choice 4 = .ok (.invokevirtual 122, 3) := by decide +kernel
theorem d_SpeciesSolver_choice_7 : decode b_SpeciesSolver_choice 7 = .ok (.ireturn, 1) := by decide +kernel
abbrev wd_SpeciesSolver_choice (kc : Nat → ClassId) (ad : Nat → Nat) (mn_bestCost : Int32) (mn_bestPerNote : Int32) (mn_bestLength : Int32) (mn_searched : Int32) (su_lines : Int32) (su_length : Int32) (su_perNote : Int32) (su_above : Int32) (su_numbers : Nat → Int32) : va_W := [((ad 0), .inr (0, [.ref (ad 1), .ref (ad 8), .ref (ad 9), .ref (ad 13), .ref (ad 23), .ref (ad 34), .ref (ad 36), .ref (ad 38), .int mn_bestCost, .int mn_bestPerNote, .int mn_bestLength, .int mn_searched])), ((ad 1), .inr (7, [.ref (ad 2), .ref (ad 3), .ref (ad 4), .int su_lines, .int su_length, .int su_perNote, .int su_above])), ((ad 2), .inl (kc 0, 18, .inl su_numbers))]
abbrev rm_SpeciesSolver_choice : Room := { frames := 2, cells := 0, slots := 0, locals := 43 }
abbrev cw_SpeciesSolver_choice : Cond := .code y_SpeciesSolver_choice b_SpeciesSolver_choice 1 (some .int)
abbrev ws_SpeciesSolver_choice : List Cond := cw_SpeciesSolver_choice :: GW
theorem hd_SpeciesSolver_choice : y_SpeciesSolver_choice.cls ≠ "java/lang/invoke/MethodHandle" ∧ y_SpeciesSolver_choice.cls ≠ "java/lang/invoke/VarHandle" ∧ (parseMethodDescriptor y_SpeciesSolver_choice.desc).map (fun d => d.parameters.length) = some 0 := by decide +kernel
def m_SpeciesSolver_choice (F : Nat) (su_numbers : Nat → Int32)   : Option (Int32) :=
  (bd (m_Setup_choiceSize F su_numbers) (fun u1 => (some u1)))
set_option maxHeartbeats 4000000 in
set_option maxRecDepth 100000 in
theorem e_SpeciesSolver_choice {r : Int32} {F : Nat} {ad : Nat → Nat} {mn_bestCost : Int32} {mn_bestPerNote : Int32} {mn_bestLength : Int32} {mn_searched : Int32} {su_lines : Int32} {su_length : Int32} {su_perNote : Int32} {su_above : Int32} {su_numbers : Nat → Int32}  {H : Heap} {locs : List Loc} {ls : Array Slot} (C : Cx p s m meth c args A D kc R_SpeciesSolver b_SpeciesSolver_choice 1 (some .int)) (hm : m_SpeciesSolver_choice F su_numbers  = some r) (hZ : St D A s (wd_SpeciesSolver_choice kc ad mn_bestCost mn_bestPerNote mn_bestLength mn_searched su_lines su_length su_perNote su_above su_numbers) H locs) (hl : lv_has ls 1 [(0, .ref (ad 0))]) : W p l e rm_SpeciesSolver_choice s m args below meth c H locs 0 0 (MQ below (Qi D A (wd_SpeciesSolver_choice kc ad mn_bestCost mn_bestPerNote mn_bestLength mn_searched su_lines su_length su_perNote su_above su_numbers) r) args s 0 0 A) (F0 m 0 ls []) := by
  obtain ⟨hx, hb, hr, hts, hown, hml, hlocks, hK, hN, hA, hX⟩ := id C
  obtain ⟨hP, hD, hS⟩ := hZ
  unfold m_SpeciesSolver_choice at hm
  refine lv_aload_n hx hb d_SpeciesSolver_choice_0 rfl (lv_at hl 0 rfl) ?_
  refine va_get (D := D) (ci := 0) (v := .ref (ad 1)) (C := R_SpeciesSolver) (T := T_SpeciesSolver) (N := 12) hx hb hts inG_SpeciesSolver hown hK hP 0 rfl rfl 0 (by decide) (hts _ gw_368) (fun _ h9 => h9) rfl d_SpeciesSolver_choice_1 ?_
  obtain ⟨u1, hc2, hm⟩ := bd_some hm
  refine zVN_i (n := 0) (wr := [((ad 0), .inr (0, [.ref (ad 1), .ref (ad 8), .ref (ad 9), .ref (ad 13), .ref (ad 23), .ref (ad 34), .ref (ad 36), .ref (ad 38), .int mn_bestCost, .int mn_bestPerNote, .int mn_bestLength, .int mn_searched]))]) (w1 := (wd_Setup_choiceSize kc ad su_lines su_length su_perNote su_above su_numbers)) (ws1 := (wd_SpeciesSolver_choice kc ad mn_bestCost mn_bestPerNote mn_bestLength mn_searched su_lines su_length su_perNote su_above su_numbers)) (As := []) (rest := []) (ci := 7) (q0 := 0) (y := y_Setup_choiceSize) (host := "SpeciesSolver") ⟨hx, hb, hml, hown, hts⟩ (fun sz => c_Setup_choiceSize hc2 sz) gw_472 (hN _ nw_469) gw_471 gw_6 gw_113 hd_Setup_choiceSize ⟨Nat.le_of_ble_eq_true rfl, Nat.le_of_ble_eq_true rfl⟩ ⟨rfl, rfl⟩ ⟨Nat.zero_le _, Nat.zero_le _⟩ hK hN hP hD hS hA hX [1, 2] [0] [0, 1, 2] rfl rfl (by decide) (by decide) (by decide) rfl (by decide) rfl rfl rfl hl.1 rfl (Nat.le_of_ble_eq_true rfl) d_SpeciesSolver_choice_4 (fun H locs hP hD hS => ?_)
  replace hm := Option.some.inj hm; subst hm
  exact zret_i C hP hD hS d_SpeciesSolver_choice_7
set_option maxHeartbeats 4000000 in
set_option maxRecDepth 100000 in
theorem c_SpeciesSolver_choice {l : Launch} {D : va_G} {kc : Nat → ClassId} {r : Int32} {F : Nat} {ad : Nat → Nat} {mn_bestCost : Int32} {mn_bestPerNote : Int32} {mn_bestLength : Int32} {mn_searched : Int32} {su_lines : Int32} {su_length : Int32} {su_perNote : Int32} {su_above : Int32} {su_numbers : Nat → Int32}  (hm : m_SpeciesSolver_choice F su_numbers  = some r) (sz : Nat) : Ci l y_SpeciesSolver_choice ws_SpeciesSolver_choice rm_SpeciesSolver_choice D kc sz [.ref (ad 0)] (wd_SpeciesSolver_choice kc ad mn_bestCost mn_bestPerNote mn_bestLength mn_searched su_lines su_length su_perNote su_above su_numbers) (wd_SpeciesSolver_choice kc ad mn_bestCost mn_bestPerNote mn_bestLength mn_searched su_lines su_length su_perNote su_above su_numbers) r :=
  Cz_of (Qf := fun A => (Qi D A (wd_SpeciesSolver_choice kc ad mn_bestCost mn_bestPerNote mn_bestLength mn_searched su_lines su_length su_perNote su_above su_numbers) r)) (cc := b_SpeciesSolver_choice) (maxL := 1) (ret := (some .int)) (by decide) rfl rfl (fun C hZ hl => e_SpeciesSolver_choice C hm hZ hl)
abbrev b_SpeciesSolver_cannotSearch : ByteArray := prog_1_method_22_code
abbrev y_SpeciesSolver_cannotSearch : MethodName := ⟨"SpeciesSolver", "cannotSearch", "()Z"⟩
theorem d_SpeciesSolver_cannotSearch_0 : decode b_SpeciesSolver_cannotSearch 0 = .ok (.aload_n 0, 1) := by decide +kernel
theorem d_SpeciesSolver_cannotSearch_1 : decode b_SpeciesSolver_cannotSearch 1 = .ok (.getfield 39, 3) := by decide +kernel
theorem d_SpeciesSolver_cannotSearch_4 : decode b_SpeciesSolver_cannotSearch 4 = .ok (.getfield 92, 3) := by decide +kernel
theorem d_SpeciesSolver_cannotSearch_7 : decode b_SpeciesSolver_cannotSearch 7 = .ok (.ifCond .eq 14, 3) := by decide +kernel
theorem d_SpeciesSolver_cannotSearch_10 : decode b_SpeciesSolver_cannotSearch 10 = .ok (.aload_n 0, 1) := by decide +kernel
theorem d_SpeciesSolver_cannotSearch_11 : decode b_SpeciesSolver_cannotSearch 11 = .ok (.getfield 39, 3) := by decide +kernel
theorem d_SpeciesSolver_cannotSearch_14 : decode b_SpeciesSolver_cannotSearch 14 = .ok (.invokevirtual 122, 3) := by decide +kernel
theorem d_SpeciesSolver_cannotSearch_17 : decode b_SpeciesSolver_cannotSearch 17 = .ok (.iconst (-1), 1) := by decide +kernel
theorem d_SpeciesSolver_cannotSearch_18 : decode b_SpeciesSolver_cannotSearch 18 = .ok (.if_icmp .ne 7, 3) := by decide +kernel
theorem d_SpeciesSolver_cannotSearch_21 : decode b_SpeciesSolver_cannotSearch 21 = .ok (.iconst 1, 1) := by decide +kernel
theorem d_SpeciesSolver_cannotSearch_22 : decode b_SpeciesSolver_cannotSearch 22 = .ok (.goto 4, 3) := by decide +kernel
theorem d_SpeciesSolver_cannotSearch_25 : decode b_SpeciesSolver_cannotSearch 25 = .ok (.iconst 0, 1) := by decide +kernel
theorem d_SpeciesSolver_cannotSearch_26 : decode b_SpeciesSolver_cannotSearch 26 = .ok (.ireturn, 1) := by decide +kernel
abbrev wd_SpeciesSolver_cannotSearch (kc : Nat → ClassId) (ad : Nat → Nat) (mn_bestCost : Int32) (mn_bestPerNote : Int32) (mn_bestLength : Int32) (mn_searched : Int32) (su_lines : Int32) (su_length : Int32) (su_perNote : Int32) (su_above : Int32) (su_numbers : Nat → Int32) : va_W := [((ad 0), .inr (0, [.ref (ad 1), .ref (ad 8), .ref (ad 9), .ref (ad 13), .ref (ad 23), .ref (ad 34), .ref (ad 36), .ref (ad 38), .int mn_bestCost, .int mn_bestPerNote, .int mn_bestLength, .int mn_searched])), ((ad 1), .inr (7, [.ref (ad 2), .ref (ad 3), .ref (ad 4), .int su_lines, .int su_length, .int su_perNote, .int su_above])), ((ad 2), .inl (kc 0, 18, .inl su_numbers))]
abbrev rm_SpeciesSolver_cannotSearch : Room := { frames := 2, cells := 0, slots := 0, locals := 43 }
abbrev cw_SpeciesSolver_cannotSearch : Cond := .code y_SpeciesSolver_cannotSearch b_SpeciesSolver_cannotSearch 1 (some .boolean)
abbrev ws_SpeciesSolver_cannotSearch : List Cond := cw_SpeciesSolver_cannotSearch :: GW
theorem hd_SpeciesSolver_cannotSearch : y_SpeciesSolver_cannotSearch.cls ≠ "java/lang/invoke/MethodHandle" ∧ y_SpeciesSolver_cannotSearch.cls ≠ "java/lang/invoke/VarHandle" ∧ (parseMethodDescriptor y_SpeciesSolver_cannotSearch.desc).map (fun d => d.parameters.length) = some 0 := by decide +kernel
def m_SpeciesSolver_cannotSearch (F : Nat) (su_lines : Int32) (su_numbers : Nat → Int32)   : Option (Int32) :=
  (if su_lines = (0 : Int32) then
    (some (1 : Int32))
  else
    (bd (m_Setup_choiceSize F su_numbers) (fun u2 => (if u2 = (-1 : Int32) then
      (some (1 : Int32))
    else
      (some (0 : Int32))))))
set_option maxHeartbeats 4000000 in
set_option maxRecDepth 100000 in
theorem e_SpeciesSolver_cannotSearch {r : Int32} {F : Nat} {ad : Nat → Nat} {mn_bestCost : Int32} {mn_bestPerNote : Int32} {mn_bestLength : Int32} {mn_searched : Int32} {su_lines : Int32} {su_length : Int32} {su_perNote : Int32} {su_above : Int32} {su_numbers : Nat → Int32}  {H : Heap} {locs : List Loc} {ls : Array Slot} (C : Cx p s m meth c args A D kc R_SpeciesSolver b_SpeciesSolver_cannotSearch 1 (some .boolean)) (hm : m_SpeciesSolver_cannotSearch F su_lines su_numbers  = some r) (hZ : St D A s (wd_SpeciesSolver_cannotSearch kc ad mn_bestCost mn_bestPerNote mn_bestLength mn_searched su_lines su_length su_perNote su_above su_numbers) H locs) (hl : lv_has ls 1 [(0, .ref (ad 0))]) : W p l e rm_SpeciesSolver_cannotSearch s m args below meth c H locs 0 0 (MQ below (Qi D A (wd_SpeciesSolver_cannotSearch kc ad mn_bestCost mn_bestPerNote mn_bestLength mn_searched su_lines su_length su_perNote su_above su_numbers) r) args s 0 0 A) (F0 m 0 ls []) := by
  obtain ⟨hx, hb, hr, hts, hown, hml, hlocks, hK, hN, hA, hX⟩ := id C
  obtain ⟨hP, hD, hS⟩ := hZ
  unfold m_SpeciesSolver_cannotSearch at hm
  refine lv_aload_n hx hb d_SpeciesSolver_cannotSearch_0 rfl (lv_at hl 0 rfl) ?_
  refine va_get (D := D) (ci := 0) (v := .ref (ad 1)) (C := R_SpeciesSolver) (T := T_SpeciesSolver) (N := 12) hx hb hts inG_SpeciesSolver hown hK hP 0 rfl rfl 0 (by decide) (hts _ gw_368) (fun _ h9 => h9) rfl d_SpeciesSolver_cannotSearch_1 ?_
  refine va_getN (D := D) (ci := 7) (v := .int su_lines) (C := R_Setup) (T := T_Setup) (N := 7) hx hb hts inG_Setup hown hK hP 1 rfl rfl 3 (by decide) (va_Nw.use rfl (hN _ nw_170)) (fun _ h9 => h9) rfl d_SpeciesSolver_cannotSearch_4 ?_
  refine lv_if_eq (tgt := 21) hx hb d_SpeciesSolver_cannotSearch_7 (by decide) (fun c1 => ?_) (fun c1 => ?_)
  · replace hm := ifT hm c1
    refine lv_iconst (v := 1) hx hb d_SpeciesSolver_cannotSearch_21 (by decide) ?_
    refine lv_goto (tgt := 26) hx hb d_SpeciesSolver_cannotSearch_22 (by decide) ?_
    replace hm := Option.some.inj hm; subst hm
    exact zret_z (v := 1) C hP hD hS (by rfl) d_SpeciesSolver_cannotSearch_26
  · replace hm := ifF hm c1
    refine lv_aload_n hx hb d_SpeciesSolver_cannotSearch_10 rfl (lv_at hl 0 rfl) ?_
    refine va_get (D := D) (ci := 0) (v := .ref (ad 1)) (C := R_SpeciesSolver) (T := T_SpeciesSolver) (N := 12) hx hb hts inG_SpeciesSolver hown hK hP 0 rfl rfl 0 (by decide) (hts _ gw_368) (fun _ h9 => h9) rfl d_SpeciesSolver_cannotSearch_11 ?_
    obtain ⟨u2, hc3, hm⟩ := bd_some hm
    refine zVN_i (n := 0) (wr := [((ad 0), .inr (0, [.ref (ad 1), .ref (ad 8), .ref (ad 9), .ref (ad 13), .ref (ad 23), .ref (ad 34), .ref (ad 36), .ref (ad 38), .int mn_bestCost, .int mn_bestPerNote, .int mn_bestLength, .int mn_searched]))]) (w1 := (wd_Setup_choiceSize kc ad su_lines su_length su_perNote su_above su_numbers)) (ws1 := (wd_SpeciesSolver_cannotSearch kc ad mn_bestCost mn_bestPerNote mn_bestLength mn_searched su_lines su_length su_perNote su_above su_numbers)) (As := []) (rest := []) (ci := 7) (q0 := 0) (y := y_Setup_choiceSize) (host := "SpeciesSolver") ⟨hx, hb, hml, hown, hts⟩ (fun sz => c_Setup_choiceSize hc3 sz) gw_472 (hN _ nw_469) gw_471 gw_6 gw_113 hd_Setup_choiceSize ⟨Nat.le_of_ble_eq_true rfl, Nat.le_of_ble_eq_true rfl⟩ ⟨rfl, rfl⟩ ⟨Nat.zero_le _, Nat.zero_le _⟩ hK hN hP hD hS hA hX [1, 2] [0] [0, 1, 2] rfl rfl (by decide) (by decide) (by decide) rfl (by decide) rfl rfl rfl hl.1 rfl (Nat.le_of_ble_eq_true rfl) d_SpeciesSolver_cannotSearch_14 (fun H locs hP hD hS => ?_)
    refine lv_iconst (v := -1) hx hb d_SpeciesSolver_cannotSearch_17 (by decide) ?_
    refine lv_icmp_ne (tgt := 25) hx hb d_SpeciesSolver_cannotSearch_18 (by decide) (fun c4 => ?_) (fun c4 => ?_)
    · replace hm := ifF hm c4
      refine lv_iconst (v := 0) hx hb d_SpeciesSolver_cannotSearch_25 (by decide) ?_
      replace hm := Option.some.inj hm; subst hm
      exact zret_z (v := 0) C hP hD hS (by rfl) d_SpeciesSolver_cannotSearch_26
    · replace hm := ifT hm c4
      refine lv_iconst (v := 1) hx hb d_SpeciesSolver_cannotSearch_21 (by decide) ?_
      refine lv_goto (tgt := 26) hx hb d_SpeciesSolver_cannotSearch_22 (by decide) ?_
      replace hm := Option.some.inj hm; subst hm
      exact zret_z (v := 1) C hP hD hS (by rfl) d_SpeciesSolver_cannotSearch_26
set_option maxHeartbeats 4000000 in
set_option maxRecDepth 100000 in
theorem c_SpeciesSolver_cannotSearch {l : Launch} {D : va_G} {kc : Nat → ClassId} {r : Int32} {F : Nat} {ad : Nat → Nat} {mn_bestCost : Int32} {mn_bestPerNote : Int32} {mn_bestLength : Int32} {mn_searched : Int32} {su_lines : Int32} {su_length : Int32} {su_perNote : Int32} {su_above : Int32} {su_numbers : Nat → Int32}  (hm : m_SpeciesSolver_cannotSearch F su_lines su_numbers  = some r) (sz : Nat) : Ci l y_SpeciesSolver_cannotSearch ws_SpeciesSolver_cannotSearch rm_SpeciesSolver_cannotSearch D kc sz [.ref (ad 0)] (wd_SpeciesSolver_cannotSearch kc ad mn_bestCost mn_bestPerNote mn_bestLength mn_searched su_lines su_length su_perNote su_above su_numbers) (wd_SpeciesSolver_cannotSearch kc ad mn_bestCost mn_bestPerNote mn_bestLength mn_searched su_lines su_length su_perNote su_above su_numbers) r :=
  Cz_of (Qf := fun A => (Qi D A (wd_SpeciesSolver_cannotSearch kc ad mn_bestCost mn_bestPerNote mn_bestLength mn_searched su_lines su_length su_perNote su_above su_numbers) r)) (cc := b_SpeciesSolver_cannotSearch) (maxL := 1) (ret := (some .boolean)) (by decide) rfl rfl (fun C hZ hl => e_SpeciesSolver_cannotSearch C hm hZ hl)
abbrev b_Setup_writeChoice : ByteArray := prog_7_method_8_code
abbrev y_Setup_writeChoice : MethodName := ⟨"SpeciesSolver$Setup", "writeChoice", "([I)I"⟩
theorem d_Setup_writeChoice_0 : decode b_Setup_writeChoice 0 = .ok (.iconst 0, 1) := by decide +kernel
theorem d_Setup_writeChoice_1 : decode b_Setup_writeChoice 1 = .ok (.istore_n 2, 1) := by decide +kernel
theorem d_Setup_writeChoice_2 : decode b_Setup_writeChoice 2 = .ok (.aload_n 0, 1) := by decide +kernel
theorem d_Setup_writeChoice_3 : decode b_Setup_writeChoice 3 = .ok (.getfield 9, 3) := by decide +kernel
theorem d_Setup_writeChoice_6 : decode b_Setup_writeChoice 6 = .ok (.iconst 1, 1) := by decide +kernel
theorem d_Setup_writeChoice_7 : decode b_Setup_writeChoice 7 = .ok (.iaload, 1) := by decide +kernel
theorem d_Setup_writeChoice_8 : decode b_Setup_writeChoice 8 = .ok (.istore_n 3, 1) := by decide +kernel
theorem d_Setup_writeChoice_9 : decode b_Setup_writeChoice 9 = .ok (.iload_n 3, 1) := by decide +kernel
theorem d_Setup_writeChoice_10 : decode b_Setup_writeChoice 10 = .ok (.aload_n 0, 1) := by decide +kernel
theorem d_Setup_writeChoice_11 : decode b_Setup_writeChoice 11 = .ok (.getfield 9, 3) := by decide +kernel
theorem d_Setup_writeChoice_14 : decode b_Setup_writeChoice 14 = .ok (.iconst 2, 1) := by decide +kernel
theorem d_Setup_writeChoice_15 : decode b_Setup_writeChoice 15 = .ok (.iaload, 1) := by decide +kernel
theorem d_Setup_writeChoice_16 : decode b_Setup_writeChoice 16 = .ok (.if_icmp .gt 30, 3) := by decide +kernel
theorem d_Setup_writeChoice_19 : decode b_Setup_writeChoice 19 = .ok (.iload_n 2, 1) := by decide +kernel
theorem d_Setup_writeChoice_20 : decode b_Setup_writeChoice 20 = .ok (.aload_n 1, 1) := by decide +kernel
theorem d_Setup_writeChoice_21 : decode b_Setup_writeChoice 21 = .ok (.arraylength, 1) := by decide +kernel
theorem d_Setup_writeChoice_22 : decode b_Setup_writeChoice 22 = .ok (.if_icmp .ge 24, 3) := by decide +kernel
theorem d_Setup_writeChoice_25 : decode b_Setup_writeChoice 25 = .ok (.aload_n 0, 1) := by decide +kernel
theorem d_Setup_writeChoice_26 : decode b_Setup_writeChoice 26 = .ok (.iload_n 3, 1) := by decide +kernel
theorem d_Setup_writeChoice_27 : decode b_Setup_writeChoice 27 = .ok (.invokevirtual 47, 3) := by decide +kernel
theorem d_Setup_writeChoice_30 : decode b_Setup_writeChoice 30 = .ok (.ifCond .eq 10, 3) := by decide +kernel
theorem d_Setup_writeChoice_33 : decode b_Setup_writeChoice 33 = .ok (.aload_n 1, 1) := by decide +kernel
theorem d_Setup_writeChoice_34 : decode b_Setup_writeChoice 34 = .ok (.iload_n 2, 1) := by decide +kernel
theorem d_Setup_writeChoice_35 : decode b_Setup_writeChoice 35 = .ok (.iload_n 3, 1) := by decide +kernel
theorem d_Setup_writeChoice_36 : decode b_Setup_writeChoice 36 = .ok (.iastore, 1) := by decide +kernel
theorem d_Setup_writeChoice_37 : decode b_Setup_writeChoice 37 = .ok (.iinc 2 1, 3) := by decide +kernel
theorem d_Setup_writeChoice_40 : decode b_Setup_writeChoice 40 = .ok (.iinc 3 1, 3) := by decide +kernel
theorem d_Setup_writeChoice_43 : decode b_Setup_writeChoice 43 = .ok (.goto (-34), 3) := by decide +kernel
theorem d_Setup_writeChoice_46 : decode b_Setup_writeChoice 46 = .ok (.iload_n 2, 1) := by decide +kernel
theorem d_Setup_writeChoice_47 : decode b_Setup_writeChoice 47 = .ok (.ireturn, 1) := by decide +kernel
abbrev wd_Setup_writeChoice (kc : Nat → ClassId) (ad : Nat → Nat) (pa : Nat) (P : Nat → Int32) (su_lines : Int32) (su_length : Int32) (su_perNote : Int32) (su_above : Int32) (su_numbers : Nat → Int32) : va_W := [(pa, .inl (kc 0, 8, .inl P)), ((ad 1), .inr (7, [.ref (ad 2), .ref (ad 3), .ref (ad 4), .int su_lines, .int su_length, .int su_perNote, .int su_above])), ((ad 2), .inl (kc 0, 18, .inl su_numbers))]
abbrev rm_Setup_writeChoice : Room := { frames := 1, cells := 0, slots := 0, locals := 21 }
abbrev cw_Setup_writeChoice : Cond := .code y_Setup_writeChoice b_Setup_writeChoice 4 (some .int)
abbrev ws_Setup_writeChoice : List Cond := cw_Setup_writeChoice :: GW
theorem hd_Setup_writeChoice : y_Setup_writeChoice.cls ≠ "java/lang/invoke/MethodHandle" ∧ y_Setup_writeChoice.cls ≠ "java/lang/invoke/VarHandle" ∧ (parseMethodDescriptor y_Setup_writeChoice.desc).map (fun d => d.parameters.length) = some 1 := by decide +kernel
def m_Setup_writeChoice_40 (F : Nat) (su_numbers : Nat → Int32) (k9 : (Nat → Int32) → Int32 → Int32 → Option (Int32 × (Nat → Int32))) (P : Nat → Int32) (x2 : Int32) (x3 : Int32) : Option (Int32 × (Nat → Int32)) :=
  k9 P x2 (x3 + 1)
set_option maxHeartbeats 4000000 in
set_option maxRecDepth 100000 in
theorem l_Setup_writeChoice_40 {r : Int32 × (Nat → Int32)} {F : Nat} {ad : Nat → Nat} {pa : Nat} {P : Nat → Int32} {su_lines : Int32} {su_length : Int32} {su_perNote : Int32} {su_above : Int32} {su_numbers : Nat → Int32} {k9 : (Nat → Int32) → Int32 → Int32 → Option (Int32 × (Nat → Int32))} {x2 : Int32} {x3 : Int32} {H : Heap} {locs : List Loc} {ls : Array Slot} (C : Cx p s m meth c args A D kc R_Setup b_Setup_writeChoice 4 (some .int)) (hk9 : (∀ (P : Nat → Int32) (x2 : Int32) (x3 : Int32) (H : Heap) (locs : List Loc) (ls : Array Slot), k9 P x2 x3 = some r → St D A s (wd_Setup_writeChoice kc ad pa P su_lines su_length su_perNote su_above su_numbers) H locs → lv_has ls 4 [(0, .ref (ad 1)), (1, .ref pa), (2, .int x2), (3, .int x3)] → W p l e rm_Setup_writeChoice s m args below meth c H locs 0 0 (MQ below (Qi D A (wd_Setup_writeChoice kc ad pa r.2 su_lines su_length su_perNote su_above su_numbers) r.1) args s 0 0 A) (F0 m 9 ls []))) (hm : m_Setup_writeChoice_40 F su_numbers k9 P x2 x3 = some r) (hZ : St D A s (wd_Setup_writeChoice kc ad pa P su_lines su_length su_perNote su_above su_numbers) H locs) (hl : lv_has ls 4 [(0, .ref (ad 1)), (1, .ref pa), (2, .int x2), (3, .int x3)]) : W p l e rm_Setup_writeChoice s m args below meth c H locs 0 0 (MQ below (Qi D A (wd_Setup_writeChoice kc ad pa r.2 su_lines su_length su_perNote su_above su_numbers) r.1) args s 0 0 A) (F0 m 40 ls []) := by
  obtain ⟨hx, hb, hr, hts, hown, hml, hlocks, hK, hN, hA, hX⟩ := id C
  obtain ⟨hP, hD, hS⟩ := hZ
  unfold m_Setup_writeChoice_40 at hm
  refine lv_iinc (v := (x3 + 1)) (lv' := [(3, .int (x3 + 1)), (0, .ref (ad 1)), (1, .ref pa), (2, .int x2)]) hx hb d_Setup_writeChoice_40 hl (k := 3) rfl rfl (by decide) rfl (fun ls hl => ?_)
  refine lv_goto (tgt := 9) hx hb d_Setup_writeChoice_43 (by decide) ?_
  exact hk9 P x2 (x3 + 1) _ _ _ hm ⟨hP, hD, hS⟩ (lv_sub hl [1, 2, 3, 0] rfl)
def m_Setup_writeChoice_9b (F : Nat) (su_numbers : Nat → Int32) (k9 : (Nat → Int32) → Int32 → Int32 → Option (Int32 × (Nat → Int32))) (P : Nat → Int32) (x2 : Int32) (x3 : Int32) : Option (Int32 × (Nat → Int32)) :=
  (if (su_numbers (Int32.toNatClampNeg (2 : Int32))) < x3 then
    (some (x2, P))
  else
    (if (8 : Int32) ≤ x2 then
      (some (x2, P))
    else
      (bd (m_Setup_isChosen su_numbers x3) (fun u3 => (if u3 = (0 : Int32) then
        m_Setup_writeChoice_40 F su_numbers k9 P x2 x3
      else
        (gd x2 8 (m_Setup_writeChoice_40 F su_numbers k9 (upd P (Int32.toNatClampNeg x2) x3) (x2 + 1) x3)))))))
set_option maxHeartbeats 4000000 in
set_option maxRecDepth 100000 in
theorem l_Setup_writeChoice_9 {r : Int32 × (Nat → Int32)} {F : Nat} {ad : Nat → Nat} {pa : Nat} {P : Nat → Int32} {su_lines : Int32} {su_length : Int32} {su_perNote : Int32} {su_above : Int32} {su_numbers : Nat → Int32} {k9 : (Nat → Int32) → Int32 → Int32 → Option (Int32 × (Nat → Int32))} {x2 : Int32} {x3 : Int32} {H : Heap} {locs : List Loc} {ls : Array Slot} (C : Cx p s m meth c args A D kc R_Setup b_Setup_writeChoice 4 (some .int)) (hk9 : (∀ (P : Nat → Int32) (x2 : Int32) (x3 : Int32) (H : Heap) (locs : List Loc) (ls : Array Slot), k9 P x2 x3 = some r → St D A s (wd_Setup_writeChoice kc ad pa P su_lines su_length su_perNote su_above su_numbers) H locs → lv_has ls 4 [(0, .ref (ad 1)), (1, .ref pa), (2, .int x2), (3, .int x3)] → W p l e rm_Setup_writeChoice s m args below meth c H locs 0 0 (MQ below (Qi D A (wd_Setup_writeChoice kc ad pa r.2 su_lines su_length su_perNote su_above su_numbers) r.1) args s 0 0 A) (F0 m 9 ls []))) (hm : m_Setup_writeChoice_9b F su_numbers k9 P x2 x3 = some r) (hZ : St D A s (wd_Setup_writeChoice kc ad pa P su_lines su_length su_perNote su_above su_numbers) H locs) (hl : lv_has ls 4 [(0, .ref (ad 1)), (1, .ref pa), (2, .int x2), (3, .int x3)]) : W p l e rm_Setup_writeChoice s m args below meth c H locs 0 0 (MQ below (Qi D A (wd_Setup_writeChoice kc ad pa r.2 su_lines su_length su_perNote su_above su_numbers) r.1) args s 0 0 A) (F0 m 9 ls []) := by
  obtain ⟨hx, hb, hr, hts, hown, hml, hlocks, hK, hN, hA, hX⟩ := id C
  obtain ⟨hP, hD, hS⟩ := hZ
  unfold m_Setup_writeChoice_9b at hm
  refine lv_iload_n hx hb d_Setup_writeChoice_9 rfl (lv_at hl 3 rfl) ?_
  refine lv_aload_n hx hb d_Setup_writeChoice_10 rfl (lv_at hl 0 rfl) ?_
  refine va_get (D := D) (ci := 7) (v := .ref (ad 2)) (C := R_Setup) (T := T_Setup) (N := 7) hx hb hts inG_Setup hown hK hP 1 rfl rfl 0 (by decide) (hts _ gw_157) (fun _ h9 => h9) rfl d_Setup_writeChoice_11 ?_
  refine lv_iconst (v := 2) hx hb d_Setup_writeChoice_14 (by decide) ?_
  refine va_iald hx hb hK hP 2 0 rfl rfl (in_lit (by decide)) d_Setup_writeChoice_15 ?_
  refine lv_icmp_gt (tgt := 46) hx hb d_Setup_writeChoice_16 (by decide) (fun c1 => ?_) (fun c1 => ?_)
  · replace hm := ifT hm c1
    refine lv_iload_n hx hb d_Setup_writeChoice_46 rfl (lv_at hl 2 rfl) ?_
    replace hm := Option.some.inj hm; subst hm
    exact zret_i C hP hD hS d_Setup_writeChoice_47
  · replace hm := ifF hm c1
    refine lv_iload_n hx hb d_Setup_writeChoice_19 rfl (lv_at hl 2 rfl) ?_
    refine lv_aload_n hx hb d_Setup_writeChoice_20 rfl (lv_at hl 1 rfl) ?_
    refine va_alen (v := 8) hx hb hK hP 0 0 rfl rfl rfl d_Setup_writeChoice_21 ?_
    refine lv_icmp_ge (tgt := 46) hx hb d_Setup_writeChoice_22 (by decide) (fun c2 => ?_) (fun c2 => ?_)
    · replace hm := ifT hm c2
      refine lv_iload_n hx hb d_Setup_writeChoice_46 rfl (lv_at hl 2 rfl) ?_
      replace hm := Option.some.inj hm; subst hm
      exact zret_i C hP hD hS d_Setup_writeChoice_47
    · replace hm := ifF hm c2
      refine lv_aload_n hx hb d_Setup_writeChoice_25 rfl (lv_at hl 0 rfl) ?_
      refine lv_iload_n hx hb d_Setup_writeChoice_26 rfl (lv_at hl 3 rfl) ?_
      obtain ⟨u3, hc4, hm⟩ := bd_some hm
      refine zV_i (n := 1) (wr := [(pa, .inl (kc 0, 8, .inl P))]) (w1 := (wd_Setup_isChosen kc ad su_lines su_length su_perNote su_above su_numbers)) (ws1 := (wd_Setup_writeChoice kc ad pa P su_lines su_length su_perNote su_above su_numbers)) (As := [.int x3]) (rest := []) (ci := 7) (q0 := 0) (y := y_Setup_isChosen) ⟨hx, hb, hml, hown, hts⟩ (fun sz => c_Setup_isChosen hc4 sz) gw_476 gw_473 gw_475 gw_7 gw_113 hd_Setup_isChosen ⟨Nat.le_of_ble_eq_true rfl, Nat.le_of_ble_eq_true rfl⟩ ⟨rfl, rfl⟩ ⟨Nat.zero_le _, Nat.zero_le _⟩ hK hN hP hD hS hA hX [1, 2] [0] [0, 1, 2] rfl rfl (by decide) (by decide) (by decide) rfl (by decide) rfl rfl rfl hl.1 rfl (Nat.le_of_ble_eq_true rfl) d_Setup_writeChoice_27 (fun H locs hP hD hS => ?_)
      refine lv_if_eq (tgt := 40) hx hb d_Setup_writeChoice_30 (by decide) (fun c5 => ?_) (fun c5 => ?_)
      · replace hm := ifT hm c5
        exact l_Setup_writeChoice_40 C hk9 hm ⟨hP, hD, hS⟩ (lv_sub hl [0, 1, 2, 3] rfl)
      · replace hm := ifF hm c5
        refine lv_aload_n hx hb d_Setup_writeChoice_33 rfl (lv_at hl 1 rfl) ?_
        refine lv_iload_n hx hb d_Setup_writeChoice_34 rfl (lv_at hl 2 rfl) ?_
        refine lv_iload_n hx hb d_Setup_writeChoice_35 rfl (lv_at hl 3 rfl) ?_
        obtain ⟨hi6, hm⟩ := gd_some hm
        refine va_iast hx hb hK hP hD hS 0 0 rfl rfl hi6 d_Setup_writeChoice_36 (fun H locs hP hD hS => ?_)
        replace hP : va_P D vwCl (wd_Setup_writeChoice kc ad pa (upd P (Int32.toNatClampNeg x2) x3) su_lines su_length su_perNote su_above su_numbers) H := hP
        replace hD : va_D A (wd_Setup_writeChoice kc ad pa (upd P (Int32.toNatClampNeg x2) x3) su_lines su_length su_perNote su_above su_numbers) := hD
        refine lv_iinc (v := (x2 + 1)) (lv' := [(2, .int (x2 + 1)), (0, .ref (ad 1)), (1, .ref pa), (3, .int x3)]) hx hb d_Setup_writeChoice_37 hl (k := 2) rfl rfl (by decide) rfl (fun ls hl => ?_)
        exact l_Setup_writeChoice_40 C hk9 hm ⟨hP, hD, hS⟩ (lv_sub hl [1, 2, 0, 3] rfl)
def m_Setup_writeChoice_9 (F : Nat) (su_numbers : Nat → Int32)  : Nat → (Nat → Int32) → Int32 → Int32 → Option (Int32 × (Nat → Int32))
  | 0 => fun _ _ _ => none
  | n + 1 => m_Setup_writeChoice_9b F su_numbers  (m_Setup_writeChoice_9 F su_numbers  n)
set_option maxHeartbeats 4000000 in
set_option maxRecDepth 100000 in
theorem lp_Setup_writeChoice_9 {r : Int32 × (Nat → Int32)} {F : Nat} {ad : Nat → Nat} {pa : Nat} {su_lines : Int32} {su_length : Int32} {su_perNote : Int32} {su_above : Int32} {su_numbers : Nat → Int32}  (C : Cx p s m meth c args A D kc R_Setup b_Setup_writeChoice 4 (some .int))  : ∀ (n : Nat) (P : Nat → Int32) (x2 : Int32) (x3 : Int32) (H : Heap) (locs : List Loc) (ls : Array Slot), m_Setup_writeChoice_9 F su_numbers  n P x2 x3 = some r → St D A s (wd_Setup_writeChoice kc ad pa P su_lines su_length su_perNote su_above su_numbers) H locs → lv_has ls 4 [(0, .ref (ad 1)), (1, .ref pa), (2, .int x2), (3, .int x3)] → W p l e rm_Setup_writeChoice s m args below meth c H locs 0 0 (MQ below (Qi D A (wd_Setup_writeChoice kc ad pa r.2 su_lines su_length su_perNote su_above su_numbers) r.1) args s 0 0 A) (F0 m 9 ls []) := by
  intro n
  induction n with
  | zero => intro P x2 x3 H locs ls hm; cases hm
  | succ n ih => intro P x2 x3 H locs ls hm hZ hl; exact l_Setup_writeChoice_9 C  ih hm hZ hl
def m_Setup_writeChoice (F : Nat) (su_numbers : Nat → Int32) (P : Nat → Int32)  : Option (Int32 × (Nat → Int32)) :=
  m_Setup_writeChoice_9 F su_numbers  F P (0 : Int32) (su_numbers (Int32.toNatClampNeg (1 : Int32)))
set_option maxHeartbeats 4000000 in
set_option maxRecDepth 100000 in
theorem e_Setup_writeChoice {r : Int32 × (Nat → Int32)} {F : Nat} {ad : Nat → Nat} {pa : Nat} {P : Nat → Int32} {su_lines : Int32} {su_length : Int32} {su_perNote : Int32} {su_above : Int32} {su_numbers : Nat → Int32}  {H : Heap} {locs : List Loc} {ls : Array Slot} (C : Cx p s m meth c args A D kc R_Setup b_Setup_writeChoice 4 (some .int)) (hm : m_Setup_writeChoice F su_numbers P = some r) (hZ : St D A s (wd_Setup_writeChoice kc ad pa P su_lines su_length su_perNote su_above su_numbers) H locs) (hl : lv_has ls 4 [(0, .ref (ad 1)), (1, .ref pa)]) : W p l e rm_Setup_writeChoice s m args below meth c H locs 0 0 (MQ below (Qi D A (wd_Setup_writeChoice kc ad pa r.2 su_lines su_length su_perNote su_above su_numbers) r.1) args s 0 0 A) (F0 m 0 ls []) := by
  obtain ⟨hx, hb, hr, hts, hown, hml, hlocks, hK, hN, hA, hX⟩ := id C
  obtain ⟨hP, hD, hS⟩ := hZ
  unfold m_Setup_writeChoice at hm
  refine lv_iconst (v := 0) hx hb d_Setup_writeChoice_0 (by decide) ?_
  refine lv_istore_n (lv' := [(2, .int (0 : Int32)), (0, .ref (ad 1)), (1, .ref pa)]) hx hb d_Setup_writeChoice_1 rfl hl (by decide) rfl (fun ls hl => ?_)
  refine lv_aload_n hx hb d_Setup_writeChoice_2 rfl (lv_at hl 1 rfl) ?_
  refine va_get (D := D) (ci := 7) (v := .ref (ad 2)) (C := R_Setup) (T := T_Setup) (N := 7) hx hb hts inG_Setup hown hK hP 1 rfl rfl 0 (by decide) (hts _ gw_157) (fun _ h9 => h9) rfl d_Setup_writeChoice_3 ?_
  refine lv_iconst (v := 1) hx hb d_Setup_writeChoice_6 (by decide) ?_
  refine va_iald hx hb hK hP 2 0 rfl rfl (in_lit (by decide)) d_Setup_writeChoice_7 ?_
  refine lv_istore_n (lv' := [(3, .int (su_numbers (Int32.toNatClampNeg (1 : Int32)))), (2, .int (0 : Int32)), (0, .ref (ad 1)), (1, .ref pa)]) hx hb d_Setup_writeChoice_8 rfl hl (by decide) rfl (fun ls hl => ?_)
  exact lp_Setup_writeChoice_9 C  F P (0 : Int32) (su_numbers (Int32.toNatClampNeg (1 : Int32))) _ _ _ hm ⟨hP, hD, hS⟩ (lv_sub hl [2, 3, 1, 0] rfl)
set_option maxHeartbeats 4000000 in
set_option maxRecDepth 100000 in
theorem c_Setup_writeChoice {l : Launch} {D : va_G} {kc : Nat → ClassId} {r : Int32 × (Nat → Int32)} {F : Nat} {ad : Nat → Nat} {pa : Nat} {P : Nat → Int32} {su_lines : Int32} {su_length : Int32} {su_perNote : Int32} {su_above : Int32} {su_numbers : Nat → Int32}  (hm : m_Setup_writeChoice F su_numbers P = some r) (sz : Nat) : Ci l y_Setup_writeChoice ws_Setup_writeChoice rm_Setup_writeChoice D kc sz [.ref (ad 1), .ref pa] (wd_Setup_writeChoice kc ad pa P su_lines su_length su_perNote su_above su_numbers) (wd_Setup_writeChoice kc ad pa r.2 su_lines su_length su_perNote su_above su_numbers) r.1 :=
  Cz_of (Qf := fun A => (Qi D A (wd_Setup_writeChoice kc ad pa r.2 su_lines su_length su_perNote su_above su_numbers) r.1)) (cc := b_Setup_writeChoice) (maxL := 4) (ret := (some .int)) (by decide) rfl rfl (fun C hZ hl => e_Setup_writeChoice C hm hZ hl)
abbrev b_Setup_total : ByteArray := prog_7_method_2_code
abbrev y_Setup_total : MethodName := ⟨"SpeciesSolver$Setup", "total", "()I"⟩
theorem d_Setup_total_0 : decode b_Setup_total 0 = .ok (.aload_n 0, 1) := by decide +kernel
theorem d_Setup_total_1 : decode b_Setup_total 1 = .ok (.getfield 24, 3) := by decide +kernel
theorem d_Setup_total_4 : decode b_Setup_total 4 = .ok (.ifCond .ne 7, 3) := by decide +kernel
theorem d_Setup_total_7 : decode b_Setup_total 7 = .ok (.iconst 0, 1) := by decide +kernel
theorem d_Setup_total_8 : decode b_Setup_total 8 = .ok (.goto 16, 3) := by decide +kernel
theorem d_Setup_total_11 : decode b_Setup_total 11 = .ok (.aload_n 0, 1) := by decide +kernel
theorem d_Setup_total_12 : decode b_Setup_total 12 = .ok (.getfield 31, 3) := by decide +kernel
theorem d_Setup_total_15 : decode b_Setup_total 15 = .ok (.aload_n 0, 1) := by decide +kernel
theorem d_Setup_total_16 : decode b_Setup_total 16 = .ok (.getfield 28, 3) := by decide +kernel
theorem d_Setup_total_19 : decode b_Setup_total 19 = .ok (.iconst 1, 1) := by decide +kernel
theorem d_Setup_total_20 : decode b_Setup_total 20 = .ok (.isub, 1) := by decide +kernel
theorem d_Setup_total_21 : decode b_Setup_total 21 = .ok (.imul, 1) := by decide +kernel
theorem d_Setup_total_22 : decode b_Setup_total 22 = .ok (.iconst 1, 1) := by decide +kernel
theorem d_Setup_total_23 : decode b_Setup_total 23 = .ok (.iadd, 1) := by decide +kernel
theorem d_Setup_total_24 : decode b_Setup_total 24 = .ok (.ireturn, 1) := by decide +kernel
abbrev wd_Setup_total (kc : Nat → ClassId) (ad : Nat → Nat) (su_lines : Int32) (su_length : Int32) (su_perNote : Int32) (su_above : Int32) : va_W := [((ad 1), .inr (7, [.ref (ad 2), .ref (ad 3), .ref (ad 4), .int su_lines, .int su_length, .int su_perNote, .int su_above]))]
abbrev rm_Setup_total : Room := { frames := 0, cells := 0, slots := 0, locals := 0 }
abbrev cw_Setup_total : Cond := .code y_Setup_total b_Setup_total 1 (some .int)
abbrev ws_Setup_total : List Cond := cw_Setup_total :: GW
theorem hd_Setup_total : y_Setup_total.cls ≠ "java/lang/invoke/MethodHandle" ∧ y_Setup_total.cls ≠ "java/lang/invoke/VarHandle" ∧ (parseMethodDescriptor y_Setup_total.desc).map (fun d => d.parameters.length) = some 0 := by decide +kernel
def m_Setup_total (su_lines : Int32) (su_length : Int32) (su_perNote : Int32)   : Option (Int32) :=
  (if su_lines = (0 : Int32) then
    (some (0 : Int32))
  else
    (some ((su_perNote * (su_length - (1 : Int32))) + (1 : Int32))))
set_option maxHeartbeats 4000000 in
set_option maxRecDepth 100000 in
theorem e_Setup_total {r : Int32} {ad : Nat → Nat} {su_lines : Int32} {su_length : Int32} {su_perNote : Int32} {su_above : Int32}  {H : Heap} {locs : List Loc} {ls : Array Slot} (C : Cx p s m meth c args A D kc R_Setup b_Setup_total 1 (some .int)) (hm : m_Setup_total su_lines su_length su_perNote  = some r) (hZ : St D A s (wd_Setup_total kc ad su_lines su_length su_perNote su_above) H locs) (hl : lv_has ls 1 [(0, .ref (ad 1))]) : W p l e rm_Setup_total s m args below meth c H locs 0 0 (MQ below (Qi D A (wd_Setup_total kc ad su_lines su_length su_perNote su_above) r) args s 0 0 A) (F0 m 0 ls []) := by
  obtain ⟨hx, hb, hr, hts, hown, hml, hlocks, hK, hN, hA, hX⟩ := id C
  obtain ⟨hP, hD, hS⟩ := hZ
  unfold m_Setup_total at hm
  refine lv_aload_n hx hb d_Setup_total_0 rfl (lv_at hl 0 rfl) ?_
  refine va_get (D := D) (ci := 7) (v := .int su_lines) (C := R_Setup) (T := T_Setup) (N := 7) hx hb hts inG_Setup hown hK hP 0 rfl rfl 3 (by decide) (hts _ gw_169) (fun _ h9 => h9) rfl d_Setup_total_1 ?_
  refine lv_if_ne (tgt := 11) hx hb d_Setup_total_4 (by decide) (fun c1 => ?_) (fun c1 => ?_)
  · replace hm := ifF hm c1
    refine lv_aload_n hx hb d_Setup_total_11 rfl (lv_at hl 0 rfl) ?_
    refine va_get (D := D) (ci := 7) (v := .int su_perNote) (C := R_Setup) (T := T_Setup) (N := 7) hx hb hts inG_Setup hown hK hP 0 rfl rfl 5 (by decide) (hts _ gw_177) (fun _ h9 => h9) rfl d_Setup_total_12 ?_
    refine lv_aload_n hx hb d_Setup_total_15 rfl (lv_at hl 0 rfl) ?_
    refine va_get (D := D) (ci := 7) (v := .int su_length) (C := R_Setup) (T := T_Setup) (N := 7) hx hb hts inG_Setup hown hK hP 0 rfl rfl 4 (by decide) (hts _ gw_174) (fun _ h9 => h9) rfl d_Setup_total_16 ?_
    refine lv_iconst (v := 1) hx hb d_Setup_total_19 (by decide) ?_
    refine lv_isub hx hb d_Setup_total_20 ?_
    refine lv_imul hx hb d_Setup_total_21 ?_
    refine lv_iconst (v := 1) hx hb d_Setup_total_22 (by decide) ?_
    refine lv_iadd hx hb d_Setup_total_23 ?_
    replace hm := Option.some.inj hm; subst hm
    exact zret_i C hP hD hS d_Setup_total_24
  · replace hm := ifT hm c1
    refine lv_iconst (v := 0) hx hb d_Setup_total_7 (by decide) ?_
    refine lv_goto (tgt := 24) hx hb d_Setup_total_8 (by decide) ?_
    replace hm := Option.some.inj hm; subst hm
    exact zret_i C hP hD hS d_Setup_total_24
set_option maxHeartbeats 4000000 in
set_option maxRecDepth 100000 in
theorem c_Setup_total {l : Launch} {D : va_G} {kc : Nat → ClassId} {r : Int32} {ad : Nat → Nat} {su_lines : Int32} {su_length : Int32} {su_perNote : Int32} {su_above : Int32}  (hm : m_Setup_total su_lines su_length su_perNote  = some r) (sz : Nat) : Ci l y_Setup_total ws_Setup_total rm_Setup_total D kc sz [.ref (ad 1)] (wd_Setup_total kc ad su_lines su_length su_perNote su_above) (wd_Setup_total kc ad su_lines su_length su_perNote su_above) r :=
  Cz_of (Qf := fun A => (Qi D A (wd_Setup_total kc ad su_lines su_length su_perNote su_above) r)) (cc := b_Setup_total) (maxL := 1) (ret := (some .int)) (by decide) rfl rfl (fun C hZ hl => e_Setup_total C hm hZ hl)
abbrev b_Rules_isStrong : ByteArray := prog_5_method_3_code
abbrev y_Rules_isStrong : MethodName := ⟨"SpeciesSolver$Rules", "isStrong", "(I)Z"⟩
theorem d_Rules_isStrong_0 : decode b_Rules_isStrong 0 = .ok (.iload_n 1, 1) := by decide +kernel
theorem d_Rules_isStrong_1 : decode b_Rules_isStrong 1 = .ok (.aload_n 0, 1) := by decide +kernel
theorem d_Rules_isStrong_2 : decode b_Rules_isStrong 2 = .ok (.getfield 9, 3) := by decide +kernel
theorem d_Rules_isStrong_5 : decode b_Rules_isStrong 5 = .ok (.getfield 21, 3) := by decide +kernel
theorem d_Rules_isStrong_8 : decode b_Rules_isStrong 8 = .ok (.irem, 1) := by decide +kernel
theorem d_Rules_isStrong_9 : decode b_Rules_isStrong 9 = .ok (.ifCond .ne 7, 3) := by decide +kernel
theorem d_Rules_isStrong_12 : decode b_Rules_isStrong 12 = .ok (.iconst 1, 1) := by decide +kernel
theorem d_Rules_isStrong_13 : decode b_Rules_isStrong 13 = .ok (.goto 4, 3) := by decide +kernel
theorem d_Rules_isStrong_16 : decode b_Rules_isStrong 16 = .ok (.iconst 0, 1) := by decide +kernel
theorem d_Rules_isStrong_17 : decode b_Rules_isStrong 17 = .ok (.ireturn, 1) := by decide +kernel
abbrev wd_Rules_isStrong (kc : Nat → ClassId) (ad : Nat → Nat) (su_lines : Int32) (su_length : Int32) (su_perNote : Int32) (su_above : Int32) : va_W := [((ad 1), .inr (7, [.ref (ad 2), .ref (ad 3), .ref (ad 4), .int su_lines, .int su_length, .int su_perNote, .int su_above])), ((ad 8), .inr (5, [.ref (ad 1)]))]
abbrev rm_Rules_isStrong : Room := { frames := 0, cells := 0, slots := 0, locals := 0 }
abbrev cw_Rules_isStrong : Cond := .code y_Rules_isStrong b_Rules_isStrong 2 (some .boolean)
abbrev ws_Rules_isStrong : List Cond := cw_Rules_isStrong :: GW
theorem hd_Rules_isStrong : y_Rules_isStrong.cls ≠ "java/lang/invoke/MethodHandle" ∧ y_Rules_isStrong.cls ≠ "java/lang/invoke/VarHandle" ∧ (parseMethodDescriptor y_Rules_isStrong.desc).map (fun d => d.parameters.length) = some 1 := by decide +kernel
def m_Rules_isStrong (su_perNote : Int32)  (a1 : Int32) : Option (Int32) :=
  (nz su_perNote (if (a1 - a1 / su_perNote * su_perNote) = (0 : Int32) then
    (some (1 : Int32))
  else
    (some (0 : Int32))))
set_option maxHeartbeats 4000000 in
set_option maxRecDepth 100000 in
theorem e_Rules_isStrong {r : Int32} {ad : Nat → Nat} {su_lines : Int32} {su_length : Int32} {su_perNote : Int32} {su_above : Int32} {a1 : Int32} {H : Heap} {locs : List Loc} {ls : Array Slot} (C : Cx p s m meth c args A D kc R_Rules b_Rules_isStrong 2 (some .boolean)) (hm : m_Rules_isStrong su_perNote a1 = some r) (hZ : St D A s (wd_Rules_isStrong kc ad su_lines su_length su_perNote su_above) H locs) (hl : lv_has ls 2 [(0, .ref (ad 8)), (1, .int a1)]) : W p l e rm_Rules_isStrong s m args below meth c H locs 0 0 (MQ below (Qi D A (wd_Rules_isStrong kc ad su_lines su_length su_perNote su_above) r) args s 0 0 A) (F0 m 0 ls []) := by
  obtain ⟨hx, hb, hr, hts, hown, hml, hlocks, hK, hN, hA, hX⟩ := id C
  obtain ⟨hP, hD, hS⟩ := hZ
  unfold m_Rules_isStrong at hm
  refine lv_iload_n hx hb d_Rules_isStrong_0 rfl (lv_at hl 1 rfl) ?_
  refine lv_aload_n hx hb d_Rules_isStrong_1 rfl (lv_at hl 0 rfl) ?_
  refine va_get (D := D) (ci := 5) (v := .ref (ad 1)) (C := R_Rules) (T := T_Rules) (N := 1) hx hb hts inG_Rules hown hK hP 1 rfl rfl 0 (by decide) (hts _ gw_207) (fun _ h9 => h9) rfl d_Rules_isStrong_2 ?_
  refine va_getN (D := D) (ci := 7) (v := .int su_perNote) (C := R_Setup) (T := T_Setup) (N := 7) hx hb hts inG_Setup hown hK hP 0 rfl rfl 5 (by decide) (va_Nw.use rfl (hN _ nw_179)) (fun _ h9 => h9) rfl d_Rules_isStrong_5 ?_
  obtain ⟨hz1, hm⟩ := nz_some hm
  refine lv_irem hx hb d_Rules_isStrong_8 hz1 ?_
  refine lv_if_ne (tgt := 16) hx hb d_Rules_isStrong_9 (by decide) (fun c2 => ?_) (fun c2 => ?_)
  · replace hm := ifF hm c2
    refine lv_iconst (v := 0) hx hb d_Rules_isStrong_16 (by decide) ?_
    replace hm := Option.some.inj hm; subst hm
    exact zret_z (v := 0) C hP hD hS (by rfl) d_Rules_isStrong_17
  · replace hm := ifT hm c2
    refine lv_iconst (v := 1) hx hb d_Rules_isStrong_12 (by decide) ?_
    refine lv_goto (tgt := 17) hx hb d_Rules_isStrong_13 (by decide) ?_
    replace hm := Option.some.inj hm; subst hm
    exact zret_z (v := 1) C hP hD hS (by rfl) d_Rules_isStrong_17
set_option maxHeartbeats 4000000 in
set_option maxRecDepth 100000 in
theorem c_Rules_isStrong {l : Launch} {D : va_G} {kc : Nat → ClassId} {r : Int32} {ad : Nat → Nat} {su_lines : Int32} {su_length : Int32} {su_perNote : Int32} {su_above : Int32} {a1 : Int32} (hm : m_Rules_isStrong su_perNote a1 = some r) (sz : Nat) : Ci l y_Rules_isStrong ws_Rules_isStrong rm_Rules_isStrong D kc sz [.ref (ad 8), .int a1] (wd_Rules_isStrong kc ad su_lines su_length su_perNote su_above) (wd_Rules_isStrong kc ad su_lines su_length su_perNote su_above) r :=
  Cz_of (Qf := fun A => (Qi D A (wd_Rules_isStrong kc ad su_lines su_length su_perNote su_above) r)) (cc := b_Rules_isStrong) (maxL := 2) (ret := (some .boolean)) (by decide) rfl rfl (fun C hZ hl => e_Rules_isStrong C hm hZ hl)
abbrev b_Rules_classWith : ByteArray := prog_5_method_4_code
abbrev y_Rules_classWith : MethodName := ⟨"SpeciesSolver$Rules", "classWith", "(III)I"⟩
theorem d_Rules_classWith_0 : decode b_Rules_classWith 0 = .ok (.iload_n 3, 1) := by decide +kernel
theorem d_Rules_classWith_1 : decode b_Rules_classWith 1 = .ok (.aload_n 0, 1) := by decide +kernel
theorem d_Rules_classWith_2 : decode b_Rules_classWith 2 = .ok (.getfield 9, 3) := by decide +kernel
theorem d_Rules_classWith_5 : decode b_Rules_classWith 5 = .ok (.getfield 25, 3) := by decide +kernel
theorem d_Rules_classWith_8 : decode b_Rules_classWith 8 = .ok (.iload_n 1, 1) := by decide +kernel
theorem d_Rules_classWith_9 : decode b_Rules_classWith 9 = .ok (.aaload, 1) := by decide +kernel
theorem d_Rules_classWith_10 : decode b_Rules_classWith 10 = .ok (.iload_n 2, 1) := by decide +kernel
theorem d_Rules_classWith_11 : decode b_Rules_classWith 11 = .ok (.aload_n 0, 1) := by decide +kernel
theorem d_Rules_classWith_12 : decode b_Rules_classWith 12 = .ok (.getfield 9, 3) := by decide +kernel
theorem d_Rules_classWith_15 : decode b_Rules_classWith 15 = .ok (.getfield 21, 3) := by decide +kernel
theorem d_Rules_classWith_18 : decode b_Rules_classWith 18 = .ok (.idiv, 1) := by decide +kernel
theorem d_Rules_classWith_19 : decode b_Rules_classWith 19 = .ok (.iaload, 1) := by decide +kernel
theorem d_Rules_classWith_20 : decode b_Rules_classWith 20 = .ok (.isub, 1) := by decide +kernel
theorem d_Rules_classWith_21 : decode b_Rules_classWith 21 = .ok (.istore 4, 2) := by decide +kernel
theorem d_Rules_classWith_23 : decode b_Rules_classWith 23 = .ok (.iload 4, 2) := by decide +kernel
theorem d_Rules_classWith_25 : decode b_Rules_classWith 25 = .ok (.ifCond .ge 9, 3) := by decide +kernel
theorem d_Rules_classWith_28 : decode b_Rules_classWith 28 = .ok (.iload 4, 2) := by decide +kernel
theorem d_Rules_classWith_30 : decode b_Rules_classWith 30 = .ok (.ineg, 1) := by decide +kernel
theorem d_Rules_classWith_31 : decode b_Rules_classWith 31 = .ok (.goto 5, 3) := by decide +kernel
theorem d_Rules_classWith_34 : decode b_Rules_classWith 34 = .ok (.iload 4, 2) := by decide +kernel
theorem d_Rules_classWith_36 : decode b_Rules_classWith 36 = .ok (.bipush 12, 2) := by decide +kernel
theorem d_Rules_classWith_38 : decode b_Rules_classWith 38 = .ok (.irem, 1) := by decide +kernel
theorem d_Rules_classWith_39 : decode b_Rules_classWith 39 = .ok (.ireturn, 1) := by decide +kernel
abbrev wd_Rules_classWith (kc : Nat → ClassId) (ad : Nat → Nat) (su_lines : Int32) (su_length : Int32) (su_perNote : Int32) (su_above : Int32) (su_given : Nat → Nat → Int32) : va_W := [((ad 1), .inr (7, [.ref (ad 2), .ref (ad 3), .ref (ad 4), .int su_lines, .int su_length, .int su_perNote, .int su_above])), ((ad 4), .inl (kc 3, 3, .inr (.inr (.inr (.inr (fun i => if i < 3 then some (ad (5 + i)) else none)))))), ((ad 5), .inl (kc 0, 12, .inl (su_given 0))), ((ad 6), .inl (kc 0, 12, .inl (su_given 1))), ((ad 7), .inl (kc 0, 12, .inl (su_given 2))), ((ad 8), .inr (5, [.ref (ad 1)]))]
abbrev rm_Rules_classWith : Room := { frames := 0, cells := 0, slots := 0, locals := 0 }
abbrev cw_Rules_classWith : Cond := .code y_Rules_classWith b_Rules_classWith 5 (some .int)
abbrev ws_Rules_classWith : List Cond := cw_Rules_classWith :: GW
theorem hd_Rules_classWith : y_Rules_classWith.cls ≠ "java/lang/invoke/MethodHandle" ∧ y_Rules_classWith.cls ≠ "java/lang/invoke/VarHandle" ∧ (parseMethodDescriptor y_Rules_classWith.desc).map (fun d => d.parameters.length) = some 3 := by decide +kernel
def m_Rules_classWith (su_perNote : Int32) (su_given : Nat → Nat → Int32)  (a1 : Int32) (a2 : Int32) (a3 : Int32) : Option (Int32) :=
  (gd a1 3 (nz su_perNote (gd (a2 / su_perNote) 12 (if (0 : Int32) ≤ (a3 - (su_given (Int32.toNatClampNeg a1) (Int32.toNatClampNeg (a2 / su_perNote)))) then
    (some ((a3 - (su_given (Int32.toNatClampNeg a1) (Int32.toNatClampNeg (a2 / su_perNote)))) - (a3 - (su_given (Int32.toNatClampNeg a1) (Int32.toNatClampNeg (a2 / su_perNote)))) / (12 : Int32) * (12 : Int32)))
  else
    (some ((-(a3 - (su_given (Int32.toNatClampNeg a1) (Int32.toNatClampNeg (a2 / su_perNote))))) - (-(a3 - (su_given (Int32.toNatClampNeg a1) (Int32.toNatClampNeg (a2 / su_perNote))))) / (12 : Int32) * (12 : Int32)))))))
set_option maxHeartbeats 4000000 in
set_option maxRecDepth 100000 in
theorem e_Rules_classWith {r : Int32} {ad : Nat → Nat} {su_lines : Int32} {su_length : Int32} {su_perNote : Int32} {su_above : Int32} {su_given : Nat → Nat → Int32} {a1 : Int32} {a2 : Int32} {a3 : Int32} {H : Heap} {locs : List Loc} {ls : Array Slot} (C : Cx p s m meth c args A D kc R_Rules b_Rules_classWith 5 (some .int)) (hm : m_Rules_classWith su_perNote su_given a1 a2 a3 = some r) (hZ : St D A s (wd_Rules_classWith kc ad su_lines su_length su_perNote su_above su_given) H locs) (hl : lv_has ls 5 [(0, .ref (ad 8)), (1, .int a1), (2, .int a2), (3, .int a3)]) : W p l e rm_Rules_classWith s m args below meth c H locs 0 0 (MQ below (Qi D A (wd_Rules_classWith kc ad su_lines su_length su_perNote su_above su_given) r) args s 0 0 A) (F0 m 0 ls []) := by
  obtain ⟨hx, hb, hr, hts, hown, hml, hlocks, hK, hN, hA, hX⟩ := id C
  obtain ⟨hP, hD, hS⟩ := hZ
  unfold m_Rules_classWith at hm
  refine lv_iload_n hx hb d_Rules_classWith_0 rfl (lv_at hl 3 rfl) ?_
  refine lv_aload_n hx hb d_Rules_classWith_1 rfl (lv_at hl 0 rfl) ?_
  refine va_get (D := D) (ci := 5) (v := .ref (ad 1)) (C := R_Rules) (T := T_Rules) (N := 1) hx hb hts inG_Rules hown hK hP 5 rfl rfl 0 (by decide) (hts _ gw_207) (fun _ h9 => h9) rfl d_Rules_classWith_2 ?_
  refine va_getN (D := D) (ci := 7) (v := .ref (ad 4)) (C := R_Setup) (T := T_Setup) (N := 7) hx hb hts inG_Setup hown hK hP 0 rfl rfl 2 (by decide) (va_Nw.use rfl (hN _ nw_168)) (fun _ h9 => h9) rfl d_Rules_classWith_5 ?_
  refine lv_iload_n hx hb d_Rules_classWith_8 rfl (lv_at hl 1 rfl) ?_
  obtain ⟨hi1, hm⟩ := gd_some hm
  refine zg_aald (ad := ad) (k := 5) hx hb hK hP 1 3 rfl rfl hi1 d_Rules_classWith_9 ?_
  refine lv_iload_n hx hb d_Rules_classWith_10 rfl (lv_at hl 2 rfl) ?_
  refine lv_aload_n hx hb d_Rules_classWith_11 rfl (lv_at hl 0 rfl) ?_
  refine va_get (D := D) (ci := 5) (v := .ref (ad 1)) (C := R_Rules) (T := T_Rules) (N := 1) hx hb hts inG_Rules hown hK hP 5 rfl rfl 0 (by decide) (hts _ gw_207) (fun _ h9 => h9) rfl d_Rules_classWith_12 ?_
  refine va_getN (D := D) (ci := 7) (v := .int su_perNote) (C := R_Setup) (T := T_Setup) (N := 7) hx hb hts inG_Setup hown hK hP 0 rfl rfl 5 (by decide) (va_Nw.use rfl (hN _ nw_179)) (fun _ h9 => h9) rfl d_Rules_classWith_15 ?_
  obtain ⟨hz2, hm⟩ := nz_some hm
  refine lv_idiv hx hb d_Rules_classWith_18 hz2 ?_
  obtain ⟨hi3, hm⟩ := gd_some hm
  refine zg_iald (k := 5) (g := su_given) hx hb hK hP 2 0 rfl rfl rfl rfl hi1 hi3 d_Rules_classWith_19 ?_
  refine lv_isub hx hb d_Rules_classWith_20 ?_
  refine lv_istore (lv' := [(4, .int (a3 - (su_given (Int32.toNatClampNeg a1) (Int32.toNatClampNeg (a2 / su_perNote))))), (0, .ref (ad 8)), (1, .int a1), (2, .int a2), (3, .int a3)]) hx hb d_Rules_classWith_21 hl (by decide) rfl (fun ls hl => ?_)
  refine lv_iload hx hb d_Rules_classWith_23 (lv_at hl 0 rfl) ?_
  refine lv_if_ge (tgt := 34) hx hb d_Rules_classWith_25 (by decide) (fun c4 => ?_) (fun c4 => ?_)
  · replace hm := ifT hm c4
    refine lv_iload hx hb d_Rules_classWith_34 (lv_at hl 0 rfl) ?_
    refine lv_bipush (v := 12) hx hb d_Rules_classWith_36 (by decide) ?_
    refine lv_irem hx hb d_Rules_classWith_38 (by decide) ?_
    replace hm := Option.some.inj hm; subst hm
    exact zret_i C hP hD hS d_Rules_classWith_39
  · replace hm := ifF hm c4
    refine lv_iload hx hb d_Rules_classWith_28 (lv_at hl 0 rfl) ?_
    refine lv_ineg hx hb d_Rules_classWith_30 ?_
    refine lv_goto (tgt := 36) hx hb d_Rules_classWith_31 (by decide) ?_
    refine lv_bipush (v := 12) hx hb d_Rules_classWith_36 (by decide) ?_
    refine lv_irem hx hb d_Rules_classWith_38 (by decide) ?_
    replace hm := Option.some.inj hm; subst hm
    exact zret_i C hP hD hS d_Rules_classWith_39
set_option maxHeartbeats 4000000 in
set_option maxRecDepth 100000 in
theorem c_Rules_classWith {l : Launch} {D : va_G} {kc : Nat → ClassId} {r : Int32} {ad : Nat → Nat} {su_lines : Int32} {su_length : Int32} {su_perNote : Int32} {su_above : Int32} {su_given : Nat → Nat → Int32} {a1 : Int32} {a2 : Int32} {a3 : Int32} (hm : m_Rules_classWith su_perNote su_given a1 a2 a3 = some r) (sz : Nat) : Ci l y_Rules_classWith ws_Rules_classWith rm_Rules_classWith D kc sz [.ref (ad 8), .int a1, .int a2, .int a3] (wd_Rules_classWith kc ad su_lines su_length su_perNote su_above su_given) (wd_Rules_classWith kc ad su_lines su_length su_perNote su_above su_given) r :=
  Cz_of (Qf := fun A => (Qi D A (wd_Rules_classWith kc ad su_lines su_length su_perNote su_above su_given) r)) (cc := b_Rules_classWith) (maxL := 5) (ret := (some .int)) (by decide) rfl rfl (fun C hZ hl => e_Rules_classWith C hm hZ hl)
abbrev b_Rules_isIn : ByteArray := prog_5_method_2_code
abbrev y_Rules_isIn : MethodName := ⟨"SpeciesSolver$Rules", "isIn", "(II)Z"⟩
theorem d_Rules_isIn_0 : decode b_Rules_isIn 0 = .ok (.aload_n 0, 1) := by decide +kernel
theorem d_Rules_isIn_1 : decode b_Rules_isIn 1 = .ok (.getfield 9, 3) := by decide +kernel
theorem d_Rules_isIn_4 : decode b_Rules_isIn 4 = .ok (.getfield 15, 3) := by decide +kernel
theorem d_Rules_isIn_7 : decode b_Rules_isIn 7 = .ok (.iload_n 1, 1) := by decide +kernel
theorem d_Rules_isIn_8 : decode b_Rules_isIn 8 = .ok (.iaload, 1) := by decide +kernel
theorem d_Rules_isIn_9 : decode b_Rules_isIn 9 = .ok (.iload_n 2, 1) := by decide +kernel
theorem d_Rules_isIn_10 : decode b_Rules_isIn 10 = .ok (.ishr, 1) := by decide +kernel
theorem d_Rules_isIn_11 : decode b_Rules_isIn 11 = .ok (.iconst 1, 1) := by decide +kernel
theorem d_Rules_isIn_12 : decode b_Rules_isIn 12 = .ok (.iand, 1) := by decide +kernel
theorem d_Rules_isIn_13 : decode b_Rules_isIn 13 = .ok (.iconst 1, 1) := by decide +kernel
theorem d_Rules_isIn_14 : decode b_Rules_isIn 14 = .ok (.if_icmp .ne 7, 3) := by decide +kernel
theorem d_Rules_isIn_17 : decode b_Rules_isIn 17 = .ok (.iconst 1, 1) := by decide +kernel
theorem d_Rules_isIn_18 : decode b_Rules_isIn 18 = .ok (.goto 4, 3) := by decide +kernel
theorem d_Rules_isIn_21 : decode b_Rules_isIn 21 = .ok (.iconst 0, 1) := by decide +kernel
theorem d_Rules_isIn_22 : decode b_Rules_isIn 22 = .ok (.ireturn, 1) := by decide +kernel
abbrev wd_Rules_isIn (kc : Nat → ClassId) (ad : Nat → Nat) (su_lines : Int32) (su_length : Int32) (su_perNote : Int32) (su_above : Int32) (su_numbers : Nat → Int32) : va_W := [((ad 1), .inr (7, [.ref (ad 2), .ref (ad 3), .ref (ad 4), .int su_lines, .int su_length, .int su_perNote, .int su_above])), ((ad 2), .inl (kc 0, 18, .inl su_numbers)), ((ad 8), .inr (5, [.ref (ad 1)]))]
abbrev rm_Rules_isIn : Room := { frames := 0, cells := 0, slots := 0, locals := 0 }
abbrev cw_Rules_isIn : Cond := .code y_Rules_isIn b_Rules_isIn 3 (some .boolean)
abbrev ws_Rules_isIn : List Cond := cw_Rules_isIn :: GW
theorem hd_Rules_isIn : y_Rules_isIn.cls ≠ "java/lang/invoke/MethodHandle" ∧ y_Rules_isIn.cls ≠ "java/lang/invoke/VarHandle" ∧ (parseMethodDescriptor y_Rules_isIn.desc).map (fun d => d.parameters.length) = some 2 := by decide +kernel
def m_Rules_isIn (su_numbers : Nat → Int32)  (a1 : Int32) (a2 : Int32) : Option (Int32) :=
  (gd a1 18 (if (((su_numbers (Int32.toNatClampNeg a1)) >>> (a2 &&& 31)) &&& (1 : Int32)) = (1 : Int32) then
    (some (1 : Int32))
  else
    (some (0 : Int32))))
set_option maxHeartbeats 4000000 in
set_option maxRecDepth 100000 in
theorem e_Rules_isIn {r : Int32} {ad : Nat → Nat} {su_lines : Int32} {su_length : Int32} {su_perNote : Int32} {su_above : Int32} {su_numbers : Nat → Int32} {a1 : Int32} {a2 : Int32} {H : Heap} {locs : List Loc} {ls : Array Slot} (C : Cx p s m meth c args A D kc R_Rules b_Rules_isIn 3 (some .boolean)) (hm : m_Rules_isIn su_numbers a1 a2 = some r) (hZ : St D A s (wd_Rules_isIn kc ad su_lines su_length su_perNote su_above su_numbers) H locs) (hl : lv_has ls 3 [(0, .ref (ad 8)), (1, .int a1), (2, .int a2)]) : W p l e rm_Rules_isIn s m args below meth c H locs 0 0 (MQ below (Qi D A (wd_Rules_isIn kc ad su_lines su_length su_perNote su_above su_numbers) r) args s 0 0 A) (F0 m 0 ls []) := by
  obtain ⟨hx, hb, hr, hts, hown, hml, hlocks, hK, hN, hA, hX⟩ := id C
  obtain ⟨hP, hD, hS⟩ := hZ
  unfold m_Rules_isIn at hm
  refine lv_aload_n hx hb d_Rules_isIn_0 rfl (lv_at hl 0 rfl) ?_
  refine va_get (D := D) (ci := 5) (v := .ref (ad 1)) (C := R_Rules) (T := T_Rules) (N := 1) hx hb hts inG_Rules hown hK hP 2 rfl rfl 0 (by decide) (hts _ gw_207) (fun _ h9 => h9) rfl d_Rules_isIn_1 ?_
  refine va_getN (D := D) (ci := 7) (v := .ref (ad 2)) (C := R_Setup) (T := T_Setup) (N := 7) hx hb hts inG_Setup hown hK hP 0 rfl rfl 0 (by decide) (va_Nw.use rfl (hN _ nw_158)) (fun _ h9 => h9) rfl d_Rules_isIn_4 ?_
  refine lv_iload_n hx hb d_Rules_isIn_7 rfl (lv_at hl 1 rfl) ?_
  obtain ⟨hi1, hm⟩ := gd_some hm
  refine va_iald hx hb hK hP 1 0 rfl rfl hi1 d_Rules_isIn_8 ?_
  refine lv_iload_n hx hb d_Rules_isIn_9 rfl (lv_at hl 2 rfl) ?_
  refine lv_ishr hx hb d_Rules_isIn_10 ?_
  refine lv_iconst (v := 1) hx hb d_Rules_isIn_11 (by decide) ?_
  refine lv_iand hx hb d_Rules_isIn_12 ?_
  refine lv_iconst (v := 1) hx hb d_Rules_isIn_13 (by decide) ?_
  refine lv_icmp_ne (tgt := 21) hx hb d_Rules_isIn_14 (by decide) (fun c2 => ?_) (fun c2 => ?_)
  · replace hm := ifF hm c2
    refine lv_iconst (v := 0) hx hb d_Rules_isIn_21 (by decide) ?_
    replace hm := Option.some.inj hm; subst hm
    exact zret_z (v := 0) C hP hD hS (by rfl) d_Rules_isIn_22
  · replace hm := ifT hm c2
    refine lv_iconst (v := 1) hx hb d_Rules_isIn_17 (by decide) ?_
    refine lv_goto (tgt := 22) hx hb d_Rules_isIn_18 (by decide) ?_
    replace hm := Option.some.inj hm; subst hm
    exact zret_z (v := 1) C hP hD hS (by rfl) d_Rules_isIn_22
set_option maxHeartbeats 4000000 in
set_option maxRecDepth 100000 in
theorem c_Rules_isIn {l : Launch} {D : va_G} {kc : Nat → ClassId} {r : Int32} {ad : Nat → Nat} {su_lines : Int32} {su_length : Int32} {su_perNote : Int32} {su_above : Int32} {su_numbers : Nat → Int32} {a1 : Int32} {a2 : Int32} (hm : m_Rules_isIn su_numbers a1 a2 = some r) (sz : Nat) : Ci l y_Rules_isIn ws_Rules_isIn rm_Rules_isIn D kc sz [.ref (ad 8), .int a1, .int a2] (wd_Rules_isIn kc ad su_lines su_length su_perNote su_above su_numbers) (wd_Rules_isIn kc ad su_lines su_length su_perNote su_above su_numbers) r :=
  Cz_of (Qf := fun A => (Qi D A (wd_Rules_isIn kc ad su_lines su_length su_perNote su_above su_numbers) r)) (cc := b_Rules_isIn) (maxL := 3) (ret := (some .boolean)) (by decide) rfl rfl (fun C hZ hl => e_Rules_isIn C hm hZ hl)
abbrev b_Rules_isHard : ByteArray := prog_5_method_6_code
abbrev y_Rules_isHard : MethodName := ⟨"SpeciesSolver$Rules", "isHard", "(II)Z"⟩
theorem d_Rules_isHard_0 : decode b_Rules_isHard 0 = .ok (.iconst 0, 1) := by decide +kernel
theorem d_Rules_isHard_1 : decode b_Rules_isHard 1 = .ok (.istore_n 3, 1) := by decide +kernel
theorem d_Rules_isHard_2 : decode b_Rules_isHard 2 = .ok (.iload_n 3, 1) := by decide +kernel
theorem d_Rules_isHard_3 : decode b_Rules_isHard 3 = .ok (.aload_n 0, 1) := by decide +kernel
theorem d_Rules_isHard_4 : decode b_Rules_isHard 4 = .ok (.getfield 9, 3) := by decide +kernel
theorem d_Rules_isHard_7 : decode b_Rules_isHard 7 = .ok (.getfield 37, 3) := by decide +kernel
theorem d_Rules_isHard_10 : decode b_Rules_isHard 10 = .ok (.if_icmp .ge 26, 3) := by decide +kernel
theorem d_Rules_isHard_13 : decode b_Rules_isHard 13 = .ok (.aload_n 0, 1) := by decide +kernel
theorem d_Rules_isHard_14 : decode b_Rules_isHard 14 = .ok (.iconst 3, 1) := by decide +kernel
theorem d_Rules_isHard_15 : decode b_Rules_isHard 15 = .ok (.aload_n 0, 1) := by decide +kernel
theorem d_Rules_isHard_16 : decode b_Rules_isHard 16 = .ok (.iload_n 3, 1) := by decide +kernel
theorem d_Rules_isHard_17 : decode b_Rules_isHard 17 = .ok (.iload_n 1, 1) := by decide +kernel
theorem d_Rules_isHard_18 : decode b_Rules_isHard 18 = .ok (.iload_n 2, 1) := by decide +kernel
theorem d_Rules_isHard_19 : decode b_Rules_isHard 19 = .ok (.invokevirtual 29, 3) := by decide +kernel
theorem d_Rules_isHard_22 : decode b_Rules_isHard 22 = .ok (.invokevirtual 33, 3) := by decide +kernel
theorem d_Rules_isHard_25 : decode b_Rules_isHard 25 = .ok (.ifCond .ne 5, 3) := by decide +kernel
theorem d_Rules_isHard_28 : decode b_Rules_isHard 28 = .ok (.iconst 1, 1) := by decide +kernel
theorem d_Rules_isHard_29 : decode b_Rules_isHard 29 = .ok (.ireturn, 1) := by decide +kernel
theorem d_Rules_isHard_30 : decode b_Rules_isHard 30 = .ok (.iinc 3 1, 3) := by decide +kernel
theorem d_Rules_isHard_33 : decode b_Rules_isHard 33 = .ok (.goto (-31), 3) := by decide +kernel
theorem d_Rules_isHard_36 : decode b_Rules_isHard 36 = .ok (.iconst 0, 1) := by decide +kernel
theorem d_Rules_isHard_37 : decode b_Rules_isHard 37 = .ok (.ireturn, 1) := by decide +kernel
abbrev wd_Rules_isHard (kc : Nat → ClassId) (ad : Nat → Nat) (su_lines : Int32) (su_length : Int32) (su_perNote : Int32) (su_above : Int32) (su_numbers : Nat → Int32) (su_given : Nat → Nat → Int32) : va_W := [((ad 1), .inr (7, [.ref (ad 2), .ref (ad 3), .ref (ad 4), .int su_lines, .int su_length, .int su_perNote, .int su_above])), ((ad 2), .inl (kc 0, 18, .inl su_numbers)), ((ad 4), .inl (kc 3, 3, .inr (.inr (.inr (.inr (fun i => if i < 3 then some (ad (5 + i)) else none)))))), ((ad 5), .inl (kc 0, 12, .inl (su_given 0))), ((ad 6), .inl (kc 0, 12, .inl (su_given 1))), ((ad 7), .inl (kc 0, 12, .inl (su_given 2))), ((ad 8), .inr (5, [.ref (ad 1)]))]
abbrev rm_Rules_isHard : Room := { frames := 1, cells := 0, slots := 0, locals := 24 }
abbrev cw_Rules_isHard : Cond := .code y_Rules_isHard b_Rules_isHard 4 (some .boolean)
abbrev ws_Rules_isHard : List Cond := cw_Rules_isHard :: GW
theorem hd_Rules_isHard : y_Rules_isHard.cls ≠ "java/lang/invoke/MethodHandle" ∧ y_Rules_isHard.cls ≠ "java/lang/invoke/VarHandle" ∧ (parseMethodDescriptor y_Rules_isHard.desc).map (fun d => d.parameters.length) = some 2 := by decide +kernel
def m_Rules_isHard_2b (F : Nat) (su_lines : Int32) (su_perNote : Int32) (su_numbers : Nat → Int32) (su_given : Nat → Nat → Int32) (k2 : Int32 → Int32 → Int32 → Option (Int32))  (x1 : Int32) (x2 : Int32) (x3 : Int32) : Option (Int32) :=
  (if su_lines ≤ x3 then
    (some (0 : Int32))
  else
    (bd (m_Rules_classWith su_perNote su_given x3 x1 x2) (fun u2 => (bd (m_Rules_isIn su_numbers (3 : Int32) u2) (fun u4 => (if u4 = (0 : Int32) then
      (some (1 : Int32))
    else
      k2 x1 x2 (x3 + 1)))))))
set_option maxHeartbeats 4000000 in
set_option maxRecDepth 100000 in
theorem l_Rules_isHard_2 {r : Int32} {F : Nat} {ad : Nat → Nat} {su_lines : Int32} {su_length : Int32} {su_perNote : Int32} {su_above : Int32} {su_numbers : Nat → Int32} {su_given : Nat → Nat → Int32} {k2 : Int32 → Int32 → Int32 → Option (Int32)} {x1 : Int32} {x2 : Int32} {x3 : Int32} {H : Heap} {locs : List Loc} {ls : Array Slot} (C : Cx p s m meth c args A D kc R_Rules b_Rules_isHard 4 (some .boolean)) (hk2 : (∀  (x1 : Int32) (x2 : Int32) (x3 : Int32) (H : Heap) (locs : List Loc) (ls : Array Slot), k2 x1 x2 x3 = some r → St D A s (wd_Rules_isHard kc ad su_lines su_length su_perNote su_above su_numbers su_given) H locs → lv_has ls 4 [(0, .ref (ad 8)), (1, .int x1), (2, .int x2), (3, .int x3)] → W p l e rm_Rules_isHard s m args below meth c H locs 0 0 (MQ below (Qi D A (wd_Rules_isHard kc ad su_lines su_length su_perNote su_above su_numbers su_given) r) args s 0 0 A) (F0 m 2 ls []))) (hm : m_Rules_isHard_2b F su_lines su_perNote su_numbers su_given k2 x1 x2 x3 = some r) (hZ : St D A s (wd_Rules_isHard kc ad su_lines su_length su_perNote su_above su_numbers su_given) H locs) (hl : lv_has ls 4 [(0, .ref (ad 8)), (1, .int x1), (2, .int x2), (3, .int x3)]) : W p l e rm_Rules_isHard s m args below meth c H locs 0 0 (MQ below (Qi D A (wd_Rules_isHard kc ad su_lines su_length su_perNote su_above su_numbers su_given) r) args s 0 0 A) (F0 m 2 ls []) := by
  obtain ⟨hx, hb, hr, hts, hown, hml, hlocks, hK, hN, hA, hX⟩ := id C
  obtain ⟨hP, hD, hS⟩ := hZ
  unfold m_Rules_isHard_2b at hm
  refine lv_iload_n hx hb d_Rules_isHard_2 rfl (lv_at hl 3 rfl) ?_
  refine lv_aload_n hx hb d_Rules_isHard_3 rfl (lv_at hl 0 rfl) ?_
  refine va_get (D := D) (ci := 5) (v := .ref (ad 1)) (C := R_Rules) (T := T_Rules) (N := 1) hx hb hts inG_Rules hown hK hP 6 rfl rfl 0 (by decide) (hts _ gw_207) (fun _ h9 => h9) rfl d_Rules_isHard_4 ?_
  refine va_getN (D := D) (ci := 7) (v := .int su_lines) (C := R_Setup) (T := T_Setup) (N := 7) hx hb hts inG_Setup hown hK hP 0 rfl rfl 3 (by decide) (va_Nw.use rfl (hN _ nw_173)) (fun _ h9 => h9) rfl d_Rules_isHard_7 ?_
  refine lv_icmp_ge (tgt := 36) hx hb d_Rules_isHard_10 (by decide) (fun c1 => ?_) (fun c1 => ?_)
  · replace hm := ifT hm c1
    refine lv_iconst (v := 0) hx hb d_Rules_isHard_36 (by decide) ?_
    replace hm := Option.some.inj hm; subst hm
    exact zret_z (v := 0) C hP hD hS (by rfl) d_Rules_isHard_37
  · replace hm := ifF hm c1
    refine lv_aload_n hx hb d_Rules_isHard_13 rfl (lv_at hl 0 rfl) ?_
    refine lv_iconst (v := 3) hx hb d_Rules_isHard_14 (by decide) ?_
    refine lv_aload_n hx hb d_Rules_isHard_15 rfl (lv_at hl 0 rfl) ?_
    refine lv_iload_n hx hb d_Rules_isHard_16 rfl (lv_at hl 3 rfl) ?_
    refine lv_iload_n hx hb d_Rules_isHard_17 rfl (lv_at hl 1 rfl) ?_
    refine lv_iload_n hx hb d_Rules_isHard_18 rfl (lv_at hl 2 rfl) ?_
    obtain ⟨u2, hc3, hm⟩ := bd_some hm
    refine zV_i (n := 3) (wr := [((ad 2), .inl (kc 0, 18, .inl su_numbers))]) (w1 := (wd_Rules_classWith kc ad su_lines su_length su_perNote su_above su_given)) (ws1 := (wd_Rules_isHard kc ad su_lines su_length su_perNote su_above su_numbers su_given)) (As := [.int x3, .int x1, .int x2]) (rest := [.int (3 : Int32), .ref (ad 8)]) (ci := 5) (q0 := 5) (y := y_Rules_classWith) ⟨hx, hb, hml, hown, hts⟩ (fun sz => c_Rules_classWith hc3 sz) gw_520 gw_517 gw_519 gw_17 gw_114 hd_Rules_classWith ⟨Nat.le_of_ble_eq_true rfl, Nat.le_of_ble_eq_true rfl⟩ ⟨rfl, rfl⟩ ⟨Nat.zero_le _, Nat.zero_le _⟩ hK hN hP hD hS hA hX [0, 2, 3, 4, 5, 6] [1] [1, 0, 2, 3, 4, 5, 6] rfl rfl (by decide) (by decide) (by decide) rfl (by decide) rfl rfl rfl hl.1 rfl (Nat.le_of_ble_eq_true rfl) d_Rules_isHard_19 (fun H locs hP hD hS => ?_)
    obtain ⟨u4, hc5, hm⟩ := bd_some hm
    refine zV_i (n := 2) (wr := [((ad 4), .inl (kc 3, 3, .inr (.inr (.inr (.inr (fun i => if i < 3 then some (ad (5 + i)) else none)))))), ((ad 5), .inl (kc 0, 12, .inl (su_given 0))), ((ad 6), .inl (kc 0, 12, .inl (su_given 1))), ((ad 7), .inl (kc 0, 12, .inl (su_given 2)))]) (w1 := (wd_Rules_isIn kc ad su_lines su_length su_perNote su_above su_numbers)) (ws1 := (wd_Rules_isHard kc ad su_lines su_length su_perNote su_above su_numbers su_given)) (As := [.int (3 : Int32), .int u2]) (rest := []) (ci := 5) (q0 := 2) (y := y_Rules_isIn) ⟨hx, hb, hml, hown, hts⟩ (fun sz => c_Rules_isIn hc5 sz) gw_524 gw_521 gw_523 gw_18 gw_114 hd_Rules_isIn ⟨Nat.le_of_ble_eq_true rfl, Nat.le_of_ble_eq_true rfl⟩ ⟨rfl, rfl⟩ ⟨Nat.zero_le _, Nat.zero_le _⟩ hK hN hP hD hS hA hX [0, 1, 6] [2, 3, 4, 5] [4, 5, 0, 1, 2, 3, 6] rfl rfl (by decide) (by decide) (by decide) rfl (by decide) rfl rfl rfl hl.1 rfl (Nat.le_of_ble_eq_true rfl) d_Rules_isHard_22 (fun H locs hP hD hS => ?_)
    refine lv_if_ne (tgt := 30) hx hb d_Rules_isHard_25 (by decide) (fun c6 => ?_) (fun c6 => ?_)
    · replace hm := ifF hm c6
      refine lv_iinc (v := (x3 + 1)) (lv' := [(3, .int (x3 + 1)), (0, .ref (ad 8)), (1, .int x1), (2, .int x2)]) hx hb d_Rules_isHard_30 hl (k := 3) rfl rfl (by decide) rfl (fun ls hl => ?_)
      refine lv_goto (tgt := 2) hx hb d_Rules_isHard_33 (by decide) ?_
      exact hk2 x1 x2 (x3 + 1) _ _ _ hm ⟨hP, hD, hS⟩ (lv_sub hl [1, 2, 3, 0] rfl)
    · replace hm := ifT hm c6
      refine lv_iconst (v := 1) hx hb d_Rules_isHard_28 (by decide) ?_
      replace hm := Option.some.inj hm; subst hm
      exact zret_z (v := 1) C hP hD hS (by rfl) d_Rules_isHard_29
def m_Rules_isHard_2 (F : Nat) (su_lines : Int32) (su_perNote : Int32) (su_numbers : Nat → Int32) (su_given : Nat → Nat → Int32)  : Nat → Int32 → Int32 → Int32 → Option (Int32)
  | 0 => fun _ _ _ => none
  | n + 1 => m_Rules_isHard_2b F su_lines su_perNote su_numbers su_given  (m_Rules_isHard_2 F su_lines su_perNote su_numbers su_given  n)
set_option maxHeartbeats 4000000 in
set_option maxRecDepth 100000 in
theorem lp_Rules_isHard_2 {r : Int32} {F : Nat} {ad : Nat → Nat} {su_lines : Int32} {su_length : Int32} {su_perNote : Int32} {su_above : Int32} {su_numbers : Nat → Int32} {su_given : Nat → Nat → Int32}  (C : Cx p s m meth c args A D kc R_Rules b_Rules_isHard 4 (some .boolean))  : ∀ (n : Nat)  (x1 : Int32) (x2 : Int32) (x3 : Int32) (H : Heap) (locs : List Loc) (ls : Array Slot), m_Rules_isHard_2 F su_lines su_perNote su_numbers su_given  n x1 x2 x3 = some r → St D A s (wd_Rules_isHard kc ad su_lines su_length su_perNote su_above su_numbers su_given) H locs → lv_has ls 4 [(0, .ref (ad 8)), (1, .int x1), (2, .int x2), (3, .int x3)] → W p l e rm_Rules_isHard s m args below meth c H locs 0 0 (MQ below (Qi D A (wd_Rules_isHard kc ad su_lines su_length su_perNote su_above su_numbers su_given) r) args s 0 0 A) (F0 m 2 ls []) := by
  intro n
  induction n with
  | zero => intro x1 x2 x3 H locs ls hm; cases hm
  | succ n ih => intro x1 x2 x3 H locs ls hm hZ hl; exact l_Rules_isHard_2 C  ih hm hZ hl
def m_Rules_isHard (F : Nat) (su_lines : Int32) (su_perNote : Int32) (su_numbers : Nat → Int32) (su_given : Nat → Nat → Int32)  (a1 : Int32) (a2 : Int32) : Option (Int32) :=
  m_Rules_isHard_2 F su_lines su_perNote su_numbers su_given  F a1 a2 (0 : Int32)
set_option maxHeartbeats 4000000 in
set_option maxRecDepth 100000 in
theorem e_Rules_isHard {r : Int32} {F : Nat} {ad : Nat → Nat} {su_lines : Int32} {su_length : Int32} {su_perNote : Int32} {su_above : Int32} {su_numbers : Nat → Int32} {su_given : Nat → Nat → Int32} {a1 : Int32} {a2 : Int32} {H : Heap} {locs : List Loc} {ls : Array Slot} (C : Cx p s m meth c args A D kc R_Rules b_Rules_isHard 4 (some .boolean)) (hm : m_Rules_isHard F su_lines su_perNote su_numbers su_given a1 a2 = some r) (hZ : St D A s (wd_Rules_isHard kc ad su_lines su_length su_perNote su_above su_numbers su_given) H locs) (hl : lv_has ls 4 [(0, .ref (ad 8)), (1, .int a1), (2, .int a2)]) : W p l e rm_Rules_isHard s m args below meth c H locs 0 0 (MQ below (Qi D A (wd_Rules_isHard kc ad su_lines su_length su_perNote su_above su_numbers su_given) r) args s 0 0 A) (F0 m 0 ls []) := by
  obtain ⟨hx, hb, hr, hts, hown, hml, hlocks, hK, hN, hA, hX⟩ := id C
  obtain ⟨hP, hD, hS⟩ := hZ
  unfold m_Rules_isHard at hm
  refine lv_iconst (v := 0) hx hb d_Rules_isHard_0 (by decide) ?_
  refine lv_istore_n (lv' := [(3, .int (0 : Int32)), (0, .ref (ad 8)), (1, .int a1), (2, .int a2)]) hx hb d_Rules_isHard_1 rfl hl (by decide) rfl (fun ls hl => ?_)
  exact lp_Rules_isHard_2 C  F a1 a2 (0 : Int32) _ _ _ hm ⟨hP, hD, hS⟩ (lv_sub hl [1, 2, 3, 0] rfl)
set_option maxHeartbeats 4000000 in
set_option maxRecDepth 100000 in
theorem c_Rules_isHard {l : Launch} {D : va_G} {kc : Nat → ClassId} {r : Int32} {F : Nat} {ad : Nat → Nat} {su_lines : Int32} {su_length : Int32} {su_perNote : Int32} {su_above : Int32} {su_numbers : Nat → Int32} {su_given : Nat → Nat → Int32} {a1 : Int32} {a2 : Int32} (hm : m_Rules_isHard F su_lines su_perNote su_numbers su_given a1 a2 = some r) (sz : Nat) : Ci l y_Rules_isHard ws_Rules_isHard rm_Rules_isHard D kc sz [.ref (ad 8), .int a1, .int a2] (wd_Rules_isHard kc ad su_lines su_length su_perNote su_above su_numbers su_given) (wd_Rules_isHard kc ad su_lines su_length su_perNote su_above su_numbers su_given) r :=
  Cz_of (Qf := fun A => (Qi D A (wd_Rules_isHard kc ad su_lines su_length su_perNote su_above su_numbers su_given) r)) (cc := b_Rules_isHard) (maxL := 4) (ret := (some .boolean)) (by decide) rfl rfl (fun C hZ hl => e_Rules_isHard C hm hZ hl)
abbrev b_Rules_isBadOpening : ByteArray := prog_5_method_16_code
abbrev y_Rules_isBadOpening : MethodName := ⟨"SpeciesSolver$Rules", "isBadOpening", "(I)Z"⟩
theorem d_Rules_isBadOpening_0 : decode b_Rules_isBadOpening 0 = .ok (.aload_n 0, 1) := by decide +kernel
theorem d_Rules_isBadOpening_1 : decode b_Rules_isBadOpening 1 = .ok (.iconst 5, 1) := by decide +kernel
theorem d_Rules_isBadOpening_2 : decode b_Rules_isBadOpening 2 = .ok (.aload_n 0, 1) := by decide +kernel
theorem d_Rules_isBadOpening_3 : decode b_Rules_isBadOpening 3 = .ok (.iconst 0, 1) := by decide +kernel
theorem d_Rules_isBadOpening_4 : decode b_Rules_isBadOpening 4 = .ok (.iconst 0, 1) := by decide +kernel
theorem d_Rules_isBadOpening_5 : decode b_Rules_isBadOpening 5 = .ok (.iload_n 1, 1) := by decide +kernel
theorem d_Rules_isBadOpening_6 : decode b_Rules_isBadOpening 6 = .ok (.invokevirtual 29, 3) := by decide +kernel
theorem d_Rules_isBadOpening_9 : decode b_Rules_isBadOpening 9 = .ok (.invokevirtual 33, 3) := by decide +kernel
theorem d_Rules_isBadOpening_12 : decode b_Rules_isBadOpening 12 = .ok (.ifCond .ne 7, 3) := by decide +kernel
theorem d_Rules_isBadOpening_15 : decode b_Rules_isBadOpening 15 = .ok (.iconst 1, 1) := by decide +kernel
theorem d_Rules_isBadOpening_16 : decode b_Rules_isBadOpening 16 = .ok (.goto 4, 3) := by decide +kernel
theorem d_Rules_isBadOpening_19 : decode b_Rules_isBadOpening 19 = .ok (.iconst 0, 1) := by decide +kernel
theorem d_Rules_isBadOpening_20 : decode b_Rules_isBadOpening 20 = .ok (.ireturn, 1) := by decide +kernel
abbrev wd_Rules_isBadOpening (kc : Nat → ClassId) (ad : Nat → Nat) (su_lines : Int32) (su_length : Int32) (su_perNote : Int32) (su_above : Int32) (su_numbers : Nat → Int32) (su_given : Nat → Nat → Int32) : va_W := [((ad 1), .inr (7, [.ref (ad 2), .ref (ad 3), .ref (ad 4), .int su_lines, .int su_length, .int su_perNote, .int su_above])), ((ad 2), .inl (kc 0, 18, .inl su_numbers)), ((ad 4), .inl (kc 3, 3, .inr (.inr (.inr (.inr (fun i => if i < 3 then some (ad (5 + i)) else none)))))), ((ad 5), .inl (kc 0, 12, .inl (su_given 0))), ((ad 6), .inl (kc 0, 12, .inl (su_given 1))), ((ad 7), .inl (kc 0, 12, .inl (su_given 2))), ((ad 8), .inr (5, [.ref (ad 1)]))]
abbrev rm_Rules_isBadOpening : Room := { frames := 1, cells := 0, slots := 0, locals := 24 }
abbrev cw_Rules_isBadOpening : Cond := .code y_Rules_isBadOpening b_Rules_isBadOpening 2 (some .boolean)
abbrev ws_Rules_isBadOpening : List Cond := cw_Rules_isBadOpening :: GW
theorem hd_Rules_isBadOpening : y_Rules_isBadOpening.cls ≠ "java/lang/invoke/MethodHandle" ∧ y_Rules_isBadOpening.cls ≠ "java/lang/invoke/VarHandle" ∧ (parseMethodDescriptor y_Rules_isBadOpening.desc).map (fun d => d.parameters.length) = some 1 := by decide +kernel
def m_Rules_isBadOpening (su_perNote : Int32) (su_numbers : Nat → Int32) (su_given : Nat → Nat → Int32)  (a1 : Int32) : Option (Int32) :=
  (bd (m_Rules_classWith su_perNote su_given (0 : Int32) (0 : Int32) a1) (fun u1 => (bd (m_Rules_isIn su_numbers (5 : Int32) u1) (fun u3 => (if u3 = (0 : Int32) then
    (some (1 : Int32))
  else
    (some (0 : Int32)))))))
set_option maxHeartbeats 4000000 in
set_option maxRecDepth 100000 in
theorem e_Rules_isBadOpening {r : Int32} {ad : Nat → Nat} {su_lines : Int32} {su_length : Int32} {su_perNote : Int32} {su_above : Int32} {su_numbers : Nat → Int32} {su_given : Nat → Nat → Int32} {a1 : Int32} {H : Heap} {locs : List Loc} {ls : Array Slot} (C : Cx p s m meth c args A D kc R_Rules b_Rules_isBadOpening 2 (some .boolean)) (hm : m_Rules_isBadOpening su_perNote su_numbers su_given a1 = some r) (hZ : St D A s (wd_Rules_isBadOpening kc ad su_lines su_length su_perNote su_above su_numbers su_given) H locs) (hl : lv_has ls 2 [(0, .ref (ad 8)), (1, .int a1)]) : W p l e rm_Rules_isBadOpening s m args below meth c H locs 0 0 (MQ below (Qi D A (wd_Rules_isBadOpening kc ad su_lines su_length su_perNote su_above su_numbers su_given) r) args s 0 0 A) (F0 m 0 ls []) := by
  obtain ⟨hx, hb, hr, hts, hown, hml, hlocks, hK, hN, hA, hX⟩ := id C
  obtain ⟨hP, hD, hS⟩ := hZ
  unfold m_Rules_isBadOpening at hm
  refine lv_aload_n hx hb d_Rules_isBadOpening_0 rfl (lv_at hl 0 rfl) ?_
  refine lv_iconst (v := 5) hx hb d_Rules_isBadOpening_1 (by decide) ?_
  refine lv_aload_n hx hb d_Rules_isBadOpening_2 rfl (lv_at hl 0 rfl) ?_
  refine lv_iconst (v := 0) hx hb d_Rules_isBadOpening_3 (by decide) ?_
  refine lv_iconst (v := 0) hx hb d_Rules_isBadOpening_4 (by decide) ?_
  refine lv_iload_n hx hb d_Rules_isBadOpening_5 rfl (lv_at hl 1 rfl) ?_
  obtain ⟨u1, hc2, hm⟩ := bd_some hm
  refine zV_i (n := 3) (wr := [((ad 2), .inl (kc 0, 18, .inl su_numbers))]) (w1 := (wd_Rules_classWith kc ad su_lines su_length su_perNote su_above su_given)) (ws1 := (wd_Rules_isBadOpening kc ad su_lines su_length su_perNote su_above su_numbers su_given)) (As := [.int (0 : Int32), .int (0 : Int32), .int a1]) (rest := [.int (5 : Int32), .ref (ad 8)]) (ci := 5) (q0 := 5) (y := y_Rules_classWith) ⟨hx, hb, hml, hown, hts⟩ (fun sz => c_Rules_classWith hc2 sz) gw_520 gw_517 gw_519 gw_17 gw_114 hd_Rules_classWith ⟨Nat.le_of_ble_eq_true rfl, Nat.le_of_ble_eq_true rfl⟩ ⟨rfl, rfl⟩ ⟨Nat.zero_le _, Nat.zero_le _⟩ hK hN hP hD hS hA hX [0, 2, 3, 4, 5, 6] [1] [1, 0, 2, 3, 4, 5, 6] rfl rfl (by decide) (by decide) (by decide) rfl (by decide) rfl rfl rfl hl.1 rfl (Nat.le_of_ble_eq_true rfl) d_Rules_isBadOpening_6 (fun H locs hP hD hS => ?_)
  obtain ⟨u3, hc4, hm⟩ := bd_some hm
  refine zV_i (n := 2) (wr := [((ad 4), .inl (kc 3, 3, .inr (.inr (.inr (.inr (fun i => if i < 3 then some (ad (5 + i)) else none)))))), ((ad 5), .inl (kc 0, 12, .inl (su_given 0))), ((ad 6), .inl (kc 0, 12, .inl (su_given 1))), ((ad 7), .inl (kc 0, 12, .inl (su_given 2)))]) (w1 := (wd_Rules_isIn kc ad su_lines su_length su_perNote su_above su_numbers)) (ws1 := (wd_Rules_isBadOpening kc ad su_lines su_length su_perNote su_above su_numbers su_given)) (As := [.int (5 : Int32), .int u1]) (rest := []) (ci := 5) (q0 := 2) (y := y_Rules_isIn) ⟨hx, hb, hml, hown, hts⟩ (fun sz => c_Rules_isIn hc4 sz) gw_524 gw_521 gw_523 gw_18 gw_114 hd_Rules_isIn ⟨Nat.le_of_ble_eq_true rfl, Nat.le_of_ble_eq_true rfl⟩ ⟨rfl, rfl⟩ ⟨Nat.zero_le _, Nat.zero_le _⟩ hK hN hP hD hS hA hX [0, 1, 6] [2, 3, 4, 5] [4, 5, 0, 1, 2, 3, 6] rfl rfl (by decide) (by decide) (by decide) rfl (by decide) rfl rfl rfl hl.1 rfl (Nat.le_of_ble_eq_true rfl) d_Rules_isBadOpening_9 (fun H locs hP hD hS => ?_)
  refine lv_if_ne (tgt := 19) hx hb d_Rules_isBadOpening_12 (by decide) (fun c5 => ?_) (fun c5 => ?_)
  · replace hm := ifF hm c5
    refine lv_iconst (v := 0) hx hb d_Rules_isBadOpening_19 (by decide) ?_
    replace hm := Option.some.inj hm; subst hm
    exact zret_z (v := 0) C hP hD hS (by rfl) d_Rules_isBadOpening_20
  · replace hm := ifT hm c5
    refine lv_iconst (v := 1) hx hb d_Rules_isBadOpening_15 (by decide) ?_
    refine lv_goto (tgt := 20) hx hb d_Rules_isBadOpening_16 (by decide) ?_
    replace hm := Option.some.inj hm; subst hm
    exact zret_z (v := 1) C hP hD hS (by rfl) d_Rules_isBadOpening_20
set_option maxHeartbeats 4000000 in
set_option maxRecDepth 100000 in
theorem c_Rules_isBadOpening {l : Launch} {D : va_G} {kc : Nat → ClassId} {r : Int32} {ad : Nat → Nat} {su_lines : Int32} {su_length : Int32} {su_perNote : Int32} {su_above : Int32} {su_numbers : Nat → Int32} {su_given : Nat → Nat → Int32} {a1 : Int32} (hm : m_Rules_isBadOpening su_perNote su_numbers su_given a1 = some r) (sz : Nat) : Ci l y_Rules_isBadOpening ws_Rules_isBadOpening rm_Rules_isBadOpening D kc sz [.ref (ad 8), .int a1] (wd_Rules_isBadOpening kc ad su_lines su_length su_perNote su_above su_numbers su_given) (wd_Rules_isBadOpening kc ad su_lines su_length su_perNote su_above su_numbers su_given) r :=
  Cz_of (Qf := fun A => (Qi D A (wd_Rules_isBadOpening kc ad su_lines su_length su_perNote su_above su_numbers su_given) r)) (cc := b_Rules_isBadOpening) (maxL := 2) (ret := (some .boolean)) (by decide) rfl rfl (fun C hZ hl => e_Rules_isBadOpening C hm hZ hl)
abbrev b_Rules_isCrossing : ByteArray := prog_5_method_11_code
abbrev y_Rules_isCrossing : MethodName := ⟨"SpeciesSolver$Rules", "isCrossing", "(III)Z"⟩
theorem d_Rules_isCrossing_0 : decode b_Rules_isCrossing 0 = .ok (.aload_n 0, 1) := by decide +kernel
theorem d_Rules_isCrossing_1 : decode b_Rules_isCrossing 1 = .ok (.getfield 9, 3) := by decide +kernel
theorem d_Rules_isCrossing_4 : decode b_Rules_isCrossing 4 = .ok (.getfield 25, 3) := by decide +kernel
theorem d_Rules_isCrossing_7 : decode b_Rules_isCrossing 7 = .ok (.iload_n 1, 1) := by decide +kernel
theorem d_Rules_isCrossing_8 : decode b_Rules_isCrossing 8 = .ok (.aaload, 1) := by decide +kernel
theorem d_Rules_isCrossing_9 : decode b_Rules_isCrossing 9 = .ok (.iload_n 2, 1) := by decide +kernel
theorem d_Rules_isCrossing_10 : decode b_Rules_isCrossing 10 = .ok (.aload_n 0, 1) := by decide +kernel
theorem d_Rules_isCrossing_11 : decode b_Rules_isCrossing 11 = .ok (.getfield 9, 3) := by decide +kernel
theorem d_Rules_isCrossing_14 : decode b_Rules_isCrossing 14 = .ok (.getfield 21, 3) := by decide +kernel
theorem d_Rules_isCrossing_17 : decode b_Rules_isCrossing 17 = .ok (.idiv, 1) := by decide +kernel
theorem d_Rules_isCrossing_18 : decode b_Rules_isCrossing 18 = .ok (.iaload, 1) := by decide +kernel
theorem d_Rules_isCrossing_19 : decode b_Rules_isCrossing 19 = .ok (.istore 4, 2) := by decide +kernel
theorem d_Rules_isCrossing_21 : decode b_Rules_isCrossing 21 = .ok (.aload_n 0, 1) := by decide +kernel
theorem d_Rules_isCrossing_22 : decode b_Rules_isCrossing 22 = .ok (.getfield 9, 3) := by decide +kernel
theorem d_Rules_isCrossing_25 : decode b_Rules_isCrossing 25 = .ok (.getfield 48, 3) := by decide +kernel
theorem d_Rules_isCrossing_28 : decode b_Rules_isCrossing 28 = .ok (.ifCond .eq 17, 3) := by decide +kernel
theorem d_Rules_isCrossing_31 : decode b_Rules_isCrossing 31 = .ok (.iload_n 3, 1) := by decide +kernel
theorem d_Rules_isCrossing_32 : decode b_Rules_isCrossing 32 = .ok (.iload 4, 2) := by decide +kernel
theorem d_Rules_isCrossing_34 : decode b_Rules_isCrossing 34 = .ok (.if_icmp .ge 7, 3) := by decide +kernel
theorem d_Rules_isCrossing_37 : decode b_Rules_isCrossing 37 = .ok (.iconst 1, 1) := by decide +kernel
theorem d_Rules_isCrossing_38 : decode b_Rules_isCrossing 38 = .ok (.goto 18, 3) := by decide +kernel
theorem d_Rules_isCrossing_41 : decode b_Rules_isCrossing 41 = .ok (.iconst 0, 1) := by decide +kernel
theorem d_Rules_isCrossing_42 : decode b_Rules_isCrossing 42 = .ok (.goto 14, 3) := by decide +kernel
theorem d_Rules_isCrossing_45 : decode b_Rules_isCrossing 45 = .ok (.iload_n 3, 1) := by decide +kernel
theorem d_Rules_isCrossing_46 : decode b_Rules_isCrossing 46 = .ok (.iload 4, 2) := by decide +kernel
theorem d_Rules_isCrossing_48 : decode b_Rules_isCrossing 48 = .ok (.if_icmp .le 7, 3) := by decide +kernel
theorem d_Rules_isCrossing_51 : decode b_Rules_isCrossing 51 = .ok (.iconst 1, 1) := by decide +kernel
theorem d_Rules_isCrossing_52 : decode b_Rules_isCrossing 52 = .ok (.goto 4, 3) := by decide +kernel
theorem d_Rules_isCrossing_55 : decode b_Rules_isCrossing 55 = .ok (.iconst 0, 1) := by decide +kernel
theorem d_Rules_isCrossing_56 : decode b_Rules_isCrossing 56 = .ok (.ireturn, 1) := by decide +kernel
abbrev wd_Rules_isCrossing (kc : Nat → ClassId) (ad : Nat → Nat) (su_lines : Int32) (su_length : Int32) (su_perNote : Int32) (su_above : Int32) (su_given : Nat → Nat → Int32) : va_W := [((ad 1), .inr (7, [.ref (ad 2), .ref (ad 3), .ref (ad 4), .int su_lines, .int su_length, .int su_perNote, .int su_above])), ((ad 4), .inl (kc 3, 3, .inr (.inr (.inr (.inr (fun i => if i < 3 then some (ad (5 + i)) else none)))))), ((ad 5), .inl (kc 0, 12, .inl (su_given 0))), ((ad 6), .inl (kc 0, 12, .inl (su_given 1))), ((ad 7), .inl (kc 0, 12, .inl (su_given 2))), ((ad 8), .inr (5, [.ref (ad 1)]))]
abbrev rm_Rules_isCrossing : Room := { frames := 0, cells := 0, slots := 0, locals := 0 }
abbrev cw_Rules_isCrossing : Cond := .code y_Rules_isCrossing b_Rules_isCrossing 5 (some .boolean)
abbrev ws_Rules_isCrossing : List Cond := cw_Rules_isCrossing :: GW
theorem hd_Rules_isCrossing : y_Rules_isCrossing.cls ≠ "java/lang/invoke/MethodHandle" ∧ y_Rules_isCrossing.cls ≠ "java/lang/invoke/VarHandle" ∧ (parseMethodDescriptor y_Rules_isCrossing.desc).map (fun d => d.parameters.length) = some 3 := by decide +kernel
def m_Rules_isCrossing (su_perNote : Int32) (su_above : Int32) (su_given : Nat → Nat → Int32)  (a1 : Int32) (a2 : Int32) (a3 : Int32) : Option (Int32) :=
  (gd a1 3 (nz su_perNote (gd (a2 / su_perNote) 12 (if su_above = (0 : Int32) then
    (if a3 ≤ (su_given (Int32.toNatClampNeg a1) (Int32.toNatClampNeg (a2 / su_perNote))) then
      (some (0 : Int32))
    else
      (some (1 : Int32)))
  else
    (if (su_given (Int32.toNatClampNeg a1) (Int32.toNatClampNeg (a2 / su_perNote))) ≤ a3 then
      (some (0 : Int32))
    else
      (some (1 : Int32)))))))
set_option maxHeartbeats 4000000 in
set_option maxRecDepth 100000 in
theorem e_Rules_isCrossing {r : Int32} {ad : Nat → Nat} {su_lines : Int32} {su_length : Int32} {su_perNote : Int32} {su_above : Int32} {su_given : Nat → Nat → Int32} {a1 : Int32} {a2 : Int32} {a3 : Int32} {H : Heap} {locs : List Loc} {ls : Array Slot} (C : Cx p s m meth c args A D kc R_Rules b_Rules_isCrossing 5 (some .boolean)) (hm : m_Rules_isCrossing su_perNote su_above su_given a1 a2 a3 = some r) (hZ : St D A s (wd_Rules_isCrossing kc ad su_lines su_length su_perNote su_above su_given) H locs) (hl : lv_has ls 5 [(0, .ref (ad 8)), (1, .int a1), (2, .int a2), (3, .int a3)]) : W p l e rm_Rules_isCrossing s m args below meth c H locs 0 0 (MQ below (Qi D A (wd_Rules_isCrossing kc ad su_lines su_length su_perNote su_above su_given) r) args s 0 0 A) (F0 m 0 ls []) := by
  obtain ⟨hx, hb, hr, hts, hown, hml, hlocks, hK, hN, hA, hX⟩ := id C
  obtain ⟨hP, hD, hS⟩ := hZ
  unfold m_Rules_isCrossing at hm
  refine lv_aload_n hx hb d_Rules_isCrossing_0 rfl (lv_at hl 0 rfl) ?_
  refine va_get (D := D) (ci := 5) (v := .ref (ad 1)) (C := R_Rules) (T := T_Rules) (N := 1) hx hb hts inG_Rules hown hK hP 5 rfl rfl 0 (by decide) (hts _ gw_207) (fun _ h9 => h9) rfl d_Rules_isCrossing_1 ?_
  refine va_getN (D := D) (ci := 7) (v := .ref (ad 4)) (C := R_Setup) (T := T_Setup) (N := 7) hx hb hts inG_Setup hown hK hP 0 rfl rfl 2 (by decide) (va_Nw.use rfl (hN _ nw_168)) (fun _ h9 => h9) rfl d_Rules_isCrossing_4 ?_
  refine lv_iload_n hx hb d_Rules_isCrossing_7 rfl (lv_at hl 1 rfl) ?_
  obtain ⟨hi1, hm⟩ := gd_some hm
  refine zg_aald (ad := ad) (k := 5) hx hb hK hP 1 3 rfl rfl hi1 d_Rules_isCrossing_8 ?_
  refine lv_iload_n hx hb d_Rules_isCrossing_9 rfl (lv_at hl 2 rfl) ?_
  refine lv_aload_n hx hb d_Rules_isCrossing_10 rfl (lv_at hl 0 rfl) ?_
  refine va_get (D := D) (ci := 5) (v := .ref (ad 1)) (C := R_Rules) (T := T_Rules) (N := 1) hx hb hts inG_Rules hown hK hP 5 rfl rfl 0 (by decide) (hts _ gw_207) (fun _ h9 => h9) rfl d_Rules_isCrossing_11 ?_
  refine va_getN (D := D) (ci := 7) (v := .int su_perNote) (C := R_Setup) (T := T_Setup) (N := 7) hx hb hts inG_Setup hown hK hP 0 rfl rfl 5 (by decide) (va_Nw.use rfl (hN _ nw_179)) (fun _ h9 => h9) rfl d_Rules_isCrossing_14 ?_
  obtain ⟨hz2, hm⟩ := nz_some hm
  refine lv_idiv hx hb d_Rules_isCrossing_17 hz2 ?_
  obtain ⟨hi3, hm⟩ := gd_some hm
  refine zg_iald (k := 5) (g := su_given) hx hb hK hP 2 0 rfl rfl rfl rfl hi1 hi3 d_Rules_isCrossing_18 ?_
  refine lv_istore (lv' := [(4, .int (su_given (Int32.toNatClampNeg a1) (Int32.toNatClampNeg (a2 / su_perNote)))), (0, .ref (ad 8)), (1, .int a1), (2, .int a2), (3, .int a3)]) hx hb d_Rules_isCrossing_19 hl (by decide) rfl (fun ls hl => ?_)
  refine lv_aload_n hx hb d_Rules_isCrossing_21 rfl (lv_at hl 1 rfl) ?_
  refine va_get (D := D) (ci := 5) (v := .ref (ad 1)) (C := R_Rules) (T := T_Rules) (N := 1) hx hb hts inG_Rules hown hK hP 5 rfl rfl 0 (by decide) (hts _ gw_207) (fun _ h9 => h9) rfl d_Rules_isCrossing_22 ?_
  refine va_getN (D := D) (ci := 7) (v := .int su_above) (C := R_Setup) (T := T_Setup) (N := 7) hx hb hts inG_Setup hown hK hP 0 rfl rfl 6 (by decide) (va_Nw.use rfl (hN _ nw_184)) (fun _ h9 => h9) rfl d_Rules_isCrossing_25 ?_
  refine lv_if_eq (tgt := 45) hx hb d_Rules_isCrossing_28 (by decide) (fun c4 => ?_) (fun c4 => ?_)
  · replace hm := ifT hm c4
    refine lv_iload_n hx hb d_Rules_isCrossing_45 rfl (lv_at hl 4 rfl) ?_
    refine lv_iload hx hb d_Rules_isCrossing_46 (lv_at hl 0 rfl) ?_
    refine lv_icmp_le (tgt := 55) hx hb d_Rules_isCrossing_48 (by decide) (fun c5 => ?_) (fun c5 => ?_)
    · replace hm := ifT hm c5
      refine lv_iconst (v := 0) hx hb d_Rules_isCrossing_55 (by decide) ?_
      replace hm := Option.some.inj hm; subst hm
      exact zret_z (v := 0) C hP hD hS (by rfl) d_Rules_isCrossing_56
    · replace hm := ifF hm c5
      refine lv_iconst (v := 1) hx hb d_Rules_isCrossing_51 (by decide) ?_
      refine lv_goto (tgt := 56) hx hb d_Rules_isCrossing_52 (by decide) ?_
      replace hm := Option.some.inj hm; subst hm
      exact zret_z (v := 1) C hP hD hS (by rfl) d_Rules_isCrossing_56
  · replace hm := ifF hm c4
    refine lv_iload_n hx hb d_Rules_isCrossing_31 rfl (lv_at hl 4 rfl) ?_
    refine lv_iload hx hb d_Rules_isCrossing_32 (lv_at hl 0 rfl) ?_
    refine lv_icmp_ge (tgt := 41) hx hb d_Rules_isCrossing_34 (by decide) (fun c6 => ?_) (fun c6 => ?_)
    · replace hm := ifT hm c6
      refine lv_iconst (v := 0) hx hb d_Rules_isCrossing_41 (by decide) ?_
      refine lv_goto (tgt := 56) hx hb d_Rules_isCrossing_42 (by decide) ?_
      replace hm := Option.some.inj hm; subst hm
      exact zret_z (v := 0) C hP hD hS (by rfl) d_Rules_isCrossing_56
    · replace hm := ifF hm c6
      refine lv_iconst (v := 1) hx hb d_Rules_isCrossing_37 (by decide) ?_
      refine lv_goto (tgt := 56) hx hb d_Rules_isCrossing_38 (by decide) ?_
      replace hm := Option.some.inj hm; subst hm
      exact zret_z (v := 1) C hP hD hS (by rfl) d_Rules_isCrossing_56
set_option maxHeartbeats 4000000 in
set_option maxRecDepth 100000 in
theorem c_Rules_isCrossing {l : Launch} {D : va_G} {kc : Nat → ClassId} {r : Int32} {ad : Nat → Nat} {su_lines : Int32} {su_length : Int32} {su_perNote : Int32} {su_above : Int32} {su_given : Nat → Nat → Int32} {a1 : Int32} {a2 : Int32} {a3 : Int32} (hm : m_Rules_isCrossing su_perNote su_above su_given a1 a2 a3 = some r) (sz : Nat) : Ci l y_Rules_isCrossing ws_Rules_isCrossing rm_Rules_isCrossing D kc sz [.ref (ad 8), .int a1, .int a2, .int a3] (wd_Rules_isCrossing kc ad su_lines su_length su_perNote su_above su_given) (wd_Rules_isCrossing kc ad su_lines su_length su_perNote su_above su_given) r :=
  Cz_of (Qf := fun A => (Qi D A (wd_Rules_isCrossing kc ad su_lines su_length su_perNote su_above su_given) r)) (cc := b_Rules_isCrossing) (maxL := 5) (ret := (some .boolean)) (by decide) rfl rfl (fun C hZ hl => e_Rules_isCrossing C hm hZ hl)
end
