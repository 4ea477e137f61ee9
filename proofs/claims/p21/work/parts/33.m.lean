section
variable {p : Program} {l : Launch} {e : Env} {s : State} {m : MethodId} {args : Array Value} {below : List Frame} {meth : Method} {c : Code} {D : va_G} {kc : Nat → ClassId} {A : Nat → Prop}
abbrev b_Rules_costOf : ByteArray := prog_5_method_21_code
abbrev y_Rules_costOf : MethodName := ⟨"SpeciesSolver$Rules", "costOf", "(LSpeciesSolver$Line;)I"⟩
theorem d_Rules_costOf_0 : decode b_Rules_costOf 0 = .ok (.iconst 0, 1) := by decide +kernel
theorem d_Rules_costOf_1 : decode b_Rules_costOf 1 = .ok (.istore_n 2, 1) := by decide +kernel
theorem d_Rules_costOf_2 : decode b_Rules_costOf 2 = .ok (.iconst 0, 1) := by decide +kernel
theorem d_Rules_costOf_3 : decode b_Rules_costOf 3 = .ok (.istore_n 3, 1) := by decide +kernel
theorem d_Rules_costOf_4 : decode b_Rules_costOf 4 = .ok (.iload_n 3, 1) := by decide +kernel
theorem d_Rules_costOf_5 : decode b_Rules_costOf 5 = .ok (.aload_n 1, 1) := by decide +kernel
theorem d_Rules_costOf_6 : decode b_Rules_costOf 6 = .ok (.getfield 69, 3) := by decide +kernel
theorem d_Rules_costOf_9 : decode b_Rules_costOf 9 = .ok (.if_icmp .ge 96, 3) := by decide +kernel
theorem d_Rules_costOf_12 : decode b_Rules_costOf 12 = .ok (.iload_n 2, 1) := by decide +kernel
theorem d_Rules_costOf_13 : decode b_Rules_costOf 13 = .ok (.aload_n 0, 1) := by decide +kernel
theorem d_Rules_costOf_14 : decode b_Rules_costOf 14 = .ok (.iload_n 3, 1) := by decide +kernel
theorem d_Rules_costOf_15 : decode b_Rules_costOf 15 = .ok (.aload_n 1, 1) := by decide +kernel
theorem d_Rules_costOf_16 : decode b_Rules_costOf 16 = .ok (.getfield 74, 3) := by decide +kernel
theorem d_Rules_costOf_19 : decode b_Rules_costOf 19 = .ok (.iload_n 3, 1) := by decide +kernel
theorem d_Rules_costOf_20 : decode b_Rules_costOf 20 = .ok (.iaload, 1) := by decide +kernel
theorem d_Rules_costOf_21 : decode b_Rules_costOf 21 = .ok (.invokevirtual 77, 3) := by decide +kernel
theorem d_Rules_costOf_24 : decode b_Rules_costOf 24 = .ok (.iadd, 1) := by decide +kernel
theorem d_Rules_costOf_25 : decode b_Rules_costOf 25 = .ok (.istore_n 2, 1) := by decide +kernel
theorem d_Rules_costOf_26 : decode b_Rules_costOf 26 = .ok (.iload_n 3, 1) := by decide +kernel
theorem d_Rules_costOf_27 : decode b_Rules_costOf 27 = .ok (.iconst 1, 1) := by decide +kernel
theorem d_Rules_costOf_28 : decode b_Rules_costOf 28 = .ok (.if_icmp .lt 24, 3) := by decide +kernel
theorem d_Rules_costOf_31 : decode b_Rules_costOf 31 = .ok (.iload_n 2, 1) := by decide +kernel
theorem d_Rules_costOf_32 : decode b_Rules_costOf 32 = .ok (.aload_n 0, 1) := by decide +kernel
theorem d_Rules_costOf_33 : decode b_Rules_costOf 33 = .ok (.aload_n 1, 1) := by decide +kernel
theorem d_Rules_costOf_34 : decode b_Rules_costOf 34 = .ok (.getfield 74, 3) := by decide +kernel
theorem d_Rules_costOf_37 : decode b_Rules_costOf 37 = .ok (.iload_n 3, 1) := by decide +kernel
theorem d_Rules_costOf_38 : decode b_Rules_costOf 38 = .ok (.iconst 1, 1) := by decide +kernel
theorem d_Rules_costOf_39 : decode b_Rules_costOf 39 = .ok (.isub, 1) := by decide +kernel
theorem d_Rules_costOf_40 : decode b_Rules_costOf 40 = .ok (.iaload, 1) := by decide +kernel
theorem d_Rules_costOf_41 : decode b_Rules_costOf 41 = .ok (.aload_n 1, 1) := by decide +kernel
theorem d_Rules_costOf_42 : decode b_Rules_costOf 42 = .ok (.getfield 74, 3) := by decide +kernel
theorem d_Rules_costOf_45 : decode b_Rules_costOf 45 = .ok (.iload_n 3, 1) := by decide +kernel
theorem d_Rules_costOf_46 : decode b_Rules_costOf 46 = .ok (.iaload, 1) := by decide +kernel
theorem d_Rules_costOf_47 : decode b_Rules_costOf 47 = .ok (.invokevirtual 80, 3) := by decide +kernel
theorem d_Rules_costOf_50 : decode b_Rules_costOf 50 = .ok (.iadd, 1) := by decide +kernel
theorem d_Rules_costOf_51 : decode b_Rules_costOf 51 = .ok (.istore_n 2, 1) := by decide +kernel
theorem d_Rules_costOf_52 : decode b_Rules_costOf 52 = .ok (.iload_n 3, 1) := by decide +kernel
theorem d_Rules_costOf_53 : decode b_Rules_costOf 53 = .ok (.aload_n 0, 1) := by decide +kernel
theorem d_Rules_costOf_54 : decode b_Rules_costOf 54 = .ok (.getfield 9, 3) := by decide +kernel
theorem d_Rules_costOf_57 : decode b_Rules_costOf 57 = .ok (.getfield 21, 3) := by decide +kernel
theorem d_Rules_costOf_60 : decode b_Rules_costOf 60 = .ok (.if_icmp .lt 39, 3) := by decide +kernel
theorem d_Rules_costOf_63 : decode b_Rules_costOf 63 = .ok (.aload_n 0, 1) := by decide +kernel
theorem d_Rules_costOf_64 : decode b_Rules_costOf 64 = .ok (.iload_n 3, 1) := by decide +kernel
theorem d_Rules_costOf_65 : decode b_Rules_costOf 65 = .ok (.invokevirtual 58, 3) := by decide +kernel
theorem d_Rules_costOf_68 : decode b_Rules_costOf 68 = .ok (.ifCond .eq 31, 3) := by decide +kernel
theorem d_Rules_costOf_71 : decode b_Rules_costOf 71 = .ok (.iload_n 2, 1) := by decide +kernel
theorem d_Rules_costOf_72 : decode b_Rules_costOf 72 = .ok (.aload_n 0, 1) := by decide +kernel
theorem d_Rules_costOf_73 : decode b_Rules_costOf 73 = .ok (.iload_n 3, 1) := by decide +kernel
theorem d_Rules_costOf_74 : decode b_Rules_costOf 74 = .ok (.aload_n 1, 1) := by decide +kernel
theorem d_Rules_costOf_75 : decode b_Rules_costOf 75 = .ok (.getfield 74, 3) := by decide +kernel
theorem d_Rules_costOf_78 : decode b_Rules_costOf 78 = .ok (.iload_n 3, 1) := by decide +kernel
theorem d_Rules_costOf_79 : decode b_Rules_costOf 79 = .ok (.aload_n 0, 1) := by decide +kernel
theorem d_Rules_costOf_80 : decode b_Rules_costOf 80 = .ok (.getfield 9, 3) := by decide +kernel
theorem d_Rules_costOf_83 : decode b_Rules_costOf 83 = .ok (.getfield 21, 3) := by decide +kernel
theorem d_Rules_costOf_86 : decode b_Rules_costOf 86 = .ok (.isub, 1) := by decide +kernel
theorem d_Rules_costOf_87 : decode b_Rules_costOf 87 = .ok (.iaload, 1) := by decide +kernel
theorem d_Rules_costOf_88 : decode b_Rules_costOf 88 = .ok (.aload_n 1, 1) := by decide +kernel
theorem d_Rules_costOf_89 : decode b_Rules_costOf 89 = .ok (.getfield 74, 3) := by decide +kernel
theorem d_Rules_costOf_92 : decode b_Rules_costOf 92 = .ok (.iload_n 3, 1) := by decide +kernel
theorem d_Rules_costOf_93 : decode b_Rules_costOf 93 = .ok (.iaload, 1) := by decide +kernel
theorem d_Rules_costOf_94 : decode b_Rules_costOf 94 = .ok (.invokevirtual 83, 3) := by decide +kernel
theorem d_Rules_costOf_97 : decode b_Rules_costOf 97 = .ok (.iadd, 1) := by decide +kernel
theorem d_Rules_costOf_98 : decode b_Rules_costOf 98 = .ok (.istore_n 2, 1) := by decide +kernel
theorem d_Rules_costOf_99 : decode b_Rules_costOf 99 = .ok (.iinc 3 1, 3) := by decide +kernel
theorem d_Rules_costOf_102 : decode b_Rules_costOf 102 = .ok (.goto (-98), 3) := by decide +kernel
theorem d_Rules_costOf_105 : decode b_Rules_costOf 105 = .ok (.iload_n 2, 1) := by decide +kernel
theorem d_Rules_costOf_106 : decode b_Rules_costOf 106 = .ok (.ireturn, 1) := by decide +kernel
abbrev wd_Rules_costOf (kc : Nat → ClassId) (ad : Nat → Nat) (xa : Nat) (xb : Nat) (X_size : Int32) (X_notes : Nat → Int32) (su_lines : Int32) (su_length : Int32) (su_perNote : Int32) (su_above : Int32) (su_numbers : Nat → Int32) (su_given : Nat → Nat → Int32) : va_W := [(xa, .inr (3, [.ref xb, .int X_size])), (xb, .inl (kc 0, 45, .inl X_notes)), ((ad 1), .inr (7, [.ref (ad 2), .ref (ad 3), .ref (ad 4), .int su_lines, .int su_length, .int su_perNote, .int su_above])), ((ad 2), .inl (kc 0, 18, .inl su_numbers)), ((ad 4), .inl (kc 3, 3, .inr (.inr (.inr (.inr (fun i => if i < 3 then some (ad (5 + i)) else none)))))), ((ad 5), .inl (kc 0, 12, .inl (su_given 0))), ((ad 6), .inl (kc 0, 12, .inl (su_given 1))), ((ad 7), .inl (kc 0, 12, .inl (su_given 2))), ((ad 8), .inr (5, [.ref (ad 1)]))]
abbrev rm_Rules_costOf : Room := { frames := 3, cells := 0, slots := 0, locals := 71 }
abbrev cw_Rules_costOf : Cond := .code y_Rules_costOf b_Rules_costOf 4 (some .int)
abbrev ws_Rules_costOf : List Cond := cw_Rules_costOf :: GW
theorem hd_Rules_costOf : y_Rules_costOf.cls ≠ "java/lang/invoke/MethodHandle" ∧ y_Rules_costOf.cls ≠ "java/lang/invoke/VarHandle" ∧ (parseMethodDescriptor y_Rules_costOf.desc).map (fun d => d.parameters.length) = some 1 := by decide +kernel
def m_Rules_costOf_99 (F : Nat) (X_size : Int32) (X_notes : Nat → Int32) (su_lines : Int32) (su_length : Int32) (su_perNote : Int32) (su_numbers : Nat → Int32) (su_given : Nat → Nat → Int32) (k4 : Int32 → Int32 → Option (Int32))  (x2 : Int32) (x3 : Int32) : Option (Int32) :=
  k4 x2 (x3 + 1)
set_option maxHeartbeats 4000000 in
set_option maxRecDepth 100000 in
theorem l_Rules_costOf_99 {r : Int32} {F : Nat} {ad : Nat → Nat} {xa : Nat} {xb : Nat} {X_size : Int32} {X_notes : Nat → Int32} {su_lines : Int32} {su_length : Int32} {su_perNote : Int32} {su_above : Int32} {su_numbers : Nat → Int32} {su_given : Nat → Nat → Int32} {k4 : Int32 → Int32 → Option (Int32)} {x2 : Int32} {x3 : Int32} {H : Heap} {locs : List Loc} {ls : Array Slot} (C : Cx p s m meth c args A D kc R_Rules b_Rules_costOf 4 (some .int)) (hk4 : (∀  (x2 : Int32) (x3 : Int32) (H : Heap) (locs : List Loc) (ls : Array Slot), k4 x2 x3 = some r → St D A s (wd_Rules_costOf kc ad xa xb X_size X_notes su_lines su_length su_perNote su_above su_numbers su_given) H locs → lv_has ls 4 [(0, .ref (ad 8)), (1, .ref xa), (2, .int x2), (3, .int x3)] → W p l e rm_Rules_costOf s m args below meth c H locs 0 0 (MQ below (Qi D A (wd_Rules_costOf kc ad xa xb X_size X_notes su_lines su_length su_perNote su_above su_numbers su_given) r) args s 0 0 A) (F0 m 4 ls []))) (hm : m_Rules_costOf_99 F X_size X_notes su_lines su_length su_perNote su_numbers su_given k4 x2 x3 = some r) (hZ : St D A s (wd_Rules_costOf kc ad xa xb X_size X_notes su_lines su_length su_perNote su_above su_numbers su_given) H locs) (hl : lv_has ls 4 [(0, .ref (ad 8)), (1, .ref xa), (2, .int x2), (3, .int x3)]) : W p l e rm_Rules_costOf s m args below meth c H locs 0 0 (MQ below (Qi D A (wd_Rules_costOf kc ad xa xb X_size X_notes su_lines su_length su_perNote su_above su_numbers su_given) r) args s 0 0 A) (F0 m 99 ls []) := by
  obtain ⟨hx, hb, hr, hts, hown, hml, hlocks, hK, hN, hA, hX⟩ := id C
  obtain ⟨hP, hD, hS⟩ := hZ
  unfold m_Rules_costOf_99 at hm
  refine lv_iinc (v := (x3 + 1)) (lv' := [(3, .int (x3 + 1)), (0, .ref (ad 8)), (1, .ref xa), (2, .int x2)]) hx hb d_Rules_costOf_99 hl (k := 3) rfl rfl (by decide) rfl (fun ls hl => ?_)
  refine lv_goto (tgt := 4) hx hb d_Rules_costOf_102 (by decide) ?_
  exact hk4 x2 (x3 + 1) _ _ _ hm ⟨hP, hD, hS⟩ (lv_sub hl [1, 2, 3, 0] rfl)
def m_Rules_costOf_52 (F : Nat) (X_size : Int32) (X_notes : Nat → Int32) (su_lines : Int32) (su_length : Int32) (su_perNote : Int32) (su_numbers : Nat → Int32) (su_given : Nat → Nat → Int32) (k4 : Int32 → Int32 → Option (Int32))  (x2 : Int32) (x3 : Int32) : Option (Int32) :=
  (if x3 < su_perNote then
    m_Rules_costOf_99 F X_size X_notes su_lines su_length su_perNote su_numbers su_given k4 x2 x3
  else
    (bd (m_Rules_isStrong su_perNote x3) (fun u2 => (if u2 = (0 : Int32) then
      m_Rules_costOf_99 F X_size X_notes su_lines su_length su_perNote su_numbers su_given k4 x2 x3
    else
      (gd (x3 - su_perNote) 45 (gd x3 45 (bd (m_Rules_strongMoveCost F su_lines su_perNote su_numbers su_given x3 (X_notes (Int32.toNatClampNeg (x3 - su_perNote))) (X_notes (Int32.toNatClampNeg x3))) (fun u7 => m_Rules_costOf_99 F X_size X_notes su_lines su_length su_perNote su_numbers su_given k4 (x2 + u7) x3))))))))
set_option maxHeartbeats 4000000 in
set_option maxRecDepth 100000 in
theorem l_Rules_costOf_52 {r : Int32} {F : Nat} {ad : Nat → Nat} {xa : Nat} {xb : Nat} {X_size : Int32} {X_notes : Nat → Int32} {su_lines : Int32} {su_length : Int32} {su_perNote : Int32} {su_above : Int32} {su_numbers : Nat → Int32} {su_given : Nat → Nat → Int32} {k4 : Int32 → Int32 → Option (Int32)} {x2 : Int32} {x3 : Int32} {H : Heap} {locs : List Loc} {ls : Array Slot} (C : Cx p s m meth c args A D kc R_Rules b_Rules_costOf 4 (some .int)) (hk4 : (∀  (x2 : Int32) (x3 : Int32) (H : Heap) (locs : List Loc) (ls : Array Slot), k4 x2 x3 = some r → St D A s (wd_Rules_costOf kc ad xa xb X_size X_notes su_lines su_length su_perNote su_above su_numbers su_given) H locs → lv_has ls 4 [(0, .ref (ad 8)), (1, .ref xa), (2, .int x2), (3, .int x3)] → W p l e rm_Rules_costOf s m args below meth c H locs 0 0 (MQ below (Qi D A (wd_Rules_costOf kc ad xa xb X_size X_notes su_lines su_length su_perNote su_above su_numbers su_given) r) args s 0 0 A) (F0 m 4 ls []))) (hm : m_Rules_costOf_52 F X_size X_notes su_lines su_length su_perNote su_numbers su_given k4 x2 x3 = some r) (hZ : St D A s (wd_Rules_costOf kc ad xa xb X_size X_notes su_lines su_length su_perNote su_above su_numbers su_given) H locs) (hl : lv_has ls 4 [(0, .ref (ad 8)), (1, .ref xa), (2, .int x2), (3, .int x3)]) : W p l e rm_Rules_costOf s m args below meth c H locs 0 0 (MQ below (Qi D A (wd_Rules_costOf kc ad xa xb X_size X_notes su_lines su_length su_perNote su_above su_numbers su_given) r) args s 0 0 A) (F0 m 52 ls []) := by
  obtain ⟨hx, hb, hr, hts, hown, hml, hlocks, hK, hN, hA, hX⟩ := id C
  obtain ⟨hP, hD, hS⟩ := hZ
  unfold m_Rules_costOf_52 at hm
  refine lv_iload_n hx hb d_Rules_costOf_52 rfl (lv_at hl 3 rfl) ?_
  refine lv_aload_n hx hb d_Rules_costOf_53 rfl (lv_at hl 0 rfl) ?_
  refine va_get (D := D) (ci := 5) (v := .ref (ad 1)) (C := R_Rules) (T := T_Rules) (N := 1) hx hb hts inG_Rules hown hK hP 8 rfl rfl 0 (by decide) (hts _ gw_207) (fun _ h9 => h9) rfl d_Rules_costOf_54 ?_
  refine va_getN (D := D) (ci := 7) (v := .int su_perNote) (C := R_Setup) (T := T_Setup) (N := 7) hx hb hts inG_Setup hown hK hP 2 rfl rfl 5 (by decide) (va_Nw.use rfl (hN _ nw_179)) (fun _ h9 => h9) rfl d_Rules_costOf_57 ?_
  refine lv_icmp_lt (tgt := 99) hx hb d_Rules_costOf_60 (by decide) (fun c1 => ?_) (fun c1 => ?_)
  · replace hm := ifT hm c1
    exact l_Rules_costOf_99 C hk4 hm ⟨hP, hD, hS⟩ (lv_sub hl [0, 1, 2, 3] rfl)
  · replace hm := ifF hm c1
    refine lv_aload_n hx hb d_Rules_costOf_63 rfl (lv_at hl 0 rfl) ?_
    refine lv_iload_n hx hb d_Rules_costOf_64 rfl (lv_at hl 3 rfl) ?_
    obtain ⟨u2, hc3, hm⟩ := bd_some hm
    refine zV_i (n := 1) (wr := [(xa, .inr (3, [.ref xb, .int X_size])), (xb, .inl (kc 0, 45, .inl X_notes)), ((ad 2), .inl (kc 0, 18, .inl su_numbers)), ((ad 4), .inl (kc 3, 3, .inr (.inr (.inr (.inr (fun i => if i < 3 then some (ad (5 + i)) else none)))))), ((ad 5), .inl (kc 0, 12, .inl (su_given 0))), ((ad 6), .inl (kc 0, 12, .inl (su_given 1))), ((ad 7), .inl (kc 0, 12, .inl (su_given 2)))]) (w1 := (wd_Rules_isStrong kc ad su_lines su_length su_perNote su_above)) (ws1 := (wd_Rules_costOf kc ad xa xb X_size X_notes su_lines su_length su_perNote su_above su_numbers su_given)) (As := [.int x3]) (rest := []) (ci := 5) (q0 := 1) (y := y_Rules_isStrong) ⟨hx, hb, hml, hown, hts⟩ (fun sz => c_Rules_isStrong hc3 sz) gw_512 gw_537 gw_511 gw_15 gw_114 hd_Rules_isStrong ⟨Nat.le_of_ble_eq_true rfl, Nat.le_of_ble_eq_true rfl⟩ ⟨rfl, rfl⟩ ⟨Nat.zero_le _, Nat.zero_le _⟩ hK hN hP hD hS hA hX [2, 8] [0, 1, 3, 4, 5, 6, 7] [0, 1, 7, 2, 3, 4, 5, 6, 8] rfl rfl (by decide) (by decide) (by decide) rfl (by decide) rfl rfl rfl hl.1 rfl (Nat.le_of_ble_eq_true rfl) d_Rules_costOf_65 (fun H locs hP hD hS => ?_)
    refine lv_if_eq (tgt := 99) hx hb d_Rules_costOf_68 (by decide) (fun c4 => ?_) (fun c4 => ?_)
    · replace hm := ifT hm c4
      exact l_Rules_costOf_99 C hk4 hm ⟨hP, hD, hS⟩ (lv_sub hl [0, 1, 2, 3] rfl)
    · replace hm := ifF hm c4
      refine lv_iload_n hx hb d_Rules_costOf_71 rfl (lv_at hl 2 rfl) ?_
      refine lv_aload_n hx hb d_Rules_costOf_72 rfl (lv_at hl 0 rfl) ?_
      refine lv_iload_n hx hb d_Rules_costOf_73 rfl (lv_at hl 3 rfl) ?_
      refine lv_aload_n hx hb d_Rules_costOf_74 rfl (lv_at hl 1 rfl) ?_
      refine va_getN (D := D) (ci := 3) (v := .ref xb) (C := R_Line) (T := T_Line) (N := 2) hx hb hts inG_Line hown hK hP 0 rfl rfl 0 (by decide) (va_Nw.use rfl (hN _ nw_135)) (fun _ h9 => h9) rfl d_Rules_costOf_75 ?_
      refine lv_iload_n hx hb d_Rules_costOf_78 rfl (lv_at hl 3 rfl) ?_
      refine lv_aload_n hx hb d_Rules_costOf_79 rfl (lv_at hl 0 rfl) ?_
      refine va_get (D := D) (ci := 5) (v := .ref (ad 1)) (C := R_Rules) (T := T_Rules) (N := 1) hx hb hts inG_Rules hown hK hP 8 rfl rfl 0 (by decide) (hts _ gw_207) (fun _ h9 => h9) rfl d_Rules_costOf_80 ?_
      refine va_getN (D := D) (ci := 7) (v := .int su_perNote) (C := R_Setup) (T := T_Setup) (N := 7) hx hb hts inG_Setup hown hK hP 2 rfl rfl 5 (by decide) (va_Nw.use rfl (hN _ nw_179)) (fun _ h9 => h9) rfl d_Rules_costOf_83 ?_
      refine lv_isub hx hb d_Rules_costOf_86 ?_
      obtain ⟨hi5, hm⟩ := gd_some hm
      refine va_iald hx hb hK hP 1 0 rfl rfl hi5 d_Rules_costOf_87 ?_
      refine lv_aload_n hx hb d_Rules_costOf_88 rfl (lv_at hl 1 rfl) ?_
      refine va_getN (D := D) (ci := 3) (v := .ref xb) (C := R_Line) (T := T_Line) (N := 2) hx hb hts inG_Line hown hK hP 0 rfl rfl 0 (by decide) (va_Nw.use rfl (hN _ nw_135)) (fun _ h9 => h9) rfl d_Rules_costOf_89 ?_
      refine lv_iload_n hx hb d_Rules_costOf_92 rfl (lv_at hl 3 rfl) ?_
      obtain ⟨hi6, hm⟩ := gd_some hm
      refine va_iald hx hb hK hP 1 0 rfl rfl hi6 d_Rules_costOf_93 ?_
      obtain ⟨u7, hc8, hm⟩ := bd_some hm
      refine zV_i (n := 3) (wr := [(xa, .inr (3, [.ref xb, .int X_size])), (xb, .inl (kc 0, 45, .inl X_notes))]) (w1 := (wd_Rules_strongMoveCost kc ad su_lines su_length su_perNote su_above su_numbers su_given)) (ws1 := (wd_Rules_costOf kc ad xa xb X_size X_notes su_lines su_length su_perNote su_above su_numbers su_given)) (As := [.int x3, .int (X_notes (Int32.toNatClampNeg (x3 - su_perNote))), .int (X_notes (Int32.toNatClampNeg x3))]) (rest := [.int x2]) (ci := 5) (q0 := 6) (y := y_Rules_strongMoveCost) ⟨hx, hb, hml, hown, hts⟩ (fun sz => c_Rules_strongMoveCost hc8 sz) gw_603 gw_807 gw_602 gw_36 gw_114 hd_Rules_strongMoveCost ⟨Nat.le_of_ble_eq_true rfl, Nat.le_of_ble_eq_true rfl⟩ ⟨rfl, rfl⟩ ⟨Nat.zero_le _, Nat.zero_le _⟩ hK hN hP hD hS hA hX [2, 3, 4, 5, 6, 7, 8] [0, 1] [0, 1, 2, 3, 4, 5, 6, 7, 8] rfl rfl (by decide) (by decide) (by decide) rfl (by decide) rfl rfl rfl hl.1 rfl (Nat.le_of_ble_eq_true rfl) d_Rules_costOf_94 (fun H locs hP hD hS => ?_)
      refine lv_iadd hx hb d_Rules_costOf_97 ?_
      refine lv_istore_n (lv' := [(2, .int (x2 + u7)), (0, .ref (ad 8)), (1, .ref xa), (3, .int x3)]) hx hb d_Rules_costOf_98 rfl hl (by decide) rfl (fun ls hl => ?_)
      exact l_Rules_costOf_99 C hk4 hm ⟨hP, hD, hS⟩ (lv_sub hl [1, 2, 0, 3] rfl)
def m_Rules_costOf_4b (F : Nat) (X_size : Int32) (X_notes : Nat → Int32) (su_lines : Int32) (su_length : Int32) (su_perNote : Int32) (su_numbers : Nat → Int32) (su_given : Nat → Nat → Int32) (k4 : Int32 → Int32 → Option (Int32))  (x2 : Int32) (x3 : Int32) : Option (Int32) :=
  (if X_size ≤ x3 then
    (some x2)
  else
    (gd x3 45 (bd (m_Rules_noteCost F su_lines su_length su_perNote su_numbers su_given x3 (X_notes (Int32.toNatClampNeg x3))) (fun u3 => (if x3 < (1 : Int32) then
      m_Rules_costOf_52 F X_size X_notes su_lines su_length su_perNote su_numbers su_given k4 (x2 + u3) x3
    else
      (gd (x3 - (1 : Int32)) 45 (gd x3 45 (bd (m_Rules_moveCost su_numbers (X_notes (Int32.toNatClampNeg (x3 - (1 : Int32)))) (X_notes (Int32.toNatClampNeg x3))) (fun u8 => m_Rules_costOf_52 F X_size X_notes su_lines su_length su_perNote su_numbers su_given k4 ((x2 + u3) + u8) x3)))))))))
set_option maxHeartbeats 4000000 in
set_option maxRecDepth 100000 in
theorem l_Rules_costOf_4 {r : Int32} {F : Nat} {ad : Nat → Nat} {xa : Nat} {xb : Nat} {X_size : Int32} {X_notes : Nat → Int32} {su_lines : Int32} {su_length : Int32} {su_perNote : Int32} {su_above : Int32} {su_numbers : Nat → Int32} {su_given : Nat → Nat → Int32} {k4 : Int32 → Int32 → Option (Int32)} {x2 : Int32} {x3 : Int32} {H : Heap} {locs : List Loc} {ls : Array Slot} (C : Cx p s m meth c args A D kc R_Rules b_Rules_costOf 4 (some .int)) (hk4 : (∀  (x2 : Int32) (x3 : Int32) (H : Heap) (locs : List Loc) (ls : Array Slot), k4 x2 x3 = some r → St D A s (wd_Rules_costOf kc ad xa xb X_size X_notes su_lines su_length su_perNote su_above su_numbers su_given) H locs → lv_has ls 4 [(0, .ref (ad 8)), (1, .ref xa), (2, .int x2), (3, .int x3)] → W p l e rm_Rules_costOf s m args below meth c H locs 0 0 (MQ below (Qi D A (wd_Rules_costOf kc ad xa xb X_size X_notes su_lines su_length su_perNote su_above su_numbers su_given) r) args s 0 0 A) (F0 m 4 ls []))) (hm : m_Rules_costOf_4b F X_size X_notes su_lines su_length su_perNote su_numbers su_given k4 x2 x3 = some r) (hZ : St D A s (wd_Rules_costOf kc ad xa xb X_size X_notes su_lines su_length su_perNote su_above su_numbers su_given) H locs) (hl : lv_has ls 4 [(0, .ref (ad 8)), (1, .ref xa), (2, .int x2), (3, .int x3)]) : W p l e rm_Rules_costOf s m args below meth c H locs 0 0 (MQ below (Qi D A (wd_Rules_costOf kc ad xa xb X_size X_notes su_lines su_length su_perNote su_above su_numbers su_given) r) args s 0 0 A) (F0 m 4 ls []) := by
  obtain ⟨hx, hb, hr, hts, hown, hml, hlocks, hK, hN, hA, hX⟩ := id C
  obtain ⟨hP, hD, hS⟩ := hZ
  unfold m_Rules_costOf_4b at hm
  refine lv_iload_n hx hb d_Rules_costOf_4 rfl (lv_at hl 3 rfl) ?_
  refine lv_aload_n hx hb d_Rules_costOf_5 rfl (lv_at hl 1 rfl) ?_
  refine va_getN (D := D) (ci := 3) (v := .int X_size) (C := R_Line) (T := T_Line) (N := 2) hx hb hts inG_Line hown hK hP 0 rfl rfl 1 (by decide) (va_Nw.use rfl (hN _ nw_140)) (fun _ h9 => h9) rfl d_Rules_costOf_6 ?_
  refine lv_icmp_ge (tgt := 105) hx hb d_Rules_costOf_9 (by decide) (fun c1 => ?_) (fun c1 => ?_)
  · replace hm := ifT hm c1
    refine lv_iload_n hx hb d_Rules_costOf_105 rfl (lv_at hl 2 rfl) ?_
    replace hm := Option.some.inj hm; subst hm
    exact zret_i C hP hD hS d_Rules_costOf_106
  · replace hm := ifF hm c1
    refine lv_iload_n hx hb d_Rules_costOf_12 rfl (lv_at hl 2 rfl) ?_
    refine lv_aload_n hx hb d_Rules_costOf_13 rfl (lv_at hl 0 rfl) ?_
    refine lv_iload_n hx hb d_Rules_costOf_14 rfl (lv_at hl 3 rfl) ?_
    refine lv_aload_n hx hb d_Rules_costOf_15 rfl (lv_at hl 1 rfl) ?_
    refine va_getN (D := D) (ci := 3) (v := .ref xb) (C := R_Line) (T := T_Line) (N := 2) hx hb hts inG_Line hown hK hP 0 rfl rfl 0 (by decide) (va_Nw.use rfl (hN _ nw_135)) (fun _ h9 => h9) rfl d_Rules_costOf_16 ?_
    refine lv_iload_n hx hb d_Rules_costOf_19 rfl (lv_at hl 3 rfl) ?_
    obtain ⟨hi2, hm⟩ := gd_some hm
    refine va_iald hx hb hK hP 1 0 rfl rfl hi2 d_Rules_costOf_20 ?_
    obtain ⟨u3, hc4, hm⟩ := bd_some hm
    refine zV_i (n := 2) (wr := [(xa, .inr (3, [.ref xb, .int X_size])), (xb, .inl (kc 0, 45, .inl X_notes))]) (w1 := (wd_Rules_noteCost kc ad su_lines su_length su_perNote su_above su_numbers su_given)) (ws1 := (wd_Rules_costOf kc ad xa xb X_size X_notes su_lines su_length su_perNote su_above su_numbers su_given)) (As := [.int x3, .int (X_notes (Int32.toNatClampNeg x3))]) (rest := [.int x2]) (ci := 5) (q0 := 6) (y := y_Rules_noteCost) ⟨hx, hb, hml, hown, hts⟩ (fun sz => c_Rules_noteCost hc4 sz) gw_536 gw_805 gw_535 gw_21 gw_114 hd_Rules_noteCost ⟨Nat.le_of_ble_eq_true rfl, Nat.le_of_ble_eq_true rfl⟩ ⟨rfl, rfl⟩ ⟨Nat.zero_le _, Nat.zero_le _⟩ hK hN hP hD hS hA hX [2, 3, 4, 5, 6, 7, 8] [0, 1] [0, 1, 2, 3, 4, 5, 6, 7, 8] rfl rfl (by decide) (by decide) (by decide) rfl (by decide) rfl rfl rfl hl.1 rfl (Nat.le_of_ble_eq_true rfl) d_Rules_costOf_21 (fun H locs hP hD hS => ?_)
    refine lv_iadd hx hb d_Rules_costOf_24 ?_
    refine lv_istore_n (lv' := [(2, .int (x2 + u3)), (0, .ref (ad 8)), (1, .ref xa), (3, .int x3)]) hx hb d_Rules_costOf_25 rfl hl (by decide) rfl (fun ls hl => ?_)
    refine lv_iload_n hx hb d_Rules_costOf_26 rfl (lv_at hl 3 rfl) ?_
    refine lv_iconst (v := 1) hx hb d_Rules_costOf_27 (by decide) ?_
    refine lv_icmp_lt (tgt := 52) hx hb d_Rules_costOf_28 (by decide) (fun c5 => ?_) (fun c5 => ?_)
    · replace hm := ifT hm c5
      exact l_Rules_costOf_52 C hk4 hm ⟨hP, hD, hS⟩ (lv_sub hl [1, 2, 0, 3] rfl)
    · replace hm := ifF hm c5
      refine lv_iload_n hx hb d_Rules_costOf_31 rfl (lv_at hl 0 rfl) ?_
      refine lv_aload_n hx hb d_Rules_costOf_32 rfl (lv_at hl 1 rfl) ?_
      refine lv_aload_n hx hb d_Rules_costOf_33 rfl (lv_at hl 2 rfl) ?_
      refine va_getN (D := D) (ci := 3) (v := .ref xb) (C := R_Line) (T := T_Line) (N := 2) hx hb hts inG_Line hown hK hP 0 rfl rfl 0 (by decide) (va_Nw.use rfl (hN _ nw_135)) (fun _ h9 => h9) rfl d_Rules_costOf_34 ?_
      refine lv_iload_n hx hb d_Rules_costOf_37 rfl (lv_at hl 3 rfl) ?_
      refine lv_iconst (v := 1) hx hb d_Rules_costOf_38 (by decide) ?_
      refine lv_isub hx hb d_Rules_costOf_39 ?_
      obtain ⟨hi6, hm⟩ := gd_some hm
      refine va_iald hx hb hK hP 1 0 rfl rfl hi6 d_Rules_costOf_40 ?_
      refine lv_aload_n hx hb d_Rules_costOf_41 rfl (lv_at hl 2 rfl) ?_
      refine va_getN (D := D) (ci := 3) (v := .ref xb) (C := R_Line) (T := T_Line) (N := 2) hx hb hts inG_Line hown hK hP 0 rfl rfl 0 (by decide) (va_Nw.use rfl (hN _ nw_135)) (fun _ h9 => h9) rfl d_Rules_costOf_42 ?_
      refine lv_iload_n hx hb d_Rules_costOf_45 rfl (lv_at hl 3 rfl) ?_
      obtain ⟨hi7, hm⟩ := gd_some hm
      refine va_iald hx hb hK hP 1 0 rfl rfl hi7 d_Rules_costOf_46 ?_
      obtain ⟨u8, hc9, hm⟩ := bd_some hm
      refine zV_i (n := 2) (wr := [(xa, .inr (3, [.ref xb, .int X_size])), (xb, .inl (kc 0, 45, .inl X_notes)), ((ad 4), .inl (kc 3, 3, .inr (.inr (.inr (.inr (fun i => if i < 3 then some (ad (5 + i)) else none)))))), ((ad 5), .inl (kc 0, 12, .inl (su_given 0))), ((ad 6), .inl (kc 0, 12, .inl (su_given 1))), ((ad 7), .inl (kc 0, 12, .inl (su_given 2)))]) (w1 := (wd_Rules_moveCost kc ad su_lines su_length su_perNote su_above su_numbers)) (ws1 := (wd_Rules_costOf kc ad xa xb X_size X_notes su_lines su_length su_perNote su_above su_numbers su_given)) (As := [.int (X_notes (Int32.toNatClampNeg (x3 - (1 : Int32)))), .int (X_notes (Int32.toNatClampNeg x3))]) (rest := [.int (x2 + u3)]) (ci := 5) (q0 := 2) (y := y_Rules_moveCost) ⟨hx, hb, hml, hown, hts⟩ (fun sz => c_Rules_moveCost hc9 sz) gw_554 gw_806 gw_553 gw_24 gw_114 hd_Rules_moveCost ⟨Nat.le_of_ble_eq_true rfl, Nat.le_of_ble_eq_true rfl⟩ ⟨rfl, rfl⟩ ⟨Nat.zero_le _, Nat.zero_le _⟩ hK hN hP hD hS hA hX [2, 3, 8] [0, 1, 4, 5, 6, 7] [0, 1, 6, 7, 2, 3, 4, 5, 8] rfl rfl (by decide) (by decide) (by decide) rfl (by decide) rfl rfl rfl hl.1 rfl (Nat.le_of_ble_eq_true rfl) d_Rules_costOf_47 (fun H locs hP hD hS => ?_)
      refine lv_iadd hx hb d_Rules_costOf_50 ?_
      refine lv_istore_n (lv' := [(2, .int ((x2 + u3) + u8)), (0, .ref (ad 8)), (1, .ref xa), (3, .int x3)]) hx hb d_Rules_costOf_51 rfl hl (by decide) rfl (fun ls hl => ?_)
      exact l_Rules_costOf_52 C hk4 hm ⟨hP, hD, hS⟩ (lv_sub hl [1, 2, 0, 3] rfl)
def m_Rules_costOf_4 (F : Nat) (X_size : Int32) (X_notes : Nat → Int32) (su_lines : Int32) (su_length : Int32) (su_perNote : Int32) (su_numbers : Nat → Int32) (su_given : Nat → Nat → Int32)  : Nat → Int32 → Int32 → Option (Int32)
  | 0 => fun _ _ => none
  | n + 1 => m_Rules_costOf_4b F X_size X_notes su_lines su_length su_perNote su_numbers su_given  (m_Rules_costOf_4 F X_size X_notes su_lines su_length su_perNote su_numbers su_given  n)
set_option maxHeartbeats 4000000 in
set_option maxRecDepth 100000 in
theorem lp_Rules_costOf_4 {r : Int32} {F : Nat} {ad : Nat → Nat} {xa : Nat} {xb : Nat} {X_size : Int32} {X_notes : Nat → Int32} {su_lines : Int32} {su_length : Int32} {su_perNote : Int32} {su_above : Int32} {su_numbers : Nat → Int32} {su_given : Nat → Nat → Int32}  (C : Cx p s m meth c args A D kc R_Rules b_Rules_costOf 4 (some .int))  : ∀ (n : Nat)  (x2 : Int32) (x3 : Int32) (H : Heap) (locs : List Loc) (ls : Array Slot), m_Rules_costOf_4 F X_size X_notes su_lines su_length su_perNote su_numbers su_given  n x2 x3 = some r → St D A s (wd_Rules_costOf kc ad xa xb X_size X_notes su_lines su_length su_perNote su_above su_numbers su_given) H locs → lv_has ls 4 [(0, .ref (ad 8)), (1, .ref xa), (2, .int x2), (3, .int x3)] → W p l e rm_Rules_costOf s m args below meth c H locs 0 0 (MQ below (Qi D A (wd_Rules_costOf kc ad xa xb X_size X_notes su_lines su_length su_perNote su_above su_numbers su_given) r) args s 0 0 A) (F0 m 4 ls []) := by
  intro n
  induction n with
  | zero => intro x2 x3 H locs ls hm; cases hm
  | succ n ih => intro x2 x3 H locs ls hm hZ hl; exact l_Rules_costOf_4 C  ih hm hZ hl
def m_Rules_costOf (F : Nat) (X_size : Int32) (X_notes : Nat → Int32) (su_lines : Int32) (su_length : Int32) (su_perNote : Int32) (su_numbers : Nat → Int32) (su_given : Nat → Nat → Int32)   : Option (Int32) :=
  m_Rules_costOf_4 F X_size X_notes su_lines su_length su_perNote su_numbers su_given  F (0 : Int32) (0 : Int32)
set_option maxHeartbeats 4000000 in
set_option maxRecDepth 100000 in
theorem e_Rules_costOf {r : Int32} {F : Nat} {ad : Nat → Nat} {xa : Nat} {xb : Nat} {X_size : Int32} {X_notes : Nat → Int32} {su_lines : Int32} {su_length : Int32} {su_perNote : Int32} {su_above : Int32} {su_numbers : Nat → Int32} {su_given : Nat → Nat → Int32}  {H : Heap} {locs : List Loc} {ls : Array Slot} (C : Cx p s m meth c args A D kc R_Rules b_Rules_costOf 4 (some .int)) (hm : m_Rules_costOf F X_size X_notes su_lines su_length su_perNote su_numbers su_given  = some r) (hZ : St D A s (wd_Rules_costOf kc ad xa xb X_size X_notes su_lines su_length su_perNote su_above su_numbers su_given) H locs) (hl : lv_has ls 4 [(0, .ref (ad 8)), (1, .ref xa)]) : W p l e rm_Rules_costOf s m args below meth c H locs 0 0 (MQ below (Qi D A (wd_Rules_costOf kc ad xa xb X_size X_notes su_lines su_length su_perNote su_above su_numbers su_given) r) args s 0 0 A) (F0 m 0 ls []) := by
  obtain ⟨hx, hb, hr, hts, hown, hml, hlocks, hK, hN, hA, hX⟩ := id C
  obtain ⟨hP, hD, hS⟩ := hZ
  unfold m_Rules_costOf at hm
  refine lv_iconst (v := 0) hx hb d_Rules_costOf_0 (by decide) ?_
  refine lv_istore_n (lv' := [(2, .int (0 : Int32)), (0, .ref (ad 8)), (1, .ref xa)]) hx hb d_Rules_costOf_1 rfl hl (by decide) rfl (fun ls hl => ?_)
  refine lv_iconst (v := 0) hx hb d_Rules_costOf_2 (by decide) ?_
  refine lv_istore_n (lv' := [(3, .int (0 : Int32)), (2, .int (0 : Int32)), (0, .ref (ad 8)), (1, .ref xa)]) hx hb d_Rules_costOf_3 rfl hl (by decide) rfl (fun ls hl => ?_)
  exact lp_Rules_costOf_4 C  F (0 : Int32) (0 : Int32) _ _ _ hm ⟨hP, hD, hS⟩ (lv_sub hl [2, 3, 1, 0] rfl)
set_option maxHeartbeats 4000000 in
set_option maxRecDepth 100000 in
theorem c_Rules_costOf {l : Launch} {D : va_G} {kc : Nat → ClassId} {r : Int32} {F : Nat} {ad : Nat → Nat} {xa : Nat} {xb : Nat} {X_size : Int32} {X_notes : Nat → Int32} {su_lines : Int32} {su_length : Int32} {su_perNote : Int32} {su_above : Int32} {su_numbers : Nat → Int32} {su_given : Nat → Nat → Int32}  (hm : m_Rules_costOf F X_size X_notes su_lines su_length su_perNote su_numbers su_given  = some r) (sz : Nat) : Ci l y_Rules_costOf ws_Rules_costOf rm_Rules_costOf D kc sz [.ref (ad 8), .ref xa] (wd_Rules_costOf kc ad xa xb X_size X_notes su_lines su_length su_perNote su_above su_numbers su_given) (wd_Rules_costOf kc ad xa xb X_size X_notes su_lines su_length su_perNote su_above su_numbers su_given) r :=
  Cz_of (Qf := fun A => (Qi D A (wd_Rules_costOf kc ad xa xb X_size X_notes su_lines su_length su_perNote su_above su_numbers su_given) r)) (cc := b_Rules_costOf) (maxL := 4) (ret := (some .int)) (by decide) rfl rfl (fun C hZ hl => e_Rules_costOf C hm hZ hl)
abbrev b_SpeciesSolver_tried : ByteArray := prog_1_method_20_code
abbrev y_SpeciesSolver_tried : MethodName := ⟨"SpeciesSolver", "tried", "()I"⟩
theorem d_SpeciesSolver_tried_0 : decode b_SpeciesSolver_tried 0 = .ok (.aload_n 0, 1) := by decide +kernel
theorem d_SpeciesSolver_tried_1 : decode b_SpeciesSolver_tried 1 = .ok (.invokevirtual 161, 3) := by decide +kernel
theorem d_SpeciesSolver_tried_4 : decode b_SpeciesSolver_tried 4 = .ok (.ifCond .eq 7, 3) := by decide +kernel
theorem d_SpeciesSolver_tried_7 : decode b_SpeciesSolver_tried 7 = .ok (.iconst (-1), 1) := by decide +kernel
theorem d_SpeciesSolver_tried_8 : decode b_SpeciesSolver_tried 8 = .ok (.goto 14, 3) := by decide +kernel
theorem d_SpeciesSolver_tried_11 : decode b_SpeciesSolver_tried 11 = .ok (.aload_n 0, 1) := by decide +kernel
theorem d_SpeciesSolver_tried_12 : decode b_SpeciesSolver_tried 12 = .ok (.getfield 48, 3) := by decide +kernel
theorem d_SpeciesSolver_tried_15 : decode b_SpeciesSolver_tried 15 = .ok (.aload_n 0, 1) := by decide +kernel
theorem d_SpeciesSolver_tried_16 : decode b_SpeciesSolver_tried 16 = .ok (.getfield 16, 3) := by decide +kernel
theorem d_SpeciesSolver_tried_19 : decode b_SpeciesSolver_tried 19 = .ok (.invokevirtual 172, 3) := by decide +kernel
theorem d_SpeciesSolver_tried_22 : decode b_SpeciesSolver_tried 22 = .ok (.ireturn, 1) := by decide +kernel
abbrev wd_SpeciesSolver_tried (kc : Nat → ClassId) (ad : Nat → Nat) (mn_bestCost : Int32) (mn_bestPerNote : Int32) (mn_bestLength : Int32) (mn_searched : Int32) (su_lines : Int32) (su_length : Int32) (su_perNote : Int32) (su_above : Int32) (su_numbers : Nat → Int32) (su_given : Nat → Nat → Int32) (tr_size : Int32) (tr_notes : Nat → Int32) : va_W := [((ad 0), .inr (0, [.ref (ad 1), .ref (ad 8), .ref (ad 9), .ref (ad 13), .ref (ad 23), .ref (ad 34), .ref (ad 36), .ref (ad 38), .int mn_bestCost, .int mn_bestPerNote, .int mn_bestLength, .int mn_searched])), ((ad 1), .inr (7, [.ref (ad 2), .ref (ad 3), .ref (ad 4), .int su_lines, .int su_length, .int su_perNote, .int su_above])), ((ad 2), .inl (kc 0, 18, .inl su_numbers)), ((ad 4), .inl (kc 3, 3, .inr (.inr (.inr (.inr (fun i => if i < 3 then some (ad (5 + i)) else none)))))), ((ad 5), .inl (kc 0, 12, .inl (su_given 0))), ((ad 6), .inl (kc 0, 12, .inl (su_given 1))), ((ad 7), .inl (kc 0, 12, .inl (su_given 2))), ((ad 8), .inr (5, [.ref (ad 1)])), ((ad 36), .inr (3, [.ref (ad 37), .int tr_size])), ((ad 37), .inl (kc 0, 45, .inl tr_notes))]
abbrev rm_SpeciesSolver_tried : Room := { frames := 4, cells := 0, slots := 0, locals := 94 }
abbrev cw_SpeciesSolver_tried : Cond := .code y_SpeciesSolver_tried b_SpeciesSolver_tried 1 (some .int)
abbrev ws_SpeciesSolver_tried : List Cond := cw_SpeciesSolver_tried :: GW
theorem hd_SpeciesSolver_tried : y_SpeciesSolver_tried.cls ≠ "java/lang/invoke/MethodHandle" ∧ y_SpeciesSolver_tried.cls ≠ "java/lang/invoke/VarHandle" ∧ (parseMethodDescriptor y_SpeciesSolver_tried.desc).map (fun d => d.parameters.length) = some 0 := by decide +kernel
def m_SpeciesSolver_tried (F : Nat) (su_lines : Int32) (su_length : Int32) (su_perNote : Int32) (su_numbers : Nat → Int32) (su_given : Nat → Nat → Int32) (tr_size : Int32) (tr_notes : Nat → Int32)   : Option (Int32) :=
  (bd (m_SpeciesSolver_cannotJudge su_lines su_length su_perNote tr_size) (fun u1 => (if u1 = (0 : Int32) then
    (bd (m_Rules_costOf F tr_size tr_notes su_lines su_length su_perNote su_numbers su_given) (fun u4 => (some u4)))
  else
    (some (-1 : Int32)))))
set_option maxHeartbeats 4000000 in
set_option maxRecDepth 100000 in
theorem e_SpeciesSolver_tried {r : Int32} {F : Nat} {ad : Nat → Nat} {mn_bestCost : Int32} {mn_bestPerNote : Int32} {mn_bestLength : Int32} {mn_searched : Int32} {su_lines : Int32} {su_length : Int32} {su_perNote : Int32} {su_above : Int32} {su_numbers : Nat → Int32} {su_given : Nat → Nat → Int32} {tr_size : Int32} {tr_notes : Nat → Int32}  {H : Heap} {locs : List Loc} {ls : Array Slot} (C : Cx p s m meth c args A D kc R_SpeciesSolver b_SpeciesSolver_tried 1 (some .int)) (hm : m_SpeciesSolver_tried F su_lines su_length su_perNote su_numbers su_given tr_size tr_notes  = some r) (hZ : St D A s (wd_SpeciesSolver_tried kc ad mn_bestCost mn_bestPerNote mn_bestLength mn_searched su_lines su_length su_perNote su_above su_numbers su_given tr_size tr_notes) H locs) (hl : lv_has ls 1 [(0, .ref (ad 0))]) : W p l e rm_SpeciesSolver_tried s m args below meth c H locs 0 0 (MQ below (Qi D A (wd_SpeciesSolver_tried kc ad mn_bestCost mn_bestPerNote mn_bestLength mn_searched su_lines su_length su_perNote su_above su_numbers su_given tr_size tr_notes) r) args s 0 0 A) (F0 m 0 ls []) := by
  obtain ⟨hx, hb, hr, hts, hown, hml, hlocks, hK, hN, hA, hX⟩ := id C
  obtain ⟨hP, hD, hS⟩ := hZ
  unfold m_SpeciesSolver_tried at hm
  refine lv_aload_n hx hb d_SpeciesSolver_tried_0 rfl (lv_at hl 0 rfl) ?_
  obtain ⟨u1, hc2, hm⟩ := bd_some hm
  refine zV_i (n := 0) (wr := [((ad 2), .inl (kc 0, 18, .inl su_numbers)), ((ad 4), .inl (kc 3, 3, .inr (.inr (.inr (.inr (fun i => if i < 3 then some (ad (5 + i)) else none)))))), ((ad 5), .inl (kc 0, 12, .inl (su_given 0))), ((ad 6), .inl (kc 0, 12, .inl (su_given 1))), ((ad 7), .inl (kc 0, 12, .inl (su_given 2))), ((ad 8), .inr (5, [.ref (ad 1)])), ((ad 37), .inl (kc 0, 45, .inl tr_notes))]) (w1 := (wd_SpeciesSolver_cannotJudge kc ad mn_bestCost mn_bestPerNote mn_bestLength mn_searched su_lines su_length su_perNote su_above tr_size)) (ws1 := (wd_SpeciesSolver_tried kc ad mn_bestCost mn_bestPerNote mn_bestLength mn_searched su_lines su_length su_perNote su_above su_numbers su_given tr_size tr_notes)) (As := []) (rest := []) (ci := 0) (q0 := 0) (y := y_SpeciesSolver_cannotJudge) ⟨hx, hb, hml, hown, hts⟩ (fun sz => c_SpeciesSolver_cannotJudge hc2 sz) gw_745 gw_742 gw_744 gw_63 gw_111 hd_SpeciesSolver_cannotJudge ⟨Nat.le_of_ble_eq_true rfl, Nat.le_of_ble_eq_true rfl⟩ ⟨rfl, rfl⟩ ⟨Nat.zero_le _, Nat.zero_le _⟩ hK hN hP hD hS hA hX [0, 1, 8] [2, 3, 4, 5, 6, 7, 9] [7, 8, 0, 1, 2, 3, 4, 5, 9, 6] rfl rfl (by decide) (by decide) (by decide) rfl (by decide) rfl rfl rfl hl.1 rfl (Nat.le_of_ble_eq_true rfl) d_SpeciesSolver_tried_1 (fun H locs hP hD hS => ?_)
  refine lv_if_eq (tgt := 11) hx hb d_SpeciesSolver_tried_4 (by decide) (fun c3 => ?_) (fun c3 => ?_)
  · replace hm := ifT hm c3
    refine lv_aload_n hx hb d_SpeciesSolver_tried_11 rfl (lv_at hl 0 rfl) ?_
    refine va_get (D := D) (ci := 0) (v := .ref (ad 8)) (C := R_SpeciesSolver) (T := T_SpeciesSolver) (N := 12) hx hb hts inG_SpeciesSolver hown hK hP 0 rfl rfl 1 (by decide) (hts _ gw_369) (fun _ h9 => h9) rfl d_SpeciesSolver_tried_12 ?_
    refine lv_aload_n hx hb d_SpeciesSolver_tried_15 rfl (lv_at hl 0 rfl) ?_
    refine va_get (D := D) (ci := 0) (v := .ref (ad 36)) (C := R_SpeciesSolver) (T := T_SpeciesSolver) (N := 12) hx hb hts inG_SpeciesSolver hown hK hP 0 rfl rfl 6 (by decide) (hts _ gw_374) (fun _ h9 => h9) rfl d_SpeciesSolver_tried_16 ?_
    obtain ⟨u4, hc5, hm⟩ := bd_some hm
    refine zVN_i (n := 1) (wr := [((ad 0), .inr (0, [.ref (ad 1), .ref (ad 8), .ref (ad 9), .ref (ad 13), .ref (ad 23), .ref (ad 34), .ref (ad 36), .ref (ad 38), .int mn_bestCost, .int mn_bestPerNote, .int mn_bestLength, .int mn_searched]))]) (w1 := (wd_Rules_costOf kc ad (ad 36) (ad 37) tr_size tr_notes su_lines su_length su_perNote su_above su_numbers su_given)) (ws1 := (wd_SpeciesSolver_tried kc ad mn_bestCost mn_bestPerNote mn_bestLength mn_searched su_lines su_length su_perNote su_above su_numbers su_given tr_size tr_notes)) (As := [.ref (ad 36)]) (rest := []) (ci := 5) (q0 := 8) (y := y_Rules_costOf) (host := "SpeciesSolver") ⟨hx, hb, hml, hown, hts⟩ (fun sz => c_Rules_costOf hc5 sz) gw_804 (hN _ nw_801) gw_803 gw_73 gw_114 hd_Rules_costOf ⟨Nat.le_of_ble_eq_true rfl, Nat.le_of_ble_eq_true rfl⟩ ⟨rfl, rfl⟩ ⟨Nat.zero_le _, Nat.zero_le _⟩ hK hN hP hD hS hA hX [8, 9, 1, 2, 3, 4, 5, 6, 7] [0] [0, 3, 4, 5, 6, 7, 8, 9, 1, 2] rfl rfl (by decide) (by decide) (by decide) rfl (by decide) rfl rfl rfl hl.1 rfl (Nat.le_of_ble_eq_true rfl) d_SpeciesSolver_tried_19 (fun H locs hP hD hS => ?_)
    replace hm := Option.some.inj hm; subst hm
    exact zret_i C hP hD hS d_SpeciesSolver_tried_22
  · replace hm := ifF hm c3
    refine lv_iconst (v := -1) hx hb d_SpeciesSolver_tried_7 (by decide) ?_
    refine lv_goto (tgt := 22) hx hb d_SpeciesSolver_tried_8 (by decide) ?_
    replace hm := Option.some.inj hm; subst hm
    exact zret_i C hP hD hS d_SpeciesSolver_tried_22
set_option maxHeartbeats 4000000 in
set_option maxRecDepth 100000 in
theorem c_SpeciesSolver_tried {l : Launch} {D : va_G} {kc : Nat → ClassId} {r : Int32} {F : Nat} {ad : Nat → Nat} {mn_bestCost : Int32} {mn_bestPerNote : Int32} {mn_bestLength : Int32} {mn_searched : Int32} {su_lines : Int32} {su_length : Int32} {su_perNote : Int32} {su_above : Int32} {su_numbers : Nat → Int32} {su_given : Nat → Nat → Int32} {tr_size : Int32} {tr_notes : Nat → Int32}  (hm : m_SpeciesSolver_tried F su_lines su_length su_perNote su_numbers su_given tr_size tr_notes  = some r) (sz : Nat) : Ci l y_SpeciesSolver_tried ws_SpeciesSolver_tried rm_SpeciesSolver_tried D kc sz [.ref (ad 0)] (wd_SpeciesSolver_tried kc ad mn_bestCost mn_bestPerNote mn_bestLength mn_searched su_lines su_length su_perNote su_above su_numbers su_given tr_size tr_notes) (wd_SpeciesSolver_tried kc ad mn_bestCost mn_bestPerNote mn_bestLength mn_searched su_lines su_length su_perNote su_above su_numbers su_given tr_size tr_notes) r :=
  Cz_of (Qf := fun A => (Qi D A (wd_SpeciesSolver_tried kc ad mn_bestCost mn_bestPerNote mn_bestLength mn_searched su_lines su_length su_perNote su_above su_numbers su_given tr_size tr_notes) r)) (cc := b_SpeciesSolver_tried) (maxL := 1) (ret := (some .int)) (by decide) rfl rfl (fun C hZ hl => e_SpeciesSolver_tried C hm hZ hl)
abbrev b_SpeciesSolver_told : ByteArray := prog_1_method_21_code
abbrev y_SpeciesSolver_told : MethodName := ⟨"SpeciesSolver", "told", "(I)I"⟩
theorem d_SpeciesSolver_told_0 : decode b_SpeciesSolver_told 0 = .ok (.iload_n 1, 1) := by decide +kernel
theorem d_SpeciesSolver_told_1 : decode b_SpeciesSolver_told 1 = .ok (.tableswitch 87 0 5 #[39, 47, 55, 63, 71, 79], 39) := by decide +kernel
theorem d_SpeciesSolver_told_40 : decode b_SpeciesSolver_told 40 = .ok (.aload_n 0, 1) := by decide +kernel
theorem d_SpeciesSolver_told_41 : decode b_SpeciesSolver_told 41 = .ok (.getfield 39, 3) := by decide +kernel
theorem d_SpeciesSolver_told_44 : decode b_SpeciesSolver_told 44 = .ok (.getfield 92, 3) := by decide +kernel
theorem d_SpeciesSolver_told_47 : decode b_SpeciesSolver_told 47 = .ok (.ireturn, 1) := by decide +kernel
theorem d_SpeciesSolver_told_48 : decode b_SpeciesSolver_told 48 = .ok (.aload_n 0, 1) := by decide +kernel
theorem d_SpeciesSolver_told_49 : decode b_SpeciesSolver_told 49 = .ok (.getfield 39, 3) := by decide +kernel
theorem d_SpeciesSolver_told_52 : decode b_SpeciesSolver_told 52 = .ok (.getfield 139, 3) := by decide +kernel
theorem d_SpeciesSolver_told_55 : decode b_SpeciesSolver_told 55 = .ok (.ireturn, 1) := by decide +kernel
theorem d_SpeciesSolver_told_56 : decode b_SpeciesSolver_told 56 = .ok (.aload_n 0, 1) := by decide +kernel
theorem d_SpeciesSolver_told_57 : decode b_SpeciesSolver_told 57 = .ok (.getfield 39, 3) := by decide +kernel
theorem d_SpeciesSolver_told_60 : decode b_SpeciesSolver_told 60 = .ok (.invokevirtual 175, 3) := by decide +kernel
theorem d_SpeciesSolver_told_63 : decode b_SpeciesSolver_told 63 = .ok (.ireturn, 1) := by decide +kernel
theorem d_SpeciesSolver_told_64 : decode b_SpeciesSolver_told 64 = .ok (.aload_n 0, 1) := by decide +kernel
theorem d_SpeciesSolver_told_65 : decode b_SpeciesSolver_told 65 = .ok (.getfield 10, 3) := by decide +kernel
theorem d_SpeciesSolver_told_68 : decode b_SpeciesSolver_told 68 = .ok (.getfield 77, 3) := by decide +kernel
theorem d_SpeciesSolver_told_71 : decode b_SpeciesSolver_told 71 = .ok (.ireturn, 1) := by decide +kernel
theorem d_SpeciesSolver_told_72 : decode b_SpeciesSolver_told 72 = .ok (.aload_n 0, 1) := by decide +kernel
theorem d_SpeciesSolver_told_73 : decode b_SpeciesSolver_told 73 = .ok (.getfield 16, 3) := by decide +kernel
theorem d_SpeciesSolver_told_76 : decode b_SpeciesSolver_told 76 = .ok (.getfield 77, 3) := by decide +kernel
theorem d_SpeciesSolver_told_79 : decode b_SpeciesSolver_told 79 = .ok (.ireturn, 1) := by decide +kernel
theorem d_SpeciesSolver_told_80 : decode b_SpeciesSolver_told 80 = .ok (.aload_n 0, 1) := by decide +kernel
theorem d_SpeciesSolver_told_81 : decode b_SpeciesSolver_told 81 = .ok (.getfield 19, 3) := by decide +kernel
theorem d_SpeciesSolver_told_84 : decode b_SpeciesSolver_told 84 = .ok (.getfield 77, 3) := by decide +kernel
theorem d_SpeciesSolver_told_87 : decode b_SpeciesSolver_told 87 = .ok (.ireturn, 1) := by decide +kernel
theorem d_SpeciesSolver_told_88 : decode b_SpeciesSolver_told 88 = .ok (.iconst (-1), 1) := by decide +kernel
theorem d_SpeciesSolver_told_89 : decode b_SpeciesSolver_told 89 = .ok (.ireturn, 1) := by decide +kernel
abbrev wd_SpeciesSolver_told (kc : Nat → ClassId) (ad : Nat → Nat) (mn_bestCost : Int32) (mn_bestPerNote : Int32) (mn_bestLength : Int32) (mn_searched : Int32) (su_lines : Int32) (su_length : Int32) (su_perNote : Int32) (su_above : Int32) (dr_size : Int32) (tr_size : Int32) (be_size : Int32) : va_W := [((ad 0), .inr (0, [.ref (ad 1), .ref (ad 8), .ref (ad 9), .ref (ad 13), .ref (ad 23), .ref (ad 34), .ref (ad 36), .ref (ad 38), .int mn_bestCost, .int mn_bestPerNote, .int mn_bestLength, .int mn_searched])), ((ad 1), .inr (7, [.ref (ad 2), .ref (ad 3), .ref (ad 4), .int su_lines, .int su_length, .int su_perNote, .int su_above])), ((ad 34), .inr (3, [.ref (ad 35), .int dr_size])), ((ad 36), .inr (3, [.ref (ad 37), .int tr_size])), ((ad 38), .inr (3, [.ref (ad 39), .int be_size]))]
abbrev rm_SpeciesSolver_told : Room := { frames := 1, cells := 0, slots := 0, locals := 20 }
abbrev cw_SpeciesSolver_told : Cond := .code y_SpeciesSolver_told b_SpeciesSolver_told 2 (some .int)
abbrev ws_SpeciesSolver_told : List Cond := cw_SpeciesSolver_told :: GW
theorem hd_SpeciesSolver_told : y_SpeciesSolver_told.cls ≠ "java/lang/invoke/MethodHandle" ∧ y_SpeciesSolver_told.cls ≠ "java/lang/invoke/VarHandle" ∧ (parseMethodDescriptor y_SpeciesSolver_told.desc).map (fun d => d.parameters.length) = some 1 := by decide +kernel
def m_SpeciesSolver_told (su_lines : Int32) (su_length : Int32) (su_perNote : Int32) (dr_size : Int32) (tr_size : Int32) (be_size : Int32)  (a1 : Int32) : Option (Int32) :=
  (if a1 = (0 : Int32) then (some su_lines) else (if a1 = (1 : Int32) then (some su_length) else (if a1 = (2 : Int32) then (bd (m_Setup_total su_lines su_length su_perNote) (fun u4 => (some u4))) else (if a1 = (3 : Int32) then (some dr_size) else (if a1 = (4 : Int32) then (some tr_size) else (if a1 = (5 : Int32) then (some be_size) else (some (-1 : Int32))))))))
set_option maxHeartbeats 4000000 in
set_option maxRecDepth 100000 in
theorem e_SpeciesSolver_told {r : Int32} {ad : Nat → Nat} {mn_bestCost : Int32} {mn_bestPerNote : Int32} {mn_bestLength : Int32} {mn_searched : Int32} {su_lines : Int32} {su_length : Int32} {su_perNote : Int32} {su_above : Int32} {dr_size : Int32} {tr_size : Int32} {be_size : Int32} {a1 : Int32} {H : Heap} {locs : List Loc} {ls : Array Slot} (C : Cx p s m meth c args A D kc R_SpeciesSolver b_SpeciesSolver_told 2 (some .int)) (hm : m_SpeciesSolver_told su_lines su_length su_perNote dr_size tr_size be_size a1 = some r) (hZ : St D A s (wd_SpeciesSolver_told kc ad mn_bestCost mn_bestPerNote mn_bestLength mn_searched su_lines su_length su_perNote su_above dr_size tr_size be_size) H locs) (hl : lv_has ls 2 [(0, .ref (ad 0)), (1, .int a1)]) : W p l e rm_SpeciesSolver_told s m args below meth c H locs 0 0 (MQ below (Qi D A (wd_SpeciesSolver_told kc ad mn_bestCost mn_bestPerNote mn_bestLength mn_searched su_lines su_length su_perNote su_above dr_size tr_size be_size) r) args s 0 0 A) (F0 m 0 ls []) := by
  obtain ⟨hx, hb, hr, hts, hown, hml, hlocks, hK, hN, hA, hX⟩ := id C
  obtain ⟨hP, hD, hS⟩ := hZ
  unfold m_SpeciesSolver_told at hm
  refine lv_iload_n hx hb d_SpeciesSolver_told_0 rfl (lv_at hl 1 rfl) ?_
  by_cases c1 : a1 = (0 : Int32)
  · replace hm := ifT hm c1
    refine lv_tableIn (off := 39) (tgt := 40) hx hb d_SpeciesSolver_told_1 (by rw [c1]; decide) (by rw [c1]; decide) (by rw [c1]; rfl) (by decide) ?_
    refine lv_aload_n hx hb d_SpeciesSolver_told_40 rfl (lv_at hl 0 rfl) ?_
    refine va_get (D := D) (ci := 0) (v := .ref (ad 1)) (C := R_SpeciesSolver) (T := T_SpeciesSolver) (N := 12) hx hb hts inG_SpeciesSolver hown hK hP 0 rfl rfl 0 (by decide) (hts _ gw_368) (fun _ h9 => h9) rfl d_SpeciesSolver_told_41 ?_
    refine va_getN (D := D) (ci := 7) (v := .int su_lines) (C := R_Setup) (T := T_Setup) (N := 7) hx hb hts inG_Setup hown hK hP 1 rfl rfl 3 (by decide) (va_Nw.use rfl (hN _ nw_170)) (fun _ h9 => h9) rfl d_SpeciesSolver_told_44 ?_
    replace hm := Option.some.inj hm; subst hm
    exact zret_i C hP hD hS d_SpeciesSolver_told_47
  replace hm := ifF hm c1
  by_cases c2 : a1 = (1 : Int32)
  · replace hm := ifT hm c2
    refine lv_tableIn (off := 47) (tgt := 48) hx hb d_SpeciesSolver_told_1 (by rw [c2]; decide) (by rw [c2]; decide) (by rw [c2]; rfl) (by decide) ?_
    refine lv_aload_n hx hb d_SpeciesSolver_told_48 rfl (lv_at hl 0 rfl) ?_
    refine va_get (D := D) (ci := 0) (v := .ref (ad 1)) (C := R_SpeciesSolver) (T := T_SpeciesSolver) (N := 12) hx hb hts inG_SpeciesSolver hown hK hP 0 rfl rfl 0 (by decide) (hts _ gw_368) (fun _ h9 => h9) rfl d_SpeciesSolver_told_49 ?_
    refine va_getN (D := D) (ci := 7) (v := .int su_length) (C := R_Setup) (T := T_Setup) (N := 7) hx hb hts inG_Setup hown hK hP 1 rfl rfl 4 (by decide) (va_Nw.use rfl (hN _ nw_176)) (fun _ h9 => h9) rfl d_SpeciesSolver_told_52 ?_
    replace hm := Option.some.inj hm; subst hm
    exact zret_i C hP hD hS d_SpeciesSolver_told_55
  replace hm := ifF hm c2
  by_cases c3 : a1 = (2 : Int32)
  · replace hm := ifT hm c3
    refine lv_tableIn (off := 55) (tgt := 56) hx hb d_SpeciesSolver_told_1 (by rw [c3]; decide) (by rw [c3]; decide) (by rw [c3]; rfl) (by decide) ?_
    refine lv_aload_n hx hb d_SpeciesSolver_told_56 rfl (lv_at hl 0 rfl) ?_
    refine va_get (D := D) (ci := 0) (v := .ref (ad 1)) (C := R_SpeciesSolver) (T := T_SpeciesSolver) (N := 12) hx hb hts inG_SpeciesSolver hown hK hP 0 rfl rfl 0 (by decide) (hts _ gw_368) (fun _ h9 => h9) rfl d_SpeciesSolver_told_57 ?_
    obtain ⟨u4, hc5, hm⟩ := bd_some hm
    refine zVN_i (n := 0) (wr := [((ad 0), .inr (0, [.ref (ad 1), .ref (ad 8), .ref (ad 9), .ref (ad 13), .ref (ad 23), .ref (ad 34), .ref (ad 36), .ref (ad 38), .int mn_bestCost, .int mn_bestPerNote, .int mn_bestLength, .int mn_searched])), ((ad 34), .inr (3, [.ref (ad 35), .int dr_size])), ((ad 36), .inr (3, [.ref (ad 37), .int tr_size])), ((ad 38), .inr (3, [.ref (ad 39), .int be_size]))]) (w1 := (wd_Setup_total kc ad su_lines su_length su_perNote su_above)) (ws1 := (wd_SpeciesSolver_told kc ad mn_bestCost mn_bestPerNote mn_bestLength mn_searched su_lines su_length su_perNote su_above dr_size tr_size be_size)) (As := []) (rest := []) (ci := 7) (q0 := 0) (y := y_Setup_total) (host := "SpeciesSolver") ⟨hx, hb, hml, hown, hts⟩ (fun sz => c_Setup_total hc5 sz) gw_500 (hN _ nw_746) gw_499 gw_12 gw_113 hd_Setup_total ⟨Nat.le_of_ble_eq_true rfl, Nat.le_of_ble_eq_true rfl⟩ ⟨rfl, rfl⟩ ⟨Nat.zero_le _, Nat.zero_le _⟩ hK hN hP hD hS hA hX [1] [0, 2, 3, 4] [0, 4, 1, 2, 3] rfl rfl (by decide) (by decide) (by decide) rfl (by decide) rfl rfl rfl hl.1 rfl (Nat.le_of_ble_eq_true rfl) d_SpeciesSolver_told_60 (fun H locs hP hD hS => ?_)
    replace hm := Option.some.inj hm; subst hm
    exact zret_i C hP hD hS d_SpeciesSolver_told_63
  replace hm := ifF hm c3
  by_cases c6 : a1 = (3 : Int32)
  · replace hm := ifT hm c6
    refine lv_tableIn (off := 63) (tgt := 64) hx hb d_SpeciesSolver_told_1 (by rw [c6]; decide) (by rw [c6]; decide) (by rw [c6]; rfl) (by decide) ?_
    refine lv_aload_n hx hb d_SpeciesSolver_told_64 rfl (lv_at hl 0 rfl) ?_
    refine va_get (D := D) (ci := 0) (v := .ref (ad 34)) (C := R_SpeciesSolver) (T := T_SpeciesSolver) (N := 12) hx hb hts inG_SpeciesSolver hown hK hP 0 rfl rfl 5 (by decide) (hts _ gw_373) (fun _ h9 => h9) rfl d_SpeciesSolver_told_65 ?_
    refine va_getN (D := D) (ci := 3) (v := .int dr_size) (C := R_Line) (T := T_Line) (N := 2) hx hb hts inG_Line hown hK hP 2 rfl rfl 1 (by decide) (va_Nw.use rfl (hN _ nw_137)) (fun _ h9 => h9) rfl d_SpeciesSolver_told_68 ?_
    replace hm := Option.some.inj hm; subst hm
    exact zret_i C hP hD hS d_SpeciesSolver_told_71
  replace hm := ifF hm c6
  by_cases c7 : a1 = (4 : Int32)
  · replace hm := ifT hm c7
    refine lv_tableIn (off := 71) (tgt := 72) hx hb d_SpeciesSolver_told_1 (by rw [c7]; decide) (by rw [c7]; decide) (by rw [c7]; rfl) (by decide) ?_
    refine lv_aload_n hx hb d_SpeciesSolver_told_72 rfl (lv_at hl 0 rfl) ?_
    refine va_get (D := D) (ci := 0) (v := .ref (ad 36)) (C := R_SpeciesSolver) (T := T_SpeciesSolver) (N := 12) hx hb hts inG_SpeciesSolver hown hK hP 0 rfl rfl 6 (by decide) (hts _ gw_374) (fun _ h9 => h9) rfl d_SpeciesSolver_told_73 ?_
    refine va_getN (D := D) (ci := 3) (v := .int tr_size) (C := R_Line) (T := T_Line) (N := 2) hx hb hts inG_Line hown hK hP 3 rfl rfl 1 (by decide) (va_Nw.use rfl (hN _ nw_137)) (fun _ h9 => h9) rfl d_SpeciesSolver_told_76 ?_
    replace hm := Option.some.inj hm; subst hm
    exact zret_i C hP hD hS d_SpeciesSolver_told_79
  replace hm := ifF hm c7
  by_cases c8 : a1 = (5 : Int32)
  · replace hm := ifT hm c8
    refine lv_tableIn (off := 79) (tgt := 80) hx hb d_SpeciesSolver_told_1 (by rw [c8]; decide) (by rw [c8]; decide) (by rw [c8]; rfl) (by decide) ?_
    refine lv_aload_n hx hb d_SpeciesSolver_told_80 rfl (lv_at hl 0 rfl) ?_
    refine va_get (D := D) (ci := 0) (v := .ref (ad 38)) (C := R_SpeciesSolver) (T := T_SpeciesSolver) (N := 12) hx hb hts inG_SpeciesSolver hown hK hP 0 rfl rfl 7 (by decide) (hts _ gw_375) (fun _ h9 => h9) rfl d_SpeciesSolver_told_81 ?_
    refine va_getN (D := D) (ci := 3) (v := .int be_size) (C := R_Line) (T := T_Line) (N := 2) hx hb hts inG_Line hown hK hP 4 rfl rfl 1 (by decide) (va_Nw.use rfl (hN _ nw_137)) (fun _ h9 => h9) rfl d_SpeciesSolver_told_84 ?_
    replace hm := Option.some.inj hm; subst hm
    exact zret_i C hP hD hS d_SpeciesSolver_told_87
  replace hm := ifF hm c8
  refine lv_tableOut (tgt := 88) hx hb d_SpeciesSolver_told_1 (by have := ti_ne (k := 0) (y := (0 : Int32)) rfl c1; have := ti_ne (k := 1) (y := (1 : Int32)) rfl c2; have := ti_ne (k := 2) (y := (2 : Int32)) rfl c3; have := ti_ne (k := 3) (y := (3 : Int32)) rfl c6; have := ti_ne (k := 4) (y := (4 : Int32)) rfl c7; have := ti_ne (k := 5) (y := (5 : Int32)) rfl c8; omega) (by decide) ?_
  refine lv_iconst (v := -1) hx hb d_SpeciesSolver_told_88 (by decide) ?_
  replace hm := Option.some.inj hm; subst hm
  exact zret_i C hP hD hS d_SpeciesSolver_told_89
set_option maxHeartbeats 4000000 in
set_option maxRecDepth 100000 in
theorem c_SpeciesSolver_told {l : Launch} {D : va_G} {kc : Nat → ClassId} {r : Int32} {ad : Nat → Nat} {mn_bestCost : Int32} {mn_bestPerNote : Int32} {mn_bestLength : Int32} {mn_searched : Int32} {su_lines : Int32} {su_length : Int32} {su_perNote : Int32} {su_above : Int32} {dr_size : Int32} {tr_size : Int32} {be_size : Int32} {a1 : Int32} (hm : m_SpeciesSolver_told su_lines su_length su_perNote dr_size tr_size be_size a1 = some r) (sz : Nat) : Ci l y_SpeciesSolver_told ws_SpeciesSolver_told rm_SpeciesSolver_told D kc sz [.ref (ad 0), .int a1] (wd_SpeciesSolver_told kc ad mn_bestCost mn_bestPerNote mn_bestLength mn_searched su_lines su_length su_perNote su_above dr_size tr_size be_size) (wd_SpeciesSolver_told kc ad mn_bestCost mn_bestPerNote mn_bestLength mn_searched su_lines su_length su_perNote su_above dr_size tr_size be_size) r :=
  Cz_of (Qf := fun A => (Qi D A (wd_SpeciesSolver_told kc ad mn_bestCost mn_bestPerNote mn_bestLength mn_searched su_lines su_length su_perNote su_above dr_size tr_size be_size) r)) (cc := b_SpeciesSolver_told) (maxL := 2) (ret := (some .int)) (by decide) rfl rfl (fun C hZ hl => e_SpeciesSolver_told C hm hZ hl)
end
