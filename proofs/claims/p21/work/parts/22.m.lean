section
variable {p : Program} {l : Launch} {e : Env} {s : State} {m : MethodId} {args : Array Value} {below : List Frame} {meth : Method} {c : Code} {D : va_G} {kc : Nat → ClassId} {A : Nat → Prop}
abbrev b_Prices_isBadNote : ByteArray := prog_4_method_4_code
abbrev y_Prices_isBadNote : MethodName := ⟨"SpeciesSolver$Prices", "isBadNote", "(II)Z"⟩
theorem d_Prices_isBadNote_0 : decode b_Prices_isBadNote 0 = .ok (.aload_n 0, 1) := by decide +kernel
theorem d_Prices_isBadNote_1 : decode b_Prices_isBadNote 1 = .ok (.getfield 53, 3) := by decide +kernel
theorem d_Prices_isBadNote_4 : decode b_Prices_isBadNote 4 = .ok (.getfield 71, 3) := by decide +kernel
theorem d_Prices_isBadNote_7 : decode b_Prices_isBadNote 7 = .ok (.iconst 0, 1) := by decide +kernel
theorem d_Prices_isBadNote_8 : decode b_Prices_isBadNote 8 = .ok (.baload, 1) := by decide +kernel
theorem d_Prices_isBadNote_9 : decode b_Prices_isBadNote 9 = .ok (.ifCond .eq 28, 3) := by decide +kernel
theorem d_Prices_isBadNote_12 : decode b_Prices_isBadNote 12 = .ok (.aload_n 0, 1) := by decide +kernel
theorem d_Prices_isBadNote_13 : decode b_Prices_isBadNote 13 = .ok (.getfield 57, 3) := by decide +kernel
theorem d_Prices_isBadNote_16 : decode b_Prices_isBadNote 16 = .ok (.iload_n 1, 1) := by decide +kernel
theorem d_Prices_isBadNote_17 : decode b_Prices_isBadNote 17 = .ok (.invokevirtual 99, 3) := by decide +kernel
theorem d_Prices_isBadNote_20 : decode b_Prices_isBadNote 20 = .ok (.ifCond .eq 17, 3) := by decide +kernel
theorem d_Prices_isBadNote_23 : decode b_Prices_isBadNote 23 = .ok (.aload_n 0, 1) := by decide +kernel
theorem d_Prices_isBadNote_24 : decode b_Prices_isBadNote 24 = .ok (.getfield 57, 3) := by decide +kernel
theorem d_Prices_isBadNote_27 : decode b_Prices_isBadNote 27 = .ok (.iload_n 1, 1) := by decide +kernel
theorem d_Prices_isBadNote_28 : decode b_Prices_isBadNote 28 = .ok (.iload_n 2, 1) := by decide +kernel
theorem d_Prices_isBadNote_29 : decode b_Prices_isBadNote 29 = .ok (.invokevirtual 103, 3) := by decide +kernel
theorem d_Prices_isBadNote_32 : decode b_Prices_isBadNote 32 = .ok (.ifCond .eq 5, 3) := by decide +kernel
theorem d_Prices_isBadNote_35 : decode b_Prices_isBadNote 35 = .ok (.iconst 1, 1) := by decide +kernel
theorem d_Prices_isBadNote_36 : decode b_Prices_isBadNote 36 = .ok (.ireturn, 1) := by decide +kernel
theorem d_Prices_isBadNote_37 : decode b_Prices_isBadNote 37 = .ok (.aload_n 0, 1) := by decide +kernel
theorem d_Prices_isBadNote_38 : decode b_Prices_isBadNote 38 = .ok (.getfield 53, 3) := by decide +kernel
theorem d_Prices_isBadNote_41 : decode b_Prices_isBadNote 41 = .ok (.getfield 71, 3) := by decide +kernel
theorem d_Prices_isBadNote_44 : decode b_Prices_isBadNote 44 = .ok (.bipush 8, 2) := by decide +kernel
theorem d_Prices_isBadNote_46 : decode b_Prices_isBadNote 46 = .ok (.baload, 1) := by decide +kernel
theorem d_Prices_isBadNote_47 : decode b_Prices_isBadNote 47 = .ok (.ifCond .eq 20, 3) := by decide +kernel
theorem d_Prices_isBadNote_50 : decode b_Prices_isBadNote 50 = .ok (.iload_n 1, 1) := by decide +kernel
theorem d_Prices_isBadNote_51 : decode b_Prices_isBadNote 51 = .ok (.ifCond .ne 16, 3) := by decide +kernel
theorem d_Prices_isBadNote_54 : decode b_Prices_isBadNote 54 = .ok (.aload_n 0, 1) := by decide +kernel
theorem d_Prices_isBadNote_55 : decode b_Prices_isBadNote 55 = .ok (.getfield 57, 3) := by decide +kernel
theorem d_Prices_isBadNote_58 : decode b_Prices_isBadNote 58 = .ok (.iload_n 2, 1) := by decide +kernel
theorem d_Prices_isBadNote_59 : decode b_Prices_isBadNote 59 = .ok (.invokevirtual 106, 3) := by decide +kernel
theorem d_Prices_isBadNote_62 : decode b_Prices_isBadNote 62 = .ok (.ifCond .eq 5, 3) := by decide +kernel
theorem d_Prices_isBadNote_65 : decode b_Prices_isBadNote 65 = .ok (.iconst 1, 1) := by decide +kernel
theorem d_Prices_isBadNote_66 : decode b_Prices_isBadNote 66 = .ok (.ireturn, 1) := by decide +kernel
theorem d_Prices_isBadNote_67 : decode b_Prices_isBadNote 67 = .ok (.iconst 0, 1) := by decide +kernel
theorem d_Prices_isBadNote_68 : decode b_Prices_isBadNote 68 = .ok (.istore_n 3, 1) := by decide +kernel
theorem d_Prices_isBadNote_69 : decode b_Prices_isBadNote 69 = .ok (.aload_n 0, 1) := by decide +kernel
theorem d_Prices_isBadNote_70 : decode b_Prices_isBadNote 70 = .ok (.getfield 53, 3) := by decide +kernel
theorem d_Prices_isBadNote_73 : decode b_Prices_isBadNote 73 = .ok (.getfield 71, 3) := by decide +kernel
theorem d_Prices_isBadNote_76 : decode b_Prices_isBadNote 76 = .ok (.iconst 3, 1) := by decide +kernel
theorem d_Prices_isBadNote_77 : decode b_Prices_isBadNote 77 = .ok (.baload, 1) := by decide +kernel
theorem d_Prices_isBadNote_78 : decode b_Prices_isBadNote 78 = .ok (.ifCond .eq 35, 3) := by decide +kernel
theorem d_Prices_isBadNote_81 : decode b_Prices_isBadNote 81 = .ok (.iload_n 3, 1) := by decide +kernel
theorem d_Prices_isBadNote_82 : decode b_Prices_isBadNote 82 = .ok (.aload_n 0, 1) := by decide +kernel
theorem d_Prices_isBadNote_83 : decode b_Prices_isBadNote 83 = .ok (.getfield 53, 3) := by decide +kernel
theorem d_Prices_isBadNote_86 : decode b_Prices_isBadNote 86 = .ok (.getfield 109, 3) := by decide +kernel
theorem d_Prices_isBadNote_89 : decode b_Prices_isBadNote 89 = .ok (.if_icmp .ge 24, 3) := by decide +kernel
theorem d_Prices_isBadNote_92 : decode b_Prices_isBadNote 92 = .ok (.aload_n 0, 1) := by decide +kernel
theorem d_Prices_isBadNote_93 : decode b_Prices_isBadNote 93 = .ok (.getfield 57, 3) := by decide +kernel
theorem d_Prices_isBadNote_96 : decode b_Prices_isBadNote 96 = .ok (.iload_n 3, 1) := by decide +kernel
theorem d_Prices_isBadNote_97 : decode b_Prices_isBadNote 97 = .ok (.iload_n 1, 1) := by decide +kernel
theorem d_Prices_isBadNote_98 : decode b_Prices_isBadNote 98 = .ok (.iload_n 2, 1) := by decide +kernel
theorem d_Prices_isBadNote_99 : decode b_Prices_isBadNote 99 = .ok (.invokevirtual 112, 3) := by decide +kernel
theorem d_Prices_isBadNote_102 : decode b_Prices_isBadNote 102 = .ok (.ifCond .eq 5, 3) := by decide +kernel
theorem d_Prices_isBadNote_105 : decode b_Prices_isBadNote 105 = .ok (.iconst 1, 1) := by decide +kernel
theorem d_Prices_isBadNote_106 : decode b_Prices_isBadNote 106 = .ok (.ireturn, 1) := by decide +kernel
theorem d_Prices_isBadNote_107 : decode b_Prices_isBadNote 107 = .ok (.iinc 3 1, 3) := by decide +kernel
theorem d_Prices_isBadNote_110 : decode b_Prices_isBadNote 110 = .ok (.goto (-41), 3) := by decide +kernel
theorem d_Prices_isBadNote_113 : decode b_Prices_isBadNote 113 = .ok (.iconst 0, 1) := by decide +kernel
theorem d_Prices_isBadNote_114 : decode b_Prices_isBadNote 114 = .ok (.ireturn, 1) := by decide +kernel
abbrev wd_Prices_isBadNote (kc : Nat → ClassId) (ad : Nat → Nat) (su_lines : Int32) (su_length : Int32) (su_perNote : Int32) (su_above : Int32) (su_numbers : Nat → Int32) (su_on : Nat → Int32) (su_given : Nat → Nat → Int32) (pr_size : Int32) (pr_total : Int32) (pr_perNote : Int32) (pr_mostAlike : Int32) : va_W := [((ad 1), .inr (7, [.ref (ad 2), .ref (ad 3), .ref (ad 4), .int su_lines, .int su_length, .int su_perNote, .int su_above])), ((ad 2), .inl (kc 0, 18, .inl su_numbers)), ((ad 3), .inl (kc 1, 11, .inl su_on)), ((ad 4), .inl (kc 3, 3, .inr (.inr (.inr (.inr (fun i => if i < 3 then some (ad (5 + i)) else none)))))), ((ad 5), .inl (kc 0, 12, .inl (su_given 0))), ((ad 6), .inl (kc 0, 12, .inl (su_given 1))), ((ad 7), .inl (kc 0, 12, .inl (su_given 2))), ((ad 8), .inr (5, [.ref (ad 1)])), ((ad 13), .inr (4, [.ref (ad 1), .ref (ad 8), .ref (ad 14), .ref (ad 15), .ref (ad 16), .ref (ad 17), .ref (ad 18), .ref (ad 19), .ref (ad 20), .ref (ad 21), .ref (ad 22), .int pr_size, .int pr_total, .int pr_perNote, .int pr_mostAlike]))]
abbrev rm_Prices_isBadNote : Room := { frames := 2, cells := 0, slots := 0, locals := 47 }
abbrev cw_Prices_isBadNote : Cond := .code y_Prices_isBadNote b_Prices_isBadNote 4 (some .boolean)
abbrev ws_Prices_isBadNote : List Cond := cw_Prices_isBadNote :: GW
theorem hd_Prices_isBadNote : y_Prices_isBadNote.cls ≠ "java/lang/invoke/MethodHandle" ∧ y_Prices_isBadNote.cls ≠ "java/lang/invoke/VarHandle" ∧ (parseMethodDescriptor y_Prices_isBadNote.desc).map (fun d => d.parameters.length) = some 2 := by decide +kernel
def m_Prices_isBadNote_69b (F : Nat) (su_lines : Int32) (su_perNote : Int32) (su_above : Int32) (su_numbers : Nat → Int32) (su_on : Nat → Int32) (su_given : Nat → Nat → Int32) (k69 : Int32 → Int32 → Int32 → Option (Int32))  (x1 : Int32) (x2 : Int32) (x3 : Int32) : Option (Int32) :=
  (if (su_on (Int32.toNatClampNeg (3 : Int32))) = (0 : Int32) then
    (some (0 : Int32))
  else
    (if su_lines ≤ x3 then
      (some (0 : Int32))
    else
      (bd (m_Rules_isCrossing su_perNote su_above su_given x3 x1 x2) (fun u3 => (if u3 = (0 : Int32) then
        k69 x1 x2 (x3 + 1)
      else
        (some (1 : Int32)))))))
set_option maxHeartbeats 4000000 in
set_option maxRecDepth 100000 in
theorem l_Prices_isBadNote_69 {r : Int32} {F : Nat} {ad : Nat → Nat} {su_lines : Int32} {su_length : Int32} {su_perNote : Int32} {su_above : Int32} {su_numbers : Nat → Int32} {su_on : Nat → Int32} {su_given : Nat → Nat → Int32} {pr_size : Int32} {pr_total : Int32} {pr_perNote : Int32} {pr_mostAlike : Int32} {k69 : Int32 → Int32 → Int32 → Option (Int32)} {x1 : Int32} {x2 : Int32} {x3 : Int32} {H : Heap} {locs : List Loc} {ls : Array Slot} (C : Cx p s m meth c args A D kc R_Prices b_Prices_isBadNote 4 (some .boolean)) (hk69 : (∀  (x1 : Int32) (x2 : Int32) (x3 : Int32) (H : Heap) (locs : List Loc) (ls : Array Slot), k69 x1 x2 x3 = some r → St D A s (wd_Prices_isBadNote kc ad su_lines su_length su_perNote su_above su_numbers su_on su_given pr_size pr_total pr_perNote pr_mostAlike) H locs → lv_has ls 4 [(0, .ref (ad 13)), (1, .int x1), (2, .int x2), (3, .int x3)] → W p l e rm_Prices_isBadNote s m args below meth c H locs 0 0 (MQ below (Qi D A (wd_Prices_isBadNote kc ad su_lines su_length su_perNote su_above su_numbers su_on su_given pr_size pr_total pr_perNote pr_mostAlike) r) args s 0 0 A) (F0 m 69 ls []))) (hm : m_Prices_isBadNote_69b F su_lines su_perNote su_above su_numbers su_on su_given k69 x1 x2 x3 = some r) (hZ : St D A s (wd_Prices_isBadNote kc ad su_lines su_length su_perNote su_above su_numbers su_on su_given pr_size pr_total pr_perNote pr_mostAlike) H locs) (hl : lv_has ls 4 [(0, .ref (ad 13)), (1, .int x1), (2, .int x2), (3, .int x3)]) : W p l e rm_Prices_isBadNote s m args below meth c H locs 0 0 (MQ below (Qi D A (wd_Prices_isBadNote kc ad su_lines su_length su_perNote su_above su_numbers su_on su_given pr_size pr_total pr_perNote pr_mostAlike) r) args s 0 0 A) (F0 m 69 ls []) := by
  obtain ⟨hx, hb, hr, hts, hown, hml, hlocks, hK, hN, hA, hX⟩ := id C
  obtain ⟨hP, hD, hS⟩ := hZ
  unfold m_Prices_isBadNote_69b at hm
  refine lv_aload_n hx hb d_Prices_isBadNote_69 rfl (lv_at hl 0 rfl) ?_
  refine va_get (D := D) (ci := 4) (v := .ref (ad 1)) (C := R_Prices) (T := T_Prices) (N := 15) hx hb hts inG_Prices hown hK hP 8 rfl rfl 0 (by decide) (hts _ gw_248) (fun _ h9 => h9) rfl d_Prices_isBadNote_70 ?_
  refine va_getN (D := D) (ci := 7) (v := .ref (ad 3)) (C := R_Setup) (T := T_Setup) (N := 7) hx hb hts inG_Setup hown hK hP 0 rfl rfl 1 (by decide) (va_Nw.use rfl (hN _ nw_165)) (fun _ h9 => h9) rfl d_Prices_isBadNote_73 ?_
  refine lv_iconst (v := 3) hx hb d_Prices_isBadNote_76 (by decide) ?_
  refine va_zald hx hb hK hP 2 1 rfl rfl (in_lit (by decide)) d_Prices_isBadNote_77 ?_
  refine lv_if_eq (tgt := 113) hx hb d_Prices_isBadNote_78 (by decide) (fun c1 => ?_) (fun c1 => ?_)
  · replace hm := ifT hm c1
    refine lv_iconst (v := 0) hx hb d_Prices_isBadNote_113 (by decide) ?_
    replace hm := Option.some.inj hm; subst hm
    exact zret_z (v := 0) C hP hD hS (by rfl) d_Prices_isBadNote_114
  · replace hm := ifF hm c1
    refine lv_iload_n hx hb d_Prices_isBadNote_81 rfl (lv_at hl 3 rfl) ?_
    refine lv_aload_n hx hb d_Prices_isBadNote_82 rfl (lv_at hl 0 rfl) ?_
    refine va_get (D := D) (ci := 4) (v := .ref (ad 1)) (C := R_Prices) (T := T_Prices) (N := 15) hx hb hts inG_Prices hown hK hP 8 rfl rfl 0 (by decide) (hts _ gw_248) (fun _ h9 => h9) rfl d_Prices_isBadNote_83 ?_
    refine va_getN (D := D) (ci := 7) (v := .int su_lines) (C := R_Setup) (T := T_Setup) (N := 7) hx hb hts inG_Setup hown hK hP 0 rfl rfl 3 (by decide) (va_Nw.use rfl (hN _ nw_171)) (fun _ h9 => h9) rfl d_Prices_isBadNote_86 ?_
    refine lv_icmp_ge (tgt := 113) hx hb d_Prices_isBadNote_89 (by decide) (fun c2 => ?_) (fun c2 => ?_)
    · replace hm := ifT hm c2
      refine lv_iconst (v := 0) hx hb d_Prices_isBadNote_113 (by decide) ?_
      replace hm := Option.some.inj hm; subst hm
      exact zret_z (v := 0) C hP hD hS (by rfl) d_Prices_isBadNote_114
    · replace hm := ifF hm c2
      refine lv_aload_n hx hb d_Prices_isBadNote_92 rfl (lv_at hl 0 rfl) ?_
      refine va_get (D := D) (ci := 4) (v := .ref (ad 8)) (C := R_Prices) (T := T_Prices) (N := 15) hx hb hts inG_Prices hown hK hP 8 rfl rfl 1 (by decide) (hts _ gw_249) (fun _ h9 => h9) rfl d_Prices_isBadNote_93 ?_
      refine lv_iload_n hx hb d_Prices_isBadNote_96 rfl (lv_at hl 3 rfl) ?_
      refine lv_iload_n hx hb d_Prices_isBadNote_97 rfl (lv_at hl 1 rfl) ?_
      refine lv_iload_n hx hb d_Prices_isBadNote_98 rfl (lv_at hl 2 rfl) ?_
      obtain ⟨u3, hc4, hm⟩ := bd_some hm
      refine zVN_i (n := 3) (wr := [((ad 2), .inl (kc 0, 18, .inl su_numbers)), ((ad 3), .inl (kc 1, 11, .inl su_on)), ((ad 13), .inr (4, [.ref (ad 1), .ref (ad 8), .ref (ad 14), .ref (ad 15), .ref (ad 16), .ref (ad 17), .ref (ad 18), .ref (ad 19), .ref (ad 20), .ref (ad 21), .ref (ad 22), .int pr_size, .int pr_total, .int pr_perNote, .int pr_mostAlike]))]) (w1 := (wd_Rules_isCrossing kc ad su_lines su_length su_perNote su_above su_given)) (ws1 := (wd_Prices_isBadNote kc ad su_lines su_length su_perNote su_above su_numbers su_on su_given pr_size pr_total pr_perNote pr_mostAlike)) (As := [.int x3, .int x1, .int x2]) (rest := []) (ci := 5) (q0 := 5) (y := y_Rules_isCrossing) (host := "SpeciesSolver") ⟨hx, hb, hml, hown, hts⟩ (fun sz => c_Rules_isCrossing hc4 sz) gw_532 (hN _ nw_529) gw_531 gw_20 gw_114 hd_Rules_isCrossing ⟨Nat.le_of_ble_eq_true rfl, Nat.le_of_ble_eq_true rfl⟩ ⟨rfl, rfl⟩ ⟨Nat.zero_le _, Nat.zero_le _⟩ hK hN hP hD hS hA hX [0, 3, 4, 5, 6, 7] [1, 2, 8] [3, 0, 1, 4, 5, 6, 7, 8, 2] rfl rfl (by decide) (by decide) (by decide) rfl (by decide) rfl rfl rfl hl.1 rfl (Nat.le_of_ble_eq_true rfl) d_Prices_isBadNote_99 (fun H locs hP hD hS => ?_)
      refine lv_if_eq (tgt := 107) hx hb d_Prices_isBadNote_102 (by decide) (fun c5 => ?_) (fun c5 => ?_)
      · replace hm := ifT hm c5
        refine lv_iinc (v := (x3 + 1)) (lv' := [(3, .int (x3 + 1)), (0, .ref (ad 13)), (1, .int x1), (2, .int x2)]) hx hb d_Prices_isBadNote_107 hl (k := 3) rfl rfl (by decide) rfl (fun ls hl => ?_)
        refine lv_goto (tgt := 69) hx hb d_Prices_isBadNote_110 (by decide) ?_
        exact hk69 x1 x2 (x3 + 1) _ _ _ hm ⟨hP, hD, hS⟩ (lv_sub hl [1, 2, 3, 0] rfl)
      · replace hm := ifF hm c5
        refine lv_iconst (v := 1) hx hb d_Prices_isBadNote_105 (by decide) ?_
        replace hm := Option.some.inj hm; subst hm
        exact zret_z (v := 1) C hP hD hS (by rfl) d_Prices_isBadNote_106
def m_Prices_isBadNote_69 (F : Nat) (su_lines : Int32) (su_perNote : Int32) (su_above : Int32) (su_numbers : Nat → Int32) (su_on : Nat → Int32) (su_given : Nat → Nat → Int32)  : Nat → Int32 → Int32 → Int32 → Option (Int32)
  | 0 => fun _ _ _ => none
  | n + 1 => m_Prices_isBadNote_69b F su_lines su_perNote su_above su_numbers su_on su_given  (m_Prices_isBadNote_69 F su_lines su_perNote su_above su_numbers su_on su_given  n)
set_option maxHeartbeats 4000000 in
set_option maxRecDepth 100000 in
theorem lp_Prices_isBadNote_69 {r : Int32} {F : Nat} {ad : Nat → Nat} {su_lines : Int32} {su_length : Int32} {su_perNote : Int32} {su_above : Int32} {su_numbers : Nat → Int32} {su_on : Nat → Int32} {su_given : Nat → Nat → Int32} {pr_size : Int32} {pr_total : Int32} {pr_perNote : Int32} {pr_mostAlike : Int32}  (C : Cx p s m meth c args A D kc R_Prices b_Prices_isBadNote 4 (some .boolean))  : ∀ (n : Nat)  (x1 : Int32) (x2 : Int32) (x3 : Int32) (H : Heap) (locs : List Loc) (ls : Array Slot), m_Prices_isBadNote_69 F su_lines su_perNote su_above su_numbers su_on su_given  n x1 x2 x3 = some r → St D A s (wd_Prices_isBadNote kc ad su_lines su_length su_perNote su_above su_numbers su_on su_given pr_size pr_total pr_perNote pr_mostAlike) H locs → lv_has ls 4 [(0, .ref (ad 13)), (1, .int x1), (2, .int x2), (3, .int x3)] → W p l e rm_Prices_isBadNote s m args below meth c H locs 0 0 (MQ below (Qi D A (wd_Prices_isBadNote kc ad su_lines su_length su_perNote su_above su_numbers su_on su_given pr_size pr_total pr_perNote pr_mostAlike) r) args s 0 0 A) (F0 m 69 ls []) := by
  intro n
  induction n with
  | zero => intro x1 x2 x3 H locs ls hm; cases hm
  | succ n ih => intro x1 x2 x3 H locs ls hm hZ hl; exact l_Prices_isBadNote_69 C  ih hm hZ hl
def m_Prices_isBadNote_67 (F : Nat) (su_lines : Int32) (su_perNote : Int32) (su_above : Int32) (su_numbers : Nat → Int32) (su_on : Nat → Int32) (su_given : Nat → Nat → Int32)   (x1 : Int32) (x2 : Int32) : Option (Int32) :=
  m_Prices_isBadNote_69 F su_lines su_perNote su_above su_numbers su_on su_given  F x1 x2 (0 : Int32)
set_option maxHeartbeats 4000000 in
set_option maxRecDepth 100000 in
theorem l_Prices_isBadNote_67 {r : Int32} {F : Nat} {ad : Nat → Nat} {su_lines : Int32} {su_length : Int32} {su_perNote : Int32} {su_above : Int32} {su_numbers : Nat → Int32} {su_on : Nat → Int32} {su_given : Nat → Nat → Int32} {pr_size : Int32} {pr_total : Int32} {pr_perNote : Int32} {pr_mostAlike : Int32}  {x1 : Int32} {x2 : Int32} {H : Heap} {locs : List Loc} {ls : Array Slot} (C : Cx p s m meth c args A D kc R_Prices b_Prices_isBadNote 4 (some .boolean))  (hm : m_Prices_isBadNote_67 F su_lines su_perNote su_above su_numbers su_on su_given  x1 x2 = some r) (hZ : St D A s (wd_Prices_isBadNote kc ad su_lines su_length su_perNote su_above su_numbers su_on su_given pr_size pr_total pr_perNote pr_mostAlike) H locs) (hl : lv_has ls 4 [(0, .ref (ad 13)), (1, .int x1), (2, .int x2)]) : W p l e rm_Prices_isBadNote s m args below meth c H locs 0 0 (MQ below (Qi D A (wd_Prices_isBadNote kc ad su_lines su_length su_perNote su_above su_numbers su_on su_given pr_size pr_total pr_perNote pr_mostAlike) r) args s 0 0 A) (F0 m 67 ls []) := by
  obtain ⟨hx, hb, hr, hts, hown, hml, hlocks, hK, hN, hA, hX⟩ := id C
  obtain ⟨hP, hD, hS⟩ := hZ
  unfold m_Prices_isBadNote_67 at hm
  refine lv_iconst (v := 0) hx hb d_Prices_isBadNote_67 (by decide) ?_
  refine lv_istore_n (lv' := [(3, .int (0 : Int32)), (0, .ref (ad 13)), (1, .int x1), (2, .int x2)]) hx hb d_Prices_isBadNote_68 rfl hl (by decide) rfl (fun ls hl => ?_)
  exact lp_Prices_isBadNote_69 C  F x1 x2 (0 : Int32) _ _ _ hm ⟨hP, hD, hS⟩ (lv_sub hl [1, 2, 3, 0] rfl)
def m_Prices_isBadNote_37 (F : Nat) (su_lines : Int32) (su_perNote : Int32) (su_above : Int32) (su_numbers : Nat → Int32) (su_on : Nat → Int32) (su_given : Nat → Nat → Int32)   (x1 : Int32) (x2 : Int32) : Option (Int32) :=
  (if (su_on (Int32.toNatClampNeg (8 : Int32))) = (0 : Int32) then
    m_Prices_isBadNote_67 F su_lines su_perNote su_above su_numbers su_on su_given  x1 x2
  else
    (if x1 = (0 : Int32) then
      (bd (m_Rules_isBadOpening su_perNote su_numbers su_given x2) (fun u3 => (if u3 = (0 : Int32) then
        m_Prices_isBadNote_67 F su_lines su_perNote su_above su_numbers su_on su_given  x1 x2
      else
        (some (1 : Int32)))))
    else
      m_Prices_isBadNote_67 F su_lines su_perNote su_above su_numbers su_on su_given  x1 x2))
set_option maxHeartbeats 4000000 in
set_option maxRecDepth 100000 in
theorem l_Prices_isBadNote_37 {r : Int32} {F : Nat} {ad : Nat → Nat} {su_lines : Int32} {su_length : Int32} {su_perNote : Int32} {su_above : Int32} {su_numbers : Nat → Int32} {su_on : Nat → Int32} {su_given : Nat → Nat → Int32} {pr_size : Int32} {pr_total : Int32} {pr_perNote : Int32} {pr_mostAlike : Int32}  {x1 : Int32} {x2 : Int32} {H : Heap} {locs : List Loc} {ls : Array Slot} (C : Cx p s m meth c args A D kc R_Prices b_Prices_isBadNote 4 (some .boolean))  (hm : m_Prices_isBadNote_37 F su_lines su_perNote su_above su_numbers su_on su_given  x1 x2 = some r) (hZ : St D A s (wd_Prices_isBadNote kc ad su_lines su_length su_perNote su_above su_numbers su_on su_given pr_size pr_total pr_perNote pr_mostAlike) H locs) (hl : lv_has ls 4 [(0, .ref (ad 13)), (1, .int x1), (2, .int x2)]) : W p l e rm_Prices_isBadNote s m args below meth c H locs 0 0 (MQ below (Qi D A (wd_Prices_isBadNote kc ad su_lines su_length su_perNote su_above su_numbers su_on su_given pr_size pr_total pr_perNote pr_mostAlike) r) args s 0 0 A) (F0 m 37 ls []) := by
  obtain ⟨hx, hb, hr, hts, hown, hml, hlocks, hK, hN, hA, hX⟩ := id C
  obtain ⟨hP, hD, hS⟩ := hZ
  unfold m_Prices_isBadNote_37 at hm
  refine lv_aload_n hx hb d_Prices_isBadNote_37 rfl (lv_at hl 0 rfl) ?_
  refine va_get (D := D) (ci := 4) (v := .ref (ad 1)) (C := R_Prices) (T := T_Prices) (N := 15) hx hb hts inG_Prices hown hK hP 8 rfl rfl 0 (by decide) (hts _ gw_248) (fun _ h9 => h9) rfl d_Prices_isBadNote_38 ?_
  refine va_getN (D := D) (ci := 7) (v := .ref (ad 3)) (C := R_Setup) (T := T_Setup) (N := 7) hx hb hts inG_Setup hown hK hP 0 rfl rfl 1 (by decide) (va_Nw.use rfl (hN _ nw_165)) (fun _ h9 => h9) rfl d_Prices_isBadNote_41 ?_
  refine lv_bipush (v := 8) hx hb d_Prices_isBadNote_44 (by decide) ?_
  refine va_zald hx hb hK hP 2 1 rfl rfl (in_lit (by decide)) d_Prices_isBadNote_46 ?_
  refine lv_if_eq (tgt := 67) hx hb d_Prices_isBadNote_47 (by decide) (fun c1 => ?_) (fun c1 => ?_)
  · replace hm := ifT hm c1
    exact l_Prices_isBadNote_67 C  hm ⟨hP, hD, hS⟩ (lv_sub hl [0, 1, 2] rfl)
  · replace hm := ifF hm c1
    refine lv_iload_n hx hb d_Prices_isBadNote_50 rfl (lv_at hl 1 rfl) ?_
    refine lv_if_ne (tgt := 67) hx hb d_Prices_isBadNote_51 (by decide) (fun c2 => ?_) (fun c2 => ?_)
    · replace hm := ifF hm c2
      exact l_Prices_isBadNote_67 C  hm ⟨hP, hD, hS⟩ (lv_sub hl [0, 1, 2] rfl)
    · replace hm := ifT hm c2
      refine lv_aload_n hx hb d_Prices_isBadNote_54 rfl (lv_at hl 0 rfl) ?_
      refine va_get (D := D) (ci := 4) (v := .ref (ad 8)) (C := R_Prices) (T := T_Prices) (N := 15) hx hb hts inG_Prices hown hK hP 8 rfl rfl 1 (by decide) (hts _ gw_249) (fun _ h9 => h9) rfl d_Prices_isBadNote_55 ?_
      refine lv_iload_n hx hb d_Prices_isBadNote_58 rfl (lv_at hl 2 rfl) ?_
      obtain ⟨u3, hc4, hm⟩ := bd_some hm
      refine zVN_i (n := 1) (wr := [((ad 3), .inl (kc 1, 11, .inl su_on)), ((ad 13), .inr (4, [.ref (ad 1), .ref (ad 8), .ref (ad 14), .ref (ad 15), .ref (ad 16), .ref (ad 17), .ref (ad 18), .ref (ad 19), .ref (ad 20), .ref (ad 21), .ref (ad 22), .int pr_size, .int pr_total, .int pr_perNote, .int pr_mostAlike]))]) (w1 := (wd_Rules_isBadOpening kc ad su_lines su_length su_perNote su_above su_numbers su_given)) (ws1 := (wd_Prices_isBadNote kc ad su_lines su_length su_perNote su_above su_numbers su_on su_given pr_size pr_total pr_perNote pr_mostAlike)) (As := [.int x2]) (rest := []) (ci := 5) (q0 := 6) (y := y_Rules_isBadOpening) (host := "SpeciesSolver") ⟨hx, hb, hml, hown, hts⟩ (fun sz => c_Rules_isBadOpening hc4 sz) gw_528 (hN _ nw_525) gw_527 gw_19 gw_114 hd_Rules_isBadOpening ⟨Nat.le_of_ble_eq_true rfl, Nat.le_of_ble_eq_true rfl⟩ ⟨rfl, rfl⟩ ⟨Nat.zero_le _, Nat.zero_le _⟩ hK hN hP hD hS hA hX [0, 1, 3, 4, 5, 6, 7] [2, 8] [2, 3, 0, 4, 5, 6, 7, 8, 1] rfl rfl (by decide) (by decide) (by decide) rfl (by decide) rfl rfl rfl hl.1 rfl (Nat.le_of_ble_eq_true rfl) d_Prices_isBadNote_59 (fun H locs hP hD hS => ?_)
      refine lv_if_eq (tgt := 67) hx hb d_Prices_isBadNote_62 (by decide) (fun c5 => ?_) (fun c5 => ?_)
      · replace hm := ifT hm c5
        exact l_Prices_isBadNote_67 C  hm ⟨hP, hD, hS⟩ (lv_sub hl [0, 1, 2] rfl)
      · replace hm := ifF hm c5
        refine lv_iconst (v := 1) hx hb d_Prices_isBadNote_65 (by decide) ?_
        replace hm := Option.some.inj hm; subst hm
        exact zret_z (v := 1) C hP hD hS (by rfl) d_Prices_isBadNote_66
def m_Prices_isBadNote (F : Nat) (su_lines : Int32) (su_perNote : Int32) (su_above : Int32) (su_numbers : Nat → Int32) (su_on : Nat → Int32) (su_given : Nat → Nat → Int32)  (a1 : Int32) (a2 : Int32) : Option (Int32) :=
  (if (su_on (Int32.toNatClampNeg (0 : Int32))) = (0 : Int32) then
    m_Prices_isBadNote_37 F su_lines su_perNote su_above su_numbers su_on su_given  a1 a2
  else
    (bd (m_Rules_isStrong su_perNote a1) (fun u2 => (if u2 = (0 : Int32) then
      m_Prices_isBadNote_37 F su_lines su_perNote su_above su_numbers su_on su_given  a1 a2
    else
      (bd (m_Rules_isHard F su_lines su_perNote su_numbers su_given a1 a2) (fun u5 => (if u5 = (0 : Int32) then
        m_Prices_isBadNote_37 F su_lines su_perNote su_above su_numbers su_on su_given  a1 a2
      else
        (some (1 : Int32)))))))))
set_option maxHeartbeats 4000000 in
set_option maxRecDepth 100000 in
theorem e_Prices_isBadNote {r : Int32} {F : Nat} {ad : Nat → Nat} {su_lines : Int32} {su_length : Int32} {su_perNote : Int32} {su_above : Int32} {su_numbers : Nat → Int32} {su_on : Nat → Int32} {su_given : Nat → Nat → Int32} {pr_size : Int32} {pr_total : Int32} {pr_perNote : Int32} {pr_mostAlike : Int32} {a1 : Int32} {a2 : Int32} {H : Heap} {locs : List Loc} {ls : Array Slot} (C : Cx p s m meth c args A D kc R_Prices b_Prices_isBadNote 4 (some .boolean)) (hm : m_Prices_isBadNote F su_lines su_perNote su_above su_numbers su_on su_given a1 a2 = some r) (hZ : St D A s (wd_Prices_isBadNote kc ad su_lines su_length su_perNote su_above su_numbers su_on su_given pr_size pr_total pr_perNote pr_mostAlike) H locs) (hl : lv_has ls 4 [(0, .ref (ad 13)), (1, .int a1), (2, .int a2)]) : W p l e rm_Prices_isBadNote s m args below meth c H locs 0 0 (MQ below (Qi D A (wd_Prices_isBadNote kc ad su_lines su_length su_perNote su_above su_numbers su_on su_given pr_size pr_total pr_perNote pr_mostAlike) r) args s 0 0 A) (F0 m 0 ls []) := by
  obtain ⟨hx, hb, hr, hts, hown, hml, hlocks, hK, hN, hA, hX⟩ := id C
  obtain ⟨hP, hD, hS⟩ := hZ
  unfold m_Prices_isBadNote at hm
  refine lv_aload_n hx hb d_Prices_isBadNote_0 rfl (lv_at hl 0 rfl) ?_
  refine va_get (D := D) (ci := 4) (v := .ref (ad 1)) (C := R_Prices) (T := T_Prices) (N := 15) hx hb hts inG_Prices hown hK hP 8 rfl rfl 0 (by decide) (hts _ gw_248) (fun _ h9 => h9) rfl d_Prices_isBadNote_1 ?_
  refine va_getN (D := D) (ci := 7) (v := .ref (ad 3)) (C := R_Setup) (T := T_Setup) (N := 7) hx hb hts inG_Setup hown hK hP 0 rfl rfl 1 (by decide) (va_Nw.use rfl (hN _ nw_165)) (fun _ h9 => h9) rfl d_Prices_isBadNote_4 ?_
  refine lv_iconst (v := 0) hx hb d_Prices_isBadNote_7 (by decide) ?_
  refine va_zald hx hb hK hP 2 1 rfl rfl (in_lit (by decide)) d_Prices_isBadNote_8 ?_
  refine lv_if_eq (tgt := 37) hx hb d_Prices_isBadNote_9 (by decide) (fun c1 => ?_) (fun c1 => ?_)
  · replace hm := ifT hm c1
    exact l_Prices_isBadNote_37 C  hm ⟨hP, hD, hS⟩ (lv_sub hl [0, 1, 2] rfl)
  · replace hm := ifF hm c1
    refine lv_aload_n hx hb d_Prices_isBadNote_12 rfl (lv_at hl 0 rfl) ?_
    refine va_get (D := D) (ci := 4) (v := .ref (ad 8)) (C := R_Prices) (T := T_Prices) (N := 15) hx hb hts inG_Prices hown hK hP 8 rfl rfl 1 (by decide) (hts _ gw_249) (fun _ h9 => h9) rfl d_Prices_isBadNote_13 ?_
    refine lv_iload_n hx hb d_Prices_isBadNote_16 rfl (lv_at hl 1 rfl) ?_
    obtain ⟨u2, hc3, hm⟩ := bd_some hm
    refine zVN_i (n := 1) (wr := [((ad 2), .inl (kc 0, 18, .inl su_numbers)), ((ad 3), .inl (kc 1, 11, .inl su_on)), ((ad 4), .inl (kc 3, 3, .inr (.inr (.inr (.inr (fun i => if i < 3 then some (ad (5 + i)) else none)))))), ((ad 5), .inl (kc 0, 12, .inl (su_given 0))), ((ad 6), .inl (kc 0, 12, .inl (su_given 1))), ((ad 7), .inl (kc 0, 12, .inl (su_given 2))), ((ad 13), .inr (4, [.ref (ad 1), .ref (ad 8), .ref (ad 14), .ref (ad 15), .ref (ad 16), .ref (ad 17), .ref (ad 18), .ref (ad 19), .ref (ad 20), .ref (ad 21), .ref (ad 22), .int pr_size, .int pr_total, .int pr_perNote, .int pr_mostAlike]))]) (w1 := (wd_Rules_isStrong kc ad su_lines su_length su_perNote su_above)) (ws1 := (wd_Prices_isBadNote kc ad su_lines su_length su_perNote su_above su_numbers su_on su_given pr_size pr_total pr_perNote pr_mostAlike)) (As := [.int a1]) (rest := []) (ci := 5) (q0 := 1) (y := y_Rules_isStrong) (host := "SpeciesSolver") ⟨hx, hb, hml, hown, hts⟩ (fun sz => c_Rules_isStrong hc3 sz) gw_512 (hN _ nw_509) gw_511 gw_15 gw_114 hd_Rules_isStrong ⟨Nat.le_of_ble_eq_true rfl, Nat.le_of_ble_eq_true rfl⟩ ⟨rfl, rfl⟩ ⟨Nat.zero_le _, Nat.zero_le _⟩ hK hN hP hD hS hA hX [0, 7] [1, 2, 3, 4, 5, 6, 8] [7, 0, 1, 2, 3, 4, 5, 8, 6] rfl rfl (by decide) (by decide) (by decide) rfl (by decide) rfl rfl rfl hl.1 rfl (Nat.le_of_ble_eq_true rfl) d_Prices_isBadNote_17 (fun H locs hP hD hS => ?_)
    refine lv_if_eq (tgt := 37) hx hb d_Prices_isBadNote_20 (by decide) (fun c4 => ?_) (fun c4 => ?_)
    · replace hm := ifT hm c4
      exact l_Prices_isBadNote_37 C  hm ⟨hP, hD, hS⟩ (lv_sub hl [0, 1, 2] rfl)
    · replace hm := ifF hm c4
      refine lv_aload_n hx hb d_Prices_isBadNote_23 rfl (lv_at hl 0 rfl) ?_
      refine va_get (D := D) (ci := 4) (v := .ref (ad 8)) (C := R_Prices) (T := T_Prices) (N := 15) hx hb hts inG_Prices hown hK hP 8 rfl rfl 1 (by decide) (hts _ gw_249) (fun _ h9 => h9) rfl d_Prices_isBadNote_24 ?_
      refine lv_iload_n hx hb d_Prices_isBadNote_27 rfl (lv_at hl 1 rfl) ?_
      refine lv_iload_n hx hb d_Prices_isBadNote_28 rfl (lv_at hl 2 rfl) ?_
      obtain ⟨u5, hc6, hm⟩ := bd_some hm
      refine zVN_i (n := 2) (wr := [((ad 3), .inl (kc 1, 11, .inl su_on)), ((ad 13), .inr (4, [.ref (ad 1), .ref (ad 8), .ref (ad 14), .ref (ad 15), .ref (ad 16), .ref (ad 17), .ref (ad 18), .ref (ad 19), .ref (ad 20), .ref (ad 21), .ref (ad 22), .int pr_size, .int pr_total, .int pr_perNote, .int pr_mostAlike]))]) (w1 := (wd_Rules_isHard kc ad su_lines su_length su_perNote su_above su_numbers su_given)) (ws1 := (wd_Prices_isBadNote kc ad su_lines su_length su_perNote su_above su_numbers su_on su_given pr_size pr_total pr_perNote pr_mostAlike)) (As := [.int a1, .int a2]) (rest := []) (ci := 5) (q0 := 6) (y := y_Rules_isHard) (host := "SpeciesSolver") ⟨hx, hb, hml, hown, hts⟩ (fun sz => c_Rules_isHard hc6 sz) gw_516 (hN _ nw_513) gw_515 gw_16 gw_114 hd_Rules_isHard ⟨Nat.le_of_ble_eq_true rfl, Nat.le_of_ble_eq_true rfl⟩ ⟨rfl, rfl⟩ ⟨Nat.zero_le _, Nat.zero_le _⟩ hK hN hP hD hS hA hX [0, 1, 3, 4, 5, 6, 7] [2, 8] [2, 3, 0, 4, 5, 6, 7, 8, 1] rfl rfl (by decide) (by decide) (by decide) rfl (by decide) rfl rfl rfl hl.1 rfl (Nat.le_of_ble_eq_true rfl) d_Prices_isBadNote_29 (fun H locs hP hD hS => ?_)
      refine lv_if_eq (tgt := 37) hx hb d_Prices_isBadNote_32 (by decide) (fun c7 => ?_) (fun c7 => ?_)
      · replace hm := ifT hm c7
        exact l_Prices_isBadNote_37 C  hm ⟨hP, hD, hS⟩ (lv_sub hl [0, 1, 2] rfl)
      · replace hm := ifF hm c7
        refine lv_iconst (v := 1) hx hb d_Prices_isBadNote_35 (by decide) ?_
        replace hm := Option.some.inj hm; subst hm
        exact zret_z (v := 1) C hP hD hS (by rfl) d_Prices_isBadNote_36
set_option maxHeartbeats 4000000 in
set_option maxRecDepth 100000 in
theorem c_Prices_isBadNote {l : Launch} {D : va_G} {kc : Nat → ClassId} {r : Int32} {F : Nat} {ad : Nat → Nat} {su_lines : Int32} {su_length : Int32} {su_perNote : Int32} {su_above : Int32} {su_numbers : Nat → Int32} {su_on : Nat → Int32} {su_given : Nat → Nat → Int32} {pr_size : Int32} {pr_total : Int32} {pr_perNote : Int32} {pr_mostAlike : Int32} {a1 : Int32} {a2 : Int32} (hm : m_Prices_isBadNote F su_lines su_perNote su_above su_numbers su_on su_given a1 a2 = some r) (sz : Nat) : Ci l y_Prices_isBadNote ws_Prices_isBadNote rm_Prices_isBadNote D kc sz [.ref (ad 13), .int a1, .int a2] (wd_Prices_isBadNote kc ad su_lines su_length su_perNote su_above su_numbers su_on su_given pr_size pr_total pr_perNote pr_mostAlike) (wd_Prices_isBadNote kc ad su_lines su_length su_perNote su_above su_numbers su_on su_given pr_size pr_total pr_perNote pr_mostAlike) r :=
  Cz_of (Qf := fun A => (Qi D A (wd_Prices_isBadNote kc ad su_lines su_length su_perNote su_above su_numbers su_on su_given pr_size pr_total pr_perNote pr_mostAlike) r)) (cc := b_Prices_isBadNote) (maxL := 4) (ret := (some .boolean)) (by decide) rfl rfl (fun C hZ hl => e_Prices_isBadNote C hm hZ hl)
abbrev b_Rules_noteCost : ByteArray := prog_5_method_18_code
abbrev y_Rules_noteCost : MethodName := ⟨"SpeciesSolver$Rules", "noteCost", "(II)I"⟩
theorem d_Rules_noteCost_0 : decode b_Rules_noteCost 0 = .ok (.aload_n 0, 1) := by decide +kernel
theorem d_Rules_noteCost_1 : decode b_Rules_noteCost 1 = .ok (.iload_n 1, 1) := by decide +kernel
theorem d_Rules_noteCost_2 : decode b_Rules_noteCost 2 = .ok (.invokevirtual 58, 3) := by decide +kernel
theorem d_Rules_noteCost_5 : decode b_Rules_noteCost 5 = .ok (.ifCond .ne 27, 3) := by decide +kernel
theorem d_Rules_noteCost_8 : decode b_Rules_noteCost 8 = .ok (.aload_n 0, 1) := by decide +kernel
theorem d_Rules_noteCost_9 : decode b_Rules_noteCost 9 = .ok (.iload_n 1, 1) := by decide +kernel
theorem d_Rules_noteCost_10 : decode b_Rules_noteCost 10 = .ok (.iload_n 2, 1) := by decide +kernel
theorem d_Rules_noteCost_11 : decode b_Rules_noteCost 11 = .ok (.invokevirtual 62, 3) := by decide +kernel
theorem d_Rules_noteCost_14 : decode b_Rules_noteCost 14 = .ok (.ifCond .eq 16, 3) := by decide +kernel
theorem d_Rules_noteCost_17 : decode b_Rules_noteCost 17 = .ok (.aload_n 0, 1) := by decide +kernel
theorem d_Rules_noteCost_18 : decode b_Rules_noteCost 18 = .ok (.getfield 9, 3) := by decide +kernel
theorem d_Rules_noteCost_21 : decode b_Rules_noteCost 21 = .ok (.getfield 15, 3) := by decide +kernel
theorem d_Rules_noteCost_24 : decode b_Rules_noteCost 24 = .ok (.bipush 17, 2) := by decide +kernel
theorem d_Rules_noteCost_26 : decode b_Rules_noteCost 26 = .ok (.iaload, 1) := by decide +kernel
theorem d_Rules_noteCost_27 : decode b_Rules_noteCost 27 = .ok (.goto 4, 3) := by decide +kernel
theorem d_Rules_noteCost_30 : decode b_Rules_noteCost 30 = .ok (.iconst 0, 1) := by decide +kernel
theorem d_Rules_noteCost_31 : decode b_Rules_noteCost 31 = .ok (.ireturn, 1) := by decide +kernel
theorem d_Rules_noteCost_32 : decode b_Rules_noteCost 32 = .ok (.iload_n 1, 1) := by decide +kernel
theorem d_Rules_noteCost_33 : decode b_Rules_noteCost 33 = .ok (.ifCond .eq 16, 3) := by decide +kernel
theorem d_Rules_noteCost_36 : decode b_Rules_noteCost 36 = .ok (.iload_n 1, 1) := by decide +kernel
theorem d_Rules_noteCost_37 : decode b_Rules_noteCost 37 = .ok (.aload_n 0, 1) := by decide +kernel
theorem d_Rules_noteCost_38 : decode b_Rules_noteCost 38 = .ok (.getfield 9, 3) := by decide +kernel
theorem d_Rules_noteCost_41 : decode b_Rules_noteCost 41 = .ok (.invokevirtual 65, 3) := by decide +kernel
theorem d_Rules_noteCost_44 : decode b_Rules_noteCost 44 = .ok (.iconst 1, 1) := by decide +kernel
theorem d_Rules_noteCost_45 : decode b_Rules_noteCost 45 = .ok (.isub, 1) := by decide +kernel
theorem d_Rules_noteCost_46 : decode b_Rules_noteCost 46 = .ok (.if_icmp .ne 5, 3) := by decide +kernel
theorem d_Rules_noteCost_49 : decode b_Rules_noteCost 49 = .ok (.iconst 0, 1) := by decide +kernel
theorem d_Rules_noteCost_50 : decode b_Rules_noteCost 50 = .ok (.ireturn, 1) := by decide +kernel
theorem d_Rules_noteCost_51 : decode b_Rules_noteCost 51 = .ok (.iconst 0, 1) := by decide +kernel
theorem d_Rules_noteCost_52 : decode b_Rules_noteCost 52 = .ok (.istore_n 3, 1) := by decide +kernel
theorem d_Rules_noteCost_53 : decode b_Rules_noteCost 53 = .ok (.iconst 0, 1) := by decide +kernel
theorem d_Rules_noteCost_54 : decode b_Rules_noteCost 54 = .ok (.istore 4, 2) := by decide +kernel
theorem d_Rules_noteCost_56 : decode b_Rules_noteCost 56 = .ok (.iload 4, 2) := by decide +kernel
theorem d_Rules_noteCost_58 : decode b_Rules_noteCost 58 = .ok (.aload_n 0, 1) := by decide +kernel
theorem d_Rules_noteCost_59 : decode b_Rules_noteCost 59 = .ok (.getfield 9, 3) := by decide +kernel
theorem d_Rules_noteCost_62 : decode b_Rules_noteCost 62 = .ok (.getfield 37, 3) := by decide +kernel
theorem d_Rules_noteCost_65 : decode b_Rules_noteCost 65 = .ok (.if_icmp .ge 38, 3) := by decide +kernel
theorem d_Rules_noteCost_68 : decode b_Rules_noteCost 68 = .ok (.aload_n 0, 1) := by decide +kernel
theorem d_Rules_noteCost_69 : decode b_Rules_noteCost 69 = .ok (.iconst 4, 1) := by decide +kernel
theorem d_Rules_noteCost_70 : decode b_Rules_noteCost 70 = .ok (.aload_n 0, 1) := by decide +kernel
theorem d_Rules_noteCost_71 : decode b_Rules_noteCost 71 = .ok (.iload 4, 2) := by decide +kernel
theorem d_Rules_noteCost_73 : decode b_Rules_noteCost 73 = .ok (.iload_n 1, 1) := by decide +kernel
theorem d_Rules_noteCost_74 : decode b_Rules_noteCost 74 = .ok (.iload_n 2, 1) := by decide +kernel
theorem d_Rules_noteCost_75 : decode b_Rules_noteCost 75 = .ok (.invokevirtual 29, 3) := by decide +kernel
theorem d_Rules_noteCost_78 : decode b_Rules_noteCost 78 = .ok (.invokevirtual 33, 3) := by decide +kernel
theorem d_Rules_noteCost_81 : decode b_Rules_noteCost 81 = .ok (.ifCond .eq 16, 3) := by decide +kernel
theorem d_Rules_noteCost_84 : decode b_Rules_noteCost 84 = .ok (.iload_n 3, 1) := by decide +kernel
theorem d_Rules_noteCost_85 : decode b_Rules_noteCost 85 = .ok (.aload_n 0, 1) := by decide +kernel
theorem d_Rules_noteCost_86 : decode b_Rules_noteCost 86 = .ok (.getfield 9, 3) := by decide +kernel
theorem d_Rules_noteCost_89 : decode b_Rules_noteCost 89 = .ok (.getfield 15, 3) := by decide +kernel
theorem d_Rules_noteCost_92 : decode b_Rules_noteCost 92 = .ok (.bipush 16, 2) := by decide +kernel
theorem d_Rules_noteCost_94 : decode b_Rules_noteCost 94 = .ok (.iaload, 1) := by decide +kernel
theorem d_Rules_noteCost_95 : decode b_Rules_noteCost 95 = .ok (.iadd, 1) := by decide +kernel
theorem d_Rules_noteCost_96 : decode b_Rules_noteCost 96 = .ok (.istore_n 3, 1) := by decide +kernel
theorem d_Rules_noteCost_97 : decode b_Rules_noteCost 97 = .ok (.iinc 4 1, 3) := by decide +kernel
theorem d_Rules_noteCost_100 : decode b_Rules_noteCost 100 = .ok (.goto (-44), 3) := by decide +kernel
theorem d_Rules_noteCost_103 : decode b_Rules_noteCost 103 = .ok (.iload_n 3, 1) := by decide +kernel
theorem d_Rules_noteCost_104 : decode b_Rules_noteCost 104 = .ok (.ireturn, 1) := by decide +kernel
abbrev wd_Rules_noteCost (kc : Nat → ClassId) (ad : Nat → Nat) (su_lines : Int32) (su_length : Int32) (su_perNote : Int32) (su_above : Int32) (su_numbers : Nat → Int32) (su_given : Nat → Nat → Int32) : va_W := [((ad 1), .inr (7, [.ref (ad 2), .ref (ad 3), .ref (ad 4), .int su_lines, .int su_length, .int su_perNote, .int su_above])), ((ad 2), .inl (kc 0, 18, .inl su_numbers)), ((ad 4), .inl (kc 3, 3, .inr (.inr (.inr (.inr (fun i => if i < 3 then some (ad (5 + i)) else none)))))), ((ad 5), .inl (kc 0, 12, .inl (su_given 0))), ((ad 6), .inl (kc 0, 12, .inl (su_given 1))), ((ad 7), .inl (kc 0, 12, .inl (su_given 2))), ((ad 8), .inr (5, [.ref (ad 1)]))]
abbrev rm_Rules_noteCost : Room := { frames := 2, cells := 0, slots := 0, locals := 47 }
abbrev cw_Rules_noteCost : Cond := .code y_Rules_noteCost b_Rules_noteCost 5 (some .int)
abbrev ws_Rules_noteCost : List Cond := cw_Rules_noteCost :: GW
theorem hd_Rules_noteCost : y_Rules_noteCost.cls ≠ "java/lang/invoke/MethodHandle" ∧ y_Rules_noteCost.cls ≠ "java/lang/invoke/VarHandle" ∧ (parseMethodDescriptor y_Rules_noteCost.desc).map (fun d => d.parameters.length) = some 2 := by decide +kernel
def m_Rules_noteCost_97 (F : Nat) (su_lines : Int32) (su_length : Int32) (su_perNote : Int32) (su_numbers : Nat → Int32) (su_given : Nat → Nat → Int32) (k56 : Int32 → Int32 → Int32 → Int32 → Option (Int32))  (x1 : Int32) (x2 : Int32) (x3 : Int32) (x4 : Int32) : Option (Int32) :=
  k56 x1 x2 x3 (x4 + 1)
set_option maxHeartbeats 4000000 in
set_option maxRecDepth 100000 in
theorem l_Rules_noteCost_97 {r : Int32} {F : Nat} {ad : Nat → Nat} {su_lines : Int32} {su_length : Int32} {su_perNote : Int32} {su_above : Int32} {su_numbers : Nat → Int32} {su_given : Nat → Nat → Int32} {k56 : Int32 → Int32 → Int32 → Int32 → Option (Int32)} {x1 : Int32} {x2 : Int32} {x3 : Int32} {x4 : Int32} {H : Heap} {locs : List Loc} {ls : Array Slot} (C : Cx p s m meth c args A D kc R_Rules b_Rules_noteCost 5 (some .int)) (hk56 : (∀  (x1 : Int32) (x2 : Int32) (x3 : Int32) (x4 : Int32) (H : Heap) (locs : List Loc) (ls : Array Slot), k56 x1 x2 x3 x4 = some r → St D A s (wd_Rules_noteCost kc ad su_lines su_length su_perNote su_above su_numbers su_given) H locs → lv_has ls 5 [(0, .ref (ad 8)), (1, .int x1), (2, .int x2), (3, .int x3), (4, .int x4)] → W p l e rm_Rules_noteCost s m args below meth c H locs 0 0 (MQ below (Qi D A (wd_Rules_noteCost kc ad su_lines su_length su_perNote su_above su_numbers su_given) r) args s 0 0 A) (F0 m 56 ls []))) (hm : m_Rules_noteCost_97 F su_lines su_length su_perNote su_numbers su_given k56 x1 x2 x3 x4 = some r) (hZ : St D A s (wd_Rules_noteCost kc ad su_lines su_length su_perNote su_above su_numbers su_given) H locs) (hl : lv_has ls 5 [(0, .ref (ad 8)), (1, .int x1), (2, .int x2), (3, .int x3), (4, .int x4)]) : W p l e rm_Rules_noteCost s m args below meth c H locs 0 0 (MQ below (Qi D A (wd_Rules_noteCost kc ad su_lines su_length su_perNote su_above su_numbers su_given) r) args s 0 0 A) (F0 m 97 ls []) := by
  obtain ⟨hx, hb, hr, hts, hown, hml, hlocks, hK, hN, hA, hX⟩ := id C
  obtain ⟨hP, hD, hS⟩ := hZ
  unfold m_Rules_noteCost_97 at hm
  refine lv_iinc (v := (x4 + 1)) (lv' := [(4, .int (x4 + 1)), (0, .ref (ad 8)), (1, .int x1), (2, .int x2), (3, .int x3)]) hx hb d_Rules_noteCost_97 hl (k := 4) rfl rfl (by decide) rfl (fun ls hl => ?_)
  refine lv_goto (tgt := 56) hx hb d_Rules_noteCost_100 (by decide) ?_
  exact hk56 x1 x2 x3 (x4 + 1) _ _ _ hm ⟨hP, hD, hS⟩ (lv_sub hl [1, 2, 3, 4, 0] rfl)
def m_Rules_noteCost_56b (F : Nat) (su_lines : Int32) (su_length : Int32) (su_perNote : Int32) (su_numbers : Nat → Int32) (su_given : Nat → Nat → Int32) (k56 : Int32 → Int32 → Int32 → Int32 → Option (Int32))  (x1 : Int32) (x2 : Int32) (x3 : Int32) (x4 : Int32) : Option (Int32) :=
  (if su_lines ≤ x4 then
    (some x3)
  else
    (bd (m_Rules_classWith su_perNote su_given x4 x1 x2) (fun u2 => (bd (m_Rules_isIn su_numbers (4 : Int32) u2) (fun u4 => (if u4 = (0 : Int32) then
      m_Rules_noteCost_97 F su_lines su_length su_perNote su_numbers su_given k56 x1 x2 x3 x4
    else
      m_Rules_noteCost_97 F su_lines su_length su_perNote su_numbers su_given k56 x1 x2 (x3 + (su_numbers (Int32.toNatClampNeg (16 : Int32)))) x4))))))
set_option maxHeartbeats 4000000 in
set_option maxRecDepth 100000 in
theorem l_Rules_noteCost_56 {r : Int32} {F : Nat} {ad : Nat → Nat} {su_lines : Int32} {su_length : Int32} {su_perNote : Int32} {su_above : Int32} {su_numbers : Nat → Int32} {su_given : Nat → Nat → Int32} {k56 : Int32 → Int32 → Int32 → Int32 → Option (Int32)} {x1 : Int32} {x2 : Int32} {x3 : Int32} {x4 : Int32} {H : Heap} {locs : List Loc} {ls : Array Slot} (C : Cx p s m meth c args A D kc R_Rules b_Rules_noteCost 5 (some .int)) (hk56 : (∀  (x1 : Int32) (x2 : Int32) (x3 : Int32) (x4 : Int32) (H : Heap) (locs : List Loc) (ls : Array Slot), k56 x1 x2 x3 x4 = some r → St D A s (wd_Rules_noteCost kc ad su_lines su_length su_perNote su_above su_numbers su_given) H locs → lv_has ls 5 [(0, .ref (ad 8)), (1, .int x1), (2, .int x2), (3, .int x3), (4, .int x4)] → W p l e rm_Rules_noteCost s m args below meth c H locs 0 0 (MQ below (Qi D A (wd_Rules_noteCost kc ad su_lines su_length su_perNote su_above su_numbers su_given) r) args s 0 0 A) (F0 m 56 ls []))) (hm : m_Rules_noteCost_56b F su_lines su_length su_perNote su_numbers su_given k56 x1 x2 x3 x4 = some r) (hZ : St D A s (wd_Rules_noteCost kc ad su_lines su_length su_perNote su_above su_numbers su_given) H locs) (hl : lv_has ls 5 [(0, .ref (ad 8)), (1, .int x1), (2, .int x2), (3, .int x3), (4, .int x4)]) : W p l e rm_Rules_noteCost s m args below meth c H locs 0 0 (MQ below (Qi D A (wd_Rules_noteCost kc ad su_lines su_length su_perNote su_above su_numbers su_given) r) args s 0 0 A) (F0 m 56 ls []) := by
  obtain ⟨hx, hb, hr, hts, hown, hml, hlocks, hK, hN, hA, hX⟩ := id C
  obtain ⟨hP, hD, hS⟩ := hZ
  unfold m_Rules_noteCost_56b at hm
  refine lv_iload hx hb d_Rules_noteCost_56 (lv_at hl 4 rfl) ?_
  refine lv_aload_n hx hb d_Rules_noteCost_58 rfl (lv_at hl 0 rfl) ?_
  refine va_get (D := D) (ci := 5) (v := .ref (ad 1)) (C := R_Rules) (T := T_Rules) (N := 1) hx hb hts inG_Rules hown hK hP 6 rfl rfl 0 (by decide) (hts _ gw_207) (fun _ h9 => h9) rfl d_Rules_noteCost_59 ?_
  refine va_getN (D := D) (ci := 7) (v := .int su_lines) (C := R_Setup) (T := T_Setup) (N := 7) hx hb hts inG_Setup hown hK hP 0 rfl rfl 3 (by decide) (va_Nw.use rfl (hN _ nw_173)) (fun _ h9 => h9) rfl d_Rules_noteCost_62 ?_
  refine lv_icmp_ge (tgt := 103) hx hb d_Rules_noteCost_65 (by decide) (fun c1 => ?_) (fun c1 => ?_)
  · replace hm := ifT hm c1
    refine lv_iload_n hx hb d_Rules_noteCost_103 rfl (lv_at hl 3 rfl) ?_
    replace hm := Option.some.inj hm; subst hm
    exact zret_i C hP hD hS d_Rules_noteCost_104
  · replace hm := ifF hm c1
    refine lv_aload_n hx hb d_Rules_noteCost_68 rfl (lv_at hl 0 rfl) ?_
    refine lv_iconst (v := 4) hx hb d_Rules_noteCost_69 (by decide) ?_
    refine lv_aload_n hx hb d_Rules_noteCost_70 rfl (lv_at hl 0 rfl) ?_
    refine lv_iload hx hb d_Rules_noteCost_71 (lv_at hl 4 rfl) ?_
    refine lv_iload_n hx hb d_Rules_noteCost_73 rfl (lv_at hl 1 rfl) ?_
    refine lv_iload_n hx hb d_Rules_noteCost_74 rfl (lv_at hl 2 rfl) ?_
    obtain ⟨u2, hc3, hm⟩ := bd_some hm
    refine zV_i (n := 3) (wr := [((ad 2), .inl (kc 0, 18, .inl su_numbers))]) (w1 := (wd_Rules_classWith kc ad su_lines su_length su_perNote su_above su_given)) (ws1 := (wd_Rules_noteCost kc ad su_lines su_length su_perNote su_above su_numbers su_given)) (As := [.int x4, .int x1, .int x2]) (rest := [.int (4 : Int32), .ref (ad 8)]) (ci := 5) (q0 := 5) (y := y_Rules_classWith) ⟨hx, hb, hml, hown, hts⟩ (fun sz => c_Rules_classWith hc3 sz) gw_520 gw_517 gw_519 gw_17 gw_114 hd_Rules_classWith ⟨Nat.le_of_ble_eq_true rfl, Nat.le_of_ble_eq_true rfl⟩ ⟨rfl, rfl⟩ ⟨Nat.zero_le _, Nat.zero_le _⟩ hK hN hP hD hS hA hX [0, 2, 3, 4, 5, 6] [1] [1, 0, 2, 3, 4, 5, 6] rfl rfl (by decide) (by decide) (by decide) rfl (by decide) rfl rfl rfl hl.1 rfl (Nat.le_of_ble_eq_true rfl) d_Rules_noteCost_75 (fun H locs hP hD hS => ?_)
    obtain ⟨u4, hc5, hm⟩ := bd_some hm
    refine zV_i (n := 2) (wr := [((ad 4), .inl (kc 3, 3, .inr (.inr (.inr (.inr (fun i => if i < 3 then some (ad (5 + i)) else none)))))), ((ad 5), .inl (kc 0, 12, .inl (su_given 0))), ((ad 6), .inl (kc 0, 12, .inl (su_given 1))), ((ad 7), .inl (kc 0, 12, .inl (su_given 2)))]) (w1 := (wd_Rules_isIn kc ad su_lines su_length su_perNote su_above su_numbers)) (ws1 := (wd_Rules_noteCost kc ad su_lines su_length su_perNote su_above su_numbers su_given)) (As := [.int (4 : Int32), .int u2]) (rest := []) (ci := 5) (q0 := 2) (y := y_Rules_isIn) ⟨hx, hb, hml, hown, hts⟩ (fun sz => c_Rules_isIn hc5 sz) gw_524 gw_521 gw_523 gw_18 gw_114 hd_Rules_isIn ⟨Nat.le_of_ble_eq_true rfl, Nat.le_of_ble_eq_true rfl⟩ ⟨rfl, rfl⟩ ⟨Nat.zero_le _, Nat.zero_le _⟩ hK hN hP hD hS hA hX [0, 1, 6] [2, 3, 4, 5] [4, 5, 0, 1, 2, 3, 6] rfl rfl (by decide) (by decide) (by decide) rfl (by decide) rfl rfl rfl hl.1 rfl (Nat.le_of_ble_eq_true rfl) d_Rules_noteCost_78 (fun H locs hP hD hS => ?_)
    refine lv_if_eq (tgt := 97) hx hb d_Rules_noteCost_81 (by decide) (fun c6 => ?_) (fun c6 => ?_)
    · replace hm := ifT hm c6
      exact l_Rules_noteCost_97 C hk56 hm ⟨hP, hD, hS⟩ (lv_sub hl [0, 1, 2, 3, 4] rfl)
    · replace hm := ifF hm c6
      refine lv_iload_n hx hb d_Rules_noteCost_84 rfl (lv_at hl 3 rfl) ?_
      refine lv_aload_n hx hb d_Rules_noteCost_85 rfl (lv_at hl 0 rfl) ?_
      refine va_get (D := D) (ci := 5) (v := .ref (ad 1)) (C := R_Rules) (T := T_Rules) (N := 1) hx hb hts inG_Rules hown hK hP 6 rfl rfl 0 (by decide) (hts _ gw_207) (fun _ h9 => h9) rfl d_Rules_noteCost_86 ?_
      refine va_getN (D := D) (ci := 7) (v := .ref (ad 2)) (C := R_Setup) (T := T_Setup) (N := 7) hx hb hts inG_Setup hown hK hP 0 rfl rfl 0 (by decide) (va_Nw.use rfl (hN _ nw_158)) (fun _ h9 => h9) rfl d_Rules_noteCost_89 ?_
      refine lv_bipush (v := 16) hx hb d_Rules_noteCost_92 (by decide) ?_
      refine va_iald hx hb hK hP 1 0 rfl rfl (in_lit (by decide)) d_Rules_noteCost_94 ?_
      refine lv_iadd hx hb d_Rules_noteCost_95 ?_
      refine lv_istore_n (lv' := [(3, .int (x3 + (su_numbers (Int32.toNatClampNeg (16 : Int32))))), (0, .ref (ad 8)), (1, .int x1), (2, .int x2), (4, .int x4)]) hx hb d_Rules_noteCost_96 rfl hl (by decide) rfl (fun ls hl => ?_)
      exact l_Rules_noteCost_97 C hk56 hm ⟨hP, hD, hS⟩ (lv_sub hl [1, 2, 3, 0, 4] rfl)
def m_Rules_noteCost_56 (F : Nat) (su_lines : Int32) (su_length : Int32) (su_perNote : Int32) (su_numbers : Nat → Int32) (su_given : Nat → Nat → Int32)  : Nat → Int32 → Int32 → Int32 → Int32 → Option (Int32)
  | 0 => fun _ _ _ _ => none
  | n + 1 => m_Rules_noteCost_56b F su_lines su_length su_perNote su_numbers su_given  (m_Rules_noteCost_56 F su_lines su_length su_perNote su_numbers su_given  n)
set_option maxHeartbeats 4000000 in
set_option maxRecDepth 100000 in
theorem lp_Rules_noteCost_56 {r : Int32} {F : Nat} {ad : Nat → Nat} {su_lines : Int32} {su_length : Int32} {su_perNote : Int32} {su_above : Int32} {su_numbers : Nat → Int32} {su_given : Nat → Nat → Int32}  (C : Cx p s m meth c args A D kc R_Rules b_Rules_noteCost 5 (some .int))  : ∀ (n : Nat)  (x1 : Int32) (x2 : Int32) (x3 : Int32) (x4 : Int32) (H : Heap) (locs : List Loc) (ls : Array Slot), m_Rules_noteCost_56 F su_lines su_length su_perNote su_numbers su_given  n x1 x2 x3 x4 = some r → St D A s (wd_Rules_noteCost kc ad su_lines su_length su_perNote su_above su_numbers su_given) H locs → lv_has ls 5 [(0, .ref (ad 8)), (1, .int x1), (2, .int x2), (3, .int x3), (4, .int x4)] → W p l e rm_Rules_noteCost s m args below meth c H locs 0 0 (MQ below (Qi D A (wd_Rules_noteCost kc ad su_lines su_length su_perNote su_above su_numbers su_given) r) args s 0 0 A) (F0 m 56 ls []) := by
  intro n
  induction n with
  | zero => intro x1 x2 x3 x4 H locs ls hm; cases hm
  | succ n ih => intro x1 x2 x3 x4 H locs ls hm hZ hl; exact l_Rules_noteCost_56 C  ih hm hZ hl
def m_Rules_noteCost (F : Nat) (su_lines : Int32) (su_length : Int32) (su_perNote : Int32) (su_numbers : Nat → Int32) (su_given : Nat → Nat → Int32)  (a1 : Int32) (a2 : Int32) : Option (Int32) :=
  (bd (m_Rules_isStrong su_perNote a1) (fun u1 => (if u1 = (0 : Int32) then
    (bd (m_Rules_isHard F su_lines su_perNote su_numbers su_given a1 a2) (fun u8 => (if u8 = (0 : Int32) then
      (some (0 : Int32))
    else
      (some (su_numbers (Int32.toNatClampNeg (17 : Int32)))))))
  else
    (if a1 = (0 : Int32) then
      (some (0 : Int32))
    else
      (bd (m_Setup_total su_lines su_length su_perNote) (fun u5 => (if a1 = (u5 - (1 : Int32)) then
        (some (0 : Int32))
      else
        m_Rules_noteCost_56 F su_lines su_length su_perNote su_numbers su_given  F a1 a2 (0 : Int32) (0 : Int32))))))))
set_option maxHeartbeats 4000000 in
set_option maxRecDepth 100000 in
theorem e_Rules_noteCost {r : Int32} {F : Nat} {ad : Nat → Nat} {su_lines : Int32} {su_length : Int32} {su_perNote : Int32} {su_above : Int32} {su_numbers : Nat → Int32} {su_given : Nat → Nat → Int32} {a1 : Int32} {a2 : Int32} {H : Heap} {locs : List Loc} {ls : Array Slot} (C : Cx p s m meth c args A D kc R_Rules b_Rules_noteCost 5 (some .int)) (hm : m_Rules_noteCost F su_lines su_length su_perNote su_numbers su_given a1 a2 = some r) (hZ : St D A s (wd_Rules_noteCost kc ad su_lines su_length su_perNote su_above su_numbers su_given) H locs) (hl : lv_has ls 5 [(0, .ref (ad 8)), (1, .int a1), (2, .int a2)]) : W p l e rm_Rules_noteCost s m args below meth c H locs 0 0 (MQ below (Qi D A (wd_Rules_noteCost kc ad su_lines su_length su_perNote su_above su_numbers su_given) r) args s 0 0 A) (F0 m 0 ls []) := by
  obtain ⟨hx, hb, hr, hts, hown, hml, hlocks, hK, hN, hA, hX⟩ := id C
  obtain ⟨hP, hD, hS⟩ := hZ
  unfold m_Rules_noteCost at hm
  refine lv_aload_n hx hb d_Rules_noteCost_0 rfl (lv_at hl 0 rfl) ?_
  refine lv_iload_n hx hb d_Rules_noteCost_1 rfl (lv_at hl 1 rfl) ?_
  obtain ⟨u1, hc2, hm⟩ := bd_some hm
  refine zV_i (n := 1) (wr := [((ad 2), .inl (kc 0, 18, .inl su_numbers)), ((ad 4), .inl (kc 3, 3, .inr (.inr (.inr (.inr (fun i => if i < 3 then some (ad (5 + i)) else none)))))), ((ad 5), .inl (kc 0, 12, .inl (su_given 0))), ((ad 6), .inl (kc 0, 12, .inl (su_given 1))), ((ad 7), .inl (kc 0, 12, .inl (su_given 2)))]) (w1 := (wd_Rules_isStrong kc ad su_lines su_length su_perNote su_above)) (ws1 := (wd_Rules_noteCost kc ad su_lines su_length su_perNote su_above su_numbers su_given)) (As := [.int a1]) (rest := []) (ci := 5) (q0 := 1) (y := y_Rules_isStrong) ⟨hx, hb, hml, hown, hts⟩ (fun sz => c_Rules_isStrong hc2 sz) gw_512 gw_537 gw_511 gw_15 gw_114 hd_Rules_isStrong ⟨Nat.le_of_ble_eq_true rfl, Nat.le_of_ble_eq_true rfl⟩ ⟨rfl, rfl⟩ ⟨Nat.zero_le _, Nat.zero_le _⟩ hK hN hP hD hS hA hX [0, 6] [1, 2, 3, 4, 5] [5, 0, 1, 2, 3, 4, 6] rfl rfl (by decide) (by decide) (by decide) rfl (by decide) rfl rfl rfl hl.1 rfl (Nat.le_of_ble_eq_true rfl) d_Rules_noteCost_2 (fun H locs hP hD hS => ?_)
  refine lv_if_ne (tgt := 32) hx hb d_Rules_noteCost_5 (by decide) (fun c3 => ?_) (fun c3 => ?_)
  · replace hm := ifF hm c3
    refine lv_iload_n hx hb d_Rules_noteCost_32 rfl (lv_at hl 1 rfl) ?_
    refine lv_if_eq (tgt := 49) hx hb d_Rules_noteCost_33 (by decide) (fun c4 => ?_) (fun c4 => ?_)
    · replace hm := ifT hm c4
      refine lv_iconst (v := 0) hx hb d_Rules_noteCost_49 (by decide) ?_
      replace hm := Option.some.inj hm; subst hm
      exact zret_i C hP hD hS d_Rules_noteCost_50
    · replace hm := ifF hm c4
      refine lv_iload_n hx hb d_Rules_noteCost_36 rfl (lv_at hl 1 rfl) ?_
      refine lv_aload_n hx hb d_Rules_noteCost_37 rfl (lv_at hl 0 rfl) ?_
      refine va_get (D := D) (ci := 5) (v := .ref (ad 1)) (C := R_Rules) (T := T_Rules) (N := 1) hx hb hts inG_Rules hown hK hP 6 rfl rfl 0 (by decide) (hts _ gw_207) (fun _ h9 => h9) rfl d_Rules_noteCost_38 ?_
      obtain ⟨u5, hc6, hm⟩ := bd_some hm
      refine zVN_i (n := 0) (wr := [((ad 2), .inl (kc 0, 18, .inl su_numbers)), ((ad 4), .inl (kc 3, 3, .inr (.inr (.inr (.inr (fun i => if i < 3 then some (ad (5 + i)) else none)))))), ((ad 5), .inl (kc 0, 12, .inl (su_given 0))), ((ad 6), .inl (kc 0, 12, .inl (su_given 1))), ((ad 7), .inl (kc 0, 12, .inl (su_given 2))), ((ad 8), .inr (5, [.ref (ad 1)]))]) (w1 := (wd_Setup_total kc ad su_lines su_length su_perNote su_above)) (ws1 := (wd_Rules_noteCost kc ad su_lines su_length su_perNote su_above su_numbers su_given)) (As := []) (rest := [.int a1]) (ci := 7) (q0 := 0) (y := y_Setup_total) (host := "SpeciesSolver") ⟨hx, hb, hml, hown, hts⟩ (fun sz => c_Setup_total hc6 sz) gw_500 (hN _ nw_539) gw_499 gw_12 gw_113 hd_Setup_total ⟨Nat.le_of_ble_eq_true rfl, Nat.le_of_ble_eq_true rfl⟩ ⟨rfl, rfl⟩ ⟨Nat.zero_le _, Nat.zero_le _⟩ hK hN hP hD hS hA hX [0] [1, 2, 3, 4, 5, 6] [6, 0, 1, 2, 3, 4, 5] rfl rfl (by decide) (by decide) (by decide) rfl (by decide) rfl rfl rfl hl.1 rfl (Nat.le_of_ble_eq_true rfl) d_Rules_noteCost_41 (fun H locs hP hD hS => ?_)
      refine lv_iconst (v := 1) hx hb d_Rules_noteCost_44 (by decide) ?_
      refine lv_isub hx hb d_Rules_noteCost_45 ?_
      refine lv_icmp_ne (tgt := 51) hx hb d_Rules_noteCost_46 (by decide) (fun c7 => ?_) (fun c7 => ?_)
      · replace hm := ifF hm c7
        refine lv_iconst (v := 0) hx hb d_Rules_noteCost_51 (by decide) ?_
        refine lv_istore_n (lv' := [(3, .int (0 : Int32)), (0, .ref (ad 8)), (1, .int a1), (2, .int a2)]) hx hb d_Rules_noteCost_52 rfl hl (by decide) rfl (fun ls hl => ?_)
        refine lv_iconst (v := 0) hx hb d_Rules_noteCost_53 (by decide) ?_
        refine lv_istore (lv' := [(4, .int (0 : Int32)), (3, .int (0 : Int32)), (0, .ref (ad 8)), (1, .int a1), (2, .int a2)]) hx hb d_Rules_noteCost_54 hl (by decide) rfl (fun ls hl => ?_)
        exact lp_Rules_noteCost_56 C  F a1 a2 (0 : Int32) (0 : Int32) _ _ _ hm ⟨hP, hD, hS⟩ (lv_sub hl [2, 3, 4, 1, 0] rfl)
      · replace hm := ifT hm c7
        refine lv_iconst (v := 0) hx hb d_Rules_noteCost_49 (by decide) ?_
        replace hm := Option.some.inj hm; subst hm
        exact zret_i C hP hD hS d_Rules_noteCost_50
  · replace hm := ifT hm c3
    refine lv_aload_n hx hb d_Rules_noteCost_8 rfl (lv_at hl 0 rfl) ?_
    refine lv_iload_n hx hb d_Rules_noteCost_9 rfl (lv_at hl 1 rfl) ?_
    refine lv_iload_n hx hb d_Rules_noteCost_10 rfl (lv_at hl 2 rfl) ?_
    obtain ⟨u8, hc9, hm⟩ := bd_some hm
    refine zV_i (n := 2) (wr := []) (w1 := (wd_Rules_isHard kc ad su_lines su_length su_perNote su_above su_numbers su_given)) (ws1 := (wd_Rules_noteCost kc ad su_lines su_length su_perNote su_above su_numbers su_given)) (As := [.int a1, .int a2]) (rest := []) (ci := 5) (q0 := 6) (y := y_Rules_isHard) ⟨hx, hb, hml, hown, hts⟩ (fun sz => c_Rules_isHard hc9 sz) gw_516 gw_538 gw_515 gw_16 gw_114 hd_Rules_isHard ⟨Nat.le_of_ble_eq_true rfl, Nat.le_of_ble_eq_true rfl⟩ ⟨rfl, rfl⟩ ⟨Nat.zero_le _, Nat.zero_le _⟩ hK hN hP hD hS hA hX [0, 1, 2, 3, 4, 5, 6] [] [0, 1, 2, 3, 4, 5, 6] rfl rfl (by decide) (by decide) (by decide) rfl (by decide) rfl rfl rfl hl.1 rfl (Nat.le_of_ble_eq_true rfl) d_Rules_noteCost_11 (fun H locs hP hD hS => ?_)
    refine lv_if_eq (tgt := 30) hx hb d_Rules_noteCost_14 (by decide) (fun c10 => ?_) (fun c10 => ?_)
    · replace hm := ifT hm c10
      refine lv_iconst (v := 0) hx hb d_Rules_noteCost_30 (by decide) ?_
      replace hm := Option.some.inj hm; subst hm
      exact zret_i C hP hD hS d_Rules_noteCost_31
    · replace hm := ifF hm c10
      refine lv_aload_n hx hb d_Rules_noteCost_17 rfl (lv_at hl 0 rfl) ?_
      refine va_get (D := D) (ci := 5) (v := .ref (ad 1)) (C := R_Rules) (T := T_Rules) (N := 1) hx hb hts inG_Rules hown hK hP 6 rfl rfl 0 (by decide) (hts _ gw_207) (fun _ h9 => h9) rfl d_Rules_noteCost_18 ?_
      refine va_getN (D := D) (ci := 7) (v := .ref (ad 2)) (C := R_Setup) (T := T_Setup) (N := 7) hx hb hts inG_Setup hown hK hP 0 rfl rfl 0 (by decide) (va_Nw.use rfl (hN _ nw_158)) (fun _ h9 => h9) rfl d_Rules_noteCost_21 ?_
      refine lv_bipush (v := 17) hx hb d_Rules_noteCost_24 (by decide) ?_
      refine va_iald hx hb hK hP 1 0 rfl rfl (in_lit (by decide)) d_Rules_noteCost_26 ?_
      refine lv_goto (tgt := 31) hx hb d_Rules_noteCost_27 (by decide) ?_
      replace hm := Option.some.inj hm; subst hm
      exact zret_i C hP hD hS d_Rules_noteCost_31
set_option maxHeartbeats 4000000 in
set_option maxRecDepth 100000 in
theorem c_Rules_noteCost {l : Launch} {D : va_G} {kc : Nat → ClassId} {r : Int32} {F : Nat} {ad : Nat → Nat} {su_lines : Int32} {su_length : Int32} {su_perNote : Int32} {su_above : Int32} {su_numbers : Nat → Int32} {su_given : Nat → Nat → Int32} {a1 : Int32} {a2 : Int32} (hm : m_Rules_noteCost F su_lines su_length su_perNote su_numbers su_given a1 a2 = some r) (sz : Nat) : Ci l y_Rules_noteCost ws_Rules_noteCost rm_Rules_noteCost D kc sz [.ref (ad 8), .int a1, .int a2] (wd_Rules_noteCost kc ad su_lines su_length su_perNote su_above su_numbers su_given) (wd_Rules_noteCost kc ad su_lines su_length su_perNote su_above su_numbers su_given) r :=
  Cz_of (Qf := fun A => (Qi D A (wd_Rules_noteCost kc ad su_lines su_length su_perNote su_above su_numbers su_given) r)) (cc := b_Rules_noteCost) (maxL := 5) (ret := (some .int)) (by decide) rfl rfl (fun C hZ hl => e_Rules_noteCost C hm hZ hl)
abbrev b_Prices_fillNotes : ByteArray := prog_4_method_3_code
abbrev y_Prices_fillNotes : MethodName := ⟨"SpeciesSolver$Prices", "fillNotes", "()V"⟩
theorem d_Prices_fillNotes_0 : decode b_Prices_fillNotes 0 = .ok (.iconst 0, 1) := by decide +kernel
theorem d_Prices_fillNotes_1 : decode b_Prices_fillNotes 1 = .ok (.istore_n 1, 1) := by decide +kernel
theorem d_Prices_fillNotes_2 : decode b_Prices_fillNotes 2 = .ok (.iload_n 1, 1) := by decide +kernel
theorem d_Prices_fillNotes_3 : decode b_Prices_fillNotes 3 = .ok (.aload_n 0, 1) := by decide +kernel
theorem d_Prices_fillNotes_4 : decode b_Prices_fillNotes 4 = .ok (.getfield 44, 3) := by decide +kernel
theorem d_Prices_fillNotes_7 : decode b_Prices_fillNotes 7 = .ok (.if_icmp .ge 126, 3) := by decide +kernel
theorem d_Prices_fillNotes_10 : decode b_Prices_fillNotes 10 = .ok (.iconst 0, 1) := by decide +kernel
theorem d_Prices_fillNotes_11 : decode b_Prices_fillNotes 11 = .ok (.istore_n 2, 1) := by decide +kernel
theorem d_Prices_fillNotes_12 : decode b_Prices_fillNotes 12 = .ok (.iload_n 2, 1) := by decide +kernel
theorem d_Prices_fillNotes_13 : decode b_Prices_fillNotes 13 = .ok (.aload_n 0, 1) := by decide +kernel
theorem d_Prices_fillNotes_14 : decode b_Prices_fillNotes 14 = .ok (.getfield 40, 3) := by decide +kernel
theorem d_Prices_fillNotes_17 : decode b_Prices_fillNotes 17 = .ok (.if_icmp .ge 110, 3) := by decide +kernel
theorem d_Prices_fillNotes_20 : decode b_Prices_fillNotes 20 = .ok (.aload_n 0, 1) := by decide +kernel
theorem d_Prices_fillNotes_21 : decode b_Prices_fillNotes 21 = .ok (.iload_n 1, 1) := by decide +kernel
theorem d_Prices_fillNotes_22 : decode b_Prices_fillNotes 22 = .ok (.aload_n 0, 1) := by decide +kernel
theorem d_Prices_fillNotes_23 : decode b_Prices_fillNotes 23 = .ok (.getfield 11, 3) := by decide +kernel
theorem d_Prices_fillNotes_26 : decode b_Prices_fillNotes 26 = .ok (.iload_n 2, 1) := by decide +kernel
theorem d_Prices_fillNotes_27 : decode b_Prices_fillNotes 27 = .ok (.iaload, 1) := by decide +kernel
theorem d_Prices_fillNotes_28 : decode b_Prices_fillNotes 28 = .ok (.invokevirtual 89, 3) := by decide +kernel
theorem d_Prices_fillNotes_31 : decode b_Prices_fillNotes 31 = .ok (.istore_n 3, 1) := by decide +kernel
theorem d_Prices_fillNotes_32 : decode b_Prices_fillNotes 32 = .ok (.aload_n 0, 1) := by decide +kernel
theorem d_Prices_fillNotes_33 : decode b_Prices_fillNotes 33 = .ok (.getfield 15, 3) := by decide +kernel
theorem d_Prices_fillNotes_36 : decode b_Prices_fillNotes 36 = .ok (.iload_n 1, 1) := by decide +kernel
theorem d_Prices_fillNotes_37 : decode b_Prices_fillNotes 37 = .ok (.bipush 8, 2) := by decide +kernel
theorem d_Prices_fillNotes_39 : decode b_Prices_fillNotes 39 = .ok (.imul, 1) := by decide +kernel
theorem d_Prices_fillNotes_40 : decode b_Prices_fillNotes 40 = .ok (.iload_n 2, 1) := by decide +kernel
theorem d_Prices_fillNotes_41 : decode b_Prices_fillNotes 41 = .ok (.iadd, 1) := by decide +kernel
theorem d_Prices_fillNotes_42 : decode b_Prices_fillNotes 42 = .ok (.iload_n 3, 1) := by decide +kernel
theorem d_Prices_fillNotes_43 : decode b_Prices_fillNotes 43 = .ok (.ifCond .eq 7, 3) := by decide +kernel
theorem d_Prices_fillNotes_46 : decode b_Prices_fillNotes 46 = .ok (.iconst (-1), 1) := by decide +kernel
theorem d_Prices_fillNotes_47 : decode b_Prices_fillNotes 47 = .ok (.goto 17, 3) := by decide +kernel
theorem d_Prices_fillNotes_50 : decode b_Prices_fillNotes 50 = .ok (.aload_n 0, 1) := by decide +kernel
theorem d_Prices_fillNotes_51 : decode b_Prices_fillNotes 51 = .ok (.getfield 57, 3) := by decide +kernel
theorem d_Prices_fillNotes_54 : decode b_Prices_fillNotes 54 = .ok (.iload_n 1, 1) := by decide +kernel
theorem d_Prices_fillNotes_55 : decode b_Prices_fillNotes 55 = .ok (.aload_n 0, 1) := by decide +kernel
theorem d_Prices_fillNotes_56 : decode b_Prices_fillNotes 56 = .ok (.getfield 11, 3) := by decide +kernel
theorem d_Prices_fillNotes_59 : decode b_Prices_fillNotes 59 = .ok (.iload_n 2, 1) := by decide +kernel
theorem d_Prices_fillNotes_60 : decode b_Prices_fillNotes 60 = .ok (.iaload, 1) := by decide +kernel
theorem d_Prices_fillNotes_61 : decode b_Prices_fillNotes 61 = .ok (.invokevirtual 93, 3) := by decide +kernel
theorem d_Prices_fillNotes_64 : decode b_Prices_fillNotes 64 = .ok (.iastore, 1) := by decide +kernel
theorem d_Prices_fillNotes_65 : decode b_Prices_fillNotes 65 = .ok (.aload_n 0, 1) := by decide +kernel
theorem d_Prices_fillNotes_66 : decode b_Prices_fillNotes 66 = .ok (.getfield 18, 3) := by decide +kernel
theorem d_Prices_fillNotes_69 : decode b_Prices_fillNotes 69 = .ok (.iload_n 1, 1) := by decide +kernel
theorem d_Prices_fillNotes_70 : decode b_Prices_fillNotes 70 = .ok (.bipush 8, 2) := by decide +kernel
theorem d_Prices_fillNotes_72 : decode b_Prices_fillNotes 72 = .ok (.imul, 1) := by decide +kernel
theorem d_Prices_fillNotes_73 : decode b_Prices_fillNotes 73 = .ok (.iload_n 2, 1) := by decide +kernel
theorem d_Prices_fillNotes_74 : decode b_Prices_fillNotes 74 = .ok (.iadd, 1) := by decide +kernel
theorem d_Prices_fillNotes_75 : decode b_Prices_fillNotes 75 = .ok (.aload_n 0, 1) := by decide +kernel
theorem d_Prices_fillNotes_76 : decode b_Prices_fillNotes 76 = .ok (.getfield 53, 3) := by decide +kernel
theorem d_Prices_fillNotes_79 : decode b_Prices_fillNotes 79 = .ok (.getfield 71, 3) := by decide +kernel
theorem d_Prices_fillNotes_82 : decode b_Prices_fillNotes 82 = .ok (.iconst 4, 1) := by decide +kernel
theorem d_Prices_fillNotes_83 : decode b_Prices_fillNotes 83 = .ok (.baload, 1) := by decide +kernel
theorem d_Prices_fillNotes_84 : decode b_Prices_fillNotes 84 = .ok (.ifCond .eq 35, 3) := by decide +kernel
theorem d_Prices_fillNotes_87 : decode b_Prices_fillNotes 87 = .ok (.aload_n 0, 1) := by decide +kernel
theorem d_Prices_fillNotes_88 : decode b_Prices_fillNotes 88 = .ok (.getfield 57, 3) := by decide +kernel
theorem d_Prices_fillNotes_91 : decode b_Prices_fillNotes 91 = .ok (.iload_n 1, 1) := by decide +kernel
theorem d_Prices_fillNotes_92 : decode b_Prices_fillNotes 92 = .ok (.invokevirtual 99, 3) := by decide +kernel
theorem d_Prices_fillNotes_95 : decode b_Prices_fillNotes 95 = .ok (.ifCond .ne 24, 3) := by decide +kernel
theorem d_Prices_fillNotes_98 : decode b_Prices_fillNotes 98 = .ok (.aload_n 0, 1) := by decide +kernel
theorem d_Prices_fillNotes_99 : decode b_Prices_fillNotes 99 = .ok (.getfield 57, 3) := by decide +kernel
theorem d_Prices_fillNotes_102 : decode b_Prices_fillNotes 102 = .ok (.iload_n 1, 1) := by decide +kernel
theorem d_Prices_fillNotes_103 : decode b_Prices_fillNotes 103 = .ok (.aload_n 0, 1) := by decide +kernel
theorem d_Prices_fillNotes_104 : decode b_Prices_fillNotes 104 = .ok (.getfield 11, 3) := by decide +kernel
theorem d_Prices_fillNotes_107 : decode b_Prices_fillNotes 107 = .ok (.iload_n 2, 1) := by decide +kernel
theorem d_Prices_fillNotes_108 : decode b_Prices_fillNotes 108 = .ok (.iaload, 1) := by decide +kernel
theorem d_Prices_fillNotes_109 : decode b_Prices_fillNotes 109 = .ok (.invokevirtual 103, 3) := by decide +kernel
theorem d_Prices_fillNotes_112 : decode b_Prices_fillNotes 112 = .ok (.ifCond .eq 7, 3) := by decide +kernel
theorem d_Prices_fillNotes_115 : decode b_Prices_fillNotes 115 = .ok (.iconst 1, 1) := by decide +kernel
theorem d_Prices_fillNotes_116 : decode b_Prices_fillNotes 116 = .ok (.goto 4, 3) := by decide +kernel
theorem d_Prices_fillNotes_119 : decode b_Prices_fillNotes 119 = .ok (.iconst 0, 1) := by decide +kernel
theorem d_Prices_fillNotes_120 : decode b_Prices_fillNotes 120 = .ok (.bastore, 1) := by decide +kernel
theorem d_Prices_fillNotes_121 : decode b_Prices_fillNotes 121 = .ok (.iinc 2 1, 3) := by decide +kernel
theorem d_Prices_fillNotes_124 : decode b_Prices_fillNotes 124 = .ok (.goto (-112), 3) := by decide +kernel
theorem d_Prices_fillNotes_127 : decode b_Prices_fillNotes 127 = .ok (.iinc 1 1, 3) := by decide +kernel
theorem d_Prices_fillNotes_130 : decode b_Prices_fillNotes 130 = .ok (.goto (-128), 3) := by decide +kernel
theorem d_Prices_fillNotes_133 : decode b_Prices_fillNotes 133 = .ok (.return_, 1) := by decide +kernel
abbrev wd_Prices_fillNotes (kc : Nat → ClassId) (ad : Nat → Nat) (su_lines : Int32) (su_length : Int32) (su_perNote : Int32) (su_above : Int32) (su_numbers : Nat → Int32) (su_on : Nat → Int32) (su_given : Nat → Nat → Int32) (pr_size : Int32) (pr_total : Int32) (pr_perNote : Int32) (pr_mostAlike : Int32) (pr_pitches : Nat → Int32) (pr_notePrices : Nat → Int32) (pr_mustPass : Nat → Int32) : va_W := [((ad 1), .inr (7, [.ref (ad 2), .ref (ad 3), .ref (ad 4), .int su_lines, .int su_length, .int su_perNote, .int su_above])), ((ad 2), .inl (kc 0, 18, .inl su_numbers)), ((ad 3), .inl (kc 1, 11, .inl su_on)), ((ad 4), .inl (kc 3, 3, .inr (.inr (.inr (.inr (fun i => if i < 3 then some (ad (5 + i)) else none)))))), ((ad 5), .inl (kc 0, 12, .inl (su_given 0))), ((ad 6), .inl (kc 0, 12, .inl (su_given 1))), ((ad 7), .inl (kc 0, 12, .inl (su_given 2))), ((ad 8), .inr (5, [.ref (ad 1)])), ((ad 13), .inr (4, [.ref (ad 1), .ref (ad 8), .ref (ad 14), .ref (ad 15), .ref (ad 16), .ref (ad 17), .ref (ad 18), .ref (ad 19), .ref (ad 20), .ref (ad 21), .ref (ad 22), .int pr_size, .int pr_total, .int pr_perNote, .int pr_mostAlike])), ((ad 14), .inl (kc 0, 8, .inl pr_pitches)), ((ad 15), .inl (kc 0, 360, .inl pr_notePrices)), ((ad 16), .inl (kc 1, 360, .inl pr_mustPass))]
abbrev rm_Prices_fillNotes : Room := { frames := 3, cells := 0, slots := 0, locals := 71 }
abbrev cw_Prices_fillNotes : Cond := .code y_Prices_fillNotes b_Prices_fillNotes 4 none
abbrev ws_Prices_fillNotes : List Cond := cw_Prices_fillNotes :: GW
theorem hd_Prices_fillNotes : y_Prices_fillNotes.cls ≠ "java/lang/invoke/MethodHandle" ∧ y_Prices_fillNotes.cls ≠ "java/lang/invoke/VarHandle" ∧ (parseMethodDescriptor y_Prices_fillNotes.desc).map (fun d => d.parameters.length) = some 0 := by decide +kernel
def m_Prices_fillNotes_120 (F : Nat) (su_lines : Int32) (su_length : Int32) (su_perNote : Int32) (su_above : Int32) (su_numbers : Nat → Int32) (su_on : Nat → Int32) (su_given : Nat → Nat → Int32) (pr_size : Int32) (pr_total : Int32) (pr_pitches : Nat → Int32) (k2 : (Nat → Int32) → (Nat → Int32) → Int32 → Option ((Nat → Int32) × (Nat → Int32))) (k12 : (Nat → Int32) → (Nat → Int32) → Int32 → Int32 → Option ((Nat → Int32) × (Nat → Int32))) (pr_notePrices : Nat → Int32) (pr_mustPass : Nat → Int32) (x1 : Int32) (x2 : Int32) (t1 : Int32) (t2 : Int32) : Option ((Nat → Int32) × (Nat → Int32)) :=
  (gd t1 360 (k12 pr_notePrices (upd pr_mustPass (Int32.toNatClampNeg t1) (vp_nar .boolean t2)) x1 (x2 + 1)))
set_option maxHeartbeats 4000000 in
set_option maxRecDepth 100000 in
theorem l_Prices_fillNotes_120 {r : (Nat → Int32) × (Nat → Int32)} {F : Nat} {ad : Nat → Nat} {su_lines : Int32} {su_length : Int32} {su_perNote : Int32} {su_above : Int32} {su_numbers : Nat → Int32} {su_on : Nat → Int32} {su_given : Nat → Nat → Int32} {pr_size : Int32} {pr_total : Int32} {pr_perNote : Int32} {pr_mostAlike : Int32} {pr_pitches : Nat → Int32} {pr_notePrices : Nat → Int32} {pr_mustPass : Nat → Int32} {k2 : (Nat → Int32) → (Nat → Int32) → Int32 → Option ((Nat → Int32) × (Nat → Int32))} {k12 : (Nat → Int32) → (Nat → Int32) → Int32 → Int32 → Option ((Nat → Int32) × (Nat → Int32))} {x1 : Int32} {x2 : Int32} {t1 : Int32} {t2 : Int32} {H : Heap} {locs : List Loc} {ls : Array Slot} (C : Cx p s m meth c args A D kc R_Prices b_Prices_fillNotes 4 none) (hk2 : (∀ (pr_notePrices : Nat → Int32) (pr_mustPass : Nat → Int32) (x1 : Int32) (H : Heap) (locs : List Loc) (ls : Array Slot), k2 pr_notePrices pr_mustPass x1 = some r → St D A s (wd_Prices_fillNotes kc ad su_lines su_length su_perNote su_above su_numbers su_on su_given pr_size pr_total pr_perNote pr_mostAlike pr_pitches pr_notePrices pr_mustPass) H locs → lv_has ls 4 [(0, .ref (ad 13)), (1, .int x1)] → W p l e rm_Prices_fillNotes s m args below meth c H locs 0 0 (MQ below (Qv D A (wd_Prices_fillNotes kc ad su_lines su_length su_perNote su_above su_numbers su_on su_given pr_size pr_total pr_perNote pr_mostAlike pr_pitches r.1 r.2)) args s 0 0 A) (F0 m 2 ls []))) (hk12 : (∀ (pr_notePrices : Nat → Int32) (pr_mustPass : Nat → Int32) (x1 : Int32) (x2 : Int32) (H : Heap) (locs : List Loc) (ls : Array Slot), k12 pr_notePrices pr_mustPass x1 x2 = some r → St D A s (wd_Prices_fillNotes kc ad su_lines su_length su_perNote su_above su_numbers su_on su_given pr_size pr_total pr_perNote pr_mostAlike pr_pitches pr_notePrices pr_mustPass) H locs → lv_has ls 4 [(0, .ref (ad 13)), (1, .int x1), (2, .int x2)] → W p l e rm_Prices_fillNotes s m args below meth c H locs 0 0 (MQ below (Qv D A (wd_Prices_fillNotes kc ad su_lines su_length su_perNote su_above su_numbers su_on su_given pr_size pr_total pr_perNote pr_mostAlike pr_pitches r.1 r.2)) args s 0 0 A) (F0 m 12 ls []))) (hm : m_Prices_fillNotes_120 F su_lines su_length su_perNote su_above su_numbers su_on su_given pr_size pr_total pr_pitches k2 k12 pr_notePrices pr_mustPass x1 x2 t1 t2 = some r) (hZ : St D A s (wd_Prices_fillNotes kc ad su_lines su_length su_perNote su_above su_numbers su_on su_given pr_size pr_total pr_perNote pr_mostAlike pr_pitches pr_notePrices pr_mustPass) H locs) (hl : lv_has ls 4 [(0, .ref (ad 13)), (1, .int x1), (2, .int x2)]) : W p l e rm_Prices_fillNotes s m args below meth c H locs 0 0 (MQ below (Qv D A (wd_Prices_fillNotes kc ad su_lines su_length su_perNote su_above su_numbers su_on su_given pr_size pr_total pr_perNote pr_mostAlike pr_pitches r.1 r.2)) args s 0 0 A) (F0 m 120 ls [.int t2, .int t1, .ref (ad 16)]) := by
  obtain ⟨hx, hb, hr, hts, hown, hml, hlocks, hK, hN, hA, hX⟩ := id C
  obtain ⟨hP, hD, hS⟩ := hZ
  unfold m_Prices_fillNotes_120 at hm
  obtain ⟨hi1, hm⟩ := gd_some hm
  refine va_zast hx hb hK hP hD hS 11 1 rfl rfl hi1 d_Prices_fillNotes_120 (fun H locs hP hD hS => ?_)
  replace hP : va_P D vwCl (wd_Prices_fillNotes kc ad su_lines su_length su_perNote su_above su_numbers su_on su_given pr_size pr_total pr_perNote pr_mostAlike pr_pitches pr_notePrices (upd pr_mustPass (Int32.toNatClampNeg t1) (vp_nar .boolean t2))) H := hP
  replace hD : va_D A (wd_Prices_fillNotes kc ad su_lines su_length su_perNote su_above su_numbers su_on su_given pr_size pr_total pr_perNote pr_mostAlike pr_pitches pr_notePrices (upd pr_mustPass (Int32.toNatClampNeg t1) (vp_nar .boolean t2))) := hD
  refine lv_iinc (v := (x2 + 1)) (lv' := [(2, .int (x2 + 1)), (0, .ref (ad 13)), (1, .int x1)]) hx hb d_Prices_fillNotes_121 hl (k := 2) rfl rfl (by decide) rfl (fun ls hl => ?_)
  refine lv_goto (tgt := 12) hx hb d_Prices_fillNotes_124 (by decide) ?_
  exact hk12 pr_notePrices (upd pr_mustPass (Int32.toNatClampNeg t1) (vp_nar .boolean t2)) x1 (x2 + 1) _ _ _ hm ⟨hP, hD, hS⟩ (lv_sub hl [1, 2, 0] rfl)
def m_Prices_fillNotes_119 (F : Nat) (su_lines : Int32) (su_length : Int32) (su_perNote : Int32) (su_above : Int32) (su_numbers : Nat → Int32) (su_on : Nat → Int32) (su_given : Nat → Nat → Int32) (pr_size : Int32) (pr_total : Int32) (pr_pitches : Nat → Int32) (k2 : (Nat → Int32) → (Nat → Int32) → Int32 → Option ((Nat → Int32) × (Nat → Int32))) (k12 : (Nat → Int32) → (Nat → Int32) → Int32 → Int32 → Option ((Nat → Int32) × (Nat → Int32))) (pr_notePrices : Nat → Int32) (pr_mustPass : Nat → Int32) (x1 : Int32) (x2 : Int32) (t1 : Int32) : Option ((Nat → Int32) × (Nat → Int32)) :=
  m_Prices_fillNotes_120 F su_lines su_length su_perNote su_above su_numbers su_on su_given pr_size pr_total pr_pitches k2 k12 pr_notePrices pr_mustPass x1 x2 t1 (0 : Int32)
set_option maxHeartbeats 4000000 in
set_option maxRecDepth 100000 in
theorem l_Prices_fillNotes_119 {r : (Nat → Int32) × (Nat → Int32)} {F : Nat} {ad : Nat → Nat} {su_lines : Int32} {su_length : Int32} {su_perNote : Int32} {su_above : Int32} {su_numbers : Nat → Int32} {su_on : Nat → Int32} {su_given : Nat → Nat → Int32} {pr_size : Int32} {pr_total : Int32} {pr_perNote : Int32} {pr_mostAlike : Int32} {pr_pitches : Nat → Int32} {pr_notePrices : Nat → Int32} {pr_mustPass : Nat → Int32} {k2 : (Nat → Int32) → (Nat → Int32) → Int32 → Option ((Nat → Int32) × (Nat → Int32))} {k12 : (Nat → Int32) → (Nat → Int32) → Int32 → Int32 → Option ((Nat → Int32) × (Nat → Int32))} {x1 : Int32} {x2 : Int32} {t1 : Int32} {H : Heap} {locs : List Loc} {ls : Array Slot} (C : Cx p s m meth c args A D kc R_Prices b_Prices_fillNotes 4 none) (hk2 : (∀ (pr_notePrices : Nat → Int32) (pr_mustPass : Nat → Int32) (x1 : Int32) (H : Heap) (locs : List Loc) (ls : Array Slot), k2 pr_notePrices pr_mustPass x1 = some r → St D A s (wd_Prices_fillNotes kc ad su_lines su_length su_perNote su_above su_numbers su_on su_given pr_size pr_total pr_perNote pr_mostAlike pr_pitches pr_notePrices pr_mustPass) H locs → lv_has ls 4 [(0, .ref (ad 13)), (1, .int x1)] → W p l e rm_Prices_fillNotes s m args below meth c H locs 0 0 (MQ below (Qv D A (wd_Prices_fillNotes kc ad su_lines su_length su_perNote su_above su_numbers su_on su_given pr_size pr_total pr_perNote pr_mostAlike pr_pitches r.1 r.2)) args s 0 0 A) (F0 m 2 ls []))) (hk12 : (∀ (pr_notePrices : Nat → Int32) (pr_mustPass : Nat → Int32) (x1 : Int32) (x2 : Int32) (H : Heap) (locs : List Loc) (ls : Array Slot), k12 pr_notePrices pr_mustPass x1 x2 = some r → St D A s (wd_Prices_fillNotes kc ad su_lines su_length su_perNote su_above su_numbers su_on su_given pr_size pr_total pr_perNote pr_mostAlike pr_pitches pr_notePrices pr_mustPass) H locs → lv_has ls 4 [(0, .ref (ad 13)), (1, .int x1), (2, .int x2)] → W p l e rm_Prices_fillNotes s m args below meth c H locs 0 0 (MQ below (Qv D A (wd_Prices_fillNotes kc ad su_lines su_length su_perNote su_above su_numbers su_on su_given pr_size pr_total pr_perNote pr_mostAlike pr_pitches r.1 r.2)) args s 0 0 A) (F0 m 12 ls []))) (hm : m_Prices_fillNotes_119 F su_lines su_length su_perNote su_above su_numbers su_on su_given pr_size pr_total pr_pitches k2 k12 pr_notePrices pr_mustPass x1 x2 t1 = some r) (hZ : St D A s (wd_Prices_fillNotes kc ad su_lines su_length su_perNote su_above su_numbers su_on su_given pr_size pr_total pr_perNote pr_mostAlike pr_pitches pr_notePrices pr_mustPass) H locs) (hl : lv_has ls 4 [(0, .ref (ad 13)), (1, .int x1), (2, .int x2)]) : W p l e rm_Prices_fillNotes s m args below meth c H locs 0 0 (MQ below (Qv D A (wd_Prices_fillNotes kc ad su_lines su_length su_perNote su_above su_numbers su_on su_given pr_size pr_total pr_perNote pr_mostAlike pr_pitches r.1 r.2)) args s 0 0 A) (F0 m 119 ls [.int t1, .ref (ad 16)]) := by
  obtain ⟨hx, hb, hr, hts, hown, hml, hlocks, hK, hN, hA, hX⟩ := id C
  obtain ⟨hP, hD, hS⟩ := hZ
  unfold m_Prices_fillNotes_119 at hm
  refine lv_iconst (v := 0) hx hb d_Prices_fillNotes_119 (by decide) ?_
  exact l_Prices_fillNotes_120 C hk2 hk12 hm ⟨hP, hD, hS⟩ (lv_sub hl [0, 1, 2] rfl)
def m_Prices_fillNotes_64 (F : Nat) (su_lines : Int32) (su_length : Int32) (su_perNote : Int32) (su_above : Int32) (su_numbers : Nat → Int32) (su_on : Nat → Int32) (su_given : Nat → Nat → Int32) (pr_size : Int32) (pr_total : Int32) (pr_pitches : Nat → Int32) (k2 : (Nat → Int32) → (Nat → Int32) → Int32 → Option ((Nat → Int32) × (Nat → Int32))) (k12 : (Nat → Int32) → (Nat → Int32) → Int32 → Int32 → Option ((Nat → Int32) × (Nat → Int32))) (pr_notePrices : Nat → Int32) (pr_mustPass : Nat → Int32) (x1 : Int32) (x2 : Int32) (t1 : Int32) (t2 : Int32) : Option ((Nat → Int32) × (Nat → Int32)) :=
  (gd t1 360 (if (su_on (Int32.toNatClampNeg (4 : Int32))) = (0 : Int32) then
    m_Prices_fillNotes_119 F su_lines su_length su_perNote su_above su_numbers su_on su_given pr_size pr_total pr_pitches k2 k12 (upd pr_notePrices (Int32.toNatClampNeg t1) t2) pr_mustPass x1 x2 ((x1 * (8 : Int32)) + x2)
  else
    (bd (m_Rules_isStrong su_perNote x1) (fun u3 => (if u3 = (0 : Int32) then
      (gd x2 8 (bd (m_Rules_isHard F su_lines su_perNote su_numbers su_given x1 (pr_pitches (Int32.toNatClampNeg x2))) (fun u7 => (if u7 = (0 : Int32) then
        m_Prices_fillNotes_119 F su_lines su_length su_perNote su_above su_numbers su_on su_given pr_size pr_total pr_pitches k2 k12 (upd pr_notePrices (Int32.toNatClampNeg t1) t2) pr_mustPass x1 x2 ((x1 * (8 : Int32)) + x2)
      else
        m_Prices_fillNotes_120 F su_lines su_length su_perNote su_above su_numbers su_on su_given pr_size pr_total pr_pitches k2 k12 (upd pr_notePrices (Int32.toNatClampNeg t1) t2) pr_mustPass x1 x2 ((x1 * (8 : Int32)) + x2) (1 : Int32)))))
    else
      m_Prices_fillNotes_119 F su_lines su_length su_perNote su_above su_numbers su_on su_given pr_size pr_total pr_pitches k2 k12 (upd pr_notePrices (Int32.toNatClampNeg t1) t2) pr_mustPass x1 x2 ((x1 * (8 : Int32)) + x2))))))
set_option maxHeartbeats 4000000 in
set_option maxRecDepth 100000 in
theorem l_Prices_fillNotes_64 {r : (Nat → Int32) × (Nat → Int32)} {F : Nat} {ad : Nat → Nat} {su_lines : Int32} {su_length : Int32} {su_perNote : Int32} {su_above : Int32} {su_numbers : Nat → Int32} {su_on : Nat → Int32} {su_given : Nat → Nat → Int32} {pr_size : Int32} {pr_total : Int32} {pr_perNote : Int32} {pr_mostAlike : Int32} {pr_pitches : Nat → Int32} {pr_notePrices : Nat → Int32} {pr_mustPass : Nat → Int32} {k2 : (Nat → Int32) → (Nat → Int32) → Int32 → Option ((Nat → Int32) × (Nat → Int32))} {k12 : (Nat → Int32) → (Nat → Int32) → Int32 → Int32 → Option ((Nat → Int32) × (Nat → Int32))} {x1 : Int32} {x2 : Int32} {t1 : Int32} {t2 : Int32} {H : Heap} {locs : List Loc} {ls : Array Slot} (C : Cx p s m meth c args A D kc R_Prices b_Prices_fillNotes 4 none) (hk2 : (∀ (pr_notePrices : Nat → Int32) (pr_mustPass : Nat → Int32) (x1 : Int32) (H : Heap) (locs : List Loc) (ls : Array Slot), k2 pr_notePrices pr_mustPass x1 = some r → St D A s (wd_Prices_fillNotes kc ad su_lines su_length su_perNote su_above su_numbers su_on su_given pr_size pr_total pr_perNote pr_mostAlike pr_pitches pr_notePrices pr_mustPass) H locs → lv_has ls 4 [(0, .ref (ad 13)), (1, .int x1)] → W p l e rm_Prices_fillNotes s m args below meth c H locs 0 0 (MQ below (Qv D A (wd_Prices_fillNotes kc ad su_lines su_length su_perNote su_above su_numbers su_on su_given pr_size pr_total pr_perNote pr_mostAlike pr_pitches r.1 r.2)) args s 0 0 A) (F0 m 2 ls []))) (hk12 : (∀ (pr_notePrices : Nat → Int32) (pr_mustPass : Nat → Int32) (x1 : Int32) (x2 : Int32) (H : Heap) (locs : List Loc) (ls : Array Slot), k12 pr_notePrices pr_mustPass x1 x2 = some r → St D A s (wd_Prices_fillNotes kc ad su_lines su_length su_perNote su_above su_numbers su_on su_given pr_size pr_total pr_perNote pr_mostAlike pr_pitches pr_notePrices pr_mustPass) H locs → lv_has ls 4 [(0, .ref (ad 13)), (1, .int x1), (2, .int x2)] → W p l e rm_Prices_fillNotes s m args below meth c H locs 0 0 (MQ below (Qv D A (wd_Prices_fillNotes kc ad su_lines su_length su_perNote su_above su_numbers su_on su_given pr_size pr_total pr_perNote pr_mostAlike pr_pitches r.1 r.2)) args s 0 0 A) (F0 m 12 ls []))) (hm : m_Prices_fillNotes_64 F su_lines su_length su_perNote su_above su_numbers su_on su_given pr_size pr_total pr_pitches k2 k12 pr_notePrices pr_mustPass x1 x2 t1 t2 = some r) (hZ : St D A s (wd_Prices_fillNotes kc ad su_lines su_length su_perNote su_above su_numbers su_on su_given pr_size pr_total pr_perNote pr_mostAlike pr_pitches pr_notePrices pr_mustPass) H locs) (hl : lv_has ls 4 [(0, .ref (ad 13)), (1, .int x1), (2, .int x2)]) : W p l e rm_Prices_fillNotes s m args below meth c H locs 0 0 (MQ below (Qv D A (wd_Prices_fillNotes kc ad su_lines su_length su_perNote su_above su_numbers su_on su_given pr_size pr_total pr_perNote pr_mostAlike pr_pitches r.1 r.2)) args s 0 0 A) (F0 m 64 ls [.int t2, .int t1, .ref (ad 15)]) := by
  obtain ⟨hx, hb, hr, hts, hown, hml, hlocks, hK, hN, hA, hX⟩ := id C
  obtain ⟨hP, hD, hS⟩ := hZ
  unfold m_Prices_fillNotes_64 at hm
  obtain ⟨hi1, hm⟩ := gd_some hm
  refine va_iast hx hb hK hP hD hS 10 0 rfl rfl hi1 d_Prices_fillNotes_64 (fun H locs hP hD hS => ?_)
  replace hP : va_P D vwCl (wd_Prices_fillNotes kc ad su_lines su_length su_perNote su_above su_numbers su_on su_given pr_size pr_total pr_perNote pr_mostAlike pr_pitches (upd pr_notePrices (Int32.toNatClampNeg t1) t2) pr_mustPass) H := hP
  replace hD : va_D A (wd_Prices_fillNotes kc ad su_lines su_length su_perNote su_above su_numbers su_on su_given pr_size pr_total pr_perNote pr_mostAlike pr_pitches (upd pr_notePrices (Int32.toNatClampNeg t1) t2) pr_mustPass) := hD
  refine lv_aload_n hx hb d_Prices_fillNotes_65 rfl (lv_at hl 0 rfl) ?_
  refine va_get (D := D) (ci := 4) (v := .ref (ad 16)) (C := R_Prices) (T := T_Prices) (N := 15) hx hb hts inG_Prices hown hK hP 8 rfl rfl 4 (by decide) (hts _ gw_254) (fun _ h9 => h9) rfl d_Prices_fillNotes_66 ?_
  refine lv_iload_n hx hb d_Prices_fillNotes_69 rfl (lv_at hl 1 rfl) ?_
  refine lv_bipush (v := 8) hx hb d_Prices_fillNotes_70 (by decide) ?_
  refine lv_imul hx hb d_Prices_fillNotes_72 ?_
  refine lv_iload_n hx hb d_Prices_fillNotes_73 rfl (lv_at hl 2 rfl) ?_
  refine lv_iadd hx hb d_Prices_fillNotes_74 ?_
  refine lv_aload_n hx hb d_Prices_fillNotes_75 rfl (lv_at hl 0 rfl) ?_
  refine va_get (D := D) (ci := 4) (v := .ref (ad 1)) (C := R_Prices) (T := T_Prices) (N := 15) hx hb hts inG_Prices hown hK hP 8 rfl rfl 0 (by decide) (hts _ gw_248) (fun _ h9 => h9) rfl d_Prices_fillNotes_76 ?_
  refine va_getN (D := D) (ci := 7) (v := .ref (ad 3)) (C := R_Setup) (T := T_Setup) (N := 7) hx hb hts inG_Setup hown hK hP 0 rfl rfl 1 (by decide) (va_Nw.use rfl (hN _ nw_165)) (fun _ h9 => h9) rfl d_Prices_fillNotes_79 ?_
  refine lv_iconst (v := 4) hx hb d_Prices_fillNotes_82 (by decide) ?_
  refine va_zald hx hb hK hP 2 1 rfl rfl (in_lit (by decide)) d_Prices_fillNotes_83 ?_
  refine lv_if_eq (tgt := 119) hx hb d_Prices_fillNotes_84 (by decide) (fun c2 => ?_) (fun c2 => ?_)
  · replace hm := ifT hm c2
    exact l_Prices_fillNotes_119 C hk2 hk12 hm ⟨hP, hD, hS⟩ (lv_sub hl [0, 1, 2] rfl)
  · replace hm := ifF hm c2
    refine lv_aload_n hx hb d_Prices_fillNotes_87 rfl (lv_at hl 0 rfl) ?_
    refine va_get (D := D) (ci := 4) (v := .ref (ad 8)) (C := R_Prices) (T := T_Prices) (N := 15) hx hb hts inG_Prices hown hK hP 8 rfl rfl 1 (by decide) (hts _ gw_249) (fun _ h9 => h9) rfl d_Prices_fillNotes_88 ?_
    refine lv_iload_n hx hb d_Prices_fillNotes_91 rfl (lv_at hl 1 rfl) ?_
    obtain ⟨u3, hc4, hm⟩ := bd_some hm
    refine zVN_i (n := 1) (wr := [((ad 2), .inl (kc 0, 18, .inl su_numbers)), ((ad 3), .inl (kc 1, 11, .inl su_on)), ((ad 4), .inl (kc 3, 3, .inr (.inr (.inr (.inr (fun i => if i < 3 then some (ad (5 + i)) else none)))))), ((ad 5), .inl (kc 0, 12, .inl (su_given 0))), ((ad 6), .inl (kc 0, 12, .inl (su_given 1))), ((ad 7), .inl (kc 0, 12, .inl (su_given 2))), ((ad 13), .inr (4, [.ref (ad 1), .ref (ad 8), .ref (ad 14), .ref (ad 15), .ref (ad 16), .ref (ad 17), .ref (ad 18), .ref (ad 19), .ref (ad 20), .ref (ad 21), .ref (ad 22), .int pr_size, .int pr_total, .int pr_perNote, .int pr_mostAlike])), ((ad 14), .inl (kc 0, 8, .inl pr_pitches)), ((ad 15), .inl (kc 0, 360, .inl (upd pr_notePrices (Int32.toNatClampNeg t1) t2))), ((ad 16), .inl (kc 1, 360, .inl pr_mustPass))]) (w1 := (wd_Rules_isStrong kc ad su_lines su_length su_perNote su_above)) (ws1 := (wd_Prices_fillNotes kc ad su_lines su_length su_perNote su_above su_numbers su_on su_given pr_size pr_total pr_perNote pr_mostAlike pr_pitches (upd pr_notePrices (Int32.toNatClampNeg t1) t2) pr_mustPass)) (As := [.int x1]) (rest := [.int ((x1 * (8 : Int32)) + x2), .ref (ad 16)]) (ci := 5) (q0 := 1) (y := y_Rules_isStrong) (host := "SpeciesSolver") ⟨hx, hb, hml, hown, hts⟩ (fun sz => c_Rules_isStrong hc4 sz) gw_512 (hN _ nw_509) gw_511 gw_15 gw_114 hd_Rules_isStrong ⟨Nat.le_of_ble_eq_true rfl, Nat.le_of_ble_eq_true rfl⟩ ⟨rfl, rfl⟩ ⟨Nat.zero_le _, Nat.zero_le _⟩ hK hN hP hD hS hA hX [0, 7] [1, 2, 3, 4, 5, 6, 8, 9, 10, 11] [10, 0, 1, 2, 3, 4, 5, 11, 6, 7, 8, 9] rfl rfl (by decide) (by decide) (by decide) rfl (by decide) rfl rfl rfl hl.1 rfl (Nat.le_of_ble_eq_true rfl) d_Prices_fillNotes_92 (fun H locs hP hD hS => ?_)
    refine lv_if_ne (tgt := 119) hx hb d_Prices_fillNotes_95 (by decide) (fun c5 => ?_) (fun c5 => ?_)
    · replace hm := ifF hm c5
      exact l_Prices_fillNotes_119 C hk2 hk12 hm ⟨hP, hD, hS⟩ (lv_sub hl [0, 1, 2] rfl)
    · replace hm := ifT hm c5
      refine lv_aload_n hx hb d_Prices_fillNotes_98 rfl (lv_at hl 0 rfl) ?_
      refine va_get (D := D) (ci := 4) (v := .ref (ad 8)) (C := R_Prices) (T := T_Prices) (N := 15) hx hb hts inG_Prices hown hK hP 8 rfl rfl 1 (by decide) (hts _ gw_249) (fun _ h9 => h9) rfl d_Prices_fillNotes_99 ?_
      refine lv_iload_n hx hb d_Prices_fillNotes_102 rfl (lv_at hl 1 rfl) ?_
      refine lv_aload_n hx hb d_Prices_fillNotes_103 rfl (lv_at hl 0 rfl) ?_
      refine va_get (D := D) (ci := 4) (v := .ref (ad 14)) (C := R_Prices) (T := T_Prices) (N := 15) hx hb hts inG_Prices hown hK hP 8 rfl rfl 2 (by decide) (hts _ gw_250) (fun _ h9 => h9) rfl d_Prices_fillNotes_104 ?_
      refine lv_iload_n hx hb d_Prices_fillNotes_107 rfl (lv_at hl 2 rfl) ?_
      obtain ⟨hi6, hm⟩ := gd_some hm
      refine va_iald hx hb hK hP 9 0 rfl rfl hi6 d_Prices_fillNotes_108 ?_
      obtain ⟨u7, hc8, hm⟩ := bd_some hm
      refine zVN_i (n := 2) (wr := [((ad 3), .inl (kc 1, 11, .inl su_on)), ((ad 13), .inr (4, [.ref (ad 1), .ref (ad 8), .ref (ad 14), .ref (ad 15), .ref (ad 16), .ref (ad 17), .ref (ad 18), .ref (ad 19), .ref (ad 20), .ref (ad 21), .ref (ad 22), .int pr_size, .int pr_total, .int pr_perNote, .int pr_mostAlike])), ((ad 14), .inl (kc 0, 8, .inl pr_pitches)), ((ad 15), .inl (kc 0, 360, .inl (upd pr_notePrices (Int32.toNatClampNeg t1) t2))), ((ad 16), .inl (kc 1, 360, .inl pr_mustPass))]) (w1 := (wd_Rules_isHard kc ad su_lines su_length su_perNote su_above su_numbers su_given)) (ws1 := (wd_Prices_fillNotes kc ad su_lines su_length su_perNote su_above su_numbers su_on su_given pr_size pr_total pr_perNote pr_mostAlike pr_pitches (upd pr_notePrices (Int32.toNatClampNeg t1) t2) pr_mustPass)) (As := [.int x1, .int (pr_pitches (Int32.toNatClampNeg x2))]) (rest := [.int ((x1 * (8 : Int32)) + x2), .ref (ad 16)]) (ci := 5) (q0 := 6) (y := y_Rules_isHard) (host := "SpeciesSolver") ⟨hx, hb, hml, hown, hts⟩ (fun sz => c_Rules_isHard hc8 sz) gw_516 (hN _ nw_513) gw_515 gw_16 gw_114 hd_Rules_isHard ⟨Nat.le_of_ble_eq_true rfl, Nat.le_of_ble_eq_true rfl⟩ ⟨rfl, rfl⟩ ⟨Nat.zero_le _, Nat.zero_le _⟩ hK hN hP hD hS hA hX [0, 1, 3, 4, 5, 6, 7] [2, 8, 9, 10, 11] [5, 6, 0, 7, 8, 9, 10, 11, 1, 2, 3, 4] rfl rfl (by decide) (by decide) (by decide) rfl (by decide) rfl rfl rfl hl.1 rfl (Nat.le_of_ble_eq_true rfl) d_Prices_fillNotes_109 (fun H locs hP hD hS => ?_)
      refine lv_if_eq (tgt := 119) hx hb d_Prices_fillNotes_112 (by decide) (fun c9 => ?_) (fun c9 => ?_)
      · replace hm := ifT hm c9
        exact l_Prices_fillNotes_119 C hk2 hk12 hm ⟨hP, hD, hS⟩ (lv_sub hl [0, 1, 2] rfl)
      · replace hm := ifF hm c9
        refine lv_iconst (v := 1) hx hb d_Prices_fillNotes_115 (by decide) ?_
        refine lv_goto (tgt := 120) hx hb d_Prices_fillNotes_116 (by decide) ?_
        exact l_Prices_fillNotes_120 C hk2 hk12 hm ⟨hP, hD, hS⟩ (lv_sub hl [0, 1, 2] rfl)
def m_Prices_fillNotes_12b (F : Nat) (su_lines : Int32) (su_length : Int32) (su_perNote : Int32) (su_above : Int32) (su_numbers : Nat → Int32) (su_on : Nat → Int32) (su_given : Nat → Nat → Int32) (pr_size : Int32) (pr_total : Int32) (pr_pitches : Nat → Int32) (k2 : (Nat → Int32) → (Nat → Int32) → Int32 → Option ((Nat → Int32) × (Nat → Int32))) (k12 : (Nat → Int32) → (Nat → Int32) → Int32 → Int32 → Option ((Nat → Int32) × (Nat → Int32))) (pr_notePrices : Nat → Int32) (pr_mustPass : Nat → Int32) (x1 : Int32) (x2 : Int32) : Option ((Nat → Int32) × (Nat → Int32)) :=
  (if pr_size ≤ x2 then
    k2 pr_notePrices pr_mustPass (x1 + 1)
  else
    (gd x2 8 (bd (m_Prices_isBadNote F su_lines su_perNote su_above su_numbers su_on su_given x1 (pr_pitches (Int32.toNatClampNeg x2))) (fun u3 => (if u3 = (0 : Int32) then
      (gd x2 8 (bd (m_Rules_noteCost F su_lines su_length su_perNote su_numbers su_given x1 (pr_pitches (Int32.toNatClampNeg x2))) (fun u7 => m_Prices_fillNotes_64 F su_lines su_length su_perNote su_above su_numbers su_on su_given pr_size pr_total pr_pitches k2 k12 pr_notePrices pr_mustPass x1 x2 ((x1 * (8 : Int32)) + x2) u7)))
    else
      m_Prices_fillNotes_64 F su_lines su_length su_perNote su_above su_numbers su_on su_given pr_size pr_total pr_pitches k2 k12 pr_notePrices pr_mustPass x1 x2 ((x1 * (8 : Int32)) + x2) (-1 : Int32))))))
set_option maxHeartbeats 4000000 in
set_option maxRecDepth 100000 in
theorem l_Prices_fillNotes_12 {r : (Nat → Int32) × (Nat → Int32)} {F : Nat} {ad : Nat → Nat} {su_lines : Int32} {su_length : Int32} {su_perNote : Int32} {su_above : Int32} {su_numbers : Nat → Int32} {su_on : Nat → Int32} {su_given : Nat → Nat → Int32} {pr_size : Int32} {pr_total : Int32} {pr_perNote : Int32} {pr_mostAlike : Int32} {pr_pitches : Nat → Int32} {pr_notePrices : Nat → Int32} {pr_mustPass : Nat → Int32} {k2 : (Nat → Int32) → (Nat → Int32) → Int32 → Option ((Nat → Int32) × (Nat → Int32))} {k12 : (Nat → Int32) → (Nat → Int32) → Int32 → Int32 → Option ((Nat → Int32) × (Nat → Int32))} {x1 : Int32} {x2 : Int32} {H : Heap} {locs : List Loc} {ls : Array Slot} (C : Cx p s m meth c args A D kc R_Prices b_Prices_fillNotes 4 none) (hk2 : (∀ (pr_notePrices : Nat → Int32) (pr_mustPass : Nat → Int32) (x1 : Int32) (H : Heap) (locs : List Loc) (ls : Array Slot), k2 pr_notePrices pr_mustPass x1 = some r → St D A s (wd_Prices_fillNotes kc ad su_lines su_length su_perNote su_above su_numbers su_on su_given pr_size pr_total pr_perNote pr_mostAlike pr_pitches pr_notePrices pr_mustPass) H locs → lv_has ls 4 [(0, .ref (ad 13)), (1, .int x1)] → W p l e rm_Prices_fillNotes s m args below meth c H locs 0 0 (MQ below (Qv D A (wd_Prices_fillNotes kc ad su_lines su_length su_perNote su_above su_numbers su_on su_given pr_size pr_total pr_perNote pr_mostAlike pr_pitches r.1 r.2)) args s 0 0 A) (F0 m 2 ls []))) (hk12 : (∀ (pr_notePrices : Nat → Int32) (pr_mustPass : Nat → Int32) (x1 : Int32) (x2 : Int32) (H : Heap) (locs : List Loc) (ls : Array Slot), k12 pr_notePrices pr_mustPass x1 x2 = some r → St D A s (wd_Prices_fillNotes kc ad su_lines su_length su_perNote su_above su_numbers su_on su_given pr_size pr_total pr_perNote pr_mostAlike pr_pitches pr_notePrices pr_mustPass) H locs → lv_has ls 4 [(0, .ref (ad 13)), (1, .int x1), (2, .int x2)] → W p l e rm_Prices_fillNotes s m args below meth c H locs 0 0 (MQ below (Qv D A (wd_Prices_fillNotes kc ad su_lines su_length su_perNote su_above su_numbers su_on su_given pr_size pr_total pr_perNote pr_mostAlike pr_pitches r.1 r.2)) args s 0 0 A) (F0 m 12 ls []))) (hm : m_Prices_fillNotes_12b F su_lines su_length su_perNote su_above su_numbers su_on su_given pr_size pr_total pr_pitches k2 k12 pr_notePrices pr_mustPass x1 x2 = some r) (hZ : St D A s (wd_Prices_fillNotes kc ad su_lines su_length su_perNote su_above su_numbers su_on su_given pr_size pr_total pr_perNote pr_mostAlike pr_pitches pr_notePrices pr_mustPass) H locs) (hl : lv_has ls 4 [(0, .ref (ad 13)), (1, .int x1), (2, .int x2)]) : W p l e rm_Prices_fillNotes s m args below meth c H locs 0 0 (MQ below (Qv D A (wd_Prices_fillNotes kc ad su_lines su_length su_perNote su_above su_numbers su_on su_given pr_size pr_total pr_perNote pr_mostAlike pr_pitches r.1 r.2)) args s 0 0 A) (F0 m 12 ls []) := by
  obtain ⟨hx, hb, hr, hts, hown, hml, hlocks, hK, hN, hA, hX⟩ := id C
  obtain ⟨hP, hD, hS⟩ := hZ
  unfold m_Prices_fillNotes_12b at hm
  refine lv_iload_n hx hb d_Prices_fillNotes_12 rfl (lv_at hl 2 rfl) ?_
  refine lv_aload_n hx hb d_Prices_fillNotes_13 rfl (lv_at hl 0 rfl) ?_
  refine va_get (D := D) (ci := 4) (v := .int pr_size) (C := R_Prices) (T := T_Prices) (N := 15) hx hb hts inG_Prices hown hK hP 8 rfl rfl 11 (by decide) (hts _ gw_263) (fun _ h9 => h9) rfl d_Prices_fillNotes_14 ?_
  refine lv_icmp_ge (tgt := 127) hx hb d_Prices_fillNotes_17 (by decide) (fun c1 => ?_) (fun c1 => ?_)
  · replace hm := ifT hm c1
    refine lv_iinc (v := (x1 + 1)) (lv' := [(1, .int (x1 + 1)), (0, .ref (ad 13)), (2, .int x2)]) hx hb d_Prices_fillNotes_127 hl (k := 1) rfl rfl (by decide) rfl (fun ls hl => ?_)
    refine lv_goto (tgt := 2) hx hb d_Prices_fillNotes_130 (by decide) ?_
    exact hk2 pr_notePrices pr_mustPass (x1 + 1) _ _ _ hm ⟨hP, hD, hS⟩ (lv_sub hl [1, 0] rfl)
  · replace hm := ifF hm c1
    refine lv_aload_n hx hb d_Prices_fillNotes_20 rfl (lv_at hl 0 rfl) ?_
    refine lv_iload_n hx hb d_Prices_fillNotes_21 rfl (lv_at hl 1 rfl) ?_
    refine lv_aload_n hx hb d_Prices_fillNotes_22 rfl (lv_at hl 0 rfl) ?_
    refine va_get (D := D) (ci := 4) (v := .ref (ad 14)) (C := R_Prices) (T := T_Prices) (N := 15) hx hb hts inG_Prices hown hK hP 8 rfl rfl 2 (by decide) (hts _ gw_250) (fun _ h9 => h9) rfl d_Prices_fillNotes_23 ?_
    refine lv_iload_n hx hb d_Prices_fillNotes_26 rfl (lv_at hl 2 rfl) ?_
    obtain ⟨hi2, hm⟩ := gd_some hm
    refine va_iald hx hb hK hP 9 0 rfl rfl hi2 d_Prices_fillNotes_27 ?_
    obtain ⟨u3, hc4, hm⟩ := bd_some hm
    refine zV_i (n := 2) (wr := [((ad 14), .inl (kc 0, 8, .inl pr_pitches)), ((ad 15), .inl (kc 0, 360, .inl pr_notePrices)), ((ad 16), .inl (kc 1, 360, .inl pr_mustPass))]) (w1 := (wd_Prices_isBadNote kc ad su_lines su_length su_perNote su_above su_numbers su_on su_given pr_size pr_total pr_perNote pr_mostAlike)) (ws1 := (wd_Prices_fillNotes kc ad su_lines su_length su_perNote su_above su_numbers su_on su_given pr_size pr_total pr_perNote pr_mostAlike pr_pitches pr_notePrices pr_mustPass)) (As := [.int x1, .int (pr_pitches (Int32.toNatClampNeg x2))]) (rest := []) (ci := 4) (q0 := 8) (y := y_Prices_isBadNote) ⟨hx, hb, hml, hown, hts⟩ (fun sz => c_Prices_isBadNote hc4 sz) gw_508 gw_505 gw_507 gw_14 gw_116 hd_Prices_isBadNote ⟨Nat.le_of_ble_eq_true rfl, Nat.le_of_ble_eq_true rfl⟩ ⟨rfl, rfl⟩ ⟨Nat.zero_le _, Nat.zero_le _⟩ hK hN hP hD hS hA hX [0, 1, 2, 3, 4, 5, 6, 7, 8] [9, 10, 11] [3, 4, 5, 6, 7, 8, 9, 10, 11, 0, 1, 2] rfl rfl (by decide) (by decide) (by decide) rfl (by decide) rfl rfl rfl hl.1 rfl (Nat.le_of_ble_eq_true rfl) d_Prices_fillNotes_28 (fun H locs hP hD hS => ?_)
    refine lv_istore_n (lv' := [(3, .int u3), (0, .ref (ad 13)), (1, .int x1), (2, .int x2)]) hx hb d_Prices_fillNotes_31 rfl hl (by decide) rfl (fun ls hl => ?_)
    refine lv_aload_n hx hb d_Prices_fillNotes_32 rfl (lv_at hl 1 rfl) ?_
    refine va_get (D := D) (ci := 4) (v := .ref (ad 15)) (C := R_Prices) (T := T_Prices) (N := 15) hx hb hts inG_Prices hown hK hP 8 rfl rfl 3 (by decide) (hts _ gw_252) (fun _ h9 => h9) rfl d_Prices_fillNotes_33 ?_
    refine lv_iload_n hx hb d_Prices_fillNotes_36 rfl (lv_at hl 2 rfl) ?_
    refine lv_bipush (v := 8) hx hb d_Prices_fillNotes_37 (by decide) ?_
    refine lv_imul hx hb d_Prices_fillNotes_39 ?_
    refine lv_iload_n hx hb d_Prices_fillNotes_40 rfl (lv_at hl 3 rfl) ?_
    refine lv_iadd hx hb d_Prices_fillNotes_41 ?_
    refine lv_iload_n hx hb d_Prices_fillNotes_42 rfl (lv_at hl 0 rfl) ?_
    refine lv_if_eq (tgt := 50) hx hb d_Prices_fillNotes_43 (by decide) (fun c5 => ?_) (fun c5 => ?_)
    · replace hm := ifT hm c5
      refine lv_aload_n hx hb d_Prices_fillNotes_50 rfl (lv_at hl 1 rfl) ?_
      refine va_get (D := D) (ci := 4) (v := .ref (ad 8)) (C := R_Prices) (T := T_Prices) (N := 15) hx hb hts inG_Prices hown hK hP 8 rfl rfl 1 (by decide) (hts _ gw_249) (fun _ h9 => h9) rfl d_Prices_fillNotes_51 ?_
      refine lv_iload_n hx hb d_Prices_fillNotes_54 rfl (lv_at hl 2 rfl) ?_
      refine lv_aload_n hx hb d_Prices_fillNotes_55 rfl (lv_at hl 1 rfl) ?_
      refine va_get (D := D) (ci := 4) (v := .ref (ad 14)) (C := R_Prices) (T := T_Prices) (N := 15) hx hb hts inG_Prices hown hK hP 8 rfl rfl 2 (by decide) (hts _ gw_250) (fun _ h9 => h9) rfl d_Prices_fillNotes_56 ?_
      refine lv_iload_n hx hb d_Prices_fillNotes_59 rfl (lv_at hl 3 rfl) ?_
      obtain ⟨hi6, hm⟩ := gd_some hm
      refine va_iald hx hb hK hP 9 0 rfl rfl hi6 d_Prices_fillNotes_60 ?_
      obtain ⟨u7, hc8, hm⟩ := bd_some hm
      refine zVN_i (n := 2) (wr := [((ad 3), .inl (kc 1, 11, .inl su_on)), ((ad 13), .inr (4, [.ref (ad 1), .ref (ad 8), .ref (ad 14), .ref (ad 15), .ref (ad 16), .ref (ad 17), .ref (ad 18), .ref (ad 19), .ref (ad 20), .ref (ad 21), .ref (ad 22), .int pr_size, .int pr_total, .int pr_perNote, .int pr_mostAlike])), ((ad 14), .inl (kc 0, 8, .inl pr_pitches)), ((ad 15), .inl (kc 0, 360, .inl pr_notePrices)), ((ad 16), .inl (kc 1, 360, .inl pr_mustPass))]) (w1 := (wd_Rules_noteCost kc ad su_lines su_length su_perNote su_above su_numbers su_given)) (ws1 := (wd_Prices_fillNotes kc ad su_lines su_length su_perNote su_above su_numbers su_on su_given pr_size pr_total pr_perNote pr_mostAlike pr_pitches pr_notePrices pr_mustPass)) (As := [.int x1, .int (pr_pitches (Int32.toNatClampNeg x2))]) (rest := [.int ((x1 * (8 : Int32)) + x2), .ref (ad 15)]) (ci := 5) (q0 := 6) (y := y_Rules_noteCost) (host := "SpeciesSolver") ⟨hx, hb, hml, hown, hts⟩ (fun sz => c_Rules_noteCost hc8 sz) gw_536 (hN _ nw_533) gw_535 gw_21 gw_114 hd_Rules_noteCost ⟨Nat.le_of_ble_eq_true rfl, Nat.le_of_ble_eq_true rfl⟩ ⟨rfl, rfl⟩ ⟨Nat.zero_le _, Nat.zero_le _⟩ hK hN hP hD hS hA hX [0, 1, 3, 4, 5, 6, 7] [2, 8, 9, 10, 11] [5, 6, 0, 7, 8, 9, 10, 11, 1, 2, 3, 4] rfl rfl (by decide) (by decide) (by decide) rfl (by decide) rfl rfl rfl hl.1 rfl (Nat.le_of_ble_eq_true rfl) d_Prices_fillNotes_61 (fun H locs hP hD hS => ?_)
      exact l_Prices_fillNotes_64 C hk2 hk12 hm ⟨hP, hD, hS⟩ (lv_sub hl [1, 2, 3] rfl)
    · replace hm := ifF hm c5
      refine lv_iconst (v := -1) hx hb d_Prices_fillNotes_46 (by decide) ?_
      refine lv_goto (tgt := 64) hx hb d_Prices_fillNotes_47 (by decide) ?_
      exact l_Prices_fillNotes_64 C hk2 hk12 hm ⟨hP, hD, hS⟩ (lv_sub hl [1, 2, 3] rfl)
def m_Prices_fillNotes_12 (F : Nat) (su_lines : Int32) (su_length : Int32) (su_perNote : Int32) (su_above : Int32) (su_numbers : Nat → Int32) (su_on : Nat → Int32) (su_given : Nat → Nat → Int32) (pr_size : Int32) (pr_total : Int32) (pr_pitches : Nat → Int32) (k2 : (Nat → Int32) → (Nat → Int32) → Int32 → Option ((Nat → Int32) × (Nat → Int32))) : Nat → (Nat → Int32) → (Nat → Int32) → Int32 → Int32 → Option ((Nat → Int32) × (Nat → Int32))
  | 0 => fun _ _ _ _ => none
  | n + 1 => m_Prices_fillNotes_12b F su_lines su_length su_perNote su_above su_numbers su_on su_given pr_size pr_total pr_pitches k2 (m_Prices_fillNotes_12 F su_lines su_length su_perNote su_above su_numbers su_on su_given pr_size pr_total pr_pitches k2 n)
set_option maxHeartbeats 4000000 in
set_option maxRecDepth 100000 in
theorem lp_Prices_fillNotes_12 {r : (Nat → Int32) × (Nat → Int32)} {F : Nat} {ad : Nat → Nat} {su_lines : Int32} {su_length : Int32} {su_perNote : Int32} {su_above : Int32} {su_numbers : Nat → Int32} {su_on : Nat → Int32} {su_given : Nat → Nat → Int32} {pr_size : Int32} {pr_total : Int32} {pr_perNote : Int32} {pr_mostAlike : Int32} {pr_pitches : Nat → Int32} {k2 : (Nat → Int32) → (Nat → Int32) → Int32 → Option ((Nat → Int32) × (Nat → Int32))} (C : Cx p s m meth c args A D kc R_Prices b_Prices_fillNotes 4 none) (hk2 : (∀ (pr_notePrices : Nat → Int32) (pr_mustPass : Nat → Int32) (x1 : Int32) (H : Heap) (locs : List Loc) (ls : Array Slot), k2 pr_notePrices pr_mustPass x1 = some r → St D A s (wd_Prices_fillNotes kc ad su_lines su_length su_perNote su_above su_numbers su_on su_given pr_size pr_total pr_perNote pr_mostAlike pr_pitches pr_notePrices pr_mustPass) H locs → lv_has ls 4 [(0, .ref (ad 13)), (1, .int x1)] → W p l e rm_Prices_fillNotes s m args below meth c H locs 0 0 (MQ below (Qv D A (wd_Prices_fillNotes kc ad su_lines su_length su_perNote su_above su_numbers su_on su_given pr_size pr_total pr_perNote pr_mostAlike pr_pitches r.1 r.2)) args s 0 0 A) (F0 m 2 ls []))) : ∀ (n : Nat) (pr_notePrices : Nat → Int32) (pr_mustPass : Nat → Int32) (x1 : Int32) (x2 : Int32) (H : Heap) (locs : List Loc) (ls : Array Slot), m_Prices_fillNotes_12 F su_lines su_length su_perNote su_above su_numbers su_on su_given pr_size pr_total pr_pitches k2 n pr_notePrices pr_mustPass x1 x2 = some r → St D A s (wd_Prices_fillNotes kc ad su_lines su_length su_perNote su_above su_numbers su_on su_given pr_size pr_total pr_perNote pr_mostAlike pr_pitches pr_notePrices pr_mustPass) H locs → lv_has ls 4 [(0, .ref (ad 13)), (1, .int x1), (2, .int x2)] → W p l e rm_Prices_fillNotes s m args below meth c H locs 0 0 (MQ below (Qv D A (wd_Prices_fillNotes kc ad su_lines su_length su_perNote su_above su_numbers su_on su_given pr_size pr_total pr_perNote pr_mostAlike pr_pitches r.1 r.2)) args s 0 0 A) (F0 m 12 ls []) := by
  intro n
  induction n with
  | zero => intro pr_notePrices pr_mustPass x1 x2 H locs ls hm; cases hm
  | succ n ih => intro pr_notePrices pr_mustPass x1 x2 H locs ls hm hZ hl; exact l_Prices_fillNotes_12 C hk2 ih hm hZ hl
def m_Prices_fillNotes_2b (F : Nat) (su_lines : Int32) (su_length : Int32) (su_perNote : Int32) (su_above : Int32) (su_numbers : Nat → Int32) (su_on : Nat → Int32) (su_given : Nat → Nat → Int32) (pr_size : Int32) (pr_total : Int32) (pr_pitches : Nat → Int32) (k2 : (Nat → Int32) → (Nat → Int32) → Int32 → Option ((Nat → Int32) × (Nat → Int32))) (pr_notePrices : Nat → Int32) (pr_mustPass : Nat → Int32) (x1 : Int32) : Option ((Nat → Int32) × (Nat → Int32)) :=
  (if pr_total ≤ x1 then
    (some (pr_notePrices, pr_mustPass))
  else
    m_Prices_fillNotes_12 F su_lines su_length su_perNote su_above su_numbers su_on su_given pr_size pr_total pr_pitches k2 F pr_notePrices pr_mustPass x1 (0 : Int32))
set_option maxHeartbeats 4000000 in
set_option maxRecDepth 100000 in
theorem l_Prices_fillNotes_2 {r : (Nat → Int32) × (Nat → Int32)} {F : Nat} {ad : Nat → Nat} {su_lines : Int32} {su_length : Int32} {su_perNote : Int32} {su_above : Int32} {su_numbers : Nat → Int32} {su_on : Nat → Int32} {su_given : Nat → Nat → Int32} {pr_size : Int32} {pr_total : Int32} {pr_perNote : Int32} {pr_mostAlike : Int32} {pr_pitches : Nat → Int32} {pr_notePrices : Nat → Int32} {pr_mustPass : Nat → Int32} {k2 : (Nat → Int32) → (Nat → Int32) → Int32 → Option ((Nat → Int32) × (Nat → Int32))} {x1 : Int32} {H : Heap} {locs : List Loc} {ls : Array Slot} (C : Cx p s m meth c args A D kc R_Prices b_Prices_fillNotes 4 none) (hk2 : (∀ (pr_notePrices : Nat → Int32) (pr_mustPass : Nat → Int32) (x1 : Int32) (H : Heap) (locs : List Loc) (ls : Array Slot), k2 pr_notePrices pr_mustPass x1 = some r → St D A s (wd_Prices_fillNotes kc ad su_lines su_length su_perNote su_above su_numbers su_on su_given pr_size pr_total pr_perNote pr_mostAlike pr_pitches pr_notePrices pr_mustPass) H locs → lv_has ls 4 [(0, .ref (ad 13)), (1, .int x1)] → W p l e rm_Prices_fillNotes s m args below meth c H locs 0 0 (MQ below (Qv D A (wd_Prices_fillNotes kc ad su_lines su_length su_perNote su_above su_numbers su_on su_given pr_size pr_total pr_perNote pr_mostAlike pr_pitches r.1 r.2)) args s 0 0 A) (F0 m 2 ls []))) (hm : m_Prices_fillNotes_2b F su_lines su_length su_perNote su_above su_numbers su_on su_given pr_size pr_total pr_pitches k2 pr_notePrices pr_mustPass x1 = some r) (hZ : St D A s (wd_Prices_fillNotes kc ad su_lines su_length su_perNote su_above su_numbers su_on su_given pr_size pr_total pr_perNote pr_mostAlike pr_pitches pr_notePrices pr_mustPass) H locs) (hl : lv_has ls 4 [(0, .ref (ad 13)), (1, .int x1)]) : W p l e rm_Prices_fillNotes s m args below meth c H locs 0 0 (MQ below (Qv D A (wd_Prices_fillNotes kc ad su_lines su_length su_perNote su_above su_numbers su_on su_given pr_size pr_total pr_perNote pr_mostAlike pr_pitches r.1 r.2)) args s 0 0 A) (F0 m 2 ls []) := by
  obtain ⟨hx, hb, hr, hts, hown, hml, hlocks, hK, hN, hA, hX⟩ := id C
  obtain ⟨hP, hD, hS⟩ := hZ
  unfold m_Prices_fillNotes_2b at hm
  refine lv_iload_n hx hb d_Prices_fillNotes_2 rfl (lv_at hl 1 rfl) ?_
  refine lv_aload_n hx hb d_Prices_fillNotes_3 rfl (lv_at hl 0 rfl) ?_
  refine va_get (D := D) (ci := 4) (v := .int pr_total) (C := R_Prices) (T := T_Prices) (N := 15) hx hb hts inG_Prices hown hK hP 8 rfl rfl 12 (by decide) (hts _ gw_265) (fun _ h9 => h9) rfl d_Prices_fillNotes_4 ?_
  refine lv_icmp_ge (tgt := 133) hx hb d_Prices_fillNotes_7 (by decide) (fun c1 => ?_) (fun c1 => ?_)
  · replace hm := ifT hm c1
    replace hm := Option.some.inj hm; subst hm
    exact zret_v C hP hD hS d_Prices_fillNotes_133
  · replace hm := ifF hm c1
    refine lv_iconst (v := 0) hx hb d_Prices_fillNotes_10 (by decide) ?_
    refine lv_istore_n (lv' := [(2, .int (0 : Int32)), (0, .ref (ad 13)), (1, .int x1)]) hx hb d_Prices_fillNotes_11 rfl hl (by decide) rfl (fun ls hl => ?_)
    exact lp_Prices_fillNotes_12 C hk2 F pr_notePrices pr_mustPass x1 (0 : Int32) _ _ _ hm ⟨hP, hD, hS⟩ (lv_sub hl [1, 2, 0] rfl)
def m_Prices_fillNotes_2 (F : Nat) (su_lines : Int32) (su_length : Int32) (su_perNote : Int32) (su_above : Int32) (su_numbers : Nat → Int32) (su_on : Nat → Int32) (su_given : Nat → Nat → Int32) (pr_size : Int32) (pr_total : Int32) (pr_pitches : Nat → Int32)  : Nat → (Nat → Int32) → (Nat → Int32) → Int32 → Option ((Nat → Int32) × (Nat → Int32))
  | 0 => fun _ _ _ => none
  | n + 1 => m_Prices_fillNotes_2b F su_lines su_length su_perNote su_above su_numbers su_on su_given pr_size pr_total pr_pitches  (m_Prices_fillNotes_2 F su_lines su_length su_perNote su_above su_numbers su_on su_given pr_size pr_total pr_pitches  n)
set_option maxHeartbeats 4000000 in
set_option maxRecDepth 100000 in
theorem lp_Prices_fillNotes_2 {r : (Nat → Int32) × (Nat → Int32)} {F : Nat} {ad : Nat → Nat} {su_lines : Int32} {su_length : Int32} {su_perNote : Int32} {su_above : Int32} {su_numbers : Nat → Int32} {su_on : Nat → Int32} {su_given : Nat → Nat → Int32} {pr_size : Int32} {pr_total : Int32} {pr_perNote : Int32} {pr_mostAlike : Int32} {pr_pitches : Nat → Int32}  (C : Cx p s m meth c args A D kc R_Prices b_Prices_fillNotes 4 none)  : ∀ (n : Nat) (pr_notePrices : Nat → Int32) (pr_mustPass : Nat → Int32) (x1 : Int32) (H : Heap) (locs : List Loc) (ls : Array Slot), m_Prices_fillNotes_2 F su_lines su_length su_perNote su_above su_numbers su_on su_given pr_size pr_total pr_pitches  n pr_notePrices pr_mustPass x1 = some r → St D A s (wd_Prices_fillNotes kc ad su_lines su_length su_perNote su_above su_numbers su_on su_given pr_size pr_total pr_perNote pr_mostAlike pr_pitches pr_notePrices pr_mustPass) H locs → lv_has ls 4 [(0, .ref (ad 13)), (1, .int x1)] → W p l e rm_Prices_fillNotes s m args below meth c H locs 0 0 (MQ below (Qv D A (wd_Prices_fillNotes kc ad su_lines su_length su_perNote su_above su_numbers su_on su_given pr_size pr_total pr_perNote pr_mostAlike pr_pitches r.1 r.2)) args s 0 0 A) (F0 m 2 ls []) := by
  intro n
  induction n with
  | zero => intro pr_notePrices pr_mustPass x1 H locs ls hm; cases hm
  | succ n ih => intro pr_notePrices pr_mustPass x1 H locs ls hm hZ hl; exact l_Prices_fillNotes_2 C  ih hm hZ hl
def m_Prices_fillNotes (F : Nat) (su_lines : Int32) (su_length : Int32) (su_perNote : Int32) (su_above : Int32) (su_numbers : Nat → Int32) (su_on : Nat → Int32) (su_given : Nat → Nat → Int32) (pr_size : Int32) (pr_total : Int32) (pr_pitches : Nat → Int32) (pr_notePrices : Nat → Int32) (pr_mustPass : Nat → Int32)  : Option ((Nat → Int32) × (Nat → Int32)) :=
  m_Prices_fillNotes_2 F su_lines su_length su_perNote su_above su_numbers su_on su_given pr_size pr_total pr_pitches  F pr_notePrices pr_mustPass (0 : Int32)
set_option maxHeartbeats 4000000 in
set_option maxRecDepth 100000 in
theorem e_Prices_fillNotes {r : (Nat → Int32) × (Nat → Int32)} {F : Nat} {ad : Nat → Nat} {su_lines : Int32} {su_length : Int32} {su_perNote : Int32} {su_above : Int32} {su_numbers : Nat → Int32} {su_on : Nat → Int32} {su_given : Nat → Nat → Int32} {pr_size : Int32} {pr_total : Int32} {pr_perNote : Int32} {pr_mostAlike : Int32} {pr_pitches : Nat → Int32} {pr_notePrices : Nat → Int32} {pr_mustPass : Nat → Int32}  {H : Heap} {locs : List Loc} {ls : Array Slot} (C : Cx p s m meth c args A D kc R_Prices b_Prices_fillNotes 4 none) (hm : m_Prices_fillNotes F su_lines su_length su_perNote su_above su_numbers su_on su_given pr_size pr_total pr_pitches pr_notePrices pr_mustPass = some r) (hZ : St D A s (wd_Prices_fillNotes kc ad su_lines su_length su_perNote su_above su_numbers su_on su_given pr_size pr_total pr_perNote pr_mostAlike pr_pitches pr_notePrices pr_mustPass) H locs) (hl : lv_has ls 4 [(0, .ref (ad 13))]) : W p l e rm_Prices_fillNotes s m args below meth c H locs 0 0 (MQ below (Qv D A (wd_Prices_fillNotes kc ad su_lines su_length su_perNote su_above su_numbers su_on su_given pr_size pr_total pr_perNote pr_mostAlike pr_pitches r.1 r.2)) args s 0 0 A) (F0 m 0 ls []) := by
  obtain ⟨hx, hb, hr, hts, hown, hml, hlocks, hK, hN, hA, hX⟩ := id C
  obtain ⟨hP, hD, hS⟩ := hZ
  unfold m_Prices_fillNotes at hm
  refine lv_iconst (v := 0) hx hb d_Prices_fillNotes_0 (by decide) ?_
  refine lv_istore_n (lv' := [(1, .int (0 : Int32)), (0, .ref (ad 13))]) hx hb d_Prices_fillNotes_1 rfl hl (by decide) rfl (fun ls hl => ?_)
  exact lp_Prices_fillNotes_2 C  F pr_notePrices pr_mustPass (0 : Int32) _ _ _ hm ⟨hP, hD, hS⟩ (lv_sub hl [1, 0] rfl)
set_option maxHeartbeats 4000000 in
set_option maxRecDepth 100000 in
theorem c_Prices_fillNotes {l : Launch} {D : va_G} {kc : Nat → ClassId} {r : (Nat → Int32) × (Nat → Int32)} {F : Nat} {ad : Nat → Nat} {su_lines : Int32} {su_length : Int32} {su_perNote : Int32} {su_above : Int32} {su_numbers : Nat → Int32} {su_on : Nat → Int32} {su_given : Nat → Nat → Int32} {pr_size : Int32} {pr_total : Int32} {pr_perNote : Int32} {pr_mostAlike : Int32} {pr_pitches : Nat → Int32} {pr_notePrices : Nat → Int32} {pr_mustPass : Nat → Int32}  (hm : m_Prices_fillNotes F su_lines su_length su_perNote su_above su_numbers su_on su_given pr_size pr_total pr_pitches pr_notePrices pr_mustPass = some r) (sz : Nat) : Cv l y_Prices_fillNotes ws_Prices_fillNotes rm_Prices_fillNotes D kc sz [.ref (ad 13)] (wd_Prices_fillNotes kc ad su_lines su_length su_perNote su_above su_numbers su_on su_given pr_size pr_total pr_perNote pr_mostAlike pr_pitches pr_notePrices pr_mustPass) (wd_Prices_fillNotes kc ad su_lines su_length su_perNote su_above su_numbers su_on su_given pr_size pr_total pr_perNote pr_mostAlike pr_pitches r.1 r.2) :=
  Cz_of (Qf := fun A => (Qv D A (wd_Prices_fillNotes kc ad su_lines su_length su_perNote su_above su_numbers su_on su_given pr_size pr_total pr_perNote pr_mostAlike pr_pitches r.1 r.2))) (cc := b_Prices_fillNotes) (maxL := 4) (ret := none) (by decide) rfl rfl (fun C hZ hl => e_Prices_fillNotes C hm hZ hl)
abbrev b_SpeciesSolver_distance : ByteArray := prog_1_method_25_code
abbrev y_SpeciesSolver_distance : MethodName := ⟨"SpeciesSolver", "distance", "(II)I"⟩
theorem d_SpeciesSolver_distance_0 : decode b_SpeciesSolver_distance 0 = .ok (.iload_n 0, 1) := by decide +kernel
theorem d_SpeciesSolver_distance_1 : decode b_SpeciesSolver_distance 1 = .ok (.iload_n 1, 1) := by decide +kernel
theorem d_SpeciesSolver_distance_2 : decode b_SpeciesSolver_distance 2 = .ok (.if_icmp .ge 9, 3) := by decide +kernel
theorem d_SpeciesSolver_distance_5 : decode b_SpeciesSolver_distance 5 = .ok (.iload_n 1, 1) := by decide +kernel
theorem d_SpeciesSolver_distance_6 : decode b_SpeciesSolver_distance 6 = .ok (.iload_n 0, 1) := by decide +kernel
theorem d_SpeciesSolver_distance_7 : decode b_SpeciesSolver_distance 7 = .ok (.isub, 1) := by decide +kernel
theorem d_SpeciesSolver_distance_8 : decode b_SpeciesSolver_distance 8 = .ok (.goto 6, 3) := by decide +kernel
theorem d_SpeciesSolver_distance_11 : decode b_SpeciesSolver_distance 11 = .ok (.iload_n 0, 1) := by decide +kernel
theorem d_SpeciesSolver_distance_12 : decode b_SpeciesSolver_distance 12 = .ok (.iload_n 1, 1) := by decide +kernel
theorem d_SpeciesSolver_distance_13 : decode b_SpeciesSolver_distance 13 = .ok (.isub, 1) := by decide +kernel
theorem d_SpeciesSolver_distance_14 : decode b_SpeciesSolver_distance 14 = .ok (.ireturn, 1) := by decide +kernel
abbrev wd_SpeciesSolver_distance (kc : Nat → ClassId)   : va_W := []
abbrev rm_SpeciesSolver_distance : Room := { frames := 0, cells := 0, slots := 0, locals := 0 }
abbrev cw_SpeciesSolver_distance : Cond := .code y_SpeciesSolver_distance b_SpeciesSolver_distance 2 (some .int)
abbrev ws_SpeciesSolver_distance : List Cond := cw_SpeciesSolver_distance :: GW
theorem hd_SpeciesSolver_distance : y_SpeciesSolver_distance.cls ≠ "java/lang/invoke/MethodHandle" ∧ y_SpeciesSolver_distance.cls ≠ "java/lang/invoke/VarHandle" ∧ (parseMethodDescriptor y_SpeciesSolver_distance.desc).map (fun d => d.parameters.length) = some 2 := by decide +kernel
def m_SpeciesSolver_distance   (a0 : Int32) (a1 : Int32) : Option (Int32) :=
  (if a1 ≤ a0 then
    (some (a0 - a1))
  else
    (some (a1 - a0)))
set_option maxHeartbeats 4000000 in
set_option maxRecDepth 100000 in
theorem e_SpeciesSolver_distance {r : Int32}   {a0 : Int32} {a1 : Int32} {H : Heap} {locs : List Loc} {ls : Array Slot} (C : Cx p s m meth c args A D kc R_SpeciesSolver b_SpeciesSolver_distance 2 (some .int)) (hm : m_SpeciesSolver_distance  a0 a1 = some r) (hZ : St D A s (wd_SpeciesSolver_distance kc ) H locs) (hl : lv_has ls 2 [(0, .int a0), (1, .int a1)]) : W p l e rm_SpeciesSolver_distance s m args below meth c H locs 0 0 (MQ below (Qi D A (wd_SpeciesSolver_distance kc ) r) args s 0 0 A) (F0 m 0 ls []) := by
  obtain ⟨hx, hb, hr, hts, hown, hml, hlocks, hK, hN, hA, hX⟩ := id C
  obtain ⟨hP, hD, hS⟩ := hZ
  unfold m_SpeciesSolver_distance at hm
  refine lv_iload_n hx hb d_SpeciesSolver_distance_0 rfl (lv_at hl 0 rfl) ?_
  refine lv_iload_n hx hb d_SpeciesSolver_distance_1 rfl (lv_at hl 1 rfl) ?_
  refine lv_icmp_ge (tgt := 11) hx hb d_SpeciesSolver_distance_2 (by decide) (fun c1 => ?_) (fun c1 => ?_)
  · replace hm := ifT hm c1
    refine lv_iload_n hx hb d_SpeciesSolver_distance_11 rfl (lv_at hl 0 rfl) ?_
    refine lv_iload_n hx hb d_SpeciesSolver_distance_12 rfl (lv_at hl 1 rfl) ?_
    refine lv_isub hx hb d_SpeciesSolver_distance_13 ?_
    replace hm := Option.some.inj hm; subst hm
    exact zret_i C hP hD hS d_SpeciesSolver_distance_14
  · replace hm := ifF hm c1
    refine lv_iload_n hx hb d_SpeciesSolver_distance_5 rfl (lv_at hl 1 rfl) ?_
    refine lv_iload_n hx hb d_SpeciesSolver_distance_6 rfl (lv_at hl 0 rfl) ?_
    refine lv_isub hx hb d_SpeciesSolver_distance_7 ?_
    refine lv_goto (tgt := 14) hx hb d_SpeciesSolver_distance_8 (by decide) ?_
    replace hm := Option.some.inj hm; subst hm
    exact zret_i C hP hD hS d_SpeciesSolver_distance_14
set_option maxHeartbeats 4000000 in
set_option maxRecDepth 100000 in
theorem c_SpeciesSolver_distance {l : Launch} {D : va_G} {kc : Nat → ClassId} {r : Int32}   {a0 : Int32} {a1 : Int32} (hm : m_SpeciesSolver_distance  a0 a1 = some r) (sz : Nat) : Ci l y_SpeciesSolver_distance ws_SpeciesSolver_distance rm_SpeciesSolver_distance D kc sz [.int a0, .int a1] (wd_SpeciesSolver_distance kc ) (wd_SpeciesSolver_distance kc ) r :=
  Cz_of (Qf := fun A => (Qi D A (wd_SpeciesSolver_distance kc ) r)) (cc := b_SpeciesSolver_distance) (maxL := 2) (ret := (some .int)) (by decide) rfl rfl (fun C hZ hl => e_SpeciesSolver_distance C hm hZ hl)
abbrev b_Rules_isLeaping : ByteArray := prog_5_method_13_code
abbrev y_Rules_isLeaping : MethodName := ⟨"SpeciesSolver$Rules", "isLeaping", "(II)Z"⟩
theorem d_Rules_isLeaping_0 : decode b_Rules_isLeaping 0 = .ok (.iload_n 1, 1) := by decide +kernel
theorem d_Rules_isLeaping_1 : decode b_Rules_isLeaping 1 = .ok (.iload_n 2, 1) := by decide +kernel
theorem d_Rules_isLeaping_2 : decode b_Rules_isLeaping 2 = .ok (.invokestatic 40, 3) := by decide +kernel
theorem d_Rules_isLeaping_5 : decode b_Rules_isLeaping 5 = .ok (.istore_n 3, 1) := by decide +kernel
theorem d_Rules_isLeaping_6 : decode b_Rules_isLeaping 6 = .ok (.iload_n 3, 1) := by decide +kernel
theorem d_Rules_isLeaping_7 : decode b_Rules_isLeaping 7 = .ok (.aload_n 0, 1) := by decide +kernel
theorem d_Rules_isLeaping_8 : decode b_Rules_isLeaping 8 = .ok (.getfield 9, 3) := by decide +kernel
theorem d_Rules_isLeaping_11 : decode b_Rules_isLeaping 11 = .ok (.getfield 15, 3) := by decide +kernel
theorem d_Rules_isLeaping_14 : decode b_Rules_isLeaping 14 = .ok (.bipush 9, 2) := by decide +kernel
theorem d_Rules_isLeaping_16 : decode b_Rules_isLeaping 16 = .ok (.iaload, 1) := by decide +kernel
theorem d_Rules_isLeaping_17 : decode b_Rules_isLeaping 17 = .ok (.if_icmp .gt 19, 3) := by decide +kernel
theorem d_Rules_isLeaping_20 : decode b_Rules_isLeaping 20 = .ok (.iload_n 3, 1) := by decide +kernel
theorem d_Rules_isLeaping_21 : decode b_Rules_isLeaping 21 = .ok (.bipush 24, 2) := by decide +kernel
theorem d_Rules_isLeaping_23 : decode b_Rules_isLeaping 23 = .ok (.if_icmp .gt 17, 3) := by decide +kernel
theorem d_Rules_isLeaping_26 : decode b_Rules_isLeaping 26 = .ok (.aload_n 0, 1) := by decide +kernel
theorem d_Rules_isLeaping_27 : decode b_Rules_isLeaping 27 = .ok (.bipush 7, 2) := by decide +kernel
theorem d_Rules_isLeaping_29 : decode b_Rules_isLeaping 29 = .ok (.iload_n 3, 1) := by decide +kernel
theorem d_Rules_isLeaping_30 : decode b_Rules_isLeaping 30 = .ok (.invokevirtual 33, 3) := by decide +kernel
theorem d_Rules_isLeaping_33 : decode b_Rules_isLeaping 33 = .ok (.ifCond .eq 7, 3) := by decide +kernel
theorem d_Rules_isLeaping_36 : decode b_Rules_isLeaping 36 = .ok (.iconst 1, 1) := by decide +kernel
theorem d_Rules_isLeaping_37 : decode b_Rules_isLeaping 37 = .ok (.goto 4, 3) := by decide +kernel
theorem d_Rules_isLeaping_40 : decode b_Rules_isLeaping 40 = .ok (.iconst 0, 1) := by decide +kernel
theorem d_Rules_isLeaping_41 : decode b_Rules_isLeaping 41 = .ok (.ireturn, 1) := by decide +kernel
abbrev wd_Rules_isLeaping (kc : Nat → ClassId) (ad : Nat → Nat) (su_lines : Int32) (su_length : Int32) (su_perNote : Int32) (su_above : Int32) (su_numbers : Nat → Int32) : va_W := [((ad 1), .inr (7, [.ref (ad 2), .ref (ad 3), .ref (ad 4), .int su_lines, .int su_length, .int su_perNote, .int su_above])), ((ad 2), .inl (kc 0, 18, .inl su_numbers)), ((ad 8), .inr (5, [.ref (ad 1)]))]
abbrev rm_Rules_isLeaping : Room := { frames := 1, cells := 0, slots := 0, locals := 22 }
abbrev cw_Rules_isLeaping : Cond := .code y_Rules_isLeaping b_Rules_isLeaping 4 (some .boolean)
abbrev ws_Rules_isLeaping : List Cond := cw_Rules_isLeaping :: GW
theorem hd_Rules_isLeaping : y_Rules_isLeaping.cls ≠ "java/lang/invoke/MethodHandle" ∧ y_Rules_isLeaping.cls ≠ "java/lang/invoke/VarHandle" ∧ (parseMethodDescriptor y_Rules_isLeaping.desc).map (fun d => d.parameters.length) = some 2 := by decide +kernel
def m_Rules_isLeaping (su_numbers : Nat → Int32)  (a1 : Int32) (a2 : Int32) : Option (Int32) :=
  (bd (m_SpeciesSolver_distance a1 a2) (fun u1 => (if (su_numbers (Int32.toNatClampNeg (9 : Int32))) < u1 then
    (some (1 : Int32))
  else
    (if (24 : Int32) < u1 then
      (some (0 : Int32))
    else
      (bd (m_Rules_isIn su_numbers (7 : Int32) u1) (fun u5 => (if u5 = (0 : Int32) then
        (some (0 : Int32))
      else
        (some (1 : Int32)))))))))
set_option maxHeartbeats 4000000 in
set_option maxRecDepth 100000 in
theorem e_Rules_isLeaping {r : Int32} {ad : Nat → Nat} {su_lines : Int32} {su_length : Int32} {su_perNote : Int32} {su_above : Int32} {su_numbers : Nat → Int32} {a1 : Int32} {a2 : Int32} {H : Heap} {locs : List Loc} {ls : Array Slot} (C : Cx p s m meth c args A D kc R_Rules b_Rules_isLeaping 4 (some .boolean)) (hm : m_Rules_isLeaping su_numbers a1 a2 = some r) (hZ : St D A s (wd_Rules_isLeaping kc ad su_lines su_length su_perNote su_above su_numbers) H locs) (hl : lv_has ls 4 [(0, .ref (ad 8)), (1, .int a1), (2, .int a2)]) : W p l e rm_Rules_isLeaping s m args below meth c H locs 0 0 (MQ below (Qi D A (wd_Rules_isLeaping kc ad su_lines su_length su_perNote su_above su_numbers) r) args s 0 0 A) (F0 m 0 ls []) := by
  obtain ⟨hx, hb, hr, hts, hown, hml, hlocks, hK, hN, hA, hX⟩ := id C
  obtain ⟨hP, hD, hS⟩ := hZ
  unfold m_Rules_isLeaping at hm
  refine lv_iload_n hx hb d_Rules_isLeaping_0 rfl (lv_at hl 1 rfl) ?_
  refine lv_iload_n hx hb d_Rules_isLeaping_1 rfl (lv_at hl 2 rfl) ?_
  obtain ⟨u1, hc2, hm⟩ := bd_some hm
  refine zSN_i (n := 2) (wr := [((ad 1), .inr (7, [.ref (ad 2), .ref (ad 3), .ref (ad 4), .int su_lines, .int su_length, .int su_perNote, .int su_above])), ((ad 2), .inl (kc 0, 18, .inl su_numbers)), ((ad 8), .inr (5, [.ref (ad 1)]))]) (w1 := (wd_SpeciesSolver_distance kc )) (ws1 := (wd_Rules_isLeaping kc ad su_lines su_length su_perNote su_above su_numbers)) (As := [.int a1, .int a2]) (rest := []) (y := y_SpeciesSolver_distance) ⟨hx, hb, hml, hown, hts⟩ (fun sz => c_SpeciesSolver_distance hc2 sz) gw_550 (hN _ nw_548) gw_549 gw_111 hd_SpeciesSolver_distance ⟨Nat.le_of_ble_eq_true rfl, Nat.le_of_ble_eq_true rfl⟩ ⟨rfl, rfl⟩ ⟨Nat.zero_le _, Nat.zero_le _⟩ hK hN hP hD hS hA hX [] [0, 1, 2] [0, 1, 2] rfl rfl (by decide) (by decide) (by decide) rfl (by decide) rfl hl.1 rfl (Nat.le_of_ble_eq_true rfl) d_Rules_isLeaping_2 (fun H locs hP hD hS => ?_)
  refine lv_istore_n (lv' := [(3, .int u1), (0, .ref (ad 8)), (1, .int a1), (2, .int a2)]) hx hb d_Rules_isLeaping_5 rfl hl (by decide) rfl (fun ls hl => ?_)
  refine lv_iload_n hx hb d_Rules_isLeaping_6 rfl (lv_at hl 0 rfl) ?_
  refine lv_aload_n hx hb d_Rules_isLeaping_7 rfl (lv_at hl 1 rfl) ?_
  refine va_get (D := D) (ci := 5) (v := .ref (ad 1)) (C := R_Rules) (T := T_Rules) (N := 1) hx hb hts inG_Rules hown hK hP 2 rfl rfl 0 (by decide) (hts _ gw_207) (fun _ h9 => h9) rfl d_Rules_isLeaping_8 ?_
  refine va_getN (D := D) (ci := 7) (v := .ref (ad 2)) (C := R_Setup) (T := T_Setup) (N := 7) hx hb hts inG_Setup hown hK hP 0 rfl rfl 0 (by decide) (va_Nw.use rfl (hN _ nw_158)) (fun _ h9 => h9) rfl d_Rules_isLeaping_11 ?_
  refine lv_bipush (v := 9) hx hb d_Rules_isLeaping_14 (by decide) ?_
  refine va_iald hx hb hK hP 1 0 rfl rfl (in_lit (by decide)) d_Rules_isLeaping_16 ?_
  refine lv_icmp_gt (tgt := 36) hx hb d_Rules_isLeaping_17 (by decide) (fun c3 => ?_) (fun c3 => ?_)
  · replace hm := ifT hm c3
    refine lv_iconst (v := 1) hx hb d_Rules_isLeaping_36 (by decide) ?_
    refine lv_goto (tgt := 41) hx hb d_Rules_isLeaping_37 (by decide) ?_
    replace hm := Option.some.inj hm; subst hm
    exact zret_z (v := 1) C hP hD hS (by rfl) d_Rules_isLeaping_41
  · replace hm := ifF hm c3
    refine lv_iload_n hx hb d_Rules_isLeaping_20 rfl (lv_at hl 0 rfl) ?_
    refine lv_bipush (v := 24) hx hb d_Rules_isLeaping_21 (by decide) ?_
    refine lv_icmp_gt (tgt := 40) hx hb d_Rules_isLeaping_23 (by decide) (fun c4 => ?_) (fun c4 => ?_)
    · replace hm := ifT hm c4
      refine lv_iconst (v := 0) hx hb d_Rules_isLeaping_40 (by decide) ?_
      replace hm := Option.some.inj hm; subst hm
      exact zret_z (v := 0) C hP hD hS (by rfl) d_Rules_isLeaping_41
    · replace hm := ifF hm c4
      refine lv_aload_n hx hb d_Rules_isLeaping_26 rfl (lv_at hl 1 rfl) ?_
      refine lv_bipush (v := 7) hx hb d_Rules_isLeaping_27 (by decide) ?_
      refine lv_iload_n hx hb d_Rules_isLeaping_29 rfl (lv_at hl 0 rfl) ?_
      obtain ⟨u5, hc6, hm⟩ := bd_some hm
      refine zV_i (n := 2) (wr := []) (w1 := (wd_Rules_isIn kc ad su_lines su_length su_perNote su_above su_numbers)) (ws1 := (wd_Rules_isLeaping kc ad su_lines su_length su_perNote su_above su_numbers)) (As := [.int (7 : Int32), .int u1]) (rest := []) (ci := 5) (q0 := 2) (y := y_Rules_isIn) ⟨hx, hb, hml, hown, hts⟩ (fun sz => c_Rules_isIn hc6 sz) gw_524 gw_521 gw_523 gw_18 gw_114 hd_Rules_isIn ⟨Nat.le_of_ble_eq_true rfl, Nat.le_of_ble_eq_true rfl⟩ ⟨rfl, rfl⟩ ⟨Nat.zero_le _, Nat.zero_le _⟩ hK hN hP hD hS hA hX [0, 1, 2] [] [0, 1, 2] rfl rfl (by decide) (by decide) (by decide) rfl (by decide) rfl rfl rfl hl.1 rfl (Nat.le_of_ble_eq_true rfl) d_Rules_isLeaping_30 (fun H locs hP hD hS => ?_)
      refine lv_if_eq (tgt := 40) hx hb d_Rules_isLeaping_33 (by decide) (fun c7 => ?_) (fun c7 => ?_)
      · replace hm := ifT hm c7
        refine lv_iconst (v := 0) hx hb d_Rules_isLeaping_40 (by decide) ?_
        replace hm := Option.some.inj hm; subst hm
        exact zret_z (v := 0) C hP hD hS (by rfl) d_Rules_isLeaping_41
      · replace hm := ifF hm c7
        refine lv_iconst (v := 1) hx hb d_Rules_isLeaping_36 (by decide) ?_
        refine lv_goto (tgt := 41) hx hb d_Rules_isLeaping_37 (by decide) ?_
        replace hm := Option.some.inj hm; subst hm
        exact zret_z (v := 1) C hP hD hS (by rfl) d_Rules_isLeaping_41
set_option maxHeartbeats 4000000 in
set_option maxRecDepth 100000 in
theorem c_Rules_isLeaping {l : Launch} {D : va_G} {kc : Nat → ClassId} {r : Int32} {ad : Nat → Nat} {su_lines : Int32} {su_length : Int32} {su_perNote : Int32} {su_above : Int32} {su_numbers : Nat → Int32} {a1 : Int32} {a2 : Int32} (hm : m_Rules_isLeaping su_numbers a1 a2 = some r) (sz : Nat) : Ci l y_Rules_isLeaping ws_Rules_isLeaping rm_Rules_isLeaping D kc sz [.ref (ad 8), .int a1, .int a2] (wd_Rules_isLeaping kc ad su_lines su_length su_perNote su_above su_numbers) (wd_Rules_isLeaping kc ad su_lines su_length su_perNote su_above su_numbers) r :=
  Cz_of (Qf := fun A => (Qi D A (wd_Rules_isLeaping kc ad su_lines su_length su_perNote su_above su_numbers) r)) (cc := b_Rules_isLeaping) (maxL := 4) (ret := (some .boolean)) (by decide) rfl rfl (fun C hZ hl => e_Rules_isLeaping C hm hZ hl)
abbrev b_Rules_mustTurn : ByteArray := prog_5_method_14_code
abbrev y_Rules_mustTurn : MethodName := ⟨"SpeciesSolver$Rules", "mustTurn", "(II)Z"⟩
theorem d_Rules_mustTurn_0 : decode b_Rules_mustTurn 0 = .ok (.iload_n 1, 1) := by decide +kernel
theorem d_Rules_mustTurn_1 : decode b_Rules_mustTurn 1 = .ok (.iload_n 2, 1) := by decide +kernel
theorem d_Rules_mustTurn_2 : decode b_Rules_mustTurn 2 = .ok (.invokestatic 40, 3) := by decide +kernel
theorem d_Rules_mustTurn_5 : decode b_Rules_mustTurn 5 = .ok (.aload_n 0, 1) := by decide +kernel
theorem d_Rules_mustTurn_6 : decode b_Rules_mustTurn 6 = .ok (.getfield 9, 3) := by decide +kernel
theorem d_Rules_mustTurn_9 : decode b_Rules_mustTurn 9 = .ok (.getfield 15, 3) := by decide +kernel
theorem d_Rules_mustTurn_12 : decode b_Rules_mustTurn 12 = .ok (.bipush 10, 2) := by decide +kernel
theorem d_Rules_mustTurn_14 : decode b_Rules_mustTurn 14 = .ok (.iaload, 1) := by decide +kernel
theorem d_Rules_mustTurn_15 : decode b_Rules_mustTurn 15 = .ok (.if_icmp .le 7, 3) := by decide +kernel
theorem d_Rules_mustTurn_18 : decode b_Rules_mustTurn 18 = .ok (.iconst 1, 1) := by decide +kernel
theorem d_Rules_mustTurn_19 : decode b_Rules_mustTurn 19 = .ok (.goto 4, 3) := by decide +kernel
theorem d_Rules_mustTurn_22 : decode b_Rules_mustTurn 22 = .ok (.iconst 0, 1) := by decide +kernel
theorem d_Rules_mustTurn_23 : decode b_Rules_mustTurn 23 = .ok (.ireturn, 1) := by decide +kernel
abbrev wd_Rules_mustTurn (kc : Nat → ClassId) (ad : Nat → Nat) (su_lines : Int32) (su_length : Int32) (su_perNote : Int32) (su_above : Int32) (su_numbers : Nat → Int32) : va_W := [((ad 1), .inr (7, [.ref (ad 2), .ref (ad 3), .ref (ad 4), .int su_lines, .int su_length, .int su_perNote, .int su_above])), ((ad 2), .inl (kc 0, 18, .inl su_numbers)), ((ad 8), .inr (5, [.ref (ad 1)]))]
abbrev rm_Rules_mustTurn : Room := { frames := 1, cells := 0, slots := 0, locals := 21 }
abbrev cw_Rules_mustTurn : Cond := .code y_Rules_mustTurn b_Rules_mustTurn 3 (some .boolean)
abbrev ws_Rules_mustTurn : List Cond := cw_Rules_mustTurn :: GW
theorem hd_Rules_mustTurn : y_Rules_mustTurn.cls ≠ "java/lang/invoke/MethodHandle" ∧ y_Rules_mustTurn.cls ≠ "java/lang/invoke/VarHandle" ∧ (parseMethodDescriptor y_Rules_mustTurn.desc).map (fun d => d.parameters.length) = some 2 := by decide +kernel
def m_Rules_mustTurn (su_numbers : Nat → Int32)  (a1 : Int32) (a2 : Int32) : Option (Int32) :=
  (bd (m_SpeciesSolver_distance a1 a2) (fun u1 => (if u1 ≤ (su_numbers (Int32.toNatClampNeg (10 : Int32))) then
    (some (0 : Int32))
  else
    (some (1 : Int32)))))
set_option maxHeartbeats 4000000 in
set_option maxRecDepth 100000 in
theorem e_Rules_mustTurn {r : Int32} {ad : Nat → Nat} {su_lines : Int32} {su_length : Int32} {su_perNote : Int32} {su_above : Int32} {su_numbers : Nat → Int32} {a1 : Int32} {a2 : Int32} {H : Heap} {locs : List Loc} {ls : Array Slot} (C : Cx p s m meth c args A D kc R_Rules b_Rules_mustTurn 3 (some .boolean)) (hm : m_Rules_mustTurn su_numbers a1 a2 = some r) (hZ : St D A s (wd_Rules_mustTurn kc ad su_lines su_length su_perNote su_above su_numbers) H locs) (hl : lv_has ls 3 [(0, .ref (ad 8)), (1, .int a1), (2, .int a2)]) : W p l e rm_Rules_mustTurn s m args below meth c H locs 0 0 (MQ below (Qi D A (wd_Rules_mustTurn kc ad su_lines su_length su_perNote su_above su_numbers) r) args s 0 0 A) (F0 m 0 ls []) := by
  obtain ⟨hx, hb, hr, hts, hown, hml, hlocks, hK, hN, hA, hX⟩ := id C
  obtain ⟨hP, hD, hS⟩ := hZ
  unfold m_Rules_mustTurn at hm
  refine lv_iload_n hx hb d_Rules_mustTurn_0 rfl (lv_at hl 1 rfl) ?_
  refine lv_iload_n hx hb d_Rules_mustTurn_1 rfl (lv_at hl 2 rfl) ?_
  obtain ⟨u1, hc2, hm⟩ := bd_some hm
  refine zSN_i (n := 2) (wr := [((ad 1), .inr (7, [.ref (ad 2), .ref (ad 3), .ref (ad 4), .int su_lines, .int su_length, .int su_perNote, .int su_above])), ((ad 2), .inl (kc 0, 18, .inl su_numbers)), ((ad 8), .inr (5, [.ref (ad 1)]))]) (w1 := (wd_SpeciesSolver_distance kc )) (ws1 := (wd_Rules_mustTurn kc ad su_lines su_length su_perNote su_above su_numbers)) (As := [.int a1, .int a2]) (rest := []) (y := y_SpeciesSolver_distance) ⟨hx, hb, hml, hown, hts⟩ (fun sz => c_SpeciesSolver_distance hc2 sz) gw_550 (hN _ nw_548) gw_549 gw_111 hd_SpeciesSolver_distance ⟨Nat.le_of_ble_eq_true rfl, Nat.le_of_ble_eq_true rfl⟩ ⟨rfl, rfl⟩ ⟨Nat.zero_le _, Nat.zero_le _⟩ hK hN hP hD hS hA hX [] [0, 1, 2] [0, 1, 2] rfl rfl (by decide) (by decide) (by decide) rfl (by decide) rfl hl.1 rfl (Nat.le_of_ble_eq_true rfl) d_Rules_mustTurn_2 (fun H locs hP hD hS => ?_)
  refine lv_aload_n hx hb d_Rules_mustTurn_5 rfl (lv_at hl 0 rfl) ?_
  refine va_get (D := D) (ci := 5) (v := .ref (ad 1)) (C := R_Rules) (T := T_Rules) (N := 1) hx hb hts inG_Rules hown hK hP 2 rfl rfl 0 (by decide) (hts _ gw_207) (fun _ h9 => h9) rfl d_Rules_mustTurn_6 ?_
  refine va_getN (D := D) (ci := 7) (v := .ref (ad 2)) (C := R_Setup) (T := T_Setup) (N := 7) hx hb hts inG_Setup hown hK hP 0 rfl rfl 0 (by decide) (va_Nw.use rfl (hN _ nw_158)) (fun _ h9 => h9) rfl d_Rules_mustTurn_9 ?_
  refine lv_bipush (v := 10) hx hb d_Rules_mustTurn_12 (by decide) ?_
  refine va_iald hx hb hK hP 1 0 rfl rfl (in_lit (by decide)) d_Rules_mustTurn_14 ?_
  refine lv_icmp_le (tgt := 22) hx hb d_Rules_mustTurn_15 (by decide) (fun c3 => ?_) (fun c3 => ?_)
  · replace hm := ifT hm c3
    refine lv_iconst (v := 0) hx hb d_Rules_mustTurn_22 (by decide) ?_
    replace hm := Option.some.inj hm; subst hm
    exact zret_z (v := 0) C hP hD hS (by rfl) d_Rules_mustTurn_23
  · replace hm := ifF hm c3
    refine lv_iconst (v := 1) hx hb d_Rules_mustTurn_18 (by decide) ?_
    refine lv_goto (tgt := 23) hx hb d_Rules_mustTurn_19 (by decide) ?_
    replace hm := Option.some.inj hm; subst hm
    exact zret_z (v := 1) C hP hD hS (by rfl) d_Rules_mustTurn_23
set_option maxHeartbeats 4000000 in
set_option maxRecDepth 100000 in
theorem c_Rules_mustTurn {l : Launch} {D : va_G} {kc : Nat → ClassId} {r : Int32} {ad : Nat → Nat} {su_lines : Int32} {su_length : Int32} {su_perNote : Int32} {su_above : Int32} {su_numbers : Nat → Int32} {a1 : Int32} {a2 : Int32} (hm : m_Rules_mustTurn su_numbers a1 a2 = some r) (sz : Nat) : Ci l y_Rules_mustTurn ws_Rules_mustTurn rm_Rules_mustTurn D kc sz [.ref (ad 8), .int a1, .int a2] (wd_Rules_mustTurn kc ad su_lines su_length su_perNote su_above su_numbers) (wd_Rules_mustTurn kc ad su_lines su_length su_perNote su_above su_numbers) r :=
  Cz_of (Qf := fun A => (Qi D A (wd_Rules_mustTurn kc ad su_lines su_length su_perNote su_above su_numbers) r)) (cc := b_Rules_mustTurn) (maxL := 3) (ret := (some .boolean)) (by decide) rfl rfl (fun C hZ hl => e_Rules_mustTurn C hm hZ hl)
abbrev b_Rules_isStepwise : ByteArray := prog_5_method_7_code
abbrev y_Rules_isStepwise : MethodName := ⟨"SpeciesSolver$Rules", "isStepwise", "(II)Z"⟩
theorem d_Rules_isStepwise_0 : decode b_Rules_isStepwise 0 = .ok (.iload_n 1, 1) := by decide +kernel
theorem d_Rules_isStepwise_1 : decode b_Rules_isStepwise 1 = .ok (.iload_n 2, 1) := by decide +kernel
theorem d_Rules_isStepwise_2 : decode b_Rules_isStepwise 2 = .ok (.if_icmp .eq 25, 3) := by decide +kernel
theorem d_Rules_isStepwise_5 : decode b_Rules_isStepwise 5 = .ok (.iload_n 1, 1) := by decide +kernel
theorem d_Rules_isStepwise_6 : decode b_Rules_isStepwise 6 = .ok (.iload_n 2, 1) := by decide +kernel
theorem d_Rules_isStepwise_7 : decode b_Rules_isStepwise 7 = .ok (.invokestatic 40, 3) := by decide +kernel
theorem d_Rules_isStepwise_10 : decode b_Rules_isStepwise 10 = .ok (.aload_n 0, 1) := by decide +kernel
theorem d_Rules_isStepwise_11 : decode b_Rules_isStepwise 11 = .ok (.getfield 9, 3) := by decide +kernel
theorem d_Rules_isStepwise_14 : decode b_Rules_isStepwise 14 = .ok (.getfield 15, 3) := by decide +kernel
theorem d_Rules_isStepwise_17 : decode b_Rules_isStepwise 17 = .ok (.bipush 8, 2) := by decide +kernel
theorem d_Rules_isStepwise_19 : decode b_Rules_isStepwise 19 = .ok (.iaload, 1) := by decide +kernel
theorem d_Rules_isStepwise_20 : decode b_Rules_isStepwise 20 = .ok (.if_icmp .gt 7, 3) := by decide +kernel
theorem d_Rules_isStepwise_23 : decode b_Rules_isStepwise 23 = .ok (.iconst 1, 1) := by decide +kernel
theorem d_Rules_isStepwise_24 : decode b_Rules_isStepwise 24 = .ok (.goto 4, 3) := by decide +kernel
theorem d_Rules_isStepwise_27 : decode b_Rules_isStepwise 27 = .ok (.iconst 0, 1) := by decide +kernel
theorem d_Rules_isStepwise_28 : decode b_Rules_isStepwise 28 = .ok (.ireturn, 1) := by decide +kernel
abbrev wd_Rules_isStepwise (kc : Nat → ClassId) (ad : Nat → Nat) (su_lines : Int32) (su_length : Int32) (su_perNote : Int32) (su_above : Int32) (su_numbers : Nat → Int32) : va_W := [((ad 1), .inr (7, [.ref (ad 2), .ref (ad 3), .ref (ad 4), .int su_lines, .int su_length, .int su_perNote, .int su_above])), ((ad 2), .inl (kc 0, 18, .inl su_numbers)), ((ad 8), .inr (5, [.ref (ad 1)]))]
abbrev rm_Rules_isStepwise : Room := { frames := 1, cells := 0, slots := 0, locals := 21 }
abbrev cw_Rules_isStepwise : Cond := .code y_Rules_isStepwise b_Rules_isStepwise 3 (some .boolean)
abbrev ws_Rules_isStepwise : List Cond := cw_Rules_isStepwise :: GW
theorem hd_Rules_isStepwise : y_Rules_isStepwise.cls ≠ "java/lang/invoke/MethodHandle" ∧ y_Rules_isStepwise.cls ≠ "java/lang/invoke/VarHandle" ∧ (parseMethodDescriptor y_Rules_isStepwise.desc).map (fun d => d.parameters.length) = some 2 := by decide +kernel
def m_Rules_isStepwise (su_numbers : Nat → Int32)  (a1 : Int32) (a2 : Int32) : Option (Int32) :=
  (if a1 = a2 then
    (some (0 : Int32))
  else
    (bd (m_SpeciesSolver_distance a1 a2) (fun u2 => (if (su_numbers (Int32.toNatClampNeg (8 : Int32))) < u2 then
      (some (0 : Int32))
    else
      (some (1 : Int32))))))
set_option maxHeartbeats 4000000 in
set_option maxRecDepth 100000 in
theorem e_Rules_isStepwise {r : Int32} {ad : Nat → Nat} {su_lines : Int32} {su_length : Int32} {su_perNote : Int32} {su_above : Int32} {su_numbers : Nat → Int32} {a1 : Int32} {a2 : Int32} {H : Heap} {locs : List Loc} {ls : Array Slot} (C : Cx p s m meth c args A D kc R_Rules b_Rules_isStepwise 3 (some .boolean)) (hm : m_Rules_isStepwise su_numbers a1 a2 = some r) (hZ : St D A s (wd_Rules_isStepwise kc ad su_lines su_length su_perNote su_above su_numbers) H locs) (hl : lv_has ls 3 [(0, .ref (ad 8)), (1, .int a1), (2, .int a2)]) : W p l e rm_Rules_isStepwise s m args below meth c H locs 0 0 (MQ below (Qi D A (wd_Rules_isStepwise kc ad su_lines su_length su_perNote su_above su_numbers) r) args s 0 0 A) (F0 m 0 ls []) := by
  obtain ⟨hx, hb, hr, hts, hown, hml, hlocks, hK, hN, hA, hX⟩ := id C
  obtain ⟨hP, hD, hS⟩ := hZ
  unfold m_Rules_isStepwise at hm
  refine lv_iload_n hx hb d_Rules_isStepwise_0 rfl (lv_at hl 1 rfl) ?_
  refine lv_iload_n hx hb d_Rules_isStepwise_1 rfl (lv_at hl 2 rfl) ?_
  refine lv_icmp_eq (tgt := 27) hx hb d_Rules_isStepwise_2 (by decide) (fun c1 => ?_) (fun c1 => ?_)
  · replace hm := ifT hm c1
    refine lv_iconst (v := 0) hx hb d_Rules_isStepwise_27 (by decide) ?_
    replace hm := Option.some.inj hm; subst hm
    exact zret_z (v := 0) C hP hD hS (by rfl) d_Rules_isStepwise_28
  · replace hm := ifF hm c1
    refine lv_iload_n hx hb d_Rules_isStepwise_5 rfl (lv_at hl 1 rfl) ?_
    refine lv_iload_n hx hb d_Rules_isStepwise_6 rfl (lv_at hl 2 rfl) ?_
    obtain ⟨u2, hc3, hm⟩ := bd_some hm
    refine zSN_i (n := 2) (wr := [((ad 1), .inr (7, [.ref (ad 2), .ref (ad 3), .ref (ad 4), .int su_lines, .int su_length, .int su_perNote, .int su_above])), ((ad 2), .inl (kc 0, 18, .inl su_numbers)), ((ad 8), .inr (5, [.ref (ad 1)]))]) (w1 := (wd_SpeciesSolver_distance kc )) (ws1 := (wd_Rules_isStepwise kc ad su_lines su_length su_perNote su_above su_numbers)) (As := [.int a1, .int a2]) (rest := []) (y := y_SpeciesSolver_distance) ⟨hx, hb, hml, hown, hts⟩ (fun sz => c_SpeciesSolver_distance hc3 sz) gw_550 (hN _ nw_548) gw_549 gw_111 hd_SpeciesSolver_distance ⟨Nat.le_of_ble_eq_true rfl, Nat.le_of_ble_eq_true rfl⟩ ⟨rfl, rfl⟩ ⟨Nat.zero_le _, Nat.zero_le _⟩ hK hN hP hD hS hA hX [] [0, 1, 2] [0, 1, 2] rfl rfl (by decide) (by decide) (by decide) rfl (by decide) rfl hl.1 rfl (Nat.le_of_ble_eq_true rfl) d_Rules_isStepwise_7 (fun H locs hP hD hS => ?_)
    refine lv_aload_n hx hb d_Rules_isStepwise_10 rfl (lv_at hl 0 rfl) ?_
    refine va_get (D := D) (ci := 5) (v := .ref (ad 1)) (C := R_Rules) (T := T_Rules) (N := 1) hx hb hts inG_Rules hown hK hP 2 rfl rfl 0 (by decide) (hts _ gw_207) (fun _ h9 => h9) rfl d_Rules_isStepwise_11 ?_
    refine va_getN (D := D) (ci := 7) (v := .ref (ad 2)) (C := R_Setup) (T := T_Setup) (N := 7) hx hb hts inG_Setup hown hK hP 0 rfl rfl 0 (by decide) (va_Nw.use rfl (hN _ nw_158)) (fun _ h9 => h9) rfl d_Rules_isStepwise_14 ?_
    refine lv_bipush (v := 8) hx hb d_Rules_isStepwise_17 (by decide) ?_
    refine va_iald hx hb hK hP 1 0 rfl rfl (in_lit (by decide)) d_Rules_isStepwise_19 ?_
    refine lv_icmp_gt (tgt := 27) hx hb d_Rules_isStepwise_20 (by decide) (fun c4 => ?_) (fun c4 => ?_)
    · replace hm := ifT hm c4
      refine lv_iconst (v := 0) hx hb d_Rules_isStepwise_27 (by decide) ?_
      replace hm := Option.some.inj hm; subst hm
      exact zret_z (v := 0) C hP hD hS (by rfl) d_Rules_isStepwise_28
    · replace hm := ifF hm c4
      refine lv_iconst (v := 1) hx hb d_Rules_isStepwise_23 (by decide) ?_
      refine lv_goto (tgt := 28) hx hb d_Rules_isStepwise_24 (by decide) ?_
      replace hm := Option.some.inj hm; subst hm
      exact zret_z (v := 1) C hP hD hS (by rfl) d_Rules_isStepwise_28
set_option maxHeartbeats 4000000 in
set_option maxRecDepth 100000 in
theorem c_Rules_isStepwise {l : Launch} {D : va_G} {kc : Nat → ClassId} {r : Int32} {ad : Nat → Nat} {su_lines : Int32} {su_length : Int32} {su_perNote : Int32} {su_above : Int32} {su_numbers : Nat → Int32} {a1 : Int32} {a2 : Int32} (hm : m_Rules_isStepwise su_numbers a1 a2 = some r) (sz : Nat) : Ci l y_Rules_isStepwise ws_Rules_isStepwise rm_Rules_isStepwise D kc sz [.ref (ad 8), .int a1, .int a2] (wd_Rules_isStepwise kc ad su_lines su_length su_perNote su_above su_numbers) (wd_Rules_isStepwise kc ad su_lines su_length su_perNote su_above su_numbers) r :=
  Cz_of (Qf := fun A => (Qi D A (wd_Rules_isStepwise kc ad su_lines su_length su_perNote su_above su_numbers) r)) (cc := b_Rules_isStepwise) (maxL := 3) (ret := (some .boolean)) (by decide) rfl rfl (fun C hZ hl => e_Rules_isStepwise C hm hZ hl)
end
