section
variable {p : Program} {l : Launch} {e : Env} {s : State} {m : MethodId} {args : Array Value} {below : List Frame} {meth : Method} {c : Code} {D : va_G} {kc : Nat → ClassId} {A : Nat → Prop}
abbrev b_Prices_isBadTurn : ByteArray := prog_4_method_9_code
abbrev y_Prices_isBadTurn : MethodName := ⟨"SpeciesSolver$Prices", "isBadTurn", "(IIII)Z"⟩
theorem d_Prices_isBadTurn_0 : decode b_Prices_isBadTurn 0 = .ok (.iload_n 2, 1) := by decide +kernel
theorem d_Prices_isBadTurn_1 : decode b_Prices_isBadTurn 1 = .ok (.bipush 8, 2) := by decide +kernel
theorem d_Prices_isBadTurn_3 : decode b_Prices_isBadTurn 3 = .ok (.imul, 1) := by decide +kernel
theorem d_Prices_isBadTurn_4 : decode b_Prices_isBadTurn 4 = .ok (.iload_n 3, 1) := by decide +kernel
theorem d_Prices_isBadTurn_5 : decode b_Prices_isBadTurn 5 = .ok (.iadd, 1) := by decide +kernel
theorem d_Prices_isBadTurn_6 : decode b_Prices_isBadTurn 6 = .ok (.bipush 8, 2) := by decide +kernel
theorem d_Prices_isBadTurn_8 : decode b_Prices_isBadTurn 8 = .ok (.imul, 1) := by decide +kernel
theorem d_Prices_isBadTurn_9 : decode b_Prices_isBadTurn 9 = .ok (.iload 4, 2) := by decide +kernel
theorem d_Prices_isBadTurn_11 : decode b_Prices_isBadTurn 11 = .ok (.iadd, 1) := by decide +kernel
theorem d_Prices_isBadTurn_12 : decode b_Prices_isBadTurn 12 = .ok (.istore 5, 2) := by decide +kernel
theorem d_Prices_isBadTurn_14 : decode b_Prices_isBadTurn 14 = .ok (.iload_n 1, 1) := by decide +kernel
theorem d_Prices_isBadTurn_15 : decode b_Prices_isBadTurn 15 = .ok (.iconst 2, 1) := by decide +kernel
theorem d_Prices_isBadTurn_16 : decode b_Prices_isBadTurn 16 = .ok (.if_icmp .lt 43, 3) := by decide +kernel
theorem d_Prices_isBadTurn_19 : decode b_Prices_isBadTurn 19 = .ok (.aload_n 0, 1) := by decide +kernel
theorem d_Prices_isBadTurn_20 : decode b_Prices_isBadTurn 20 = .ok (.getfield 31, 3) := by decide +kernel
theorem d_Prices_isBadTurn_23 : decode b_Prices_isBadTurn 23 = .ok (.iload 5, 2) := by decide +kernel
theorem d_Prices_isBadTurn_25 : decode b_Prices_isBadTurn 25 = .ok (.baload, 1) := by decide +kernel
theorem d_Prices_isBadTurn_26 : decode b_Prices_isBadTurn 26 = .ok (.ifCond .ne 29, 3) := by decide +kernel
theorem d_Prices_isBadTurn_29 : decode b_Prices_isBadTurn 29 = .ok (.aload_n 0, 1) := by decide +kernel
theorem d_Prices_isBadTurn_30 : decode b_Prices_isBadTurn 30 = .ok (.getfield 18, 3) := by decide +kernel
theorem d_Prices_isBadTurn_33 : decode b_Prices_isBadTurn 33 = .ok (.iload_n 1, 1) := by decide +kernel
theorem d_Prices_isBadTurn_34 : decode b_Prices_isBadTurn 34 = .ok (.iconst 1, 1) := by decide +kernel
theorem d_Prices_isBadTurn_35 : decode b_Prices_isBadTurn 35 = .ok (.isub, 1) := by decide +kernel
theorem d_Prices_isBadTurn_36 : decode b_Prices_isBadTurn 36 = .ok (.bipush 8, 2) := by decide +kernel
theorem d_Prices_isBadTurn_38 : decode b_Prices_isBadTurn 38 = .ok (.imul, 1) := by decide +kernel
theorem d_Prices_isBadTurn_39 : decode b_Prices_isBadTurn 39 = .ok (.iload_n 3, 1) := by decide +kernel
theorem d_Prices_isBadTurn_40 : decode b_Prices_isBadTurn 40 = .ok (.iadd, 1) := by decide +kernel
theorem d_Prices_isBadTurn_41 : decode b_Prices_isBadTurn 41 = .ok (.baload, 1) := by decide +kernel
theorem d_Prices_isBadTurn_42 : decode b_Prices_isBadTurn 42 = .ok (.ifCond .eq 17, 3) := by decide +kernel
theorem d_Prices_isBadTurn_45 : decode b_Prices_isBadTurn 45 = .ok (.aload_n 0, 1) := by decide +kernel
theorem d_Prices_isBadTurn_46 : decode b_Prices_isBadTurn 46 = .ok (.getfield 34, 3) := by decide +kernel
theorem d_Prices_isBadTurn_49 : decode b_Prices_isBadTurn 49 = .ok (.iload 5, 2) := by decide +kernel
theorem d_Prices_isBadTurn_51 : decode b_Prices_isBadTurn 51 = .ok (.baload, 1) := by decide +kernel
theorem d_Prices_isBadTurn_52 : decode b_Prices_isBadTurn 52 = .ok (.ifCond .ne 7, 3) := by decide +kernel
theorem d_Prices_isBadTurn_55 : decode b_Prices_isBadTurn 55 = .ok (.iconst 1, 1) := by decide +kernel
theorem d_Prices_isBadTurn_56 : decode b_Prices_isBadTurn 56 = .ok (.goto 4, 3) := by decide +kernel
theorem d_Prices_isBadTurn_59 : decode b_Prices_isBadTurn 59 = .ok (.iconst 0, 1) := by decide +kernel
theorem d_Prices_isBadTurn_60 : decode b_Prices_isBadTurn 60 = .ok (.ireturn, 1) := by decide +kernel
abbrev wd_Prices_isBadTurn (kc : Nat → ClassId) (ad : Nat → Nat) (pr_size : Int32) (pr_total : Int32) (pr_perNote : Int32) (pr_mostAlike : Int32) (pr_mustPass : Nat → Int32) (pr_badTurns : Nat → Int32) (pr_passings : Nat → Int32) : va_W := [((ad 13), .inr (4, [.ref (ad 1), .ref (ad 8), .ref (ad 14), .ref (ad 15), .ref (ad 16), .ref (ad 17), .ref (ad 18), .ref (ad 19), .ref (ad 20), .ref (ad 21), .ref (ad 22), .int pr_size, .int pr_total, .int pr_perNote, .int pr_mostAlike])), ((ad 16), .inl (kc 1, 360, .inl pr_mustPass)), ((ad 20), .inl (kc 1, 512, .inl pr_badTurns)), ((ad 21), .inl (kc 1, 512, .inl pr_passings))]
abbrev rm_Prices_isBadTurn : Room := { frames := 0, cells := 0, slots := 0, locals := 0 }
abbrev cw_Prices_isBadTurn : Cond := .code y_Prices_isBadTurn b_Prices_isBadTurn 6 (some .boolean)
abbrev ws_Prices_isBadTurn : List Cond := cw_Prices_isBadTurn :: GW
theorem hd_Prices_isBadTurn : y_Prices_isBadTurn.cls ≠ "java/lang/invoke/MethodHandle" ∧ y_Prices_isBadTurn.cls ≠ "java/lang/invoke/VarHandle" ∧ (parseMethodDescriptor y_Prices_isBadTurn.desc).map (fun d => d.parameters.length) = some 4 := by decide +kernel
def m_Prices_isBadTurn (pr_mustPass : Nat → Int32) (pr_badTurns : Nat → Int32) (pr_passings : Nat → Int32)  (a1 : Int32) (a2 : Int32) (a3 : Int32) (a4 : Int32) : Option (Int32) :=
  (if a1 < (2 : Int32) then
    (some (0 : Int32))
  else
    (gd ((((a2 * (8 : Int32)) + a3) * (8 : Int32)) + a4) 512 (if (pr_badTurns (Int32.toNatClampNeg ((((a2 * (8 : Int32)) + a3) * (8 : Int32)) + a4))) = (0 : Int32) then
      (gd (((a1 - (1 : Int32)) * (8 : Int32)) + a3) 360 (if (pr_mustPass (Int32.toNatClampNeg (((a1 - (1 : Int32)) * (8 : Int32)) + a3))) = (0 : Int32) then
        (some (0 : Int32))
      else
        (gd ((((a2 * (8 : Int32)) + a3) * (8 : Int32)) + a4) 512 (if (pr_passings (Int32.toNatClampNeg ((((a2 * (8 : Int32)) + a3) * (8 : Int32)) + a4))) = (0 : Int32) then
          (some (1 : Int32))
        else
          (some (0 : Int32))))))
    else
      (some (1 : Int32)))))
set_option maxHeartbeats 4000000 in
set_option maxRecDepth 100000 in
theorem e_Prices_isBadTurn {r : Int32} {ad : Nat → Nat} {pr_size : Int32} {pr_total : Int32} {pr_perNote : Int32} {pr_mostAlike : Int32} {pr_mustPass : Nat → Int32} {pr_badTurns : Nat → Int32} {pr_passings : Nat → Int32} {a1 : Int32} {a2 : Int32} {a3 : Int32} {a4 : Int32} {H : Heap} {locs : List Loc} {ls : Array Slot} (C : Cx p s m meth c args A D kc R_Prices b_Prices_isBadTurn 6 (some .boolean)) (hm : m_Prices_isBadTurn pr_mustPass pr_badTurns pr_passings a1 a2 a3 a4 = some r) (hZ : St D A s (wd_Prices_isBadTurn kc ad pr_size pr_total pr_perNote pr_mostAlike pr_mustPass pr_badTurns pr_passings) H locs) (hl : lv_has ls 6 [(0, .ref (ad 13)), (1, .int a1), (2, .int a2), (3, .int a3), (4, .int a4)]) : W p l e rm_Prices_isBadTurn s m args below meth c H locs 0 0 (MQ below (Qi D A (wd_Prices_isBadTurn kc ad pr_size pr_total pr_perNote pr_mostAlike pr_mustPass pr_badTurns pr_passings) r) args s 0 0 A) (F0 m 0 ls []) := by
  obtain ⟨hx, hb, hr, hts, hown, hml, hlocks, hK, hN, hA, hX⟩ := id C
  obtain ⟨hP, hD, hS⟩ := hZ
  unfold m_Prices_isBadTurn at hm
  refine lv_iload_n hx hb d_Prices_isBadTurn_0 rfl (lv_at hl 2 rfl) ?_
  refine lv_bipush (v := 8) hx hb d_Prices_isBadTurn_1 (by decide) ?_
  refine lv_imul hx hb d_Prices_isBadTurn_3 ?_
  refine lv_iload_n hx hb d_Prices_isBadTurn_4 rfl (lv_at hl 3 rfl) ?_
  refine lv_iadd hx hb d_Prices_isBadTurn_5 ?_
  refine lv_bipush (v := 8) hx hb d_Prices_isBadTurn_6 (by decide) ?_
  refine lv_imul hx hb d_Prices_isBadTurn_8 ?_
  refine lv_iload hx hb d_Prices_isBadTurn_9 (lv_at hl 4 rfl) ?_
  refine lv_iadd hx hb d_Prices_isBadTurn_11 ?_
  refine lv_istore (lv' := [(5, .int ((((a2 * (8 : Int32)) + a3) * (8 : Int32)) + a4)), (0, .ref (ad 13)), (1, .int a1), (2, .int a2), (3, .int a3), (4, .int a4)]) hx hb d_Prices_isBadTurn_12 hl (by decide) rfl (fun ls hl => ?_)
  refine lv_iload_n hx hb d_Prices_isBadTurn_14 rfl (lv_at hl 2 rfl) ?_
  refine lv_iconst (v := 2) hx hb d_Prices_isBadTurn_15 (by decide) ?_
  refine lv_icmp_lt (tgt := 59) hx hb d_Prices_isBadTurn_16 (by decide) (fun c1 => ?_) (fun c1 => ?_)
  · replace hm := ifT hm c1
    refine lv_iconst (v := 0) hx hb d_Prices_isBadTurn_59 (by decide) ?_
    replace hm := Option.some.inj hm; subst hm
    exact zret_z (v := 0) C hP hD hS (by rfl) d_Prices_isBadTurn_60
  · replace hm := ifF hm c1
    refine lv_aload_n hx hb d_Prices_isBadTurn_19 rfl (lv_at hl 1 rfl) ?_
    refine va_get (D := D) (ci := 4) (v := .ref (ad 20)) (C := R_Prices) (T := T_Prices) (N := 15) hx hb hts inG_Prices hown hK hP 0 rfl rfl 8 (by decide) (hts _ gw_260) (fun _ h9 => h9) rfl d_Prices_isBadTurn_20 ?_
    refine lv_iload hx hb d_Prices_isBadTurn_23 (lv_at hl 0 rfl) ?_
    obtain ⟨hi2, hm⟩ := gd_some hm
    refine va_zald hx hb hK hP 2 1 rfl rfl hi2 d_Prices_isBadTurn_25 ?_
    refine lv_if_ne (tgt := 55) hx hb d_Prices_isBadTurn_26 (by decide) (fun c3 => ?_) (fun c3 => ?_)
    · replace hm := ifF hm c3
      refine lv_iconst (v := 1) hx hb d_Prices_isBadTurn_55 (by decide) ?_
      refine lv_goto (tgt := 60) hx hb d_Prices_isBadTurn_56 (by decide) ?_
      replace hm := Option.some.inj hm; subst hm
      exact zret_z (v := 1) C hP hD hS (by rfl) d_Prices_isBadTurn_60
    · replace hm := ifT hm c3
      refine lv_aload_n hx hb d_Prices_isBadTurn_29 rfl (lv_at hl 1 rfl) ?_
      refine va_get (D := D) (ci := 4) (v := .ref (ad 16)) (C := R_Prices) (T := T_Prices) (N := 15) hx hb hts inG_Prices hown hK hP 0 rfl rfl 4 (by decide) (hts _ gw_254) (fun _ h9 => h9) rfl d_Prices_isBadTurn_30 ?_
      refine lv_iload_n hx hb d_Prices_isBadTurn_33 rfl (lv_at hl 2 rfl) ?_
      refine lv_iconst (v := 1) hx hb d_Prices_isBadTurn_34 (by decide) ?_
      refine lv_isub hx hb d_Prices_isBadTurn_35 ?_
      refine lv_bipush (v := 8) hx hb d_Prices_isBadTurn_36 (by decide) ?_
      refine lv_imul hx hb d_Prices_isBadTurn_38 ?_
      refine lv_iload_n hx hb d_Prices_isBadTurn_39 rfl (lv_at hl 4 rfl) ?_
      refine lv_iadd hx hb d_Prices_isBadTurn_40 ?_
      obtain ⟨hi4, hm⟩ := gd_some hm
      refine va_zald hx hb hK hP 1 1 rfl rfl hi4 d_Prices_isBadTurn_41 ?_
      refine lv_if_eq (tgt := 59) hx hb d_Prices_isBadTurn_42 (by decide) (fun c5 => ?_) (fun c5 => ?_)
      · replace hm := ifT hm c5
        refine lv_iconst (v := 0) hx hb d_Prices_isBadTurn_59 (by decide) ?_
        replace hm := Option.some.inj hm; subst hm
        exact zret_z (v := 0) C hP hD hS (by rfl) d_Prices_isBadTurn_60
      · replace hm := ifF hm c5
        refine lv_aload_n hx hb d_Prices_isBadTurn_45 rfl (lv_at hl 1 rfl) ?_
        refine va_get (D := D) (ci := 4) (v := .ref (ad 21)) (C := R_Prices) (T := T_Prices) (N := 15) hx hb hts inG_Prices hown hK hP 0 rfl rfl 9 (by decide) (hts _ gw_261) (fun _ h9 => h9) rfl d_Prices_isBadTurn_46 ?_
        refine lv_iload hx hb d_Prices_isBadTurn_49 (lv_at hl 0 rfl) ?_
        obtain ⟨hi6, hm⟩ := gd_some hm
        refine va_zald hx hb hK hP 3 1 rfl rfl hi6 d_Prices_isBadTurn_51 ?_
        refine lv_if_ne (tgt := 59) hx hb d_Prices_isBadTurn_52 (by decide) (fun c7 => ?_) (fun c7 => ?_)
        · replace hm := ifF hm c7
          refine lv_iconst (v := 0) hx hb d_Prices_isBadTurn_59 (by decide) ?_
          replace hm := Option.some.inj hm; subst hm
          exact zret_z (v := 0) C hP hD hS (by rfl) d_Prices_isBadTurn_60
        · replace hm := ifT hm c7
          refine lv_iconst (v := 1) hx hb d_Prices_isBadTurn_55 (by decide) ?_
          refine lv_goto (tgt := 60) hx hb d_Prices_isBadTurn_56 (by decide) ?_
          replace hm := Option.some.inj hm; subst hm
          exact zret_z (v := 1) C hP hD hS (by rfl) d_Prices_isBadTurn_60
set_option maxHeartbeats 4000000 in
set_option maxRecDepth 100000 in
theorem c_Prices_isBadTurn {l : Launch} {D : va_G} {kc : Nat → ClassId} {r : Int32} {ad : Nat → Nat} {pr_size : Int32} {pr_total : Int32} {pr_perNote : Int32} {pr_mostAlike : Int32} {pr_mustPass : Nat → Int32} {pr_badTurns : Nat → Int32} {pr_passings : Nat → Int32} {a1 : Int32} {a2 : Int32} {a3 : Int32} {a4 : Int32} (hm : m_Prices_isBadTurn pr_mustPass pr_badTurns pr_passings a1 a2 a3 a4 = some r) (sz : Nat) : Ci l y_Prices_isBadTurn ws_Prices_isBadTurn rm_Prices_isBadTurn D kc sz [.ref (ad 13), .int a1, .int a2, .int a3, .int a4] (wd_Prices_isBadTurn kc ad pr_size pr_total pr_perNote pr_mostAlike pr_mustPass pr_badTurns pr_passings) (wd_Prices_isBadTurn kc ad pr_size pr_total pr_perNote pr_mostAlike pr_mustPass pr_badTurns pr_passings) r :=
  Cz_of (Qf := fun A => (Qi D A (wd_Prices_isBadTurn kc ad pr_size pr_total pr_perNote pr_mostAlike pr_mustPass pr_badTurns pr_passings) r)) (cc := b_Prices_isBadTurn) (maxL := 6) (ret := (some .boolean)) (by decide) rfl rfl (fun C hZ hl => e_Prices_isBadTurn C hm hZ hl)
abbrev b_Search_isBadEnd : ByteArray := prog_6_method_14_code
abbrev y_Search_isBadEnd : MethodName := ⟨"SpeciesSolver$Search", "isBadEnd", "(II)Z"⟩
theorem d_Search_isBadEnd_0 : decode b_Search_isBadEnd 0 = .ok (.aload_n 0, 1) := by decide +kernel
theorem d_Search_isBadEnd_1 : decode b_Search_isBadEnd 1 = .ok (.getfield 48, 3) := by decide +kernel
theorem d_Search_isBadEnd_4 : decode b_Search_isBadEnd 4 = .ok (.aload_n 0, 1) := by decide +kernel
theorem d_Search_isBadEnd_5 : decode b_Search_isBadEnd 5 = .ok (.getfield 69, 3) := by decide +kernel
theorem d_Search_isBadEnd_8 : decode b_Search_isBadEnd 8 = .ok (.getfield 79, 3) := by decide +kernel
theorem d_Search_isBadEnd_11 : decode b_Search_isBadEnd 11 = .ok (.if_icmp .ge 24, 3) := by decide +kernel
theorem d_Search_isBadEnd_14 : decode b_Search_isBadEnd 14 = .ok (.iload_n 2, 1) := by decide +kernel
theorem d_Search_isBadEnd_15 : decode b_Search_isBadEnd 15 = .ok (.aload_n 0, 1) := by decide +kernel
theorem d_Search_isBadEnd_16 : decode b_Search_isBadEnd 16 = .ok (.getfield 48, 3) := by decide +kernel
theorem d_Search_isBadEnd_19 : decode b_Search_isBadEnd 19 = .ok (.if_icmp .eq 16, 3) := by decide +kernel
theorem d_Search_isBadEnd_22 : decode b_Search_isBadEnd 22 = .ok (.iload_n 1, 1) := by decide +kernel
theorem d_Search_isBadEnd_23 : decode b_Search_isBadEnd 23 = .ok (.bipush 9, 2) := by decide +kernel
theorem d_Search_isBadEnd_25 : decode b_Search_isBadEnd 25 = .ok (.ishr, 1) := by decide +kernel
theorem d_Search_isBadEnd_26 : decode b_Search_isBadEnd 26 = .ok (.iconst 1, 1) := by decide +kernel
theorem d_Search_isBadEnd_27 : decode b_Search_isBadEnd 27 = .ok (.iand, 1) := by decide +kernel
theorem d_Search_isBadEnd_28 : decode b_Search_isBadEnd 28 = .ok (.ifCond .ne 7, 3) := by decide +kernel
theorem d_Search_isBadEnd_31 : decode b_Search_isBadEnd 31 = .ok (.iconst 1, 1) := by decide +kernel
theorem d_Search_isBadEnd_32 : decode b_Search_isBadEnd 32 = .ok (.goto 4, 3) := by decide +kernel
theorem d_Search_isBadEnd_35 : decode b_Search_isBadEnd 35 = .ok (.iconst 0, 1) := by decide +kernel
theorem d_Search_isBadEnd_36 : decode b_Search_isBadEnd 36 = .ok (.istore_n 3, 1) := by decide +kernel
theorem d_Search_isBadEnd_37 : decode b_Search_isBadEnd 37 = .ok (.iload_n 3, 1) := by decide +kernel
theorem d_Search_isBadEnd_38 : decode b_Search_isBadEnd 38 = .ok (.ifCond .ne 23, 3) := by decide +kernel
theorem d_Search_isBadEnd_41 : decode b_Search_isBadEnd 41 = .ok (.aload_n 0, 1) := by decide +kernel
theorem d_Search_isBadEnd_42 : decode b_Search_isBadEnd 42 = .ok (.getfield 69, 3) := by decide +kernel
theorem d_Search_isBadEnd_45 : decode b_Search_isBadEnd 45 = .ok (.getfield 165, 3) := by decide +kernel
theorem d_Search_isBadEnd_48 : decode b_Search_isBadEnd 48 = .ok (.iload_n 1, 1) := by decide +kernel
theorem d_Search_isBadEnd_49 : decode b_Search_isBadEnd 49 = .ok (.bipush 7, 2) := by decide +kernel
theorem d_Search_isBadEnd_51 : decode b_Search_isBadEnd 51 = .ok (.iand, 1) := by decide +kernel
theorem d_Search_isBadEnd_52 : decode b_Search_isBadEnd 52 = .ok (.bipush 8, 2) := by decide +kernel
theorem d_Search_isBadEnd_54 : decode b_Search_isBadEnd 54 = .ok (.imul, 1) := by decide +kernel
theorem d_Search_isBadEnd_55 : decode b_Search_isBadEnd 55 = .ok (.iload_n 2, 1) := by decide +kernel
theorem d_Search_isBadEnd_56 : decode b_Search_isBadEnd 56 = .ok (.iadd, 1) := by decide +kernel
theorem d_Search_isBadEnd_57 : decode b_Search_isBadEnd 57 = .ok (.baload, 1) := by decide +kernel
theorem d_Search_isBadEnd_58 : decode b_Search_isBadEnd 58 = .ok (.ifCond .eq 7, 3) := by decide +kernel
theorem d_Search_isBadEnd_61 : decode b_Search_isBadEnd 61 = .ok (.iconst 1, 1) := by decide +kernel
theorem d_Search_isBadEnd_62 : decode b_Search_isBadEnd 62 = .ok (.goto 4, 3) := by decide +kernel
theorem d_Search_isBadEnd_65 : decode b_Search_isBadEnd 65 = .ok (.iconst 0, 1) := by decide +kernel
theorem d_Search_isBadEnd_66 : decode b_Search_isBadEnd 66 = .ok (.ireturn, 1) := by decide +kernel
abbrev wd_Search_isBadEnd (kc : Nat → ClassId) (ad : Nat → Nat) (pr_size : Int32) (pr_total : Int32) (pr_perNote : Int32) (pr_mostAlike : Int32) (pr_badClosings : Nat → Int32) (se_mark : Int32) (se_top : Int32) (se_closes : Int32) (se_leastCost : Int32) (se_allLines : Int64) (se_leastLines : Int64) : va_W := [((ad 13), .inr (4, [.ref (ad 1), .ref (ad 8), .ref (ad 14), .ref (ad 15), .ref (ad 16), .ref (ad 17), .ref (ad 18), .ref (ad 19), .ref (ad 20), .ref (ad 21), .ref (ad 22), .int pr_size, .int pr_total, .int pr_perNote, .int pr_mostAlike])), ((ad 19), .inl (kc 1, 64, .inl pr_badClosings)), ((ad 23), .inr (6, [.ref (ad 1), .ref (ad 13), .ref (ad 24), .ref (ad 25), .ref (ad 26), .ref (ad 27), .ref (ad 28), .int se_mark, .ref (ad 29), .ref (ad 30), .ref (ad 31), .ref (ad 32), .ref (ad 33), .int se_top, .int se_closes, .int se_leastCost, .long se_allLines, .long se_leastLines]))]
abbrev rm_Search_isBadEnd : Room := { frames := 0, cells := 0, slots := 0, locals := 0 }
abbrev cw_Search_isBadEnd : Cond := .code y_Search_isBadEnd b_Search_isBadEnd 4 (some .boolean)
abbrev ws_Search_isBadEnd : List Cond := cw_Search_isBadEnd :: GW
theorem hd_Search_isBadEnd : y_Search_isBadEnd.cls ≠ "java/lang/invoke/MethodHandle" ∧ y_Search_isBadEnd.cls ≠ "java/lang/invoke/VarHandle" ∧ (parseMethodDescriptor y_Search_isBadEnd.desc).map (fun d => d.parameters.length) = some 2 := by decide +kernel
def m_Search_isBadEnd_36 (pr_size : Int32) (pr_badClosings : Nat → Int32) (se_top : Int32)   (x1 : Int32) (x2 : Int32) (t0 : Int32) : Option (Int32) :=
  (if t0 = (0 : Int32) then
    (gd (((x1 &&& (7 : Int32)) * (8 : Int32)) + x2) 64 (if (pr_badClosings (Int32.toNatClampNeg (((x1 &&& (7 : Int32)) * (8 : Int32)) + x2))) = (0 : Int32) then
      (some (0 : Int32))
    else
      (some (1 : Int32))))
  else
    (some (1 : Int32)))
set_option maxHeartbeats 4000000 in
set_option maxRecDepth 100000 in
theorem l_Search_isBadEnd_36 {r : Int32} {ad : Nat → Nat} {pr_size : Int32} {pr_total : Int32} {pr_perNote : Int32} {pr_mostAlike : Int32} {pr_badClosings : Nat → Int32} {se_mark : Int32} {se_top : Int32} {se_closes : Int32} {se_leastCost : Int32} {se_allLines : Int64} {se_leastLines : Int64}  {x1 : Int32} {x2 : Int32} {t0 : Int32} {H : Heap} {locs : List Loc} {ls : Array Slot} (C : Cx p s m meth c args A D kc R_Search b_Search_isBadEnd 4 (some .boolean))  (hm : m_Search_isBadEnd_36 pr_size pr_badClosings se_top  x1 x2 t0 = some r) (hZ : St D A s (wd_Search_isBadEnd kc ad pr_size pr_total pr_perNote pr_mostAlike pr_badClosings se_mark se_top se_closes se_leastCost se_allLines se_leastLines) H locs) (hl : lv_has ls 4 [(0, .ref (ad 23)), (1, .int x1), (2, .int x2)]) : W p l e rm_Search_isBadEnd s m args below meth c H locs 0 0 (MQ below (Qi D A (wd_Search_isBadEnd kc ad pr_size pr_total pr_perNote pr_mostAlike pr_badClosings se_mark se_top se_closes se_leastCost se_allLines se_leastLines) r) args s 0 0 A) (F0 m 36 ls [.int t0]) := by
  obtain ⟨hx, hb, hr, hts, hown, hml, hlocks, hK, hN, hA, hX⟩ := id C
  obtain ⟨hP, hD, hS⟩ := hZ
  unfold m_Search_isBadEnd_36 at hm
  refine lv_istore_n (lv' := [(3, .int t0), (0, .ref (ad 23)), (1, .int x1), (2, .int x2)]) hx hb d_Search_isBadEnd_36 rfl hl (by decide) rfl (fun ls hl => ?_)
  refine lv_iload_n hx hb d_Search_isBadEnd_37 rfl (lv_at hl 0 rfl) ?_
  refine lv_if_ne (tgt := 61) hx hb d_Search_isBadEnd_38 (by decide) (fun c1 => ?_) (fun c1 => ?_)
  · replace hm := ifF hm c1
    refine lv_iconst (v := 1) hx hb d_Search_isBadEnd_61 (by decide) ?_
    refine lv_goto (tgt := 66) hx hb d_Search_isBadEnd_62 (by decide) ?_
    replace hm := Option.some.inj hm; subst hm
    exact zret_z (v := 1) C hP hD hS (by rfl) d_Search_isBadEnd_66
  · replace hm := ifT hm c1
    refine lv_aload_n hx hb d_Search_isBadEnd_41 rfl (lv_at hl 1 rfl) ?_
    refine va_get (D := D) (ci := 6) (v := .ref (ad 13)) (C := R_Search) (T := T_Search) (N := 18) hx hb hts inG_Search hown hK hP 2 rfl rfl 1 (by decide) (hts _ gw_310) (fun _ h9 => h9) rfl d_Search_isBadEnd_42 ?_
    refine va_getN (D := D) (ci := 4) (v := .ref (ad 19)) (C := R_Prices) (T := T_Prices) (N := 15) hx hb hts inG_Prices hown hK hP 0 rfl rfl 7 (by decide) (va_Nw.use rfl (hN _ nw_259)) (fun _ h9 => h9) rfl d_Search_isBadEnd_45 ?_
    refine lv_iload_n hx hb d_Search_isBadEnd_48 rfl (lv_at hl 2 rfl) ?_
    refine lv_bipush (v := 7) hx hb d_Search_isBadEnd_49 (by decide) ?_
    refine lv_iand hx hb d_Search_isBadEnd_51 ?_
    refine lv_bipush (v := 8) hx hb d_Search_isBadEnd_52 (by decide) ?_
    refine lv_imul hx hb d_Search_isBadEnd_54 ?_
    refine lv_iload_n hx hb d_Search_isBadEnd_55 rfl (lv_at hl 3 rfl) ?_
    refine lv_iadd hx hb d_Search_isBadEnd_56 ?_
    obtain ⟨hi2, hm⟩ := gd_some hm
    refine va_zald hx hb hK hP 1 1 rfl rfl hi2 d_Search_isBadEnd_57 ?_
    refine lv_if_eq (tgt := 65) hx hb d_Search_isBadEnd_58 (by decide) (fun c3 => ?_) (fun c3 => ?_)
    · replace hm := ifT hm c3
      refine lv_iconst (v := 0) hx hb d_Search_isBadEnd_65 (by decide) ?_
      replace hm := Option.some.inj hm; subst hm
      exact zret_z (v := 0) C hP hD hS (by rfl) d_Search_isBadEnd_66
    · replace hm := ifF hm c3
      refine lv_iconst (v := 1) hx hb d_Search_isBadEnd_61 (by decide) ?_
      refine lv_goto (tgt := 66) hx hb d_Search_isBadEnd_62 (by decide) ?_
      replace hm := Option.some.inj hm; subst hm
      exact zret_z (v := 1) C hP hD hS (by rfl) d_Search_isBadEnd_66
def m_Search_isBadEnd_35 (pr_size : Int32) (pr_badClosings : Nat → Int32) (se_top : Int32)   (x1 : Int32) (x2 : Int32) : Option (Int32) :=
  m_Search_isBadEnd_36 pr_size pr_badClosings se_top  x1 x2 (0 : Int32)
set_option maxHeartbeats 4000000 in
set_option maxRecDepth 100000 in
theorem l_Search_isBadEnd_35 {r : Int32} {ad : Nat → Nat} {pr_size : Int32} {pr_total : Int32} {pr_perNote : Int32} {pr_mostAlike : Int32} {pr_badClosings : Nat → Int32} {se_mark : Int32} {se_top : Int32} {se_closes : Int32} {se_leastCost : Int32} {se_allLines : Int64} {se_leastLines : Int64}  {x1 : Int32} {x2 : Int32} {H : Heap} {locs : List Loc} {ls : Array Slot} (C : Cx p s m meth c args A D kc R_Search b_Search_isBadEnd 4 (some .boolean))  (hm : m_Search_isBadEnd_35 pr_size pr_badClosings se_top  x1 x2 = some r) (hZ : St D A s (wd_Search_isBadEnd kc ad pr_size pr_total pr_perNote pr_mostAlike pr_badClosings se_mark se_top se_closes se_leastCost se_allLines se_leastLines) H locs) (hl : lv_has ls 4 [(0, .ref (ad 23)), (1, .int x1), (2, .int x2)]) : W p l e rm_Search_isBadEnd s m args below meth c H locs 0 0 (MQ below (Qi D A (wd_Search_isBadEnd kc ad pr_size pr_total pr_perNote pr_mostAlike pr_badClosings se_mark se_top se_closes se_leastCost se_allLines se_leastLines) r) args s 0 0 A) (F0 m 35 ls []) := by
  obtain ⟨hx, hb, hr, hts, hown, hml, hlocks, hK, hN, hA, hX⟩ := id C
  obtain ⟨hP, hD, hS⟩ := hZ
  unfold m_Search_isBadEnd_35 at hm
  refine lv_iconst (v := 0) hx hb d_Search_isBadEnd_35 (by decide) ?_
  exact l_Search_isBadEnd_36 C  hm ⟨hP, hD, hS⟩ (lv_sub hl [0, 1, 2] rfl)
def m_Search_isBadEnd (pr_size : Int32) (pr_badClosings : Nat → Int32) (se_top : Int32)  (a1 : Int32) (a2 : Int32) : Option (Int32) :=
  (if pr_size ≤ se_top then
    m_Search_isBadEnd_35 pr_size pr_badClosings se_top  a1 a2
  else
    (if a2 = se_top then
      m_Search_isBadEnd_35 pr_size pr_badClosings se_top  a1 a2
    else
      (if ((a1 >>> ((9 : Int32) &&& 31)) &&& (1 : Int32)) = (0 : Int32) then
        m_Search_isBadEnd_36 pr_size pr_badClosings se_top  a1 a2 (1 : Int32)
      else
        m_Search_isBadEnd_35 pr_size pr_badClosings se_top  a1 a2)))
set_option maxHeartbeats 4000000 in
set_option maxRecDepth 100000 in
theorem e_Search_isBadEnd {r : Int32} {ad : Nat → Nat} {pr_size : Int32} {pr_total : Int32} {pr_perNote : Int32} {pr_mostAlike : Int32} {pr_badClosings : Nat → Int32} {se_mark : Int32} {se_top : Int32} {se_closes : Int32} {se_leastCost : Int32} {se_allLines : Int64} {se_leastLines : Int64} {a1 : Int32} {a2 : Int32} {H : Heap} {locs : List Loc} {ls : Array Slot} (C : Cx p s m meth c args A D kc R_Search b_Search_isBadEnd 4 (some .boolean)) (hm : m_Search_isBadEnd pr_size pr_badClosings se_top a1 a2 = some r) (hZ : St D A s (wd_Search_isBadEnd kc ad pr_size pr_total pr_perNote pr_mostAlike pr_badClosings se_mark se_top se_closes se_leastCost se_allLines se_leastLines) H locs) (hl : lv_has ls 4 [(0, .ref (ad 23)), (1, .int a1), (2, .int a2)]) : W p l e rm_Search_isBadEnd s m args below meth c H locs 0 0 (MQ below (Qi D A (wd_Search_isBadEnd kc ad pr_size pr_total pr_perNote pr_mostAlike pr_badClosings se_mark se_top se_closes se_leastCost se_allLines se_leastLines) r) args s 0 0 A) (F0 m 0 ls []) := by
  obtain ⟨hx, hb, hr, hts, hown, hml, hlocks, hK, hN, hA, hX⟩ := id C
  obtain ⟨hP, hD, hS⟩ := hZ
  unfold m_Search_isBadEnd at hm
  refine lv_aload_n hx hb d_Search_isBadEnd_0 rfl (lv_at hl 0 rfl) ?_
  refine va_get (D := D) (ci := 6) (v := .int se_top) (C := R_Search) (T := T_Search) (N := 18) hx hb hts inG_Search hown hK hP 2 rfl rfl 13 (by decide) (hts _ gw_322) (fun _ h9 => h9) rfl d_Search_isBadEnd_1 ?_
  refine lv_aload_n hx hb d_Search_isBadEnd_4 rfl (lv_at hl 0 rfl) ?_
  refine va_get (D := D) (ci := 6) (v := .ref (ad 13)) (C := R_Search) (T := T_Search) (N := 18) hx hb hts inG_Search hown hK hP 2 rfl rfl 1 (by decide) (hts _ gw_310) (fun _ h9 => h9) rfl d_Search_isBadEnd_5 ?_
  refine va_getN (D := D) (ci := 4) (v := .int pr_size) (C := R_Prices) (T := T_Prices) (N := 15) hx hb hts inG_Prices hown hK hP 0 rfl rfl 11 (by decide) (va_Nw.use rfl (hN _ nw_264)) (fun _ h9 => h9) rfl d_Search_isBadEnd_8 ?_
  refine lv_icmp_ge (tgt := 35) hx hb d_Search_isBadEnd_11 (by decide) (fun c1 => ?_) (fun c1 => ?_)
  · replace hm := ifT hm c1
    exact l_Search_isBadEnd_35 C  hm ⟨hP, hD, hS⟩ (lv_sub hl [0, 1, 2] rfl)
  · replace hm := ifF hm c1
    refine lv_iload_n hx hb d_Search_isBadEnd_14 rfl (lv_at hl 2 rfl) ?_
    refine lv_aload_n hx hb d_Search_isBadEnd_15 rfl (lv_at hl 0 rfl) ?_
    refine va_get (D := D) (ci := 6) (v := .int se_top) (C := R_Search) (T := T_Search) (N := 18) hx hb hts inG_Search hown hK hP 2 rfl rfl 13 (by decide) (hts _ gw_322) (fun _ h9 => h9) rfl d_Search_isBadEnd_16 ?_
    refine lv_icmp_eq (tgt := 35) hx hb d_Search_isBadEnd_19 (by decide) (fun c2 => ?_) (fun c2 => ?_)
    · replace hm := ifT hm c2
      exact l_Search_isBadEnd_35 C  hm ⟨hP, hD, hS⟩ (lv_sub hl [0, 1, 2] rfl)
    · replace hm := ifF hm c2
      refine lv_iload_n hx hb d_Search_isBadEnd_22 rfl (lv_at hl 1 rfl) ?_
      refine lv_bipush (v := 9) hx hb d_Search_isBadEnd_23 (by decide) ?_
      refine lv_ishr hx hb d_Search_isBadEnd_25 ?_
      refine lv_iconst (v := 1) hx hb d_Search_isBadEnd_26 (by decide) ?_
      refine lv_iand hx hb d_Search_isBadEnd_27 ?_
      refine lv_if_ne (tgt := 35) hx hb d_Search_isBadEnd_28 (by decide) (fun c3 => ?_) (fun c3 => ?_)
      · replace hm := ifF hm c3
        exact l_Search_isBadEnd_35 C  hm ⟨hP, hD, hS⟩ (lv_sub hl [0, 1, 2] rfl)
      · replace hm := ifT hm c3
        refine lv_iconst (v := 1) hx hb d_Search_isBadEnd_31 (by decide) ?_
        refine lv_goto (tgt := 36) hx hb d_Search_isBadEnd_32 (by decide) ?_
        exact l_Search_isBadEnd_36 C  hm ⟨hP, hD, hS⟩ (lv_sub hl [0, 1, 2] rfl)
set_option maxHeartbeats 4000000 in
set_option maxRecDepth 100000 in
theorem c_Search_isBadEnd {l : Launch} {D : va_G} {kc : Nat → ClassId} {r : Int32} {ad : Nat → Nat} {pr_size : Int32} {pr_total : Int32} {pr_perNote : Int32} {pr_mostAlike : Int32} {pr_badClosings : Nat → Int32} {se_mark : Int32} {se_top : Int32} {se_closes : Int32} {se_leastCost : Int32} {se_allLines : Int64} {se_leastLines : Int64} {a1 : Int32} {a2 : Int32} (hm : m_Search_isBadEnd pr_size pr_badClosings se_top a1 a2 = some r) (sz : Nat) : Ci l y_Search_isBadEnd ws_Search_isBadEnd rm_Search_isBadEnd D kc sz [.ref (ad 23), .int a1, .int a2] (wd_Search_isBadEnd kc ad pr_size pr_total pr_perNote pr_mostAlike pr_badClosings se_mark se_top se_closes se_leastCost se_allLines se_leastLines) (wd_Search_isBadEnd kc ad pr_size pr_total pr_perNote pr_mostAlike pr_badClosings se_mark se_top se_closes se_leastCost se_allLines se_leastLines) r :=
  Cz_of (Qf := fun A => (Qi D A (wd_Search_isBadEnd kc ad pr_size pr_total pr_perNote pr_mostAlike pr_badClosings se_mark se_top se_closes se_leastCost se_allLines se_leastLines) r)) (cc := b_Search_isBadEnd) (maxL := 4) (ret := (some .boolean)) (by decide) rfl rfl (fun C hZ hl => e_Search_isBadEnd C hm hZ hl)
abbrev b_Prices_endsStrongMove : ByteArray := prog_4_method_11_code
abbrev y_Prices_endsStrongMove : MethodName := ⟨"SpeciesSolver$Prices", "endsStrongMove", "(I)Z"⟩
theorem d_Prices_endsStrongMove_0 : decode b_Prices_endsStrongMove 0 = .ok (.iload_n 1, 1) := by decide +kernel
theorem d_Prices_endsStrongMove_1 : decode b_Prices_endsStrongMove 1 = .ok (.aload_n 0, 1) := by decide +kernel
theorem d_Prices_endsStrongMove_2 : decode b_Prices_endsStrongMove 2 = .ok (.getfield 47, 3) := by decide +kernel
theorem d_Prices_endsStrongMove_5 : decode b_Prices_endsStrongMove 5 = .ok (.if_icmp .lt 16, 3) := by decide +kernel
theorem d_Prices_endsStrongMove_8 : decode b_Prices_endsStrongMove 8 = .ok (.iload_n 1, 1) := by decide +kernel
theorem d_Prices_endsStrongMove_9 : decode b_Prices_endsStrongMove 9 = .ok (.aload_n 0, 1) := by decide +kernel
theorem d_Prices_endsStrongMove_10 : decode b_Prices_endsStrongMove 10 = .ok (.getfield 47, 3) := by decide +kernel
theorem d_Prices_endsStrongMove_13 : decode b_Prices_endsStrongMove 13 = .ok (.irem, 1) := by decide +kernel
theorem d_Prices_endsStrongMove_14 : decode b_Prices_endsStrongMove 14 = .ok (.ifCond .ne 7, 3) := by decide +kernel
theorem d_Prices_endsStrongMove_17 : decode b_Prices_endsStrongMove 17 = .ok (.iconst 1, 1) := by decide +kernel
theorem d_Prices_endsStrongMove_18 : decode b_Prices_endsStrongMove 18 = .ok (.goto 4, 3) := by decide +kernel
theorem d_Prices_endsStrongMove_21 : decode b_Prices_endsStrongMove 21 = .ok (.iconst 0, 1) := by decide +kernel
theorem d_Prices_endsStrongMove_22 : decode b_Prices_endsStrongMove 22 = .ok (.ireturn, 1) := by decide +kernel
abbrev wd_Prices_endsStrongMove (kc : Nat → ClassId) (ad : Nat → Nat) (pr_size : Int32) (pr_total : Int32) (pr_perNote : Int32) (pr_mostAlike : Int32) : va_W := [((ad 13), .inr (4, [.ref (ad 1), .ref (ad 8), .ref (ad 14), .ref (ad 15), .ref (ad 16), .ref (ad 17), .ref (ad 18), .ref (ad 19), .ref (ad 20), .ref (ad 21), .ref (ad 22), .int pr_size, .int pr_total, .int pr_perNote, .int pr_mostAlike]))]
abbrev rm_Prices_endsStrongMove : Room := { frames := 0, cells := 0, slots := 0, locals := 0 }
abbrev cw_Prices_endsStrongMove : Cond := .code y_Prices_endsStrongMove b_Prices_endsStrongMove 2 (some .boolean)
abbrev ws_Prices_endsStrongMove : List Cond := cw_Prices_endsStrongMove :: GW
theorem hd_Prices_endsStrongMove : y_Prices_endsStrongMove.cls ≠ "java/lang/invoke/MethodHandle" ∧ y_Prices_endsStrongMove.cls ≠ "java/lang/invoke/VarHandle" ∧ (parseMethodDescriptor y_Prices_endsStrongMove.desc).map (fun d => d.parameters.length) = some 1 := by decide +kernel
def m_Prices_endsStrongMove (pr_perNote : Int32)  (a1 : Int32) : Option (Int32) :=
  (if a1 < pr_perNote then
    (some (0 : Int32))
  else
    (nz pr_perNote (if (a1 - a1 / pr_perNote * pr_perNote) = (0 : Int32) then
      (some (1 : Int32))
    else
      (some (0 : Int32)))))
set_option maxHeartbeats 4000000 in
set_option maxRecDepth 100000 in
theorem e_Prices_endsStrongMove {r : Int32} {ad : Nat → Nat} {pr_size : Int32} {pr_total : Int32} {pr_perNote : Int32} {pr_mostAlike : Int32} {a1 : Int32} {H : Heap} {locs : List Loc} {ls : Array Slot} (C : Cx p s m meth c args A D kc R_Prices b_Prices_endsStrongMove 2 (some .boolean)) (hm : m_Prices_endsStrongMove pr_perNote a1 = some r) (hZ : St D A s (wd_Prices_endsStrongMove kc ad pr_size pr_total pr_perNote pr_mostAlike) H locs) (hl : lv_has ls 2 [(0, .ref (ad 13)), (1, .int a1)]) : W p l e rm_Prices_endsStrongMove s m args below meth c H locs 0 0 (MQ below (Qi D A (wd_Prices_endsStrongMove kc ad pr_size pr_total pr_perNote pr_mostAlike) r) args s 0 0 A) (F0 m 0 ls []) := by
  obtain ⟨hx, hb, hr, hts, hown, hml, hlocks, hK, hN, hA, hX⟩ := id C
  obtain ⟨hP, hD, hS⟩ := hZ
  unfold m_Prices_endsStrongMove at hm
  refine lv_iload_n hx hb d_Prices_endsStrongMove_0 rfl (lv_at hl 1 rfl) ?_
  refine lv_aload_n hx hb d_Prices_endsStrongMove_1 rfl (lv_at hl 0 rfl) ?_
  refine va_get (D := D) (ci := 4) (v := .int pr_perNote) (C := R_Prices) (T := T_Prices) (N := 15) hx hb hts inG_Prices hown hK hP 0 rfl rfl 13 (by decide) (hts _ gw_267) (fun _ h9 => h9) rfl d_Prices_endsStrongMove_2 ?_
  refine lv_icmp_lt (tgt := 21) hx hb d_Prices_endsStrongMove_5 (by decide) (fun c1 => ?_) (fun c1 => ?_)
  · replace hm := ifT hm c1
    refine lv_iconst (v := 0) hx hb d_Prices_endsStrongMove_21 (by decide) ?_
    replace hm := Option.some.inj hm; subst hm
    exact zret_z (v := 0) C hP hD hS (by rfl) d_Prices_endsStrongMove_22
  · replace hm := ifF hm c1
    refine lv_iload_n hx hb d_Prices_endsStrongMove_8 rfl (lv_at hl 1 rfl) ?_
    refine lv_aload_n hx hb d_Prices_endsStrongMove_9 rfl (lv_at hl 0 rfl) ?_
    refine va_get (D := D) (ci := 4) (v := .int pr_perNote) (C := R_Prices) (T := T_Prices) (N := 15) hx hb hts inG_Prices hown hK hP 0 rfl rfl 13 (by decide) (hts _ gw_267) (fun _ h9 => h9) rfl d_Prices_endsStrongMove_10 ?_
    obtain ⟨hz2, hm⟩ := nz_some hm
    refine lv_irem hx hb d_Prices_endsStrongMove_13 hz2 ?_
    refine lv_if_ne (tgt := 21) hx hb d_Prices_endsStrongMove_14 (by decide) (fun c3 => ?_) (fun c3 => ?_)
    · replace hm := ifF hm c3
      refine lv_iconst (v := 0) hx hb d_Prices_endsStrongMove_21 (by decide) ?_
      replace hm := Option.some.inj hm; subst hm
      exact zret_z (v := 0) C hP hD hS (by rfl) d_Prices_endsStrongMove_22
    · replace hm := ifT hm c3
      refine lv_iconst (v := 1) hx hb d_Prices_endsStrongMove_17 (by decide) ?_
      refine lv_goto (tgt := 22) hx hb d_Prices_endsStrongMove_18 (by decide) ?_
      replace hm := Option.some.inj hm; subst hm
      exact zret_z (v := 1) C hP hD hS (by rfl) d_Prices_endsStrongMove_22
set_option maxHeartbeats 4000000 in
set_option maxRecDepth 100000 in
theorem c_Prices_endsStrongMove {l : Launch} {D : va_G} {kc : Nat → ClassId} {r : Int32} {ad : Nat → Nat} {pr_size : Int32} {pr_total : Int32} {pr_perNote : Int32} {pr_mostAlike : Int32} {a1 : Int32} (hm : m_Prices_endsStrongMove pr_perNote a1 = some r) (sz : Nat) : Ci l y_Prices_endsStrongMove ws_Prices_endsStrongMove rm_Prices_endsStrongMove D kc sz [.ref (ad 13), .int a1] (wd_Prices_endsStrongMove kc ad pr_size pr_total pr_perNote pr_mostAlike) (wd_Prices_endsStrongMove kc ad pr_size pr_total pr_perNote pr_mostAlike) r :=
  Cz_of (Qf := fun A => (Qi D A (wd_Prices_endsStrongMove kc ad pr_size pr_total pr_perNote pr_mostAlike) r)) (cc := b_Prices_endsStrongMove) (maxL := 2) (ret := (some .boolean)) (by decide) rfl rfl (fun C hZ hl => e_Prices_endsStrongMove C hm hZ hl)
abbrev b_Prices_strongPrice : ByteArray := prog_4_method_12_code
abbrev y_Prices_strongPrice : MethodName := ⟨"SpeciesSolver$Prices", "strongPrice", "(III)I"⟩
theorem d_Prices_strongPrice_0 : decode b_Prices_strongPrice 0 = .ok (.aload_n 0, 1) := by decide +kernel
theorem d_Prices_strongPrice_1 : decode b_Prices_strongPrice 1 = .ok (.getfield 37, 3) := by decide +kernel
theorem d_Prices_strongPrice_4 : decode b_Prices_strongPrice 4 = .ok (.iload_n 1, 1) := by decide +kernel
theorem d_Prices_strongPrice_5 : decode b_Prices_strongPrice 5 = .ok (.aload_n 0, 1) := by decide +kernel
theorem d_Prices_strongPrice_6 : decode b_Prices_strongPrice 6 = .ok (.getfield 47, 3) := by decide +kernel
theorem d_Prices_strongPrice_9 : decode b_Prices_strongPrice 9 = .ok (.idiv, 1) := by decide +kernel
theorem d_Prices_strongPrice_10 : decode b_Prices_strongPrice 10 = .ok (.bipush 8, 2) := by decide +kernel
theorem d_Prices_strongPrice_12 : decode b_Prices_strongPrice 12 = .ok (.imul, 1) := by decide +kernel
theorem d_Prices_strongPrice_13 : decode b_Prices_strongPrice 13 = .ok (.iload_n 2, 1) := by decide +kernel
theorem d_Prices_strongPrice_14 : decode b_Prices_strongPrice 14 = .ok (.iadd, 1) := by decide +kernel
theorem d_Prices_strongPrice_15 : decode b_Prices_strongPrice 15 = .ok (.bipush 8, 2) := by decide +kernel
theorem d_Prices_strongPrice_17 : decode b_Prices_strongPrice 17 = .ok (.imul, 1) := by decide +kernel
theorem d_Prices_strongPrice_18 : decode b_Prices_strongPrice 18 = .ok (.iload_n 3, 1) := by decide +kernel
theorem d_Prices_strongPrice_19 : decode b_Prices_strongPrice 19 = .ok (.iadd, 1) := by decide +kernel
theorem d_Prices_strongPrice_20 : decode b_Prices_strongPrice 20 = .ok (.iaload, 1) := by decide +kernel
theorem d_Prices_strongPrice_21 : decode b_Prices_strongPrice 21 = .ok (.ireturn, 1) := by decide +kernel
abbrev wd_Prices_strongPrice (kc : Nat → ClassId) (ad : Nat → Nat) (pr_size : Int32) (pr_total : Int32) (pr_perNote : Int32) (pr_mostAlike : Int32) (pr_strongPrices : Nat → Int32) : va_W := [((ad 13), .inr (4, [.ref (ad 1), .ref (ad 8), .ref (ad 14), .ref (ad 15), .ref (ad 16), .ref (ad 17), .ref (ad 18), .ref (ad 19), .ref (ad 20), .ref (ad 21), .ref (ad 22), .int pr_size, .int pr_total, .int pr_perNote, .int pr_mostAlike])), ((ad 22), .inl (kc 0, 768, .inl pr_strongPrices))]
abbrev rm_Prices_strongPrice : Room := { frames := 0, cells := 0, slots := 0, locals := 0 }
abbrev cw_Prices_strongPrice : Cond := .code y_Prices_strongPrice b_Prices_strongPrice 4 (some .int)
abbrev ws_Prices_strongPrice : List Cond := cw_Prices_strongPrice :: GW
theorem hd_Prices_strongPrice : y_Prices_strongPrice.cls ≠ "java/lang/invoke/MethodHandle" ∧ y_Prices_strongPrice.cls ≠ "java/lang/invoke/VarHandle" ∧ (parseMethodDescriptor y_Prices_strongPrice.desc).map (fun d => d.parameters.length) = some 3 := by decide +kernel
def m_Prices_strongPrice (pr_perNote : Int32) (pr_strongPrices : Nat → Int32)  (a1 : Int32) (a2 : Int32) (a3 : Int32) : Option (Int32) :=
  (nz pr_perNote (gd (((((a1 / pr_perNote) * (8 : Int32)) + a2) * (8 : Int32)) + a3) 768 (some (pr_strongPrices (Int32.toNatClampNeg (((((a1 / pr_perNote) * (8 : Int32)) + a2) * (8 : Int32)) + a3))))))
set_option maxHeartbeats 4000000 in
set_option maxRecDepth 100000 in
theorem e_Prices_strongPrice {r : Int32} {ad : Nat → Nat} {pr_size : Int32} {pr_total : Int32} {pr_perNote : Int32} {pr_mostAlike : Int32} {pr_strongPrices : Nat → Int32} {a1 : Int32} {a2 : Int32} {a3 : Int32} {H : Heap} {locs : List Loc} {ls : Array Slot} (C : Cx p s m meth c args A D kc R_Prices b_Prices_strongPrice 4 (some .int)) (hm : m_Prices_strongPrice pr_perNote pr_strongPrices a1 a2 a3 = some r) (hZ : St D A s (wd_Prices_strongPrice kc ad pr_size pr_total pr_perNote pr_mostAlike pr_strongPrices) H locs) (hl : lv_has ls 4 [(0, .ref (ad 13)), (1, .int a1), (2, .int a2), (3, .int a3)]) : W p l e rm_Prices_strongPrice s m args below meth c H locs 0 0 (MQ below (Qi D A (wd_Prices_strongPrice kc ad pr_size pr_total pr_perNote pr_mostAlike pr_strongPrices) r) args s 0 0 A) (F0 m 0 ls []) := by
  obtain ⟨hx, hb, hr, hts, hown, hml, hlocks, hK, hN, hA, hX⟩ := id C
  obtain ⟨hP, hD, hS⟩ := hZ
  unfold m_Prices_strongPrice at hm
  refine lv_aload_n hx hb d_Prices_strongPrice_0 rfl (lv_at hl 0 rfl) ?_
  refine va_get (D := D) (ci := 4) (v := .ref (ad 22)) (C := R_Prices) (T := T_Prices) (N := 15) hx hb hts inG_Prices hown hK hP 0 rfl rfl 10 (by decide) (hts _ gw_262) (fun _ h9 => h9) rfl d_Prices_strongPrice_1 ?_
  refine lv_iload_n hx hb d_Prices_strongPrice_4 rfl (lv_at hl 1 rfl) ?_
  refine lv_aload_n hx hb d_Prices_strongPrice_5 rfl (lv_at hl 0 rfl) ?_
  refine va_get (D := D) (ci := 4) (v := .int pr_perNote) (C := R_Prices) (T := T_Prices) (N := 15) hx hb hts inG_Prices hown hK hP 0 rfl rfl 13 (by decide) (hts _ gw_267) (fun _ h9 => h9) rfl d_Prices_strongPrice_6 ?_
  obtain ⟨hz1, hm⟩ := nz_some hm
  refine lv_idiv hx hb d_Prices_strongPrice_9 hz1 ?_
  refine lv_bipush (v := 8) hx hb d_Prices_strongPrice_10 (by decide) ?_
  refine lv_imul hx hb d_Prices_strongPrice_12 ?_
  refine lv_iload_n hx hb d_Prices_strongPrice_13 rfl (lv_at hl 2 rfl) ?_
  refine lv_iadd hx hb d_Prices_strongPrice_14 ?_
  refine lv_bipush (v := 8) hx hb d_Prices_strongPrice_15 (by decide) ?_
  refine lv_imul hx hb d_Prices_strongPrice_17 ?_
  refine lv_iload_n hx hb d_Prices_strongPrice_18 rfl (lv_at hl 3 rfl) ?_
  refine lv_iadd hx hb d_Prices_strongPrice_19 ?_
  obtain ⟨hi2, hm⟩ := gd_some hm
  refine va_iald hx hb hK hP 1 0 rfl rfl hi2 d_Prices_strongPrice_20 ?_
  replace hm := Option.some.inj hm; subst hm
  exact zret_i C hP hD hS d_Prices_strongPrice_21
set_option maxHeartbeats 4000000 in
set_option maxRecDepth 100000 in
theorem c_Prices_strongPrice {l : Launch} {D : va_G} {kc : Nat → ClassId} {r : Int32} {ad : Nat → Nat} {pr_size : Int32} {pr_total : Int32} {pr_perNote : Int32} {pr_mostAlike : Int32} {pr_strongPrices : Nat → Int32} {a1 : Int32} {a2 : Int32} {a3 : Int32} (hm : m_Prices_strongPrice pr_perNote pr_strongPrices a1 a2 a3 = some r) (sz : Nat) : Ci l y_Prices_strongPrice ws_Prices_strongPrice rm_Prices_strongPrice D kc sz [.ref (ad 13), .int a1, .int a2, .int a3] (wd_Prices_strongPrice kc ad pr_size pr_total pr_perNote pr_mostAlike pr_strongPrices) (wd_Prices_strongPrice kc ad pr_size pr_total pr_perNote pr_mostAlike pr_strongPrices) r :=
  Cz_of (Qf := fun A => (Qi D A (wd_Prices_strongPrice kc ad pr_size pr_total pr_perNote pr_mostAlike pr_strongPrices) r)) (cc := b_Prices_strongPrice) (maxL := 4) (ret := (some .int)) (by decide) rfl rfl (fun C hZ hl => e_Prices_strongPrice C hm hZ hl)
abbrev b_Search_priceOf : ByteArray := prog_6_method_11_code
abbrev y_Search_priceOf : MethodName := ⟨"SpeciesSolver$Search", "priceOf", "(III)I"⟩
theorem d_Search_priceOf_0 : decode b_Search_priceOf 0 = .ok (.iload_n 2, 1) := by decide +kernel
theorem d_Search_priceOf_1 : decode b_Search_priceOf 1 = .ok (.bipush 7, 2) := by decide +kernel
theorem d_Search_priceOf_3 : decode b_Search_priceOf 3 = .ok (.iand, 1) := by decide +kernel
theorem d_Search_priceOf_4 : decode b_Search_priceOf 4 = .ok (.istore 4, 2) := by decide +kernel
theorem d_Search_priceOf_6 : decode b_Search_priceOf 6 = .ok (.aload_n 0, 1) := by decide +kernel
theorem d_Search_priceOf_7 : decode b_Search_priceOf 7 = .ok (.getfield 69, 3) := by decide +kernel
theorem d_Search_priceOf_10 : decode b_Search_priceOf 10 = .ok (.getfield 110, 3) := by decide +kernel
theorem d_Search_priceOf_13 : decode b_Search_priceOf 13 = .ok (.iload_n 1, 1) := by decide +kernel
theorem d_Search_priceOf_14 : decode b_Search_priceOf 14 = .ok (.bipush 8, 2) := by decide +kernel
theorem d_Search_priceOf_16 : decode b_Search_priceOf 16 = .ok (.imul, 1) := by decide +kernel
theorem d_Search_priceOf_17 : decode b_Search_priceOf 17 = .ok (.iload_n 3, 1) := by decide +kernel
theorem d_Search_priceOf_18 : decode b_Search_priceOf 18 = .ok (.iadd, 1) := by decide +kernel
theorem d_Search_priceOf_19 : decode b_Search_priceOf 19 = .ok (.iaload, 1) := by decide +kernel
theorem d_Search_priceOf_20 : decode b_Search_priceOf 20 = .ok (.istore 5, 2) := by decide +kernel
theorem d_Search_priceOf_22 : decode b_Search_priceOf 22 = .ok (.aload_n 0, 1) := by decide +kernel
theorem d_Search_priceOf_23 : decode b_Search_priceOf 23 = .ok (.getfield 69, 3) := by decide +kernel
theorem d_Search_priceOf_26 : decode b_Search_priceOf 26 = .ok (.getfield 141, 3) := by decide +kernel
theorem d_Search_priceOf_29 : decode b_Search_priceOf 29 = .ok (.iload 4, 2) := by decide +kernel
theorem d_Search_priceOf_31 : decode b_Search_priceOf 31 = .ok (.bipush 8, 2) := by decide +kernel
theorem d_Search_priceOf_33 : decode b_Search_priceOf 33 = .ok (.imul, 1) := by decide +kernel
theorem d_Search_priceOf_34 : decode b_Search_priceOf 34 = .ok (.iload_n 3, 1) := by decide +kernel
theorem d_Search_priceOf_35 : decode b_Search_priceOf 35 = .ok (.iadd, 1) := by decide +kernel
theorem d_Search_priceOf_36 : decode b_Search_priceOf 36 = .ok (.iaload, 1) := by decide +kernel
theorem d_Search_priceOf_37 : decode b_Search_priceOf 37 = .ok (.istore 6, 2) := by decide +kernel
theorem d_Search_priceOf_39 : decode b_Search_priceOf 39 = .ok (.iload 5, 2) := by decide +kernel
theorem d_Search_priceOf_41 : decode b_Search_priceOf 41 = .ok (.iconst (-1), 1) := by decide +kernel
theorem d_Search_priceOf_42 : decode b_Search_priceOf 42 = .ok (.if_icmp .eq 47, 3) := by decide +kernel
theorem d_Search_priceOf_45 : decode b_Search_priceOf 45 = .ok (.iload 6, 2) := by decide +kernel
theorem d_Search_priceOf_47 : decode b_Search_priceOf 47 = .ok (.iconst (-1), 1) := by decide +kernel
theorem d_Search_priceOf_48 : decode b_Search_priceOf 48 = .ok (.if_icmp .eq 41, 3) := by decide +kernel
theorem d_Search_priceOf_51 : decode b_Search_priceOf 51 = .ok (.aload_n 0, 1) := by decide +kernel
theorem d_Search_priceOf_52 : decode b_Search_priceOf 52 = .ok (.iload_n 2, 1) := by decide +kernel
theorem d_Search_priceOf_53 : decode b_Search_priceOf 53 = .ok (.iload_n 3, 1) := by decide +kernel
theorem d_Search_priceOf_54 : decode b_Search_priceOf 54 = .ok (.invokevirtual 144, 3) := by decide +kernel
theorem d_Search_priceOf_57 : decode b_Search_priceOf 57 = .ok (.ifCond .ne 32, 3) := by decide +kernel
theorem d_Search_priceOf_60 : decode b_Search_priceOf 60 = .ok (.aload_n 0, 1) := by decide +kernel
theorem d_Search_priceOf_61 : decode b_Search_priceOf 61 = .ok (.iload_n 2, 1) := by decide +kernel
theorem d_Search_priceOf_62 : decode b_Search_priceOf 62 = .ok (.iload_n 3, 1) := by decide +kernel
theorem d_Search_priceOf_63 : decode b_Search_priceOf 63 = .ok (.invokevirtual 148, 3) := by decide +kernel
theorem d_Search_priceOf_66 : decode b_Search_priceOf 66 = .ok (.ifCond .ne 23, 3) := by decide +kernel
theorem d_Search_priceOf_69 : decode b_Search_priceOf 69 = .ok (.aload_n 0, 1) := by decide +kernel
theorem d_Search_priceOf_70 : decode b_Search_priceOf 70 = .ok (.getfield 69, 3) := by decide +kernel
theorem d_Search_priceOf_73 : decode b_Search_priceOf 73 = .ok (.iload_n 1, 1) := by decide +kernel
theorem d_Search_priceOf_74 : decode b_Search_priceOf 74 = .ok (.iload_n 2, 1) := by decide +kernel
theorem d_Search_priceOf_75 : decode b_Search_priceOf 75 = .ok (.iconst 3, 1) := by decide +kernel
theorem d_Search_priceOf_76 : decode b_Search_priceOf 76 = .ok (.ishr, 1) := by decide +kernel
theorem d_Search_priceOf_77 : decode b_Search_priceOf 77 = .ok (.bipush 7, 2) := by decide +kernel
theorem d_Search_priceOf_79 : decode b_Search_priceOf 79 = .ok (.iand, 1) := by decide +kernel
theorem d_Search_priceOf_80 : decode b_Search_priceOf 80 = .ok (.iload 4, 2) := by decide +kernel
theorem d_Search_priceOf_82 : decode b_Search_priceOf 82 = .ok (.iload_n 3, 1) := by decide +kernel
theorem d_Search_priceOf_83 : decode b_Search_priceOf 83 = .ok (.invokevirtual 151, 3) := by decide +kernel
theorem d_Search_priceOf_86 : decode b_Search_priceOf 86 = .ok (.ifCond .eq 5, 3) := by decide +kernel
theorem d_Search_priceOf_89 : decode b_Search_priceOf 89 = .ok (.iconst (-1), 1) := by decide +kernel
theorem d_Search_priceOf_90 : decode b_Search_priceOf 90 = .ok (.ireturn, 1) := by decide +kernel
theorem d_Search_priceOf_91 : decode b_Search_priceOf 91 = .ok (.aload_n 0, 1) := by decide +kernel
theorem d_Search_priceOf_92 : decode b_Search_priceOf 92 = .ok (.getfield 51, 3) := by decide +kernel
theorem d_Search_priceOf_95 : decode b_Search_priceOf 95 = .ok (.ifCond .eq 27, 3) := by decide +kernel
theorem d_Search_priceOf_98 : decode b_Search_priceOf 98 = .ok (.iload_n 1, 1) := by decide +kernel
theorem d_Search_priceOf_99 : decode b_Search_priceOf 99 = .ok (.aload_n 0, 1) := by decide +kernel
theorem d_Search_priceOf_100 : decode b_Search_priceOf 100 = .ok (.getfield 69, 3) := by decide +kernel
theorem d_Search_priceOf_103 : decode b_Search_priceOf 103 = .ok (.getfield 88, 3) := by decide +kernel
theorem d_Search_priceOf_106 : decode b_Search_priceOf 106 = .ok (.iconst 1, 1) := by decide +kernel
theorem d_Search_priceOf_107 : decode b_Search_priceOf 107 = .ok (.isub, 1) := by decide +kernel
theorem d_Search_priceOf_108 : decode b_Search_priceOf 108 = .ok (.if_icmp .ne 14, 3) := by decide +kernel
theorem d_Search_priceOf_111 : decode b_Search_priceOf 111 = .ok (.aload_n 0, 1) := by decide +kernel
theorem d_Search_priceOf_112 : decode b_Search_priceOf 112 = .ok (.iload_n 2, 1) := by decide +kernel
theorem d_Search_priceOf_113 : decode b_Search_priceOf 113 = .ok (.iload_n 3, 1) := by decide +kernel
theorem d_Search_priceOf_114 : decode b_Search_priceOf 114 = .ok (.invokevirtual 155, 3) := by decide +kernel
theorem d_Search_priceOf_117 : decode b_Search_priceOf 117 = .ok (.ifCond .eq 5, 3) := by decide +kernel
theorem d_Search_priceOf_120 : decode b_Search_priceOf 120 = .ok (.iconst (-1), 1) := by decide +kernel
theorem d_Search_priceOf_121 : decode b_Search_priceOf 121 = .ok (.ireturn, 1) := by decide +kernel
theorem d_Search_priceOf_122 : decode b_Search_priceOf 122 = .ok (.aload_n 0, 1) := by decide +kernel
theorem d_Search_priceOf_123 : decode b_Search_priceOf 123 = .ok (.getfield 69, 3) := by decide +kernel
theorem d_Search_priceOf_126 : decode b_Search_priceOf 126 = .ok (.iload_n 1, 1) := by decide +kernel
theorem d_Search_priceOf_127 : decode b_Search_priceOf 127 = .ok (.invokevirtual 158, 3) := by decide +kernel
theorem d_Search_priceOf_130 : decode b_Search_priceOf 130 = .ok (.ifCond .ne 9, 3) := by decide +kernel
theorem d_Search_priceOf_133 : decode b_Search_priceOf 133 = .ok (.iload 5, 2) := by decide +kernel
theorem d_Search_priceOf_135 : decode b_Search_priceOf 135 = .ok (.iload 6, 2) := by decide +kernel
theorem d_Search_priceOf_137 : decode b_Search_priceOf 137 = .ok (.iadd, 1) := by decide +kernel
theorem d_Search_priceOf_138 : decode b_Search_priceOf 138 = .ok (.ireturn, 1) := by decide +kernel
theorem d_Search_priceOf_139 : decode b_Search_priceOf 139 = .ok (.aload_n 0, 1) := by decide +kernel
theorem d_Search_priceOf_140 : decode b_Search_priceOf 140 = .ok (.getfield 69, 3) := by decide +kernel
theorem d_Search_priceOf_143 : decode b_Search_priceOf 143 = .ok (.iload_n 1, 1) := by decide +kernel
theorem d_Search_priceOf_144 : decode b_Search_priceOf 144 = .ok (.iload_n 2, 1) := by decide +kernel
theorem d_Search_priceOf_145 : decode b_Search_priceOf 145 = .ok (.bipush 6, 2) := by decide +kernel
theorem d_Search_priceOf_147 : decode b_Search_priceOf 147 = .ok (.ishr, 1) := by decide +kernel
theorem d_Search_priceOf_148 : decode b_Search_priceOf 148 = .ok (.bipush 7, 2) := by decide +kernel
theorem d_Search_priceOf_150 : decode b_Search_priceOf 150 = .ok (.iand, 1) := by decide +kernel
theorem d_Search_priceOf_151 : decode b_Search_priceOf 151 = .ok (.iload_n 3, 1) := by decide +kernel
theorem d_Search_priceOf_152 : decode b_Search_priceOf 152 = .ok (.invokevirtual 162, 3) := by decide +kernel
theorem d_Search_priceOf_155 : decode b_Search_priceOf 155 = .ok (.istore 7, 2) := by decide +kernel
theorem d_Search_priceOf_157 : decode b_Search_priceOf 157 = .ok (.iload 7, 2) := by decide +kernel
theorem d_Search_priceOf_159 : decode b_Search_priceOf 159 = .ok (.iconst (-1), 1) := by decide +kernel
theorem d_Search_priceOf_160 : decode b_Search_priceOf 160 = .ok (.if_icmp .ne 7, 3) := by decide +kernel
theorem d_Search_priceOf_163 : decode b_Search_priceOf 163 = .ok (.iconst (-1), 1) := by decide +kernel
theorem d_Search_priceOf_164 : decode b_Search_priceOf 164 = .ok (.goto 11, 3) := by decide +kernel
theorem d_Search_priceOf_167 : decode b_Search_priceOf 167 = .ok (.iload 5, 2) := by decide +kernel
theorem d_Search_priceOf_169 : decode b_Search_priceOf 169 = .ok (.iload 6, 2) := by decide +kernel
theorem d_Search_priceOf_171 : decode b_Search_priceOf 171 = .ok (.iadd, 1) := by decide +kernel
theorem d_Search_priceOf_172 : decode b_Search_priceOf 172 = .ok (.iload 7, 2) := by decide +kernel
theorem d_Search_priceOf_174 : decode b_Search_priceOf 174 = .ok (.iadd, 1) := by decide +kernel
theorem d_Search_priceOf_175 : decode b_Search_priceOf 175 = .ok (.ireturn, 1) := by decide +kernel
abbrev wd_Search_priceOf (kc : Nat → ClassId) (ad : Nat → Nat) (pr_size : Int32) (pr_total : Int32) (pr_perNote : Int32) (pr_mostAlike : Int32) (pr_notePrices : Nat → Int32) (pr_mustPass : Nat → Int32) (pr_movePrices : Nat → Int32) (pr_badClosings : Nat → Int32) (pr_badTurns : Nat → Int32) (pr_passings : Nat → Int32) (pr_strongPrices : Nat → Int32) (se_mark : Int32) (se_top : Int32) (se_closes : Int32) (se_leastCost : Int32) (se_allLines : Int64) (se_leastLines : Int64) : va_W := [((ad 13), .inr (4, [.ref (ad 1), .ref (ad 8), .ref (ad 14), .ref (ad 15), .ref (ad 16), .ref (ad 17), .ref (ad 18), .ref (ad 19), .ref (ad 20), .ref (ad 21), .ref (ad 22), .int pr_size, .int pr_total, .int pr_perNote, .int pr_mostAlike])), ((ad 15), .inl (kc 0, 360, .inl pr_notePrices)), ((ad 16), .inl (kc 1, 360, .inl pr_mustPass)), ((ad 17), .inl (kc 0, 64, .inl pr_movePrices)), ((ad 19), .inl (kc 1, 64, .inl pr_badClosings)), ((ad 20), .inl (kc 1, 512, .inl pr_badTurns)), ((ad 21), .inl (kc 1, 512, .inl pr_passings)), ((ad 22), .inl (kc 0, 768, .inl pr_strongPrices)), ((ad 23), .inr (6, [.ref (ad 1), .ref (ad 13), .ref (ad 24), .ref (ad 25), .ref (ad 26), .ref (ad 27), .ref (ad 28), .int se_mark, .ref (ad 29), .ref (ad 30), .ref (ad 31), .ref (ad 32), .ref (ad 33), .int se_top, .int se_closes, .int se_leastCost, .long se_allLines, .long se_leastLines]))]
abbrev rm_Search_priceOf : Room := { frames := 1, cells := 0, slots := 0, locals := 25 }
abbrev cw_Search_priceOf : Cond := .code y_Search_priceOf b_Search_priceOf 8 (some .int)
abbrev ws_Search_priceOf : List Cond := cw_Search_priceOf :: GW
theorem hd_Search_priceOf : y_Search_priceOf.cls ≠ "java/lang/invoke/MethodHandle" ∧ y_Search_priceOf.cls ≠ "java/lang/invoke/VarHandle" ∧ (parseMethodDescriptor y_Search_priceOf.desc).map (fun d => d.parameters.length) = some 3 := by decide +kernel
def m_Search_priceOf_122 (pr_size : Int32) (pr_total : Int32) (pr_perNote : Int32) (pr_mostAlike : Int32) (pr_notePrices : Nat → Int32) (pr_mustPass : Nat → Int32) (pr_movePrices : Nat → Int32) (pr_badClosings : Nat → Int32) (pr_badTurns : Nat → Int32) (pr_passings : Nat → Int32) (pr_strongPrices : Nat → Int32) (se_top : Int32) (se_closes : Int32)   (x1 : Int32) (x2 : Int32) (x3 : Int32) (x5 : Int32) (x6 : Int32) : Option (Int32) :=
  (bd (m_Prices_endsStrongMove pr_perNote x1) (fun u1 => (if u1 = (0 : Int32) then
    (some (x5 + x6))
  else
    (bd (m_Prices_strongPrice pr_perNote pr_strongPrices x1 ((x2 >>> ((6 : Int32) &&& 31)) &&& (7 : Int32)) x3) (fun u4 => (if u4 = (-1 : Int32) then
      (some (-1 : Int32))
    else
      (some ((x5 + x6) + u4))))))))
set_option maxHeartbeats 4000000 in
set_option maxRecDepth 100000 in
theorem l_Search_priceOf_122 {r : Int32} {ad : Nat → Nat} {pr_size : Int32} {pr_total : Int32} {pr_perNote : Int32} {pr_mostAlike : Int32} {pr_notePrices : Nat → Int32} {pr_mustPass : Nat → Int32} {pr_movePrices : Nat → Int32} {pr_badClosings : Nat → Int32} {pr_badTurns : Nat → Int32} {pr_passings : Nat → Int32} {pr_strongPrices : Nat → Int32} {se_mark : Int32} {se_top : Int32} {se_closes : Int32} {se_leastCost : Int32} {se_allLines : Int64} {se_leastLines : Int64}  {x1 : Int32} {x2 : Int32} {x3 : Int32} {x5 : Int32} {x6 : Int32} {H : Heap} {locs : List Loc} {ls : Array Slot} (C : Cx p s m meth c args A D kc R_Search b_Search_priceOf 8 (some .int))  (hm : m_Search_priceOf_122 pr_size pr_total pr_perNote pr_mostAlike pr_notePrices pr_mustPass pr_movePrices pr_badClosings pr_badTurns pr_passings pr_strongPrices se_top se_closes  x1 x2 x3 x5 x6 = some r) (hZ : St D A s (wd_Search_priceOf kc ad pr_size pr_total pr_perNote pr_mostAlike pr_notePrices pr_mustPass pr_movePrices pr_badClosings pr_badTurns pr_passings pr_strongPrices se_mark se_top se_closes se_leastCost se_allLines se_leastLines) H locs) (hl : lv_has ls 8 [(0, .ref (ad 23)), (1, .int x1), (2, .int x2), (3, .int x3), (5, .int x5), (6, .int x6)]) : W p l e rm_Search_priceOf s m args below meth c H locs 0 0 (MQ below (Qi D A (wd_Search_priceOf kc ad pr_size pr_total pr_perNote pr_mostAlike pr_notePrices pr_mustPass pr_movePrices pr_badClosings pr_badTurns pr_passings pr_strongPrices se_mark se_top se_closes se_leastCost se_allLines se_leastLines) r) args s 0 0 A) (F0 m 122 ls []) := by
  obtain ⟨hx, hb, hr, hts, hown, hml, hlocks, hK, hN, hA, hX⟩ := id C
  obtain ⟨hP, hD, hS⟩ := hZ
  unfold m_Search_priceOf_122 at hm
  refine lv_aload_n hx hb d_Search_priceOf_122 rfl (lv_at hl 0 rfl) ?_
  refine va_get (D := D) (ci := 6) (v := .ref (ad 13)) (C := R_Search) (T := T_Search) (N := 18) hx hb hts inG_Search hown hK hP 8 rfl rfl 1 (by decide) (hts _ gw_310) (fun _ h9 => h9) rfl d_Search_priceOf_123 ?_
  refine lv_iload_n hx hb d_Search_priceOf_126 rfl (lv_at hl 1 rfl) ?_
  obtain ⟨u1, hc2, hm⟩ := bd_some hm
  refine zVN_i (n := 1) (wr := [((ad 15), .inl (kc 0, 360, .inl pr_notePrices)), ((ad 16), .inl (kc 1, 360, .inl pr_mustPass)), ((ad 17), .inl (kc 0, 64, .inl pr_movePrices)), ((ad 19), .inl (kc 1, 64, .inl pr_badClosings)), ((ad 20), .inl (kc 1, 512, .inl pr_badTurns)), ((ad 21), .inl (kc 1, 512, .inl pr_passings)), ((ad 22), .inl (kc 0, 768, .inl pr_strongPrices)), ((ad 23), .inr (6, [.ref (ad 1), .ref (ad 13), .ref (ad 24), .ref (ad 25), .ref (ad 26), .ref (ad 27), .ref (ad 28), .int se_mark, .ref (ad 29), .ref (ad 30), .ref (ad 31), .ref (ad 32), .ref (ad 33), .int se_top, .int se_closes, .int se_leastCost, .long se_allLines, .long se_leastLines]))]) (w1 := (wd_Prices_endsStrongMove kc ad pr_size pr_total pr_perNote pr_mostAlike)) (ws1 := (wd_Search_priceOf kc ad pr_size pr_total pr_perNote pr_mostAlike pr_notePrices pr_mustPass pr_movePrices pr_badClosings pr_badTurns pr_passings pr_strongPrices se_mark se_top se_closes se_leastCost se_allLines se_leastLines)) (As := [.int x1]) (rest := []) (ci := 4) (q0 := 0) (y := y_Prices_endsStrongMove) (host := "SpeciesSolver") ⟨hx, hb, hml, hown, hts⟩ (fun sz => c_Prices_endsStrongMove hc2 sz) gw_651 (hN _ nw_648) gw_650 gw_48 gw_116 hd_Prices_endsStrongMove ⟨Nat.le_of_ble_eq_true rfl, Nat.le_of_ble_eq_true rfl⟩ ⟨rfl, rfl⟩ ⟨Nat.zero_le _, Nat.zero_le _⟩ hK hN hP hD hS hA hX [0] [1, 2, 3, 4, 5, 6, 7, 8] [8, 0, 1, 2, 3, 4, 5, 6, 7] rfl rfl (by decide) (by decide) (by decide) rfl (by decide) rfl rfl rfl hl.1 rfl (Nat.le_of_ble_eq_true rfl) d_Search_priceOf_127 (fun H locs hP hD hS => ?_)
  refine lv_if_ne (tgt := 139) hx hb d_Search_priceOf_130 (by decide) (fun c3 => ?_) (fun c3 => ?_)
  · replace hm := ifF hm c3
    refine lv_aload_n hx hb d_Search_priceOf_139 rfl (lv_at hl 0 rfl) ?_
    refine va_get (D := D) (ci := 6) (v := .ref (ad 13)) (C := R_Search) (T := T_Search) (N := 18) hx hb hts inG_Search hown hK hP 8 rfl rfl 1 (by decide) (hts _ gw_310) (fun _ h9 => h9) rfl d_Search_priceOf_140 ?_
    refine lv_iload_n hx hb d_Search_priceOf_143 rfl (lv_at hl 1 rfl) ?_
    refine lv_iload_n hx hb d_Search_priceOf_144 rfl (lv_at hl 2 rfl) ?_
    refine lv_bipush (v := 6) hx hb d_Search_priceOf_145 (by decide) ?_
    refine lv_ishr hx hb d_Search_priceOf_147 ?_
    refine lv_bipush (v := 7) hx hb d_Search_priceOf_148 (by decide) ?_
    refine lv_iand hx hb d_Search_priceOf_150 ?_
    refine lv_iload_n hx hb d_Search_priceOf_151 rfl (lv_at hl 3 rfl) ?_
    obtain ⟨u4, hc5, hm⟩ := bd_some hm
    refine zVN_i (n := 3) (wr := [((ad 15), .inl (kc 0, 360, .inl pr_notePrices)), ((ad 16), .inl (kc 1, 360, .inl pr_mustPass)), ((ad 17), .inl (kc 0, 64, .inl pr_movePrices)), ((ad 19), .inl (kc 1, 64, .inl pr_badClosings)), ((ad 20), .inl (kc 1, 512, .inl pr_badTurns)), ((ad 21), .inl (kc 1, 512, .inl pr_passings)), ((ad 23), .inr (6, [.ref (ad 1), .ref (ad 13), .ref (ad 24), .ref (ad 25), .ref (ad 26), .ref (ad 27), .ref (ad 28), .int se_mark, .ref (ad 29), .ref (ad 30), .ref (ad 31), .ref (ad 32), .ref (ad 33), .int se_top, .int se_closes, .int se_leastCost, .long se_allLines, .long se_leastLines]))]) (w1 := (wd_Prices_strongPrice kc ad pr_size pr_total pr_perNote pr_mostAlike pr_strongPrices)) (ws1 := (wd_Search_priceOf kc ad pr_size pr_total pr_perNote pr_mostAlike pr_notePrices pr_mustPass pr_movePrices pr_badClosings pr_badTurns pr_passings pr_strongPrices se_mark se_top se_closes se_leastCost se_allLines se_leastLines)) (As := [.int x1, .int ((x2 >>> ((6 : Int32) &&& 31)) &&& (7 : Int32)), .int x3]) (rest := []) (ci := 4) (q0 := 0) (y := y_Prices_strongPrice) (host := "SpeciesSolver") ⟨hx, hb, hml, hown, hts⟩ (fun sz => c_Prices_strongPrice hc5 sz) gw_655 (hN _ nw_652) gw_654 gw_49 gw_116 hd_Prices_strongPrice ⟨Nat.le_of_ble_eq_true rfl, Nat.le_of_ble_eq_true rfl⟩ ⟨rfl, rfl⟩ ⟨Nat.zero_le _, Nat.zero_le _⟩ hK hN hP hD hS hA hX [0, 7] [1, 2, 3, 4, 5, 6, 8] [7, 0, 1, 2, 3, 4, 5, 8, 6] rfl rfl (by decide) (by decide) (by decide) rfl (by decide) rfl rfl rfl hl.1 rfl (Nat.le_of_ble_eq_true rfl) d_Search_priceOf_152 (fun H locs hP hD hS => ?_)
    refine lv_istore (lv' := [(7, .int u4), (0, .ref (ad 23)), (1, .int x1), (2, .int x2), (3, .int x3), (5, .int x5), (6, .int x6)]) hx hb d_Search_priceOf_155 hl (by decide) rfl (fun ls hl => ?_)
    refine lv_iload hx hb d_Search_priceOf_157 (lv_at hl 0 rfl) ?_
    refine lv_iconst (v := -1) hx hb d_Search_priceOf_159 (by decide) ?_
    refine lv_icmp_ne (tgt := 167) hx hb d_Search_priceOf_160 (by decide) (fun c6 => ?_) (fun c6 => ?_)
    · replace hm := ifF hm c6
      refine lv_iload hx hb d_Search_priceOf_167 (lv_at hl 5 rfl) ?_
      refine lv_iload hx hb d_Search_priceOf_169 (lv_at hl 6 rfl) ?_
      refine lv_iadd hx hb d_Search_priceOf_171 ?_
      refine lv_iload hx hb d_Search_priceOf_172 (lv_at hl 0 rfl) ?_
      refine lv_iadd hx hb d_Search_priceOf_174 ?_
      replace hm := Option.some.inj hm; subst hm
      exact zret_i C hP hD hS d_Search_priceOf_175
    · replace hm := ifT hm c6
      refine lv_iconst (v := -1) hx hb d_Search_priceOf_163 (by decide) ?_
      refine lv_goto (tgt := 175) hx hb d_Search_priceOf_164 (by decide) ?_
      replace hm := Option.some.inj hm; subst hm
      exact zret_i C hP hD hS d_Search_priceOf_175
  · replace hm := ifT hm c3
    refine lv_iload hx hb d_Search_priceOf_133 (lv_at hl 4 rfl) ?_
    refine lv_iload hx hb d_Search_priceOf_135 (lv_at hl 5 rfl) ?_
    refine lv_iadd hx hb d_Search_priceOf_137 ?_
    replace hm := Option.some.inj hm; subst hm
    exact zret_i C hP hD hS d_Search_priceOf_138
def m_Search_priceOf (pr_size : Int32) (pr_total : Int32) (pr_perNote : Int32) (pr_mostAlike : Int32) (pr_notePrices : Nat → Int32) (pr_mustPass : Nat → Int32) (pr_movePrices : Nat → Int32) (pr_badClosings : Nat → Int32) (pr_badTurns : Nat → Int32) (pr_passings : Nat → Int32) (pr_strongPrices : Nat → Int32) (se_top : Int32) (se_closes : Int32)  (a1 : Int32) (a2 : Int32) (a3 : Int32) : Option (Int32) :=
  (gd ((a1 * (8 : Int32)) + a3) 360 (gd (((a2 &&& (7 : Int32)) * (8 : Int32)) + a3) 64 (if (pr_notePrices (Int32.toNatClampNeg ((a1 * (8 : Int32)) + a3))) = (-1 : Int32) then
    (some (-1 : Int32))
  else
    (if (pr_movePrices (Int32.toNatClampNeg (((a2 &&& (7 : Int32)) * (8 : Int32)) + a3))) = (-1 : Int32) then
      (some (-1 : Int32))
    else
      (bd (m_Search_isOverTop se_top a2 a3) (fun u5 => (if u5 = (0 : Int32) then
        (bd (m_Search_isOnceTooOften pr_mostAlike a2 a3) (fun u8 => (if u8 = (0 : Int32) then
          (bd (m_Prices_isBadTurn pr_mustPass pr_badTurns pr_passings a1 ((a2 >>> ((3 : Int32) &&& 31)) &&& (7 : Int32)) (a2 &&& (7 : Int32)) a3) (fun u11 => (if u11 = (0 : Int32) then
            (if se_closes = (0 : Int32) then
              m_Search_priceOf_122 pr_size pr_total pr_perNote pr_mostAlike pr_notePrices pr_mustPass pr_movePrices pr_badClosings pr_badTurns pr_passings pr_strongPrices se_top se_closes  a1 a2 a3 (pr_notePrices (Int32.toNatClampNeg ((a1 * (8 : Int32)) + a3))) (pr_movePrices (Int32.toNatClampNeg (((a2 &&& (7 : Int32)) * (8 : Int32)) + a3)))
            else
              (if a1 = (pr_total - (1 : Int32)) then
                (bd (m_Search_isBadEnd pr_size pr_badClosings se_top a2 a3) (fun u16 => (if u16 = (0 : Int32) then
                  m_Search_priceOf_122 pr_size pr_total pr_perNote pr_mostAlike pr_notePrices pr_mustPass pr_movePrices pr_badClosings pr_badTurns pr_passings pr_strongPrices se_top se_closes  a1 a2 a3 (pr_notePrices (Int32.toNatClampNeg ((a1 * (8 : Int32)) + a3))) (pr_movePrices (Int32.toNatClampNeg (((a2 &&& (7 : Int32)) * (8 : Int32)) + a3)))
                else
                  (some (-1 : Int32)))))
              else
                m_Search_priceOf_122 pr_size pr_total pr_perNote pr_mostAlike pr_notePrices pr_mustPass pr_movePrices pr_badClosings pr_badTurns pr_passings pr_strongPrices se_top se_closes  a1 a2 a3 (pr_notePrices (Int32.toNatClampNeg ((a1 * (8 : Int32)) + a3))) (pr_movePrices (Int32.toNatClampNeg (((a2 &&& (7 : Int32)) * (8 : Int32)) + a3)))))
          else
            (some (-1 : Int32)))))
        else
          (some (-1 : Int32)))))
      else
        (some (-1 : Int32)))))))))
set_option maxHeartbeats 4000000 in
set_option maxRecDepth 100000 in
theorem e_Search_priceOf {r : Int32} {ad : Nat → Nat} {pr_size : Int32} {pr_total : Int32} {pr_perNote : Int32} {pr_mostAlike : Int32} {pr_notePrices : Nat → Int32} {pr_mustPass : Nat → Int32} {pr_movePrices : Nat → Int32} {pr_badClosings : Nat → Int32} {pr_badTurns : Nat → Int32} {pr_passings : Nat → Int32} {pr_strongPrices : Nat → Int32} {se_mark : Int32} {se_top : Int32} {se_closes : Int32} {se_leastCost : Int32} {se_allLines : Int64} {se_leastLines : Int64} {a1 : Int32} {a2 : Int32} {a3 : Int32} {H : Heap} {locs : List Loc} {ls : Array Slot} (C : Cx p s m meth c args A D kc R_Search b_Search_priceOf 8 (some .int)) (hm : m_Search_priceOf pr_size pr_total pr_perNote pr_mostAlike pr_notePrices pr_mustPass pr_movePrices pr_badClosings pr_badTurns pr_passings pr_strongPrices se_top se_closes a1 a2 a3 = some r) (hZ : St D A s (wd_Search_priceOf kc ad pr_size pr_total pr_perNote pr_mostAlike pr_notePrices pr_mustPass pr_movePrices pr_badClosings pr_badTurns pr_passings pr_strongPrices se_mark se_top se_closes se_leastCost se_allLines se_leastLines) H locs) (hl : lv_has ls 8 [(0, .ref (ad 23)), (1, .int a1), (2, .int a2), (3, .int a3)]) : W p l e rm_Search_priceOf s m args below meth c H locs 0 0 (MQ below (Qi D A (wd_Search_priceOf kc ad pr_size pr_total pr_perNote pr_mostAlike pr_notePrices pr_mustPass pr_movePrices pr_badClosings pr_badTurns pr_passings pr_strongPrices se_mark se_top se_closes se_leastCost se_allLines se_leastLines) r) args s 0 0 A) (F0 m 0 ls []) := by
  obtain ⟨hx, hb, hr, hts, hown, hml, hlocks, hK, hN, hA, hX⟩ := id C
  obtain ⟨hP, hD, hS⟩ := hZ
  unfold m_Search_priceOf at hm
  refine lv_iload_n hx hb d_Search_priceOf_0 rfl (lv_at hl 2 rfl) ?_
  refine lv_bipush (v := 7) hx hb d_Search_priceOf_1 (by decide) ?_
  refine lv_iand hx hb d_Search_priceOf_3 ?_
  refine lv_istore (lv' := [(4, .int (a2 &&& (7 : Int32))), (0, .ref (ad 23)), (1, .int a1), (2, .int a2), (3, .int a3)]) hx hb d_Search_priceOf_4 hl (by decide) rfl (fun ls hl => ?_)
  refine lv_aload_n hx hb d_Search_priceOf_6 rfl (lv_at hl 1 rfl) ?_
  refine va_get (D := D) (ci := 6) (v := .ref (ad 13)) (C := R_Search) (T := T_Search) (N := 18) hx hb hts inG_Search hown hK hP 8 rfl rfl 1 (by decide) (hts _ gw_310) (fun _ h9 => h9) rfl d_Search_priceOf_7 ?_
  refine va_getN (D := D) (ci := 4) (v := .ref (ad 15)) (C := R_Prices) (T := T_Prices) (N := 15) hx hb hts inG_Prices hown hK hP 0 rfl rfl 3 (by decide) (va_Nw.use rfl (hN _ nw_253)) (fun _ h9 => h9) rfl d_Search_priceOf_10 ?_
  refine lv_iload_n hx hb d_Search_priceOf_13 rfl (lv_at hl 2 rfl) ?_
  refine lv_bipush (v := 8) hx hb d_Search_priceOf_14 (by decide) ?_
  refine lv_imul hx hb d_Search_priceOf_16 ?_
  refine lv_iload_n hx hb d_Search_priceOf_17 rfl (lv_at hl 4 rfl) ?_
  refine lv_iadd hx hb d_Search_priceOf_18 ?_
  obtain ⟨hi1, hm⟩ := gd_some hm
  refine va_iald hx hb hK hP 1 0 rfl rfl hi1 d_Search_priceOf_19 ?_
  refine lv_istore (lv' := [(5, .int (pr_notePrices (Int32.toNatClampNeg ((a1 * (8 : Int32)) + a3)))), (4, .int (a2 &&& (7 : Int32))), (0, .ref (ad 23)), (1, .int a1), (2, .int a2), (3, .int a3)]) hx hb d_Search_priceOf_20 hl (by decide) rfl (fun ls hl => ?_)
  refine lv_aload_n hx hb d_Search_priceOf_22 rfl (lv_at hl 2 rfl) ?_
  refine va_get (D := D) (ci := 6) (v := .ref (ad 13)) (C := R_Search) (T := T_Search) (N := 18) hx hb hts inG_Search hown hK hP 8 rfl rfl 1 (by decide) (hts _ gw_310) (fun _ h9 => h9) rfl d_Search_priceOf_23 ?_
  refine va_getN (D := D) (ci := 4) (v := .ref (ad 17)) (C := R_Prices) (T := T_Prices) (N := 15) hx hb hts inG_Prices hown hK hP 0 rfl rfl 5 (by decide) (va_Nw.use rfl (hN _ nw_256)) (fun _ h9 => h9) rfl d_Search_priceOf_26 ?_
  refine lv_iload hx hb d_Search_priceOf_29 (lv_at hl 1 rfl) ?_
  refine lv_bipush (v := 8) hx hb d_Search_priceOf_31 (by decide) ?_
  refine lv_imul hx hb d_Search_priceOf_33 ?_
  refine lv_iload_n hx hb d_Search_priceOf_34 rfl (lv_at hl 5 rfl) ?_
  refine lv_iadd hx hb d_Search_priceOf_35 ?_
  obtain ⟨hi2, hm⟩ := gd_some hm
  refine va_iald hx hb hK hP 3 0 rfl rfl hi2 d_Search_priceOf_36 ?_
  refine lv_istore (lv' := [(6, .int (pr_movePrices (Int32.toNatClampNeg (((a2 &&& (7 : Int32)) * (8 : Int32)) + a3)))), (5, .int (pr_notePrices (Int32.toNatClampNeg ((a1 * (8 : Int32)) + a3)))), (4, .int (a2 &&& (7 : Int32))), (0, .ref (ad 23)), (1, .int a1), (2, .int a2), (3, .int a3)]) hx hb d_Search_priceOf_37 hl (by decide) rfl (fun ls hl => ?_)
  refine lv_iload hx hb d_Search_priceOf_39 (lv_at hl 1 rfl) ?_
  refine lv_iconst (v := -1) hx hb d_Search_priceOf_41 (by decide) ?_
  refine lv_icmp_eq (tgt := 89) hx hb d_Search_priceOf_42 (by decide) (fun c3 => ?_) (fun c3 => ?_)
  · replace hm := ifT hm c3
    refine lv_iconst (v := -1) hx hb d_Search_priceOf_89 (by decide) ?_
    replace hm := Option.some.inj hm; subst hm
    exact zret_i C hP hD hS d_Search_priceOf_90
  · replace hm := ifF hm c3
    refine lv_iload hx hb d_Search_priceOf_45 (lv_at hl 0 rfl) ?_
    refine lv_iconst (v := -1) hx hb d_Search_priceOf_47 (by decide) ?_
    refine lv_icmp_eq (tgt := 89) hx hb d_Search_priceOf_48 (by decide) (fun c4 => ?_) (fun c4 => ?_)
    · replace hm := ifT hm c4
      refine lv_iconst (v := -1) hx hb d_Search_priceOf_89 (by decide) ?_
      replace hm := Option.some.inj hm; subst hm
      exact zret_i C hP hD hS d_Search_priceOf_90
    · replace hm := ifF hm c4
      refine lv_aload_n hx hb d_Search_priceOf_51 rfl (lv_at hl 3 rfl) ?_
      refine lv_iload_n hx hb d_Search_priceOf_52 rfl (lv_at hl 5 rfl) ?_
      refine lv_iload_n hx hb d_Search_priceOf_53 rfl (lv_at hl 6 rfl) ?_
      obtain ⟨u5, hc6, hm⟩ := bd_some hm
      refine zV_i (n := 2) (wr := [((ad 13), .inr (4, [.ref (ad 1), .ref (ad 8), .ref (ad 14), .ref (ad 15), .ref (ad 16), .ref (ad 17), .ref (ad 18), .ref (ad 19), .ref (ad 20), .ref (ad 21), .ref (ad 22), .int pr_size, .int pr_total, .int pr_perNote, .int pr_mostAlike])), ((ad 15), .inl (kc 0, 360, .inl pr_notePrices)), ((ad 16), .inl (kc 1, 360, .inl pr_mustPass)), ((ad 17), .inl (kc 0, 64, .inl pr_movePrices)), ((ad 19), .inl (kc 1, 64, .inl pr_badClosings)), ((ad 20), .inl (kc 1, 512, .inl pr_badTurns)), ((ad 21), .inl (kc 1, 512, .inl pr_passings)), ((ad 22), .inl (kc 0, 768, .inl pr_strongPrices))]) (w1 := (wd_Search_isOverTop kc ad se_mark se_top se_closes se_leastCost se_allLines se_leastLines)) (ws1 := (wd_Search_priceOf kc ad pr_size pr_total pr_perNote pr_mostAlike pr_notePrices pr_mustPass pr_movePrices pr_badClosings pr_badTurns pr_passings pr_strongPrices se_mark se_top se_closes se_leastCost se_allLines se_leastLines)) (As := [.int a2, .int a3]) (rest := []) (ci := 6) (q0 := 0) (y := y_Search_isOverTop) ⟨hx, hb, hml, hown, hts⟩ (fun sz => c_Search_isOverTop hc6 sz) gw_635 gw_632 gw_634 gw_44 gw_117 hd_Search_isOverTop ⟨Nat.le_of_ble_eq_true rfl, Nat.le_of_ble_eq_true rfl⟩ ⟨rfl, rfl⟩ ⟨Nat.zero_le _, Nat.zero_le _⟩ hK hN hP hD hS hA hX [8] [0, 1, 2, 3, 4, 5, 6, 7] [0, 1, 2, 3, 4, 5, 6, 7, 8] rfl rfl (by decide) (by decide) (by decide) rfl (by decide) rfl rfl rfl hl.1 rfl (Nat.le_of_ble_eq_true rfl) d_Search_priceOf_54 (fun H locs hP hD hS => ?_)
      refine lv_if_ne (tgt := 89) hx hb d_Search_priceOf_57 (by decide) (fun c7 => ?_) (fun c7 => ?_)
      · replace hm := ifF hm c7
        refine lv_iconst (v := -1) hx hb d_Search_priceOf_89 (by decide) ?_
        replace hm := Option.some.inj hm; subst hm
        exact zret_i C hP hD hS d_Search_priceOf_90
      · replace hm := ifT hm c7
        refine lv_aload_n hx hb d_Search_priceOf_60 rfl (lv_at hl 3 rfl) ?_
        refine lv_iload_n hx hb d_Search_priceOf_61 rfl (lv_at hl 5 rfl) ?_
        refine lv_iload_n hx hb d_Search_priceOf_62 rfl (lv_at hl 6 rfl) ?_
        obtain ⟨u8, hc9, hm⟩ := bd_some hm
        refine zV_i (n := 2) (wr := [((ad 15), .inl (kc 0, 360, .inl pr_notePrices)), ((ad 16), .inl (kc 1, 360, .inl pr_mustPass)), ((ad 17), .inl (kc 0, 64, .inl pr_movePrices)), ((ad 19), .inl (kc 1, 64, .inl pr_badClosings)), ((ad 20), .inl (kc 1, 512, .inl pr_badTurns)), ((ad 21), .inl (kc 1, 512, .inl pr_passings)), ((ad 22), .inl (kc 0, 768, .inl pr_strongPrices))]) (w1 := (wd_Search_isOnceTooOften kc ad pr_size pr_total pr_perNote pr_mostAlike se_mark se_top se_closes se_leastCost se_allLines se_leastLines)) (ws1 := (wd_Search_priceOf kc ad pr_size pr_total pr_perNote pr_mostAlike pr_notePrices pr_mustPass pr_movePrices pr_badClosings pr_badTurns pr_passings pr_strongPrices se_mark se_top se_closes se_leastCost se_allLines se_leastLines)) (As := [.int a2, .int a3]) (rest := []) (ci := 6) (q0 := 1) (y := y_Search_isOnceTooOften) ⟨hx, hb, hml, hown, hts⟩ (fun sz => c_Search_isOnceTooOften hc9 sz) gw_639 gw_636 gw_638 gw_45 gw_117 hd_Search_isOnceTooOften ⟨Nat.le_of_ble_eq_true rfl, Nat.le_of_ble_eq_true rfl⟩ ⟨rfl, rfl⟩ ⟨Nat.zero_le _, Nat.zero_le _⟩ hK hN hP hD hS hA hX [0, 8] [1, 2, 3, 4, 5, 6, 7] [7, 0, 1, 2, 3, 4, 5, 6, 8] rfl rfl (by decide) (by decide) (by decide) rfl (by decide) rfl rfl rfl hl.1 rfl (Nat.le_of_ble_eq_true rfl) d_Search_priceOf_63 (fun H locs hP hD hS => ?_)
        refine lv_if_ne (tgt := 89) hx hb d_Search_priceOf_66 (by decide) (fun c10 => ?_) (fun c10 => ?_)
        · replace hm := ifF hm c10
          refine lv_iconst (v := -1) hx hb d_Search_priceOf_89 (by decide) ?_
          replace hm := Option.some.inj hm; subst hm
          exact zret_i C hP hD hS d_Search_priceOf_90
        · replace hm := ifT hm c10
          refine lv_aload_n hx hb d_Search_priceOf_69 rfl (lv_at hl 3 rfl) ?_
          refine va_get (D := D) (ci := 6) (v := .ref (ad 13)) (C := R_Search) (T := T_Search) (N := 18) hx hb hts inG_Search hown hK hP 8 rfl rfl 1 (by decide) (hts _ gw_310) (fun _ h9 => h9) rfl d_Search_priceOf_70 ?_
          refine lv_iload_n hx hb d_Search_priceOf_73 rfl (lv_at hl 4 rfl) ?_
          refine lv_iload_n hx hb d_Search_priceOf_74 rfl (lv_at hl 5 rfl) ?_
          refine lv_iconst (v := 3) hx hb d_Search_priceOf_75 (by decide) ?_
          refine lv_ishr hx hb d_Search_priceOf_76 ?_
          refine lv_bipush (v := 7) hx hb d_Search_priceOf_77 (by decide) ?_
          refine lv_iand hx hb d_Search_priceOf_79 ?_
          refine lv_iload hx hb d_Search_priceOf_80 (lv_at hl 2 rfl) ?_
          refine lv_iload_n hx hb d_Search_priceOf_82 rfl (lv_at hl 6 rfl) ?_
          obtain ⟨u11, hc12, hm⟩ := bd_some hm
          refine zVN_i (n := 4) (wr := [((ad 15), .inl (kc 0, 360, .inl pr_notePrices)), ((ad 17), .inl (kc 0, 64, .inl pr_movePrices)), ((ad 19), .inl (kc 1, 64, .inl pr_badClosings)), ((ad 22), .inl (kc 0, 768, .inl pr_strongPrices)), ((ad 23), .inr (6, [.ref (ad 1), .ref (ad 13), .ref (ad 24), .ref (ad 25), .ref (ad 26), .ref (ad 27), .ref (ad 28), .int se_mark, .ref (ad 29), .ref (ad 30), .ref (ad 31), .ref (ad 32), .ref (ad 33), .int se_top, .int se_closes, .int se_leastCost, .long se_allLines, .long se_leastLines]))]) (w1 := (wd_Prices_isBadTurn kc ad pr_size pr_total pr_perNote pr_mostAlike pr_mustPass pr_badTurns pr_passings)) (ws1 := (wd_Search_priceOf kc ad pr_size pr_total pr_perNote pr_mostAlike pr_notePrices pr_mustPass pr_movePrices pr_badClosings pr_badTurns pr_passings pr_strongPrices se_mark se_top se_closes se_leastCost se_allLines se_leastLines)) (As := [.int a1, .int ((a2 >>> ((3 : Int32) &&& 31)) &&& (7 : Int32)), .int (a2 &&& (7 : Int32)), .int a3]) (rest := []) (ci := 4) (q0 := 0) (y := y_Prices_isBadTurn) (host := "SpeciesSolver") ⟨hx, hb, hml, hown, hts⟩ (fun sz => c_Prices_isBadTurn hc12 sz) gw_643 (hN _ nw_640) gw_642 gw_46 gw_116 hd_Prices_isBadTurn ⟨Nat.le_of_ble_eq_true rfl, Nat.le_of_ble_eq_true rfl⟩ ⟨rfl, rfl⟩ ⟨Nat.zero_le _, Nat.zero_le _⟩ hK hN hP hD hS hA hX [0, 2, 5, 6] [1, 3, 4, 7, 8] [5, 0, 6, 1, 2, 7, 8, 3, 4] rfl rfl (by decide) (by decide) (by decide) rfl (by decide) rfl rfl rfl hl.1 rfl (Nat.le_of_ble_eq_true rfl) d_Search_priceOf_83 (fun H locs hP hD hS => ?_)
          refine lv_if_eq (tgt := 91) hx hb d_Search_priceOf_86 (by decide) (fun c13 => ?_) (fun c13 => ?_)
          · replace hm := ifT hm c13
            refine lv_aload_n hx hb d_Search_priceOf_91 rfl (lv_at hl 3 rfl) ?_
            refine va_get (D := D) (ci := 6) (v := .int se_closes) (C := R_Search) (T := T_Search) (N := 18) hx hb hts inG_Search hown hK hP 8 rfl rfl 14 (by decide) (hts _ gw_323) (fun _ h9 => h9) rfl d_Search_priceOf_92 ?_
            refine lv_if_eq (tgt := 122) hx hb d_Search_priceOf_95 (by decide) (fun c14 => ?_) (fun c14 => ?_)
            · replace hm := ifT hm c14
              exact l_Search_priceOf_122 C  hm ⟨hP, hD, hS⟩ (lv_sub hl [3, 4, 5, 6, 1, 0] rfl)
            · replace hm := ifF hm c14
              refine lv_iload_n hx hb d_Search_priceOf_98 rfl (lv_at hl 4 rfl) ?_
              refine lv_aload_n hx hb d_Search_priceOf_99 rfl (lv_at hl 3 rfl) ?_
              refine va_get (D := D) (ci := 6) (v := .ref (ad 13)) (C := R_Search) (T := T_Search) (N := 18) hx hb hts inG_Search hown hK hP 8 rfl rfl 1 (by decide) (hts _ gw_310) (fun _ h9 => h9) rfl d_Search_priceOf_100 ?_
              refine va_getN (D := D) (ci := 4) (v := .int pr_total) (C := R_Prices) (T := T_Prices) (N := 15) hx hb hts inG_Prices hown hK hP 0 rfl rfl 12 (by decide) (va_Nw.use rfl (hN _ nw_266)) (fun _ h9 => h9) rfl d_Search_priceOf_103 ?_
              refine lv_iconst (v := 1) hx hb d_Search_priceOf_106 (by decide) ?_
              refine lv_isub hx hb d_Search_priceOf_107 ?_
              refine lv_icmp_ne (tgt := 122) hx hb d_Search_priceOf_108 (by decide) (fun c15 => ?_) (fun c15 => ?_)
              · replace hm := ifF hm c15
                exact l_Search_priceOf_122 C  hm ⟨hP, hD, hS⟩ (lv_sub hl [3, 4, 5, 6, 1, 0] rfl)
              · replace hm := ifT hm c15
                refine lv_aload_n hx hb d_Search_priceOf_111 rfl (lv_at hl 3 rfl) ?_
                refine lv_iload_n hx hb d_Search_priceOf_112 rfl (lv_at hl 5 rfl) ?_
                refine lv_iload_n hx hb d_Search_priceOf_113 rfl (lv_at hl 6 rfl) ?_
                obtain ⟨u16, hc17, hm⟩ := bd_some hm
                refine zV_i (n := 2) (wr := [((ad 15), .inl (kc 0, 360, .inl pr_notePrices)), ((ad 16), .inl (kc 1, 360, .inl pr_mustPass)), ((ad 17), .inl (kc 0, 64, .inl pr_movePrices)), ((ad 20), .inl (kc 1, 512, .inl pr_badTurns)), ((ad 21), .inl (kc 1, 512, .inl pr_passings)), ((ad 22), .inl (kc 0, 768, .inl pr_strongPrices))]) (w1 := (wd_Search_isBadEnd kc ad pr_size pr_total pr_perNote pr_mostAlike pr_badClosings se_mark se_top se_closes se_leastCost se_allLines se_leastLines)) (ws1 := (wd_Search_priceOf kc ad pr_size pr_total pr_perNote pr_mostAlike pr_notePrices pr_mustPass pr_movePrices pr_badClosings pr_badTurns pr_passings pr_strongPrices se_mark se_top se_closes se_leastCost se_allLines se_leastLines)) (As := [.int a2, .int a3]) (rest := []) (ci := 6) (q0 := 2) (y := y_Search_isBadEnd) ⟨hx, hb, hml, hown, hts⟩ (fun sz => c_Search_isBadEnd hc17 sz) gw_647 gw_644 gw_646 gw_47 gw_117 hd_Search_isBadEnd ⟨Nat.le_of_ble_eq_true rfl, Nat.le_of_ble_eq_true rfl⟩ ⟨rfl, rfl⟩ ⟨Nat.zero_le _, Nat.zero_le _⟩ hK hN hP hD hS hA hX [0, 4, 8] [1, 2, 3, 5, 6, 7] [6, 0, 1, 2, 7, 3, 4, 5, 8] rfl rfl (by decide) (by decide) (by decide) rfl (by decide) rfl rfl rfl hl.1 rfl (Nat.le_of_ble_eq_true rfl) d_Search_priceOf_114 (fun H locs hP hD hS => ?_)
                refine lv_if_eq (tgt := 122) hx hb d_Search_priceOf_117 (by decide) (fun c18 => ?_) (fun c18 => ?_)
                · replace hm := ifT hm c18
                  exact l_Search_priceOf_122 C  hm ⟨hP, hD, hS⟩ (lv_sub hl [3, 4, 5, 6, 1, 0] rfl)
                · replace hm := ifF hm c18
                  refine lv_iconst (v := -1) hx hb d_Search_priceOf_120 (by decide) ?_
                  replace hm := Option.some.inj hm; subst hm
                  exact zret_i C hP hD hS d_Search_priceOf_121
          · replace hm := ifF hm c13
            refine lv_iconst (v := -1) hx hb d_Search_priceOf_89 (by decide) ?_
            replace hm := Option.some.inj hm; subst hm
            exact zret_i C hP hD hS d_Search_priceOf_90
set_option maxHeartbeats 4000000 in
set_option maxRecDepth 100000 in
theorem c_Search_priceOf {l : Launch} {D : va_G} {kc : Nat → ClassId} {r : Int32} {ad : Nat → Nat} {pr_size : Int32} {pr_total : Int32} {pr_perNote : Int32} {pr_mostAlike : Int32} {pr_notePrices : Nat → Int32} {pr_mustPass : Nat → Int32} {pr_movePrices : Nat → Int32} {pr_badClosings : Nat → Int32} {pr_badTurns : Nat → Int32} {pr_passings : Nat → Int32} {pr_strongPrices : Nat → Int32} {se_mark : Int32} {se_top : Int32} {se_closes : Int32} {se_leastCost : Int32} {se_allLines : Int64} {se_leastLines : Int64} {a1 : Int32} {a2 : Int32} {a3 : Int32} (hm : m_Search_priceOf pr_size pr_total pr_perNote pr_mostAlike pr_notePrices pr_mustPass pr_movePrices pr_badClosings pr_badTurns pr_passings pr_strongPrices se_top se_closes a1 a2 a3 = some r) (sz : Nat) : Ci l y_Search_priceOf ws_Search_priceOf rm_Search_priceOf D kc sz [.ref (ad 23), .int a1, .int a2, .int a3] (wd_Search_priceOf kc ad pr_size pr_total pr_perNote pr_mostAlike pr_notePrices pr_mustPass pr_movePrices pr_badClosings pr_badTurns pr_passings pr_strongPrices se_mark se_top se_closes se_leastCost se_allLines se_leastLines) (wd_Search_priceOf kc ad pr_size pr_total pr_perNote pr_mostAlike pr_notePrices pr_mustPass pr_movePrices pr_badClosings pr_badTurns pr_passings pr_strongPrices se_mark se_top se_closes se_leastCost se_allLines se_leastLines) r :=
  Cz_of (Qf := fun A => (Qi D A (wd_Search_priceOf kc ad pr_size pr_total pr_perNote pr_mostAlike pr_notePrices pr_mustPass pr_movePrices pr_badClosings pr_badTurns pr_passings pr_strongPrices se_mark se_top se_closes se_leastCost se_allLines se_leastLines) r)) (cc := b_Search_priceOf) (maxL := 8) (ret := (some .int)) (by decide) rfl rfl (fun C hZ hl => e_Search_priceOf C hm hZ hl)
abbrev b_Prices_looksBack : ByteArray := prog_4_method_10_code
abbrev y_Prices_looksBack : MethodName := ⟨"SpeciesSolver$Prices", "looksBack", "(III)Z"⟩
theorem d_Prices_looksBack_0 : decode b_Prices_looksBack 0 = .ok (.aload_n 0, 1) := by decide +kernel
theorem d_Prices_looksBack_1 : decode b_Prices_looksBack 1 = .ok (.getfield 18, 3) := by decide +kernel
theorem d_Prices_looksBack_4 : decode b_Prices_looksBack 4 = .ok (.iload_n 1, 1) := by decide +kernel
theorem d_Prices_looksBack_5 : decode b_Prices_looksBack 5 = .ok (.bipush 8, 2) := by decide +kernel
theorem d_Prices_looksBack_7 : decode b_Prices_looksBack 7 = .ok (.imul, 1) := by decide +kernel
theorem d_Prices_looksBack_8 : decode b_Prices_looksBack 8 = .ok (.iload_n 3, 1) := by decide +kernel
theorem d_Prices_looksBack_9 : decode b_Prices_looksBack 9 = .ok (.iadd, 1) := by decide +kernel
theorem d_Prices_looksBack_10 : decode b_Prices_looksBack 10 = .ok (.baload, 1) := by decide +kernel
theorem d_Prices_looksBack_11 : decode b_Prices_looksBack 11 = .ok (.ifCond .ne 17, 3) := by decide +kernel
theorem d_Prices_looksBack_14 : decode b_Prices_looksBack 14 = .ok (.aload_n 0, 1) := by decide +kernel
theorem d_Prices_looksBack_15 : decode b_Prices_looksBack 15 = .ok (.getfield 25, 3) := by decide +kernel
theorem d_Prices_looksBack_18 : decode b_Prices_looksBack 18 = .ok (.iload_n 2, 1) := by decide +kernel
theorem d_Prices_looksBack_19 : decode b_Prices_looksBack 19 = .ok (.bipush 8, 2) := by decide +kernel
theorem d_Prices_looksBack_21 : decode b_Prices_looksBack 21 = .ok (.imul, 1) := by decide +kernel
theorem d_Prices_looksBack_22 : decode b_Prices_looksBack 22 = .ok (.iload_n 3, 1) := by decide +kernel
theorem d_Prices_looksBack_23 : decode b_Prices_looksBack 23 = .ok (.iadd, 1) := by decide +kernel
theorem d_Prices_looksBack_24 : decode b_Prices_looksBack 24 = .ok (.baload, 1) := by decide +kernel
theorem d_Prices_looksBack_25 : decode b_Prices_looksBack 25 = .ok (.ifCond .eq 7, 3) := by decide +kernel
theorem d_Prices_looksBack_28 : decode b_Prices_looksBack 28 = .ok (.iconst 1, 1) := by decide +kernel
theorem d_Prices_looksBack_29 : decode b_Prices_looksBack 29 = .ok (.goto 4, 3) := by decide +kernel
theorem d_Prices_looksBack_32 : decode b_Prices_looksBack 32 = .ok (.iconst 0, 1) := by decide +kernel
theorem d_Prices_looksBack_33 : decode b_Prices_looksBack 33 = .ok (.ireturn, 1) := by decide +kernel
abbrev wd_Prices_looksBack (kc : Nat → ClassId) (ad : Nat → Nat) (pr_size : Int32) (pr_total : Int32) (pr_perNote : Int32) (pr_mostAlike : Int32) (pr_mustPass : Nat → Int32) (pr_mustTurn : Nat → Int32) : va_W := [((ad 13), .inr (4, [.ref (ad 1), .ref (ad 8), .ref (ad 14), .ref (ad 15), .ref (ad 16), .ref (ad 17), .ref (ad 18), .ref (ad 19), .ref (ad 20), .ref (ad 21), .ref (ad 22), .int pr_size, .int pr_total, .int pr_perNote, .int pr_mostAlike])), ((ad 16), .inl (kc 1, 360, .inl pr_mustPass)), ((ad 18), .inl (kc 1, 64, .inl pr_mustTurn))]
abbrev rm_Prices_looksBack : Room := { frames := 0, cells := 0, slots := 0, locals := 0 }
abbrev cw_Prices_looksBack : Cond := .code y_Prices_looksBack b_Prices_looksBack 4 (some .boolean)
abbrev ws_Prices_looksBack : List Cond := cw_Prices_looksBack :: GW
theorem hd_Prices_looksBack : y_Prices_looksBack.cls ≠ "java/lang/invoke/MethodHandle" ∧ y_Prices_looksBack.cls ≠ "java/lang/invoke/VarHandle" ∧ (parseMethodDescriptor y_Prices_looksBack.desc).map (fun d => d.parameters.length) = some 3 := by decide +kernel
def m_Prices_looksBack (pr_mustPass : Nat → Int32) (pr_mustTurn : Nat → Int32)  (a1 : Int32) (a2 : Int32) (a3 : Int32) : Option (Int32) :=
  (gd ((a1 * (8 : Int32)) + a3) 360 (if (pr_mustPass (Int32.toNatClampNeg ((a1 * (8 : Int32)) + a3))) = (0 : Int32) then
    (gd ((a2 * (8 : Int32)) + a3) 64 (if (pr_mustTurn (Int32.toNatClampNeg ((a2 * (8 : Int32)) + a3))) = (0 : Int32) then
      (some (0 : Int32))
    else
      (some (1 : Int32))))
  else
    (some (1 : Int32))))
set_option maxHeartbeats 4000000 in
set_option maxRecDepth 100000 in
theorem e_Prices_looksBack {r : Int32} {ad : Nat → Nat} {pr_size : Int32} {pr_total : Int32} {pr_perNote : Int32} {pr_mostAlike : Int32} {pr_mustPass : Nat → Int32} {pr_mustTurn : Nat → Int32} {a1 : Int32} {a2 : Int32} {a3 : Int32} {H : Heap} {locs : List Loc} {ls : Array Slot} (C : Cx p s m meth c args A D kc R_Prices b_Prices_looksBack 4 (some .boolean)) (hm : m_Prices_looksBack pr_mustPass pr_mustTurn a1 a2 a3 = some r) (hZ : St D A s (wd_Prices_looksBack kc ad pr_size pr_total pr_perNote pr_mostAlike pr_mustPass pr_mustTurn) H locs) (hl : lv_has ls 4 [(0, .ref (ad 13)), (1, .int a1), (2, .int a2), (3, .int a3)]) : W p l e rm_Prices_looksBack s m args below meth c H locs 0 0 (MQ below (Qi D A (wd_Prices_looksBack kc ad pr_size pr_total pr_perNote pr_mostAlike pr_mustPass pr_mustTurn) r) args s 0 0 A) (F0 m 0 ls []) := by
  obtain ⟨hx, hb, hr, hts, hown, hml, hlocks, hK, hN, hA, hX⟩ := id C
  obtain ⟨hP, hD, hS⟩ := hZ
  unfold m_Prices_looksBack at hm
  refine lv_aload_n hx hb d_Prices_looksBack_0 rfl (lv_at hl 0 rfl) ?_
  refine va_get (D := D) (ci := 4) (v := .ref (ad 16)) (C := R_Prices) (T := T_Prices) (N := 15) hx hb hts inG_Prices hown hK hP 0 rfl rfl 4 (by decide) (hts _ gw_254) (fun _ h9 => h9) rfl d_Prices_looksBack_1 ?_
  refine lv_iload_n hx hb d_Prices_looksBack_4 rfl (lv_at hl 1 rfl) ?_
  refine lv_bipush (v := 8) hx hb d_Prices_looksBack_5 (by decide) ?_
  refine lv_imul hx hb d_Prices_looksBack_7 ?_
  refine lv_iload_n hx hb d_Prices_looksBack_8 rfl (lv_at hl 3 rfl) ?_
  refine lv_iadd hx hb d_Prices_looksBack_9 ?_
  obtain ⟨hi1, hm⟩ := gd_some hm
  refine va_zald hx hb hK hP 1 1 rfl rfl hi1 d_Prices_looksBack_10 ?_
  refine lv_if_ne (tgt := 28) hx hb d_Prices_looksBack_11 (by decide) (fun c2 => ?_) (fun c2 => ?_)
  · replace hm := ifF hm c2
    refine lv_iconst (v := 1) hx hb d_Prices_looksBack_28 (by decide) ?_
    refine lv_goto (tgt := 33) hx hb d_Prices_looksBack_29 (by decide) ?_
    replace hm := Option.some.inj hm; subst hm
    exact zret_z (v := 1) C hP hD hS (by rfl) d_Prices_looksBack_33
  · replace hm := ifT hm c2
    refine lv_aload_n hx hb d_Prices_looksBack_14 rfl (lv_at hl 0 rfl) ?_
    refine va_get (D := D) (ci := 4) (v := .ref (ad 18)) (C := R_Prices) (T := T_Prices) (N := 15) hx hb hts inG_Prices hown hK hP 0 rfl rfl 6 (by decide) (hts _ gw_257) (fun _ h9 => h9) rfl d_Prices_looksBack_15 ?_
    refine lv_iload_n hx hb d_Prices_looksBack_18 rfl (lv_at hl 2 rfl) ?_
    refine lv_bipush (v := 8) hx hb d_Prices_looksBack_19 (by decide) ?_
    refine lv_imul hx hb d_Prices_looksBack_21 ?_
    refine lv_iload_n hx hb d_Prices_looksBack_22 rfl (lv_at hl 3 rfl) ?_
    refine lv_iadd hx hb d_Prices_looksBack_23 ?_
    obtain ⟨hi3, hm⟩ := gd_some hm
    refine va_zald hx hb hK hP 2 1 rfl rfl hi3 d_Prices_looksBack_24 ?_
    refine lv_if_eq (tgt := 32) hx hb d_Prices_looksBack_25 (by decide) (fun c4 => ?_) (fun c4 => ?_)
    · replace hm := ifT hm c4
      refine lv_iconst (v := 0) hx hb d_Prices_looksBack_32 (by decide) ?_
      replace hm := Option.some.inj hm; subst hm
      exact zret_z (v := 0) C hP hD hS (by rfl) d_Prices_looksBack_33
    · replace hm := ifF hm c4
      refine lv_iconst (v := 1) hx hb d_Prices_looksBack_28 (by decide) ?_
      refine lv_goto (tgt := 33) hx hb d_Prices_looksBack_29 (by decide) ?_
      replace hm := Option.some.inj hm; subst hm
      exact zret_z (v := 1) C hP hD hS (by rfl) d_Prices_looksBack_33
set_option maxHeartbeats 4000000 in
set_option maxRecDepth 100000 in
theorem c_Prices_looksBack {l : Launch} {D : va_G} {kc : Nat → ClassId} {r : Int32} {ad : Nat → Nat} {pr_size : Int32} {pr_total : Int32} {pr_perNote : Int32} {pr_mostAlike : Int32} {pr_mustPass : Nat → Int32} {pr_mustTurn : Nat → Int32} {a1 : Int32} {a2 : Int32} {a3 : Int32} (hm : m_Prices_looksBack pr_mustPass pr_mustTurn a1 a2 a3 = some r) (sz : Nat) : Ci l y_Prices_looksBack ws_Prices_looksBack rm_Prices_looksBack D kc sz [.ref (ad 13), .int a1, .int a2, .int a3] (wd_Prices_looksBack kc ad pr_size pr_total pr_perNote pr_mostAlike pr_mustPass pr_mustTurn) (wd_Prices_looksBack kc ad pr_size pr_total pr_perNote pr_mostAlike pr_mustPass pr_mustTurn) r :=
  Cz_of (Qf := fun A => (Qi D A (wd_Prices_looksBack kc ad pr_size pr_total pr_perNote pr_mostAlike pr_mustPass pr_mustTurn) r)) (cc := b_Prices_looksBack) (maxL := 4) (ret := (some .boolean)) (by decide) rfl rfl (fun C hZ hl => e_Prices_looksBack C hm hZ hl)
end
