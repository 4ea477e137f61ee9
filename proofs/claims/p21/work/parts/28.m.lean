section
variable {p : Program} {l : Launch} {e : Env} {s : State} {m : MethodId} {args : Array Value} {below : List Frame} {meth : Method} {c : Code} {D : va_G} {kc : Nat → ClassId} {A : Nat → Prop}
abbrev b_Search_addWay : ByteArray := prog_6_method_19_code
abbrev y_Search_addWay : MethodName := ⟨"SpeciesSolver$Search", "addWay", "(III)Z"⟩
theorem d_Search_addWay_0 : decode b_Search_addWay 0 = .ok (.aload_n 0, 1) := by decide +kernel
theorem d_Search_addWay_1 : decode b_Search_addWay 1 = .ok (.getfield 32, 3) := by decide +kernel
theorem d_Search_addWay_4 : decode b_Search_addWay 4 = .ok (.iload_n 2, 1) := by decide +kernel
theorem d_Search_addWay_5 : decode b_Search_addWay 5 = .ok (.iaload, 1) := by decide +kernel
theorem d_Search_addWay_6 : decode b_Search_addWay 6 = .ok (.iconst (-1), 1) := by decide +kernel
theorem d_Search_addWay_7 : decode b_Search_addWay 7 = .ok (.if_icmp .ne 5, 3) := by decide +kernel
theorem d_Search_addWay_10 : decode b_Search_addWay 10 = .ok (.iconst 0, 1) := by decide +kernel
theorem d_Search_addWay_11 : decode b_Search_addWay 11 = .ok (.ireturn, 1) := by decide +kernel
theorem d_Search_addWay_12 : decode b_Search_addWay 12 = .ok (.iload_n 3, 1) := by decide +kernel
theorem d_Search_addWay_13 : decode b_Search_addWay 13 = .ok (.aload_n 0, 1) := by decide +kernel
theorem d_Search_addWay_14 : decode b_Search_addWay 14 = .ok (.getfield 32, 3) := by decide +kernel
theorem d_Search_addWay_17 : decode b_Search_addWay 17 = .ok (.iload_n 2, 1) := by decide +kernel
theorem d_Search_addWay_18 : decode b_Search_addWay 18 = .ok (.iaload, 1) := by decide +kernel
theorem d_Search_addWay_19 : decode b_Search_addWay 19 = .ok (.iadd, 1) := by decide +kernel
theorem d_Search_addWay_20 : decode b_Search_addWay 20 = .ok (.istore 4, 2) := by decide +kernel
theorem d_Search_addWay_22 : decode b_Search_addWay 22 = .ok (.aload_n 0, 1) := by decide +kernel
theorem d_Search_addWay_23 : decode b_Search_addWay 23 = .ok (.getfield 35, 3) := by decide +kernel
theorem d_Search_addWay_26 : decode b_Search_addWay 26 = .ok (.iload_n 1, 1) := by decide +kernel
theorem d_Search_addWay_27 : decode b_Search_addWay 27 = .ok (.dup2, 1) := by decide +kernel
theorem d_Search_addWay_28 : decode b_Search_addWay 28 = .ok (.laload, 1) := by decide +kernel
theorem d_Search_addWay_29 : decode b_Search_addWay 29 = .ok (.aload_n 0, 1) := by decide +kernel
theorem d_Search_addWay_30 : decode b_Search_addWay 30 = .ok (.getfield 35, 3) := by decide +kernel
theorem d_Search_addWay_33 : decode b_Search_addWay 33 = .ok (.iload_n 2, 1) := by decide +kernel
theorem d_Search_addWay_34 : decode b_Search_addWay 34 = .ok (.laload, 1) := by decide +kernel
theorem d_Search_addWay_35 : decode b_Search_addWay 35 = .ok (.ladd, 1) := by decide +kernel
theorem d_Search_addWay_36 : decode b_Search_addWay 36 = .ok (.lastore, 1) := by decide +kernel
theorem d_Search_addWay_37 : decode b_Search_addWay 37 = .ok (.aload_n 0, 1) := by decide +kernel
theorem d_Search_addWay_38 : decode b_Search_addWay 38 = .ok (.getfield 32, 3) := by decide +kernel
theorem d_Search_addWay_41 : decode b_Search_addWay 41 = .ok (.iload_n 1, 1) := by decide +kernel
theorem d_Search_addWay_42 : decode b_Search_addWay 42 = .ok (.iaload, 1) := by decide +kernel
theorem d_Search_addWay_43 : decode b_Search_addWay 43 = .ok (.iconst (-1), 1) := by decide +kernel
theorem d_Search_addWay_44 : decode b_Search_addWay 44 = .ok (.if_icmp .eq 14, 3) := by decide +kernel
theorem d_Search_addWay_47 : decode b_Search_addWay 47 = .ok (.iload 4, 2) := by decide +kernel
theorem d_Search_addWay_49 : decode b_Search_addWay 49 = .ok (.aload_n 0, 1) := by decide +kernel
theorem d_Search_addWay_50 : decode b_Search_addWay 50 = .ok (.getfield 32, 3) := by decide +kernel
theorem d_Search_addWay_53 : decode b_Search_addWay 53 = .ok (.iload_n 1, 1) := by decide +kernel
theorem d_Search_addWay_54 : decode b_Search_addWay 54 = .ok (.iaload, 1) := by decide +kernel
theorem d_Search_addWay_55 : decode b_Search_addWay 55 = .ok (.if_icmp .ge 25, 3) := by decide +kernel
theorem d_Search_addWay_58 : decode b_Search_addWay 58 = .ok (.aload_n 0, 1) := by decide +kernel
theorem d_Search_addWay_59 : decode b_Search_addWay 59 = .ok (.getfield 32, 3) := by decide +kernel
theorem d_Search_addWay_62 : decode b_Search_addWay 62 = .ok (.iload_n 1, 1) := by decide +kernel
theorem d_Search_addWay_63 : decode b_Search_addWay 63 = .ok (.iload 4, 2) := by decide +kernel
theorem d_Search_addWay_65 : decode b_Search_addWay 65 = .ok (.iastore, 1) := by decide +kernel
theorem d_Search_addWay_66 : decode b_Search_addWay 66 = .ok (.aload_n 0, 1) := by decide +kernel
theorem d_Search_addWay_67 : decode b_Search_addWay 67 = .ok (.getfield 39, 3) := by decide +kernel
theorem d_Search_addWay_70 : decode b_Search_addWay 70 = .ok (.iload_n 1, 1) := by decide +kernel
theorem d_Search_addWay_71 : decode b_Search_addWay 71 = .ok (.aload_n 0, 1) := by decide +kernel
theorem d_Search_addWay_72 : decode b_Search_addWay 72 = .ok (.getfield 39, 3) := by decide +kernel
theorem d_Search_addWay_75 : decode b_Search_addWay 75 = .ok (.iload_n 2, 1) := by decide +kernel
theorem d_Search_addWay_76 : decode b_Search_addWay 76 = .ok (.laload, 1) := by decide +kernel
theorem d_Search_addWay_77 : decode b_Search_addWay 77 = .ok (.lastore, 1) := by decide +kernel
theorem d_Search_addWay_78 : decode b_Search_addWay 78 = .ok (.iconst 1, 1) := by decide +kernel
theorem d_Search_addWay_79 : decode b_Search_addWay 79 = .ok (.ireturn, 1) := by decide +kernel
theorem d_Search_addWay_80 : decode b_Search_addWay 80 = .ok (.iload 4, 2) := by decide +kernel
theorem d_Search_addWay_82 : decode b_Search_addWay 82 = .ok (.aload_n 0, 1) := by decide +kernel
theorem d_Search_addWay_83 : decode b_Search_addWay 83 = .ok (.getfield 32, 3) := by decide +kernel
theorem d_Search_addWay_86 : decode b_Search_addWay 86 = .ok (.iload_n 1, 1) := by decide +kernel
theorem d_Search_addWay_87 : decode b_Search_addWay 87 = .ok (.iaload, 1) := by decide +kernel
theorem d_Search_addWay_88 : decode b_Search_addWay 88 = .ok (.if_icmp .ne 18, 3) := by decide +kernel
theorem d_Search_addWay_91 : decode b_Search_addWay 91 = .ok (.aload_n 0, 1) := by decide +kernel
theorem d_Search_addWay_92 : decode b_Search_addWay 92 = .ok (.getfield 39, 3) := by decide +kernel
theorem d_Search_addWay_95 : decode b_Search_addWay 95 = .ok (.iload_n 1, 1) := by decide +kernel
theorem d_Search_addWay_96 : decode b_Search_addWay 96 = .ok (.dup2, 1) := by decide +kernel
theorem d_Search_addWay_97 : decode b_Search_addWay 97 = .ok (.laload, 1) := by decide +kernel
theorem d_Search_addWay_98 : decode b_Search_addWay 98 = .ok (.aload_n 0, 1) := by decide +kernel
theorem d_Search_addWay_99 : decode b_Search_addWay 99 = .ok (.getfield 39, 3) := by decide +kernel
theorem d_Search_addWay_102 : decode b_Search_addWay 102 = .ok (.iload_n 2, 1) := by decide +kernel
theorem d_Search_addWay_103 : decode b_Search_addWay 103 = .ok (.laload, 1) := by decide +kernel
theorem d_Search_addWay_104 : decode b_Search_addWay 104 = .ok (.ladd, 1) := by decide +kernel
theorem d_Search_addWay_105 : decode b_Search_addWay 105 = .ok (.lastore, 1) := by decide +kernel
theorem d_Search_addWay_106 : decode b_Search_addWay 106 = .ok (.iconst 0, 1) := by decide +kernel
theorem d_Search_addWay_107 : decode b_Search_addWay 107 = .ok (.ireturn, 1) := by decide +kernel
abbrev wd_Search_addWay (kc : Nat → ClassId) (ad : Nat → Nat) (se_mark : Int32) (se_top : Int32) (se_closes : Int32) (se_leastCost : Int32) (se_allLines : Int64) (se_leastLines : Int64) (se_restCosts : Nat → Int32) (se_restLines : Nat → Int64) (se_restLeastLines : Nat → Int64) : va_W := [((ad 23), .inr (6, [.ref (ad 1), .ref (ad 13), .ref (ad 24), .ref (ad 25), .ref (ad 26), .ref (ad 27), .ref (ad 28), .int se_mark, .ref (ad 29), .ref (ad 30), .ref (ad 31), .ref (ad 32), .ref (ad 33), .int se_top, .int se_closes, .int se_leastCost, .long se_allLines, .long se_leastLines])), ((ad 29), .inl (kc 0, 2560, .inl se_restCosts)), ((ad 30), .inl (kc 2, 2560, .inr (.inl se_restLines))), ((ad 31), .inl (kc 2, 2560, .inr (.inl se_restLeastLines)))]
abbrev rm_Search_addWay : Room := { frames := 0, cells := 0, slots := 0, locals := 0 }
abbrev cw_Search_addWay : Cond := .code y_Search_addWay b_Search_addWay 5 (some .boolean)
abbrev ws_Search_addWay : List Cond := cw_Search_addWay :: GW
theorem hd_Search_addWay : y_Search_addWay.cls ≠ "java/lang/invoke/MethodHandle" ∧ y_Search_addWay.cls ≠ "java/lang/invoke/VarHandle" ∧ (parseMethodDescriptor y_Search_addWay.desc).map (fun d => d.parameters.length) = some 3 := by decide +kernel
def m_Search_addWay_58   (se_restCosts : Nat → Int32) (se_restLines : Nat → Int64) (se_restLeastLines : Nat → Int64) (x1 : Int32) (x2 : Int32) (x4 : Int32) : Option (Int32 × (Nat → Int32) × (Nat → Int64) × (Nat → Int64)) :=
  (gd x1 2560 (gd x2 2560 (gd x1 2560 (some ((1 : Int32), (upd se_restCosts (Int32.toNatClampNeg x1) x4), se_restLines, (vp_updL se_restLeastLines (Int32.toNatClampNeg x1) (se_restLeastLines (Int32.toNatClampNeg x2))))))))
set_option maxHeartbeats 4000000 in
set_option maxRecDepth 100000 in
theorem l_Search_addWay_58 {r : Int32 × (Nat → Int32) × (Nat → Int64) × (Nat → Int64)} {ad : Nat → Nat} {se_mark : Int32} {se_top : Int32} {se_closes : Int32} {se_leastCost : Int32} {se_allLines : Int64} {se_leastLines : Int64} {se_restCosts : Nat → Int32} {se_restLines : Nat → Int64} {se_restLeastLines : Nat → Int64}  {x1 : Int32} {x2 : Int32} {x4 : Int32} {H : Heap} {locs : List Loc} {ls : Array Slot} (C : Cx p s m meth c args A D kc R_Search b_Search_addWay 5 (some .boolean))  (hm : m_Search_addWay_58   se_restCosts se_restLines se_restLeastLines x1 x2 x4 = some r) (hZ : St D A s (wd_Search_addWay kc ad se_mark se_top se_closes se_leastCost se_allLines se_leastLines se_restCosts se_restLines se_restLeastLines) H locs) (hl : lv_has ls 5 [(0, .ref (ad 23)), (1, .int x1), (2, .int x2), (4, .int x4)]) : W p l e rm_Search_addWay s m args below meth c H locs 0 0 (MQ below (Qi D A (wd_Search_addWay kc ad se_mark se_top se_closes se_leastCost se_allLines se_leastLines r.2.1 r.2.2.1 r.2.2.2) r.1) args s 0 0 A) (F0 m 58 ls []) := by
  obtain ⟨hx, hb, hr, hts, hown, hml, hlocks, hK, hN, hA, hX⟩ := id C
  obtain ⟨hP, hD, hS⟩ := hZ
  unfold m_Search_addWay_58 at hm
  refine lv_aload_n hx hb d_Search_addWay_58 rfl (lv_at hl 0 rfl) ?_
  refine va_get (D := D) (ci := 6) (v := .ref (ad 29)) (C := R_Search) (T := T_Search) (N := 18) hx hb hts inG_Search hown hK hP 0 rfl rfl 8 (by decide) (hts _ gw_317) (fun _ h9 => h9) rfl d_Search_addWay_59 ?_
  refine lv_iload_n hx hb d_Search_addWay_62 rfl (lv_at hl 1 rfl) ?_
  refine lv_iload hx hb d_Search_addWay_63 (lv_at hl 3 rfl) ?_
  obtain ⟨hi1, hm⟩ := gd_some hm
  refine va_iast hx hb hK hP hD hS 1 0 rfl rfl hi1 d_Search_addWay_65 (fun H locs hP hD hS => ?_)
  replace hP : va_P D vwCl (wd_Search_addWay kc ad se_mark se_top se_closes se_leastCost se_allLines se_leastLines (upd se_restCosts (Int32.toNatClampNeg x1) x4) se_restLines se_restLeastLines) H := hP
  replace hD : va_D A (wd_Search_addWay kc ad se_mark se_top se_closes se_leastCost se_allLines se_leastLines (upd se_restCosts (Int32.toNatClampNeg x1) x4) se_restLines se_restLeastLines) := hD
  refine lv_aload_n hx hb d_Search_addWay_66 rfl (lv_at hl 0 rfl) ?_
  refine va_get (D := D) (ci := 6) (v := .ref (ad 31)) (C := R_Search) (T := T_Search) (N := 18) hx hb hts inG_Search hown hK hP 0 rfl rfl 10 (by decide) (hts _ gw_319) (fun _ h9 => h9) rfl d_Search_addWay_67 ?_
  refine lv_iload_n hx hb d_Search_addWay_70 rfl (lv_at hl 1 rfl) ?_
  refine lv_aload_n hx hb d_Search_addWay_71 rfl (lv_at hl 0 rfl) ?_
  refine va_get (D := D) (ci := 6) (v := .ref (ad 31)) (C := R_Search) (T := T_Search) (N := 18) hx hb hts inG_Search hown hK hP 0 rfl rfl 10 (by decide) (hts _ gw_319) (fun _ h9 => h9) rfl d_Search_addWay_72 ?_
  refine lv_iload_n hx hb d_Search_addWay_75 rfl (lv_at hl 2 rfl) ?_
  obtain ⟨hi2, hm⟩ := gd_some hm
  refine va_lald hx hb hK hP 3 2 rfl rfl hi2 d_Search_addWay_76 ?_
  obtain ⟨hi3, hm⟩ := gd_some hm
  refine va_last hx hb hK hP hD hS 3 2 rfl rfl hi3 d_Search_addWay_77 (fun H locs hP hD hS => ?_)
  replace hP : va_P D vwCl (wd_Search_addWay kc ad se_mark se_top se_closes se_leastCost se_allLines se_leastLines (upd se_restCosts (Int32.toNatClampNeg x1) x4) se_restLines (vp_updL se_restLeastLines (Int32.toNatClampNeg x1) (se_restLeastLines (Int32.toNatClampNeg x2)))) H := hP
  replace hD : va_D A (wd_Search_addWay kc ad se_mark se_top se_closes se_leastCost se_allLines se_leastLines (upd se_restCosts (Int32.toNatClampNeg x1) x4) se_restLines (vp_updL se_restLeastLines (Int32.toNatClampNeg x1) (se_restLeastLines (Int32.toNatClampNeg x2)))) := hD
  refine lv_iconst (v := 1) hx hb d_Search_addWay_78 (by decide) ?_
  replace hm := Option.some.inj hm; subst hm
  exact zret_z (v := 1) C hP hD hS (by rfl) d_Search_addWay_79
def m_Search_addWay  (se_restCosts : Nat → Int32) (se_restLines : Nat → Int64) (se_restLeastLines : Nat → Int64) (a1 : Int32) (a2 : Int32) (a3 : Int32) : Option (Int32 × (Nat → Int32) × (Nat → Int64) × (Nat → Int64)) :=
  (gd a2 2560 (if (se_restCosts (Int32.toNatClampNeg a2)) = (-1 : Int32) then
    (some ((0 : Int32), se_restCosts, se_restLines, se_restLeastLines))
  else
    (gd a2 2560 (gd a1 2560 (gd a2 2560 (gd a1 2560 (gd a1 2560 (if (se_restCosts (Int32.toNatClampNeg a1)) = (-1 : Int32) then
      m_Search_addWay_58   se_restCosts (vp_updL se_restLines (Int32.toNatClampNeg a1) ((se_restLines (Int32.toNatClampNeg a1)) + (se_restLines (Int32.toNatClampNeg a2)))) se_restLeastLines a1 a2 (a3 + (se_restCosts (Int32.toNatClampNeg a2)))
    else
      (gd a1 2560 (if (se_restCosts (Int32.toNatClampNeg a1)) ≤ (a3 + (se_restCosts (Int32.toNatClampNeg a2))) then
        (gd a1 2560 (if (a3 + (se_restCosts (Int32.toNatClampNeg a2))) = (se_restCosts (Int32.toNatClampNeg a1)) then
          (gd a1 2560 (gd a2 2560 (gd a1 2560 (some ((0 : Int32), se_restCosts, (vp_updL se_restLines (Int32.toNatClampNeg a1) ((se_restLines (Int32.toNatClampNeg a1)) + (se_restLines (Int32.toNatClampNeg a2)))), (vp_updL se_restLeastLines (Int32.toNatClampNeg a1) ((se_restLeastLines (Int32.toNatClampNeg a1)) + (se_restLeastLines (Int32.toNatClampNeg a2)))))))))
        else
          (some ((0 : Int32), se_restCosts, (vp_updL se_restLines (Int32.toNatClampNeg a1) ((se_restLines (Int32.toNatClampNeg a1)) + (se_restLines (Int32.toNatClampNeg a2)))), se_restLeastLines))))
      else
        m_Search_addWay_58   se_restCosts (vp_updL se_restLines (Int32.toNatClampNeg a1) ((se_restLines (Int32.toNatClampNeg a1)) + (se_restLines (Int32.toNatClampNeg a2)))) se_restLeastLines a1 a2 (a3 + (se_restCosts (Int32.toNatClampNeg a2)))))))))))))
set_option maxHeartbeats 4000000 in
set_option maxRecDepth 100000 in
theorem e_Search_addWay {r : Int32 × (Nat → Int32) × (Nat → Int64) × (Nat → Int64)} {ad : Nat → Nat} {se_mark : Int32} {se_top : Int32} {se_closes : Int32} {se_leastCost : Int32} {se_allLines : Int64} {se_leastLines : Int64} {se_restCosts : Nat → Int32} {se_restLines : Nat → Int64} {se_restLeastLines : Nat → Int64} {a1 : Int32} {a2 : Int32} {a3 : Int32} {H : Heap} {locs : List Loc} {ls : Array Slot} (C : Cx p s m meth c args A D kc R_Search b_Search_addWay 5 (some .boolean)) (hm : m_Search_addWay  se_restCosts se_restLines se_restLeastLines a1 a2 a3 = some r) (hZ : St D A s (wd_Search_addWay kc ad se_mark se_top se_closes se_leastCost se_allLines se_leastLines se_restCosts se_restLines se_restLeastLines) H locs) (hl : lv_has ls 5 [(0, .ref (ad 23)), (1, .int a1), (2, .int a2), (3, .int a3)]) : W p l e rm_Search_addWay s m args below meth c H locs 0 0 (MQ below (Qi D A (wd_Search_addWay kc ad se_mark se_top se_closes se_leastCost se_allLines se_leastLines r.2.1 r.2.2.1 r.2.2.2) r.1) args s 0 0 A) (F0 m 0 ls []) := by
  obtain ⟨hx, hb, hr, hts, hown, hml, hlocks, hK, hN, hA, hX⟩ := id C
  obtain ⟨hP, hD, hS⟩ := hZ
  unfold m_Search_addWay at hm
  refine lv_aload_n hx hb d_Search_addWay_0 rfl (lv_at hl 0 rfl) ?_
  refine va_get (D := D) (ci := 6) (v := .ref (ad 29)) (C := R_Search) (T := T_Search) (N := 18) hx hb hts inG_Search hown hK hP 0 rfl rfl 8 (by decide) (hts _ gw_317) (fun _ h9 => h9) rfl d_Search_addWay_1 ?_
  refine lv_iload_n hx hb d_Search_addWay_4 rfl (lv_at hl 2 rfl) ?_
  obtain ⟨hi1, hm⟩ := gd_some hm
  refine va_iald hx hb hK hP 1 0 rfl rfl hi1 d_Search_addWay_5 ?_
  refine lv_iconst (v := -1) hx hb d_Search_addWay_6 (by decide) ?_
  refine lv_icmp_ne (tgt := 12) hx hb d_Search_addWay_7 (by decide) (fun c2 => ?_) (fun c2 => ?_)
  · replace hm := ifF hm c2
    refine lv_iload_n hx hb d_Search_addWay_12 rfl (lv_at hl 3 rfl) ?_
    refine lv_aload_n hx hb d_Search_addWay_13 rfl (lv_at hl 0 rfl) ?_
    refine va_get (D := D) (ci := 6) (v := .ref (ad 29)) (C := R_Search) (T := T_Search) (N := 18) hx hb hts inG_Search hown hK hP 0 rfl rfl 8 (by decide) (hts _ gw_317) (fun _ h9 => h9) rfl d_Search_addWay_14 ?_
    refine lv_iload_n hx hb d_Search_addWay_17 rfl (lv_at hl 2 rfl) ?_
    obtain ⟨hi3, hm⟩ := gd_some hm
    refine va_iald hx hb hK hP 1 0 rfl rfl hi3 d_Search_addWay_18 ?_
    refine lv_iadd hx hb d_Search_addWay_19 ?_
    refine lv_istore (lv' := [(4, .int (a3 + (se_restCosts (Int32.toNatClampNeg a2)))), (0, .ref (ad 23)), (1, .int a1), (2, .int a2), (3, .int a3)]) hx hb d_Search_addWay_20 hl (by decide) rfl (fun ls hl => ?_)
    refine lv_aload_n hx hb d_Search_addWay_22 rfl (lv_at hl 1 rfl) ?_
    refine va_get (D := D) (ci := 6) (v := .ref (ad 30)) (C := R_Search) (T := T_Search) (N := 18) hx hb hts inG_Search hown hK hP 0 rfl rfl 9 (by decide) (hts _ gw_318) (fun _ h9 => h9) rfl d_Search_addWay_23 ?_
    refine lv_iload_n hx hb d_Search_addWay_26 rfl (lv_at hl 2 rfl) ?_
    refine lv_dup2_11 hx hb d_Search_addWay_27 rfl rfl ?_
    obtain ⟨hi4, hm⟩ := gd_some hm
    refine va_lald hx hb hK hP 2 2 rfl rfl hi4 d_Search_addWay_28 ?_
    refine lv_aload_n hx hb d_Search_addWay_29 rfl (lv_at hl 1 rfl) ?_
    refine va_get (D := D) (ci := 6) (v := .ref (ad 30)) (C := R_Search) (T := T_Search) (N := 18) hx hb hts inG_Search hown hK hP 0 rfl rfl 9 (by decide) (hts _ gw_318) (fun _ h9 => h9) rfl d_Search_addWay_30 ?_
    refine lv_iload_n hx hb d_Search_addWay_33 rfl (lv_at hl 3 rfl) ?_
    obtain ⟨hi5, hm⟩ := gd_some hm
    refine va_lald hx hb hK hP 2 2 rfl rfl hi5 d_Search_addWay_34 ?_
    refine lv_ladd hx hb d_Search_addWay_35 ?_
    obtain ⟨hi6, hm⟩ := gd_some hm
    refine va_last hx hb hK hP hD hS 2 2 rfl rfl hi6 d_Search_addWay_36 (fun H locs hP hD hS => ?_)
    replace hP : va_P D vwCl (wd_Search_addWay kc ad se_mark se_top se_closes se_leastCost se_allLines se_leastLines se_restCosts (vp_updL se_restLines (Int32.toNatClampNeg a1) ((se_restLines (Int32.toNatClampNeg a1)) + (se_restLines (Int32.toNatClampNeg a2)))) se_restLeastLines) H := hP
    replace hD : va_D A (wd_Search_addWay kc ad se_mark se_top se_closes se_leastCost se_allLines se_leastLines se_restCosts (vp_updL se_restLines (Int32.toNatClampNeg a1) ((se_restLines (Int32.toNatClampNeg a1)) + (se_restLines (Int32.toNatClampNeg a2)))) se_restLeastLines) := hD
    refine lv_aload_n hx hb d_Search_addWay_37 rfl (lv_at hl 1 rfl) ?_
    refine va_get (D := D) (ci := 6) (v := .ref (ad 29)) (C := R_Search) (T := T_Search) (N := 18) hx hb hts inG_Search hown hK hP 0 rfl rfl 8 (by decide) (hts _ gw_317) (fun _ h9 => h9) rfl d_Search_addWay_38 ?_
    refine lv_iload_n hx hb d_Search_addWay_41 rfl (lv_at hl 2 rfl) ?_
    obtain ⟨hi7, hm⟩ := gd_some hm
    refine va_iald hx hb hK hP 1 0 rfl rfl hi7 d_Search_addWay_42 ?_
    refine lv_iconst (v := -1) hx hb d_Search_addWay_43 (by decide) ?_
    refine lv_icmp_eq (tgt := 58) hx hb d_Search_addWay_44 (by decide) (fun c8 => ?_) (fun c8 => ?_)
    · replace hm := ifT hm c8
      exact l_Search_addWay_58 C  hm ⟨hP, hD, hS⟩ (lv_sub hl [1, 2, 3, 0] rfl)
    · replace hm := ifF hm c8
      refine lv_iload hx hb d_Search_addWay_47 (lv_at hl 0 rfl) ?_
      refine lv_aload_n hx hb d_Search_addWay_49 rfl (lv_at hl 1 rfl) ?_
      refine va_get (D := D) (ci := 6) (v := .ref (ad 29)) (C := R_Search) (T := T_Search) (N := 18) hx hb hts inG_Search hown hK hP 0 rfl rfl 8 (by decide) (hts _ gw_317) (fun _ h9 => h9) rfl d_Search_addWay_50 ?_
      refine lv_iload_n hx hb d_Search_addWay_53 rfl (lv_at hl 2 rfl) ?_
      obtain ⟨hi9, hm⟩ := gd_some hm
      refine va_iald hx hb hK hP 1 0 rfl rfl hi9 d_Search_addWay_54 ?_
      refine lv_icmp_ge (tgt := 80) hx hb d_Search_addWay_55 (by decide) (fun c10 => ?_) (fun c10 => ?_)
      · replace hm := ifT hm c10
        refine lv_iload hx hb d_Search_addWay_80 (lv_at hl 0 rfl) ?_
        refine lv_aload_n hx hb d_Search_addWay_82 rfl (lv_at hl 1 rfl) ?_
        refine va_get (D := D) (ci := 6) (v := .ref (ad 29)) (C := R_Search) (T := T_Search) (N := 18) hx hb hts inG_Search hown hK hP 0 rfl rfl 8 (by decide) (hts _ gw_317) (fun _ h9 => h9) rfl d_Search_addWay_83 ?_
        refine lv_iload_n hx hb d_Search_addWay_86 rfl (lv_at hl 2 rfl) ?_
        obtain ⟨hi11, hm⟩ := gd_some hm
        refine va_iald hx hb hK hP 1 0 rfl rfl hi11 d_Search_addWay_87 ?_
        refine lv_icmp_ne (tgt := 106) hx hb d_Search_addWay_88 (by decide) (fun c12 => ?_) (fun c12 => ?_)
        · replace hm := ifF hm c12
          refine lv_iconst (v := 0) hx hb d_Search_addWay_106 (by decide) ?_
          replace hm := Option.some.inj hm; subst hm
          exact zret_z (v := 0) C hP hD hS (by rfl) d_Search_addWay_107
        · replace hm := ifT hm c12
          refine lv_aload_n hx hb d_Search_addWay_91 rfl (lv_at hl 1 rfl) ?_
          refine va_get (D := D) (ci := 6) (v := .ref (ad 31)) (C := R_Search) (T := T_Search) (N := 18) hx hb hts inG_Search hown hK hP 0 rfl rfl 10 (by decide) (hts _ gw_319) (fun _ h9 => h9) rfl d_Search_addWay_92 ?_
          refine lv_iload_n hx hb d_Search_addWay_95 rfl (lv_at hl 2 rfl) ?_
          refine lv_dup2_11 hx hb d_Search_addWay_96 rfl rfl ?_
          obtain ⟨hi13, hm⟩ := gd_some hm
          refine va_lald hx hb hK hP 3 2 rfl rfl hi13 d_Search_addWay_97 ?_
          refine lv_aload_n hx hb d_Search_addWay_98 rfl (lv_at hl 1 rfl) ?_
          refine va_get (D := D) (ci := 6) (v := .ref (ad 31)) (C := R_Search) (T := T_Search) (N := 18) hx hb hts inG_Search hown hK hP 0 rfl rfl 10 (by decide) (hts _ gw_319) (fun _ h9 => h9) rfl d_Search_addWay_99 ?_
          refine lv_iload_n hx hb d_Search_addWay_102 rfl (lv_at hl 3 rfl) ?_
          obtain ⟨hi14, hm⟩ := gd_some hm
          refine va_lald hx hb hK hP 3 2 rfl rfl hi14 d_Search_addWay_103 ?_
          refine lv_ladd hx hb d_Search_addWay_104 ?_
          obtain ⟨hi15, hm⟩ := gd_some hm
          refine va_last hx hb hK hP hD hS 3 2 rfl rfl hi15 d_Search_addWay_105 (fun H locs hP hD hS => ?_)
          replace hP : va_P D vwCl (wd_Search_addWay kc ad se_mark se_top se_closes se_leastCost se_allLines se_leastLines se_restCosts (vp_updL se_restLines (Int32.toNatClampNeg a1) ((se_restLines (Int32.toNatClampNeg a1)) + (se_restLines (Int32.toNatClampNeg a2)))) (vp_updL se_restLeastLines (Int32.toNatClampNeg a1) ((se_restLeastLines (Int32.toNatClampNeg a1)) + (se_restLeastLines (Int32.toNatClampNeg a2))))) H := hP
          replace hD : va_D A (wd_Search_addWay kc ad se_mark se_top se_closes se_leastCost se_allLines se_leastLines se_restCosts (vp_updL se_restLines (Int32.toNatClampNeg a1) ((se_restLines (Int32.toNatClampNeg a1)) + (se_restLines (Int32.toNatClampNeg a2)))) (vp_updL se_restLeastLines (Int32.toNatClampNeg a1) ((se_restLeastLines (Int32.toNatClampNeg a1)) + (se_restLeastLines (Int32.toNatClampNeg a2))))) := hD
          refine lv_iconst (v := 0) hx hb d_Search_addWay_106 (by decide) ?_
          replace hm := Option.some.inj hm; subst hm
          exact zret_z (v := 0) C hP hD hS (by rfl) d_Search_addWay_107
      · replace hm := ifF hm c10
        exact l_Search_addWay_58 C  hm ⟨hP, hD, hS⟩ (lv_sub hl [1, 2, 3, 0] rfl)
  · replace hm := ifT hm c2
    refine lv_iconst (v := 0) hx hb d_Search_addWay_10 (by decide) ?_
    replace hm := Option.some.inj hm; subst hm
    exact zret_z (v := 0) C hP hD hS (by rfl) d_Search_addWay_11
set_option maxHeartbeats 4000000 in
set_option maxRecDepth 100000 in
theorem c_Search_addWay {l : Launch} {D : va_G} {kc : Nat → ClassId} {r : Int32 × (Nat → Int32) × (Nat → Int64) × (Nat → Int64)} {ad : Nat → Nat} {se_mark : Int32} {se_top : Int32} {se_closes : Int32} {se_leastCost : Int32} {se_allLines : Int64} {se_leastLines : Int64} {se_restCosts : Nat → Int32} {se_restLines : Nat → Int64} {se_restLeastLines : Nat → Int64} {a1 : Int32} {a2 : Int32} {a3 : Int32} (hm : m_Search_addWay  se_restCosts se_restLines se_restLeastLines a1 a2 a3 = some r) (sz : Nat) : Ci l y_Search_addWay ws_Search_addWay rm_Search_addWay D kc sz [.ref (ad 23), .int a1, .int a2, .int a3] (wd_Search_addWay kc ad se_mark se_top se_closes se_leastCost se_allLines se_leastLines se_restCosts se_restLines se_restLeastLines) (wd_Search_addWay kc ad se_mark se_top se_closes se_leastCost se_allLines se_leastLines r.2.1 r.2.2.1 r.2.2.2) r.1 :=
  Cz_of (Qf := fun A => (Qi D A (wd_Search_addWay kc ad se_mark se_top se_closes se_leastCost se_allLines se_leastLines r.2.1 r.2.2.1 r.2.2.2) r.1)) (cc := b_Search_addWay) (maxL := 5) (ret := (some .boolean)) (by decide) rfl rfl (fun C hZ hl => e_Search_addWay C hm hZ hl)
abbrev b_Search_weighState : ByteArray := prog_6_method_18_code
abbrev y_Search_weighState : MethodName := ⟨"SpeciesSolver$Search", "weighState", "(II)V"⟩
theorem d_Search_weighState_0 : decode b_Search_weighState 0 = .ok (.aload_n 0, 1) := by decide +kernel
theorem d_Search_weighState_1 : decode b_Search_weighState 1 = .ok (.getfield 12, 3) := by decide +kernel
theorem d_Search_weighState_4 : decode b_Search_weighState 4 = .ok (.iload_n 1, 1) := by decide +kernel
theorem d_Search_weighState_5 : decode b_Search_weighState 5 = .ok (.sipush 1280, 3) := by decide +kernel
theorem d_Search_weighState_8 : decode b_Search_weighState 8 = .ok (.imul, 1) := by decide +kernel
theorem d_Search_weighState_9 : decode b_Search_weighState 9 = .ok (.iload_n 2, 1) := by decide +kernel
theorem d_Search_weighState_10 : decode b_Search_weighState 10 = .ok (.iadd, 1) := by decide +kernel
theorem d_Search_weighState_11 : decode b_Search_weighState 11 = .ok (.iaload, 1) := by decide +kernel
theorem d_Search_weighState_12 : decode b_Search_weighState 12 = .ok (.istore_n 3, 1) := by decide +kernel
theorem d_Search_weighState_13 : decode b_Search_weighState 13 = .ok (.iload_n 1, 1) := by decide +kernel
theorem d_Search_weighState_14 : decode b_Search_weighState 14 = .ok (.iload_n 2, 1) := by decide +kernel
theorem d_Search_weighState_15 : decode b_Search_weighState 15 = .ok (.invokestatic 168, 3) := by decide +kernel
theorem d_Search_weighState_18 : decode b_Search_weighState 18 = .ok (.istore 4, 2) := by decide +kernel
theorem d_Search_weighState_20 : decode b_Search_weighState 20 = .ok (.aload_n 0, 1) := by decide +kernel
theorem d_Search_weighState_21 : decode b_Search_weighState 21 = .ok (.getfield 32, 3) := by decide +kernel
theorem d_Search_weighState_24 : decode b_Search_weighState 24 = .ok (.iload 4, 2) := by decide +kernel
theorem d_Search_weighState_26 : decode b_Search_weighState 26 = .ok (.iconst (-1), 1) := by decide +kernel
theorem d_Search_weighState_27 : decode b_Search_weighState 27 = .ok (.iastore, 1) := by decide +kernel
theorem d_Search_weighState_28 : decode b_Search_weighState 28 = .ok (.aload_n 0, 1) := by decide +kernel
theorem d_Search_weighState_29 : decode b_Search_weighState 29 = .ok (.getfield 35, 3) := by decide +kernel
theorem d_Search_weighState_32 : decode b_Search_weighState 32 = .ok (.iload 4, 2) := by decide +kernel
theorem d_Search_weighState_34 : decode b_Search_weighState 34 = .ok (.lconst 0, 1) := by decide +kernel
theorem d_Search_weighState_35 : decode b_Search_weighState 35 = .ok (.lastore, 1) := by decide +kernel
theorem d_Search_weighState_36 : decode b_Search_weighState 36 = .ok (.aload_n 0, 1) := by decide +kernel
theorem d_Search_weighState_37 : decode b_Search_weighState 37 = .ok (.getfield 39, 3) := by decide +kernel
theorem d_Search_weighState_40 : decode b_Search_weighState 40 = .ok (.iload 4, 2) := by decide +kernel
theorem d_Search_weighState_42 : decode b_Search_weighState 42 = .ok (.lconst 0, 1) := by decide +kernel
theorem d_Search_weighState_43 : decode b_Search_weighState 43 = .ok (.lastore, 1) := by decide +kernel
theorem d_Search_weighState_44 : decode b_Search_weighState 44 = .ok (.iconst 0, 1) := by decide +kernel
theorem d_Search_weighState_45 : decode b_Search_weighState 45 = .ok (.istore 5, 2) := by decide +kernel
theorem d_Search_weighState_47 : decode b_Search_weighState 47 = .ok (.iload 5, 2) := by decide +kernel
theorem d_Search_weighState_49 : decode b_Search_weighState 49 = .ok (.aload_n 0, 1) := by decide +kernel
theorem d_Search_weighState_50 : decode b_Search_weighState 50 = .ok (.getfield 69, 3) := by decide +kernel
theorem d_Search_weighState_53 : decode b_Search_weighState 53 = .ok (.getfield 79, 3) := by decide +kernel
theorem d_Search_weighState_56 : decode b_Search_weighState 56 = .ok (.if_icmp .ge 77, 3) := by decide +kernel
theorem d_Search_weighState_59 : decode b_Search_weighState 59 = .ok (.aload_n 0, 1) := by decide +kernel
theorem d_Search_weighState_60 : decode b_Search_weighState 60 = .ok (.iload_n 1, 1) := by decide +kernel
theorem d_Search_weighState_61 : decode b_Search_weighState 61 = .ok (.iconst 1, 1) := by decide +kernel
theorem d_Search_weighState_62 : decode b_Search_weighState 62 = .ok (.iadd, 1) := by decide +kernel
theorem d_Search_weighState_63 : decode b_Search_weighState 63 = .ok (.iload_n 3, 1) := by decide +kernel
theorem d_Search_weighState_64 : decode b_Search_weighState 64 = .ok (.iload 5, 2) := by decide +kernel
theorem d_Search_weighState_66 : decode b_Search_weighState 66 = .ok (.invokevirtual 124, 3) := by decide +kernel
theorem d_Search_weighState_69 : decode b_Search_weighState 69 = .ok (.istore 6, 2) := by decide +kernel
theorem d_Search_weighState_71 : decode b_Search_weighState 71 = .ok (.iload 6, 2) := by decide +kernel
theorem d_Search_weighState_73 : decode b_Search_weighState 73 = .ok (.iconst (-1), 1) := by decide +kernel
theorem d_Search_weighState_74 : decode b_Search_weighState 74 = .ok (.if_icmp .eq 53, 3) := by decide +kernel
theorem d_Search_weighState_77 : decode b_Search_weighState 77 = .ok (.aload_n 0, 1) := by decide +kernel
theorem d_Search_weighState_78 : decode b_Search_weighState 78 = .ok (.getfield 22, 3) := by decide +kernel
theorem d_Search_weighState_81 : decode b_Search_weighState 81 = .ok (.aload_n 0, 1) := by decide +kernel
theorem d_Search_weighState_82 : decode b_Search_weighState 82 = .ok (.iload_n 1, 1) := by decide +kernel
theorem d_Search_weighState_83 : decode b_Search_weighState 83 = .ok (.iconst 1, 1) := by decide +kernel
theorem d_Search_weighState_84 : decode b_Search_weighState 84 = .ok (.iadd, 1) := by decide +kernel
theorem d_Search_weighState_85 : decode b_Search_weighState 85 = .ok (.iload_n 3, 1) := by decide +kernel
theorem d_Search_weighState_86 : decode b_Search_weighState 86 = .ok (.iload 5, 2) := by decide +kernel
theorem d_Search_weighState_88 : decode b_Search_weighState 88 = .ok (.invokevirtual 128, 3) := by decide +kernel
theorem d_Search_weighState_91 : decode b_Search_weighState 91 = .ok (.iaload, 1) := by decide +kernel
theorem d_Search_weighState_92 : decode b_Search_weighState 92 = .ok (.istore 7, 2) := by decide +kernel
theorem d_Search_weighState_94 : decode b_Search_weighState 94 = .ok (.aload_n 0, 1) := by decide +kernel
theorem d_Search_weighState_95 : decode b_Search_weighState 95 = .ok (.iload 4, 2) := by decide +kernel
theorem d_Search_weighState_97 : decode b_Search_weighState 97 = .ok (.iload_n 1, 1) := by decide +kernel
theorem d_Search_weighState_98 : decode b_Search_weighState 98 = .ok (.iconst 1, 1) := by decide +kernel
theorem d_Search_weighState_99 : decode b_Search_weighState 99 = .ok (.iadd, 1) := by decide +kernel
theorem d_Search_weighState_100 : decode b_Search_weighState 100 = .ok (.iload 7, 2) := by decide +kernel
theorem d_Search_weighState_102 : decode b_Search_weighState 102 = .ok (.invokestatic 168, 3) := by decide +kernel
theorem d_Search_weighState_105 : decode b_Search_weighState 105 = .ok (.iload 6, 2) := by decide +kernel
theorem d_Search_weighState_107 : decode b_Search_weighState 107 = .ok (.invokevirtual 178, 3) := by decide +kernel
theorem d_Search_weighState_110 : decode b_Search_weighState 110 = .ok (.ifCond .eq 17, 3) := by decide +kernel
theorem d_Search_weighState_113 : decode b_Search_weighState 113 = .ok (.aload_n 0, 1) := by decide +kernel
theorem d_Search_weighState_114 : decode b_Search_weighState 114 = .ok (.getfield 19, 3) := by decide +kernel
theorem d_Search_weighState_117 : decode b_Search_weighState 117 = .ok (.iload_n 1, 1) := by decide +kernel
theorem d_Search_weighState_118 : decode b_Search_weighState 118 = .ok (.sipush 1280, 3) := by decide +kernel
theorem d_Search_weighState_121 : decode b_Search_weighState 121 = .ok (.imul, 1) := by decide +kernel
theorem d_Search_weighState_122 : decode b_Search_weighState 122 = .ok (.iload_n 2, 1) := by decide +kernel
theorem d_Search_weighState_123 : decode b_Search_weighState 123 = .ok (.iadd, 1) := by decide +kernel
theorem d_Search_weighState_124 : decode b_Search_weighState 124 = .ok (.iload 7, 2) := by decide +kernel
theorem d_Search_weighState_126 : decode b_Search_weighState 126 = .ok (.iastore, 1) := by decide +kernel
theorem d_Search_weighState_127 : decode b_Search_weighState 127 = .ok (.iinc 5 1, 3) := by decide +kernel
theorem d_Search_weighState_130 : decode b_Search_weighState 130 = .ok (.goto (-83), 3) := by decide +kernel
theorem d_Search_weighState_133 : decode b_Search_weighState 133 = .ok (.return_, 1) := by decide +kernel
abbrev wd_Search_weighState (kc : Nat → ClassId) (ad : Nat → Nat) (pr_size : Int32) (pr_total : Int32) (pr_perNote : Int32) (pr_mostAlike : Int32) (pr_notePrices : Nat → Int32) (pr_mustPass : Nat → Int32) (pr_movePrices : Nat → Int32) (pr_mustTurn : Nat → Int32) (pr_badClosings : Nat → Int32) (pr_badTurns : Nat → Int32) (pr_passings : Nat → Int32) (pr_strongPrices : Nat → Int32) (se_mark : Int32) (se_top : Int32) (se_closes : Int32) (se_leastCost : Int32) (se_allLines : Int64) (se_leastLines : Int64) (se_layers : Nat → Int32) (se_nexts : Nat → Int32) (se_places : Nat → Int32) (se_restCosts : Nat → Int32) (se_restLines : Nat → Int64) (se_restLeastLines : Nat → Int64) : va_W := [((ad 13), .inr (4, [.ref (ad 1), .ref (ad 8), .ref (ad 14), .ref (ad 15), .ref (ad 16), .ref (ad 17), .ref (ad 18), .ref (ad 19), .ref (ad 20), .ref (ad 21), .ref (ad 22), .int pr_size, .int pr_total, .int pr_perNote, .int pr_mostAlike])), ((ad 15), .inl (kc 0, 360, .inl pr_notePrices)), ((ad 16), .inl (kc 1, 360, .inl pr_mustPass)), ((ad 17), .inl (kc 0, 64, .inl pr_movePrices)), ((ad 18), .inl (kc 1, 64, .inl pr_mustTurn)), ((ad 19), .inl (kc 1, 64, .inl pr_badClosings)), ((ad 20), .inl (kc 1, 512, .inl pr_badTurns)), ((ad 21), .inl (kc 1, 512, .inl pr_passings)), ((ad 22), .inl (kc 0, 768, .inl pr_strongPrices)), ((ad 23), .inr (6, [.ref (ad 1), .ref (ad 13), .ref (ad 24), .ref (ad 25), .ref (ad 26), .ref (ad 27), .ref (ad 28), .int se_mark, .ref (ad 29), .ref (ad 30), .ref (ad 31), .ref (ad 32), .ref (ad 33), .int se_top, .int se_closes, .int se_leastCost, .long se_allLines, .long se_leastLines])), ((ad 24), .inl (kc 0, 57600, .inl se_layers)), ((ad 26), .inl (kc 0, 57600, .inl se_nexts)), ((ad 27), .inl (kc 0, 3072, .inl se_places)), ((ad 29), .inl (kc 0, 2560, .inl se_restCosts)), ((ad 30), .inl (kc 2, 2560, .inr (.inl se_restLines))), ((ad 31), .inl (kc 2, 2560, .inr (.inl se_restLeastLines)))]
abbrev rm_Search_weighState : Room := { frames := 2, cells := 0, slots := 0, locals := 52 }
abbrev cw_Search_weighState : Cond := .code y_Search_weighState b_Search_weighState 8 none
abbrev ws_Search_weighState : List Cond := cw_Search_weighState :: GW
theorem hd_Search_weighState : y_Search_weighState.cls ≠ "java/lang/invoke/MethodHandle" ∧ y_Search_weighState.cls ≠ "java/lang/invoke/VarHandle" ∧ (parseMethodDescriptor y_Search_weighState.desc).map (fun d => d.parameters.length) = some 2 := by decide +kernel
def m_Search_weighState_127 (F : Nat) (pr_size : Int32) (pr_total : Int32) (pr_perNote : Int32) (pr_mostAlike : Int32) (pr_notePrices : Nat → Int32) (pr_mustPass : Nat → Int32) (pr_movePrices : Nat → Int32) (pr_mustTurn : Nat → Int32) (pr_badClosings : Nat → Int32) (pr_badTurns : Nat → Int32) (pr_passings : Nat → Int32) (pr_strongPrices : Nat → Int32) (se_top : Int32) (se_closes : Int32) (se_layers : Nat → Int32) (se_places : Nat → Int32) (k47 : (Nat → Int32) → (Nat → Int32) → (Nat → Int64) → (Nat → Int64) → Int32 → Int32 → Int32 → Int32 → Int32 → Option ((Nat → Int32) × (Nat → Int32) × (Nat → Int64) × (Nat → Int64))) (se_nexts : Nat → Int32) (se_restCosts : Nat → Int32) (se_restLines : Nat → Int64) (se_restLeastLines : Nat → Int64) (x1 : Int32) (x2 : Int32) (x3 : Int32) (x4 : Int32) (x5 : Int32) : Option ((Nat → Int32) × (Nat → Int32) × (Nat → Int64) × (Nat → Int64)) :=
  k47 se_nexts se_restCosts se_restLines se_restLeastLines x1 x2 x3 x4 (x5 + 1)
set_option maxHeartbeats 4000000 in
set_option maxRecDepth 100000 in
theorem l_Search_weighState_127 {r : (Nat → Int32) × (Nat → Int32) × (Nat → Int64) × (Nat → Int64)} {F : Nat} {ad : Nat → Nat} {pr_size : Int32} {pr_total : Int32} {pr_perNote : Int32} {pr_mostAlike : Int32} {pr_notePrices : Nat → Int32} {pr_mustPass : Nat → Int32} {pr_movePrices : Nat → Int32} {pr_mustTurn : Nat → Int32} {pr_badClosings : Nat → Int32} {pr_badTurns : Nat → Int32} {pr_passings : Nat → Int32} {pr_strongPrices : Nat → Int32} {se_mark : Int32} {se_top : Int32} {se_closes : Int32} {se_leastCost : Int32} {se_allLines : Int64} {se_leastLines : Int64} {se_layers : Nat → Int32} {se_nexts : Nat → Int32} {se_places : Nat → Int32} {se_restCosts : Nat → Int32} {se_restLines : Nat → Int64} {se_restLeastLines : Nat → Int64} {k47 : (Nat → Int32) → (Nat → Int32) → (Nat → Int64) → (Nat → Int64) → Int32 → Int32 → Int32 → Int32 → Int32 → Option ((Nat → Int32) × (Nat → Int32) × (Nat → Int64) × (Nat → Int64))} {x1 : Int32} {x2 : Int32} {x3 : Int32} {x4 : Int32} {x5 : Int32} {H : Heap} {locs : List Loc} {ls : Array Slot} (C : Cx p s m meth c args A D kc R_Search b_Search_weighState 8 none) (hk47 : (∀ (se_nexts : Nat → Int32) (se_restCosts : Nat → Int32) (se_restLines : Nat → Int64) (se_restLeastLines : Nat → Int64) (x1 : Int32) (x2 : Int32) (x3 : Int32) (x4 : Int32) (x5 : Int32) (H : Heap) (locs : List Loc) (ls : Array Slot), k47 se_nexts se_restCosts se_restLines se_restLeastLines x1 x2 x3 x4 x5 = some r → St D A s (wd_Search_weighState kc ad pr_size pr_total pr_perNote pr_mostAlike pr_notePrices pr_mustPass pr_movePrices pr_mustTurn pr_badClosings pr_badTurns pr_passings pr_strongPrices se_mark se_top se_closes se_leastCost se_allLines se_leastLines se_layers se_nexts se_places se_restCosts se_restLines se_restLeastLines) H locs → lv_has ls 8 [(0, .ref (ad 23)), (1, .int x1), (2, .int x2), (3, .int x3), (4, .int x4), (5, .int x5)] → W p l e rm_Search_weighState s m args below meth c H locs 0 0 (MQ below (Qv D A (wd_Search_weighState kc ad pr_size pr_total pr_perNote pr_mostAlike pr_notePrices pr_mustPass pr_movePrices pr_mustTurn pr_badClosings pr_badTurns pr_passings pr_strongPrices se_mark se_top se_closes se_leastCost se_allLines se_leastLines se_layers r.1 se_places r.2.1 r.2.2.1 r.2.2.2)) args s 0 0 A) (F0 m 47 ls []))) (hm : m_Search_weighState_127 F pr_size pr_total pr_perNote pr_mostAlike pr_notePrices pr_mustPass pr_movePrices pr_mustTurn pr_badClosings pr_badTurns pr_passings pr_strongPrices se_top se_closes se_layers se_places k47 se_nexts se_restCosts se_restLines se_restLeastLines x1 x2 x3 x4 x5 = some r) (hZ : St D A s (wd_Search_weighState kc ad pr_size pr_total pr_perNote pr_mostAlike pr_notePrices pr_mustPass pr_movePrices pr_mustTurn pr_badClosings pr_badTurns pr_passings pr_strongPrices se_mark se_top se_closes se_leastCost se_allLines se_leastLines se_layers se_nexts se_places se_restCosts se_restLines se_restLeastLines) H locs) (hl : lv_has ls 8 [(0, .ref (ad 23)), (1, .int x1), (2, .int x2), (3, .int x3), (4, .int x4), (5, .int x5)]) : W p l e rm_Search_weighState s m args below meth c H locs 0 0 (MQ below (Qv D A (wd_Search_weighState kc ad pr_size pr_total pr_perNote pr_mostAlike pr_notePrices pr_mustPass pr_movePrices pr_mustTurn pr_badClosings pr_badTurns pr_passings pr_strongPrices se_mark se_top se_closes se_leastCost se_allLines se_leastLines se_layers r.1 se_places r.2.1 r.2.2.1 r.2.2.2)) args s 0 0 A) (F0 m 127 ls []) := by
  obtain ⟨hx, hb, hr, hts, hown, hml, hlocks, hK, hN, hA, hX⟩ := id C
  obtain ⟨hP, hD, hS⟩ := hZ
  unfold m_Search_weighState_127 at hm
  refine lv_iinc (v := (x5 + 1)) (lv' := [(5, .int (x5 + 1)), (0, .ref (ad 23)), (1, .int x1), (2, .int x2), (3, .int x3), (4, .int x4)]) hx hb d_Search_weighState_127 hl (k := 5) rfl rfl (by decide) rfl (fun ls hl => ?_)
  refine lv_goto (tgt := 47) hx hb d_Search_weighState_130 (by decide) ?_
  exact hk47 se_nexts se_restCosts se_restLines se_restLeastLines x1 x2 x3 x4 (x5 + 1) _ _ _ hm ⟨hP, hD, hS⟩ (lv_sub hl [1, 2, 3, 4, 5, 0] rfl)
def m_Search_weighState_47b (F : Nat) (pr_size : Int32) (pr_total : Int32) (pr_perNote : Int32) (pr_mostAlike : Int32) (pr_notePrices : Nat → Int32) (pr_mustPass : Nat → Int32) (pr_movePrices : Nat → Int32) (pr_mustTurn : Nat → Int32) (pr_badClosings : Nat → Int32) (pr_badTurns : Nat → Int32) (pr_passings : Nat → Int32) (pr_strongPrices : Nat → Int32) (se_top : Int32) (se_closes : Int32) (se_layers : Nat → Int32) (se_places : Nat → Int32) (k47 : (Nat → Int32) → (Nat → Int32) → (Nat → Int64) → (Nat → Int64) → Int32 → Int32 → Int32 → Int32 → Int32 → Option ((Nat → Int32) × (Nat → Int32) × (Nat → Int64) × (Nat → Int64))) (se_nexts : Nat → Int32) (se_restCosts : Nat → Int32) (se_restLines : Nat → Int64) (se_restLeastLines : Nat → Int64) (x1 : Int32) (x2 : Int32) (x3 : Int32) (x4 : Int32) (x5 : Int32) : Option ((Nat → Int32) × (Nat → Int32) × (Nat → Int64) × (Nat → Int64)) :=
  (if pr_size ≤ x5 then
    (some (se_nexts, se_restCosts, se_restLines, se_restLeastLines))
  else
    (bd (m_Search_priceOf pr_size pr_total pr_perNote pr_mostAlike pr_notePrices pr_mustPass pr_movePrices pr_badClosings pr_badTurns pr_passings pr_strongPrices se_top se_closes (x1 + (1 : Int32)) x3 x5) (fun u2 => (if u2 = (-1 : Int32) then
      m_Search_weighState_127 F pr_size pr_total pr_perNote pr_mostAlike pr_notePrices pr_mustPass pr_movePrices pr_mustTurn pr_badClosings pr_badTurns pr_passings pr_strongPrices se_top se_closes se_layers se_places k47 se_nexts se_restCosts se_restLines se_restLeastLines x1 x2 x3 x4 x5
    else
      (bd (m_Search_stateAfter pr_perNote pr_mostAlike pr_mustPass pr_mustTurn se_top (x1 + (1 : Int32)) x3 x5) (fun u5 => (gd u5 3072 (bd (m_Search_restAt (x1 + (1 : Int32)) (se_places (Int32.toNatClampNeg u5))) (fun u8 => (bd (m_Search_addWay se_restCosts se_restLines se_restLeastLines x4 u8 u2) (fun u10 => (if u10.1 = (0 : Int32) then
        m_Search_weighState_127 F pr_size pr_total pr_perNote pr_mostAlike pr_notePrices pr_mustPass pr_movePrices pr_mustTurn pr_badClosings pr_badTurns pr_passings pr_strongPrices se_top se_closes se_layers se_places k47 se_nexts u10.2.1 u10.2.2.1 u10.2.2.2 x1 x2 x3 x4 x5
      else
        (gd ((x1 * (1280 : Int32)) + x2) 57600 (m_Search_weighState_127 F pr_size pr_total pr_perNote pr_mostAlike pr_notePrices pr_mustPass pr_movePrices pr_mustTurn pr_badClosings pr_badTurns pr_passings pr_strongPrices se_top se_closes se_layers se_places k47 (upd se_nexts (Int32.toNatClampNeg ((x1 * (1280 : Int32)) + x2)) (se_places (Int32.toNatClampNeg u5))) u10.2.1 u10.2.2.1 u10.2.2.2 x1 x2 x3 x4 x5))))))))))))))
set_option maxHeartbeats 4000000 in
set_option maxRecDepth 100000 in
theorem l_Search_weighState_47 {r : (Nat → Int32) × (Nat → Int32) × (Nat → Int64) × (Nat → Int64)} {F : Nat} {ad : Nat → Nat} {pr_size : Int32} {pr_total : Int32} {pr_perNote : Int32} {pr_mostAlike : Int32} {pr_notePrices : Nat → Int32} {pr_mustPass : Nat → Int32} {pr_movePrices : Nat → Int32} {pr_mustTurn : Nat → Int32} {pr_badClosings : Nat → Int32} {pr_badTurns : Nat → Int32} {pr_passings : Nat → Int32} {pr_strongPrices : Nat → Int32} {se_mark : Int32} {se_top : Int32} {se_closes : Int32} {se_leastCost : Int32} {se_allLines : Int64} {se_leastLines : Int64} {se_layers : Nat → Int32} {se_nexts : Nat → Int32} {se_places : Nat → Int32} {se_restCosts : Nat → Int32} {se_restLines : Nat → Int64} {se_restLeastLines : Nat → Int64} {k47 : (Nat → Int32) → (Nat → Int32) → (Nat → Int64) → (Nat → Int64) → Int32 → Int32 → Int32 → Int32 → Int32 → Option ((Nat → Int32) × (Nat → Int32) × (Nat → Int64) × (Nat → Int64))} {x1 : Int32} {x2 : Int32} {x3 : Int32} {x4 : Int32} {x5 : Int32} {H : Heap} {locs : List Loc} {ls : Array Slot} (C : Cx p s m meth c args A D kc R_Search b_Search_weighState 8 none) (hk47 : (∀ (se_nexts : Nat → Int32) (se_restCosts : Nat → Int32) (se_restLines : Nat → Int64) (se_restLeastLines : Nat → Int64) (x1 : Int32) (x2 : Int32) (x3 : Int32) (x4 : Int32) (x5 : Int32) (H : Heap) (locs : List Loc) (ls : Array Slot), k47 se_nexts se_restCosts se_restLines se_restLeastLines x1 x2 x3 x4 x5 = some r → St D A s (wd_Search_weighState kc ad pr_size pr_total pr_perNote pr_mostAlike pr_notePrices pr_mustPass pr_movePrices pr_mustTurn pr_badClosings pr_badTurns pr_passings pr_strongPrices se_mark se_top se_closes se_leastCost se_allLines se_leastLines se_layers se_nexts se_places se_restCosts se_restLines se_restLeastLines) H locs → lv_has ls 8 [(0, .ref (ad 23)), (1, .int x1), (2, .int x2), (3, .int x3), (4, .int x4), (5, .int x5)] → W p l e rm_Search_weighState s m args below meth c H locs 0 0 (MQ below (Qv D A (wd_Search_weighState kc ad pr_size pr_total pr_perNote pr_mostAlike pr_notePrices pr_mustPass pr_movePrices pr_mustTurn pr_badClosings pr_badTurns pr_passings pr_strongPrices se_mark se_top se_closes se_leastCost se_allLines se_leastLines se_layers r.1 se_places r.2.1 r.2.2.1 r.2.2.2)) args s 0 0 A) (F0 m 47 ls []))) (hm : m_Search_weighState_47b F pr_size pr_total pr_perNote pr_mostAlike pr_notePrices pr_mustPass pr_movePrices pr_mustTurn pr_badClosings pr_badTurns pr_passings pr_strongPrices se_top se_closes se_layers se_places k47 se_nexts se_restCosts se_restLines se_restLeastLines x1 x2 x3 x4 x5 = some r) (hZ : St D A s (wd_Search_weighState kc ad pr_size pr_total pr_perNote pr_mostAlike pr_notePrices pr_mustPass pr_movePrices pr_mustTurn pr_badClosings pr_badTurns pr_passings pr_strongPrices se_mark se_top se_closes se_leastCost se_allLines se_leastLines se_layers se_nexts se_places se_restCosts se_restLines se_restLeastLines) H locs) (hl : lv_has ls 8 [(0, .ref (ad 23)), (1, .int x1), (2, .int x2), (3, .int x3), (4, .int x4), (5, .int x5)]) : W p l e rm_Search_weighState s m args below meth c H locs 0 0 (MQ below (Qv D A (wd_Search_weighState kc ad pr_size pr_total pr_perNote pr_mostAlike pr_notePrices pr_mustPass pr_movePrices pr_mustTurn pr_badClosings pr_badTurns pr_passings pr_strongPrices se_mark se_top se_closes se_leastCost se_allLines se_leastLines se_layers r.1 se_places r.2.1 r.2.2.1 r.2.2.2)) args s 0 0 A) (F0 m 47 ls []) := by
  obtain ⟨hx, hb, hr, hts, hown, hml, hlocks, hK, hN, hA, hX⟩ := id C
  obtain ⟨hP, hD, hS⟩ := hZ
  unfold m_Search_weighState_47b at hm
  refine lv_iload hx hb d_Search_weighState_47 (lv_at hl 5 rfl) ?_
  refine lv_aload_n hx hb d_Search_weighState_49 rfl (lv_at hl 0 rfl) ?_
  refine va_get (D := D) (ci := 6) (v := .ref (ad 13)) (C := R_Search) (T := T_Search) (N := 18) hx hb hts inG_Search hown hK hP 9 rfl rfl 1 (by decide) (hts _ gw_310) (fun _ h9 => h9) rfl d_Search_weighState_50 ?_
  refine va_getN (D := D) (ci := 4) (v := .int pr_size) (C := R_Prices) (T := T_Prices) (N := 15) hx hb hts inG_Prices hown hK hP 0 rfl rfl 11 (by decide) (va_Nw.use rfl (hN _ nw_264)) (fun _ h9 => h9) rfl d_Search_weighState_53 ?_
  refine lv_icmp_ge (tgt := 133) hx hb d_Search_weighState_56 (by decide) (fun c1 => ?_) (fun c1 => ?_)
  · replace hm := ifT hm c1
    replace hm := Option.some.inj hm; subst hm
    exact zret_v C hP hD hS d_Search_weighState_133
  · replace hm := ifF hm c1
    refine lv_aload_n hx hb d_Search_weighState_59 rfl (lv_at hl 0 rfl) ?_
    refine lv_iload_n hx hb d_Search_weighState_60 rfl (lv_at hl 1 rfl) ?_
    refine lv_iconst (v := 1) hx hb d_Search_weighState_61 (by decide) ?_
    refine lv_iadd hx hb d_Search_weighState_62 ?_
    refine lv_iload_n hx hb d_Search_weighState_63 rfl (lv_at hl 3 rfl) ?_
    refine lv_iload hx hb d_Search_weighState_64 (lv_at hl 5 rfl) ?_
    obtain ⟨u2, hc3, hm⟩ := bd_some hm
    refine zV_i (n := 3) (wr := [((ad 18), .inl (kc 1, 64, .inl pr_mustTurn)), ((ad 24), .inl (kc 0, 57600, .inl se_layers)), ((ad 26), .inl (kc 0, 57600, .inl se_nexts)), ((ad 27), .inl (kc 0, 3072, .inl se_places)), ((ad 29), .inl (kc 0, 2560, .inl se_restCosts)), ((ad 30), .inl (kc 2, 2560, .inr (.inl se_restLines))), ((ad 31), .inl (kc 2, 2560, .inr (.inl se_restLeastLines)))]) (w1 := (wd_Search_priceOf kc ad pr_size pr_total pr_perNote pr_mostAlike pr_notePrices pr_mustPass pr_movePrices pr_badClosings pr_badTurns pr_passings pr_strongPrices se_mark se_top se_closes se_leastCost se_allLines se_leastLines)) (ws1 := (wd_Search_weighState kc ad pr_size pr_total pr_perNote pr_mostAlike pr_notePrices pr_mustPass pr_movePrices pr_mustTurn pr_badClosings pr_badTurns pr_passings pr_strongPrices se_mark se_top se_closes se_leastCost se_allLines se_leastLines se_layers se_nexts se_places se_restCosts se_restLines se_restLeastLines)) (As := [.int (x1 + (1 : Int32)), .int x3, .int x5]) (rest := []) (ci := 6) (q0 := 8) (y := y_Search_priceOf) ⟨hx, hb, hml, hown, hts⟩ (fun sz => c_Search_priceOf hc3 sz) gw_631 gw_628 gw_630 gw_43 gw_117 hd_Search_priceOf ⟨Nat.le_of_ble_eq_true rfl, Nat.le_of_ble_eq_true rfl⟩ ⟨rfl, rfl⟩ ⟨Nat.zero_le _, Nat.zero_le _⟩ hK hN hP hD hS hA hX [0, 1, 2, 3, 5, 6, 7, 8, 9] [4, 10, 11, 12, 13, 14, 15] [7, 8, 9, 10, 0, 11, 12, 13, 14, 15, 1, 2, 3, 4, 5, 6] rfl rfl (by decide) (by decide) (by decide) rfl (by decide) rfl rfl rfl hl.1 rfl (Nat.le_of_ble_eq_true rfl) d_Search_weighState_66 (fun H locs hP hD hS => ?_)
    refine lv_istore (lv' := [(6, .int u2), (0, .ref (ad 23)), (1, .int x1), (2, .int x2), (3, .int x3), (4, .int x4), (5, .int x5)]) hx hb d_Search_weighState_69 hl (by decide) rfl (fun ls hl => ?_)
    refine lv_iload hx hb d_Search_weighState_71 (lv_at hl 0 rfl) ?_
    refine lv_iconst (v := -1) hx hb d_Search_weighState_73 (by decide) ?_
    refine lv_icmp_eq (tgt := 127) hx hb d_Search_weighState_74 (by decide) (fun c4 => ?_) (fun c4 => ?_)
    · replace hm := ifT hm c4
      exact l_Search_weighState_127 C hk47 hm ⟨hP, hD, hS⟩ (lv_sub hl [1, 2, 3, 4, 5, 6] rfl)
    · replace hm := ifF hm c4
      refine lv_aload_n hx hb d_Search_weighState_77 rfl (lv_at hl 1 rfl) ?_
      refine va_get (D := D) (ci := 6) (v := .ref (ad 27)) (C := R_Search) (T := T_Search) (N := 18) hx hb hts inG_Search hown hK hP 9 rfl rfl 5 (by decide) (hts _ gw_314) (fun _ h9 => h9) rfl d_Search_weighState_78 ?_
      refine lv_aload_n hx hb d_Search_weighState_81 rfl (lv_at hl 1 rfl) ?_
      refine lv_iload_n hx hb d_Search_weighState_82 rfl (lv_at hl 2 rfl) ?_
      refine lv_iconst (v := 1) hx hb d_Search_weighState_83 (by decide) ?_
      refine lv_iadd hx hb d_Search_weighState_84 ?_
      refine lv_iload_n hx hb d_Search_weighState_85 rfl (lv_at hl 4 rfl) ?_
      refine lv_iload hx hb d_Search_weighState_86 (lv_at hl 6 rfl) ?_
      obtain ⟨u5, hc6, hm⟩ := bd_some hm
      refine zV_i (n := 3) (wr := [((ad 15), .inl (kc 0, 360, .inl pr_notePrices)), ((ad 17), .inl (kc 0, 64, .inl pr_movePrices)), ((ad 19), .inl (kc 1, 64, .inl pr_badClosings)), ((ad 20), .inl (kc 1, 512, .inl pr_badTurns)), ((ad 21), .inl (kc 1, 512, .inl pr_passings)), ((ad 22), .inl (kc 0, 768, .inl pr_strongPrices)), ((ad 24), .inl (kc 0, 57600, .inl se_layers)), ((ad 26), .inl (kc 0, 57600, .inl se_nexts)), ((ad 27), .inl (kc 0, 3072, .inl se_places)), ((ad 29), .inl (kc 0, 2560, .inl se_restCosts)), ((ad 30), .inl (kc 2, 2560, .inr (.inl se_restLines))), ((ad 31), .inl (kc 2, 2560, .inr (.inl se_restLeastLines)))]) (w1 := (wd_Search_stateAfter kc ad pr_size pr_total pr_perNote pr_mostAlike pr_mustPass pr_mustTurn se_mark se_top se_closes se_leastCost se_allLines se_leastLines)) (ws1 := (wd_Search_weighState kc ad pr_size pr_total pr_perNote pr_mostAlike pr_notePrices pr_mustPass pr_movePrices pr_mustTurn pr_badClosings pr_badTurns pr_passings pr_strongPrices se_mark se_top se_closes se_leastCost se_allLines se_leastLines se_layers se_nexts se_places se_restCosts se_restLines se_restLeastLines)) (As := [.int (x1 + (1 : Int32)), .int x3, .int x5]) (rest := [.ref (ad 27)]) (ci := 6) (q0 := 3) (y := y_Search_stateAfter) ⟨hx, hb, hml, hown, hts⟩ (fun sz => c_Search_stateAfter hc6 sz) gw_659 gw_656 gw_658 gw_50 gw_117 hd_Search_stateAfter ⟨Nat.le_of_ble_eq_true rfl, Nat.le_of_ble_eq_true rfl⟩ ⟨rfl, rfl⟩ ⟨Nat.zero_le _, Nat.zero_le _⟩ hK hN hP hD hS hA hX [0, 2, 4, 9] [1, 3, 5, 6, 7, 8, 10, 11, 12, 13, 14, 15] [12, 0, 13, 1, 14, 2, 3, 4, 5, 15, 6, 7, 8, 9, 10, 11] rfl rfl (by decide) (by decide) (by decide) rfl (by decide) rfl rfl rfl hl.1 rfl (Nat.le_of_ble_eq_true rfl) d_Search_weighState_88 (fun H locs hP hD hS => ?_)
      obtain ⟨hi7, hm⟩ := gd_some hm
      refine va_iald hx hb hK hP 12 0 rfl rfl hi7 d_Search_weighState_91 ?_
      refine lv_istore (lv' := [(7, .int (se_places (Int32.toNatClampNeg u5))), (6, .int u2), (0, .ref (ad 23)), (1, .int x1), (2, .int x2), (3, .int x3), (4, .int x4), (5, .int x5)]) hx hb d_Search_weighState_92 hl (by decide) rfl (fun ls hl => ?_)
      refine lv_aload_n hx hb d_Search_weighState_94 rfl (lv_at hl 2 rfl) ?_
      refine lv_iload hx hb d_Search_weighState_95 (lv_at hl 6 rfl) ?_
      refine lv_iload_n hx hb d_Search_weighState_97 rfl (lv_at hl 3 rfl) ?_
      refine lv_iconst (v := 1) hx hb d_Search_weighState_98 (by decide) ?_
      refine lv_iadd hx hb d_Search_weighState_99 ?_
      refine lv_iload hx hb d_Search_weighState_100 (lv_at hl 0 rfl) ?_
      obtain ⟨u8, hc9, hm⟩ := bd_some hm
      refine zS_i (n := 2) (wr := [((ad 13), .inr (4, [.ref (ad 1), .ref (ad 8), .ref (ad 14), .ref (ad 15), .ref (ad 16), .ref (ad 17), .ref (ad 18), .ref (ad 19), .ref (ad 20), .ref (ad 21), .ref (ad 22), .int pr_size, .int pr_total, .int pr_perNote, .int pr_mostAlike])), ((ad 15), .inl (kc 0, 360, .inl pr_notePrices)), ((ad 16), .inl (kc 1, 360, .inl pr_mustPass)), ((ad 17), .inl (kc 0, 64, .inl pr_movePrices)), ((ad 18), .inl (kc 1, 64, .inl pr_mustTurn)), ((ad 19), .inl (kc 1, 64, .inl pr_badClosings)), ((ad 20), .inl (kc 1, 512, .inl pr_badTurns)), ((ad 21), .inl (kc 1, 512, .inl pr_passings)), ((ad 22), .inl (kc 0, 768, .inl pr_strongPrices)), ((ad 23), .inr (6, [.ref (ad 1), .ref (ad 13), .ref (ad 24), .ref (ad 25), .ref (ad 26), .ref (ad 27), .ref (ad 28), .int se_mark, .ref (ad 29), .ref (ad 30), .ref (ad 31), .ref (ad 32), .ref (ad 33), .int se_top, .int se_closes, .int se_leastCost, .long se_allLines, .long se_leastLines])), ((ad 24), .inl (kc 0, 57600, .inl se_layers)), ((ad 26), .inl (kc 0, 57600, .inl se_nexts)), ((ad 27), .inl (kc 0, 3072, .inl se_places)), ((ad 29), .inl (kc 0, 2560, .inl se_restCosts)), ((ad 30), .inl (kc 2, 2560, .inr (.inl se_restLines))), ((ad 31), .inl (kc 2, 2560, .inr (.inl se_restLeastLines)))]) (w1 := (wd_Search_restAt kc )) (ws1 := (wd_Search_weighState kc ad pr_size pr_total pr_perNote pr_mostAlike pr_notePrices pr_mustPass pr_movePrices pr_mustTurn pr_badClosings pr_badTurns pr_passings pr_strongPrices se_mark se_top se_closes se_leastCost se_allLines se_leastLines se_layers se_nexts se_places se_restCosts se_restLines se_restLeastLines)) (As := [.int (x1 + (1 : Int32)), .int (se_places (Int32.toNatClampNeg u5))]) (rest := [.int x4, .ref (ad 23)]) (y := y_Search_restAt) ⟨hx, hb, hml, hown, hts⟩ (fun sz => c_Search_restAt hc9 sz) gw_670 gw_668 gw_669 gw_117 rfl hd_Search_restAt ⟨Nat.le_of_ble_eq_true rfl, Nat.le_of_ble_eq_true rfl⟩ ⟨rfl, rfl⟩ ⟨Nat.zero_le _, Nat.zero_le _⟩ hK hN hP hD hS hA hX [] [0, 1, 2, 3, 4, 5, 6, 7, 8, 9, 10, 11, 12, 13, 14, 15] [0, 1, 2, 3, 4, 5, 6, 7, 8, 9, 10, 11, 12, 13, 14, 15] rfl rfl (by decide) (by decide) (by decide) rfl (by decide) rfl hl.1 rfl (Nat.le_of_ble_eq_true rfl) d_Search_weighState_102 (fun H locs hP hD hS => ?_)
      refine lv_iload hx hb d_Search_weighState_105 (lv_at hl 1 rfl) ?_
      obtain ⟨u10, hc11, hm⟩ := bd_some hm
      refine zV_i (n := 3) (wr := [((ad 13), .inr (4, [.ref (ad 1), .ref (ad 8), .ref (ad 14), .ref (ad 15), .ref (ad 16), .ref (ad 17), .ref (ad 18), .ref (ad 19), .ref (ad 20), .ref (ad 21), .ref (ad 22), .int pr_size, .int pr_total, .int pr_perNote, .int pr_mostAlike])), ((ad 15), .inl (kc 0, 360, .inl pr_notePrices)), ((ad 16), .inl (kc 1, 360, .inl pr_mustPass)), ((ad 17), .inl (kc 0, 64, .inl pr_movePrices)), ((ad 18), .inl (kc 1, 64, .inl pr_mustTurn)), ((ad 19), .inl (kc 1, 64, .inl pr_badClosings)), ((ad 20), .inl (kc 1, 512, .inl pr_badTurns)), ((ad 21), .inl (kc 1, 512, .inl pr_passings)), ((ad 22), .inl (kc 0, 768, .inl pr_strongPrices)), ((ad 24), .inl (kc 0, 57600, .inl se_layers)), ((ad 26), .inl (kc 0, 57600, .inl se_nexts)), ((ad 27), .inl (kc 0, 3072, .inl se_places))]) (w1 := (wd_Search_addWay kc ad se_mark se_top se_closes se_leastCost se_allLines se_leastLines u10.2.1 u10.2.2.1 u10.2.2.2)) (ws1 := (wd_Search_weighState kc ad pr_size pr_total pr_perNote pr_mostAlike pr_notePrices pr_mustPass pr_movePrices pr_mustTurn pr_badClosings pr_badTurns pr_passings pr_strongPrices se_mark se_top se_closes se_leastCost se_allLines se_leastLines se_layers se_nexts se_places u10.2.1 u10.2.2.1 u10.2.2.2)) (As := [.int x4, .int u8, .int u2]) (rest := []) (ci := 6) (q0 := 0) (y := y_Search_addWay) ⟨hx, hb, hml, hown, hts⟩ (fun sz => c_Search_addWay hc11 sz) gw_682 gw_679 gw_681 gw_55 gw_117 hd_Search_addWay ⟨Nat.le_of_ble_eq_true rfl, Nat.le_of_ble_eq_true rfl⟩ ⟨rfl, rfl⟩ ⟨Nat.zero_le _, Nat.zero_le _⟩ hK hN hP hD hS hA hX [9, 13, 14, 15] [0, 1, 2, 3, 4, 5, 6, 7, 8, 10, 11, 12] [0, 1, 2, 3, 4, 5, 6, 7, 8, 12, 9, 10, 11, 13, 14, 15] rfl rfl (by decide) (by decide) (by decide) rfl (by decide) rfl rfl rfl hl.1 rfl (Nat.le_of_ble_eq_true rfl) d_Search_weighState_107 (fun H locs hP hD hS => ?_)
      refine lv_if_eq (tgt := 127) hx hb d_Search_weighState_110 (by decide) (fun c12 => ?_) (fun c12 => ?_)
      · replace hm := ifT hm c12
        exact l_Search_weighState_127 C hk47 hm ⟨hP, hD, hS⟩ (lv_sub hl [2, 3, 4, 5, 6, 7] rfl)
      · replace hm := ifF hm c12
        refine lv_aload_n hx hb d_Search_weighState_113 rfl (lv_at hl 2 rfl) ?_
        refine va_get (D := D) (ci := 6) (v := .ref (ad 26)) (C := R_Search) (T := T_Search) (N := 18) hx hb hts inG_Search hown hK hP 9 rfl rfl 4 (by decide) (hts _ gw_313) (fun _ h9 => h9) rfl d_Search_weighState_114 ?_
        refine lv_iload_n hx hb d_Search_weighState_117 rfl (lv_at hl 3 rfl) ?_
        refine lv_sipush (v := 1280) hx hb d_Search_weighState_118 (by decide) ?_
        refine lv_imul hx hb d_Search_weighState_121 ?_
        refine lv_iload_n hx hb d_Search_weighState_122 rfl (lv_at hl 4 rfl) ?_
        refine lv_iadd hx hb d_Search_weighState_123 ?_
        refine lv_iload hx hb d_Search_weighState_124 (lv_at hl 0 rfl) ?_
        obtain ⟨hi13, hm⟩ := gd_some hm
        refine va_iast hx hb hK hP hD hS 11 0 rfl rfl hi13 d_Search_weighState_126 (fun H locs hP hD hS => ?_)
        replace hP : va_P D vwCl (wd_Search_weighState kc ad pr_size pr_total pr_perNote pr_mostAlike pr_notePrices pr_mustPass pr_movePrices pr_mustTurn pr_badClosings pr_badTurns pr_passings pr_strongPrices se_mark se_top se_closes se_leastCost se_allLines se_leastLines se_layers (upd se_nexts (Int32.toNatClampNeg ((x1 * (1280 : Int32)) + x2)) (se_places (Int32.toNatClampNeg u5))) se_places u10.2.1 u10.2.2.1 u10.2.2.2) H := hP
        replace hD : va_D A (wd_Search_weighState kc ad pr_size pr_total pr_perNote pr_mostAlike pr_notePrices pr_mustPass pr_movePrices pr_mustTurn pr_badClosings pr_badTurns pr_passings pr_strongPrices se_mark se_top se_closes se_leastCost se_allLines se_leastLines se_layers (upd se_nexts (Int32.toNatClampNeg ((x1 * (1280 : Int32)) + x2)) (se_places (Int32.toNatClampNeg u5))) se_places u10.2.1 u10.2.2.1 u10.2.2.2) := hD
        exact l_Search_weighState_127 C hk47 hm ⟨hP, hD, hS⟩ (lv_sub hl [2, 3, 4, 5, 6, 7] rfl)
def m_Search_weighState_47 (F : Nat) (pr_size : Int32) (pr_total : Int32) (pr_perNote : Int32) (pr_mostAlike : Int32) (pr_notePrices : Nat → Int32) (pr_mustPass : Nat → Int32) (pr_movePrices : Nat → Int32) (pr_mustTurn : Nat → Int32) (pr_badClosings : Nat → Int32) (pr_badTurns : Nat → Int32) (pr_passings : Nat → Int32) (pr_strongPrices : Nat → Int32) (se_top : Int32) (se_closes : Int32) (se_layers : Nat → Int32) (se_places : Nat → Int32)  : Nat → (Nat → Int32) → (Nat → Int32) → (Nat → Int64) → (Nat → Int64) → Int32 → Int32 → Int32 → Int32 → Int32 → Option ((Nat → Int32) × (Nat → Int32) × (Nat → Int64) × (Nat → Int64))
  | 0 => fun _ _ _ _ _ _ _ _ _ => none
  | n + 1 => m_Search_weighState_47b F pr_size pr_total pr_perNote pr_mostAlike pr_notePrices pr_mustPass pr_movePrices pr_mustTurn pr_badClosings pr_badTurns pr_passings pr_strongPrices se_top se_closes se_layers se_places  (m_Search_weighState_47 F pr_size pr_total pr_perNote pr_mostAlike pr_notePrices pr_mustPass pr_movePrices pr_mustTurn pr_badClosings pr_badTurns pr_passings pr_strongPrices se_top se_closes se_layers se_places  n)
set_option maxHeartbeats 4000000 in
set_option maxRecDepth 100000 in
theorem lp_Search_weighState_47 {r : (Nat → Int32) × (Nat → Int32) × (Nat → Int64) × (Nat → Int64)} {F : Nat} {ad : Nat → Nat} {pr_size : Int32} {pr_total : Int32} {pr_perNote : Int32} {pr_mostAlike : Int32} {pr_notePrices : Nat → Int32} {pr_mustPass : Nat → Int32} {pr_movePrices : Nat → Int32} {pr_mustTurn : Nat → Int32} {pr_badClosings : Nat → Int32} {pr_badTurns : Nat → Int32} {pr_passings : Nat → Int32} {pr_strongPrices : Nat → Int32} {se_mark : Int32} {se_top : Int32} {se_closes : Int32} {se_leastCost : Int32} {se_allLines : Int64} {se_leastLines : Int64} {se_layers : Nat → Int32} {se_places : Nat → Int32}  (C : Cx p s m meth c args A D kc R_Search b_Search_weighState 8 none)  : ∀ (n : Nat) (se_nexts : Nat → Int32) (se_restCosts : Nat → Int32) (se_restLines : Nat → Int64) (se_restLeastLines : Nat → Int64) (x1 : Int32) (x2 : Int32) (x3 : Int32) (x4 : Int32) (x5 : Int32) (H : Heap) (locs : List Loc) (ls : Array Slot), m_Search_weighState_47 F pr_size pr_total pr_perNote pr_mostAlike pr_notePrices pr_mustPass pr_movePrices pr_mustTurn pr_badClosings pr_badTurns pr_passings pr_strongPrices se_top se_closes se_layers se_places  n se_nexts se_restCosts se_restLines se_restLeastLines x1 x2 x3 x4 x5 = some r → St D A s (wd_Search_weighState kc ad pr_size pr_total pr_perNote pr_mostAlike pr_notePrices pr_mustPass pr_movePrices pr_mustTurn pr_badClosings pr_badTurns pr_passings pr_strongPrices se_mark se_top se_closes se_leastCost se_allLines se_leastLines se_layers se_nexts se_places se_restCosts se_restLines se_restLeastLines) H locs → lv_has ls 8 [(0, .ref (ad 23)), (1, .int x1), (2, .int x2), (3, .int x3), (4, .int x4), (5, .int x5)] → W p l e rm_Search_weighState s m args below meth c H locs 0 0 (MQ below (Qv D A (wd_Search_weighState kc ad pr_size pr_total pr_perNote pr_mostAlike pr_notePrices pr_mustPass pr_movePrices pr_mustTurn pr_badClosings pr_badTurns pr_passings pr_strongPrices se_mark se_top se_closes se_leastCost se_allLines se_leastLines se_layers r.1 se_places r.2.1 r.2.2.1 r.2.2.2)) args s 0 0 A) (F0 m 47 ls []) := by
  intro n
  induction n with
  | zero => intro se_nexts se_restCosts se_restLines se_restLeastLines x1 x2 x3 x4 x5 H locs ls hm; cases hm
  | succ n ih => intro se_nexts se_restCosts se_restLines se_restLeastLines x1 x2 x3 x4 x5 H locs ls hm hZ hl; exact l_Search_weighState_47 C  ih hm hZ hl
def m_Search_weighState (F : Nat) (pr_size : Int32) (pr_total : Int32) (pr_perNote : Int32) (pr_mostAlike : Int32) (pr_notePrices : Nat → Int32) (pr_mustPass : Nat → Int32) (pr_movePrices : Nat → Int32) (pr_mustTurn : Nat → Int32) (pr_badClosings : Nat → Int32) (pr_badTurns : Nat → Int32) (pr_passings : Nat → Int32) (pr_strongPrices : Nat → Int32) (se_top : Int32) (se_closes : Int32) (se_layers : Nat → Int32) (se_places : Nat → Int32) (se_nexts : Nat → Int32) (se_restCosts : Nat → Int32) (se_restLines : Nat → Int64) (se_restLeastLines : Nat → Int64) (a1 : Int32) (a2 : Int32) : Option ((Nat → Int32) × (Nat → Int32) × (Nat → Int64) × (Nat → Int64)) :=
  (gd ((a1 * (1280 : Int32)) + a2) 57600 (bd (m_Search_restAt a1 a2) (fun u2 => (gd u2 2560 (gd u2 2560 (gd u2 2560 (m_Search_weighState_47 F pr_size pr_total pr_perNote pr_mostAlike pr_notePrices pr_mustPass pr_movePrices pr_mustTurn pr_badClosings pr_badTurns pr_passings pr_strongPrices se_top se_closes se_layers se_places  F se_nexts (upd se_restCosts (Int32.toNatClampNeg u2) (-1 : Int32)) (vp_updL se_restLines (Int32.toNatClampNeg u2) (0 : Int64)) (vp_updL se_restLeastLines (Int32.toNatClampNeg u2) (0 : Int64)) a1 a2 (se_layers (Int32.toNatClampNeg ((a1 * (1280 : Int32)) + a2))) u2 (0 : Int32))))))))
set_option maxHeartbeats 4000000 in
set_option maxRecDepth 100000 in
theorem e_Search_weighState {r : (Nat → Int32) × (Nat → Int32) × (Nat → Int64) × (Nat → Int64)} {F : Nat} {ad : Nat → Nat} {pr_size : Int32} {pr_total : Int32} {pr_perNote : Int32} {pr_mostAlike : Int32} {pr_notePrices : Nat → Int32} {pr_mustPass : Nat → Int32} {pr_movePrices : Nat → Int32} {pr_mustTurn : Nat → Int32} {pr_badClosings : Nat → Int32} {pr_badTurns : Nat → Int32} {pr_passings : Nat → Int32} {pr_strongPrices : Nat → Int32} {se_mark : Int32} {se_top : Int32} {se_closes : Int32} {se_leastCost : Int32} {se_allLines : Int64} {se_leastLines : Int64} {se_layers : Nat → Int32} {se_nexts : Nat → Int32} {se_places : Nat → Int32} {se_restCosts : Nat → Int32} {se_restLines : Nat → Int64} {se_restLeastLines : Nat → Int64} {a1 : Int32} {a2 : Int32} {H : Heap} {locs : List Loc} {ls : Array Slot} (C : Cx p s m meth c args A D kc R_Search b_Search_weighState 8 none) (hm : m_Search_weighState F pr_size pr_total pr_perNote pr_mostAlike pr_notePrices pr_mustPass pr_movePrices pr_mustTurn pr_badClosings pr_badTurns pr_passings pr_strongPrices se_top se_closes se_layers se_places se_nexts se_restCosts se_restLines se_restLeastLines a1 a2 = some r) (hZ : St D A s (wd_Search_weighState kc ad pr_size pr_total pr_perNote pr_mostAlike pr_notePrices pr_mustPass pr_movePrices pr_mustTurn pr_badClosings pr_badTurns pr_passings pr_strongPrices se_mark se_top se_closes se_leastCost se_allLines se_leastLines se_layers se_nexts se_places se_restCosts se_restLines se_restLeastLines) H locs) (hl : lv_has ls 8 [(0, .ref (ad 23)), (1, .int a1), (2, .int a2)]) : W p l e rm_Search_weighState s m args below meth c H locs 0 0 (MQ below (Qv D A (wd_Search_weighState kc ad pr_size pr_total pr_perNote pr_mostAlike pr_notePrices pr_mustPass pr_movePrices pr_mustTurn pr_badClosings pr_badTurns pr_passings pr_strongPrices se_mark se_top se_closes se_leastCost se_allLines se_leastLines se_layers r.1 se_places r.2.1 r.2.2.1 r.2.2.2)) args s 0 0 A) (F0 m 0 ls []) := by
  obtain ⟨hx, hb, hr, hts, hown, hml, hlocks, hK, hN, hA, hX⟩ := id C
  obtain ⟨hP, hD, hS⟩ := hZ
  unfold m_Search_weighState at hm
  refine lv_aload_n hx hb d_Search_weighState_0 rfl (lv_at hl 0 rfl) ?_
  refine va_get (D := D) (ci := 6) (v := .ref (ad 24)) (C := R_Search) (T := T_Search) (N := 18) hx hb hts inG_Search hown hK hP 9 rfl rfl 2 (by decide) (hts _ gw_311) (fun _ h9 => h9) rfl d_Search_weighState_1 ?_
  refine lv_iload_n hx hb d_Search_weighState_4 rfl (lv_at hl 1 rfl) ?_
  refine lv_sipush (v := 1280) hx hb d_Search_weighState_5 (by decide) ?_
  refine lv_imul hx hb d_Search_weighState_8 ?_
  refine lv_iload_n hx hb d_Search_weighState_9 rfl (lv_at hl 2 rfl) ?_
  refine lv_iadd hx hb d_Search_weighState_10 ?_
  obtain ⟨hi1, hm⟩ := gd_some hm
  refine va_iald hx hb hK hP 10 0 rfl rfl hi1 d_Search_weighState_11 ?_
  refine lv_istore_n (lv' := [(3, .int (se_layers (Int32.toNatClampNeg ((a1 * (1280 : Int32)) + a2)))), (0, .ref (ad 23)), (1, .int a1), (2, .int a2)]) hx hb d_Search_weighState_12 rfl hl (by decide) rfl (fun ls hl => ?_)
  refine lv_iload_n hx hb d_Search_weighState_13 rfl (lv_at hl 2 rfl) ?_
  refine lv_iload_n hx hb d_Search_weighState_14 rfl (lv_at hl 3 rfl) ?_
  obtain ⟨u2, hc3, hm⟩ := bd_some hm
  refine zS_i (n := 2) (wr := [((ad 13), .inr (4, [.ref (ad 1), .ref (ad 8), .ref (ad 14), .ref (ad 15), .ref (ad 16), .ref (ad 17), .ref (ad 18), .ref (ad 19), .ref (ad 20), .ref (ad 21), .ref (ad 22), .int pr_size, .int pr_total, .int pr_perNote, .int pr_mostAlike])), ((ad 15), .inl (kc 0, 360, .inl pr_notePrices)), ((ad 16), .inl (kc 1, 360, .inl pr_mustPass)), ((ad 17), .inl (kc 0, 64, .inl pr_movePrices)), ((ad 18), .inl (kc 1, 64, .inl pr_mustTurn)), ((ad 19), .inl (kc 1, 64, .inl pr_badClosings)), ((ad 20), .inl (kc 1, 512, .inl pr_badTurns)), ((ad 21), .inl (kc 1, 512, .inl pr_passings)), ((ad 22), .inl (kc 0, 768, .inl pr_strongPrices)), ((ad 23), .inr (6, [.ref (ad 1), .ref (ad 13), .ref (ad 24), .ref (ad 25), .ref (ad 26), .ref (ad 27), .ref (ad 28), .int se_mark, .ref (ad 29), .ref (ad 30), .ref (ad 31), .ref (ad 32), .ref (ad 33), .int se_top, .int se_closes, .int se_leastCost, .long se_allLines, .long se_leastLines])), ((ad 24), .inl (kc 0, 57600, .inl se_layers)), ((ad 26), .inl (kc 0, 57600, .inl se_nexts)), ((ad 27), .inl (kc 0, 3072, .inl se_places)), ((ad 29), .inl (kc 0, 2560, .inl se_restCosts)), ((ad 30), .inl (kc 2, 2560, .inr (.inl se_restLines))), ((ad 31), .inl (kc 2, 2560, .inr (.inl se_restLeastLines)))]) (w1 := (wd_Search_restAt kc )) (ws1 := (wd_Search_weighState kc ad pr_size pr_total pr_perNote pr_mostAlike pr_notePrices pr_mustPass pr_movePrices pr_mustTurn pr_badClosings pr_badTurns pr_passings pr_strongPrices se_mark se_top se_closes se_leastCost se_allLines se_leastLines se_layers se_nexts se_places se_restCosts se_restLines se_restLeastLines)) (As := [.int a1, .int a2]) (rest := []) (y := y_Search_restAt) ⟨hx, hb, hml, hown, hts⟩ (fun sz => c_Search_restAt hc3 sz) gw_670 gw_668 gw_669 gw_117 rfl hd_Search_restAt ⟨Nat.le_of_ble_eq_true rfl, Nat.le_of_ble_eq_true rfl⟩ ⟨rfl, rfl⟩ ⟨Nat.zero_le _, Nat.zero_le _⟩ hK hN hP hD hS hA hX [] [0, 1, 2, 3, 4, 5, 6, 7, 8, 9, 10, 11, 12, 13, 14, 15] [0, 1, 2, 3, 4, 5, 6, 7, 8, 9, 10, 11, 12, 13, 14, 15] rfl rfl (by decide) (by decide) (by decide) rfl (by decide) rfl hl.1 rfl (Nat.le_of_ble_eq_true rfl) d_Search_weighState_15 (fun H locs hP hD hS => ?_)
  refine lv_istore (lv' := [(4, .int u2), (3, .int (se_layers (Int32.toNatClampNeg ((a1 * (1280 : Int32)) + a2)))), (0, .ref (ad 23)), (1, .int a1), (2, .int a2)]) hx hb d_Search_weighState_18 hl (by decide) rfl (fun ls hl => ?_)
  refine lv_aload_n hx hb d_Search_weighState_20 rfl (lv_at hl 2 rfl) ?_
  refine va_get (D := D) (ci := 6) (v := .ref (ad 29)) (C := R_Search) (T := T_Search) (N := 18) hx hb hts inG_Search hown hK hP 9 rfl rfl 8 (by decide) (hts _ gw_317) (fun _ h9 => h9) rfl d_Search_weighState_21 ?_
  refine lv_iload hx hb d_Search_weighState_24 (lv_at hl 0 rfl) ?_
  refine lv_iconst (v := -1) hx hb d_Search_weighState_26 (by decide) ?_
  obtain ⟨hi4, hm⟩ := gd_some hm
  refine va_iast hx hb hK hP hD hS 13 0 rfl rfl hi4 d_Search_weighState_27 (fun H locs hP hD hS => ?_)
  replace hP : va_P D vwCl (wd_Search_weighState kc ad pr_size pr_total pr_perNote pr_mostAlike pr_notePrices pr_mustPass pr_movePrices pr_mustTurn pr_badClosings pr_badTurns pr_passings pr_strongPrices se_mark se_top se_closes se_leastCost se_allLines se_leastLines se_layers se_nexts se_places (upd se_restCosts (Int32.toNatClampNeg u2) (-1 : Int32)) se_restLines se_restLeastLines) H := hP
  replace hD : va_D A (wd_Search_weighState kc ad pr_size pr_total pr_perNote pr_mostAlike pr_notePrices pr_mustPass pr_movePrices pr_mustTurn pr_badClosings pr_badTurns pr_passings pr_strongPrices se_mark se_top se_closes se_leastCost se_allLines se_leastLines se_layers se_nexts se_places (upd se_restCosts (Int32.toNatClampNeg u2) (-1 : Int32)) se_restLines se_restLeastLines) := hD
  refine lv_aload_n hx hb d_Search_weighState_28 rfl (lv_at hl 2 rfl) ?_
  refine va_get (D := D) (ci := 6) (v := .ref (ad 30)) (C := R_Search) (T := T_Search) (N := 18) hx hb hts inG_Search hown hK hP 9 rfl rfl 9 (by decide) (hts _ gw_318) (fun _ h9 => h9) rfl d_Search_weighState_29 ?_
  refine lv_iload hx hb d_Search_weighState_32 (lv_at hl 0 rfl) ?_
  refine lv_lconst (v := 0) hx hb d_Search_weighState_34 (by decide) ?_
  obtain ⟨hi5, hm⟩ := gd_some hm
  refine va_last hx hb hK hP hD hS 14 2 rfl rfl hi5 d_Search_weighState_35 (fun H locs hP hD hS => ?_)
  replace hP : va_P D vwCl (wd_Search_weighState kc ad pr_size pr_total pr_perNote pr_mostAlike pr_notePrices pr_mustPass pr_movePrices pr_mustTurn pr_badClosings pr_badTurns pr_passings pr_strongPrices se_mark se_top se_closes se_leastCost se_allLines se_leastLines se_layers se_nexts se_places (upd se_restCosts (Int32.toNatClampNeg u2) (-1 : Int32)) (vp_updL se_restLines (Int32.toNatClampNeg u2) (0 : Int64)) se_restLeastLines) H := hP
  replace hD : va_D A (wd_Search_weighState kc ad pr_size pr_total pr_perNote pr_mostAlike pr_notePrices pr_mustPass pr_movePrices pr_mustTurn pr_badClosings pr_badTurns pr_passings pr_strongPrices se_mark se_top se_closes se_leastCost se_allLines se_leastLines se_layers se_nexts se_places (upd se_restCosts (Int32.toNatClampNeg u2) (-1 : Int32)) (vp_updL se_restLines (Int32.toNatClampNeg u2) (0 : Int64)) se_restLeastLines) := hD
  refine lv_aload_n hx hb d_Search_weighState_36 rfl (lv_at hl 2 rfl) ?_
  refine va_get (D := D) (ci := 6) (v := .ref (ad 31)) (C := R_Search) (T := T_Search) (N := 18) hx hb hts inG_Search hown hK hP 9 rfl rfl 10 (by decide) (hts _ gw_319) (fun _ h9 => h9) rfl d_Search_weighState_37 ?_
  refine lv_iload hx hb d_Search_weighState_40 (lv_at hl 0 rfl) ?_
  refine lv_lconst (v := 0) hx hb d_Search_weighState_42 (by decide) ?_
  obtain ⟨hi6, hm⟩ := gd_some hm
  refine va_last hx hb hK hP hD hS 15 2 rfl rfl hi6 d_Search_weighState_43 (fun H locs hP hD hS => ?_)
  replace hP : va_P D vwCl (wd_Search_weighState kc ad pr_size pr_total pr_perNote pr_mostAlike pr_notePrices pr_mustPass pr_movePrices pr_mustTurn pr_badClosings pr_badTurns pr_passings pr_strongPrices se_mark se_top se_closes se_leastCost se_allLines se_leastLines se_layers se_nexts se_places (upd se_restCosts (Int32.toNatClampNeg u2) (-1 : Int32)) (vp_updL se_restLines (Int32.toNatClampNeg u2) (0 : Int64)) (vp_updL se_restLeastLines (Int32.toNatClampNeg u2) (0 : Int64))) H := hP
  replace hD : va_D A (wd_Search_weighState kc ad pr_size pr_total pr_perNote pr_mostAlike pr_notePrices pr_mustPass pr_movePrices pr_mustTurn pr_badClosings pr_badTurns pr_passings pr_strongPrices se_mark se_top se_closes se_leastCost se_allLines se_leastLines se_layers se_nexts se_places (upd se_restCosts (Int32.toNatClampNeg u2) (-1 : Int32)) (vp_updL se_restLines (Int32.toNatClampNeg u2) (0 : Int64)) (vp_updL se_restLeastLines (Int32.toNatClampNeg u2) (0 : Int64))) := hD
  refine lv_iconst (v := 0) hx hb d_Search_weighState_44 (by decide) ?_
  refine lv_istore (lv' := [(5, .int (0 : Int32)), (4, .int u2), (3, .int (se_layers (Int32.toNatClampNeg ((a1 * (1280 : Int32)) + a2)))), (0, .ref (ad 23)), (1, .int a1), (2, .int a2)]) hx hb d_Search_weighState_45 hl (by decide) rfl (fun ls hl => ?_)
  exact lp_Search_weighState_47 C  F se_nexts (upd se_restCosts (Int32.toNatClampNeg u2) (-1 : Int32)) (vp_updL se_restLines (Int32.toNatClampNeg u2) (0 : Int64)) (vp_updL se_restLeastLines (Int32.toNatClampNeg u2) (0 : Int64)) a1 a2 (se_layers (Int32.toNatClampNeg ((a1 * (1280 : Int32)) + a2))) u2 (0 : Int32) _ _ _ hm ⟨hP, hD, hS⟩ (lv_sub hl [3, 4, 5, 2, 1, 0] rfl)
set_option maxHeartbeats 4000000 in
set_option maxRecDepth 100000 in
theorem c_Search_weighState {l : Launch} {D : va_G} {kc : Nat → ClassId} {r : (Nat → Int32) × (Nat → Int32) × (Nat → Int64) × (Nat → Int64)} {F : Nat} {ad : Nat → Nat} {pr_size : Int32} {pr_total : Int32} {pr_perNote : Int32} {pr_mostAlike : Int32} {pr_notePrices : Nat → Int32} {pr_mustPass : Nat → Int32} {pr_movePrices : Nat → Int32} {pr_mustTurn : Nat → Int32} {pr_badClosings : Nat → Int32} {pr_badTurns : Nat → Int32} {pr_passings : Nat → Int32} {pr_strongPrices : Nat → Int32} {se_mark : Int32} {se_top : Int32} {se_closes : Int32} {se_leastCost : Int32} {se_allLines : Int64} {se_leastLines : Int64} {se_layers : Nat → Int32} {se_nexts : Nat → Int32} {se_places : Nat → Int32} {se_restCosts : Nat → Int32} {se_restLines : Nat → Int64} {se_restLeastLines : Nat → Int64} {a1 : Int32} {a2 : Int32} (hm : m_Search_weighState F pr_size pr_total pr_perNote pr_mostAlike pr_notePrices pr_mustPass pr_movePrices pr_mustTurn pr_badClosings pr_badTurns pr_passings pr_strongPrices se_top se_closes se_layers se_places se_nexts se_restCosts se_restLines se_restLeastLines a1 a2 = some r) (sz : Nat) : Cv l y_Search_weighState ws_Search_weighState rm_Search_weighState D kc sz [.ref (ad 23), .int a1, .int a2] (wd_Search_weighState kc ad pr_size pr_total pr_perNote pr_mostAlike pr_notePrices pr_mustPass pr_movePrices pr_mustTurn pr_badClosings pr_badTurns pr_passings pr_strongPrices se_mark se_top se_closes se_leastCost se_allLines se_leastLines se_layers se_nexts se_places se_restCosts se_restLines se_restLeastLines) (wd_Search_weighState kc ad pr_size pr_total pr_perNote pr_mostAlike pr_notePrices pr_mustPass pr_movePrices pr_mustTurn pr_badClosings pr_badTurns pr_passings pr_strongPrices se_mark se_top se_closes se_leastCost se_allLines se_leastLines se_layers r.1 se_places r.2.1 r.2.2.1 r.2.2.2) :=
  Cz_of (Qf := fun A => (Qv D A (wd_Search_weighState kc ad pr_size pr_total pr_perNote pr_mostAlike pr_notePrices pr_mustPass pr_movePrices pr_mustTurn pr_badClosings pr_badTurns pr_passings pr_strongPrices se_mark se_top se_closes se_leastCost se_allLines se_leastLines se_layers r.1 se_places r.2.1 r.2.2.1 r.2.2.2))) (cc := b_Search_weighState) (maxL := 8) (ret := none) (by decide) rfl rfl (fun C hZ hl => e_Search_weighState C hm hZ hl)
abbrev b_Search_weigh : ByteArray := prog_6_method_15_code
abbrev y_Search_weigh : MethodName := ⟨"SpeciesSolver$Search", "weigh", "()V"⟩
theorem d_Search_weigh_0 : decode b_Search_weigh 0 = .ok (.aload_n 0, 1) := by decide +kernel
theorem d_Search_weigh_1 : decode b_Search_weigh 1 = .ok (.getfield 69, 3) := by decide +kernel
theorem d_Search_weigh_4 : decode b_Search_weigh 4 = .ok (.getfield 88, 3) := by decide +kernel
theorem d_Search_weigh_7 : decode b_Search_weigh 7 = .ok (.iconst 1, 1) := by decide +kernel
theorem d_Search_weigh_8 : decode b_Search_weigh 8 = .ok (.isub, 1) := by decide +kernel
theorem d_Search_weigh_9 : decode b_Search_weigh 9 = .ok (.istore_n 1, 1) := by decide +kernel
theorem d_Search_weigh_10 : decode b_Search_weigh 10 = .ok (.iconst 0, 1) := by decide +kernel
theorem d_Search_weigh_11 : decode b_Search_weigh 11 = .ok (.istore_n 2, 1) := by decide +kernel
theorem d_Search_weigh_12 : decode b_Search_weigh 12 = .ok (.iload_n 2, 1) := by decide +kernel
theorem d_Search_weigh_13 : decode b_Search_weigh 13 = .ok (.aload_n 0, 1) := by decide +kernel
theorem d_Search_weigh_14 : decode b_Search_weigh 14 = .ok (.getfield 16, 3) := by decide +kernel
theorem d_Search_weigh_17 : decode b_Search_weigh 17 = .ok (.iload_n 1, 1) := by decide +kernel
theorem d_Search_weigh_18 : decode b_Search_weigh 18 = .ok (.iaload, 1) := by decide +kernel
theorem d_Search_weigh_19 : decode b_Search_weigh 19 = .ok (.if_icmp .ge 36, 3) := by decide +kernel
theorem d_Search_weigh_22 : decode b_Search_weigh 22 = .ok (.iload_n 1, 1) := by decide +kernel
theorem d_Search_weigh_23 : decode b_Search_weigh 23 = .ok (.iload_n 2, 1) := by decide +kernel
theorem d_Search_weigh_24 : decode b_Search_weigh 24 = .ok (.invokestatic 168, 3) := by decide +kernel
theorem d_Search_weigh_27 : decode b_Search_weigh 27 = .ok (.istore_n 3, 1) := by decide +kernel
theorem d_Search_weigh_28 : decode b_Search_weigh 28 = .ok (.aload_n 0, 1) := by decide +kernel
theorem d_Search_weigh_29 : decode b_Search_weigh 29 = .ok (.getfield 32, 3) := by decide +kernel
theorem d_Search_weigh_32 : decode b_Search_weigh 32 = .ok (.iload_n 3, 1) := by decide +kernel
theorem d_Search_weigh_33 : decode b_Search_weigh 33 = .ok (.iconst 0, 1) := by decide +kernel
theorem d_Search_weigh_34 : decode b_Search_weigh 34 = .ok (.iastore, 1) := by decide +kernel
theorem d_Search_weigh_35 : decode b_Search_weigh 35 = .ok (.aload_n 0, 1) := by decide +kernel
theorem d_Search_weigh_36 : decode b_Search_weigh 36 = .ok (.getfield 35, 3) := by decide +kernel
theorem d_Search_weigh_39 : decode b_Search_weigh 39 = .ok (.iload_n 3, 1) := by decide +kernel
theorem d_Search_weigh_40 : decode b_Search_weigh 40 = .ok (.lconst 1, 1) := by decide +kernel
theorem d_Search_weigh_41 : decode b_Search_weigh 41 = .ok (.lastore, 1) := by decide +kernel
theorem d_Search_weigh_42 : decode b_Search_weigh 42 = .ok (.aload_n 0, 1) := by decide +kernel
theorem d_Search_weigh_43 : decode b_Search_weigh 43 = .ok (.getfield 39, 3) := by decide +kernel
theorem d_Search_weigh_46 : decode b_Search_weigh 46 = .ok (.iload_n 3, 1) := by decide +kernel
theorem d_Search_weigh_47 : decode b_Search_weigh 47 = .ok (.lconst 1, 1) := by decide +kernel
theorem d_Search_weigh_48 : decode b_Search_weigh 48 = .ok (.lastore, 1) := by decide +kernel
theorem d_Search_weigh_49 : decode b_Search_weigh 49 = .ok (.iinc 2 1, 3) := by decide +kernel
theorem d_Search_weigh_52 : decode b_Search_weigh 52 = .ok (.goto (-40), 3) := by decide +kernel
theorem d_Search_weigh_55 : decode b_Search_weigh 55 = .ok (.iload_n 1, 1) := by decide +kernel
theorem d_Search_weigh_56 : decode b_Search_weigh 56 = .ok (.iconst 1, 1) := by decide +kernel
theorem d_Search_weigh_57 : decode b_Search_weigh 57 = .ok (.isub, 1) := by decide +kernel
theorem d_Search_weigh_58 : decode b_Search_weigh 58 = .ok (.istore_n 2, 1) := by decide +kernel
theorem d_Search_weigh_59 : decode b_Search_weigh 59 = .ok (.iload_n 2, 1) := by decide +kernel
theorem d_Search_weigh_60 : decode b_Search_weigh 60 = .ok (.ifCond .lt 40, 3) := by decide +kernel
theorem d_Search_weigh_63 : decode b_Search_weigh 63 = .ok (.aload_n 0, 1) := by decide +kernel
theorem d_Search_weigh_64 : decode b_Search_weigh 64 = .ok (.iload_n 2, 1) := by decide +kernel
theorem d_Search_weigh_65 : decode b_Search_weigh 65 = .ok (.iconst 1, 1) := by decide +kernel
theorem d_Search_weigh_66 : decode b_Search_weigh 66 = .ok (.iadd, 1) := by decide +kernel
theorem d_Search_weigh_67 : decode b_Search_weigh 67 = .ok (.invokevirtual 172, 3) := by decide +kernel
theorem d_Search_weigh_70 : decode b_Search_weigh 70 = .ok (.iconst 0, 1) := by decide +kernel
theorem d_Search_weigh_71 : decode b_Search_weigh 71 = .ok (.istore_n 3, 1) := by decide +kernel
theorem d_Search_weigh_72 : decode b_Search_weigh 72 = .ok (.iload_n 3, 1) := by decide +kernel
theorem d_Search_weigh_73 : decode b_Search_weigh 73 = .ok (.aload_n 0, 1) := by decide +kernel
theorem d_Search_weigh_74 : decode b_Search_weigh 74 = .ok (.getfield 16, 3) := by decide +kernel
theorem d_Search_weigh_77 : decode b_Search_weigh 77 = .ok (.iload_n 2, 1) := by decide +kernel
theorem d_Search_weigh_78 : decode b_Search_weigh 78 = .ok (.iaload, 1) := by decide +kernel
theorem d_Search_weigh_79 : decode b_Search_weigh 79 = .ok (.if_icmp .ge 15, 3) := by decide +kernel
theorem d_Search_weigh_82 : decode b_Search_weigh 82 = .ok (.aload_n 0, 1) := by decide +kernel
theorem d_Search_weigh_83 : decode b_Search_weigh 83 = .ok (.iload_n 2, 1) := by decide +kernel
theorem d_Search_weigh_84 : decode b_Search_weigh 84 = .ok (.iload_n 3, 1) := by decide +kernel
theorem d_Search_weigh_85 : decode b_Search_weigh 85 = .ok (.invokevirtual 175, 3) := by decide +kernel
theorem d_Search_weigh_88 : decode b_Search_weigh 88 = .ok (.iinc 3 1, 3) := by decide +kernel
theorem d_Search_weigh_91 : decode b_Search_weigh 91 = .ok (.goto (-19), 3) := by decide +kernel
theorem d_Search_weigh_94 : decode b_Search_weigh 94 = .ok (.iinc 2 (-1), 3) := by decide +kernel
theorem d_Search_weigh_97 : decode b_Search_weigh 97 = .ok (.goto (-38), 3) := by decide +kernel
theorem d_Search_weigh_100 : decode b_Search_weigh 100 = .ok (.return_, 1) := by decide +kernel
abbrev wd_Search_weigh (kc : Nat → ClassId) (ad : Nat → Nat) (pr_size : Int32) (pr_total : Int32) (pr_perNote : Int32) (pr_mostAlike : Int32) (pr_notePrices : Nat → Int32) (pr_mustPass : Nat → Int32) (pr_movePrices : Nat → Int32) (pr_mustTurn : Nat → Int32) (pr_badClosings : Nat → Int32) (pr_badTurns : Nat → Int32) (pr_passings : Nat → Int32) (pr_strongPrices : Nat → Int32) (se_mark : Int32) (se_top : Int32) (se_closes : Int32) (se_leastCost : Int32) (se_allLines : Int64) (se_leastLines : Int64) (se_layers : Nat → Int32) (se_layerSizes : Nat → Int32) (se_nexts : Nat → Int32) (se_places : Nat → Int32) (se_restCosts : Nat → Int32) (se_restLines : Nat → Int64) (se_restLeastLines : Nat → Int64) : va_W := [((ad 13), .inr (4, [.ref (ad 1), .ref (ad 8), .ref (ad 14), .ref (ad 15), .ref (ad 16), .ref (ad 17), .ref (ad 18), .ref (ad 19), .ref (ad 20), .ref (ad 21), .ref (ad 22), .int pr_size, .int pr_total, .int pr_perNote, .int pr_mostAlike])), ((ad 15), .inl (kc 0, 360, .inl pr_notePrices)), ((ad 16), .inl (kc 1, 360, .inl pr_mustPass)), ((ad 17), .inl (kc 0, 64, .inl pr_movePrices)), ((ad 18), .inl (kc 1, 64, .inl pr_mustTurn)), ((ad 19), .inl (kc 1, 64, .inl pr_badClosings)), ((ad 20), .inl (kc 1, 512, .inl pr_badTurns)), ((ad 21), .inl (kc 1, 512, .inl pr_passings)), ((ad 22), .inl (kc 0, 768, .inl pr_strongPrices)), ((ad 23), .inr (6, [.ref (ad 1), .ref (ad 13), .ref (ad 24), .ref (ad 25), .ref (ad 26), .ref (ad 27), .ref (ad 28), .int se_mark, .ref (ad 29), .ref (ad 30), .ref (ad 31), .ref (ad 32), .ref (ad 33), .int se_top, .int se_closes, .int se_leastCost, .long se_allLines, .long se_leastLines])), ((ad 24), .inl (kc 0, 57600, .inl se_layers)), ((ad 25), .inl (kc 0, 45, .inl se_layerSizes)), ((ad 26), .inl (kc 0, 57600, .inl se_nexts)), ((ad 27), .inl (kc 0, 3072, .inl se_places)), ((ad 29), .inl (kc 0, 2560, .inl se_restCosts)), ((ad 30), .inl (kc 2, 2560, .inr (.inl se_restLines))), ((ad 31), .inl (kc 2, 2560, .inr (.inl se_restLeastLines)))]
abbrev rm_Search_weigh : Room := { frames := 3, cells := 0, slots := 0, locals := 79 }
abbrev cw_Search_weigh : Cond := .code y_Search_weigh b_Search_weigh 4 none
abbrev ws_Search_weigh : List Cond := cw_Search_weigh :: GW
theorem hd_Search_weigh : y_Search_weigh.cls ≠ "java/lang/invoke/MethodHandle" ∧ y_Search_weigh.cls ≠ "java/lang/invoke/VarHandle" ∧ (parseMethodDescriptor y_Search_weigh.desc).map (fun d => d.parameters.length) = some 0 := by decide +kernel
def m_Search_weigh_72b (F : Nat) (pr_size : Int32) (pr_total : Int32) (pr_perNote : Int32) (pr_mostAlike : Int32) (pr_notePrices : Nat → Int32) (pr_mustPass : Nat → Int32) (pr_movePrices : Nat → Int32) (pr_mustTurn : Nat → Int32) (pr_badClosings : Nat → Int32) (pr_badTurns : Nat → Int32) (pr_passings : Nat → Int32) (pr_strongPrices : Nat → Int32) (se_top : Int32) (se_closes : Int32) (se_layers : Nat → Int32) (se_layerSizes : Nat → Int32) (k59 : (Nat → Int32) → (Nat → Int32) → (Nat → Int32) → (Nat → Int64) → (Nat → Int64) → Int32 → Option ((Nat → Int32) × (Nat → Int32) × (Nat → Int32) × (Nat → Int64) × (Nat → Int64))) (k72 : (Nat → Int32) → (Nat → Int32) → (Nat → Int32) → (Nat → Int64) → (Nat → Int64) → Int32 → Int32 → Option ((Nat → Int32) × (Nat → Int32) × (Nat → Int32) × (Nat → Int64) × (Nat → Int64))) (se_nexts : Nat → Int32) (se_places : Nat → Int32) (se_restCosts : Nat → Int32) (se_restLines : Nat → Int64) (se_restLeastLines : Nat → Int64) (x2 : Int32) (x3 : Int32) : Option ((Nat → Int32) × (Nat → Int32) × (Nat → Int32) × (Nat → Int64) × (Nat → Int64)) :=
  (gd x2 45 (if (se_layerSizes (Int32.toNatClampNeg x2)) ≤ x3 then
    k59 se_nexts se_places se_restCosts se_restLines se_restLeastLines (x2 + (-1))
  else
    (bd (m_Search_weighState F pr_size pr_total pr_perNote pr_mostAlike pr_notePrices pr_mustPass pr_movePrices pr_mustTurn pr_badClosings pr_badTurns pr_passings pr_strongPrices se_top se_closes se_layers se_places se_nexts se_restCosts se_restLines se_restLeastLines x2 x3) (fun u3 => k72 u3.1 se_places u3.2.1 u3.2.2.1 u3.2.2.2 x2 (x3 + 1)))))
set_option maxHeartbeats 4000000 in
set_option maxRecDepth 100000 in
theorem l_Search_weigh_72 {r : (Nat → Int32) × (Nat → Int32) × (Nat → Int32) × (Nat → Int64) × (Nat → Int64)} {F : Nat} {ad : Nat → Nat} {pr_size : Int32} {pr_total : Int32} {pr_perNote : Int32} {pr_mostAlike : Int32} {pr_notePrices : Nat → Int32} {pr_mustPass : Nat → Int32} {pr_movePrices : Nat → Int32} {pr_mustTurn : Nat → Int32} {pr_badClosings : Nat → Int32} {pr_badTurns : Nat → Int32} {pr_passings : Nat → Int32} {pr_strongPrices : Nat → Int32} {se_mark : Int32} {se_top : Int32} {se_closes : Int32} {se_leastCost : Int32} {se_allLines : Int64} {se_leastLines : Int64} {se_layers : Nat → Int32} {se_layerSizes : Nat → Int32} {se_nexts : Nat → Int32} {se_places : Nat → Int32} {se_restCosts : Nat → Int32} {se_restLines : Nat → Int64} {se_restLeastLines : Nat → Int64} {k59 : (Nat → Int32) → (Nat → Int32) → (Nat → Int32) → (Nat → Int64) → (Nat → Int64) → Int32 → Option ((Nat → Int32) × (Nat → Int32) × (Nat → Int32) × (Nat → Int64) × (Nat → Int64))} {k72 : (Nat → Int32) → (Nat → Int32) → (Nat → Int32) → (Nat → Int64) → (Nat → Int64) → Int32 → Int32 → Option ((Nat → Int32) × (Nat → Int32) × (Nat → Int32) × (Nat → Int64) × (Nat → Int64))} {x2 : Int32} {x3 : Int32} {H : Heap} {locs : List Loc} {ls : Array Slot} (C : Cx p s m meth c args A D kc R_Search b_Search_weigh 4 none) (hk59 : (∀ (se_nexts : Nat → Int32) (se_places : Nat → Int32) (se_restCosts : Nat → Int32) (se_restLines : Nat → Int64) (se_restLeastLines : Nat → Int64) (x2 : Int32) (H : Heap) (locs : List Loc) (ls : Array Slot), k59 se_nexts se_places se_restCosts se_restLines se_restLeastLines x2 = some r → St D A s (wd_Search_weigh kc ad pr_size pr_total pr_perNote pr_mostAlike pr_notePrices pr_mustPass pr_movePrices pr_mustTurn pr_badClosings pr_badTurns pr_passings pr_strongPrices se_mark se_top se_closes se_leastCost se_allLines se_leastLines se_layers se_layerSizes se_nexts se_places se_restCosts se_restLines se_restLeastLines) H locs → lv_has ls 4 [(0, .ref (ad 23)), (2, .int x2)] → W p l e rm_Search_weigh s m args below meth c H locs 0 0 (MQ below (Qv D A (wd_Search_weigh kc ad pr_size pr_total pr_perNote pr_mostAlike pr_notePrices pr_mustPass pr_movePrices pr_mustTurn pr_badClosings pr_badTurns pr_passings pr_strongPrices se_mark se_top se_closes se_leastCost se_allLines se_leastLines se_layers se_layerSizes r.1 r.2.1 r.2.2.1 r.2.2.2.1 r.2.2.2.2)) args s 0 0 A) (F0 m 59 ls []))) (hk72 : (∀ (se_nexts : Nat → Int32) (se_places : Nat → Int32) (se_restCosts : Nat → Int32) (se_restLines : Nat → Int64) (se_restLeastLines : Nat → Int64) (x2 : Int32) (x3 : Int32) (H : Heap) (locs : List Loc) (ls : Array Slot), k72 se_nexts se_places se_restCosts se_restLines se_restLeastLines x2 x3 = some r → St D A s (wd_Search_weigh kc ad pr_size pr_total pr_perNote pr_mostAlike pr_notePrices pr_mustPass pr_movePrices pr_mustTurn pr_badClosings pr_badTurns pr_passings pr_strongPrices se_mark se_top se_closes se_leastCost se_allLines se_leastLines se_layers se_layerSizes se_nexts se_places se_restCosts se_restLines se_restLeastLines) H locs → lv_has ls 4 [(0, .ref (ad 23)), (2, .int x2), (3, .int x3)] → W p l e rm_Search_weigh s m args below meth c H locs 0 0 (MQ below (Qv D A (wd_Search_weigh kc ad pr_size pr_total pr_perNote pr_mostAlike pr_notePrices pr_mustPass pr_movePrices pr_mustTurn pr_badClosings pr_badTurns pr_passings pr_strongPrices se_mark se_top se_closes se_leastCost se_allLines se_leastLines se_layers se_layerSizes r.1 r.2.1 r.2.2.1 r.2.2.2.1 r.2.2.2.2)) args s 0 0 A) (F0 m 72 ls []))) (hm : m_Search_weigh_72b F pr_size pr_total pr_perNote pr_mostAlike pr_notePrices pr_mustPass pr_movePrices pr_mustTurn pr_badClosings pr_badTurns pr_passings pr_strongPrices se_top se_closes se_layers se_layerSizes k59 k72 se_nexts se_places se_restCosts se_restLines se_restLeastLines x2 x3 = some r) (hZ : St D A s (wd_Search_weigh kc ad pr_size pr_total pr_perNote pr_mostAlike pr_notePrices pr_mustPass pr_movePrices pr_mustTurn pr_badClosings pr_badTurns pr_passings pr_strongPrices se_mark se_top se_closes se_leastCost se_allLines se_leastLines se_layers se_layerSizes se_nexts se_places se_restCosts se_restLines se_restLeastLines) H locs) (hl : lv_has ls 4 [(0, .ref (ad 23)), (2, .int x2), (3, .int x3)]) : W p l e rm_Search_weigh s m args below meth c H locs 0 0 (MQ below (Qv D A (wd_Search_weigh kc ad pr_size pr_total pr_perNote pr_mostAlike pr_notePrices pr_mustPass pr_movePrices pr_mustTurn pr_badClosings pr_badTurns pr_passings pr_strongPrices se_mark se_top se_closes se_leastCost se_allLines se_leastLines se_layers se_layerSizes r.1 r.2.1 r.2.2.1 r.2.2.2.1 r.2.2.2.2)) args s 0 0 A) (F0 m 72 ls []) := by
  obtain ⟨hx, hb, hr, hts, hown, hml, hlocks, hK, hN, hA, hX⟩ := id C
  obtain ⟨hP, hD, hS⟩ := hZ
  unfold m_Search_weigh_72b at hm
  refine lv_iload_n hx hb d_Search_weigh_72 rfl (lv_at hl 2 rfl) ?_
  refine lv_aload_n hx hb d_Search_weigh_73 rfl (lv_at hl 0 rfl) ?_
  refine va_get (D := D) (ci := 6) (v := .ref (ad 25)) (C := R_Search) (T := T_Search) (N := 18) hx hb hts inG_Search hown hK hP 9 rfl rfl 3 (by decide) (hts _ gw_312) (fun _ h9 => h9) rfl d_Search_weigh_74 ?_
  refine lv_iload_n hx hb d_Search_weigh_77 rfl (lv_at hl 1 rfl) ?_
  obtain ⟨hi1, hm⟩ := gd_some hm
  refine va_iald hx hb hK hP 11 0 rfl rfl hi1 d_Search_weigh_78 ?_
  refine lv_icmp_ge (tgt := 94) hx hb d_Search_weigh_79 (by decide) (fun c2 => ?_) (fun c2 => ?_)
  · replace hm := ifT hm c2
    refine lv_iinc (v := (x2 + (-1))) (lv' := [(2, .int (x2 + (-1))), (0, .ref (ad 23)), (3, .int x3)]) hx hb d_Search_weigh_94 hl (k := 1) rfl rfl (by decide) rfl (fun ls hl => ?_)
    refine lv_goto (tgt := 59) hx hb d_Search_weigh_97 (by decide) ?_
    exact hk59 se_nexts se_places se_restCosts se_restLines se_restLeastLines (x2 + (-1)) _ _ _ hm ⟨hP, hD, hS⟩ (lv_sub hl [1, 0] rfl)
  · replace hm := ifF hm c2
    refine lv_aload_n hx hb d_Search_weigh_82 rfl (lv_at hl 0 rfl) ?_
    refine lv_iload_n hx hb d_Search_weigh_83 rfl (lv_at hl 1 rfl) ?_
    refine lv_iload_n hx hb d_Search_weigh_84 rfl (lv_at hl 2 rfl) ?_
    obtain ⟨u3, hc4, hm⟩ := bd_some hm
    refine zV_v (n := 2) (wr := [((ad 25), .inl (kc 0, 45, .inl se_layerSizes))]) (w1 := (wd_Search_weighState kc ad pr_size pr_total pr_perNote pr_mostAlike pr_notePrices pr_mustPass pr_movePrices pr_mustTurn pr_badClosings pr_badTurns pr_passings pr_strongPrices se_mark se_top se_closes se_leastCost se_allLines se_leastLines se_layers u3.1 se_places u3.2.1 u3.2.2.1 u3.2.2.2)) (ws1 := (wd_Search_weigh kc ad pr_size pr_total pr_perNote pr_mostAlike pr_notePrices pr_mustPass pr_movePrices pr_mustTurn pr_badClosings pr_badTurns pr_passings pr_strongPrices se_mark se_top se_closes se_leastCost se_allLines se_leastLines se_layers se_layerSizes u3.1 se_places u3.2.1 u3.2.2.1 u3.2.2.2)) (As := [.int x2, .int x3]) (rest := []) (ci := 6) (q0 := 9) (y := y_Search_weighState) ⟨hx, hb, hml, hown, hts⟩ (fun sz => c_Search_weighState hc4 sz) gw_678 gw_675 gw_677 gw_54 gw_117 hd_Search_weighState ⟨Nat.le_of_ble_eq_true rfl, Nat.le_of_ble_eq_true rfl⟩ ⟨rfl, rfl⟩ ⟨Nat.zero_le _, Nat.zero_le _⟩ hK hN hP hD hS hA hX [0, 1, 2, 3, 4, 5, 6, 7, 8, 9, 10, 12, 13, 14, 15, 16] [11] [1, 2, 3, 4, 5, 6, 7, 8, 9, 10, 11, 0, 12, 13, 14, 15, 16] rfl rfl (by decide) (by decide) (by decide) rfl (by decide) rfl rfl rfl hl.1 rfl (Nat.le_of_ble_eq_true rfl) d_Search_weigh_85 (fun H locs hP hD hS => ?_)
    refine lv_iinc (v := (x3 + 1)) (lv' := [(3, .int (x3 + 1)), (0, .ref (ad 23)), (2, .int x2)]) hx hb d_Search_weigh_88 hl (k := 2) rfl rfl (by decide) rfl (fun ls hl => ?_)
    refine lv_goto (tgt := 72) hx hb d_Search_weigh_91 (by decide) ?_
    exact hk72 u3.1 se_places u3.2.1 u3.2.2.1 u3.2.2.2 x2 (x3 + 1) _ _ _ hm ⟨hP, hD, hS⟩ (lv_sub hl [1, 2, 0] rfl)
def m_Search_weigh_72 (F : Nat) (pr_size : Int32) (pr_total : Int32) (pr_perNote : Int32) (pr_mostAlike : Int32) (pr_notePrices : Nat → Int32) (pr_mustPass : Nat → Int32) (pr_movePrices : Nat → Int32) (pr_mustTurn : Nat → Int32) (pr_badClosings : Nat → Int32) (pr_badTurns : Nat → Int32) (pr_passings : Nat → Int32) (pr_strongPrices : Nat → Int32) (se_top : Int32) (se_closes : Int32) (se_layers : Nat → Int32) (se_layerSizes : Nat → Int32) (k59 : (Nat → Int32) → (Nat → Int32) → (Nat → Int32) → (Nat → Int64) → (Nat → Int64) → Int32 → Option ((Nat → Int32) × (Nat → Int32) × (Nat → Int32) × (Nat → Int64) × (Nat → Int64))) : Nat → (Nat → Int32) → (Nat → Int32) → (Nat → Int32) → (Nat → Int64) → (Nat → Int64) → Int32 → Int32 → Option ((Nat → Int32) × (Nat → Int32) × (Nat → Int32) × (Nat → Int64) × (Nat → Int64))
  | 0 => fun _ _ _ _ _ _ _ => none
  | n + 1 => m_Search_weigh_72b F pr_size pr_total pr_perNote pr_mostAlike pr_notePrices pr_mustPass pr_movePrices pr_mustTurn pr_badClosings pr_badTurns pr_passings pr_strongPrices se_top se_closes se_layers se_layerSizes k59 (m_Search_weigh_72 F pr_size pr_total pr_perNote pr_mostAlike pr_notePrices pr_mustPass pr_movePrices pr_mustTurn pr_badClosings pr_badTurns pr_passings pr_strongPrices se_top se_closes se_layers se_layerSizes k59 n)
set_option maxHeartbeats 4000000 in
set_option maxRecDepth 100000 in
theorem lp_Search_weigh_72 {r : (Nat → Int32) × (Nat → Int32) × (Nat → Int32) × (Nat → Int64) × (Nat → Int64)} {F : Nat} {ad : Nat → Nat} {pr_size : Int32} {pr_total : Int32} {pr_perNote : Int32} {pr_mostAlike : Int32} {pr_notePrices : Nat → Int32} {pr_mustPass : Nat → Int32} {pr_movePrices : Nat → Int32} {pr_mustTurn : Nat → Int32} {pr_badClosings : Nat → Int32} {pr_badTurns : Nat → Int32} {pr_passings : Nat → Int32} {pr_strongPrices : Nat → Int32} {se_mark : Int32} {se_top : Int32} {se_closes : Int32} {se_leastCost : Int32} {se_allLines : Int64} {se_leastLines : Int64} {se_layers : Nat → Int32} {se_layerSizes : Nat → Int32} {k59 : (Nat → Int32) → (Nat → Int32) → (Nat → Int32) → (Nat → Int64) → (Nat → Int64) → Int32 → Option ((Nat → Int32) × (Nat → Int32) × (Nat → Int32) × (Nat → Int64) × (Nat → Int64))} (C : Cx p s m meth c args A D kc R_Search b_Search_weigh 4 none) (hk59 : (∀ (se_nexts : Nat → Int32) (se_places : Nat → Int32) (se_restCosts : Nat → Int32) (se_restLines : Nat → Int64) (se_restLeastLines : Nat → Int64) (x2 : Int32) (H : Heap) (locs : List Loc) (ls : Array Slot), k59 se_nexts se_places se_restCosts se_restLines se_restLeastLines x2 = some r → St D A s (wd_Search_weigh kc ad pr_size pr_total pr_perNote pr_mostAlike pr_notePrices pr_mustPass pr_movePrices pr_mustTurn pr_badClosings pr_badTurns pr_passings pr_strongPrices se_mark se_top se_closes se_leastCost se_allLines se_leastLines se_layers se_layerSizes se_nexts se_places se_restCosts se_restLines se_restLeastLines) H locs → lv_has ls 4 [(0, .ref (ad 23)), (2, .int x2)] → W p l e rm_Search_weigh s m args below meth c H locs 0 0 (MQ below (Qv D A (wd_Search_weigh kc ad pr_size pr_total pr_perNote pr_mostAlike pr_notePrices pr_mustPass pr_movePrices pr_mustTurn pr_badClosings pr_badTurns pr_passings pr_strongPrices se_mark se_top se_closes se_leastCost se_allLines se_leastLines se_layers se_layerSizes r.1 r.2.1 r.2.2.1 r.2.2.2.1 r.2.2.2.2)) args s 0 0 A) (F0 m 59 ls []))) : ∀ (n : Nat) (se_nexts : Nat → Int32) (se_places : Nat → Int32) (se_restCosts : Nat → Int32) (se_restLines : Nat → Int64) (se_restLeastLines : Nat → Int64) (x2 : Int32) (x3 : Int32) (H : Heap) (locs : List Loc) (ls : Array Slot), m_Search_weigh_72 F pr_size pr_total pr_perNote pr_mostAlike pr_notePrices pr_mustPass pr_movePrices pr_mustTurn pr_badClosings pr_badTurns pr_passings pr_strongPrices se_top se_closes se_layers se_layerSizes k59 n se_nexts se_places se_restCosts se_restLines se_restLeastLines x2 x3 = some r → St D A s (wd_Search_weigh kc ad pr_size pr_total pr_perNote pr_mostAlike pr_notePrices pr_mustPass pr_movePrices pr_mustTurn pr_badClosings pr_badTurns pr_passings pr_strongPrices se_mark se_top se_closes se_leastCost se_allLines se_leastLines se_layers se_layerSizes se_nexts se_places se_restCosts se_restLines se_restLeastLines) H locs → lv_has ls 4 [(0, .ref (ad 23)), (2, .int x2), (3, .int x3)] → W p l e rm_Search_weigh s m args below meth c H locs 0 0 (MQ below (Qv D A (wd_Search_weigh kc ad pr_size pr_total pr_perNote pr_mostAlike pr_notePrices pr_mustPass pr_movePrices pr_mustTurn pr_badClosings pr_badTurns pr_passings pr_strongPrices se_mark se_top se_closes se_leastCost se_allLines se_leastLines se_layers se_layerSizes r.1 r.2.1 r.2.2.1 r.2.2.2.1 r.2.2.2.2)) args s 0 0 A) (F0 m 72 ls []) := by
  intro n
  induction n with
  | zero => intro se_nexts se_places se_restCosts se_restLines se_restLeastLines x2 x3 H locs ls hm; cases hm
  | succ n ih => intro se_nexts se_places se_restCosts se_restLines se_restLeastLines x2 x3 H locs ls hm hZ hl; exact l_Search_weigh_72 C hk59 ih hm hZ hl
def m_Search_weigh_59b (F : Nat) (pr_size : Int32) (pr_total : Int32) (pr_perNote : Int32) (pr_mostAlike : Int32) (pr_notePrices : Nat → Int32) (pr_mustPass : Nat → Int32) (pr_movePrices : Nat → Int32) (pr_mustTurn : Nat → Int32) (pr_badClosings : Nat → Int32) (pr_badTurns : Nat → Int32) (pr_passings : Nat → Int32) (pr_strongPrices : Nat → Int32) (se_top : Int32) (se_closes : Int32) (se_layers : Nat → Int32) (se_layerSizes : Nat → Int32) (k59 : (Nat → Int32) → (Nat → Int32) → (Nat → Int32) → (Nat → Int64) → (Nat → Int64) → Int32 → Option ((Nat → Int32) × (Nat → Int32) × (Nat → Int32) × (Nat → Int64) × (Nat → Int64))) (se_nexts : Nat → Int32) (se_places : Nat → Int32) (se_restCosts : Nat → Int32) (se_restLines : Nat → Int64) (se_restLeastLines : Nat → Int64) (x2 : Int32) : Option ((Nat → Int32) × (Nat → Int32) × (Nat → Int32) × (Nat → Int64) × (Nat → Int64)) :=
  (if x2 < (0 : Int32) then
    (some (se_nexts, se_places, se_restCosts, se_restLines, se_restLeastLines))
  else
    (bd (m_Search_writePlaces F se_layers se_layerSizes se_places (x2 + (1 : Int32))) (fun u2 => m_Search_weigh_72 F pr_size pr_total pr_perNote pr_mostAlike pr_notePrices pr_mustPass pr_movePrices pr_mustTurn pr_badClosings pr_badTurns pr_passings pr_strongPrices se_top se_closes se_layers se_layerSizes k59 F se_nexts u2 se_restCosts se_restLines se_restLeastLines x2 (0 : Int32))))
set_option maxHeartbeats 4000000 in
set_option maxRecDepth 100000 in
theorem l_Search_weigh_59 {r : (Nat → Int32) × (Nat → Int32) × (Nat → Int32) × (Nat → Int64) × (Nat → Int64)} {F : Nat} {ad : Nat → Nat} {pr_size : Int32} {pr_total : Int32} {pr_perNote : Int32} {pr_mostAlike : Int32} {pr_notePrices : Nat → Int32} {pr_mustPass : Nat → Int32} {pr_movePrices : Nat → Int32} {pr_mustTurn : Nat → Int32} {pr_badClosings : Nat → Int32} {pr_badTurns : Nat → Int32} {pr_passings : Nat → Int32} {pr_strongPrices : Nat → Int32} {se_mark : Int32} {se_top : Int32} {se_closes : Int32} {se_leastCost : Int32} {se_allLines : Int64} {se_leastLines : Int64} {se_layers : Nat → Int32} {se_layerSizes : Nat → Int32} {se_nexts : Nat → Int32} {se_places : Nat → Int32} {se_restCosts : Nat → Int32} {se_restLines : Nat → Int64} {se_restLeastLines : Nat → Int64} {k59 : (Nat → Int32) → (Nat → Int32) → (Nat → Int32) → (Nat → Int64) → (Nat → Int64) → Int32 → Option ((Nat → Int32) × (Nat → Int32) × (Nat → Int32) × (Nat → Int64) × (Nat → Int64))} {x2 : Int32} {H : Heap} {locs : List Loc} {ls : Array Slot} (C : Cx p s m meth c args A D kc R_Search b_Search_weigh 4 none) (hk59 : (∀ (se_nexts : Nat → Int32) (se_places : Nat → Int32) (se_restCosts : Nat → Int32) (se_restLines : Nat → Int64) (se_restLeastLines : Nat → Int64) (x2 : Int32) (H : Heap) (locs : List Loc) (ls : Array Slot), k59 se_nexts se_places se_restCosts se_restLines se_restLeastLines x2 = some r → St D A s (wd_Search_weigh kc ad pr_size pr_total pr_perNote pr_mostAlike pr_notePrices pr_mustPass pr_movePrices pr_mustTurn pr_badClosings pr_badTurns pr_passings pr_strongPrices se_mark se_top se_closes se_leastCost se_allLines se_leastLines se_layers se_layerSizes se_nexts se_places se_restCosts se_restLines se_restLeastLines) H locs → lv_has ls 4 [(0, .ref (ad 23)), (2, .int x2)] → W p l e rm_Search_weigh s m args below meth c H locs 0 0 (MQ below (Qv D A (wd_Search_weigh kc ad pr_size pr_total pr_perNote pr_mostAlike pr_notePrices pr_mustPass pr_movePrices pr_mustTurn pr_badClosings pr_badTurns pr_passings pr_strongPrices se_mark se_top se_closes se_leastCost se_allLines se_leastLines se_layers se_layerSizes r.1 r.2.1 r.2.2.1 r.2.2.2.1 r.2.2.2.2)) args s 0 0 A) (F0 m 59 ls []))) (hm : m_Search_weigh_59b F pr_size pr_total pr_perNote pr_mostAlike pr_notePrices pr_mustPass pr_movePrices pr_mustTurn pr_badClosings pr_badTurns pr_passings pr_strongPrices se_top se_closes se_layers se_layerSizes k59 se_nexts se_places se_restCosts se_restLines se_restLeastLines x2 = some r) (hZ : St D A s (wd_Search_weigh kc ad pr_size pr_total pr_perNote pr_mostAlike pr_notePrices pr_mustPass pr_movePrices pr_mustTurn pr_badClosings pr_badTurns pr_passings pr_strongPrices se_mark se_top se_closes se_leastCost se_allLines se_leastLines se_layers se_layerSizes se_nexts se_places se_restCosts se_restLines se_restLeastLines) H locs) (hl : lv_has ls 4 [(0, .ref (ad 23)), (2, .int x2)]) : W p l e rm_Search_weigh s m args below meth c H locs 0 0 (MQ below (Qv D A (wd_Search_weigh kc ad pr_size pr_total pr_perNote pr_mostAlike pr_notePrices pr_mustPass pr_movePrices pr_mustTurn pr_badClosings pr_badTurns pr_passings pr_strongPrices se_mark se_top se_closes se_leastCost se_allLines se_leastLines se_layers se_layerSizes r.1 r.2.1 r.2.2.1 r.2.2.2.1 r.2.2.2.2)) args s 0 0 A) (F0 m 59 ls []) := by
  obtain ⟨hx, hb, hr, hts, hown, hml, hlocks, hK, hN, hA, hX⟩ := id C
  obtain ⟨hP, hD, hS⟩ := hZ
  unfold m_Search_weigh_59b at hm
  refine lv_iload_n hx hb d_Search_weigh_59 rfl (lv_at hl 1 rfl) ?_
  refine lv_if_lt (tgt := 100) hx hb d_Search_weigh_60 (by decide) (fun c1 => ?_) (fun c1 => ?_)
  · replace hm := ifT hm c1
    replace hm := Option.some.inj hm; subst hm
    exact zret_v C hP hD hS d_Search_weigh_100
  · replace hm := ifF hm c1
    refine lv_aload_n hx hb d_Search_weigh_63 rfl (lv_at hl 0 rfl) ?_
    refine lv_iload_n hx hb d_Search_weigh_64 rfl (lv_at hl 1 rfl) ?_
    refine lv_iconst (v := 1) hx hb d_Search_weigh_65 (by decide) ?_
    refine lv_iadd hx hb d_Search_weigh_66 ?_
    obtain ⟨u2, hc3, hm⟩ := bd_some hm
    refine zV_v (n := 1) (wr := [((ad 13), .inr (4, [.ref (ad 1), .ref (ad 8), .ref (ad 14), .ref (ad 15), .ref (ad 16), .ref (ad 17), .ref (ad 18), .ref (ad 19), .ref (ad 20), .ref (ad 21), .ref (ad 22), .int pr_size, .int pr_total, .int pr_perNote, .int pr_mostAlike])), ((ad 15), .inl (kc 0, 360, .inl pr_notePrices)), ((ad 16), .inl (kc 1, 360, .inl pr_mustPass)), ((ad 17), .inl (kc 0, 64, .inl pr_movePrices)), ((ad 18), .inl (kc 1, 64, .inl pr_mustTurn)), ((ad 19), .inl (kc 1, 64, .inl pr_badClosings)), ((ad 20), .inl (kc 1, 512, .inl pr_badTurns)), ((ad 21), .inl (kc 1, 512, .inl pr_passings)), ((ad 22), .inl (kc 0, 768, .inl pr_strongPrices)), ((ad 26), .inl (kc 0, 57600, .inl se_nexts)), ((ad 29), .inl (kc 0, 2560, .inl se_restCosts)), ((ad 30), .inl (kc 2, 2560, .inr (.inl se_restLines))), ((ad 31), .inl (kc 2, 2560, .inr (.inl se_restLeastLines)))]) (w1 := (wd_Search_writePlaces kc ad se_mark se_top se_closes se_leastCost se_allLines se_leastLines se_layers se_layerSizes u2)) (ws1 := (wd_Search_weigh kc ad pr_size pr_total pr_perNote pr_mostAlike pr_notePrices pr_mustPass pr_movePrices pr_mustTurn pr_badClosings pr_badTurns pr_passings pr_strongPrices se_mark se_top se_closes se_leastCost se_allLines se_leastLines se_layers se_layerSizes se_nexts u2 se_restCosts se_restLines se_restLeastLines)) (As := [.int (x2 + (1 : Int32))]) (rest := []) (ci := 6) (q0 := 0) (y := y_Search_writePlaces) ⟨hx, hb, hml, hown, hts⟩ (fun sz => c_Search_writePlaces hc3 sz) gw_674 gw_671 gw_673 gw_53 gw_117 hd_Search_writePlaces ⟨Nat.le_of_ble_eq_true rfl, Nat.le_of_ble_eq_true rfl⟩ ⟨rfl, rfl⟩ ⟨Nat.zero_le _, Nat.zero_le _⟩ hK hN hP hD hS hA hX [9, 10, 11, 13] [0, 1, 2, 3, 4, 5, 6, 7, 8, 12, 14, 15, 16] [0, 1, 2, 3, 4, 5, 6, 7, 8, 13, 14, 15, 9, 16, 10, 11, 12] rfl rfl (by decide) (by decide) (by decide) rfl (by decide) rfl rfl rfl hl.1 rfl (Nat.le_of_ble_eq_true rfl) d_Search_weigh_67 (fun H locs hP hD hS => ?_)
    refine lv_iconst (v := 0) hx hb d_Search_weigh_70 (by decide) ?_
    refine lv_istore_n (lv' := [(3, .int (0 : Int32)), (0, .ref (ad 23)), (2, .int x2)]) hx hb d_Search_weigh_71 rfl hl (by decide) rfl (fun ls hl => ?_)
    exact lp_Search_weigh_72 C hk59 F se_nexts u2 se_restCosts se_restLines se_restLeastLines x2 (0 : Int32) _ _ _ hm ⟨hP, hD, hS⟩ (lv_sub hl [1, 2, 0] rfl)
def m_Search_weigh_59 (F : Nat) (pr_size : Int32) (pr_total : Int32) (pr_perNote : Int32) (pr_mostAlike : Int32) (pr_notePrices : Nat → Int32) (pr_mustPass : Nat → Int32) (pr_movePrices : Nat → Int32) (pr_mustTurn : Nat → Int32) (pr_badClosings : Nat → Int32) (pr_badTurns : Nat → Int32) (pr_passings : Nat → Int32) (pr_strongPrices : Nat → Int32) (se_top : Int32) (se_closes : Int32) (se_layers : Nat → Int32) (se_layerSizes : Nat → Int32)  : Nat → (Nat → Int32) → (Nat → Int32) → (Nat → Int32) → (Nat → Int64) → (Nat → Int64) → Int32 → Option ((Nat → Int32) × (Nat → Int32) × (Nat → Int32) × (Nat → Int64) × (Nat → Int64))
  | 0 => fun _ _ _ _ _ _ => none
  | n + 1 => m_Search_weigh_59b F pr_size pr_total pr_perNote pr_mostAlike pr_notePrices pr_mustPass pr_movePrices pr_mustTurn pr_badClosings pr_badTurns pr_passings pr_strongPrices se_top se_closes se_layers se_layerSizes  (m_Search_weigh_59 F pr_size pr_total pr_perNote pr_mostAlike pr_notePrices pr_mustPass pr_movePrices pr_mustTurn pr_badClosings pr_badTurns pr_passings pr_strongPrices se_top se_closes se_layers se_layerSizes  n)
set_option maxHeartbeats 4000000 in
set_option maxRecDepth 100000 in
theorem lp_Search_weigh_59 {r : (Nat → Int32) × (Nat → Int32) × (Nat → Int32) × (Nat → Int64) × (Nat → Int64)} {F : Nat} {ad : Nat → Nat} {pr_size : Int32} {pr_total : Int32} {pr_perNote : Int32} {pr_mostAlike : Int32} {pr_notePrices : Nat → Int32} {pr_mustPass : Nat → Int32} {pr_movePrices : Nat → Int32} {pr_mustTurn : Nat → Int32} {pr_badClosings : Nat → Int32} {pr_badTurns : Nat → Int32} {pr_passings : Nat → Int32} {pr_strongPrices : Nat → Int32} {se_mark : Int32} {se_top : Int32} {se_closes : Int32} {se_leastCost : Int32} {se_allLines : Int64} {se_leastLines : Int64} {se_layers : Nat → Int32} {se_layerSizes : Nat → Int32}  (C : Cx p s m meth c args A D kc R_Search b_Search_weigh 4 none)  : ∀ (n : Nat) (se_nexts : Nat → Int32) (se_places : Nat → Int32) (se_restCosts : Nat → Int32) (se_restLines : Nat → Int64) (se_restLeastLines : Nat → Int64) (x2 : Int32) (H : Heap) (locs : List Loc) (ls : Array Slot), m_Search_weigh_59 F pr_size pr_total pr_perNote pr_mostAlike pr_notePrices pr_mustPass pr_movePrices pr_mustTurn pr_badClosings pr_badTurns pr_passings pr_strongPrices se_top se_closes se_layers se_layerSizes  n se_nexts se_places se_restCosts se_restLines se_restLeastLines x2 = some r → St D A s (wd_Search_weigh kc ad pr_size pr_total pr_perNote pr_mostAlike pr_notePrices pr_mustPass pr_movePrices pr_mustTurn pr_badClosings pr_badTurns pr_passings pr_strongPrices se_mark se_top se_closes se_leastCost se_allLines se_leastLines se_layers se_layerSizes se_nexts se_places se_restCosts se_restLines se_restLeastLines) H locs → lv_has ls 4 [(0, .ref (ad 23)), (2, .int x2)] → W p l e rm_Search_weigh s m args below meth c H locs 0 0 (MQ below (Qv D A (wd_Search_weigh kc ad pr_size pr_total pr_perNote pr_mostAlike pr_notePrices pr_mustPass pr_movePrices pr_mustTurn pr_badClosings pr_badTurns pr_passings pr_strongPrices se_mark se_top se_closes se_leastCost se_allLines se_leastLines se_layers se_layerSizes r.1 r.2.1 r.2.2.1 r.2.2.2.1 r.2.2.2.2)) args s 0 0 A) (F0 m 59 ls []) := by
  intro n
  induction n with
  | zero => intro se_nexts se_places se_restCosts se_restLines se_restLeastLines x2 H locs ls hm; cases hm
  | succ n ih => intro se_nexts se_places se_restCosts se_restLines se_restLeastLines x2 H locs ls hm hZ hl; exact l_Search_weigh_59 C  ih hm hZ hl
def m_Search_weigh_12b (F : Nat) (pr_size : Int32) (pr_total : Int32) (pr_perNote : Int32) (pr_mostAlike : Int32) (pr_notePrices : Nat → Int32) (pr_mustPass : Nat → Int32) (pr_movePrices : Nat → Int32) (pr_mustTurn : Nat → Int32) (pr_badClosings : Nat → Int32) (pr_badTurns : Nat → Int32) (pr_passings : Nat → Int32) (pr_strongPrices : Nat → Int32) (se_top : Int32) (se_closes : Int32) (se_layers : Nat → Int32) (se_layerSizes : Nat → Int32) (k12 : (Nat → Int32) → (Nat → Int32) → (Nat → Int32) → (Nat → Int64) → (Nat → Int64) → Int32 → Int32 → Option ((Nat → Int32) × (Nat → Int32) × (Nat → Int32) × (Nat → Int64) × (Nat → Int64))) (se_nexts : Nat → Int32) (se_places : Nat → Int32) (se_restCosts : Nat → Int32) (se_restLines : Nat → Int64) (se_restLeastLines : Nat → Int64) (x1 : Int32) (x2 : Int32) : Option ((Nat → Int32) × (Nat → Int32) × (Nat → Int32) × (Nat → Int64) × (Nat → Int64)) :=
  (gd x1 45 (if (se_layerSizes (Int32.toNatClampNeg x1)) ≤ x2 then
    m_Search_weigh_59 F pr_size pr_total pr_perNote pr_mostAlike pr_notePrices pr_mustPass pr_movePrices pr_mustTurn pr_badClosings pr_badTurns pr_passings pr_strongPrices se_top se_closes se_layers se_layerSizes  F se_nexts se_places se_restCosts se_restLines se_restLeastLines (x1 - (1 : Int32))
  else
    (bd (m_Search_restAt x1 x2) (fun u3 => (gd u3 2560 (gd u3 2560 (gd u3 2560 (k12 se_nexts se_places (upd se_restCosts (Int32.toNatClampNeg u3) (0 : Int32)) (vp_updL se_restLines (Int32.toNatClampNeg u3) (1 : Int64)) (vp_updL se_restLeastLines (Int32.toNatClampNeg u3) (1 : Int64)) x1 (x2 + 1)))))))))
set_option maxHeartbeats 4000000 in
set_option maxRecDepth 100000 in
theorem l_Search_weigh_12 {r : (Nat → Int32) × (Nat → Int32) × (Nat → Int32) × (Nat → Int64) × (Nat → Int64)} {F : Nat} {ad : Nat → Nat} {pr_size : Int32} {pr_total : Int32} {pr_perNote : Int32} {pr_mostAlike : Int32} {pr_notePrices : Nat → Int32} {pr_mustPass : Nat → Int32} {pr_movePrices : Nat → Int32} {pr_mustTurn : Nat → Int32} {pr_badClosings : Nat → Int32} {pr_badTurns : Nat → Int32} {pr_passings : Nat → Int32} {pr_strongPrices : Nat → Int32} {se_mark : Int32} {se_top : Int32} {se_closes : Int32} {se_leastCost : Int32} {se_allLines : Int64} {se_leastLines : Int64} {se_layers : Nat → Int32} {se_layerSizes : Nat → Int32} {se_nexts : Nat → Int32} {se_places : Nat → Int32} {se_restCosts : Nat → Int32} {se_restLines : Nat → Int64} {se_restLeastLines : Nat → Int64} {k12 : (Nat → Int32) → (Nat → Int32) → (Nat → Int32) → (Nat → Int64) → (Nat → Int64) → Int32 → Int32 → Option ((Nat → Int32) × (Nat → Int32) × (Nat → Int32) × (Nat → Int64) × (Nat → Int64))} {x1 : Int32} {x2 : Int32} {H : Heap} {locs : List Loc} {ls : Array Slot} (C : Cx p s m meth c args A D kc R_Search b_Search_weigh 4 none) (hk12 : (∀ (se_nexts : Nat → Int32) (se_places : Nat → Int32) (se_restCosts : Nat → Int32) (se_restLines : Nat → Int64) (se_restLeastLines : Nat → Int64) (x1 : Int32) (x2 : Int32) (H : Heap) (locs : List Loc) (ls : Array Slot), k12 se_nexts se_places se_restCosts se_restLines se_restLeastLines x1 x2 = some r → St D A s (wd_Search_weigh kc ad pr_size pr_total pr_perNote pr_mostAlike pr_notePrices pr_mustPass pr_movePrices pr_mustTurn pr_badClosings pr_badTurns pr_passings pr_strongPrices se_mark se_top se_closes se_leastCost se_allLines se_leastLines se_layers se_layerSizes se_nexts se_places se_restCosts se_restLines se_restLeastLines) H locs → lv_has ls 4 [(0, .ref (ad 23)), (1, .int x1), (2, .int x2)] → W p l e rm_Search_weigh s m args below meth c H locs 0 0 (MQ below (Qv D A (wd_Search_weigh kc ad pr_size pr_total pr_perNote pr_mostAlike pr_notePrices pr_mustPass pr_movePrices pr_mustTurn pr_badClosings pr_badTurns pr_passings pr_strongPrices se_mark se_top se_closes se_leastCost se_allLines se_leastLines se_layers se_layerSizes r.1 r.2.1 r.2.2.1 r.2.2.2.1 r.2.2.2.2)) args s 0 0 A) (F0 m 12 ls []))) (hm : m_Search_weigh_12b F pr_size pr_total pr_perNote pr_mostAlike pr_notePrices pr_mustPass pr_movePrices pr_mustTurn pr_badClosings pr_badTurns pr_passings pr_strongPrices se_top se_closes se_layers se_layerSizes k12 se_nexts se_places se_restCosts se_restLines se_restLeastLines x1 x2 = some r) (hZ : St D A s (wd_Search_weigh kc ad pr_size pr_total pr_perNote pr_mostAlike pr_notePrices pr_mustPass pr_movePrices pr_mustTurn pr_badClosings pr_badTurns pr_passings pr_strongPrices se_mark se_top se_closes se_leastCost se_allLines se_leastLines se_layers se_layerSizes se_nexts se_places se_restCosts se_restLines se_restLeastLines) H locs) (hl : lv_has ls 4 [(0, .ref (ad 23)), (1, .int x1), (2, .int x2)]) : W p l e rm_Search_weigh s m args below meth c H locs 0 0 (MQ below (Qv D A (wd_Search_weigh kc ad pr_size pr_total pr_perNote pr_mostAlike pr_notePrices pr_mustPass pr_movePrices pr_mustTurn pr_badClosings pr_badTurns pr_passings pr_strongPrices se_mark se_top se_closes se_leastCost se_allLines se_leastLines se_layers se_layerSizes r.1 r.2.1 r.2.2.1 r.2.2.2.1 r.2.2.2.2)) args s 0 0 A) (F0 m 12 ls []) := by
  obtain ⟨hx, hb, hr, hts, hown, hml, hlocks, hK, hN, hA, hX⟩ := id C
  obtain ⟨hP, hD, hS⟩ := hZ
  unfold m_Search_weigh_12b at hm
  refine lv_iload_n hx hb d_Search_weigh_12 rfl (lv_at hl 2 rfl) ?_
  refine lv_aload_n hx hb d_Search_weigh_13 rfl (lv_at hl 0 rfl) ?_
  refine va_get (D := D) (ci := 6) (v := .ref (ad 25)) (C := R_Search) (T := T_Search) (N := 18) hx hb hts inG_Search hown hK hP 9 rfl rfl 3 (by decide) (hts _ gw_312) (fun _ h9 => h9) rfl d_Search_weigh_14 ?_
  refine lv_iload_n hx hb d_Search_weigh_17 rfl (lv_at hl 1 rfl) ?_
  obtain ⟨hi1, hm⟩ := gd_some hm
  refine va_iald hx hb hK hP 11 0 rfl rfl hi1 d_Search_weigh_18 ?_
  refine lv_icmp_ge (tgt := 55) hx hb d_Search_weigh_19 (by decide) (fun c2 => ?_) (fun c2 => ?_)
  · replace hm := ifT hm c2
    refine lv_iload_n hx hb d_Search_weigh_55 rfl (lv_at hl 1 rfl) ?_
    refine lv_iconst (v := 1) hx hb d_Search_weigh_56 (by decide) ?_
    refine lv_isub hx hb d_Search_weigh_57 ?_
    refine lv_istore_n (lv' := [(2, .int (x1 - (1 : Int32))), (0, .ref (ad 23)), (1, .int x1)]) hx hb d_Search_weigh_58 rfl hl (by decide) rfl (fun ls hl => ?_)
    exact lp_Search_weigh_59 C  F se_nexts se_places se_restCosts se_restLines se_restLeastLines (x1 - (1 : Int32)) _ _ _ hm ⟨hP, hD, hS⟩ (lv_sub hl [1, 0] rfl)
  · replace hm := ifF hm c2
    refine lv_iload_n hx hb d_Search_weigh_22 rfl (lv_at hl 1 rfl) ?_
    refine lv_iload_n hx hb d_Search_weigh_23 rfl (lv_at hl 2 rfl) ?_
    obtain ⟨u3, hc4, hm⟩ := bd_some hm
    refine zS_i (n := 2) (wr := [((ad 13), .inr (4, [.ref (ad 1), .ref (ad 8), .ref (ad 14), .ref (ad 15), .ref (ad 16), .ref (ad 17), .ref (ad 18), .ref (ad 19), .ref (ad 20), .ref (ad 21), .ref (ad 22), .int pr_size, .int pr_total, .int pr_perNote, .int pr_mostAlike])), ((ad 15), .inl (kc 0, 360, .inl pr_notePrices)), ((ad 16), .inl (kc 1, 360, .inl pr_mustPass)), ((ad 17), .inl (kc 0, 64, .inl pr_movePrices)), ((ad 18), .inl (kc 1, 64, .inl pr_mustTurn)), ((ad 19), .inl (kc 1, 64, .inl pr_badClosings)), ((ad 20), .inl (kc 1, 512, .inl pr_badTurns)), ((ad 21), .inl (kc 1, 512, .inl pr_passings)), ((ad 22), .inl (kc 0, 768, .inl pr_strongPrices)), ((ad 23), .inr (6, [.ref (ad 1), .ref (ad 13), .ref (ad 24), .ref (ad 25), .ref (ad 26), .ref (ad 27), .ref (ad 28), .int se_mark, .ref (ad 29), .ref (ad 30), .ref (ad 31), .ref (ad 32), .ref (ad 33), .int se_top, .int se_closes, .int se_leastCost, .long se_allLines, .long se_leastLines])), ((ad 24), .inl (kc 0, 57600, .inl se_layers)), ((ad 25), .inl (kc 0, 45, .inl se_layerSizes)), ((ad 26), .inl (kc 0, 57600, .inl se_nexts)), ((ad 27), .inl (kc 0, 3072, .inl se_places)), ((ad 29), .inl (kc 0, 2560, .inl se_restCosts)), ((ad 30), .inl (kc 2, 2560, .inr (.inl se_restLines))), ((ad 31), .inl (kc 2, 2560, .inr (.inl se_restLeastLines)))]) (w1 := (wd_Search_restAt kc )) (ws1 := (wd_Search_weigh kc ad pr_size pr_total pr_perNote pr_mostAlike pr_notePrices pr_mustPass pr_movePrices pr_mustTurn pr_badClosings pr_badTurns pr_passings pr_strongPrices se_mark se_top se_closes se_leastCost se_allLines se_leastLines se_layers se_layerSizes se_nexts se_places se_restCosts se_restLines se_restLeastLines)) (As := [.int x1, .int x2]) (rest := []) (y := y_Search_restAt) ⟨hx, hb, hml, hown, hts⟩ (fun sz => c_Search_restAt hc4 sz) gw_670 gw_668 gw_669 gw_117 rfl hd_Search_restAt ⟨Nat.le_of_ble_eq_true rfl, Nat.le_of_ble_eq_true rfl⟩ ⟨rfl, rfl⟩ ⟨Nat.zero_le _, Nat.zero_le _⟩ hK hN hP hD hS hA hX [] [0, 1, 2, 3, 4, 5, 6, 7, 8, 9, 10, 11, 12, 13, 14, 15, 16] [0, 1, 2, 3, 4, 5, 6, 7, 8, 9, 10, 11, 12, 13, 14, 15, 16] rfl rfl (by decide) (by decide) (by decide) rfl (by decide) rfl hl.1 rfl (Nat.le_of_ble_eq_true rfl) d_Search_weigh_24 (fun H locs hP hD hS => ?_)
    refine lv_istore_n (lv' := [(3, .int u3), (0, .ref (ad 23)), (1, .int x1), (2, .int x2)]) hx hb d_Search_weigh_27 rfl hl (by decide) rfl (fun ls hl => ?_)
    refine lv_aload_n hx hb d_Search_weigh_28 rfl (lv_at hl 1 rfl) ?_
    refine va_get (D := D) (ci := 6) (v := .ref (ad 29)) (C := R_Search) (T := T_Search) (N := 18) hx hb hts inG_Search hown hK hP 9 rfl rfl 8 (by decide) (hts _ gw_317) (fun _ h9 => h9) rfl d_Search_weigh_29 ?_
    refine lv_iload_n hx hb d_Search_weigh_32 rfl (lv_at hl 0 rfl) ?_
    refine lv_iconst (v := 0) hx hb d_Search_weigh_33 (by decide) ?_
    obtain ⟨hi5, hm⟩ := gd_some hm
    refine va_iast hx hb hK hP hD hS 14 0 rfl rfl hi5 d_Search_weigh_34 (fun H locs hP hD hS => ?_)
    replace hP : va_P D vwCl (wd_Search_weigh kc ad pr_size pr_total pr_perNote pr_mostAlike pr_notePrices pr_mustPass pr_movePrices pr_mustTurn pr_badClosings pr_badTurns pr_passings pr_strongPrices se_mark se_top se_closes se_leastCost se_allLines se_leastLines se_layers se_layerSizes se_nexts se_places (upd se_restCosts (Int32.toNatClampNeg u3) (0 : Int32)) se_restLines se_restLeastLines) H := hP
    replace hD : va_D A (wd_Search_weigh kc ad pr_size pr_total pr_perNote pr_mostAlike pr_notePrices pr_mustPass pr_movePrices pr_mustTurn pr_badClosings pr_badTurns pr_passings pr_strongPrices se_mark se_top se_closes se_leastCost se_allLines se_leastLines se_layers se_layerSizes se_nexts se_places (upd se_restCosts (Int32.toNatClampNeg u3) (0 : Int32)) se_restLines se_restLeastLines) := hD
    refine lv_aload_n hx hb d_Search_weigh_35 rfl (lv_at hl 1 rfl) ?_
    refine va_get (D := D) (ci := 6) (v := .ref (ad 30)) (C := R_Search) (T := T_Search) (N := 18) hx hb hts inG_Search hown hK hP 9 rfl rfl 9 (by decide) (hts _ gw_318) (fun _ h9 => h9) rfl d_Search_weigh_36 ?_
    refine lv_iload_n hx hb d_Search_weigh_39 rfl (lv_at hl 0 rfl) ?_
    refine lv_lconst (v := 1) hx hb d_Search_weigh_40 (by decide) ?_
    obtain ⟨hi6, hm⟩ := gd_some hm
    refine va_last hx hb hK hP hD hS 15 2 rfl rfl hi6 d_Search_weigh_41 (fun H locs hP hD hS => ?_)
    replace hP : va_P D vwCl (wd_Search_weigh kc ad pr_size pr_total pr_perNote pr_mostAlike pr_notePrices pr_mustPass pr_movePrices pr_mustTurn pr_badClosings pr_badTurns pr_passings pr_strongPrices se_mark se_top se_closes se_leastCost se_allLines se_leastLines se_layers se_layerSizes se_nexts se_places (upd se_restCosts (Int32.toNatClampNeg u3) (0 : Int32)) (vp_updL se_restLines (Int32.toNatClampNeg u3) (1 : Int64)) se_restLeastLines) H := hP
    replace hD : va_D A (wd_Search_weigh kc ad pr_size pr_total pr_perNote pr_mostAlike pr_notePrices pr_mustPass pr_movePrices pr_mustTurn pr_badClosings pr_badTurns pr_passings pr_strongPrices se_mark se_top se_closes se_leastCost se_allLines se_leastLines se_layers se_layerSizes se_nexts se_places (upd se_restCosts (Int32.toNatClampNeg u3) (0 : Int32)) (vp_updL se_restLines (Int32.toNatClampNeg u3) (1 : Int64)) se_restLeastLines) := hD
    refine lv_aload_n hx hb d_Search_weigh_42 rfl (lv_at hl 1 rfl) ?_
    refine va_get (D := D) (ci := 6) (v := .ref (ad 31)) (C := R_Search) (T := T_Search) (N := 18) hx hb hts inG_Search hown hK hP 9 rfl rfl 10 (by decide) (hts _ gw_319) (fun _ h9 => h9) rfl d_Search_weigh_43 ?_
    refine lv_iload_n hx hb d_Search_weigh_46 rfl (lv_at hl 0 rfl) ?_
    refine lv_lconst (v := 1) hx hb d_Search_weigh_47 (by decide) ?_
    obtain ⟨hi7, hm⟩ := gd_some hm
    refine va_last hx hb hK hP hD hS 16 2 rfl rfl hi7 d_Search_weigh_48 (fun H locs hP hD hS => ?_)
    replace hP : va_P D vwCl (wd_Search_weigh kc ad pr_size pr_total pr_perNote pr_mostAlike pr_notePrices pr_mustPass pr_movePrices pr_mustTurn pr_badClosings pr_badTurns pr_passings pr_strongPrices se_mark se_top se_closes se_leastCost se_allLines se_leastLines se_layers se_layerSizes se_nexts se_places (upd se_restCosts (Int32.toNatClampNeg u3) (0 : Int32)) (vp_updL se_restLines (Int32.toNatClampNeg u3) (1 : Int64)) (vp_updL se_restLeastLines (Int32.toNatClampNeg u3) (1 : Int64))) H := hP
    replace hD : va_D A (wd_Search_weigh kc ad pr_size pr_total pr_perNote pr_mostAlike pr_notePrices pr_mustPass pr_movePrices pr_mustTurn pr_badClosings pr_badTurns pr_passings pr_strongPrices se_mark se_top se_closes se_leastCost se_allLines se_leastLines se_layers se_layerSizes se_nexts se_places (upd se_restCosts (Int32.toNatClampNeg u3) (0 : Int32)) (vp_updL se_restLines (Int32.toNatClampNeg u3) (1 : Int64)) (vp_updL se_restLeastLines (Int32.toNatClampNeg u3) (1 : Int64))) := hD
    refine lv_iinc (v := (x2 + 1)) (lv' := [(2, .int (x2 + 1)), (3, .int u3), (0, .ref (ad 23)), (1, .int x1)]) hx hb d_Search_weigh_49 hl (k := 3) rfl rfl (by decide) rfl (fun ls hl => ?_)
    refine lv_goto (tgt := 12) hx hb d_Search_weigh_52 (by decide) ?_
    exact hk12 se_nexts se_places (upd se_restCosts (Int32.toNatClampNeg u3) (0 : Int32)) (vp_updL se_restLines (Int32.toNatClampNeg u3) (1 : Int64)) (vp_updL se_restLeastLines (Int32.toNatClampNeg u3) (1 : Int64)) x1 (x2 + 1) _ _ _ hm ⟨hP, hD, hS⟩ (lv_sub hl [2, 3, 0] rfl)
def m_Search_weigh_12 (F : Nat) (pr_size : Int32) (pr_total : Int32) (pr_perNote : Int32) (pr_mostAlike : Int32) (pr_notePrices : Nat → Int32) (pr_mustPass : Nat → Int32) (pr_movePrices : Nat → Int32) (pr_mustTurn : Nat → Int32) (pr_badClosings : Nat → Int32) (pr_badTurns : Nat → Int32) (pr_passings : Nat → Int32) (pr_strongPrices : Nat → Int32) (se_top : Int32) (se_closes : Int32) (se_layers : Nat → Int32) (se_layerSizes : Nat → Int32)  : Nat → (Nat → Int32) → (Nat → Int32) → (Nat → Int32) → (Nat → Int64) → (Nat → Int64) → Int32 → Int32 → Option ((Nat → Int32) × (Nat → Int32) × (Nat → Int32) × (Nat → Int64) × (Nat → Int64))
  | 0 => fun _ _ _ _ _ _ _ => none
  | n + 1 => m_Search_weigh_12b F pr_size pr_total pr_perNote pr_mostAlike pr_notePrices pr_mustPass pr_movePrices pr_mustTurn pr_badClosings pr_badTurns pr_passings pr_strongPrices se_top se_closes se_layers se_layerSizes  (m_Search_weigh_12 F pr_size pr_total pr_perNote pr_mostAlike pr_notePrices pr_mustPass pr_movePrices pr_mustTurn pr_badClosings pr_badTurns pr_passings pr_strongPrices se_top se_closes se_layers se_layerSizes  n)
set_option maxHeartbeats 4000000 in
set_option maxRecDepth 100000 in
theorem lp_Search_weigh_12 {r : (Nat → Int32) × (Nat → Int32) × (Nat → Int32) × (Nat → Int64) × (Nat → Int64)} {F : Nat} {ad : Nat → Nat} {pr_size : Int32} {pr_total : Int32} {pr_perNote : Int32} {pr_mostAlike : Int32} {pr_notePrices : Nat → Int32} {pr_mustPass : Nat → Int32} {pr_movePrices : Nat → Int32} {pr_mustTurn : Nat → Int32} {pr_badClosings : Nat → Int32} {pr_badTurns : Nat → Int32} {pr_passings : Nat → Int32} {pr_strongPrices : Nat → Int32} {se_mark : Int32} {se_top : Int32} {se_closes : Int32} {se_leastCost : Int32} {se_allLines : Int64} {se_leastLines : Int64} {se_layers : Nat → Int32} {se_layerSizes : Nat → Int32}  (C : Cx p s m meth c args A D kc R_Search b_Search_weigh 4 none)  : ∀ (n : Nat) (se_nexts : Nat → Int32) (se_places : Nat → Int32) (se_restCosts : Nat → Int32) (se_restLines : Nat → Int64) (se_restLeastLines : Nat → Int64) (x1 : Int32) (x2 : Int32) (H : Heap) (locs : List Loc) (ls : Array Slot), m_Search_weigh_12 F pr_size pr_total pr_perNote pr_mostAlike pr_notePrices pr_mustPass pr_movePrices pr_mustTurn pr_badClosings pr_badTurns pr_passings pr_strongPrices se_top se_closes se_layers se_layerSizes  n se_nexts se_places se_restCosts se_restLines se_restLeastLines x1 x2 = some r → St D A s (wd_Search_weigh kc ad pr_size pr_total pr_perNote pr_mostAlike pr_notePrices pr_mustPass pr_movePrices pr_mustTurn pr_badClosings pr_badTurns pr_passings pr_strongPrices se_mark se_top se_closes se_leastCost se_allLines se_leastLines se_layers se_layerSizes se_nexts se_places se_restCosts se_restLines se_restLeastLines) H locs → lv_has ls 4 [(0, .ref (ad 23)), (1, .int x1), (2, .int x2)] → W p l e rm_Search_weigh s m args below meth c H locs 0 0 (MQ below (Qv D A (wd_Search_weigh kc ad pr_size pr_total pr_perNote pr_mostAlike pr_notePrices pr_mustPass pr_movePrices pr_mustTurn pr_badClosings pr_badTurns pr_passings pr_strongPrices se_mark se_top se_closes se_leastCost se_allLines se_leastLines se_layers se_layerSizes r.1 r.2.1 r.2.2.1 r.2.2.2.1 r.2.2.2.2)) args s 0 0 A) (F0 m 12 ls []) := by
  intro n
  induction n with
  | zero => intro se_nexts se_places se_restCosts se_restLines se_restLeastLines x1 x2 H locs ls hm; cases hm
  | succ n ih => intro se_nexts se_places se_restCosts se_restLines se_restLeastLines x1 x2 H locs ls hm hZ hl; exact l_Search_weigh_12 C  ih hm hZ hl
def m_Search_weigh (F : Nat) (pr_size : Int32) (pr_total : Int32) (pr_perNote : Int32) (pr_mostAlike : Int32) (pr_notePrices : Nat → Int32) (pr_mustPass : Nat → Int32) (pr_movePrices : Nat → Int32) (pr_mustTurn : Nat → Int32) (pr_badClosings : Nat → Int32) (pr_badTurns : Nat → Int32) (pr_passings : Nat → Int32) (pr_strongPrices : Nat → Int32) (se_top : Int32) (se_closes : Int32) (se_layers : Nat → Int32) (se_layerSizes : Nat → Int32) (se_nexts : Nat → Int32) (se_places : Nat → Int32) (se_restCosts : Nat → Int32) (se_restLines : Nat → Int64) (se_restLeastLines : Nat → Int64)  : Option ((Nat → Int32) × (Nat → Int32) × (Nat → Int32) × (Nat → Int64) × (Nat → Int64)) :=
  m_Search_weigh_12 F pr_size pr_total pr_perNote pr_mostAlike pr_notePrices pr_mustPass pr_movePrices pr_mustTurn pr_badClosings pr_badTurns pr_passings pr_strongPrices se_top se_closes se_layers se_layerSizes  F se_nexts se_places se_restCosts se_restLines se_restLeastLines (pr_total - (1 : Int32)) (0 : Int32)
set_option maxHeartbeats 4000000 in
set_option maxRecDepth 100000 in
theorem e_Search_weigh {r : (Nat → Int32) × (Nat → Int32) × (Nat → Int32) × (Nat → Int64) × (Nat → Int64)} {F : Nat} {ad : Nat → Nat} {pr_size : Int32} {pr_total : Int32} {pr_perNote : Int32} {pr_mostAlike : Int32} {pr_notePrices : Nat → Int32} {pr_mustPass : Nat → Int32} {pr_movePrices : Nat → Int32} {pr_mustTurn : Nat → Int32} {pr_badClosings : Nat → Int32} {pr_badTurns : Nat → Int32} {pr_passings : Nat → Int32} {pr_strongPrices : Nat → Int32} {se_mark : Int32} {se_top : Int32} {se_closes : Int32} {se_leastCost : Int32} {se_allLines : Int64} {se_leastLines : Int64} {se_layers : Nat → Int32} {se_layerSizes : Nat → Int32} {se_nexts : Nat → Int32} {se_places : Nat → Int32} {se_restCosts : Nat → Int32} {se_restLines : Nat → Int64} {se_restLeastLines : Nat → Int64}  {H : Heap} {locs : List Loc} {ls : Array Slot} (C : Cx p s m meth c args A D kc R_Search b_Search_weigh 4 none) (hm : m_Search_weigh F pr_size pr_total pr_perNote pr_mostAlike pr_notePrices pr_mustPass pr_movePrices pr_mustTurn pr_badClosings pr_badTurns pr_passings pr_strongPrices se_top se_closes se_layers se_layerSizes se_nexts se_places se_restCosts se_restLines se_restLeastLines = some r) (hZ : St D A s (wd_Search_weigh kc ad pr_size pr_total pr_perNote pr_mostAlike pr_notePrices pr_mustPass pr_movePrices pr_mustTurn pr_badClosings pr_badTurns pr_passings pr_strongPrices se_mark se_top se_closes se_leastCost se_allLines se_leastLines se_layers se_layerSizes se_nexts se_places se_restCosts se_restLines se_restLeastLines) H locs) (hl : lv_has ls 4 [(0, .ref (ad 23))]) : W p l e rm_Search_weigh s m args below meth c H locs 0 0 (MQ below (Qv D A (wd_Search_weigh kc ad pr_size pr_total pr_perNote pr_mostAlike pr_notePrices pr_mustPass pr_movePrices pr_mustTurn pr_badClosings pr_badTurns pr_passings pr_strongPrices se_mark se_top se_closes se_leastCost se_allLines se_leastLines se_layers se_layerSizes r.1 r.2.1 r.2.2.1 r.2.2.2.1 r.2.2.2.2)) args s 0 0 A) (F0 m 0 ls []) := by
  obtain ⟨hx, hb, hr, hts, hown, hml, hlocks, hK, hN, hA, hX⟩ := id C
  obtain ⟨hP, hD, hS⟩ := hZ
  unfold m_Search_weigh at hm
  refine lv_aload_n hx hb d_Search_weigh_0 rfl (lv_at hl 0 rfl) ?_
  refine va_get (D := D) (ci := 6) (v := .ref (ad 13)) (C := R_Search) (T := T_Search) (N := 18) hx hb hts inG_Search hown hK hP 9 rfl rfl 1 (by decide) (hts _ gw_310) (fun _ h9 => h9) rfl d_Search_weigh_1 ?_
  refine va_getN (D := D) (ci := 4) (v := .int pr_total) (C := R_Prices) (T := T_Prices) (N := 15) hx hb hts inG_Prices hown hK hP 0 rfl rfl 12 (by decide) (va_Nw.use rfl (hN _ nw_266)) (fun _ h9 => h9) rfl d_Search_weigh_4 ?_
  refine lv_iconst (v := 1) hx hb d_Search_weigh_7 (by decide) ?_
  refine lv_isub hx hb d_Search_weigh_8 ?_
  refine lv_istore_n (lv' := [(1, .int (pr_total - (1 : Int32))), (0, .ref (ad 23))]) hx hb d_Search_weigh_9 rfl hl (by decide) rfl (fun ls hl => ?_)
  refine lv_iconst (v := 0) hx hb d_Search_weigh_10 (by decide) ?_
  refine lv_istore_n (lv' := [(2, .int (0 : Int32)), (1, .int (pr_total - (1 : Int32))), (0, .ref (ad 23))]) hx hb d_Search_weigh_11 rfl hl (by decide) rfl (fun ls hl => ?_)
  exact lp_Search_weigh_12 C  F se_nexts se_places se_restCosts se_restLines se_restLeastLines (pr_total - (1 : Int32)) (0 : Int32) _ _ _ hm ⟨hP, hD, hS⟩ (lv_sub hl [2, 1, 0] rfl)
set_option maxHeartbeats 4000000 in
set_option maxRecDepth 100000 in
theorem c_Search_weigh {l : Launch} {D : va_G} {kc : Nat → ClassId} {r : (Nat → Int32) × (Nat → Int32) × (Nat → Int32) × (Nat → Int64) × (Nat → Int64)} {F : Nat} {ad : Nat → Nat} {pr_size : Int32} {pr_total : Int32} {pr_perNote : Int32} {pr_mostAlike : Int32} {pr_notePrices : Nat → Int32} {pr_mustPass : Nat → Int32} {pr_movePrices : Nat → Int32} {pr_mustTurn : Nat → Int32} {pr_badClosings : Nat → Int32} {pr_badTurns : Nat → Int32} {pr_passings : Nat → Int32} {pr_strongPrices : Nat → Int32} {se_mark : Int32} {se_top : Int32} {se_closes : Int32} {se_leastCost : Int32} {se_allLines : Int64} {se_leastLines : Int64} {se_layers : Nat → Int32} {se_layerSizes : Nat → Int32} {se_nexts : Nat → Int32} {se_places : Nat → Int32} {se_restCosts : Nat → Int32} {se_restLines : Nat → Int64} {se_restLeastLines : Nat → Int64}  (hm : m_Search_weigh F pr_size pr_total pr_perNote pr_mostAlike pr_notePrices pr_mustPass pr_movePrices pr_mustTurn pr_badClosings pr_badTurns pr_passings pr_strongPrices se_top se_closes se_layers se_layerSizes se_nexts se_places se_restCosts se_restLines se_restLeastLines = some r) (sz : Nat) : Cv l y_Search_weigh ws_Search_weigh rm_Search_weigh D kc sz [.ref (ad 23)] (wd_Search_weigh kc ad pr_size pr_total pr_perNote pr_mostAlike pr_notePrices pr_mustPass pr_movePrices pr_mustTurn pr_badClosings pr_badTurns pr_passings pr_strongPrices se_mark se_top se_closes se_leastCost se_allLines se_leastLines se_layers se_layerSizes se_nexts se_places se_restCosts se_restLines se_restLeastLines) (wd_Search_weigh kc ad pr_size pr_total pr_perNote pr_mostAlike pr_notePrices pr_mustPass pr_movePrices pr_mustTurn pr_badClosings pr_badTurns pr_passings pr_strongPrices se_mark se_top se_closes se_leastCost se_allLines se_leastLines se_layers se_layerSizes r.1 r.2.1 r.2.2.1 r.2.2.2.1 r.2.2.2.2) :=
  Cz_of (Qf := fun A => (Qv D A (wd_Search_weigh kc ad pr_size pr_total pr_perNote pr_mostAlike pr_notePrices pr_mustPass pr_movePrices pr_mustTurn pr_badClosings pr_badTurns pr_passings pr_strongPrices se_mark se_top se_closes se_leastCost se_allLines se_leastLines se_layers se_layerSizes r.1 r.2.1 r.2.2.1 r.2.2.2.1 r.2.2.2.2))) (cc := b_Search_weigh) (maxL := 4) (ret := none) (by decide) rfl rfl (fun C hZ hl => e_Search_weigh C hm hZ hl)
abbrev b_Search_trace : ByteArray := prog_6_method_22_code
abbrev y_Search_trace : MethodName := ⟨"SpeciesSolver$Search", "trace", "(I)V"⟩
theorem d_Search_trace_0 : decode b_Search_trace 0 = .ok (.iload_n 1, 1) := by decide +kernel
theorem d_Search_trace_1 : decode b_Search_trace 1 = .ok (.istore_n 2, 1) := by decide +kernel
theorem d_Search_trace_2 : decode b_Search_trace 2 = .ok (.iconst 0, 1) := by decide +kernel
theorem d_Search_trace_3 : decode b_Search_trace 3 = .ok (.istore_n 3, 1) := by decide +kernel
theorem d_Search_trace_4 : decode b_Search_trace 4 = .ok (.iload_n 3, 1) := by decide +kernel
theorem d_Search_trace_5 : decode b_Search_trace 5 = .ok (.aload_n 0, 1) := by decide +kernel
theorem d_Search_trace_6 : decode b_Search_trace 6 = .ok (.getfield 69, 3) := by decide +kernel
theorem d_Search_trace_9 : decode b_Search_trace 9 = .ok (.getfield 88, 3) := by decide +kernel
theorem d_Search_trace_12 : decode b_Search_trace 12 = .ok (.if_icmp .ge 43, 3) := by decide +kernel
theorem d_Search_trace_15 : decode b_Search_trace 15 = .ok (.aload_n 0, 1) := by decide +kernel
theorem d_Search_trace_16 : decode b_Search_trace 16 = .ok (.getfield 45, 3) := by decide +kernel
theorem d_Search_trace_19 : decode b_Search_trace 19 = .ok (.iload_n 3, 1) := by decide +kernel
theorem d_Search_trace_20 : decode b_Search_trace 20 = .ok (.aload_n 0, 1) := by decide +kernel
theorem d_Search_trace_21 : decode b_Search_trace 21 = .ok (.getfield 12, 3) := by decide +kernel
theorem d_Search_trace_24 : decode b_Search_trace 24 = .ok (.iload_n 3, 1) := by decide +kernel
theorem d_Search_trace_25 : decode b_Search_trace 25 = .ok (.sipush 1280, 3) := by decide +kernel
theorem d_Search_trace_28 : decode b_Search_trace 28 = .ok (.imul, 1) := by decide +kernel
theorem d_Search_trace_29 : decode b_Search_trace 29 = .ok (.iload_n 2, 1) := by decide +kernel
theorem d_Search_trace_30 : decode b_Search_trace 30 = .ok (.iadd, 1) := by decide +kernel
theorem d_Search_trace_31 : decode b_Search_trace 31 = .ok (.iaload, 1) := by decide +kernel
theorem d_Search_trace_32 : decode b_Search_trace 32 = .ok (.bipush 7, 2) := by decide +kernel
theorem d_Search_trace_34 : decode b_Search_trace 34 = .ok (.iand, 1) := by decide +kernel
theorem d_Search_trace_35 : decode b_Search_trace 35 = .ok (.iastore, 1) := by decide +kernel
theorem d_Search_trace_36 : decode b_Search_trace 36 = .ok (.aload_n 0, 1) := by decide +kernel
theorem d_Search_trace_37 : decode b_Search_trace 37 = .ok (.getfield 19, 3) := by decide +kernel
theorem d_Search_trace_40 : decode b_Search_trace 40 = .ok (.iload_n 3, 1) := by decide +kernel
theorem d_Search_trace_41 : decode b_Search_trace 41 = .ok (.sipush 1280, 3) := by decide +kernel
theorem d_Search_trace_44 : decode b_Search_trace 44 = .ok (.imul, 1) := by decide +kernel
theorem d_Search_trace_45 : decode b_Search_trace 45 = .ok (.iload_n 2, 1) := by decide +kernel
theorem d_Search_trace_46 : decode b_Search_trace 46 = .ok (.iadd, 1) := by decide +kernel
theorem d_Search_trace_47 : decode b_Search_trace 47 = .ok (.iaload, 1) := by decide +kernel
theorem d_Search_trace_48 : decode b_Search_trace 48 = .ok (.istore_n 2, 1) := by decide +kernel
theorem d_Search_trace_49 : decode b_Search_trace 49 = .ok (.iinc 3 1, 3) := by decide +kernel
theorem d_Search_trace_52 : decode b_Search_trace 52 = .ok (.goto (-48), 3) := by decide +kernel
theorem d_Search_trace_55 : decode b_Search_trace 55 = .ok (.return_, 1) := by decide +kernel
abbrev wd_Search_trace (kc : Nat → ClassId) (ad : Nat → Nat) (pr_size : Int32) (pr_total : Int32) (pr_perNote : Int32) (pr_mostAlike : Int32) (se_mark : Int32) (se_top : Int32) (se_closes : Int32) (se_leastCost : Int32) (se_allLines : Int64) (se_leastLines : Int64) (se_layers : Nat → Int32) (se_nexts : Nat → Int32) (se_traced : Nat → Int32) : va_W := [((ad 13), .inr (4, [.ref (ad 1), .ref (ad 8), .ref (ad 14), .ref (ad 15), .ref (ad 16), .ref (ad 17), .ref (ad 18), .ref (ad 19), .ref (ad 20), .ref (ad 21), .ref (ad 22), .int pr_size, .int pr_total, .int pr_perNote, .int pr_mostAlike])), ((ad 23), .inr (6, [.ref (ad 1), .ref (ad 13), .ref (ad 24), .ref (ad 25), .ref (ad 26), .ref (ad 27), .ref (ad 28), .int se_mark, .ref (ad 29), .ref (ad 30), .ref (ad 31), .ref (ad 32), .ref (ad 33), .int se_top, .int se_closes, .int se_leastCost, .long se_allLines, .long se_leastLines])), ((ad 24), .inl (kc 0, 57600, .inl se_layers)), ((ad 26), .inl (kc 0, 57600, .inl se_nexts)), ((ad 33), .inl (kc 0, 45, .inl se_traced))]
abbrev rm_Search_trace : Room := { frames := 0, cells := 0, slots := 0, locals := 0 }
abbrev cw_Search_trace : Cond := .code y_Search_trace b_Search_trace 4 none
abbrev ws_Search_trace : List Cond := cw_Search_trace :: GW
theorem hd_Search_trace : y_Search_trace.cls ≠ "java/lang/invoke/MethodHandle" ∧ y_Search_trace.cls ≠ "java/lang/invoke/VarHandle" ∧ (parseMethodDescriptor y_Search_trace.desc).map (fun d => d.parameters.length) = some 1 := by decide +kernel
def m_Search_trace_4b (F : Nat) (pr_total : Int32) (se_layers : Nat → Int32) (se_nexts : Nat → Int32) (k4 : (Nat → Int32) → Int32 → Int32 → Option ((Nat → Int32))) (se_traced : Nat → Int32) (x2 : Int32) (x3 : Int32) : Option ((Nat → Int32)) :=
  (if pr_total ≤ x3 then
    (some se_traced)
  else
    (gd ((x3 * (1280 : Int32)) + x2) 57600 (gd x3 45 (gd ((x3 * (1280 : Int32)) + x2) 57600 (k4 (upd se_traced (Int32.toNatClampNeg x3) ((se_layers (Int32.toNatClampNeg ((x3 * (1280 : Int32)) + x2))) &&& (7 : Int32))) (se_nexts (Int32.toNatClampNeg ((x3 * (1280 : Int32)) + x2))) (x3 + 1))))))
set_option maxHeartbeats 4000000 in
set_option maxRecDepth 100000 in
theorem l_Search_trace_4 {r : (Nat → Int32)} {F : Nat} {ad : Nat → Nat} {pr_size : Int32} {pr_total : Int32} {pr_perNote : Int32} {pr_mostAlike : Int32} {se_mark : Int32} {se_top : Int32} {se_closes : Int32} {se_leastCost : Int32} {se_allLines : Int64} {se_leastLines : Int64} {se_layers : Nat → Int32} {se_nexts : Nat → Int32} {se_traced : Nat → Int32} {k4 : (Nat → Int32) → Int32 → Int32 → Option ((Nat → Int32))} {x2 : Int32} {x3 : Int32} {H : Heap} {locs : List Loc} {ls : Array Slot} (C : Cx p s m meth c args A D kc R_Search b_Search_trace 4 none) (hk4 : (∀ (se_traced : Nat → Int32) (x2 : Int32) (x3 : Int32) (H : Heap) (locs : List Loc) (ls : Array Slot), k4 se_traced x2 x3 = some r → St D A s (wd_Search_trace kc ad pr_size pr_total pr_perNote pr_mostAlike se_mark se_top se_closes se_leastCost se_allLines se_leastLines se_layers se_nexts se_traced) H locs → lv_has ls 4 [(0, .ref (ad 23)), (2, .int x2), (3, .int x3)] → W p l e rm_Search_trace s m args below meth c H locs 0 0 (MQ below (Qv D A (wd_Search_trace kc ad pr_size pr_total pr_perNote pr_mostAlike se_mark se_top se_closes se_leastCost se_allLines se_leastLines se_layers se_nexts r)) args s 0 0 A) (F0 m 4 ls []))) (hm : m_Search_trace_4b F pr_total se_layers se_nexts k4 se_traced x2 x3 = some r) (hZ : St D A s (wd_Search_trace kc ad pr_size pr_total pr_perNote pr_mostAlike se_mark se_top se_closes se_leastCost se_allLines se_leastLines se_layers se_nexts se_traced) H locs) (hl : lv_has ls 4 [(0, .ref (ad 23)), (2, .int x2), (3, .int x3)]) : W p l e rm_Search_trace s m args below meth c H locs 0 0 (MQ below (Qv D A (wd_Search_trace kc ad pr_size pr_total pr_perNote pr_mostAlike se_mark se_top se_closes se_leastCost se_allLines se_leastLines se_layers se_nexts r)) args s 0 0 A) (F0 m 4 ls []) := by
  obtain ⟨hx, hb, hr, hts, hown, hml, hlocks, hK, hN, hA, hX⟩ := id C
  obtain ⟨hP, hD, hS⟩ := hZ
  unfold m_Search_trace_4b at hm
  refine lv_iload_n hx hb d_Search_trace_4 rfl (lv_at hl 2 rfl) ?_
  refine lv_aload_n hx hb d_Search_trace_5 rfl (lv_at hl 0 rfl) ?_
  refine va_get (D := D) (ci := 6) (v := .ref (ad 13)) (C := R_Search) (T := T_Search) (N := 18) hx hb hts inG_Search hown hK hP 1 rfl rfl 1 (by decide) (hts _ gw_310) (fun _ h9 => h9) rfl d_Search_trace_6 ?_
  refine va_getN (D := D) (ci := 4) (v := .int pr_total) (C := R_Prices) (T := T_Prices) (N := 15) hx hb hts inG_Prices hown hK hP 0 rfl rfl 12 (by decide) (va_Nw.use rfl (hN _ nw_266)) (fun _ h9 => h9) rfl d_Search_trace_9 ?_
  refine lv_icmp_ge (tgt := 55) hx hb d_Search_trace_12 (by decide) (fun c1 => ?_) (fun c1 => ?_)
  · replace hm := ifT hm c1
    replace hm := Option.some.inj hm; subst hm
    exact zret_v C hP hD hS d_Search_trace_55
  · replace hm := ifF hm c1
    refine lv_aload_n hx hb d_Search_trace_15 rfl (lv_at hl 0 rfl) ?_
    refine va_get (D := D) (ci := 6) (v := .ref (ad 33)) (C := R_Search) (T := T_Search) (N := 18) hx hb hts inG_Search hown hK hP 1 rfl rfl 12 (by decide) (hts _ gw_321) (fun _ h9 => h9) rfl d_Search_trace_16 ?_
    refine lv_iload_n hx hb d_Search_trace_19 rfl (lv_at hl 2 rfl) ?_
    refine lv_aload_n hx hb d_Search_trace_20 rfl (lv_at hl 0 rfl) ?_
    refine va_get (D := D) (ci := 6) (v := .ref (ad 24)) (C := R_Search) (T := T_Search) (N := 18) hx hb hts inG_Search hown hK hP 1 rfl rfl 2 (by decide) (hts _ gw_311) (fun _ h9 => h9) rfl d_Search_trace_21 ?_
    refine lv_iload_n hx hb d_Search_trace_24 rfl (lv_at hl 2 rfl) ?_
    refine lv_sipush (v := 1280) hx hb d_Search_trace_25 (by decide) ?_
    refine lv_imul hx hb d_Search_trace_28 ?_
    refine lv_iload_n hx hb d_Search_trace_29 rfl (lv_at hl 1 rfl) ?_
    refine lv_iadd hx hb d_Search_trace_30 ?_
    obtain ⟨hi2, hm⟩ := gd_some hm
    refine va_iald hx hb hK hP 2 0 rfl rfl hi2 d_Search_trace_31 ?_
    refine lv_bipush (v := 7) hx hb d_Search_trace_32 (by decide) ?_
    refine lv_iand hx hb d_Search_trace_34 ?_
    obtain ⟨hi3, hm⟩ := gd_some hm
    refine va_iast hx hb hK hP hD hS 4 0 rfl rfl hi3 d_Search_trace_35 (fun H locs hP hD hS => ?_)
    replace hP : va_P D vwCl (wd_Search_trace kc ad pr_size pr_total pr_perNote pr_mostAlike se_mark se_top se_closes se_leastCost se_allLines se_leastLines se_layers se_nexts (upd se_traced (Int32.toNatClampNeg x3) ((se_layers (Int32.toNatClampNeg ((x3 * (1280 : Int32)) + x2))) &&& (7 : Int32)))) H := hP
    replace hD : va_D A (wd_Search_trace kc ad pr_size pr_total pr_perNote pr_mostAlike se_mark se_top se_closes se_leastCost se_allLines se_leastLines se_layers se_nexts (upd se_traced (Int32.toNatClampNeg x3) ((se_layers (Int32.toNatClampNeg ((x3 * (1280 : Int32)) + x2))) &&& (7 : Int32)))) := hD
    refine lv_aload_n hx hb d_Search_trace_36 rfl (lv_at hl 0 rfl) ?_
    refine va_get (D := D) (ci := 6) (v := .ref (ad 26)) (C := R_Search) (T := T_Search) (N := 18) hx hb hts inG_Search hown hK hP 1 rfl rfl 4 (by decide) (hts _ gw_313) (fun _ h9 => h9) rfl d_Search_trace_37 ?_
    refine lv_iload_n hx hb d_Search_trace_40 rfl (lv_at hl 2 rfl) ?_
    refine lv_sipush (v := 1280) hx hb d_Search_trace_41 (by decide) ?_
    refine lv_imul hx hb d_Search_trace_44 ?_
    refine lv_iload_n hx hb d_Search_trace_45 rfl (lv_at hl 1 rfl) ?_
    refine lv_iadd hx hb d_Search_trace_46 ?_
    obtain ⟨hi4, hm⟩ := gd_some hm
    refine va_iald hx hb hK hP 3 0 rfl rfl hi4 d_Search_trace_47 ?_
    refine lv_istore_n (lv' := [(2, .int (se_nexts (Int32.toNatClampNeg ((x3 * (1280 : Int32)) + x2)))), (0, .ref (ad 23)), (3, .int x3)]) hx hb d_Search_trace_48 rfl hl (by decide) rfl (fun ls hl => ?_)
    refine lv_iinc (v := (x3 + 1)) (lv' := [(3, .int (x3 + 1)), (2, .int (se_nexts (Int32.toNatClampNeg ((x3 * (1280 : Int32)) + x2)))), (0, .ref (ad 23))]) hx hb d_Search_trace_49 hl (k := 2) rfl rfl (by decide) rfl (fun ls hl => ?_)
    refine lv_goto (tgt := 4) hx hb d_Search_trace_52 (by decide) ?_
    exact hk4 (upd se_traced (Int32.toNatClampNeg x3) ((se_layers (Int32.toNatClampNeg ((x3 * (1280 : Int32)) + x2))) &&& (7 : Int32))) (se_nexts (Int32.toNatClampNeg ((x3 * (1280 : Int32)) + x2))) (x3 + 1) _ _ _ hm ⟨hP, hD, hS⟩ (lv_sub hl [2, 1, 0] rfl)
def m_Search_trace_4 (F : Nat) (pr_total : Int32) (se_layers : Nat → Int32) (se_nexts : Nat → Int32)  : Nat → (Nat → Int32) → Int32 → Int32 → Option ((Nat → Int32))
  | 0 => fun _ _ _ => none
  | n + 1 => m_Search_trace_4b F pr_total se_layers se_nexts  (m_Search_trace_4 F pr_total se_layers se_nexts  n)
set_option maxHeartbeats 4000000 in
set_option maxRecDepth 100000 in
theorem lp_Search_trace_4 {r : (Nat → Int32)} {F : Nat} {ad : Nat → Nat} {pr_size : Int32} {pr_total : Int32} {pr_perNote : Int32} {pr_mostAlike : Int32} {se_mark : Int32} {se_top : Int32} {se_closes : Int32} {se_leastCost : Int32} {se_allLines : Int64} {se_leastLines : Int64} {se_layers : Nat → Int32} {se_nexts : Nat → Int32}  (C : Cx p s m meth c args A D kc R_Search b_Search_trace 4 none)  : ∀ (n : Nat) (se_traced : Nat → Int32) (x2 : Int32) (x3 : Int32) (H : Heap) (locs : List Loc) (ls : Array Slot), m_Search_trace_4 F pr_total se_layers se_nexts  n se_traced x2 x3 = some r → St D A s (wd_Search_trace kc ad pr_size pr_total pr_perNote pr_mostAlike se_mark se_top se_closes se_leastCost se_allLines se_leastLines se_layers se_nexts se_traced) H locs → lv_has ls 4 [(0, .ref (ad 23)), (2, .int x2), (3, .int x3)] → W p l e rm_Search_trace s m args below meth c H locs 0 0 (MQ below (Qv D A (wd_Search_trace kc ad pr_size pr_total pr_perNote pr_mostAlike se_mark se_top se_closes se_leastCost se_allLines se_leastLines se_layers se_nexts r)) args s 0 0 A) (F0 m 4 ls []) := by
  intro n
  induction n with
  | zero => intro se_traced x2 x3 H locs ls hm; cases hm
  | succ n ih => intro se_traced x2 x3 H locs ls hm hZ hl; exact l_Search_trace_4 C  ih hm hZ hl
def m_Search_trace (F : Nat) (pr_total : Int32) (se_layers : Nat → Int32) (se_nexts : Nat → Int32) (se_traced : Nat → Int32) (a1 : Int32) : Option ((Nat → Int32)) :=
  m_Search_trace_4 F pr_total se_layers se_nexts  F se_traced a1 (0 : Int32)
set_option maxHeartbeats 4000000 in
set_option maxRecDepth 100000 in
theorem e_Search_trace {r : (Nat → Int32)} {F : Nat} {ad : Nat → Nat} {pr_size : Int32} {pr_total : Int32} {pr_perNote : Int32} {pr_mostAlike : Int32} {se_mark : Int32} {se_top : Int32} {se_closes : Int32} {se_leastCost : Int32} {se_allLines : Int64} {se_leastLines : Int64} {se_layers : Nat → Int32} {se_nexts : Nat → Int32} {se_traced : Nat → Int32} {a1 : Int32} {H : Heap} {locs : List Loc} {ls : Array Slot} (C : Cx p s m meth c args A D kc R_Search b_Search_trace 4 none) (hm : m_Search_trace F pr_total se_layers se_nexts se_traced a1 = some r) (hZ : St D A s (wd_Search_trace kc ad pr_size pr_total pr_perNote pr_mostAlike se_mark se_top se_closes se_leastCost se_allLines se_leastLines se_layers se_nexts se_traced) H locs) (hl : lv_has ls 4 [(0, .ref (ad 23)), (1, .int a1)]) : W p l e rm_Search_trace s m args below meth c H locs 0 0 (MQ below (Qv D A (wd_Search_trace kc ad pr_size pr_total pr_perNote pr_mostAlike se_mark se_top se_closes se_leastCost se_allLines se_leastLines se_layers se_nexts r)) args s 0 0 A) (F0 m 0 ls []) := by
  obtain ⟨hx, hb, hr, hts, hown, hml, hlocks, hK, hN, hA, hX⟩ := id C
  obtain ⟨hP, hD, hS⟩ := hZ
  unfold m_Search_trace at hm
  refine lv_iload_n hx hb d_Search_trace_0 rfl (lv_at hl 1 rfl) ?_
  refine lv_istore_n (lv' := [(2, .int a1), (0, .ref (ad 23)), (1, .int a1)]) hx hb d_Search_trace_1 rfl hl (by decide) rfl (fun ls hl => ?_)
  refine lv_iconst (v := 0) hx hb d_Search_trace_2 (by decide) ?_
  refine lv_istore_n (lv' := [(3, .int (0 : Int32)), (2, .int a1), (0, .ref (ad 23)), (1, .int a1)]) hx hb d_Search_trace_3 rfl hl (by decide) rfl (fun ls hl => ?_)
  exact lp_Search_trace_4 C  F se_traced a1 (0 : Int32) _ _ _ hm ⟨hP, hD, hS⟩ (lv_sub hl [2, 1, 0] rfl)
set_option maxHeartbeats 4000000 in
set_option maxRecDepth 100000 in
theorem c_Search_trace {l : Launch} {D : va_G} {kc : Nat → ClassId} {r : (Nat → Int32)} {F : Nat} {ad : Nat → Nat} {pr_size : Int32} {pr_total : Int32} {pr_perNote : Int32} {pr_mostAlike : Int32} {se_mark : Int32} {se_top : Int32} {se_closes : Int32} {se_leastCost : Int32} {se_allLines : Int64} {se_leastLines : Int64} {se_layers : Nat → Int32} {se_nexts : Nat → Int32} {se_traced : Nat → Int32} {a1 : Int32} (hm : m_Search_trace F pr_total se_layers se_nexts se_traced a1 = some r) (sz : Nat) : Cv l y_Search_trace ws_Search_trace rm_Search_trace D kc sz [.ref (ad 23), .int a1] (wd_Search_trace kc ad pr_size pr_total pr_perNote pr_mostAlike se_mark se_top se_closes se_leastCost se_allLines se_leastLines se_layers se_nexts se_traced) (wd_Search_trace kc ad pr_size pr_total pr_perNote pr_mostAlike se_mark se_top se_closes se_leastCost se_allLines se_leastLines se_layers se_nexts r) :=
  Cz_of (Qf := fun A => (Qv D A (wd_Search_trace kc ad pr_size pr_total pr_perNote pr_mostAlike se_mark se_top se_closes se_leastCost se_allLines se_leastLines se_layers se_nexts r))) (cc := b_Search_trace) (maxL := 4) (ret := none) (by decide) rfl rfl (fun C hZ hl => e_Search_trace C hm hZ hl)
end
