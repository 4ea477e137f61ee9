section
variable {p : Program} {l : Launch} {e : Env} {s : State} {m : MethodId} {args : Array Value} {below : List Frame} {meth : Method} {c : Code} {D : va_G} {kc : Nat → ClassId} {A : Nat → Prop}
abbrev b_Search_stateAfter : ByteArray := prog_6_method_10_code
abbrev y_Search_stateAfter : MethodName := ⟨"SpeciesSolver$Search", "stateAfter", "(III)I"⟩
theorem d_Search_stateAfter_0 : decode b_Search_stateAfter 0 = .ok (.iload_n 2, 1) := by decide +kernel
theorem d_Search_stateAfter_1 : decode b_Search_stateAfter 1 = .ok (.bipush 7, 2) := by decide +kernel
theorem d_Search_stateAfter_3 : decode b_Search_stateAfter 3 = .ok (.iand, 1) := by decide +kernel
theorem d_Search_stateAfter_4 : decode b_Search_stateAfter 4 = .ok (.istore 4, 2) := by decide +kernel
theorem d_Search_stateAfter_6 : decode b_Search_stateAfter 6 = .ok (.aload_n 0, 1) := by decide +kernel
theorem d_Search_stateAfter_7 : decode b_Search_stateAfter 7 = .ok (.getfield 69, 3) := by decide +kernel
theorem d_Search_stateAfter_10 : decode b_Search_stateAfter 10 = .ok (.iload_n 1, 1) := by decide +kernel
theorem d_Search_stateAfter_11 : decode b_Search_stateAfter 11 = .ok (.iload 4, 2) := by decide +kernel
theorem d_Search_stateAfter_13 : decode b_Search_stateAfter 13 = .ok (.iload_n 3, 1) := by decide +kernel
theorem d_Search_stateAfter_14 : decode b_Search_stateAfter 14 = .ok (.invokevirtual 131, 3) := by decide +kernel
theorem d_Search_stateAfter_17 : decode b_Search_stateAfter 17 = .ok (.ifCond .eq 8, 3) := by decide +kernel
theorem d_Search_stateAfter_20 : decode b_Search_stateAfter 20 = .ok (.iload 4, 2) := by decide +kernel
theorem d_Search_stateAfter_22 : decode b_Search_stateAfter 22 = .ok (.goto 4, 3) := by decide +kernel
theorem d_Search_stateAfter_25 : decode b_Search_stateAfter 25 = .ok (.iload_n 3, 1) := by decide +kernel
theorem d_Search_stateAfter_26 : decode b_Search_stateAfter 26 = .ok (.istore 5, 2) := by decide +kernel
theorem d_Search_stateAfter_28 : decode b_Search_stateAfter 28 = .ok (.iload_n 1, 1) := by decide +kernel
theorem d_Search_stateAfter_29 : decode b_Search_stateAfter 29 = .ok (.aload_n 0, 1) := by decide +kernel
theorem d_Search_stateAfter_30 : decode b_Search_stateAfter 30 = .ok (.getfield 69, 3) := by decide +kernel
theorem d_Search_stateAfter_33 : decode b_Search_stateAfter 33 = .ok (.getfield 135, 3) := by decide +kernel
theorem d_Search_stateAfter_36 : decode b_Search_stateAfter 36 = .ok (.irem, 1) := by decide +kernel
theorem d_Search_stateAfter_37 : decode b_Search_stateAfter 37 = .ok (.ifCond .ne 7, 3) := by decide +kernel
theorem d_Search_stateAfter_40 : decode b_Search_stateAfter 40 = .ok (.iload_n 3, 1) := by decide +kernel
theorem d_Search_stateAfter_41 : decode b_Search_stateAfter 41 = .ok (.goto 10, 3) := by decide +kernel
theorem d_Search_stateAfter_44 : decode b_Search_stateAfter 44 = .ok (.iload_n 2, 1) := by decide +kernel
theorem d_Search_stateAfter_45 : decode b_Search_stateAfter 45 = .ok (.bipush 6, 2) := by decide +kernel
theorem d_Search_stateAfter_47 : decode b_Search_stateAfter 47 = .ok (.ishr, 1) := by decide +kernel
theorem d_Search_stateAfter_48 : decode b_Search_stateAfter 48 = .ok (.bipush 7, 2) := by decide +kernel
theorem d_Search_stateAfter_50 : decode b_Search_stateAfter 50 = .ok (.iand, 1) := by decide +kernel
theorem d_Search_stateAfter_51 : decode b_Search_stateAfter 51 = .ok (.istore 6, 2) := by decide +kernel
theorem d_Search_stateAfter_53 : decode b_Search_stateAfter 53 = .ok (.iload_n 3, 1) := by decide +kernel
theorem d_Search_stateAfter_54 : decode b_Search_stateAfter 54 = .ok (.aload_n 0, 1) := by decide +kernel
theorem d_Search_stateAfter_55 : decode b_Search_stateAfter 55 = .ok (.getfield 48, 3) := by decide +kernel
theorem d_Search_stateAfter_58 : decode b_Search_stateAfter 58 = .ok (.if_icmp .ne 7, 3) := by decide +kernel
theorem d_Search_stateAfter_61 : decode b_Search_stateAfter 61 = .ok (.iconst 1, 1) := by decide +kernel
theorem d_Search_stateAfter_62 : decode b_Search_stateAfter 62 = .ok (.goto 9, 3) := by decide +kernel
theorem d_Search_stateAfter_65 : decode b_Search_stateAfter 65 = .ok (.iload_n 2, 1) := by decide +kernel
theorem d_Search_stateAfter_66 : decode b_Search_stateAfter 66 = .ok (.bipush 9, 2) := by decide +kernel
theorem d_Search_stateAfter_68 : decode b_Search_stateAfter 68 = .ok (.ishr, 1) := by decide +kernel
theorem d_Search_stateAfter_69 : decode b_Search_stateAfter 69 = .ok (.iconst 1, 1) := by decide +kernel
theorem d_Search_stateAfter_70 : decode b_Search_stateAfter 70 = .ok (.iand, 1) := by decide +kernel
theorem d_Search_stateAfter_71 : decode b_Search_stateAfter 71 = .ok (.istore 7, 2) := by decide +kernel
theorem d_Search_stateAfter_73 : decode b_Search_stateAfter 73 = .ok (.iload_n 3, 1) := by decide +kernel
theorem d_Search_stateAfter_74 : decode b_Search_stateAfter 74 = .ok (.iload 4, 2) := by decide +kernel
theorem d_Search_stateAfter_76 : decode b_Search_stateAfter 76 = .ok (.if_icmp .ne 22, 3) := by decide +kernel
theorem d_Search_stateAfter_79 : decode b_Search_stateAfter 79 = .ok (.aload_n 0, 1) := by decide +kernel
theorem d_Search_stateAfter_80 : decode b_Search_stateAfter 80 = .ok (.getfield 69, 3) := by decide +kernel
theorem d_Search_stateAfter_83 : decode b_Search_stateAfter 83 = .ok (.getfield 138, 3) := by decide +kernel
theorem d_Search_stateAfter_86 : decode b_Search_stateAfter 86 = .ok (.ifCond .le 12, 3) := by decide +kernel
theorem d_Search_stateAfter_89 : decode b_Search_stateAfter 89 = .ok (.iload_n 2, 1) := by decide +kernel
theorem d_Search_stateAfter_90 : decode b_Search_stateAfter 90 = .ok (.bipush 10, 2) := by decide +kernel
theorem d_Search_stateAfter_92 : decode b_Search_stateAfter 92 = .ok (.ishr, 1) := by decide +kernel
theorem d_Search_stateAfter_93 : decode b_Search_stateAfter 93 = .ok (.iconst 1, 1) := by decide +kernel
theorem d_Search_stateAfter_94 : decode b_Search_stateAfter 94 = .ok (.iadd, 1) := by decide +kernel
theorem d_Search_stateAfter_95 : decode b_Search_stateAfter 95 = .ok (.goto 4, 3) := by decide +kernel
theorem d_Search_stateAfter_98 : decode b_Search_stateAfter 98 = .ok (.iconst 0, 1) := by decide +kernel
theorem d_Search_stateAfter_99 : decode b_Search_stateAfter 99 = .ok (.istore 8, 2) := by decide +kernel
theorem d_Search_stateAfter_101 : decode b_Search_stateAfter 101 = .ok (.iload_n 3, 1) := by decide +kernel
theorem d_Search_stateAfter_102 : decode b_Search_stateAfter 102 = .ok (.iload 5, 2) := by decide +kernel
theorem d_Search_stateAfter_104 : decode b_Search_stateAfter 104 = .ok (.iconst 3, 1) := by decide +kernel
theorem d_Search_stateAfter_105 : decode b_Search_stateAfter 105 = .ok (.ishl, 1) := by decide +kernel
theorem d_Search_stateAfter_106 : decode b_Search_stateAfter 106 = .ok (.ior, 1) := by decide +kernel
theorem d_Search_stateAfter_107 : decode b_Search_stateAfter 107 = .ok (.iload 6, 2) := by decide +kernel
theorem d_Search_stateAfter_109 : decode b_Search_stateAfter 109 = .ok (.bipush 6, 2) := by decide +kernel
theorem d_Search_stateAfter_111 : decode b_Search_stateAfter 111 = .ok (.ishl, 1) := by decide +kernel
theorem d_Search_stateAfter_112 : decode b_Search_stateAfter 112 = .ok (.ior, 1) := by decide +kernel
theorem d_Search_stateAfter_113 : decode b_Search_stateAfter 113 = .ok (.iload 7, 2) := by decide +kernel
theorem d_Search_stateAfter_115 : decode b_Search_stateAfter 115 = .ok (.bipush 9, 2) := by decide +kernel
theorem d_Search_stateAfter_117 : decode b_Search_stateAfter 117 = .ok (.ishl, 1) := by decide +kernel
theorem d_Search_stateAfter_118 : decode b_Search_stateAfter 118 = .ok (.ior, 1) := by decide +kernel
theorem d_Search_stateAfter_119 : decode b_Search_stateAfter 119 = .ok (.iload 8, 2) := by decide +kernel
theorem d_Search_stateAfter_121 : decode b_Search_stateAfter 121 = .ok (.bipush 10, 2) := by decide +kernel
theorem d_Search_stateAfter_123 : decode b_Search_stateAfter 123 = .ok (.ishl, 1) := by decide +kernel
theorem d_Search_stateAfter_124 : decode b_Search_stateAfter 124 = .ok (.ior, 1) := by decide +kernel
theorem d_Search_stateAfter_125 : decode b_Search_stateAfter 125 = .ok (.ireturn, 1) := by decide +kernel
abbrev wd_Search_stateAfter (kc : Nat → ClassId) (ad : Nat → Nat) (pr_size : Int32) (pr_total : Int32) (pr_perNote : Int32) (pr_mostAlike : Int32) (pr_mustPass : Nat → Int32) (pr_mustTurn : Nat → Int32) (se_mark : Int32) (se_top : Int32) (se_closes : Int32) (se_leastCost : Int32) (se_allLines : Int64) (se_leastLines : Int64) : va_W := [((ad 13), .inr (4, [.ref (ad 1), .ref (ad 8), .ref (ad 14), .ref (ad 15), .ref (ad 16), .ref (ad 17), .ref (ad 18), .ref (ad 19), .ref (ad 20), .ref (ad 21), .ref (ad 22), .int pr_size, .int pr_total, .int pr_perNote, .int pr_mostAlike])), ((ad 16), .inl (kc 1, 360, .inl pr_mustPass)), ((ad 18), .inl (kc 1, 64, .inl pr_mustTurn)), ((ad 23), .inr (6, [.ref (ad 1), .ref (ad 13), .ref (ad 24), .ref (ad 25), .ref (ad 26), .ref (ad 27), .ref (ad 28), .int se_mark, .ref (ad 29), .ref (ad 30), .ref (ad 31), .ref (ad 32), .ref (ad 33), .int se_top, .int se_closes, .int se_leastCost, .long se_allLines, .long se_leastLines]))]
abbrev rm_Search_stateAfter : Room := { frames := 1, cells := 0, slots := 0, locals := 23 }
abbrev cw_Search_stateAfter : Cond := .code y_Search_stateAfter b_Search_stateAfter 9 (some .int)
abbrev ws_Search_stateAfter : List Cond := cw_Search_stateAfter :: GW
theorem hd_Search_stateAfter : y_Search_stateAfter.cls ≠ "java/lang/invoke/MethodHandle" ∧ y_Search_stateAfter.cls ≠ "java/lang/invoke/VarHandle" ∧ (parseMethodDescriptor y_Search_stateAfter.desc).map (fun d => d.parameters.length) = some 3 := by decide +kernel
def m_Search_stateAfter_99 (pr_perNote : Int32) (pr_mostAlike : Int32) (pr_mustPass : Nat → Int32) (pr_mustTurn : Nat → Int32) (se_top : Int32)   (x3 : Int32) (x5 : Int32) (x6 : Int32) (x7 : Int32) (t0 : Int32) : Option (Int32) :=
  (some ((((x3 ||| (x5 <<< ((3 : Int32) &&& 31))) ||| (x6 <<< ((6 : Int32) &&& 31))) ||| (x7 <<< ((9 : Int32) &&& 31))) ||| (t0 <<< ((10 : Int32) &&& 31))))
set_option maxHeartbeats 4000000 in
set_option maxRecDepth 100000 in
theorem l_Search_stateAfter_99 {r : Int32} {ad : Nat → Nat} {pr_size : Int32} {pr_total : Int32} {pr_perNote : Int32} {pr_mostAlike : Int32} {pr_mustPass : Nat → Int32} {pr_mustTurn : Nat → Int32} {se_mark : Int32} {se_top : Int32} {se_closes : Int32} {se_leastCost : Int32} {se_allLines : Int64} {se_leastLines : Int64}  {x3 : Int32} {x5 : Int32} {x6 : Int32} {x7 : Int32} {t0 : Int32} {H : Heap} {locs : List Loc} {ls : Array Slot} (C : Cx p s m meth c args A D kc R_Search b_Search_stateAfter 9 (some .int))  (hm : m_Search_stateAfter_99 pr_perNote pr_mostAlike pr_mustPass pr_mustTurn se_top  x3 x5 x6 x7 t0 = some r) (hZ : St D A s (wd_Search_stateAfter kc ad pr_size pr_total pr_perNote pr_mostAlike pr_mustPass pr_mustTurn se_mark se_top se_closes se_leastCost se_allLines se_leastLines) H locs) (hl : lv_has ls 9 [(3, .int x3), (5, .int x5), (6, .int x6), (7, .int x7)]) : W p l e rm_Search_stateAfter s m args below meth c H locs 0 0 (MQ below (Qi D A (wd_Search_stateAfter kc ad pr_size pr_total pr_perNote pr_mostAlike pr_mustPass pr_mustTurn se_mark se_top se_closes se_leastCost se_allLines se_leastLines) r) args s 0 0 A) (F0 m 99 ls [.int t0]) := by
  obtain ⟨hx, hb, hr, hts, hown, hml, hlocks, hK, hN, hA, hX⟩ := id C
  obtain ⟨hP, hD, hS⟩ := hZ
  unfold m_Search_stateAfter_99 at hm
  refine lv_istore (lv' := [(8, .int t0), (3, .int x3), (5, .int x5), (6, .int x6), (7, .int x7)]) hx hb d_Search_stateAfter_99 hl (by decide) rfl (fun ls hl => ?_)
  refine lv_iload_n hx hb d_Search_stateAfter_101 rfl (lv_at hl 1 rfl) ?_
  refine lv_iload hx hb d_Search_stateAfter_102 (lv_at hl 2 rfl) ?_
  refine lv_iconst (v := 3) hx hb d_Search_stateAfter_104 (by decide) ?_
  refine lv_ishl hx hb d_Search_stateAfter_105 ?_
  refine lv_ior hx hb d_Search_stateAfter_106 ?_
  refine lv_iload hx hb d_Search_stateAfter_107 (lv_at hl 3 rfl) ?_
  refine lv_bipush (v := 6) hx hb d_Search_stateAfter_109 (by decide) ?_
  refine lv_ishl hx hb d_Search_stateAfter_111 ?_
  refine lv_ior hx hb d_Search_stateAfter_112 ?_
  refine lv_iload hx hb d_Search_stateAfter_113 (lv_at hl 4 rfl) ?_
  refine lv_bipush (v := 9) hx hb d_Search_stateAfter_115 (by decide) ?_
  refine lv_ishl hx hb d_Search_stateAfter_117 ?_
  refine lv_ior hx hb d_Search_stateAfter_118 ?_
  refine lv_iload hx hb d_Search_stateAfter_119 (lv_at hl 0 rfl) ?_
  refine lv_bipush (v := 10) hx hb d_Search_stateAfter_121 (by decide) ?_
  refine lv_ishl hx hb d_Search_stateAfter_123 ?_
  refine lv_ior hx hb d_Search_stateAfter_124 ?_
  replace hm := Option.some.inj hm; subst hm
  exact zret_i C hP hD hS d_Search_stateAfter_125
def m_Search_stateAfter_98 (pr_perNote : Int32) (pr_mostAlike : Int32) (pr_mustPass : Nat → Int32) (pr_mustTurn : Nat → Int32) (se_top : Int32)   (x3 : Int32) (x5 : Int32) (x6 : Int32) (x7 : Int32) : Option (Int32) :=
  m_Search_stateAfter_99 pr_perNote pr_mostAlike pr_mustPass pr_mustTurn se_top  x3 x5 x6 x7 (0 : Int32)
set_option maxHeartbeats 4000000 in
set_option maxRecDepth 100000 in
theorem l_Search_stateAfter_98 {r : Int32} {ad : Nat → Nat} {pr_size : Int32} {pr_total : Int32} {pr_perNote : Int32} {pr_mostAlike : Int32} {pr_mustPass : Nat → Int32} {pr_mustTurn : Nat → Int32} {se_mark : Int32} {se_top : Int32} {se_closes : Int32} {se_leastCost : Int32} {se_allLines : Int64} {se_leastLines : Int64}  {x3 : Int32} {x5 : Int32} {x6 : Int32} {x7 : Int32} {H : Heap} {locs : List Loc} {ls : Array Slot} (C : Cx p s m meth c args A D kc R_Search b_Search_stateAfter 9 (some .int))  (hm : m_Search_stateAfter_98 pr_perNote pr_mostAlike pr_mustPass pr_mustTurn se_top  x3 x5 x6 x7 = some r) (hZ : St D A s (wd_Search_stateAfter kc ad pr_size pr_total pr_perNote pr_mostAlike pr_mustPass pr_mustTurn se_mark se_top se_closes se_leastCost se_allLines se_leastLines) H locs) (hl : lv_has ls 9 [(3, .int x3), (5, .int x5), (6, .int x6), (7, .int x7)]) : W p l e rm_Search_stateAfter s m args below meth c H locs 0 0 (MQ below (Qi D A (wd_Search_stateAfter kc ad pr_size pr_total pr_perNote pr_mostAlike pr_mustPass pr_mustTurn se_mark se_top se_closes se_leastCost se_allLines se_leastLines) r) args s 0 0 A) (F0 m 98 ls []) := by
  obtain ⟨hx, hb, hr, hts, hown, hml, hlocks, hK, hN, hA, hX⟩ := id C
  obtain ⟨hP, hD, hS⟩ := hZ
  unfold m_Search_stateAfter_98 at hm
  refine lv_iconst (v := 0) hx hb d_Search_stateAfter_98 (by decide) ?_
  exact l_Search_stateAfter_99 C  hm ⟨hP, hD, hS⟩ (lv_sub hl [0, 1, 2, 3] rfl)
def m_Search_stateAfter_71 (pr_perNote : Int32) (pr_mostAlike : Int32) (pr_mustPass : Nat → Int32) (pr_mustTurn : Nat → Int32) (se_top : Int32)   (x2 : Int32) (x3 : Int32) (x4 : Int32) (x5 : Int32) (x6 : Int32) (t0 : Int32) : Option (Int32) :=
  (if x3 = x4 then
    (if pr_mostAlike ≤ (0 : Int32) then
      m_Search_stateAfter_98 pr_perNote pr_mostAlike pr_mustPass pr_mustTurn se_top  x3 x5 x6 t0
    else
      m_Search_stateAfter_99 pr_perNote pr_mostAlike pr_mustPass pr_mustTurn se_top  x3 x5 x6 t0 ((x2 >>> ((10 : Int32) &&& 31)) + (1 : Int32)))
  else
    m_Search_stateAfter_98 pr_perNote pr_mostAlike pr_mustPass pr_mustTurn se_top  x3 x5 x6 t0)
set_option maxHeartbeats 4000000 in
set_option maxRecDepth 100000 in
theorem l_Search_stateAfter_71 {r : Int32} {ad : Nat → Nat} {pr_size : Int32} {pr_total : Int32} {pr_perNote : Int32} {pr_mostAlike : Int32} {pr_mustPass : Nat → Int32} {pr_mustTurn : Nat → Int32} {se_mark : Int32} {se_top : Int32} {se_closes : Int32} {se_leastCost : Int32} {se_allLines : Int64} {se_leastLines : Int64}  {x2 : Int32} {x3 : Int32} {x4 : Int32} {x5 : Int32} {x6 : Int32} {t0 : Int32} {H : Heap} {locs : List Loc} {ls : Array Slot} (C : Cx p s m meth c args A D kc R_Search b_Search_stateAfter 9 (some .int))  (hm : m_Search_stateAfter_71 pr_perNote pr_mostAlike pr_mustPass pr_mustTurn se_top  x2 x3 x4 x5 x6 t0 = some r) (hZ : St D A s (wd_Search_stateAfter kc ad pr_size pr_total pr_perNote pr_mostAlike pr_mustPass pr_mustTurn se_mark se_top se_closes se_leastCost se_allLines se_leastLines) H locs) (hl : lv_has ls 9 [(0, .ref (ad 23)), (2, .int x2), (3, .int x3), (4, .int x4), (5, .int x5), (6, .int x6)]) : W p l e rm_Search_stateAfter s m args below meth c H locs 0 0 (MQ below (Qi D A (wd_Search_stateAfter kc ad pr_size pr_total pr_perNote pr_mostAlike pr_mustPass pr_mustTurn se_mark se_top se_closes se_leastCost se_allLines se_leastLines) r) args s 0 0 A) (F0 m 71 ls [.int t0]) := by
  obtain ⟨hx, hb, hr, hts, hown, hml, hlocks, hK, hN, hA, hX⟩ := id C
  obtain ⟨hP, hD, hS⟩ := hZ
  unfold m_Search_stateAfter_71 at hm
  refine lv_istore (lv' := [(7, .int t0), (0, .ref (ad 23)), (2, .int x2), (3, .int x3), (4, .int x4), (5, .int x5), (6, .int x6)]) hx hb d_Search_stateAfter_71 hl (by decide) rfl (fun ls hl => ?_)
  refine lv_iload_n hx hb d_Search_stateAfter_73 rfl (lv_at hl 3 rfl) ?_
  refine lv_iload hx hb d_Search_stateAfter_74 (lv_at hl 4 rfl) ?_
  refine lv_icmp_ne (tgt := 98) hx hb d_Search_stateAfter_76 (by decide) (fun c1 => ?_) (fun c1 => ?_)
  · replace hm := ifF hm c1
    exact l_Search_stateAfter_98 C  hm ⟨hP, hD, hS⟩ (lv_sub hl [3, 5, 6, 0] rfl)
  · replace hm := ifT hm c1
    refine lv_aload_n hx hb d_Search_stateAfter_79 rfl (lv_at hl 1 rfl) ?_
    refine va_get (D := D) (ci := 6) (v := .ref (ad 13)) (C := R_Search) (T := T_Search) (N := 18) hx hb hts inG_Search hown hK hP 3 rfl rfl 1 (by decide) (hts _ gw_310) (fun _ h9 => h9) rfl d_Search_stateAfter_80 ?_
    refine va_getN (D := D) (ci := 4) (v := .int pr_mostAlike) (C := R_Prices) (T := T_Prices) (N := 15) hx hb hts inG_Prices hown hK hP 0 rfl rfl 14 (by decide) (va_Nw.use rfl (hN _ nw_270)) (fun _ h9 => h9) rfl d_Search_stateAfter_83 ?_
    refine lv_if_le (tgt := 98) hx hb d_Search_stateAfter_86 (by decide) (fun c2 => ?_) (fun c2 => ?_)
    · replace hm := ifT hm c2
      exact l_Search_stateAfter_98 C  hm ⟨hP, hD, hS⟩ (lv_sub hl [3, 5, 6, 0] rfl)
    · replace hm := ifF hm c2
      refine lv_iload_n hx hb d_Search_stateAfter_89 rfl (lv_at hl 2 rfl) ?_
      refine lv_bipush (v := 10) hx hb d_Search_stateAfter_90 (by decide) ?_
      refine lv_ishr hx hb d_Search_stateAfter_92 ?_
      refine lv_iconst (v := 1) hx hb d_Search_stateAfter_93 (by decide) ?_
      refine lv_iadd hx hb d_Search_stateAfter_94 ?_
      refine lv_goto (tgt := 99) hx hb d_Search_stateAfter_95 (by decide) ?_
      exact l_Search_stateAfter_99 C  hm ⟨hP, hD, hS⟩ (lv_sub hl [3, 5, 6, 0] rfl)
def m_Search_stateAfter_51 (pr_perNote : Int32) (pr_mostAlike : Int32) (pr_mustPass : Nat → Int32) (pr_mustTurn : Nat → Int32) (se_top : Int32)   (x2 : Int32) (x3 : Int32) (x4 : Int32) (x5 : Int32) (t0 : Int32) : Option (Int32) :=
  (if x3 = se_top then
    m_Search_stateAfter_71 pr_perNote pr_mostAlike pr_mustPass pr_mustTurn se_top  x2 x3 x4 x5 t0 (1 : Int32)
  else
    m_Search_stateAfter_71 pr_perNote pr_mostAlike pr_mustPass pr_mustTurn se_top  x2 x3 x4 x5 t0 ((x2 >>> ((9 : Int32) &&& 31)) &&& (1 : Int32)))
set_option maxHeartbeats 4000000 in
set_option maxRecDepth 100000 in
theorem l_Search_stateAfter_51 {r : Int32} {ad : Nat → Nat} {pr_size : Int32} {pr_total : Int32} {pr_perNote : Int32} {pr_mostAlike : Int32} {pr_mustPass : Nat → Int32} {pr_mustTurn : Nat → Int32} {se_mark : Int32} {se_top : Int32} {se_closes : Int32} {se_leastCost : Int32} {se_allLines : Int64} {se_leastLines : Int64}  {x2 : Int32} {x3 : Int32} {x4 : Int32} {x5 : Int32} {t0 : Int32} {H : Heap} {locs : List Loc} {ls : Array Slot} (C : Cx p s m meth c args A D kc R_Search b_Search_stateAfter 9 (some .int))  (hm : m_Search_stateAfter_51 pr_perNote pr_mostAlike pr_mustPass pr_mustTurn se_top  x2 x3 x4 x5 t0 = some r) (hZ : St D A s (wd_Search_stateAfter kc ad pr_size pr_total pr_perNote pr_mostAlike pr_mustPass pr_mustTurn se_mark se_top se_closes se_leastCost se_allLines se_leastLines) H locs) (hl : lv_has ls 9 [(0, .ref (ad 23)), (2, .int x2), (3, .int x3), (4, .int x4), (5, .int x5)]) : W p l e rm_Search_stateAfter s m args below meth c H locs 0 0 (MQ below (Qi D A (wd_Search_stateAfter kc ad pr_size pr_total pr_perNote pr_mostAlike pr_mustPass pr_mustTurn se_mark se_top se_closes se_leastCost se_allLines se_leastLines) r) args s 0 0 A) (F0 m 51 ls [.int t0]) := by
  obtain ⟨hx, hb, hr, hts, hown, hml, hlocks, hK, hN, hA, hX⟩ := id C
  obtain ⟨hP, hD, hS⟩ := hZ
  unfold m_Search_stateAfter_51 at hm
  refine lv_istore (lv' := [(6, .int t0), (0, .ref (ad 23)), (2, .int x2), (3, .int x3), (4, .int x4), (5, .int x5)]) hx hb d_Search_stateAfter_51 hl (by decide) rfl (fun ls hl => ?_)
  refine lv_iload_n hx hb d_Search_stateAfter_53 rfl (lv_at hl 3 rfl) ?_
  refine lv_aload_n hx hb d_Search_stateAfter_54 rfl (lv_at hl 1 rfl) ?_
  refine va_get (D := D) (ci := 6) (v := .int se_top) (C := R_Search) (T := T_Search) (N := 18) hx hb hts inG_Search hown hK hP 3 rfl rfl 13 (by decide) (hts _ gw_322) (fun _ h9 => h9) rfl d_Search_stateAfter_55 ?_
  refine lv_icmp_ne (tgt := 65) hx hb d_Search_stateAfter_58 (by decide) (fun c1 => ?_) (fun c1 => ?_)
  · replace hm := ifF hm c1
    refine lv_iload_n hx hb d_Search_stateAfter_65 rfl (lv_at hl 2 rfl) ?_
    refine lv_bipush (v := 9) hx hb d_Search_stateAfter_66 (by decide) ?_
    refine lv_ishr hx hb d_Search_stateAfter_68 ?_
    refine lv_iconst (v := 1) hx hb d_Search_stateAfter_69 (by decide) ?_
    refine lv_iand hx hb d_Search_stateAfter_70 ?_
    exact l_Search_stateAfter_71 C  hm ⟨hP, hD, hS⟩ (lv_sub hl [1, 2, 3, 4, 5, 0] rfl)
  · replace hm := ifT hm c1
    refine lv_iconst (v := 1) hx hb d_Search_stateAfter_61 (by decide) ?_
    refine lv_goto (tgt := 71) hx hb d_Search_stateAfter_62 (by decide) ?_
    exact l_Search_stateAfter_71 C  hm ⟨hP, hD, hS⟩ (lv_sub hl [1, 2, 3, 4, 5, 0] rfl)
def m_Search_stateAfter_26 (pr_perNote : Int32) (pr_mostAlike : Int32) (pr_mustPass : Nat → Int32) (pr_mustTurn : Nat → Int32) (se_top : Int32)   (x1 : Int32) (x2 : Int32) (x3 : Int32) (x4 : Int32) (t0 : Int32) : Option (Int32) :=
  (nz pr_perNote (if (x1 - x1 / pr_perNote * pr_perNote) = (0 : Int32) then
    m_Search_stateAfter_51 pr_perNote pr_mostAlike pr_mustPass pr_mustTurn se_top  x2 x3 x4 t0 x3
  else
    m_Search_stateAfter_51 pr_perNote pr_mostAlike pr_mustPass pr_mustTurn se_top  x2 x3 x4 t0 ((x2 >>> ((6 : Int32) &&& 31)) &&& (7 : Int32))))
set_option maxHeartbeats 4000000 in
set_option maxRecDepth 100000 in
theorem l_Search_stateAfter_26 {r : Int32} {ad : Nat → Nat} {pr_size : Int32} {pr_total : Int32} {pr_perNote : Int32} {pr_mostAlike : Int32} {pr_mustPass : Nat → Int32} {pr_mustTurn : Nat → Int32} {se_mark : Int32} {se_top : Int32} {se_closes : Int32} {se_leastCost : Int32} {se_allLines : Int64} {se_leastLines : Int64}  {x1 : Int32} {x2 : Int32} {x3 : Int32} {x4 : Int32} {t0 : Int32} {H : Heap} {locs : List Loc} {ls : Array Slot} (C : Cx p s m meth c args A D kc R_Search b_Search_stateAfter 9 (some .int))  (hm : m_Search_stateAfter_26 pr_perNote pr_mostAlike pr_mustPass pr_mustTurn se_top  x1 x2 x3 x4 t0 = some r) (hZ : St D A s (wd_Search_stateAfter kc ad pr_size pr_total pr_perNote pr_mostAlike pr_mustPass pr_mustTurn se_mark se_top se_closes se_leastCost se_allLines se_leastLines) H locs) (hl : lv_has ls 9 [(0, .ref (ad 23)), (1, .int x1), (2, .int x2), (3, .int x3), (4, .int x4)]) : W p l e rm_Search_stateAfter s m args below meth c H locs 0 0 (MQ below (Qi D A (wd_Search_stateAfter kc ad pr_size pr_total pr_perNote pr_mostAlike pr_mustPass pr_mustTurn se_mark se_top se_closes se_leastCost se_allLines se_leastLines) r) args s 0 0 A) (F0 m 26 ls [.int t0]) := by
  obtain ⟨hx, hb, hr, hts, hown, hml, hlocks, hK, hN, hA, hX⟩ := id C
  obtain ⟨hP, hD, hS⟩ := hZ
  unfold m_Search_stateAfter_26 at hm
  refine lv_istore (lv' := [(5, .int t0), (0, .ref (ad 23)), (1, .int x1), (2, .int x2), (3, .int x3), (4, .int x4)]) hx hb d_Search_stateAfter_26 hl (by decide) rfl (fun ls hl => ?_)
  refine lv_iload_n hx hb d_Search_stateAfter_28 rfl (lv_at hl 2 rfl) ?_
  refine lv_aload_n hx hb d_Search_stateAfter_29 rfl (lv_at hl 1 rfl) ?_
  refine va_get (D := D) (ci := 6) (v := .ref (ad 13)) (C := R_Search) (T := T_Search) (N := 18) hx hb hts inG_Search hown hK hP 3 rfl rfl 1 (by decide) (hts _ gw_310) (fun _ h9 => h9) rfl d_Search_stateAfter_30 ?_
  refine va_getN (D := D) (ci := 4) (v := .int pr_perNote) (C := R_Prices) (T := T_Prices) (N := 15) hx hb hts inG_Prices hown hK hP 0 rfl rfl 13 (by decide) (va_Nw.use rfl (hN _ nw_268)) (fun _ h9 => h9) rfl d_Search_stateAfter_33 ?_
  obtain ⟨hz1, hm⟩ := nz_some hm
  refine lv_irem hx hb d_Search_stateAfter_36 hz1 ?_
  refine lv_if_ne (tgt := 44) hx hb d_Search_stateAfter_37 (by decide) (fun c2 => ?_) (fun c2 => ?_)
  · replace hm := ifF hm c2
    refine lv_iload_n hx hb d_Search_stateAfter_44 rfl (lv_at hl 3 rfl) ?_
    refine lv_bipush (v := 6) hx hb d_Search_stateAfter_45 (by decide) ?_
    refine lv_ishr hx hb d_Search_stateAfter_47 ?_
    refine lv_bipush (v := 7) hx hb d_Search_stateAfter_48 (by decide) ?_
    refine lv_iand hx hb d_Search_stateAfter_50 ?_
    exact l_Search_stateAfter_51 C  hm ⟨hP, hD, hS⟩ (lv_sub hl [1, 3, 4, 5, 0] rfl)
  · replace hm := ifT hm c2
    refine lv_iload_n hx hb d_Search_stateAfter_40 rfl (lv_at hl 4 rfl) ?_
    refine lv_goto (tgt := 51) hx hb d_Search_stateAfter_41 (by decide) ?_
    exact l_Search_stateAfter_51 C  hm ⟨hP, hD, hS⟩ (lv_sub hl [1, 3, 4, 5, 0] rfl)
def m_Search_stateAfter (pr_perNote : Int32) (pr_mostAlike : Int32) (pr_mustPass : Nat → Int32) (pr_mustTurn : Nat → Int32) (se_top : Int32)  (a1 : Int32) (a2 : Int32) (a3 : Int32) : Option (Int32) :=
  (bd (m_Prices_looksBack pr_mustPass pr_mustTurn a1 (a2 &&& (7 : Int32)) a3) (fun u1 => (if u1 = (0 : Int32) then
    m_Search_stateAfter_26 pr_perNote pr_mostAlike pr_mustPass pr_mustTurn se_top  a1 a2 a3 (a2 &&& (7 : Int32)) a3
  else
    m_Search_stateAfter_26 pr_perNote pr_mostAlike pr_mustPass pr_mustTurn se_top  a1 a2 a3 (a2 &&& (7 : Int32)) (a2 &&& (7 : Int32)))))
set_option maxHeartbeats 4000000 in
set_option maxRecDepth 100000 in
theorem e_Search_stateAfter {r : Int32} {ad : Nat → Nat} {pr_size : Int32} {pr_total : Int32} {pr_perNote : Int32} {pr_mostAlike : Int32} {pr_mustPass : Nat → Int32} {pr_mustTurn : Nat → Int32} {se_mark : Int32} {se_top : Int32} {se_closes : Int32} {se_leastCost : Int32} {se_allLines : Int64} {se_leastLines : Int64} {a1 : Int32} {a2 : Int32} {a3 : Int32} {H : Heap} {locs : List Loc} {ls : Array Slot} (C : Cx p s m meth c args A D kc R_Search b_Search_stateAfter 9 (some .int)) (hm : m_Search_stateAfter pr_perNote pr_mostAlike pr_mustPass pr_mustTurn se_top a1 a2 a3 = some r) (hZ : St D A s (wd_Search_stateAfter kc ad pr_size pr_total pr_perNote pr_mostAlike pr_mustPass pr_mustTurn se_mark se_top se_closes se_leastCost se_allLines se_leastLines) H locs) (hl : lv_has ls 9 [(0, .ref (ad 23)), (1, .int a1), (2, .int a2), (3, .int a3)]) : W p l e rm_Search_stateAfter s m args below meth c H locs 0 0 (MQ below (Qi D A (wd_Search_stateAfter kc ad pr_size pr_total pr_perNote pr_mostAlike pr_mustPass pr_mustTurn se_mark se_top se_closes se_leastCost se_allLines se_leastLines) r) args s 0 0 A) (F0 m 0 ls []) := by
  obtain ⟨hx, hb, hr, hts, hown, hml, hlocks, hK, hN, hA, hX⟩ := id C
  obtain ⟨hP, hD, hS⟩ := hZ
  unfold m_Search_stateAfter at hm
  refine lv_iload_n hx hb d_Search_stateAfter_0 rfl (lv_at hl 2 rfl) ?_
  refine lv_bipush (v := 7) hx hb d_Search_stateAfter_1 (by decide) ?_
  refine lv_iand hx hb d_Search_stateAfter_3 ?_
  refine lv_istore (lv' := [(4, .int (a2 &&& (7 : Int32))), (0, .ref (ad 23)), (1, .int a1), (2, .int a2), (3, .int a3)]) hx hb d_Search_stateAfter_4 hl (by decide) rfl (fun ls hl => ?_)
  refine lv_aload_n hx hb d_Search_stateAfter_6 rfl (lv_at hl 1 rfl) ?_
  refine va_get (D := D) (ci := 6) (v := .ref (ad 13)) (C := R_Search) (T := T_Search) (N := 18) hx hb hts inG_Search hown hK hP 3 rfl rfl 1 (by decide) (hts _ gw_310) (fun _ h9 => h9) rfl d_Search_stateAfter_7 ?_
  refine lv_iload_n hx hb d_Search_stateAfter_10 rfl (lv_at hl 2 rfl) ?_
  refine lv_iload hx hb d_Search_stateAfter_11 (lv_at hl 0 rfl) ?_
  refine lv_iload_n hx hb d_Search_stateAfter_13 rfl (lv_at hl 4 rfl) ?_
  obtain ⟨u1, hc2, hm⟩ := bd_some hm
  refine zVN_i (n := 3) (wr := [((ad 23), .inr (6, [.ref (ad 1), .ref (ad 13), .ref (ad 24), .ref (ad 25), .ref (ad 26), .ref (ad 27), .ref (ad 28), .int se_mark, .ref (ad 29), .ref (ad 30), .ref (ad 31), .ref (ad 32), .ref (ad 33), .int se_top, .int se_closes, .int se_leastCost, .long se_allLines, .long se_leastLines]))]) (w1 := (wd_Prices_looksBack kc ad pr_size pr_total pr_perNote pr_mostAlike pr_mustPass pr_mustTurn)) (ws1 := (wd_Search_stateAfter kc ad pr_size pr_total pr_perNote pr_mostAlike pr_mustPass pr_mustTurn se_mark se_top se_closes se_leastCost se_allLines se_leastLines)) (As := [.int a1, .int (a2 &&& (7 : Int32)), .int a3]) (rest := []) (ci := 4) (q0 := 0) (y := y_Prices_looksBack) (host := "SpeciesSolver") ⟨hx, hb, hml, hown, hts⟩ (fun sz => c_Prices_looksBack hc2 sz) gw_663 (hN _ nw_660) gw_662 gw_51 gw_116 hd_Prices_looksBack ⟨Nat.le_of_ble_eq_true rfl, Nat.le_of_ble_eq_true rfl⟩ ⟨rfl, rfl⟩ ⟨Nat.zero_le _, Nat.zero_le _⟩ hK hN hP hD hS hA hX [0, 1, 2] [3] [1, 2, 3, 0] rfl rfl (by decide) (by decide) (by decide) rfl (by decide) rfl rfl rfl hl.1 rfl (Nat.le_of_ble_eq_true rfl) d_Search_stateAfter_14 (fun H locs hP hD hS => ?_)
  refine lv_if_eq (tgt := 25) hx hb d_Search_stateAfter_17 (by decide) (fun c3 => ?_) (fun c3 => ?_)
  · replace hm := ifT hm c3
    refine lv_iload_n hx hb d_Search_stateAfter_25 rfl (lv_at hl 4 rfl) ?_
    exact l_Search_stateAfter_26 C  hm ⟨hP, hD, hS⟩ (lv_sub hl [1, 2, 3, 4, 0] rfl)
  · replace hm := ifF hm c3
    refine lv_iload hx hb d_Search_stateAfter_20 (lv_at hl 0 rfl) ?_
    refine lv_goto (tgt := 26) hx hb d_Search_stateAfter_22 (by decide) ?_
    exact l_Search_stateAfter_26 C  hm ⟨hP, hD, hS⟩ (lv_sub hl [1, 2, 3, 4, 0] rfl)
set_option maxHeartbeats 4000000 in
set_option maxRecDepth 100000 in
theorem c_Search_stateAfter {l : Launch} {D : va_G} {kc : Nat → ClassId} {r : Int32} {ad : Nat → Nat} {pr_size : Int32} {pr_total : Int32} {pr_perNote : Int32} {pr_mostAlike : Int32} {pr_mustPass : Nat → Int32} {pr_mustTurn : Nat → Int32} {se_mark : Int32} {se_top : Int32} {se_closes : Int32} {se_leastCost : Int32} {se_allLines : Int64} {se_leastLines : Int64} {a1 : Int32} {a2 : Int32} {a3 : Int32} (hm : m_Search_stateAfter pr_perNote pr_mostAlike pr_mustPass pr_mustTurn se_top a1 a2 a3 = some r) (sz : Nat) : Ci l y_Search_stateAfter ws_Search_stateAfter rm_Search_stateAfter D kc sz [.ref (ad 23), .int a1, .int a2, .int a3] (wd_Search_stateAfter kc ad pr_size pr_total pr_perNote pr_mostAlike pr_mustPass pr_mustTurn se_mark se_top se_closes se_leastCost se_allLines se_leastLines) (wd_Search_stateAfter kc ad pr_size pr_total pr_perNote pr_mostAlike pr_mustPass pr_mustTurn se_mark se_top se_closes se_leastCost se_allLines se_leastLines) r :=
  Cz_of (Qf := fun A => (Qi D A (wd_Search_stateAfter kc ad pr_size pr_total pr_perNote pr_mostAlike pr_mustPass pr_mustTurn se_mark se_top se_closes se_leastCost se_allLines se_leastLines) r)) (cc := b_Search_stateAfter) (maxL := 9) (ret := (some .int)) (by decide) rfl rfl (fun C hZ hl => e_Search_stateAfter C hm hZ hl)
abbrev b_Search_extendTo : ByteArray := prog_6_method_8_code
abbrev y_Search_extendTo : MethodName := ⟨"SpeciesSolver$Search", "extendTo", "(I)V"⟩
theorem d_Search_extendTo_0 : decode b_Search_extendTo 0 = .ok (.aload_n 0, 1) := by decide +kernel
theorem d_Search_extendTo_1 : decode b_Search_extendTo 1 = .ok (.iload_n 1, 1) := by decide +kernel
theorem d_Search_extendTo_2 : decode b_Search_extendTo 2 = .ok (.invokevirtual 107, 3) := by decide +kernel
theorem d_Search_extendTo_5 : decode b_Search_extendTo 5 = .ok (.iconst 0, 1) := by decide +kernel
theorem d_Search_extendTo_6 : decode b_Search_extendTo 6 = .ok (.istore_n 2, 1) := by decide +kernel
theorem d_Search_extendTo_7 : decode b_Search_extendTo 7 = .ok (.iload_n 2, 1) := by decide +kernel
theorem d_Search_extendTo_8 : decode b_Search_extendTo 8 = .ok (.aload_n 0, 1) := by decide +kernel
theorem d_Search_extendTo_9 : decode b_Search_extendTo 9 = .ok (.getfield 16, 3) := by decide +kernel
theorem d_Search_extendTo_12 : decode b_Search_extendTo 12 = .ok (.iload_n 1, 1) := by decide +kernel
theorem d_Search_extendTo_13 : decode b_Search_extendTo 13 = .ok (.iconst 1, 1) := by decide +kernel
theorem d_Search_extendTo_14 : decode b_Search_extendTo 14 = .ok (.isub, 1) := by decide +kernel
theorem d_Search_extendTo_15 : decode b_Search_extendTo 15 = .ok (.iaload, 1) := by decide +kernel
theorem d_Search_extendTo_16 : decode b_Search_extendTo 16 = .ok (.if_icmp .ge 70, 3) := by decide +kernel
theorem d_Search_extendTo_19 : decode b_Search_extendTo 19 = .ok (.aload_n 0, 1) := by decide +kernel
theorem d_Search_extendTo_20 : decode b_Search_extendTo 20 = .ok (.getfield 12, 3) := by decide +kernel
theorem d_Search_extendTo_23 : decode b_Search_extendTo 23 = .ok (.iload_n 1, 1) := by decide +kernel
theorem d_Search_extendTo_24 : decode b_Search_extendTo 24 = .ok (.iconst 1, 1) := by decide +kernel
theorem d_Search_extendTo_25 : decode b_Search_extendTo 25 = .ok (.isub, 1) := by decide +kernel
theorem d_Search_extendTo_26 : decode b_Search_extendTo 26 = .ok (.sipush 1280, 3) := by decide +kernel
theorem d_Search_extendTo_29 : decode b_Search_extendTo 29 = .ok (.imul, 1) := by decide +kernel
theorem d_Search_extendTo_30 : decode b_Search_extendTo 30 = .ok (.iload_n 2, 1) := by decide +kernel
theorem d_Search_extendTo_31 : decode b_Search_extendTo 31 = .ok (.iadd, 1) := by decide +kernel
theorem d_Search_extendTo_32 : decode b_Search_extendTo 32 = .ok (.iaload, 1) := by decide +kernel
theorem d_Search_extendTo_33 : decode b_Search_extendTo 33 = .ok (.istore_n 3, 1) := by decide +kernel
theorem d_Search_extendTo_34 : decode b_Search_extendTo 34 = .ok (.iconst 0, 1) := by decide +kernel
theorem d_Search_extendTo_35 : decode b_Search_extendTo 35 = .ok (.istore 4, 2) := by decide +kernel
theorem d_Search_extendTo_37 : decode b_Search_extendTo 37 = .ok (.iload 4, 2) := by decide +kernel
theorem d_Search_extendTo_39 : decode b_Search_extendTo 39 = .ok (.aload_n 0, 1) := by decide +kernel
theorem d_Search_extendTo_40 : decode b_Search_extendTo 40 = .ok (.getfield 69, 3) := by decide +kernel
theorem d_Search_extendTo_43 : decode b_Search_extendTo 43 = .ok (.getfield 79, 3) := by decide +kernel
theorem d_Search_extendTo_46 : decode b_Search_extendTo 46 = .ok (.if_icmp .ge 34, 3) := by decide +kernel
theorem d_Search_extendTo_49 : decode b_Search_extendTo 49 = .ok (.aload_n 0, 1) := by decide +kernel
theorem d_Search_extendTo_50 : decode b_Search_extendTo 50 = .ok (.iload_n 1, 1) := by decide +kernel
theorem d_Search_extendTo_51 : decode b_Search_extendTo 51 = .ok (.iload_n 3, 1) := by decide +kernel
theorem d_Search_extendTo_52 : decode b_Search_extendTo 52 = .ok (.iload 4, 2) := by decide +kernel
theorem d_Search_extendTo_54 : decode b_Search_extendTo 54 = .ok (.invokevirtual 124, 3) := by decide +kernel
theorem d_Search_extendTo_57 : decode b_Search_extendTo 57 = .ok (.iconst (-1), 1) := by decide +kernel
theorem d_Search_extendTo_58 : decode b_Search_extendTo 58 = .ok (.if_icmp .eq 16, 3) := by decide +kernel
theorem d_Search_extendTo_61 : decode b_Search_extendTo 61 = .ok (.aload_n 0, 1) := by decide +kernel
theorem d_Search_extendTo_62 : decode b_Search_extendTo 62 = .ok (.iload_n 1, 1) := by decide +kernel
theorem d_Search_extendTo_63 : decode b_Search_extendTo 63 = .ok (.aload_n 0, 1) := by decide +kernel
theorem d_Search_extendTo_64 : decode b_Search_extendTo 64 = .ok (.iload_n 1, 1) := by decide +kernel
theorem d_Search_extendTo_65 : decode b_Search_extendTo 65 = .ok (.iload_n 3, 1) := by decide +kernel
theorem d_Search_extendTo_66 : decode b_Search_extendTo 66 = .ok (.iload 4, 2) := by decide +kernel
theorem d_Search_extendTo_68 : decode b_Search_extendTo 68 = .ok (.invokevirtual 128, 3) := by decide +kernel
theorem d_Search_extendTo_71 : decode b_Search_extendTo 71 = .ok (.invokevirtual 117, 3) := by decide +kernel
theorem d_Search_extendTo_74 : decode b_Search_extendTo 74 = .ok (.iinc 4 1, 3) := by decide +kernel
theorem d_Search_extendTo_77 : decode b_Search_extendTo 77 = .ok (.goto (-40), 3) := by decide +kernel
theorem d_Search_extendTo_80 : decode b_Search_extendTo 80 = .ok (.iinc 2 1, 3) := by decide +kernel
theorem d_Search_extendTo_83 : decode b_Search_extendTo 83 = .ok (.goto (-76), 3) := by decide +kernel
theorem d_Search_extendTo_86 : decode b_Search_extendTo 86 = .ok (.return_, 1) := by decide +kernel
abbrev wd_Search_extendTo (kc : Nat → ClassId) (ad : Nat → Nat) (pr_size : Int32) (pr_total : Int32) (pr_perNote : Int32) (pr_mostAlike : Int32) (pr_notePrices : Nat → Int32) (pr_mustPass : Nat → Int32) (pr_movePrices : Nat → Int32) (pr_mustTurn : Nat → Int32) (pr_badClosings : Nat → Int32) (pr_badTurns : Nat → Int32) (pr_passings : Nat → Int32) (pr_strongPrices : Nat → Int32) (se_mark : Int32) (se_top : Int32) (se_closes : Int32) (se_leastCost : Int32) (se_allLines : Int64) (se_leastLines : Int64) (se_layers : Nat → Int32) (se_layerSizes : Nat → Int32) (se_marks : Nat → Int32) : va_W := [((ad 13), .inr (4, [.ref (ad 1), .ref (ad 8), .ref (ad 14), .ref (ad 15), .ref (ad 16), .ref (ad 17), .ref (ad 18), .ref (ad 19), .ref (ad 20), .ref (ad 21), .ref (ad 22), .int pr_size, .int pr_total, .int pr_perNote, .int pr_mostAlike])), ((ad 15), .inl (kc 0, 360, .inl pr_notePrices)), ((ad 16), .inl (kc 1, 360, .inl pr_mustPass)), ((ad 17), .inl (kc 0, 64, .inl pr_movePrices)), ((ad 18), .inl (kc 1, 64, .inl pr_mustTurn)), ((ad 19), .inl (kc 1, 64, .inl pr_badClosings)), ((ad 20), .inl (kc 1, 512, .inl pr_badTurns)), ((ad 21), .inl (kc 1, 512, .inl pr_passings)), ((ad 22), .inl (kc 0, 768, .inl pr_strongPrices)), ((ad 23), .inr (6, [.ref (ad 1), .ref (ad 13), .ref (ad 24), .ref (ad 25), .ref (ad 26), .ref (ad 27), .ref (ad 28), .int se_mark, .ref (ad 29), .ref (ad 30), .ref (ad 31), .ref (ad 32), .ref (ad 33), .int se_top, .int se_closes, .int se_leastCost, .long se_allLines, .long se_leastLines])), ((ad 24), .inl (kc 0, 57600, .inl se_layers)), ((ad 25), .inl (kc 0, 45, .inl se_layerSizes)), ((ad 28), .inl (kc 0, 3072, .inl se_marks))]
abbrev rm_Search_extendTo : Room := { frames := 2, cells := 0, slots := 0, locals := 52 }
abbrev cw_Search_extendTo : Cond := .code y_Search_extendTo b_Search_extendTo 5 none
abbrev ws_Search_extendTo : List Cond := cw_Search_extendTo :: GW
theorem hd_Search_extendTo : y_Search_extendTo.cls ≠ "java/lang/invoke/MethodHandle" ∧ y_Search_extendTo.cls ≠ "java/lang/invoke/VarHandle" ∧ (parseMethodDescriptor y_Search_extendTo.desc).map (fun d => d.parameters.length) = some 1 := by decide +kernel
def m_Search_extendTo_74 (F : Nat) (pr_size : Int32) (pr_total : Int32) (pr_perNote : Int32) (pr_mostAlike : Int32) (pr_notePrices : Nat → Int32) (pr_mustPass : Nat → Int32) (pr_movePrices : Nat → Int32) (pr_mustTurn : Nat → Int32) (pr_badClosings : Nat → Int32) (pr_badTurns : Nat → Int32) (pr_passings : Nat → Int32) (pr_strongPrices : Nat → Int32) (se_top : Int32) (se_closes : Int32) (k7 : Int32 → (Nat → Int32) → (Nat → Int32) → (Nat → Int32) → Int32 → Int32 → Option (Int32 × (Nat → Int32) × (Nat → Int32) × (Nat → Int32))) (k37 : Int32 → (Nat → Int32) → (Nat → Int32) → (Nat → Int32) → Int32 → Int32 → Int32 → Int32 → Option (Int32 × (Nat → Int32) × (Nat → Int32) × (Nat → Int32))) (se_mark : Int32) (se_layers : Nat → Int32) (se_layerSizes : Nat → Int32) (se_marks : Nat → Int32) (x1 : Int32) (x2 : Int32) (x3 : Int32) (x4 : Int32) : Option (Int32 × (Nat → Int32) × (Nat → Int32) × (Nat → Int32)) :=
  k37 se_mark se_layers se_layerSizes se_marks x1 x2 x3 (x4 + 1)
set_option maxHeartbeats 4000000 in
set_option maxRecDepth 100000 in
theorem l_Search_extendTo_74 {r : Int32 × (Nat → Int32) × (Nat → Int32) × (Nat → Int32)} {F : Nat} {ad : Nat → Nat} {pr_size : Int32} {pr_total : Int32} {pr_perNote : Int32} {pr_mostAlike : Int32} {pr_notePrices : Nat → Int32} {pr_mustPass : Nat → Int32} {pr_movePrices : Nat → Int32} {pr_mustTurn : Nat → Int32} {pr_badClosings : Nat → Int32} {pr_badTurns : Nat → Int32} {pr_passings : Nat → Int32} {pr_strongPrices : Nat → Int32} {se_mark : Int32} {se_top : Int32} {se_closes : Int32} {se_leastCost : Int32} {se_allLines : Int64} {se_leastLines : Int64} {se_layers : Nat → Int32} {se_layerSizes : Nat → Int32} {se_marks : Nat → Int32} {k7 : Int32 → (Nat → Int32) → (Nat → Int32) → (Nat → Int32) → Int32 → Int32 → Option (Int32 × (Nat → Int32) × (Nat → Int32) × (Nat → Int32))} {k37 : Int32 → (Nat → Int32) → (Nat → Int32) → (Nat → Int32) → Int32 → Int32 → Int32 → Int32 → Option (Int32 × (Nat → Int32) × (Nat → Int32) × (Nat → Int32))} {x1 : Int32} {x2 : Int32} {x3 : Int32} {x4 : Int32} {H : Heap} {locs : List Loc} {ls : Array Slot} (C : Cx p s m meth c args A D kc R_Search b_Search_extendTo 5 none) (hk7 : (∀ (se_mark : Int32) (se_layers : Nat → Int32) (se_layerSizes : Nat → Int32) (se_marks : Nat → Int32) (x1 : Int32) (x2 : Int32) (H : Heap) (locs : List Loc) (ls : Array Slot), k7 se_mark se_layers se_layerSizes se_marks x1 x2 = some r → St D A s (wd_Search_extendTo kc ad pr_size pr_total pr_perNote pr_mostAlike pr_notePrices pr_mustPass pr_movePrices pr_mustTurn pr_badClosings pr_badTurns pr_passings pr_strongPrices se_mark se_top se_closes se_leastCost se_allLines se_leastLines se_layers se_layerSizes se_marks) H locs → lv_has ls 5 [(0, .ref (ad 23)), (1, .int x1), (2, .int x2)] → W p l e rm_Search_extendTo s m args below meth c H locs 0 0 (MQ below (Qv D A (wd_Search_extendTo kc ad pr_size pr_total pr_perNote pr_mostAlike pr_notePrices pr_mustPass pr_movePrices pr_mustTurn pr_badClosings pr_badTurns pr_passings pr_strongPrices r.1 se_top se_closes se_leastCost se_allLines se_leastLines r.2.1 r.2.2.1 r.2.2.2)) args s 0 0 A) (F0 m 7 ls []))) (hk37 : (∀ (se_mark : Int32) (se_layers : Nat → Int32) (se_layerSizes : Nat → Int32) (se_marks : Nat → Int32) (x1 : Int32) (x2 : Int32) (x3 : Int32) (x4 : Int32) (H : Heap) (locs : List Loc) (ls : Array Slot), k37 se_mark se_layers se_layerSizes se_marks x1 x2 x3 x4 = some r → St D A s (wd_Search_extendTo kc ad pr_size pr_total pr_perNote pr_mostAlike pr_notePrices pr_mustPass pr_movePrices pr_mustTurn pr_badClosings pr_badTurns pr_passings pr_strongPrices se_mark se_top se_closes se_leastCost se_allLines se_leastLines se_layers se_layerSizes se_marks) H locs → lv_has ls 5 [(0, .ref (ad 23)), (1, .int x1), (2, .int x2), (3, .int x3), (4, .int x4)] → W p l e rm_Search_extendTo s m args below meth c H locs 0 0 (MQ below (Qv D A (wd_Search_extendTo kc ad pr_size pr_total pr_perNote pr_mostAlike pr_notePrices pr_mustPass pr_movePrices pr_mustTurn pr_badClosings pr_badTurns pr_passings pr_strongPrices r.1 se_top se_closes se_leastCost se_allLines se_leastLines r.2.1 r.2.2.1 r.2.2.2)) args s 0 0 A) (F0 m 37 ls []))) (hm : m_Search_extendTo_74 F pr_size pr_total pr_perNote pr_mostAlike pr_notePrices pr_mustPass pr_movePrices pr_mustTurn pr_badClosings pr_badTurns pr_passings pr_strongPrices se_top se_closes k7 k37 se_mark se_layers se_layerSizes se_marks x1 x2 x3 x4 = some r) (hZ : St D A s (wd_Search_extendTo kc ad pr_size pr_total pr_perNote pr_mostAlike pr_notePrices pr_mustPass pr_movePrices pr_mustTurn pr_badClosings pr_badTurns pr_passings pr_strongPrices se_mark se_top se_closes se_leastCost se_allLines se_leastLines se_layers se_layerSizes se_marks) H locs) (hl : lv_has ls 5 [(0, .ref (ad 23)), (1, .int x1), (2, .int x2), (3, .int x3), (4, .int x4)]) : W p l e rm_Search_extendTo s m args below meth c H locs 0 0 (MQ below (Qv D A (wd_Search_extendTo kc ad pr_size pr_total pr_perNote pr_mostAlike pr_notePrices pr_mustPass pr_movePrices pr_mustTurn pr_badClosings pr_badTurns pr_passings pr_strongPrices r.1 se_top se_closes se_leastCost se_allLines se_leastLines r.2.1 r.2.2.1 r.2.2.2)) args s 0 0 A) (F0 m 74 ls []) := by
  obtain ⟨hx, hb, hr, hts, hown, hml, hlocks, hK, hN, hA, hX⟩ := id C
  obtain ⟨hP, hD, hS⟩ := hZ
  unfold m_Search_extendTo_74 at hm
  refine lv_iinc (v := (x4 + 1)) (lv' := [(4, .int (x4 + 1)), (0, .ref (ad 23)), (1, .int x1), (2, .int x2), (3, .int x3)]) hx hb d_Search_extendTo_74 hl (k := 4) rfl rfl (by decide) rfl (fun ls hl => ?_)
  refine lv_goto (tgt := 37) hx hb d_Search_extendTo_77 (by decide) ?_
  exact hk37 se_mark se_layers se_layerSizes se_marks x1 x2 x3 (x4 + 1) _ _ _ hm ⟨hP, hD, hS⟩ (lv_sub hl [1, 2, 3, 4, 0] rfl)
def m_Search_extendTo_37b (F : Nat) (pr_size : Int32) (pr_total : Int32) (pr_perNote : Int32) (pr_mostAlike : Int32) (pr_notePrices : Nat → Int32) (pr_mustPass : Nat → Int32) (pr_movePrices : Nat → Int32) (pr_mustTurn : Nat → Int32) (pr_badClosings : Nat → Int32) (pr_badTurns : Nat → Int32) (pr_passings : Nat → Int32) (pr_strongPrices : Nat → Int32) (se_top : Int32) (se_closes : Int32) (k7 : Int32 → (Nat → Int32) → (Nat → Int32) → (Nat → Int32) → Int32 → Int32 → Option (Int32 × (Nat → Int32) × (Nat → Int32) × (Nat → Int32))) (k37 : Int32 → (Nat → Int32) → (Nat → Int32) → (Nat → Int32) → Int32 → Int32 → Int32 → Int32 → Option (Int32 × (Nat → Int32) × (Nat → Int32) × (Nat → Int32))) (se_mark : Int32) (se_layers : Nat → Int32) (se_layerSizes : Nat → Int32) (se_marks : Nat → Int32) (x1 : Int32) (x2 : Int32) (x3 : Int32) (x4 : Int32) : Option (Int32 × (Nat → Int32) × (Nat → Int32) × (Nat → Int32)) :=
  (if pr_size ≤ x4 then
    k7 se_mark se_layers se_layerSizes se_marks x1 (x2 + 1)
  else
    (bd (m_Search_priceOf pr_size pr_total pr_perNote pr_mostAlike pr_notePrices pr_mustPass pr_movePrices pr_badClosings pr_badTurns pr_passings pr_strongPrices se_top se_closes x1 x3 x4) (fun u2 => (if u2 = (-1 : Int32) then
      m_Search_extendTo_74 F pr_size pr_total pr_perNote pr_mostAlike pr_notePrices pr_mustPass pr_movePrices pr_mustTurn pr_badClosings pr_badTurns pr_passings pr_strongPrices se_top se_closes k7 k37 se_mark se_layers se_layerSizes se_marks x1 x2 x3 x4
    else
      (bd (m_Search_stateAfter pr_perNote pr_mostAlike pr_mustPass pr_mustTurn se_top x1 x3 x4) (fun u5 => (bd (m_Search_enter se_mark se_layers se_layerSizes se_marks x1 u5) (fun u7 => m_Search_extendTo_74 F pr_size pr_total pr_perNote pr_mostAlike pr_notePrices pr_mustPass pr_movePrices pr_mustTurn pr_badClosings pr_badTurns pr_passings pr_strongPrices se_top se_closes k7 k37 se_mark u7.1 u7.2.1 u7.2.2 x1 x2 x3 x4))))))))
set_option maxHeartbeats 4000000 in
set_option maxRecDepth 100000 in
theorem l_Search_extendTo_37 {r : Int32 × (Nat → Int32) × (Nat → Int32) × (Nat → Int32)} {F : Nat} {ad : Nat → Nat} {pr_size : Int32} {pr_total : Int32} {pr_perNote : Int32} {pr_mostAlike : Int32} {pr_notePrices : Nat → Int32} {pr_mustPass : Nat → Int32} {pr_movePrices : Nat → Int32} {pr_mustTurn : Nat → Int32} {pr_badClosings : Nat → Int32} {pr_badTurns : Nat → Int32} {pr_passings : Nat → Int32} {pr_strongPrices : Nat → Int32} {se_mark : Int32} {se_top : Int32} {se_closes : Int32} {se_leastCost : Int32} {se_allLines : Int64} {se_leastLines : Int64} {se_layers : Nat → Int32} {se_layerSizes : Nat → Int32} {se_marks : Nat → Int32} {k7 : Int32 → (Nat → Int32) → (Nat → Int32) → (Nat → Int32) → Int32 → Int32 → Option (Int32 × (Nat → Int32) × (Nat → Int32) × (Nat → Int32))} {k37 : Int32 → (Nat → Int32) → (Nat → Int32) → (Nat → Int32) → Int32 → Int32 → Int32 → Int32 → Option (Int32 × (Nat → Int32) × (Nat → Int32) × (Nat → Int32))} {x1 : Int32} {x2 : Int32} {x3 : Int32} {x4 : Int32} {H : Heap} {locs : List Loc} {ls : Array Slot} (C : Cx p s m meth c args A D kc R_Search b_Search_extendTo 5 none) (hk7 : (∀ (se_mark : Int32) (se_layers : Nat → Int32) (se_layerSizes : Nat → Int32) (se_marks : Nat → Int32) (x1 : Int32) (x2 : Int32) (H : Heap) (locs : List Loc) (ls : Array Slot), k7 se_mark se_layers se_layerSizes se_marks x1 x2 = some r → St D A s (wd_Search_extendTo kc ad pr_size pr_total pr_perNote pr_mostAlike pr_notePrices pr_mustPass pr_movePrices pr_mustTurn pr_badClosings pr_badTurns pr_passings pr_strongPrices se_mark se_top se_closes se_leastCost se_allLines se_leastLines se_layers se_layerSizes se_marks) H locs → lv_has ls 5 [(0, .ref (ad 23)), (1, .int x1), (2, .int x2)] → W p l e rm_Search_extendTo s m args below meth c H locs 0 0 (MQ below (Qv D A (wd_Search_extendTo kc ad pr_size pr_total pr_perNote pr_mostAlike pr_notePrices pr_mustPass pr_movePrices pr_mustTurn pr_badClosings pr_badTurns pr_passings pr_strongPrices r.1 se_top se_closes se_leastCost se_allLines se_leastLines r.2.1 r.2.2.1 r.2.2.2)) args s 0 0 A) (F0 m 7 ls []))) (hk37 : (∀ (se_mark : Int32) (se_layers : Nat → Int32) (se_layerSizes : Nat → Int32) (se_marks : Nat → Int32) (x1 : Int32) (x2 : Int32) (x3 : Int32) (x4 : Int32) (H : Heap) (locs : List Loc) (ls : Array Slot), k37 se_mark se_layers se_layerSizes se_marks x1 x2 x3 x4 = some r → St D A s (wd_Search_extendTo kc ad pr_size pr_total pr_perNote pr_mostAlike pr_notePrices pr_mustPass pr_movePrices pr_mustTurn pr_badClosings pr_badTurns pr_passings pr_strongPrices se_mark se_top se_closes se_leastCost se_allLines se_leastLines se_layers se_layerSizes se_marks) H locs → lv_has ls 5 [(0, .ref (ad 23)), (1, .int x1), (2, .int x2), (3, .int x3), (4, .int x4)] → W p l e rm_Search_extendTo s m args below meth c H locs 0 0 (MQ below (Qv D A (wd_Search_extendTo kc ad pr_size pr_total pr_perNote pr_mostAlike pr_notePrices pr_mustPass pr_movePrices pr_mustTurn pr_badClosings pr_badTurns pr_passings pr_strongPrices r.1 se_top se_closes se_leastCost se_allLines se_leastLines r.2.1 r.2.2.1 r.2.2.2)) args s 0 0 A) (F0 m 37 ls []))) (hm : m_Search_extendTo_37b F pr_size pr_total pr_perNote pr_mostAlike pr_notePrices pr_mustPass pr_movePrices pr_mustTurn pr_badClosings pr_badTurns pr_passings pr_strongPrices se_top se_closes k7 k37 se_mark se_layers se_layerSizes se_marks x1 x2 x3 x4 = some r) (hZ : St D A s (wd_Search_extendTo kc ad pr_size pr_total pr_perNote pr_mostAlike pr_notePrices pr_mustPass pr_movePrices pr_mustTurn pr_badClosings pr_badTurns pr_passings pr_strongPrices se_mark se_top se_closes se_leastCost se_allLines se_leastLines se_layers se_layerSizes se_marks) H locs) (hl : lv_has ls 5 [(0, .ref (ad 23)), (1, .int x1), (2, .int x2), (3, .int x3), (4, .int x4)]) : W p l e rm_Search_extendTo s m args below meth c H locs 0 0 (MQ below (Qv D A (wd_Search_extendTo kc ad pr_size pr_total pr_perNote pr_mostAlike pr_notePrices pr_mustPass pr_movePrices pr_mustTurn pr_badClosings pr_badTurns pr_passings pr_strongPrices r.1 se_top se_closes se_leastCost se_allLines se_leastLines r.2.1 r.2.2.1 r.2.2.2)) args s 0 0 A) (F0 m 37 ls []) := by
  obtain ⟨hx, hb, hr, hts, hown, hml, hlocks, hK, hN, hA, hX⟩ := id C
  obtain ⟨hP, hD, hS⟩ := hZ
  unfold m_Search_extendTo_37b at hm
  refine lv_iload hx hb d_Search_extendTo_37 (lv_at hl 4 rfl) ?_
  refine lv_aload_n hx hb d_Search_extendTo_39 rfl (lv_at hl 0 rfl) ?_
  refine va_get (D := D) (ci := 6) (v := .ref (ad 13)) (C := R_Search) (T := T_Search) (N := 18) hx hb hts inG_Search hown hK hP 9 rfl rfl 1 (by decide) (hts _ gw_310) (fun _ h9 => h9) rfl d_Search_extendTo_40 ?_
  refine va_getN (D := D) (ci := 4) (v := .int pr_size) (C := R_Prices) (T := T_Prices) (N := 15) hx hb hts inG_Prices hown hK hP 0 rfl rfl 11 (by decide) (va_Nw.use rfl (hN _ nw_264)) (fun _ h9 => h9) rfl d_Search_extendTo_43 ?_
  refine lv_icmp_ge (tgt := 80) hx hb d_Search_extendTo_46 (by decide) (fun c1 => ?_) (fun c1 => ?_)
  · replace hm := ifT hm c1
    refine lv_iinc (v := (x2 + 1)) (lv' := [(2, .int (x2 + 1)), (0, .ref (ad 23)), (1, .int x1), (3, .int x3), (4, .int x4)]) hx hb d_Search_extendTo_80 hl (k := 2) rfl rfl (by decide) rfl (fun ls hl => ?_)
    refine lv_goto (tgt := 7) hx hb d_Search_extendTo_83 (by decide) ?_
    exact hk7 se_mark se_layers se_layerSizes se_marks x1 (x2 + 1) _ _ _ hm ⟨hP, hD, hS⟩ (lv_sub hl [1, 2, 0] rfl)
  · replace hm := ifF hm c1
    refine lv_aload_n hx hb d_Search_extendTo_49 rfl (lv_at hl 0 rfl) ?_
    refine lv_iload_n hx hb d_Search_extendTo_50 rfl (lv_at hl 1 rfl) ?_
    refine lv_iload_n hx hb d_Search_extendTo_51 rfl (lv_at hl 3 rfl) ?_
    refine lv_iload hx hb d_Search_extendTo_52 (lv_at hl 4 rfl) ?_
    obtain ⟨u2, hc3, hm⟩ := bd_some hm
    refine zV_i (n := 3) (wr := [((ad 18), .inl (kc 1, 64, .inl pr_mustTurn)), ((ad 24), .inl (kc 0, 57600, .inl se_layers)), ((ad 25), .inl (kc 0, 45, .inl se_layerSizes)), ((ad 28), .inl (kc 0, 3072, .inl se_marks))]) (w1 := (wd_Search_priceOf kc ad pr_size pr_total pr_perNote pr_mostAlike pr_notePrices pr_mustPass pr_movePrices pr_badClosings pr_badTurns pr_passings pr_strongPrices se_mark se_top se_closes se_leastCost se_allLines se_leastLines)) (ws1 := (wd_Search_extendTo kc ad pr_size pr_total pr_perNote pr_mostAlike pr_notePrices pr_mustPass pr_movePrices pr_mustTurn pr_badClosings pr_badTurns pr_passings pr_strongPrices se_mark se_top se_closes se_leastCost se_allLines se_leastLines se_layers se_layerSizes se_marks)) (As := [.int x1, .int x3, .int x4]) (rest := []) (ci := 6) (q0 := 8) (y := y_Search_priceOf) ⟨hx, hb, hml, hown, hts⟩ (fun sz => c_Search_priceOf hc3 sz) gw_631 gw_628 gw_630 gw_43 gw_117 hd_Search_priceOf ⟨Nat.le_of_ble_eq_true rfl, Nat.le_of_ble_eq_true rfl⟩ ⟨rfl, rfl⟩ ⟨Nat.zero_le _, Nat.zero_le _⟩ hK hN hP hD hS hA hX [0, 1, 2, 3, 5, 6, 7, 8, 9] [4, 10, 11, 12] [4, 5, 6, 7, 0, 8, 9, 10, 11, 12, 1, 2, 3] rfl rfl (by decide) (by decide) (by decide) rfl (by decide) rfl rfl rfl hl.1 rfl (Nat.le_of_ble_eq_true rfl) d_Search_extendTo_54 (fun H locs hP hD hS => ?_)
    refine lv_iconst (v := -1) hx hb d_Search_extendTo_57 (by decide) ?_
    refine lv_icmp_eq (tgt := 74) hx hb d_Search_extendTo_58 (by decide) (fun c4 => ?_) (fun c4 => ?_)
    · replace hm := ifT hm c4
      exact l_Search_extendTo_74 C hk7 hk37 hm ⟨hP, hD, hS⟩ (lv_sub hl [0, 1, 2, 3, 4] rfl)
    · replace hm := ifF hm c4
      refine lv_aload_n hx hb d_Search_extendTo_61 rfl (lv_at hl 0 rfl) ?_
      refine lv_iload_n hx hb d_Search_extendTo_62 rfl (lv_at hl 1 rfl) ?_
      refine lv_aload_n hx hb d_Search_extendTo_63 rfl (lv_at hl 0 rfl) ?_
      refine lv_iload_n hx hb d_Search_extendTo_64 rfl (lv_at hl 1 rfl) ?_
      refine lv_iload_n hx hb d_Search_extendTo_65 rfl (lv_at hl 3 rfl) ?_
      refine lv_iload hx hb d_Search_extendTo_66 (lv_at hl 4 rfl) ?_
      obtain ⟨u5, hc6, hm⟩ := bd_some hm
      refine zV_i (n := 3) (wr := [((ad 15), .inl (kc 0, 360, .inl pr_notePrices)), ((ad 17), .inl (kc 0, 64, .inl pr_movePrices)), ((ad 19), .inl (kc 1, 64, .inl pr_badClosings)), ((ad 20), .inl (kc 1, 512, .inl pr_badTurns)), ((ad 21), .inl (kc 1, 512, .inl pr_passings)), ((ad 22), .inl (kc 0, 768, .inl pr_strongPrices)), ((ad 24), .inl (kc 0, 57600, .inl se_layers)), ((ad 25), .inl (kc 0, 45, .inl se_layerSizes)), ((ad 28), .inl (kc 0, 3072, .inl se_marks))]) (w1 := (wd_Search_stateAfter kc ad pr_size pr_total pr_perNote pr_mostAlike pr_mustPass pr_mustTurn se_mark se_top se_closes se_leastCost se_allLines se_leastLines)) (ws1 := (wd_Search_extendTo kc ad pr_size pr_total pr_perNote pr_mostAlike pr_notePrices pr_mustPass pr_movePrices pr_mustTurn pr_badClosings pr_badTurns pr_passings pr_strongPrices se_mark se_top se_closes se_leastCost se_allLines se_leastLines se_layers se_layerSizes se_marks)) (As := [.int x1, .int x3, .int x4]) (rest := [.int x1, .ref (ad 23)]) (ci := 6) (q0 := 3) (y := y_Search_stateAfter) ⟨hx, hb, hml, hown, hts⟩ (fun sz => c_Search_stateAfter hc6 sz) gw_659 gw_656 gw_658 gw_50 gw_117 hd_Search_stateAfter ⟨Nat.le_of_ble_eq_true rfl, Nat.le_of_ble_eq_true rfl⟩ ⟨rfl, rfl⟩ ⟨Nat.zero_le _, Nat.zero_le _⟩ hK hN hP hD hS hA hX [0, 2, 4, 9] [1, 3, 5, 6, 7, 8, 10, 11, 12] [9, 0, 10, 1, 11, 2, 3, 4, 5, 12, 6, 7, 8] rfl rfl (by decide) (by decide) (by decide) rfl (by decide) rfl rfl rfl hl.1 rfl (Nat.le_of_ble_eq_true rfl) d_Search_extendTo_68 (fun H locs hP hD hS => ?_)
      obtain ⟨u7, hc8, hm⟩ := bd_some hm
      refine zV_v (n := 2) (wr := [((ad 13), .inr (4, [.ref (ad 1), .ref (ad 8), .ref (ad 14), .ref (ad 15), .ref (ad 16), .ref (ad 17), .ref (ad 18), .ref (ad 19), .ref (ad 20), .ref (ad 21), .ref (ad 22), .int pr_size, .int pr_total, .int pr_perNote, .int pr_mostAlike])), ((ad 15), .inl (kc 0, 360, .inl pr_notePrices)), ((ad 16), .inl (kc 1, 360, .inl pr_mustPass)), ((ad 17), .inl (kc 0, 64, .inl pr_movePrices)), ((ad 18), .inl (kc 1, 64, .inl pr_mustTurn)), ((ad 19), .inl (kc 1, 64, .inl pr_badClosings)), ((ad 20), .inl (kc 1, 512, .inl pr_badTurns)), ((ad 21), .inl (kc 1, 512, .inl pr_passings)), ((ad 22), .inl (kc 0, 768, .inl pr_strongPrices))]) (w1 := (wd_Search_enter kc ad se_mark se_top se_closes se_leastCost se_allLines se_leastLines u7.1 u7.2.1 u7.2.2)) (ws1 := (wd_Search_extendTo kc ad pr_size pr_total pr_perNote pr_mostAlike pr_notePrices pr_mustPass pr_movePrices pr_mustTurn pr_badClosings pr_badTurns pr_passings pr_strongPrices se_mark se_top se_closes se_leastCost se_allLines se_leastLines u7.1 u7.2.1 u7.2.2)) (As := [.int x1, .int u5]) (rest := []) (ci := 6) (q0 := 0) (y := y_Search_enter) ⟨hx, hb, hml, hown, hts⟩ (fun sz => c_Search_enter hc8 sz) gw_623 gw_620 gw_622 gw_41 gw_117 hd_Search_enter ⟨Nat.le_of_ble_eq_true rfl, Nat.le_of_ble_eq_true rfl⟩ ⟨rfl, rfl⟩ ⟨Nat.zero_le _, Nat.zero_le _⟩ hK hN hP hD hS hA hX [9, 10, 11, 12] [0, 1, 2, 3, 4, 5, 6, 7, 8] [0, 1, 2, 3, 4, 5, 6, 7, 8, 9, 10, 11, 12] rfl rfl (by decide) (by decide) (by decide) rfl (by decide) rfl rfl rfl hl.1 rfl (Nat.le_of_ble_eq_true rfl) d_Search_extendTo_71 (fun H locs hP hD hS => ?_)
      exact l_Search_extendTo_74 C hk7 hk37 hm ⟨hP, hD, hS⟩ (lv_sub hl [0, 1, 2, 3, 4] rfl)
def m_Search_extendTo_37 (F : Nat) (pr_size : Int32) (pr_total : Int32) (pr_perNote : Int32) (pr_mostAlike : Int32) (pr_notePrices : Nat → Int32) (pr_mustPass : Nat → Int32) (pr_movePrices : Nat → Int32) (pr_mustTurn : Nat → Int32) (pr_badClosings : Nat → Int32) (pr_badTurns : Nat → Int32) (pr_passings : Nat → Int32) (pr_strongPrices : Nat → Int32) (se_top : Int32) (se_closes : Int32) (k7 : Int32 → (Nat → Int32) → (Nat → Int32) → (Nat → Int32) → Int32 → Int32 → Option (Int32 × (Nat → Int32) × (Nat → Int32) × (Nat → Int32))) : Nat → Int32 → (Nat → Int32) → (Nat → Int32) → (Nat → Int32) → Int32 → Int32 → Int32 → Int32 → Option (Int32 × (Nat → Int32) × (Nat → Int32) × (Nat → Int32))
  | 0 => fun _ _ _ _ _ _ _ _ => none
  | n + 1 => m_Search_extendTo_37b F pr_size pr_total pr_perNote pr_mostAlike pr_notePrices pr_mustPass pr_movePrices pr_mustTurn pr_badClosings pr_badTurns pr_passings pr_strongPrices se_top se_closes k7 (m_Search_extendTo_37 F pr_size pr_total pr_perNote pr_mostAlike pr_notePrices pr_mustPass pr_movePrices pr_mustTurn pr_badClosings pr_badTurns pr_passings pr_strongPrices se_top se_closes k7 n)
set_option maxHeartbeats 4000000 in
set_option maxRecDepth 100000 in
theorem lp_Search_extendTo_37 {r : Int32 × (Nat → Int32) × (Nat → Int32) × (Nat → Int32)} {F : Nat} {ad : Nat → Nat} {pr_size : Int32} {pr_total : Int32} {pr_perNote : Int32} {pr_mostAlike : Int32} {pr_notePrices : Nat → Int32} {pr_mustPass : Nat → Int32} {pr_movePrices : Nat → Int32} {pr_mustTurn : Nat → Int32} {pr_badClosings : Nat → Int32} {pr_badTurns : Nat → Int32} {pr_passings : Nat → Int32} {pr_strongPrices : Nat → Int32} {se_top : Int32} {se_closes : Int32} {se_leastCost : Int32} {se_allLines : Int64} {se_leastLines : Int64} {k7 : Int32 → (Nat → Int32) → (Nat → Int32) → (Nat → Int32) → Int32 → Int32 → Option (Int32 × (Nat → Int32) × (Nat → Int32) × (Nat → Int32))} (C : Cx p s m meth c args A D kc R_Search b_Search_extendTo 5 none) (hk7 : (∀ (se_mark : Int32) (se_layers : Nat → Int32) (se_layerSizes : Nat → Int32) (se_marks : Nat → Int32) (x1 : Int32) (x2 : Int32) (H : Heap) (locs : List Loc) (ls : Array Slot), k7 se_mark se_layers se_layerSizes se_marks x1 x2 = some r → St D A s (wd_Search_extendTo kc ad pr_size pr_total pr_perNote pr_mostAlike pr_notePrices pr_mustPass pr_movePrices pr_mustTurn pr_badClosings pr_badTurns pr_passings pr_strongPrices se_mark se_top se_closes se_leastCost se_allLines se_leastLines se_layers se_layerSizes se_marks) H locs → lv_has ls 5 [(0, .ref (ad 23)), (1, .int x1), (2, .int x2)] → W p l e rm_Search_extendTo s m args below meth c H locs 0 0 (MQ below (Qv D A (wd_Search_extendTo kc ad pr_size pr_total pr_perNote pr_mostAlike pr_notePrices pr_mustPass pr_movePrices pr_mustTurn pr_badClosings pr_badTurns pr_passings pr_strongPrices r.1 se_top se_closes se_leastCost se_allLines se_leastLines r.2.1 r.2.2.1 r.2.2.2)) args s 0 0 A) (F0 m 7 ls []))) : ∀ (n : Nat) (se_mark : Int32) (se_layers : Nat → Int32) (se_layerSizes : Nat → Int32) (se_marks : Nat → Int32) (x1 : Int32) (x2 : Int32) (x3 : Int32) (x4 : Int32) (H : Heap) (locs : List Loc) (ls : Array Slot), m_Search_extendTo_37 F pr_size pr_total pr_perNote pr_mostAlike pr_notePrices pr_mustPass pr_movePrices pr_mustTurn pr_badClosings pr_badTurns pr_passings pr_strongPrices se_top se_closes k7 n se_mark se_layers se_layerSizes se_marks x1 x2 x3 x4 = some r → St D A s (wd_Search_extendTo kc ad pr_size pr_total pr_perNote pr_mostAlike pr_notePrices pr_mustPass pr_movePrices pr_mustTurn pr_badClosings pr_badTurns pr_passings pr_strongPrices se_mark se_top se_closes se_leastCost se_allLines se_leastLines se_layers se_layerSizes se_marks) H locs → lv_has ls 5 [(0, .ref (ad 23)), (1, .int x1), (2, .int x2), (3, .int x3), (4, .int x4)] → W p l e rm_Search_extendTo s m args below meth c H locs 0 0 (MQ below (Qv D A (wd_Search_extendTo kc ad pr_size pr_total pr_perNote pr_mostAlike pr_notePrices pr_mustPass pr_movePrices pr_mustTurn pr_badClosings pr_badTurns pr_passings pr_strongPrices r.1 se_top se_closes se_leastCost se_allLines se_leastLines r.2.1 r.2.2.1 r.2.2.2)) args s 0 0 A) (F0 m 37 ls []) := by
  intro n
  induction n with
  | zero => intro se_mark se_layers se_layerSizes se_marks x1 x2 x3 x4 H locs ls hm; cases hm
  | succ n ih => intro se_mark se_layers se_layerSizes se_marks x1 x2 x3 x4 H locs ls hm hZ hl; exact l_Search_extendTo_37 C hk7 ih hm hZ hl
def m_Search_extendTo_7b (F : Nat) (pr_size : Int32) (pr_total : Int32) (pr_perNote : Int32) (pr_mostAlike : Int32) (pr_notePrices : Nat → Int32) (pr_mustPass : Nat → Int32) (pr_movePrices : Nat → Int32) (pr_mustTurn : Nat → Int32) (pr_badClosings : Nat → Int32) (pr_badTurns : Nat → Int32) (pr_passings : Nat → Int32) (pr_strongPrices : Nat → Int32) (se_top : Int32) (se_closes : Int32) (k7 : Int32 → (Nat → Int32) → (Nat → Int32) → (Nat → Int32) → Int32 → Int32 → Option (Int32 × (Nat → Int32) × (Nat → Int32) × (Nat → Int32))) (se_mark : Int32) (se_layers : Nat → Int32) (se_layerSizes : Nat → Int32) (se_marks : Nat → Int32) (x1 : Int32) (x2 : Int32) : Option (Int32 × (Nat → Int32) × (Nat → Int32) × (Nat → Int32)) :=
  (gd (x1 - (1 : Int32)) 45 (if (se_layerSizes (Int32.toNatClampNeg (x1 - (1 : Int32)))) ≤ x2 then
    (some (se_mark, se_layers, se_layerSizes, se_marks))
  else
    (gd (((x1 - (1 : Int32)) * (1280 : Int32)) + x2) 57600 (m_Search_extendTo_37 F pr_size pr_total pr_perNote pr_mostAlike pr_notePrices pr_mustPass pr_movePrices pr_mustTurn pr_badClosings pr_badTurns pr_passings pr_strongPrices se_top se_closes k7 F se_mark se_layers se_layerSizes se_marks x1 x2 (se_layers (Int32.toNatClampNeg (((x1 - (1 : Int32)) * (1280 : Int32)) + x2))) (0 : Int32)))))
set_option maxHeartbeats 4000000 in
set_option maxRecDepth 100000 in
theorem l_Search_extendTo_7 {r : Int32 × (Nat → Int32) × (Nat → Int32) × (Nat → Int32)} {F : Nat} {ad : Nat → Nat} {pr_size : Int32} {pr_total : Int32} {pr_perNote : Int32} {pr_mostAlike : Int32} {pr_notePrices : Nat → Int32} {pr_mustPass : Nat → Int32} {pr_movePrices : Nat → Int32} {pr_mustTurn : Nat → Int32} {pr_badClosings : Nat → Int32} {pr_badTurns : Nat → Int32} {pr_passings : Nat → Int32} {pr_strongPrices : Nat → Int32} {se_mark : Int32} {se_top : Int32} {se_closes : Int32} {se_leastCost : Int32} {se_allLines : Int64} {se_leastLines : Int64} {se_layers : Nat → Int32} {se_layerSizes : Nat → Int32} {se_marks : Nat → Int32} {k7 : Int32 → (Nat → Int32) → (Nat → Int32) → (Nat → Int32) → Int32 → Int32 → Option (Int32 × (Nat → Int32) × (Nat → Int32) × (Nat → Int32))} {x1 : Int32} {x2 : Int32} {H : Heap} {locs : List Loc} {ls : Array Slot} (C : Cx p s m meth c args A D kc R_Search b_Search_extendTo 5 none) (hk7 : (∀ (se_mark : Int32) (se_layers : Nat → Int32) (se_layerSizes : Nat → Int32) (se_marks : Nat → Int32) (x1 : Int32) (x2 : Int32) (H : Heap) (locs : List Loc) (ls : Array Slot), k7 se_mark se_layers se_layerSizes se_marks x1 x2 = some r → St D A s (wd_Search_extendTo kc ad pr_size pr_total pr_perNote pr_mostAlike pr_notePrices pr_mustPass pr_movePrices pr_mustTurn pr_badClosings pr_badTurns pr_passings pr_strongPrices se_mark se_top se_closes se_leastCost se_allLines se_leastLines se_layers se_layerSizes se_marks) H locs → lv_has ls 5 [(0, .ref (ad 23)), (1, .int x1), (2, .int x2)] → W p l e rm_Search_extendTo s m args below meth c H locs 0 0 (MQ below (Qv D A (wd_Search_extendTo kc ad pr_size pr_total pr_perNote pr_mostAlike pr_notePrices pr_mustPass pr_movePrices pr_mustTurn pr_badClosings pr_badTurns pr_passings pr_strongPrices r.1 se_top se_closes se_leastCost se_allLines se_leastLines r.2.1 r.2.2.1 r.2.2.2)) args s 0 0 A) (F0 m 7 ls []))) (hm : m_Search_extendTo_7b F pr_size pr_total pr_perNote pr_mostAlike pr_notePrices pr_mustPass pr_movePrices pr_mustTurn pr_badClosings pr_badTurns pr_passings pr_strongPrices se_top se_closes k7 se_mark se_layers se_layerSizes se_marks x1 x2 = some r) (hZ : St D A s (wd_Search_extendTo kc ad pr_size pr_total pr_perNote pr_mostAlike pr_notePrices pr_mustPass pr_movePrices pr_mustTurn pr_badClosings pr_badTurns pr_passings pr_strongPrices se_mark se_top se_closes se_leastCost se_allLines se_leastLines se_layers se_layerSizes se_marks) H locs) (hl : lv_has ls 5 [(0, .ref (ad 23)), (1, .int x1), (2, .int x2)]) : W p l e rm_Search_extendTo s m args below meth c H locs 0 0 (MQ below (Qv D A (wd_Search_extendTo kc ad pr_size pr_total pr_perNote pr_mostAlike pr_notePrices pr_mustPass pr_movePrices pr_mustTurn pr_badClosings pr_badTurns pr_passings pr_strongPrices r.1 se_top se_closes se_leastCost se_allLines se_leastLines r.2.1 r.2.2.1 r.2.2.2)) args s 0 0 A) (F0 m 7 ls []) := by
  obtain ⟨hx, hb, hr, hts, hown, hml, hlocks, hK, hN, hA, hX⟩ := id C
  obtain ⟨hP, hD, hS⟩ := hZ
  unfold m_Search_extendTo_7b at hm
  refine lv_iload_n hx hb d_Search_extendTo_7 rfl (lv_at hl 2 rfl) ?_
  refine lv_aload_n hx hb d_Search_extendTo_8 rfl (lv_at hl 0 rfl) ?_
  refine va_get (D := D) (ci := 6) (v := .ref (ad 25)) (C := R_Search) (T := T_Search) (N := 18) hx hb hts inG_Search hown hK hP 9 rfl rfl 3 (by decide) (hts _ gw_312) (fun _ h9 => h9) rfl d_Search_extendTo_9 ?_
  refine lv_iload_n hx hb d_Search_extendTo_12 rfl (lv_at hl 1 rfl) ?_
  refine lv_iconst (v := 1) hx hb d_Search_extendTo_13 (by decide) ?_
  refine lv_isub hx hb d_Search_extendTo_14 ?_
  obtain ⟨hi1, hm⟩ := gd_some hm
  refine va_iald hx hb hK hP 11 0 rfl rfl hi1 d_Search_extendTo_15 ?_
  refine lv_icmp_ge (tgt := 86) hx hb d_Search_extendTo_16 (by decide) (fun c2 => ?_) (fun c2 => ?_)
  · replace hm := ifT hm c2
    replace hm := Option.some.inj hm; subst hm
    exact zret_v C hP hD hS d_Search_extendTo_86
  · replace hm := ifF hm c2
    refine lv_aload_n hx hb d_Search_extendTo_19 rfl (lv_at hl 0 rfl) ?_
    refine va_get (D := D) (ci := 6) (v := .ref (ad 24)) (C := R_Search) (T := T_Search) (N := 18) hx hb hts inG_Search hown hK hP 9 rfl rfl 2 (by decide) (hts _ gw_311) (fun _ h9 => h9) rfl d_Search_extendTo_20 ?_
    refine lv_iload_n hx hb d_Search_extendTo_23 rfl (lv_at hl 1 rfl) ?_
    refine lv_iconst (v := 1) hx hb d_Search_extendTo_24 (by decide) ?_
    refine lv_isub hx hb d_Search_extendTo_25 ?_
    refine lv_sipush (v := 1280) hx hb d_Search_extendTo_26 (by decide) ?_
    refine lv_imul hx hb d_Search_extendTo_29 ?_
    refine lv_iload_n hx hb d_Search_extendTo_30 rfl (lv_at hl 2 rfl) ?_
    refine lv_iadd hx hb d_Search_extendTo_31 ?_
    obtain ⟨hi3, hm⟩ := gd_some hm
    refine va_iald hx hb hK hP 10 0 rfl rfl hi3 d_Search_extendTo_32 ?_
    refine lv_istore_n (lv' := [(3, .int (se_layers (Int32.toNatClampNeg (((x1 - (1 : Int32)) * (1280 : Int32)) + x2)))), (0, .ref (ad 23)), (1, .int x1), (2, .int x2)]) hx hb d_Search_extendTo_33 rfl hl (by decide) rfl (fun ls hl => ?_)
    refine lv_iconst (v := 0) hx hb d_Search_extendTo_34 (by decide) ?_
    refine lv_istore (lv' := [(4, .int (0 : Int32)), (3, .int (se_layers (Int32.toNatClampNeg (((x1 - (1 : Int32)) * (1280 : Int32)) + x2)))), (0, .ref (ad 23)), (1, .int x1), (2, .int x2)]) hx hb d_Search_extendTo_35 hl (by decide) rfl (fun ls hl => ?_)
    exact lp_Search_extendTo_37 C hk7 F se_mark se_layers se_layerSizes se_marks x1 x2 (se_layers (Int32.toNatClampNeg (((x1 - (1 : Int32)) * (1280 : Int32)) + x2))) (0 : Int32) _ _ _ hm ⟨hP, hD, hS⟩ (lv_sub hl [2, 3, 4, 1, 0] rfl)
def m_Search_extendTo_7 (F : Nat) (pr_size : Int32) (pr_total : Int32) (pr_perNote : Int32) (pr_mostAlike : Int32) (pr_notePrices : Nat → Int32) (pr_mustPass : Nat → Int32) (pr_movePrices : Nat → Int32) (pr_mustTurn : Nat → Int32) (pr_badClosings : Nat → Int32) (pr_badTurns : Nat → Int32) (pr_passings : Nat → Int32) (pr_strongPrices : Nat → Int32) (se_top : Int32) (se_closes : Int32)  : Nat → Int32 → (Nat → Int32) → (Nat → Int32) → (Nat → Int32) → Int32 → Int32 → Option (Int32 × (Nat → Int32) × (Nat → Int32) × (Nat → Int32))
  | 0 => fun _ _ _ _ _ _ => none
  | n + 1 => m_Search_extendTo_7b F pr_size pr_total pr_perNote pr_mostAlike pr_notePrices pr_mustPass pr_movePrices pr_mustTurn pr_badClosings pr_badTurns pr_passings pr_strongPrices se_top se_closes  (m_Search_extendTo_7 F pr_size pr_total pr_perNote pr_mostAlike pr_notePrices pr_mustPass pr_movePrices pr_mustTurn pr_badClosings pr_badTurns pr_passings pr_strongPrices se_top se_closes  n)
set_option maxHeartbeats 4000000 in
set_option maxRecDepth 100000 in
theorem lp_Search_extendTo_7 {r : Int32 × (Nat → Int32) × (Nat → Int32) × (Nat → Int32)} {F : Nat} {ad : Nat → Nat} {pr_size : Int32} {pr_total : Int32} {pr_perNote : Int32} {pr_mostAlike : Int32} {pr_notePrices : Nat → Int32} {pr_mustPass : Nat → Int32} {pr_movePrices : Nat → Int32} {pr_mustTurn : Nat → Int32} {pr_badClosings : Nat → Int32} {pr_badTurns : Nat → Int32} {pr_passings : Nat → Int32} {pr_strongPrices : Nat → Int32} {se_top : Int32} {se_closes : Int32} {se_leastCost : Int32} {se_allLines : Int64} {se_leastLines : Int64}  (C : Cx p s m meth c args A D kc R_Search b_Search_extendTo 5 none)  : ∀ (n : Nat) (se_mark : Int32) (se_layers : Nat → Int32) (se_layerSizes : Nat → Int32) (se_marks : Nat → Int32) (x1 : Int32) (x2 : Int32) (H : Heap) (locs : List Loc) (ls : Array Slot), m_Search_extendTo_7 F pr_size pr_total pr_perNote pr_mostAlike pr_notePrices pr_mustPass pr_movePrices pr_mustTurn pr_badClosings pr_badTurns pr_passings pr_strongPrices se_top se_closes  n se_mark se_layers se_layerSizes se_marks x1 x2 = some r → St D A s (wd_Search_extendTo kc ad pr_size pr_total pr_perNote pr_mostAlike pr_notePrices pr_mustPass pr_movePrices pr_mustTurn pr_badClosings pr_badTurns pr_passings pr_strongPrices se_mark se_top se_closes se_leastCost se_allLines se_leastLines se_layers se_layerSizes se_marks) H locs → lv_has ls 5 [(0, .ref (ad 23)), (1, .int x1), (2, .int x2)] → W p l e rm_Search_extendTo s m args below meth c H locs 0 0 (MQ below (Qv D A (wd_Search_extendTo kc ad pr_size pr_total pr_perNote pr_mostAlike pr_notePrices pr_mustPass pr_movePrices pr_mustTurn pr_badClosings pr_badTurns pr_passings pr_strongPrices r.1 se_top se_closes se_leastCost se_allLines se_leastLines r.2.1 r.2.2.1 r.2.2.2)) args s 0 0 A) (F0 m 7 ls []) := by
  intro n
  induction n with
  | zero => intro se_mark se_layers se_layerSizes se_marks x1 x2 H locs ls hm; cases hm
  | succ n ih => intro se_mark se_layers se_layerSizes se_marks x1 x2 H locs ls hm hZ hl; exact l_Search_extendTo_7 C  ih hm hZ hl
def m_Search_extendTo (F : Nat) (pr_size : Int32) (pr_total : Int32) (pr_perNote : Int32) (pr_mostAlike : Int32) (pr_notePrices : Nat → Int32) (pr_mustPass : Nat → Int32) (pr_movePrices : Nat → Int32) (pr_mustTurn : Nat → Int32) (pr_badClosings : Nat → Int32) (pr_badTurns : Nat → Int32) (pr_passings : Nat → Int32) (pr_strongPrices : Nat → Int32) (se_top : Int32) (se_closes : Int32) (se_mark : Int32) (se_layers : Nat → Int32) (se_layerSizes : Nat → Int32) (se_marks : Nat → Int32) (a1 : Int32) : Option (Int32 × (Nat → Int32) × (Nat → Int32) × (Nat → Int32)) :=
  (bd (m_Search_beginLayer se_mark se_layerSizes a1) (fun u1 => m_Search_extendTo_7 F pr_size pr_total pr_perNote pr_mostAlike pr_notePrices pr_mustPass pr_movePrices pr_mustTurn pr_badClosings pr_badTurns pr_passings pr_strongPrices se_top se_closes  F u1.1 se_layers u1.2 se_marks a1 (0 : Int32)))
set_option maxHeartbeats 4000000 in
set_option maxRecDepth 100000 in
theorem e_Search_extendTo {r : Int32 × (Nat → Int32) × (Nat → Int32) × (Nat → Int32)} {F : Nat} {ad : Nat → Nat} {pr_size : Int32} {pr_total : Int32} {pr_perNote : Int32} {pr_mostAlike : Int32} {pr_notePrices : Nat → Int32} {pr_mustPass : Nat → Int32} {pr_movePrices : Nat → Int32} {pr_mustTurn : Nat → Int32} {pr_badClosings : Nat → Int32} {pr_badTurns : Nat → Int32} {pr_passings : Nat → Int32} {pr_strongPrices : Nat → Int32} {se_mark : Int32} {se_top : Int32} {se_closes : Int32} {se_leastCost : Int32} {se_allLines : Int64} {se_leastLines : Int64} {se_layers : Nat → Int32} {se_layerSizes : Nat → Int32} {se_marks : Nat → Int32} {a1 : Int32} {H : Heap} {locs : List Loc} {ls : Array Slot} (C : Cx p s m meth c args A D kc R_Search b_Search_extendTo 5 none) (hm : m_Search_extendTo F pr_size pr_total pr_perNote pr_mostAlike pr_notePrices pr_mustPass pr_movePrices pr_mustTurn pr_badClosings pr_badTurns pr_passings pr_strongPrices se_top se_closes se_mark se_layers se_layerSizes se_marks a1 = some r) (hZ : St D A s (wd_Search_extendTo kc ad pr_size pr_total pr_perNote pr_mostAlike pr_notePrices pr_mustPass pr_movePrices pr_mustTurn pr_badClosings pr_badTurns pr_passings pr_strongPrices se_mark se_top se_closes se_leastCost se_allLines se_leastLines se_layers se_layerSizes se_marks) H locs) (hl : lv_has ls 5 [(0, .ref (ad 23)), (1, .int a1)]) : W p l e rm_Search_extendTo s m args below meth c H locs 0 0 (MQ below (Qv D A (wd_Search_extendTo kc ad pr_size pr_total pr_perNote pr_mostAlike pr_notePrices pr_mustPass pr_movePrices pr_mustTurn pr_badClosings pr_badTurns pr_passings pr_strongPrices r.1 se_top se_closes se_leastCost se_allLines se_leastLines r.2.1 r.2.2.1 r.2.2.2)) args s 0 0 A) (F0 m 0 ls []) := by
  obtain ⟨hx, hb, hr, hts, hown, hml, hlocks, hK, hN, hA, hX⟩ := id C
  obtain ⟨hP, hD, hS⟩ := hZ
  unfold m_Search_extendTo at hm
  refine lv_aload_n hx hb d_Search_extendTo_0 rfl (lv_at hl 0 rfl) ?_
  refine lv_iload_n hx hb d_Search_extendTo_1 rfl (lv_at hl 1 rfl) ?_
  obtain ⟨u1, hc2, hm⟩ := bd_some hm
  refine zV_v (n := 1) (wr := [((ad 13), .inr (4, [.ref (ad 1), .ref (ad 8), .ref (ad 14), .ref (ad 15), .ref (ad 16), .ref (ad 17), .ref (ad 18), .ref (ad 19), .ref (ad 20), .ref (ad 21), .ref (ad 22), .int pr_size, .int pr_total, .int pr_perNote, .int pr_mostAlike])), ((ad 15), .inl (kc 0, 360, .inl pr_notePrices)), ((ad 16), .inl (kc 1, 360, .inl pr_mustPass)), ((ad 17), .inl (kc 0, 64, .inl pr_movePrices)), ((ad 18), .inl (kc 1, 64, .inl pr_mustTurn)), ((ad 19), .inl (kc 1, 64, .inl pr_badClosings)), ((ad 20), .inl (kc 1, 512, .inl pr_badTurns)), ((ad 21), .inl (kc 1, 512, .inl pr_passings)), ((ad 22), .inl (kc 0, 768, .inl pr_strongPrices)), ((ad 24), .inl (kc 0, 57600, .inl se_layers)), ((ad 28), .inl (kc 0, 3072, .inl se_marks))]) (w1 := (wd_Search_beginLayer kc ad u1.1 se_top se_closes se_leastCost se_allLines se_leastLines u1.2)) (ws1 := (wd_Search_extendTo kc ad pr_size pr_total pr_perNote pr_mostAlike pr_notePrices pr_mustPass pr_movePrices pr_mustTurn pr_badClosings pr_badTurns pr_passings pr_strongPrices u1.1 se_top se_closes se_leastCost se_allLines se_leastLines se_layers u1.2 se_marks)) (As := [.int a1]) (rest := []) (ci := 6) (q0 := 0) (y := y_Search_beginLayer) ⟨hx, hb, hml, hown, hts⟩ (fun sz => c_Search_beginLayer hc2 sz) gw_615 gw_612 gw_614 gw_39 gw_117 hd_Search_beginLayer ⟨Nat.le_of_ble_eq_true rfl, Nat.le_of_ble_eq_true rfl⟩ ⟨rfl, rfl⟩ ⟨Nat.zero_le _, Nat.zero_le _⟩ hK hN hP hD hS hA hX [9, 11] [0, 1, 2, 3, 4, 5, 6, 7, 8, 10, 12] [0, 1, 2, 3, 4, 5, 6, 7, 8, 11, 9, 12, 10] rfl rfl (by decide) (by decide) (by decide) rfl (by decide) rfl rfl rfl hl.1 rfl (Nat.le_of_ble_eq_true rfl) d_Search_extendTo_2 (fun H locs hP hD hS => ?_)
  refine lv_iconst (v := 0) hx hb d_Search_extendTo_5 (by decide) ?_
  refine lv_istore_n (lv' := [(2, .int (0 : Int32)), (0, .ref (ad 23)), (1, .int a1)]) hx hb d_Search_extendTo_6 rfl hl (by decide) rfl (fun ls hl => ?_)
  exact lp_Search_extendTo_7 C  F u1.1 se_layers u1.2 se_marks a1 (0 : Int32) _ _ _ hm ⟨hP, hD, hS⟩ (lv_sub hl [1, 2, 0] rfl)
set_option maxHeartbeats 4000000 in
set_option maxRecDepth 100000 in
theorem c_Search_extendTo {l : Launch} {D : va_G} {kc : Nat → ClassId} {r : Int32 × (Nat → Int32) × (Nat → Int32) × (Nat → Int32)} {F : Nat} {ad : Nat → Nat} {pr_size : Int32} {pr_total : Int32} {pr_perNote : Int32} {pr_mostAlike : Int32} {pr_notePrices : Nat → Int32} {pr_mustPass : Nat → Int32} {pr_movePrices : Nat → Int32} {pr_mustTurn : Nat → Int32} {pr_badClosings : Nat → Int32} {pr_badTurns : Nat → Int32} {pr_passings : Nat → Int32} {pr_strongPrices : Nat → Int32} {se_mark : Int32} {se_top : Int32} {se_closes : Int32} {se_leastCost : Int32} {se_allLines : Int64} {se_leastLines : Int64} {se_layers : Nat → Int32} {se_layerSizes : Nat → Int32} {se_marks : Nat → Int32} {a1 : Int32} (hm : m_Search_extendTo F pr_size pr_total pr_perNote pr_mostAlike pr_notePrices pr_mustPass pr_movePrices pr_mustTurn pr_badClosings pr_badTurns pr_passings pr_strongPrices se_top se_closes se_mark se_layers se_layerSizes se_marks a1 = some r) (sz : Nat) : Cv l y_Search_extendTo ws_Search_extendTo rm_Search_extendTo D kc sz [.ref (ad 23), .int a1] (wd_Search_extendTo kc ad pr_size pr_total pr_perNote pr_mostAlike pr_notePrices pr_mustPass pr_movePrices pr_mustTurn pr_badClosings pr_badTurns pr_passings pr_strongPrices se_mark se_top se_closes se_leastCost se_allLines se_leastLines se_layers se_layerSizes se_marks) (wd_Search_extendTo kc ad pr_size pr_total pr_perNote pr_mostAlike pr_notePrices pr_mustPass pr_movePrices pr_mustTurn pr_badClosings pr_badTurns pr_passings pr_strongPrices r.1 se_top se_closes se_leastCost se_allLines se_leastLines r.2.1 r.2.2.1 r.2.2.2) :=
  Cz_of (Qf := fun A => (Qv D A (wd_Search_extendTo kc ad pr_size pr_total pr_perNote pr_mostAlike pr_notePrices pr_mustPass pr_movePrices pr_mustTurn pr_badClosings pr_badTurns pr_passings pr_strongPrices r.1 se_top se_closes se_leastCost se_allLines se_leastLines r.2.1 r.2.2.1 r.2.2.2))) (cc := b_Search_extendTo) (maxL := 5) (ret := none) (by decide) rfl rfl (fun C hZ hl => e_Search_extendTo C hm hZ hl)
abbrev b_Search_spread : ByteArray := prog_6_method_5_code
abbrev y_Search_spread : MethodName := ⟨"SpeciesSolver$Search", "spread", "()I"⟩
theorem d_Search_spread_0 : decode b_Search_spread 0 = .ok (.aload_n 0, 1) := by decide +kernel
theorem d_Search_spread_1 : decode b_Search_spread 1 = .ok (.iconst 0, 1) := by decide +kernel
theorem d_Search_spread_2 : decode b_Search_spread 2 = .ok (.invokevirtual 107, 3) := by decide +kernel
theorem d_Search_spread_5 : decode b_Search_spread 5 = .ok (.iconst 0, 1) := by decide +kernel
theorem d_Search_spread_6 : decode b_Search_spread 6 = .ok (.istore_n 1, 1) := by decide +kernel
theorem d_Search_spread_7 : decode b_Search_spread 7 = .ok (.iload_n 1, 1) := by decide +kernel
theorem d_Search_spread_8 : decode b_Search_spread 8 = .ok (.aload_n 0, 1) := by decide +kernel
theorem d_Search_spread_9 : decode b_Search_spread 9 = .ok (.getfield 69, 3) := by decide +kernel
theorem d_Search_spread_12 : decode b_Search_spread 12 = .ok (.getfield 79, 3) := by decide +kernel
theorem d_Search_spread_15 : decode b_Search_spread 15 = .ok (.if_icmp .ge 40, 3) := by decide +kernel
theorem d_Search_spread_18 : decode b_Search_spread 18 = .ok (.iload_n 1, 1) := by decide +kernel
theorem d_Search_spread_19 : decode b_Search_spread 19 = .ok (.aload_n 0, 1) := by decide +kernel
theorem d_Search_spread_20 : decode b_Search_spread 20 = .ok (.getfield 48, 3) := by decide +kernel
theorem d_Search_spread_23 : decode b_Search_spread 23 = .ok (.if_icmp .gt 32, 3) := by decide +kernel
theorem d_Search_spread_26 : decode b_Search_spread 26 = .ok (.aload_n 0, 1) := by decide +kernel
theorem d_Search_spread_27 : decode b_Search_spread 27 = .ok (.getfield 69, 3) := by decide +kernel
theorem d_Search_spread_30 : decode b_Search_spread 30 = .ok (.getfield 110, 3) := by decide +kernel
theorem d_Search_spread_33 : decode b_Search_spread 33 = .ok (.iload_n 1, 1) := by decide +kernel
theorem d_Search_spread_34 : decode b_Search_spread 34 = .ok (.iaload, 1) := by decide +kernel
theorem d_Search_spread_35 : decode b_Search_spread 35 = .ok (.iconst (-1), 1) := by decide +kernel
theorem d_Search_spread_36 : decode b_Search_spread 36 = .ok (.if_icmp .eq 13, 3) := by decide +kernel
theorem d_Search_spread_39 : decode b_Search_spread 39 = .ok (.aload_n 0, 1) := by decide +kernel
theorem d_Search_spread_40 : decode b_Search_spread 40 = .ok (.iconst 0, 1) := by decide +kernel
theorem d_Search_spread_41 : decode b_Search_spread 41 = .ok (.aload_n 0, 1) := by decide +kernel
theorem d_Search_spread_42 : decode b_Search_spread 42 = .ok (.iload_n 1, 1) := by decide +kernel
theorem d_Search_spread_43 : decode b_Search_spread 43 = .ok (.invokevirtual 113, 3) := by decide +kernel
theorem d_Search_spread_46 : decode b_Search_spread 46 = .ok (.invokevirtual 117, 3) := by decide +kernel
theorem d_Search_spread_49 : decode b_Search_spread 49 = .ok (.iinc 1 1, 3) := by decide +kernel
theorem d_Search_spread_52 : decode b_Search_spread 52 = .ok (.goto (-45), 3) := by decide +kernel
theorem d_Search_spread_55 : decode b_Search_spread 55 = .ok (.aload_n 0, 1) := by decide +kernel
theorem d_Search_spread_56 : decode b_Search_spread 56 = .ok (.getfield 16, 3) := by decide +kernel
theorem d_Search_spread_59 : decode b_Search_spread 59 = .ok (.iconst 0, 1) := by decide +kernel
theorem d_Search_spread_60 : decode b_Search_spread 60 = .ok (.iaload, 1) := by decide +kernel
theorem d_Search_spread_61 : decode b_Search_spread 61 = .ok (.ifCond .le 7, 3) := by decide +kernel
theorem d_Search_spread_64 : decode b_Search_spread 64 = .ok (.iconst 1, 1) := by decide +kernel
theorem d_Search_spread_65 : decode b_Search_spread 65 = .ok (.goto 4, 3) := by decide +kernel
theorem d_Search_spread_68 : decode b_Search_spread 68 = .ok (.iconst 0, 1) := by decide +kernel
theorem d_Search_spread_69 : decode b_Search_spread 69 = .ok (.istore_n 1, 1) := by decide +kernel
theorem d_Search_spread_70 : decode b_Search_spread 70 = .ok (.iconst 1, 1) := by decide +kernel
theorem d_Search_spread_71 : decode b_Search_spread 71 = .ok (.istore_n 2, 1) := by decide +kernel
theorem d_Search_spread_72 : decode b_Search_spread 72 = .ok (.iload_n 2, 1) := by decide +kernel
theorem d_Search_spread_73 : decode b_Search_spread 73 = .ok (.aload_n 0, 1) := by decide +kernel
theorem d_Search_spread_74 : decode b_Search_spread 74 = .ok (.getfield 69, 3) := by decide +kernel
theorem d_Search_spread_77 : decode b_Search_spread 77 = .ok (.getfield 88, 3) := by decide +kernel
theorem d_Search_spread_80 : decode b_Search_spread 80 = .ok (.if_icmp .ge 31, 3) := by decide +kernel
theorem d_Search_spread_83 : decode b_Search_spread 83 = .ok (.iload_n 1, 1) := by decide +kernel
theorem d_Search_spread_84 : decode b_Search_spread 84 = .ok (.iload_n 2, 1) := by decide +kernel
theorem d_Search_spread_85 : decode b_Search_spread 85 = .ok (.if_icmp .ne 26, 3) := by decide +kernel
theorem d_Search_spread_88 : decode b_Search_spread 88 = .ok (.aload_n 0, 1) := by decide +kernel
theorem d_Search_spread_89 : decode b_Search_spread 89 = .ok (.iload_n 2, 1) := by decide +kernel
theorem d_Search_spread_90 : decode b_Search_spread 90 = .ok (.invokevirtual 121, 3) := by decide +kernel
theorem d_Search_spread_93 : decode b_Search_spread 93 = .ok (.aload_n 0, 1) := by decide +kernel
theorem d_Search_spread_94 : decode b_Search_spread 94 = .ok (.getfield 16, 3) := by decide +kernel
theorem d_Search_spread_97 : decode b_Search_spread 97 = .ok (.iload_n 2, 1) := by decide +kernel
theorem d_Search_spread_98 : decode b_Search_spread 98 = .ok (.iaload, 1) := by decide +kernel
theorem d_Search_spread_99 : decode b_Search_spread 99 = .ok (.ifCond .le 6, 3) := by decide +kernel
theorem d_Search_spread_102 : decode b_Search_spread 102 = .ok (.iinc 1 1, 3) := by decide +kernel
theorem d_Search_spread_105 : decode b_Search_spread 105 = .ok (.iinc 2 1, 3) := by decide +kernel
theorem d_Search_spread_108 : decode b_Search_spread 108 = .ok (.goto (-36), 3) := by decide +kernel
theorem d_Search_spread_111 : decode b_Search_spread 111 = .ok (.iload_n 1, 1) := by decide +kernel
theorem d_Search_spread_112 : decode b_Search_spread 112 = .ok (.ireturn, 1) := by decide +kernel
abbrev wd_Search_spread (kc : Nat → ClassId) (ad : Nat → Nat) (pr_size : Int32) (pr_total : Int32) (pr_perNote : Int32) (pr_mostAlike : Int32) (pr_notePrices : Nat → Int32) (pr_mustPass : Nat → Int32) (pr_movePrices : Nat → Int32) (pr_mustTurn : Nat → Int32) (pr_badClosings : Nat → Int32) (pr_badTurns : Nat → Int32) (pr_passings : Nat → Int32) (pr_strongPrices : Nat → Int32) (se_mark : Int32) (se_top : Int32) (se_closes : Int32) (se_leastCost : Int32) (se_allLines : Int64) (se_leastLines : Int64) (se_layers : Nat → Int32) (se_layerSizes : Nat → Int32) (se_marks : Nat → Int32) : va_W := [((ad 13), .inr (4, [.ref (ad 1), .ref (ad 8), .ref (ad 14), .ref (ad 15), .ref (ad 16), .ref (ad 17), .ref (ad 18), .ref (ad 19), .ref (ad 20), .ref (ad 21), .ref (ad 22), .int pr_size, .int pr_total, .int pr_perNote, .int pr_mostAlike])), ((ad 15), .inl (kc 0, 360, .inl pr_notePrices)), ((ad 16), .inl (kc 1, 360, .inl pr_mustPass)), ((ad 17), .inl (kc 0, 64, .inl pr_movePrices)), ((ad 18), .inl (kc 1, 64, .inl pr_mustTurn)), ((ad 19), .inl (kc 1, 64, .inl pr_badClosings)), ((ad 20), .inl (kc 1, 512, .inl pr_badTurns)), ((ad 21), .inl (kc 1, 512, .inl pr_passings)), ((ad 22), .inl (kc 0, 768, .inl pr_strongPrices)), ((ad 23), .inr (6, [.ref (ad 1), .ref (ad 13), .ref (ad 24), .ref (ad 25), .ref (ad 26), .ref (ad 27), .ref (ad 28), .int se_mark, .ref (ad 29), .ref (ad 30), .ref (ad 31), .ref (ad 32), .ref (ad 33), .int se_top, .int se_closes, .int se_leastCost, .long se_allLines, .long se_leastLines])), ((ad 24), .inl (kc 0, 57600, .inl se_layers)), ((ad 25), .inl (kc 0, 45, .inl se_layerSizes)), ((ad 28), .inl (kc 0, 3072, .inl se_marks))]
abbrev rm_Search_spread : Room := { frames := 3, cells := 0, slots := 0, locals := 76 }
abbrev cw_Search_spread : Cond := .code y_Search_spread b_Search_spread 3 (some .int)
abbrev ws_Search_spread : List Cond := cw_Search_spread :: GW
theorem hd_Search_spread : y_Search_spread.cls ≠ "java/lang/invoke/MethodHandle" ∧ y_Search_spread.cls ≠ "java/lang/invoke/VarHandle" ∧ (parseMethodDescriptor y_Search_spread.desc).map (fun d => d.parameters.length) = some 0 := by decide +kernel
def m_Search_spread_105 (F : Nat) (pr_size : Int32) (pr_total : Int32) (pr_perNote : Int32) (pr_mostAlike : Int32) (pr_notePrices : Nat → Int32) (pr_mustPass : Nat → Int32) (pr_movePrices : Nat → Int32) (pr_mustTurn : Nat → Int32) (pr_badClosings : Nat → Int32) (pr_badTurns : Nat → Int32) (pr_passings : Nat → Int32) (pr_strongPrices : Nat → Int32) (se_top : Int32) (se_closes : Int32) (k72 : Int32 → (Nat → Int32) → (Nat → Int32) → (Nat → Int32) → Int32 → Int32 → Option (Int32 × Int32 × (Nat → Int32) × (Nat → Int32) × (Nat → Int32))) (se_mark : Int32) (se_layers : Nat → Int32) (se_layerSizes : Nat → Int32) (se_marks : Nat → Int32) (x1 : Int32) (x2 : Int32) : Option (Int32 × Int32 × (Nat → Int32) × (Nat → Int32) × (Nat → Int32)) :=
  k72 se_mark se_layers se_layerSizes se_marks x1 (x2 + 1)
set_option maxHeartbeats 4000000 in
set_option maxRecDepth 100000 in
theorem l_Search_spread_105 {r : Int32 × Int32 × (Nat → Int32) × (Nat → Int32) × (Nat → Int32)} {F : Nat} {ad : Nat → Nat} {pr_size : Int32} {pr_total : Int32} {pr_perNote : Int32} {pr_mostAlike : Int32} {pr_notePrices : Nat → Int32} {pr_mustPass : Nat → Int32} {pr_movePrices : Nat → Int32} {pr_mustTurn : Nat → Int32} {pr_badClosings : Nat → Int32} {pr_badTurns : Nat → Int32} {pr_passings : Nat → Int32} {pr_strongPrices : Nat → Int32} {se_mark : Int32} {se_top : Int32} {se_closes : Int32} {se_leastCost : Int32} {se_allLines : Int64} {se_leastLines : Int64} {se_layers : Nat → Int32} {se_layerSizes : Nat → Int32} {se_marks : Nat → Int32} {k72 : Int32 → (Nat → Int32) → (Nat → Int32) → (Nat → Int32) → Int32 → Int32 → Option (Int32 × Int32 × (Nat → Int32) × (Nat → Int32) × (Nat → Int32))} {x1 : Int32} {x2 : Int32} {H : Heap} {locs : List Loc} {ls : Array Slot} (C : Cx p s m meth c args A D kc R_Search b_Search_spread 3 (some .int)) (hk72 : (∀ (se_mark : Int32) (se_layers : Nat → Int32) (se_layerSizes : Nat → Int32) (se_marks : Nat → Int32) (x1 : Int32) (x2 : Int32) (H : Heap) (locs : List Loc) (ls : Array Slot), k72 se_mark se_layers se_layerSizes se_marks x1 x2 = some r → St D A s (wd_Search_spread kc ad pr_size pr_total pr_perNote pr_mostAlike pr_notePrices pr_mustPass pr_movePrices pr_mustTurn pr_badClosings pr_badTurns pr_passings pr_strongPrices se_mark se_top se_closes se_leastCost se_allLines se_leastLines se_layers se_layerSizes se_marks) H locs → lv_has ls 3 [(0, .ref (ad 23)), (1, .int x1), (2, .int x2)] → W p l e rm_Search_spread s m args below meth c H locs 0 0 (MQ below (Qi D A (wd_Search_spread kc ad pr_size pr_total pr_perNote pr_mostAlike pr_notePrices pr_mustPass pr_movePrices pr_mustTurn pr_badClosings pr_badTurns pr_passings pr_strongPrices r.2.1 se_top se_closes se_leastCost se_allLines se_leastLines r.2.2.1 r.2.2.2.1 r.2.2.2.2) r.1) args s 0 0 A) (F0 m 72 ls []))) (hm : m_Search_spread_105 F pr_size pr_total pr_perNote pr_mostAlike pr_notePrices pr_mustPass pr_movePrices pr_mustTurn pr_badClosings pr_badTurns pr_passings pr_strongPrices se_top se_closes k72 se_mark se_layers se_layerSizes se_marks x1 x2 = some r) (hZ : St D A s (wd_Search_spread kc ad pr_size pr_total pr_perNote pr_mostAlike pr_notePrices pr_mustPass pr_movePrices pr_mustTurn pr_badClosings pr_badTurns pr_passings pr_strongPrices se_mark se_top se_closes se_leastCost se_allLines se_leastLines se_layers se_layerSizes se_marks) H locs) (hl : lv_has ls 3 [(0, .ref (ad 23)), (1, .int x1), (2, .int x2)]) : W p l e rm_Search_spread s m args below meth c H locs 0 0 (MQ below (Qi D A (wd_Search_spread kc ad pr_size pr_total pr_perNote pr_mostAlike pr_notePrices pr_mustPass pr_movePrices pr_mustTurn pr_badClosings pr_badTurns pr_passings pr_strongPrices r.2.1 se_top se_closes se_leastCost se_allLines se_leastLines r.2.2.1 r.2.2.2.1 r.2.2.2.2) r.1) args s 0 0 A) (F0 m 105 ls []) := by
  obtain ⟨hx, hb, hr, hts, hown, hml, hlocks, hK, hN, hA, hX⟩ := id C
  obtain ⟨hP, hD, hS⟩ := hZ
  unfold m_Search_spread_105 at hm
  refine lv_iinc (v := (x2 + 1)) (lv' := [(2, .int (x2 + 1)), (0, .ref (ad 23)), (1, .int x1)]) hx hb d_Search_spread_105 hl (k := 2) rfl rfl (by decide) rfl (fun ls hl => ?_)
  refine lv_goto (tgt := 72) hx hb d_Search_spread_108 (by decide) ?_
  exact hk72 se_mark se_layers se_layerSizes se_marks x1 (x2 + 1) _ _ _ hm ⟨hP, hD, hS⟩ (lv_sub hl [1, 2, 0] rfl)
def m_Search_spread_72b (F : Nat) (pr_size : Int32) (pr_total : Int32) (pr_perNote : Int32) (pr_mostAlike : Int32) (pr_notePrices : Nat → Int32) (pr_mustPass : Nat → Int32) (pr_movePrices : Nat → Int32) (pr_mustTurn : Nat → Int32) (pr_badClosings : Nat → Int32) (pr_badTurns : Nat → Int32) (pr_passings : Nat → Int32) (pr_strongPrices : Nat → Int32) (se_top : Int32) (se_closes : Int32) (k72 : Int32 → (Nat → Int32) → (Nat → Int32) → (Nat → Int32) → Int32 → Int32 → Option (Int32 × Int32 × (Nat → Int32) × (Nat → Int32) × (Nat → Int32))) (se_mark : Int32) (se_layers : Nat → Int32) (se_layerSizes : Nat → Int32) (se_marks : Nat → Int32) (x1 : Int32) (x2 : Int32) : Option (Int32 × Int32 × (Nat → Int32) × (Nat → Int32) × (Nat → Int32)) :=
  (if pr_total ≤ x2 then
    (some (x1, se_mark, se_layers, se_layerSizes, se_marks))
  else
    (if x1 = x2 then
      (bd (m_Search_extendTo F pr_size pr_total pr_perNote pr_mostAlike pr_notePrices pr_mustPass pr_movePrices pr_mustTurn pr_badClosings pr_badTurns pr_passings pr_strongPrices se_top se_closes se_mark se_layers se_layerSizes se_marks x2) (fun u3 => (gd x2 45 (if (u3.2.2.1 (Int32.toNatClampNeg x2)) ≤ (0 : Int32) then
        m_Search_spread_105 F pr_size pr_total pr_perNote pr_mostAlike pr_notePrices pr_mustPass pr_movePrices pr_mustTurn pr_badClosings pr_badTurns pr_passings pr_strongPrices se_top se_closes k72 u3.1 u3.2.1 u3.2.2.1 u3.2.2.2 x1 x2
      else
        m_Search_spread_105 F pr_size pr_total pr_perNote pr_mostAlike pr_notePrices pr_mustPass pr_movePrices pr_mustTurn pr_badClosings pr_badTurns pr_passings pr_strongPrices se_top se_closes k72 u3.1 u3.2.1 u3.2.2.1 u3.2.2.2 (x1 + 1) x2))))
    else
      (some (x1, se_mark, se_layers, se_layerSizes, se_marks))))
set_option maxHeartbeats 4000000 in
set_option maxRecDepth 100000 in
theorem l_Search_spread_72 {r : Int32 × Int32 × (Nat → Int32) × (Nat → Int32) × (Nat → Int32)} {F : Nat} {ad : Nat → Nat} {pr_size : Int32} {pr_total : Int32} {pr_perNote : Int32} {pr_mostAlike : Int32} {pr_notePrices : Nat → Int32} {pr_mustPass : Nat → Int32} {pr_movePrices : Nat → Int32} {pr_mustTurn : Nat → Int32} {pr_badClosings : Nat → Int32} {pr_badTurns : Nat → Int32} {pr_passings : Nat → Int32} {pr_strongPrices : Nat → Int32} {se_mark : Int32} {se_top : Int32} {se_closes : Int32} {se_leastCost : Int32} {se_allLines : Int64} {se_leastLines : Int64} {se_layers : Nat → Int32} {se_layerSizes : Nat → Int32} {se_marks : Nat → Int32} {k72 : Int32 → (Nat → Int32) → (Nat → Int32) → (Nat → Int32) → Int32 → Int32 → Option (Int32 × Int32 × (Nat → Int32) × (Nat → Int32) × (Nat → Int32))} {x1 : Int32} {x2 : Int32} {H : Heap} {locs : List Loc} {ls : Array Slot} (C : Cx p s m meth c args A D kc R_Search b_Search_spread 3 (some .int)) (hk72 : (∀ (se_mark : Int32) (se_layers : Nat → Int32) (se_layerSizes : Nat → Int32) (se_marks : Nat → Int32) (x1 : Int32) (x2 : Int32) (H : Heap) (locs : List Loc) (ls : Array Slot), k72 se_mark se_layers se_layerSizes se_marks x1 x2 = some r → St D A s (wd_Search_spread kc ad pr_size pr_total pr_perNote pr_mostAlike pr_notePrices pr_mustPass pr_movePrices pr_mustTurn pr_badClosings pr_badTurns pr_passings pr_strongPrices se_mark se_top se_closes se_leastCost se_allLines se_leastLines se_layers se_layerSizes se_marks) H locs → lv_has ls 3 [(0, .ref (ad 23)), (1, .int x1), (2, .int x2)] → W p l e rm_Search_spread s m args below meth c H locs 0 0 (MQ below (Qi D A (wd_Search_spread kc ad pr_size pr_total pr_perNote pr_mostAlike pr_notePrices pr_mustPass pr_movePrices pr_mustTurn pr_badClosings pr_badTurns pr_passings pr_strongPrices r.2.1 se_top se_closes se_leastCost se_allLines se_leastLines r.2.2.1 r.2.2.2.1 r.2.2.2.2) r.1) args s 0 0 A) (F0 m 72 ls []))) (hm : m_Search_spread_72b F pr_size pr_total pr_perNote pr_mostAlike pr_notePrices pr_mustPass pr_movePrices pr_mustTurn pr_badClosings pr_badTurns pr_passings pr_strongPrices se_top se_closes k72 se_mark se_layers se_layerSizes se_marks x1 x2 = some r) (hZ : St D A s (wd_Search_spread kc ad pr_size pr_total pr_perNote pr_mostAlike pr_notePrices pr_mustPass pr_movePrices pr_mustTurn pr_badClosings pr_badTurns pr_passings pr_strongPrices se_mark se_top se_closes se_leastCost se_allLines se_leastLines se_layers se_layerSizes se_marks) H locs) (hl : lv_has ls 3 [(0, .ref (ad 23)), (1, .int x1), (2, .int x2)]) : W p l e rm_Search_spread s m args below meth c H locs 0 0 (MQ below (Qi D A (wd_Search_spread kc ad pr_size pr_total pr_perNote pr_mostAlike pr_notePrices pr_mustPass pr_movePrices pr_mustTurn pr_badClosings pr_badTurns pr_passings pr_strongPrices r.2.1 se_top se_closes se_leastCost se_allLines se_leastLines r.2.2.1 r.2.2.2.1 r.2.2.2.2) r.1) args s 0 0 A) (F0 m 72 ls []) := by
  obtain ⟨hx, hb, hr, hts, hown, hml, hlocks, hK, hN, hA, hX⟩ := id C
  obtain ⟨hP, hD, hS⟩ := hZ
  unfold m_Search_spread_72b at hm
  refine lv_iload_n hx hb d_Search_spread_72 rfl (lv_at hl 2 rfl) ?_
  refine lv_aload_n hx hb d_Search_spread_73 rfl (lv_at hl 0 rfl) ?_
  refine va_get (D := D) (ci := 6) (v := .ref (ad 13)) (C := R_Search) (T := T_Search) (N := 18) hx hb hts inG_Search hown hK hP 9 rfl rfl 1 (by decide) (hts _ gw_310) (fun _ h9 => h9) rfl d_Search_spread_74 ?_
  refine va_getN (D := D) (ci := 4) (v := .int pr_total) (C := R_Prices) (T := T_Prices) (N := 15) hx hb hts inG_Prices hown hK hP 0 rfl rfl 12 (by decide) (va_Nw.use rfl (hN _ nw_266)) (fun _ h9 => h9) rfl d_Search_spread_77 ?_
  refine lv_icmp_ge (tgt := 111) hx hb d_Search_spread_80 (by decide) (fun c1 => ?_) (fun c1 => ?_)
  · replace hm := ifT hm c1
    refine lv_iload_n hx hb d_Search_spread_111 rfl (lv_at hl 1 rfl) ?_
    replace hm := Option.some.inj hm; subst hm
    exact zret_i C hP hD hS d_Search_spread_112
  · replace hm := ifF hm c1
    refine lv_iload_n hx hb d_Search_spread_83 rfl (lv_at hl 1 rfl) ?_
    refine lv_iload_n hx hb d_Search_spread_84 rfl (lv_at hl 2 rfl) ?_
    refine lv_icmp_ne (tgt := 111) hx hb d_Search_spread_85 (by decide) (fun c2 => ?_) (fun c2 => ?_)
    · replace hm := ifF hm c2
      refine lv_iload_n hx hb d_Search_spread_111 rfl (lv_at hl 1 rfl) ?_
      replace hm := Option.some.inj hm; subst hm
      exact zret_i C hP hD hS d_Search_spread_112
    · replace hm := ifT hm c2
      refine lv_aload_n hx hb d_Search_spread_88 rfl (lv_at hl 0 rfl) ?_
      refine lv_iload_n hx hb d_Search_spread_89 rfl (lv_at hl 2 rfl) ?_
      obtain ⟨u3, hc4, hm⟩ := bd_some hm
      refine zV_v (n := 1) (wr := []) (w1 := (wd_Search_extendTo kc ad pr_size pr_total pr_perNote pr_mostAlike pr_notePrices pr_mustPass pr_movePrices pr_mustTurn pr_badClosings pr_badTurns pr_passings pr_strongPrices u3.1 se_top se_closes se_leastCost se_allLines se_leastLines u3.2.1 u3.2.2.1 u3.2.2.2)) (ws1 := (wd_Search_spread kc ad pr_size pr_total pr_perNote pr_mostAlike pr_notePrices pr_mustPass pr_movePrices pr_mustTurn pr_badClosings pr_badTurns pr_passings pr_strongPrices u3.1 se_top se_closes se_leastCost se_allLines se_leastLines u3.2.1 u3.2.2.1 u3.2.2.2)) (As := [.int x2]) (rest := []) (ci := 6) (q0 := 9) (y := y_Search_extendTo) ⟨hx, hb, hml, hown, hts⟩ (fun sz => c_Search_extendTo hc4 sz) gw_627 gw_624 gw_626 gw_42 gw_117 hd_Search_extendTo ⟨Nat.le_of_ble_eq_true rfl, Nat.le_of_ble_eq_true rfl⟩ ⟨rfl, rfl⟩ ⟨Nat.zero_le _, Nat.zero_le _⟩ hK hN hP hD hS hA hX [0, 1, 2, 3, 4, 5, 6, 7, 8, 9, 10, 11, 12] [] [0, 1, 2, 3, 4, 5, 6, 7, 8, 9, 10, 11, 12] rfl rfl (by decide) (by decide) (by decide) rfl (by decide) rfl rfl rfl hl.1 rfl (Nat.le_of_ble_eq_true rfl) d_Search_spread_90 (fun H locs hP hD hS => ?_)
      refine lv_aload_n hx hb d_Search_spread_93 rfl (lv_at hl 0 rfl) ?_
      refine va_get (D := D) (ci := 6) (v := .ref (ad 25)) (C := R_Search) (T := T_Search) (N := 18) hx hb hts inG_Search hown hK hP 9 rfl rfl 3 (by decide) (hts _ gw_312) (fun _ h9 => h9) rfl d_Search_spread_94 ?_
      refine lv_iload_n hx hb d_Search_spread_97 rfl (lv_at hl 2 rfl) ?_
      obtain ⟨hi5, hm⟩ := gd_some hm
      refine va_iald hx hb hK hP 11 0 rfl rfl hi5 d_Search_spread_98 ?_
      refine lv_if_le (tgt := 105) hx hb d_Search_spread_99 (by decide) (fun c6 => ?_) (fun c6 => ?_)
      · replace hm := ifT hm c6
        exact l_Search_spread_105 C hk72 hm ⟨hP, hD, hS⟩ (lv_sub hl [0, 1, 2] rfl)
      · replace hm := ifF hm c6
        refine lv_iinc (v := (x1 + 1)) (lv' := [(1, .int (x1 + 1)), (0, .ref (ad 23)), (2, .int x2)]) hx hb d_Search_spread_102 hl (k := 1) rfl rfl (by decide) rfl (fun ls hl => ?_)
        exact l_Search_spread_105 C hk72 hm ⟨hP, hD, hS⟩ (lv_sub hl [1, 0, 2] rfl)
def m_Search_spread_72 (F : Nat) (pr_size : Int32) (pr_total : Int32) (pr_perNote : Int32) (pr_mostAlike : Int32) (pr_notePrices : Nat → Int32) (pr_mustPass : Nat → Int32) (pr_movePrices : Nat → Int32) (pr_mustTurn : Nat → Int32) (pr_badClosings : Nat → Int32) (pr_badTurns : Nat → Int32) (pr_passings : Nat → Int32) (pr_strongPrices : Nat → Int32) (se_top : Int32) (se_closes : Int32)  : Nat → Int32 → (Nat → Int32) → (Nat → Int32) → (Nat → Int32) → Int32 → Int32 → Option (Int32 × Int32 × (Nat → Int32) × (Nat → Int32) × (Nat → Int32))
  | 0 => fun _ _ _ _ _ _ => none
  | n + 1 => m_Search_spread_72b F pr_size pr_total pr_perNote pr_mostAlike pr_notePrices pr_mustPass pr_movePrices pr_mustTurn pr_badClosings pr_badTurns pr_passings pr_strongPrices se_top se_closes  (m_Search_spread_72 F pr_size pr_total pr_perNote pr_mostAlike pr_notePrices pr_mustPass pr_movePrices pr_mustTurn pr_badClosings pr_badTurns pr_passings pr_strongPrices se_top se_closes  n)
set_option maxHeartbeats 4000000 in
set_option maxRecDepth 100000 in
theorem lp_Search_spread_72 {r : Int32 × Int32 × (Nat → Int32) × (Nat → Int32) × (Nat → Int32)} {F : Nat} {ad : Nat → Nat} {pr_size : Int32} {pr_total : Int32} {pr_perNote : Int32} {pr_mostAlike : Int32} {pr_notePrices : Nat → Int32} {pr_mustPass : Nat → Int32} {pr_movePrices : Nat → Int32} {pr_mustTurn : Nat → Int32} {pr_badClosings : Nat → Int32} {pr_badTurns : Nat → Int32} {pr_passings : Nat → Int32} {pr_strongPrices : Nat → Int32} {se_top : Int32} {se_closes : Int32} {se_leastCost : Int32} {se_allLines : Int64} {se_leastLines : Int64}  (C : Cx p s m meth c args A D kc R_Search b_Search_spread 3 (some .int))  : ∀ (n : Nat) (se_mark : Int32) (se_layers : Nat → Int32) (se_layerSizes : Nat → Int32) (se_marks : Nat → Int32) (x1 : Int32) (x2 : Int32) (H : Heap) (locs : List Loc) (ls : Array Slot), m_Search_spread_72 F pr_size pr_total pr_perNote pr_mostAlike pr_notePrices pr_mustPass pr_movePrices pr_mustTurn pr_badClosings pr_badTurns pr_passings pr_strongPrices se_top se_closes  n se_mark se_layers se_layerSizes se_marks x1 x2 = some r → St D A s (wd_Search_spread kc ad pr_size pr_total pr_perNote pr_mostAlike pr_notePrices pr_mustPass pr_movePrices pr_mustTurn pr_badClosings pr_badTurns pr_passings pr_strongPrices se_mark se_top se_closes se_leastCost se_allLines se_leastLines se_layers se_layerSizes se_marks) H locs → lv_has ls 3 [(0, .ref (ad 23)), (1, .int x1), (2, .int x2)] → W p l e rm_Search_spread s m args below meth c H locs 0 0 (MQ below (Qi D A (wd_Search_spread kc ad pr_size pr_total pr_perNote pr_mostAlike pr_notePrices pr_mustPass pr_movePrices pr_mustTurn pr_badClosings pr_badTurns pr_passings pr_strongPrices r.2.1 se_top se_closes se_leastCost se_allLines se_leastLines r.2.2.1 r.2.2.2.1 r.2.2.2.2) r.1) args s 0 0 A) (F0 m 72 ls []) := by
  intro n
  induction n with
  | zero => intro se_mark se_layers se_layerSizes se_marks x1 x2 H locs ls hm; cases hm
  | succ n ih => intro se_mark se_layers se_layerSizes se_marks x1 x2 H locs ls hm hZ hl; exact l_Search_spread_72 C  ih hm hZ hl
def m_Search_spread_69 (F : Nat) (pr_size : Int32) (pr_total : Int32) (pr_perNote : Int32) (pr_mostAlike : Int32) (pr_notePrices : Nat → Int32) (pr_mustPass : Nat → Int32) (pr_movePrices : Nat → Int32) (pr_mustTurn : Nat → Int32) (pr_badClosings : Nat → Int32) (pr_badTurns : Nat → Int32) (pr_passings : Nat → Int32) (pr_strongPrices : Nat → Int32) (se_top : Int32) (se_closes : Int32)  (se_mark : Int32) (se_layers : Nat → Int32) (se_layerSizes : Nat → Int32) (se_marks : Nat → Int32) (t0 : Int32) : Option (Int32 × Int32 × (Nat → Int32) × (Nat → Int32) × (Nat → Int32)) :=
  m_Search_spread_72 F pr_size pr_total pr_perNote pr_mostAlike pr_notePrices pr_mustPass pr_movePrices pr_mustTurn pr_badClosings pr_badTurns pr_passings pr_strongPrices se_top se_closes  F se_mark se_layers se_layerSizes se_marks t0 (1 : Int32)
set_option maxHeartbeats 4000000 in
set_option maxRecDepth 100000 in
theorem l_Search_spread_69 {r : Int32 × Int32 × (Nat → Int32) × (Nat → Int32) × (Nat → Int32)} {F : Nat} {ad : Nat → Nat} {pr_size : Int32} {pr_total : Int32} {pr_perNote : Int32} {pr_mostAlike : Int32} {pr_notePrices : Nat → Int32} {pr_mustPass : Nat → Int32} {pr_movePrices : Nat → Int32} {pr_mustTurn : Nat → Int32} {pr_badClosings : Nat → Int32} {pr_badTurns : Nat → Int32} {pr_passings : Nat → Int32} {pr_strongPrices : Nat → Int32} {se_mark : Int32} {se_top : Int32} {se_closes : Int32} {se_leastCost : Int32} {se_allLines : Int64} {se_leastLines : Int64} {se_layers : Nat → Int32} {se_layerSizes : Nat → Int32} {se_marks : Nat → Int32}  {t0 : Int32} {H : Heap} {locs : List Loc} {ls : Array Slot} (C : Cx p s m meth c args A D kc R_Search b_Search_spread 3 (some .int))  (hm : m_Search_spread_69 F pr_size pr_total pr_perNote pr_mostAlike pr_notePrices pr_mustPass pr_movePrices pr_mustTurn pr_badClosings pr_badTurns pr_passings pr_strongPrices se_top se_closes  se_mark se_layers se_layerSizes se_marks t0 = some r) (hZ : St D A s (wd_Search_spread kc ad pr_size pr_total pr_perNote pr_mostAlike pr_notePrices pr_mustPass pr_movePrices pr_mustTurn pr_badClosings pr_badTurns pr_passings pr_strongPrices se_mark se_top se_closes se_leastCost se_allLines se_leastLines se_layers se_layerSizes se_marks) H locs) (hl : lv_has ls 3 [(0, .ref (ad 23))]) : W p l e rm_Search_spread s m args below meth c H locs 0 0 (MQ below (Qi D A (wd_Search_spread kc ad pr_size pr_total pr_perNote pr_mostAlike pr_notePrices pr_mustPass pr_movePrices pr_mustTurn pr_badClosings pr_badTurns pr_passings pr_strongPrices r.2.1 se_top se_closes se_leastCost se_allLines se_leastLines r.2.2.1 r.2.2.2.1 r.2.2.2.2) r.1) args s 0 0 A) (F0 m 69 ls [.int t0]) := by
  obtain ⟨hx, hb, hr, hts, hown, hml, hlocks, hK, hN, hA, hX⟩ := id C
  obtain ⟨hP, hD, hS⟩ := hZ
  unfold m_Search_spread_69 at hm
  refine lv_istore_n (lv' := [(1, .int t0), (0, .ref (ad 23))]) hx hb d_Search_spread_69 rfl hl (by decide) rfl (fun ls hl => ?_)
  refine lv_iconst (v := 1) hx hb d_Search_spread_70 (by decide) ?_
  refine lv_istore_n (lv' := [(2, .int (1 : Int32)), (1, .int t0), (0, .ref (ad 23))]) hx hb d_Search_spread_71 rfl hl (by decide) rfl (fun ls hl => ?_)
  exact lp_Search_spread_72 C  F se_mark se_layers se_layerSizes se_marks t0 (1 : Int32) _ _ _ hm ⟨hP, hD, hS⟩ (lv_sub hl [2, 1, 0] rfl)
def m_Search_spread_55 (F : Nat) (pr_size : Int32) (pr_total : Int32) (pr_perNote : Int32) (pr_mostAlike : Int32) (pr_notePrices : Nat → Int32) (pr_mustPass : Nat → Int32) (pr_movePrices : Nat → Int32) (pr_mustTurn : Nat → Int32) (pr_badClosings : Nat → Int32) (pr_badTurns : Nat → Int32) (pr_passings : Nat → Int32) (pr_strongPrices : Nat → Int32) (se_top : Int32) (se_closes : Int32)  (se_mark : Int32) (se_layers : Nat → Int32) (se_layerSizes : Nat → Int32) (se_marks : Nat → Int32)  : Option (Int32 × Int32 × (Nat → Int32) × (Nat → Int32) × (Nat → Int32)) :=
  (if (se_layerSizes (Int32.toNatClampNeg (0 : Int32))) ≤ (0 : Int32) then
    m_Search_spread_69 F pr_size pr_total pr_perNote pr_mostAlike pr_notePrices pr_mustPass pr_movePrices pr_mustTurn pr_badClosings pr_badTurns pr_passings pr_strongPrices se_top se_closes  se_mark se_layers se_layerSizes se_marks (0 : Int32)
  else
    m_Search_spread_69 F pr_size pr_total pr_perNote pr_mostAlike pr_notePrices pr_mustPass pr_movePrices pr_mustTurn pr_badClosings pr_badTurns pr_passings pr_strongPrices se_top se_closes  se_mark se_layers se_layerSizes se_marks (1 : Int32))
set_option maxHeartbeats 4000000 in
set_option maxRecDepth 100000 in
theorem l_Search_spread_55 {r : Int32 × Int32 × (Nat → Int32) × (Nat → Int32) × (Nat → Int32)} {F : Nat} {ad : Nat → Nat} {pr_size : Int32} {pr_total : Int32} {pr_perNote : Int32} {pr_mostAlike : Int32} {pr_notePrices : Nat → Int32} {pr_mustPass : Nat → Int32} {pr_movePrices : Nat → Int32} {pr_mustTurn : Nat → Int32} {pr_badClosings : Nat → Int32} {pr_badTurns : Nat → Int32} {pr_passings : Nat → Int32} {pr_strongPrices : Nat → Int32} {se_mark : Int32} {se_top : Int32} {se_closes : Int32} {se_leastCost : Int32} {se_allLines : Int64} {se_leastLines : Int64} {se_layers : Nat → Int32} {se_layerSizes : Nat → Int32} {se_marks : Nat → Int32}   {H : Heap} {locs : List Loc} {ls : Array Slot} (C : Cx p s m meth c args A D kc R_Search b_Search_spread 3 (some .int))  (hm : m_Search_spread_55 F pr_size pr_total pr_perNote pr_mostAlike pr_notePrices pr_mustPass pr_movePrices pr_mustTurn pr_badClosings pr_badTurns pr_passings pr_strongPrices se_top se_closes  se_mark se_layers se_layerSizes se_marks = some r) (hZ : St D A s (wd_Search_spread kc ad pr_size pr_total pr_perNote pr_mostAlike pr_notePrices pr_mustPass pr_movePrices pr_mustTurn pr_badClosings pr_badTurns pr_passings pr_strongPrices se_mark se_top se_closes se_leastCost se_allLines se_leastLines se_layers se_layerSizes se_marks) H locs) (hl : lv_has ls 3 [(0, .ref (ad 23))]) : W p l e rm_Search_spread s m args below meth c H locs 0 0 (MQ below (Qi D A (wd_Search_spread kc ad pr_size pr_total pr_perNote pr_mostAlike pr_notePrices pr_mustPass pr_movePrices pr_mustTurn pr_badClosings pr_badTurns pr_passings pr_strongPrices r.2.1 se_top se_closes se_leastCost se_allLines se_leastLines r.2.2.1 r.2.2.2.1 r.2.2.2.2) r.1) args s 0 0 A) (F0 m 55 ls []) := by
  obtain ⟨hx, hb, hr, hts, hown, hml, hlocks, hK, hN, hA, hX⟩ := id C
  obtain ⟨hP, hD, hS⟩ := hZ
  unfold m_Search_spread_55 at hm
  refine lv_aload_n hx hb d_Search_spread_55 rfl (lv_at hl 0 rfl) ?_
  refine va_get (D := D) (ci := 6) (v := .ref (ad 25)) (C := R_Search) (T := T_Search) (N := 18) hx hb hts inG_Search hown hK hP 9 rfl rfl 3 (by decide) (hts _ gw_312) (fun _ h9 => h9) rfl d_Search_spread_56 ?_
  refine lv_iconst (v := 0) hx hb d_Search_spread_59 (by decide) ?_
  refine va_iald hx hb hK hP 11 0 rfl rfl (in_lit (by decide)) d_Search_spread_60 ?_
  refine lv_if_le (tgt := 68) hx hb d_Search_spread_61 (by decide) (fun c1 => ?_) (fun c1 => ?_)
  · replace hm := ifT hm c1
    refine lv_iconst (v := 0) hx hb d_Search_spread_68 (by decide) ?_
    exact l_Search_spread_69 C  hm ⟨hP, hD, hS⟩ (lv_sub hl [0] rfl)
  · replace hm := ifF hm c1
    refine lv_iconst (v := 1) hx hb d_Search_spread_64 (by decide) ?_
    refine lv_goto (tgt := 69) hx hb d_Search_spread_65 (by decide) ?_
    exact l_Search_spread_69 C  hm ⟨hP, hD, hS⟩ (lv_sub hl [0] rfl)
def m_Search_spread_49 (F : Nat) (pr_size : Int32) (pr_total : Int32) (pr_perNote : Int32) (pr_mostAlike : Int32) (pr_notePrices : Nat → Int32) (pr_mustPass : Nat → Int32) (pr_movePrices : Nat → Int32) (pr_mustTurn : Nat → Int32) (pr_badClosings : Nat → Int32) (pr_badTurns : Nat → Int32) (pr_passings : Nat → Int32) (pr_strongPrices : Nat → Int32) (se_top : Int32) (se_closes : Int32) (k7 : Int32 → (Nat → Int32) → (Nat → Int32) → (Nat → Int32) → Int32 → Option (Int32 × Int32 × (Nat → Int32) × (Nat → Int32) × (Nat → Int32))) (se_mark : Int32) (se_layers : Nat → Int32) (se_layerSizes : Nat → Int32) (se_marks : Nat → Int32) (x1 : Int32) : Option (Int32 × Int32 × (Nat → Int32) × (Nat → Int32) × (Nat → Int32)) :=
  k7 se_mark se_layers se_layerSizes se_marks (x1 + 1)
set_option maxHeartbeats 4000000 in
set_option maxRecDepth 100000 in
theorem l_Search_spread_49 {r : Int32 × Int32 × (Nat → Int32) × (Nat → Int32) × (Nat → Int32)} {F : Nat} {ad : Nat → Nat} {pr_size : Int32} {pr_total : Int32} {pr_perNote : Int32} {pr_mostAlike : Int32} {pr_notePrices : Nat → Int32} {pr_mustPass : Nat → Int32} {pr_movePrices : Nat → Int32} {pr_mustTurn : Nat → Int32} {pr_badClosings : Nat → Int32} {pr_badTurns : Nat → Int32} {pr_passings : Nat → Int32} {pr_strongPrices : Nat → Int32} {se_mark : Int32} {se_top : Int32} {se_closes : Int32} {se_leastCost : Int32} {se_allLines : Int64} {se_leastLines : Int64} {se_layers : Nat → Int32} {se_layerSizes : Nat → Int32} {se_marks : Nat → Int32} {k7 : Int32 → (Nat → Int32) → (Nat → Int32) → (Nat → Int32) → Int32 → Option (Int32 × Int32 × (Nat → Int32) × (Nat → Int32) × (Nat → Int32))} {x1 : Int32} {H : Heap} {locs : List Loc} {ls : Array Slot} (C : Cx p s m meth c args A D kc R_Search b_Search_spread 3 (some .int)) (hk7 : (∀ (se_mark : Int32) (se_layers : Nat → Int32) (se_layerSizes : Nat → Int32) (se_marks : Nat → Int32) (x1 : Int32) (H : Heap) (locs : List Loc) (ls : Array Slot), k7 se_mark se_layers se_layerSizes se_marks x1 = some r → St D A s (wd_Search_spread kc ad pr_size pr_total pr_perNote pr_mostAlike pr_notePrices pr_mustPass pr_movePrices pr_mustTurn pr_badClosings pr_badTurns pr_passings pr_strongPrices se_mark se_top se_closes se_leastCost se_allLines se_leastLines se_layers se_layerSizes se_marks) H locs → lv_has ls 3 [(0, .ref (ad 23)), (1, .int x1)] → W p l e rm_Search_spread s m args below meth c H locs 0 0 (MQ below (Qi D A (wd_Search_spread kc ad pr_size pr_total pr_perNote pr_mostAlike pr_notePrices pr_mustPass pr_movePrices pr_mustTurn pr_badClosings pr_badTurns pr_passings pr_strongPrices r.2.1 se_top se_closes se_leastCost se_allLines se_leastLines r.2.2.1 r.2.2.2.1 r.2.2.2.2) r.1) args s 0 0 A) (F0 m 7 ls []))) (hm : m_Search_spread_49 F pr_size pr_total pr_perNote pr_mostAlike pr_notePrices pr_mustPass pr_movePrices pr_mustTurn pr_badClosings pr_badTurns pr_passings pr_strongPrices se_top se_closes k7 se_mark se_layers se_layerSizes se_marks x1 = some r) (hZ : St D A s (wd_Search_spread kc ad pr_size pr_total pr_perNote pr_mostAlike pr_notePrices pr_mustPass pr_movePrices pr_mustTurn pr_badClosings pr_badTurns pr_passings pr_strongPrices se_mark se_top se_closes se_leastCost se_allLines se_leastLines se_layers se_layerSizes se_marks) H locs) (hl : lv_has ls 3 [(0, .ref (ad 23)), (1, .int x1)]) : W p l e rm_Search_spread s m args below meth c H locs 0 0 (MQ below (Qi D A (wd_Search_spread kc ad pr_size pr_total pr_perNote pr_mostAlike pr_notePrices pr_mustPass pr_movePrices pr_mustTurn pr_badClosings pr_badTurns pr_passings pr_strongPrices r.2.1 se_top se_closes se_leastCost se_allLines se_leastLines r.2.2.1 r.2.2.2.1 r.2.2.2.2) r.1) args s 0 0 A) (F0 m 49 ls []) := by
  obtain ⟨hx, hb, hr, hts, hown, hml, hlocks, hK, hN, hA, hX⟩ := id C
  obtain ⟨hP, hD, hS⟩ := hZ
  unfold m_Search_spread_49 at hm
  refine lv_iinc (v := (x1 + 1)) (lv' := [(1, .int (x1 + 1)), (0, .ref (ad 23))]) hx hb d_Search_spread_49 hl (k := 1) rfl rfl (by decide) rfl (fun ls hl => ?_)
  refine lv_goto (tgt := 7) hx hb d_Search_spread_52 (by decide) ?_
  exact hk7 se_mark se_layers se_layerSizes se_marks (x1 + 1) _ _ _ hm ⟨hP, hD, hS⟩ (lv_sub hl [1, 0] rfl)
def m_Search_spread_7b (F : Nat) (pr_size : Int32) (pr_total : Int32) (pr_perNote : Int32) (pr_mostAlike : Int32) (pr_notePrices : Nat → Int32) (pr_mustPass : Nat → Int32) (pr_movePrices : Nat → Int32) (pr_mustTurn : Nat → Int32) (pr_badClosings : Nat → Int32) (pr_badTurns : Nat → Int32) (pr_passings : Nat → Int32) (pr_strongPrices : Nat → Int32) (se_top : Int32) (se_closes : Int32) (k7 : Int32 → (Nat → Int32) → (Nat → Int32) → (Nat → Int32) → Int32 → Option (Int32 × Int32 × (Nat → Int32) × (Nat → Int32) × (Nat → Int32))) (se_mark : Int32) (se_layers : Nat → Int32) (se_layerSizes : Nat → Int32) (se_marks : Nat → Int32) (x1 : Int32) : Option (Int32 × Int32 × (Nat → Int32) × (Nat → Int32) × (Nat → Int32)) :=
  (if pr_size ≤ x1 then
    m_Search_spread_55 F pr_size pr_total pr_perNote pr_mostAlike pr_notePrices pr_mustPass pr_movePrices pr_mustTurn pr_badClosings pr_badTurns pr_passings pr_strongPrices se_top se_closes  se_mark se_layers se_layerSizes se_marks
  else
    (if se_top < x1 then
      m_Search_spread_55 F pr_size pr_total pr_perNote pr_mostAlike pr_notePrices pr_mustPass pr_movePrices pr_mustTurn pr_badClosings pr_badTurns pr_passings pr_strongPrices se_top se_closes  se_mark se_layers se_layerSizes se_marks
    else
      (gd x1 360 (if (pr_notePrices (Int32.toNatClampNeg x1)) = (-1 : Int32) then
        m_Search_spread_49 F pr_size pr_total pr_perNote pr_mostAlike pr_notePrices pr_mustPass pr_movePrices pr_mustTurn pr_badClosings pr_badTurns pr_passings pr_strongPrices se_top se_closes k7 se_mark se_layers se_layerSizes se_marks x1
      else
        (bd (m_Search_firstState se_top x1) (fun u5 => (bd (m_Search_enter se_mark se_layers se_layerSizes se_marks (0 : Int32) u5) (fun u7 => m_Search_spread_49 F pr_size pr_total pr_perNote pr_mostAlike pr_notePrices pr_mustPass pr_movePrices pr_mustTurn pr_badClosings pr_badTurns pr_passings pr_strongPrices se_top se_closes k7 se_mark u7.1 u7.2.1 u7.2.2 x1))))))))
set_option maxHeartbeats 4000000 in
set_option maxRecDepth 100000 in
theorem l_Search_spread_7 {r : Int32 × Int32 × (Nat → Int32) × (Nat → Int32) × (Nat → Int32)} {F : Nat} {ad : Nat → Nat} {pr_size : Int32} {pr_total : Int32} {pr_perNote : Int32} {pr_mostAlike : Int32} {pr_notePrices : Nat → Int32} {pr_mustPass : Nat → Int32} {pr_movePrices : Nat → Int32} {pr_mustTurn : Nat → Int32} {pr_badClosings : Nat → Int32} {pr_badTurns : Nat → Int32} {pr_passings : Nat → Int32} {pr_strongPrices : Nat → Int32} {se_mark : Int32} {se_top : Int32} {se_closes : Int32} {se_leastCost : Int32} {se_allLines : Int64} {se_leastLines : Int64} {se_layers : Nat → Int32} {se_layerSizes : Nat → Int32} {se_marks : Nat → Int32} {k7 : Int32 → (Nat → Int32) → (Nat → Int32) → (Nat → Int32) → Int32 → Option (Int32 × Int32 × (Nat → Int32) × (Nat → Int32) × (Nat → Int32))} {x1 : Int32} {H : Heap} {locs : List Loc} {ls : Array Slot} (C : Cx p s m meth c args A D kc R_Search b_Search_spread 3 (some .int)) (hk7 : (∀ (se_mark : Int32) (se_layers : Nat → Int32) (se_layerSizes : Nat → Int32) (se_marks : Nat → Int32) (x1 : Int32) (H : Heap) (locs : List Loc) (ls : Array Slot), k7 se_mark se_layers se_layerSizes se_marks x1 = some r → St D A s (wd_Search_spread kc ad pr_size pr_total pr_perNote pr_mostAlike pr_notePrices pr_mustPass pr_movePrices pr_mustTurn pr_badClosings pr_badTurns pr_passings pr_strongPrices se_mark se_top se_closes se_leastCost se_allLines se_leastLines se_layers se_layerSizes se_marks) H locs → lv_has ls 3 [(0, .ref (ad 23)), (1, .int x1)] → W p l e rm_Search_spread s m args below meth c H locs 0 0 (MQ below (Qi D A (wd_Search_spread kc ad pr_size pr_total pr_perNote pr_mostAlike pr_notePrices pr_mustPass pr_movePrices pr_mustTurn pr_badClosings pr_badTurns pr_passings pr_strongPrices r.2.1 se_top se_closes se_leastCost se_allLines se_leastLines r.2.2.1 r.2.2.2.1 r.2.2.2.2) r.1) args s 0 0 A) (F0 m 7 ls []))) (hm : m_Search_spread_7b F pr_size pr_total pr_perNote pr_mostAlike pr_notePrices pr_mustPass pr_movePrices pr_mustTurn pr_badClosings pr_badTurns pr_passings pr_strongPrices se_top se_closes k7 se_mark se_layers se_layerSizes se_marks x1 = some r) (hZ : St D A s (wd_Search_spread kc ad pr_size pr_total pr_perNote pr_mostAlike pr_notePrices pr_mustPass pr_movePrices pr_mustTurn pr_badClosings pr_badTurns pr_passings pr_strongPrices se_mark se_top se_closes se_leastCost se_allLines se_leastLines se_layers se_layerSizes se_marks) H locs) (hl : lv_has ls 3 [(0, .ref (ad 23)), (1, .int x1)]) : W p l e rm_Search_spread s m args below meth c H locs 0 0 (MQ below (Qi D A (wd_Search_spread kc ad pr_size pr_total pr_perNote pr_mostAlike pr_notePrices pr_mustPass pr_movePrices pr_mustTurn pr_badClosings pr_badTurns pr_passings pr_strongPrices r.2.1 se_top se_closes se_leastCost se_allLines se_leastLines r.2.2.1 r.2.2.2.1 r.2.2.2.2) r.1) args s 0 0 A) (F0 m 7 ls []) := by
  obtain ⟨hx, hb, hr, hts, hown, hml, hlocks, hK, hN, hA, hX⟩ := id C
  obtain ⟨hP, hD, hS⟩ := hZ
  unfold m_Search_spread_7b at hm
  refine lv_iload_n hx hb d_Search_spread_7 rfl (lv_at hl 1 rfl) ?_
  refine lv_aload_n hx hb d_Search_spread_8 rfl (lv_at hl 0 rfl) ?_
  refine va_get (D := D) (ci := 6) (v := .ref (ad 13)) (C := R_Search) (T := T_Search) (N := 18) hx hb hts inG_Search hown hK hP 9 rfl rfl 1 (by decide) (hts _ gw_310) (fun _ h9 => h9) rfl d_Search_spread_9 ?_
  refine va_getN (D := D) (ci := 4) (v := .int pr_size) (C := R_Prices) (T := T_Prices) (N := 15) hx hb hts inG_Prices hown hK hP 0 rfl rfl 11 (by decide) (va_Nw.use rfl (hN _ nw_264)) (fun _ h9 => h9) rfl d_Search_spread_12 ?_
  refine lv_icmp_ge (tgt := 55) hx hb d_Search_spread_15 (by decide) (fun c1 => ?_) (fun c1 => ?_)
  · replace hm := ifT hm c1
    exact l_Search_spread_55 C  hm ⟨hP, hD, hS⟩ (lv_sub hl [0] rfl)
  · replace hm := ifF hm c1
    refine lv_iload_n hx hb d_Search_spread_18 rfl (lv_at hl 1 rfl) ?_
    refine lv_aload_n hx hb d_Search_spread_19 rfl (lv_at hl 0 rfl) ?_
    refine va_get (D := D) (ci := 6) (v := .int se_top) (C := R_Search) (T := T_Search) (N := 18) hx hb hts inG_Search hown hK hP 9 rfl rfl 13 (by decide) (hts _ gw_322) (fun _ h9 => h9) rfl d_Search_spread_20 ?_
    refine lv_icmp_gt (tgt := 55) hx hb d_Search_spread_23 (by decide) (fun c2 => ?_) (fun c2 => ?_)
    · replace hm := ifT hm c2
      exact l_Search_spread_55 C  hm ⟨hP, hD, hS⟩ (lv_sub hl [0] rfl)
    · replace hm := ifF hm c2
      refine lv_aload_n hx hb d_Search_spread_26 rfl (lv_at hl 0 rfl) ?_
      refine va_get (D := D) (ci := 6) (v := .ref (ad 13)) (C := R_Search) (T := T_Search) (N := 18) hx hb hts inG_Search hown hK hP 9 rfl rfl 1 (by decide) (hts _ gw_310) (fun _ h9 => h9) rfl d_Search_spread_27 ?_
      refine va_getN (D := D) (ci := 4) (v := .ref (ad 15)) (C := R_Prices) (T := T_Prices) (N := 15) hx hb hts inG_Prices hown hK hP 0 rfl rfl 3 (by decide) (va_Nw.use rfl (hN _ nw_253)) (fun _ h9 => h9) rfl d_Search_spread_30 ?_
      refine lv_iload_n hx hb d_Search_spread_33 rfl (lv_at hl 1 rfl) ?_
      obtain ⟨hi3, hm⟩ := gd_some hm
      refine va_iald hx hb hK hP 1 0 rfl rfl hi3 d_Search_spread_34 ?_
      refine lv_iconst (v := -1) hx hb d_Search_spread_35 (by decide) ?_
      refine lv_icmp_eq (tgt := 49) hx hb d_Search_spread_36 (by decide) (fun c4 => ?_) (fun c4 => ?_)
      · replace hm := ifT hm c4
        exact l_Search_spread_49 C hk7 hm ⟨hP, hD, hS⟩ (lv_sub hl [0, 1] rfl)
      · replace hm := ifF hm c4
        refine lv_aload_n hx hb d_Search_spread_39 rfl (lv_at hl 0 rfl) ?_
        refine lv_iconst (v := 0) hx hb d_Search_spread_40 (by decide) ?_
        refine lv_aload_n hx hb d_Search_spread_41 rfl (lv_at hl 0 rfl) ?_
        refine lv_iload_n hx hb d_Search_spread_42 rfl (lv_at hl 1 rfl) ?_
        obtain ⟨u5, hc6, hm⟩ := bd_some hm
        refine zV_i (n := 1) (wr := [((ad 13), .inr (4, [.ref (ad 1), .ref (ad 8), .ref (ad 14), .ref (ad 15), .ref (ad 16), .ref (ad 17), .ref (ad 18), .ref (ad 19), .ref (ad 20), .ref (ad 21), .ref (ad 22), .int pr_size, .int pr_total, .int pr_perNote, .int pr_mostAlike])), ((ad 15), .inl (kc 0, 360, .inl pr_notePrices)), ((ad 16), .inl (kc 1, 360, .inl pr_mustPass)), ((ad 17), .inl (kc 0, 64, .inl pr_movePrices)), ((ad 18), .inl (kc 1, 64, .inl pr_mustTurn)), ((ad 19), .inl (kc 1, 64, .inl pr_badClosings)), ((ad 20), .inl (kc 1, 512, .inl pr_badTurns)), ((ad 21), .inl (kc 1, 512, .inl pr_passings)), ((ad 22), .inl (kc 0, 768, .inl pr_strongPrices)), ((ad 24), .inl (kc 0, 57600, .inl se_layers)), ((ad 25), .inl (kc 0, 45, .inl se_layerSizes)), ((ad 28), .inl (kc 0, 3072, .inl se_marks))]) (w1 := (wd_Search_firstState kc ad se_mark se_top se_closes se_leastCost se_allLines se_leastLines)) (ws1 := (wd_Search_spread kc ad pr_size pr_total pr_perNote pr_mostAlike pr_notePrices pr_mustPass pr_movePrices pr_mustTurn pr_badClosings pr_badTurns pr_passings pr_strongPrices se_mark se_top se_closes se_leastCost se_allLines se_leastLines se_layers se_layerSizes se_marks)) (As := [.int x1]) (rest := [.int (0 : Int32), .ref (ad 23)]) (ci := 6) (q0 := 0) (y := y_Search_firstState) ⟨hx, hb, hml, hown, hts⟩ (fun sz => c_Search_firstState hc6 sz) gw_619 gw_616 gw_618 gw_40 gw_117 hd_Search_firstState ⟨Nat.le_of_ble_eq_true rfl, Nat.le_of_ble_eq_true rfl⟩ ⟨rfl, rfl⟩ ⟨Nat.zero_le _, Nat.zero_le _⟩ hK hN hP hD hS hA hX [9] [0, 1, 2, 3, 4, 5, 6, 7, 8, 10, 11, 12] [0, 1, 2, 3, 4, 5, 6, 7, 8, 12, 9, 10, 11] rfl rfl (by decide) (by decide) (by decide) rfl (by decide) rfl rfl rfl hl.1 rfl (Nat.le_of_ble_eq_true rfl) d_Search_spread_43 (fun H locs hP hD hS => ?_)
        obtain ⟨u7, hc8, hm⟩ := bd_some hm
        refine zV_v (n := 2) (wr := [((ad 13), .inr (4, [.ref (ad 1), .ref (ad 8), .ref (ad 14), .ref (ad 15), .ref (ad 16), .ref (ad 17), .ref (ad 18), .ref (ad 19), .ref (ad 20), .ref (ad 21), .ref (ad 22), .int pr_size, .int pr_total, .int pr_perNote, .int pr_mostAlike])), ((ad 15), .inl (kc 0, 360, .inl pr_notePrices)), ((ad 16), .inl (kc 1, 360, .inl pr_mustPass)), ((ad 17), .inl (kc 0, 64, .inl pr_movePrices)), ((ad 18), .inl (kc 1, 64, .inl pr_mustTurn)), ((ad 19), .inl (kc 1, 64, .inl pr_badClosings)), ((ad 20), .inl (kc 1, 512, .inl pr_badTurns)), ((ad 21), .inl (kc 1, 512, .inl pr_passings)), ((ad 22), .inl (kc 0, 768, .inl pr_strongPrices))]) (w1 := (wd_Search_enter kc ad se_mark se_top se_closes se_leastCost se_allLines se_leastLines u7.1 u7.2.1 u7.2.2)) (ws1 := (wd_Search_spread kc ad pr_size pr_total pr_perNote pr_mostAlike pr_notePrices pr_mustPass pr_movePrices pr_mustTurn pr_badClosings pr_badTurns pr_passings pr_strongPrices se_mark se_top se_closes se_leastCost se_allLines se_leastLines u7.1 u7.2.1 u7.2.2)) (As := [.int (0 : Int32), .int u5]) (rest := []) (ci := 6) (q0 := 0) (y := y_Search_enter) ⟨hx, hb, hml, hown, hts⟩ (fun sz => c_Search_enter hc8 sz) gw_623 gw_620 gw_622 gw_41 gw_117 hd_Search_enter ⟨Nat.le_of_ble_eq_true rfl, Nat.le_of_ble_eq_true rfl⟩ ⟨rfl, rfl⟩ ⟨Nat.zero_le _, Nat.zero_le _⟩ hK hN hP hD hS hA hX [9, 10, 11, 12] [0, 1, 2, 3, 4, 5, 6, 7, 8] [0, 1, 2, 3, 4, 5, 6, 7, 8, 9, 10, 11, 12] rfl rfl (by decide) (by decide) (by decide) rfl (by decide) rfl rfl rfl hl.1 rfl (Nat.le_of_ble_eq_true rfl) d_Search_spread_46 (fun H locs hP hD hS => ?_)
        exact l_Search_spread_49 C hk7 hm ⟨hP, hD, hS⟩ (lv_sub hl [0, 1] rfl)
def m_Search_spread_7 (F : Nat) (pr_size : Int32) (pr_total : Int32) (pr_perNote : Int32) (pr_mostAlike : Int32) (pr_notePrices : Nat → Int32) (pr_mustPass : Nat → Int32) (pr_movePrices : Nat → Int32) (pr_mustTurn : Nat → Int32) (pr_badClosings : Nat → Int32) (pr_badTurns : Nat → Int32) (pr_passings : Nat → Int32) (pr_strongPrices : Nat → Int32) (se_top : Int32) (se_closes : Int32)  : Nat → Int32 → (Nat → Int32) → (Nat → Int32) → (Nat → Int32) → Int32 → Option (Int32 × Int32 × (Nat → Int32) × (Nat → Int32) × (Nat → Int32))
  | 0 => fun _ _ _ _ _ => none
  | n + 1 => m_Search_spread_7b F pr_size pr_total pr_perNote pr_mostAlike pr_notePrices pr_mustPass pr_movePrices pr_mustTurn pr_badClosings pr_badTurns pr_passings pr_strongPrices se_top se_closes  (m_Search_spread_7 F pr_size pr_total pr_perNote pr_mostAlike pr_notePrices pr_mustPass pr_movePrices pr_mustTurn pr_badClosings pr_badTurns pr_passings pr_strongPrices se_top se_closes  n)
set_option maxHeartbeats 4000000 in
set_option maxRecDepth 100000 in
theorem lp_Search_spread_7 {r : Int32 × Int32 × (Nat → Int32) × (Nat → Int32) × (Nat → Int32)} {F : Nat} {ad : Nat → Nat} {pr_size : Int32} {pr_total : Int32} {pr_perNote : Int32} {pr_mostAlike : Int32} {pr_notePrices : Nat → Int32} {pr_mustPass : Nat → Int32} {pr_movePrices : Nat → Int32} {pr_mustTurn : Nat → Int32} {pr_badClosings : Nat → Int32} {pr_badTurns : Nat → Int32} {pr_passings : Nat → Int32} {pr_strongPrices : Nat → Int32} {se_top : Int32} {se_closes : Int32} {se_leastCost : Int32} {se_allLines : Int64} {se_leastLines : Int64}  (C : Cx p s m meth c args A D kc R_Search b_Search_spread 3 (some .int))  : ∀ (n : Nat) (se_mark : Int32) (se_layers : Nat → Int32) (se_layerSizes : Nat → Int32) (se_marks : Nat → Int32) (x1 : Int32) (H : Heap) (locs : List Loc) (ls : Array Slot), m_Search_spread_7 F pr_size pr_total pr_perNote pr_mostAlike pr_notePrices pr_mustPass pr_movePrices pr_mustTurn pr_badClosings pr_badTurns pr_passings pr_strongPrices se_top se_closes  n se_mark se_layers se_layerSizes se_marks x1 = some r → St D A s (wd_Search_spread kc ad pr_size pr_total pr_perNote pr_mostAlike pr_notePrices pr_mustPass pr_movePrices pr_mustTurn pr_badClosings pr_badTurns pr_passings pr_strongPrices se_mark se_top se_closes se_leastCost se_allLines se_leastLines se_layers se_layerSizes se_marks) H locs → lv_has ls 3 [(0, .ref (ad 23)), (1, .int x1)] → W p l e rm_Search_spread s m args below meth c H locs 0 0 (MQ below (Qi D A (wd_Search_spread kc ad pr_size pr_total pr_perNote pr_mostAlike pr_notePrices pr_mustPass pr_movePrices pr_mustTurn pr_badClosings pr_badTurns pr_passings pr_strongPrices r.2.1 se_top se_closes se_leastCost se_allLines se_leastLines r.2.2.1 r.2.2.2.1 r.2.2.2.2) r.1) args s 0 0 A) (F0 m 7 ls []) := by
  intro n
  induction n with
  | zero => intro se_mark se_layers se_layerSizes se_marks x1 H locs ls hm; cases hm
  | succ n ih => intro se_mark se_layers se_layerSizes se_marks x1 H locs ls hm hZ hl; exact l_Search_spread_7 C  ih hm hZ hl
def m_Search_spread (F : Nat) (pr_size : Int32) (pr_total : Int32) (pr_perNote : Int32) (pr_mostAlike : Int32) (pr_notePrices : Nat → Int32) (pr_mustPass : Nat → Int32) (pr_movePrices : Nat → Int32) (pr_mustTurn : Nat → Int32) (pr_badClosings : Nat → Int32) (pr_badTurns : Nat → Int32) (pr_passings : Nat → Int32) (pr_strongPrices : Nat → Int32) (se_top : Int32) (se_closes : Int32) (se_mark : Int32) (se_layers : Nat → Int32) (se_layerSizes : Nat → Int32) (se_marks : Nat → Int32)  : Option (Int32 × Int32 × (Nat → Int32) × (Nat → Int32) × (Nat → Int32)) :=
  (bd (m_Search_beginLayer se_mark se_layerSizes (0 : Int32)) (fun u1 => m_Search_spread_7 F pr_size pr_total pr_perNote pr_mostAlike pr_notePrices pr_mustPass pr_movePrices pr_mustTurn pr_badClosings pr_badTurns pr_passings pr_strongPrices se_top se_closes  F u1.1 se_layers u1.2 se_marks (0 : Int32)))
set_option maxHeartbeats 4000000 in
set_option maxRecDepth 100000 in
theorem e_Search_spread {r : Int32 × Int32 × (Nat → Int32) × (Nat → Int32) × (Nat → Int32)} {F : Nat} {ad : Nat → Nat} {pr_size : Int32} {pr_total : Int32} {pr_perNote : Int32} {pr_mostAlike : Int32} {pr_notePrices : Nat → Int32} {pr_mustPass : Nat → Int32} {pr_movePrices : Nat → Int32} {pr_mustTurn : Nat → Int32} {pr_badClosings : Nat → Int32} {pr_badTurns : Nat → Int32} {pr_passings : Nat → Int32} {pr_strongPrices : Nat → Int32} {se_mark : Int32} {se_top : Int32} {se_closes : Int32} {se_leastCost : Int32} {se_allLines : Int64} {se_leastLines : Int64} {se_layers : Nat → Int32} {se_layerSizes : Nat → Int32} {se_marks : Nat → Int32}  {H : Heap} {locs : List Loc} {ls : Array Slot} (C : Cx p s m meth c args A D kc R_Search b_Search_spread 3 (some .int)) (hm : m_Search_spread F pr_size pr_total pr_perNote pr_mostAlike pr_notePrices pr_mustPass pr_movePrices pr_mustTurn pr_badClosings pr_badTurns pr_passings pr_strongPrices se_top se_closes se_mark se_layers se_layerSizes se_marks = some r) (hZ : St D A s (wd_Search_spread kc ad pr_size pr_total pr_perNote pr_mostAlike pr_notePrices pr_mustPass pr_movePrices pr_mustTurn pr_badClosings pr_badTurns pr_passings pr_strongPrices se_mark se_top se_closes se_leastCost se_allLines se_leastLines se_layers se_layerSizes se_marks) H locs) (hl : lv_has ls 3 [(0, .ref (ad 23))]) : W p l e rm_Search_spread s m args below meth c H locs 0 0 (MQ below (Qi D A (wd_Search_spread kc ad pr_size pr_total pr_perNote pr_mostAlike pr_notePrices pr_mustPass pr_movePrices pr_mustTurn pr_badClosings pr_badTurns pr_passings pr_strongPrices r.2.1 se_top se_closes se_leastCost se_allLines se_leastLines r.2.2.1 r.2.2.2.1 r.2.2.2.2) r.1) args s 0 0 A) (F0 m 0 ls []) := by
  obtain ⟨hx, hb, hr, hts, hown, hml, hlocks, hK, hN, hA, hX⟩ := id C
  obtain ⟨hP, hD, hS⟩ := hZ
  unfold m_Search_spread at hm
  refine lv_aload_n hx hb d_Search_spread_0 rfl (lv_at hl 0 rfl) ?_
  refine lv_iconst (v := 0) hx hb d_Search_spread_1 (by decide) ?_
  obtain ⟨u1, hc2, hm⟩ := bd_some hm
  refine zV_v (n := 1) (wr := [((ad 13), .inr (4, [.ref (ad 1), .ref (ad 8), .ref (ad 14), .ref (ad 15), .ref (ad 16), .ref (ad 17), .ref (ad 18), .ref (ad 19), .ref (ad 20), .ref (ad 21), .ref (ad 22), .int pr_size, .int pr_total, .int pr_perNote, .int pr_mostAlike])), ((ad 15), .inl (kc 0, 360, .inl pr_notePrices)), ((ad 16), .inl (kc 1, 360, .inl pr_mustPass)), ((ad 17), .inl (kc 0, 64, .inl pr_movePrices)), ((ad 18), .inl (kc 1, 64, .inl pr_mustTurn)), ((ad 19), .inl (kc 1, 64, .inl pr_badClosings)), ((ad 20), .inl (kc 1, 512, .inl pr_badTurns)), ((ad 21), .inl (kc 1, 512, .inl pr_passings)), ((ad 22), .inl (kc 0, 768, .inl pr_strongPrices)), ((ad 24), .inl (kc 0, 57600, .inl se_layers)), ((ad 28), .inl (kc 0, 3072, .inl se_marks))]) (w1 := (wd_Search_beginLayer kc ad u1.1 se_top se_closes se_leastCost se_allLines se_leastLines u1.2)) (ws1 := (wd_Search_spread kc ad pr_size pr_total pr_perNote pr_mostAlike pr_notePrices pr_mustPass pr_movePrices pr_mustTurn pr_badClosings pr_badTurns pr_passings pr_strongPrices u1.1 se_top se_closes se_leastCost se_allLines se_leastLines se_layers u1.2 se_marks)) (As := [.int (0 : Int32)]) (rest := []) (ci := 6) (q0 := 0) (y := y_Search_beginLayer) ⟨hx, hb, hml, hown, hts⟩ (fun sz => c_Search_beginLayer hc2 sz) gw_615 gw_612 gw_614 gw_39 gw_117 hd_Search_beginLayer ⟨Nat.le_of_ble_eq_true rfl, Nat.le_of_ble_eq_true rfl⟩ ⟨rfl, rfl⟩ ⟨Nat.zero_le _, Nat.zero_le _⟩ hK hN hP hD hS hA hX [9, 11] [0, 1, 2, 3, 4, 5, 6, 7, 8, 10, 12] [0, 1, 2, 3, 4, 5, 6, 7, 8, 11, 9, 12, 10] rfl rfl (by decide) (by decide) (by decide) rfl (by decide) rfl rfl rfl hl.1 rfl (Nat.le_of_ble_eq_true rfl) d_Search_spread_2 (fun H locs hP hD hS => ?_)
  refine lv_iconst (v := 0) hx hb d_Search_spread_5 (by decide) ?_
  refine lv_istore_n (lv' := [(1, .int (0 : Int32)), (0, .ref (ad 23))]) hx hb d_Search_spread_6 rfl hl (by decide) rfl (fun ls hl => ?_)
  exact lp_Search_spread_7 C  F u1.1 se_layers u1.2 se_marks (0 : Int32) _ _ _ hm ⟨hP, hD, hS⟩ (lv_sub hl [1, 0] rfl)
set_option maxHeartbeats 4000000 in
set_option maxRecDepth 100000 in
theorem c_Search_spread {l : Launch} {D : va_G} {kc : Nat → ClassId} {r : Int32 × Int32 × (Nat → Int32) × (Nat → Int32) × (Nat → Int32)} {F : Nat} {ad : Nat → Nat} {pr_size : Int32} {pr_total : Int32} {pr_perNote : Int32} {pr_mostAlike : Int32} {pr_notePrices : Nat → Int32} {pr_mustPass : Nat → Int32} {pr_movePrices : Nat → Int32} {pr_mustTurn : Nat → Int32} {pr_badClosings : Nat → Int32} {pr_badTurns : Nat → Int32} {pr_passings : Nat → Int32} {pr_strongPrices : Nat → Int32} {se_mark : Int32} {se_top : Int32} {se_closes : Int32} {se_leastCost : Int32} {se_allLines : Int64} {se_leastLines : Int64} {se_layers : Nat → Int32} {se_layerSizes : Nat → Int32} {se_marks : Nat → Int32}  (hm : m_Search_spread F pr_size pr_total pr_perNote pr_mostAlike pr_notePrices pr_mustPass pr_movePrices pr_mustTurn pr_badClosings pr_badTurns pr_passings pr_strongPrices se_top se_closes se_mark se_layers se_layerSizes se_marks = some r) (sz : Nat) : Ci l y_Search_spread ws_Search_spread rm_Search_spread D kc sz [.ref (ad 23)] (wd_Search_spread kc ad pr_size pr_total pr_perNote pr_mostAlike pr_notePrices pr_mustPass pr_movePrices pr_mustTurn pr_badClosings pr_badTurns pr_passings pr_strongPrices se_mark se_top se_closes se_leastCost se_allLines se_leastLines se_layers se_layerSizes se_marks) (wd_Search_spread kc ad pr_size pr_total pr_perNote pr_mostAlike pr_notePrices pr_mustPass pr_movePrices pr_mustTurn pr_badClosings pr_badTurns pr_passings pr_strongPrices r.2.1 se_top se_closes se_leastCost se_allLines se_leastLines r.2.2.1 r.2.2.2.1 r.2.2.2.2) r.1 :=
  Cz_of (Qf := fun A => (Qi D A (wd_Search_spread kc ad pr_size pr_total pr_perNote pr_mostAlike pr_notePrices pr_mustPass pr_movePrices pr_mustTurn pr_badClosings pr_badTurns pr_passings pr_strongPrices r.2.1 se_top se_closes se_leastCost se_allLines se_leastLines r.2.2.1 r.2.2.2.1 r.2.2.2.2) r.1)) (cc := b_Search_spread) (maxL := 3) (ret := (some .int)) (by decide) rfl rfl (fun C hZ hl => e_Search_spread C hm hZ hl)
abbrev b_Search_restAt : ByteArray := prog_6_method_16_code
abbrev y_Search_restAt : MethodName := ⟨"SpeciesSolver$Search", "restAt", "(II)I"⟩
theorem d_Search_restAt_0 : decode b_Search_restAt 0 = .ok (.iload_n 0, 1) := by decide +kernel
theorem d_Search_restAt_1 : decode b_Search_restAt 1 = .ok (.iconst 1, 1) := by decide +kernel
theorem d_Search_restAt_2 : decode b_Search_restAt 2 = .ok (.iand, 1) := by decide +kernel
theorem d_Search_restAt_3 : decode b_Search_restAt 3 = .ok (.sipush 1280, 3) := by decide +kernel
theorem d_Search_restAt_6 : decode b_Search_restAt 6 = .ok (.imul, 1) := by decide +kernel
theorem d_Search_restAt_7 : decode b_Search_restAt 7 = .ok (.iload_n 1, 1) := by decide +kernel
theorem d_Search_restAt_8 : decode b_Search_restAt 8 = .ok (.iadd, 1) := by decide +kernel
theorem d_Search_restAt_9 : decode b_Search_restAt 9 = .ok (.ireturn, 1) := by decide +kernel
abbrev wd_Search_restAt (kc : Nat → ClassId)   : va_W := []
abbrev rm_Search_restAt : Room := { frames := 0, cells := 0, slots := 0, locals := 0 }
abbrev cw_Search_restAt : Cond := .code y_Search_restAt b_Search_restAt 2 (some .int)
abbrev ws_Search_restAt : List Cond := cw_Search_restAt :: GW
theorem hd_Search_restAt : y_Search_restAt.cls ≠ "java/lang/invoke/MethodHandle" ∧ y_Search_restAt.cls ≠ "java/lang/invoke/VarHandle" ∧ (parseMethodDescriptor y_Search_restAt.desc).map (fun d => d.parameters.length) = some 2 := by decide +kernel
def m_Search_restAt   (a0 : Int32) (a1 : Int32) : Option (Int32) :=
  (some (((a0 &&& (1 : Int32)) * (1280 : Int32)) + a1))
set_option maxHeartbeats 4000000 in
set_option maxRecDepth 100000 in
theorem e_Search_restAt {r : Int32}   {a0 : Int32} {a1 : Int32} {H : Heap} {locs : List Loc} {ls : Array Slot} (C : Cx p s m meth c args A D kc R_Search b_Search_restAt 2 (some .int)) (hm : m_Search_restAt  a0 a1 = some r) (hZ : St D A s (wd_Search_restAt kc ) H locs) (hl : lv_has ls 2 [(0, .int a0), (1, .int a1)]) : W p l e rm_Search_restAt s m args below meth c H locs 0 0 (MQ below (Qi D A (wd_Search_restAt kc ) r) args s 0 0 A) (F0 m 0 ls []) := by
  obtain ⟨hx, hb, hr, hts, hown, hml, hlocks, hK, hN, hA, hX⟩ := id C
  obtain ⟨hP, hD, hS⟩ := hZ
  unfold m_Search_restAt at hm
  refine lv_iload_n hx hb d_Search_restAt_0 rfl (lv_at hl 0 rfl) ?_
  refine lv_iconst (v := 1) hx hb d_Search_restAt_1 (by decide) ?_
  refine lv_iand hx hb d_Search_restAt_2 ?_
  refine lv_sipush (v := 1280) hx hb d_Search_restAt_3 (by decide) ?_
  refine lv_imul hx hb d_Search_restAt_6 ?_
  refine lv_iload_n hx hb d_Search_restAt_7 rfl (lv_at hl 1 rfl) ?_
  refine lv_iadd hx hb d_Search_restAt_8 ?_
  replace hm := Option.some.inj hm; subst hm
  exact zret_i C hP hD hS d_Search_restAt_9
set_option maxHeartbeats 4000000 in
set_option maxRecDepth 100000 in
theorem c_Search_restAt {l : Launch} {D : va_G} {kc : Nat → ClassId} {r : Int32}   {a0 : Int32} {a1 : Int32} (hm : m_Search_restAt  a0 a1 = some r) (sz : Nat) : Ci l y_Search_restAt ws_Search_restAt rm_Search_restAt D kc sz [.int a0, .int a1] (wd_Search_restAt kc ) (wd_Search_restAt kc ) r :=
  Cz_of (Qf := fun A => (Qi D A (wd_Search_restAt kc ) r)) (cc := b_Search_restAt) (maxL := 2) (ret := (some .int)) (by decide) rfl rfl (fun C hZ hl => e_Search_restAt C hm hZ hl)
abbrev b_Search_writePlaces : ByteArray := prog_6_method_17_code
abbrev y_Search_writePlaces : MethodName := ⟨"SpeciesSolver$Search", "writePlaces", "(I)V"⟩
theorem d_Search_writePlaces_0 : decode b_Search_writePlaces 0 = .ok (.iconst 0, 1) := by decide +kernel
theorem d_Search_writePlaces_1 : decode b_Search_writePlaces 1 = .ok (.istore_n 2, 1) := by decide +kernel
theorem d_Search_writePlaces_2 : decode b_Search_writePlaces 2 = .ok (.iload_n 2, 1) := by decide +kernel
theorem d_Search_writePlaces_3 : decode b_Search_writePlaces 3 = .ok (.aload_n 0, 1) := by decide +kernel
theorem d_Search_writePlaces_4 : decode b_Search_writePlaces 4 = .ok (.getfield 16, 3) := by decide +kernel
theorem d_Search_writePlaces_7 : decode b_Search_writePlaces 7 = .ok (.iload_n 1, 1) := by decide +kernel
theorem d_Search_writePlaces_8 : decode b_Search_writePlaces 8 = .ok (.iaload, 1) := by decide +kernel
theorem d_Search_writePlaces_9 : decode b_Search_writePlaces 9 = .ok (.if_icmp .ge 27, 3) := by decide +kernel
theorem d_Search_writePlaces_12 : decode b_Search_writePlaces 12 = .ok (.aload_n 0, 1) := by decide +kernel
theorem d_Search_writePlaces_13 : decode b_Search_writePlaces 13 = .ok (.getfield 22, 3) := by decide +kernel
theorem d_Search_writePlaces_16 : decode b_Search_writePlaces 16 = .ok (.aload_n 0, 1) := by decide +kernel
theorem d_Search_writePlaces_17 : decode b_Search_writePlaces 17 = .ok (.getfield 12, 3) := by decide +kernel
theorem d_Search_writePlaces_20 : decode b_Search_writePlaces 20 = .ok (.iload_n 1, 1) := by decide +kernel
theorem d_Search_writePlaces_21 : decode b_Search_writePlaces 21 = .ok (.sipush 1280, 3) := by decide +kernel
theorem d_Search_writePlaces_24 : decode b_Search_writePlaces 24 = .ok (.imul, 1) := by decide +kernel
theorem d_Search_writePlaces_25 : decode b_Search_writePlaces 25 = .ok (.iload_n 2, 1) := by decide +kernel
theorem d_Search_writePlaces_26 : decode b_Search_writePlaces 26 = .ok (.iadd, 1) := by decide +kernel
theorem d_Search_writePlaces_27 : decode b_Search_writePlaces 27 = .ok (.iaload, 1) := by decide +kernel
theorem d_Search_writePlaces_28 : decode b_Search_writePlaces 28 = .ok (.iload_n 2, 1) := by decide +kernel
theorem d_Search_writePlaces_29 : decode b_Search_writePlaces 29 = .ok (.iastore, 1) := by decide +kernel
theorem d_Search_writePlaces_30 : decode b_Search_writePlaces 30 = .ok (.iinc 2 1, 3) := by decide +kernel
theorem d_Search_writePlaces_33 : decode b_Search_writePlaces 33 = .ok (.goto (-31), 3) := by decide +kernel
theorem d_Search_writePlaces_36 : decode b_Search_writePlaces 36 = .ok (.return_, 1) := by decide +kernel
abbrev wd_Search_writePlaces (kc : Nat → ClassId) (ad : Nat → Nat) (se_mark : Int32) (se_top : Int32) (se_closes : Int32) (se_leastCost : Int32) (se_allLines : Int64) (se_leastLines : Int64) (se_layers : Nat → Int32) (se_layerSizes : Nat → Int32) (se_places : Nat → Int32) : va_W := [((ad 23), .inr (6, [.ref (ad 1), .ref (ad 13), .ref (ad 24), .ref (ad 25), .ref (ad 26), .ref (ad 27), .ref (ad 28), .int se_mark, .ref (ad 29), .ref (ad 30), .ref (ad 31), .ref (ad 32), .ref (ad 33), .int se_top, .int se_closes, .int se_leastCost, .long se_allLines, .long se_leastLines])), ((ad 24), .inl (kc 0, 57600, .inl se_layers)), ((ad 25), .inl (kc 0, 45, .inl se_layerSizes)), ((ad 27), .inl (kc 0, 3072, .inl se_places))]
abbrev rm_Search_writePlaces : Room := { frames := 0, cells := 0, slots := 0, locals := 0 }
abbrev cw_Search_writePlaces : Cond := .code y_Search_writePlaces b_Search_writePlaces 3 none
abbrev ws_Search_writePlaces : List Cond := cw_Search_writePlaces :: GW
theorem hd_Search_writePlaces : y_Search_writePlaces.cls ≠ "java/lang/invoke/MethodHandle" ∧ y_Search_writePlaces.cls ≠ "java/lang/invoke/VarHandle" ∧ (parseMethodDescriptor y_Search_writePlaces.desc).map (fun d => d.parameters.length) = some 1 := by decide +kernel
def m_Search_writePlaces_2b (F : Nat) (se_layers : Nat → Int32) (se_layerSizes : Nat → Int32) (k2 : (Nat → Int32) → Int32 → Int32 → Option ((Nat → Int32))) (se_places : Nat → Int32) (x1 : Int32) (x2 : Int32) : Option ((Nat → Int32)) :=
  (gd x1 45 (if (se_layerSizes (Int32.toNatClampNeg x1)) ≤ x2 then
    (some se_places)
  else
    (gd ((x1 * (1280 : Int32)) + x2) 57600 (gd (se_layers (Int32.toNatClampNeg ((x1 * (1280 : Int32)) + x2))) 3072 (k2 (upd se_places (Int32.toNatClampNeg (se_layers (Int32.toNatClampNeg ((x1 * (1280 : Int32)) + x2)))) x2) x1 (x2 + 1))))))
set_option maxHeartbeats 4000000 in
set_option maxRecDepth 100000 in
theorem l_Search_writePlaces_2 {r : (Nat → Int32)} {F : Nat} {ad : Nat → Nat} {se_mark : Int32} {se_top : Int32} {se_closes : Int32} {se_leastCost : Int32} {se_allLines : Int64} {se_leastLines : Int64} {se_layers : Nat → Int32} {se_layerSizes : Nat → Int32} {se_places : Nat → Int32} {k2 : (Nat → Int32) → Int32 → Int32 → Option ((Nat → Int32))} {x1 : Int32} {x2 : Int32} {H : Heap} {locs : List Loc} {ls : Array Slot} (C : Cx p s m meth c args A D kc R_Search b_Search_writePlaces 3 none) (hk2 : (∀ (se_places : Nat → Int32) (x1 : Int32) (x2 : Int32) (H : Heap) (locs : List Loc) (ls : Array Slot), k2 se_places x1 x2 = some r → St D A s (wd_Search_writePlaces kc ad se_mark se_top se_closes se_leastCost se_allLines se_leastLines se_layers se_layerSizes se_places) H locs → lv_has ls 3 [(0, .ref (ad 23)), (1, .int x1), (2, .int x2)] → W p l e rm_Search_writePlaces s m args below meth c H locs 0 0 (MQ below (Qv D A (wd_Search_writePlaces kc ad se_mark se_top se_closes se_leastCost se_allLines se_leastLines se_layers se_layerSizes r)) args s 0 0 A) (F0 m 2 ls []))) (hm : m_Search_writePlaces_2b F se_layers se_layerSizes k2 se_places x1 x2 = some r) (hZ : St D A s (wd_Search_writePlaces kc ad se_mark se_top se_closes se_leastCost se_allLines se_leastLines se_layers se_layerSizes se_places) H locs) (hl : lv_has ls 3 [(0, .ref (ad 23)), (1, .int x1), (2, .int x2)]) : W p l e rm_Search_writePlaces s m args below meth c H locs 0 0 (MQ below (Qv D A (wd_Search_writePlaces kc ad se_mark se_top se_closes se_leastCost se_allLines se_leastLines se_layers se_layerSizes r)) args s 0 0 A) (F0 m 2 ls []) := by
  obtain ⟨hx, hb, hr, hts, hown, hml, hlocks, hK, hN, hA, hX⟩ := id C
  obtain ⟨hP, hD, hS⟩ := hZ
  unfold m_Search_writePlaces_2b at hm
  refine lv_iload_n hx hb d_Search_writePlaces_2 rfl (lv_at hl 2 rfl) ?_
  refine lv_aload_n hx hb d_Search_writePlaces_3 rfl (lv_at hl 0 rfl) ?_
  refine va_get (D := D) (ci := 6) (v := .ref (ad 25)) (C := R_Search) (T := T_Search) (N := 18) hx hb hts inG_Search hown hK hP 0 rfl rfl 3 (by decide) (hts _ gw_312) (fun _ h9 => h9) rfl d_Search_writePlaces_4 ?_
  refine lv_iload_n hx hb d_Search_writePlaces_7 rfl (lv_at hl 1 rfl) ?_
  obtain ⟨hi1, hm⟩ := gd_some hm
  refine va_iald hx hb hK hP 2 0 rfl rfl hi1 d_Search_writePlaces_8 ?_
  refine lv_icmp_ge (tgt := 36) hx hb d_Search_writePlaces_9 (by decide) (fun c2 => ?_) (fun c2 => ?_)
  · replace hm := ifT hm c2
    replace hm := Option.some.inj hm; subst hm
    exact zret_v C hP hD hS d_Search_writePlaces_36
  · replace hm := ifF hm c2
    refine lv_aload_n hx hb d_Search_writePlaces_12 rfl (lv_at hl 0 rfl) ?_
    refine va_get (D := D) (ci := 6) (v := .ref (ad 27)) (C := R_Search) (T := T_Search) (N := 18) hx hb hts inG_Search hown hK hP 0 rfl rfl 5 (by decide) (hts _ gw_314) (fun _ h9 => h9) rfl d_Search_writePlaces_13 ?_
    refine lv_aload_n hx hb d_Search_writePlaces_16 rfl (lv_at hl 0 rfl) ?_
    refine va_get (D := D) (ci := 6) (v := .ref (ad 24)) (C := R_Search) (T := T_Search) (N := 18) hx hb hts inG_Search hown hK hP 0 rfl rfl 2 (by decide) (hts _ gw_311) (fun _ h9 => h9) rfl d_Search_writePlaces_17 ?_
    refine lv_iload_n hx hb d_Search_writePlaces_20 rfl (lv_at hl 1 rfl) ?_
    refine lv_sipush (v := 1280) hx hb d_Search_writePlaces_21 (by decide) ?_
    refine lv_imul hx hb d_Search_writePlaces_24 ?_
    refine lv_iload_n hx hb d_Search_writePlaces_25 rfl (lv_at hl 2 rfl) ?_
    refine lv_iadd hx hb d_Search_writePlaces_26 ?_
    obtain ⟨hi3, hm⟩ := gd_some hm
    refine va_iald hx hb hK hP 1 0 rfl rfl hi3 d_Search_writePlaces_27 ?_
    refine lv_iload_n hx hb d_Search_writePlaces_28 rfl (lv_at hl 2 rfl) ?_
    obtain ⟨hi4, hm⟩ := gd_some hm
    refine va_iast hx hb hK hP hD hS 3 0 rfl rfl hi4 d_Search_writePlaces_29 (fun H locs hP hD hS => ?_)
    replace hP : va_P D vwCl (wd_Search_writePlaces kc ad se_mark se_top se_closes se_leastCost se_allLines se_leastLines se_layers se_layerSizes (upd se_places (Int32.toNatClampNeg (se_layers (Int32.toNatClampNeg ((x1 * (1280 : Int32)) + x2)))) x2)) H := hP
    replace hD : va_D A (wd_Search_writePlaces kc ad se_mark se_top se_closes se_leastCost se_allLines se_leastLines se_layers se_layerSizes (upd se_places (Int32.toNatClampNeg (se_layers (Int32.toNatClampNeg ((x1 * (1280 : Int32)) + x2)))) x2)) := hD
    refine lv_iinc (v := (x2 + 1)) (lv' := [(2, .int (x2 + 1)), (0, .ref (ad 23)), (1, .int x1)]) hx hb d_Search_writePlaces_30 hl (k := 2) rfl rfl (by decide) rfl (fun ls hl => ?_)
    refine lv_goto (tgt := 2) hx hb d_Search_writePlaces_33 (by decide) ?_
    exact hk2 (upd se_places (Int32.toNatClampNeg (se_layers (Int32.toNatClampNeg ((x1 * (1280 : Int32)) + x2)))) x2) x1 (x2 + 1) _ _ _ hm ⟨hP, hD, hS⟩ (lv_sub hl [1, 2, 0] rfl)
def m_Search_writePlaces_2 (F : Nat) (se_layers : Nat → Int32) (se_layerSizes : Nat → Int32)  : Nat → (Nat → Int32) → Int32 → Int32 → Option ((Nat → Int32))
  | 0 => fun _ _ _ => none
  | n + 1 => m_Search_writePlaces_2b F se_layers se_layerSizes  (m_Search_writePlaces_2 F se_layers se_layerSizes  n)
set_option maxHeartbeats 4000000 in
set_option maxRecDepth 100000 in
theorem lp_Search_writePlaces_2 {r : (Nat → Int32)} {F : Nat} {ad : Nat → Nat} {se_mark : Int32} {se_top : Int32} {se_closes : Int32} {se_leastCost : Int32} {se_allLines : Int64} {se_leastLines : Int64} {se_layers : Nat → Int32} {se_layerSizes : Nat → Int32}  (C : Cx p s m meth c args A D kc R_Search b_Search_writePlaces 3 none)  : ∀ (n : Nat) (se_places : Nat → Int32) (x1 : Int32) (x2 : Int32) (H : Heap) (locs : List Loc) (ls : Array Slot), m_Search_writePlaces_2 F se_layers se_layerSizes  n se_places x1 x2 = some r → St D A s (wd_Search_writePlaces kc ad se_mark se_top se_closes se_leastCost se_allLines se_leastLines se_layers se_layerSizes se_places) H locs → lv_has ls 3 [(0, .ref (ad 23)), (1, .int x1), (2, .int x2)] → W p l e rm_Search_writePlaces s m args below meth c H locs 0 0 (MQ below (Qv D A (wd_Search_writePlaces kc ad se_mark se_top se_closes se_leastCost se_allLines se_leastLines se_layers se_layerSizes r)) args s 0 0 A) (F0 m 2 ls []) := by
  intro n
  induction n with
  | zero => intro se_places x1 x2 H locs ls hm; cases hm
  | succ n ih => intro se_places x1 x2 H locs ls hm hZ hl; exact l_Search_writePlaces_2 C  ih hm hZ hl
def m_Search_writePlaces (F : Nat) (se_layers : Nat → Int32) (se_layerSizes : Nat → Int32) (se_places : Nat → Int32) (a1 : Int32) : Option ((Nat → Int32)) :=
  m_Search_writePlaces_2 F se_layers se_layerSizes  F se_places a1 (0 : Int32)
set_option maxHeartbeats 4000000 in
set_option maxRecDepth 100000 in
theorem e_Search_writePlaces {r : (Nat → Int32)} {F : Nat} {ad : Nat → Nat} {se_mark : Int32} {se_top : Int32} {se_closes : Int32} {se_leastCost : Int32} {se_allLines : Int64} {se_leastLines : Int64} {se_layers : Nat → Int32} {se_layerSizes : Nat → Int32} {se_places : Nat → Int32} {a1 : Int32} {H : Heap} {locs : List Loc} {ls : Array Slot} (C : Cx p s m meth c args A D kc R_Search b_Search_writePlaces 3 none) (hm : m_Search_writePlaces F se_layers se_layerSizes se_places a1 = some r) (hZ : St D A s (wd_Search_writePlaces kc ad se_mark se_top se_closes se_leastCost se_allLines se_leastLines se_layers se_layerSizes se_places) H locs) (hl : lv_has ls 3 [(0, .ref (ad 23)), (1, .int a1)]) : W p l e rm_Search_writePlaces s m args below meth c H locs 0 0 (MQ below (Qv D A (wd_Search_writePlaces kc ad se_mark se_top se_closes se_leastCost se_allLines se_leastLines se_layers se_layerSizes r)) args s 0 0 A) (F0 m 0 ls []) := by
  obtain ⟨hx, hb, hr, hts, hown, hml, hlocks, hK, hN, hA, hX⟩ := id C
  obtain ⟨hP, hD, hS⟩ := hZ
  unfold m_Search_writePlaces at hm
  refine lv_iconst (v := 0) hx hb d_Search_writePlaces_0 (by decide) ?_
  refine lv_istore_n (lv' := [(2, .int (0 : Int32)), (0, .ref (ad 23)), (1, .int a1)]) hx hb d_Search_writePlaces_1 rfl hl (by decide) rfl (fun ls hl => ?_)
  exact lp_Search_writePlaces_2 C  F se_places a1 (0 : Int32) _ _ _ hm ⟨hP, hD, hS⟩ (lv_sub hl [1, 2, 0] rfl)
set_option maxHeartbeats 4000000 in
set_option maxRecDepth 100000 in
theorem c_Search_writePlaces {l : Launch} {D : va_G} {kc : Nat → ClassId} {r : (Nat → Int32)} {F : Nat} {ad : Nat → Nat} {se_mark : Int32} {se_top : Int32} {se_closes : Int32} {se_leastCost : Int32} {se_allLines : Int64} {se_leastLines : Int64} {se_layers : Nat → Int32} {se_layerSizes : Nat → Int32} {se_places : Nat → Int32} {a1 : Int32} (hm : m_Search_writePlaces F se_layers se_layerSizes se_places a1 = some r) (sz : Nat) : Cv l y_Search_writePlaces ws_Search_writePlaces rm_Search_writePlaces D kc sz [.ref (ad 23), .int a1] (wd_Search_writePlaces kc ad se_mark se_top se_closes se_leastCost se_allLines se_leastLines se_layers se_layerSizes se_places) (wd_Search_writePlaces kc ad se_mark se_top se_closes se_leastCost se_allLines se_leastLines se_layers se_layerSizes r) :=
  Cz_of (Qf := fun A => (Qv D A (wd_Search_writePlaces kc ad se_mark se_top se_closes se_leastCost se_allLines se_leastLines se_layers se_layerSizes r))) (cc := b_Search_writePlaces) (maxL := 3) (ret := none) (by decide) rfl rfl (fun C hZ hl => e_Search_writePlaces C hm hZ hl)
end
