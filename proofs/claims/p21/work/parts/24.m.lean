section
variable {p : Program} {l : Launch} {e : Env} {s : State} {m : MethodId} {args : Array Value} {below : List Frame} {meth : Method} {c : Code} {D : va_G} {kc : Nat → ClassId} {A : Nat → Prop}
abbrev b_Prices_fillTurns : ByteArray := prog_4_method_6_code
abbrev y_Prices_fillTurns : MethodName := ⟨"SpeciesSolver$Prices", "fillTurns", "()V"⟩
theorem d_Prices_fillTurns_0 : decode b_Prices_fillTurns 0 = .ok (.iconst 0, 1) := by decide +kernel
theorem d_Prices_fillTurns_1 : decode b_Prices_fillTurns 1 = .ok (.istore_n 1, 1) := by decide +kernel
theorem d_Prices_fillTurns_2 : decode b_Prices_fillTurns 2 = .ok (.iload_n 1, 1) := by decide +kernel
theorem d_Prices_fillTurns_3 : decode b_Prices_fillTurns 3 = .ok (.aload_n 0, 1) := by decide +kernel
theorem d_Prices_fillTurns_4 : decode b_Prices_fillTurns 4 = .ok (.getfield 40, 3) := by decide +kernel
theorem d_Prices_fillTurns_7 : decode b_Prices_fillTurns 7 = .ok (.if_icmp .ge 139, 3) := by decide +kernel
theorem d_Prices_fillTurns_10 : decode b_Prices_fillTurns 10 = .ok (.iconst 0, 1) := by decide +kernel
theorem d_Prices_fillTurns_11 : decode b_Prices_fillTurns 11 = .ok (.istore_n 2, 1) := by decide +kernel
theorem d_Prices_fillTurns_12 : decode b_Prices_fillTurns 12 = .ok (.iload_n 2, 1) := by decide +kernel
theorem d_Prices_fillTurns_13 : decode b_Prices_fillTurns 13 = .ok (.aload_n 0, 1) := by decide +kernel
theorem d_Prices_fillTurns_14 : decode b_Prices_fillTurns 14 = .ok (.getfield 40, 3) := by decide +kernel
theorem d_Prices_fillTurns_17 : decode b_Prices_fillTurns 17 = .ok (.if_icmp .ge 123, 3) := by decide +kernel
theorem d_Prices_fillTurns_20 : decode b_Prices_fillTurns 20 = .ok (.iconst 0, 1) := by decide +kernel
theorem d_Prices_fillTurns_21 : decode b_Prices_fillTurns 21 = .ok (.istore_n 3, 1) := by decide +kernel
theorem d_Prices_fillTurns_22 : decode b_Prices_fillTurns 22 = .ok (.iload_n 3, 1) := by decide +kernel
theorem d_Prices_fillTurns_23 : decode b_Prices_fillTurns 23 = .ok (.aload_n 0, 1) := by decide +kernel
theorem d_Prices_fillTurns_24 : decode b_Prices_fillTurns 24 = .ok (.getfield 40, 3) := by decide +kernel
theorem d_Prices_fillTurns_27 : decode b_Prices_fillTurns 27 = .ok (.if_icmp .ge 107, 3) := by decide +kernel
theorem d_Prices_fillTurns_30 : decode b_Prices_fillTurns 30 = .ok (.iload_n 1, 1) := by decide +kernel
theorem d_Prices_fillTurns_31 : decode b_Prices_fillTurns 31 = .ok (.bipush 8, 2) := by decide +kernel
theorem d_Prices_fillTurns_33 : decode b_Prices_fillTurns 33 = .ok (.imul, 1) := by decide +kernel
theorem d_Prices_fillTurns_34 : decode b_Prices_fillTurns 34 = .ok (.iload_n 2, 1) := by decide +kernel
theorem d_Prices_fillTurns_35 : decode b_Prices_fillTurns 35 = .ok (.iadd, 1) := by decide +kernel
theorem d_Prices_fillTurns_36 : decode b_Prices_fillTurns 36 = .ok (.bipush 8, 2) := by decide +kernel
theorem d_Prices_fillTurns_38 : decode b_Prices_fillTurns 38 = .ok (.imul, 1) := by decide +kernel
theorem d_Prices_fillTurns_39 : decode b_Prices_fillTurns 39 = .ok (.iload_n 3, 1) := by decide +kernel
theorem d_Prices_fillTurns_40 : decode b_Prices_fillTurns 40 = .ok (.iadd, 1) := by decide +kernel
theorem d_Prices_fillTurns_41 : decode b_Prices_fillTurns 41 = .ok (.istore 4, 2) := by decide +kernel
theorem d_Prices_fillTurns_43 : decode b_Prices_fillTurns 43 = .ok (.aload_n 0, 1) := by decide +kernel
theorem d_Prices_fillTurns_44 : decode b_Prices_fillTurns 44 = .ok (.getfield 31, 3) := by decide +kernel
theorem d_Prices_fillTurns_47 : decode b_Prices_fillTurns 47 = .ok (.iload 4, 2) := by decide +kernel
theorem d_Prices_fillTurns_49 : decode b_Prices_fillTurns 49 = .ok (.aload_n 0, 1) := by decide +kernel
theorem d_Prices_fillTurns_50 : decode b_Prices_fillTurns 50 = .ok (.getfield 53, 3) := by decide +kernel
theorem d_Prices_fillTurns_53 : decode b_Prices_fillTurns 53 = .ok (.getfield 71, 3) := by decide +kernel
theorem d_Prices_fillTurns_56 : decode b_Prices_fillTurns 56 = .ok (.bipush 6, 2) := by decide +kernel
theorem d_Prices_fillTurns_58 : decode b_Prices_fillTurns 58 = .ok (.baload, 1) := by decide +kernel
theorem d_Prices_fillTurns_59 : decode b_Prices_fillTurns 59 = .ok (.ifCond .eq 35, 3) := by decide +kernel
theorem d_Prices_fillTurns_62 : decode b_Prices_fillTurns 62 = .ok (.aload_n 0, 1) := by decide +kernel
theorem d_Prices_fillTurns_63 : decode b_Prices_fillTurns 63 = .ok (.getfield 57, 3) := by decide +kernel
theorem d_Prices_fillTurns_66 : decode b_Prices_fillTurns 66 = .ok (.aload_n 0, 1) := by decide +kernel
theorem d_Prices_fillTurns_67 : decode b_Prices_fillTurns 67 = .ok (.getfield 11, 3) := by decide +kernel
theorem d_Prices_fillTurns_70 : decode b_Prices_fillTurns 70 = .ok (.iload_n 1, 1) := by decide +kernel
theorem d_Prices_fillTurns_71 : decode b_Prices_fillTurns 71 = .ok (.iaload, 1) := by decide +kernel
theorem d_Prices_fillTurns_72 : decode b_Prices_fillTurns 72 = .ok (.aload_n 0, 1) := by decide +kernel
theorem d_Prices_fillTurns_73 : decode b_Prices_fillTurns 73 = .ok (.getfield 11, 3) := by decide +kernel
theorem d_Prices_fillTurns_76 : decode b_Prices_fillTurns 76 = .ok (.iload_n 2, 1) := by decide +kernel
theorem d_Prices_fillTurns_77 : decode b_Prices_fillTurns 77 = .ok (.iaload, 1) := by decide +kernel
theorem d_Prices_fillTurns_78 : decode b_Prices_fillTurns 78 = .ok (.aload_n 0, 1) := by decide +kernel
theorem d_Prices_fillTurns_79 : decode b_Prices_fillTurns 79 = .ok (.getfield 11, 3) := by decide +kernel
theorem d_Prices_fillTurns_82 : decode b_Prices_fillTurns 82 = .ok (.iload_n 3, 1) := by decide +kernel
theorem d_Prices_fillTurns_83 : decode b_Prices_fillTurns 83 = .ok (.iaload, 1) := by decide +kernel
theorem d_Prices_fillTurns_84 : decode b_Prices_fillTurns 84 = .ok (.invokevirtual 127, 3) := by decide +kernel
theorem d_Prices_fillTurns_87 : decode b_Prices_fillTurns 87 = .ok (.ifCond .eq 7, 3) := by decide +kernel
theorem d_Prices_fillTurns_90 : decode b_Prices_fillTurns 90 = .ok (.iconst 1, 1) := by decide +kernel
theorem d_Prices_fillTurns_91 : decode b_Prices_fillTurns 91 = .ok (.goto 4, 3) := by decide +kernel
theorem d_Prices_fillTurns_94 : decode b_Prices_fillTurns 94 = .ok (.iconst 0, 1) := by decide +kernel
theorem d_Prices_fillTurns_95 : decode b_Prices_fillTurns 95 = .ok (.bastore, 1) := by decide +kernel
theorem d_Prices_fillTurns_96 : decode b_Prices_fillTurns 96 = .ok (.aload_n 0, 1) := by decide +kernel
theorem d_Prices_fillTurns_97 : decode b_Prices_fillTurns 97 = .ok (.getfield 34, 3) := by decide +kernel
theorem d_Prices_fillTurns_100 : decode b_Prices_fillTurns 100 = .ok (.iload 4, 2) := by decide +kernel
theorem d_Prices_fillTurns_102 : decode b_Prices_fillTurns 102 = .ok (.aload_n 0, 1) := by decide +kernel
theorem d_Prices_fillTurns_103 : decode b_Prices_fillTurns 103 = .ok (.getfield 57, 3) := by decide +kernel
theorem d_Prices_fillTurns_106 : decode b_Prices_fillTurns 106 = .ok (.aload_n 0, 1) := by decide +kernel
theorem d_Prices_fillTurns_107 : decode b_Prices_fillTurns 107 = .ok (.getfield 11, 3) := by decide +kernel
theorem d_Prices_fillTurns_110 : decode b_Prices_fillTurns 110 = .ok (.iload_n 1, 1) := by decide +kernel
theorem d_Prices_fillTurns_111 : decode b_Prices_fillTurns 111 = .ok (.iaload, 1) := by decide +kernel
theorem d_Prices_fillTurns_112 : decode b_Prices_fillTurns 112 = .ok (.aload_n 0, 1) := by decide +kernel
theorem d_Prices_fillTurns_113 : decode b_Prices_fillTurns 113 = .ok (.getfield 11, 3) := by decide +kernel
theorem d_Prices_fillTurns_116 : decode b_Prices_fillTurns 116 = .ok (.iload_n 2, 1) := by decide +kernel
theorem d_Prices_fillTurns_117 : decode b_Prices_fillTurns 117 = .ok (.iaload, 1) := by decide +kernel
theorem d_Prices_fillTurns_118 : decode b_Prices_fillTurns 118 = .ok (.aload_n 0, 1) := by decide +kernel
theorem d_Prices_fillTurns_119 : decode b_Prices_fillTurns 119 = .ok (.getfield 11, 3) := by decide +kernel
theorem d_Prices_fillTurns_122 : decode b_Prices_fillTurns 122 = .ok (.iload_n 3, 1) := by decide +kernel
theorem d_Prices_fillTurns_123 : decode b_Prices_fillTurns 123 = .ok (.iaload, 1) := by decide +kernel
theorem d_Prices_fillTurns_124 : decode b_Prices_fillTurns 124 = .ok (.invokevirtual 130, 3) := by decide +kernel
theorem d_Prices_fillTurns_127 : decode b_Prices_fillTurns 127 = .ok (.bastore, 1) := by decide +kernel
theorem d_Prices_fillTurns_128 : decode b_Prices_fillTurns 128 = .ok (.iinc 3 1, 3) := by decide +kernel
theorem d_Prices_fillTurns_131 : decode b_Prices_fillTurns 131 = .ok (.goto (-109), 3) := by decide +kernel
theorem d_Prices_fillTurns_134 : decode b_Prices_fillTurns 134 = .ok (.iinc 2 1, 3) := by decide +kernel
theorem d_Prices_fillTurns_137 : decode b_Prices_fillTurns 137 = .ok (.goto (-125), 3) := by decide +kernel
theorem d_Prices_fillTurns_140 : decode b_Prices_fillTurns 140 = .ok (.iinc 1 1, 3) := by decide +kernel
theorem d_Prices_fillTurns_143 : decode b_Prices_fillTurns 143 = .ok (.goto (-141), 3) := by decide +kernel
theorem d_Prices_fillTurns_146 : decode b_Prices_fillTurns 146 = .ok (.return_, 1) := by decide +kernel
abbrev wd_Prices_fillTurns (kc : Nat → ClassId) (ad : Nat → Nat) (su_lines : Int32) (su_length : Int32) (su_perNote : Int32) (su_above : Int32) (su_numbers : Nat → Int32) (su_on : Nat → Int32) (pr_size : Int32) (pr_total : Int32) (pr_perNote : Int32) (pr_mostAlike : Int32) (pr_pitches : Nat → Int32) (pr_badTurns : Nat → Int32) (pr_passings : Nat → Int32) : va_W := [((ad 1), .inr (7, [.ref (ad 2), .ref (ad 3), .ref (ad 4), .int su_lines, .int su_length, .int su_perNote, .int su_above])), ((ad 2), .inl (kc 0, 18, .inl su_numbers)), ((ad 3), .inl (kc 1, 11, .inl su_on)), ((ad 8), .inr (5, [.ref (ad 1)])), ((ad 13), .inr (4, [.ref (ad 1), .ref (ad 8), .ref (ad 14), .ref (ad 15), .ref (ad 16), .ref (ad 17), .ref (ad 18), .ref (ad 19), .ref (ad 20), .ref (ad 21), .ref (ad 22), .int pr_size, .int pr_total, .int pr_perNote, .int pr_mostAlike])), ((ad 14), .inl (kc 0, 8, .inl pr_pitches)), ((ad 20), .inl (kc 1, 512, .inl pr_badTurns)), ((ad 21), .inl (kc 1, 512, .inl pr_passings))]
abbrev rm_Prices_fillTurns : Room := { frames := 3, cells := 0, slots := 0, locals := 67 }
abbrev cw_Prices_fillTurns : Cond := .code y_Prices_fillTurns b_Prices_fillTurns 5 none
abbrev ws_Prices_fillTurns : List Cond := cw_Prices_fillTurns :: GW
theorem hd_Prices_fillTurns : y_Prices_fillTurns.cls ≠ "java/lang/invoke/MethodHandle" ∧ y_Prices_fillTurns.cls ≠ "java/lang/invoke/VarHandle" ∧ (parseMethodDescriptor y_Prices_fillTurns.desc).map (fun d => d.parameters.length) = some 0 := by decide +kernel
def m_Prices_fillTurns_95 (F : Nat) (su_numbers : Nat → Int32) (su_on : Nat → Int32) (pr_size : Int32) (pr_pitches : Nat → Int32) (k2 : (Nat → Int32) → (Nat → Int32) → Int32 → Option ((Nat → Int32) × (Nat → Int32))) (k12 : (Nat → Int32) → (Nat → Int32) → Int32 → Int32 → Option ((Nat → Int32) × (Nat → Int32))) (k22 : (Nat → Int32) → (Nat → Int32) → Int32 → Int32 → Int32 → Option ((Nat → Int32) × (Nat → Int32))) (pr_badTurns : Nat → Int32) (pr_passings : Nat → Int32) (x1 : Int32) (x2 : Int32) (x3 : Int32) (x4 : Int32) (t1 : Int32) (t2 : Int32) : Option ((Nat → Int32) × (Nat → Int32)) :=
  (gd t1 512 (gd x1 8 (gd x2 8 (gd x3 8 (bd (m_Rules_isPassing su_numbers (pr_pitches (Int32.toNatClampNeg x1)) (pr_pitches (Int32.toNatClampNeg x2)) (pr_pitches (Int32.toNatClampNeg x3))) (fun u5 => (gd x4 512 (k22 (upd pr_badTurns (Int32.toNatClampNeg t1) (vp_nar .boolean t2)) (upd pr_passings (Int32.toNatClampNeg x4) (vp_nar .boolean u5)) x1 x2 (x3 + 1)))))))))
set_option maxHeartbeats 4000000 in
set_option maxRecDepth 100000 in
theorem l_Prices_fillTurns_95 {r : (Nat → Int32) × (Nat → Int32)} {F : Nat} {ad : Nat → Nat} {su_lines : Int32} {su_length : Int32} {su_perNote : Int32} {su_above : Int32} {su_numbers : Nat → Int32} {su_on : Nat → Int32} {pr_size : Int32} {pr_total : Int32} {pr_perNote : Int32} {pr_mostAlike : Int32} {pr_pitches : Nat → Int32} {pr_badTurns : Nat → Int32} {pr_passings : Nat → Int32} {k2 : (Nat → Int32) → (Nat → Int32) → Int32 → Option ((Nat → Int32) × (Nat → Int32))} {k12 : (Nat → Int32) → (Nat → Int32) → Int32 → Int32 → Option ((Nat → Int32) × (Nat → Int32))} {k22 : (Nat → Int32) → (Nat → Int32) → Int32 → Int32 → Int32 → Option ((Nat → Int32) × (Nat → Int32))} {x1 : Int32} {x2 : Int32} {x3 : Int32} {x4 : Int32} {t1 : Int32} {t2 : Int32} {H : Heap} {locs : List Loc} {ls : Array Slot} (C : Cx p s m meth c args A D kc R_Prices b_Prices_fillTurns 5 none) (hk2 : (∀ (pr_badTurns : Nat → Int32) (pr_passings : Nat → Int32) (x1 : Int32) (H : Heap) (locs : List Loc) (ls : Array Slot), k2 pr_badTurns pr_passings x1 = some r → St D A s (wd_Prices_fillTurns kc ad su_lines su_length su_perNote su_above su_numbers su_on pr_size pr_total pr_perNote pr_mostAlike pr_pitches pr_badTurns pr_passings) H locs → lv_has ls 5 [(0, .ref (ad 13)), (1, .int x1)] → W p l e rm_Prices_fillTurns s m args below meth c H locs 0 0 (MQ below (Qv D A (wd_Prices_fillTurns kc ad su_lines su_length su_perNote su_above su_numbers su_on pr_size pr_total pr_perNote pr_mostAlike pr_pitches r.1 r.2)) args s 0 0 A) (F0 m 2 ls []))) (hk12 : (∀ (pr_badTurns : Nat → Int32) (pr_passings : Nat → Int32) (x1 : Int32) (x2 : Int32) (H : Heap) (locs : List Loc) (ls : Array Slot), k12 pr_badTurns pr_passings x1 x2 = some r → St D A s (wd_Prices_fillTurns kc ad su_lines su_length su_perNote su_above su_numbers su_on pr_size pr_total pr_perNote pr_mostAlike pr_pitches pr_badTurns pr_passings) H locs → lv_has ls 5 [(0, .ref (ad 13)), (1, .int x1), (2, .int x2)] → W p l e rm_Prices_fillTurns s m args below meth c H locs 0 0 (MQ below (Qv D A (wd_Prices_fillTurns kc ad su_lines su_length su_perNote su_above su_numbers su_on pr_size pr_total pr_perNote pr_mostAlike pr_pitches r.1 r.2)) args s 0 0 A) (F0 m 12 ls []))) (hk22 : (∀ (pr_badTurns : Nat → Int32) (pr_passings : Nat → Int32) (x1 : Int32) (x2 : Int32) (x3 : Int32) (H : Heap) (locs : List Loc) (ls : Array Slot), k22 pr_badTurns pr_passings x1 x2 x3 = some r → St D A s (wd_Prices_fillTurns kc ad su_lines su_length su_perNote su_above su_numbers su_on pr_size pr_total pr_perNote pr_mostAlike pr_pitches pr_badTurns pr_passings) H locs → lv_has ls 5 [(0, .ref (ad 13)), (1, .int x1), (2, .int x2), (3, .int x3)] → W p l e rm_Prices_fillTurns s m args below meth c H locs 0 0 (MQ below (Qv D A (wd_Prices_fillTurns kc ad su_lines su_length su_perNote su_above su_numbers su_on pr_size pr_total pr_perNote pr_mostAlike pr_pitches r.1 r.2)) args s 0 0 A) (F0 m 22 ls []))) (hm : m_Prices_fillTurns_95 F su_numbers su_on pr_size pr_pitches k2 k12 k22 pr_badTurns pr_passings x1 x2 x3 x4 t1 t2 = some r) (hZ : St D A s (wd_Prices_fillTurns kc ad su_lines su_length su_perNote su_above su_numbers su_on pr_size pr_total pr_perNote pr_mostAlike pr_pitches pr_badTurns pr_passings) H locs) (hl : lv_has ls 5 [(0, .ref (ad 13)), (1, .int x1), (2, .int x2), (3, .int x3), (4, .int x4)]) : W p l e rm_Prices_fillTurns s m args below meth c H locs 0 0 (MQ below (Qv D A (wd_Prices_fillTurns kc ad su_lines su_length su_perNote su_above su_numbers su_on pr_size pr_total pr_perNote pr_mostAlike pr_pitches r.1 r.2)) args s 0 0 A) (F0 m 95 ls [.int t2, .int t1, .ref (ad 20)]) := by
  obtain ⟨hx, hb, hr, hts, hown, hml, hlocks, hK, hN, hA, hX⟩ := id C
  obtain ⟨hP, hD, hS⟩ := hZ
  unfold m_Prices_fillTurns_95 at hm
  obtain ⟨hi1, hm⟩ := gd_some hm
  refine va_zast hx hb hK hP hD hS 6 1 rfl rfl hi1 d_Prices_fillTurns_95 (fun H locs hP hD hS => ?_)
  replace hP : va_P D vwCl (wd_Prices_fillTurns kc ad su_lines su_length su_perNote su_above su_numbers su_on pr_size pr_total pr_perNote pr_mostAlike pr_pitches (upd pr_badTurns (Int32.toNatClampNeg t1) (vp_nar .boolean t2)) pr_passings) H := hP
  replace hD : va_D A (wd_Prices_fillTurns kc ad su_lines su_length su_perNote su_above su_numbers su_on pr_size pr_total pr_perNote pr_mostAlike pr_pitches (upd pr_badTurns (Int32.toNatClampNeg t1) (vp_nar .boolean t2)) pr_passings) := hD
  refine lv_aload_n hx hb d_Prices_fillTurns_96 rfl (lv_at hl 0 rfl) ?_
  refine va_get (D := D) (ci := 4) (v := .ref (ad 21)) (C := R_Prices) (T := T_Prices) (N := 15) hx hb hts inG_Prices hown hK hP 4 rfl rfl 9 (by decide) (hts _ gw_261) (fun _ h9 => h9) rfl d_Prices_fillTurns_97 ?_
  refine lv_iload hx hb d_Prices_fillTurns_100 (lv_at hl 4 rfl) ?_
  refine lv_aload_n hx hb d_Prices_fillTurns_102 rfl (lv_at hl 0 rfl) ?_
  refine va_get (D := D) (ci := 4) (v := .ref (ad 8)) (C := R_Prices) (T := T_Prices) (N := 15) hx hb hts inG_Prices hown hK hP 4 rfl rfl 1 (by decide) (hts _ gw_249) (fun _ h9 => h9) rfl d_Prices_fillTurns_103 ?_
  refine lv_aload_n hx hb d_Prices_fillTurns_106 rfl (lv_at hl 0 rfl) ?_
  refine va_get (D := D) (ci := 4) (v := .ref (ad 14)) (C := R_Prices) (T := T_Prices) (N := 15) hx hb hts inG_Prices hown hK hP 4 rfl rfl 2 (by decide) (hts _ gw_250) (fun _ h9 => h9) rfl d_Prices_fillTurns_107 ?_
  refine lv_iload_n hx hb d_Prices_fillTurns_110 rfl (lv_at hl 1 rfl) ?_
  obtain ⟨hi2, hm⟩ := gd_some hm
  refine va_iald hx hb hK hP 5 0 rfl rfl hi2 d_Prices_fillTurns_111 ?_
  refine lv_aload_n hx hb d_Prices_fillTurns_112 rfl (lv_at hl 0 rfl) ?_
  refine va_get (D := D) (ci := 4) (v := .ref (ad 14)) (C := R_Prices) (T := T_Prices) (N := 15) hx hb hts inG_Prices hown hK hP 4 rfl rfl 2 (by decide) (hts _ gw_250) (fun _ h9 => h9) rfl d_Prices_fillTurns_113 ?_
  refine lv_iload_n hx hb d_Prices_fillTurns_116 rfl (lv_at hl 2 rfl) ?_
  obtain ⟨hi3, hm⟩ := gd_some hm
  refine va_iald hx hb hK hP 5 0 rfl rfl hi3 d_Prices_fillTurns_117 ?_
  refine lv_aload_n hx hb d_Prices_fillTurns_118 rfl (lv_at hl 0 rfl) ?_
  refine va_get (D := D) (ci := 4) (v := .ref (ad 14)) (C := R_Prices) (T := T_Prices) (N := 15) hx hb hts inG_Prices hown hK hP 4 rfl rfl 2 (by decide) (hts _ gw_250) (fun _ h9 => h9) rfl d_Prices_fillTurns_119 ?_
  refine lv_iload_n hx hb d_Prices_fillTurns_122 rfl (lv_at hl 3 rfl) ?_
  obtain ⟨hi4, hm⟩ := gd_some hm
  refine va_iald hx hb hK hP 5 0 rfl rfl hi4 d_Prices_fillTurns_123 ?_
  obtain ⟨u5, hc6, hm⟩ := bd_some hm
  refine zVN_i (n := 3) (wr := [((ad 3), .inl (kc 1, 11, .inl su_on)), ((ad 13), .inr (4, [.ref (ad 1), .ref (ad 8), .ref (ad 14), .ref (ad 15), .ref (ad 16), .ref (ad 17), .ref (ad 18), .ref (ad 19), .ref (ad 20), .ref (ad 21), .ref (ad 22), .int pr_size, .int pr_total, .int pr_perNote, .int pr_mostAlike])), ((ad 14), .inl (kc 0, 8, .inl pr_pitches)), ((ad 20), .inl (kc 1, 512, .inl (upd pr_badTurns (Int32.toNatClampNeg t1) (vp_nar .boolean t2)))), ((ad 21), .inl (kc 1, 512, .inl pr_passings))]) (w1 := (wd_Rules_isPassing kc ad su_lines su_length su_perNote su_above su_numbers)) (ws1 := (wd_Prices_fillTurns kc ad su_lines su_length su_perNote su_above su_numbers su_on pr_size pr_total pr_perNote pr_mostAlike pr_pitches (upd pr_badTurns (Int32.toNatClampNeg t1) (vp_nar .boolean t2)) pr_passings)) (As := [.int (pr_pitches (Int32.toNatClampNeg x1)), .int (pr_pitches (Int32.toNatClampNeg x2)), .int (pr_pitches (Int32.toNatClampNeg x3))]) (rest := [.int x4, .ref (ad 21)]) (ci := 5) (q0 := 2) (y := y_Rules_isPassing) (host := "SpeciesSolver") ⟨hx, hb, hml, hown, hts⟩ (fun sz => c_Rules_isPassing hc6 sz) gw_579 (hN _ nw_576) gw_578 gw_30 gw_114 hd_Rules_isPassing ⟨Nat.le_of_ble_eq_true rfl, Nat.le_of_ble_eq_true rfl⟩ ⟨rfl, rfl⟩ ⟨Nat.zero_le _, Nat.zero_le _⟩ hK hN hP hD hS hA hX [0, 1, 3] [2, 4, 5, 6, 7] [5, 6, 0, 7, 1, 2, 3, 4] rfl rfl (by decide) (by decide) (by decide) rfl (by decide) rfl rfl rfl hl.1 rfl (Nat.le_of_ble_eq_true rfl) d_Prices_fillTurns_124 (fun H locs hP hD hS => ?_)
  obtain ⟨hi7, hm⟩ := gd_some hm
  refine va_zast hx hb hK hP hD hS 7 1 rfl rfl hi7 d_Prices_fillTurns_127 (fun H locs hP hD hS => ?_)
  replace hP : va_P D vwCl (wd_Prices_fillTurns kc ad su_lines su_length su_perNote su_above su_numbers su_on pr_size pr_total pr_perNote pr_mostAlike pr_pitches (upd pr_badTurns (Int32.toNatClampNeg t1) (vp_nar .boolean t2)) (upd pr_passings (Int32.toNatClampNeg x4) (vp_nar .boolean u5))) H := hP
  replace hD : va_D A (wd_Prices_fillTurns kc ad su_lines su_length su_perNote su_above su_numbers su_on pr_size pr_total pr_perNote pr_mostAlike pr_pitches (upd pr_badTurns (Int32.toNatClampNeg t1) (vp_nar .boolean t2)) (upd pr_passings (Int32.toNatClampNeg x4) (vp_nar .boolean u5))) := hD
  refine lv_iinc (v := (x3 + 1)) (lv' := [(3, .int (x3 + 1)), (0, .ref (ad 13)), (1, .int x1), (2, .int x2), (4, .int x4)]) hx hb d_Prices_fillTurns_128 hl (k := 3) rfl rfl (by decide) rfl (fun ls hl => ?_)
  refine lv_goto (tgt := 22) hx hb d_Prices_fillTurns_131 (by decide) ?_
  exact hk22 (upd pr_badTurns (Int32.toNatClampNeg t1) (vp_nar .boolean t2)) (upd pr_passings (Int32.toNatClampNeg x4) (vp_nar .boolean u5)) x1 x2 (x3 + 1) _ _ _ hm ⟨hP, hD, hS⟩ (lv_sub hl [1, 2, 3, 0] rfl)
def m_Prices_fillTurns_94 (F : Nat) (su_numbers : Nat → Int32) (su_on : Nat → Int32) (pr_size : Int32) (pr_pitches : Nat → Int32) (k2 : (Nat → Int32) → (Nat → Int32) → Int32 → Option ((Nat → Int32) × (Nat → Int32))) (k12 : (Nat → Int32) → (Nat → Int32) → Int32 → Int32 → Option ((Nat → Int32) × (Nat → Int32))) (k22 : (Nat → Int32) → (Nat → Int32) → Int32 → Int32 → Int32 → Option ((Nat → Int32) × (Nat → Int32))) (pr_badTurns : Nat → Int32) (pr_passings : Nat → Int32) (x1 : Int32) (x2 : Int32) (x3 : Int32) (x4 : Int32) (t1 : Int32) : Option ((Nat → Int32) × (Nat → Int32)) :=
  m_Prices_fillTurns_95 F su_numbers su_on pr_size pr_pitches k2 k12 k22 pr_badTurns pr_passings x1 x2 x3 x4 t1 (0 : Int32)
set_option maxHeartbeats 4000000 in
set_option maxRecDepth 100000 in
theorem l_Prices_fillTurns_94 {r : (Nat → Int32) × (Nat → Int32)} {F : Nat} {ad : Nat → Nat} {su_lines : Int32} {su_length : Int32} {su_perNote : Int32} {su_above : Int32} {su_numbers : Nat → Int32} {su_on : Nat → Int32} {pr_size : Int32} {pr_total : Int32} {pr_perNote : Int32} {pr_mostAlike : Int32} {pr_pitches : Nat → Int32} {pr_badTurns : Nat → Int32} {pr_passings : Nat → Int32} {k2 : (Nat → Int32) → (Nat → Int32) → Int32 → Option ((Nat → Int32) × (Nat → Int32))} {k12 : (Nat → Int32) → (Nat → Int32) → Int32 → Int32 → Option ((Nat → Int32) × (Nat → Int32))} {k22 : (Nat → Int32) → (Nat → Int32) → Int32 → Int32 → Int32 → Option ((Nat → Int32) × (Nat → Int32))} {x1 : Int32} {x2 : Int32} {x3 : Int32} {x4 : Int32} {t1 : Int32} {H : Heap} {locs : List Loc} {ls : Array Slot} (C : Cx p s m meth c args A D kc R_Prices b_Prices_fillTurns 5 none) (hk2 : (∀ (pr_badTurns : Nat → Int32) (pr_passings : Nat → Int32) (x1 : Int32) (H : Heap) (locs : List Loc) (ls : Array Slot), k2 pr_badTurns pr_passings x1 = some r → St D A s (wd_Prices_fillTurns kc ad su_lines su_length su_perNote su_above su_numbers su_on pr_size pr_total pr_perNote pr_mostAlike pr_pitches pr_badTurns pr_passings) H locs → lv_has ls 5 [(0, .ref (ad 13)), (1, .int x1)] → W p l e rm_Prices_fillTurns s m args below meth c H locs 0 0 (MQ below (Qv D A (wd_Prices_fillTurns kc ad su_lines su_length su_perNote su_above su_numbers su_on pr_size pr_total pr_perNote pr_mostAlike pr_pitches r.1 r.2)) args s 0 0 A) (F0 m 2 ls []))) (hk12 : (∀ (pr_badTurns : Nat → Int32) (pr_passings : Nat → Int32) (x1 : Int32) (x2 : Int32) (H : Heap) (locs : List Loc) (ls : Array Slot), k12 pr_badTurns pr_passings x1 x2 = some r → St D A s (wd_Prices_fillTurns kc ad su_lines su_length su_perNote su_above su_numbers su_on pr_size pr_total pr_perNote pr_mostAlike pr_pitches pr_badTurns pr_passings) H locs → lv_has ls 5 [(0, .ref (ad 13)), (1, .int x1), (2, .int x2)] → W p l e rm_Prices_fillTurns s m args below meth c H locs 0 0 (MQ below (Qv D A (wd_Prices_fillTurns kc ad su_lines su_length su_perNote su_above su_numbers su_on pr_size pr_total pr_perNote pr_mostAlike pr_pitches r.1 r.2)) args s 0 0 A) (F0 m 12 ls []))) (hk22 : (∀ (pr_badTurns : Nat → Int32) (pr_passings : Nat → Int32) (x1 : Int32) (x2 : Int32) (x3 : Int32) (H : Heap) (locs : List Loc) (ls : Array Slot), k22 pr_badTurns pr_passings x1 x2 x3 = some r → St D A s (wd_Prices_fillTurns kc ad su_lines su_length su_perNote su_above su_numbers su_on pr_size pr_total pr_perNote pr_mostAlike pr_pitches pr_badTurns pr_passings) H locs → lv_has ls 5 [(0, .ref (ad 13)), (1, .int x1), (2, .int x2), (3, .int x3)] → W p l e rm_Prices_fillTurns s m args below meth c H locs 0 0 (MQ below (Qv D A (wd_Prices_fillTurns kc ad su_lines su_length su_perNote su_above su_numbers su_on pr_size pr_total pr_perNote pr_mostAlike pr_pitches r.1 r.2)) args s 0 0 A) (F0 m 22 ls []))) (hm : m_Prices_fillTurns_94 F su_numbers su_on pr_size pr_pitches k2 k12 k22 pr_badTurns pr_passings x1 x2 x3 x4 t1 = some r) (hZ : St D A s (wd_Prices_fillTurns kc ad su_lines su_length su_perNote su_above su_numbers su_on pr_size pr_total pr_perNote pr_mostAlike pr_pitches pr_badTurns pr_passings) H locs) (hl : lv_has ls 5 [(0, .ref (ad 13)), (1, .int x1), (2, .int x2), (3, .int x3), (4, .int x4)]) : W p l e rm_Prices_fillTurns s m args below meth c H locs 0 0 (MQ below (Qv D A (wd_Prices_fillTurns kc ad su_lines su_length su_perNote su_above su_numbers su_on pr_size pr_total pr_perNote pr_mostAlike pr_pitches r.1 r.2)) args s 0 0 A) (F0 m 94 ls [.int t1, .ref (ad 20)]) := by
  obtain ⟨hx, hb, hr, hts, hown, hml, hlocks, hK, hN, hA, hX⟩ := id C
  obtain ⟨hP, hD, hS⟩ := hZ
  unfold m_Prices_fillTurns_94 at hm
  refine lv_iconst (v := 0) hx hb d_Prices_fillTurns_94 (by decide) ?_
  exact l_Prices_fillTurns_95 C hk2 hk12 hk22 hm ⟨hP, hD, hS⟩ (lv_sub hl [0, 1, 2, 3, 4] rfl)
def m_Prices_fillTurns_22b (F : Nat) (su_numbers : Nat → Int32) (su_on : Nat → Int32) (pr_size : Int32) (pr_pitches : Nat → Int32) (k2 : (Nat → Int32) → (Nat → Int32) → Int32 → Option ((Nat → Int32) × (Nat → Int32))) (k12 : (Nat → Int32) → (Nat → Int32) → Int32 → Int32 → Option ((Nat → Int32) × (Nat → Int32))) (k22 : (Nat → Int32) → (Nat → Int32) → Int32 → Int32 → Int32 → Option ((Nat → Int32) × (Nat → Int32))) (pr_badTurns : Nat → Int32) (pr_passings : Nat → Int32) (x1 : Int32) (x2 : Int32) (x3 : Int32) : Option ((Nat → Int32) × (Nat → Int32)) :=
  (if pr_size ≤ x3 then
    k12 pr_badTurns pr_passings x1 (x2 + 1)
  else
    (if (su_on (Int32.toNatClampNeg (6 : Int32))) = (0 : Int32) then
      m_Prices_fillTurns_94 F su_numbers su_on pr_size pr_pitches k2 k12 k22 pr_badTurns pr_passings x1 x2 x3 ((((x1 * (8 : Int32)) + x2) * (8 : Int32)) + x3) ((((x1 * (8 : Int32)) + x2) * (8 : Int32)) + x3)
    else
      (gd x1 8 (gd x2 8 (gd x3 8 (bd (m_Rules_isNotTurned su_numbers (pr_pitches (Int32.toNatClampNeg x1)) (pr_pitches (Int32.toNatClampNeg x2)) (pr_pitches (Int32.toNatClampNeg x3))) (fun u6 => (if u6 = (0 : Int32) then
        m_Prices_fillTurns_94 F su_numbers su_on pr_size pr_pitches k2 k12 k22 pr_badTurns pr_passings x1 x2 x3 ((((x1 * (8 : Int32)) + x2) * (8 : Int32)) + x3) ((((x1 * (8 : Int32)) + x2) * (8 : Int32)) + x3)
      else
        m_Prices_fillTurns_95 F su_numbers su_on pr_size pr_pitches k2 k12 k22 pr_badTurns pr_passings x1 x2 x3 ((((x1 * (8 : Int32)) + x2) * (8 : Int32)) + x3) ((((x1 * (8 : Int32)) + x2) * (8 : Int32)) + x3) (1 : Int32)))))))))
set_option maxHeartbeats 4000000 in
set_option maxRecDepth 100000 in
theorem l_Prices_fillTurns_22 {r : (Nat → Int32) × (Nat → Int32)} {F : Nat} {ad : Nat → Nat} {su_lines : Int32} {su_length : Int32} {su_perNote : Int32} {su_above : Int32} {su_numbers : Nat → Int32} {su_on : Nat → Int32} {pr_size : Int32} {pr_total : Int32} {pr_perNote : Int32} {pr_mostAlike : Int32} {pr_pitches : Nat → Int32} {pr_badTurns : Nat → Int32} {pr_passings : Nat → Int32} {k2 : (Nat → Int32) → (Nat → Int32) → Int32 → Option ((Nat → Int32) × (Nat → Int32))} {k12 : (Nat → Int32) → (Nat → Int32) → Int32 → Int32 → Option ((Nat → Int32) × (Nat → Int32))} {k22 : (Nat → Int32) → (Nat → Int32) → Int32 → Int32 → Int32 → Option ((Nat → Int32) × (Nat → Int32))} {x1 : Int32} {x2 : Int32} {x3 : Int32} {H : Heap} {locs : List Loc} {ls : Array Slot} (C : Cx p s m meth c args A D kc R_Prices b_Prices_fillTurns 5 none) (hk2 : (∀ (pr_badTurns : Nat → Int32) (pr_passings : Nat → Int32) (x1 : Int32) (H : Heap) (locs : List Loc) (ls : Array Slot), k2 pr_badTurns pr_passings x1 = some r → St D A s (wd_Prices_fillTurns kc ad su_lines su_length su_perNote su_above su_numbers su_on pr_size pr_total pr_perNote pr_mostAlike pr_pitches pr_badTurns pr_passings) H locs → lv_has ls 5 [(0, .ref (ad 13)), (1, .int x1)] → W p l e rm_Prices_fillTurns s m args below meth c H locs 0 0 (MQ below (Qv D A (wd_Prices_fillTurns kc ad su_lines su_length su_perNote su_above su_numbers su_on pr_size pr_total pr_perNote pr_mostAlike pr_pitches r.1 r.2)) args s 0 0 A) (F0 m 2 ls []))) (hk12 : (∀ (pr_badTurns : Nat → Int32) (pr_passings : Nat → Int32) (x1 : Int32) (x2 : Int32) (H : Heap) (locs : List Loc) (ls : Array Slot), k12 pr_badTurns pr_passings x1 x2 = some r → St D A s (wd_Prices_fillTurns kc ad su_lines su_length su_perNote su_above su_numbers su_on pr_size pr_total pr_perNote pr_mostAlike pr_pitches pr_badTurns pr_passings) H locs → lv_has ls 5 [(0, .ref (ad 13)), (1, .int x1), (2, .int x2)] → W p l e rm_Prices_fillTurns s m args below meth c H locs 0 0 (MQ below (Qv D A (wd_Prices_fillTurns kc ad su_lines su_length su_perNote su_above su_numbers su_on pr_size pr_total pr_perNote pr_mostAlike pr_pitches r.1 r.2)) args s 0 0 A) (F0 m 12 ls []))) (hk22 : (∀ (pr_badTurns : Nat → Int32) (pr_passings : Nat → Int32) (x1 : Int32) (x2 : Int32) (x3 : Int32) (H : Heap) (locs : List Loc) (ls : Array Slot), k22 pr_badTurns pr_passings x1 x2 x3 = some r → St D A s (wd_Prices_fillTurns kc ad su_lines su_length su_perNote su_above su_numbers su_on pr_size pr_total pr_perNote pr_mostAlike pr_pitches pr_badTurns pr_passings) H locs → lv_has ls 5 [(0, .ref (ad 13)), (1, .int x1), (2, .int x2), (3, .int x3)] → W p l e rm_Prices_fillTurns s m args below meth c H locs 0 0 (MQ below (Qv D A (wd_Prices_fillTurns kc ad su_lines su_length su_perNote su_above su_numbers su_on pr_size pr_total pr_perNote pr_mostAlike pr_pitches r.1 r.2)) args s 0 0 A) (F0 m 22 ls []))) (hm : m_Prices_fillTurns_22b F su_numbers su_on pr_size pr_pitches k2 k12 k22 pr_badTurns pr_passings x1 x2 x3 = some r) (hZ : St D A s (wd_Prices_fillTurns kc ad su_lines su_length su_perNote su_above su_numbers su_on pr_size pr_total pr_perNote pr_mostAlike pr_pitches pr_badTurns pr_passings) H locs) (hl : lv_has ls 5 [(0, .ref (ad 13)), (1, .int x1), (2, .int x2), (3, .int x3)]) : W p l e rm_Prices_fillTurns s m args below meth c H locs 0 0 (MQ below (Qv D A (wd_Prices_fillTurns kc ad su_lines su_length su_perNote su_above su_numbers su_on pr_size pr_total pr_perNote pr_mostAlike pr_pitches r.1 r.2)) args s 0 0 A) (F0 m 22 ls []) := by
  obtain ⟨hx, hb, hr, hts, hown, hml, hlocks, hK, hN, hA, hX⟩ := id C
  obtain ⟨hP, hD, hS⟩ := hZ
  unfold m_Prices_fillTurns_22b at hm
  refine lv_iload_n hx hb d_Prices_fillTurns_22 rfl (lv_at hl 3 rfl) ?_
  refine lv_aload_n hx hb d_Prices_fillTurns_23 rfl (lv_at hl 0 rfl) ?_
  refine va_get (D := D) (ci := 4) (v := .int pr_size) (C := R_Prices) (T := T_Prices) (N := 15) hx hb hts inG_Prices hown hK hP 4 rfl rfl 11 (by decide) (hts _ gw_263) (fun _ h9 => h9) rfl d_Prices_fillTurns_24 ?_
  refine lv_icmp_ge (tgt := 134) hx hb d_Prices_fillTurns_27 (by decide) (fun c1 => ?_) (fun c1 => ?_)
  · replace hm := ifT hm c1
    refine lv_iinc (v := (x2 + 1)) (lv' := [(2, .int (x2 + 1)), (0, .ref (ad 13)), (1, .int x1), (3, .int x3)]) hx hb d_Prices_fillTurns_134 hl (k := 2) rfl rfl (by decide) rfl (fun ls hl => ?_)
    refine lv_goto (tgt := 12) hx hb d_Prices_fillTurns_137 (by decide) ?_
    exact hk12 pr_badTurns pr_passings x1 (x2 + 1) _ _ _ hm ⟨hP, hD, hS⟩ (lv_sub hl [1, 2, 0] rfl)
  · replace hm := ifF hm c1
    refine lv_iload_n hx hb d_Prices_fillTurns_30 rfl (lv_at hl 1 rfl) ?_
    refine lv_bipush (v := 8) hx hb d_Prices_fillTurns_31 (by decide) ?_
    refine lv_imul hx hb d_Prices_fillTurns_33 ?_
    refine lv_iload_n hx hb d_Prices_fillTurns_34 rfl (lv_at hl 2 rfl) ?_
    refine lv_iadd hx hb d_Prices_fillTurns_35 ?_
    refine lv_bipush (v := 8) hx hb d_Prices_fillTurns_36 (by decide) ?_
    refine lv_imul hx hb d_Prices_fillTurns_38 ?_
    refine lv_iload_n hx hb d_Prices_fillTurns_39 rfl (lv_at hl 3 rfl) ?_
    refine lv_iadd hx hb d_Prices_fillTurns_40 ?_
    refine lv_istore (lv' := [(4, .int ((((x1 * (8 : Int32)) + x2) * (8 : Int32)) + x3)), (0, .ref (ad 13)), (1, .int x1), (2, .int x2), (3, .int x3)]) hx hb d_Prices_fillTurns_41 hl (by decide) rfl (fun ls hl => ?_)
    refine lv_aload_n hx hb d_Prices_fillTurns_43 rfl (lv_at hl 1 rfl) ?_
    refine va_get (D := D) (ci := 4) (v := .ref (ad 20)) (C := R_Prices) (T := T_Prices) (N := 15) hx hb hts inG_Prices hown hK hP 4 rfl rfl 8 (by decide) (hts _ gw_260) (fun _ h9 => h9) rfl d_Prices_fillTurns_44 ?_
    refine lv_iload hx hb d_Prices_fillTurns_47 (lv_at hl 0 rfl) ?_
    refine lv_aload_n hx hb d_Prices_fillTurns_49 rfl (lv_at hl 1 rfl) ?_
    refine va_get (D := D) (ci := 4) (v := .ref (ad 1)) (C := R_Prices) (T := T_Prices) (N := 15) hx hb hts inG_Prices hown hK hP 4 rfl rfl 0 (by decide) (hts _ gw_248) (fun _ h9 => h9) rfl d_Prices_fillTurns_50 ?_
    refine va_getN (D := D) (ci := 7) (v := .ref (ad 3)) (C := R_Setup) (T := T_Setup) (N := 7) hx hb hts inG_Setup hown hK hP 0 rfl rfl 1 (by decide) (va_Nw.use rfl (hN _ nw_165)) (fun _ h9 => h9) rfl d_Prices_fillTurns_53 ?_
    refine lv_bipush (v := 6) hx hb d_Prices_fillTurns_56 (by decide) ?_
    refine va_zald hx hb hK hP 2 1 rfl rfl (in_lit (by decide)) d_Prices_fillTurns_58 ?_
    refine lv_if_eq (tgt := 94) hx hb d_Prices_fillTurns_59 (by decide) (fun c2 => ?_) (fun c2 => ?_)
    · replace hm := ifT hm c2
      exact l_Prices_fillTurns_94 C hk2 hk12 hk22 hm ⟨hP, hD, hS⟩ (lv_sub hl [1, 2, 3, 4, 0] rfl)
    · replace hm := ifF hm c2
      refine lv_aload_n hx hb d_Prices_fillTurns_62 rfl (lv_at hl 1 rfl) ?_
      refine va_get (D := D) (ci := 4) (v := .ref (ad 8)) (C := R_Prices) (T := T_Prices) (N := 15) hx hb hts inG_Prices hown hK hP 4 rfl rfl 1 (by decide) (hts _ gw_249) (fun _ h9 => h9) rfl d_Prices_fillTurns_63 ?_
      refine lv_aload_n hx hb d_Prices_fillTurns_66 rfl (lv_at hl 1 rfl) ?_
      refine va_get (D := D) (ci := 4) (v := .ref (ad 14)) (C := R_Prices) (T := T_Prices) (N := 15) hx hb hts inG_Prices hown hK hP 4 rfl rfl 2 (by decide) (hts _ gw_250) (fun _ h9 => h9) rfl d_Prices_fillTurns_67 ?_
      refine lv_iload_n hx hb d_Prices_fillTurns_70 rfl (lv_at hl 2 rfl) ?_
      obtain ⟨hi3, hm⟩ := gd_some hm
      refine va_iald hx hb hK hP 5 0 rfl rfl hi3 d_Prices_fillTurns_71 ?_
      refine lv_aload_n hx hb d_Prices_fillTurns_72 rfl (lv_at hl 1 rfl) ?_
      refine va_get (D := D) (ci := 4) (v := .ref (ad 14)) (C := R_Prices) (T := T_Prices) (N := 15) hx hb hts inG_Prices hown hK hP 4 rfl rfl 2 (by decide) (hts _ gw_250) (fun _ h9 => h9) rfl d_Prices_fillTurns_73 ?_
      refine lv_iload_n hx hb d_Prices_fillTurns_76 rfl (lv_at hl 3 rfl) ?_
      obtain ⟨hi4, hm⟩ := gd_some hm
      refine va_iald hx hb hK hP 5 0 rfl rfl hi4 d_Prices_fillTurns_77 ?_
      refine lv_aload_n hx hb d_Prices_fillTurns_78 rfl (lv_at hl 1 rfl) ?_
      refine va_get (D := D) (ci := 4) (v := .ref (ad 14)) (C := R_Prices) (T := T_Prices) (N := 15) hx hb hts inG_Prices hown hK hP 4 rfl rfl 2 (by decide) (hts _ gw_250) (fun _ h9 => h9) rfl d_Prices_fillTurns_79 ?_
      refine lv_iload_n hx hb d_Prices_fillTurns_82 rfl (lv_at hl 4 rfl) ?_
      obtain ⟨hi5, hm⟩ := gd_some hm
      refine va_iald hx hb hK hP 5 0 rfl rfl hi5 d_Prices_fillTurns_83 ?_
      obtain ⟨u6, hc7, hm⟩ := bd_some hm
      refine zVN_i (n := 3) (wr := [((ad 3), .inl (kc 1, 11, .inl su_on)), ((ad 13), .inr (4, [.ref (ad 1), .ref (ad 8), .ref (ad 14), .ref (ad 15), .ref (ad 16), .ref (ad 17), .ref (ad 18), .ref (ad 19), .ref (ad 20), .ref (ad 21), .ref (ad 22), .int pr_size, .int pr_total, .int pr_perNote, .int pr_mostAlike])), ((ad 14), .inl (kc 0, 8, .inl pr_pitches)), ((ad 20), .inl (kc 1, 512, .inl pr_badTurns)), ((ad 21), .inl (kc 1, 512, .inl pr_passings))]) (w1 := (wd_Rules_isNotTurned kc ad su_lines su_length su_perNote su_above su_numbers)) (ws1 := (wd_Prices_fillTurns kc ad su_lines su_length su_perNote su_above su_numbers su_on pr_size pr_total pr_perNote pr_mostAlike pr_pitches pr_badTurns pr_passings)) (As := [.int (pr_pitches (Int32.toNatClampNeg x1)), .int (pr_pitches (Int32.toNatClampNeg x2)), .int (pr_pitches (Int32.toNatClampNeg x3))]) (rest := [.int ((((x1 * (8 : Int32)) + x2) * (8 : Int32)) + x3), .ref (ad 20)]) (ci := 5) (q0 := 2) (y := y_Rules_isNotTurned) (host := "SpeciesSolver") ⟨hx, hb, hml, hown, hts⟩ (fun sz => c_Rules_isNotTurned hc7 sz) gw_574 (hN _ nw_571) gw_573 gw_29 gw_114 hd_Rules_isNotTurned ⟨Nat.le_of_ble_eq_true rfl, Nat.le_of_ble_eq_true rfl⟩ ⟨rfl, rfl⟩ ⟨Nat.zero_le _, Nat.zero_le _⟩ hK hN hP hD hS hA hX [0, 1, 3] [2, 4, 5, 6, 7] [5, 6, 0, 7, 1, 2, 3, 4] rfl rfl (by decide) (by decide) (by decide) rfl (by decide) rfl rfl rfl hl.1 rfl (Nat.le_of_ble_eq_true rfl) d_Prices_fillTurns_84 (fun H locs hP hD hS => ?_)
      refine lv_if_eq (tgt := 94) hx hb d_Prices_fillTurns_87 (by decide) (fun c8 => ?_) (fun c8 => ?_)
      · replace hm := ifT hm c8
        exact l_Prices_fillTurns_94 C hk2 hk12 hk22 hm ⟨hP, hD, hS⟩ (lv_sub hl [1, 2, 3, 4, 0] rfl)
      · replace hm := ifF hm c8
        refine lv_iconst (v := 1) hx hb d_Prices_fillTurns_90 (by decide) ?_
        refine lv_goto (tgt := 95) hx hb d_Prices_fillTurns_91 (by decide) ?_
        exact l_Prices_fillTurns_95 C hk2 hk12 hk22 hm ⟨hP, hD, hS⟩ (lv_sub hl [1, 2, 3, 4, 0] rfl)
def m_Prices_fillTurns_22 (F : Nat) (su_numbers : Nat → Int32) (su_on : Nat → Int32) (pr_size : Int32) (pr_pitches : Nat → Int32) (k2 : (Nat → Int32) → (Nat → Int32) → Int32 → Option ((Nat → Int32) × (Nat → Int32))) (k12 : (Nat → Int32) → (Nat → Int32) → Int32 → Int32 → Option ((Nat → Int32) × (Nat → Int32))) : Nat → (Nat → Int32) → (Nat → Int32) → Int32 → Int32 → Int32 → Option ((Nat → Int32) × (Nat → Int32))
  | 0 => fun _ _ _ _ _ => none
  | n + 1 => m_Prices_fillTurns_22b F su_numbers su_on pr_size pr_pitches k2 k12 (m_Prices_fillTurns_22 F su_numbers su_on pr_size pr_pitches k2 k12 n)
set_option maxHeartbeats 4000000 in
set_option maxRecDepth 100000 in
theorem lp_Prices_fillTurns_22 {r : (Nat → Int32) × (Nat → Int32)} {F : Nat} {ad : Nat → Nat} {su_lines : Int32} {su_length : Int32} {su_perNote : Int32} {su_above : Int32} {su_numbers : Nat → Int32} {su_on : Nat → Int32} {pr_size : Int32} {pr_total : Int32} {pr_perNote : Int32} {pr_mostAlike : Int32} {pr_pitches : Nat → Int32} {k2 : (Nat → Int32) → (Nat → Int32) → Int32 → Option ((Nat → Int32) × (Nat → Int32))} {k12 : (Nat → Int32) → (Nat → Int32) → Int32 → Int32 → Option ((Nat → Int32) × (Nat → Int32))} (C : Cx p s m meth c args A D kc R_Prices b_Prices_fillTurns 5 none) (hk2 : (∀ (pr_badTurns : Nat → Int32) (pr_passings : Nat → Int32) (x1 : Int32) (H : Heap) (locs : List Loc) (ls : Array Slot), k2 pr_badTurns pr_passings x1 = some r → St D A s (wd_Prices_fillTurns kc ad su_lines su_length su_perNote su_above su_numbers su_on pr_size pr_total pr_perNote pr_mostAlike pr_pitches pr_badTurns pr_passings) H locs → lv_has ls 5 [(0, .ref (ad 13)), (1, .int x1)] → W p l e rm_Prices_fillTurns s m args below meth c H locs 0 0 (MQ below (Qv D A (wd_Prices_fillTurns kc ad su_lines su_length su_perNote su_above su_numbers su_on pr_size pr_total pr_perNote pr_mostAlike pr_pitches r.1 r.2)) args s 0 0 A) (F0 m 2 ls []))) (hk12 : (∀ (pr_badTurns : Nat → Int32) (pr_passings : Nat → Int32) (x1 : Int32) (x2 : Int32) (H : Heap) (locs : List Loc) (ls : Array Slot), k12 pr_badTurns pr_passings x1 x2 = some r → St D A s (wd_Prices_fillTurns kc ad su_lines su_length su_perNote su_above su_numbers su_on pr_size pr_total pr_perNote pr_mostAlike pr_pitches pr_badTurns pr_passings) H locs → lv_has ls 5 [(0, .ref (ad 13)), (1, .int x1), (2, .int x2)] → W p l e rm_Prices_fillTurns s m args below meth c H locs 0 0 (MQ below (Qv D A (wd_Prices_fillTurns kc ad su_lines su_length su_perNote su_above su_numbers su_on pr_size pr_total pr_perNote pr_mostAlike pr_pitches r.1 r.2)) args s 0 0 A) (F0 m 12 ls []))) : ∀ (n : Nat) (pr_badTurns : Nat → Int32) (pr_passings : Nat → Int32) (x1 : Int32) (x2 : Int32) (x3 : Int32) (H : Heap) (locs : List Loc) (ls : Array Slot), m_Prices_fillTurns_22 F su_numbers su_on pr_size pr_pitches k2 k12 n pr_badTurns pr_passings x1 x2 x3 = some r → St D A s (wd_Prices_fillTurns kc ad su_lines su_length su_perNote su_above su_numbers su_on pr_size pr_total pr_perNote pr_mostAlike pr_pitches pr_badTurns pr_passings) H locs → lv_has ls 5 [(0, .ref (ad 13)), (1, .int x1), (2, .int x2), (3, .int x3)] → W p l e rm_Prices_fillTurns s m args below meth c H locs 0 0 (MQ below (Qv D A (wd_Prices_fillTurns kc ad su_lines su_length su_perNote su_above su_numbers su_on pr_size pr_total pr_perNote pr_mostAlike pr_pitches r.1 r.2)) args s 0 0 A) (F0 m 22 ls []) := by
  intro n
  induction n with
  | zero => intro pr_badTurns pr_passings x1 x2 x3 H locs ls hm; cases hm
  | succ n ih => intro pr_badTurns pr_passings x1 x2 x3 H locs ls hm hZ hl; exact l_Prices_fillTurns_22 C hk2 hk12 ih hm hZ hl
def m_Prices_fillTurns_12b (F : Nat) (su_numbers : Nat → Int32) (su_on : Nat → Int32) (pr_size : Int32) (pr_pitches : Nat → Int32) (k2 : (Nat → Int32) → (Nat → Int32) → Int32 → Option ((Nat → Int32) × (Nat → Int32))) (k12 : (Nat → Int32) → (Nat → Int32) → Int32 → Int32 → Option ((Nat → Int32) × (Nat → Int32))) (pr_badTurns : Nat → Int32) (pr_passings : Nat → Int32) (x1 : Int32) (x2 : Int32) : Option ((Nat → Int32) × (Nat → Int32)) :=
  (if pr_size ≤ x2 then
    k2 pr_badTurns pr_passings (x1 + 1)
  else
    m_Prices_fillTurns_22 F su_numbers su_on pr_size pr_pitches k2 k12 F pr_badTurns pr_passings x1 x2 (0 : Int32))
set_option maxHeartbeats 4000000 in
set_option maxRecDepth 100000 in
theorem l_Prices_fillTurns_12 {r : (Nat → Int32) × (Nat → Int32)} {F : Nat} {ad : Nat → Nat} {su_lines : Int32} {su_length : Int32} {su_perNote : Int32} {su_above : Int32} {su_numbers : Nat → Int32} {su_on : Nat → Int32} {pr_size : Int32} {pr_total : Int32} {pr_perNote : Int32} {pr_mostAlike : Int32} {pr_pitches : Nat → Int32} {pr_badTurns : Nat → Int32} {pr_passings : Nat → Int32} {k2 : (Nat → Int32) → (Nat → Int32) → Int32 → Option ((Nat → Int32) × (Nat → Int32))} {k12 : (Nat → Int32) → (Nat → Int32) → Int32 → Int32 → Option ((Nat → Int32) × (Nat → Int32))} {x1 : Int32} {x2 : Int32} {H : Heap} {locs : List Loc} {ls : Array Slot} (C : Cx p s m meth c args A D kc R_Prices b_Prices_fillTurns 5 none) (hk2 : (∀ (pr_badTurns : Nat → Int32) (pr_passings : Nat → Int32) (x1 : Int32) (H : Heap) (locs : List Loc) (ls : Array Slot), k2 pr_badTurns pr_passings x1 = some r → St D A s (wd_Prices_fillTurns kc ad su_lines su_length su_perNote su_above su_numbers su_on pr_size pr_total pr_perNote pr_mostAlike pr_pitches pr_badTurns pr_passings) H locs → lv_has ls 5 [(0, .ref (ad 13)), (1, .int x1)] → W p l e rm_Prices_fillTurns s m args below meth c H locs 0 0 (MQ below (Qv D A (wd_Prices_fillTurns kc ad su_lines su_length su_perNote su_above su_numbers su_on pr_size pr_total pr_perNote pr_mostAlike pr_pitches r.1 r.2)) args s 0 0 A) (F0 m 2 ls []))) (hk12 : (∀ (pr_badTurns : Nat → Int32) (pr_passings : Nat → Int32) (x1 : Int32) (x2 : Int32) (H : Heap) (locs : List Loc) (ls : Array Slot), k12 pr_badTurns pr_passings x1 x2 = some r → St D A s (wd_Prices_fillTurns kc ad su_lines su_length su_perNote su_above su_numbers su_on pr_size pr_total pr_perNote pr_mostAlike pr_pitches pr_badTurns pr_passings) H locs → lv_has ls 5 [(0, .ref (ad 13)), (1, .int x1), (2, .int x2)] → W p l e rm_Prices_fillTurns s m args below meth c H locs 0 0 (MQ below (Qv D A (wd_Prices_fillTurns kc ad su_lines su_length su_perNote su_above su_numbers su_on pr_size pr_total pr_perNote pr_mostAlike pr_pitches r.1 r.2)) args s 0 0 A) (F0 m 12 ls []))) (hm : m_Prices_fillTurns_12b F su_numbers su_on pr_size pr_pitches k2 k12 pr_badTurns pr_passings x1 x2 = some r) (hZ : St D A s (wd_Prices_fillTurns kc ad su_lines su_length su_perNote su_above su_numbers su_on pr_size pr_total pr_perNote pr_mostAlike pr_pitches pr_badTurns pr_passings) H locs) (hl : lv_has ls 5 [(0, .ref (ad 13)), (1, .int x1), (2, .int x2)]) : W p l e rm_Prices_fillTurns s m args below meth c H locs 0 0 (MQ below (Qv D A (wd_Prices_fillTurns kc ad su_lines su_length su_perNote su_above su_numbers su_on pr_size pr_total pr_perNote pr_mostAlike pr_pitches r.1 r.2)) args s 0 0 A) (F0 m 12 ls []) := by
  obtain ⟨hx, hb, hr, hts, hown, hml, hlocks, hK, hN, hA, hX⟩ := id C
  obtain ⟨hP, hD, hS⟩ := hZ
  unfold m_Prices_fillTurns_12b at hm
  refine lv_iload_n hx hb d_Prices_fillTurns_12 rfl (lv_at hl 2 rfl) ?_
  refine lv_aload_n hx hb d_Prices_fillTurns_13 rfl (lv_at hl 0 rfl) ?_
  refine va_get (D := D) (ci := 4) (v := .int pr_size) (C := R_Prices) (T := T_Prices) (N := 15) hx hb hts inG_Prices hown hK hP 4 rfl rfl 11 (by decide) (hts _ gw_263) (fun _ h9 => h9) rfl d_Prices_fillTurns_14 ?_
  refine lv_icmp_ge (tgt := 140) hx hb d_Prices_fillTurns_17 (by decide) (fun c1 => ?_) (fun c1 => ?_)
  · replace hm := ifT hm c1
    refine lv_iinc (v := (x1 + 1)) (lv' := [(1, .int (x1 + 1)), (0, .ref (ad 13)), (2, .int x2)]) hx hb d_Prices_fillTurns_140 hl (k := 1) rfl rfl (by decide) rfl (fun ls hl => ?_)
    refine lv_goto (tgt := 2) hx hb d_Prices_fillTurns_143 (by decide) ?_
    exact hk2 pr_badTurns pr_passings (x1 + 1) _ _ _ hm ⟨hP, hD, hS⟩ (lv_sub hl [1, 0] rfl)
  · replace hm := ifF hm c1
    refine lv_iconst (v := 0) hx hb d_Prices_fillTurns_20 (by decide) ?_
    refine lv_istore_n (lv' := [(3, .int (0 : Int32)), (0, .ref (ad 13)), (1, .int x1), (2, .int x2)]) hx hb d_Prices_fillTurns_21 rfl hl (by decide) rfl (fun ls hl => ?_)
    exact lp_Prices_fillTurns_22 C hk2 hk12 F pr_badTurns pr_passings x1 x2 (0 : Int32) _ _ _ hm ⟨hP, hD, hS⟩ (lv_sub hl [1, 2, 3, 0] rfl)
def m_Prices_fillTurns_12 (F : Nat) (su_numbers : Nat → Int32) (su_on : Nat → Int32) (pr_size : Int32) (pr_pitches : Nat → Int32) (k2 : (Nat → Int32) → (Nat → Int32) → Int32 → Option ((Nat → Int32) × (Nat → Int32))) : Nat → (Nat → Int32) → (Nat → Int32) → Int32 → Int32 → Option ((Nat → Int32) × (Nat → Int32))
  | 0 => fun _ _ _ _ => none
  | n + 1 => m_Prices_fillTurns_12b F su_numbers su_on pr_size pr_pitches k2 (m_Prices_fillTurns_12 F su_numbers su_on pr_size pr_pitches k2 n)
set_option maxHeartbeats 4000000 in
set_option maxRecDepth 100000 in
theorem lp_Prices_fillTurns_12 {r : (Nat → Int32) × (Nat → Int32)} {F : Nat} {ad : Nat → Nat} {su_lines : Int32} {su_length : Int32} {su_perNote : Int32} {su_above : Int32} {su_numbers : Nat → Int32} {su_on : Nat → Int32} {pr_size : Int32} {pr_total : Int32} {pr_perNote : Int32} {pr_mostAlike : Int32} {pr_pitches : Nat → Int32} {k2 : (Nat → Int32) → (Nat → Int32) → Int32 → Option ((Nat → Int32) × (Nat → Int32))} (C : Cx p s m meth c args A D kc R_Prices b_Prices_fillTurns 5 none) (hk2 : (∀ (pr_badTurns : Nat → Int32) (pr_passings : Nat → Int32) (x1 : Int32) (H : Heap) (locs : List Loc) (ls : Array Slot), k2 pr_badTurns pr_passings x1 = some r → St D A s (wd_Prices_fillTurns kc ad su_lines su_length su_perNote su_above su_numbers su_on pr_size pr_total pr_perNote pr_mostAlike pr_pitches pr_badTurns pr_passings) H locs → lv_has ls 5 [(0, .ref (ad 13)), (1, .int x1)] → W p l e rm_Prices_fillTurns s m args below meth c H locs 0 0 (MQ below (Qv D A (wd_Prices_fillTurns kc ad su_lines su_length su_perNote su_above su_numbers su_on pr_size pr_total pr_perNote pr_mostAlike pr_pitches r.1 r.2)) args s 0 0 A) (F0 m 2 ls []))) : ∀ (n : Nat) (pr_badTurns : Nat → Int32) (pr_passings : Nat → Int32) (x1 : Int32) (x2 : Int32) (H : Heap) (locs : List Loc) (ls : Array Slot), m_Prices_fillTurns_12 F su_numbers su_on pr_size pr_pitches k2 n pr_badTurns pr_passings x1 x2 = some r → St D A s (wd_Prices_fillTurns kc ad su_lines su_length su_perNote su_above su_numbers su_on pr_size pr_total pr_perNote pr_mostAlike pr_pitches pr_badTurns pr_passings) H locs → lv_has ls 5 [(0, .ref (ad 13)), (1, .int x1), (2, .int x2)] → W p l e rm_Prices_fillTurns s m args below meth c H locs 0 0 (MQ below (Qv D A (wd_Prices_fillTurns kc ad su_lines su_length su_perNote su_above su_numbers su_on pr_size pr_total pr_perNote pr_mostAlike pr_pitches r.1 r.2)) args s 0 0 A) (F0 m 12 ls []) := by
  intro n
  induction n with
  | zero => intro pr_badTurns pr_passings x1 x2 H locs ls hm; cases hm
  | succ n ih => intro pr_badTurns pr_passings x1 x2 H locs ls hm hZ hl; exact l_Prices_fillTurns_12 C hk2 ih hm hZ hl
def m_Prices_fillTurns_2b (F : Nat) (su_numbers : Nat → Int32) (su_on : Nat → Int32) (pr_size : Int32) (pr_pitches : Nat → Int32) (k2 : (Nat → Int32) → (Nat → Int32) → Int32 → Option ((Nat → Int32) × (Nat → Int32))) (pr_badTurns : Nat → Int32) (pr_passings : Nat → Int32) (x1 : Int32) : Option ((Nat → Int32) × (Nat → Int32)) :=
  (if pr_size ≤ x1 then
    (some (pr_badTurns, pr_passings))
  else
    m_Prices_fillTurns_12 F su_numbers su_on pr_size pr_pitches k2 F pr_badTurns pr_passings x1 (0 : Int32))
set_option maxHeartbeats 4000000 in
set_option maxRecDepth 100000 in
theorem l_Prices_fillTurns_2 {r : (Nat → Int32) × (Nat → Int32)} {F : Nat} {ad : Nat → Nat} {su_lines : Int32} {su_length : Int32} {su_perNote : Int32} {su_above : Int32} {su_numbers : Nat → Int32} {su_on : Nat → Int32} {pr_size : Int32} {pr_total : Int32} {pr_perNote : Int32} {pr_mostAlike : Int32} {pr_pitches : Nat → Int32} {pr_badTurns : Nat → Int32} {pr_passings : Nat → Int32} {k2 : (Nat → Int32) → (Nat → Int32) → Int32 → Option ((Nat → Int32) × (Nat → Int32))} {x1 : Int32} {H : Heap} {locs : List Loc} {ls : Array Slot} (C : Cx p s m meth c args A D kc R_Prices b_Prices_fillTurns 5 none) (hk2 : (∀ (pr_badTurns : Nat → Int32) (pr_passings : Nat → Int32) (x1 : Int32) (H : Heap) (locs : List Loc) (ls : Array Slot), k2 pr_badTurns pr_passings x1 = some r → St D A s (wd_Prices_fillTurns kc ad su_lines su_length su_perNote su_above su_numbers su_on pr_size pr_total pr_perNote pr_mostAlike pr_pitches pr_badTurns pr_passings) H locs → lv_has ls 5 [(0, .ref (ad 13)), (1, .int x1)] → W p l e rm_Prices_fillTurns s m args below meth c H locs 0 0 (MQ below (Qv D A (wd_Prices_fillTurns kc ad su_lines su_length su_perNote su_above su_numbers su_on pr_size pr_total pr_perNote pr_mostAlike pr_pitches r.1 r.2)) args s 0 0 A) (F0 m 2 ls []))) (hm : m_Prices_fillTurns_2b F su_numbers su_on pr_size pr_pitches k2 pr_badTurns pr_passings x1 = some r) (hZ : St D A s (wd_Prices_fillTurns kc ad su_lines su_length su_perNote su_above su_numbers su_on pr_size pr_total pr_perNote pr_mostAlike pr_pitches pr_badTurns pr_passings) H locs) (hl : lv_has ls 5 [(0, .ref (ad 13)), (1, .int x1)]) : W p l e rm_Prices_fillTurns s m args below meth c H locs 0 0 (MQ below (Qv D A (wd_Prices_fillTurns kc ad su_lines su_length su_perNote su_above su_numbers su_on pr_size pr_total pr_perNote pr_mostAlike pr_pitches r.1 r.2)) args s 0 0 A) (F0 m 2 ls []) := by
  obtain ⟨hx, hb, hr, hts, hown, hml, hlocks, hK, hN, hA, hX⟩ := id C
  obtain ⟨hP, hD, hS⟩ := hZ
  unfold m_Prices_fillTurns_2b at hm
  refine lv_iload_n hx hb d_Prices_fillTurns_2 rfl (lv_at hl 1 rfl) ?_
  refine lv_aload_n hx hb d_Prices_fillTurns_3 rfl (lv_at hl 0 rfl) ?_
  refine va_get (D := D) (ci := 4) (v := .int pr_size) (C := R_Prices) (T := T_Prices) (N := 15) hx hb hts inG_Prices hown hK hP 4 rfl rfl 11 (by decide) (hts _ gw_263) (fun _ h9 => h9) rfl d_Prices_fillTurns_4 ?_
  refine lv_icmp_ge (tgt := 146) hx hb d_Prices_fillTurns_7 (by decide) (fun c1 => ?_) (fun c1 => ?_)
  · replace hm := ifT hm c1
    replace hm := Option.some.inj hm; subst hm
    exact zret_v C hP hD hS d_Prices_fillTurns_146
  · replace hm := ifF hm c1
    refine lv_iconst (v := 0) hx hb d_Prices_fillTurns_10 (by decide) ?_
    refine lv_istore_n (lv' := [(2, .int (0 : Int32)), (0, .ref (ad 13)), (1, .int x1)]) hx hb d_Prices_fillTurns_11 rfl hl (by decide) rfl (fun ls hl => ?_)
    exact lp_Prices_fillTurns_12 C hk2 F pr_badTurns pr_passings x1 (0 : Int32) _ _ _ hm ⟨hP, hD, hS⟩ (lv_sub hl [1, 2, 0] rfl)
def m_Prices_fillTurns_2 (F : Nat) (su_numbers : Nat → Int32) (su_on : Nat → Int32) (pr_size : Int32) (pr_pitches : Nat → Int32)  : Nat → (Nat → Int32) → (Nat → Int32) → Int32 → Option ((Nat → Int32) × (Nat → Int32))
  | 0 => fun _ _ _ => none
  | n + 1 => m_Prices_fillTurns_2b F su_numbers su_on pr_size pr_pitches  (m_Prices_fillTurns_2 F su_numbers su_on pr_size pr_pitches  n)
set_option maxHeartbeats 4000000 in
set_option maxRecDepth 100000 in
theorem lp_Prices_fillTurns_2 {r : (Nat → Int32) × (Nat → Int32)} {F : Nat} {ad : Nat → Nat} {su_lines : Int32} {su_length : Int32} {su_perNote : Int32} {su_above : Int32} {su_numbers : Nat → Int32} {su_on : Nat → Int32} {pr_size : Int32} {pr_total : Int32} {pr_perNote : Int32} {pr_mostAlike : Int32} {pr_pitches : Nat → Int32}  (C : Cx p s m meth c args A D kc R_Prices b_Prices_fillTurns 5 none)  : ∀ (n : Nat) (pr_badTurns : Nat → Int32) (pr_passings : Nat → Int32) (x1 : Int32) (H : Heap) (locs : List Loc) (ls : Array Slot), m_Prices_fillTurns_2 F su_numbers su_on pr_size pr_pitches  n pr_badTurns pr_passings x1 = some r → St D A s (wd_Prices_fillTurns kc ad su_lines su_length su_perNote su_above su_numbers su_on pr_size pr_total pr_perNote pr_mostAlike pr_pitches pr_badTurns pr_passings) H locs → lv_has ls 5 [(0, .ref (ad 13)), (1, .int x1)] → W p l e rm_Prices_fillTurns s m args below meth c H locs 0 0 (MQ below (Qv D A (wd_Prices_fillTurns kc ad su_lines su_length su_perNote su_above su_numbers su_on pr_size pr_total pr_perNote pr_mostAlike pr_pitches r.1 r.2)) args s 0 0 A) (F0 m 2 ls []) := by
  intro n
  induction n with
  | zero => intro pr_badTurns pr_passings x1 H locs ls hm; cases hm
  | succ n ih => intro pr_badTurns pr_passings x1 H locs ls hm hZ hl; exact l_Prices_fillTurns_2 C  ih hm hZ hl
def m_Prices_fillTurns (F : Nat) (su_numbers : Nat → Int32) (su_on : Nat → Int32) (pr_size : Int32) (pr_pitches : Nat → Int32) (pr_badTurns : Nat → Int32) (pr_passings : Nat → Int32)  : Option ((Nat → Int32) × (Nat → Int32)) :=
  m_Prices_fillTurns_2 F su_numbers su_on pr_size pr_pitches  F pr_badTurns pr_passings (0 : Int32)
set_option maxHeartbeats 4000000 in
set_option maxRecDepth 100000 in
theorem e_Prices_fillTurns {r : (Nat → Int32) × (Nat → Int32)} {F : Nat} {ad : Nat → Nat} {su_lines : Int32} {su_length : Int32} {su_perNote : Int32} {su_above : Int32} {su_numbers : Nat → Int32} {su_on : Nat → Int32} {pr_size : Int32} {pr_total : Int32} {pr_perNote : Int32} {pr_mostAlike : Int32} {pr_pitches : Nat → Int32} {pr_badTurns : Nat → Int32} {pr_passings : Nat → Int32}  {H : Heap} {locs : List Loc} {ls : Array Slot} (C : Cx p s m meth c args A D kc R_Prices b_Prices_fillTurns 5 none) (hm : m_Prices_fillTurns F su_numbers su_on pr_size pr_pitches pr_badTurns pr_passings = some r) (hZ : St D A s (wd_Prices_fillTurns kc ad su_lines su_length su_perNote su_above su_numbers su_on pr_size pr_total pr_perNote pr_mostAlike pr_pitches pr_badTurns pr_passings) H locs) (hl : lv_has ls 5 [(0, .ref (ad 13))]) : W p l e rm_Prices_fillTurns s m args below meth c H locs 0 0 (MQ below (Qv D A (wd_Prices_fillTurns kc ad su_lines su_length su_perNote su_above su_numbers su_on pr_size pr_total pr_perNote pr_mostAlike pr_pitches r.1 r.2)) args s 0 0 A) (F0 m 0 ls []) := by
  obtain ⟨hx, hb, hr, hts, hown, hml, hlocks, hK, hN, hA, hX⟩ := id C
  obtain ⟨hP, hD, hS⟩ := hZ
  unfold m_Prices_fillTurns at hm
  refine lv_iconst (v := 0) hx hb d_Prices_fillTurns_0 (by decide) ?_
  refine lv_istore_n (lv' := [(1, .int (0 : Int32)), (0, .ref (ad 13))]) hx hb d_Prices_fillTurns_1 rfl hl (by decide) rfl (fun ls hl => ?_)
  exact lp_Prices_fillTurns_2 C  F pr_badTurns pr_passings (0 : Int32) _ _ _ hm ⟨hP, hD, hS⟩ (lv_sub hl [1, 0] rfl)
set_option maxHeartbeats 4000000 in
set_option maxRecDepth 100000 in
theorem c_Prices_fillTurns {l : Launch} {D : va_G} {kc : Nat → ClassId} {r : (Nat → Int32) × (Nat → Int32)} {F : Nat} {ad : Nat → Nat} {su_lines : Int32} {su_length : Int32} {su_perNote : Int32} {su_above : Int32} {su_numbers : Nat → Int32} {su_on : Nat → Int32} {pr_size : Int32} {pr_total : Int32} {pr_perNote : Int32} {pr_mostAlike : Int32} {pr_pitches : Nat → Int32} {pr_badTurns : Nat → Int32} {pr_passings : Nat → Int32}  (hm : m_Prices_fillTurns F su_numbers su_on pr_size pr_pitches pr_badTurns pr_passings = some r) (sz : Nat) : Cv l y_Prices_fillTurns ws_Prices_fillTurns rm_Prices_fillTurns D kc sz [.ref (ad 13)] (wd_Prices_fillTurns kc ad su_lines su_length su_perNote su_above su_numbers su_on pr_size pr_total pr_perNote pr_mostAlike pr_pitches pr_badTurns pr_passings) (wd_Prices_fillTurns kc ad su_lines su_length su_perNote su_above su_numbers su_on pr_size pr_total pr_perNote pr_mostAlike pr_pitches r.1 r.2) :=
  Cz_of (Qf := fun A => (Qv D A (wd_Prices_fillTurns kc ad su_lines su_length su_perNote su_above su_numbers su_on pr_size pr_total pr_perNote pr_mostAlike pr_pitches r.1 r.2))) (cc := b_Prices_fillTurns) (maxL := 5) (ret := none) (by decide) rfl rfl (fun C hZ hl => e_Prices_fillTurns C hm hZ hl)
abbrev b_Rules_isAlike : ByteArray := prog_5_method_8_code
abbrev y_Rules_isAlike : MethodName := ⟨"SpeciesSolver$Rules", "isAlike", "(IIII)Z"⟩
theorem d_Rules_isAlike_0 : decode b_Rules_isAlike 0 = .ok (.iload_n 2, 1) := by decide +kernel
theorem d_Rules_isAlike_1 : decode b_Rules_isAlike 1 = .ok (.aload_n 0, 1) := by decide +kernel
theorem d_Rules_isAlike_2 : decode b_Rules_isAlike 2 = .ok (.getfield 9, 3) := by decide +kernel
theorem d_Rules_isAlike_5 : decode b_Rules_isAlike 5 = .ok (.getfield 21, 3) := by decide +kernel
theorem d_Rules_isAlike_8 : decode b_Rules_isAlike 8 = .ok (.idiv, 1) := by decide +kernel
theorem d_Rules_isAlike_9 : decode b_Rules_isAlike 9 = .ok (.istore 5, 2) := by decide +kernel
theorem d_Rules_isAlike_11 : decode b_Rules_isAlike 11 = .ok (.iload 5, 2) := by decide +kernel
theorem d_Rules_isAlike_13 : decode b_Rules_isAlike 13 = .ok (.iconst 1, 1) := by decide +kernel
theorem d_Rules_isAlike_14 : decode b_Rules_isAlike 14 = .ok (.if_icmp .ge 5, 3) := by decide +kernel
theorem d_Rules_isAlike_17 : decode b_Rules_isAlike 17 = .ok (.iconst 0, 1) := by decide +kernel
theorem d_Rules_isAlike_18 : decode b_Rules_isAlike 18 = .ok (.ireturn, 1) := by decide +kernel
theorem d_Rules_isAlike_19 : decode b_Rules_isAlike 19 = .ok (.aload_n 0, 1) := by decide +kernel
theorem d_Rules_isAlike_20 : decode b_Rules_isAlike 20 = .ok (.getfield 9, 3) := by decide +kernel
theorem d_Rules_isAlike_23 : decode b_Rules_isAlike 23 = .ok (.getfield 25, 3) := by decide +kernel
theorem d_Rules_isAlike_26 : decode b_Rules_isAlike 26 = .ok (.iload_n 1, 1) := by decide +kernel
theorem d_Rules_isAlike_27 : decode b_Rules_isAlike 27 = .ok (.aaload, 1) := by decide +kernel
theorem d_Rules_isAlike_28 : decode b_Rules_isAlike 28 = .ok (.iload 5, 2) := by decide +kernel
theorem d_Rules_isAlike_30 : decode b_Rules_isAlike 30 = .ok (.iconst 1, 1) := by decide +kernel
theorem d_Rules_isAlike_31 : decode b_Rules_isAlike 31 = .ok (.isub, 1) := by decide +kernel
theorem d_Rules_isAlike_32 : decode b_Rules_isAlike 32 = .ok (.iaload, 1) := by decide +kernel
theorem d_Rules_isAlike_33 : decode b_Rules_isAlike 33 = .ok (.istore 6, 2) := by decide +kernel
theorem d_Rules_isAlike_35 : decode b_Rules_isAlike 35 = .ok (.aload_n 0, 1) := by decide +kernel
theorem d_Rules_isAlike_36 : decode b_Rules_isAlike 36 = .ok (.getfield 9, 3) := by decide +kernel
theorem d_Rules_isAlike_39 : decode b_Rules_isAlike 39 = .ok (.getfield 25, 3) := by decide +kernel
theorem d_Rules_isAlike_42 : decode b_Rules_isAlike 42 = .ok (.iload_n 1, 1) := by decide +kernel
theorem d_Rules_isAlike_43 : decode b_Rules_isAlike 43 = .ok (.aaload, 1) := by decide +kernel
theorem d_Rules_isAlike_44 : decode b_Rules_isAlike 44 = .ok (.iload 5, 2) := by decide +kernel
theorem d_Rules_isAlike_46 : decode b_Rules_isAlike 46 = .ok (.iaload, 1) := by decide +kernel
theorem d_Rules_isAlike_47 : decode b_Rules_isAlike 47 = .ok (.istore 7, 2) := by decide +kernel
theorem d_Rules_isAlike_49 : decode b_Rules_isAlike 49 = .ok (.iload_n 3, 1) := by decide +kernel
theorem d_Rules_isAlike_50 : decode b_Rules_isAlike 50 = .ok (.iload 4, 2) := by decide +kernel
theorem d_Rules_isAlike_52 : decode b_Rules_isAlike 52 = .ok (.if_icmp .ge 10, 3) := by decide +kernel
theorem d_Rules_isAlike_55 : decode b_Rules_isAlike 55 = .ok (.iload 6, 2) := by decide +kernel
theorem d_Rules_isAlike_57 : decode b_Rules_isAlike 57 = .ok (.iload 7, 2) := by decide +kernel
theorem d_Rules_isAlike_59 : decode b_Rules_isAlike 59 = .ok (.if_icmp .lt 16, 3) := by decide +kernel
theorem d_Rules_isAlike_62 : decode b_Rules_isAlike 62 = .ok (.iload_n 3, 1) := by decide +kernel
theorem d_Rules_isAlike_63 : decode b_Rules_isAlike 63 = .ok (.iload 4, 2) := by decide +kernel
theorem d_Rules_isAlike_65 : decode b_Rules_isAlike 65 = .ok (.if_icmp .le 14, 3) := by decide +kernel
theorem d_Rules_isAlike_68 : decode b_Rules_isAlike 68 = .ok (.iload 6, 2) := by decide +kernel
theorem d_Rules_isAlike_70 : decode b_Rules_isAlike 70 = .ok (.iload 7, 2) := by decide +kernel
theorem d_Rules_isAlike_72 : decode b_Rules_isAlike 72 = .ok (.if_icmp .le 7, 3) := by decide +kernel
theorem d_Rules_isAlike_75 : decode b_Rules_isAlike 75 = .ok (.iconst 1, 1) := by decide +kernel
theorem d_Rules_isAlike_76 : decode b_Rules_isAlike 76 = .ok (.goto 4, 3) := by decide +kernel
theorem d_Rules_isAlike_79 : decode b_Rules_isAlike 79 = .ok (.iconst 0, 1) := by decide +kernel
theorem d_Rules_isAlike_80 : decode b_Rules_isAlike 80 = .ok (.ireturn, 1) := by decide +kernel
abbrev wd_Rules_isAlike (kc : Nat → ClassId) (ad : Nat → Nat) (su_lines : Int32) (su_length : Int32) (su_perNote : Int32) (su_above : Int32) (su_given : Nat → Nat → Int32) : va_W := [((ad 1), .inr (7, [.ref (ad 2), .ref (ad 3), .ref (ad 4), .int su_lines, .int su_length, .int su_perNote, .int su_above])), ((ad 4), .inl (kc 3, 3, .inr (.inr (.inr (.inr (fun i => if i < 3 then some (ad (5 + i)) else none)))))), ((ad 5), .inl (kc 0, 12, .inl (su_given 0))), ((ad 6), .inl (kc 0, 12, .inl (su_given 1))), ((ad 7), .inl (kc 0, 12, .inl (su_given 2))), ((ad 8), .inr (5, [.ref (ad 1)]))]
abbrev rm_Rules_isAlike : Room := { frames := 0, cells := 0, slots := 0, locals := 0 }
abbrev cw_Rules_isAlike : Cond := .code y_Rules_isAlike b_Rules_isAlike 8 (some .boolean)
abbrev ws_Rules_isAlike : List Cond := cw_Rules_isAlike :: GW
theorem hd_Rules_isAlike : y_Rules_isAlike.cls ≠ "java/lang/invoke/MethodHandle" ∧ y_Rules_isAlike.cls ≠ "java/lang/invoke/VarHandle" ∧ (parseMethodDescriptor y_Rules_isAlike.desc).map (fun d => d.parameters.length) = some 4 := by decide +kernel
def m_Rules_isAlike_62 (su_perNote : Int32) (su_given : Nat → Nat → Int32)   (x3 : Int32) (x4 : Int32) (x6 : Int32) (x7 : Int32) : Option (Int32) :=
  (if x3 ≤ x4 then
    (some (0 : Int32))
  else
    (if x6 ≤ x7 then
      (some (0 : Int32))
    else
      (some (1 : Int32))))
set_option maxHeartbeats 4000000 in
set_option maxRecDepth 100000 in
theorem l_Rules_isAlike_62 {r : Int32} {ad : Nat → Nat} {su_lines : Int32} {su_length : Int32} {su_perNote : Int32} {su_above : Int32} {su_given : Nat → Nat → Int32}  {x3 : Int32} {x4 : Int32} {x6 : Int32} {x7 : Int32} {H : Heap} {locs : List Loc} {ls : Array Slot} (C : Cx p s m meth c args A D kc R_Rules b_Rules_isAlike 8 (some .boolean))  (hm : m_Rules_isAlike_62 su_perNote su_given  x3 x4 x6 x7 = some r) (hZ : St D A s (wd_Rules_isAlike kc ad su_lines su_length su_perNote su_above su_given) H locs) (hl : lv_has ls 8 [(3, .int x3), (4, .int x4), (6, .int x6), (7, .int x7)]) : W p l e rm_Rules_isAlike s m args below meth c H locs 0 0 (MQ below (Qi D A (wd_Rules_isAlike kc ad su_lines su_length su_perNote su_above su_given) r) args s 0 0 A) (F0 m 62 ls []) := by
  obtain ⟨hx, hb, hr, hts, hown, hml, hlocks, hK, hN, hA, hX⟩ := id C
  obtain ⟨hP, hD, hS⟩ := hZ
  unfold m_Rules_isAlike_62 at hm
  refine lv_iload_n hx hb d_Rules_isAlike_62 rfl (lv_at hl 0 rfl) ?_
  refine lv_iload hx hb d_Rules_isAlike_63 (lv_at hl 1 rfl) ?_
  refine lv_icmp_le (tgt := 79) hx hb d_Rules_isAlike_65 (by decide) (fun c1 => ?_) (fun c1 => ?_)
  · replace hm := ifT hm c1
    refine lv_iconst (v := 0) hx hb d_Rules_isAlike_79 (by decide) ?_
    replace hm := Option.some.inj hm; subst hm
    exact zret_z (v := 0) C hP hD hS (by rfl) d_Rules_isAlike_80
  · replace hm := ifF hm c1
    refine lv_iload hx hb d_Rules_isAlike_68 (lv_at hl 2 rfl) ?_
    refine lv_iload hx hb d_Rules_isAlike_70 (lv_at hl 3 rfl) ?_
    refine lv_icmp_le (tgt := 79) hx hb d_Rules_isAlike_72 (by decide) (fun c2 => ?_) (fun c2 => ?_)
    · replace hm := ifT hm c2
      refine lv_iconst (v := 0) hx hb d_Rules_isAlike_79 (by decide) ?_
      replace hm := Option.some.inj hm; subst hm
      exact zret_z (v := 0) C hP hD hS (by rfl) d_Rules_isAlike_80
    · replace hm := ifF hm c2
      refine lv_iconst (v := 1) hx hb d_Rules_isAlike_75 (by decide) ?_
      refine lv_goto (tgt := 80) hx hb d_Rules_isAlike_76 (by decide) ?_
      replace hm := Option.some.inj hm; subst hm
      exact zret_z (v := 1) C hP hD hS (by rfl) d_Rules_isAlike_80
def m_Rules_isAlike (su_perNote : Int32) (su_given : Nat → Nat → Int32)  (a1 : Int32) (a2 : Int32) (a3 : Int32) (a4 : Int32) : Option (Int32) :=
  (nz su_perNote (if (1 : Int32) ≤ (a2 / su_perNote) then
    (gd a1 3 (gd ((a2 / su_perNote) - (1 : Int32)) 12 (gd a1 3 (gd (a2 / su_perNote) 12 (if a4 ≤ a3 then
      m_Rules_isAlike_62 su_perNote su_given  a3 a4 (su_given (Int32.toNatClampNeg a1) (Int32.toNatClampNeg ((a2 / su_perNote) - (1 : Int32)))) (su_given (Int32.toNatClampNeg a1) (Int32.toNatClampNeg (a2 / su_perNote)))
    else
      (if (su_given (Int32.toNatClampNeg a1) (Int32.toNatClampNeg ((a2 / su_perNote) - (1 : Int32)))) < (su_given (Int32.toNatClampNeg a1) (Int32.toNatClampNeg (a2 / su_perNote))) then
        (some (1 : Int32))
      else
        m_Rules_isAlike_62 su_perNote su_given  a3 a4 (su_given (Int32.toNatClampNeg a1) (Int32.toNatClampNeg ((a2 / su_perNote) - (1 : Int32)))) (su_given (Int32.toNatClampNeg a1) (Int32.toNatClampNeg (a2 / su_perNote)))))))))
  else
    (some (0 : Int32))))
set_option maxHeartbeats 4000000 in
set_option maxRecDepth 100000 in
theorem e_Rules_isAlike {r : Int32} {ad : Nat → Nat} {su_lines : Int32} {su_length : Int32} {su_perNote : Int32} {su_above : Int32} {su_given : Nat → Nat → Int32} {a1 : Int32} {a2 : Int32} {a3 : Int32} {a4 : Int32} {H : Heap} {locs : List Loc} {ls : Array Slot} (C : Cx p s m meth c args A D kc R_Rules b_Rules_isAlike 8 (some .boolean)) (hm : m_Rules_isAlike su_perNote su_given a1 a2 a3 a4 = some r) (hZ : St D A s (wd_Rules_isAlike kc ad su_lines su_length su_perNote su_above su_given) H locs) (hl : lv_has ls 8 [(0, .ref (ad 8)), (1, .int a1), (2, .int a2), (3, .int a3), (4, .int a4)]) : W p l e rm_Rules_isAlike s m args below meth c H locs 0 0 (MQ below (Qi D A (wd_Rules_isAlike kc ad su_lines su_length su_perNote su_above su_given) r) args s 0 0 A) (F0 m 0 ls []) := by
  obtain ⟨hx, hb, hr, hts, hown, hml, hlocks, hK, hN, hA, hX⟩ := id C
  obtain ⟨hP, hD, hS⟩ := hZ
  unfold m_Rules_isAlike at hm
  refine lv_iload_n hx hb d_Rules_isAlike_0 rfl (lv_at hl 2 rfl) ?_
  refine lv_aload_n hx hb d_Rules_isAlike_1 rfl (lv_at hl 0 rfl) ?_
  refine va_get (D := D) (ci := 5) (v := .ref (ad 1)) (C := R_Rules) (T := T_Rules) (N := 1) hx hb hts inG_Rules hown hK hP 5 rfl rfl 0 (by decide) (hts _ gw_207) (fun _ h9 => h9) rfl d_Rules_isAlike_2 ?_
  refine va_getN (D := D) (ci := 7) (v := .int su_perNote) (C := R_Setup) (T := T_Setup) (N := 7) hx hb hts inG_Setup hown hK hP 0 rfl rfl 5 (by decide) (va_Nw.use rfl (hN _ nw_179)) (fun _ h9 => h9) rfl d_Rules_isAlike_5 ?_
  obtain ⟨hz1, hm⟩ := nz_some hm
  refine lv_idiv hx hb d_Rules_isAlike_8 hz1 ?_
  refine lv_istore (lv' := [(5, .int (a2 / su_perNote)), (0, .ref (ad 8)), (1, .int a1), (2, .int a2), (3, .int a3), (4, .int a4)]) hx hb d_Rules_isAlike_9 hl (by decide) rfl (fun ls hl => ?_)
  refine lv_iload hx hb d_Rules_isAlike_11 (lv_at hl 0 rfl) ?_
  refine lv_iconst (v := 1) hx hb d_Rules_isAlike_13 (by decide) ?_
  refine lv_icmp_ge (tgt := 19) hx hb d_Rules_isAlike_14 (by decide) (fun c2 => ?_) (fun c2 => ?_)
  · replace hm := ifT hm c2
    refine lv_aload_n hx hb d_Rules_isAlike_19 rfl (lv_at hl 1 rfl) ?_
    refine va_get (D := D) (ci := 5) (v := .ref (ad 1)) (C := R_Rules) (T := T_Rules) (N := 1) hx hb hts inG_Rules hown hK hP 5 rfl rfl 0 (by decide) (hts _ gw_207) (fun _ h9 => h9) rfl d_Rules_isAlike_20 ?_
    refine va_getN (D := D) (ci := 7) (v := .ref (ad 4)) (C := R_Setup) (T := T_Setup) (N := 7) hx hb hts inG_Setup hown hK hP 0 rfl rfl 2 (by decide) (va_Nw.use rfl (hN _ nw_168)) (fun _ h9 => h9) rfl d_Rules_isAlike_23 ?_
    refine lv_iload_n hx hb d_Rules_isAlike_26 rfl (lv_at hl 2 rfl) ?_
    obtain ⟨hi3, hm⟩ := gd_some hm
    refine zg_aald (ad := ad) (k := 5) hx hb hK hP 1 3 rfl rfl hi3 d_Rules_isAlike_27 ?_
    refine lv_iload hx hb d_Rules_isAlike_28 (lv_at hl 0 rfl) ?_
    refine lv_iconst (v := 1) hx hb d_Rules_isAlike_30 (by decide) ?_
    refine lv_isub hx hb d_Rules_isAlike_31 ?_
    obtain ⟨hi4, hm⟩ := gd_some hm
    refine zg_iald (k := 5) (g := su_given) hx hb hK hP 2 0 rfl rfl rfl rfl hi3 hi4 d_Rules_isAlike_32 ?_
    refine lv_istore (lv' := [(6, .int (su_given (Int32.toNatClampNeg a1) (Int32.toNatClampNeg ((a2 / su_perNote) - (1 : Int32))))), (5, .int (a2 / su_perNote)), (0, .ref (ad 8)), (1, .int a1), (2, .int a2), (3, .int a3), (4, .int a4)]) hx hb d_Rules_isAlike_33 hl (by decide) rfl (fun ls hl => ?_)
    refine lv_aload_n hx hb d_Rules_isAlike_35 rfl (lv_at hl 2 rfl) ?_
    refine va_get (D := D) (ci := 5) (v := .ref (ad 1)) (C := R_Rules) (T := T_Rules) (N := 1) hx hb hts inG_Rules hown hK hP 5 rfl rfl 0 (by decide) (hts _ gw_207) (fun _ h9 => h9) rfl d_Rules_isAlike_36 ?_
    refine va_getN (D := D) (ci := 7) (v := .ref (ad 4)) (C := R_Setup) (T := T_Setup) (N := 7) hx hb hts inG_Setup hown hK hP 0 rfl rfl 2 (by decide) (va_Nw.use rfl (hN _ nw_168)) (fun _ h9 => h9) rfl d_Rules_isAlike_39 ?_
    refine lv_iload_n hx hb d_Rules_isAlike_42 rfl (lv_at hl 3 rfl) ?_
    obtain ⟨hi5, hm⟩ := gd_some hm
    refine zg_aald (ad := ad) (k := 5) hx hb hK hP 1 3 rfl rfl hi5 d_Rules_isAlike_43 ?_
    refine lv_iload hx hb d_Rules_isAlike_44 (lv_at hl 1 rfl) ?_
    obtain ⟨hi6, hm⟩ := gd_some hm
    refine zg_iald (k := 5) (g := su_given) hx hb hK hP 2 0 rfl rfl rfl rfl hi5 hi6 d_Rules_isAlike_46 ?_
    refine lv_istore (lv' := [(7, .int (su_given (Int32.toNatClampNeg a1) (Int32.toNatClampNeg (a2 / su_perNote)))), (6, .int (su_given (Int32.toNatClampNeg a1) (Int32.toNatClampNeg ((a2 / su_perNote) - (1 : Int32))))), (5, .int (a2 / su_perNote)), (0, .ref (ad 8)), (1, .int a1), (2, .int a2), (3, .int a3), (4, .int a4)]) hx hb d_Rules_isAlike_47 hl (by decide) rfl (fun ls hl => ?_)
    refine lv_iload_n hx hb d_Rules_isAlike_49 rfl (lv_at hl 6 rfl) ?_
    refine lv_iload hx hb d_Rules_isAlike_50 (lv_at hl 7 rfl) ?_
    refine lv_icmp_ge (tgt := 62) hx hb d_Rules_isAlike_52 (by decide) (fun c7 => ?_) (fun c7 => ?_)
    · replace hm := ifT hm c7
      exact l_Rules_isAlike_62 C  hm ⟨hP, hD, hS⟩ (lv_sub hl [6, 7, 1, 0] rfl)
    · replace hm := ifF hm c7
      refine lv_iload hx hb d_Rules_isAlike_55 (lv_at hl 1 rfl) ?_
      refine lv_iload hx hb d_Rules_isAlike_57 (lv_at hl 0 rfl) ?_
      refine lv_icmp_lt (tgt := 75) hx hb d_Rules_isAlike_59 (by decide) (fun c8 => ?_) (fun c8 => ?_)
      · replace hm := ifT hm c8
        refine lv_iconst (v := 1) hx hb d_Rules_isAlike_75 (by decide) ?_
        refine lv_goto (tgt := 80) hx hb d_Rules_isAlike_76 (by decide) ?_
        replace hm := Option.some.inj hm; subst hm
        exact zret_z (v := 1) C hP hD hS (by rfl) d_Rules_isAlike_80
      · replace hm := ifF hm c8
        exact l_Rules_isAlike_62 C  hm ⟨hP, hD, hS⟩ (lv_sub hl [6, 7, 1, 0] rfl)
  · replace hm := ifF hm c2
    refine lv_iconst (v := 0) hx hb d_Rules_isAlike_17 (by decide) ?_
    replace hm := Option.some.inj hm; subst hm
    exact zret_z (v := 0) C hP hD hS (by rfl) d_Rules_isAlike_18
set_option maxHeartbeats 4000000 in
set_option maxRecDepth 100000 in
theorem c_Rules_isAlike {l : Launch} {D : va_G} {kc : Nat → ClassId} {r : Int32} {ad : Nat → Nat} {su_lines : Int32} {su_length : Int32} {su_perNote : Int32} {su_above : Int32} {su_given : Nat → Nat → Int32} {a1 : Int32} {a2 : Int32} {a3 : Int32} {a4 : Int32} (hm : m_Rules_isAlike su_perNote su_given a1 a2 a3 a4 = some r) (sz : Nat) : Ci l y_Rules_isAlike ws_Rules_isAlike rm_Rules_isAlike D kc sz [.ref (ad 8), .int a1, .int a2, .int a3, .int a4] (wd_Rules_isAlike kc ad su_lines su_length su_perNote su_above su_given) (wd_Rules_isAlike kc ad su_lines su_length su_perNote su_above su_given) r :=
  Cz_of (Qf := fun A => (Qi D A (wd_Rules_isAlike kc ad su_lines su_length su_perNote su_above su_given) r)) (cc := b_Rules_isAlike) (maxL := 8) (ret := (some .boolean)) (by decide) rfl rfl (fun C hZ hl => e_Rules_isAlike C hm hZ hl)
abbrev b_Rules_isParallel : ByteArray := prog_5_method_9_code
abbrev y_Rules_isParallel : MethodName := ⟨"SpeciesSolver$Rules", "isParallel", "(IIII)Z"⟩
theorem d_Rules_isParallel_0 : decode b_Rules_isParallel 0 = .ok (.aload_n 0, 1) := by decide +kernel
theorem d_Rules_isParallel_1 : decode b_Rules_isParallel 1 = .ok (.iload_n 1, 1) := by decide +kernel
theorem d_Rules_isParallel_2 : decode b_Rules_isParallel 2 = .ok (.iload_n 2, 1) := by decide +kernel
theorem d_Rules_isParallel_3 : decode b_Rules_isParallel 3 = .ok (.iload 4, 2) := by decide +kernel
theorem d_Rules_isParallel_5 : decode b_Rules_isParallel 5 = .ok (.invokevirtual 29, 3) := by decide +kernel
theorem d_Rules_isParallel_8 : decode b_Rules_isParallel 8 = .ok (.istore 5, 2) := by decide +kernel
theorem d_Rules_isParallel_10 : decode b_Rules_isParallel 10 = .ok (.aload_n 0, 1) := by decide +kernel
theorem d_Rules_isParallel_11 : decode b_Rules_isParallel 11 = .ok (.iload_n 1, 1) := by decide +kernel
theorem d_Rules_isParallel_12 : decode b_Rules_isParallel 12 = .ok (.iload_n 2, 1) := by decide +kernel
theorem d_Rules_isParallel_13 : decode b_Rules_isParallel 13 = .ok (.iload_n 3, 1) := by decide +kernel
theorem d_Rules_isParallel_14 : decode b_Rules_isParallel 14 = .ok (.iload 4, 2) := by decide +kernel
theorem d_Rules_isParallel_16 : decode b_Rules_isParallel 16 = .ok (.invokevirtual 44, 3) := by decide +kernel
theorem d_Rules_isParallel_19 : decode b_Rules_isParallel 19 = .ok (.ifCond .eq 37, 3) := by decide +kernel
theorem d_Rules_isParallel_22 : decode b_Rules_isParallel 22 = .ok (.aload_n 0, 1) := by decide +kernel
theorem d_Rules_isParallel_23 : decode b_Rules_isParallel 23 = .ok (.iconst 4, 1) := by decide +kernel
theorem d_Rules_isParallel_24 : decode b_Rules_isParallel 24 = .ok (.iload 5, 2) := by decide +kernel
theorem d_Rules_isParallel_26 : decode b_Rules_isParallel 26 = .ok (.invokevirtual 33, 3) := by decide +kernel
theorem d_Rules_isParallel_29 : decode b_Rules_isParallel 29 = .ok (.ifCond .eq 27, 3) := by decide +kernel
theorem d_Rules_isParallel_32 : decode b_Rules_isParallel 32 = .ok (.iload 5, 2) := by decide +kernel
theorem d_Rules_isParallel_34 : decode b_Rules_isParallel 34 = .ok (.aload_n 0, 1) := by decide +kernel
theorem d_Rules_isParallel_35 : decode b_Rules_isParallel 35 = .ok (.iload_n 1, 1) := by decide +kernel
theorem d_Rules_isParallel_36 : decode b_Rules_isParallel 36 = .ok (.iload_n 2, 1) := by decide +kernel
theorem d_Rules_isParallel_37 : decode b_Rules_isParallel 37 = .ok (.aload_n 0, 1) := by decide +kernel
theorem d_Rules_isParallel_38 : decode b_Rules_isParallel 38 = .ok (.getfield 9, 3) := by decide +kernel
theorem d_Rules_isParallel_41 : decode b_Rules_isParallel 41 = .ok (.getfield 21, 3) := by decide +kernel
theorem d_Rules_isParallel_44 : decode b_Rules_isParallel 44 = .ok (.isub, 1) := by decide +kernel
theorem d_Rules_isParallel_45 : decode b_Rules_isParallel 45 = .ok (.iload_n 3, 1) := by decide +kernel
theorem d_Rules_isParallel_46 : decode b_Rules_isParallel 46 = .ok (.invokevirtual 29, 3) := by decide +kernel
theorem d_Rules_isParallel_49 : decode b_Rules_isParallel 49 = .ok (.if_icmp .ne 7, 3) := by decide +kernel
theorem d_Rules_isParallel_52 : decode b_Rules_isParallel 52 = .ok (.iconst 1, 1) := by decide +kernel
theorem d_Rules_isParallel_53 : decode b_Rules_isParallel 53 = .ok (.goto 4, 3) := by decide +kernel
theorem d_Rules_isParallel_56 : decode b_Rules_isParallel 56 = .ok (.iconst 0, 1) := by decide +kernel
theorem d_Rules_isParallel_57 : decode b_Rules_isParallel 57 = .ok (.ireturn, 1) := by decide +kernel
abbrev wd_Rules_isParallel (kc : Nat → ClassId) (ad : Nat → Nat) (su_lines : Int32) (su_length : Int32) (su_perNote : Int32) (su_above : Int32) (su_numbers : Nat → Int32) (su_given : Nat → Nat → Int32) : va_W := [((ad 1), .inr (7, [.ref (ad 2), .ref (ad 3), .ref (ad 4), .int su_lines, .int su_length, .int su_perNote, .int su_above])), ((ad 2), .inl (kc 0, 18, .inl su_numbers)), ((ad 4), .inl (kc 3, 3, .inr (.inr (.inr (.inr (fun i => if i < 3 then some (ad (5 + i)) else none)))))), ((ad 5), .inl (kc 0, 12, .inl (su_given 0))), ((ad 6), .inl (kc 0, 12, .inl (su_given 1))), ((ad 7), .inl (kc 0, 12, .inl (su_given 2))), ((ad 8), .inr (5, [.ref (ad 1)]))]
abbrev rm_Rules_isParallel : Room := { frames := 1, cells := 0, slots := 0, locals := 27 }
abbrev cw_Rules_isParallel : Cond := .code y_Rules_isParallel b_Rules_isParallel 6 (some .boolean)
abbrev ws_Rules_isParallel : List Cond := cw_Rules_isParallel :: GW
theorem hd_Rules_isParallel : y_Rules_isParallel.cls ≠ "java/lang/invoke/MethodHandle" ∧ y_Rules_isParallel.cls ≠ "java/lang/invoke/VarHandle" ∧ (parseMethodDescriptor y_Rules_isParallel.desc).map (fun d => d.parameters.length) = some 4 := by decide +kernel
def m_Rules_isParallel (su_perNote : Int32) (su_numbers : Nat → Int32) (su_given : Nat → Nat → Int32)  (a1 : Int32) (a2 : Int32) (a3 : Int32) (a4 : Int32) : Option (Int32) :=
  (bd (m_Rules_classWith su_perNote su_given a1 a2 a4) (fun u1 => (bd (m_Rules_isAlike su_perNote su_given a1 a2 a3 a4) (fun u3 => (if u3 = (0 : Int32) then
    (some (0 : Int32))
  else
    (bd (m_Rules_isIn su_numbers (4 : Int32) u1) (fun u6 => (if u6 = (0 : Int32) then
      (some (0 : Int32))
    else
      (bd (m_Rules_classWith su_perNote su_given a1 (a2 - su_perNote) a3) (fun u9 => (if u1 = u9 then
        (some (1 : Int32))
      else
        (some (0 : Int32)))))))))))))
set_option maxHeartbeats 4000000 in
set_option maxRecDepth 100000 in
theorem e_Rules_isParallel {r : Int32} {ad : Nat → Nat} {su_lines : Int32} {su_length : Int32} {su_perNote : Int32} {su_above : Int32} {su_numbers : Nat → Int32} {su_given : Nat → Nat → Int32} {a1 : Int32} {a2 : Int32} {a3 : Int32} {a4 : Int32} {H : Heap} {locs : List Loc} {ls : Array Slot} (C : Cx p s m meth c args A D kc R_Rules b_Rules_isParallel 6 (some .boolean)) (hm : m_Rules_isParallel su_perNote su_numbers su_given a1 a2 a3 a4 = some r) (hZ : St D A s (wd_Rules_isParallel kc ad su_lines su_length su_perNote su_above su_numbers su_given) H locs) (hl : lv_has ls 6 [(0, .ref (ad 8)), (1, .int a1), (2, .int a2), (3, .int a3), (4, .int a4)]) : W p l e rm_Rules_isParallel s m args below meth c H locs 0 0 (MQ below (Qi D A (wd_Rules_isParallel kc ad su_lines su_length su_perNote su_above su_numbers su_given) r) args s 0 0 A) (F0 m 0 ls []) := by
  obtain ⟨hx, hb, hr, hts, hown, hml, hlocks, hK, hN, hA, hX⟩ := id C
  obtain ⟨hP, hD, hS⟩ := hZ
  unfold m_Rules_isParallel at hm
  refine lv_aload_n hx hb d_Rules_isParallel_0 rfl (lv_at hl 0 rfl) ?_
  refine lv_iload_n hx hb d_Rules_isParallel_1 rfl (lv_at hl 1 rfl) ?_
  refine lv_iload_n hx hb d_Rules_isParallel_2 rfl (lv_at hl 2 rfl) ?_
  refine lv_iload hx hb d_Rules_isParallel_3 (lv_at hl 4 rfl) ?_
  obtain ⟨u1, hc2, hm⟩ := bd_some hm
  refine zV_i (n := 3) (wr := [((ad 2), .inl (kc 0, 18, .inl su_numbers))]) (w1 := (wd_Rules_classWith kc ad su_lines su_length su_perNote su_above su_given)) (ws1 := (wd_Rules_isParallel kc ad su_lines su_length su_perNote su_above su_numbers su_given)) (As := [.int a1, .int a2, .int a4]) (rest := []) (ci := 5) (q0 := 5) (y := y_Rules_classWith) ⟨hx, hb, hml, hown, hts⟩ (fun sz => c_Rules_classWith hc2 sz) gw_520 gw_517 gw_519 gw_17 gw_114 hd_Rules_classWith ⟨Nat.le_of_ble_eq_true rfl, Nat.le_of_ble_eq_true rfl⟩ ⟨rfl, rfl⟩ ⟨Nat.zero_le _, Nat.zero_le _⟩ hK hN hP hD hS hA hX [0, 2, 3, 4, 5, 6] [1] [1, 0, 2, 3, 4, 5, 6] rfl rfl (by decide) (by decide) (by decide) rfl (by decide) rfl rfl rfl hl.1 rfl (Nat.le_of_ble_eq_true rfl) d_Rules_isParallel_5 (fun H locs hP hD hS => ?_)
  refine lv_istore (lv' := [(5, .int u1), (0, .ref (ad 8)), (1, .int a1), (2, .int a2), (3, .int a3), (4, .int a4)]) hx hb d_Rules_isParallel_8 hl (by decide) rfl (fun ls hl => ?_)
  refine lv_aload_n hx hb d_Rules_isParallel_10 rfl (lv_at hl 1 rfl) ?_
  refine lv_iload_n hx hb d_Rules_isParallel_11 rfl (lv_at hl 2 rfl) ?_
  refine lv_iload_n hx hb d_Rules_isParallel_12 rfl (lv_at hl 3 rfl) ?_
  refine lv_iload_n hx hb d_Rules_isParallel_13 rfl (lv_at hl 4 rfl) ?_
  refine lv_iload hx hb d_Rules_isParallel_14 (lv_at hl 5 rfl) ?_
  obtain ⟨u3, hc4, hm⟩ := bd_some hm
  refine zV_i (n := 4) (wr := [((ad 2), .inl (kc 0, 18, .inl su_numbers))]) (w1 := (wd_Rules_isAlike kc ad su_lines su_length su_perNote su_above su_given)) (ws1 := (wd_Rules_isParallel kc ad su_lines su_length su_perNote su_above su_numbers su_given)) (As := [.int a1, .int a2, .int a3, .int a4]) (rest := []) (ci := 5) (q0 := 5) (y := y_Rules_isAlike) ⟨hx, hb, hml, hown, hts⟩ (fun sz => c_Rules_isAlike hc4 sz) gw_595 gw_592 gw_594 gw_34 gw_114 hd_Rules_isAlike ⟨Nat.le_of_ble_eq_true rfl, Nat.le_of_ble_eq_true rfl⟩ ⟨rfl, rfl⟩ ⟨Nat.zero_le _, Nat.zero_le _⟩ hK hN hP hD hS hA hX [0, 2, 3, 4, 5, 6] [1] [1, 0, 2, 3, 4, 5, 6] rfl rfl (by decide) (by decide) (by decide) rfl (by decide) rfl rfl rfl hl.1 rfl (Nat.le_of_ble_eq_true rfl) d_Rules_isParallel_16 (fun H locs hP hD hS => ?_)
  refine lv_if_eq (tgt := 56) hx hb d_Rules_isParallel_19 (by decide) (fun c5 => ?_) (fun c5 => ?_)
  · replace hm := ifT hm c5
    refine lv_iconst (v := 0) hx hb d_Rules_isParallel_56 (by decide) ?_
    replace hm := Option.some.inj hm; subst hm
    exact zret_z (v := 0) C hP hD hS (by rfl) d_Rules_isParallel_57
  · replace hm := ifF hm c5
    refine lv_aload_n hx hb d_Rules_isParallel_22 rfl (lv_at hl 1 rfl) ?_
    refine lv_iconst (v := 4) hx hb d_Rules_isParallel_23 (by decide) ?_
    refine lv_iload hx hb d_Rules_isParallel_24 (lv_at hl 0 rfl) ?_
    obtain ⟨u6, hc7, hm⟩ := bd_some hm
    refine zV_i (n := 2) (wr := [((ad 4), .inl (kc 3, 3, .inr (.inr (.inr (.inr (fun i => if i < 3 then some (ad (5 + i)) else none)))))), ((ad 5), .inl (kc 0, 12, .inl (su_given 0))), ((ad 6), .inl (kc 0, 12, .inl (su_given 1))), ((ad 7), .inl (kc 0, 12, .inl (su_given 2)))]) (w1 := (wd_Rules_isIn kc ad su_lines su_length su_perNote su_above su_numbers)) (ws1 := (wd_Rules_isParallel kc ad su_lines su_length su_perNote su_above su_numbers su_given)) (As := [.int (4 : Int32), .int u1]) (rest := []) (ci := 5) (q0 := 2) (y := y_Rules_isIn) ⟨hx, hb, hml, hown, hts⟩ (fun sz => c_Rules_isIn hc7 sz) gw_524 gw_521 gw_523 gw_18 gw_114 hd_Rules_isIn ⟨Nat.le_of_ble_eq_true rfl, Nat.le_of_ble_eq_true rfl⟩ ⟨rfl, rfl⟩ ⟨Nat.zero_le _, Nat.zero_le _⟩ hK hN hP hD hS hA hX [0, 1, 6] [2, 3, 4, 5] [4, 5, 0, 1, 2, 3, 6] rfl rfl (by decide) (by decide) (by decide) rfl (by decide) rfl rfl rfl hl.1 rfl (Nat.le_of_ble_eq_true rfl) d_Rules_isParallel_26 (fun H locs hP hD hS => ?_)
    refine lv_if_eq (tgt := 56) hx hb d_Rules_isParallel_29 (by decide) (fun c8 => ?_) (fun c8 => ?_)
    · replace hm := ifT hm c8
      refine lv_iconst (v := 0) hx hb d_Rules_isParallel_56 (by decide) ?_
      replace hm := Option.some.inj hm; subst hm
      exact zret_z (v := 0) C hP hD hS (by rfl) d_Rules_isParallel_57
    · replace hm := ifF hm c8
      refine lv_iload hx hb d_Rules_isParallel_32 (lv_at hl 0 rfl) ?_
      refine lv_aload_n hx hb d_Rules_isParallel_34 rfl (lv_at hl 1 rfl) ?_
      refine lv_iload_n hx hb d_Rules_isParallel_35 rfl (lv_at hl 2 rfl) ?_
      refine lv_iload_n hx hb d_Rules_isParallel_36 rfl (lv_at hl 3 rfl) ?_
      refine lv_aload_n hx hb d_Rules_isParallel_37 rfl (lv_at hl 1 rfl) ?_
      refine va_get (D := D) (ci := 5) (v := .ref (ad 1)) (C := R_Rules) (T := T_Rules) (N := 1) hx hb hts inG_Rules hown hK hP 6 rfl rfl 0 (by decide) (hts _ gw_207) (fun _ h9 => h9) rfl d_Rules_isParallel_38 ?_
      refine va_getN (D := D) (ci := 7) (v := .int su_perNote) (C := R_Setup) (T := T_Setup) (N := 7) hx hb hts inG_Setup hown hK hP 0 rfl rfl 5 (by decide) (va_Nw.use rfl (hN _ nw_179)) (fun _ h9 => h9) rfl d_Rules_isParallel_41 ?_
      refine lv_isub hx hb d_Rules_isParallel_44 ?_
      refine lv_iload_n hx hb d_Rules_isParallel_45 rfl (lv_at hl 4 rfl) ?_
      obtain ⟨u9, hc10, hm⟩ := bd_some hm
      refine zV_i (n := 3) (wr := [((ad 2), .inl (kc 0, 18, .inl su_numbers))]) (w1 := (wd_Rules_classWith kc ad su_lines su_length su_perNote su_above su_given)) (ws1 := (wd_Rules_isParallel kc ad su_lines su_length su_perNote su_above su_numbers su_given)) (As := [.int a1, .int (a2 - su_perNote), .int a3]) (rest := [.int u1]) (ci := 5) (q0 := 5) (y := y_Rules_classWith) ⟨hx, hb, hml, hown, hts⟩ (fun sz => c_Rules_classWith hc10 sz) gw_520 gw_517 gw_519 gw_17 gw_114 hd_Rules_classWith ⟨Nat.le_of_ble_eq_true rfl, Nat.le_of_ble_eq_true rfl⟩ ⟨rfl, rfl⟩ ⟨Nat.zero_le _, Nat.zero_le _⟩ hK hN hP hD hS hA hX [0, 2, 3, 4, 5, 6] [1] [1, 0, 2, 3, 4, 5, 6] rfl rfl (by decide) (by decide) (by decide) rfl (by decide) rfl rfl rfl hl.1 rfl (Nat.le_of_ble_eq_true rfl) d_Rules_isParallel_46 (fun H locs hP hD hS => ?_)
      refine lv_icmp_ne (tgt := 56) hx hb d_Rules_isParallel_49 (by decide) (fun c11 => ?_) (fun c11 => ?_)
      · replace hm := ifF hm c11
        refine lv_iconst (v := 0) hx hb d_Rules_isParallel_56 (by decide) ?_
        replace hm := Option.some.inj hm; subst hm
        exact zret_z (v := 0) C hP hD hS (by rfl) d_Rules_isParallel_57
      · replace hm := ifT hm c11
        refine lv_iconst (v := 1) hx hb d_Rules_isParallel_52 (by decide) ?_
        refine lv_goto (tgt := 57) hx hb d_Rules_isParallel_53 (by decide) ?_
        replace hm := Option.some.inj hm; subst hm
        exact zret_z (v := 1) C hP hD hS (by rfl) d_Rules_isParallel_57
set_option maxHeartbeats 4000000 in
set_option maxRecDepth 100000 in
theorem c_Rules_isParallel {l : Launch} {D : va_G} {kc : Nat → ClassId} {r : Int32} {ad : Nat → Nat} {su_lines : Int32} {su_length : Int32} {su_perNote : Int32} {su_above : Int32} {su_numbers : Nat → Int32} {su_given : Nat → Nat → Int32} {a1 : Int32} {a2 : Int32} {a3 : Int32} {a4 : Int32} (hm : m_Rules_isParallel su_perNote su_numbers su_given a1 a2 a3 a4 = some r) (sz : Nat) : Ci l y_Rules_isParallel ws_Rules_isParallel rm_Rules_isParallel D kc sz [.ref (ad 8), .int a1, .int a2, .int a3, .int a4] (wd_Rules_isParallel kc ad su_lines su_length su_perNote su_above su_numbers su_given) (wd_Rules_isParallel kc ad su_lines su_length su_perNote su_above su_numbers su_given) r :=
  Cz_of (Qf := fun A => (Qi D A (wd_Rules_isParallel kc ad su_lines su_length su_perNote su_above su_numbers su_given) r)) (cc := b_Rules_isParallel) (maxL := 6) (ret := (some .boolean)) (by decide) rfl rfl (fun C hZ hl => e_Rules_isParallel C hm hZ hl)
abbrev b_Rules_isHidden : ByteArray := prog_5_method_10_code
abbrev y_Rules_isHidden : MethodName := ⟨"SpeciesSolver$Rules", "isHidden", "(IIII)Z"⟩
theorem d_Rules_isHidden_0 : decode b_Rules_isHidden 0 = .ok (.aload_n 0, 1) := by decide +kernel
theorem d_Rules_isHidden_1 : decode b_Rules_isHidden 1 = .ok (.iload_n 1, 1) := by decide +kernel
theorem d_Rules_isHidden_2 : decode b_Rules_isHidden 2 = .ok (.iload_n 2, 1) := by decide +kernel
theorem d_Rules_isHidden_3 : decode b_Rules_isHidden 3 = .ok (.iload_n 3, 1) := by decide +kernel
theorem d_Rules_isHidden_4 : decode b_Rules_isHidden 4 = .ok (.iload 4, 2) := by decide +kernel
theorem d_Rules_isHidden_6 : decode b_Rules_isHidden 6 = .ok (.invokevirtual 44, 3) := by decide +kernel
theorem d_Rules_isHidden_9 : decode b_Rules_isHidden 9 = .ok (.ifCond .eq 42, 3) := by decide +kernel
theorem d_Rules_isHidden_12 : decode b_Rules_isHidden 12 = .ok (.aload_n 0, 1) := by decide +kernel
theorem d_Rules_isHidden_13 : decode b_Rules_isHidden 13 = .ok (.iconst 4, 1) := by decide +kernel
theorem d_Rules_isHidden_14 : decode b_Rules_isHidden 14 = .ok (.aload_n 0, 1) := by decide +kernel
theorem d_Rules_isHidden_15 : decode b_Rules_isHidden 15 = .ok (.iload_n 1, 1) := by decide +kernel
theorem d_Rules_isHidden_16 : decode b_Rules_isHidden 16 = .ok (.iload_n 2, 1) := by decide +kernel
theorem d_Rules_isHidden_17 : decode b_Rules_isHidden 17 = .ok (.iload 4, 2) := by decide +kernel
theorem d_Rules_isHidden_19 : decode b_Rules_isHidden 19 = .ok (.invokevirtual 29, 3) := by decide +kernel
theorem d_Rules_isHidden_22 : decode b_Rules_isHidden 22 = .ok (.invokevirtual 33, 3) := by decide +kernel
theorem d_Rules_isHidden_25 : decode b_Rules_isHidden 25 = .ok (.ifCond .eq 26, 3) := by decide +kernel
theorem d_Rules_isHidden_28 : decode b_Rules_isHidden 28 = .ok (.iload_n 3, 1) := by decide +kernel
theorem d_Rules_isHidden_29 : decode b_Rules_isHidden 29 = .ok (.iload 4, 2) := by decide +kernel
theorem d_Rules_isHidden_31 : decode b_Rules_isHidden 31 = .ok (.invokestatic 40, 3) := by decide +kernel
theorem d_Rules_isHidden_34 : decode b_Rules_isHidden 34 = .ok (.aload_n 0, 1) := by decide +kernel
theorem d_Rules_isHidden_35 : decode b_Rules_isHidden 35 = .ok (.getfield 9, 3) := by decide +kernel
theorem d_Rules_isHidden_38 : decode b_Rules_isHidden 38 = .ok (.getfield 15, 3) := by decide +kernel
theorem d_Rules_isHidden_41 : decode b_Rules_isHidden 41 = .ok (.bipush 8, 2) := by decide +kernel
theorem d_Rules_isHidden_43 : decode b_Rules_isHidden 43 = .ok (.iaload, 1) := by decide +kernel
theorem d_Rules_isHidden_44 : decode b_Rules_isHidden 44 = .ok (.if_icmp .le 7, 3) := by decide +kernel
theorem d_Rules_isHidden_47 : decode b_Rules_isHidden 47 = .ok (.iconst 1, 1) := by decide +kernel
theorem d_Rules_isHidden_48 : decode b_Rules_isHidden 48 = .ok (.goto 4, 3) := by decide +kernel
theorem d_Rules_isHidden_51 : decode b_Rules_isHidden 51 = .ok (.iconst 0, 1) := by decide +kernel
theorem d_Rules_isHidden_52 : decode b_Rules_isHidden 52 = .ok (.ireturn, 1) := by decide +kernel
abbrev wd_Rules_isHidden (kc : Nat → ClassId) (ad : Nat → Nat) (su_lines : Int32) (su_length : Int32) (su_perNote : Int32) (su_above : Int32) (su_numbers : Nat → Int32) (su_given : Nat → Nat → Int32) : va_W := [((ad 1), .inr (7, [.ref (ad 2), .ref (ad 3), .ref (ad 4), .int su_lines, .int su_length, .int su_perNote, .int su_above])), ((ad 2), .inl (kc 0, 18, .inl su_numbers)), ((ad 4), .inl (kc 3, 3, .inr (.inr (.inr (.inr (fun i => if i < 3 then some (ad (5 + i)) else none)))))), ((ad 5), .inl (kc 0, 12, .inl (su_given 0))), ((ad 6), .inl (kc 0, 12, .inl (su_given 1))), ((ad 7), .inl (kc 0, 12, .inl (su_given 2))), ((ad 8), .inr (5, [.ref (ad 1)]))]
abbrev rm_Rules_isHidden : Room := { frames := 1, cells := 0, slots := 0, locals := 27 }
abbrev cw_Rules_isHidden : Cond := .code y_Rules_isHidden b_Rules_isHidden 5 (some .boolean)
abbrev ws_Rules_isHidden : List Cond := cw_Rules_isHidden :: GW
theorem hd_Rules_isHidden : y_Rules_isHidden.cls ≠ "java/lang/invoke/MethodHandle" ∧ y_Rules_isHidden.cls ≠ "java/lang/invoke/VarHandle" ∧ (parseMethodDescriptor y_Rules_isHidden.desc).map (fun d => d.parameters.length) = some 4 := by decide +kernel
def m_Rules_isHidden (su_perNote : Int32) (su_numbers : Nat → Int32) (su_given : Nat → Nat → Int32)  (a1 : Int32) (a2 : Int32) (a3 : Int32) (a4 : Int32) : Option (Int32) :=
  (bd (m_Rules_isAlike su_perNote su_given a1 a2 a3 a4) (fun u1 => (if u1 = (0 : Int32) then
    (some (0 : Int32))
  else
    (bd (m_Rules_classWith su_perNote su_given a1 a2 a4) (fun u4 => (bd (m_Rules_isIn su_numbers (4 : Int32) u4) (fun u6 => (if u6 = (0 : Int32) then
      (some (0 : Int32))
    else
      (bd (m_SpeciesSolver_distance a3 a4) (fun u9 => (if u9 ≤ (su_numbers (Int32.toNatClampNeg (8 : Int32))) then
        (some (0 : Int32))
      else
        (some (1 : Int32)))))))))))))
set_option maxHeartbeats 4000000 in
set_option maxRecDepth 100000 in
theorem e_Rules_isHidden {r : Int32} {ad : Nat → Nat} {su_lines : Int32} {su_length : Int32} {su_perNote : Int32} {su_above : Int32} {su_numbers : Nat → Int32} {su_given : Nat → Nat → Int32} {a1 : Int32} {a2 : Int32} {a3 : Int32} {a4 : Int32} {H : Heap} {locs : List Loc} {ls : Array Slot} (C : Cx p s m meth c args A D kc R_Rules b_Rules_isHidden 5 (some .boolean)) (hm : m_Rules_isHidden su_perNote su_numbers su_given a1 a2 a3 a4 = some r) (hZ : St D A s (wd_Rules_isHidden kc ad su_lines su_length su_perNote su_above su_numbers su_given) H locs) (hl : lv_has ls 5 [(0, .ref (ad 8)), (1, .int a1), (2, .int a2), (3, .int a3), (4, .int a4)]) : W p l e rm_Rules_isHidden s m args below meth c H locs 0 0 (MQ below (Qi D A (wd_Rules_isHidden kc ad su_lines su_length su_perNote su_above su_numbers su_given) r) args s 0 0 A) (F0 m 0 ls []) := by
  obtain ⟨hx, hb, hr, hts, hown, hml, hlocks, hK, hN, hA, hX⟩ := id C
  obtain ⟨hP, hD, hS⟩ := hZ
  unfold m_Rules_isHidden at hm
  refine lv_aload_n hx hb d_Rules_isHidden_0 rfl (lv_at hl 0 rfl) ?_
  refine lv_iload_n hx hb d_Rules_isHidden_1 rfl (lv_at hl 1 rfl) ?_
  refine lv_iload_n hx hb d_Rules_isHidden_2 rfl (lv_at hl 2 rfl) ?_
  refine lv_iload_n hx hb d_Rules_isHidden_3 rfl (lv_at hl 3 rfl) ?_
  refine lv_iload hx hb d_Rules_isHidden_4 (lv_at hl 4 rfl) ?_
  obtain ⟨u1, hc2, hm⟩ := bd_some hm
  refine zV_i (n := 4) (wr := [((ad 2), .inl (kc 0, 18, .inl su_numbers))]) (w1 := (wd_Rules_isAlike kc ad su_lines su_length su_perNote su_above su_given)) (ws1 := (wd_Rules_isHidden kc ad su_lines su_length su_perNote su_above su_numbers su_given)) (As := [.int a1, .int a2, .int a3, .int a4]) (rest := []) (ci := 5) (q0 := 5) (y := y_Rules_isAlike) ⟨hx, hb, hml, hown, hts⟩ (fun sz => c_Rules_isAlike hc2 sz) gw_595 gw_592 gw_594 gw_34 gw_114 hd_Rules_isAlike ⟨Nat.le_of_ble_eq_true rfl, Nat.le_of_ble_eq_true rfl⟩ ⟨rfl, rfl⟩ ⟨Nat.zero_le _, Nat.zero_le _⟩ hK hN hP hD hS hA hX [0, 2, 3, 4, 5, 6] [1] [1, 0, 2, 3, 4, 5, 6] rfl rfl (by decide) (by decide) (by decide) rfl (by decide) rfl rfl rfl hl.1 rfl (Nat.le_of_ble_eq_true rfl) d_Rules_isHidden_6 (fun H locs hP hD hS => ?_)
  refine lv_if_eq (tgt := 51) hx hb d_Rules_isHidden_9 (by decide) (fun c3 => ?_) (fun c3 => ?_)
  · replace hm := ifT hm c3
    refine lv_iconst (v := 0) hx hb d_Rules_isHidden_51 (by decide) ?_
    replace hm := Option.some.inj hm; subst hm
    exact zret_z (v := 0) C hP hD hS (by rfl) d_Rules_isHidden_52
  · replace hm := ifF hm c3
    refine lv_aload_n hx hb d_Rules_isHidden_12 rfl (lv_at hl 0 rfl) ?_
    refine lv_iconst (v := 4) hx hb d_Rules_isHidden_13 (by decide) ?_
    refine lv_aload_n hx hb d_Rules_isHidden_14 rfl (lv_at hl 0 rfl) ?_
    refine lv_iload_n hx hb d_Rules_isHidden_15 rfl (lv_at hl 1 rfl) ?_
    refine lv_iload_n hx hb d_Rules_isHidden_16 rfl (lv_at hl 2 rfl) ?_
    refine lv_iload hx hb d_Rules_isHidden_17 (lv_at hl 4 rfl) ?_
    obtain ⟨u4, hc5, hm⟩ := bd_some hm
    refine zV_i (n := 3) (wr := [((ad 2), .inl (kc 0, 18, .inl su_numbers))]) (w1 := (wd_Rules_classWith kc ad su_lines su_length su_perNote su_above su_given)) (ws1 := (wd_Rules_isHidden kc ad su_lines su_length su_perNote su_above su_numbers su_given)) (As := [.int a1, .int a2, .int a4]) (rest := [.int (4 : Int32), .ref (ad 8)]) (ci := 5) (q0 := 5) (y := y_Rules_classWith) ⟨hx, hb, hml, hown, hts⟩ (fun sz => c_Rules_classWith hc5 sz) gw_520 gw_517 gw_519 gw_17 gw_114 hd_Rules_classWith ⟨Nat.le_of_ble_eq_true rfl, Nat.le_of_ble_eq_true rfl⟩ ⟨rfl, rfl⟩ ⟨Nat.zero_le _, Nat.zero_le _⟩ hK hN hP hD hS hA hX [0, 2, 3, 4, 5, 6] [1] [1, 0, 2, 3, 4, 5, 6] rfl rfl (by decide) (by decide) (by decide) rfl (by decide) rfl rfl rfl hl.1 rfl (Nat.le_of_ble_eq_true rfl) d_Rules_isHidden_19 (fun H locs hP hD hS => ?_)
    obtain ⟨u6, hc7, hm⟩ := bd_some hm
    refine zV_i (n := 2) (wr := [((ad 4), .inl (kc 3, 3, .inr (.inr (.inr (.inr (fun i => if i < 3 then some (ad (5 + i)) else none)))))), ((ad 5), .inl (kc 0, 12, .inl (su_given 0))), ((ad 6), .inl (kc 0, 12, .inl (su_given 1))), ((ad 7), .inl (kc 0, 12, .inl (su_given 2)))]) (w1 := (wd_Rules_isIn kc ad su_lines su_length su_perNote su_above su_numbers)) (ws1 := (wd_Rules_isHidden kc ad su_lines su_length su_perNote su_above su_numbers su_given)) (As := [.int (4 : Int32), .int u4]) (rest := []) (ci := 5) (q0 := 2) (y := y_Rules_isIn) ⟨hx, hb, hml, hown, hts⟩ (fun sz => c_Rules_isIn hc7 sz) gw_524 gw_521 gw_523 gw_18 gw_114 hd_Rules_isIn ⟨Nat.le_of_ble_eq_true rfl, Nat.le_of_ble_eq_true rfl⟩ ⟨rfl, rfl⟩ ⟨Nat.zero_le _, Nat.zero_le _⟩ hK hN hP hD hS hA hX [0, 1, 6] [2, 3, 4, 5] [4, 5, 0, 1, 2, 3, 6] rfl rfl (by decide) (by decide) (by decide) rfl (by decide) rfl rfl rfl hl.1 rfl (Nat.le_of_ble_eq_true rfl) d_Rules_isHidden_22 (fun H locs hP hD hS => ?_)
    refine lv_if_eq (tgt := 51) hx hb d_Rules_isHidden_25 (by decide) (fun c8 => ?_) (fun c8 => ?_)
    · replace hm := ifT hm c8
      refine lv_iconst (v := 0) hx hb d_Rules_isHidden_51 (by decide) ?_
      replace hm := Option.some.inj hm; subst hm
      exact zret_z (v := 0) C hP hD hS (by rfl) d_Rules_isHidden_52
    · replace hm := ifF hm c8
      refine lv_iload_n hx hb d_Rules_isHidden_28 rfl (lv_at hl 3 rfl) ?_
      refine lv_iload hx hb d_Rules_isHidden_29 (lv_at hl 4 rfl) ?_
      obtain ⟨u9, hc10, hm⟩ := bd_some hm
      refine zSN_i (n := 2) (wr := [((ad 1), .inr (7, [.ref (ad 2), .ref (ad 3), .ref (ad 4), .int su_lines, .int su_length, .int su_perNote, .int su_above])), ((ad 2), .inl (kc 0, 18, .inl su_numbers)), ((ad 4), .inl (kc 3, 3, .inr (.inr (.inr (.inr (fun i => if i < 3 then some (ad (5 + i)) else none)))))), ((ad 5), .inl (kc 0, 12, .inl (su_given 0))), ((ad 6), .inl (kc 0, 12, .inl (su_given 1))), ((ad 7), .inl (kc 0, 12, .inl (su_given 2))), ((ad 8), .inr (5, [.ref (ad 1)]))]) (w1 := (wd_SpeciesSolver_distance kc )) (ws1 := (wd_Rules_isHidden kc ad su_lines su_length su_perNote su_above su_numbers su_given)) (As := [.int a3, .int a4]) (rest := []) (y := y_SpeciesSolver_distance) ⟨hx, hb, hml, hown, hts⟩ (fun sz => c_SpeciesSolver_distance hc10 sz) gw_550 (hN _ nw_548) gw_549 gw_111 hd_SpeciesSolver_distance ⟨Nat.le_of_ble_eq_true rfl, Nat.le_of_ble_eq_true rfl⟩ ⟨rfl, rfl⟩ ⟨Nat.zero_le _, Nat.zero_le _⟩ hK hN hP hD hS hA hX [] [0, 1, 2, 3, 4, 5, 6] [0, 1, 2, 3, 4, 5, 6] rfl rfl (by decide) (by decide) (by decide) rfl (by decide) rfl hl.1 rfl (Nat.le_of_ble_eq_true rfl) d_Rules_isHidden_31 (fun H locs hP hD hS => ?_)
      refine lv_aload_n hx hb d_Rules_isHidden_34 rfl (lv_at hl 0 rfl) ?_
      refine va_get (D := D) (ci := 5) (v := .ref (ad 1)) (C := R_Rules) (T := T_Rules) (N := 1) hx hb hts inG_Rules hown hK hP 6 rfl rfl 0 (by decide) (hts _ gw_207) (fun _ h9 => h9) rfl d_Rules_isHidden_35 ?_
      refine va_getN (D := D) (ci := 7) (v := .ref (ad 2)) (C := R_Setup) (T := T_Setup) (N := 7) hx hb hts inG_Setup hown hK hP 0 rfl rfl 0 (by decide) (va_Nw.use rfl (hN _ nw_158)) (fun _ h9 => h9) rfl d_Rules_isHidden_38 ?_
      refine lv_bipush (v := 8) hx hb d_Rules_isHidden_41 (by decide) ?_
      refine va_iald hx hb hK hP 1 0 rfl rfl (in_lit (by decide)) d_Rules_isHidden_43 ?_
      refine lv_icmp_le (tgt := 51) hx hb d_Rules_isHidden_44 (by decide) (fun c11 => ?_) (fun c11 => ?_)
      · replace hm := ifT hm c11
        refine lv_iconst (v := 0) hx hb d_Rules_isHidden_51 (by decide) ?_
        replace hm := Option.some.inj hm; subst hm
        exact zret_z (v := 0) C hP hD hS (by rfl) d_Rules_isHidden_52
      · replace hm := ifF hm c11
        refine lv_iconst (v := 1) hx hb d_Rules_isHidden_47 (by decide) ?_
        refine lv_goto (tgt := 52) hx hb d_Rules_isHidden_48 (by decide) ?_
        replace hm := Option.some.inj hm; subst hm
        exact zret_z (v := 1) C hP hD hS (by rfl) d_Rules_isHidden_52
set_option maxHeartbeats 4000000 in
set_option maxRecDepth 100000 in
theorem c_Rules_isHidden {l : Launch} {D : va_G} {kc : Nat → ClassId} {r : Int32} {ad : Nat → Nat} {su_lines : Int32} {su_length : Int32} {su_perNote : Int32} {su_above : Int32} {su_numbers : Nat → Int32} {su_given : Nat → Nat → Int32} {a1 : Int32} {a2 : Int32} {a3 : Int32} {a4 : Int32} (hm : m_Rules_isHidden su_perNote su_numbers su_given a1 a2 a3 a4 = some r) (sz : Nat) : Ci l y_Rules_isHidden ws_Rules_isHidden rm_Rules_isHidden D kc sz [.ref (ad 8), .int a1, .int a2, .int a3, .int a4] (wd_Rules_isHidden kc ad su_lines su_length su_perNote su_above su_numbers su_given) (wd_Rules_isHidden kc ad su_lines su_length su_perNote su_above su_numbers su_given) r :=
  Cz_of (Qf := fun A => (Qi D A (wd_Rules_isHidden kc ad su_lines su_length su_perNote su_above su_numbers su_given) r)) (cc := b_Rules_isHidden) (maxL := 5) (ret := (some .boolean)) (by decide) rfl rfl (fun C hZ hl => e_Rules_isHidden C hm hZ hl)
abbrev b_Prices_isBadStrongMove : ByteArray := prog_4_method_8_code
abbrev y_Prices_isBadStrongMove : MethodName := ⟨"SpeciesSolver$Prices", "isBadStrongMove", "(III)Z"⟩
theorem d_Prices_isBadStrongMove_0 : decode b_Prices_isBadStrongMove 0 = .ok (.iconst 0, 1) := by decide +kernel
theorem d_Prices_isBadStrongMove_1 : decode b_Prices_isBadStrongMove 1 = .ok (.istore 4, 2) := by decide +kernel
theorem d_Prices_isBadStrongMove_3 : decode b_Prices_isBadStrongMove 3 = .ok (.iload 4, 2) := by decide +kernel
theorem d_Prices_isBadStrongMove_5 : decode b_Prices_isBadStrongMove 5 = .ok (.aload_n 0, 1) := by decide +kernel
theorem d_Prices_isBadStrongMove_6 : decode b_Prices_isBadStrongMove 6 = .ok (.getfield 53, 3) := by decide +kernel
theorem d_Prices_isBadStrongMove_9 : decode b_Prices_isBadStrongMove 9 = .ok (.getfield 109, 3) := by decide +kernel
theorem d_Prices_isBadStrongMove_12 : decode b_Prices_isBadStrongMove 12 = .ok (.if_icmp .ge 65, 3) := by decide +kernel
theorem d_Prices_isBadStrongMove_15 : decode b_Prices_isBadStrongMove 15 = .ok (.aload_n 0, 1) := by decide +kernel
theorem d_Prices_isBadStrongMove_16 : decode b_Prices_isBadStrongMove 16 = .ok (.getfield 53, 3) := by decide +kernel
theorem d_Prices_isBadStrongMove_19 : decode b_Prices_isBadStrongMove 19 = .ok (.getfield 71, 3) := by decide +kernel
theorem d_Prices_isBadStrongMove_22 : decode b_Prices_isBadStrongMove 22 = .ok (.iconst 1, 1) := by decide +kernel
theorem d_Prices_isBadStrongMove_23 : decode b_Prices_isBadStrongMove 23 = .ok (.baload, 1) := by decide +kernel
theorem d_Prices_isBadStrongMove_24 : decode b_Prices_isBadStrongMove 24 = .ok (.ifCond .eq 18, 3) := by decide +kernel
theorem d_Prices_isBadStrongMove_27 : decode b_Prices_isBadStrongMove 27 = .ok (.aload_n 0, 1) := by decide +kernel
theorem d_Prices_isBadStrongMove_28 : decode b_Prices_isBadStrongMove 28 = .ok (.getfield 57, 3) := by decide +kernel
theorem d_Prices_isBadStrongMove_31 : decode b_Prices_isBadStrongMove 31 = .ok (.iload 4, 2) := by decide +kernel
theorem d_Prices_isBadStrongMove_33 : decode b_Prices_isBadStrongMove 33 = .ok (.iload_n 1, 1) := by decide +kernel
theorem d_Prices_isBadStrongMove_34 : decode b_Prices_isBadStrongMove 34 = .ok (.iload_n 2, 1) := by decide +kernel
theorem d_Prices_isBadStrongMove_35 : decode b_Prices_isBadStrongMove 35 = .ok (.iload_n 3, 1) := by decide +kernel
theorem d_Prices_isBadStrongMove_36 : decode b_Prices_isBadStrongMove 36 = .ok (.invokevirtual 143, 3) := by decide +kernel
theorem d_Prices_isBadStrongMove_39 : decode b_Prices_isBadStrongMove 39 = .ok (.ifCond .ne 30, 3) := by decide +kernel
theorem d_Prices_isBadStrongMove_42 : decode b_Prices_isBadStrongMove 42 = .ok (.aload_n 0, 1) := by decide +kernel
theorem d_Prices_isBadStrongMove_43 : decode b_Prices_isBadStrongMove 43 = .ok (.getfield 53, 3) := by decide +kernel
theorem d_Prices_isBadStrongMove_46 : decode b_Prices_isBadStrongMove 46 = .ok (.getfield 71, 3) := by decide +kernel
theorem d_Prices_isBadStrongMove_49 : decode b_Prices_isBadStrongMove 49 = .ok (.iconst 2, 1) := by decide +kernel
theorem d_Prices_isBadStrongMove_50 : decode b_Prices_isBadStrongMove 50 = .ok (.baload, 1) := by decide +kernel
theorem d_Prices_isBadStrongMove_51 : decode b_Prices_isBadStrongMove 51 = .ok (.ifCond .eq 20, 3) := by decide +kernel
theorem d_Prices_isBadStrongMove_54 : decode b_Prices_isBadStrongMove 54 = .ok (.aload_n 0, 1) := by decide +kernel
theorem d_Prices_isBadStrongMove_55 : decode b_Prices_isBadStrongMove 55 = .ok (.getfield 57, 3) := by decide +kernel
theorem d_Prices_isBadStrongMove_58 : decode b_Prices_isBadStrongMove 58 = .ok (.iload 4, 2) := by decide +kernel
theorem d_Prices_isBadStrongMove_60 : decode b_Prices_isBadStrongMove 60 = .ok (.iload_n 1, 1) := by decide +kernel
theorem d_Prices_isBadStrongMove_61 : decode b_Prices_isBadStrongMove 61 = .ok (.iload_n 2, 1) := by decide +kernel
theorem d_Prices_isBadStrongMove_62 : decode b_Prices_isBadStrongMove 62 = .ok (.iload_n 3, 1) := by decide +kernel
theorem d_Prices_isBadStrongMove_63 : decode b_Prices_isBadStrongMove 63 = .ok (.invokevirtual 147, 3) := by decide +kernel
theorem d_Prices_isBadStrongMove_66 : decode b_Prices_isBadStrongMove 66 = .ok (.ifCond .eq 5, 3) := by decide +kernel
theorem d_Prices_isBadStrongMove_69 : decode b_Prices_isBadStrongMove 69 = .ok (.iconst 1, 1) := by decide +kernel
theorem d_Prices_isBadStrongMove_70 : decode b_Prices_isBadStrongMove 70 = .ok (.ireturn, 1) := by decide +kernel
theorem d_Prices_isBadStrongMove_71 : decode b_Prices_isBadStrongMove 71 = .ok (.iinc 4 1, 3) := by decide +kernel
theorem d_Prices_isBadStrongMove_74 : decode b_Prices_isBadStrongMove 74 = .ok (.goto (-71), 3) := by decide +kernel
theorem d_Prices_isBadStrongMove_77 : decode b_Prices_isBadStrongMove 77 = .ok (.iconst 0, 1) := by decide +kernel
theorem d_Prices_isBadStrongMove_78 : decode b_Prices_isBadStrongMove 78 = .ok (.ireturn, 1) := by decide +kernel
abbrev wd_Prices_isBadStrongMove (kc : Nat → ClassId) (ad : Nat → Nat) (su_lines : Int32) (su_length : Int32) (su_perNote : Int32) (su_above : Int32) (su_numbers : Nat → Int32) (su_on : Nat → Int32) (su_given : Nat → Nat → Int32) (pr_size : Int32) (pr_total : Int32) (pr_perNote : Int32) (pr_mostAlike : Int32) : va_W := [((ad 1), .inr (7, [.ref (ad 2), .ref (ad 3), .ref (ad 4), .int su_lines, .int su_length, .int su_perNote, .int su_above])), ((ad 2), .inl (kc 0, 18, .inl su_numbers)), ((ad 3), .inl (kc 1, 11, .inl su_on)), ((ad 4), .inl (kc 3, 3, .inr (.inr (.inr (.inr (fun i => if i < 3 then some (ad (5 + i)) else none)))))), ((ad 5), .inl (kc 0, 12, .inl (su_given 0))), ((ad 6), .inl (kc 0, 12, .inl (su_given 1))), ((ad 7), .inl (kc 0, 12, .inl (su_given 2))), ((ad 8), .inr (5, [.ref (ad 1)])), ((ad 13), .inr (4, [.ref (ad 1), .ref (ad 8), .ref (ad 14), .ref (ad 15), .ref (ad 16), .ref (ad 17), .ref (ad 18), .ref (ad 19), .ref (ad 20), .ref (ad 21), .ref (ad 22), .int pr_size, .int pr_total, .int pr_perNote, .int pr_mostAlike]))]
abbrev rm_Prices_isBadStrongMove : Room := { frames := 2, cells := 0, slots := 0, locals := 52 }
abbrev cw_Prices_isBadStrongMove : Cond := .code y_Prices_isBadStrongMove b_Prices_isBadStrongMove 5 (some .boolean)
abbrev ws_Prices_isBadStrongMove : List Cond := cw_Prices_isBadStrongMove :: GW
theorem hd_Prices_isBadStrongMove : y_Prices_isBadStrongMove.cls ≠ "java/lang/invoke/MethodHandle" ∧ y_Prices_isBadStrongMove.cls ≠ "java/lang/invoke/VarHandle" ∧ (parseMethodDescriptor y_Prices_isBadStrongMove.desc).map (fun d => d.parameters.length) = some 3 := by decide +kernel
def m_Prices_isBadStrongMove_71 (F : Nat) (su_lines : Int32) (su_perNote : Int32) (su_numbers : Nat → Int32) (su_on : Nat → Int32) (su_given : Nat → Nat → Int32) (k3 : Int32 → Int32 → Int32 → Int32 → Option (Int32))  (x1 : Int32) (x2 : Int32) (x3 : Int32) (x4 : Int32) : Option (Int32) :=
  k3 x1 x2 x3 (x4 + 1)
set_option maxHeartbeats 4000000 in
set_option maxRecDepth 100000 in
theorem l_Prices_isBadStrongMove_71 {r : Int32} {F : Nat} {ad : Nat → Nat} {su_lines : Int32} {su_length : Int32} {su_perNote : Int32} {su_above : Int32} {su_numbers : Nat → Int32} {su_on : Nat → Int32} {su_given : Nat → Nat → Int32} {pr_size : Int32} {pr_total : Int32} {pr_perNote : Int32} {pr_mostAlike : Int32} {k3 : Int32 → Int32 → Int32 → Int32 → Option (Int32)} {x1 : Int32} {x2 : Int32} {x3 : Int32} {x4 : Int32} {H : Heap} {locs : List Loc} {ls : Array Slot} (C : Cx p s m meth c args A D kc R_Prices b_Prices_isBadStrongMove 5 (some .boolean)) (hk3 : (∀  (x1 : Int32) (x2 : Int32) (x3 : Int32) (x4 : Int32) (H : Heap) (locs : List Loc) (ls : Array Slot), k3 x1 x2 x3 x4 = some r → St D A s (wd_Prices_isBadStrongMove kc ad su_lines su_length su_perNote su_above su_numbers su_on su_given pr_size pr_total pr_perNote pr_mostAlike) H locs → lv_has ls 5 [(0, .ref (ad 13)), (1, .int x1), (2, .int x2), (3, .int x3), (4, .int x4)] → W p l e rm_Prices_isBadStrongMove s m args below meth c H locs 0 0 (MQ below (Qi D A (wd_Prices_isBadStrongMove kc ad su_lines su_length su_perNote su_above su_numbers su_on su_given pr_size pr_total pr_perNote pr_mostAlike) r) args s 0 0 A) (F0 m 3 ls []))) (hm : m_Prices_isBadStrongMove_71 F su_lines su_perNote su_numbers su_on su_given k3 x1 x2 x3 x4 = some r) (hZ : St D A s (wd_Prices_isBadStrongMove kc ad su_lines su_length su_perNote su_above su_numbers su_on su_given pr_size pr_total pr_perNote pr_mostAlike) H locs) (hl : lv_has ls 5 [(0, .ref (ad 13)), (1, .int x1), (2, .int x2), (3, .int x3), (4, .int x4)]) : W p l e rm_Prices_isBadStrongMove s m args below meth c H locs 0 0 (MQ below (Qi D A (wd_Prices_isBadStrongMove kc ad su_lines su_length su_perNote su_above su_numbers su_on su_given pr_size pr_total pr_perNote pr_mostAlike) r) args s 0 0 A) (F0 m 71 ls []) := by
  obtain ⟨hx, hb, hr, hts, hown, hml, hlocks, hK, hN, hA, hX⟩ := id C
  obtain ⟨hP, hD, hS⟩ := hZ
  unfold m_Prices_isBadStrongMove_71 at hm
  refine lv_iinc (v := (x4 + 1)) (lv' := [(4, .int (x4 + 1)), (0, .ref (ad 13)), (1, .int x1), (2, .int x2), (3, .int x3)]) hx hb d_Prices_isBadStrongMove_71 hl (k := 4) rfl rfl (by decide) rfl (fun ls hl => ?_)
  refine lv_goto (tgt := 3) hx hb d_Prices_isBadStrongMove_74 (by decide) ?_
  exact hk3 x1 x2 x3 (x4 + 1) _ _ _ hm ⟨hP, hD, hS⟩ (lv_sub hl [1, 2, 3, 4, 0] rfl)
def m_Prices_isBadStrongMove_42 (F : Nat) (su_lines : Int32) (su_perNote : Int32) (su_numbers : Nat → Int32) (su_on : Nat → Int32) (su_given : Nat → Nat → Int32) (k3 : Int32 → Int32 → Int32 → Int32 → Option (Int32))  (x1 : Int32) (x2 : Int32) (x3 : Int32) (x4 : Int32) : Option (Int32) :=
  (if (su_on (Int32.toNatClampNeg (2 : Int32))) = (0 : Int32) then
    m_Prices_isBadStrongMove_71 F su_lines su_perNote su_numbers su_on su_given k3 x1 x2 x3 x4
  else
    (bd (m_Rules_isHidden su_perNote su_numbers su_given x4 x1 x2 x3) (fun u2 => (if u2 = (0 : Int32) then
      m_Prices_isBadStrongMove_71 F su_lines su_perNote su_numbers su_on su_given k3 x1 x2 x3 x4
    else
      (some (1 : Int32))))))
set_option maxHeartbeats 4000000 in
set_option maxRecDepth 100000 in
theorem l_Prices_isBadStrongMove_42 {r : Int32} {F : Nat} {ad : Nat → Nat} {su_lines : Int32} {su_length : Int32} {su_perNote : Int32} {su_above : Int32} {su_numbers : Nat → Int32} {su_on : Nat → Int32} {su_given : Nat → Nat → Int32} {pr_size : Int32} {pr_total : Int32} {pr_perNote : Int32} {pr_mostAlike : Int32} {k3 : Int32 → Int32 → Int32 → Int32 → Option (Int32)} {x1 : Int32} {x2 : Int32} {x3 : Int32} {x4 : Int32} {H : Heap} {locs : List Loc} {ls : Array Slot} (C : Cx p s m meth c args A D kc R_Prices b_Prices_isBadStrongMove 5 (some .boolean)) (hk3 : (∀  (x1 : Int32) (x2 : Int32) (x3 : Int32) (x4 : Int32) (H : Heap) (locs : List Loc) (ls : Array Slot), k3 x1 x2 x3 x4 = some r → St D A s (wd_Prices_isBadStrongMove kc ad su_lines su_length su_perNote su_above su_numbers su_on su_given pr_size pr_total pr_perNote pr_mostAlike) H locs → lv_has ls 5 [(0, .ref (ad 13)), (1, .int x1), (2, .int x2), (3, .int x3), (4, .int x4)] → W p l e rm_Prices_isBadStrongMove s m args below meth c H locs 0 0 (MQ below (Qi D A (wd_Prices_isBadStrongMove kc ad su_lines su_length su_perNote su_above su_numbers su_on su_given pr_size pr_total pr_perNote pr_mostAlike) r) args s 0 0 A) (F0 m 3 ls []))) (hm : m_Prices_isBadStrongMove_42 F su_lines su_perNote su_numbers su_on su_given k3 x1 x2 x3 x4 = some r) (hZ : St D A s (wd_Prices_isBadStrongMove kc ad su_lines su_length su_perNote su_above su_numbers su_on su_given pr_size pr_total pr_perNote pr_mostAlike) H locs) (hl : lv_has ls 5 [(0, .ref (ad 13)), (1, .int x1), (2, .int x2), (3, .int x3), (4, .int x4)]) : W p l e rm_Prices_isBadStrongMove s m args below meth c H locs 0 0 (MQ below (Qi D A (wd_Prices_isBadStrongMove kc ad su_lines su_length su_perNote su_above su_numbers su_on su_given pr_size pr_total pr_perNote pr_mostAlike) r) args s 0 0 A) (F0 m 42 ls []) := by
  obtain ⟨hx, hb, hr, hts, hown, hml, hlocks, hK, hN, hA, hX⟩ := id C
  obtain ⟨hP, hD, hS⟩ := hZ
  unfold m_Prices_isBadStrongMove_42 at hm
  refine lv_aload_n hx hb d_Prices_isBadStrongMove_42 rfl (lv_at hl 0 rfl) ?_
  refine va_get (D := D) (ci := 4) (v := .ref (ad 1)) (C := R_Prices) (T := T_Prices) (N := 15) hx hb hts inG_Prices hown hK hP 8 rfl rfl 0 (by decide) (hts _ gw_248) (fun _ h9 => h9) rfl d_Prices_isBadStrongMove_43 ?_
  refine va_getN (D := D) (ci := 7) (v := .ref (ad 3)) (C := R_Setup) (T := T_Setup) (N := 7) hx hb hts inG_Setup hown hK hP 0 rfl rfl 1 (by decide) (va_Nw.use rfl (hN _ nw_165)) (fun _ h9 => h9) rfl d_Prices_isBadStrongMove_46 ?_
  refine lv_iconst (v := 2) hx hb d_Prices_isBadStrongMove_49 (by decide) ?_
  refine va_zald hx hb hK hP 2 1 rfl rfl (in_lit (by decide)) d_Prices_isBadStrongMove_50 ?_
  refine lv_if_eq (tgt := 71) hx hb d_Prices_isBadStrongMove_51 (by decide) (fun c1 => ?_) (fun c1 => ?_)
  · replace hm := ifT hm c1
    exact l_Prices_isBadStrongMove_71 C hk3 hm ⟨hP, hD, hS⟩ (lv_sub hl [0, 1, 2, 3, 4] rfl)
  · replace hm := ifF hm c1
    refine lv_aload_n hx hb d_Prices_isBadStrongMove_54 rfl (lv_at hl 0 rfl) ?_
    refine va_get (D := D) (ci := 4) (v := .ref (ad 8)) (C := R_Prices) (T := T_Prices) (N := 15) hx hb hts inG_Prices hown hK hP 8 rfl rfl 1 (by decide) (hts _ gw_249) (fun _ h9 => h9) rfl d_Prices_isBadStrongMove_55 ?_
    refine lv_iload hx hb d_Prices_isBadStrongMove_58 (lv_at hl 4 rfl) ?_
    refine lv_iload_n hx hb d_Prices_isBadStrongMove_60 rfl (lv_at hl 1 rfl) ?_
    refine lv_iload_n hx hb d_Prices_isBadStrongMove_61 rfl (lv_at hl 2 rfl) ?_
    refine lv_iload_n hx hb d_Prices_isBadStrongMove_62 rfl (lv_at hl 3 rfl) ?_
    obtain ⟨u2, hc3, hm⟩ := bd_some hm
    refine zVN_i (n := 4) (wr := [((ad 3), .inl (kc 1, 11, .inl su_on)), ((ad 13), .inr (4, [.ref (ad 1), .ref (ad 8), .ref (ad 14), .ref (ad 15), .ref (ad 16), .ref (ad 17), .ref (ad 18), .ref (ad 19), .ref (ad 20), .ref (ad 21), .ref (ad 22), .int pr_size, .int pr_total, .int pr_perNote, .int pr_mostAlike]))]) (w1 := (wd_Rules_isHidden kc ad su_lines su_length su_perNote su_above su_numbers su_given)) (ws1 := (wd_Prices_isBadStrongMove kc ad su_lines su_length su_perNote su_above su_numbers su_on su_given pr_size pr_total pr_perNote pr_mostAlike)) (As := [.int x4, .int x1, .int x2, .int x3]) (rest := []) (ci := 5) (q0 := 6) (y := y_Rules_isHidden) (host := "SpeciesSolver") ⟨hx, hb, hml, hown, hts⟩ (fun sz => c_Rules_isHidden hc3 sz) gw_599 (hN _ nw_596) gw_598 gw_35 gw_114 hd_Rules_isHidden ⟨Nat.le_of_ble_eq_true rfl, Nat.le_of_ble_eq_true rfl⟩ ⟨rfl, rfl⟩ ⟨Nat.zero_le _, Nat.zero_le _⟩ hK hN hP hD hS hA hX [0, 1, 3, 4, 5, 6, 7] [2, 8] [2, 3, 0, 4, 5, 6, 7, 8, 1] rfl rfl (by decide) (by decide) (by decide) rfl (by decide) rfl rfl rfl hl.1 rfl (Nat.le_of_ble_eq_true rfl) d_Prices_isBadStrongMove_63 (fun H locs hP hD hS => ?_)
    refine lv_if_eq (tgt := 71) hx hb d_Prices_isBadStrongMove_66 (by decide) (fun c4 => ?_) (fun c4 => ?_)
    · replace hm := ifT hm c4
      exact l_Prices_isBadStrongMove_71 C hk3 hm ⟨hP, hD, hS⟩ (lv_sub hl [0, 1, 2, 3, 4] rfl)
    · replace hm := ifF hm c4
      refine lv_iconst (v := 1) hx hb d_Prices_isBadStrongMove_69 (by decide) ?_
      replace hm := Option.some.inj hm; subst hm
      exact zret_z (v := 1) C hP hD hS (by rfl) d_Prices_isBadStrongMove_70
def m_Prices_isBadStrongMove_3b (F : Nat) (su_lines : Int32) (su_perNote : Int32) (su_numbers : Nat → Int32) (su_on : Nat → Int32) (su_given : Nat → Nat → Int32) (k3 : Int32 → Int32 → Int32 → Int32 → Option (Int32))  (x1 : Int32) (x2 : Int32) (x3 : Int32) (x4 : Int32) : Option (Int32) :=
  (if su_lines ≤ x4 then
    (some (0 : Int32))
  else
    (if (su_on (Int32.toNatClampNeg (1 : Int32))) = (0 : Int32) then
      m_Prices_isBadStrongMove_42 F su_lines su_perNote su_numbers su_on su_given k3 x1 x2 x3 x4
    else
      (bd (m_Rules_isParallel su_perNote su_numbers su_given x4 x1 x2 x3) (fun u3 => (if u3 = (0 : Int32) then
        m_Prices_isBadStrongMove_42 F su_lines su_perNote su_numbers su_on su_given k3 x1 x2 x3 x4
      else
        (some (1 : Int32)))))))
set_option maxHeartbeats 4000000 in
set_option maxRecDepth 100000 in
theorem l_Prices_isBadStrongMove_3 {r : Int32} {F : Nat} {ad : Nat → Nat} {su_lines : Int32} {su_length : Int32} {su_perNote : Int32} {su_above : Int32} {su_numbers : Nat → Int32} {su_on : Nat → Int32} {su_given : Nat → Nat → Int32} {pr_size : Int32} {pr_total : Int32} {pr_perNote : Int32} {pr_mostAlike : Int32} {k3 : Int32 → Int32 → Int32 → Int32 → Option (Int32)} {x1 : Int32} {x2 : Int32} {x3 : Int32} {x4 : Int32} {H : Heap} {locs : List Loc} {ls : Array Slot} (C : Cx p s m meth c args A D kc R_Prices b_Prices_isBadStrongMove 5 (some .boolean)) (hk3 : (∀  (x1 : Int32) (x2 : Int32) (x3 : Int32) (x4 : Int32) (H : Heap) (locs : List Loc) (ls : Array Slot), k3 x1 x2 x3 x4 = some r → St D A s (wd_Prices_isBadStrongMove kc ad su_lines su_length su_perNote su_above su_numbers su_on su_given pr_size pr_total pr_perNote pr_mostAlike) H locs → lv_has ls 5 [(0, .ref (ad 13)), (1, .int x1), (2, .int x2), (3, .int x3), (4, .int x4)] → W p l e rm_Prices_isBadStrongMove s m args below meth c H locs 0 0 (MQ below (Qi D A (wd_Prices_isBadStrongMove kc ad su_lines su_length su_perNote su_above su_numbers su_on su_given pr_size pr_total pr_perNote pr_mostAlike) r) args s 0 0 A) (F0 m 3 ls []))) (hm : m_Prices_isBadStrongMove_3b F su_lines su_perNote su_numbers su_on su_given k3 x1 x2 x3 x4 = some r) (hZ : St D A s (wd_Prices_isBadStrongMove kc ad su_lines su_length su_perNote su_above su_numbers su_on su_given pr_size pr_total pr_perNote pr_mostAlike) H locs) (hl : lv_has ls 5 [(0, .ref (ad 13)), (1, .int x1), (2, .int x2), (3, .int x3), (4, .int x4)]) : W p l e rm_Prices_isBadStrongMove s m args below meth c H locs 0 0 (MQ below (Qi D A (wd_Prices_isBadStrongMove kc ad su_lines su_length su_perNote su_above su_numbers su_on su_given pr_size pr_total pr_perNote pr_mostAlike) r) args s 0 0 A) (F0 m 3 ls []) := by
  obtain ⟨hx, hb, hr, hts, hown, hml, hlocks, hK, hN, hA, hX⟩ := id C
  obtain ⟨hP, hD, hS⟩ := hZ
  unfold m_Prices_isBadStrongMove_3b at hm
  refine lv_iload hx hb d_Prices_isBadStrongMove_3 (lv_at hl 4 rfl) ?_
  refine lv_aload_n hx hb d_Prices_isBadStrongMove_5 rfl (lv_at hl 0 rfl) ?_
  refine va_get (D := D) (ci := 4) (v := .ref (ad 1)) (C := R_Prices) (T := T_Prices) (N := 15) hx hb hts inG_Prices hown hK hP 8 rfl rfl 0 (by decide) (hts _ gw_248) (fun _ h9 => h9) rfl d_Prices_isBadStrongMove_6 ?_
  refine va_getN (D := D) (ci := 7) (v := .int su_lines) (C := R_Setup) (T := T_Setup) (N := 7) hx hb hts inG_Setup hown hK hP 0 rfl rfl 3 (by decide) (va_Nw.use rfl (hN _ nw_171)) (fun _ h9 => h9) rfl d_Prices_isBadStrongMove_9 ?_
  refine lv_icmp_ge (tgt := 77) hx hb d_Prices_isBadStrongMove_12 (by decide) (fun c1 => ?_) (fun c1 => ?_)
  · replace hm := ifT hm c1
    refine lv_iconst (v := 0) hx hb d_Prices_isBadStrongMove_77 (by decide) ?_
    replace hm := Option.some.inj hm; subst hm
    exact zret_z (v := 0) C hP hD hS (by rfl) d_Prices_isBadStrongMove_78
  · replace hm := ifF hm c1
    refine lv_aload_n hx hb d_Prices_isBadStrongMove_15 rfl (lv_at hl 0 rfl) ?_
    refine va_get (D := D) (ci := 4) (v := .ref (ad 1)) (C := R_Prices) (T := T_Prices) (N := 15) hx hb hts inG_Prices hown hK hP 8 rfl rfl 0 (by decide) (hts _ gw_248) (fun _ h9 => h9) rfl d_Prices_isBadStrongMove_16 ?_
    refine va_getN (D := D) (ci := 7) (v := .ref (ad 3)) (C := R_Setup) (T := T_Setup) (N := 7) hx hb hts inG_Setup hown hK hP 0 rfl rfl 1 (by decide) (va_Nw.use rfl (hN _ nw_165)) (fun _ h9 => h9) rfl d_Prices_isBadStrongMove_19 ?_
    refine lv_iconst (v := 1) hx hb d_Prices_isBadStrongMove_22 (by decide) ?_
    refine va_zald hx hb hK hP 2 1 rfl rfl (in_lit (by decide)) d_Prices_isBadStrongMove_23 ?_
    refine lv_if_eq (tgt := 42) hx hb d_Prices_isBadStrongMove_24 (by decide) (fun c2 => ?_) (fun c2 => ?_)
    · replace hm := ifT hm c2
      exact l_Prices_isBadStrongMove_42 C hk3 hm ⟨hP, hD, hS⟩ (lv_sub hl [0, 1, 2, 3, 4] rfl)
    · replace hm := ifF hm c2
      refine lv_aload_n hx hb d_Prices_isBadStrongMove_27 rfl (lv_at hl 0 rfl) ?_
      refine va_get (D := D) (ci := 4) (v := .ref (ad 8)) (C := R_Prices) (T := T_Prices) (N := 15) hx hb hts inG_Prices hown hK hP 8 rfl rfl 1 (by decide) (hts _ gw_249) (fun _ h9 => h9) rfl d_Prices_isBadStrongMove_28 ?_
      refine lv_iload hx hb d_Prices_isBadStrongMove_31 (lv_at hl 4 rfl) ?_
      refine lv_iload_n hx hb d_Prices_isBadStrongMove_33 rfl (lv_at hl 1 rfl) ?_
      refine lv_iload_n hx hb d_Prices_isBadStrongMove_34 rfl (lv_at hl 2 rfl) ?_
      refine lv_iload_n hx hb d_Prices_isBadStrongMove_35 rfl (lv_at hl 3 rfl) ?_
      obtain ⟨u3, hc4, hm⟩ := bd_some hm
      refine zVN_i (n := 4) (wr := [((ad 3), .inl (kc 1, 11, .inl su_on)), ((ad 13), .inr (4, [.ref (ad 1), .ref (ad 8), .ref (ad 14), .ref (ad 15), .ref (ad 16), .ref (ad 17), .ref (ad 18), .ref (ad 19), .ref (ad 20), .ref (ad 21), .ref (ad 22), .int pr_size, .int pr_total, .int pr_perNote, .int pr_mostAlike]))]) (w1 := (wd_Rules_isParallel kc ad su_lines su_length su_perNote su_above su_numbers su_given)) (ws1 := (wd_Prices_isBadStrongMove kc ad su_lines su_length su_perNote su_above su_numbers su_on su_given pr_size pr_total pr_perNote pr_mostAlike)) (As := [.int x4, .int x1, .int x2, .int x3]) (rest := []) (ci := 5) (q0 := 6) (y := y_Rules_isParallel) (host := "SpeciesSolver") ⟨hx, hb, hml, hown, hts⟩ (fun sz => c_Rules_isParallel hc4 sz) gw_591 (hN _ nw_588) gw_590 gw_33 gw_114 hd_Rules_isParallel ⟨Nat.le_of_ble_eq_true rfl, Nat.le_of_ble_eq_true rfl⟩ ⟨rfl, rfl⟩ ⟨Nat.zero_le _, Nat.zero_le _⟩ hK hN hP hD hS hA hX [0, 1, 3, 4, 5, 6, 7] [2, 8] [2, 3, 0, 4, 5, 6, 7, 8, 1] rfl rfl (by decide) (by decide) (by decide) rfl (by decide) rfl rfl rfl hl.1 rfl (Nat.le_of_ble_eq_true rfl) d_Prices_isBadStrongMove_36 (fun H locs hP hD hS => ?_)
      refine lv_if_ne (tgt := 69) hx hb d_Prices_isBadStrongMove_39 (by decide) (fun c5 => ?_) (fun c5 => ?_)
      · replace hm := ifF hm c5
        refine lv_iconst (v := 1) hx hb d_Prices_isBadStrongMove_69 (by decide) ?_
        replace hm := Option.some.inj hm; subst hm
        exact zret_z (v := 1) C hP hD hS (by rfl) d_Prices_isBadStrongMove_70
      · replace hm := ifT hm c5
        exact l_Prices_isBadStrongMove_42 C hk3 hm ⟨hP, hD, hS⟩ (lv_sub hl [0, 1, 2, 3, 4] rfl)
def m_Prices_isBadStrongMove_3 (F : Nat) (su_lines : Int32) (su_perNote : Int32) (su_numbers : Nat → Int32) (su_on : Nat → Int32) (su_given : Nat → Nat → Int32)  : Nat → Int32 → Int32 → Int32 → Int32 → Option (Int32)
  | 0 => fun _ _ _ _ => none
  | n + 1 => m_Prices_isBadStrongMove_3b F su_lines su_perNote su_numbers su_on su_given  (m_Prices_isBadStrongMove_3 F su_lines su_perNote su_numbers su_on su_given  n)
set_option maxHeartbeats 4000000 in
set_option maxRecDepth 100000 in
theorem lp_Prices_isBadStrongMove_3 {r : Int32} {F : Nat} {ad : Nat → Nat} {su_lines : Int32} {su_length : Int32} {su_perNote : Int32} {su_above : Int32} {su_numbers : Nat → Int32} {su_on : Nat → Int32} {su_given : Nat → Nat → Int32} {pr_size : Int32} {pr_total : Int32} {pr_perNote : Int32} {pr_mostAlike : Int32}  (C : Cx p s m meth c args A D kc R_Prices b_Prices_isBadStrongMove 5 (some .boolean))  : ∀ (n : Nat)  (x1 : Int32) (x2 : Int32) (x3 : Int32) (x4 : Int32) (H : Heap) (locs : List Loc) (ls : Array Slot), m_Prices_isBadStrongMove_3 F su_lines su_perNote su_numbers su_on su_given  n x1 x2 x3 x4 = some r → St D A s (wd_Prices_isBadStrongMove kc ad su_lines su_length su_perNote su_above su_numbers su_on su_given pr_size pr_total pr_perNote pr_mostAlike) H locs → lv_has ls 5 [(0, .ref (ad 13)), (1, .int x1), (2, .int x2), (3, .int x3), (4, .int x4)] → W p l e rm_Prices_isBadStrongMove s m args below meth c H locs 0 0 (MQ below (Qi D A (wd_Prices_isBadStrongMove kc ad su_lines su_length su_perNote su_above su_numbers su_on su_given pr_size pr_total pr_perNote pr_mostAlike) r) args s 0 0 A) (F0 m 3 ls []) := by
  intro n
  induction n with
  | zero => intro x1 x2 x3 x4 H locs ls hm; cases hm
  | succ n ih => intro x1 x2 x3 x4 H locs ls hm hZ hl; exact l_Prices_isBadStrongMove_3 C  ih hm hZ hl
def m_Prices_isBadStrongMove (F : Nat) (su_lines : Int32) (su_perNote : Int32) (su_numbers : Nat → Int32) (su_on : Nat → Int32) (su_given : Nat → Nat → Int32)  (a1 : Int32) (a2 : Int32) (a3 : Int32) : Option (Int32) :=
  m_Prices_isBadStrongMove_3 F su_lines su_perNote su_numbers su_on su_given  F a1 a2 a3 (0 : Int32)
set_option maxHeartbeats 4000000 in
set_option maxRecDepth 100000 in
theorem e_Prices_isBadStrongMove {r : Int32} {F : Nat} {ad : Nat → Nat} {su_lines : Int32} {su_length : Int32} {su_perNote : Int32} {su_above : Int32} {su_numbers : Nat → Int32} {su_on : Nat → Int32} {su_given : Nat → Nat → Int32} {pr_size : Int32} {pr_total : Int32} {pr_perNote : Int32} {pr_mostAlike : Int32} {a1 : Int32} {a2 : Int32} {a3 : Int32} {H : Heap} {locs : List Loc} {ls : Array Slot} (C : Cx p s m meth c args A D kc R_Prices b_Prices_isBadStrongMove 5 (some .boolean)) (hm : m_Prices_isBadStrongMove F su_lines su_perNote su_numbers su_on su_given a1 a2 a3 = some r) (hZ : St D A s (wd_Prices_isBadStrongMove kc ad su_lines su_length su_perNote su_above su_numbers su_on su_given pr_size pr_total pr_perNote pr_mostAlike) H locs) (hl : lv_has ls 5 [(0, .ref (ad 13)), (1, .int a1), (2, .int a2), (3, .int a3)]) : W p l e rm_Prices_isBadStrongMove s m args below meth c H locs 0 0 (MQ below (Qi D A (wd_Prices_isBadStrongMove kc ad su_lines su_length su_perNote su_above su_numbers su_on su_given pr_size pr_total pr_perNote pr_mostAlike) r) args s 0 0 A) (F0 m 0 ls []) := by
  obtain ⟨hx, hb, hr, hts, hown, hml, hlocks, hK, hN, hA, hX⟩ := id C
  obtain ⟨hP, hD, hS⟩ := hZ
  unfold m_Prices_isBadStrongMove at hm
  refine lv_iconst (v := 0) hx hb d_Prices_isBadStrongMove_0 (by decide) ?_
  refine lv_istore (lv' := [(4, .int (0 : Int32)), (0, .ref (ad 13)), (1, .int a1), (2, .int a2), (3, .int a3)]) hx hb d_Prices_isBadStrongMove_1 hl (by decide) rfl (fun ls hl => ?_)
  exact lp_Prices_isBadStrongMove_3 C  F a1 a2 a3 (0 : Int32) _ _ _ hm ⟨hP, hD, hS⟩ (lv_sub hl [1, 2, 3, 4, 0] rfl)
set_option maxHeartbeats 4000000 in
set_option maxRecDepth 100000 in
theorem c_Prices_isBadStrongMove {l : Launch} {D : va_G} {kc : Nat → ClassId} {r : Int32} {F : Nat} {ad : Nat → Nat} {su_lines : Int32} {su_length : Int32} {su_perNote : Int32} {su_above : Int32} {su_numbers : Nat → Int32} {su_on : Nat → Int32} {su_given : Nat → Nat → Int32} {pr_size : Int32} {pr_total : Int32} {pr_perNote : Int32} {pr_mostAlike : Int32} {a1 : Int32} {a2 : Int32} {a3 : Int32} (hm : m_Prices_isBadStrongMove F su_lines su_perNote su_numbers su_on su_given a1 a2 a3 = some r) (sz : Nat) : Ci l y_Prices_isBadStrongMove ws_Prices_isBadStrongMove rm_Prices_isBadStrongMove D kc sz [.ref (ad 13), .int a1, .int a2, .int a3] (wd_Prices_isBadStrongMove kc ad su_lines su_length su_perNote su_above su_numbers su_on su_given pr_size pr_total pr_perNote pr_mostAlike) (wd_Prices_isBadStrongMove kc ad su_lines su_length su_perNote su_above su_numbers su_on su_given pr_size pr_total pr_perNote pr_mostAlike) r :=
  Cz_of (Qf := fun A => (Qi D A (wd_Prices_isBadStrongMove kc ad su_lines su_length su_perNote su_above su_numbers su_on su_given pr_size pr_total pr_perNote pr_mostAlike) r)) (cc := b_Prices_isBadStrongMove) (maxL := 5) (ret := (some .boolean)) (by decide) rfl rfl (fun C hZ hl => e_Prices_isBadStrongMove C hm hZ hl)
abbrev b_Rules_strongMoveCost : ByteArray := prog_5_method_20_code
abbrev y_Rules_strongMoveCost : MethodName := ⟨"SpeciesSolver$Rules", "strongMoveCost", "(III)I"⟩
theorem d_Rules_strongMoveCost_0 : decode b_Rules_strongMoveCost 0 = .ok (.iconst 0, 1) := by decide +kernel
theorem d_Rules_strongMoveCost_1 : decode b_Rules_strongMoveCost 1 = .ok (.istore 4, 2) := by decide +kernel
theorem d_Rules_strongMoveCost_3 : decode b_Rules_strongMoveCost 3 = .ok (.iconst 0, 1) := by decide +kernel
theorem d_Rules_strongMoveCost_4 : decode b_Rules_strongMoveCost 4 = .ok (.istore 5, 2) := by decide +kernel
theorem d_Rules_strongMoveCost_6 : decode b_Rules_strongMoveCost 6 = .ok (.iload 5, 2) := by decide +kernel
theorem d_Rules_strongMoveCost_8 : decode b_Rules_strongMoveCost 8 = .ok (.aload_n 0, 1) := by decide +kernel
theorem d_Rules_strongMoveCost_9 : decode b_Rules_strongMoveCost 9 = .ok (.getfield 9, 3) := by decide +kernel
theorem d_Rules_strongMoveCost_12 : decode b_Rules_strongMoveCost 12 = .ok (.getfield 37, 3) := by decide +kernel
theorem d_Rules_strongMoveCost_15 : decode b_Rules_strongMoveCost 15 = .ok (.if_icmp .ge 36, 3) := by decide +kernel
theorem d_Rules_strongMoveCost_18 : decode b_Rules_strongMoveCost 18 = .ok (.aload_n 0, 1) := by decide +kernel
theorem d_Rules_strongMoveCost_19 : decode b_Rules_strongMoveCost 19 = .ok (.iload 5, 2) := by decide +kernel
theorem d_Rules_strongMoveCost_21 : decode b_Rules_strongMoveCost 21 = .ok (.iload_n 1, 1) := by decide +kernel
theorem d_Rules_strongMoveCost_22 : decode b_Rules_strongMoveCost 22 = .ok (.iload_n 2, 1) := by decide +kernel
theorem d_Rules_strongMoveCost_23 : decode b_Rules_strongMoveCost 23 = .ok (.iload_n 3, 1) := by decide +kernel
theorem d_Rules_strongMoveCost_24 : decode b_Rules_strongMoveCost 24 = .ok (.invokevirtual 44, 3) := by decide +kernel
theorem d_Rules_strongMoveCost_27 : decode b_Rules_strongMoveCost 27 = .ok (.ifCond .eq 18, 3) := by decide +kernel
theorem d_Rules_strongMoveCost_30 : decode b_Rules_strongMoveCost 30 = .ok (.iload 4, 2) := by decide +kernel
theorem d_Rules_strongMoveCost_32 : decode b_Rules_strongMoveCost 32 = .ok (.aload_n 0, 1) := by decide +kernel
theorem d_Rules_strongMoveCost_33 : decode b_Rules_strongMoveCost 33 = .ok (.getfield 9, 3) := by decide +kernel
theorem d_Rules_strongMoveCost_36 : decode b_Rules_strongMoveCost 36 = .ok (.getfield 15, 3) := by decide +kernel
theorem d_Rules_strongMoveCost_39 : decode b_Rules_strongMoveCost 39 = .ok (.bipush 15, 2) := by decide +kernel
theorem d_Rules_strongMoveCost_41 : decode b_Rules_strongMoveCost 41 = .ok (.iaload, 1) := by decide +kernel
theorem d_Rules_strongMoveCost_42 : decode b_Rules_strongMoveCost 42 = .ok (.iadd, 1) := by decide +kernel
theorem d_Rules_strongMoveCost_43 : decode b_Rules_strongMoveCost 43 = .ok (.istore 4, 2) := by decide +kernel
theorem d_Rules_strongMoveCost_45 : decode b_Rules_strongMoveCost 45 = .ok (.iinc 5 1, 3) := by decide +kernel
theorem d_Rules_strongMoveCost_48 : decode b_Rules_strongMoveCost 48 = .ok (.goto (-42), 3) := by decide +kernel
theorem d_Rules_strongMoveCost_51 : decode b_Rules_strongMoveCost 51 = .ok (.iload 4, 2) := by decide +kernel
theorem d_Rules_strongMoveCost_53 : decode b_Rules_strongMoveCost 53 = .ok (.ireturn, 1) := by decide +kernel
abbrev wd_Rules_strongMoveCost (kc : Nat → ClassId) (ad : Nat → Nat) (su_lines : Int32) (su_length : Int32) (su_perNote : Int32) (su_above : Int32) (su_numbers : Nat → Int32) (su_given : Nat → Nat → Int32) : va_W := [((ad 1), .inr (7, [.ref (ad 2), .ref (ad 3), .ref (ad 4), .int su_lines, .int su_length, .int su_perNote, .int su_above])), ((ad 2), .inl (kc 0, 18, .inl su_numbers)), ((ad 4), .inl (kc 3, 3, .inr (.inr (.inr (.inr (fun i => if i < 3 then some (ad (5 + i)) else none)))))), ((ad 5), .inl (kc 0, 12, .inl (su_given 0))), ((ad 6), .inl (kc 0, 12, .inl (su_given 1))), ((ad 7), .inl (kc 0, 12, .inl (su_given 2))), ((ad 8), .inr (5, [.ref (ad 1)]))]
abbrev rm_Rules_strongMoveCost : Room := { frames := 1, cells := 0, slots := 0, locals := 27 }
abbrev cw_Rules_strongMoveCost : Cond := .code y_Rules_strongMoveCost b_Rules_strongMoveCost 6 (some .int)
abbrev ws_Rules_strongMoveCost : List Cond := cw_Rules_strongMoveCost :: GW
theorem hd_Rules_strongMoveCost : y_Rules_strongMoveCost.cls ≠ "java/lang/invoke/MethodHandle" ∧ y_Rules_strongMoveCost.cls ≠ "java/lang/invoke/VarHandle" ∧ (parseMethodDescriptor y_Rules_strongMoveCost.desc).map (fun d => d.parameters.length) = some 3 := by decide +kernel
def m_Rules_strongMoveCost_45 (F : Nat) (su_lines : Int32) (su_perNote : Int32) (su_numbers : Nat → Int32) (su_given : Nat → Nat → Int32) (k6 : Int32 → Int32 → Int32 → Int32 → Int32 → Option (Int32))  (x1 : Int32) (x2 : Int32) (x3 : Int32) (x4 : Int32) (x5 : Int32) : Option (Int32) :=
  k6 x1 x2 x3 x4 (x5 + 1)
set_option maxHeartbeats 4000000 in
set_option maxRecDepth 100000 in
theorem l_Rules_strongMoveCost_45 {r : Int32} {F : Nat} {ad : Nat → Nat} {su_lines : Int32} {su_length : Int32} {su_perNote : Int32} {su_above : Int32} {su_numbers : Nat → Int32} {su_given : Nat → Nat → Int32} {k6 : Int32 → Int32 → Int32 → Int32 → Int32 → Option (Int32)} {x1 : Int32} {x2 : Int32} {x3 : Int32} {x4 : Int32} {x5 : Int32} {H : Heap} {locs : List Loc} {ls : Array Slot} (C : Cx p s m meth c args A D kc R_Rules b_Rules_strongMoveCost 6 (some .int)) (hk6 : (∀  (x1 : Int32) (x2 : Int32) (x3 : Int32) (x4 : Int32) (x5 : Int32) (H : Heap) (locs : List Loc) (ls : Array Slot), k6 x1 x2 x3 x4 x5 = some r → St D A s (wd_Rules_strongMoveCost kc ad su_lines su_length su_perNote su_above su_numbers su_given) H locs → lv_has ls 6 [(0, .ref (ad 8)), (1, .int x1), (2, .int x2), (3, .int x3), (4, .int x4), (5, .int x5)] → W p l e rm_Rules_strongMoveCost s m args below meth c H locs 0 0 (MQ below (Qi D A (wd_Rules_strongMoveCost kc ad su_lines su_length su_perNote su_above su_numbers su_given) r) args s 0 0 A) (F0 m 6 ls []))) (hm : m_Rules_strongMoveCost_45 F su_lines su_perNote su_numbers su_given k6 x1 x2 x3 x4 x5 = some r) (hZ : St D A s (wd_Rules_strongMoveCost kc ad su_lines su_length su_perNote su_above su_numbers su_given) H locs) (hl : lv_has ls 6 [(0, .ref (ad 8)), (1, .int x1), (2, .int x2), (3, .int x3), (4, .int x4), (5, .int x5)]) : W p l e rm_Rules_strongMoveCost s m args below meth c H locs 0 0 (MQ below (Qi D A (wd_Rules_strongMoveCost kc ad su_lines su_length su_perNote su_above su_numbers su_given) r) args s 0 0 A) (F0 m 45 ls []) := by
  obtain ⟨hx, hb, hr, hts, hown, hml, hlocks, hK, hN, hA, hX⟩ := id C
  obtain ⟨hP, hD, hS⟩ := hZ
  unfold m_Rules_strongMoveCost_45 at hm
  refine lv_iinc (v := (x5 + 1)) (lv' := [(5, .int (x5 + 1)), (0, .ref (ad 8)), (1, .int x1), (2, .int x2), (3, .int x3), (4, .int x4)]) hx hb d_Rules_strongMoveCost_45 hl (k := 5) rfl rfl (by decide) rfl (fun ls hl => ?_)
  refine lv_goto (tgt := 6) hx hb d_Rules_strongMoveCost_48 (by decide) ?_
  exact hk6 x1 x2 x3 x4 (x5 + 1) _ _ _ hm ⟨hP, hD, hS⟩ (lv_sub hl [1, 2, 3, 4, 5, 0] rfl)
def m_Rules_strongMoveCost_6b (F : Nat) (su_lines : Int32) (su_perNote : Int32) (su_numbers : Nat → Int32) (su_given : Nat → Nat → Int32) (k6 : Int32 → Int32 → Int32 → Int32 → Int32 → Option (Int32))  (x1 : Int32) (x2 : Int32) (x3 : Int32) (x4 : Int32) (x5 : Int32) : Option (Int32) :=
  (if su_lines ≤ x5 then
    (some x4)
  else
    (bd (m_Rules_isAlike su_perNote su_given x5 x1 x2 x3) (fun u2 => (if u2 = (0 : Int32) then
      m_Rules_strongMoveCost_45 F su_lines su_perNote su_numbers su_given k6 x1 x2 x3 x4 x5
    else
      m_Rules_strongMoveCost_45 F su_lines su_perNote su_numbers su_given k6 x1 x2 x3 (x4 + (su_numbers (Int32.toNatClampNeg (15 : Int32)))) x5))))
set_option maxHeartbeats 4000000 in
set_option maxRecDepth 100000 in
theorem l_Rules_strongMoveCost_6 {r : Int32} {F : Nat} {ad : Nat → Nat} {su_lines : Int32} {su_length : Int32} {su_perNote : Int32} {su_above : Int32} {su_numbers : Nat → Int32} {su_given : Nat → Nat → Int32} {k6 : Int32 → Int32 → Int32 → Int32 → Int32 → Option (Int32)} {x1 : Int32} {x2 : Int32} {x3 : Int32} {x4 : Int32} {x5 : Int32} {H : Heap} {locs : List Loc} {ls : Array Slot} (C : Cx p s m meth c args A D kc R_Rules b_Rules_strongMoveCost 6 (some .int)) (hk6 : (∀  (x1 : Int32) (x2 : Int32) (x3 : Int32) (x4 : Int32) (x5 : Int32) (H : Heap) (locs : List Loc) (ls : Array Slot), k6 x1 x2 x3 x4 x5 = some r → St D A s (wd_Rules_strongMoveCost kc ad su_lines su_length su_perNote su_above su_numbers su_given) H locs → lv_has ls 6 [(0, .ref (ad 8)), (1, .int x1), (2, .int x2), (3, .int x3), (4, .int x4), (5, .int x5)] → W p l e rm_Rules_strongMoveCost s m args below meth c H locs 0 0 (MQ below (Qi D A (wd_Rules_strongMoveCost kc ad su_lines su_length su_perNote su_above su_numbers su_given) r) args s 0 0 A) (F0 m 6 ls []))) (hm : m_Rules_strongMoveCost_6b F su_lines su_perNote su_numbers su_given k6 x1 x2 x3 x4 x5 = some r) (hZ : St D A s (wd_Rules_strongMoveCost kc ad su_lines su_length su_perNote su_above su_numbers su_given) H locs) (hl : lv_has ls 6 [(0, .ref (ad 8)), (1, .int x1), (2, .int x2), (3, .int x3), (4, .int x4), (5, .int x5)]) : W p l e rm_Rules_strongMoveCost s m args below meth c H locs 0 0 (MQ below (Qi D A (wd_Rules_strongMoveCost kc ad su_lines su_length su_perNote su_above su_numbers su_given) r) args s 0 0 A) (F0 m 6 ls []) := by
  obtain ⟨hx, hb, hr, hts, hown, hml, hlocks, hK, hN, hA, hX⟩ := id C
  obtain ⟨hP, hD, hS⟩ := hZ
  unfold m_Rules_strongMoveCost_6b at hm
  refine lv_iload hx hb d_Rules_strongMoveCost_6 (lv_at hl 5 rfl) ?_
  refine lv_aload_n hx hb d_Rules_strongMoveCost_8 rfl (lv_at hl 0 rfl) ?_
  refine va_get (D := D) (ci := 5) (v := .ref (ad 1)) (C := R_Rules) (T := T_Rules) (N := 1) hx hb hts inG_Rules hown hK hP 6 rfl rfl 0 (by decide) (hts _ gw_207) (fun _ h9 => h9) rfl d_Rules_strongMoveCost_9 ?_
  refine va_getN (D := D) (ci := 7) (v := .int su_lines) (C := R_Setup) (T := T_Setup) (N := 7) hx hb hts inG_Setup hown hK hP 0 rfl rfl 3 (by decide) (va_Nw.use rfl (hN _ nw_173)) (fun _ h9 => h9) rfl d_Rules_strongMoveCost_12 ?_
  refine lv_icmp_ge (tgt := 51) hx hb d_Rules_strongMoveCost_15 (by decide) (fun c1 => ?_) (fun c1 => ?_)
  · replace hm := ifT hm c1
    refine lv_iload hx hb d_Rules_strongMoveCost_51 (lv_at hl 4 rfl) ?_
    replace hm := Option.some.inj hm; subst hm
    exact zret_i C hP hD hS d_Rules_strongMoveCost_53
  · replace hm := ifF hm c1
    refine lv_aload_n hx hb d_Rules_strongMoveCost_18 rfl (lv_at hl 0 rfl) ?_
    refine lv_iload hx hb d_Rules_strongMoveCost_19 (lv_at hl 5 rfl) ?_
    refine lv_iload_n hx hb d_Rules_strongMoveCost_21 rfl (lv_at hl 1 rfl) ?_
    refine lv_iload_n hx hb d_Rules_strongMoveCost_22 rfl (lv_at hl 2 rfl) ?_
    refine lv_iload_n hx hb d_Rules_strongMoveCost_23 rfl (lv_at hl 3 rfl) ?_
    obtain ⟨u2, hc3, hm⟩ := bd_some hm
    refine zV_i (n := 4) (wr := [((ad 2), .inl (kc 0, 18, .inl su_numbers))]) (w1 := (wd_Rules_isAlike kc ad su_lines su_length su_perNote su_above su_given)) (ws1 := (wd_Rules_strongMoveCost kc ad su_lines su_length su_perNote su_above su_numbers su_given)) (As := [.int x5, .int x1, .int x2, .int x3]) (rest := []) (ci := 5) (q0 := 5) (y := y_Rules_isAlike) ⟨hx, hb, hml, hown, hts⟩ (fun sz => c_Rules_isAlike hc3 sz) gw_595 gw_592 gw_594 gw_34 gw_114 hd_Rules_isAlike ⟨Nat.le_of_ble_eq_true rfl, Nat.le_of_ble_eq_true rfl⟩ ⟨rfl, rfl⟩ ⟨Nat.zero_le _, Nat.zero_le _⟩ hK hN hP hD hS hA hX [0, 2, 3, 4, 5, 6] [1] [1, 0, 2, 3, 4, 5, 6] rfl rfl (by decide) (by decide) (by decide) rfl (by decide) rfl rfl rfl hl.1 rfl (Nat.le_of_ble_eq_true rfl) d_Rules_strongMoveCost_24 (fun H locs hP hD hS => ?_)
    refine lv_if_eq (tgt := 45) hx hb d_Rules_strongMoveCost_27 (by decide) (fun c4 => ?_) (fun c4 => ?_)
    · replace hm := ifT hm c4
      exact l_Rules_strongMoveCost_45 C hk6 hm ⟨hP, hD, hS⟩ (lv_sub hl [0, 1, 2, 3, 4, 5] rfl)
    · replace hm := ifF hm c4
      refine lv_iload hx hb d_Rules_strongMoveCost_30 (lv_at hl 4 rfl) ?_
      refine lv_aload_n hx hb d_Rules_strongMoveCost_32 rfl (lv_at hl 0 rfl) ?_
      refine va_get (D := D) (ci := 5) (v := .ref (ad 1)) (C := R_Rules) (T := T_Rules) (N := 1) hx hb hts inG_Rules hown hK hP 6 rfl rfl 0 (by decide) (hts _ gw_207) (fun _ h9 => h9) rfl d_Rules_strongMoveCost_33 ?_
      refine va_getN (D := D) (ci := 7) (v := .ref (ad 2)) (C := R_Setup) (T := T_Setup) (N := 7) hx hb hts inG_Setup hown hK hP 0 rfl rfl 0 (by decide) (va_Nw.use rfl (hN _ nw_158)) (fun _ h9 => h9) rfl d_Rules_strongMoveCost_36 ?_
      refine lv_bipush (v := 15) hx hb d_Rules_strongMoveCost_39 (by decide) ?_
      refine va_iald hx hb hK hP 1 0 rfl rfl (in_lit (by decide)) d_Rules_strongMoveCost_41 ?_
      refine lv_iadd hx hb d_Rules_strongMoveCost_42 ?_
      refine lv_istore (lv' := [(4, .int (x4 + (su_numbers (Int32.toNatClampNeg (15 : Int32))))), (0, .ref (ad 8)), (1, .int x1), (2, .int x2), (3, .int x3), (5, .int x5)]) hx hb d_Rules_strongMoveCost_43 hl (by decide) rfl (fun ls hl => ?_)
      exact l_Rules_strongMoveCost_45 C hk6 hm ⟨hP, hD, hS⟩ (lv_sub hl [1, 2, 3, 4, 0, 5] rfl)
def m_Rules_strongMoveCost_6 (F : Nat) (su_lines : Int32) (su_perNote : Int32) (su_numbers : Nat → Int32) (su_given : Nat → Nat → Int32)  : Nat → Int32 → Int32 → Int32 → Int32 → Int32 → Option (Int32)
  | 0 => fun _ _ _ _ _ => none
  | n + 1 => m_Rules_strongMoveCost_6b F su_lines su_perNote su_numbers su_given  (m_Rules_strongMoveCost_6 F su_lines su_perNote su_numbers su_given  n)
set_option maxHeartbeats 4000000 in
set_option maxRecDepth 100000 in
theorem lp_Rules_strongMoveCost_6 {r : Int32} {F : Nat} {ad : Nat → Nat} {su_lines : Int32} {su_length : Int32} {su_perNote : Int32} {su_above : Int32} {su_numbers : Nat → Int32} {su_given : Nat → Nat → Int32}  (C : Cx p s m meth c args A D kc R_Rules b_Rules_strongMoveCost 6 (some .int))  : ∀ (n : Nat)  (x1 : Int32) (x2 : Int32) (x3 : Int32) (x4 : Int32) (x5 : Int32) (H : Heap) (locs : List Loc) (ls : Array Slot), m_Rules_strongMoveCost_6 F su_lines su_perNote su_numbers su_given  n x1 x2 x3 x4 x5 = some r → St D A s (wd_Rules_strongMoveCost kc ad su_lines su_length su_perNote su_above su_numbers su_given) H locs → lv_has ls 6 [(0, .ref (ad 8)), (1, .int x1), (2, .int x2), (3, .int x3), (4, .int x4), (5, .int x5)] → W p l e rm_Rules_strongMoveCost s m args below meth c H locs 0 0 (MQ below (Qi D A (wd_Rules_strongMoveCost kc ad su_lines su_length su_perNote su_above su_numbers su_given) r) args s 0 0 A) (F0 m 6 ls []) := by
  intro n
  induction n with
  | zero => intro x1 x2 x3 x4 x5 H locs ls hm; cases hm
  | succ n ih => intro x1 x2 x3 x4 x5 H locs ls hm hZ hl; exact l_Rules_strongMoveCost_6 C  ih hm hZ hl
def m_Rules_strongMoveCost (F : Nat) (su_lines : Int32) (su_perNote : Int32) (su_numbers : Nat → Int32) (su_given : Nat → Nat → Int32)  (a1 : Int32) (a2 : Int32) (a3 : Int32) : Option (Int32) :=
  m_Rules_strongMoveCost_6 F su_lines su_perNote su_numbers su_given  F a1 a2 a3 (0 : Int32) (0 : Int32)
set_option maxHeartbeats 4000000 in
set_option maxRecDepth 100000 in
theorem e_Rules_strongMoveCost {r : Int32} {F : Nat} {ad : Nat → Nat} {su_lines : Int32} {su_length : Int32} {su_perNote : Int32} {su_above : Int32} {su_numbers : Nat → Int32} {su_given : Nat → Nat → Int32} {a1 : Int32} {a2 : Int32} {a3 : Int32} {H : Heap} {locs : List Loc} {ls : Array Slot} (C : Cx p s m meth c args A D kc R_Rules b_Rules_strongMoveCost 6 (some .int)) (hm : m_Rules_strongMoveCost F su_lines su_perNote su_numbers su_given a1 a2 a3 = some r) (hZ : St D A s (wd_Rules_strongMoveCost kc ad su_lines su_length su_perNote su_above su_numbers su_given) H locs) (hl : lv_has ls 6 [(0, .ref (ad 8)), (1, .int a1), (2, .int a2), (3, .int a3)]) : W p l e rm_Rules_strongMoveCost s m args below meth c H locs 0 0 (MQ below (Qi D A (wd_Rules_strongMoveCost kc ad su_lines su_length su_perNote su_above su_numbers su_given) r) args s 0 0 A) (F0 m 0 ls []) := by
  obtain ⟨hx, hb, hr, hts, hown, hml, hlocks, hK, hN, hA, hX⟩ := id C
  obtain ⟨hP, hD, hS⟩ := hZ
  unfold m_Rules_strongMoveCost at hm
  refine lv_iconst (v := 0) hx hb d_Rules_strongMoveCost_0 (by decide) ?_
  refine lv_istore (lv' := [(4, .int (0 : Int32)), (0, .ref (ad 8)), (1, .int a1), (2, .int a2), (3, .int a3)]) hx hb d_Rules_strongMoveCost_1 hl (by decide) rfl (fun ls hl => ?_)
  refine lv_iconst (v := 0) hx hb d_Rules_strongMoveCost_3 (by decide) ?_
  refine lv_istore (lv' := [(5, .int (0 : Int32)), (4, .int (0 : Int32)), (0, .ref (ad 8)), (1, .int a1), (2, .int a2), (3, .int a3)]) hx hb d_Rules_strongMoveCost_4 hl (by decide) rfl (fun ls hl => ?_)
  exact lp_Rules_strongMoveCost_6 C  F a1 a2 a3 (0 : Int32) (0 : Int32) _ _ _ hm ⟨hP, hD, hS⟩ (lv_sub hl [2, 3, 4, 5, 1, 0] rfl)
set_option maxHeartbeats 4000000 in
set_option maxRecDepth 100000 in
theorem c_Rules_strongMoveCost {l : Launch} {D : va_G} {kc : Nat → ClassId} {r : Int32} {F : Nat} {ad : Nat → Nat} {su_lines : Int32} {su_length : Int32} {su_perNote : Int32} {su_above : Int32} {su_numbers : Nat → Int32} {su_given : Nat → Nat → Int32} {a1 : Int32} {a2 : Int32} {a3 : Int32} (hm : m_Rules_strongMoveCost F su_lines su_perNote su_numbers su_given a1 a2 a3 = some r) (sz : Nat) : Ci l y_Rules_strongMoveCost ws_Rules_strongMoveCost rm_Rules_strongMoveCost D kc sz [.ref (ad 8), .int a1, .int a2, .int a3] (wd_Rules_strongMoveCost kc ad su_lines su_length su_perNote su_above su_numbers su_given) (wd_Rules_strongMoveCost kc ad su_lines su_length su_perNote su_above su_numbers su_given) r :=
  Cz_of (Qf := fun A => (Qi D A (wd_Rules_strongMoveCost kc ad su_lines su_length su_perNote su_above su_numbers su_given) r)) (cc := b_Rules_strongMoveCost) (maxL := 6) (ret := (some .int)) (by decide) rfl rfl (fun C hZ hl => e_Rules_strongMoveCost C hm hZ hl)
end
