section
variable {p : Program} {l : Launch} {e : Env} {s : State} {m : MethodId} {args : Array Value} {below : List Frame} {meth : Method} {c : Code} {D : va_G} {kc : Nat → ClassId} {A : Nat → Prop}
abbrev b_Prices_fillStrongMoves : ByteArray := prog_4_method_7_code
abbrev y_Prices_fillStrongMoves : MethodName := ⟨"SpeciesSolver$Prices", "fillStrongMoves", "()V"⟩
theorem d_Prices_fillStrongMoves_0 : decode b_Prices_fillStrongMoves 0 = .ok (.iconst 1, 1) := by decide +kernel
theorem d_Prices_fillStrongMoves_1 : decode b_Prices_fillStrongMoves 1 = .ok (.istore_n 1, 1) := by decide +kernel
theorem d_Prices_fillStrongMoves_2 : decode b_Prices_fillStrongMoves 2 = .ok (.iload_n 1, 1) := by decide +kernel
theorem d_Prices_fillStrongMoves_3 : decode b_Prices_fillStrongMoves 3 = .ok (.aload_n 0, 1) := by decide +kernel
theorem d_Prices_fillStrongMoves_4 : decode b_Prices_fillStrongMoves 4 = .ok (.getfield 53, 3) := by decide +kernel
theorem d_Prices_fillStrongMoves_7 : decode b_Prices_fillStrongMoves 7 = .ok (.getfield 133, 3) := by decide +kernel
theorem d_Prices_fillStrongMoves_10 : decode b_Prices_fillStrongMoves 10 = .ok (.if_icmp .ge 117, 3) := by decide +kernel
theorem d_Prices_fillStrongMoves_13 : decode b_Prices_fillStrongMoves 13 = .ok (.iload_n 1, 1) := by decide +kernel
theorem d_Prices_fillStrongMoves_14 : decode b_Prices_fillStrongMoves 14 = .ok (.aload_n 0, 1) := by decide +kernel
theorem d_Prices_fillStrongMoves_15 : decode b_Prices_fillStrongMoves 15 = .ok (.getfield 47, 3) := by decide +kernel
theorem d_Prices_fillStrongMoves_18 : decode b_Prices_fillStrongMoves 18 = .ok (.imul, 1) := by decide +kernel
theorem d_Prices_fillStrongMoves_19 : decode b_Prices_fillStrongMoves 19 = .ok (.istore_n 2, 1) := by decide +kernel
theorem d_Prices_fillStrongMoves_20 : decode b_Prices_fillStrongMoves 20 = .ok (.iconst 0, 1) := by decide +kernel
theorem d_Prices_fillStrongMoves_21 : decode b_Prices_fillStrongMoves 21 = .ok (.istore_n 3, 1) := by decide +kernel
theorem d_Prices_fillStrongMoves_22 : decode b_Prices_fillStrongMoves 22 = .ok (.iload_n 3, 1) := by decide +kernel
theorem d_Prices_fillStrongMoves_23 : decode b_Prices_fillStrongMoves 23 = .ok (.aload_n 0, 1) := by decide +kernel
theorem d_Prices_fillStrongMoves_24 : decode b_Prices_fillStrongMoves 24 = .ok (.getfield 40, 3) := by decide +kernel
theorem d_Prices_fillStrongMoves_27 : decode b_Prices_fillStrongMoves 27 = .ok (.if_icmp .ge 94, 3) := by decide +kernel
theorem d_Prices_fillStrongMoves_30 : decode b_Prices_fillStrongMoves 30 = .ok (.iconst 0, 1) := by decide +kernel
theorem d_Prices_fillStrongMoves_31 : decode b_Prices_fillStrongMoves 31 = .ok (.istore 4, 2) := by decide +kernel
theorem d_Prices_fillStrongMoves_33 : decode b_Prices_fillStrongMoves 33 = .ok (.iload 4, 2) := by decide +kernel
theorem d_Prices_fillStrongMoves_35 : decode b_Prices_fillStrongMoves 35 = .ok (.aload_n 0, 1) := by decide +kernel
theorem d_Prices_fillStrongMoves_36 : decode b_Prices_fillStrongMoves 36 = .ok (.getfield 40, 3) := by decide +kernel
theorem d_Prices_fillStrongMoves_39 : decode b_Prices_fillStrongMoves 39 = .ok (.if_icmp .ge 76, 3) := by decide +kernel
theorem d_Prices_fillStrongMoves_42 : decode b_Prices_fillStrongMoves 42 = .ok (.aload_n 0, 1) := by decide +kernel
theorem d_Prices_fillStrongMoves_43 : decode b_Prices_fillStrongMoves 43 = .ok (.iload_n 2, 1) := by decide +kernel
theorem d_Prices_fillStrongMoves_44 : decode b_Prices_fillStrongMoves 44 = .ok (.aload_n 0, 1) := by decide +kernel
theorem d_Prices_fillStrongMoves_45 : decode b_Prices_fillStrongMoves 45 = .ok (.getfield 11, 3) := by decide +kernel
theorem d_Prices_fillStrongMoves_48 : decode b_Prices_fillStrongMoves 48 = .ok (.iload_n 3, 1) := by decide +kernel
theorem d_Prices_fillStrongMoves_49 : decode b_Prices_fillStrongMoves 49 = .ok (.iaload, 1) := by decide +kernel
theorem d_Prices_fillStrongMoves_50 : decode b_Prices_fillStrongMoves 50 = .ok (.aload_n 0, 1) := by decide +kernel
theorem d_Prices_fillStrongMoves_51 : decode b_Prices_fillStrongMoves 51 = .ok (.getfield 11, 3) := by decide +kernel
theorem d_Prices_fillStrongMoves_54 : decode b_Prices_fillStrongMoves 54 = .ok (.iload 4, 2) := by decide +kernel
theorem d_Prices_fillStrongMoves_56 : decode b_Prices_fillStrongMoves 56 = .ok (.iaload, 1) := by decide +kernel
theorem d_Prices_fillStrongMoves_57 : decode b_Prices_fillStrongMoves 57 = .ok (.invokevirtual 136, 3) := by decide +kernel
theorem d_Prices_fillStrongMoves_60 : decode b_Prices_fillStrongMoves 60 = .ok (.istore 5, 2) := by decide +kernel
theorem d_Prices_fillStrongMoves_62 : decode b_Prices_fillStrongMoves 62 = .ok (.aload_n 0, 1) := by decide +kernel
theorem d_Prices_fillStrongMoves_63 : decode b_Prices_fillStrongMoves 63 = .ok (.getfield 37, 3) := by decide +kernel
theorem d_Prices_fillStrongMoves_66 : decode b_Prices_fillStrongMoves 66 = .ok (.iload_n 1, 1) := by decide +kernel
theorem d_Prices_fillStrongMoves_67 : decode b_Prices_fillStrongMoves 67 = .ok (.bipush 8, 2) := by decide +kernel
theorem d_Prices_fillStrongMoves_69 : decode b_Prices_fillStrongMoves 69 = .ok (.imul, 1) := by decide +kernel
theorem d_Prices_fillStrongMoves_70 : decode b_Prices_fillStrongMoves 70 = .ok (.iload_n 3, 1) := by decide +kernel
theorem d_Prices_fillStrongMoves_71 : decode b_Prices_fillStrongMoves 71 = .ok (.iadd, 1) := by decide +kernel
theorem d_Prices_fillStrongMoves_72 : decode b_Prices_fillStrongMoves 72 = .ok (.bipush 8, 2) := by decide +kernel
theorem d_Prices_fillStrongMoves_74 : decode b_Prices_fillStrongMoves 74 = .ok (.imul, 1) := by decide +kernel
theorem d_Prices_fillStrongMoves_75 : decode b_Prices_fillStrongMoves 75 = .ok (.iload 4, 2) := by decide +kernel
theorem d_Prices_fillStrongMoves_77 : decode b_Prices_fillStrongMoves 77 = .ok (.iadd, 1) := by decide +kernel
theorem d_Prices_fillStrongMoves_78 : decode b_Prices_fillStrongMoves 78 = .ok (.iload 5, 2) := by decide +kernel
theorem d_Prices_fillStrongMoves_80 : decode b_Prices_fillStrongMoves 80 = .ok (.ifCond .eq 7, 3) := by decide +kernel
theorem d_Prices_fillStrongMoves_83 : decode b_Prices_fillStrongMoves 83 = .ok (.iconst (-1), 1) := by decide +kernel
theorem d_Prices_fillStrongMoves_84 : decode b_Prices_fillStrongMoves 84 = .ok (.goto 24, 3) := by decide +kernel
theorem d_Prices_fillStrongMoves_87 : decode b_Prices_fillStrongMoves 87 = .ok (.aload_n 0, 1) := by decide +kernel
theorem d_Prices_fillStrongMoves_88 : decode b_Prices_fillStrongMoves 88 = .ok (.getfield 57, 3) := by decide +kernel
theorem d_Prices_fillStrongMoves_91 : decode b_Prices_fillStrongMoves 91 = .ok (.iload_n 2, 1) := by decide +kernel
theorem d_Prices_fillStrongMoves_92 : decode b_Prices_fillStrongMoves 92 = .ok (.aload_n 0, 1) := by decide +kernel
theorem d_Prices_fillStrongMoves_93 : decode b_Prices_fillStrongMoves 93 = .ok (.getfield 11, 3) := by decide +kernel
theorem d_Prices_fillStrongMoves_96 : decode b_Prices_fillStrongMoves 96 = .ok (.iload_n 3, 1) := by decide +kernel
theorem d_Prices_fillStrongMoves_97 : decode b_Prices_fillStrongMoves 97 = .ok (.iaload, 1) := by decide +kernel
theorem d_Prices_fillStrongMoves_98 : decode b_Prices_fillStrongMoves 98 = .ok (.aload_n 0, 1) := by decide +kernel
theorem d_Prices_fillStrongMoves_99 : decode b_Prices_fillStrongMoves 99 = .ok (.getfield 11, 3) := by decide +kernel
theorem d_Prices_fillStrongMoves_102 : decode b_Prices_fillStrongMoves 102 = .ok (.iload 4, 2) := by decide +kernel
theorem d_Prices_fillStrongMoves_104 : decode b_Prices_fillStrongMoves 104 = .ok (.iaload, 1) := by decide +kernel
theorem d_Prices_fillStrongMoves_105 : decode b_Prices_fillStrongMoves 105 = .ok (.invokevirtual 139, 3) := by decide +kernel
theorem d_Prices_fillStrongMoves_108 : decode b_Prices_fillStrongMoves 108 = .ok (.iastore, 1) := by decide +kernel
theorem d_Prices_fillStrongMoves_109 : decode b_Prices_fillStrongMoves 109 = .ok (.iinc 4 1, 3) := by decide +kernel
theorem d_Prices_fillStrongMoves_112 : decode b_Prices_fillStrongMoves 112 = .ok (.goto (-79), 3) := by decide +kernel
theorem d_Prices_fillStrongMoves_115 : decode b_Prices_fillStrongMoves 115 = .ok (.iinc 3 1, 3) := by decide +kernel
theorem d_Prices_fillStrongMoves_118 : decode b_Prices_fillStrongMoves 118 = .ok (.goto (-96), 3) := by decide +kernel
theorem d_Prices_fillStrongMoves_121 : decode b_Prices_fillStrongMoves 121 = .ok (.iinc 1 1, 3) := by decide +kernel
theorem d_Prices_fillStrongMoves_124 : decode b_Prices_fillStrongMoves 124 = .ok (.goto (-122), 3) := by decide +kernel
theorem d_Prices_fillStrongMoves_127 : decode b_Prices_fillStrongMoves 127 = .ok (.return_, 1) := by decide +kernel
abbrev wd_Prices_fillStrongMoves (kc : Nat → ClassId) (ad : Nat → Nat) (su_lines : Int32) (su_length : Int32) (su_perNote : Int32) (su_above : Int32) (su_numbers : Nat → Int32) (su_on : Nat → Int32) (su_given : Nat → Nat → Int32) (pr_size : Int32) (pr_total : Int32) (pr_perNote : Int32) (pr_mostAlike : Int32) (pr_pitches : Nat → Int32) (pr_strongPrices : Nat → Int32) : va_W := [((ad 1), .inr (7, [.ref (ad 2), .ref (ad 3), .ref (ad 4), .int su_lines, .int su_length, .int su_perNote, .int su_above])), ((ad 2), .inl (kc 0, 18, .inl su_numbers)), ((ad 3), .inl (kc 1, 11, .inl su_on)), ((ad 4), .inl (kc 3, 3, .inr (.inr (.inr (.inr (fun i => if i < 3 then some (ad (5 + i)) else none)))))), ((ad 5), .inl (kc 0, 12, .inl (su_given 0))), ((ad 6), .inl (kc 0, 12, .inl (su_given 1))), ((ad 7), .inl (kc 0, 12, .inl (su_given 2))), ((ad 8), .inr (5, [.ref (ad 1)])), ((ad 13), .inr (4, [.ref (ad 1), .ref (ad 8), .ref (ad 14), .ref (ad 15), .ref (ad 16), .ref (ad 17), .ref (ad 18), .ref (ad 19), .ref (ad 20), .ref (ad 21), .ref (ad 22), .int pr_size, .int pr_total, .int pr_perNote, .int pr_mostAlike])), ((ad 14), .inl (kc 0, 8, .inl pr_pitches)), ((ad 22), .inl (kc 0, 768, .inl pr_strongPrices))]
abbrev rm_Prices_fillStrongMoves : Room := { frames := 3, cells := 0, slots := 0, locals := 76 }
abbrev cw_Prices_fillStrongMoves : Cond := .code y_Prices_fillStrongMoves b_Prices_fillStrongMoves 6 none
abbrev ws_Prices_fillStrongMoves : List Cond := cw_Prices_fillStrongMoves :: GW
theorem hd_Prices_fillStrongMoves : y_Prices_fillStrongMoves.cls ≠ "java/lang/invoke/MethodHandle" ∧ y_Prices_fillStrongMoves.cls ≠ "java/lang/invoke/VarHandle" ∧ (parseMethodDescriptor y_Prices_fillStrongMoves.desc).map (fun d => d.parameters.length) = some 0 := by decide +kernel
def m_Prices_fillStrongMoves_108 (F : Nat) (su_lines : Int32) (su_length : Int32) (su_perNote : Int32) (su_numbers : Nat → Int32) (su_on : Nat → Int32) (su_given : Nat → Nat → Int32) (pr_size : Int32) (pr_perNote : Int32) (pr_pitches : Nat → Int32) (k2 : (Nat → Int32) → Int32 → Option ((Nat → Int32))) (k22 : (Nat → Int32) → Int32 → Int32 → Int32 → Option ((Nat → Int32))) (k33 : (Nat → Int32) → Int32 → Int32 → Int32 → Int32 → Option ((Nat → Int32))) (pr_strongPrices : Nat → Int32) (x1 : Int32) (x2 : Int32) (x3 : Int32) (x4 : Int32) (t1 : Int32) (t2 : Int32) : Option ((Nat → Int32)) :=
  (gd t1 768 (k33 (upd pr_strongPrices (Int32.toNatClampNeg t1) t2) x1 x2 x3 (x4 + 1)))
set_option maxHeartbeats 4000000 in
set_option maxRecDepth 100000 in
theorem l_Prices_fillStrongMoves_108 {r : (Nat → Int32)} {F : Nat} {ad : Nat → Nat} {su_lines : Int32} {su_length : Int32} {su_perNote : Int32} {su_above : Int32} {su_numbers : Nat → Int32} {su_on : Nat → Int32} {su_given : Nat → Nat → Int32} {pr_size : Int32} {pr_total : Int32} {pr_perNote : Int32} {pr_mostAlike : Int32} {pr_pitches : Nat → Int32} {pr_strongPrices : Nat → Int32} {k2 : (Nat → Int32) → Int32 → Option ((Nat → Int32))} {k22 : (Nat → Int32) → Int32 → Int32 → Int32 → Option ((Nat → Int32))} {k33 : (Nat → Int32) → Int32 → Int32 → Int32 → Int32 → Option ((Nat → Int32))} {x1 : Int32} {x2 : Int32} {x3 : Int32} {x4 : Int32} {t1 : Int32} {t2 : Int32} {H : Heap} {locs : List Loc} {ls : Array Slot} (C : Cx p s m meth c args A D kc R_Prices b_Prices_fillStrongMoves 6 none) (hk2 : (∀ (pr_strongPrices : Nat → Int32) (x1 : Int32) (H : Heap) (locs : List Loc) (ls : Array Slot), k2 pr_strongPrices x1 = some r → St D A s (wd_Prices_fillStrongMoves kc ad su_lines su_length su_perNote su_above su_numbers su_on su_given pr_size pr_total pr_perNote pr_mostAlike pr_pitches pr_strongPrices) H locs → lv_has ls 6 [(0, .ref (ad 13)), (1, .int x1)] → W p l e rm_Prices_fillStrongMoves s m args below meth c H locs 0 0 (MQ below (Qv D A (wd_Prices_fillStrongMoves kc ad su_lines su_length su_perNote su_above su_numbers su_on su_given pr_size pr_total pr_perNote pr_mostAlike pr_pitches r)) args s 0 0 A) (F0 m 2 ls []))) (hk22 : (∀ (pr_strongPrices : Nat → Int32) (x1 : Int32) (x2 : Int32) (x3 : Int32) (H : Heap) (locs : List Loc) (ls : Array Slot), k22 pr_strongPrices x1 x2 x3 = some r → St D A s (wd_Prices_fillStrongMoves kc ad su_lines su_length su_perNote su_above su_numbers su_on su_given pr_size pr_total pr_perNote pr_mostAlike pr_pitches pr_strongPrices) H locs → lv_has ls 6 [(0, .ref (ad 13)), (1, .int x1), (2, .int x2), (3, .int x3)] → W p l e rm_Prices_fillStrongMoves s m args below meth c H locs 0 0 (MQ below (Qv D A (wd_Prices_fillStrongMoves kc ad su_lines su_length su_perNote su_above su_numbers su_on su_given pr_size pr_total pr_perNote pr_mostAlike pr_pitches r)) args s 0 0 A) (F0 m 22 ls []))) (hk33 : (∀ (pr_strongPrices : Nat → Int32) (x1 : Int32) (x2 : Int32) (x3 : Int32) (x4 : Int32) (H : Heap) (locs : List Loc) (ls : Array Slot), k33 pr_strongPrices x1 x2 x3 x4 = some r → St D A s (wd_Prices_fillStrongMoves kc ad su_lines su_length su_perNote su_above su_numbers su_on su_given pr_size pr_total pr_perNote pr_mostAlike pr_pitches pr_strongPrices) H locs → lv_has ls 6 [(0, .ref (ad 13)), (1, .int x1), (2, .int x2), (3, .int x3), (4, .int x4)] → W p l e rm_Prices_fillStrongMoves s m args below meth c H locs 0 0 (MQ below (Qv D A (wd_Prices_fillStrongMoves kc ad su_lines su_length su_perNote su_above su_numbers su_on su_given pr_size pr_total pr_perNote pr_mostAlike pr_pitches r)) args s 0 0 A) (F0 m 33 ls []))) (hm : m_Prices_fillStrongMoves_108 F su_lines su_length su_perNote su_numbers su_on su_given pr_size pr_perNote pr_pitches k2 k22 k33 pr_strongPrices x1 x2 x3 x4 t1 t2 = some r) (hZ : St D A s (wd_Prices_fillStrongMoves kc ad su_lines su_length su_perNote su_above su_numbers su_on su_given pr_size pr_total pr_perNote pr_mostAlike pr_pitches pr_strongPrices) H locs) (hl : lv_has ls 6 [(0, .ref (ad 13)), (1, .int x1), (2, .int x2), (3, .int x3), (4, .int x4)]) : W p l e rm_Prices_fillStrongMoves s m args below meth c H locs 0 0 (MQ below (Qv D A (wd_Prices_fillStrongMoves kc ad su_lines su_length su_perNote su_above su_numbers su_on su_given pr_size pr_total pr_perNote pr_mostAlike pr_pitches r)) args s 0 0 A) (F0 m 108 ls [.int t2, .int t1, .ref (ad 22)]) := by
  obtain ⟨hx, hb, hr, hts, hown, hml, hlocks, hK, hN, hA, hX⟩ := id C
  obtain ⟨hP, hD, hS⟩ := hZ
  unfold m_Prices_fillStrongMoves_108 at hm
  obtain ⟨hi1, hm⟩ := gd_some hm
  refine va_iast hx hb hK hP hD hS 10 0 rfl rfl hi1 d_Prices_fillStrongMoves_108 (fun H locs hP hD hS => ?_)
  replace hP : va_P D vwCl (wd_Prices_fillStrongMoves kc ad su_lines su_length su_perNote su_above su_numbers su_on su_given pr_size pr_total pr_perNote pr_mostAlike pr_pitches (upd pr_strongPrices (Int32.toNatClampNeg t1) t2)) H := hP
  replace hD : va_D A (wd_Prices_fillStrongMoves kc ad su_lines su_length su_perNote su_above su_numbers su_on su_given pr_size pr_total pr_perNote pr_mostAlike pr_pitches (upd pr_strongPrices (Int32.toNatClampNeg t1) t2)) := hD
  refine lv_iinc (v := (x4 + 1)) (lv' := [(4, .int (x4 + 1)), (0, .ref (ad 13)), (1, .int x1), (2, .int x2), (3, .int x3)]) hx hb d_Prices_fillStrongMoves_109 hl (k := 4) rfl rfl (by decide) rfl (fun ls hl => ?_)
  refine lv_goto (tgt := 33) hx hb d_Prices_fillStrongMoves_112 (by decide) ?_
  exact hk33 (upd pr_strongPrices (Int32.toNatClampNeg t1) t2) x1 x2 x3 (x4 + 1) _ _ _ hm ⟨hP, hD, hS⟩ (lv_sub hl [1, 2, 3, 4, 0] rfl)
def m_Prices_fillStrongMoves_33b (F : Nat) (su_lines : Int32) (su_length : Int32) (su_perNote : Int32) (su_numbers : Nat → Int32) (su_on : Nat → Int32) (su_given : Nat → Nat → Int32) (pr_size : Int32) (pr_perNote : Int32) (pr_pitches : Nat → Int32) (k2 : (Nat → Int32) → Int32 → Option ((Nat → Int32))) (k22 : (Nat → Int32) → Int32 → Int32 → Int32 → Option ((Nat → Int32))) (k33 : (Nat → Int32) → Int32 → Int32 → Int32 → Int32 → Option ((Nat → Int32))) (pr_strongPrices : Nat → Int32) (x1 : Int32) (x2 : Int32) (x3 : Int32) (x4 : Int32) : Option ((Nat → Int32)) :=
  (if pr_size ≤ x4 then
    k22 pr_strongPrices x1 x2 (x3 + 1)
  else
    (gd x3 8 (gd x4 8 (bd (m_Prices_isBadStrongMove F su_lines su_perNote su_numbers su_on su_given x2 (pr_pitches (Int32.toNatClampNeg x3)) (pr_pitches (Int32.toNatClampNeg x4))) (fun u4 => (if u4 = (0 : Int32) then
      (gd x3 8 (gd x4 8 (bd (m_Rules_strongMoveCost F su_lines su_perNote su_numbers su_given x2 (pr_pitches (Int32.toNatClampNeg x3)) (pr_pitches (Int32.toNatClampNeg x4))) (fun u9 => m_Prices_fillStrongMoves_108 F su_lines su_length su_perNote su_numbers su_on su_given pr_size pr_perNote pr_pitches k2 k22 k33 pr_strongPrices x1 x2 x3 x4 ((((x1 * (8 : Int32)) + x3) * (8 : Int32)) + x4) u9))))
    else
      m_Prices_fillStrongMoves_108 F su_lines su_length su_perNote su_numbers su_on su_given pr_size pr_perNote pr_pitches k2 k22 k33 pr_strongPrices x1 x2 x3 x4 ((((x1 * (8 : Int32)) + x3) * (8 : Int32)) + x4) (-1 : Int32)))))))
set_option maxHeartbeats 4000000 in
set_option maxRecDepth 100000 in
theorem l_Prices_fillStrongMoves_33 {r : (Nat → Int32)} {F : Nat} {ad : Nat → Nat} {su_lines : Int32} {su_length : Int32} {su_perNote : Int32} {su_above : Int32} {su_numbers : Nat → Int32} {su_on : Nat → Int32} {su_given : Nat → Nat → Int32} {pr_size : Int32} {pr_total : Int32} {pr_perNote : Int32} {pr_mostAlike : Int32} {pr_pitches : Nat → Int32} {pr_strongPrices : Nat → Int32} {k2 : (Nat → Int32) → Int32 → Option ((Nat → Int32))} {k22 : (Nat → Int32) → Int32 → Int32 → Int32 → Option ((Nat → Int32))} {k33 : (Nat → Int32) → Int32 → Int32 → Int32 → Int32 → Option ((Nat → Int32))} {x1 : Int32} {x2 : Int32} {x3 : Int32} {x4 : Int32} {H : Heap} {locs : List Loc} {ls : Array Slot} (C : Cx p s m meth c args A D kc R_Prices b_Prices_fillStrongMoves 6 none) (hk2 : (∀ (pr_strongPrices : Nat → Int32) (x1 : Int32) (H : Heap) (locs : List Loc) (ls : Array Slot), k2 pr_strongPrices x1 = some r → St D A s (wd_Prices_fillStrongMoves kc ad su_lines su_length su_perNote su_above su_numbers su_on su_given pr_size pr_total pr_perNote pr_mostAlike pr_pitches pr_strongPrices) H locs → lv_has ls 6 [(0, .ref (ad 13)), (1, .int x1)] → W p l e rm_Prices_fillStrongMoves s m args below meth c H locs 0 0 (MQ below (Qv D A (wd_Prices_fillStrongMoves kc ad su_lines su_length su_perNote su_above su_numbers su_on su_given pr_size pr_total pr_perNote pr_mostAlike pr_pitches r)) args s 0 0 A) (F0 m 2 ls []))) (hk22 : (∀ (pr_strongPrices : Nat → Int32) (x1 : Int32) (x2 : Int32) (x3 : Int32) (H : Heap) (locs : List Loc) (ls : Array Slot), k22 pr_strongPrices x1 x2 x3 = some r → St D A s (wd_Prices_fillStrongMoves kc ad su_lines su_length su_perNote su_above su_numbers su_on su_given pr_size pr_total pr_perNote pr_mostAlike pr_pitches pr_strongPrices) H locs → lv_has ls 6 [(0, .ref (ad 13)), (1, .int x1), (2, .int x2), (3, .int x3)] → W p l e rm_Prices_fillStrongMoves s m args below meth c H locs 0 0 (MQ below (Qv D A (wd_Prices_fillStrongMoves kc ad su_lines su_length su_perNote su_above su_numbers su_on su_given pr_size pr_total pr_perNote pr_mostAlike pr_pitches r)) args s 0 0 A) (F0 m 22 ls []))) (hk33 : (∀ (pr_strongPrices : Nat → Int32) (x1 : Int32) (x2 : Int32) (x3 : Int32) (x4 : Int32) (H : Heap) (locs : List Loc) (ls : Array Slot), k33 pr_strongPrices x1 x2 x3 x4 = some r → St D A s (wd_Prices_fillStrongMoves kc ad su_lines su_length su_perNote su_above su_numbers su_on su_given pr_size pr_total pr_perNote pr_mostAlike pr_pitches pr_strongPrices) H locs → lv_has ls 6 [(0, .ref (ad 13)), (1, .int x1), (2, .int x2), (3, .int x3), (4, .int x4)] → W p l e rm_Prices_fillStrongMoves s m args below meth c H locs 0 0 (MQ below (Qv D A (wd_Prices_fillStrongMoves kc ad su_lines su_length su_perNote su_above su_numbers su_on su_given pr_size pr_total pr_perNote pr_mostAlike pr_pitches r)) args s 0 0 A) (F0 m 33 ls []))) (hm : m_Prices_fillStrongMoves_33b F su_lines su_length su_perNote su_numbers su_on su_given pr_size pr_perNote pr_pitches k2 k22 k33 pr_strongPrices x1 x2 x3 x4 = some r) (hZ : St D A s (wd_Prices_fillStrongMoves kc ad su_lines su_length su_perNote su_above su_numbers su_on su_given pr_size pr_total pr_perNote pr_mostAlike pr_pitches pr_strongPrices) H locs) (hl : lv_has ls 6 [(0, .ref (ad 13)), (1, .int x1), (2, .int x2), (3, .int x3), (4, .int x4)]) : W p l e rm_Prices_fillStrongMoves s m args below meth c H locs 0 0 (MQ below (Qv D A (wd_Prices_fillStrongMoves kc ad su_lines su_length su_perNote su_above su_numbers su_on su_given pr_size pr_total pr_perNote pr_mostAlike pr_pitches r)) args s 0 0 A) (F0 m 33 ls []) := by
  obtain ⟨hx, hb, hr, hts, hown, hml, hlocks, hK, hN, hA, hX⟩ := id C
  obtain ⟨hP, hD, hS⟩ := hZ
  unfold m_Prices_fillStrongMoves_33b at hm
  refine lv_iload hx hb d_Prices_fillStrongMoves_33 (lv_at hl 4 rfl) ?_
  refine lv_aload_n hx hb d_Prices_fillStrongMoves_35 rfl (lv_at hl 0 rfl) ?_
  refine va_get (D := D) (ci := 4) (v := .int pr_size) (C := R_Prices) (T := T_Prices) (N := 15) hx hb hts inG_Prices hown hK hP 8 rfl rfl 11 (by decide) (hts _ gw_263) (fun _ h9 => h9) rfl d_Prices_fillStrongMoves_36 ?_
  refine lv_icmp_ge (tgt := 115) hx hb d_Prices_fillStrongMoves_39 (by decide) (fun c1 => ?_) (fun c1 => ?_)
  · replace hm := ifT hm c1
    refine lv_iinc (v := (x3 + 1)) (lv' := [(3, .int (x3 + 1)), (0, .ref (ad 13)), (1, .int x1), (2, .int x2), (4, .int x4)]) hx hb d_Prices_fillStrongMoves_115 hl (k := 3) rfl rfl (by decide) rfl (fun ls hl => ?_)
    refine lv_goto (tgt := 22) hx hb d_Prices_fillStrongMoves_118 (by decide) ?_
    exact hk22 pr_strongPrices x1 x2 (x3 + 1) _ _ _ hm ⟨hP, hD, hS⟩ (lv_sub hl [1, 2, 3, 0] rfl)
  · replace hm := ifF hm c1
    refine lv_aload_n hx hb d_Prices_fillStrongMoves_42 rfl (lv_at hl 0 rfl) ?_
    refine lv_iload_n hx hb d_Prices_fillStrongMoves_43 rfl (lv_at hl 2 rfl) ?_
    refine lv_aload_n hx hb d_Prices_fillStrongMoves_44 rfl (lv_at hl 0 rfl) ?_
    refine va_get (D := D) (ci := 4) (v := .ref (ad 14)) (C := R_Prices) (T := T_Prices) (N := 15) hx hb hts inG_Prices hown hK hP 8 rfl rfl 2 (by decide) (hts _ gw_250) (fun _ h9 => h9) rfl d_Prices_fillStrongMoves_45 ?_
    refine lv_iload_n hx hb d_Prices_fillStrongMoves_48 rfl (lv_at hl 3 rfl) ?_
    obtain ⟨hi2, hm⟩ := gd_some hm
    refine va_iald hx hb hK hP 9 0 rfl rfl hi2 d_Prices_fillStrongMoves_49 ?_
    refine lv_aload_n hx hb d_Prices_fillStrongMoves_50 rfl (lv_at hl 0 rfl) ?_
    refine va_get (D := D) (ci := 4) (v := .ref (ad 14)) (C := R_Prices) (T := T_Prices) (N := 15) hx hb hts inG_Prices hown hK hP 8 rfl rfl 2 (by decide) (hts _ gw_250) (fun _ h9 => h9) rfl d_Prices_fillStrongMoves_51 ?_
    refine lv_iload hx hb d_Prices_fillStrongMoves_54 (lv_at hl 4 rfl) ?_
    obtain ⟨hi3, hm⟩ := gd_some hm
    refine va_iald hx hb hK hP 9 0 rfl rfl hi3 d_Prices_fillStrongMoves_56 ?_
    obtain ⟨u4, hc5, hm⟩ := bd_some hm
    refine zV_i (n := 3) (wr := [((ad 14), .inl (kc 0, 8, .inl pr_pitches)), ((ad 22), .inl (kc 0, 768, .inl pr_strongPrices))]) (w1 := (wd_Prices_isBadStrongMove kc ad su_lines su_length su_perNote su_above su_numbers su_on su_given pr_size pr_total pr_perNote pr_mostAlike)) (ws1 := (wd_Prices_fillStrongMoves kc ad su_lines su_length su_perNote su_above su_numbers su_on su_given pr_size pr_total pr_perNote pr_mostAlike pr_pitches pr_strongPrices)) (As := [.int x2, .int (pr_pitches (Int32.toNatClampNeg x3)), .int (pr_pitches (Int32.toNatClampNeg x4))]) (rest := []) (ci := 4) (q0 := 8) (y := y_Prices_isBadStrongMove) ⟨hx, hb, hml, hown, hts⟩ (fun sz => c_Prices_isBadStrongMove hc5 sz) gw_587 gw_584 gw_586 gw_32 gw_116 hd_Prices_isBadStrongMove ⟨Nat.le_of_ble_eq_true rfl, Nat.le_of_ble_eq_true rfl⟩ ⟨rfl, rfl⟩ ⟨Nat.zero_le _, Nat.zero_le _⟩ hK hN hP hD hS hA hX [0, 1, 2, 3, 4, 5, 6, 7, 8] [9, 10] [2, 3, 4, 5, 6, 7, 8, 9, 10, 0, 1] rfl rfl (by decide) (by decide) (by decide) rfl (by decide) rfl rfl rfl hl.1 rfl (Nat.le_of_ble_eq_true rfl) d_Prices_fillStrongMoves_57 (fun H locs hP hD hS => ?_)
    refine lv_istore (lv' := [(5, .int u4), (0, .ref (ad 13)), (1, .int x1), (2, .int x2), (3, .int x3), (4, .int x4)]) hx hb d_Prices_fillStrongMoves_60 hl (by decide) rfl (fun ls hl => ?_)
    refine lv_aload_n hx hb d_Prices_fillStrongMoves_62 rfl (lv_at hl 1 rfl) ?_
    refine va_get (D := D) (ci := 4) (v := .ref (ad 22)) (C := R_Prices) (T := T_Prices) (N := 15) hx hb hts inG_Prices hown hK hP 8 rfl rfl 10 (by decide) (hts _ gw_262) (fun _ h9 => h9) rfl d_Prices_fillStrongMoves_63 ?_
    refine lv_iload_n hx hb d_Prices_fillStrongMoves_66 rfl (lv_at hl 2 rfl) ?_
    refine lv_bipush (v := 8) hx hb d_Prices_fillStrongMoves_67 (by decide) ?_
    refine lv_imul hx hb d_Prices_fillStrongMoves_69 ?_
    refine lv_iload_n hx hb d_Prices_fillStrongMoves_70 rfl (lv_at hl 4 rfl) ?_
    refine lv_iadd hx hb d_Prices_fillStrongMoves_71 ?_
    refine lv_bipush (v := 8) hx hb d_Prices_fillStrongMoves_72 (by decide) ?_
    refine lv_imul hx hb d_Prices_fillStrongMoves_74 ?_
    refine lv_iload hx hb d_Prices_fillStrongMoves_75 (lv_at hl 5 rfl) ?_
    refine lv_iadd hx hb d_Prices_fillStrongMoves_77 ?_
    refine lv_iload hx hb d_Prices_fillStrongMoves_78 (lv_at hl 0 rfl) ?_
    refine lv_if_eq (tgt := 87) hx hb d_Prices_fillStrongMoves_80 (by decide) (fun c6 => ?_) (fun c6 => ?_)
    · replace hm := ifT hm c6
      refine lv_aload_n hx hb d_Prices_fillStrongMoves_87 rfl (lv_at hl 1 rfl) ?_
      refine va_get (D := D) (ci := 4) (v := .ref (ad 8)) (C := R_Prices) (T := T_Prices) (N := 15) hx hb hts inG_Prices hown hK hP 8 rfl rfl 1 (by decide) (hts _ gw_249) (fun _ h9 => h9) rfl d_Prices_fillStrongMoves_88 ?_
      refine lv_iload_n hx hb d_Prices_fillStrongMoves_91 rfl (lv_at hl 3 rfl) ?_
      refine lv_aload_n hx hb d_Prices_fillStrongMoves_92 rfl (lv_at hl 1 rfl) ?_
      refine va_get (D := D) (ci := 4) (v := .ref (ad 14)) (C := R_Prices) (T := T_Prices) (N := 15) hx hb hts inG_Prices hown hK hP 8 rfl rfl 2 (by decide) (hts _ gw_250) (fun _ h9 => h9) rfl d_Prices_fillStrongMoves_93 ?_
      refine lv_iload_n hx hb d_Prices_fillStrongMoves_96 rfl (lv_at hl 4 rfl) ?_
      obtain ⟨hi7, hm⟩ := gd_some hm
      refine va_iald hx hb hK hP 9 0 rfl rfl hi7 d_Prices_fillStrongMoves_97 ?_
      refine lv_aload_n hx hb d_Prices_fillStrongMoves_98 rfl (lv_at hl 1 rfl) ?_
      refine va_get (D := D) (ci := 4) (v := .ref (ad 14)) (C := R_Prices) (T := T_Prices) (N := 15) hx hb hts inG_Prices hown hK hP 8 rfl rfl 2 (by decide) (hts _ gw_250) (fun _ h9 => h9) rfl d_Prices_fillStrongMoves_99 ?_
      refine lv_iload hx hb d_Prices_fillStrongMoves_102 (lv_at hl 5 rfl) ?_
      obtain ⟨hi8, hm⟩ := gd_some hm
      refine va_iald hx hb hK hP 9 0 rfl rfl hi8 d_Prices_fillStrongMoves_104 ?_
      obtain ⟨u9, hc10, hm⟩ := bd_some hm
      refine zVN_i (n := 3) (wr := [((ad 3), .inl (kc 1, 11, .inl su_on)), ((ad 13), .inr (4, [.ref (ad 1), .ref (ad 8), .ref (ad 14), .ref (ad 15), .ref (ad 16), .ref (ad 17), .ref (ad 18), .ref (ad 19), .ref (ad 20), .ref (ad 21), .ref (ad 22), .int pr_size, .int pr_total, .int pr_perNote, .int pr_mostAlike])), ((ad 14), .inl (kc 0, 8, .inl pr_pitches)), ((ad 22), .inl (kc 0, 768, .inl pr_strongPrices))]) (w1 := (wd_Rules_strongMoveCost kc ad su_lines su_length su_perNote su_above su_numbers su_given)) (ws1 := (wd_Prices_fillStrongMoves kc ad su_lines su_length su_perNote su_above su_numbers su_on su_given pr_size pr_total pr_perNote pr_mostAlike pr_pitches pr_strongPrices)) (As := [.int x2, .int (pr_pitches (Int32.toNatClampNeg x3)), .int (pr_pitches (Int32.toNatClampNeg x4))]) (rest := [.int ((((x1 * (8 : Int32)) + x3) * (8 : Int32)) + x4), .ref (ad 22)]) (ci := 5) (q0 := 6) (y := y_Rules_strongMoveCost) (host := "SpeciesSolver") ⟨hx, hb, hml, hown, hts⟩ (fun sz => c_Rules_strongMoveCost hc10 sz) gw_603 (hN _ nw_600) gw_602 gw_36 gw_114 hd_Rules_strongMoveCost ⟨Nat.le_of_ble_eq_true rfl, Nat.le_of_ble_eq_true rfl⟩ ⟨rfl, rfl⟩ ⟨Nat.zero_le _, Nat.zero_le _⟩ hK hN hP hD hS hA hX [0, 1, 3, 4, 5, 6, 7] [2, 8, 9, 10] [4, 5, 0, 6, 7, 8, 9, 10, 1, 2, 3] rfl rfl (by decide) (by decide) (by decide) rfl (by decide) rfl rfl rfl hl.1 rfl (Nat.le_of_ble_eq_true rfl) d_Prices_fillStrongMoves_105 (fun H locs hP hD hS => ?_)
      exact l_Prices_fillStrongMoves_108 C hk2 hk22 hk33 hm ⟨hP, hD, hS⟩ (lv_sub hl [1, 2, 3, 4, 5] rfl)
    · replace hm := ifF hm c6
      refine lv_iconst (v := -1) hx hb d_Prices_fillStrongMoves_83 (by decide) ?_
      refine lv_goto (tgt := 108) hx hb d_Prices_fillStrongMoves_84 (by decide) ?_
      exact l_Prices_fillStrongMoves_108 C hk2 hk22 hk33 hm ⟨hP, hD, hS⟩ (lv_sub hl [1, 2, 3, 4, 5] rfl)
def m_Prices_fillStrongMoves_33 (F : Nat) (su_lines : Int32) (su_length : Int32) (su_perNote : Int32) (su_numbers : Nat → Int32) (su_on : Nat → Int32) (su_given : Nat → Nat → Int32) (pr_size : Int32) (pr_perNote : Int32) (pr_pitches : Nat → Int32) (k2 : (Nat → Int32) → Int32 → Option ((Nat → Int32))) (k22 : (Nat → Int32) → Int32 → Int32 → Int32 → Option ((Nat → Int32))) : Nat → (Nat → Int32) → Int32 → Int32 → Int32 → Int32 → Option ((Nat → Int32))
  | 0 => fun _ _ _ _ _ => none
  | n + 1 => m_Prices_fillStrongMoves_33b F su_lines su_length su_perNote su_numbers su_on su_given pr_size pr_perNote pr_pitches k2 k22 (m_Prices_fillStrongMoves_33 F su_lines su_length su_perNote su_numbers su_on su_given pr_size pr_perNote pr_pitches k2 k22 n)
set_option maxHeartbeats 4000000 in
set_option maxRecDepth 100000 in
theorem lp_Prices_fillStrongMoves_33 {r : (Nat → Int32)} {F : Nat} {ad : Nat → Nat} {su_lines : Int32} {su_length : Int32} {su_perNote : Int32} {su_above : Int32} {su_numbers : Nat → Int32} {su_on : Nat → Int32} {su_given : Nat → Nat → Int32} {pr_size : Int32} {pr_total : Int32} {pr_perNote : Int32} {pr_mostAlike : Int32} {pr_pitches : Nat → Int32} {k2 : (Nat → Int32) → Int32 → Option ((Nat → Int32))} {k22 : (Nat → Int32) → Int32 → Int32 → Int32 → Option ((Nat → Int32))} (C : Cx p s m meth c args A D kc R_Prices b_Prices_fillStrongMoves 6 none) (hk2 : (∀ (pr_strongPrices : Nat → Int32) (x1 : Int32) (H : Heap) (locs : List Loc) (ls : Array Slot), k2 pr_strongPrices x1 = some r → St D A s (wd_Prices_fillStrongMoves kc ad su_lines su_length su_perNote su_above su_numbers su_on su_given pr_size pr_total pr_perNote pr_mostAlike pr_pitches pr_strongPrices) H locs → lv_has ls 6 [(0, .ref (ad 13)), (1, .int x1)] → W p l e rm_Prices_fillStrongMoves s m args below meth c H locs 0 0 (MQ below (Qv D A (wd_Prices_fillStrongMoves kc ad su_lines su_length su_perNote su_above su_numbers su_on su_given pr_size pr_total pr_perNote pr_mostAlike pr_pitches r)) args s 0 0 A) (F0 m 2 ls []))) (hk22 : (∀ (pr_strongPrices : Nat → Int32) (x1 : Int32) (x2 : Int32) (x3 : Int32) (H : Heap) (locs : List Loc) (ls : Array Slot), k22 pr_strongPrices x1 x2 x3 = some r → St D A s (wd_Prices_fillStrongMoves kc ad su_lines su_length su_perNote su_above su_numbers su_on su_given pr_size pr_total pr_perNote pr_mostAlike pr_pitches pr_strongPrices) H locs → lv_has ls 6 [(0, .ref (ad 13)), (1, .int x1), (2, .int x2), (3, .int x3)] → W p l e rm_Prices_fillStrongMoves s m args below meth c H locs 0 0 (MQ below (Qv D A (wd_Prices_fillStrongMoves kc ad su_lines su_length su_perNote su_above su_numbers su_on su_given pr_size pr_total pr_perNote pr_mostAlike pr_pitches r)) args s 0 0 A) (F0 m 22 ls []))) : ∀ (n : Nat) (pr_strongPrices : Nat → Int32) (x1 : Int32) (x2 : Int32) (x3 : Int32) (x4 : Int32) (H : Heap) (locs : List Loc) (ls : Array Slot), m_Prices_fillStrongMoves_33 F su_lines su_length su_perNote su_numbers su_on su_given pr_size pr_perNote pr_pitches k2 k22 n pr_strongPrices x1 x2 x3 x4 = some r → St D A s (wd_Prices_fillStrongMoves kc ad su_lines su_length su_perNote su_above su_numbers su_on su_given pr_size pr_total pr_perNote pr_mostAlike pr_pitches pr_strongPrices) H locs → lv_has ls 6 [(0, .ref (ad 13)), (1, .int x1), (2, .int x2), (3, .int x3), (4, .int x4)] → W p l e rm_Prices_fillStrongMoves s m args below meth c H locs 0 0 (MQ below (Qv D A (wd_Prices_fillStrongMoves kc ad su_lines su_length su_perNote su_above su_numbers su_on su_given pr_size pr_total pr_perNote pr_mostAlike pr_pitches r)) args s 0 0 A) (F0 m 33 ls []) := by
  intro n
  induction n with
  | zero => intro pr_strongPrices x1 x2 x3 x4 H locs ls hm; cases hm
  | succ n ih => intro pr_strongPrices x1 x2 x3 x4 H locs ls hm hZ hl; exact l_Prices_fillStrongMoves_33 C hk2 hk22 ih hm hZ hl
def m_Prices_fillStrongMoves_22b (F : Nat) (su_lines : Int32) (su_length : Int32) (su_perNote : Int32) (su_numbers : Nat → Int32) (su_on : Nat → Int32) (su_given : Nat → Nat → Int32) (pr_size : Int32) (pr_perNote : Int32) (pr_pitches : Nat → Int32) (k2 : (Nat → Int32) → Int32 → Option ((Nat → Int32))) (k22 : (Nat → Int32) → Int32 → Int32 → Int32 → Option ((Nat → Int32))) (pr_strongPrices : Nat → Int32) (x1 : Int32) (x2 : Int32) (x3 : Int32) : Option ((Nat → Int32)) :=
  (if pr_size ≤ x3 then
    k2 pr_strongPrices (x1 + 1)
  else
    m_Prices_fillStrongMoves_33 F su_lines su_length su_perNote su_numbers su_on su_given pr_size pr_perNote pr_pitches k2 k22 F pr_strongPrices x1 x2 x3 (0 : Int32))
set_option maxHeartbeats 4000000 in
set_option maxRecDepth 100000 in
theorem l_Prices_fillStrongMoves_22 {r : (Nat → Int32)} {F : Nat} {ad : Nat → Nat} {su_lines : Int32} {su_length : Int32} {su_perNote : Int32} {su_above : Int32} {su_numbers : Nat → Int32} {su_on : Nat → Int32} {su_given : Nat → Nat → Int32} {pr_size : Int32} {pr_total : Int32} {pr_perNote : Int32} {pr_mostAlike : Int32} {pr_pitches : Nat → Int32} {pr_strongPrices : Nat → Int32} {k2 : (Nat → Int32) → Int32 → Option ((Nat → Int32))} {k22 : (Nat → Int32) → Int32 → Int32 → Int32 → Option ((Nat → Int32))} {x1 : Int32} {x2 : Int32} {x3 : Int32} {H : Heap} {locs : List Loc} {ls : Array Slot} (C : Cx p s m meth c args A D kc R_Prices b_Prices_fillStrongMoves 6 none) (hk2 : (∀ (pr_strongPrices : Nat → Int32) (x1 : Int32) (H : Heap) (locs : List Loc) (ls : Array Slot), k2 pr_strongPrices x1 = some r → St D A s (wd_Prices_fillStrongMoves kc ad su_lines su_length su_perNote su_above su_numbers su_on su_given pr_size pr_total pr_perNote pr_mostAlike pr_pitches pr_strongPrices) H locs → lv_has ls 6 [(0, .ref (ad 13)), (1, .int x1)] → W p l e rm_Prices_fillStrongMoves s m args below meth c H locs 0 0 (MQ below (Qv D A (wd_Prices_fillStrongMoves kc ad su_lines su_length su_perNote su_above su_numbers su_on su_given pr_size pr_total pr_perNote pr_mostAlike pr_pitches r)) args s 0 0 A) (F0 m 2 ls []))) (hk22 : (∀ (pr_strongPrices : Nat → Int32) (x1 : Int32) (x2 : Int32) (x3 : Int32) (H : Heap) (locs : List Loc) (ls : Array Slot), k22 pr_strongPrices x1 x2 x3 = some r → St D A s (wd_Prices_fillStrongMoves kc ad su_lines su_length su_perNote su_above su_numbers su_on su_given pr_size pr_total pr_perNote pr_mostAlike pr_pitches pr_strongPrices) H locs → lv_has ls 6 [(0, .ref (ad 13)), (1, .int x1), (2, .int x2), (3, .int x3)] → W p l e rm_Prices_fillStrongMoves s m args below meth c H locs 0 0 (MQ below (Qv D A (wd_Prices_fillStrongMoves kc ad su_lines su_length su_perNote su_above su_numbers su_on su_given pr_size pr_total pr_perNote pr_mostAlike pr_pitches r)) args s 0 0 A) (F0 m 22 ls []))) (hm : m_Prices_fillStrongMoves_22b F su_lines su_length su_perNote su_numbers su_on su_given pr_size pr_perNote pr_pitches k2 k22 pr_strongPrices x1 x2 x3 = some r) (hZ : St D A s (wd_Prices_fillStrongMoves kc ad su_lines su_length su_perNote su_above su_numbers su_on su_given pr_size pr_total pr_perNote pr_mostAlike pr_pitches pr_strongPrices) H locs) (hl : lv_has ls 6 [(0, .ref (ad 13)), (1, .int x1), (2, .int x2), (3, .int x3)]) : W p l e rm_Prices_fillStrongMoves s m args below meth c H locs 0 0 (MQ below (Qv D A (wd_Prices_fillStrongMoves kc ad su_lines su_length su_perNote su_above su_numbers su_on su_given pr_size pr_total pr_perNote pr_mostAlike pr_pitches r)) args s 0 0 A) (F0 m 22 ls []) := by
  obtain ⟨hx, hb, hr, hts, hown, hml, hlocks, hK, hN, hA, hX⟩ := id C
  obtain ⟨hP, hD, hS⟩ := hZ
  unfold m_Prices_fillStrongMoves_22b at hm
  refine lv_iload_n hx hb d_Prices_fillStrongMoves_22 rfl (lv_at hl 3 rfl) ?_
  refine lv_aload_n hx hb d_Prices_fillStrongMoves_23 rfl (lv_at hl 0 rfl) ?_
  refine va_get (D := D) (ci := 4) (v := .int pr_size) (C := R_Prices) (T := T_Prices) (N := 15) hx hb hts inG_Prices hown hK hP 8 rfl rfl 11 (by decide) (hts _ gw_263) (fun _ h9 => h9) rfl d_Prices_fillStrongMoves_24 ?_
  refine lv_icmp_ge (tgt := 121) hx hb d_Prices_fillStrongMoves_27 (by decide) (fun c1 => ?_) (fun c1 => ?_)
  · replace hm := ifT hm c1
    refine lv_iinc (v := (x1 + 1)) (lv' := [(1, .int (x1 + 1)), (0, .ref (ad 13)), (2, .int x2), (3, .int x3)]) hx hb d_Prices_fillStrongMoves_121 hl (k := 1) rfl rfl (by decide) rfl (fun ls hl => ?_)
    refine lv_goto (tgt := 2) hx hb d_Prices_fillStrongMoves_124 (by decide) ?_
    exact hk2 pr_strongPrices (x1 + 1) _ _ _ hm ⟨hP, hD, hS⟩ (lv_sub hl [1, 0] rfl)
  · replace hm := ifF hm c1
    refine lv_iconst (v := 0) hx hb d_Prices_fillStrongMoves_30 (by decide) ?_
    refine lv_istore (lv' := [(4, .int (0 : Int32)), (0, .ref (ad 13)), (1, .int x1), (2, .int x2), (3, .int x3)]) hx hb d_Prices_fillStrongMoves_31 hl (by decide) rfl (fun ls hl => ?_)
    exact lp_Prices_fillStrongMoves_33 C hk2 hk22 F pr_strongPrices x1 x2 x3 (0 : Int32) _ _ _ hm ⟨hP, hD, hS⟩ (lv_sub hl [1, 2, 3, 4, 0] rfl)
def m_Prices_fillStrongMoves_22 (F : Nat) (su_lines : Int32) (su_length : Int32) (su_perNote : Int32) (su_numbers : Nat → Int32) (su_on : Nat → Int32) (su_given : Nat → Nat → Int32) (pr_size : Int32) (pr_perNote : Int32) (pr_pitches : Nat → Int32) (k2 : (Nat → Int32) → Int32 → Option ((Nat → Int32))) : Nat → (Nat → Int32) → Int32 → Int32 → Int32 → Option ((Nat → Int32))
  | 0 => fun _ _ _ _ => none
  | n + 1 => m_Prices_fillStrongMoves_22b F su_lines su_length su_perNote su_numbers su_on su_given pr_size pr_perNote pr_pitches k2 (m_Prices_fillStrongMoves_22 F su_lines su_length su_perNote su_numbers su_on su_given pr_size pr_perNote pr_pitches k2 n)
set_option maxHeartbeats 4000000 in
set_option maxRecDepth 100000 in
theorem lp_Prices_fillStrongMoves_22 {r : (Nat → Int32)} {F : Nat} {ad : Nat → Nat} {su_lines : Int32} {su_length : Int32} {su_perNote : Int32} {su_above : Int32} {su_numbers : Nat → Int32} {su_on : Nat → Int32} {su_given : Nat → Nat → Int32} {pr_size : Int32} {pr_total : Int32} {pr_perNote : Int32} {pr_mostAlike : Int32} {pr_pitches : Nat → Int32} {k2 : (Nat → Int32) → Int32 → Option ((Nat → Int32))} (C : Cx p s m meth c args A D kc R_Prices b_Prices_fillStrongMoves 6 none) (hk2 : (∀ (pr_strongPrices : Nat → Int32) (x1 : Int32) (H : Heap) (locs : List Loc) (ls : Array Slot), k2 pr_strongPrices x1 = some r → St D A s (wd_Prices_fillStrongMoves kc ad su_lines su_length su_perNote su_above su_numbers su_on su_given pr_size pr_total pr_perNote pr_mostAlike pr_pitches pr_strongPrices) H locs → lv_has ls 6 [(0, .ref (ad 13)), (1, .int x1)] → W p l e rm_Prices_fillStrongMoves s m args below meth c H locs 0 0 (MQ below (Qv D A (wd_Prices_fillStrongMoves kc ad su_lines su_length su_perNote su_above su_numbers su_on su_given pr_size pr_total pr_perNote pr_mostAlike pr_pitches r)) args s 0 0 A) (F0 m 2 ls []))) : ∀ (n : Nat) (pr_strongPrices : Nat → Int32) (x1 : Int32) (x2 : Int32) (x3 : Int32) (H : Heap) (locs : List Loc) (ls : Array Slot), m_Prices_fillStrongMoves_22 F su_lines su_length su_perNote su_numbers su_on su_given pr_size pr_perNote pr_pitches k2 n pr_strongPrices x1 x2 x3 = some r → St D A s (wd_Prices_fillStrongMoves kc ad su_lines su_length su_perNote su_above su_numbers su_on su_given pr_size pr_total pr_perNote pr_mostAlike pr_pitches pr_strongPrices) H locs → lv_has ls 6 [(0, .ref (ad 13)), (1, .int x1), (2, .int x2), (3, .int x3)] → W p l e rm_Prices_fillStrongMoves s m args below meth c H locs 0 0 (MQ below (Qv D A (wd_Prices_fillStrongMoves kc ad su_lines su_length su_perNote su_above su_numbers su_on su_given pr_size pr_total pr_perNote pr_mostAlike pr_pitches r)) args s 0 0 A) (F0 m 22 ls []) := by
  intro n
  induction n with
  | zero => intro pr_strongPrices x1 x2 x3 H locs ls hm; cases hm
  | succ n ih => intro pr_strongPrices x1 x2 x3 H locs ls hm hZ hl; exact l_Prices_fillStrongMoves_22 C hk2 ih hm hZ hl
def m_Prices_fillStrongMoves_2b (F : Nat) (su_lines : Int32) (su_length : Int32) (su_perNote : Int32) (su_numbers : Nat → Int32) (su_on : Nat → Int32) (su_given : Nat → Nat → Int32) (pr_size : Int32) (pr_perNote : Int32) (pr_pitches : Nat → Int32) (k2 : (Nat → Int32) → Int32 → Option ((Nat → Int32))) (pr_strongPrices : Nat → Int32) (x1 : Int32) : Option ((Nat → Int32)) :=
  (if su_length ≤ x1 then
    (some pr_strongPrices)
  else
    m_Prices_fillStrongMoves_22 F su_lines su_length su_perNote su_numbers su_on su_given pr_size pr_perNote pr_pitches k2 F pr_strongPrices x1 (x1 * pr_perNote) (0 : Int32))
set_option maxHeartbeats 4000000 in
set_option maxRecDepth 100000 in
theorem l_Prices_fillStrongMoves_2 {r : (Nat → Int32)} {F : Nat} {ad : Nat → Nat} {su_lines : Int32} {su_length : Int32} {su_perNote : Int32} {su_above : Int32} {su_numbers : Nat → Int32} {su_on : Nat → Int32} {su_given : Nat → Nat → Int32} {pr_size : Int32} {pr_total : Int32} {pr_perNote : Int32} {pr_mostAlike : Int32} {pr_pitches : Nat → Int32} {pr_strongPrices : Nat → Int32} {k2 : (Nat → Int32) → Int32 → Option ((Nat → Int32))} {x1 : Int32} {H : Heap} {locs : List Loc} {ls : Array Slot} (C : Cx p s m meth c args A D kc R_Prices b_Prices_fillStrongMoves 6 none) (hk2 : (∀ (pr_strongPrices : Nat → Int32) (x1 : Int32) (H : Heap) (locs : List Loc) (ls : Array Slot), k2 pr_strongPrices x1 = some r → St D A s (wd_Prices_fillStrongMoves kc ad su_lines su_length su_perNote su_above su_numbers su_on su_given pr_size pr_total pr_perNote pr_mostAlike pr_pitches pr_strongPrices) H locs → lv_has ls 6 [(0, .ref (ad 13)), (1, .int x1)] → W p l e rm_Prices_fillStrongMoves s m args below meth c H locs 0 0 (MQ below (Qv D A (wd_Prices_fillStrongMoves kc ad su_lines su_length su_perNote su_above su_numbers su_on su_given pr_size pr_total pr_perNote pr_mostAlike pr_pitches r)) args s 0 0 A) (F0 m 2 ls []))) (hm : m_Prices_fillStrongMoves_2b F su_lines su_length su_perNote su_numbers su_on su_given pr_size pr_perNote pr_pitches k2 pr_strongPrices x1 = some r) (hZ : St D A s (wd_Prices_fillStrongMoves kc ad su_lines su_length su_perNote su_above su_numbers su_on su_given pr_size pr_total pr_perNote pr_mostAlike pr_pitches pr_strongPrices) H locs) (hl : lv_has ls 6 [(0, .ref (ad 13)), (1, .int x1)]) : W p l e rm_Prices_fillStrongMoves s m args below meth c H locs 0 0 (MQ below (Qv D A (wd_Prices_fillStrongMoves kc ad su_lines su_length su_perNote su_above su_numbers su_on su_given pr_size pr_total pr_perNote pr_mostAlike pr_pitches r)) args s 0 0 A) (F0 m 2 ls []) := by
  obtain ⟨hx, hb, hr, hts, hown, hml, hlocks, hK, hN, hA, hX⟩ := id C
  obtain ⟨hP, hD, hS⟩ := hZ
  unfold m_Prices_fillStrongMoves_2b at hm
  refine lv_iload_n hx hb d_Prices_fillStrongMoves_2 rfl (lv_at hl 1 rfl) ?_
  refine lv_aload_n hx hb d_Prices_fillStrongMoves_3 rfl (lv_at hl 0 rfl) ?_
  refine va_get (D := D) (ci := 4) (v := .ref (ad 1)) (C := R_Prices) (T := T_Prices) (N := 15) hx hb hts inG_Prices hown hK hP 8 rfl rfl 0 (by decide) (hts _ gw_248) (fun _ h9 => h9) rfl d_Prices_fillStrongMoves_4 ?_
  refine va_getN (D := D) (ci := 7) (v := .int su_length) (C := R_Setup) (T := T_Setup) (N := 7) hx hb hts inG_Setup hown hK hP 0 rfl rfl 4 (by decide) (va_Nw.use rfl (hN _ nw_175)) (fun _ h9 => h9) rfl d_Prices_fillStrongMoves_7 ?_
  refine lv_icmp_ge (tgt := 127) hx hb d_Prices_fillStrongMoves_10 (by decide) (fun c1 => ?_) (fun c1 => ?_)
  · replace hm := ifT hm c1
    replace hm := Option.some.inj hm; subst hm
    exact zret_v C hP hD hS d_Prices_fillStrongMoves_127
  · replace hm := ifF hm c1
    refine lv_iload_n hx hb d_Prices_fillStrongMoves_13 rfl (lv_at hl 1 rfl) ?_
    refine lv_aload_n hx hb d_Prices_fillStrongMoves_14 rfl (lv_at hl 0 rfl) ?_
    refine va_get (D := D) (ci := 4) (v := .int pr_perNote) (C := R_Prices) (T := T_Prices) (N := 15) hx hb hts inG_Prices hown hK hP 8 rfl rfl 13 (by decide) (hts _ gw_267) (fun _ h9 => h9) rfl d_Prices_fillStrongMoves_15 ?_
    refine lv_imul hx hb d_Prices_fillStrongMoves_18 ?_
    refine lv_istore_n (lv' := [(2, .int (x1 * pr_perNote)), (0, .ref (ad 13)), (1, .int x1)]) hx hb d_Prices_fillStrongMoves_19 rfl hl (by decide) rfl (fun ls hl => ?_)
    refine lv_iconst (v := 0) hx hb d_Prices_fillStrongMoves_20 (by decide) ?_
    refine lv_istore_n (lv' := [(3, .int (0 : Int32)), (2, .int (x1 * pr_perNote)), (0, .ref (ad 13)), (1, .int x1)]) hx hb d_Prices_fillStrongMoves_21 rfl hl (by decide) rfl (fun ls hl => ?_)
    exact lp_Prices_fillStrongMoves_22 C hk2 F pr_strongPrices x1 (x1 * pr_perNote) (0 : Int32) _ _ _ hm ⟨hP, hD, hS⟩ (lv_sub hl [2, 3, 1, 0] rfl)
def m_Prices_fillStrongMoves_2 (F : Nat) (su_lines : Int32) (su_length : Int32) (su_perNote : Int32) (su_numbers : Nat → Int32) (su_on : Nat → Int32) (su_given : Nat → Nat → Int32) (pr_size : Int32) (pr_perNote : Int32) (pr_pitches : Nat → Int32)  : Nat → (Nat → Int32) → Int32 → Option ((Nat → Int32))
  | 0 => fun _ _ => none
  | n + 1 => m_Prices_fillStrongMoves_2b F su_lines su_length su_perNote su_numbers su_on su_given pr_size pr_perNote pr_pitches  (m_Prices_fillStrongMoves_2 F su_lines su_length su_perNote su_numbers su_on su_given pr_size pr_perNote pr_pitches  n)
set_option maxHeartbeats 4000000 in
set_option maxRecDepth 100000 in
theorem lp_Prices_fillStrongMoves_2 {r : (Nat → Int32)} {F : Nat} {ad : Nat → Nat} {su_lines : Int32} {su_length : Int32} {su_perNote : Int32} {su_above : Int32} {su_numbers : Nat → Int32} {su_on : Nat → Int32} {su_given : Nat → Nat → Int32} {pr_size : Int32} {pr_total : Int32} {pr_perNote : Int32} {pr_mostAlike : Int32} {pr_pitches : Nat → Int32}  (C : Cx p s m meth c args A D kc R_Prices b_Prices_fillStrongMoves 6 none)  : ∀ (n : Nat) (pr_strongPrices : Nat → Int32) (x1 : Int32) (H : Heap) (locs : List Loc) (ls : Array Slot), m_Prices_fillStrongMoves_2 F su_lines su_length su_perNote su_numbers su_on su_given pr_size pr_perNote pr_pitches  n pr_strongPrices x1 = some r → St D A s (wd_Prices_fillStrongMoves kc ad su_lines su_length su_perNote su_above su_numbers su_on su_given pr_size pr_total pr_perNote pr_mostAlike pr_pitches pr_strongPrices) H locs → lv_has ls 6 [(0, .ref (ad 13)), (1, .int x1)] → W p l e rm_Prices_fillStrongMoves s m args below meth c H locs 0 0 (MQ below (Qv D A (wd_Prices_fillStrongMoves kc ad su_lines su_length su_perNote su_above su_numbers su_on su_given pr_size pr_total pr_perNote pr_mostAlike pr_pitches r)) args s 0 0 A) (F0 m 2 ls []) := by
  intro n
  induction n with
  | zero => intro pr_strongPrices x1 H locs ls hm; cases hm
  | succ n ih => intro pr_strongPrices x1 H locs ls hm hZ hl; exact l_Prices_fillStrongMoves_2 C  ih hm hZ hl
def m_Prices_fillStrongMoves (F : Nat) (su_lines : Int32) (su_length : Int32) (su_perNote : Int32) (su_numbers : Nat → Int32) (su_on : Nat → Int32) (su_given : Nat → Nat → Int32) (pr_size : Int32) (pr_perNote : Int32) (pr_pitches : Nat → Int32) (pr_strongPrices : Nat → Int32)  : Option ((Nat → Int32)) :=
  m_Prices_fillStrongMoves_2 F su_lines su_length su_perNote su_numbers su_on su_given pr_size pr_perNote pr_pitches  F pr_strongPrices (1 : Int32)
set_option maxHeartbeats 4000000 in
set_option maxRecDepth 100000 in
theorem e_Prices_fillStrongMoves {r : (Nat → Int32)} {F : Nat} {ad : Nat → Nat} {su_lines : Int32} {su_length : Int32} {su_perNote : Int32} {su_above : Int32} {su_numbers : Nat → Int32} {su_on : Nat → Int32} {su_given : Nat → Nat → Int32} {pr_size : Int32} {pr_total : Int32} {pr_perNote : Int32} {pr_mostAlike : Int32} {pr_pitches : Nat → Int32} {pr_strongPrices : Nat → Int32}  {H : Heap} {locs : List Loc} {ls : Array Slot} (C : Cx p s m meth c args A D kc R_Prices b_Prices_fillStrongMoves 6 none) (hm : m_Prices_fillStrongMoves F su_lines su_length su_perNote su_numbers su_on su_given pr_size pr_perNote pr_pitches pr_strongPrices = some r) (hZ : St D A s (wd_Prices_fillStrongMoves kc ad su_lines su_length su_perNote su_above su_numbers su_on su_given pr_size pr_total pr_perNote pr_mostAlike pr_pitches pr_strongPrices) H locs) (hl : lv_has ls 6 [(0, .ref (ad 13))]) : W p l e rm_Prices_fillStrongMoves s m args below meth c H locs 0 0 (MQ below (Qv D A (wd_Prices_fillStrongMoves kc ad su_lines su_length su_perNote su_above su_numbers su_on su_given pr_size pr_total pr_perNote pr_mostAlike pr_pitches r)) args s 0 0 A) (F0 m 0 ls []) := by
  obtain ⟨hx, hb, hr, hts, hown, hml, hlocks, hK, hN, hA, hX⟩ := id C
  obtain ⟨hP, hD, hS⟩ := hZ
  unfold m_Prices_fillStrongMoves at hm
  refine lv_iconst (v := 1) hx hb d_Prices_fillStrongMoves_0 (by decide) ?_
  refine lv_istore_n (lv' := [(1, .int (1 : Int32)), (0, .ref (ad 13))]) hx hb d_Prices_fillStrongMoves_1 rfl hl (by decide) rfl (fun ls hl => ?_)
  exact lp_Prices_fillStrongMoves_2 C  F pr_strongPrices (1 : Int32) _ _ _ hm ⟨hP, hD, hS⟩ (lv_sub hl [1, 0] rfl)
set_option maxHeartbeats 4000000 in
set_option maxRecDepth 100000 in
theorem c_Prices_fillStrongMoves {l : Launch} {D : va_G} {kc : Nat → ClassId} {r : (Nat → Int32)} {F : Nat} {ad : Nat → Nat} {su_lines : Int32} {su_length : Int32} {su_perNote : Int32} {su_above : Int32} {su_numbers : Nat → Int32} {su_on : Nat → Int32} {su_given : Nat → Nat → Int32} {pr_size : Int32} {pr_total : Int32} {pr_perNote : Int32} {pr_mostAlike : Int32} {pr_pitches : Nat → Int32} {pr_strongPrices : Nat → Int32}  (hm : m_Prices_fillStrongMoves F su_lines su_length su_perNote su_numbers su_on su_given pr_size pr_perNote pr_pitches pr_strongPrices = some r) (sz : Nat) : Cv l y_Prices_fillStrongMoves ws_Prices_fillStrongMoves rm_Prices_fillStrongMoves D kc sz [.ref (ad 13)] (wd_Prices_fillStrongMoves kc ad su_lines su_length su_perNote su_above su_numbers su_on su_given pr_size pr_total pr_perNote pr_mostAlike pr_pitches pr_strongPrices) (wd_Prices_fillStrongMoves kc ad su_lines su_length su_perNote su_above su_numbers su_on su_given pr_size pr_total pr_perNote pr_mostAlike pr_pitches r) :=
  Cz_of (Qf := fun A => (Qv D A (wd_Prices_fillStrongMoves kc ad su_lines su_length su_perNote su_above su_numbers su_on su_given pr_size pr_total pr_perNote pr_mostAlike pr_pitches r))) (cc := b_Prices_fillStrongMoves) (maxL := 6) (ret := none) (by decide) rfl rfl (fun C hZ hl => e_Prices_fillStrongMoves C hm hZ hl)
abbrev b_Prices_fill : ByteArray := prog_4_method_2_code
abbrev y_Prices_fill : MethodName := ⟨"SpeciesSolver$Prices", "fill", "()V"⟩
theorem d_Prices_fill_0 : decode b_Prices_fill 0 = .ok (.aload_n 0, 1) := by decide +kernel
theorem d_Prices_fill_1 : decode b_Prices_fill 1 = .ok (.aload_n 0, 1) := by decide +kernel
theorem d_Prices_fill_2 : decode b_Prices_fill 2 = .ok (.getfield 53, 3) := by decide +kernel
theorem d_Prices_fill_5 : decode b_Prices_fill 5 = .ok (.aload_n 0, 1) := by decide +kernel
theorem d_Prices_fill_6 : decode b_Prices_fill 6 = .ok (.getfield 11, 3) := by decide +kernel
theorem d_Prices_fill_9 : decode b_Prices_fill 9 = .ok (.invokevirtual 61, 3) := by decide +kernel
theorem d_Prices_fill_12 : decode b_Prices_fill 12 = .ok (.putfield 40, 3) := by decide +kernel
theorem d_Prices_fill_15 : decode b_Prices_fill 15 = .ok (.aload_n 0, 1) := by decide +kernel
theorem d_Prices_fill_16 : decode b_Prices_fill 16 = .ok (.aload_n 0, 1) := by decide +kernel
theorem d_Prices_fill_17 : decode b_Prices_fill 17 = .ok (.getfield 53, 3) := by decide +kernel
theorem d_Prices_fill_20 : decode b_Prices_fill 20 = .ok (.invokevirtual 67, 3) := by decide +kernel
theorem d_Prices_fill_23 : decode b_Prices_fill 23 = .ok (.putfield 44, 3) := by decide +kernel
theorem d_Prices_fill_26 : decode b_Prices_fill 26 = .ok (.aload_n 0, 1) := by decide +kernel
theorem d_Prices_fill_27 : decode b_Prices_fill 27 = .ok (.aload_n 0, 1) := by decide +kernel
theorem d_Prices_fill_28 : decode b_Prices_fill 28 = .ok (.getfield 53, 3) := by decide +kernel
theorem d_Prices_fill_31 : decode b_Prices_fill 31 = .ok (.getfield 70, 3) := by decide +kernel
theorem d_Prices_fill_34 : decode b_Prices_fill 34 = .ok (.putfield 47, 3) := by decide +kernel
theorem d_Prices_fill_37 : decode b_Prices_fill 37 = .ok (.aload_n 0, 1) := by decide +kernel
theorem d_Prices_fill_38 : decode b_Prices_fill 38 = .ok (.aload_n 0, 1) := by decide +kernel
theorem d_Prices_fill_39 : decode b_Prices_fill 39 = .ok (.getfield 53, 3) := by decide +kernel
theorem d_Prices_fill_42 : decode b_Prices_fill 42 = .ok (.getfield 71, 3) := by decide +kernel
theorem d_Prices_fill_45 : decode b_Prices_fill 45 = .ok (.bipush 7, 2) := by decide +kernel
theorem d_Prices_fill_47 : decode b_Prices_fill 47 = .ok (.baload, 1) := by decide +kernel
theorem d_Prices_fill_48 : decode b_Prices_fill 48 = .ok (.ifCond .eq 16, 3) := by decide +kernel
theorem d_Prices_fill_51 : decode b_Prices_fill 51 = .ok (.aload_n 0, 1) := by decide +kernel
theorem d_Prices_fill_52 : decode b_Prices_fill 52 = .ok (.getfield 53, 3) := by decide +kernel
theorem d_Prices_fill_55 : decode b_Prices_fill 55 = .ok (.getfield 74, 3) := by decide +kernel
theorem d_Prices_fill_58 : decode b_Prices_fill 58 = .ok (.bipush 11, 2) := by decide +kernel
theorem d_Prices_fill_60 : decode b_Prices_fill 60 = .ok (.iaload, 1) := by decide +kernel
theorem d_Prices_fill_61 : decode b_Prices_fill 61 = .ok (.goto 4, 3) := by decide +kernel
theorem d_Prices_fill_64 : decode b_Prices_fill 64 = .ok (.iconst 0, 1) := by decide +kernel
theorem d_Prices_fill_65 : decode b_Prices_fill 65 = .ok (.putfield 50, 3) := by decide +kernel
theorem d_Prices_fill_68 : decode b_Prices_fill 68 = .ok (.aload_n 0, 1) := by decide +kernel
theorem d_Prices_fill_69 : decode b_Prices_fill 69 = .ok (.invokevirtual 77, 3) := by decide +kernel
theorem d_Prices_fill_72 : decode b_Prices_fill 72 = .ok (.aload_n 0, 1) := by decide +kernel
theorem d_Prices_fill_73 : decode b_Prices_fill 73 = .ok (.invokevirtual 80, 3) := by decide +kernel
theorem d_Prices_fill_76 : decode b_Prices_fill 76 = .ok (.aload_n 0, 1) := by decide +kernel
theorem d_Prices_fill_77 : decode b_Prices_fill 77 = .ok (.invokevirtual 83, 3) := by decide +kernel
theorem d_Prices_fill_80 : decode b_Prices_fill 80 = .ok (.aload_n 0, 1) := by decide +kernel
theorem d_Prices_fill_81 : decode b_Prices_fill 81 = .ok (.invokevirtual 86, 3) := by decide +kernel
theorem d_Prices_fill_84 : decode b_Prices_fill 84 = .ok (.return_, 1) := by decide +kernel
abbrev wd_Prices_fill (kc : Nat → ClassId) (ad : Nat → Nat) (su_lines : Int32) (su_length : Int32) (su_perNote : Int32) (su_above : Int32) (su_numbers : Nat → Int32) (su_on : Nat → Int32) (su_given : Nat → Nat → Int32) (pr_size : Int32) (pr_total : Int32) (pr_perNote : Int32) (pr_mostAlike : Int32) (pr_pitches : Nat → Int32) (pr_notePrices : Nat → Int32) (pr_mustPass : Nat → Int32) (pr_movePrices : Nat → Int32) (pr_mustTurn : Nat → Int32) (pr_badClosings : Nat → Int32) (pr_badTurns : Nat → Int32) (pr_passings : Nat → Int32) (pr_strongPrices : Nat → Int32) : va_W := [((ad 1), .inr (7, [.ref (ad 2), .ref (ad 3), .ref (ad 4), .int su_lines, .int su_length, .int su_perNote, .int su_above])), ((ad 2), .inl (kc 0, 18, .inl su_numbers)), ((ad 3), .inl (kc 1, 11, .inl su_on)), ((ad 4), .inl (kc 3, 3, .inr (.inr (.inr (.inr (fun i => if i < 3 then some (ad (5 + i)) else none)))))), ((ad 5), .inl (kc 0, 12, .inl (su_given 0))), ((ad 6), .inl (kc 0, 12, .inl (su_given 1))), ((ad 7), .inl (kc 0, 12, .inl (su_given 2))), ((ad 8), .inr (5, [.ref (ad 1)])), ((ad 13), .inr (4, [.ref (ad 1), .ref (ad 8), .ref (ad 14), .ref (ad 15), .ref (ad 16), .ref (ad 17), .ref (ad 18), .ref (ad 19), .ref (ad 20), .ref (ad 21), .ref (ad 22), .int pr_size, .int pr_total, .int pr_perNote, .int pr_mostAlike])), ((ad 14), .inl (kc 0, 8, .inl pr_pitches)), ((ad 15), .inl (kc 0, 360, .inl pr_notePrices)), ((ad 16), .inl (kc 1, 360, .inl pr_mustPass)), ((ad 17), .inl (kc 0, 64, .inl pr_movePrices)), ((ad 18), .inl (kc 1, 64, .inl pr_mustTurn)), ((ad 19), .inl (kc 1, 64, .inl pr_badClosings)), ((ad 20), .inl (kc 1, 512, .inl pr_badTurns)), ((ad 21), .inl (kc 1, 512, .inl pr_passings)), ((ad 22), .inl (kc 0, 768, .inl pr_strongPrices))]
abbrev rm_Prices_fill : Room := { frames := 4, cells := 0, slots := 0, locals := 101 }
abbrev cw_Prices_fill : Cond := .code y_Prices_fill b_Prices_fill 1 none
abbrev ws_Prices_fill : List Cond := cw_Prices_fill :: GW
theorem hd_Prices_fill : y_Prices_fill.cls ≠ "java/lang/invoke/MethodHandle" ∧ y_Prices_fill.cls ≠ "java/lang/invoke/VarHandle" ∧ (parseMethodDescriptor y_Prices_fill.desc).map (fun d => d.parameters.length) = some 0 := by decide +kernel
def m_Prices_fill_65 (F : Nat) (su_lines : Int32) (su_length : Int32) (su_perNote : Int32) (su_above : Int32) (su_numbers : Nat → Int32) (su_on : Nat → Int32) (su_given : Nat → Nat → Int32)  (pr_size : Int32) (pr_total : Int32) (pr_perNote : Int32) (pr_mostAlike : Int32) (pr_pitches : Nat → Int32) (pr_notePrices : Nat → Int32) (pr_mustPass : Nat → Int32) (pr_movePrices : Nat → Int32) (pr_mustTurn : Nat → Int32) (pr_badClosings : Nat → Int32) (pr_badTurns : Nat → Int32) (pr_passings : Nat → Int32) (pr_strongPrices : Nat → Int32) (t1 : Int32) : Option (Int32 × Int32 × Int32 × Int32 × (Nat → Int32) × (Nat → Int32) × (Nat → Int32) × (Nat → Int32) × (Nat → Int32) × (Nat → Int32) × (Nat → Int32) × (Nat → Int32) × (Nat → Int32)) :=
  (bd (m_Prices_fillNotes F su_lines su_length su_perNote su_above su_numbers su_on su_given pr_size pr_total pr_pitches pr_notePrices pr_mustPass) (fun u1 => (bd (m_Prices_fillMoves F su_perNote su_numbers su_on su_given pr_size pr_total pr_pitches pr_movePrices pr_mustTurn pr_badClosings) (fun u3 => (bd (m_Prices_fillTurns F su_numbers su_on pr_size pr_pitches pr_badTurns pr_passings) (fun u5 => (bd (m_Prices_fillStrongMoves F su_lines su_length su_perNote su_numbers su_on su_given pr_size pr_perNote pr_pitches pr_strongPrices) (fun u7 => (some (pr_size, pr_total, pr_perNote, t1, pr_pitches, u1.1, u1.2, u3.1, u3.2.1, u3.2.2, u5.1, u5.2, u7))))))))))
set_option maxHeartbeats 4000000 in
set_option maxRecDepth 100000 in
theorem l_Prices_fill_65 {r : Int32 × Int32 × Int32 × Int32 × (Nat → Int32) × (Nat → Int32) × (Nat → Int32) × (Nat → Int32) × (Nat → Int32) × (Nat → Int32) × (Nat → Int32) × (Nat → Int32) × (Nat → Int32)} {F : Nat} {ad : Nat → Nat} {su_lines : Int32} {su_length : Int32} {su_perNote : Int32} {su_above : Int32} {su_numbers : Nat → Int32} {su_on : Nat → Int32} {su_given : Nat → Nat → Int32} {pr_size : Int32} {pr_total : Int32} {pr_perNote : Int32} {pr_mostAlike : Int32} {pr_pitches : Nat → Int32} {pr_notePrices : Nat → Int32} {pr_mustPass : Nat → Int32} {pr_movePrices : Nat → Int32} {pr_mustTurn : Nat → Int32} {pr_badClosings : Nat → Int32} {pr_badTurns : Nat → Int32} {pr_passings : Nat → Int32} {pr_strongPrices : Nat → Int32}  {t1 : Int32} {H : Heap} {locs : List Loc} {ls : Array Slot} (C : Cx p s m meth c args A D kc R_Prices b_Prices_fill 1 none)  (hm : m_Prices_fill_65 F su_lines su_length su_perNote su_above su_numbers su_on su_given  pr_size pr_total pr_perNote pr_mostAlike pr_pitches pr_notePrices pr_mustPass pr_movePrices pr_mustTurn pr_badClosings pr_badTurns pr_passings pr_strongPrices t1 = some r) (hZ : St D A s (wd_Prices_fill kc ad su_lines su_length su_perNote su_above su_numbers su_on su_given pr_size pr_total pr_perNote pr_mostAlike pr_pitches pr_notePrices pr_mustPass pr_movePrices pr_mustTurn pr_badClosings pr_badTurns pr_passings pr_strongPrices) H locs) (hl : lv_has ls 1 [(0, .ref (ad 13))]) : W p l e rm_Prices_fill s m args below meth c H locs 0 0 (MQ below (Qv D A (wd_Prices_fill kc ad su_lines su_length su_perNote su_above su_numbers su_on su_given r.1 r.2.1 r.2.2.1 r.2.2.2.1 r.2.2.2.2.1 r.2.2.2.2.2.1 r.2.2.2.2.2.2.1 r.2.2.2.2.2.2.2.1 r.2.2.2.2.2.2.2.2.1 r.2.2.2.2.2.2.2.2.2.1 r.2.2.2.2.2.2.2.2.2.2.1 r.2.2.2.2.2.2.2.2.2.2.2.1 r.2.2.2.2.2.2.2.2.2.2.2.2)) args s 0 0 A) (F0 m 65 ls [.int t1, .ref (ad 13)]) := by
  obtain ⟨hx, hb, hr, hts, hown, hml, hlocks, hK, hN, hA, hX⟩ := id C
  obtain ⟨hP, hD, hS⟩ := hZ
  unfold m_Prices_fill_65 at hm
  refine va_put (D := D) (ci := 4) (v := .int t1) (ty := .int) (C := R_Prices) (T := T_Prices) (N := 15) hx hb hts inG_Prices ty_Prices tok_Prices nmo_Prices hown hK hP hD hS 8 rfl rfl 14 (by decide) (hts _ gw_269) (fun _ h9 => h9) rfl (tok_Prices 14 (by decide)) rfl rfl (Nat.le_of_ble_eq_true rfl) d_Prices_fill_65 (fun H locs hP hD hS => ?_)
  replace hP : va_P D vwCl (wd_Prices_fill kc ad su_lines su_length su_perNote su_above su_numbers su_on su_given pr_size pr_total pr_perNote t1 pr_pitches pr_notePrices pr_mustPass pr_movePrices pr_mustTurn pr_badClosings pr_badTurns pr_passings pr_strongPrices) H := hP
  replace hD : va_D A (wd_Prices_fill kc ad su_lines su_length su_perNote su_above su_numbers su_on su_given pr_size pr_total pr_perNote t1 pr_pitches pr_notePrices pr_mustPass pr_movePrices pr_mustTurn pr_badClosings pr_badTurns pr_passings pr_strongPrices) := hD
  refine lv_aload_n hx hb d_Prices_fill_68 rfl (lv_at hl 0 rfl) ?_
  obtain ⟨u1, hc2, hm⟩ := bd_some hm
  refine zV_v (n := 0) (wr := [((ad 17), .inl (kc 0, 64, .inl pr_movePrices)), ((ad 18), .inl (kc 1, 64, .inl pr_mustTurn)), ((ad 19), .inl (kc 1, 64, .inl pr_badClosings)), ((ad 20), .inl (kc 1, 512, .inl pr_badTurns)), ((ad 21), .inl (kc 1, 512, .inl pr_passings)), ((ad 22), .inl (kc 0, 768, .inl pr_strongPrices))]) (w1 := (wd_Prices_fillNotes kc ad su_lines su_length su_perNote su_above su_numbers su_on su_given pr_size pr_total pr_perNote t1 pr_pitches u1.1 u1.2)) (ws1 := (wd_Prices_fill kc ad su_lines su_length su_perNote su_above su_numbers su_on su_given pr_size pr_total pr_perNote t1 pr_pitches u1.1 u1.2 pr_movePrices pr_mustTurn pr_badClosings pr_badTurns pr_passings pr_strongPrices)) (As := []) (rest := []) (ci := 4) (q0 := 8) (y := y_Prices_fillNotes) ⟨hx, hb, hml, hown, hts⟩ (fun sz => c_Prices_fillNotes hc2 sz) gw_504 gw_501 gw_503 gw_13 gw_116 hd_Prices_fillNotes ⟨Nat.le_of_ble_eq_true rfl, Nat.le_of_ble_eq_true rfl⟩ ⟨rfl, rfl⟩ ⟨Nat.zero_le _, Nat.zero_le _⟩ hK hN hP hD hS hA hX [0, 1, 2, 3, 4, 5, 6, 7, 8, 9, 10, 11] [12, 13, 14, 15, 16, 17] [6, 7, 8, 9, 10, 11, 12, 13, 14, 15, 16, 17, 0, 1, 2, 3, 4, 5] rfl rfl (by decide) (by decide) (by decide) rfl (by decide) rfl rfl rfl hl.1 rfl (Nat.le_of_ble_eq_true rfl) d_Prices_fill_69 (fun H locs hP hD hS => ?_)
  refine lv_aload_n hx hb d_Prices_fill_72 rfl (lv_at hl 0 rfl) ?_
  obtain ⟨u3, hc4, hm⟩ := bd_some hm
  refine zV_v (n := 0) (wr := [((ad 15), .inl (kc 0, 360, .inl u1.1)), ((ad 16), .inl (kc 1, 360, .inl u1.2)), ((ad 20), .inl (kc 1, 512, .inl pr_badTurns)), ((ad 21), .inl (kc 1, 512, .inl pr_passings)), ((ad 22), .inl (kc 0, 768, .inl pr_strongPrices))]) (w1 := (wd_Prices_fillMoves kc ad su_lines su_length su_perNote su_above su_numbers su_on su_given pr_size pr_total pr_perNote t1 pr_pitches u3.1 u3.2.1 u3.2.2)) (ws1 := (wd_Prices_fill kc ad su_lines su_length su_perNote su_above su_numbers su_on su_given pr_size pr_total pr_perNote t1 pr_pitches u1.1 u1.2 u3.1 u3.2.1 u3.2.2 pr_badTurns pr_passings pr_strongPrices)) (As := []) (rest := []) (ci := 4) (q0 := 8) (y := y_Prices_fillMoves) ⟨hx, hb, hml, hown, hts⟩ (fun sz => c_Prices_fillMoves hc4 sz) gw_543 gw_540 gw_542 gw_22 gw_116 hd_Prices_fillMoves ⟨Nat.le_of_ble_eq_true rfl, Nat.le_of_ble_eq_true rfl⟩ ⟨rfl, rfl⟩ ⟨Nat.zero_le _, Nat.zero_le _⟩ hK hN hP hD hS hA hX [0, 1, 2, 3, 4, 5, 6, 7, 8, 9, 12, 13, 14] [10, 11, 15, 16, 17] [5, 6, 7, 8, 9, 10, 11, 12, 13, 14, 0, 1, 15, 16, 17, 2, 3, 4] rfl rfl (by decide) (by decide) (by decide) rfl (by decide) rfl rfl rfl hl.1 rfl (Nat.le_of_ble_eq_true rfl) d_Prices_fill_73 (fun H locs hP hD hS => ?_)
  refine lv_aload_n hx hb d_Prices_fill_76 rfl (lv_at hl 0 rfl) ?_
  obtain ⟨u5, hc6, hm⟩ := bd_some hm
  refine zV_v (n := 0) (wr := [((ad 4), .inl (kc 3, 3, .inr (.inr (.inr (.inr (fun i => if i < 3 then some (ad (5 + i)) else none)))))), ((ad 5), .inl (kc 0, 12, .inl (su_given 0))), ((ad 6), .inl (kc 0, 12, .inl (su_given 1))), ((ad 7), .inl (kc 0, 12, .inl (su_given 2))), ((ad 15), .inl (kc 0, 360, .inl u1.1)), ((ad 16), .inl (kc 1, 360, .inl u1.2)), ((ad 17), .inl (kc 0, 64, .inl u3.1)), ((ad 18), .inl (kc 1, 64, .inl u3.2.1)), ((ad 19), .inl (kc 1, 64, .inl u3.2.2)), ((ad 22), .inl (kc 0, 768, .inl pr_strongPrices))]) (w1 := (wd_Prices_fillTurns kc ad su_lines su_length su_perNote su_above su_numbers su_on pr_size pr_total pr_perNote t1 pr_pitches u5.1 u5.2)) (ws1 := (wd_Prices_fill kc ad su_lines su_length su_perNote su_above su_numbers su_on su_given pr_size pr_total pr_perNote t1 pr_pitches u1.1 u1.2 u3.1 u3.2.1 u3.2.2 u5.1 u5.2 pr_strongPrices)) (As := []) (rest := []) (ci := 4) (q0 := 4) (y := y_Prices_fillTurns) ⟨hx, hb, hml, hown, hts⟩ (fun sz => c_Prices_fillTurns hc6 sz) gw_570 gw_567 gw_569 gw_28 gw_116 hd_Prices_fillTurns ⟨Nat.le_of_ble_eq_true rfl, Nat.le_of_ble_eq_true rfl⟩ ⟨rfl, rfl⟩ ⟨Nat.zero_le _, Nat.zero_le _⟩ hK hN hP hD hS hA hX [0, 1, 2, 7, 8, 9, 15, 16] [3, 4, 5, 6, 10, 11, 12, 13, 14, 17] [10, 11, 12, 0, 1, 2, 3, 13, 14, 15, 4, 5, 6, 7, 8, 16, 17, 9] rfl rfl (by decide) (by decide) (by decide) rfl (by decide) rfl rfl rfl hl.1 rfl (Nat.le_of_ble_eq_true rfl) d_Prices_fill_77 (fun H locs hP hD hS => ?_)
  refine lv_aload_n hx hb d_Prices_fill_80 rfl (lv_at hl 0 rfl) ?_
  obtain ⟨u7, hc8, hm⟩ := bd_some hm
  refine zV_v (n := 0) (wr := [((ad 15), .inl (kc 0, 360, .inl u1.1)), ((ad 16), .inl (kc 1, 360, .inl u1.2)), ((ad 17), .inl (kc 0, 64, .inl u3.1)), ((ad 18), .inl (kc 1, 64, .inl u3.2.1)), ((ad 19), .inl (kc 1, 64, .inl u3.2.2)), ((ad 20), .inl (kc 1, 512, .inl u5.1)), ((ad 21), .inl (kc 1, 512, .inl u5.2))]) (w1 := (wd_Prices_fillStrongMoves kc ad su_lines su_length su_perNote su_above su_numbers su_on su_given pr_size pr_total pr_perNote t1 pr_pitches u7)) (ws1 := (wd_Prices_fill kc ad su_lines su_length su_perNote su_above su_numbers su_on su_given pr_size pr_total pr_perNote t1 pr_pitches u1.1 u1.2 u3.1 u3.2.1 u3.2.2 u5.1 u5.2 u7)) (As := []) (rest := []) (ci := 4) (q0 := 8) (y := y_Prices_fillStrongMoves) ⟨hx, hb, hml, hown, hts⟩ (fun sz => c_Prices_fillStrongMoves hc8 sz) gw_583 gw_580 gw_582 gw_31 gw_116 hd_Prices_fillStrongMoves ⟨Nat.le_of_ble_eq_true rfl, Nat.le_of_ble_eq_true rfl⟩ ⟨rfl, rfl⟩ ⟨Nat.zero_le _, Nat.zero_le _⟩ hK hN hP hD hS hA hX [0, 1, 2, 3, 4, 5, 6, 7, 8, 9, 17] [10, 11, 12, 13, 14, 15, 16] [7, 8, 9, 10, 11, 12, 13, 14, 15, 16, 0, 1, 2, 3, 4, 5, 6, 17] rfl rfl (by decide) (by decide) (by decide) rfl (by decide) rfl rfl rfl hl.1 rfl (Nat.le_of_ble_eq_true rfl) d_Prices_fill_81 (fun H locs hP hD hS => ?_)
  replace hm := Option.some.inj hm; subst hm
  exact zret_v C hP hD hS d_Prices_fill_84
def m_Prices_fill (F : Nat) (su_lines : Int32) (su_length : Int32) (su_perNote : Int32) (su_above : Int32) (su_numbers : Nat → Int32) (su_on : Nat → Int32) (su_given : Nat → Nat → Int32) (pr_size : Int32) (pr_total : Int32) (pr_perNote : Int32) (pr_mostAlike : Int32) (pr_pitches : Nat → Int32) (pr_notePrices : Nat → Int32) (pr_mustPass : Nat → Int32) (pr_movePrices : Nat → Int32) (pr_mustTurn : Nat → Int32) (pr_badClosings : Nat → Int32) (pr_badTurns : Nat → Int32) (pr_passings : Nat → Int32) (pr_strongPrices : Nat → Int32)  : Option (Int32 × Int32 × Int32 × Int32 × (Nat → Int32) × (Nat → Int32) × (Nat → Int32) × (Nat → Int32) × (Nat → Int32) × (Nat → Int32) × (Nat → Int32) × (Nat → Int32) × (Nat → Int32)) :=
  (bd (m_Setup_writeChoice F su_numbers pr_pitches) (fun u1 => (bd (m_Setup_total su_lines su_length su_perNote) (fun u3 => (if (su_on (Int32.toNatClampNeg (7 : Int32))) = (0 : Int32) then
    m_Prices_fill_65 F su_lines su_length su_perNote su_above su_numbers su_on su_given  u1.1 u3 su_perNote pr_mostAlike u1.2 pr_notePrices pr_mustPass pr_movePrices pr_mustTurn pr_badClosings pr_badTurns pr_passings pr_strongPrices (0 : Int32)
  else
    m_Prices_fill_65 F su_lines su_length su_perNote su_above su_numbers su_on su_given  u1.1 u3 su_perNote pr_mostAlike u1.2 pr_notePrices pr_mustPass pr_movePrices pr_mustTurn pr_badClosings pr_badTurns pr_passings pr_strongPrices (su_numbers (Int32.toNatClampNeg (11 : Int32))))))))
set_option maxHeartbeats 4000000 in
set_option maxRecDepth 100000 in
theorem e_Prices_fill {r : Int32 × Int32 × Int32 × Int32 × (Nat → Int32) × (Nat → Int32) × (Nat → Int32) × (Nat → Int32) × (Nat → Int32) × (Nat → Int32) × (Nat → Int32) × (Nat → Int32) × (Nat → Int32)} {F : Nat} {ad : Nat → Nat} {su_lines : Int32} {su_length : Int32} {su_perNote : Int32} {su_above : Int32} {su_numbers : Nat → Int32} {su_on : Nat → Int32} {su_given : Nat → Nat → Int32} {pr_size : Int32} {pr_total : Int32} {pr_perNote : Int32} {pr_mostAlike : Int32} {pr_pitches : Nat → Int32} {pr_notePrices : Nat → Int32} {pr_mustPass : Nat → Int32} {pr_movePrices : Nat → Int32} {pr_mustTurn : Nat → Int32} {pr_badClosings : Nat → Int32} {pr_badTurns : Nat → Int32} {pr_passings : Nat → Int32} {pr_strongPrices : Nat → Int32}  {H : Heap} {locs : List Loc} {ls : Array Slot} (C : Cx p s m meth c args A D kc R_Prices b_Prices_fill 1 none) (hm : m_Prices_fill F su_lines su_length su_perNote su_above su_numbers su_on su_given pr_size pr_total pr_perNote pr_mostAlike pr_pitches pr_notePrices pr_mustPass pr_movePrices pr_mustTurn pr_badClosings pr_badTurns pr_passings pr_strongPrices = some r) (hZ : St D A s (wd_Prices_fill kc ad su_lines su_length su_perNote su_above su_numbers su_on su_given pr_size pr_total pr_perNote pr_mostAlike pr_pitches pr_notePrices pr_mustPass pr_movePrices pr_mustTurn pr_badClosings pr_badTurns pr_passings pr_strongPrices) H locs) (hl : lv_has ls 1 [(0, .ref (ad 13))]) : W p l e rm_Prices_fill s m args below meth c H locs 0 0 (MQ below (Qv D A (wd_Prices_fill kc ad su_lines su_length su_perNote su_above su_numbers su_on su_given r.1 r.2.1 r.2.2.1 r.2.2.2.1 r.2.2.2.2.1 r.2.2.2.2.2.1 r.2.2.2.2.2.2.1 r.2.2.2.2.2.2.2.1 r.2.2.2.2.2.2.2.2.1 r.2.2.2.2.2.2.2.2.2.1 r.2.2.2.2.2.2.2.2.2.2.1 r.2.2.2.2.2.2.2.2.2.2.2.1 r.2.2.2.2.2.2.2.2.2.2.2.2)) args s 0 0 A) (F0 m 0 ls []) := by
  obtain ⟨hx, hb, hr, hts, hown, hml, hlocks, hK, hN, hA, hX⟩ := id C
  obtain ⟨hP, hD, hS⟩ := hZ
  unfold m_Prices_fill at hm
  refine lv_aload_n hx hb d_Prices_fill_0 rfl (lv_at hl 0 rfl) ?_
  refine lv_aload_n hx hb d_Prices_fill_1 rfl (lv_at hl 0 rfl) ?_
  refine va_get (D := D) (ci := 4) (v := .ref (ad 1)) (C := R_Prices) (T := T_Prices) (N := 15) hx hb hts inG_Prices hown hK hP 8 rfl rfl 0 (by decide) (hts _ gw_248) (fun _ h9 => h9) rfl d_Prices_fill_2 ?_
  refine lv_aload_n hx hb d_Prices_fill_5 rfl (lv_at hl 0 rfl) ?_
  refine va_get (D := D) (ci := 4) (v := .ref (ad 14)) (C := R_Prices) (T := T_Prices) (N := 15) hx hb hts inG_Prices hown hK hP 8 rfl rfl 2 (by decide) (hts _ gw_250) (fun _ h9 => h9) rfl d_Prices_fill_6 ?_
  obtain ⟨u1, hc2, hm⟩ := bd_some hm
  refine zVN_i (n := 1) (wr := [((ad 3), .inl (kc 1, 11, .inl su_on)), ((ad 4), .inl (kc 3, 3, .inr (.inr (.inr (.inr (fun i => if i < 3 then some (ad (5 + i)) else none)))))), ((ad 5), .inl (kc 0, 12, .inl (su_given 0))), ((ad 6), .inl (kc 0, 12, .inl (su_given 1))), ((ad 7), .inl (kc 0, 12, .inl (su_given 2))), ((ad 8), .inr (5, [.ref (ad 1)])), ((ad 13), .inr (4, [.ref (ad 1), .ref (ad 8), .ref (ad 14), .ref (ad 15), .ref (ad 16), .ref (ad 17), .ref (ad 18), .ref (ad 19), .ref (ad 20), .ref (ad 21), .ref (ad 22), .int pr_size, .int pr_total, .int pr_perNote, .int pr_mostAlike])), ((ad 15), .inl (kc 0, 360, .inl pr_notePrices)), ((ad 16), .inl (kc 1, 360, .inl pr_mustPass)), ((ad 17), .inl (kc 0, 64, .inl pr_movePrices)), ((ad 18), .inl (kc 1, 64, .inl pr_mustTurn)), ((ad 19), .inl (kc 1, 64, .inl pr_badClosings)), ((ad 20), .inl (kc 1, 512, .inl pr_badTurns)), ((ad 21), .inl (kc 1, 512, .inl pr_passings)), ((ad 22), .inl (kc 0, 768, .inl pr_strongPrices))]) (w1 := (wd_Setup_writeChoice kc ad (ad 14) u1.2 su_lines su_length su_perNote su_above su_numbers)) (ws1 := (wd_Prices_fill kc ad su_lines su_length su_perNote su_above su_numbers su_on su_given pr_size pr_total pr_perNote pr_mostAlike u1.2 pr_notePrices pr_mustPass pr_movePrices pr_mustTurn pr_badClosings pr_badTurns pr_passings pr_strongPrices)) (As := [.ref (ad 14)]) (rest := [.ref (ad 13)]) (ci := 7) (q0 := 1) (y := y_Setup_writeChoice) (host := "SpeciesSolver") ⟨hx, hb, hml, hown, hts⟩ (fun sz => c_Setup_writeChoice hc2 sz) gw_496 (hN _ nw_493) gw_495 gw_11 gw_113 hd_Setup_writeChoice ⟨Nat.le_of_ble_eq_true rfl, Nat.le_of_ble_eq_true rfl⟩ ⟨rfl, rfl⟩ ⟨Nat.zero_le _, Nat.zero_le _⟩ hK hN hP hD hS hA hX [9, 0, 1] [2, 3, 4, 5, 6, 7, 8, 10, 11, 12, 13, 14, 15, 16, 17] [16, 17, 0, 1, 2, 3, 4, 5, 6, 15, 7, 8, 9, 10, 11, 12, 13, 14] rfl rfl (by decide) (by decide) (by decide) rfl (by decide) rfl rfl rfl hl.1 rfl (Nat.le_of_ble_eq_true rfl) d_Prices_fill_9 (fun H locs hP hD hS => ?_)
  refine va_put (D := D) (ci := 4) (v := .int u1.1) (ty := .int) (C := R_Prices) (T := T_Prices) (N := 15) hx hb hts inG_Prices ty_Prices tok_Prices nmo_Prices hown hK hP hD hS 8 rfl rfl 11 (by decide) (hts _ gw_263) (fun _ h9 => h9) rfl (tok_Prices 11 (by decide)) rfl rfl (Nat.le_of_ble_eq_true rfl) d_Prices_fill_12 (fun H locs hP hD hS => ?_)
  replace hP : va_P D vwCl (wd_Prices_fill kc ad su_lines su_length su_perNote su_above su_numbers su_on su_given u1.1 pr_total pr_perNote pr_mostAlike u1.2 pr_notePrices pr_mustPass pr_movePrices pr_mustTurn pr_badClosings pr_badTurns pr_passings pr_strongPrices) H := hP
  replace hD : va_D A (wd_Prices_fill kc ad su_lines su_length su_perNote su_above su_numbers su_on su_given u1.1 pr_total pr_perNote pr_mostAlike u1.2 pr_notePrices pr_mustPass pr_movePrices pr_mustTurn pr_badClosings pr_badTurns pr_passings pr_strongPrices) := hD
  refine lv_aload_n hx hb d_Prices_fill_15 rfl (lv_at hl 0 rfl) ?_
  refine lv_aload_n hx hb d_Prices_fill_16 rfl (lv_at hl 0 rfl) ?_
  refine va_get (D := D) (ci := 4) (v := .ref (ad 1)) (C := R_Prices) (T := T_Prices) (N := 15) hx hb hts inG_Prices hown hK hP 8 rfl rfl 0 (by decide) (hts _ gw_248) (fun _ h9 => h9) rfl d_Prices_fill_17 ?_
  obtain ⟨u3, hc4, hm⟩ := bd_some hm
  refine zVN_i (n := 0) (wr := [((ad 2), .inl (kc 0, 18, .inl su_numbers)), ((ad 3), .inl (kc 1, 11, .inl su_on)), ((ad 4), .inl (kc 3, 3, .inr (.inr (.inr (.inr (fun i => if i < 3 then some (ad (5 + i)) else none)))))), ((ad 5), .inl (kc 0, 12, .inl (su_given 0))), ((ad 6), .inl (kc 0, 12, .inl (su_given 1))), ((ad 7), .inl (kc 0, 12, .inl (su_given 2))), ((ad 8), .inr (5, [.ref (ad 1)])), ((ad 13), .inr (4, [.ref (ad 1), .ref (ad 8), .ref (ad 14), .ref (ad 15), .ref (ad 16), .ref (ad 17), .ref (ad 18), .ref (ad 19), .ref (ad 20), .ref (ad 21), .ref (ad 22), .int u1.1, .int pr_total, .int pr_perNote, .int pr_mostAlike])), ((ad 14), .inl (kc 0, 8, .inl u1.2)), ((ad 15), .inl (kc 0, 360, .inl pr_notePrices)), ((ad 16), .inl (kc 1, 360, .inl pr_mustPass)), ((ad 17), .inl (kc 0, 64, .inl pr_movePrices)), ((ad 18), .inl (kc 1, 64, .inl pr_mustTurn)), ((ad 19), .inl (kc 1, 64, .inl pr_badClosings)), ((ad 20), .inl (kc 1, 512, .inl pr_badTurns)), ((ad 21), .inl (kc 1, 512, .inl pr_passings)), ((ad 22), .inl (kc 0, 768, .inl pr_strongPrices))]) (w1 := (wd_Setup_total kc ad su_lines su_length su_perNote su_above)) (ws1 := (wd_Prices_fill kc ad su_lines su_length su_perNote su_above su_numbers su_on su_given u1.1 pr_total pr_perNote pr_mostAlike u1.2 pr_notePrices pr_mustPass pr_movePrices pr_mustTurn pr_badClosings pr_badTurns pr_passings pr_strongPrices)) (As := []) (rest := [.ref (ad 13)]) (ci := 7) (q0 := 0) (y := y_Setup_total) (host := "SpeciesSolver") ⟨hx, hb, hml, hown, hts⟩ (fun sz => c_Setup_total hc4 sz) gw_500 (hN _ nw_497) gw_499 gw_12 gw_113 hd_Setup_total ⟨Nat.le_of_ble_eq_true rfl, Nat.le_of_ble_eq_true rfl⟩ ⟨rfl, rfl⟩ ⟨Nat.zero_le _, Nat.zero_le _⟩ hK hN hP hD hS hA hX [0] [1, 2, 3, 4, 5, 6, 7, 8, 9, 10, 11, 12, 13, 14, 15, 16, 17] [17, 0, 1, 2, 3, 4, 5, 6, 7, 8, 9, 10, 11, 12, 13, 14, 15, 16] rfl rfl (by decide) (by decide) (by decide) rfl (by decide) rfl rfl rfl hl.1 rfl (Nat.le_of_ble_eq_true rfl) d_Prices_fill_20 (fun H locs hP hD hS => ?_)
  refine va_put (D := D) (ci := 4) (v := .int u3) (ty := .int) (C := R_Prices) (T := T_Prices) (N := 15) hx hb hts inG_Prices ty_Prices tok_Prices nmo_Prices hown hK hP hD hS 8 rfl rfl 12 (by decide) (hts _ gw_265) (fun _ h9 => h9) rfl (tok_Prices 12 (by decide)) rfl rfl (Nat.le_of_ble_eq_true rfl) d_Prices_fill_23 (fun H locs hP hD hS => ?_)
  replace hP : va_P D vwCl (wd_Prices_fill kc ad su_lines su_length su_perNote su_above su_numbers su_on su_given u1.1 u3 pr_perNote pr_mostAlike u1.2 pr_notePrices pr_mustPass pr_movePrices pr_mustTurn pr_badClosings pr_badTurns pr_passings pr_strongPrices) H := hP
  replace hD : va_D A (wd_Prices_fill kc ad su_lines su_length su_perNote su_above su_numbers su_on su_given u1.1 u3 pr_perNote pr_mostAlike u1.2 pr_notePrices pr_mustPass pr_movePrices pr_mustTurn pr_badClosings pr_badTurns pr_passings pr_strongPrices) := hD
  refine lv_aload_n hx hb d_Prices_fill_26 rfl (lv_at hl 0 rfl) ?_
  refine lv_aload_n hx hb d_Prices_fill_27 rfl (lv_at hl 0 rfl) ?_
  refine va_get (D := D) (ci := 4) (v := .ref (ad 1)) (C := R_Prices) (T := T_Prices) (N := 15) hx hb hts inG_Prices hown hK hP 8 rfl rfl 0 (by decide) (hts _ gw_248) (fun _ h9 => h9) rfl d_Prices_fill_28 ?_
  refine va_getN (D := D) (ci := 7) (v := .int su_perNote) (C := R_Setup) (T := T_Setup) (N := 7) hx hb hts inG_Setup hown hK hP 0 rfl rfl 5 (by decide) (va_Nw.use rfl (hN _ nw_178)) (fun _ h9 => h9) rfl d_Prices_fill_31 ?_
  refine va_put (D := D) (ci := 4) (v := .int su_perNote) (ty := .int) (C := R_Prices) (T := T_Prices) (N := 15) hx hb hts inG_Prices ty_Prices tok_Prices nmo_Prices hown hK hP hD hS 8 rfl rfl 13 (by decide) (hts _ gw_267) (fun _ h9 => h9) rfl (tok_Prices 13 (by decide)) rfl rfl (Nat.le_of_ble_eq_true rfl) d_Prices_fill_34 (fun H locs hP hD hS => ?_)
  replace hP : va_P D vwCl (wd_Prices_fill kc ad su_lines su_length su_perNote su_above su_numbers su_on su_given u1.1 u3 su_perNote pr_mostAlike u1.2 pr_notePrices pr_mustPass pr_movePrices pr_mustTurn pr_badClosings pr_badTurns pr_passings pr_strongPrices) H := hP
  replace hD : va_D A (wd_Prices_fill kc ad su_lines su_length su_perNote su_above su_numbers su_on su_given u1.1 u3 su_perNote pr_mostAlike u1.2 pr_notePrices pr_mustPass pr_movePrices pr_mustTurn pr_badClosings pr_badTurns pr_passings pr_strongPrices) := hD
  refine lv_aload_n hx hb d_Prices_fill_37 rfl (lv_at hl 0 rfl) ?_
  refine lv_aload_n hx hb d_Prices_fill_38 rfl (lv_at hl 0 rfl) ?_
  refine va_get (D := D) (ci := 4) (v := .ref (ad 1)) (C := R_Prices) (T := T_Prices) (N := 15) hx hb hts inG_Prices hown hK hP 8 rfl rfl 0 (by decide) (hts _ gw_248) (fun _ h9 => h9) rfl d_Prices_fill_39 ?_
  refine va_getN (D := D) (ci := 7) (v := .ref (ad 3)) (C := R_Setup) (T := T_Setup) (N := 7) hx hb hts inG_Setup hown hK hP 0 rfl rfl 1 (by decide) (va_Nw.use rfl (hN _ nw_165)) (fun _ h9 => h9) rfl d_Prices_fill_42 ?_
  refine lv_bipush (v := 7) hx hb d_Prices_fill_45 (by decide) ?_
  refine va_zald hx hb hK hP 2 1 rfl rfl (in_lit (by decide)) d_Prices_fill_47 ?_
  refine lv_if_eq (tgt := 64) hx hb d_Prices_fill_48 (by decide) (fun c5 => ?_) (fun c5 => ?_)
  · replace hm := ifT hm c5
    refine lv_iconst (v := 0) hx hb d_Prices_fill_64 (by decide) ?_
    exact l_Prices_fill_65 C  hm ⟨hP, hD, hS⟩ (lv_sub hl [0] rfl)
  · replace hm := ifF hm c5
    refine lv_aload_n hx hb d_Prices_fill_51 rfl (lv_at hl 0 rfl) ?_
    refine va_get (D := D) (ci := 4) (v := .ref (ad 1)) (C := R_Prices) (T := T_Prices) (N := 15) hx hb hts inG_Prices hown hK hP 8 rfl rfl 0 (by decide) (hts _ gw_248) (fun _ h9 => h9) rfl d_Prices_fill_52 ?_
    refine va_getN (D := D) (ci := 7) (v := .ref (ad 2)) (C := R_Setup) (T := T_Setup) (N := 7) hx hb hts inG_Setup hown hK hP 0 rfl rfl 0 (by decide) (va_Nw.use rfl (hN _ nw_159)) (fun _ h9 => h9) rfl d_Prices_fill_55 ?_
    refine lv_bipush (v := 11) hx hb d_Prices_fill_58 (by decide) ?_
    refine va_iald hx hb hK hP 1 0 rfl rfl (in_lit (by decide)) d_Prices_fill_60 ?_
    refine lv_goto (tgt := 65) hx hb d_Prices_fill_61 (by decide) ?_
    exact l_Prices_fill_65 C  hm ⟨hP, hD, hS⟩ (lv_sub hl [0] rfl)
set_option maxHeartbeats 4000000 in
set_option maxRecDepth 100000 in
theorem c_Prices_fill {l : Launch} {D : va_G} {kc : Nat → ClassId} {r : Int32 × Int32 × Int32 × Int32 × (Nat → Int32) × (Nat → Int32) × (Nat → Int32) × (Nat → Int32) × (Nat → Int32) × (Nat → Int32) × (Nat → Int32) × (Nat → Int32) × (Nat → Int32)} {F : Nat} {ad : Nat → Nat} {su_lines : Int32} {su_length : Int32} {su_perNote : Int32} {su_above : Int32} {su_numbers : Nat → Int32} {su_on : Nat → Int32} {su_given : Nat → Nat → Int32} {pr_size : Int32} {pr_total : Int32} {pr_perNote : Int32} {pr_mostAlike : Int32} {pr_pitches : Nat → Int32} {pr_notePrices : Nat → Int32} {pr_mustPass : Nat → Int32} {pr_movePrices : Nat → Int32} {pr_mustTurn : Nat → Int32} {pr_badClosings : Nat → Int32} {pr_badTurns : Nat → Int32} {pr_passings : Nat → Int32} {pr_strongPrices : Nat → Int32}  (hm : m_Prices_fill F su_lines su_length su_perNote su_above su_numbers su_on su_given pr_size pr_total pr_perNote pr_mostAlike pr_pitches pr_notePrices pr_mustPass pr_movePrices pr_mustTurn pr_badClosings pr_badTurns pr_passings pr_strongPrices = some r) (sz : Nat) : Cv l y_Prices_fill ws_Prices_fill rm_Prices_fill D kc sz [.ref (ad 13)] (wd_Prices_fill kc ad su_lines su_length su_perNote su_above su_numbers su_on su_given pr_size pr_total pr_perNote pr_mostAlike pr_pitches pr_notePrices pr_mustPass pr_movePrices pr_mustTurn pr_badClosings pr_badTurns pr_passings pr_strongPrices) (wd_Prices_fill kc ad su_lines su_length su_perNote su_above su_numbers su_on su_given r.1 r.2.1 r.2.2.1 r.2.2.2.1 r.2.2.2.2.1 r.2.2.2.2.2.1 r.2.2.2.2.2.2.1 r.2.2.2.2.2.2.2.1 r.2.2.2.2.2.2.2.2.1 r.2.2.2.2.2.2.2.2.2.1 r.2.2.2.2.2.2.2.2.2.2.1 r.2.2.2.2.2.2.2.2.2.2.2.1 r.2.2.2.2.2.2.2.2.2.2.2.2) :=
  Cz_of (Qf := fun A => (Qv D A (wd_Prices_fill kc ad su_lines su_length su_perNote su_above su_numbers su_on su_given r.1 r.2.1 r.2.2.1 r.2.2.2.1 r.2.2.2.2.1 r.2.2.2.2.2.1 r.2.2.2.2.2.2.1 r.2.2.2.2.2.2.2.1 r.2.2.2.2.2.2.2.2.1 r.2.2.2.2.2.2.2.2.2.1 r.2.2.2.2.2.2.2.2.2.2.1 r.2.2.2.2.2.2.2.2.2.2.2.1 r.2.2.2.2.2.2.2.2.2.2.2.2))) (cc := b_Prices_fill) (maxL := 1) (ret := none) (by decide) rfl rfl (fun C hZ hl => e_Prices_fill C hm hZ hl)
abbrev b_Search_beginLayer : ByteArray := prog_6_method_6_code
abbrev y_Search_beginLayer : MethodName := ⟨"SpeciesSolver$Search", "beginLayer", "(I)V"⟩
theorem d_Search_beginLayer_0 : decode b_Search_beginLayer 0 = .ok (.aload_n 0, 1) := by decide +kernel
theorem d_Search_beginLayer_1 : decode b_Search_beginLayer 1 = .ok (.getfield 16, 3) := by decide +kernel
theorem d_Search_beginLayer_4 : decode b_Search_beginLayer 4 = .ok (.iload_n 1, 1) := by decide +kernel
theorem d_Search_beginLayer_5 : decode b_Search_beginLayer 5 = .ok (.iconst 0, 1) := by decide +kernel
theorem d_Search_beginLayer_6 : decode b_Search_beginLayer 6 = .ok (.iastore, 1) := by decide +kernel
theorem d_Search_beginLayer_7 : decode b_Search_beginLayer 7 = .ok (.aload_n 0, 1) := by decide +kernel
theorem d_Search_beginLayer_8 : decode b_Search_beginLayer 8 = .ok (.dup, 1) := by decide +kernel
theorem d_Search_beginLayer_9 : decode b_Search_beginLayer 9 = .ok (.getfield 28, 3) := by decide +kernel
theorem d_Search_beginLayer_12 : decode b_Search_beginLayer 12 = .ok (.iconst 1, 1) := by decide +kernel
theorem d_Search_beginLayer_13 : decode b_Search_beginLayer 13 = .ok (.iadd, 1) := by decide +kernel
theorem d_Search_beginLayer_14 : decode b_Search_beginLayer 14 = .ok (.putfield 28, 3) := by decide +kernel
theorem d_Search_beginLayer_17 : decode b_Search_beginLayer 17 = .ok (.return_, 1) := by decide +kernel
abbrev wd_Search_beginLayer (kc : Nat → ClassId) (ad : Nat → Nat) (se_mark : Int32) (se_top : Int32) (se_closes : Int32) (se_leastCost : Int32) (se_allLines : Int64) (se_leastLines : Int64) (se_layerSizes : Nat → Int32) : va_W := [((ad 23), .inr (6, [.ref (ad 1), .ref (ad 13), .ref (ad 24), .ref (ad 25), .ref (ad 26), .ref (ad 27), .ref (ad 28), .int se_mark, .ref (ad 29), .ref (ad 30), .ref (ad 31), .ref (ad 32), .ref (ad 33), .int se_top, .int se_closes, .int se_leastCost, .long se_allLines, .long se_leastLines])), ((ad 25), .inl (kc 0, 45, .inl se_layerSizes))]
abbrev rm_Search_beginLayer : Room := { frames := 0, cells := 0, slots := 0, locals := 0 }
abbrev cw_Search_beginLayer : Cond := .code y_Search_beginLayer b_Search_beginLayer 2 none
abbrev ws_Search_beginLayer : List Cond := cw_Search_beginLayer :: GW
theorem hd_Search_beginLayer : y_Search_beginLayer.cls ≠ "java/lang/invoke/MethodHandle" ∧ y_Search_beginLayer.cls ≠ "java/lang/invoke/VarHandle" ∧ (parseMethodDescriptor y_Search_beginLayer.desc).map (fun d => d.parameters.length) = some 1 := by decide +kernel
def m_Search_beginLayer  (se_mark : Int32) (se_layerSizes : Nat → Int32) (a1 : Int32) : Option (Int32 × (Nat → Int32)) :=
  (gd a1 45 (some ((se_mark + (1 : Int32)), (upd se_layerSizes (Int32.toNatClampNeg a1) (0 : Int32)))))
set_option maxHeartbeats 4000000 in
set_option maxRecDepth 100000 in
theorem e_Search_beginLayer {r : Int32 × (Nat → Int32)} {ad : Nat → Nat} {se_mark : Int32} {se_top : Int32} {se_closes : Int32} {se_leastCost : Int32} {se_allLines : Int64} {se_leastLines : Int64} {se_layerSizes : Nat → Int32} {a1 : Int32} {H : Heap} {locs : List Loc} {ls : Array Slot} (C : Cx p s m meth c args A D kc R_Search b_Search_beginLayer 2 none) (hm : m_Search_beginLayer  se_mark se_layerSizes a1 = some r) (hZ : St D A s (wd_Search_beginLayer kc ad se_mark se_top se_closes se_leastCost se_allLines se_leastLines se_layerSizes) H locs) (hl : lv_has ls 2 [(0, .ref (ad 23)), (1, .int a1)]) : W p l e rm_Search_beginLayer s m args below meth c H locs 0 0 (MQ below (Qv D A (wd_Search_beginLayer kc ad r.1 se_top se_closes se_leastCost se_allLines se_leastLines r.2)) args s 0 0 A) (F0 m 0 ls []) := by
  obtain ⟨hx, hb, hr, hts, hown, hml, hlocks, hK, hN, hA, hX⟩ := id C
  obtain ⟨hP, hD, hS⟩ := hZ
  unfold m_Search_beginLayer at hm
  refine lv_aload_n hx hb d_Search_beginLayer_0 rfl (lv_at hl 0 rfl) ?_
  refine va_get (D := D) (ci := 6) (v := .ref (ad 25)) (C := R_Search) (T := T_Search) (N := 18) hx hb hts inG_Search hown hK hP 0 rfl rfl 3 (by decide) (hts _ gw_312) (fun _ h9 => h9) rfl d_Search_beginLayer_1 ?_
  refine lv_iload_n hx hb d_Search_beginLayer_4 rfl (lv_at hl 1 rfl) ?_
  refine lv_iconst (v := 0) hx hb d_Search_beginLayer_5 (by decide) ?_
  obtain ⟨hi1, hm⟩ := gd_some hm
  refine va_iast hx hb hK hP hD hS 1 0 rfl rfl hi1 d_Search_beginLayer_6 (fun H locs hP hD hS => ?_)
  replace hP : va_P D vwCl (wd_Search_beginLayer kc ad se_mark se_top se_closes se_leastCost se_allLines se_leastLines (upd se_layerSizes (Int32.toNatClampNeg a1) (0 : Int32))) H := hP
  replace hD : va_D A (wd_Search_beginLayer kc ad se_mark se_top se_closes se_leastCost se_allLines se_leastLines (upd se_layerSizes (Int32.toNatClampNeg a1) (0 : Int32))) := hD
  refine lv_aload_n hx hb d_Search_beginLayer_7 rfl (lv_at hl 0 rfl) ?_
  refine lv_dup hx hb d_Search_beginLayer_8 rfl ?_
  refine va_get (D := D) (ci := 6) (v := .int se_mark) (C := R_Search) (T := T_Search) (N := 18) hx hb hts inG_Search hown hK hP 0 rfl rfl 7 (by decide) (hts _ gw_316) (fun _ h9 => h9) rfl d_Search_beginLayer_9 ?_
  refine lv_iconst (v := 1) hx hb d_Search_beginLayer_12 (by decide) ?_
  refine lv_iadd hx hb d_Search_beginLayer_13 ?_
  refine va_put (D := D) (ci := 6) (v := .int (se_mark + (1 : Int32))) (ty := .int) (C := R_Search) (T := T_Search) (N := 18) hx hb hts inG_Search ty_Search tok_Search nmo_Search hown hK hP hD hS 0 rfl rfl 7 (by decide) (hts _ gw_316) (fun _ h9 => h9) rfl (tok_Search 7 (by decide)) rfl rfl (Nat.le_of_ble_eq_true rfl) d_Search_beginLayer_14 (fun H locs hP hD hS => ?_)
  replace hP : va_P D vwCl (wd_Search_beginLayer kc ad (se_mark + (1 : Int32)) se_top se_closes se_leastCost se_allLines se_leastLines (upd se_layerSizes (Int32.toNatClampNeg a1) (0 : Int32))) H := hP
  replace hD : va_D A (wd_Search_beginLayer kc ad (se_mark + (1 : Int32)) se_top se_closes se_leastCost se_allLines se_leastLines (upd se_layerSizes (Int32.toNatClampNeg a1) (0 : Int32))) := hD
  replace hm := Option.some.inj hm; subst hm
  exact zret_v C hP hD hS d_Search_beginLayer_17
set_option maxHeartbeats 4000000 in
set_option maxRecDepth 100000 in
theorem c_Search_beginLayer {l : Launch} {D : va_G} {kc : Nat → ClassId} {r : Int32 × (Nat → Int32)} {ad : Nat → Nat} {se_mark : Int32} {se_top : Int32} {se_closes : Int32} {se_leastCost : Int32} {se_allLines : Int64} {se_leastLines : Int64} {se_layerSizes : Nat → Int32} {a1 : Int32} (hm : m_Search_beginLayer  se_mark se_layerSizes a1 = some r) (sz : Nat) : Cv l y_Search_beginLayer ws_Search_beginLayer rm_Search_beginLayer D kc sz [.ref (ad 23), .int a1] (wd_Search_beginLayer kc ad se_mark se_top se_closes se_leastCost se_allLines se_leastLines se_layerSizes) (wd_Search_beginLayer kc ad r.1 se_top se_closes se_leastCost se_allLines se_leastLines r.2) :=
  Cz_of (Qf := fun A => (Qv D A (wd_Search_beginLayer kc ad r.1 se_top se_closes se_leastCost se_allLines se_leastLines r.2))) (cc := b_Search_beginLayer) (maxL := 2) (ret := none) (by decide) rfl rfl (fun C hZ hl => e_Search_beginLayer C hm hZ hl)
abbrev b_Search_firstState : ByteArray := prog_6_method_9_code
abbrev y_Search_firstState : MethodName := ⟨"SpeciesSolver$Search", "firstState", "(I)I"⟩
theorem d_Search_firstState_0 : decode b_Search_firstState 0 = .ok (.iload_n 1, 1) := by decide +kernel
theorem d_Search_firstState_1 : decode b_Search_firstState 1 = .ok (.aload_n 0, 1) := by decide +kernel
theorem d_Search_firstState_2 : decode b_Search_firstState 2 = .ok (.getfield 48, 3) := by decide +kernel
theorem d_Search_firstState_5 : decode b_Search_firstState 5 = .ok (.if_icmp .ne 7, 3) := by decide +kernel
theorem d_Search_firstState_8 : decode b_Search_firstState 8 = .ok (.iconst 1, 1) := by decide +kernel
theorem d_Search_firstState_9 : decode b_Search_firstState 9 = .ok (.goto 4, 3) := by decide +kernel
theorem d_Search_firstState_12 : decode b_Search_firstState 12 = .ok (.iconst 0, 1) := by decide +kernel
theorem d_Search_firstState_13 : decode b_Search_firstState 13 = .ok (.istore_n 2, 1) := by decide +kernel
theorem d_Search_firstState_14 : decode b_Search_firstState 14 = .ok (.iload_n 1, 1) := by decide +kernel
theorem d_Search_firstState_15 : decode b_Search_firstState 15 = .ok (.iload_n 1, 1) := by decide +kernel
theorem d_Search_firstState_16 : decode b_Search_firstState 16 = .ok (.iconst 3, 1) := by decide +kernel
theorem d_Search_firstState_17 : decode b_Search_firstState 17 = .ok (.ishl, 1) := by decide +kernel
theorem d_Search_firstState_18 : decode b_Search_firstState 18 = .ok (.ior, 1) := by decide +kernel
theorem d_Search_firstState_19 : decode b_Search_firstState 19 = .ok (.iload_n 1, 1) := by decide +kernel
theorem d_Search_firstState_20 : decode b_Search_firstState 20 = .ok (.bipush 6, 2) := by decide +kernel
theorem d_Search_firstState_22 : decode b_Search_firstState 22 = .ok (.ishl, 1) := by decide +kernel
theorem d_Search_firstState_23 : decode b_Search_firstState 23 = .ok (.ior, 1) := by decide +kernel
theorem d_Search_firstState_24 : decode b_Search_firstState 24 = .ok (.iload_n 2, 1) := by decide +kernel
theorem d_Search_firstState_25 : decode b_Search_firstState 25 = .ok (.bipush 9, 2) := by decide +kernel
theorem d_Search_firstState_27 : decode b_Search_firstState 27 = .ok (.ishl, 1) := by decide +kernel
theorem d_Search_firstState_28 : decode b_Search_firstState 28 = .ok (.ior, 1) := by decide +kernel
theorem d_Search_firstState_29 : decode b_Search_firstState 29 = .ok (.ireturn, 1) := by decide +kernel
abbrev wd_Search_firstState (kc : Nat → ClassId) (ad : Nat → Nat) (se_mark : Int32) (se_top : Int32) (se_closes : Int32) (se_leastCost : Int32) (se_allLines : Int64) (se_leastLines : Int64) : va_W := [((ad 23), .inr (6, [.ref (ad 1), .ref (ad 13), .ref (ad 24), .ref (ad 25), .ref (ad 26), .ref (ad 27), .ref (ad 28), .int se_mark, .ref (ad 29), .ref (ad 30), .ref (ad 31), .ref (ad 32), .ref (ad 33), .int se_top, .int se_closes, .int se_leastCost, .long se_allLines, .long se_leastLines]))]
abbrev rm_Search_firstState : Room := { frames := 0, cells := 0, slots := 0, locals := 0 }
abbrev cw_Search_firstState : Cond := .code y_Search_firstState b_Search_firstState 3 (some .int)
abbrev ws_Search_firstState : List Cond := cw_Search_firstState :: GW
theorem hd_Search_firstState : y_Search_firstState.cls ≠ "java/lang/invoke/MethodHandle" ∧ y_Search_firstState.cls ≠ "java/lang/invoke/VarHandle" ∧ (parseMethodDescriptor y_Search_firstState.desc).map (fun d => d.parameters.length) = some 1 := by decide +kernel
def m_Search_firstState_13 (se_top : Int32)   (x1 : Int32) (t0 : Int32) : Option (Int32) :=
  (some (((x1 ||| (x1 <<< ((3 : Int32) &&& 31))) ||| (x1 <<< ((6 : Int32) &&& 31))) ||| (t0 <<< ((9 : Int32) &&& 31))))
set_option maxHeartbeats 4000000 in
set_option maxRecDepth 100000 in
theorem l_Search_firstState_13 {r : Int32} {ad : Nat → Nat} {se_mark : Int32} {se_top : Int32} {se_closes : Int32} {se_leastCost : Int32} {se_allLines : Int64} {se_leastLines : Int64}  {x1 : Int32} {t0 : Int32} {H : Heap} {locs : List Loc} {ls : Array Slot} (C : Cx p s m meth c args A D kc R_Search b_Search_firstState 3 (some .int))  (hm : m_Search_firstState_13 se_top  x1 t0 = some r) (hZ : St D A s (wd_Search_firstState kc ad se_mark se_top se_closes se_leastCost se_allLines se_leastLines) H locs) (hl : lv_has ls 3 [(1, .int x1)]) : W p l e rm_Search_firstState s m args below meth c H locs 0 0 (MQ below (Qi D A (wd_Search_firstState kc ad se_mark se_top se_closes se_leastCost se_allLines se_leastLines) r) args s 0 0 A) (F0 m 13 ls [.int t0]) := by
  obtain ⟨hx, hb, hr, hts, hown, hml, hlocks, hK, hN, hA, hX⟩ := id C
  obtain ⟨hP, hD, hS⟩ := hZ
  unfold m_Search_firstState_13 at hm
  refine lv_istore_n (lv' := [(2, .int t0), (1, .int x1)]) hx hb d_Search_firstState_13 rfl hl (by decide) rfl (fun ls hl => ?_)
  refine lv_iload_n hx hb d_Search_firstState_14 rfl (lv_at hl 1 rfl) ?_
  refine lv_iload_n hx hb d_Search_firstState_15 rfl (lv_at hl 1 rfl) ?_
  refine lv_iconst (v := 3) hx hb d_Search_firstState_16 (by decide) ?_
  refine lv_ishl hx hb d_Search_firstState_17 ?_
  refine lv_ior hx hb d_Search_firstState_18 ?_
  refine lv_iload_n hx hb d_Search_firstState_19 rfl (lv_at hl 1 rfl) ?_
  refine lv_bipush (v := 6) hx hb d_Search_firstState_20 (by decide) ?_
  refine lv_ishl hx hb d_Search_firstState_22 ?_
  refine lv_ior hx hb d_Search_firstState_23 ?_
  refine lv_iload_n hx hb d_Search_firstState_24 rfl (lv_at hl 0 rfl) ?_
  refine lv_bipush (v := 9) hx hb d_Search_firstState_25 (by decide) ?_
  refine lv_ishl hx hb d_Search_firstState_27 ?_
  refine lv_ior hx hb d_Search_firstState_28 ?_
  replace hm := Option.some.inj hm; subst hm
  exact zret_i C hP hD hS d_Search_firstState_29
def m_Search_firstState (se_top : Int32)  (a1 : Int32) : Option (Int32) :=
  (if a1 = se_top then
    m_Search_firstState_13 se_top  a1 (1 : Int32)
  else
    m_Search_firstState_13 se_top  a1 (0 : Int32))
set_option maxHeartbeats 4000000 in
set_option maxRecDepth 100000 in
theorem e_Search_firstState {r : Int32} {ad : Nat → Nat} {se_mark : Int32} {se_top : Int32} {se_closes : Int32} {se_leastCost : Int32} {se_allLines : Int64} {se_leastLines : Int64} {a1 : Int32} {H : Heap} {locs : List Loc} {ls : Array Slot} (C : Cx p s m meth c args A D kc R_Search b_Search_firstState 3 (some .int)) (hm : m_Search_firstState se_top a1 = some r) (hZ : St D A s (wd_Search_firstState kc ad se_mark se_top se_closes se_leastCost se_allLines se_leastLines) H locs) (hl : lv_has ls 3 [(0, .ref (ad 23)), (1, .int a1)]) : W p l e rm_Search_firstState s m args below meth c H locs 0 0 (MQ below (Qi D A (wd_Search_firstState kc ad se_mark se_top se_closes se_leastCost se_allLines se_leastLines) r) args s 0 0 A) (F0 m 0 ls []) := by
  obtain ⟨hx, hb, hr, hts, hown, hml, hlocks, hK, hN, hA, hX⟩ := id C
  obtain ⟨hP, hD, hS⟩ := hZ
  unfold m_Search_firstState at hm
  refine lv_iload_n hx hb d_Search_firstState_0 rfl (lv_at hl 1 rfl) ?_
  refine lv_aload_n hx hb d_Search_firstState_1 rfl (lv_at hl 0 rfl) ?_
  refine va_get (D := D) (ci := 6) (v := .int se_top) (C := R_Search) (T := T_Search) (N := 18) hx hb hts inG_Search hown hK hP 0 rfl rfl 13 (by decide) (hts _ gw_322) (fun _ h9 => h9) rfl d_Search_firstState_2 ?_
  refine lv_icmp_ne (tgt := 12) hx hb d_Search_firstState_5 (by decide) (fun c1 => ?_) (fun c1 => ?_)
  · replace hm := ifF hm c1
    refine lv_iconst (v := 0) hx hb d_Search_firstState_12 (by decide) ?_
    exact l_Search_firstState_13 C  hm ⟨hP, hD, hS⟩ (lv_sub hl [1] rfl)
  · replace hm := ifT hm c1
    refine lv_iconst (v := 1) hx hb d_Search_firstState_8 (by decide) ?_
    refine lv_goto (tgt := 13) hx hb d_Search_firstState_9 (by decide) ?_
    exact l_Search_firstState_13 C  hm ⟨hP, hD, hS⟩ (lv_sub hl [1] rfl)
set_option maxHeartbeats 4000000 in
set_option maxRecDepth 100000 in
theorem c_Search_firstState {l : Launch} {D : va_G} {kc : Nat → ClassId} {r : Int32} {ad : Nat → Nat} {se_mark : Int32} {se_top : Int32} {se_closes : Int32} {se_leastCost : Int32} {se_allLines : Int64} {se_leastLines : Int64} {a1 : Int32} (hm : m_Search_firstState se_top a1 = some r) (sz : Nat) : Ci l y_Search_firstState ws_Search_firstState rm_Search_firstState D kc sz [.ref (ad 23), .int a1] (wd_Search_firstState kc ad se_mark se_top se_closes se_leastCost se_allLines se_leastLines) (wd_Search_firstState kc ad se_mark se_top se_closes se_leastCost se_allLines se_leastLines) r :=
  Cz_of (Qf := fun A => (Qi D A (wd_Search_firstState kc ad se_mark se_top se_closes se_leastCost se_allLines se_leastLines) r)) (cc := b_Search_firstState) (maxL := 3) (ret := (some .int)) (by decide) rfl rfl (fun C hZ hl => e_Search_firstState C hm hZ hl)
abbrev b_Search_enter : ByteArray := prog_6_method_7_code
abbrev y_Search_enter : MethodName := ⟨"SpeciesSolver$Search", "enter", "(II)V"⟩
theorem d_Search_enter_0 : decode b_Search_enter 0 = .ok (.aload_n 0, 1) := by decide +kernel
theorem d_Search_enter_1 : decode b_Search_enter 1 = .ok (.getfield 25, 3) := by decide +kernel
theorem d_Search_enter_4 : decode b_Search_enter 4 = .ok (.iload_n 2, 1) := by decide +kernel
theorem d_Search_enter_5 : decode b_Search_enter 5 = .ok (.iaload, 1) := by decide +kernel
theorem d_Search_enter_6 : decode b_Search_enter 6 = .ok (.aload_n 0, 1) := by decide +kernel
theorem d_Search_enter_7 : decode b_Search_enter 7 = .ok (.getfield 28, 3) := by decide +kernel
theorem d_Search_enter_10 : decode b_Search_enter 10 = .ok (.if_icmp .eq 53, 3) := by decide +kernel
theorem d_Search_enter_13 : decode b_Search_enter 13 = .ok (.aload_n 0, 1) := by decide +kernel
theorem d_Search_enter_14 : decode b_Search_enter 14 = .ok (.getfield 16, 3) := by decide +kernel
theorem d_Search_enter_17 : decode b_Search_enter 17 = .ok (.iload_n 1, 1) := by decide +kernel
theorem d_Search_enter_18 : decode b_Search_enter 18 = .ok (.iaload, 1) := by decide +kernel
theorem d_Search_enter_19 : decode b_Search_enter 19 = .ok (.sipush 1280, 3) := by decide +kernel
theorem d_Search_enter_22 : decode b_Search_enter 22 = .ok (.if_icmp .ge 41, 3) := by decide +kernel
theorem d_Search_enter_25 : decode b_Search_enter 25 = .ok (.aload_n 0, 1) := by decide +kernel
theorem d_Search_enter_26 : decode b_Search_enter 26 = .ok (.getfield 25, 3) := by decide +kernel
theorem d_Search_enter_29 : decode b_Search_enter 29 = .ok (.iload_n 2, 1) := by decide +kernel
theorem d_Search_enter_30 : decode b_Search_enter 30 = .ok (.aload_n 0, 1) := by decide +kernel
theorem d_Search_enter_31 : decode b_Search_enter 31 = .ok (.getfield 28, 3) := by decide +kernel
theorem d_Search_enter_34 : decode b_Search_enter 34 = .ok (.iastore, 1) := by decide +kernel
theorem d_Search_enter_35 : decode b_Search_enter 35 = .ok (.aload_n 0, 1) := by decide +kernel
theorem d_Search_enter_36 : decode b_Search_enter 36 = .ok (.getfield 12, 3) := by decide +kernel
theorem d_Search_enter_39 : decode b_Search_enter 39 = .ok (.iload_n 1, 1) := by decide +kernel
theorem d_Search_enter_40 : decode b_Search_enter 40 = .ok (.sipush 1280, 3) := by decide +kernel
theorem d_Search_enter_43 : decode b_Search_enter 43 = .ok (.imul, 1) := by decide +kernel
theorem d_Search_enter_44 : decode b_Search_enter 44 = .ok (.aload_n 0, 1) := by decide +kernel
theorem d_Search_enter_45 : decode b_Search_enter 45 = .ok (.getfield 16, 3) := by decide +kernel
theorem d_Search_enter_48 : decode b_Search_enter 48 = .ok (.iload_n 1, 1) := by decide +kernel
theorem d_Search_enter_49 : decode b_Search_enter 49 = .ok (.iaload, 1) := by decide +kernel
theorem d_Search_enter_50 : decode b_Search_enter 50 = .ok (.iadd, 1) := by decide +kernel
theorem d_Search_enter_51 : decode b_Search_enter 51 = .ok (.iload_n 2, 1) := by decide +kernel
theorem d_Search_enter_52 : decode b_Search_enter 52 = .ok (.iastore, 1) := by decide +kernel
theorem d_Search_enter_53 : decode b_Search_enter 53 = .ok (.aload_n 0, 1) := by decide +kernel
theorem d_Search_enter_54 : decode b_Search_enter 54 = .ok (.getfield 16, 3) := by decide +kernel
theorem d_Search_enter_57 : decode b_Search_enter 57 = .ok (.iload_n 1, 1) := by decide +kernel
theorem d_Search_enter_58 : decode b_Search_enter 58 = .ok (.dup2, 1) := by decide +kernel
theorem d_Search_enter_59 : decode b_Search_enter 59 = .ok (.iaload, 1) := by decide +kernel
theorem d_Search_enter_60 : decode b_Search_enter 60 = .ok (.iconst 1, 1) := by decide +kernel
theorem d_Search_enter_61 : decode b_Search_enter 61 = .ok (.iadd, 1) := by decide +kernel
theorem d_Search_enter_62 : decode b_Search_enter 62 = .ok (.iastore, 1) := by decide +kernel
theorem d_Search_enter_63 : decode b_Search_enter 63 = .ok (.return_, 1) := by decide +kernel
abbrev wd_Search_enter (kc : Nat → ClassId) (ad : Nat → Nat) (se_mark : Int32) (se_top : Int32) (se_closes : Int32) (se_leastCost : Int32) (se_allLines : Int64) (se_leastLines : Int64) (se_layers : Nat → Int32) (se_layerSizes : Nat → Int32) (se_marks : Nat → Int32) : va_W := [((ad 23), .inr (6, [.ref (ad 1), .ref (ad 13), .ref (ad 24), .ref (ad 25), .ref (ad 26), .ref (ad 27), .ref (ad 28), .int se_mark, .ref (ad 29), .ref (ad 30), .ref (ad 31), .ref (ad 32), .ref (ad 33), .int se_top, .int se_closes, .int se_leastCost, .long se_allLines, .long se_leastLines])), ((ad 24), .inl (kc 0, 57600, .inl se_layers)), ((ad 25), .inl (kc 0, 45, .inl se_layerSizes)), ((ad 28), .inl (kc 0, 3072, .inl se_marks))]
abbrev rm_Search_enter : Room := { frames := 0, cells := 0, slots := 0, locals := 0 }
abbrev cw_Search_enter : Cond := .code y_Search_enter b_Search_enter 3 none
abbrev ws_Search_enter : List Cond := cw_Search_enter :: GW
theorem hd_Search_enter : y_Search_enter.cls ≠ "java/lang/invoke/MethodHandle" ∧ y_Search_enter.cls ≠ "java/lang/invoke/VarHandle" ∧ (parseMethodDescriptor y_Search_enter.desc).map (fun d => d.parameters.length) = some 2 := by decide +kernel
def m_Search_enter (se_mark : Int32) (se_layers : Nat → Int32) (se_layerSizes : Nat → Int32) (se_marks : Nat → Int32) (a1 : Int32) (a2 : Int32) : Option ((Nat → Int32) × (Nat → Int32) × (Nat → Int32)) :=
  (gd a2 3072 (if (se_marks (Int32.toNatClampNeg a2)) = se_mark then
    (some (se_layers, se_layerSizes, se_marks))
  else
    (gd a1 45 (if (1280 : Int32) ≤ (se_layerSizes (Int32.toNatClampNeg a1)) then
      (some (se_layers, se_layerSizes, se_marks))
    else
      (gd a2 3072 (gd a1 45 (gd ((a1 * (1280 : Int32)) + (se_layerSizes (Int32.toNatClampNeg a1))) 57600 (gd a1 45 (gd a1 45 (some ((upd se_layers (Int32.toNatClampNeg ((a1 * (1280 : Int32)) + (se_layerSizes (Int32.toNatClampNeg a1)))) a2), (upd se_layerSizes (Int32.toNatClampNeg a1) ((se_layerSizes (Int32.toNatClampNeg a1)) + (1 : Int32))), (upd se_marks (Int32.toNatClampNeg a2) se_mark))))))))))))
set_option maxHeartbeats 4000000 in
set_option maxRecDepth 100000 in
theorem e_Search_enter {r : (Nat → Int32) × (Nat → Int32) × (Nat → Int32)} {ad : Nat → Nat} {se_mark : Int32} {se_top : Int32} {se_closes : Int32} {se_leastCost : Int32} {se_allLines : Int64} {se_leastLines : Int64} {se_layers : Nat → Int32} {se_layerSizes : Nat → Int32} {se_marks : Nat → Int32} {a1 : Int32} {a2 : Int32} {H : Heap} {locs : List Loc} {ls : Array Slot} (C : Cx p s m meth c args A D kc R_Search b_Search_enter 3 none) (hm : m_Search_enter se_mark se_layers se_layerSizes se_marks a1 a2 = some r) (hZ : St D A s (wd_Search_enter kc ad se_mark se_top se_closes se_leastCost se_allLines se_leastLines se_layers se_layerSizes se_marks) H locs) (hl : lv_has ls 3 [(0, .ref (ad 23)), (1, .int a1), (2, .int a2)]) : W p l e rm_Search_enter s m args below meth c H locs 0 0 (MQ below (Qv D A (wd_Search_enter kc ad se_mark se_top se_closes se_leastCost se_allLines se_leastLines r.1 r.2.1 r.2.2)) args s 0 0 A) (F0 m 0 ls []) := by
  obtain ⟨hx, hb, hr, hts, hown, hml, hlocks, hK, hN, hA, hX⟩ := id C
  obtain ⟨hP, hD, hS⟩ := hZ
  unfold m_Search_enter at hm
  refine lv_aload_n hx hb d_Search_enter_0 rfl (lv_at hl 0 rfl) ?_
  refine va_get (D := D) (ci := 6) (v := .ref (ad 28)) (C := R_Search) (T := T_Search) (N := 18) hx hb hts inG_Search hown hK hP 0 rfl rfl 6 (by decide) (hts _ gw_315) (fun _ h9 => h9) rfl d_Search_enter_1 ?_
  refine lv_iload_n hx hb d_Search_enter_4 rfl (lv_at hl 2 rfl) ?_
  obtain ⟨hi1, hm⟩ := gd_some hm
  refine va_iald hx hb hK hP 3 0 rfl rfl hi1 d_Search_enter_5 ?_
  refine lv_aload_n hx hb d_Search_enter_6 rfl (lv_at hl 0 rfl) ?_
  refine va_get (D := D) (ci := 6) (v := .int se_mark) (C := R_Search) (T := T_Search) (N := 18) hx hb hts inG_Search hown hK hP 0 rfl rfl 7 (by decide) (hts _ gw_316) (fun _ h9 => h9) rfl d_Search_enter_7 ?_
  refine lv_icmp_eq (tgt := 63) hx hb d_Search_enter_10 (by decide) (fun c2 => ?_) (fun c2 => ?_)
  · replace hm := ifT hm c2
    replace hm := Option.some.inj hm; subst hm
    exact zret_v C hP hD hS d_Search_enter_63
  · replace hm := ifF hm c2
    refine lv_aload_n hx hb d_Search_enter_13 rfl (lv_at hl 0 rfl) ?_
    refine va_get (D := D) (ci := 6) (v := .ref (ad 25)) (C := R_Search) (T := T_Search) (N := 18) hx hb hts inG_Search hown hK hP 0 rfl rfl 3 (by decide) (hts _ gw_312) (fun _ h9 => h9) rfl d_Search_enter_14 ?_
    refine lv_iload_n hx hb d_Search_enter_17 rfl (lv_at hl 1 rfl) ?_
    obtain ⟨hi3, hm⟩ := gd_some hm
    refine va_iald hx hb hK hP 2 0 rfl rfl hi3 d_Search_enter_18 ?_
    refine lv_sipush (v := 1280) hx hb d_Search_enter_19 (by decide) ?_
    refine lv_icmp_ge (tgt := 63) hx hb d_Search_enter_22 (by decide) (fun c4 => ?_) (fun c4 => ?_)
    · replace hm := ifT hm c4
      replace hm := Option.some.inj hm; subst hm
      exact zret_v C hP hD hS d_Search_enter_63
    · replace hm := ifF hm c4
      refine lv_aload_n hx hb d_Search_enter_25 rfl (lv_at hl 0 rfl) ?_
      refine va_get (D := D) (ci := 6) (v := .ref (ad 28)) (C := R_Search) (T := T_Search) (N := 18) hx hb hts inG_Search hown hK hP 0 rfl rfl 6 (by decide) (hts _ gw_315) (fun _ h9 => h9) rfl d_Search_enter_26 ?_
      refine lv_iload_n hx hb d_Search_enter_29 rfl (lv_at hl 2 rfl) ?_
      refine lv_aload_n hx hb d_Search_enter_30 rfl (lv_at hl 0 rfl) ?_
      refine va_get (D := D) (ci := 6) (v := .int se_mark) (C := R_Search) (T := T_Search) (N := 18) hx hb hts inG_Search hown hK hP 0 rfl rfl 7 (by decide) (hts _ gw_316) (fun _ h9 => h9) rfl d_Search_enter_31 ?_
      obtain ⟨hi5, hm⟩ := gd_some hm
      refine va_iast hx hb hK hP hD hS 3 0 rfl rfl hi5 d_Search_enter_34 (fun H locs hP hD hS => ?_)
      replace hP : va_P D vwCl (wd_Search_enter kc ad se_mark se_top se_closes se_leastCost se_allLines se_leastLines se_layers se_layerSizes (upd se_marks (Int32.toNatClampNeg a2) se_mark)) H := hP
      replace hD : va_D A (wd_Search_enter kc ad se_mark se_top se_closes se_leastCost se_allLines se_leastLines se_layers se_layerSizes (upd se_marks (Int32.toNatClampNeg a2) se_mark)) := hD
      refine lv_aload_n hx hb d_Search_enter_35 rfl (lv_at hl 0 rfl) ?_
      refine va_get (D := D) (ci := 6) (v := .ref (ad 24)) (C := R_Search) (T := T_Search) (N := 18) hx hb hts inG_Search hown hK hP 0 rfl rfl 2 (by decide) (hts _ gw_311) (fun _ h9 => h9) rfl d_Search_enter_36 ?_
      refine lv_iload_n hx hb d_Search_enter_39 rfl (lv_at hl 1 rfl) ?_
      refine lv_sipush (v := 1280) hx hb d_Search_enter_40 (by decide) ?_
      refine lv_imul hx hb d_Search_enter_43 ?_
      refine lv_aload_n hx hb d_Search_enter_44 rfl (lv_at hl 0 rfl) ?_
      refine va_get (D := D) (ci := 6) (v := .ref (ad 25)) (C := R_Search) (T := T_Search) (N := 18) hx hb hts inG_Search hown hK hP 0 rfl rfl 3 (by decide) (hts _ gw_312) (fun _ h9 => h9) rfl d_Search_enter_45 ?_
      refine lv_iload_n hx hb d_Search_enter_48 rfl (lv_at hl 1 rfl) ?_
      obtain ⟨hi6, hm⟩ := gd_some hm
      refine va_iald hx hb hK hP 2 0 rfl rfl hi6 d_Search_enter_49 ?_
      refine lv_iadd hx hb d_Search_enter_50 ?_
      refine lv_iload_n hx hb d_Search_enter_51 rfl (lv_at hl 2 rfl) ?_
      obtain ⟨hi7, hm⟩ := gd_some hm
      refine va_iast hx hb hK hP hD hS 1 0 rfl rfl hi7 d_Search_enter_52 (fun H locs hP hD hS => ?_)
      replace hP : va_P D vwCl (wd_Search_enter kc ad se_mark se_top se_closes se_leastCost se_allLines se_leastLines (upd se_layers (Int32.toNatClampNeg ((a1 * (1280 : Int32)) + (se_layerSizes (Int32.toNatClampNeg a1)))) a2) se_layerSizes (upd se_marks (Int32.toNatClampNeg a2) se_mark)) H := hP
      replace hD : va_D A (wd_Search_enter kc ad se_mark se_top se_closes se_leastCost se_allLines se_leastLines (upd se_layers (Int32.toNatClampNeg ((a1 * (1280 : Int32)) + (se_layerSizes (Int32.toNatClampNeg a1)))) a2) se_layerSizes (upd se_marks (Int32.toNatClampNeg a2) se_mark)) := hD
      refine lv_aload_n hx hb d_Search_enter_53 rfl (lv_at hl 0 rfl) ?_
      refine va_get (D := D) (ci := 6) (v := .ref (ad 25)) (C := R_Search) (T := T_Search) (N := 18) hx hb hts inG_Search hown hK hP 0 rfl rfl 3 (by decide) (hts _ gw_312) (fun _ h9 => h9) rfl d_Search_enter_54 ?_
      refine lv_iload_n hx hb d_Search_enter_57 rfl (lv_at hl 1 rfl) ?_
      refine lv_dup2_11 hx hb d_Search_enter_58 rfl rfl ?_
      obtain ⟨hi8, hm⟩ := gd_some hm
      refine va_iald hx hb hK hP 2 0 rfl rfl hi8 d_Search_enter_59 ?_
      refine lv_iconst (v := 1) hx hb d_Search_enter_60 (by decide) ?_
      refine lv_iadd hx hb d_Search_enter_61 ?_
      obtain ⟨hi9, hm⟩ := gd_some hm
      refine va_iast hx hb hK hP hD hS 2 0 rfl rfl hi9 d_Search_enter_62 (fun H locs hP hD hS => ?_)
      replace hP : va_P D vwCl (wd_Search_enter kc ad se_mark se_top se_closes se_leastCost se_allLines se_leastLines (upd se_layers (Int32.toNatClampNeg ((a1 * (1280 : Int32)) + (se_layerSizes (Int32.toNatClampNeg a1)))) a2) (upd se_layerSizes (Int32.toNatClampNeg a1) ((se_layerSizes (Int32.toNatClampNeg a1)) + (1 : Int32))) (upd se_marks (Int32.toNatClampNeg a2) se_mark)) H := hP
      replace hD : va_D A (wd_Search_enter kc ad se_mark se_top se_closes se_leastCost se_allLines se_leastLines (upd se_layers (Int32.toNatClampNeg ((a1 * (1280 : Int32)) + (se_layerSizes (Int32.toNatClampNeg a1)))) a2) (upd se_layerSizes (Int32.toNatClampNeg a1) ((se_layerSizes (Int32.toNatClampNeg a1)) + (1 : Int32))) (upd se_marks (Int32.toNatClampNeg a2) se_mark)) := hD
      replace hm := Option.some.inj hm; subst hm
      exact zret_v C hP hD hS d_Search_enter_63
set_option maxHeartbeats 4000000 in
set_option maxRecDepth 100000 in
theorem c_Search_enter {l : Launch} {D : va_G} {kc : Nat → ClassId} {r : (Nat → Int32) × (Nat → Int32) × (Nat → Int32)} {ad : Nat → Nat} {se_mark : Int32} {se_top : Int32} {se_closes : Int32} {se_leastCost : Int32} {se_allLines : Int64} {se_leastLines : Int64} {se_layers : Nat → Int32} {se_layerSizes : Nat → Int32} {se_marks : Nat → Int32} {a1 : Int32} {a2 : Int32} (hm : m_Search_enter se_mark se_layers se_layerSizes se_marks a1 a2 = some r) (sz : Nat) : Cv l y_Search_enter ws_Search_enter rm_Search_enter D kc sz [.ref (ad 23), .int a1, .int a2] (wd_Search_enter kc ad se_mark se_top se_closes se_leastCost se_allLines se_leastLines se_layers se_layerSizes se_marks) (wd_Search_enter kc ad se_mark se_top se_closes se_leastCost se_allLines se_leastLines r.1 r.2.1 r.2.2) :=
  Cz_of (Qf := fun A => (Qv D A (wd_Search_enter kc ad se_mark se_top se_closes se_leastCost se_allLines se_leastLines r.1 r.2.1 r.2.2))) (cc := b_Search_enter) (maxL := 3) (ret := none) (by decide) rfl rfl (fun C hZ hl => e_Search_enter C hm hZ hl)
abbrev b_Search_isOverTop : ByteArray := prog_6_method_12_code
abbrev y_Search_isOverTop : MethodName := ⟨"SpeciesSolver$Search", "isOverTop", "(II)Z"⟩
theorem d_Search_isOverTop_0 : decode b_Search_isOverTop 0 = .ok (.iload_n 2, 1) := by decide +kernel
theorem d_Search_isOverTop_1 : decode b_Search_isOverTop 1 = .ok (.aload_n 0, 1) := by decide +kernel
theorem d_Search_isOverTop_2 : decode b_Search_isOverTop 2 = .ok (.getfield 48, 3) := by decide +kernel
theorem d_Search_isOverTop_5 : decode b_Search_isOverTop 5 = .ok (.if_icmp .gt 21, 3) := by decide +kernel
theorem d_Search_isOverTop_8 : decode b_Search_isOverTop 8 = .ok (.iload_n 2, 1) := by decide +kernel
theorem d_Search_isOverTop_9 : decode b_Search_isOverTop 9 = .ok (.aload_n 0, 1) := by decide +kernel
theorem d_Search_isOverTop_10 : decode b_Search_isOverTop 10 = .ok (.getfield 48, 3) := by decide +kernel
theorem d_Search_isOverTop_13 : decode b_Search_isOverTop 13 = .ok (.if_icmp .ne 17, 3) := by decide +kernel
theorem d_Search_isOverTop_16 : decode b_Search_isOverTop 16 = .ok (.iload_n 1, 1) := by decide +kernel
theorem d_Search_isOverTop_17 : decode b_Search_isOverTop 17 = .ok (.bipush 9, 2) := by decide +kernel
theorem d_Search_isOverTop_19 : decode b_Search_isOverTop 19 = .ok (.ishr, 1) := by decide +kernel
theorem d_Search_isOverTop_20 : decode b_Search_isOverTop 20 = .ok (.iconst 1, 1) := by decide +kernel
theorem d_Search_isOverTop_21 : decode b_Search_isOverTop 21 = .ok (.iand, 1) := by decide +kernel
theorem d_Search_isOverTop_22 : decode b_Search_isOverTop 22 = .ok (.iconst 1, 1) := by decide +kernel
theorem d_Search_isOverTop_23 : decode b_Search_isOverTop 23 = .ok (.if_icmp .ne 7, 3) := by decide +kernel
theorem d_Search_isOverTop_26 : decode b_Search_isOverTop 26 = .ok (.iconst 1, 1) := by decide +kernel
theorem d_Search_isOverTop_27 : decode b_Search_isOverTop 27 = .ok (.goto 4, 3) := by decide +kernel
theorem d_Search_isOverTop_30 : decode b_Search_isOverTop 30 = .ok (.iconst 0, 1) := by decide +kernel
theorem d_Search_isOverTop_31 : decode b_Search_isOverTop 31 = .ok (.ireturn, 1) := by decide +kernel
abbrev wd_Search_isOverTop (kc : Nat → ClassId) (ad : Nat → Nat) (se_mark : Int32) (se_top : Int32) (se_closes : Int32) (se_leastCost : Int32) (se_allLines : Int64) (se_leastLines : Int64) : va_W := [((ad 23), .inr (6, [.ref (ad 1), .ref (ad 13), .ref (ad 24), .ref (ad 25), .ref (ad 26), .ref (ad 27), .ref (ad 28), .int se_mark, .ref (ad 29), .ref (ad 30), .ref (ad 31), .ref (ad 32), .ref (ad 33), .int se_top, .int se_closes, .int se_leastCost, .long se_allLines, .long se_leastLines]))]
abbrev rm_Search_isOverTop : Room := { frames := 0, cells := 0, slots := 0, locals := 0 }
abbrev cw_Search_isOverTop : Cond := .code y_Search_isOverTop b_Search_isOverTop 3 (some .boolean)
abbrev ws_Search_isOverTop : List Cond := cw_Search_isOverTop :: GW
theorem hd_Search_isOverTop : y_Search_isOverTop.cls ≠ "java/lang/invoke/MethodHandle" ∧ y_Search_isOverTop.cls ≠ "java/lang/invoke/VarHandle" ∧ (parseMethodDescriptor y_Search_isOverTop.desc).map (fun d => d.parameters.length) = some 2 := by decide +kernel
def m_Search_isOverTop (se_top : Int32)  (a1 : Int32) (a2 : Int32) : Option (Int32) :=
  (if se_top < a2 then
    (some (1 : Int32))
  else
    (if a2 = se_top then
      (if ((a1 >>> ((9 : Int32) &&& 31)) &&& (1 : Int32)) = (1 : Int32) then
        (some (1 : Int32))
      else
        (some (0 : Int32)))
    else
      (some (0 : Int32))))
set_option maxHeartbeats 4000000 in
set_option maxRecDepth 100000 in
theorem e_Search_isOverTop {r : Int32} {ad : Nat → Nat} {se_mark : Int32} {se_top : Int32} {se_closes : Int32} {se_leastCost : Int32} {se_allLines : Int64} {se_leastLines : Int64} {a1 : Int32} {a2 : Int32} {H : Heap} {locs : List Loc} {ls : Array Slot} (C : Cx p s m meth c args A D kc R_Search b_Search_isOverTop 3 (some .boolean)) (hm : m_Search_isOverTop se_top a1 a2 = some r) (hZ : St D A s (wd_Search_isOverTop kc ad se_mark se_top se_closes se_leastCost se_allLines se_leastLines) H locs) (hl : lv_has ls 3 [(0, .ref (ad 23)), (1, .int a1), (2, .int a2)]) : W p l e rm_Search_isOverTop s m args below meth c H locs 0 0 (MQ below (Qi D A (wd_Search_isOverTop kc ad se_mark se_top se_closes se_leastCost se_allLines se_leastLines) r) args s 0 0 A) (F0 m 0 ls []) := by
  obtain ⟨hx, hb, hr, hts, hown, hml, hlocks, hK, hN, hA, hX⟩ := id C
  obtain ⟨hP, hD, hS⟩ := hZ
  unfold m_Search_isOverTop at hm
  refine lv_iload_n hx hb d_Search_isOverTop_0 rfl (lv_at hl 2 rfl) ?_
  refine lv_aload_n hx hb d_Search_isOverTop_1 rfl (lv_at hl 0 rfl) ?_
  refine va_get (D := D) (ci := 6) (v := .int se_top) (C := R_Search) (T := T_Search) (N := 18) hx hb hts inG_Search hown hK hP 0 rfl rfl 13 (by decide) (hts _ gw_322) (fun _ h9 => h9) rfl d_Search_isOverTop_2 ?_
  refine lv_icmp_gt (tgt := 26) hx hb d_Search_isOverTop_5 (by decide) (fun c1 => ?_) (fun c1 => ?_)
  · replace hm := ifT hm c1
    refine lv_iconst (v := 1) hx hb d_Search_isOverTop_26 (by decide) ?_
    refine lv_goto (tgt := 31) hx hb d_Search_isOverTop_27 (by decide) ?_
    replace hm := Option.some.inj hm; subst hm
    exact zret_z (v := 1) C hP hD hS (by rfl) d_Search_isOverTop_31
  · replace hm := ifF hm c1
    refine lv_iload_n hx hb d_Search_isOverTop_8 rfl (lv_at hl 2 rfl) ?_
    refine lv_aload_n hx hb d_Search_isOverTop_9 rfl (lv_at hl 0 rfl) ?_
    refine va_get (D := D) (ci := 6) (v := .int se_top) (C := R_Search) (T := T_Search) (N := 18) hx hb hts inG_Search hown hK hP 0 rfl rfl 13 (by decide) (hts _ gw_322) (fun _ h9 => h9) rfl d_Search_isOverTop_10 ?_
    refine lv_icmp_ne (tgt := 30) hx hb d_Search_isOverTop_13 (by decide) (fun c2 => ?_) (fun c2 => ?_)
    · replace hm := ifF hm c2
      refine lv_iconst (v := 0) hx hb d_Search_isOverTop_30 (by decide) ?_
      replace hm := Option.some.inj hm; subst hm
      exact zret_z (v := 0) C hP hD hS (by rfl) d_Search_isOverTop_31
    · replace hm := ifT hm c2
      refine lv_iload_n hx hb d_Search_isOverTop_16 rfl (lv_at hl 1 rfl) ?_
      refine lv_bipush (v := 9) hx hb d_Search_isOverTop_17 (by decide) ?_
      refine lv_ishr hx hb d_Search_isOverTop_19 ?_
      refine lv_iconst (v := 1) hx hb d_Search_isOverTop_20 (by decide) ?_
      refine lv_iand hx hb d_Search_isOverTop_21 ?_
      refine lv_iconst (v := 1) hx hb d_Search_isOverTop_22 (by decide) ?_
      refine lv_icmp_ne (tgt := 30) hx hb d_Search_isOverTop_23 (by decide) (fun c3 => ?_) (fun c3 => ?_)
      · replace hm := ifF hm c3
        refine lv_iconst (v := 0) hx hb d_Search_isOverTop_30 (by decide) ?_
        replace hm := Option.some.inj hm; subst hm
        exact zret_z (v := 0) C hP hD hS (by rfl) d_Search_isOverTop_31
      · replace hm := ifT hm c3
        refine lv_iconst (v := 1) hx hb d_Search_isOverTop_26 (by decide) ?_
        refine lv_goto (tgt := 31) hx hb d_Search_isOverTop_27 (by decide) ?_
        replace hm := Option.some.inj hm; subst hm
        exact zret_z (v := 1) C hP hD hS (by rfl) d_Search_isOverTop_31
set_option maxHeartbeats 4000000 in
set_option maxRecDepth 100000 in
theorem c_Search_isOverTop {l : Launch} {D : va_G} {kc : Nat → ClassId} {r : Int32} {ad : Nat → Nat} {se_mark : Int32} {se_top : Int32} {se_closes : Int32} {se_leastCost : Int32} {se_allLines : Int64} {se_leastLines : Int64} {a1 : Int32} {a2 : Int32} (hm : m_Search_isOverTop se_top a1 a2 = some r) (sz : Nat) : Ci l y_Search_isOverTop ws_Search_isOverTop rm_Search_isOverTop D kc sz [.ref (ad 23), .int a1, .int a2] (wd_Search_isOverTop kc ad se_mark se_top se_closes se_leastCost se_allLines se_leastLines) (wd_Search_isOverTop kc ad se_mark se_top se_closes se_leastCost se_allLines se_leastLines) r :=
  Cz_of (Qf := fun A => (Qi D A (wd_Search_isOverTop kc ad se_mark se_top se_closes se_leastCost se_allLines se_leastLines) r)) (cc := b_Search_isOverTop) (maxL := 3) (ret := (some .boolean)) (by decide) rfl rfl (fun C hZ hl => e_Search_isOverTop C hm hZ hl)
abbrev b_Search_isOnceTooOften : ByteArray := prog_6_method_13_code
abbrev y_Search_isOnceTooOften : MethodName := ⟨"SpeciesSolver$Search", "isOnceTooOften", "(II)Z"⟩
theorem d_Search_isOnceTooOften_0 : decode b_Search_isOnceTooOften 0 = .ok (.aload_n 0, 1) := by decide +kernel
theorem d_Search_isOnceTooOften_1 : decode b_Search_isOnceTooOften 1 = .ok (.getfield 69, 3) := by decide +kernel
theorem d_Search_isOnceTooOften_4 : decode b_Search_isOnceTooOften 4 = .ok (.getfield 138, 3) := by decide +kernel
theorem d_Search_isOnceTooOften_7 : decode b_Search_isOnceTooOften 7 = .ok (.ifCond .le 31, 3) := by decide +kernel
theorem d_Search_isOnceTooOften_10 : decode b_Search_isOnceTooOften 10 = .ok (.iload_n 2, 1) := by decide +kernel
theorem d_Search_isOnceTooOften_11 : decode b_Search_isOnceTooOften 11 = .ok (.iload_n 1, 1) := by decide +kernel
theorem d_Search_isOnceTooOften_12 : decode b_Search_isOnceTooOften 12 = .ok (.bipush 7, 2) := by decide +kernel
theorem d_Search_isOnceTooOften_14 : decode b_Search_isOnceTooOften 14 = .ok (.iand, 1) := by decide +kernel
theorem d_Search_isOnceTooOften_15 : decode b_Search_isOnceTooOften 15 = .ok (.if_icmp .ne 23, 3) := by decide +kernel
theorem d_Search_isOnceTooOften_18 : decode b_Search_isOnceTooOften 18 = .ok (.iload_n 1, 1) := by decide +kernel
theorem d_Search_isOnceTooOften_19 : decode b_Search_isOnceTooOften 19 = .ok (.bipush 10, 2) := by decide +kernel
theorem d_Search_isOnceTooOften_21 : decode b_Search_isOnceTooOften 21 = .ok (.ishr, 1) := by decide +kernel
theorem d_Search_isOnceTooOften_22 : decode b_Search_isOnceTooOften 22 = .ok (.iconst 1, 1) := by decide +kernel
theorem d_Search_isOnceTooOften_23 : decode b_Search_isOnceTooOften 23 = .ok (.iadd, 1) := by decide +kernel
theorem d_Search_isOnceTooOften_24 : decode b_Search_isOnceTooOften 24 = .ok (.aload_n 0, 1) := by decide +kernel
theorem d_Search_isOnceTooOften_25 : decode b_Search_isOnceTooOften 25 = .ok (.getfield 69, 3) := by decide +kernel
theorem d_Search_isOnceTooOften_28 : decode b_Search_isOnceTooOften 28 = .ok (.getfield 138, 3) := by decide +kernel
theorem d_Search_isOnceTooOften_31 : decode b_Search_isOnceTooOften 31 = .ok (.if_icmp .lt 7, 3) := by decide +kernel
theorem d_Search_isOnceTooOften_34 : decode b_Search_isOnceTooOften 34 = .ok (.iconst 1, 1) := by decide +kernel
theorem d_Search_isOnceTooOften_35 : decode b_Search_isOnceTooOften 35 = .ok (.goto 4, 3) := by decide +kernel
theorem d_Search_isOnceTooOften_38 : decode b_Search_isOnceTooOften 38 = .ok (.iconst 0, 1) := by decide +kernel
theorem d_Search_isOnceTooOften_39 : decode b_Search_isOnceTooOften 39 = .ok (.ireturn, 1) := by decide +kernel
abbrev wd_Search_isOnceTooOften (kc : Nat → ClassId) (ad : Nat → Nat) (pr_size : Int32) (pr_total : Int32) (pr_perNote : Int32) (pr_mostAlike : Int32) (se_mark : Int32) (se_top : Int32) (se_closes : Int32) (se_leastCost : Int32) (se_allLines : Int64) (se_leastLines : Int64) : va_W := [((ad 13), .inr (4, [.ref (ad 1), .ref (ad 8), .ref (ad 14), .ref (ad 15), .ref (ad 16), .ref (ad 17), .ref (ad 18), .ref (ad 19), .ref (ad 20), .ref (ad 21), .ref (ad 22), .int pr_size, .int pr_total, .int pr_perNote, .int pr_mostAlike])), ((ad 23), .inr (6, [.ref (ad 1), .ref (ad 13), .ref (ad 24), .ref (ad 25), .ref (ad 26), .ref (ad 27), .ref (ad 28), .int se_mark, .ref (ad 29), .ref (ad 30), .ref (ad 31), .ref (ad 32), .ref (ad 33), .int se_top, .int se_closes, .int se_leastCost, .long se_allLines, .long se_leastLines]))]
abbrev rm_Search_isOnceTooOften : Room := { frames := 0, cells := 0, slots := 0, locals := 0 }
abbrev cw_Search_isOnceTooOften : Cond := .code y_Search_isOnceTooOften b_Search_isOnceTooOften 3 (some .boolean)
abbrev ws_Search_isOnceTooOften : List Cond := cw_Search_isOnceTooOften :: GW
theorem hd_Search_isOnceTooOften : y_Search_isOnceTooOften.cls ≠ "java/lang/invoke/MethodHandle" ∧ y_Search_isOnceTooOften.cls ≠ "java/lang/invoke/VarHandle" ∧ (parseMethodDescriptor y_Search_isOnceTooOften.desc).map (fun d => d.parameters.length) = some 2 := by decide +kernel
def m_Search_isOnceTooOften (pr_mostAlike : Int32)  (a1 : Int32) (a2 : Int32) : Option (Int32) :=
  (if pr_mostAlike ≤ (0 : Int32) then
    (some (0 : Int32))
  else
    (if a2 = (a1 &&& (7 : Int32)) then
      (if ((a1 >>> ((10 : Int32) &&& 31)) + (1 : Int32)) < pr_mostAlike then
        (some (0 : Int32))
      else
        (some (1 : Int32)))
    else
      (some (0 : Int32))))
set_option maxHeartbeats 4000000 in
set_option maxRecDepth 100000 in
theorem e_Search_isOnceTooOften {r : Int32} {ad : Nat → Nat} {pr_size : Int32} {pr_total : Int32} {pr_perNote : Int32} {pr_mostAlike : Int32} {se_mark : Int32} {se_top : Int32} {se_closes : Int32} {se_leastCost : Int32} {se_allLines : Int64} {se_leastLines : Int64} {a1 : Int32} {a2 : Int32} {H : Heap} {locs : List Loc} {ls : Array Slot} (C : Cx p s m meth c args A D kc R_Search b_Search_isOnceTooOften 3 (some .boolean)) (hm : m_Search_isOnceTooOften pr_mostAlike a1 a2 = some r) (hZ : St D A s (wd_Search_isOnceTooOften kc ad pr_size pr_total pr_perNote pr_mostAlike se_mark se_top se_closes se_leastCost se_allLines se_leastLines) H locs) (hl : lv_has ls 3 [(0, .ref (ad 23)), (1, .int a1), (2, .int a2)]) : W p l e rm_Search_isOnceTooOften s m args below meth c H locs 0 0 (MQ below (Qi D A (wd_Search_isOnceTooOften kc ad pr_size pr_total pr_perNote pr_mostAlike se_mark se_top se_closes se_leastCost se_allLines se_leastLines) r) args s 0 0 A) (F0 m 0 ls []) := by
  obtain ⟨hx, hb, hr, hts, hown, hml, hlocks, hK, hN, hA, hX⟩ := id C
  obtain ⟨hP, hD, hS⟩ := hZ
  unfold m_Search_isOnceTooOften at hm
  refine lv_aload_n hx hb d_Search_isOnceTooOften_0 rfl (lv_at hl 0 rfl) ?_
  refine va_get (D := D) (ci := 6) (v := .ref (ad 13)) (C := R_Search) (T := T_Search) (N := 18) hx hb hts inG_Search hown hK hP 1 rfl rfl 1 (by decide) (hts _ gw_310) (fun _ h9 => h9) rfl d_Search_isOnceTooOften_1 ?_
  refine va_getN (D := D) (ci := 4) (v := .int pr_mostAlike) (C := R_Prices) (T := T_Prices) (N := 15) hx hb hts inG_Prices hown hK hP 0 rfl rfl 14 (by decide) (va_Nw.use rfl (hN _ nw_270)) (fun _ h9 => h9) rfl d_Search_isOnceTooOften_4 ?_
  refine lv_if_le (tgt := 38) hx hb d_Search_isOnceTooOften_7 (by decide) (fun c1 => ?_) (fun c1 => ?_)
  · replace hm := ifT hm c1
    refine lv_iconst (v := 0) hx hb d_Search_isOnceTooOften_38 (by decide) ?_
    replace hm := Option.some.inj hm; subst hm
    exact zret_z (v := 0) C hP hD hS (by rfl) d_Search_isOnceTooOften_39
  · replace hm := ifF hm c1
    refine lv_iload_n hx hb d_Search_isOnceTooOften_10 rfl (lv_at hl 2 rfl) ?_
    refine lv_iload_n hx hb d_Search_isOnceTooOften_11 rfl (lv_at hl 1 rfl) ?_
    refine lv_bipush (v := 7) hx hb d_Search_isOnceTooOften_12 (by decide) ?_
    refine lv_iand hx hb d_Search_isOnceTooOften_14 ?_
    refine lv_icmp_ne (tgt := 38) hx hb d_Search_isOnceTooOften_15 (by decide) (fun c2 => ?_) (fun c2 => ?_)
    · replace hm := ifF hm c2
      refine lv_iconst (v := 0) hx hb d_Search_isOnceTooOften_38 (by decide) ?_
      replace hm := Option.some.inj hm; subst hm
      exact zret_z (v := 0) C hP hD hS (by rfl) d_Search_isOnceTooOften_39
    · replace hm := ifT hm c2
      refine lv_iload_n hx hb d_Search_isOnceTooOften_18 rfl (lv_at hl 1 rfl) ?_
      refine lv_bipush (v := 10) hx hb d_Search_isOnceTooOften_19 (by decide) ?_
      refine lv_ishr hx hb d_Search_isOnceTooOften_21 ?_
      refine lv_iconst (v := 1) hx hb d_Search_isOnceTooOften_22 (by decide) ?_
      refine lv_iadd hx hb d_Search_isOnceTooOften_23 ?_
      refine lv_aload_n hx hb d_Search_isOnceTooOften_24 rfl (lv_at hl 0 rfl) ?_
      refine va_get (D := D) (ci := 6) (v := .ref (ad 13)) (C := R_Search) (T := T_Search) (N := 18) hx hb hts inG_Search hown hK hP 1 rfl rfl 1 (by decide) (hts _ gw_310) (fun _ h9 => h9) rfl d_Search_isOnceTooOften_25 ?_
      refine va_getN (D := D) (ci := 4) (v := .int pr_mostAlike) (C := R_Prices) (T := T_Prices) (N := 15) hx hb hts inG_Prices hown hK hP 0 rfl rfl 14 (by decide) (va_Nw.use rfl (hN _ nw_270)) (fun _ h9 => h9) rfl d_Search_isOnceTooOften_28 ?_
      refine lv_icmp_lt (tgt := 38) hx hb d_Search_isOnceTooOften_31 (by decide) (fun c3 => ?_) (fun c3 => ?_)
      · replace hm := ifT hm c3
        refine lv_iconst (v := 0) hx hb d_Search_isOnceTooOften_38 (by decide) ?_
        replace hm := Option.some.inj hm; subst hm
        exact zret_z (v := 0) C hP hD hS (by rfl) d_Search_isOnceTooOften_39
      · replace hm := ifF hm c3
        refine lv_iconst (v := 1) hx hb d_Search_isOnceTooOften_34 (by decide) ?_
        refine lv_goto (tgt := 39) hx hb d_Search_isOnceTooOften_35 (by decide) ?_
        replace hm := Option.some.inj hm; subst hm
        exact zret_z (v := 1) C hP hD hS (by rfl) d_Search_isOnceTooOften_39
set_option maxHeartbeats 4000000 in
set_option maxRecDepth 100000 in
theorem c_Search_isOnceTooOften {l : Launch} {D : va_G} {kc : Nat → ClassId} {r : Int32} {ad : Nat → Nat} {pr_size : Int32} {pr_total : Int32} {pr_perNote : Int32} {pr_mostAlike : Int32} {se_mark : Int32} {se_top : Int32} {se_closes : Int32} {se_leastCost : Int32} {se_allLines : Int64} {se_leastLines : Int64} {a1 : Int32} {a2 : Int32} (hm : m_Search_isOnceTooOften pr_mostAlike a1 a2 = some r) (sz : Nat) : Ci l y_Search_isOnceTooOften ws_Search_isOnceTooOften rm_Search_isOnceTooOften D kc sz [.ref (ad 23), .int a1, .int a2] (wd_Search_isOnceTooOften kc ad pr_size pr_total pr_perNote pr_mostAlike se_mark se_top se_closes se_leastCost se_allLines se_leastLines) (wd_Search_isOnceTooOften kc ad pr_size pr_total pr_perNote pr_mostAlike se_mark se_top se_closes se_leastCost se_allLines se_leastLines) r :=
  Cz_of (Qf := fun A => (Qi D A (wd_Search_isOnceTooOften kc ad pr_size pr_total pr_perNote pr_mostAlike se_mark se_top se_closes se_leastCost se_allLines se_leastLines) r)) (cc := b_Search_isOnceTooOften) (maxL := 3) (ret := (some .boolean)) (by decide) rfl rfl (fun C hZ hl => e_Search_isOnceTooOften C hm hZ hl)
end
