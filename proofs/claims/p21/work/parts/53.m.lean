section
variable {p : Program} {l : Launch} {e : Env} {s : State} {m : MethodId} {args : Array Value} {below : List Frame} {meth : Method} {c : Code} {D : va_G} {kc : Nat → ClassId} {A : Nat → Prop}
abbrev b_SpeciesSolverModel_noteCost : ByteArray := prog_9_method_33_code
abbrev y_SpeciesSolverModel_noteCost : MethodName := ⟨"SpeciesSolverModel", "noteCost", "(III)I"⟩
theorem d_SpeciesSolverModel_noteCost_0 : decode b_SpeciesSolverModel_noteCost 0 = .ok (.iconst 0, 1) := by decide +kernel
theorem d_SpeciesSolverModel_noteCost_1 : decode b_SpeciesSolverModel_noteCost 1 = .ok (.istore 4, 2) := by decide +kernel
theorem d_SpeciesSolverModel_noteCost_3 : decode b_SpeciesSolverModel_noteCost 3 = .ok (.aload_n 0, 1) := by decide +kernel
theorem d_SpeciesSolverModel_noteCost_4 : decode b_SpeciesSolverModel_noteCost 4 = .ok (.iload_n 1, 1) := by decide +kernel
theorem d_SpeciesSolverModel_noteCost_5 : decode b_SpeciesSolverModel_noteCost 5 = .ok (.invokevirtual 111, 3) := by decide +kernel
theorem d_SpeciesSolverModel_noteCost_8 : decode b_SpeciesSolverModel_noteCost 8 = .ok (.ifCond .eq 102, 3) := by decide +kernel
theorem d_SpeciesSolverModel_noteCost_11 : decode b_SpeciesSolverModel_noteCost 11 = .ok (.iconst 0, 1) := by decide +kernel
theorem d_SpeciesSolverModel_noteCost_12 : decode b_SpeciesSolverModel_noteCost 12 = .ok (.istore 5, 2) := by decide +kernel
theorem d_SpeciesSolverModel_noteCost_14 : decode b_SpeciesSolverModel_noteCost 14 = .ok (.iload 5, 2) := by decide +kernel
theorem d_SpeciesSolverModel_noteCost_16 : decode b_SpeciesSolverModel_noteCost 16 = .ok (.aload_n 0, 1) := by decide +kernel
theorem d_SpeciesSolverModel_noteCost_17 : decode b_SpeciesSolverModel_noteCost 17 = .ok (.getfield 78, 3) := by decide +kernel
theorem d_SpeciesSolverModel_noteCost_20 : decode b_SpeciesSolverModel_noteCost 20 = .ok (.if_icmp .ge 87, 3) := by decide +kernel
theorem d_SpeciesSolverModel_noteCost_23 : decode b_SpeciesSolverModel_noteCost 23 = .ok (.iload 4, 2) := by decide +kernel
theorem d_SpeciesSolverModel_noteCost_25 : decode b_SpeciesSolverModel_noteCost 25 = .ok (.iload_n 1, 1) := by decide +kernel
theorem d_SpeciesSolverModel_noteCost_26 : decode b_SpeciesSolverModel_noteCost 26 = .ok (.ifCond .le 25, 3) := by decide +kernel
theorem d_SpeciesSolverModel_noteCost_29 : decode b_SpeciesSolverModel_noteCost 29 = .ok (.aload_n 0, 1) := by decide +kernel
theorem d_SpeciesSolverModel_noteCost_30 : decode b_SpeciesSolverModel_noteCost 30 = .ok (.iload 5, 2) := by decide +kernel
theorem d_SpeciesSolverModel_noteCost_32 : decode b_SpeciesSolverModel_noteCost 32 = .ok (.iload_n 1, 1) := by decide +kernel
theorem d_SpeciesSolverModel_noteCost_33 : decode b_SpeciesSolverModel_noteCost 33 = .ok (.iload_n 2, 1) := by decide +kernel
theorem d_SpeciesSolverModel_noteCost_34 : decode b_SpeciesSolverModel_noteCost 34 = .ok (.iload_n 3, 1) := by decide +kernel
theorem d_SpeciesSolverModel_noteCost_35 : decode b_SpeciesSolverModel_noteCost 35 = .ok (.invokevirtual 119, 3) := by decide +kernel
theorem d_SpeciesSolverModel_noteCost_38 : decode b_SpeciesSolverModel_noteCost 38 = .ok (.ifCond .eq 13, 3) := by decide +kernel
theorem d_SpeciesSolverModel_noteCost_41 : decode b_SpeciesSolverModel_noteCost 41 = .ok (.aload_n 0, 1) := by decide +kernel
theorem d_SpeciesSolverModel_noteCost_42 : decode b_SpeciesSolverModel_noteCost 42 = .ok (.getfield 28, 3) := by decide +kernel
theorem d_SpeciesSolverModel_noteCost_45 : decode b_SpeciesSolverModel_noteCost 45 = .ok (.bipush 15, 2) := by decide +kernel
theorem d_SpeciesSolverModel_noteCost_47 : decode b_SpeciesSolverModel_noteCost 47 = .ok (.iaload, 1) := by decide +kernel
theorem d_SpeciesSolverModel_noteCost_48 : decode b_SpeciesSolverModel_noteCost 48 = .ok (.goto 4, 3) := by decide +kernel
theorem d_SpeciesSolverModel_noteCost_51 : decode b_SpeciesSolverModel_noteCost 51 = .ok (.iconst 0, 1) := by decide +kernel
theorem d_SpeciesSolverModel_noteCost_52 : decode b_SpeciesSolverModel_noteCost 52 = .ok (.iadd, 1) := by decide +kernel
theorem d_SpeciesSolverModel_noteCost_53 : decode b_SpeciesSolverModel_noteCost 53 = .ok (.istore 4, 2) := by decide +kernel
theorem d_SpeciesSolverModel_noteCost_55 : decode b_SpeciesSolverModel_noteCost 55 = .ok (.iload 4, 2) := by decide +kernel
theorem d_SpeciesSolverModel_noteCost_57 : decode b_SpeciesSolverModel_noteCost 57 = .ok (.iload_n 1, 1) := by decide +kernel
theorem d_SpeciesSolverModel_noteCost_58 : decode b_SpeciesSolverModel_noteCost 58 = .ok (.ifCond .le 39, 3) := by decide +kernel
theorem d_SpeciesSolverModel_noteCost_61 : decode b_SpeciesSolverModel_noteCost 61 = .ok (.iload_n 1, 1) := by decide +kernel
theorem d_SpeciesSolverModel_noteCost_62 : decode b_SpeciesSolverModel_noteCost 62 = .ok (.aload_n 0, 1) := by decide +kernel
theorem d_SpeciesSolverModel_noteCost_63 : decode b_SpeciesSolverModel_noteCost 63 = .ok (.invokevirtual 130, 3) := by decide +kernel
theorem d_SpeciesSolverModel_noteCost_66 : decode b_SpeciesSolverModel_noteCost 66 = .ok (.iconst 1, 1) := by decide +kernel
theorem d_SpeciesSolverModel_noteCost_67 : decode b_SpeciesSolverModel_noteCost 67 = .ok (.isub, 1) := by decide +kernel
theorem d_SpeciesSolverModel_noteCost_68 : decode b_SpeciesSolverModel_noteCost 68 = .ok (.if_icmp .ge 29, 3) := by decide +kernel
theorem d_SpeciesSolverModel_noteCost_71 : decode b_SpeciesSolverModel_noteCost 71 = .ok (.aload_n 0, 1) := by decide +kernel
theorem d_SpeciesSolverModel_noteCost_72 : decode b_SpeciesSolverModel_noteCost 72 = .ok (.iconst 4, 1) := by decide +kernel
theorem d_SpeciesSolverModel_noteCost_73 : decode b_SpeciesSolverModel_noteCost 73 = .ok (.iload_n 3, 1) := by decide +kernel
theorem d_SpeciesSolverModel_noteCost_74 : decode b_SpeciesSolverModel_noteCost 74 = .ok (.aload_n 0, 1) := by decide +kernel
theorem d_SpeciesSolverModel_noteCost_75 : decode b_SpeciesSolverModel_noteCost 75 = .ok (.iload 5, 2) := by decide +kernel
theorem d_SpeciesSolverModel_noteCost_77 : decode b_SpeciesSolverModel_noteCost 77 = .ok (.iload_n 1, 1) := by decide +kernel
theorem d_SpeciesSolverModel_noteCost_78 : decode b_SpeciesSolverModel_noteCost 78 = .ok (.invokevirtual 108, 3) := by decide +kernel
theorem d_SpeciesSolverModel_noteCost_81 : decode b_SpeciesSolverModel_noteCost 81 = .ok (.invokevirtual 115, 3) := by decide +kernel
theorem d_SpeciesSolverModel_noteCost_84 : decode b_SpeciesSolverModel_noteCost 84 = .ok (.ifCond .eq 13, 3) := by decide +kernel
theorem d_SpeciesSolverModel_noteCost_87 : decode b_SpeciesSolverModel_noteCost 87 = .ok (.aload_n 0, 1) := by decide +kernel
theorem d_SpeciesSolverModel_noteCost_88 : decode b_SpeciesSolverModel_noteCost 88 = .ok (.getfield 28, 3) := by decide +kernel
theorem d_SpeciesSolverModel_noteCost_91 : decode b_SpeciesSolverModel_noteCost 91 = .ok (.bipush 16, 2) := by decide +kernel
theorem d_SpeciesSolverModel_noteCost_93 : decode b_SpeciesSolverModel_noteCost 93 = .ok (.iaload, 1) := by decide +kernel
theorem d_SpeciesSolverModel_noteCost_94 : decode b_SpeciesSolverModel_noteCost 94 = .ok (.goto 4, 3) := by decide +kernel
theorem d_SpeciesSolverModel_noteCost_97 : decode b_SpeciesSolverModel_noteCost 97 = .ok (.iconst 0, 1) := by decide +kernel
theorem d_SpeciesSolverModel_noteCost_98 : decode b_SpeciesSolverModel_noteCost 98 = .ok (.iadd, 1) := by decide +kernel
theorem d_SpeciesSolverModel_noteCost_99 : decode b_SpeciesSolverModel_noteCost 99 = .ok (.istore 4, 2) := by decide +kernel
theorem d_SpeciesSolverModel_noteCost_101 : decode b_SpeciesSolverModel_noteCost 101 = .ok (.iinc 5 1, 3) := by decide +kernel
theorem d_SpeciesSolverModel_noteCost_104 : decode b_SpeciesSolverModel_noteCost 104 = .ok (.goto (-90), 3) := by decide +kernel
theorem d_SpeciesSolverModel_noteCost_107 : decode b_SpeciesSolverModel_noteCost 107 = .ok (.goto 28, 3) := by decide +kernel
theorem d_SpeciesSolverModel_noteCost_110 : decode b_SpeciesSolverModel_noteCost 110 = .ok (.iload 4, 2) := by decide +kernel
theorem d_SpeciesSolverModel_noteCost_112 : decode b_SpeciesSolverModel_noteCost 112 = .ok (.aload_n 0, 1) := by decide +kernel
theorem d_SpeciesSolverModel_noteCost_113 : decode b_SpeciesSolverModel_noteCost 113 = .ok (.iload_n 1, 1) := by decide +kernel
theorem d_SpeciesSolverModel_noteCost_114 : decode b_SpeciesSolverModel_noteCost 114 = .ok (.iload_n 3, 1) := by decide +kernel
theorem d_SpeciesSolverModel_noteCost_115 : decode b_SpeciesSolverModel_noteCost 115 = .ok (.invokevirtual 134, 3) := by decide +kernel
theorem d_SpeciesSolverModel_noteCost_118 : decode b_SpeciesSolverModel_noteCost 118 = .ok (.ifCond .eq 13, 3) := by decide +kernel
theorem d_SpeciesSolverModel_noteCost_121 : decode b_SpeciesSolverModel_noteCost 121 = .ok (.aload_n 0, 1) := by decide +kernel
theorem d_SpeciesSolverModel_noteCost_122 : decode b_SpeciesSolverModel_noteCost 122 = .ok (.getfield 28, 3) := by decide +kernel
theorem d_SpeciesSolverModel_noteCost_125 : decode b_SpeciesSolverModel_noteCost 125 = .ok (.bipush 17, 2) := by decide +kernel
theorem d_SpeciesSolverModel_noteCost_127 : decode b_SpeciesSolverModel_noteCost 127 = .ok (.iaload, 1) := by decide +kernel
theorem d_SpeciesSolverModel_noteCost_128 : decode b_SpeciesSolverModel_noteCost 128 = .ok (.goto 4, 3) := by decide +kernel
theorem d_SpeciesSolverModel_noteCost_131 : decode b_SpeciesSolverModel_noteCost 131 = .ok (.iconst 0, 1) := by decide +kernel
theorem d_SpeciesSolverModel_noteCost_132 : decode b_SpeciesSolverModel_noteCost 132 = .ok (.iadd, 1) := by decide +kernel
theorem d_SpeciesSolverModel_noteCost_133 : decode b_SpeciesSolverModel_noteCost 133 = .ok (.istore 4, 2) := by decide +kernel
theorem d_SpeciesSolverModel_noteCost_135 : decode b_SpeciesSolverModel_noteCost 135 = .ok (.iload 4, 2) := by decide +kernel
theorem d_SpeciesSolverModel_noteCost_137 : decode b_SpeciesSolverModel_noteCost 137 = .ok (.ireturn, 1) := by decide +kernel
abbrev wd_SpeciesSolverModel_noteCost (kc : Nat → ClassId) (ad : Nat → Nat) (md_thrown : Int32) (md_drafted : Int32) (md_lines : Int32) (md_n : Int32) (md_species : Int32) (md_above : Int32) (md_trialSize : Int32) (md_foundSize : Int32) (md_foundSpecies : Int32) (md_foundN : Int32) (md_foundCost : Int32) (md_chosen : Int32) (md_low : Int32) (md_many : Int64) (md_ties : Int64) (md_winnerCost : Int32) (md_allMany : Int64) (md_allTies : Int64) (md_faults : Int32) (md_given : Nat → Int32) (md_numbers : Nat → Int32) : va_W := [((ad 0), .inr (1, [.int md_thrown, .ref (ad 1), .int md_drafted, .ref (ad 2), .int md_lines, .int md_n, .int md_species, .int md_above, .ref (ad 3), .ref (ad 4), .ref (ad 5), .int md_trialSize, .ref (ad 6), .int md_foundSize, .int md_foundSpecies, .int md_foundN, .int md_foundCost, .ref (ad 7), .int md_chosen, .ref (ad 8), .ref (ad 9), .ref (ad 10), .int md_low, .long md_many, .long md_ties, .ref (ad 11), .ref (ad 12), .int md_winnerCost, .long md_allMany, .long md_allTies, .ref (ad 13), .ref (ad 14), .ref (ad 15), .ref (ad 16), .int md_faults])), ((ad 2), .inl (kc 0, 36, .inl md_given)), ((ad 4), .inl (kc 0, 18, .inl md_numbers))]
abbrev rm_SpeciesSolverModel_noteCost : Room := { frames := 3, cells := 0, slots := 0, locals := 68 }
abbrev cw_SpeciesSolverModel_noteCost : Cond := .code y_SpeciesSolverModel_noteCost b_SpeciesSolverModel_noteCost 6 (some .int)
abbrev ws_SpeciesSolverModel_noteCost : List Cond := cw_SpeciesSolverModel_noteCost :: GW
theorem hd_SpeciesSolverModel_noteCost : y_SpeciesSolverModel_noteCost.cls ≠ "java/lang/invoke/MethodHandle" ∧ y_SpeciesSolverModel_noteCost.cls ≠ "java/lang/invoke/VarHandle" ∧ (parseMethodDescriptor y_SpeciesSolverModel_noteCost.desc).map (fun d => d.parameters.length) = some 3 := by decide +kernel
def m_SpeciesSolverModel_noteCost_98 (F : Nat) (md_lines : Int32) (md_n : Int32) (md_species : Int32) (md_given : Nat → Int32) (md_numbers : Nat → Int32) (k14 : Int32 → Int32 → Int32 → Int32 → Int32 → Option (Int32))  (x1 : Int32) (x2 : Int32) (x3 : Int32) (x5 : Int32) (t0 : Int32) (t1 : Int32) : Option (Int32) :=
  k14 x1 x2 x3 (t0 + t1) (x5 + 1)
set_option maxHeartbeats 4000000 in
set_option maxRecDepth 100000 in
theorem l_SpeciesSolverModel_noteCost_98 {r : Int32} {F : Nat} {ad : Nat → Nat} {md_thrown : Int32} {md_drafted : Int32} {md_lines : Int32} {md_n : Int32} {md_species : Int32} {md_above : Int32} {md_trialSize : Int32} {md_foundSize : Int32} {md_foundSpecies : Int32} {md_foundN : Int32} {md_foundCost : Int32} {md_chosen : Int32} {md_low : Int32} {md_many : Int64} {md_ties : Int64} {md_winnerCost : Int32} {md_allMany : Int64} {md_allTies : Int64} {md_faults : Int32} {md_given : Nat → Int32} {md_numbers : Nat → Int32} {k14 : Int32 → Int32 → Int32 → Int32 → Int32 → Option (Int32)} {x1 : Int32} {x2 : Int32} {x3 : Int32} {x5 : Int32} {t0 : Int32} {t1 : Int32} {H : Heap} {locs : List Loc} {ls : Array Slot} (C : Cx p s m meth c args A D kc R_SpeciesSolverModel b_SpeciesSolverModel_noteCost 6 (some .int)) (hk14 : (∀  (x1 : Int32) (x2 : Int32) (x3 : Int32) (x4 : Int32) (x5 : Int32) (H : Heap) (locs : List Loc) (ls : Array Slot), k14 x1 x2 x3 x4 x5 = some r → St D A s (wd_SpeciesSolverModel_noteCost kc ad md_thrown md_drafted md_lines md_n md_species md_above md_trialSize md_foundSize md_foundSpecies md_foundN md_foundCost md_chosen md_low md_many md_ties md_winnerCost md_allMany md_allTies md_faults md_given md_numbers) H locs → lv_has ls 6 [(0, .ref (ad 0)), (1, .int x1), (2, .int x2), (3, .int x3), (4, .int x4), (5, .int x5)] → W p l e rm_SpeciesSolverModel_noteCost s m args below meth c H locs 0 0 (MQ below (Qi D A (wd_SpeciesSolverModel_noteCost kc ad md_thrown md_drafted md_lines md_n md_species md_above md_trialSize md_foundSize md_foundSpecies md_foundN md_foundCost md_chosen md_low md_many md_ties md_winnerCost md_allMany md_allTies md_faults md_given md_numbers) r) args s 0 0 A) (F0 m 14 ls []))) (hm : m_SpeciesSolverModel_noteCost_98 F md_lines md_n md_species md_given md_numbers k14 x1 x2 x3 x5 t0 t1 = some r) (hZ : St D A s (wd_SpeciesSolverModel_noteCost kc ad md_thrown md_drafted md_lines md_n md_species md_above md_trialSize md_foundSize md_foundSpecies md_foundN md_foundCost md_chosen md_low md_many md_ties md_winnerCost md_allMany md_allTies md_faults md_given md_numbers) H locs) (hl : lv_has ls 6 [(0, .ref (ad 0)), (1, .int x1), (2, .int x2), (3, .int x3), (5, .int x5)]) : W p l e rm_SpeciesSolverModel_noteCost s m args below meth c H locs 0 0 (MQ below (Qi D A (wd_SpeciesSolverModel_noteCost kc ad md_thrown md_drafted md_lines md_n md_species md_above md_trialSize md_foundSize md_foundSpecies md_foundN md_foundCost md_chosen md_low md_many md_ties md_winnerCost md_allMany md_allTies md_faults md_given md_numbers) r) args s 0 0 A) (F0 m 98 ls [.int t1, .int t0]) := by
  obtain ⟨hx, hb, hr, hts, hown, hml, hlocks, hK, hN, hA, hX⟩ := id C
  obtain ⟨hP, hD, hS⟩ := hZ
  unfold m_SpeciesSolverModel_noteCost_98 at hm
  refine lv_iadd hx hb d_SpeciesSolverModel_noteCost_98 ?_
  refine lv_istore (lv' := [(4, .int (t0 + t1)), (0, .ref (ad 0)), (1, .int x1), (2, .int x2), (3, .int x3), (5, .int x5)]) hx hb d_SpeciesSolverModel_noteCost_99 hl (by decide) rfl (fun ls hl => ?_)
  refine lv_iinc (v := (x5 + 1)) (lv' := [(5, .int (x5 + 1)), (4, .int (t0 + t1)), (0, .ref (ad 0)), (1, .int x1), (2, .int x2), (3, .int x3)]) hx hb d_SpeciesSolverModel_noteCost_101 hl (k := 5) rfl rfl (by decide) rfl (fun ls hl => ?_)
  refine lv_goto (tgt := 14) hx hb d_SpeciesSolverModel_noteCost_104 (by decide) ?_
  exact hk14 x1 x2 x3 (t0 + t1) (x5 + 1) _ _ _ hm ⟨hP, hD, hS⟩ (lv_sub hl [2, 3, 4, 5, 1, 0] rfl)
def m_SpeciesSolverModel_noteCost_97 (F : Nat) (md_lines : Int32) (md_n : Int32) (md_species : Int32) (md_given : Nat → Int32) (md_numbers : Nat → Int32) (k14 : Int32 → Int32 → Int32 → Int32 → Int32 → Option (Int32))  (x1 : Int32) (x2 : Int32) (x3 : Int32) (x5 : Int32) (t0 : Int32) : Option (Int32) :=
  m_SpeciesSolverModel_noteCost_98 F md_lines md_n md_species md_given md_numbers k14 x1 x2 x3 x5 t0 (0 : Int32)
set_option maxHeartbeats 4000000 in
set_option maxRecDepth 100000 in
theorem l_SpeciesSolverModel_noteCost_97 {r : Int32} {F : Nat} {ad : Nat → Nat} {md_thrown : Int32} {md_drafted : Int32} {md_lines : Int32} {md_n : Int32} {md_species : Int32} {md_above : Int32} {md_trialSize : Int32} {md_foundSize : Int32} {md_foundSpecies : Int32} {md_foundN : Int32} {md_foundCost : Int32} {md_chosen : Int32} {md_low : Int32} {md_many : Int64} {md_ties : Int64} {md_winnerCost : Int32} {md_allMany : Int64} {md_allTies : Int64} {md_faults : Int32} {md_given : Nat → Int32} {md_numbers : Nat → Int32} {k14 : Int32 → Int32 → Int32 → Int32 → Int32 → Option (Int32)} {x1 : Int32} {x2 : Int32} {x3 : Int32} {x5 : Int32} {t0 : Int32} {H : Heap} {locs : List Loc} {ls : Array Slot} (C : Cx p s m meth c args A D kc R_SpeciesSolverModel b_SpeciesSolverModel_noteCost 6 (some .int)) (hk14 : (∀  (x1 : Int32) (x2 : Int32) (x3 : Int32) (x4 : Int32) (x5 : Int32) (H : Heap) (locs : List Loc) (ls : Array Slot), k14 x1 x2 x3 x4 x5 = some r → St D A s (wd_SpeciesSolverModel_noteCost kc ad md_thrown md_drafted md_lines md_n md_species md_above md_trialSize md_foundSize md_foundSpecies md_foundN md_foundCost md_chosen md_low md_many md_ties md_winnerCost md_allMany md_allTies md_faults md_given md_numbers) H locs → lv_has ls 6 [(0, .ref (ad 0)), (1, .int x1), (2, .int x2), (3, .int x3), (4, .int x4), (5, .int x5)] → W p l e rm_SpeciesSolverModel_noteCost s m args below meth c H locs 0 0 (MQ below (Qi D A (wd_SpeciesSolverModel_noteCost kc ad md_thrown md_drafted md_lines md_n md_species md_above md_trialSize md_foundSize md_foundSpecies md_foundN md_foundCost md_chosen md_low md_many md_ties md_winnerCost md_allMany md_allTies md_faults md_given md_numbers) r) args s 0 0 A) (F0 m 14 ls []))) (hm : m_SpeciesSolverModel_noteCost_97 F md_lines md_n md_species md_given md_numbers k14 x1 x2 x3 x5 t0 = some r) (hZ : St D A s (wd_SpeciesSolverModel_noteCost kc ad md_thrown md_drafted md_lines md_n md_species md_above md_trialSize md_foundSize md_foundSpecies md_foundN md_foundCost md_chosen md_low md_many md_ties md_winnerCost md_allMany md_allTies md_faults md_given md_numbers) H locs) (hl : lv_has ls 6 [(0, .ref (ad 0)), (1, .int x1), (2, .int x2), (3, .int x3), (5, .int x5)]) : W p l e rm_SpeciesSolverModel_noteCost s m args below meth c H locs 0 0 (MQ below (Qi D A (wd_SpeciesSolverModel_noteCost kc ad md_thrown md_drafted md_lines md_n md_species md_above md_trialSize md_foundSize md_foundSpecies md_foundN md_foundCost md_chosen md_low md_many md_ties md_winnerCost md_allMany md_allTies md_faults md_given md_numbers) r) args s 0 0 A) (F0 m 97 ls [.int t0]) := by
  obtain ⟨hx, hb, hr, hts, hown, hml, hlocks, hK, hN, hA, hX⟩ := id C
  obtain ⟨hP, hD, hS⟩ := hZ
  unfold m_SpeciesSolverModel_noteCost_97 at hm
  refine lv_iconst (v := 0) hx hb d_SpeciesSolverModel_noteCost_97 (by decide) ?_
  exact l_SpeciesSolverModel_noteCost_98 C hk14 hm ⟨hP, hD, hS⟩ (lv_sub hl [0, 1, 2, 3, 4] rfl)
def m_SpeciesSolverModel_noteCost_52 (F : Nat) (md_lines : Int32) (md_n : Int32) (md_species : Int32) (md_given : Nat → Int32) (md_numbers : Nat → Int32) (k14 : Int32 → Int32 → Int32 → Int32 → Int32 → Option (Int32))  (x1 : Int32) (x2 : Int32) (x3 : Int32) (x5 : Int32) (t0 : Int32) (t1 : Int32) : Option (Int32) :=
  (if x1 ≤ (0 : Int32) then
    m_SpeciesSolverModel_noteCost_97 F md_lines md_n md_species md_given md_numbers k14 x1 x2 x3 x5 (t0 + t1)
  else
    (bd (m_SpeciesSolverModel_size md_n md_species) (fun u2 => (if (u2 - (1 : Int32)) ≤ x1 then
      m_SpeciesSolverModel_noteCost_97 F md_lines md_n md_species md_given md_numbers k14 x1 x2 x3 x5 (t0 + t1)
    else
      (bd (m_SpeciesSolverModel_at md_species md_given x5 x1) (fun u5 => (bd (m_SpeciesSolverModel_isIn md_numbers (4 : Int32) x3 u5) (fun u7 => (if u7 = (0 : Int32) then
        m_SpeciesSolverModel_noteCost_97 F md_lines md_n md_species md_given md_numbers k14 x1 x2 x3 x5 (t0 + t1)
      else
        m_SpeciesSolverModel_noteCost_98 F md_lines md_n md_species md_given md_numbers k14 x1 x2 x3 x5 (t0 + t1) (md_numbers (Int32.toNatClampNeg (16 : Int32))))))))))))
set_option maxHeartbeats 4000000 in
set_option maxRecDepth 100000 in
theorem l_SpeciesSolverModel_noteCost_52 {r : Int32} {F : Nat} {ad : Nat → Nat} {md_thrown : Int32} {md_drafted : Int32} {md_lines : Int32} {md_n : Int32} {md_species : Int32} {md_above : Int32} {md_trialSize : Int32} {md_foundSize : Int32} {md_foundSpecies : Int32} {md_foundN : Int32} {md_foundCost : Int32} {md_chosen : Int32} {md_low : Int32} {md_many : Int64} {md_ties : Int64} {md_winnerCost : Int32} {md_allMany : Int64} {md_allTies : Int64} {md_faults : Int32} {md_given : Nat → Int32} {md_numbers : Nat → Int32} {k14 : Int32 → Int32 → Int32 → Int32 → Int32 → Option (Int32)} {x1 : Int32} {x2 : Int32} {x3 : Int32} {x5 : Int32} {t0 : Int32} {t1 : Int32} {H : Heap} {locs : List Loc} {ls : Array Slot} (C : Cx p s m meth c args A D kc R_SpeciesSolverModel b_SpeciesSolverModel_noteCost 6 (some .int)) (hk14 : (∀  (x1 : Int32) (x2 : Int32) (x3 : Int32) (x4 : Int32) (x5 : Int32) (H : Heap) (locs : List Loc) (ls : Array Slot), k14 x1 x2 x3 x4 x5 = some r → St D A s (wd_SpeciesSolverModel_noteCost kc ad md_thrown md_drafted md_lines md_n md_species md_above md_trialSize md_foundSize md_foundSpecies md_foundN md_foundCost md_chosen md_low md_many md_ties md_winnerCost md_allMany md_allTies md_faults md_given md_numbers) H locs → lv_has ls 6 [(0, .ref (ad 0)), (1, .int x1), (2, .int x2), (3, .int x3), (4, .int x4), (5, .int x5)] → W p l e rm_SpeciesSolverModel_noteCost s m args below meth c H locs 0 0 (MQ below (Qi D A (wd_SpeciesSolverModel_noteCost kc ad md_thrown md_drafted md_lines md_n md_species md_above md_trialSize md_foundSize md_foundSpecies md_foundN md_foundCost md_chosen md_low md_many md_ties md_winnerCost md_allMany md_allTies md_faults md_given md_numbers) r) args s 0 0 A) (F0 m 14 ls []))) (hm : m_SpeciesSolverModel_noteCost_52 F md_lines md_n md_species md_given md_numbers k14 x1 x2 x3 x5 t0 t1 = some r) (hZ : St D A s (wd_SpeciesSolverModel_noteCost kc ad md_thrown md_drafted md_lines md_n md_species md_above md_trialSize md_foundSize md_foundSpecies md_foundN md_foundCost md_chosen md_low md_many md_ties md_winnerCost md_allMany md_allTies md_faults md_given md_numbers) H locs) (hl : lv_has ls 6 [(0, .ref (ad 0)), (1, .int x1), (2, .int x2), (3, .int x3), (5, .int x5)]) : W p l e rm_SpeciesSolverModel_noteCost s m args below meth c H locs 0 0 (MQ below (Qi D A (wd_SpeciesSolverModel_noteCost kc ad md_thrown md_drafted md_lines md_n md_species md_above md_trialSize md_foundSize md_foundSpecies md_foundN md_foundCost md_chosen md_low md_many md_ties md_winnerCost md_allMany md_allTies md_faults md_given md_numbers) r) args s 0 0 A) (F0 m 52 ls [.int t1, .int t0]) := by
  obtain ⟨hx, hb, hr, hts, hown, hml, hlocks, hK, hN, hA, hX⟩ := id C
  obtain ⟨hP, hD, hS⟩ := hZ
  unfold m_SpeciesSolverModel_noteCost_52 at hm
  refine lv_iadd hx hb d_SpeciesSolverModel_noteCost_52 ?_
  refine lv_istore (lv' := [(4, .int (t0 + t1)), (0, .ref (ad 0)), (1, .int x1), (2, .int x2), (3, .int x3), (5, .int x5)]) hx hb d_SpeciesSolverModel_noteCost_53 hl (by decide) rfl (fun ls hl => ?_)
  refine lv_iload hx hb d_SpeciesSolverModel_noteCost_55 (lv_at hl 0 rfl) ?_
  refine lv_iload_n hx hb d_SpeciesSolverModel_noteCost_57 rfl (lv_at hl 2 rfl) ?_
  refine lv_if_le (tgt := 97) hx hb d_SpeciesSolverModel_noteCost_58 (by decide) (fun c1 => ?_) (fun c1 => ?_)
  · replace hm := ifT hm c1
    exact l_SpeciesSolverModel_noteCost_97 C hk14 hm ⟨hP, hD, hS⟩ (lv_sub hl [1, 2, 3, 4, 5] rfl)
  · replace hm := ifF hm c1
    refine lv_iload_n hx hb d_SpeciesSolverModel_noteCost_61 rfl (lv_at hl 2 rfl) ?_
    refine lv_aload_n hx hb d_SpeciesSolverModel_noteCost_62 rfl (lv_at hl 1 rfl) ?_
    obtain ⟨u2, hc3, hm⟩ := bd_some hm
    refine zV_i (n := 0) (wr := [((ad 2), .inl (kc 0, 36, .inl md_given)), ((ad 4), .inl (kc 0, 18, .inl md_numbers))]) (w1 := (wd_SpeciesSolverModel_size kc ad md_thrown md_drafted md_lines md_n md_species md_above md_trialSize md_foundSize md_foundSpecies md_foundN md_foundCost md_chosen md_low md_many md_ties md_winnerCost md_allMany md_allTies md_faults)) (ws1 := (wd_SpeciesSolverModel_noteCost kc ad md_thrown md_drafted md_lines md_n md_species md_above md_trialSize md_foundSize md_foundSpecies md_foundN md_foundCost md_chosen md_low md_many md_ties md_winnerCost md_allMany md_allTies md_faults md_given md_numbers)) (As := []) (rest := [.int x1, .int (t0 + t1)]) (ci := 1) (q0 := 0) (y := y_SpeciesSolverModel_size) ⟨hx, hb, hml, hown, hts⟩ (fun sz => c_SpeciesSolverModel_size hc3 sz) gw_995 gw_992 gw_994 gw_79 gw_118 hd_SpeciesSolverModel_size ⟨Nat.le_of_ble_eq_true rfl, Nat.le_of_ble_eq_true rfl⟩ ⟨rfl, rfl⟩ ⟨Nat.zero_le _, Nat.zero_le _⟩ hK hN hP hD hS hA hX [0] [1, 2] [2, 0, 1] rfl rfl (by decide) (by decide) (by decide) rfl (by decide) rfl rfl rfl hl.1 rfl (Nat.le_of_ble_eq_true rfl) d_SpeciesSolverModel_noteCost_63 (fun H locs hP hD hS => ?_)
    refine lv_iconst (v := 1) hx hb d_SpeciesSolverModel_noteCost_66 (by decide) ?_
    refine lv_isub hx hb d_SpeciesSolverModel_noteCost_67 ?_
    refine lv_icmp_ge (tgt := 97) hx hb d_SpeciesSolverModel_noteCost_68 (by decide) (fun c4 => ?_) (fun c4 => ?_)
    · replace hm := ifT hm c4
      exact l_SpeciesSolverModel_noteCost_97 C hk14 hm ⟨hP, hD, hS⟩ (lv_sub hl [1, 2, 3, 4, 5] rfl)
    · replace hm := ifF hm c4
      refine lv_aload_n hx hb d_SpeciesSolverModel_noteCost_71 rfl (lv_at hl 1 rfl) ?_
      refine lv_iconst (v := 4) hx hb d_SpeciesSolverModel_noteCost_72 (by decide) ?_
      refine lv_iload_n hx hb d_SpeciesSolverModel_noteCost_73 rfl (lv_at hl 4 rfl) ?_
      refine lv_aload_n hx hb d_SpeciesSolverModel_noteCost_74 rfl (lv_at hl 1 rfl) ?_
      refine lv_iload hx hb d_SpeciesSolverModel_noteCost_75 (lv_at hl 5 rfl) ?_
      refine lv_iload_n hx hb d_SpeciesSolverModel_noteCost_77 rfl (lv_at hl 2 rfl) ?_
      obtain ⟨u5, hc6, hm⟩ := bd_some hm
      refine zV_i (n := 2) (wr := [((ad 4), .inl (kc 0, 18, .inl md_numbers))]) (w1 := (wd_SpeciesSolverModel_at kc ad md_thrown md_drafted md_lines md_n md_species md_above md_trialSize md_foundSize md_foundSpecies md_foundN md_foundCost md_chosen md_low md_many md_ties md_winnerCost md_allMany md_allTies md_faults md_given)) (ws1 := (wd_SpeciesSolverModel_noteCost kc ad md_thrown md_drafted md_lines md_n md_species md_above md_trialSize md_foundSize md_foundSpecies md_foundN md_foundCost md_chosen md_low md_many md_ties md_winnerCost md_allMany md_allTies md_faults md_given md_numbers)) (As := [.int x5, .int x1]) (rest := [.int x3, .int (4 : Int32), .ref (ad 0), .int (t0 + t1)]) (ci := 1) (q0 := 0) (y := y_SpeciesSolverModel_at) ⟨hx, hb, hml, hown, hts⟩ (fun sz => c_SpeciesSolverModel_at hc6 sz) gw_1022 gw_1019 gw_1021 gw_85 gw_118 hd_SpeciesSolverModel_at ⟨Nat.le_of_ble_eq_true rfl, Nat.le_of_ble_eq_true rfl⟩ ⟨rfl, rfl⟩ ⟨Nat.zero_le _, Nat.zero_le _⟩ hK hN hP hD hS hA hX [0, 1] [2] [1, 2, 0] rfl rfl (by decide) (by decide) (by decide) rfl (by decide) rfl rfl rfl hl.1 rfl (Nat.le_of_ble_eq_true rfl) d_SpeciesSolverModel_noteCost_78 (fun H locs hP hD hS => ?_)
      obtain ⟨u7, hc8, hm⟩ := bd_some hm
      refine zV_i (n := 3) (wr := [((ad 2), .inl (kc 0, 36, .inl md_given))]) (w1 := (wd_SpeciesSolverModel_isIn kc ad md_thrown md_drafted md_lines md_n md_species md_above md_trialSize md_foundSize md_foundSpecies md_foundN md_foundCost md_chosen md_low md_many md_ties md_winnerCost md_allMany md_allTies md_faults md_numbers)) (ws1 := (wd_SpeciesSolverModel_noteCost kc ad md_thrown md_drafted md_lines md_n md_species md_above md_trialSize md_foundSize md_foundSpecies md_foundN md_foundCost md_chosen md_low md_many md_ties md_winnerCost md_allMany md_allTies md_faults md_given md_numbers)) (As := [.int (4 : Int32), .int x3, .int u5]) (rest := [.int (t0 + t1)]) (ci := 1) (q0 := 0) (y := y_SpeciesSolverModel_isIn) ⟨hx, hb, hml, hown, hts⟩ (fun sz => c_SpeciesSolverModel_isIn hc8 sz) gw_1026 gw_1023 gw_1025 gw_86 gw_118 hd_SpeciesSolverModel_isIn ⟨Nat.le_of_ble_eq_true rfl, Nat.le_of_ble_eq_true rfl⟩ ⟨rfl, rfl⟩ ⟨Nat.zero_le _, Nat.zero_le _⟩ hK hN hP hD hS hA hX [0, 2] [1] [1, 0, 2] rfl rfl (by decide) (by decide) (by decide) rfl (by decide) rfl rfl rfl hl.1 rfl (Nat.le_of_ble_eq_true rfl) d_SpeciesSolverModel_noteCost_81 (fun H locs hP hD hS => ?_)
      refine lv_if_eq (tgt := 97) hx hb d_SpeciesSolverModel_noteCost_84 (by decide) (fun c9 => ?_) (fun c9 => ?_)
      · replace hm := ifT hm c9
        exact l_SpeciesSolverModel_noteCost_97 C hk14 hm ⟨hP, hD, hS⟩ (lv_sub hl [1, 2, 3, 4, 5] rfl)
      · replace hm := ifF hm c9
        refine lv_aload_n hx hb d_SpeciesSolverModel_noteCost_87 rfl (lv_at hl 1 rfl) ?_
        refine va_get (D := D) (ci := 1) (v := .ref (ad 4)) (C := R_SpeciesSolverModel) (T := T_SpeciesSolverModel) (N := 35) hx hb hts inG_SpeciesSolverModel hown hK hP 0 rfl rfl 9 (by decide) (hts _ gw_827) (fun _ h9 => h9) rfl d_SpeciesSolverModel_noteCost_88 ?_
        refine lv_bipush (v := 16) hx hb d_SpeciesSolverModel_noteCost_91 (by decide) ?_
        refine va_iald hx hb hK hP 2 0 rfl rfl (in_lit (by decide)) d_SpeciesSolverModel_noteCost_93 ?_
        refine lv_goto (tgt := 98) hx hb d_SpeciesSolverModel_noteCost_94 (by decide) ?_
        exact l_SpeciesSolverModel_noteCost_98 C hk14 hm ⟨hP, hD, hS⟩ (lv_sub hl [1, 2, 3, 4, 5] rfl)
def m_SpeciesSolverModel_noteCost_51 (F : Nat) (md_lines : Int32) (md_n : Int32) (md_species : Int32) (md_given : Nat → Int32) (md_numbers : Nat → Int32) (k14 : Int32 → Int32 → Int32 → Int32 → Int32 → Option (Int32))  (x1 : Int32) (x2 : Int32) (x3 : Int32) (x5 : Int32) (t0 : Int32) : Option (Int32) :=
  m_SpeciesSolverModel_noteCost_52 F md_lines md_n md_species md_given md_numbers k14 x1 x2 x3 x5 t0 (0 : Int32)
set_option maxHeartbeats 4000000 in
set_option maxRecDepth 100000 in
theorem l_SpeciesSolverModel_noteCost_51 {r : Int32} {F : Nat} {ad : Nat → Nat} {md_thrown : Int32} {md_drafted : Int32} {md_lines : Int32} {md_n : Int32} {md_species : Int32} {md_above : Int32} {md_trialSize : Int32} {md_foundSize : Int32} {md_foundSpecies : Int32} {md_foundN : Int32} {md_foundCost : Int32} {md_chosen : Int32} {md_low : Int32} {md_many : Int64} {md_ties : Int64} {md_winnerCost : Int32} {md_allMany : Int64} {md_allTies : Int64} {md_faults : Int32} {md_given : Nat → Int32} {md_numbers : Nat → Int32} {k14 : Int32 → Int32 → Int32 → Int32 → Int32 → Option (Int32)} {x1 : Int32} {x2 : Int32} {x3 : Int32} {x5 : Int32} {t0 : Int32} {H : Heap} {locs : List Loc} {ls : Array Slot} (C : Cx p s m meth c args A D kc R_SpeciesSolverModel b_SpeciesSolverModel_noteCost 6 (some .int)) (hk14 : (∀  (x1 : Int32) (x2 : Int32) (x3 : Int32) (x4 : Int32) (x5 : Int32) (H : Heap) (locs : List Loc) (ls : Array Slot), k14 x1 x2 x3 x4 x5 = some r → St D A s (wd_SpeciesSolverModel_noteCost kc ad md_thrown md_drafted md_lines md_n md_species md_above md_trialSize md_foundSize md_foundSpecies md_foundN md_foundCost md_chosen md_low md_many md_ties md_winnerCost md_allMany md_allTies md_faults md_given md_numbers) H locs → lv_has ls 6 [(0, .ref (ad 0)), (1, .int x1), (2, .int x2), (3, .int x3), (4, .int x4), (5, .int x5)] → W p l e rm_SpeciesSolverModel_noteCost s m args below meth c H locs 0 0 (MQ below (Qi D A (wd_SpeciesSolverModel_noteCost kc ad md_thrown md_drafted md_lines md_n md_species md_above md_trialSize md_foundSize md_foundSpecies md_foundN md_foundCost md_chosen md_low md_many md_ties md_winnerCost md_allMany md_allTies md_faults md_given md_numbers) r) args s 0 0 A) (F0 m 14 ls []))) (hm : m_SpeciesSolverModel_noteCost_51 F md_lines md_n md_species md_given md_numbers k14 x1 x2 x3 x5 t0 = some r) (hZ : St D A s (wd_SpeciesSolverModel_noteCost kc ad md_thrown md_drafted md_lines md_n md_species md_above md_trialSize md_foundSize md_foundSpecies md_foundN md_foundCost md_chosen md_low md_many md_ties md_winnerCost md_allMany md_allTies md_faults md_given md_numbers) H locs) (hl : lv_has ls 6 [(0, .ref (ad 0)), (1, .int x1), (2, .int x2), (3, .int x3), (5, .int x5)]) : W p l e rm_SpeciesSolverModel_noteCost s m args below meth c H locs 0 0 (MQ below (Qi D A (wd_SpeciesSolverModel_noteCost kc ad md_thrown md_drafted md_lines md_n md_species md_above md_trialSize md_foundSize md_foundSpecies md_foundN md_foundCost md_chosen md_low md_many md_ties md_winnerCost md_allMany md_allTies md_faults md_given md_numbers) r) args s 0 0 A) (F0 m 51 ls [.int t0]) := by
  obtain ⟨hx, hb, hr, hts, hown, hml, hlocks, hK, hN, hA, hX⟩ := id C
  obtain ⟨hP, hD, hS⟩ := hZ
  unfold m_SpeciesSolverModel_noteCost_51 at hm
  refine lv_iconst (v := 0) hx hb d_SpeciesSolverModel_noteCost_51 (by decide) ?_
  exact l_SpeciesSolverModel_noteCost_52 C hk14 hm ⟨hP, hD, hS⟩ (lv_sub hl [0, 1, 2, 3, 4] rfl)
def m_SpeciesSolverModel_noteCost_14b (F : Nat) (md_lines : Int32) (md_n : Int32) (md_species : Int32) (md_given : Nat → Int32) (md_numbers : Nat → Int32) (k14 : Int32 → Int32 → Int32 → Int32 → Int32 → Option (Int32))  (x1 : Int32) (x2 : Int32) (x3 : Int32) (x4 : Int32) (x5 : Int32) : Option (Int32) :=
  (if md_lines ≤ x5 then
    (some x4)
  else
    (if x1 ≤ (0 : Int32) then
      m_SpeciesSolverModel_noteCost_51 F md_lines md_n md_species md_given md_numbers k14 x1 x2 x3 x5 x4
    else
      (bd (m_SpeciesSolverModel_isAlike md_species md_given x5 x1 x2 x3) (fun u3 => (if u3 = (0 : Int32) then
        m_SpeciesSolverModel_noteCost_51 F md_lines md_n md_species md_given md_numbers k14 x1 x2 x3 x5 x4
      else
        m_SpeciesSolverModel_noteCost_52 F md_lines md_n md_species md_given md_numbers k14 x1 x2 x3 x5 x4 (md_numbers (Int32.toNatClampNeg (15 : Int32))))))))
set_option maxHeartbeats 4000000 in
set_option maxRecDepth 100000 in
theorem l_SpeciesSolverModel_noteCost_14 {r : Int32} {F : Nat} {ad : Nat → Nat} {md_thrown : Int32} {md_drafted : Int32} {md_lines : Int32} {md_n : Int32} {md_species : Int32} {md_above : Int32} {md_trialSize : Int32} {md_foundSize : Int32} {md_foundSpecies : Int32} {md_foundN : Int32} {md_foundCost : Int32} {md_chosen : Int32} {md_low : Int32} {md_many : Int64} {md_ties : Int64} {md_winnerCost : Int32} {md_allMany : Int64} {md_allTies : Int64} {md_faults : Int32} {md_given : Nat → Int32} {md_numbers : Nat → Int32} {k14 : Int32 → Int32 → Int32 → Int32 → Int32 → Option (Int32)} {x1 : Int32} {x2 : Int32} {x3 : Int32} {x4 : Int32} {x5 : Int32} {H : Heap} {locs : List Loc} {ls : Array Slot} (C : Cx p s m meth c args A D kc R_SpeciesSolverModel b_SpeciesSolverModel_noteCost 6 (some .int)) (hk14 : (∀  (x1 : Int32) (x2 : Int32) (x3 : Int32) (x4 : Int32) (x5 : Int32) (H : Heap) (locs : List Loc) (ls : Array Slot), k14 x1 x2 x3 x4 x5 = some r → St D A s (wd_SpeciesSolverModel_noteCost kc ad md_thrown md_drafted md_lines md_n md_species md_above md_trialSize md_foundSize md_foundSpecies md_foundN md_foundCost md_chosen md_low md_many md_ties md_winnerCost md_allMany md_allTies md_faults md_given md_numbers) H locs → lv_has ls 6 [(0, .ref (ad 0)), (1, .int x1), (2, .int x2), (3, .int x3), (4, .int x4), (5, .int x5)] → W p l e rm_SpeciesSolverModel_noteCost s m args below meth c H locs 0 0 (MQ below (Qi D A (wd_SpeciesSolverModel_noteCost kc ad md_thrown md_drafted md_lines md_n md_species md_above md_trialSize md_foundSize md_foundSpecies md_foundN md_foundCost md_chosen md_low md_many md_ties md_winnerCost md_allMany md_allTies md_faults md_given md_numbers) r) args s 0 0 A) (F0 m 14 ls []))) (hm : m_SpeciesSolverModel_noteCost_14b F md_lines md_n md_species md_given md_numbers k14 x1 x2 x3 x4 x5 = some r) (hZ : St D A s (wd_SpeciesSolverModel_noteCost kc ad md_thrown md_drafted md_lines md_n md_species md_above md_trialSize md_foundSize md_foundSpecies md_foundN md_foundCost md_chosen md_low md_many md_ties md_winnerCost md_allMany md_allTies md_faults md_given md_numbers) H locs) (hl : lv_has ls 6 [(0, .ref (ad 0)), (1, .int x1), (2, .int x2), (3, .int x3), (4, .int x4), (5, .int x5)]) : W p l e rm_SpeciesSolverModel_noteCost s m args below meth c H locs 0 0 (MQ below (Qi D A (wd_SpeciesSolverModel_noteCost kc ad md_thrown md_drafted md_lines md_n md_species md_above md_trialSize md_foundSize md_foundSpecies md_foundN md_foundCost md_chosen md_low md_many md_ties md_winnerCost md_allMany md_allTies md_faults md_given md_numbers) r) args s 0 0 A) (F0 m 14 ls []) := by
  obtain ⟨hx, hb, hr, hts, hown, hml, hlocks, hK, hN, hA, hX⟩ := id C
  obtain ⟨hP, hD, hS⟩ := hZ
  unfold m_SpeciesSolverModel_noteCost_14b at hm
  refine lv_iload hx hb d_SpeciesSolverModel_noteCost_14 (lv_at hl 5 rfl) ?_
  refine lv_aload_n hx hb d_SpeciesSolverModel_noteCost_16 rfl (lv_at hl 0 rfl) ?_
  refine va_get (D := D) (ci := 1) (v := .int md_lines) (C := R_SpeciesSolverModel) (T := T_SpeciesSolverModel) (N := 35) hx hb hts inG_SpeciesSolverModel hown hK hP 0 rfl rfl 4 (by decide) (hts _ gw_822) (fun _ h9 => h9) rfl d_SpeciesSolverModel_noteCost_17 ?_
  refine lv_icmp_ge (tgt := 107) hx hb d_SpeciesSolverModel_noteCost_20 (by decide) (fun c1 => ?_) (fun c1 => ?_)
  · replace hm := ifT hm c1
    refine lv_goto (tgt := 135) hx hb d_SpeciesSolverModel_noteCost_107 (by decide) ?_
    refine lv_iload hx hb d_SpeciesSolverModel_noteCost_135 (lv_at hl 4 rfl) ?_
    replace hm := Option.some.inj hm; subst hm
    exact zret_i C hP hD hS d_SpeciesSolverModel_noteCost_137
  · replace hm := ifF hm c1
    refine lv_iload hx hb d_SpeciesSolverModel_noteCost_23 (lv_at hl 4 rfl) ?_
    refine lv_iload_n hx hb d_SpeciesSolverModel_noteCost_25 rfl (lv_at hl 1 rfl) ?_
    refine lv_if_le (tgt := 51) hx hb d_SpeciesSolverModel_noteCost_26 (by decide) (fun c2 => ?_) (fun c2 => ?_)
    · replace hm := ifT hm c2
      exact l_SpeciesSolverModel_noteCost_51 C hk14 hm ⟨hP, hD, hS⟩ (lv_sub hl [0, 1, 2, 3, 5] rfl)
    · replace hm := ifF hm c2
      refine lv_aload_n hx hb d_SpeciesSolverModel_noteCost_29 rfl (lv_at hl 0 rfl) ?_
      refine lv_iload hx hb d_SpeciesSolverModel_noteCost_30 (lv_at hl 5 rfl) ?_
      refine lv_iload_n hx hb d_SpeciesSolverModel_noteCost_32 rfl (lv_at hl 1 rfl) ?_
      refine lv_iload_n hx hb d_SpeciesSolverModel_noteCost_33 rfl (lv_at hl 2 rfl) ?_
      refine lv_iload_n hx hb d_SpeciesSolverModel_noteCost_34 rfl (lv_at hl 3 rfl) ?_
      obtain ⟨u3, hc4, hm⟩ := bd_some hm
      refine zV_i (n := 4) (wr := [((ad 4), .inl (kc 0, 18, .inl md_numbers))]) (w1 := (wd_SpeciesSolverModel_isAlike kc ad md_thrown md_drafted md_lines md_n md_species md_above md_trialSize md_foundSize md_foundSpecies md_foundN md_foundCost md_chosen md_low md_many md_ties md_winnerCost md_allMany md_allTies md_faults md_given)) (ws1 := (wd_SpeciesSolverModel_noteCost kc ad md_thrown md_drafted md_lines md_n md_species md_above md_trialSize md_foundSize md_foundSpecies md_foundN md_foundCost md_chosen md_low md_many md_ties md_winnerCost md_allMany md_allTies md_faults md_given md_numbers)) (As := [.int x5, .int x1, .int x2, .int x3]) (rest := [.int x4]) (ci := 1) (q0 := 0) (y := y_SpeciesSolverModel_isAlike) ⟨hx, hb, hml, hown, hts⟩ (fun sz => c_SpeciesSolverModel_isAlike hc4 sz) gw_1037 gw_1034 gw_1036 gw_88 gw_118 hd_SpeciesSolverModel_isAlike ⟨Nat.le_of_ble_eq_true rfl, Nat.le_of_ble_eq_true rfl⟩ ⟨rfl, rfl⟩ ⟨Nat.zero_le _, Nat.zero_le _⟩ hK hN hP hD hS hA hX [0, 1] [2] [1, 2, 0] rfl rfl (by decide) (by decide) (by decide) rfl (by decide) rfl rfl rfl hl.1 rfl (Nat.le_of_ble_eq_true rfl) d_SpeciesSolverModel_noteCost_35 (fun H locs hP hD hS => ?_)
      refine lv_if_eq (tgt := 51) hx hb d_SpeciesSolverModel_noteCost_38 (by decide) (fun c5 => ?_) (fun c5 => ?_)
      · replace hm := ifT hm c5
        exact l_SpeciesSolverModel_noteCost_51 C hk14 hm ⟨hP, hD, hS⟩ (lv_sub hl [0, 1, 2, 3, 5] rfl)
      · replace hm := ifF hm c5
        refine lv_aload_n hx hb d_SpeciesSolverModel_noteCost_41 rfl (lv_at hl 0 rfl) ?_
        refine va_get (D := D) (ci := 1) (v := .ref (ad 4)) (C := R_SpeciesSolverModel) (T := T_SpeciesSolverModel) (N := 35) hx hb hts inG_SpeciesSolverModel hown hK hP 0 rfl rfl 9 (by decide) (hts _ gw_827) (fun _ h9 => h9) rfl d_SpeciesSolverModel_noteCost_42 ?_
        refine lv_bipush (v := 15) hx hb d_SpeciesSolverModel_noteCost_45 (by decide) ?_
        refine va_iald hx hb hK hP 2 0 rfl rfl (in_lit (by decide)) d_SpeciesSolverModel_noteCost_47 ?_
        refine lv_goto (tgt := 52) hx hb d_SpeciesSolverModel_noteCost_48 (by decide) ?_
        exact l_SpeciesSolverModel_noteCost_52 C hk14 hm ⟨hP, hD, hS⟩ (lv_sub hl [0, 1, 2, 3, 5] rfl)
def m_SpeciesSolverModel_noteCost_14 (F : Nat) (md_lines : Int32) (md_n : Int32) (md_species : Int32) (md_given : Nat → Int32) (md_numbers : Nat → Int32)  : Nat → Int32 → Int32 → Int32 → Int32 → Int32 → Option (Int32)
  | 0 => fun _ _ _ _ _ => none
  | n + 1 => m_SpeciesSolverModel_noteCost_14b F md_lines md_n md_species md_given md_numbers  (m_SpeciesSolverModel_noteCost_14 F md_lines md_n md_species md_given md_numbers  n)
set_option maxHeartbeats 4000000 in
set_option maxRecDepth 100000 in
theorem lp_SpeciesSolverModel_noteCost_14 {r : Int32} {F : Nat} {ad : Nat → Nat} {md_thrown : Int32} {md_drafted : Int32} {md_lines : Int32} {md_n : Int32} {md_species : Int32} {md_above : Int32} {md_trialSize : Int32} {md_foundSize : Int32} {md_foundSpecies : Int32} {md_foundN : Int32} {md_foundCost : Int32} {md_chosen : Int32} {md_low : Int32} {md_many : Int64} {md_ties : Int64} {md_winnerCost : Int32} {md_allMany : Int64} {md_allTies : Int64} {md_faults : Int32} {md_given : Nat → Int32} {md_numbers : Nat → Int32}  (C : Cx p s m meth c args A D kc R_SpeciesSolverModel b_SpeciesSolverModel_noteCost 6 (some .int))  : ∀ (n : Nat)  (x1 : Int32) (x2 : Int32) (x3 : Int32) (x4 : Int32) (x5 : Int32) (H : Heap) (locs : List Loc) (ls : Array Slot), m_SpeciesSolverModel_noteCost_14 F md_lines md_n md_species md_given md_numbers  n x1 x2 x3 x4 x5 = some r → St D A s (wd_SpeciesSolverModel_noteCost kc ad md_thrown md_drafted md_lines md_n md_species md_above md_trialSize md_foundSize md_foundSpecies md_foundN md_foundCost md_chosen md_low md_many md_ties md_winnerCost md_allMany md_allTies md_faults md_given md_numbers) H locs → lv_has ls 6 [(0, .ref (ad 0)), (1, .int x1), (2, .int x2), (3, .int x3), (4, .int x4), (5, .int x5)] → W p l e rm_SpeciesSolverModel_noteCost s m args below meth c H locs 0 0 (MQ below (Qi D A (wd_SpeciesSolverModel_noteCost kc ad md_thrown md_drafted md_lines md_n md_species md_above md_trialSize md_foundSize md_foundSpecies md_foundN md_foundCost md_chosen md_low md_many md_ties md_winnerCost md_allMany md_allTies md_faults md_given md_numbers) r) args s 0 0 A) (F0 m 14 ls []) := by
  intro n
  induction n with
  | zero => intro x1 x2 x3 x4 x5 H locs ls hm; cases hm
  | succ n ih => intro x1 x2 x3 x4 x5 H locs ls hm hZ hl; exact l_SpeciesSolverModel_noteCost_14 C  ih hm hZ hl
def m_SpeciesSolverModel_noteCost (F : Nat) (md_lines : Int32) (md_n : Int32) (md_species : Int32) (md_given : Nat → Int32) (md_numbers : Nat → Int32)  (a1 : Int32) (a2 : Int32) (a3 : Int32) : Option (Int32) :=
  (bd (m_SpeciesSolverModel_isStrong md_species a1) (fun u1 => (if u1 = (0 : Int32) then
    (bd (m_SpeciesSolverModel_isHard F md_lines md_species md_given md_numbers a1 a3) (fun u4 => (if u4 = (0 : Int32) then
      (some ((0 : Int32) + (0 : Int32)))
    else
      (some ((0 : Int32) + (md_numbers (Int32.toNatClampNeg (17 : Int32))))))))
  else
    m_SpeciesSolverModel_noteCost_14 F md_lines md_n md_species md_given md_numbers  F a1 a2 a3 (0 : Int32) (0 : Int32))))
set_option maxHeartbeats 4000000 in
set_option maxRecDepth 100000 in
theorem e_SpeciesSolverModel_noteCost {r : Int32} {F : Nat} {ad : Nat → Nat} {md_thrown : Int32} {md_drafted : Int32} {md_lines : Int32} {md_n : Int32} {md_species : Int32} {md_above : Int32} {md_trialSize : Int32} {md_foundSize : Int32} {md_foundSpecies : Int32} {md_foundN : Int32} {md_foundCost : Int32} {md_chosen : Int32} {md_low : Int32} {md_many : Int64} {md_ties : Int64} {md_winnerCost : Int32} {md_allMany : Int64} {md_allTies : Int64} {md_faults : Int32} {md_given : Nat → Int32} {md_numbers : Nat → Int32} {a1 : Int32} {a2 : Int32} {a3 : Int32} {H : Heap} {locs : List Loc} {ls : Array Slot} (C : Cx p s m meth c args A D kc R_SpeciesSolverModel b_SpeciesSolverModel_noteCost 6 (some .int)) (hm : m_SpeciesSolverModel_noteCost F md_lines md_n md_species md_given md_numbers a1 a2 a3 = some r) (hZ : St D A s (wd_SpeciesSolverModel_noteCost kc ad md_thrown md_drafted md_lines md_n md_species md_above md_trialSize md_foundSize md_foundSpecies md_foundN md_foundCost md_chosen md_low md_many md_ties md_winnerCost md_allMany md_allTies md_faults md_given md_numbers) H locs) (hl : lv_has ls 6 [(0, .ref (ad 0)), (1, .int a1), (2, .int a2), (3, .int a3)]) : W p l e rm_SpeciesSolverModel_noteCost s m args below meth c H locs 0 0 (MQ below (Qi D A (wd_SpeciesSolverModel_noteCost kc ad md_thrown md_drafted md_lines md_n md_species md_above md_trialSize md_foundSize md_foundSpecies md_foundN md_foundCost md_chosen md_low md_many md_ties md_winnerCost md_allMany md_allTies md_faults md_given md_numbers) r) args s 0 0 A) (F0 m 0 ls []) := by
  obtain ⟨hx, hb, hr, hts, hown, hml, hlocks, hK, hN, hA, hX⟩ := id C
  obtain ⟨hP, hD, hS⟩ := hZ
  unfold m_SpeciesSolverModel_noteCost at hm
  refine lv_iconst (v := 0) hx hb d_SpeciesSolverModel_noteCost_0 (by decide) ?_
  refine lv_istore (lv' := [(4, .int (0 : Int32)), (0, .ref (ad 0)), (1, .int a1), (2, .int a2), (3, .int a3)]) hx hb d_SpeciesSolverModel_noteCost_1 hl (by decide) rfl (fun ls hl => ?_)
  refine lv_aload_n hx hb d_SpeciesSolverModel_noteCost_3 rfl (lv_at hl 1 rfl) ?_
  refine lv_iload_n hx hb d_SpeciesSolverModel_noteCost_4 rfl (lv_at hl 2 rfl) ?_
  obtain ⟨u1, hc2, hm⟩ := bd_some hm
  refine zV_i (n := 1) (wr := [((ad 2), .inl (kc 0, 36, .inl md_given)), ((ad 4), .inl (kc 0, 18, .inl md_numbers))]) (w1 := (wd_SpeciesSolverModel_isStrong kc ad md_thrown md_drafted md_lines md_n md_species md_above md_trialSize md_foundSize md_foundSpecies md_foundN md_foundCost md_chosen md_low md_many md_ties md_winnerCost md_allMany md_allTies md_faults)) (ws1 := (wd_SpeciesSolverModel_noteCost kc ad md_thrown md_drafted md_lines md_n md_species md_above md_trialSize md_foundSize md_foundSpecies md_foundN md_foundCost md_chosen md_low md_many md_ties md_winnerCost md_allMany md_allTies md_faults md_given md_numbers)) (As := [.int a1]) (rest := []) (ci := 1) (q0 := 0) (y := y_SpeciesSolverModel_isStrong) ⟨hx, hb, hml, hown, hts⟩ (fun sz => c_SpeciesSolverModel_isStrong hc2 sz) gw_999 gw_996 gw_998 gw_80 gw_118 hd_SpeciesSolverModel_isStrong ⟨Nat.le_of_ble_eq_true rfl, Nat.le_of_ble_eq_true rfl⟩ ⟨rfl, rfl⟩ ⟨Nat.zero_le _, Nat.zero_le _⟩ hK hN hP hD hS hA hX [0] [1, 2] [2, 0, 1] rfl rfl (by decide) (by decide) (by decide) rfl (by decide) rfl rfl rfl hl.1 rfl (Nat.le_of_ble_eq_true rfl) d_SpeciesSolverModel_noteCost_5 (fun H locs hP hD hS => ?_)
  refine lv_if_eq (tgt := 110) hx hb d_SpeciesSolverModel_noteCost_8 (by decide) (fun c3 => ?_) (fun c3 => ?_)
  · replace hm := ifT hm c3
    refine lv_iload hx hb d_SpeciesSolverModel_noteCost_110 (lv_at hl 0 rfl) ?_
    refine lv_aload_n hx hb d_SpeciesSolverModel_noteCost_112 rfl (lv_at hl 1 rfl) ?_
    refine lv_iload_n hx hb d_SpeciesSolverModel_noteCost_113 rfl (lv_at hl 2 rfl) ?_
    refine lv_iload_n hx hb d_SpeciesSolverModel_noteCost_114 rfl (lv_at hl 4 rfl) ?_
    obtain ⟨u4, hc5, hm⟩ := bd_some hm
    refine zV_i (n := 2) (wr := []) (w1 := (wd_SpeciesSolverModel_isHard kc ad md_thrown md_drafted md_lines md_n md_species md_above md_trialSize md_foundSize md_foundSpecies md_foundN md_foundCost md_chosen md_low md_many md_ties md_winnerCost md_allMany md_allTies md_faults md_given md_numbers)) (ws1 := (wd_SpeciesSolverModel_noteCost kc ad md_thrown md_drafted md_lines md_n md_species md_above md_trialSize md_foundSize md_foundSpecies md_foundN md_foundCost md_chosen md_low md_many md_ties md_winnerCost md_allMany md_allTies md_faults md_given md_numbers)) (As := [.int a1, .int a3]) (rest := [.int (0 : Int32)]) (ci := 1) (q0 := 0) (y := y_SpeciesSolverModel_isHard) ⟨hx, hb, hml, hown, hts⟩ (fun sz => c_SpeciesSolverModel_isHard hc5 sz) gw_1089 gw_1086 gw_1088 gw_98 gw_118 hd_SpeciesSolverModel_isHard ⟨Nat.le_of_ble_eq_true rfl, Nat.le_of_ble_eq_true rfl⟩ ⟨rfl, rfl⟩ ⟨Nat.zero_le _, Nat.zero_le _⟩ hK hN hP hD hS hA hX [0, 1, 2] [] [0, 1, 2] rfl rfl (by decide) (by decide) (by decide) rfl (by decide) rfl rfl rfl hl.1 rfl (Nat.le_of_ble_eq_true rfl) d_SpeciesSolverModel_noteCost_115 (fun H locs hP hD hS => ?_)
    refine lv_if_eq (tgt := 131) hx hb d_SpeciesSolverModel_noteCost_118 (by decide) (fun c6 => ?_) (fun c6 => ?_)
    · replace hm := ifT hm c6
      refine lv_iconst (v := 0) hx hb d_SpeciesSolverModel_noteCost_131 (by decide) ?_
      refine lv_iadd hx hb d_SpeciesSolverModel_noteCost_132 ?_
      refine lv_istore (lv' := [(4, .int ((0 : Int32) + (0 : Int32))), (0, .ref (ad 0)), (1, .int a1), (2, .int a2), (3, .int a3)]) hx hb d_SpeciesSolverModel_noteCost_133 hl (by decide) rfl (fun ls hl => ?_)
      refine lv_iload hx hb d_SpeciesSolverModel_noteCost_135 (lv_at hl 0 rfl) ?_
      replace hm := Option.some.inj hm; subst hm
      exact zret_i C hP hD hS d_SpeciesSolverModel_noteCost_137
    · replace hm := ifF hm c6
      refine lv_aload_n hx hb d_SpeciesSolverModel_noteCost_121 rfl (lv_at hl 1 rfl) ?_
      refine va_get (D := D) (ci := 1) (v := .ref (ad 4)) (C := R_SpeciesSolverModel) (T := T_SpeciesSolverModel) (N := 35) hx hb hts inG_SpeciesSolverModel hown hK hP 0 rfl rfl 9 (by decide) (hts _ gw_827) (fun _ h9 => h9) rfl d_SpeciesSolverModel_noteCost_122 ?_
      refine lv_bipush (v := 17) hx hb d_SpeciesSolverModel_noteCost_125 (by decide) ?_
      refine va_iald hx hb hK hP 2 0 rfl rfl (in_lit (by decide)) d_SpeciesSolverModel_noteCost_127 ?_
      refine lv_goto (tgt := 132) hx hb d_SpeciesSolverModel_noteCost_128 (by decide) ?_
      refine lv_iadd hx hb d_SpeciesSolverModel_noteCost_132 ?_
      refine lv_istore (lv' := [(4, .int ((0 : Int32) + (md_numbers (Int32.toNatClampNeg (17 : Int32))))), (0, .ref (ad 0)), (1, .int a1), (2, .int a2), (3, .int a3)]) hx hb d_SpeciesSolverModel_noteCost_133 hl (by decide) rfl (fun ls hl => ?_)
      refine lv_iload hx hb d_SpeciesSolverModel_noteCost_135 (lv_at hl 0 rfl) ?_
      replace hm := Option.some.inj hm; subst hm
      exact zret_i C hP hD hS d_SpeciesSolverModel_noteCost_137
  · replace hm := ifF hm c3
    refine lv_iconst (v := 0) hx hb d_SpeciesSolverModel_noteCost_11 (by decide) ?_
    refine lv_istore (lv' := [(5, .int (0 : Int32)), (4, .int (0 : Int32)), (0, .ref (ad 0)), (1, .int a1), (2, .int a2), (3, .int a3)]) hx hb d_SpeciesSolverModel_noteCost_12 hl (by decide) rfl (fun ls hl => ?_)
    exact lp_SpeciesSolverModel_noteCost_14 C  F a1 a2 a3 (0 : Int32) (0 : Int32) _ _ _ hm ⟨hP, hD, hS⟩ (lv_sub hl [2, 3, 4, 5, 1, 0] rfl)
set_option maxHeartbeats 4000000 in
set_option maxRecDepth 100000 in
theorem c_SpeciesSolverModel_noteCost {l : Launch} {D : va_G} {kc : Nat → ClassId} {r : Int32} {F : Nat} {ad : Nat → Nat} {md_thrown : Int32} {md_drafted : Int32} {md_lines : Int32} {md_n : Int32} {md_species : Int32} {md_above : Int32} {md_trialSize : Int32} {md_foundSize : Int32} {md_foundSpecies : Int32} {md_foundN : Int32} {md_foundCost : Int32} {md_chosen : Int32} {md_low : Int32} {md_many : Int64} {md_ties : Int64} {md_winnerCost : Int32} {md_allMany : Int64} {md_allTies : Int64} {md_faults : Int32} {md_given : Nat → Int32} {md_numbers : Nat → Int32} {a1 : Int32} {a2 : Int32} {a3 : Int32} (hm : m_SpeciesSolverModel_noteCost F md_lines md_n md_species md_given md_numbers a1 a2 a3 = some r) (sz : Nat) : Ci l y_SpeciesSolverModel_noteCost ws_SpeciesSolverModel_noteCost rm_SpeciesSolverModel_noteCost D kc sz [.ref (ad 0), .int a1, .int a2, .int a3] (wd_SpeciesSolverModel_noteCost kc ad md_thrown md_drafted md_lines md_n md_species md_above md_trialSize md_foundSize md_foundSpecies md_foundN md_foundCost md_chosen md_low md_many md_ties md_winnerCost md_allMany md_allTies md_faults md_given md_numbers) (wd_SpeciesSolverModel_noteCost kc ad md_thrown md_drafted md_lines md_n md_species md_above md_trialSize md_foundSize md_foundSpecies md_foundN md_foundCost md_chosen md_low md_many md_ties md_winnerCost md_allMany md_allTies md_faults md_given md_numbers) r :=
  Cz_of (Qf := fun A => (Qi D A (wd_SpeciesSolverModel_noteCost kc ad md_thrown md_drafted md_lines md_n md_species md_above md_trialSize md_foundSize md_foundSpecies md_foundN md_foundCost md_chosen md_low md_many md_ties md_winnerCost md_allMany md_allTies md_faults md_given md_numbers) r)) (cc := b_SpeciesSolverModel_noteCost) (maxL := 6) (ret := (some .int)) (by decide) rfl rfl (fun C hZ hl => e_SpeciesSolverModel_noteCost C hm hZ hl)
abbrev b_SpeciesSolverModel_state : ByteArray := prog_9_method_34_code
abbrev y_SpeciesSolverModel_state : MethodName := ⟨"SpeciesSolverModel", "state", "(IIII)I"⟩
theorem d_SpeciesSolverModel_state_0 : decode b_SpeciesSolverModel_state 0 = .ok (.iload_n 0, 1) := by decide +kernel
theorem d_SpeciesSolverModel_state_1 : decode b_SpeciesSolverModel_state 1 = .ok (.bipush 10, 2) := by decide +kernel
theorem d_SpeciesSolverModel_state_3 : decode b_SpeciesSolverModel_state 3 = .ok (.imul, 1) := by decide +kernel
theorem d_SpeciesSolverModel_state_4 : decode b_SpeciesSolverModel_state 4 = .ok (.iload_n 1, 1) := by decide +kernel
theorem d_SpeciesSolverModel_state_5 : decode b_SpeciesSolverModel_state 5 = .ok (.iadd, 1) := by decide +kernel
theorem d_SpeciesSolverModel_state_6 : decode b_SpeciesSolverModel_state 6 = .ok (.bipush 8, 2) := by decide +kernel
theorem d_SpeciesSolverModel_state_8 : decode b_SpeciesSolverModel_state 8 = .ok (.imul, 1) := by decide +kernel
theorem d_SpeciesSolverModel_state_9 : decode b_SpeciesSolverModel_state 9 = .ok (.iload_n 2, 1) := by decide +kernel
theorem d_SpeciesSolverModel_state_10 : decode b_SpeciesSolverModel_state 10 = .ok (.iadd, 1) := by decide +kernel
theorem d_SpeciesSolverModel_state_11 : decode b_SpeciesSolverModel_state 11 = .ok (.iconst 2, 1) := by decide +kernel
theorem d_SpeciesSolverModel_state_12 : decode b_SpeciesSolverModel_state 12 = .ok (.imul, 1) := by decide +kernel
theorem d_SpeciesSolverModel_state_13 : decode b_SpeciesSolverModel_state 13 = .ok (.iload_n 3, 1) := by decide +kernel
theorem d_SpeciesSolverModel_state_14 : decode b_SpeciesSolverModel_state 14 = .ok (.iadd, 1) := by decide +kernel
theorem d_SpeciesSolverModel_state_15 : decode b_SpeciesSolverModel_state 15 = .ok (.ireturn, 1) := by decide +kernel
abbrev wd_SpeciesSolverModel_state (kc : Nat → ClassId)   : va_W := []
abbrev rm_SpeciesSolverModel_state : Room := { frames := 0, cells := 0, slots := 0, locals := 0 }
abbrev cw_SpeciesSolverModel_state : Cond := .code y_SpeciesSolverModel_state b_SpeciesSolverModel_state 4 (some .int)
abbrev ws_SpeciesSolverModel_state : List Cond := cw_SpeciesSolverModel_state :: GW
theorem hd_SpeciesSolverModel_state : y_SpeciesSolverModel_state.cls ≠ "java/lang/invoke/MethodHandle" ∧ y_SpeciesSolverModel_state.cls ≠ "java/lang/invoke/VarHandle" ∧ (parseMethodDescriptor y_SpeciesSolverModel_state.desc).map (fun d => d.parameters.length) = some 4 := by decide +kernel
def m_SpeciesSolverModel_state   (a0 : Int32) (a1 : Int32) (a2 : Int32) (a3 : Int32) : Option (Int32) :=
  (some ((((((a0 * (10 : Int32)) + a1) * (8 : Int32)) + a2) * (2 : Int32)) + a3))
set_option maxHeartbeats 4000000 in
set_option maxRecDepth 100000 in
theorem e_SpeciesSolverModel_state {r : Int32}   {a0 : Int32} {a1 : Int32} {a2 : Int32} {a3 : Int32} {H : Heap} {locs : List Loc} {ls : Array Slot} (C : Cx p s m meth c args A D kc R_SpeciesSolverModel b_SpeciesSolverModel_state 4 (some .int)) (hm : m_SpeciesSolverModel_state  a0 a1 a2 a3 = some r) (hZ : St D A s (wd_SpeciesSolverModel_state kc ) H locs) (hl : lv_has ls 4 [(0, .int a0), (1, .int a1), (2, .int a2), (3, .int a3)]) : W p l e rm_SpeciesSolverModel_state s m args below meth c H locs 0 0 (MQ below (Qi D A (wd_SpeciesSolverModel_state kc ) r) args s 0 0 A) (F0 m 0 ls []) := by
  obtain ⟨hx, hb, hr, hts, hown, hml, hlocks, hK, hN, hA, hX⟩ := id C
  obtain ⟨hP, hD, hS⟩ := hZ
  unfold m_SpeciesSolverModel_state at hm
  refine lv_iload_n hx hb d_SpeciesSolverModel_state_0 rfl (lv_at hl 0 rfl) ?_
  refine lv_bipush (v := 10) hx hb d_SpeciesSolverModel_state_1 (by decide) ?_
  refine lv_imul hx hb d_SpeciesSolverModel_state_3 ?_
  refine lv_iload_n hx hb d_SpeciesSolverModel_state_4 rfl (lv_at hl 1 rfl) ?_
  refine lv_iadd hx hb d_SpeciesSolverModel_state_5 ?_
  refine lv_bipush (v := 8) hx hb d_SpeciesSolverModel_state_6 (by decide) ?_
  refine lv_imul hx hb d_SpeciesSolverModel_state_8 ?_
  refine lv_iload_n hx hb d_SpeciesSolverModel_state_9 rfl (lv_at hl 2 rfl) ?_
  refine lv_iadd hx hb d_SpeciesSolverModel_state_10 ?_
  refine lv_iconst (v := 2) hx hb d_SpeciesSolverModel_state_11 (by decide) ?_
  refine lv_imul hx hb d_SpeciesSolverModel_state_12 ?_
  refine lv_iload_n hx hb d_SpeciesSolverModel_state_13 rfl (lv_at hl 3 rfl) ?_
  refine lv_iadd hx hb d_SpeciesSolverModel_state_14 ?_
  replace hm := Option.some.inj hm; subst hm
  exact zret_i C hP hD hS d_SpeciesSolverModel_state_15
set_option maxHeartbeats 4000000 in
set_option maxRecDepth 100000 in
theorem c_SpeciesSolverModel_state {l : Launch} {D : va_G} {kc : Nat → ClassId} {r : Int32}   {a0 : Int32} {a1 : Int32} {a2 : Int32} {a3 : Int32} (hm : m_SpeciesSolverModel_state  a0 a1 a2 a3 = some r) (sz : Nat) : Ci l y_SpeciesSolverModel_state ws_SpeciesSolverModel_state rm_SpeciesSolverModel_state D kc sz [.int a0, .int a1, .int a2, .int a3] (wd_SpeciesSolverModel_state kc ) (wd_SpeciesSolverModel_state kc ) r :=
  Cz_of (Qf := fun A => (Qi D A (wd_SpeciesSolverModel_state kc ) r)) (cc := b_SpeciesSolverModel_state) (maxL := 4) (ret := (some .int)) (by decide) rfl rfl (fun C hZ hl => e_SpeciesSolverModel_state C hm hZ hl)
abbrev b_SpeciesSolverModel_before : ByteArray := prog_9_method_35_code
abbrev y_SpeciesSolverModel_before : MethodName := ⟨"SpeciesSolverModel", "before", "(II)I"⟩
theorem d_SpeciesSolverModel_before_0 : decode b_SpeciesSolverModel_before 0 = .ok (.iload_n 1, 1) := by decide +kernel
theorem d_SpeciesSolverModel_before_1 : decode b_SpeciesSolverModel_before 1 = .ok (.bipush 9, 2) := by decide +kernel
theorem d_SpeciesSolverModel_before_3 : decode b_SpeciesSolverModel_before 3 = .ok (.if_icmp .ne 7, 3) := by decide +kernel
theorem d_SpeciesSolverModel_before_6 : decode b_SpeciesSolverModel_before 6 = .ok (.iload_n 0, 1) := by decide +kernel
theorem d_SpeciesSolverModel_before_7 : decode b_SpeciesSolverModel_before 7 = .ok (.goto 6, 3) := by decide +kernel
theorem d_SpeciesSolverModel_before_10 : decode b_SpeciesSolverModel_before 10 = .ok (.iload_n 1, 1) := by decide +kernel
theorem d_SpeciesSolverModel_before_11 : decode b_SpeciesSolverModel_before 11 = .ok (.iconst 1, 1) := by decide +kernel
theorem d_SpeciesSolverModel_before_12 : decode b_SpeciesSolverModel_before 12 = .ok (.isub, 1) := by decide +kernel
theorem d_SpeciesSolverModel_before_13 : decode b_SpeciesSolverModel_before 13 = .ok (.ireturn, 1) := by decide +kernel
abbrev wd_SpeciesSolverModel_before (kc : Nat → ClassId)   : va_W := []
abbrev rm_SpeciesSolverModel_before : Room := { frames := 0, cells := 0, slots := 0, locals := 0 }
abbrev cw_SpeciesSolverModel_before : Cond := .code y_SpeciesSolverModel_before b_SpeciesSolverModel_before 2 (some .int)
abbrev ws_SpeciesSolverModel_before : List Cond := cw_SpeciesSolverModel_before :: GW
theorem hd_SpeciesSolverModel_before : y_SpeciesSolverModel_before.cls ≠ "java/lang/invoke/MethodHandle" ∧ y_SpeciesSolverModel_before.cls ≠ "java/lang/invoke/VarHandle" ∧ (parseMethodDescriptor y_SpeciesSolverModel_before.desc).map (fun d => d.parameters.length) = some 2 := by decide +kernel
def m_SpeciesSolverModel_before   (a0 : Int32) (a1 : Int32) : Option (Int32) :=
  (if a1 = (9 : Int32) then
    (some a0)
  else
    (some (a1 - (1 : Int32))))
set_option maxHeartbeats 4000000 in
set_option maxRecDepth 100000 in
theorem e_SpeciesSolverModel_before {r : Int32}   {a0 : Int32} {a1 : Int32} {H : Heap} {locs : List Loc} {ls : Array Slot} (C : Cx p s m meth c args A D kc R_SpeciesSolverModel b_SpeciesSolverModel_before 2 (some .int)) (hm : m_SpeciesSolverModel_before  a0 a1 = some r) (hZ : St D A s (wd_SpeciesSolverModel_before kc ) H locs) (hl : lv_has ls 2 [(0, .int a0), (1, .int a1)]) : W p l e rm_SpeciesSolverModel_before s m args below meth c H locs 0 0 (MQ below (Qi D A (wd_SpeciesSolverModel_before kc ) r) args s 0 0 A) (F0 m 0 ls []) := by
  obtain ⟨hx, hb, hr, hts, hown, hml, hlocks, hK, hN, hA, hX⟩ := id C
  obtain ⟨hP, hD, hS⟩ := hZ
  unfold m_SpeciesSolverModel_before at hm
  refine lv_iload_n hx hb d_SpeciesSolverModel_before_0 rfl (lv_at hl 1 rfl) ?_
  refine lv_bipush (v := 9) hx hb d_SpeciesSolverModel_before_1 (by decide) ?_
  refine lv_icmp_ne (tgt := 10) hx hb d_SpeciesSolverModel_before_3 (by decide) (fun c1 => ?_) (fun c1 => ?_)
  · replace hm := ifF hm c1
    refine lv_iload_n hx hb d_SpeciesSolverModel_before_10 rfl (lv_at hl 1 rfl) ?_
    refine lv_iconst (v := 1) hx hb d_SpeciesSolverModel_before_11 (by decide) ?_
    refine lv_isub hx hb d_SpeciesSolverModel_before_12 ?_
    replace hm := Option.some.inj hm; subst hm
    exact zret_i C hP hD hS d_SpeciesSolverModel_before_13
  · replace hm := ifT hm c1
    refine lv_iload_n hx hb d_SpeciesSolverModel_before_6 rfl (lv_at hl 0 rfl) ?_
    refine lv_goto (tgt := 13) hx hb d_SpeciesSolverModel_before_7 (by decide) ?_
    replace hm := Option.some.inj hm; subst hm
    exact zret_i C hP hD hS d_SpeciesSolverModel_before_13
set_option maxHeartbeats 4000000 in
set_option maxRecDepth 100000 in
theorem c_SpeciesSolverModel_before {l : Launch} {D : va_G} {kc : Nat → ClassId} {r : Int32}   {a0 : Int32} {a1 : Int32} (hm : m_SpeciesSolverModel_before  a0 a1 = some r) (sz : Nat) : Ci l y_SpeciesSolverModel_before ws_SpeciesSolverModel_before rm_SpeciesSolverModel_before D kc sz [.int a0, .int a1] (wd_SpeciesSolverModel_before kc ) (wd_SpeciesSolverModel_before kc ) r :=
  Cz_of (Qf := fun A => (Qi D A (wd_SpeciesSolverModel_before kc ) r)) (cc := b_SpeciesSolverModel_before) (maxL := 2) (ret := (some .int)) (by decide) rfl rfl (fun C hZ hl => e_SpeciesSolverModel_before C hm hZ hl)
abbrev b_SpeciesSolverModel_runOf : ByteArray := prog_9_method_36_code
abbrev y_SpeciesSolverModel_runOf : MethodName := ⟨"SpeciesSolverModel", "runOf", "(II)I"⟩
theorem d_SpeciesSolverModel_runOf_0 : decode b_SpeciesSolverModel_runOf 0 = .ok (.iload_n 1, 1) := by decide +kernel
theorem d_SpeciesSolverModel_runOf_1 : decode b_SpeciesSolverModel_runOf 1 = .ok (.bipush 9, 2) := by decide +kernel
theorem d_SpeciesSolverModel_runOf_3 : decode b_SpeciesSolverModel_runOf 3 = .ok (.if_icmp .ne 7, 3) := by decide +kernel
theorem d_SpeciesSolverModel_runOf_6 : decode b_SpeciesSolverModel_runOf 6 = .ok (.iconst 3, 1) := by decide +kernel
theorem d_SpeciesSolverModel_runOf_7 : decode b_SpeciesSolverModel_runOf 7 = .ok (.goto 19, 3) := by decide +kernel
theorem d_SpeciesSolverModel_runOf_10 : decode b_SpeciesSolverModel_runOf 10 = .ok (.iload_n 1, 1) := by decide +kernel
theorem d_SpeciesSolverModel_runOf_11 : decode b_SpeciesSolverModel_runOf 11 = .ok (.ifCond .le 14, 3) := by decide +kernel
theorem d_SpeciesSolverModel_runOf_14 : decode b_SpeciesSolverModel_runOf 14 = .ok (.iload_n 1, 1) := by decide +kernel
theorem d_SpeciesSolverModel_runOf_15 : decode b_SpeciesSolverModel_runOf 15 = .ok (.iconst 1, 1) := by decide +kernel
theorem d_SpeciesSolverModel_runOf_16 : decode b_SpeciesSolverModel_runOf 16 = .ok (.isub, 1) := by decide +kernel
theorem d_SpeciesSolverModel_runOf_17 : decode b_SpeciesSolverModel_runOf 17 = .ok (.iload_n 0, 1) := by decide +kernel
theorem d_SpeciesSolverModel_runOf_18 : decode b_SpeciesSolverModel_runOf 18 = .ok (.if_icmp .ne 7, 3) := by decide +kernel
theorem d_SpeciesSolverModel_runOf_21 : decode b_SpeciesSolverModel_runOf 21 = .ok (.iconst 2, 1) := by decide +kernel
theorem d_SpeciesSolverModel_runOf_22 : decode b_SpeciesSolverModel_runOf 22 = .ok (.goto 4, 3) := by decide +kernel
theorem d_SpeciesSolverModel_runOf_25 : decode b_SpeciesSolverModel_runOf 25 = .ok (.iconst 1, 1) := by decide +kernel
theorem d_SpeciesSolverModel_runOf_26 : decode b_SpeciesSolverModel_runOf 26 = .ok (.ireturn, 1) := by decide +kernel
abbrev wd_SpeciesSolverModel_runOf (kc : Nat → ClassId)   : va_W := []
abbrev rm_SpeciesSolverModel_runOf : Room := { frames := 0, cells := 0, slots := 0, locals := 0 }
abbrev cw_SpeciesSolverModel_runOf : Cond := .code y_SpeciesSolverModel_runOf b_SpeciesSolverModel_runOf 2 (some .int)
abbrev ws_SpeciesSolverModel_runOf : List Cond := cw_SpeciesSolverModel_runOf :: GW
theorem hd_SpeciesSolverModel_runOf : y_SpeciesSolverModel_runOf.cls ≠ "java/lang/invoke/MethodHandle" ∧ y_SpeciesSolverModel_runOf.cls ≠ "java/lang/invoke/VarHandle" ∧ (parseMethodDescriptor y_SpeciesSolverModel_runOf.desc).map (fun d => d.parameters.length) = some 2 := by decide +kernel
def m_SpeciesSolverModel_runOf   (a0 : Int32) (a1 : Int32) : Option (Int32) :=
  (if a1 = (9 : Int32) then
    (some (3 : Int32))
  else
    (if a1 ≤ (0 : Int32) then
      (some (1 : Int32))
    else
      (if (a1 - (1 : Int32)) = a0 then
        (some (2 : Int32))
      else
        (some (1 : Int32)))))
set_option maxHeartbeats 4000000 in
set_option maxRecDepth 100000 in
theorem e_SpeciesSolverModel_runOf {r : Int32}   {a0 : Int32} {a1 : Int32} {H : Heap} {locs : List Loc} {ls : Array Slot} (C : Cx p s m meth c args A D kc R_SpeciesSolverModel b_SpeciesSolverModel_runOf 2 (some .int)) (hm : m_SpeciesSolverModel_runOf  a0 a1 = some r) (hZ : St D A s (wd_SpeciesSolverModel_runOf kc ) H locs) (hl : lv_has ls 2 [(0, .int a0), (1, .int a1)]) : W p l e rm_SpeciesSolverModel_runOf s m args below meth c H locs 0 0 (MQ below (Qi D A (wd_SpeciesSolverModel_runOf kc ) r) args s 0 0 A) (F0 m 0 ls []) := by
  obtain ⟨hx, hb, hr, hts, hown, hml, hlocks, hK, hN, hA, hX⟩ := id C
  obtain ⟨hP, hD, hS⟩ := hZ
  unfold m_SpeciesSolverModel_runOf at hm
  refine lv_iload_n hx hb d_SpeciesSolverModel_runOf_0 rfl (lv_at hl 1 rfl) ?_
  refine lv_bipush (v := 9) hx hb d_SpeciesSolverModel_runOf_1 (by decide) ?_
  refine lv_icmp_ne (tgt := 10) hx hb d_SpeciesSolverModel_runOf_3 (by decide) (fun c1 => ?_) (fun c1 => ?_)
  · replace hm := ifF hm c1
    refine lv_iload_n hx hb d_SpeciesSolverModel_runOf_10 rfl (lv_at hl 1 rfl) ?_
    refine lv_if_le (tgt := 25) hx hb d_SpeciesSolverModel_runOf_11 (by decide) (fun c2 => ?_) (fun c2 => ?_)
    · replace hm := ifT hm c2
      refine lv_iconst (v := 1) hx hb d_SpeciesSolverModel_runOf_25 (by decide) ?_
      replace hm := Option.some.inj hm; subst hm
      exact zret_i C hP hD hS d_SpeciesSolverModel_runOf_26
    · replace hm := ifF hm c2
      refine lv_iload_n hx hb d_SpeciesSolverModel_runOf_14 rfl (lv_at hl 1 rfl) ?_
      refine lv_iconst (v := 1) hx hb d_SpeciesSolverModel_runOf_15 (by decide) ?_
      refine lv_isub hx hb d_SpeciesSolverModel_runOf_16 ?_
      refine lv_iload_n hx hb d_SpeciesSolverModel_runOf_17 rfl (lv_at hl 0 rfl) ?_
      refine lv_icmp_ne (tgt := 25) hx hb d_SpeciesSolverModel_runOf_18 (by decide) (fun c3 => ?_) (fun c3 => ?_)
      · replace hm := ifF hm c3
        refine lv_iconst (v := 1) hx hb d_SpeciesSolverModel_runOf_25 (by decide) ?_
        replace hm := Option.some.inj hm; subst hm
        exact zret_i C hP hD hS d_SpeciesSolverModel_runOf_26
      · replace hm := ifT hm c3
        refine lv_iconst (v := 2) hx hb d_SpeciesSolverModel_runOf_21 (by decide) ?_
        refine lv_goto (tgt := 26) hx hb d_SpeciesSolverModel_runOf_22 (by decide) ?_
        replace hm := Option.some.inj hm; subst hm
        exact zret_i C hP hD hS d_SpeciesSolverModel_runOf_26
  · replace hm := ifT hm c1
    refine lv_iconst (v := 3) hx hb d_SpeciesSolverModel_runOf_6 (by decide) ?_
    refine lv_goto (tgt := 26) hx hb d_SpeciesSolverModel_runOf_7 (by decide) ?_
    replace hm := Option.some.inj hm; subst hm
    exact zret_i C hP hD hS d_SpeciesSolverModel_runOf_26
set_option maxHeartbeats 4000000 in
set_option maxRecDepth 100000 in
theorem c_SpeciesSolverModel_runOf {l : Launch} {D : va_G} {kc : Nat → ClassId} {r : Int32}   {a0 : Int32} {a1 : Int32} (hm : m_SpeciesSolverModel_runOf  a0 a1 = some r) (sz : Nat) : Ci l y_SpeciesSolverModel_runOf ws_SpeciesSolverModel_runOf rm_SpeciesSolverModel_runOf D kc sz [.int a0, .int a1] (wd_SpeciesSolverModel_runOf kc ) (wd_SpeciesSolverModel_runOf kc ) r :=
  Cz_of (Qf := fun A => (Qi D A (wd_SpeciesSolverModel_runOf kc ) r)) (cc := b_SpeciesSolverModel_runOf) (maxL := 2) (ret := (some .int)) (by decide) rfl rfl (fun C hZ hl => e_SpeciesSolverModel_runOf C hm hZ hl)
abbrev b_SpeciesSolverModel_nextHow : ByteArray := prog_9_method_37_code
abbrev y_SpeciesSolverModel_nextHow : MethodName := ⟨"SpeciesSolverModel", "nextHow", "(III)I"⟩
theorem d_SpeciesSolverModel_nextHow_0 : decode b_SpeciesSolverModel_nextHow 0 = .ok (.iload_n 2, 1) := by decide +kernel
theorem d_SpeciesSolverModel_nextHow_1 : decode b_SpeciesSolverModel_nextHow 1 = .ok (.iload_n 0, 1) := by decide +kernel
theorem d_SpeciesSolverModel_nextHow_2 : decode b_SpeciesSolverModel_nextHow 2 = .ok (.if_icmp .ne 17, 3) := by decide +kernel
theorem d_SpeciesSolverModel_nextHow_5 : decode b_SpeciesSolverModel_nextHow 5 = .ok (.iload_n 0, 1) := by decide +kernel
theorem d_SpeciesSolverModel_nextHow_6 : decode b_SpeciesSolverModel_nextHow 6 = .ok (.iload_n 1, 1) := by decide +kernel
theorem d_SpeciesSolverModel_nextHow_7 : decode b_SpeciesSolverModel_nextHow 7 = .ok (.invokestatic 137, 3) := by decide +kernel
theorem d_SpeciesSolverModel_nextHow_10 : decode b_SpeciesSolverModel_nextHow 10 = .ok (.iconst 2, 1) := by decide +kernel
theorem d_SpeciesSolverModel_nextHow_11 : decode b_SpeciesSolverModel_nextHow 11 = .ok (.if_icmp .lt 8, 3) := by decide +kernel
theorem d_SpeciesSolverModel_nextHow_14 : decode b_SpeciesSolverModel_nextHow 14 = .ok (.bipush 9, 2) := by decide +kernel
theorem d_SpeciesSolverModel_nextHow_16 : decode b_SpeciesSolverModel_nextHow 16 = .ok (.goto 6, 3) := by decide +kernel
theorem d_SpeciesSolverModel_nextHow_19 : decode b_SpeciesSolverModel_nextHow 19 = .ok (.iload_n 0, 1) := by decide +kernel
theorem d_SpeciesSolverModel_nextHow_20 : decode b_SpeciesSolverModel_nextHow 20 = .ok (.iconst 1, 1) := by decide +kernel
theorem d_SpeciesSolverModel_nextHow_21 : decode b_SpeciesSolverModel_nextHow 21 = .ok (.iadd, 1) := by decide +kernel
theorem d_SpeciesSolverModel_nextHow_22 : decode b_SpeciesSolverModel_nextHow 22 = .ok (.ireturn, 1) := by decide +kernel
abbrev wd_SpeciesSolverModel_nextHow (kc : Nat → ClassId)   : va_W := []
abbrev rm_SpeciesSolverModel_nextHow : Room := { frames := 1, cells := 0, slots := 0, locals := 21 }
abbrev cw_SpeciesSolverModel_nextHow : Cond := .code y_SpeciesSolverModel_nextHow b_SpeciesSolverModel_nextHow 3 (some .int)
abbrev ws_SpeciesSolverModel_nextHow : List Cond := cw_SpeciesSolverModel_nextHow :: GW
theorem hd_SpeciesSolverModel_nextHow : y_SpeciesSolverModel_nextHow.cls ≠ "java/lang/invoke/MethodHandle" ∧ y_SpeciesSolverModel_nextHow.cls ≠ "java/lang/invoke/VarHandle" ∧ (parseMethodDescriptor y_SpeciesSolverModel_nextHow.desc).map (fun d => d.parameters.length) = some 3 := by decide +kernel
def m_SpeciesSolverModel_nextHow   (a0 : Int32) (a1 : Int32) (a2 : Int32) : Option (Int32) :=
  (if a2 = a0 then
    (bd (m_SpeciesSolverModel_runOf a0 a1) (fun u2 => (if u2 < (2 : Int32) then
      (some (a0 + (1 : Int32)))
    else
      (some (9 : Int32)))))
  else
    (some (a0 + (1 : Int32))))
set_option maxHeartbeats 4000000 in
set_option maxRecDepth 100000 in
theorem e_SpeciesSolverModel_nextHow {r : Int32}   {a0 : Int32} {a1 : Int32} {a2 : Int32} {H : Heap} {locs : List Loc} {ls : Array Slot} (C : Cx p s m meth c args A D kc R_SpeciesSolverModel b_SpeciesSolverModel_nextHow 3 (some .int)) (hm : m_SpeciesSolverModel_nextHow  a0 a1 a2 = some r) (hZ : St D A s (wd_SpeciesSolverModel_nextHow kc ) H locs) (hl : lv_has ls 3 [(0, .int a0), (1, .int a1), (2, .int a2)]) : W p l e rm_SpeciesSolverModel_nextHow s m args below meth c H locs 0 0 (MQ below (Qi D A (wd_SpeciesSolverModel_nextHow kc ) r) args s 0 0 A) (F0 m 0 ls []) := by
  obtain ⟨hx, hb, hr, hts, hown, hml, hlocks, hK, hN, hA, hX⟩ := id C
  obtain ⟨hP, hD, hS⟩ := hZ
  unfold m_SpeciesSolverModel_nextHow at hm
  refine lv_iload_n hx hb d_SpeciesSolverModel_nextHow_0 rfl (lv_at hl 2 rfl) ?_
  refine lv_iload_n hx hb d_SpeciesSolverModel_nextHow_1 rfl (lv_at hl 0 rfl) ?_
  refine lv_icmp_ne (tgt := 19) hx hb d_SpeciesSolverModel_nextHow_2 (by decide) (fun c1 => ?_) (fun c1 => ?_)
  · replace hm := ifF hm c1
    refine lv_iload_n hx hb d_SpeciesSolverModel_nextHow_19 rfl (lv_at hl 0 rfl) ?_
    refine lv_iconst (v := 1) hx hb d_SpeciesSolverModel_nextHow_20 (by decide) ?_
    refine lv_iadd hx hb d_SpeciesSolverModel_nextHow_21 ?_
    replace hm := Option.some.inj hm; subst hm
    exact zret_i C hP hD hS d_SpeciesSolverModel_nextHow_22
  · replace hm := ifT hm c1
    refine lv_iload_n hx hb d_SpeciesSolverModel_nextHow_5 rfl (lv_at hl 0 rfl) ?_
    refine lv_iload_n hx hb d_SpeciesSolverModel_nextHow_6 rfl (lv_at hl 1 rfl) ?_
    obtain ⟨u2, hc3, hm⟩ := bd_some hm
    refine zS_i (n := 2) (wr := []) (w1 := (wd_SpeciesSolverModel_runOf kc )) (ws1 := (wd_SpeciesSolverModel_nextHow kc )) (As := [.int a0, .int a1]) (rest := []) (y := y_SpeciesSolverModel_runOf) ⟨hx, hb, hml, hown, hts⟩ (fun sz => c_SpeciesSolverModel_runOf hc3 sz) gw_1074 gw_1072 gw_1073 gw_118 rfl hd_SpeciesSolverModel_runOf ⟨Nat.le_of_ble_eq_true rfl, Nat.le_of_ble_eq_true rfl⟩ ⟨rfl, rfl⟩ ⟨Nat.zero_le _, Nat.zero_le _⟩ hK hN hP hD hS hA hX [] [] [] rfl rfl (by decide) (by decide) (by decide) rfl (by decide) rfl hl.1 rfl (Nat.le_of_ble_eq_true rfl) d_SpeciesSolverModel_nextHow_7 (fun H locs hP hD hS => ?_)
    refine lv_iconst (v := 2) hx hb d_SpeciesSolverModel_nextHow_10 (by decide) ?_
    refine lv_icmp_lt (tgt := 19) hx hb d_SpeciesSolverModel_nextHow_11 (by decide) (fun c4 => ?_) (fun c4 => ?_)
    · replace hm := ifT hm c4
      refine lv_iload_n hx hb d_SpeciesSolverModel_nextHow_19 rfl (lv_at hl 0 rfl) ?_
      refine lv_iconst (v := 1) hx hb d_SpeciesSolverModel_nextHow_20 (by decide) ?_
      refine lv_iadd hx hb d_SpeciesSolverModel_nextHow_21 ?_
      replace hm := Option.some.inj hm; subst hm
      exact zret_i C hP hD hS d_SpeciesSolverModel_nextHow_22
    · replace hm := ifF hm c4
      refine lv_bipush (v := 9) hx hb d_SpeciesSolverModel_nextHow_14 (by decide) ?_
      refine lv_goto (tgt := 22) hx hb d_SpeciesSolverModel_nextHow_16 (by decide) ?_
      replace hm := Option.some.inj hm; subst hm
      exact zret_i C hP hD hS d_SpeciesSolverModel_nextHow_22
set_option maxHeartbeats 4000000 in
set_option maxRecDepth 100000 in
theorem c_SpeciesSolverModel_nextHow {l : Launch} {D : va_G} {kc : Nat → ClassId} {r : Int32}   {a0 : Int32} {a1 : Int32} {a2 : Int32} (hm : m_SpeciesSolverModel_nextHow  a0 a1 a2 = some r) (sz : Nat) : Ci l y_SpeciesSolverModel_nextHow ws_SpeciesSolverModel_nextHow rm_SpeciesSolverModel_nextHow D kc sz [.int a0, .int a1, .int a2] (wd_SpeciesSolverModel_nextHow kc ) (wd_SpeciesSolverModel_nextHow kc ) r :=
  Cz_of (Qf := fun A => (Qi D A (wd_SpeciesSolverModel_nextHow kc ) r)) (cc := b_SpeciesSolverModel_nextHow) (maxL := 3) (ret := (some .int)) (by decide) rfl rfl (fun C hZ hl => e_SpeciesSolverModel_nextHow C hm hZ hl)
end
