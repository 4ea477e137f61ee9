section
variable {p : Program} {l : Launch} {e : Env} {s : State} {m : MethodId} {args : Array Value} {below : List Frame} {meth : Method} {c : Code} {D : va_G} {kc : Nat → ClassId} {A : Nat → Prop}
abbrev b_SpeciesSolverModel_mayBegin : ByteArray := prog_9_method_39_code
abbrev y_SpeciesSolverModel_mayBegin : MethodName := ⟨"SpeciesSolverModel", "mayBegin", "(I)Z"⟩
theorem d_SpeciesSolverModel_mayBegin_0 : decode b_SpeciesSolverModel_mayBegin 0 = .ok (.aload_n 0, 1) := by decide +kernel
theorem d_SpeciesSolverModel_mayBegin_1 : decode b_SpeciesSolverModel_mayBegin 1 = .ok (.getfield 24, 3) := by decide +kernel
theorem d_SpeciesSolverModel_mayBegin_4 : decode b_SpeciesSolverModel_mayBegin 4 = .ok (.bipush 8, 2) := by decide +kernel
theorem d_SpeciesSolverModel_mayBegin_6 : decode b_SpeciesSolverModel_mayBegin 6 = .ok (.baload, 1) := by decide +kernel
theorem d_SpeciesSolverModel_mayBegin_7 : decode b_SpeciesSolverModel_mayBegin 7 = .ok (.ifCond .eq 23, 3) := by decide +kernel
theorem d_SpeciesSolverModel_mayBegin_10 : decode b_SpeciesSolverModel_mayBegin 10 = .ok (.aload_n 0, 1) := by decide +kernel
theorem d_SpeciesSolverModel_mayBegin_11 : decode b_SpeciesSolverModel_mayBegin 11 = .ok (.iconst 5, 1) := by decide +kernel
theorem d_SpeciesSolverModel_mayBegin_12 : decode b_SpeciesSolverModel_mayBegin 12 = .ok (.aload_n 0, 1) := by decide +kernel
theorem d_SpeciesSolverModel_mayBegin_13 : decode b_SpeciesSolverModel_mayBegin 13 = .ok (.getfield 37, 3) := by decide +kernel
theorem d_SpeciesSolverModel_mayBegin_16 : decode b_SpeciesSolverModel_mayBegin 16 = .ok (.iload_n 1, 1) := by decide +kernel
theorem d_SpeciesSolverModel_mayBegin_17 : decode b_SpeciesSolverModel_mayBegin 17 = .ok (.iaload, 1) := by decide +kernel
theorem d_SpeciesSolverModel_mayBegin_18 : decode b_SpeciesSolverModel_mayBegin 18 = .ok (.aload_n 0, 1) := by decide +kernel
theorem d_SpeciesSolverModel_mayBegin_19 : decode b_SpeciesSolverModel_mayBegin 19 = .ok (.iconst 0, 1) := by decide +kernel
theorem d_SpeciesSolverModel_mayBegin_20 : decode b_SpeciesSolverModel_mayBegin 20 = .ok (.iconst 0, 1) := by decide +kernel
theorem d_SpeciesSolverModel_mayBegin_21 : decode b_SpeciesSolverModel_mayBegin 21 = .ok (.invokevirtual 108, 3) := by decide +kernel
theorem d_SpeciesSolverModel_mayBegin_24 : decode b_SpeciesSolverModel_mayBegin 24 = .ok (.invokevirtual 115, 3) := by decide +kernel
theorem d_SpeciesSolverModel_mayBegin_27 : decode b_SpeciesSolverModel_mayBegin 27 = .ok (.ifCond .eq 7, 3) := by decide +kernel
theorem d_SpeciesSolverModel_mayBegin_30 : decode b_SpeciesSolverModel_mayBegin 30 = .ok (.iconst 1, 1) := by decide +kernel
theorem d_SpeciesSolverModel_mayBegin_31 : decode b_SpeciesSolverModel_mayBegin 31 = .ok (.goto 4, 3) := by decide +kernel
theorem d_SpeciesSolverModel_mayBegin_34 : decode b_SpeciesSolverModel_mayBegin 34 = .ok (.iconst 0, 1) := by decide +kernel
theorem d_SpeciesSolverModel_mayBegin_35 : decode b_SpeciesSolverModel_mayBegin 35 = .ok (.istore_n 2, 1) := by decide +kernel
theorem d_SpeciesSolverModel_mayBegin_36 : decode b_SpeciesSolverModel_mayBegin 36 = .ok (.iconst 0, 1) := by decide +kernel
theorem d_SpeciesSolverModel_mayBegin_37 : decode b_SpeciesSolverModel_mayBegin 37 = .ok (.istore_n 3, 1) := by decide +kernel
theorem d_SpeciesSolverModel_mayBegin_38 : decode b_SpeciesSolverModel_mayBegin 38 = .ok (.iload_n 3, 1) := by decide +kernel
theorem d_SpeciesSolverModel_mayBegin_39 : decode b_SpeciesSolverModel_mayBegin 39 = .ok (.aload_n 0, 1) := by decide +kernel
theorem d_SpeciesSolverModel_mayBegin_40 : decode b_SpeciesSolverModel_mayBegin 40 = .ok (.getfield 78, 3) := by decide +kernel
theorem d_SpeciesSolverModel_mayBegin_43 : decode b_SpeciesSolverModel_mayBegin 43 = .ok (.if_icmp .ge 67, 3) := by decide +kernel
theorem d_SpeciesSolverModel_mayBegin_46 : decode b_SpeciesSolverModel_mayBegin 46 = .ok (.iload_n 2, 1) := by decide +kernel
theorem d_SpeciesSolverModel_mayBegin_47 : decode b_SpeciesSolverModel_mayBegin 47 = .ok (.ifCond .eq 63, 3) := by decide +kernel
theorem d_SpeciesSolverModel_mayBegin_50 : decode b_SpeciesSolverModel_mayBegin 50 = .ok (.aload_n 0, 1) := by decide +kernel
theorem d_SpeciesSolverModel_mayBegin_51 : decode b_SpeciesSolverModel_mayBegin 51 = .ok (.getfield 24, 3) := by decide +kernel
theorem d_SpeciesSolverModel_mayBegin_54 : decode b_SpeciesSolverModel_mayBegin 54 = .ok (.iconst 0, 1) := by decide +kernel
theorem d_SpeciesSolverModel_mayBegin_55 : decode b_SpeciesSolverModel_mayBegin 55 = .ok (.baload, 1) := by decide +kernel
theorem d_SpeciesSolverModel_mayBegin_56 : decode b_SpeciesSolverModel_mayBegin 56 = .ok (.ifCond .eq 18, 3) := by decide +kernel
theorem d_SpeciesSolverModel_mayBegin_59 : decode b_SpeciesSolverModel_mayBegin 59 = .ok (.aload_n 0, 1) := by decide +kernel
theorem d_SpeciesSolverModel_mayBegin_60 : decode b_SpeciesSolverModel_mayBegin 60 = .ok (.iload_n 3, 1) := by decide +kernel
theorem d_SpeciesSolverModel_mayBegin_61 : decode b_SpeciesSolverModel_mayBegin 61 = .ok (.iconst 0, 1) := by decide +kernel
theorem d_SpeciesSolverModel_mayBegin_62 : decode b_SpeciesSolverModel_mayBegin 62 = .ok (.aload_n 0, 1) := by decide +kernel
theorem d_SpeciesSolverModel_mayBegin_63 : decode b_SpeciesSolverModel_mayBegin 63 = .ok (.getfield 37, 3) := by decide +kernel
theorem d_SpeciesSolverModel_mayBegin_66 : decode b_SpeciesSolverModel_mayBegin 66 = .ok (.iload_n 1, 1) := by decide +kernel
theorem d_SpeciesSolverModel_mayBegin_67 : decode b_SpeciesSolverModel_mayBegin 67 = .ok (.iaload, 1) := by decide +kernel
theorem d_SpeciesSolverModel_mayBegin_68 : decode b_SpeciesSolverModel_mayBegin 68 = .ok (.invokevirtual 140, 3) := by decide +kernel
theorem d_SpeciesSolverModel_mayBegin_71 : decode b_SpeciesSolverModel_mayBegin 71 = .ok (.ifCond .ne 31, 3) := by decide +kernel
theorem d_SpeciesSolverModel_mayBegin_74 : decode b_SpeciesSolverModel_mayBegin 74 = .ok (.aload_n 0, 1) := by decide +kernel
theorem d_SpeciesSolverModel_mayBegin_75 : decode b_SpeciesSolverModel_mayBegin 75 = .ok (.getfield 24, 3) := by decide +kernel
theorem d_SpeciesSolverModel_mayBegin_78 : decode b_SpeciesSolverModel_mayBegin 78 = .ok (.iconst 3, 1) := by decide +kernel
theorem d_SpeciesSolverModel_mayBegin_79 : decode b_SpeciesSolverModel_mayBegin 79 = .ok (.baload, 1) := by decide +kernel
theorem d_SpeciesSolverModel_mayBegin_80 : decode b_SpeciesSolverModel_mayBegin 80 = .ok (.ifCond .eq 18, 3) := by decide +kernel
theorem d_SpeciesSolverModel_mayBegin_83 : decode b_SpeciesSolverModel_mayBegin 83 = .ok (.aload_n 0, 1) := by decide +kernel
theorem d_SpeciesSolverModel_mayBegin_84 : decode b_SpeciesSolverModel_mayBegin 84 = .ok (.iload_n 3, 1) := by decide +kernel
theorem d_SpeciesSolverModel_mayBegin_85 : decode b_SpeciesSolverModel_mayBegin 85 = .ok (.iconst 0, 1) := by decide +kernel
theorem d_SpeciesSolverModel_mayBegin_86 : decode b_SpeciesSolverModel_mayBegin 86 = .ok (.aload_n 0, 1) := by decide +kernel
theorem d_SpeciesSolverModel_mayBegin_87 : decode b_SpeciesSolverModel_mayBegin 87 = .ok (.getfield 37, 3) := by decide +kernel
theorem d_SpeciesSolverModel_mayBegin_90 : decode b_SpeciesSolverModel_mayBegin 90 = .ok (.iload_n 1, 1) := by decide +kernel
theorem d_SpeciesSolverModel_mayBegin_91 : decode b_SpeciesSolverModel_mayBegin 91 = .ok (.iaload, 1) := by decide +kernel
theorem d_SpeciesSolverModel_mayBegin_92 : decode b_SpeciesSolverModel_mayBegin 92 = .ok (.invokevirtual 149, 3) := by decide +kernel
theorem d_SpeciesSolverModel_mayBegin_95 : decode b_SpeciesSolverModel_mayBegin 95 = .ok (.ifCond .ne 7, 3) := by decide +kernel
theorem d_SpeciesSolverModel_mayBegin_98 : decode b_SpeciesSolverModel_mayBegin 98 = .ok (.iconst 1, 1) := by decide +kernel
theorem d_SpeciesSolverModel_mayBegin_99 : decode b_SpeciesSolverModel_mayBegin 99 = .ok (.goto 4, 3) := by decide +kernel
theorem d_SpeciesSolverModel_mayBegin_102 : decode b_SpeciesSolverModel_mayBegin 102 = .ok (.iconst 0, 1) := by decide +kernel
theorem d_SpeciesSolverModel_mayBegin_103 : decode b_SpeciesSolverModel_mayBegin 103 = .ok (.istore_n 2, 1) := by decide +kernel
theorem d_SpeciesSolverModel_mayBegin_104 : decode b_SpeciesSolverModel_mayBegin 104 = .ok (.iinc 3 1, 3) := by decide +kernel
theorem d_SpeciesSolverModel_mayBegin_107 : decode b_SpeciesSolverModel_mayBegin 107 = .ok (.goto (-69), 3) := by decide +kernel
theorem d_SpeciesSolverModel_mayBegin_110 : decode b_SpeciesSolverModel_mayBegin 110 = .ok (.iload_n 2, 1) := by decide +kernel
theorem d_SpeciesSolverModel_mayBegin_111 : decode b_SpeciesSolverModel_mayBegin 111 = .ok (.ireturn, 1) := by decide +kernel
abbrev wd_SpeciesSolverModel_mayBegin (kc : Nat → ClassId) (ad : Nat → Nat) (md_thrown : Int32) (md_drafted : Int32) (md_lines : Int32) (md_n : Int32) (md_species : Int32) (md_above : Int32) (md_trialSize : Int32) (md_foundSize : Int32) (md_foundSpecies : Int32) (md_foundN : Int32) (md_foundCost : Int32) (md_chosen : Int32) (md_low : Int32) (md_many : Int64) (md_ties : Int64) (md_winnerCost : Int32) (md_allMany : Int64) (md_allTies : Int64) (md_faults : Int32) (md_given : Nat → Int32) (md_on : Nat → Int32) (md_numbers : Nat → Int32) (md_pitches : Nat → Int32) : va_W := [((ad 0), .inr (1, [.int md_thrown, .ref (ad 1), .int md_drafted, .ref (ad 2), .int md_lines, .int md_n, .int md_species, .int md_above, .ref (ad 3), .ref (ad 4), .ref (ad 5), .int md_trialSize, .ref (ad 6), .int md_foundSize, .int md_foundSpecies, .int md_foundN, .int md_foundCost, .ref (ad 7), .int md_chosen, .ref (ad 8), .ref (ad 9), .ref (ad 10), .int md_low, .long md_many, .long md_ties, .ref (ad 11), .ref (ad 12), .int md_winnerCost, .long md_allMany, .long md_allTies, .ref (ad 13), .ref (ad 14), .ref (ad 15), .ref (ad 16), .int md_faults])), ((ad 2), .inl (kc 0, 36, .inl md_given)), ((ad 3), .inl (kc 1, 11, .inl md_on)), ((ad 4), .inl (kc 0, 18, .inl md_numbers)), ((ad 7), .inl (kc 0, 8, .inl md_pitches))]
abbrev rm_SpeciesSolverModel_mayBegin : Room := { frames := 3, cells := 0, slots := 0, locals := 67 }
abbrev cw_SpeciesSolverModel_mayBegin : Cond := .code y_SpeciesSolverModel_mayBegin b_SpeciesSolverModel_mayBegin 4 (some .boolean)
abbrev ws_SpeciesSolverModel_mayBegin : List Cond := cw_SpeciesSolverModel_mayBegin :: GW
theorem hd_SpeciesSolverModel_mayBegin : y_SpeciesSolverModel_mayBegin.cls ≠ "java/lang/invoke/MethodHandle" ∧ y_SpeciesSolverModel_mayBegin.cls ≠ "java/lang/invoke/VarHandle" ∧ (parseMethodDescriptor y_SpeciesSolverModel_mayBegin.desc).map (fun d => d.parameters.length) = some 1 := by decide +kernel
def m_SpeciesSolverModel_mayBegin_103 (F : Nat) (md_lines : Int32) (md_species : Int32) (md_above : Int32) (md_given : Nat → Int32) (md_on : Nat → Int32) (md_numbers : Nat → Int32) (md_pitches : Nat → Int32) (k38 : Int32 → Int32 → Int32 → Option (Int32))  (x1 : Int32) (x3 : Int32) (t0 : Int32) : Option (Int32) :=
  k38 x1 t0 (x3 + 1)
set_option maxHeartbeats 4000000 in
set_option maxRecDepth 100000 in
theorem l_SpeciesSolverModel_mayBegin_103 {r : Int32} {F : Nat} {ad : Nat → Nat} {md_thrown : Int32} {md_drafted : Int32} {md_lines : Int32} {md_n : Int32} {md_species : Int32} {md_above : Int32} {md_trialSize : Int32} {md_foundSize : Int32} {md_foundSpecies : Int32} {md_foundN : Int32} {md_foundCost : Int32} {md_chosen : Int32} {md_low : Int32} {md_many : Int64} {md_ties : Int64} {md_winnerCost : Int32} {md_allMany : Int64} {md_allTies : Int64} {md_faults : Int32} {md_given : Nat → Int32} {md_on : Nat → Int32} {md_numbers : Nat → Int32} {md_pitches : Nat → Int32} {k38 : Int32 → Int32 → Int32 → Option (Int32)} {x1 : Int32} {x3 : Int32} {t0 : Int32} {H : Heap} {locs : List Loc} {ls : Array Slot} (C : Cx p s m meth c args A D kc R_SpeciesSolverModel b_SpeciesSolverModel_mayBegin 4 (some .boolean)) (hk38 : (∀  (x1 : Int32) (x2 : Int32) (x3 : Int32) (H : Heap) (locs : List Loc) (ls : Array Slot), k38 x1 x2 x3 = some r → St D A s (wd_SpeciesSolverModel_mayBegin kc ad md_thrown md_drafted md_lines md_n md_species md_above md_trialSize md_foundSize md_foundSpecies md_foundN md_foundCost md_chosen md_low md_many md_ties md_winnerCost md_allMany md_allTies md_faults md_given md_on md_numbers md_pitches) H locs → lv_has ls 4 [(0, .ref (ad 0)), (1, .int x1), (2, .int x2), (3, .int x3)] → W p l e rm_SpeciesSolverModel_mayBegin s m args below meth c H locs 0 0 (MQ below (Qi D A (wd_SpeciesSolverModel_mayBegin kc ad md_thrown md_drafted md_lines md_n md_species md_above md_trialSize md_foundSize md_foundSpecies md_foundN md_foundCost md_chosen md_low md_many md_ties md_winnerCost md_allMany md_allTies md_faults md_given md_on md_numbers md_pitches) r) args s 0 0 A) (F0 m 38 ls []))) (hm : m_SpeciesSolverModel_mayBegin_103 F md_lines md_species md_above md_given md_on md_numbers md_pitches k38 x1 x3 t0 = some r) (hZ : St D A s (wd_SpeciesSolverModel_mayBegin kc ad md_thrown md_drafted md_lines md_n md_species md_above md_trialSize md_foundSize md_foundSpecies md_foundN md_foundCost md_chosen md_low md_many md_ties md_winnerCost md_allMany md_allTies md_faults md_given md_on md_numbers md_pitches) H locs) (hl : lv_has ls 4 [(0, .ref (ad 0)), (1, .int x1), (3, .int x3)]) : W p l e rm_SpeciesSolverModel_mayBegin s m args below meth c H locs 0 0 (MQ below (Qi D A (wd_SpeciesSolverModel_mayBegin kc ad md_thrown md_drafted md_lines md_n md_species md_above md_trialSize md_foundSize md_foundSpecies md_foundN md_foundCost md_chosen md_low md_many md_ties md_winnerCost md_allMany md_allTies md_faults md_given md_on md_numbers md_pitches) r) args s 0 0 A) (F0 m 103 ls [.int t0]) := by
  obtain ⟨hx, hb, hr, hts, hown, hml, hlocks, hK, hN, hA, hX⟩ := id C
  obtain ⟨hP, hD, hS⟩ := hZ
  unfold m_SpeciesSolverModel_mayBegin_103 at hm
  refine lv_istore_n (lv' := [(2, .int t0), (0, .ref (ad 0)), (1, .int x1), (3, .int x3)]) hx hb d_SpeciesSolverModel_mayBegin_103 rfl hl (by decide) rfl (fun ls hl => ?_)
  refine lv_iinc (v := (x3 + 1)) (lv' := [(3, .int (x3 + 1)), (2, .int t0), (0, .ref (ad 0)), (1, .int x1)]) hx hb d_SpeciesSolverModel_mayBegin_104 hl (k := 3) rfl rfl (by decide) rfl (fun ls hl => ?_)
  refine lv_goto (tgt := 38) hx hb d_SpeciesSolverModel_mayBegin_107 (by decide) ?_
  exact hk38 x1 t0 (x3 + 1) _ _ _ hm ⟨hP, hD, hS⟩ (lv_sub hl [2, 3, 1, 0] rfl)
def m_SpeciesSolverModel_mayBegin_102 (F : Nat) (md_lines : Int32) (md_species : Int32) (md_above : Int32) (md_given : Nat → Int32) (md_on : Nat → Int32) (md_numbers : Nat → Int32) (md_pitches : Nat → Int32) (k38 : Int32 → Int32 → Int32 → Option (Int32))  (x1 : Int32) (x3 : Int32) : Option (Int32) :=
  m_SpeciesSolverModel_mayBegin_103 F md_lines md_species md_above md_given md_on md_numbers md_pitches k38 x1 x3 (0 : Int32)
set_option maxHeartbeats 4000000 in
set_option maxRecDepth 100000 in
theorem l_SpeciesSolverModel_mayBegin_102 {r : Int32} {F : Nat} {ad : Nat → Nat} {md_thrown : Int32} {md_drafted : Int32} {md_lines : Int32} {md_n : Int32} {md_species : Int32} {md_above : Int32} {md_trialSize : Int32} {md_foundSize : Int32} {md_foundSpecies : Int32} {md_foundN : Int32} {md_foundCost : Int32} {md_chosen : Int32} {md_low : Int32} {md_many : Int64} {md_ties : Int64} {md_winnerCost : Int32} {md_allMany : Int64} {md_allTies : Int64} {md_faults : Int32} {md_given : Nat → Int32} {md_on : Nat → Int32} {md_numbers : Nat → Int32} {md_pitches : Nat → Int32} {k38 : Int32 → Int32 → Int32 → Option (Int32)} {x1 : Int32} {x3 : Int32} {H : Heap} {locs : List Loc} {ls : Array Slot} (C : Cx p s m meth c args A D kc R_SpeciesSolverModel b_SpeciesSolverModel_mayBegin 4 (some .boolean)) (hk38 : (∀  (x1 : Int32) (x2 : Int32) (x3 : Int32) (H : Heap) (locs : List Loc) (ls : Array Slot), k38 x1 x2 x3 = some r → St D A s (wd_SpeciesSolverModel_mayBegin kc ad md_thrown md_drafted md_lines md_n md_species md_above md_trialSize md_foundSize md_foundSpecies md_foundN md_foundCost md_chosen md_low md_many md_ties md_winnerCost md_allMany md_allTies md_faults md_given md_on md_numbers md_pitches) H locs → lv_has ls 4 [(0, .ref (ad 0)), (1, .int x1), (2, .int x2), (3, .int x3)] → W p l e rm_SpeciesSolverModel_mayBegin s m args below meth c H locs 0 0 (MQ below (Qi D A (wd_SpeciesSolverModel_mayBegin kc ad md_thrown md_drafted md_lines md_n md_species md_above md_trialSize md_foundSize md_foundSpecies md_foundN md_foundCost md_chosen md_low md_many md_ties md_winnerCost md_allMany md_allTies md_faults md_given md_on md_numbers md_pitches) r) args s 0 0 A) (F0 m 38 ls []))) (hm : m_SpeciesSolverModel_mayBegin_102 F md_lines md_species md_above md_given md_on md_numbers md_pitches k38 x1 x3 = some r) (hZ : St D A s (wd_SpeciesSolverModel_mayBegin kc ad md_thrown md_drafted md_lines md_n md_species md_above md_trialSize md_foundSize md_foundSpecies md_foundN md_foundCost md_chosen md_low md_many md_ties md_winnerCost md_allMany md_allTies md_faults md_given md_on md_numbers md_pitches) H locs) (hl : lv_has ls 4 [(0, .ref (ad 0)), (1, .int x1), (3, .int x3)]) : W p l e rm_SpeciesSolverModel_mayBegin s m args below meth c H locs 0 0 (MQ below (Qi D A (wd_SpeciesSolverModel_mayBegin kc ad md_thrown md_drafted md_lines md_n md_species md_above md_trialSize md_foundSize md_foundSpecies md_foundN md_foundCost md_chosen md_low md_many md_ties md_winnerCost md_allMany md_allTies md_faults md_given md_on md_numbers md_pitches) r) args s 0 0 A) (F0 m 102 ls []) := by
  obtain ⟨hx, hb, hr, hts, hown, hml, hlocks, hK, hN, hA, hX⟩ := id C
  obtain ⟨hP, hD, hS⟩ := hZ
  unfold m_SpeciesSolverModel_mayBegin_102 at hm
  refine lv_iconst (v := 0) hx hb d_SpeciesSolverModel_mayBegin_102 (by decide) ?_
  exact l_SpeciesSolverModel_mayBegin_103 C hk38 hm ⟨hP, hD, hS⟩ (lv_sub hl [0, 1, 2] rfl)
def m_SpeciesSolverModel_mayBegin_98 (F : Nat) (md_lines : Int32) (md_species : Int32) (md_above : Int32) (md_given : Nat → Int32) (md_on : Nat → Int32) (md_numbers : Nat → Int32) (md_pitches : Nat → Int32) (k38 : Int32 → Int32 → Int32 → Option (Int32))  (x1 : Int32) (x3 : Int32) : Option (Int32) :=
  m_SpeciesSolverModel_mayBegin_103 F md_lines md_species md_above md_given md_on md_numbers md_pitches k38 x1 x3 (1 : Int32)
set_option maxHeartbeats 4000000 in
set_option maxRecDepth 100000 in
theorem l_SpeciesSolverModel_mayBegin_98 {r : Int32} {F : Nat} {ad : Nat → Nat} {md_thrown : Int32} {md_drafted : Int32} {md_lines : Int32} {md_n : Int32} {md_species : Int32} {md_above : Int32} {md_trialSize : Int32} {md_foundSize : Int32} {md_foundSpecies : Int32} {md_foundN : Int32} {md_foundCost : Int32} {md_chosen : Int32} {md_low : Int32} {md_many : Int64} {md_ties : Int64} {md_winnerCost : Int32} {md_allMany : Int64} {md_allTies : Int64} {md_faults : Int32} {md_given : Nat → Int32} {md_on : Nat → Int32} {md_numbers : Nat → Int32} {md_pitches : Nat → Int32} {k38 : Int32 → Int32 → Int32 → Option (Int32)} {x1 : Int32} {x3 : Int32} {H : Heap} {locs : List Loc} {ls : Array Slot} (C : Cx p s m meth c args A D kc R_SpeciesSolverModel b_SpeciesSolverModel_mayBegin 4 (some .boolean)) (hk38 : (∀  (x1 : Int32) (x2 : Int32) (x3 : Int32) (H : Heap) (locs : List Loc) (ls : Array Slot), k38 x1 x2 x3 = some r → St D A s (wd_SpeciesSolverModel_mayBegin kc ad md_thrown md_drafted md_lines md_n md_species md_above md_trialSize md_foundSize md_foundSpecies md_foundN md_foundCost md_chosen md_low md_many md_ties md_winnerCost md_allMany md_allTies md_faults md_given md_on md_numbers md_pitches) H locs → lv_has ls 4 [(0, .ref (ad 0)), (1, .int x1), (2, .int x2), (3, .int x3)] → W p l e rm_SpeciesSolverModel_mayBegin s m args below meth c H locs 0 0 (MQ below (Qi D A (wd_SpeciesSolverModel_mayBegin kc ad md_thrown md_drafted md_lines md_n md_species md_above md_trialSize md_foundSize md_foundSpecies md_foundN md_foundCost md_chosen md_low md_many md_ties md_winnerCost md_allMany md_allTies md_faults md_given md_on md_numbers md_pitches) r) args s 0 0 A) (F0 m 38 ls []))) (hm : m_SpeciesSolverModel_mayBegin_98 F md_lines md_species md_above md_given md_on md_numbers md_pitches k38 x1 x3 = some r) (hZ : St D A s (wd_SpeciesSolverModel_mayBegin kc ad md_thrown md_drafted md_lines md_n md_species md_above md_trialSize md_foundSize md_foundSpecies md_foundN md_foundCost md_chosen md_low md_many md_ties md_winnerCost md_allMany md_allTies md_faults md_given md_on md_numbers md_pitches) H locs) (hl : lv_has ls 4 [(0, .ref (ad 0)), (1, .int x1), (3, .int x3)]) : W p l e rm_SpeciesSolverModel_mayBegin s m args below meth c H locs 0 0 (MQ below (Qi D A (wd_SpeciesSolverModel_mayBegin kc ad md_thrown md_drafted md_lines md_n md_species md_above md_trialSize md_foundSize md_foundSpecies md_foundN md_foundCost md_chosen md_low md_many md_ties md_winnerCost md_allMany md_allTies md_faults md_given md_on md_numbers md_pitches) r) args s 0 0 A) (F0 m 98 ls []) := by
  obtain ⟨hx, hb, hr, hts, hown, hml, hlocks, hK, hN, hA, hX⟩ := id C
  obtain ⟨hP, hD, hS⟩ := hZ
  unfold m_SpeciesSolverModel_mayBegin_98 at hm
  refine lv_iconst (v := 1) hx hb d_SpeciesSolverModel_mayBegin_98 (by decide) ?_
  refine lv_goto (tgt := 103) hx hb d_SpeciesSolverModel_mayBegin_99 (by decide) ?_
  exact l_SpeciesSolverModel_mayBegin_103 C hk38 hm ⟨hP, hD, hS⟩ (lv_sub hl [0, 1, 2] rfl)
def m_SpeciesSolverModel_mayBegin_74 (F : Nat) (md_lines : Int32) (md_species : Int32) (md_above : Int32) (md_given : Nat → Int32) (md_on : Nat → Int32) (md_numbers : Nat → Int32) (md_pitches : Nat → Int32) (k38 : Int32 → Int32 → Int32 → Option (Int32))  (x1 : Int32) (x3 : Int32) : Option (Int32) :=
  (if (md_on (Int32.toNatClampNeg (3 : Int32))) = (0 : Int32) then
    m_SpeciesSolverModel_mayBegin_98 F md_lines md_species md_above md_given md_on md_numbers md_pitches k38 x1 x3
  else
    (gd x1 8 (bd (m_SpeciesSolverModel_rule3 md_species md_above md_given x3 (0 : Int32) (md_pitches (Int32.toNatClampNeg x1))) (fun u3 => (if u3 = (0 : Int32) then
      m_SpeciesSolverModel_mayBegin_98 F md_lines md_species md_above md_given md_on md_numbers md_pitches k38 x1 x3
    else
      m_SpeciesSolverModel_mayBegin_102 F md_lines md_species md_above md_given md_on md_numbers md_pitches k38 x1 x3)))))
set_option maxHeartbeats 4000000 in
set_option maxRecDepth 100000 in
theorem l_SpeciesSolverModel_mayBegin_74 {r : Int32} {F : Nat} {ad : Nat → Nat} {md_thrown : Int32} {md_drafted : Int32} {md_lines : Int32} {md_n : Int32} {md_species : Int32} {md_above : Int32} {md_trialSize : Int32} {md_foundSize : Int32} {md_foundSpecies : Int32} {md_foundN : Int32} {md_foundCost : Int32} {md_chosen : Int32} {md_low : Int32} {md_many : Int64} {md_ties : Int64} {md_winnerCost : Int32} {md_allMany : Int64} {md_allTies : Int64} {md_faults : Int32} {md_given : Nat → Int32} {md_on : Nat → Int32} {md_numbers : Nat → Int32} {md_pitches : Nat → Int32} {k38 : Int32 → Int32 → Int32 → Option (Int32)} {x1 : Int32} {x3 : Int32} {H : Heap} {locs : List Loc} {ls : Array Slot} (C : Cx p s m meth c args A D kc R_SpeciesSolverModel b_SpeciesSolverModel_mayBegin 4 (some .boolean)) (hk38 : (∀  (x1 : Int32) (x2 : Int32) (x3 : Int32) (H : Heap) (locs : List Loc) (ls : Array Slot), k38 x1 x2 x3 = some r → St D A s (wd_SpeciesSolverModel_mayBegin kc ad md_thrown md_drafted md_lines md_n md_species md_above md_trialSize md_foundSize md_foundSpecies md_foundN md_foundCost md_chosen md_low md_many md_ties md_winnerCost md_allMany md_allTies md_faults md_given md_on md_numbers md_pitches) H locs → lv_has ls 4 [(0, .ref (ad 0)), (1, .int x1), (2, .int x2), (3, .int x3)] → W p l e rm_SpeciesSolverModel_mayBegin s m args below meth c H locs 0 0 (MQ below (Qi D A (wd_SpeciesSolverModel_mayBegin kc ad md_thrown md_drafted md_lines md_n md_species md_above md_trialSize md_foundSize md_foundSpecies md_foundN md_foundCost md_chosen md_low md_many md_ties md_winnerCost md_allMany md_allTies md_faults md_given md_on md_numbers md_pitches) r) args s 0 0 A) (F0 m 38 ls []))) (hm : m_SpeciesSolverModel_mayBegin_74 F md_lines md_species md_above md_given md_on md_numbers md_pitches k38 x1 x3 = some r) (hZ : St D A s (wd_SpeciesSolverModel_mayBegin kc ad md_thrown md_drafted md_lines md_n md_species md_above md_trialSize md_foundSize md_foundSpecies md_foundN md_foundCost md_chosen md_low md_many md_ties md_winnerCost md_allMany md_allTies md_faults md_given md_on md_numbers md_pitches) H locs) (hl : lv_has ls 4 [(0, .ref (ad 0)), (1, .int x1), (3, .int x3)]) : W p l e rm_SpeciesSolverModel_mayBegin s m args below meth c H locs 0 0 (MQ below (Qi D A (wd_SpeciesSolverModel_mayBegin kc ad md_thrown md_drafted md_lines md_n md_species md_above md_trialSize md_foundSize md_foundSpecies md_foundN md_foundCost md_chosen md_low md_many md_ties md_winnerCost md_allMany md_allTies md_faults md_given md_on md_numbers md_pitches) r) args s 0 0 A) (F0 m 74 ls []) := by
  obtain ⟨hx, hb, hr, hts, hown, hml, hlocks, hK, hN, hA, hX⟩ := id C
  obtain ⟨hP, hD, hS⟩ := hZ
  unfold m_SpeciesSolverModel_mayBegin_74 at hm
  refine lv_aload_n hx hb d_SpeciesSolverModel_mayBegin_74 rfl (lv_at hl 0 rfl) ?_
  refine va_get (D := D) (ci := 1) (v := .ref (ad 3)) (C := R_SpeciesSolverModel) (T := T_SpeciesSolverModel) (N := 35) hx hb hts inG_SpeciesSolverModel hown hK hP 0 rfl rfl 8 (by decide) (hts _ gw_826) (fun _ h9 => h9) rfl d_SpeciesSolverModel_mayBegin_75 ?_
  refine lv_iconst (v := 3) hx hb d_SpeciesSolverModel_mayBegin_78 (by decide) ?_
  refine va_zald hx hb hK hP 2 1 rfl rfl (in_lit (by decide)) d_SpeciesSolverModel_mayBegin_79 ?_
  refine lv_if_eq (tgt := 98) hx hb d_SpeciesSolverModel_mayBegin_80 (by decide) (fun c1 => ?_) (fun c1 => ?_)
  · replace hm := ifT hm c1
    exact l_SpeciesSolverModel_mayBegin_98 C hk38 hm ⟨hP, hD, hS⟩ (lv_sub hl [0, 1, 2] rfl)
  · replace hm := ifF hm c1
    refine lv_aload_n hx hb d_SpeciesSolverModel_mayBegin_83 rfl (lv_at hl 0 rfl) ?_
    refine lv_iload_n hx hb d_SpeciesSolverModel_mayBegin_84 rfl (lv_at hl 2 rfl) ?_
    refine lv_iconst (v := 0) hx hb d_SpeciesSolverModel_mayBegin_85 (by decide) ?_
    refine lv_aload_n hx hb d_SpeciesSolverModel_mayBegin_86 rfl (lv_at hl 0 rfl) ?_
    refine va_get (D := D) (ci := 1) (v := .ref (ad 7)) (C := R_SpeciesSolverModel) (T := T_SpeciesSolverModel) (N := 35) hx hb hts inG_SpeciesSolverModel hown hK hP 0 rfl rfl 17 (by decide) (hts _ gw_835) (fun _ h9 => h9) rfl d_SpeciesSolverModel_mayBegin_87 ?_
    refine lv_iload_n hx hb d_SpeciesSolverModel_mayBegin_90 rfl (lv_at hl 1 rfl) ?_
    obtain ⟨hi2, hm⟩ := gd_some hm
    refine va_iald hx hb hK hP 4 0 rfl rfl hi2 d_SpeciesSolverModel_mayBegin_91 ?_
    obtain ⟨u3, hc4, hm⟩ := bd_some hm
    refine zV_i (n := 3) (wr := [((ad 3), .inl (kc 1, 11, .inl md_on)), ((ad 4), .inl (kc 0, 18, .inl md_numbers)), ((ad 7), .inl (kc 0, 8, .inl md_pitches))]) (w1 := (wd_SpeciesSolverModel_rule3 kc ad md_thrown md_drafted md_lines md_n md_species md_above md_trialSize md_foundSize md_foundSpecies md_foundN md_foundCost md_chosen md_low md_many md_ties md_winnerCost md_allMany md_allTies md_faults md_given)) (ws1 := (wd_SpeciesSolverModel_mayBegin kc ad md_thrown md_drafted md_lines md_n md_species md_above md_trialSize md_foundSize md_foundSpecies md_foundN md_foundCost md_chosen md_low md_many md_ties md_winnerCost md_allMany md_allTies md_faults md_given md_on md_numbers md_pitches)) (As := [.int x3, .int (0 : Int32), .int (md_pitches (Int32.toNatClampNeg x1))]) (rest := []) (ci := 1) (q0 := 0) (y := y_SpeciesSolverModel_rule3) ⟨hx, hb, hml, hown, hts⟩ (fun sz => c_SpeciesSolverModel_rule3 hc4 sz) gw_1048 gw_1045 gw_1047 gw_90 gw_118 hd_SpeciesSolverModel_rule3 ⟨Nat.le_of_ble_eq_true rfl, Nat.le_of_ble_eq_true rfl⟩ ⟨rfl, rfl⟩ ⟨Nat.zero_le _, Nat.zero_le _⟩ hK hN hP hD hS hA hX [0, 1] [2, 3, 4] [3, 4, 0, 1, 2] rfl rfl (by decide) (by decide) (by decide) rfl (by decide) rfl rfl rfl hl.1 rfl (Nat.le_of_ble_eq_true rfl) d_SpeciesSolverModel_mayBegin_92 (fun H locs hP hD hS => ?_)
    refine lv_if_ne (tgt := 102) hx hb d_SpeciesSolverModel_mayBegin_95 (by decide) (fun c5 => ?_) (fun c5 => ?_)
    · replace hm := ifF hm c5
      exact l_SpeciesSolverModel_mayBegin_102 C hk38 hm ⟨hP, hD, hS⟩ (lv_sub hl [0, 1, 2] rfl)
    · replace hm := ifT hm c5
      exact l_SpeciesSolverModel_mayBegin_98 C hk38 hm ⟨hP, hD, hS⟩ (lv_sub hl [0, 1, 2] rfl)
def m_SpeciesSolverModel_mayBegin_38b (F : Nat) (md_lines : Int32) (md_species : Int32) (md_above : Int32) (md_given : Nat → Int32) (md_on : Nat → Int32) (md_numbers : Nat → Int32) (md_pitches : Nat → Int32) (k38 : Int32 → Int32 → Int32 → Option (Int32))  (x1 : Int32) (x2 : Int32) (x3 : Int32) : Option (Int32) :=
  (if md_lines ≤ x3 then
    (gb x2 (some x2))
  else
    (if x2 = (0 : Int32) then
      (gb x2 (some x2))
    else
      (if (md_on (Int32.toNatClampNeg (0 : Int32))) = (0 : Int32) then
        m_SpeciesSolverModel_mayBegin_74 F md_lines md_species md_above md_given md_on md_numbers md_pitches k38 x1 x3
      else
        (gd x1 8 (bd (m_SpeciesSolverModel_rule0 md_species md_given md_numbers x3 (0 : Int32) (md_pitches (Int32.toNatClampNeg x1))) (fun u7 => (if u7 = (0 : Int32) then
          m_SpeciesSolverModel_mayBegin_74 F md_lines md_species md_above md_given md_on md_numbers md_pitches k38 x1 x3
        else
          m_SpeciesSolverModel_mayBegin_102 F md_lines md_species md_above md_given md_on md_numbers md_pitches k38 x1 x3)))))))
set_option maxHeartbeats 4000000 in
set_option maxRecDepth 100000 in
theorem l_SpeciesSolverModel_mayBegin_38 {r : Int32} {F : Nat} {ad : Nat → Nat} {md_thrown : Int32} {md_drafted : Int32} {md_lines : Int32} {md_n : Int32} {md_species : Int32} {md_above : Int32} {md_trialSize : Int32} {md_foundSize : Int32} {md_foundSpecies : Int32} {md_foundN : Int32} {md_foundCost : Int32} {md_chosen : Int32} {md_low : Int32} {md_many : Int64} {md_ties : Int64} {md_winnerCost : Int32} {md_allMany : Int64} {md_allTies : Int64} {md_faults : Int32} {md_given : Nat → Int32} {md_on : Nat → Int32} {md_numbers : Nat → Int32} {md_pitches : Nat → Int32} {k38 : Int32 → Int32 → Int32 → Option (Int32)} {x1 : Int32} {x2 : Int32} {x3 : Int32} {H : Heap} {locs : List Loc} {ls : Array Slot} (C : Cx p s m meth c args A D kc R_SpeciesSolverModel b_SpeciesSolverModel_mayBegin 4 (some .boolean)) (hk38 : (∀  (x1 : Int32) (x2 : Int32) (x3 : Int32) (H : Heap) (locs : List Loc) (ls : Array Slot), k38 x1 x2 x3 = some r → St D A s (wd_SpeciesSolverModel_mayBegin kc ad md_thrown md_drafted md_lines md_n md_species md_above md_trialSize md_foundSize md_foundSpecies md_foundN md_foundCost md_chosen md_low md_many md_ties md_winnerCost md_allMany md_allTies md_faults md_given md_on md_numbers md_pitches) H locs → lv_has ls 4 [(0, .ref (ad 0)), (1, .int x1), (2, .int x2), (3, .int x3)] → W p l e rm_SpeciesSolverModel_mayBegin s m args below meth c H locs 0 0 (MQ below (Qi D A (wd_SpeciesSolverModel_mayBegin kc ad md_thrown md_drafted md_lines md_n md_species md_above md_trialSize md_foundSize md_foundSpecies md_foundN md_foundCost md_chosen md_low md_many md_ties md_winnerCost md_allMany md_allTies md_faults md_given md_on md_numbers md_pitches) r) args s 0 0 A) (F0 m 38 ls []))) (hm : m_SpeciesSolverModel_mayBegin_38b F md_lines md_species md_above md_given md_on md_numbers md_pitches k38 x1 x2 x3 = some r) (hZ : St D A s (wd_SpeciesSolverModel_mayBegin kc ad md_thrown md_drafted md_lines md_n md_species md_above md_trialSize md_foundSize md_foundSpecies md_foundN md_foundCost md_chosen md_low md_many md_ties md_winnerCost md_allMany md_allTies md_faults md_given md_on md_numbers md_pitches) H locs) (hl : lv_has ls 4 [(0, .ref (ad 0)), (1, .int x1), (2, .int x2), (3, .int x3)]) : W p l e rm_SpeciesSolverModel_mayBegin s m args below meth c H locs 0 0 (MQ below (Qi D A (wd_SpeciesSolverModel_mayBegin kc ad md_thrown md_drafted md_lines md_n md_species md_above md_trialSize md_foundSize md_foundSpecies md_foundN md_foundCost md_chosen md_low md_many md_ties md_winnerCost md_allMany md_allTies md_faults md_given md_on md_numbers md_pitches) r) args s 0 0 A) (F0 m 38 ls []) := by
  obtain ⟨hx, hb, hr, hts, hown, hml, hlocks, hK, hN, hA, hX⟩ := id C
  obtain ⟨hP, hD, hS⟩ := hZ
  unfold m_SpeciesSolverModel_mayBegin_38b at hm
  refine lv_iload_n hx hb d_SpeciesSolverModel_mayBegin_38 rfl (lv_at hl 3 rfl) ?_
  refine lv_aload_n hx hb d_SpeciesSolverModel_mayBegin_39 rfl (lv_at hl 0 rfl) ?_
  refine va_get (D := D) (ci := 1) (v := .int md_lines) (C := R_SpeciesSolverModel) (T := T_SpeciesSolverModel) (N := 35) hx hb hts inG_SpeciesSolverModel hown hK hP 0 rfl rfl 4 (by decide) (hts _ gw_822) (fun _ h9 => h9) rfl d_SpeciesSolverModel_mayBegin_40 ?_
  refine lv_icmp_ge (tgt := 110) hx hb d_SpeciesSolverModel_mayBegin_43 (by decide) (fun c1 => ?_) (fun c1 => ?_)
  · replace hm := ifT hm c1
    refine lv_iload_n hx hb d_SpeciesSolverModel_mayBegin_110 rfl (lv_at hl 2 rfl) ?_
    obtain ⟨hz2, hm⟩ := gb_some hm
    replace hm := Option.some.inj hm; subst hm
    exact zret_z (v := x2) C hP hD hS (gb_nar hz2) d_SpeciesSolverModel_mayBegin_111
  · replace hm := ifF hm c1
    refine lv_iload_n hx hb d_SpeciesSolverModel_mayBegin_46 rfl (lv_at hl 2 rfl) ?_
    refine lv_if_eq (tgt := 110) hx hb d_SpeciesSolverModel_mayBegin_47 (by decide) (fun c3 => ?_) (fun c3 => ?_)
    · replace hm := ifT hm c3
      refine lv_iload_n hx hb d_SpeciesSolverModel_mayBegin_110 rfl (lv_at hl 2 rfl) ?_
      obtain ⟨hz4, hm⟩ := gb_some hm
      replace hm := Option.some.inj hm; subst hm
      exact zret_z (v := x2) C hP hD hS (gb_nar hz4) d_SpeciesSolverModel_mayBegin_111
    · replace hm := ifF hm c3
      refine lv_aload_n hx hb d_SpeciesSolverModel_mayBegin_50 rfl (lv_at hl 0 rfl) ?_
      refine va_get (D := D) (ci := 1) (v := .ref (ad 3)) (C := R_SpeciesSolverModel) (T := T_SpeciesSolverModel) (N := 35) hx hb hts inG_SpeciesSolverModel hown hK hP 0 rfl rfl 8 (by decide) (hts _ gw_826) (fun _ h9 => h9) rfl d_SpeciesSolverModel_mayBegin_51 ?_
      refine lv_iconst (v := 0) hx hb d_SpeciesSolverModel_mayBegin_54 (by decide) ?_
      refine va_zald hx hb hK hP 2 1 rfl rfl (in_lit (by decide)) d_SpeciesSolverModel_mayBegin_55 ?_
      refine lv_if_eq (tgt := 74) hx hb d_SpeciesSolverModel_mayBegin_56 (by decide) (fun c5 => ?_) (fun c5 => ?_)
      · replace hm := ifT hm c5
        exact l_SpeciesSolverModel_mayBegin_74 C hk38 hm ⟨hP, hD, hS⟩ (lv_sub hl [0, 1, 3] rfl)
      · replace hm := ifF hm c5
        refine lv_aload_n hx hb d_SpeciesSolverModel_mayBegin_59 rfl (lv_at hl 0 rfl) ?_
        refine lv_iload_n hx hb d_SpeciesSolverModel_mayBegin_60 rfl (lv_at hl 3 rfl) ?_
        refine lv_iconst (v := 0) hx hb d_SpeciesSolverModel_mayBegin_61 (by decide) ?_
        refine lv_aload_n hx hb d_SpeciesSolverModel_mayBegin_62 rfl (lv_at hl 0 rfl) ?_
        refine va_get (D := D) (ci := 1) (v := .ref (ad 7)) (C := R_SpeciesSolverModel) (T := T_SpeciesSolverModel) (N := 35) hx hb hts inG_SpeciesSolverModel hown hK hP 0 rfl rfl 17 (by decide) (hts _ gw_835) (fun _ h9 => h9) rfl d_SpeciesSolverModel_mayBegin_63 ?_
        refine lv_iload_n hx hb d_SpeciesSolverModel_mayBegin_66 rfl (lv_at hl 1 rfl) ?_
        obtain ⟨hi6, hm⟩ := gd_some hm
        refine va_iald hx hb hK hP 4 0 rfl rfl hi6 d_SpeciesSolverModel_mayBegin_67 ?_
        obtain ⟨u7, hc8, hm⟩ := bd_some hm
        refine zV_i (n := 3) (wr := [((ad 3), .inl (kc 1, 11, .inl md_on)), ((ad 7), .inl (kc 0, 8, .inl md_pitches))]) (w1 := (wd_SpeciesSolverModel_rule0 kc ad md_thrown md_drafted md_lines md_n md_species md_above md_trialSize md_foundSize md_foundSpecies md_foundN md_foundCost md_chosen md_low md_many md_ties md_winnerCost md_allMany md_allTies md_faults md_given md_numbers)) (ws1 := (wd_SpeciesSolverModel_mayBegin kc ad md_thrown md_drafted md_lines md_n md_species md_above md_trialSize md_foundSize md_foundSpecies md_foundN md_foundCost md_chosen md_low md_many md_ties md_winnerCost md_allMany md_allTies md_faults md_given md_on md_numbers md_pitches)) (As := [.int x3, .int (0 : Int32), .int (md_pitches (Int32.toNatClampNeg x1))]) (rest := []) (ci := 1) (q0 := 0) (y := y_SpeciesSolverModel_rule0) ⟨hx, hb, hml, hown, hts⟩ (fun sz => c_SpeciesSolverModel_rule0 hc8 sz) gw_1018 gw_1015 gw_1017 gw_84 gw_118 hd_SpeciesSolverModel_rule0 ⟨Nat.le_of_ble_eq_true rfl, Nat.le_of_ble_eq_true rfl⟩ ⟨rfl, rfl⟩ ⟨Nat.zero_le _, Nat.zero_le _⟩ hK hN hP hD hS hA hX [0, 1, 3] [2, 4] [2, 3, 0, 4, 1] rfl rfl (by decide) (by decide) (by decide) rfl (by decide) rfl rfl rfl hl.1 rfl (Nat.le_of_ble_eq_true rfl) d_SpeciesSolverModel_mayBegin_68 (fun H locs hP hD hS => ?_)
        refine lv_if_ne (tgt := 102) hx hb d_SpeciesSolverModel_mayBegin_71 (by decide) (fun c9 => ?_) (fun c9 => ?_)
        · replace hm := ifF hm c9
          exact l_SpeciesSolverModel_mayBegin_102 C hk38 hm ⟨hP, hD, hS⟩ (lv_sub hl [0, 1, 3] rfl)
        · replace hm := ifT hm c9
          exact l_SpeciesSolverModel_mayBegin_74 C hk38 hm ⟨hP, hD, hS⟩ (lv_sub hl [0, 1, 3] rfl)
def m_SpeciesSolverModel_mayBegin_38 (F : Nat) (md_lines : Int32) (md_species : Int32) (md_above : Int32) (md_given : Nat → Int32) (md_on : Nat → Int32) (md_numbers : Nat → Int32) (md_pitches : Nat → Int32)  : Nat → Int32 → Int32 → Int32 → Option (Int32)
  | 0 => fun _ _ _ => none
  | n + 1 => m_SpeciesSolverModel_mayBegin_38b F md_lines md_species md_above md_given md_on md_numbers md_pitches  (m_SpeciesSolverModel_mayBegin_38 F md_lines md_species md_above md_given md_on md_numbers md_pitches  n)
set_option maxHeartbeats 4000000 in
set_option maxRecDepth 100000 in
theorem lp_SpeciesSolverModel_mayBegin_38 {r : Int32} {F : Nat} {ad : Nat → Nat} {md_thrown : Int32} {md_drafted : Int32} {md_lines : Int32} {md_n : Int32} {md_species : Int32} {md_above : Int32} {md_trialSize : Int32} {md_foundSize : Int32} {md_foundSpecies : Int32} {md_foundN : Int32} {md_foundCost : Int32} {md_chosen : Int32} {md_low : Int32} {md_many : Int64} {md_ties : Int64} {md_winnerCost : Int32} {md_allMany : Int64} {md_allTies : Int64} {md_faults : Int32} {md_given : Nat → Int32} {md_on : Nat → Int32} {md_numbers : Nat → Int32} {md_pitches : Nat → Int32}  (C : Cx p s m meth c args A D kc R_SpeciesSolverModel b_SpeciesSolverModel_mayBegin 4 (some .boolean))  : ∀ (n : Nat)  (x1 : Int32) (x2 : Int32) (x3 : Int32) (H : Heap) (locs : List Loc) (ls : Array Slot), m_SpeciesSolverModel_mayBegin_38 F md_lines md_species md_above md_given md_on md_numbers md_pitches  n x1 x2 x3 = some r → St D A s (wd_SpeciesSolverModel_mayBegin kc ad md_thrown md_drafted md_lines md_n md_species md_above md_trialSize md_foundSize md_foundSpecies md_foundN md_foundCost md_chosen md_low md_many md_ties md_winnerCost md_allMany md_allTies md_faults md_given md_on md_numbers md_pitches) H locs → lv_has ls 4 [(0, .ref (ad 0)), (1, .int x1), (2, .int x2), (3, .int x3)] → W p l e rm_SpeciesSolverModel_mayBegin s m args below meth c H locs 0 0 (MQ below (Qi D A (wd_SpeciesSolverModel_mayBegin kc ad md_thrown md_drafted md_lines md_n md_species md_above md_trialSize md_foundSize md_foundSpecies md_foundN md_foundCost md_chosen md_low md_many md_ties md_winnerCost md_allMany md_allTies md_faults md_given md_on md_numbers md_pitches) r) args s 0 0 A) (F0 m 38 ls []) := by
  intro n
  induction n with
  | zero => intro x1 x2 x3 H locs ls hm; cases hm
  | succ n ih => intro x1 x2 x3 H locs ls hm hZ hl; exact l_SpeciesSolverModel_mayBegin_38 C  ih hm hZ hl
def m_SpeciesSolverModel_mayBegin_35 (F : Nat) (md_lines : Int32) (md_species : Int32) (md_above : Int32) (md_given : Nat → Int32) (md_on : Nat → Int32) (md_numbers : Nat → Int32) (md_pitches : Nat → Int32)   (x1 : Int32) (t0 : Int32) : Option (Int32) :=
  m_SpeciesSolverModel_mayBegin_38 F md_lines md_species md_above md_given md_on md_numbers md_pitches  F x1 t0 (0 : Int32)
set_option maxHeartbeats 4000000 in
set_option maxRecDepth 100000 in
theorem l_SpeciesSolverModel_mayBegin_35 {r : Int32} {F : Nat} {ad : Nat → Nat} {md_thrown : Int32} {md_drafted : Int32} {md_lines : Int32} {md_n : Int32} {md_species : Int32} {md_above : Int32} {md_trialSize : Int32} {md_foundSize : Int32} {md_foundSpecies : Int32} {md_foundN : Int32} {md_foundCost : Int32} {md_chosen : Int32} {md_low : Int32} {md_many : Int64} {md_ties : Int64} {md_winnerCost : Int32} {md_allMany : Int64} {md_allTies : Int64} {md_faults : Int32} {md_given : Nat → Int32} {md_on : Nat → Int32} {md_numbers : Nat → Int32} {md_pitches : Nat → Int32}  {x1 : Int32} {t0 : Int32} {H : Heap} {locs : List Loc} {ls : Array Slot} (C : Cx p s m meth c args A D kc R_SpeciesSolverModel b_SpeciesSolverModel_mayBegin 4 (some .boolean))  (hm : m_SpeciesSolverModel_mayBegin_35 F md_lines md_species md_above md_given md_on md_numbers md_pitches  x1 t0 = some r) (hZ : St D A s (wd_SpeciesSolverModel_mayBegin kc ad md_thrown md_drafted md_lines md_n md_species md_above md_trialSize md_foundSize md_foundSpecies md_foundN md_foundCost md_chosen md_low md_many md_ties md_winnerCost md_allMany md_allTies md_faults md_given md_on md_numbers md_pitches) H locs) (hl : lv_has ls 4 [(0, .ref (ad 0)), (1, .int x1)]) : W p l e rm_SpeciesSolverModel_mayBegin s m args below meth c H locs 0 0 (MQ below (Qi D A (wd_SpeciesSolverModel_mayBegin kc ad md_thrown md_drafted md_lines md_n md_species md_above md_trialSize md_foundSize md_foundSpecies md_foundN md_foundCost md_chosen md_low md_many md_ties md_winnerCost md_allMany md_allTies md_faults md_given md_on md_numbers md_pitches) r) args s 0 0 A) (F0 m 35 ls [.int t0]) := by
  obtain ⟨hx, hb, hr, hts, hown, hml, hlocks, hK, hN, hA, hX⟩ := id C
  obtain ⟨hP, hD, hS⟩ := hZ
  unfold m_SpeciesSolverModel_mayBegin_35 at hm
  refine lv_istore_n (lv' := [(2, .int t0), (0, .ref (ad 0)), (1, .int x1)]) hx hb d_SpeciesSolverModel_mayBegin_35 rfl hl (by decide) rfl (fun ls hl => ?_)
  refine lv_iconst (v := 0) hx hb d_SpeciesSolverModel_mayBegin_36 (by decide) ?_
  refine lv_istore_n (lv' := [(3, .int (0 : Int32)), (2, .int t0), (0, .ref (ad 0)), (1, .int x1)]) hx hb d_SpeciesSolverModel_mayBegin_37 rfl hl (by decide) rfl (fun ls hl => ?_)
  exact lp_SpeciesSolverModel_mayBegin_38 C  F x1 t0 (0 : Int32) _ _ _ hm ⟨hP, hD, hS⟩ (lv_sub hl [2, 3, 1, 0] rfl)
def m_SpeciesSolverModel_mayBegin_30 (F : Nat) (md_lines : Int32) (md_species : Int32) (md_above : Int32) (md_given : Nat → Int32) (md_on : Nat → Int32) (md_numbers : Nat → Int32) (md_pitches : Nat → Int32)   (x1 : Int32) : Option (Int32) :=
  m_SpeciesSolverModel_mayBegin_35 F md_lines md_species md_above md_given md_on md_numbers md_pitches  x1 (1 : Int32)
set_option maxHeartbeats 4000000 in
set_option maxRecDepth 100000 in
theorem l_SpeciesSolverModel_mayBegin_30 {r : Int32} {F : Nat} {ad : Nat → Nat} {md_thrown : Int32} {md_drafted : Int32} {md_lines : Int32} {md_n : Int32} {md_species : Int32} {md_above : Int32} {md_trialSize : Int32} {md_foundSize : Int32} {md_foundSpecies : Int32} {md_foundN : Int32} {md_foundCost : Int32} {md_chosen : Int32} {md_low : Int32} {md_many : Int64} {md_ties : Int64} {md_winnerCost : Int32} {md_allMany : Int64} {md_allTies : Int64} {md_faults : Int32} {md_given : Nat → Int32} {md_on : Nat → Int32} {md_numbers : Nat → Int32} {md_pitches : Nat → Int32}  {x1 : Int32} {H : Heap} {locs : List Loc} {ls : Array Slot} (C : Cx p s m meth c args A D kc R_SpeciesSolverModel b_SpeciesSolverModel_mayBegin 4 (some .boolean))  (hm : m_SpeciesSolverModel_mayBegin_30 F md_lines md_species md_above md_given md_on md_numbers md_pitches  x1 = some r) (hZ : St D A s (wd_SpeciesSolverModel_mayBegin kc ad md_thrown md_drafted md_lines md_n md_species md_above md_trialSize md_foundSize md_foundSpecies md_foundN md_foundCost md_chosen md_low md_many md_ties md_winnerCost md_allMany md_allTies md_faults md_given md_on md_numbers md_pitches) H locs) (hl : lv_has ls 4 [(0, .ref (ad 0)), (1, .int x1)]) : W p l e rm_SpeciesSolverModel_mayBegin s m args below meth c H locs 0 0 (MQ below (Qi D A (wd_SpeciesSolverModel_mayBegin kc ad md_thrown md_drafted md_lines md_n md_species md_above md_trialSize md_foundSize md_foundSpecies md_foundN md_foundCost md_chosen md_low md_many md_ties md_winnerCost md_allMany md_allTies md_faults md_given md_on md_numbers md_pitches) r) args s 0 0 A) (F0 m 30 ls []) := by
  obtain ⟨hx, hb, hr, hts, hown, hml, hlocks, hK, hN, hA, hX⟩ := id C
  obtain ⟨hP, hD, hS⟩ := hZ
  unfold m_SpeciesSolverModel_mayBegin_30 at hm
  refine lv_iconst (v := 1) hx hb d_SpeciesSolverModel_mayBegin_30 (by decide) ?_
  refine lv_goto (tgt := 35) hx hb d_SpeciesSolverModel_mayBegin_31 (by decide) ?_
  exact l_SpeciesSolverModel_mayBegin_35 C  hm ⟨hP, hD, hS⟩ (lv_sub hl [0, 1] rfl)
def m_SpeciesSolverModel_mayBegin (F : Nat) (md_lines : Int32) (md_species : Int32) (md_above : Int32) (md_given : Nat → Int32) (md_on : Nat → Int32) (md_numbers : Nat → Int32) (md_pitches : Nat → Int32)  (a1 : Int32) : Option (Int32) :=
  (if (md_on (Int32.toNatClampNeg (8 : Int32))) = (0 : Int32) then
    m_SpeciesSolverModel_mayBegin_30 F md_lines md_species md_above md_given md_on md_numbers md_pitches  a1
  else
    (gd a1 8 (bd (m_SpeciesSolverModel_at md_species md_given (0 : Int32) (0 : Int32)) (fun u3 => (bd (m_SpeciesSolverModel_isIn md_numbers (5 : Int32) (md_pitches (Int32.toNatClampNeg a1)) u3) (fun u5 => (if u5 = (0 : Int32) then
      m_SpeciesSolverModel_mayBegin_35 F md_lines md_species md_above md_given md_on md_numbers md_pitches  a1 (0 : Int32)
    else
      m_SpeciesSolverModel_mayBegin_30 F md_lines md_species md_above md_given md_on md_numbers md_pitches  a1)))))))
set_option maxHeartbeats 4000000 in
set_option maxRecDepth 100000 in
theorem e_SpeciesSolverModel_mayBegin {r : Int32} {F : Nat} {ad : Nat → Nat} {md_thrown : Int32} {md_drafted : Int32} {md_lines : Int32} {md_n : Int32} {md_species : Int32} {md_above : Int32} {md_trialSize : Int32} {md_foundSize : Int32} {md_foundSpecies : Int32} {md_foundN : Int32} {md_foundCost : Int32} {md_chosen : Int32} {md_low : Int32} {md_many : Int64} {md_ties : Int64} {md_winnerCost : Int32} {md_allMany : Int64} {md_allTies : Int64} {md_faults : Int32} {md_given : Nat → Int32} {md_on : Nat → Int32} {md_numbers : Nat → Int32} {md_pitches : Nat → Int32} {a1 : Int32} {H : Heap} {locs : List Loc} {ls : Array Slot} (C : Cx p s m meth c args A D kc R_SpeciesSolverModel b_SpeciesSolverModel_mayBegin 4 (some .boolean)) (hm : m_SpeciesSolverModel_mayBegin F md_lines md_species md_above md_given md_on md_numbers md_pitches a1 = some r) (hZ : St D A s (wd_SpeciesSolverModel_mayBegin kc ad md_thrown md_drafted md_lines md_n md_species md_above md_trialSize md_foundSize md_foundSpecies md_foundN md_foundCost md_chosen md_low md_many md_ties md_winnerCost md_allMany md_allTies md_faults md_given md_on md_numbers md_pitches) H locs) (hl : lv_has ls 4 [(0, .ref (ad 0)), (1, .int a1)]) : W p l e rm_SpeciesSolverModel_mayBegin s m args below meth c H locs 0 0 (MQ below (Qi D A (wd_SpeciesSolverModel_mayBegin kc ad md_thrown md_drafted md_lines md_n md_species md_above md_trialSize md_foundSize md_foundSpecies md_foundN md_foundCost md_chosen md_low md_many md_ties md_winnerCost md_allMany md_allTies md_faults md_given md_on md_numbers md_pitches) r) args s 0 0 A) (F0 m 0 ls []) := by
  obtain ⟨hx, hb, hr, hts, hown, hml, hlocks, hK, hN, hA, hX⟩ := id C
  obtain ⟨hP, hD, hS⟩ := hZ
  unfold m_SpeciesSolverModel_mayBegin at hm
  refine lv_aload_n hx hb d_SpeciesSolverModel_mayBegin_0 rfl (lv_at hl 0 rfl) ?_
  refine va_get (D := D) (ci := 1) (v := .ref (ad 3)) (C := R_SpeciesSolverModel) (T := T_SpeciesSolverModel) (N := 35) hx hb hts inG_SpeciesSolverModel hown hK hP 0 rfl rfl 8 (by decide) (hts _ gw_826) (fun _ h9 => h9) rfl d_SpeciesSolverModel_mayBegin_1 ?_
  refine lv_bipush (v := 8) hx hb d_SpeciesSolverModel_mayBegin_4 (by decide) ?_
  refine va_zald hx hb hK hP 2 1 rfl rfl (in_lit (by decide)) d_SpeciesSolverModel_mayBegin_6 ?_
  refine lv_if_eq (tgt := 30) hx hb d_SpeciesSolverModel_mayBegin_7 (by decide) (fun c1 => ?_) (fun c1 => ?_)
  · replace hm := ifT hm c1
    exact l_SpeciesSolverModel_mayBegin_30 C  hm ⟨hP, hD, hS⟩ (lv_sub hl [0, 1] rfl)
  · replace hm := ifF hm c1
    refine lv_aload_n hx hb d_SpeciesSolverModel_mayBegin_10 rfl (lv_at hl 0 rfl) ?_
    refine lv_iconst (v := 5) hx hb d_SpeciesSolverModel_mayBegin_11 (by decide) ?_
    refine lv_aload_n hx hb d_SpeciesSolverModel_mayBegin_12 rfl (lv_at hl 0 rfl) ?_
    refine va_get (D := D) (ci := 1) (v := .ref (ad 7)) (C := R_SpeciesSolverModel) (T := T_SpeciesSolverModel) (N := 35) hx hb hts inG_SpeciesSolverModel hown hK hP 0 rfl rfl 17 (by decide) (hts _ gw_835) (fun _ h9 => h9) rfl d_SpeciesSolverModel_mayBegin_13 ?_
    refine lv_iload_n hx hb d_SpeciesSolverModel_mayBegin_16 rfl (lv_at hl 1 rfl) ?_
    obtain ⟨hi2, hm⟩ := gd_some hm
    refine va_iald hx hb hK hP 4 0 rfl rfl hi2 d_SpeciesSolverModel_mayBegin_17 ?_
    refine lv_aload_n hx hb d_SpeciesSolverModel_mayBegin_18 rfl (lv_at hl 0 rfl) ?_
    refine lv_iconst (v := 0) hx hb d_SpeciesSolverModel_mayBegin_19 (by decide) ?_
    refine lv_iconst (v := 0) hx hb d_SpeciesSolverModel_mayBegin_20 (by decide) ?_
    obtain ⟨u3, hc4, hm⟩ := bd_some hm
    refine zV_i (n := 2) (wr := [((ad 3), .inl (kc 1, 11, .inl md_on)), ((ad 4), .inl (kc 0, 18, .inl md_numbers)), ((ad 7), .inl (kc 0, 8, .inl md_pitches))]) (w1 := (wd_SpeciesSolverModel_at kc ad md_thrown md_drafted md_lines md_n md_species md_above md_trialSize md_foundSize md_foundSpecies md_foundN md_foundCost md_chosen md_low md_many md_ties md_winnerCost md_allMany md_allTies md_faults md_given)) (ws1 := (wd_SpeciesSolverModel_mayBegin kc ad md_thrown md_drafted md_lines md_n md_species md_above md_trialSize md_foundSize md_foundSpecies md_foundN md_foundCost md_chosen md_low md_many md_ties md_winnerCost md_allMany md_allTies md_faults md_given md_on md_numbers md_pitches)) (As := [.int (0 : Int32), .int (0 : Int32)]) (rest := [.int (md_pitches (Int32.toNatClampNeg a1)), .int (5 : Int32), .ref (ad 0)]) (ci := 1) (q0 := 0) (y := y_SpeciesSolverModel_at) ⟨hx, hb, hml, hown, hts⟩ (fun sz => c_SpeciesSolverModel_at hc4 sz) gw_1022 gw_1019 gw_1021 gw_85 gw_118 hd_SpeciesSolverModel_at ⟨Nat.le_of_ble_eq_true rfl, Nat.le_of_ble_eq_true rfl⟩ ⟨rfl, rfl⟩ ⟨Nat.zero_le _, Nat.zero_le _⟩ hK hN hP hD hS hA hX [0, 1] [2, 3, 4] [3, 4, 0, 1, 2] rfl rfl (by decide) (by decide) (by decide) rfl (by decide) rfl rfl rfl hl.1 rfl (Nat.le_of_ble_eq_true rfl) d_SpeciesSolverModel_mayBegin_21 (fun H locs hP hD hS => ?_)
    obtain ⟨u5, hc6, hm⟩ := bd_some hm
    refine zV_i (n := 3) (wr := [((ad 2), .inl (kc 0, 36, .inl md_given)), ((ad 3), .inl (kc 1, 11, .inl md_on)), ((ad 7), .inl (kc 0, 8, .inl md_pitches))]) (w1 := (wd_SpeciesSolverModel_isIn kc ad md_thrown md_drafted md_lines md_n md_species md_above md_trialSize md_foundSize md_foundSpecies md_foundN md_foundCost md_chosen md_low md_many md_ties md_winnerCost md_allMany md_allTies md_faults md_numbers)) (ws1 := (wd_SpeciesSolverModel_mayBegin kc ad md_thrown md_drafted md_lines md_n md_species md_above md_trialSize md_foundSize md_foundSpecies md_foundN md_foundCost md_chosen md_low md_many md_ties md_winnerCost md_allMany md_allTies md_faults md_given md_on md_numbers md_pitches)) (As := [.int (5 : Int32), .int (md_pitches (Int32.toNatClampNeg a1)), .int u3]) (rest := []) (ci := 1) (q0 := 0) (y := y_SpeciesSolverModel_isIn) ⟨hx, hb, hml, hown, hts⟩ (fun sz => c_SpeciesSolverModel_isIn hc6 sz) gw_1026 gw_1023 gw_1025 gw_86 gw_118 hd_SpeciesSolverModel_isIn ⟨Nat.le_of_ble_eq_true rfl, Nat.le_of_ble_eq_true rfl⟩ ⟨rfl, rfl⟩ ⟨Nat.zero_le _, Nat.zero_le _⟩ hK hN hP hD hS hA hX [0, 3] [1, 2, 4] [3, 0, 1, 4, 2] rfl rfl (by decide) (by decide) (by decide) rfl (by decide) rfl rfl rfl hl.1 rfl (Nat.le_of_ble_eq_true rfl) d_SpeciesSolverModel_mayBegin_24 (fun H locs hP hD hS => ?_)
    refine lv_if_eq (tgt := 34) hx hb d_SpeciesSolverModel_mayBegin_27 (by decide) (fun c7 => ?_) (fun c7 => ?_)
    · replace hm := ifT hm c7
      refine lv_iconst (v := 0) hx hb d_SpeciesSolverModel_mayBegin_34 (by decide) ?_
      exact l_SpeciesSolverModel_mayBegin_35 C  hm ⟨hP, hD, hS⟩ (lv_sub hl [0, 1] rfl)
    · replace hm := ifF hm c7
      exact l_SpeciesSolverModel_mayBegin_30 C  hm ⟨hP, hD, hS⟩ (lv_sub hl [0, 1] rfl)
set_option maxHeartbeats 4000000 in
set_option maxRecDepth 100000 in
theorem c_SpeciesSolverModel_mayBegin {l : Launch} {D : va_G} {kc : Nat → ClassId} {r : Int32} {F : Nat} {ad : Nat → Nat} {md_thrown : Int32} {md_drafted : Int32} {md_lines : Int32} {md_n : Int32} {md_species : Int32} {md_above : Int32} {md_trialSize : Int32} {md_foundSize : Int32} {md_foundSpecies : Int32} {md_foundN : Int32} {md_foundCost : Int32} {md_chosen : Int32} {md_low : Int32} {md_many : Int64} {md_ties : Int64} {md_winnerCost : Int32} {md_allMany : Int64} {md_allTies : Int64} {md_faults : Int32} {md_given : Nat → Int32} {md_on : Nat → Int32} {md_numbers : Nat → Int32} {md_pitches : Nat → Int32} {a1 : Int32} (hm : m_SpeciesSolverModel_mayBegin F md_lines md_species md_above md_given md_on md_numbers md_pitches a1 = some r) (sz : Nat) : Ci l y_SpeciesSolverModel_mayBegin ws_SpeciesSolverModel_mayBegin rm_SpeciesSolverModel_mayBegin D kc sz [.ref (ad 0), .int a1] (wd_SpeciesSolverModel_mayBegin kc ad md_thrown md_drafted md_lines md_n md_species md_above md_trialSize md_foundSize md_foundSpecies md_foundN md_foundCost md_chosen md_low md_many md_ties md_winnerCost md_allMany md_allTies md_faults md_given md_on md_numbers md_pitches) (wd_SpeciesSolverModel_mayBegin kc ad md_thrown md_drafted md_lines md_n md_species md_above md_trialSize md_foundSize md_foundSpecies md_foundN md_foundCost md_chosen md_low md_many md_ties md_winnerCost md_allMany md_allTies md_faults md_given md_on md_numbers md_pitches) r :=
  Cz_of (Qf := fun A => (Qi D A (wd_SpeciesSolverModel_mayBegin kc ad md_thrown md_drafted md_lines md_n md_species md_above md_trialSize md_foundSize md_foundSpecies md_foundN md_foundCost md_chosen md_low md_many md_ties md_winnerCost md_allMany md_allTies md_faults md_given md_on md_numbers md_pitches) r)) (cc := b_SpeciesSolverModel_mayBegin) (maxL := 4) (ret := (some .boolean)) (by decide) rfl rfl (fun C hZ hl => e_SpeciesSolverModel_mayBegin C hm hZ hl)
abbrev b_SpeciesSolverModel_usedBy : ByteArray := prog_9_method_40_code
abbrev y_SpeciesSolverModel_usedBy : MethodName := ⟨"SpeciesSolverModel", "usedBy", "(III)I"⟩
theorem d_SpeciesSolverModel_usedBy_0 : decode b_SpeciesSolverModel_usedBy 0 = .ok (.iload_n 1, 1) := by decide +kernel
theorem d_SpeciesSolverModel_usedBy_1 : decode b_SpeciesSolverModel_usedBy 1 = .ok (.ifCond .ge 7, 3) := by decide +kernel
theorem d_SpeciesSolverModel_usedBy_4 : decode b_SpeciesSolverModel_usedBy 4 = .ok (.iload_n 2, 1) := by decide +kernel
theorem d_SpeciesSolverModel_usedBy_5 : decode b_SpeciesSolverModel_usedBy 5 = .ok (.goto 24, 3) := by decide +kernel
theorem d_SpeciesSolverModel_usedBy_8 : decode b_SpeciesSolverModel_usedBy 8 = .ok (.iload_n 3, 1) := by decide +kernel
theorem d_SpeciesSolverModel_usedBy_9 : decode b_SpeciesSolverModel_usedBy 9 = .ok (.iload_n 1, 1) := by decide +kernel
theorem d_SpeciesSolverModel_usedBy_10 : decode b_SpeciesSolverModel_usedBy 10 = .ok (.if_icmp .le 7, 3) := by decide +kernel
theorem d_SpeciesSolverModel_usedBy_13 : decode b_SpeciesSolverModel_usedBy 13 = .ok (.iconst 2, 1) := by decide +kernel
theorem d_SpeciesSolverModel_usedBy_14 : decode b_SpeciesSolverModel_usedBy 14 = .ok (.goto 15, 3) := by decide +kernel
theorem d_SpeciesSolverModel_usedBy_17 : decode b_SpeciesSolverModel_usedBy 17 = .ok (.iload_n 3, 1) := by decide +kernel
theorem d_SpeciesSolverModel_usedBy_18 : decode b_SpeciesSolverModel_usedBy 18 = .ok (.iload_n 1, 1) := by decide +kernel
theorem d_SpeciesSolverModel_usedBy_19 : decode b_SpeciesSolverModel_usedBy 19 = .ok (.if_icmp .ne 9, 3) := by decide +kernel
theorem d_SpeciesSolverModel_usedBy_22 : decode b_SpeciesSolverModel_usedBy 22 = .ok (.iload_n 2, 1) := by decide +kernel
theorem d_SpeciesSolverModel_usedBy_23 : decode b_SpeciesSolverModel_usedBy 23 = .ok (.iconst 1, 1) := by decide +kernel
theorem d_SpeciesSolverModel_usedBy_24 : decode b_SpeciesSolverModel_usedBy 24 = .ok (.iadd, 1) := by decide +kernel
theorem d_SpeciesSolverModel_usedBy_25 : decode b_SpeciesSolverModel_usedBy 25 = .ok (.goto 4, 3) := by decide +kernel
theorem d_SpeciesSolverModel_usedBy_28 : decode b_SpeciesSolverModel_usedBy 28 = .ok (.iload_n 2, 1) := by decide +kernel
theorem d_SpeciesSolverModel_usedBy_29 : decode b_SpeciesSolverModel_usedBy 29 = .ok (.ireturn, 1) := by decide +kernel
abbrev wd_SpeciesSolverModel_usedBy (kc : Nat → ClassId) (ad : Nat → Nat) (md_thrown : Int32) (md_drafted : Int32) (md_lines : Int32) (md_n : Int32) (md_species : Int32) (md_above : Int32) (md_trialSize : Int32) (md_foundSize : Int32) (md_foundSpecies : Int32) (md_foundN : Int32) (md_foundCost : Int32) (md_chosen : Int32) (md_low : Int32) (md_many : Int64) (md_ties : Int64) (md_winnerCost : Int32) (md_allMany : Int64) (md_allTies : Int64) (md_faults : Int32) : va_W := [((ad 0), .inr (1, [.int md_thrown, .ref (ad 1), .int md_drafted, .ref (ad 2), .int md_lines, .int md_n, .int md_species, .int md_above, .ref (ad 3), .ref (ad 4), .ref (ad 5), .int md_trialSize, .ref (ad 6), .int md_foundSize, .int md_foundSpecies, .int md_foundN, .int md_foundCost, .ref (ad 7), .int md_chosen, .ref (ad 8), .ref (ad 9), .ref (ad 10), .int md_low, .long md_many, .long md_ties, .ref (ad 11), .ref (ad 12), .int md_winnerCost, .long md_allMany, .long md_allTies, .ref (ad 13), .ref (ad 14), .ref (ad 15), .ref (ad 16), .int md_faults]))]
abbrev rm_SpeciesSolverModel_usedBy : Room := { frames := 0, cells := 0, slots := 0, locals := 0 }
abbrev cw_SpeciesSolverModel_usedBy : Cond := .code y_SpeciesSolverModel_usedBy b_SpeciesSolverModel_usedBy 4 (some .int)
abbrev ws_SpeciesSolverModel_usedBy : List Cond := cw_SpeciesSolverModel_usedBy :: GW
theorem hd_SpeciesSolverModel_usedBy : y_SpeciesSolverModel_usedBy.cls ≠ "java/lang/invoke/MethodHandle" ∧ y_SpeciesSolverModel_usedBy.cls ≠ "java/lang/invoke/VarHandle" ∧ (parseMethodDescriptor y_SpeciesSolverModel_usedBy.desc).map (fun d => d.parameters.length) = some 3 := by decide +kernel
def m_SpeciesSolverModel_usedBy   (a1 : Int32) (a2 : Int32) (a3 : Int32) : Option (Int32) :=
  (if (0 : Int32) ≤ a1 then
    (if a3 ≤ a1 then
      (if a3 = a1 then
        (some (a2 + (1 : Int32)))
      else
        (some a2))
    else
      (some (2 : Int32)))
  else
    (some a2))
set_option maxHeartbeats 4000000 in
set_option maxRecDepth 100000 in
theorem e_SpeciesSolverModel_usedBy {r : Int32} {ad : Nat → Nat} {md_thrown : Int32} {md_drafted : Int32} {md_lines : Int32} {md_n : Int32} {md_species : Int32} {md_above : Int32} {md_trialSize : Int32} {md_foundSize : Int32} {md_foundSpecies : Int32} {md_foundN : Int32} {md_foundCost : Int32} {md_chosen : Int32} {md_low : Int32} {md_many : Int64} {md_ties : Int64} {md_winnerCost : Int32} {md_allMany : Int64} {md_allTies : Int64} {md_faults : Int32} {a1 : Int32} {a2 : Int32} {a3 : Int32} {H : Heap} {locs : List Loc} {ls : Array Slot} (C : Cx p s m meth c args A D kc R_SpeciesSolverModel b_SpeciesSolverModel_usedBy 4 (some .int)) (hm : m_SpeciesSolverModel_usedBy  a1 a2 a3 = some r) (hZ : St D A s (wd_SpeciesSolverModel_usedBy kc ad md_thrown md_drafted md_lines md_n md_species md_above md_trialSize md_foundSize md_foundSpecies md_foundN md_foundCost md_chosen md_low md_many md_ties md_winnerCost md_allMany md_allTies md_faults) H locs) (hl : lv_has ls 4 [(0, .ref (ad 0)), (1, .int a1), (2, .int a2), (3, .int a3)]) : W p l e rm_SpeciesSolverModel_usedBy s m args below meth c H locs 0 0 (MQ below (Qi D A (wd_SpeciesSolverModel_usedBy kc ad md_thrown md_drafted md_lines md_n md_species md_above md_trialSize md_foundSize md_foundSpecies md_foundN md_foundCost md_chosen md_low md_many md_ties md_winnerCost md_allMany md_allTies md_faults) r) args s 0 0 A) (F0 m 0 ls []) := by
  obtain ⟨hx, hb, hr, hts, hown, hml, hlocks, hK, hN, hA, hX⟩ := id C
  obtain ⟨hP, hD, hS⟩ := hZ
  unfold m_SpeciesSolverModel_usedBy at hm
  refine lv_iload_n hx hb d_SpeciesSolverModel_usedBy_0 rfl (lv_at hl 1 rfl) ?_
  refine lv_if_ge (tgt := 8) hx hb d_SpeciesSolverModel_usedBy_1 (by decide) (fun c1 => ?_) (fun c1 => ?_)
  · replace hm := ifT hm c1
    refine lv_iload_n hx hb d_SpeciesSolverModel_usedBy_8 rfl (lv_at hl 3 rfl) ?_
    refine lv_iload_n hx hb d_SpeciesSolverModel_usedBy_9 rfl (lv_at hl 1 rfl) ?_
    refine lv_icmp_le (tgt := 17) hx hb d_SpeciesSolverModel_usedBy_10 (by decide) (fun c2 => ?_) (fun c2 => ?_)
    · replace hm := ifT hm c2
      refine lv_iload_n hx hb d_SpeciesSolverModel_usedBy_17 rfl (lv_at hl 3 rfl) ?_
      refine lv_iload_n hx hb d_SpeciesSolverModel_usedBy_18 rfl (lv_at hl 1 rfl) ?_
      refine lv_icmp_ne (tgt := 28) hx hb d_SpeciesSolverModel_usedBy_19 (by decide) (fun c3 => ?_) (fun c3 => ?_)
      · replace hm := ifF hm c3
        refine lv_iload_n hx hb d_SpeciesSolverModel_usedBy_28 rfl (lv_at hl 2 rfl) ?_
        replace hm := Option.some.inj hm; subst hm
        exact zret_i C hP hD hS d_SpeciesSolverModel_usedBy_29
      · replace hm := ifT hm c3
        refine lv_iload_n hx hb d_SpeciesSolverModel_usedBy_22 rfl (lv_at hl 2 rfl) ?_
        refine lv_iconst (v := 1) hx hb d_SpeciesSolverModel_usedBy_23 (by decide) ?_
        refine lv_iadd hx hb d_SpeciesSolverModel_usedBy_24 ?_
        refine lv_goto (tgt := 29) hx hb d_SpeciesSolverModel_usedBy_25 (by decide) ?_
        replace hm := Option.some.inj hm; subst hm
        exact zret_i C hP hD hS d_SpeciesSolverModel_usedBy_29
    · replace hm := ifF hm c2
      refine lv_iconst (v := 2) hx hb d_SpeciesSolverModel_usedBy_13 (by decide) ?_
      refine lv_goto (tgt := 29) hx hb d_SpeciesSolverModel_usedBy_14 (by decide) ?_
      replace hm := Option.some.inj hm; subst hm
      exact zret_i C hP hD hS d_SpeciesSolverModel_usedBy_29
  · replace hm := ifF hm c1
    refine lv_iload_n hx hb d_SpeciesSolverModel_usedBy_4 rfl (lv_at hl 2 rfl) ?_
    refine lv_goto (tgt := 29) hx hb d_SpeciesSolverModel_usedBy_5 (by decide) ?_
    replace hm := Option.some.inj hm; subst hm
    exact zret_i C hP hD hS d_SpeciesSolverModel_usedBy_29
set_option maxHeartbeats 4000000 in
set_option maxRecDepth 100000 in
theorem c_SpeciesSolverModel_usedBy {l : Launch} {D : va_G} {kc : Nat → ClassId} {r : Int32} {ad : Nat → Nat} {md_thrown : Int32} {md_drafted : Int32} {md_lines : Int32} {md_n : Int32} {md_species : Int32} {md_above : Int32} {md_trialSize : Int32} {md_foundSize : Int32} {md_foundSpecies : Int32} {md_foundN : Int32} {md_foundCost : Int32} {md_chosen : Int32} {md_low : Int32} {md_many : Int64} {md_ties : Int64} {md_winnerCost : Int32} {md_allMany : Int64} {md_allTies : Int64} {md_faults : Int32} {a1 : Int32} {a2 : Int32} {a3 : Int32} (hm : m_SpeciesSolverModel_usedBy  a1 a2 a3 = some r) (sz : Nat) : Ci l y_SpeciesSolverModel_usedBy ws_SpeciesSolverModel_usedBy rm_SpeciesSolverModel_usedBy D kc sz [.ref (ad 0), .int a1, .int a2, .int a3] (wd_SpeciesSolverModel_usedBy kc ad md_thrown md_drafted md_lines md_n md_species md_above md_trialSize md_foundSize md_foundSpecies md_foundN md_foundCost md_chosen md_low md_many md_ties md_winnerCost md_allMany md_allTies md_faults) (wd_SpeciesSolverModel_usedBy kc ad md_thrown md_drafted md_lines md_n md_species md_above md_trialSize md_foundSize md_foundSpecies md_foundN md_foundCost md_chosen md_low md_many md_ties md_winnerCost md_allMany md_allTies md_faults) r :=
  Cz_of (Qf := fun A => (Qi D A (wd_SpeciesSolverModel_usedBy kc ad md_thrown md_drafted md_lines md_n md_species md_above md_trialSize md_foundSize md_foundSpecies md_foundN md_foundCost md_chosen md_low md_many md_ties md_winnerCost md_allMany md_allTies md_faults) r)) (cc := b_SpeciesSolverModel_usedBy) (maxL := 4) (ret := (some .int)) (by decide) rfl rfl (fun C hZ hl => e_SpeciesSolverModel_usedBy C hm hZ hl)
abbrev b_SpeciesSolverModel_fillLast : ByteArray := prog_9_method_41_code
abbrev y_SpeciesSolverModel_fillLast : MethodName := ⟨"SpeciesSolverModel", "fillLast", "(I)V"⟩
theorem d_SpeciesSolverModel_fillLast_0 : decode b_SpeciesSolverModel_fillLast 0 = .ok (.aload_n 0, 1) := by decide +kernel
theorem d_SpeciesSolverModel_fillLast_1 : decode b_SpeciesSolverModel_fillLast 1 = .ok (.invokevirtual 130, 3) := by decide +kernel
theorem d_SpeciesSolverModel_fillLast_4 : decode b_SpeciesSolverModel_fillLast 4 = .ok (.iconst 1, 1) := by decide +kernel
theorem d_SpeciesSolverModel_fillLast_5 : decode b_SpeciesSolverModel_fillLast 5 = .ok (.isub, 1) := by decide +kernel
theorem d_SpeciesSolverModel_fillLast_6 : decode b_SpeciesSolverModel_fillLast 6 = .ok (.istore_n 2, 1) := by decide +kernel
theorem d_SpeciesSolverModel_fillLast_7 : decode b_SpeciesSolverModel_fillLast 7 = .ok (.iconst 0, 1) := by decide +kernel
theorem d_SpeciesSolverModel_fillLast_8 : decode b_SpeciesSolverModel_fillLast 8 = .ok (.istore_n 3, 1) := by decide +kernel
theorem d_SpeciesSolverModel_fillLast_9 : decode b_SpeciesSolverModel_fillLast 9 = .ok (.iload_n 3, 1) := by decide +kernel
theorem d_SpeciesSolverModel_fillLast_10 : decode b_SpeciesSolverModel_fillLast 10 = .ok (.sipush 1280, 3) := by decide +kernel
theorem d_SpeciesSolverModel_fillLast_13 : decode b_SpeciesSolverModel_fillLast 13 = .ok (.if_icmp .ge 102, 3) := by decide +kernel
theorem d_SpeciesSolverModel_fillLast_16 : decode b_SpeciesSolverModel_fillLast 16 = .ok (.iload_n 3, 1) := by decide +kernel
theorem d_SpeciesSolverModel_fillLast_17 : decode b_SpeciesSolverModel_fillLast 17 = .ok (.iconst 2, 1) := by decide +kernel
theorem d_SpeciesSolverModel_fillLast_18 : decode b_SpeciesSolverModel_fillLast 18 = .ok (.irem, 1) := by decide +kernel
theorem d_SpeciesSolverModel_fillLast_19 : decode b_SpeciesSolverModel_fillLast 19 = .ok (.istore 4, 2) := by decide +kernel
theorem d_SpeciesSolverModel_fillLast_21 : decode b_SpeciesSolverModel_fillLast 21 = .ok (.iload_n 1, 1) := by decide +kernel
theorem d_SpeciesSolverModel_fillLast_22 : decode b_SpeciesSolverModel_fillLast 22 = .ok (.ifCond .lt 9, 3) := by decide +kernel
theorem d_SpeciesSolverModel_fillLast_25 : decode b_SpeciesSolverModel_fillLast 25 = .ok (.iload 4, 2) := by decide +kernel
theorem d_SpeciesSolverModel_fillLast_27 : decode b_SpeciesSolverModel_fillLast 27 = .ok (.iconst 1, 1) := by decide +kernel
theorem d_SpeciesSolverModel_fillLast_28 : decode b_SpeciesSolverModel_fillLast 28 = .ok (.if_icmp .ne 7, 3) := by decide +kernel
theorem d_SpeciesSolverModel_fillLast_31 : decode b_SpeciesSolverModel_fillLast 31 = .ok (.iconst 1, 1) := by decide +kernel
theorem d_SpeciesSolverModel_fillLast_32 : decode b_SpeciesSolverModel_fillLast 32 = .ok (.goto 4, 3) := by decide +kernel
theorem d_SpeciesSolverModel_fillLast_35 : decode b_SpeciesSolverModel_fillLast 35 = .ok (.iconst 0, 1) := by decide +kernel
theorem d_SpeciesSolverModel_fillLast_36 : decode b_SpeciesSolverModel_fillLast 36 = .ok (.istore 5, 2) := by decide +kernel
theorem d_SpeciesSolverModel_fillLast_38 : decode b_SpeciesSolverModel_fillLast 38 = .ok (.aload_n 0, 1) := by decide +kernel
theorem d_SpeciesSolverModel_fillLast_39 : decode b_SpeciesSolverModel_fillLast 39 = .ok (.getfield 41, 3) := by decide +kernel
theorem d_SpeciesSolverModel_fillLast_42 : decode b_SpeciesSolverModel_fillLast 42 = .ok (.sipush 1280, 3) := by decide +kernel
theorem d_SpeciesSolverModel_fillLast_45 : decode b_SpeciesSolverModel_fillLast 45 = .ok (.iload_n 2, 1) := by decide +kernel
theorem d_SpeciesSolverModel_fillLast_46 : decode b_SpeciesSolverModel_fillLast 46 = .ok (.imul, 1) := by decide +kernel
theorem d_SpeciesSolverModel_fillLast_47 : decode b_SpeciesSolverModel_fillLast 47 = .ok (.iload_n 3, 1) := by decide +kernel
theorem d_SpeciesSolverModel_fillLast_48 : decode b_SpeciesSolverModel_fillLast 48 = .ok (.iadd, 1) := by decide +kernel
theorem d_SpeciesSolverModel_fillLast_49 : decode b_SpeciesSolverModel_fillLast 49 = .ok (.iload 5, 2) := by decide +kernel
theorem d_SpeciesSolverModel_fillLast_51 : decode b_SpeciesSolverModel_fillLast 51 = .ok (.ifCond .eq 7, 3) := by decide +kernel
theorem d_SpeciesSolverModel_fillLast_54 : decode b_SpeciesSolverModel_fillLast 54 = .ok (.iconst 0, 1) := by decide +kernel
theorem d_SpeciesSolverModel_fillLast_55 : decode b_SpeciesSolverModel_fillLast 55 = .ok (.goto 5, 3) := by decide +kernel
theorem d_SpeciesSolverModel_fillLast_58 : decode b_SpeciesSolverModel_fillLast 58 = .ok (.ldc 165, 2) := by decide +kernel
theorem d_SpeciesSolverModel_fillLast_60 : decode b_SpeciesSolverModel_fillLast 60 = .ok (.iastore, 1) := by decide +kernel
theorem d_SpeciesSolverModel_fillLast_61 : decode b_SpeciesSolverModel_fillLast 61 = .ok (.aload_n 0, 1) := by decide +kernel
theorem d_SpeciesSolverModel_fillLast_62 : decode b_SpeciesSolverModel_fillLast 62 = .ok (.getfield 44, 3) := by decide +kernel
theorem d_SpeciesSolverModel_fillLast_65 : decode b_SpeciesSolverModel_fillLast 65 = .ok (.iload_n 2, 1) := by decide +kernel
theorem d_SpeciesSolverModel_fillLast_66 : decode b_SpeciesSolverModel_fillLast 66 = .ok (.iconst 2, 1) := by decide +kernel
theorem d_SpeciesSolverModel_fillLast_67 : decode b_SpeciesSolverModel_fillLast 67 = .ok (.irem, 1) := by decide +kernel
theorem d_SpeciesSolverModel_fillLast_68 : decode b_SpeciesSolverModel_fillLast 68 = .ok (.sipush 1280, 3) := by decide +kernel
theorem d_SpeciesSolverModel_fillLast_71 : decode b_SpeciesSolverModel_fillLast 71 = .ok (.imul, 1) := by decide +kernel
theorem d_SpeciesSolverModel_fillLast_72 : decode b_SpeciesSolverModel_fillLast 72 = .ok (.iload_n 3, 1) := by decide +kernel
theorem d_SpeciesSolverModel_fillLast_73 : decode b_SpeciesSolverModel_fillLast 73 = .ok (.iadd, 1) := by decide +kernel
theorem d_SpeciesSolverModel_fillLast_74 : decode b_SpeciesSolverModel_fillLast 74 = .ok (.iload 5, 2) := by decide +kernel
theorem d_SpeciesSolverModel_fillLast_76 : decode b_SpeciesSolverModel_fillLast 76 = .ok (.ifCond .eq 7, 3) := by decide +kernel
theorem d_SpeciesSolverModel_fillLast_79 : decode b_SpeciesSolverModel_fillLast 79 = .ok (.lconst 1, 1) := by decide +kernel
theorem d_SpeciesSolverModel_fillLast_80 : decode b_SpeciesSolverModel_fillLast 80 = .ok (.goto 4, 3) := by decide +kernel
theorem d_SpeciesSolverModel_fillLast_83 : decode b_SpeciesSolverModel_fillLast 83 = .ok (.lconst 0, 1) := by decide +kernel
theorem d_SpeciesSolverModel_fillLast_84 : decode b_SpeciesSolverModel_fillLast 84 = .ok (.lastore, 1) := by decide +kernel
theorem d_SpeciesSolverModel_fillLast_85 : decode b_SpeciesSolverModel_fillLast 85 = .ok (.aload_n 0, 1) := by decide +kernel
theorem d_SpeciesSolverModel_fillLast_86 : decode b_SpeciesSolverModel_fillLast 86 = .ok (.getfield 48, 3) := by decide +kernel
theorem d_SpeciesSolverModel_fillLast_89 : decode b_SpeciesSolverModel_fillLast 89 = .ok (.iload_n 2, 1) := by decide +kernel
theorem d_SpeciesSolverModel_fillLast_90 : decode b_SpeciesSolverModel_fillLast 90 = .ok (.iconst 2, 1) := by decide +kernel
theorem d_SpeciesSolverModel_fillLast_91 : decode b_SpeciesSolverModel_fillLast 91 = .ok (.irem, 1) := by decide +kernel
theorem d_SpeciesSolverModel_fillLast_92 : decode b_SpeciesSolverModel_fillLast 92 = .ok (.sipush 1280, 3) := by decide +kernel
theorem d_SpeciesSolverModel_fillLast_95 : decode b_SpeciesSolverModel_fillLast 95 = .ok (.imul, 1) := by decide +kernel
theorem d_SpeciesSolverModel_fillLast_96 : decode b_SpeciesSolverModel_fillLast 96 = .ok (.iload_n 3, 1) := by decide +kernel
theorem d_SpeciesSolverModel_fillLast_97 : decode b_SpeciesSolverModel_fillLast 97 = .ok (.iadd, 1) := by decide +kernel
theorem d_SpeciesSolverModel_fillLast_98 : decode b_SpeciesSolverModel_fillLast 98 = .ok (.iload 5, 2) := by decide +kernel
theorem d_SpeciesSolverModel_fillLast_100 : decode b_SpeciesSolverModel_fillLast 100 = .ok (.ifCond .eq 7, 3) := by decide +kernel
theorem d_SpeciesSolverModel_fillLast_103 : decode b_SpeciesSolverModel_fillLast 103 = .ok (.lconst 1, 1) := by decide +kernel
theorem d_SpeciesSolverModel_fillLast_104 : decode b_SpeciesSolverModel_fillLast 104 = .ok (.goto 4, 3) := by decide +kernel
theorem d_SpeciesSolverModel_fillLast_107 : decode b_SpeciesSolverModel_fillLast 107 = .ok (.lconst 0, 1) := by decide +kernel
theorem d_SpeciesSolverModel_fillLast_108 : decode b_SpeciesSolverModel_fillLast 108 = .ok (.lastore, 1) := by decide +kernel
theorem d_SpeciesSolverModel_fillLast_109 : decode b_SpeciesSolverModel_fillLast 109 = .ok (.iinc 3 1, 3) := by decide +kernel
theorem d_SpeciesSolverModel_fillLast_112 : decode b_SpeciesSolverModel_fillLast 112 = .ok (.goto (-103), 3) := by decide +kernel
theorem d_SpeciesSolverModel_fillLast_115 : decode b_SpeciesSolverModel_fillLast 115 = .ok (.return_, 1) := by decide +kernel
abbrev wd_SpeciesSolverModel_fillLast (kc : Nat → ClassId) (ad : Nat → Nat) (md_thrown : Int32) (md_drafted : Int32) (md_lines : Int32) (md_n : Int32) (md_species : Int32) (md_above : Int32) (md_trialSize : Int32) (md_foundSize : Int32) (md_foundSpecies : Int32) (md_foundN : Int32) (md_foundCost : Int32) (md_chosen : Int32) (md_low : Int32) (md_many : Int64) (md_ties : Int64) (md_winnerCost : Int32) (md_allMany : Int64) (md_allTies : Int64) (md_faults : Int32) (md_least : Nat → Int32) (md_all : Nat → Int64) (md_best : Nat → Int64) : va_W := [((ad 0), .inr (1, [.int md_thrown, .ref (ad 1), .int md_drafted, .ref (ad 2), .int md_lines, .int md_n, .int md_species, .int md_above, .ref (ad 3), .ref (ad 4), .ref (ad 5), .int md_trialSize, .ref (ad 6), .int md_foundSize, .int md_foundSpecies, .int md_foundN, .int md_foundCost, .ref (ad 7), .int md_chosen, .ref (ad 8), .ref (ad 9), .ref (ad 10), .int md_low, .long md_many, .long md_ties, .ref (ad 11), .ref (ad 12), .int md_winnerCost, .long md_allMany, .long md_allTies, .ref (ad 13), .ref (ad 14), .ref (ad 15), .ref (ad 16), .int md_faults])), ((ad 8), .inl (kc 0, 57600, .inl md_least)), ((ad 9), .inl (kc 2, 2560, .inr (.inl md_all))), ((ad 10), .inl (kc 2, 2560, .inr (.inl md_best)))]
abbrev rm_SpeciesSolverModel_fillLast : Room := { frames := 1, cells := 0, slots := 0, locals := 20 }
abbrev cw_SpeciesSolverModel_fillLast : Cond := .code y_SpeciesSolverModel_fillLast b_SpeciesSolverModel_fillLast 6 none
abbrev ws_SpeciesSolverModel_fillLast : List Cond := cw_SpeciesSolverModel_fillLast :: GW
theorem hd_SpeciesSolverModel_fillLast : y_SpeciesSolverModel_fillLast.cls ≠ "java/lang/invoke/MethodHandle" ∧ y_SpeciesSolverModel_fillLast.cls ≠ "java/lang/invoke/VarHandle" ∧ (parseMethodDescriptor y_SpeciesSolverModel_fillLast.desc).map (fun d => d.parameters.length) = some 1 := by decide +kernel
def m_SpeciesSolverModel_fillLast_108 (F : Nat) (md_n : Int32) (md_species : Int32) (k9 : (Nat → Int32) → (Nat → Int64) → (Nat → Int64) → Int32 → Int32 → Int32 → Option ((Nat → Int32) × (Nat → Int64) × (Nat → Int64))) (md_least : Nat → Int32) (md_all : Nat → Int64) (md_best : Nat → Int64) (x1 : Int32) (x2 : Int32) (x3 : Int32) (t1 : Int32) (t2 : Int64) : Option ((Nat → Int32) × (Nat → Int64) × (Nat → Int64)) :=
  (gd t1 2560 (k9 md_least md_all (vp_updL md_best (Int32.toNatClampNeg t1) t2) x1 x2 (x3 + 1)))
set_option maxHeartbeats 4000000 in
set_option maxRecDepth 100000 in
theorem l_SpeciesSolverModel_fillLast_108 {r : (Nat → Int32) × (Nat → Int64) × (Nat → Int64)} {F : Nat} {ad : Nat → Nat} {md_thrown : Int32} {md_drafted : Int32} {md_lines : Int32} {md_n : Int32} {md_species : Int32} {md_above : Int32} {md_trialSize : Int32} {md_foundSize : Int32} {md_foundSpecies : Int32} {md_foundN : Int32} {md_foundCost : Int32} {md_chosen : Int32} {md_low : Int32} {md_many : Int64} {md_ties : Int64} {md_winnerCost : Int32} {md_allMany : Int64} {md_allTies : Int64} {md_faults : Int32} {md_least : Nat → Int32} {md_all : Nat → Int64} {md_best : Nat → Int64} {k9 : (Nat → Int32) → (Nat → Int64) → (Nat → Int64) → Int32 → Int32 → Int32 → Option ((Nat → Int32) × (Nat → Int64) × (Nat → Int64))} {x1 : Int32} {x2 : Int32} {x3 : Int32} {t1 : Int32} {t2 : Int64} {H : Heap} {locs : List Loc} {ls : Array Slot} (C : Cx p s m meth c args A D kc R_SpeciesSolverModel b_SpeciesSolverModel_fillLast 6 none) (hk9 : (∀ (md_least : Nat → Int32) (md_all : Nat → Int64) (md_best : Nat → Int64) (x1 : Int32) (x2 : Int32) (x3 : Int32) (H : Heap) (locs : List Loc) (ls : Array Slot), k9 md_least md_all md_best x1 x2 x3 = some r → St D A s (wd_SpeciesSolverModel_fillLast kc ad md_thrown md_drafted md_lines md_n md_species md_above md_trialSize md_foundSize md_foundSpecies md_foundN md_foundCost md_chosen md_low md_many md_ties md_winnerCost md_allMany md_allTies md_faults md_least md_all md_best) H locs → lv_has ls 6 [(0, .ref (ad 0)), (1, .int x1), (2, .int x2), (3, .int x3)] → W p l e rm_SpeciesSolverModel_fillLast s m args below meth c H locs 0 0 (MQ below (Qv D A (wd_SpeciesSolverModel_fillLast kc ad md_thrown md_drafted md_lines md_n md_species md_above md_trialSize md_foundSize md_foundSpecies md_foundN md_foundCost md_chosen md_low md_many md_ties md_winnerCost md_allMany md_allTies md_faults r.1 r.2.1 r.2.2)) args s 0 0 A) (F0 m 9 ls []))) (hm : m_SpeciesSolverModel_fillLast_108 F md_n md_species k9 md_least md_all md_best x1 x2 x3 t1 t2 = some r) (hZ : St D A s (wd_SpeciesSolverModel_fillLast kc ad md_thrown md_drafted md_lines md_n md_species md_above md_trialSize md_foundSize md_foundSpecies md_foundN md_foundCost md_chosen md_low md_many md_ties md_winnerCost md_allMany md_allTies md_faults md_least md_all md_best) H locs) (hl : lv_has ls 6 [(0, .ref (ad 0)), (1, .int x1), (2, .int x2), (3, .int x3)]) : W p l e rm_SpeciesSolverModel_fillLast s m args below meth c H locs 0 0 (MQ below (Qv D A (wd_SpeciesSolverModel_fillLast kc ad md_thrown md_drafted md_lines md_n md_species md_above md_trialSize md_foundSize md_foundSpecies md_foundN md_foundCost md_chosen md_low md_many md_ties md_winnerCost md_allMany md_allTies md_faults r.1 r.2.1 r.2.2)) args s 0 0 A) (F0 m 108 ls [.long t2, .int t1, .ref (ad 10)]) := by
  obtain ⟨hx, hb, hr, hts, hown, hml, hlocks, hK, hN, hA, hX⟩ := id C
  obtain ⟨hP, hD, hS⟩ := hZ
  unfold m_SpeciesSolverModel_fillLast_108 at hm
  obtain ⟨hi1, hm⟩ := gd_some hm
  refine va_last hx hb hK hP hD hS 3 2 rfl rfl hi1 d_SpeciesSolverModel_fillLast_108 (fun H locs hP hD hS => ?_)
  replace hP : va_P D vwCl (wd_SpeciesSolverModel_fillLast kc ad md_thrown md_drafted md_lines md_n md_species md_above md_trialSize md_foundSize md_foundSpecies md_foundN md_foundCost md_chosen md_low md_many md_ties md_winnerCost md_allMany md_allTies md_faults md_least md_all (vp_updL md_best (Int32.toNatClampNeg t1) t2)) H := hP
  replace hD : va_D A (wd_SpeciesSolverModel_fillLast kc ad md_thrown md_drafted md_lines md_n md_species md_above md_trialSize md_foundSize md_foundSpecies md_foundN md_foundCost md_chosen md_low md_many md_ties md_winnerCost md_allMany md_allTies md_faults md_least md_all (vp_updL md_best (Int32.toNatClampNeg t1) t2)) := hD
  refine lv_iinc (v := (x3 + 1)) (lv' := [(3, .int (x3 + 1)), (0, .ref (ad 0)), (1, .int x1), (2, .int x2)]) hx hb d_SpeciesSolverModel_fillLast_109 hl (k := 3) rfl rfl (by decide) rfl (fun ls hl => ?_)
  refine lv_goto (tgt := 9) hx hb d_SpeciesSolverModel_fillLast_112 (by decide) ?_
  exact hk9 md_least md_all (vp_updL md_best (Int32.toNatClampNeg t1) t2) x1 x2 (x3 + 1) _ _ _ hm ⟨hP, hD, hS⟩ (lv_sub hl [1, 2, 3, 0] rfl)
def m_SpeciesSolverModel_fillLast_84 (F : Nat) (md_n : Int32) (md_species : Int32) (k9 : (Nat → Int32) → (Nat → Int64) → (Nat → Int64) → Int32 → Int32 → Int32 → Option ((Nat → Int32) × (Nat → Int64) × (Nat → Int64))) (md_least : Nat → Int32) (md_all : Nat → Int64) (md_best : Nat → Int64) (x1 : Int32) (x2 : Int32) (x3 : Int32) (x5 : Int32) (t1 : Int32) (t2 : Int64) : Option ((Nat → Int32) × (Nat → Int64) × (Nat → Int64)) :=
  (gd t1 2560 (if x5 = (0 : Int32) then
    m_SpeciesSolverModel_fillLast_108 F md_n md_species k9 md_least (vp_updL md_all (Int32.toNatClampNeg t1) t2) md_best x1 x2 x3 (((x2 - x2 / (2 : Int32) * (2 : Int32)) * (1280 : Int32)) + x3) (0 : Int64)
  else
    m_SpeciesSolverModel_fillLast_108 F md_n md_species k9 md_least (vp_updL md_all (Int32.toNatClampNeg t1) t2) md_best x1 x2 x3 (((x2 - x2 / (2 : Int32) * (2 : Int32)) * (1280 : Int32)) + x3) (1 : Int64)))
set_option maxHeartbeats 4000000 in
set_option maxRecDepth 100000 in
theorem l_SpeciesSolverModel_fillLast_84 {r : (Nat → Int32) × (Nat → Int64) × (Nat → Int64)} {F : Nat} {ad : Nat → Nat} {md_thrown : Int32} {md_drafted : Int32} {md_lines : Int32} {md_n : Int32} {md_species : Int32} {md_above : Int32} {md_trialSize : Int32} {md_foundSize : Int32} {md_foundSpecies : Int32} {md_foundN : Int32} {md_foundCost : Int32} {md_chosen : Int32} {md_low : Int32} {md_many : Int64} {md_ties : Int64} {md_winnerCost : Int32} {md_allMany : Int64} {md_allTies : Int64} {md_faults : Int32} {md_least : Nat → Int32} {md_all : Nat → Int64} {md_best : Nat → Int64} {k9 : (Nat → Int32) → (Nat → Int64) → (Nat → Int64) → Int32 → Int32 → Int32 → Option ((Nat → Int32) × (Nat → Int64) × (Nat → Int64))} {x1 : Int32} {x2 : Int32} {x3 : Int32} {x5 : Int32} {t1 : Int32} {t2 : Int64} {H : Heap} {locs : List Loc} {ls : Array Slot} (C : Cx p s m meth c args A D kc R_SpeciesSolverModel b_SpeciesSolverModel_fillLast 6 none) (hk9 : (∀ (md_least : Nat → Int32) (md_all : Nat → Int64) (md_best : Nat → Int64) (x1 : Int32) (x2 : Int32) (x3 : Int32) (H : Heap) (locs : List Loc) (ls : Array Slot), k9 md_least md_all md_best x1 x2 x3 = some r → St D A s (wd_SpeciesSolverModel_fillLast kc ad md_thrown md_drafted md_lines md_n md_species md_above md_trialSize md_foundSize md_foundSpecies md_foundN md_foundCost md_chosen md_low md_many md_ties md_winnerCost md_allMany md_allTies md_faults md_least md_all md_best) H locs → lv_has ls 6 [(0, .ref (ad 0)), (1, .int x1), (2, .int x2), (3, .int x3)] → W p l e rm_SpeciesSolverModel_fillLast s m args below meth c H locs 0 0 (MQ below (Qv D A (wd_SpeciesSolverModel_fillLast kc ad md_thrown md_drafted md_lines md_n md_species md_above md_trialSize md_foundSize md_foundSpecies md_foundN md_foundCost md_chosen md_low md_many md_ties md_winnerCost md_allMany md_allTies md_faults r.1 r.2.1 r.2.2)) args s 0 0 A) (F0 m 9 ls []))) (hm : m_SpeciesSolverModel_fillLast_84 F md_n md_species k9 md_least md_all md_best x1 x2 x3 x5 t1 t2 = some r) (hZ : St D A s (wd_SpeciesSolverModel_fillLast kc ad md_thrown md_drafted md_lines md_n md_species md_above md_trialSize md_foundSize md_foundSpecies md_foundN md_foundCost md_chosen md_low md_many md_ties md_winnerCost md_allMany md_allTies md_faults md_least md_all md_best) H locs) (hl : lv_has ls 6 [(0, .ref (ad 0)), (1, .int x1), (2, .int x2), (3, .int x3), (5, .int x5)]) : W p l e rm_SpeciesSolverModel_fillLast s m args below meth c H locs 0 0 (MQ below (Qv D A (wd_SpeciesSolverModel_fillLast kc ad md_thrown md_drafted md_lines md_n md_species md_above md_trialSize md_foundSize md_foundSpecies md_foundN md_foundCost md_chosen md_low md_many md_ties md_winnerCost md_allMany md_allTies md_faults r.1 r.2.1 r.2.2)) args s 0 0 A) (F0 m 84 ls [.long t2, .int t1, .ref (ad 9)]) := by
  obtain ⟨hx, hb, hr, hts, hown, hml, hlocks, hK, hN, hA, hX⟩ := id C
  obtain ⟨hP, hD, hS⟩ := hZ
  unfold m_SpeciesSolverModel_fillLast_84 at hm
  obtain ⟨hi1, hm⟩ := gd_some hm
  refine va_last hx hb hK hP hD hS 2 2 rfl rfl hi1 d_SpeciesSolverModel_fillLast_84 (fun H locs hP hD hS => ?_)
  replace hP : va_P D vwCl (wd_SpeciesSolverModel_fillLast kc ad md_thrown md_drafted md_lines md_n md_species md_above md_trialSize md_foundSize md_foundSpecies md_foundN md_foundCost md_chosen md_low md_many md_ties md_winnerCost md_allMany md_allTies md_faults md_least (vp_updL md_all (Int32.toNatClampNeg t1) t2) md_best) H := hP
  replace hD : va_D A (wd_SpeciesSolverModel_fillLast kc ad md_thrown md_drafted md_lines md_n md_species md_above md_trialSize md_foundSize md_foundSpecies md_foundN md_foundCost md_chosen md_low md_many md_ties md_winnerCost md_allMany md_allTies md_faults md_least (vp_updL md_all (Int32.toNatClampNeg t1) t2) md_best) := hD
  refine lv_aload_n hx hb d_SpeciesSolverModel_fillLast_85 rfl (lv_at hl 0 rfl) ?_
  refine va_get (D := D) (ci := 1) (v := .ref (ad 10)) (C := R_SpeciesSolverModel) (T := T_SpeciesSolverModel) (N := 35) hx hb hts inG_SpeciesSolverModel hown hK hP 0 rfl rfl 21 (by decide) (hts _ gw_839) (fun _ h9 => h9) rfl d_SpeciesSolverModel_fillLast_86 ?_
  refine lv_iload_n hx hb d_SpeciesSolverModel_fillLast_89 rfl (lv_at hl 2 rfl) ?_
  refine lv_iconst (v := 2) hx hb d_SpeciesSolverModel_fillLast_90 (by decide) ?_
  refine lv_irem hx hb d_SpeciesSolverModel_fillLast_91 (by decide) ?_
  refine lv_sipush (v := 1280) hx hb d_SpeciesSolverModel_fillLast_92 (by decide) ?_
  refine lv_imul hx hb d_SpeciesSolverModel_fillLast_95 ?_
  refine lv_iload_n hx hb d_SpeciesSolverModel_fillLast_96 rfl (lv_at hl 3 rfl) ?_
  refine lv_iadd hx hb d_SpeciesSolverModel_fillLast_97 ?_
  refine lv_iload hx hb d_SpeciesSolverModel_fillLast_98 (lv_at hl 4 rfl) ?_
  refine lv_if_eq (tgt := 107) hx hb d_SpeciesSolverModel_fillLast_100 (by decide) (fun c2 => ?_) (fun c2 => ?_)
  · replace hm := ifT hm c2
    refine lv_lconst (v := 0) hx hb d_SpeciesSolverModel_fillLast_107 (by decide) ?_
    exact l_SpeciesSolverModel_fillLast_108 C hk9 hm ⟨hP, hD, hS⟩ (lv_sub hl [0, 1, 2, 3] rfl)
  · replace hm := ifF hm c2
    refine lv_lconst (v := 1) hx hb d_SpeciesSolverModel_fillLast_103 (by decide) ?_
    refine lv_goto (tgt := 108) hx hb d_SpeciesSolverModel_fillLast_104 (by decide) ?_
    exact l_SpeciesSolverModel_fillLast_108 C hk9 hm ⟨hP, hD, hS⟩ (lv_sub hl [0, 1, 2, 3] rfl)
def m_SpeciesSolverModel_fillLast_60 (F : Nat) (md_n : Int32) (md_species : Int32) (k9 : (Nat → Int32) → (Nat → Int64) → (Nat → Int64) → Int32 → Int32 → Int32 → Option ((Nat → Int32) × (Nat → Int64) × (Nat → Int64))) (md_least : Nat → Int32) (md_all : Nat → Int64) (md_best : Nat → Int64) (x1 : Int32) (x2 : Int32) (x3 : Int32) (x5 : Int32) (t1 : Int32) (t2 : Int32) : Option ((Nat → Int32) × (Nat → Int64) × (Nat → Int64)) :=
  (gd t1 57600 (if x5 = (0 : Int32) then
    m_SpeciesSolverModel_fillLast_84 F md_n md_species k9 (upd md_least (Int32.toNatClampNeg t1) t2) md_all md_best x1 x2 x3 x5 (((x2 - x2 / (2 : Int32) * (2 : Int32)) * (1280 : Int32)) + x3) (0 : Int64)
  else
    m_SpeciesSolverModel_fillLast_84 F md_n md_species k9 (upd md_least (Int32.toNatClampNeg t1) t2) md_all md_best x1 x2 x3 x5 (((x2 - x2 / (2 : Int32) * (2 : Int32)) * (1280 : Int32)) + x3) (1 : Int64)))
set_option maxHeartbeats 4000000 in
set_option maxRecDepth 100000 in
theorem l_SpeciesSolverModel_fillLast_60 {r : (Nat → Int32) × (Nat → Int64) × (Nat → Int64)} {F : Nat} {ad : Nat → Nat} {md_thrown : Int32} {md_drafted : Int32} {md_lines : Int32} {md_n : Int32} {md_species : Int32} {md_above : Int32} {md_trialSize : Int32} {md_foundSize : Int32} {md_foundSpecies : Int32} {md_foundN : Int32} {md_foundCost : Int32} {md_chosen : Int32} {md_low : Int32} {md_many : Int64} {md_ties : Int64} {md_winnerCost : Int32} {md_allMany : Int64} {md_allTies : Int64} {md_faults : Int32} {md_least : Nat → Int32} {md_all : Nat → Int64} {md_best : Nat → Int64} {k9 : (Nat → Int32) → (Nat → Int64) → (Nat → Int64) → Int32 → Int32 → Int32 → Option ((Nat → Int32) × (Nat → Int64) × (Nat → Int64))} {x1 : Int32} {x2 : Int32} {x3 : Int32} {x5 : Int32} {t1 : Int32} {t2 : Int32} {H : Heap} {locs : List Loc} {ls : Array Slot} (C : Cx p s m meth c args A D kc R_SpeciesSolverModel b_SpeciesSolverModel_fillLast 6 none) (hk9 : (∀ (md_least : Nat → Int32) (md_all : Nat → Int64) (md_best : Nat → Int64) (x1 : Int32) (x2 : Int32) (x3 : Int32) (H : Heap) (locs : List Loc) (ls : Array Slot), k9 md_least md_all md_best x1 x2 x3 = some r → St D A s (wd_SpeciesSolverModel_fillLast kc ad md_thrown md_drafted md_lines md_n md_species md_above md_trialSize md_foundSize md_foundSpecies md_foundN md_foundCost md_chosen md_low md_many md_ties md_winnerCost md_allMany md_allTies md_faults md_least md_all md_best) H locs → lv_has ls 6 [(0, .ref (ad 0)), (1, .int x1), (2, .int x2), (3, .int x3)] → W p l e rm_SpeciesSolverModel_fillLast s m args below meth c H locs 0 0 (MQ below (Qv D A (wd_SpeciesSolverModel_fillLast kc ad md_thrown md_drafted md_lines md_n md_species md_above md_trialSize md_foundSize md_foundSpecies md_foundN md_foundCost md_chosen md_low md_many md_ties md_winnerCost md_allMany md_allTies md_faults r.1 r.2.1 r.2.2)) args s 0 0 A) (F0 m 9 ls []))) (hm : m_SpeciesSolverModel_fillLast_60 F md_n md_species k9 md_least md_all md_best x1 x2 x3 x5 t1 t2 = some r) (hZ : St D A s (wd_SpeciesSolverModel_fillLast kc ad md_thrown md_drafted md_lines md_n md_species md_above md_trialSize md_foundSize md_foundSpecies md_foundN md_foundCost md_chosen md_low md_many md_ties md_winnerCost md_allMany md_allTies md_faults md_least md_all md_best) H locs) (hl : lv_has ls 6 [(0, .ref (ad 0)), (1, .int x1), (2, .int x2), (3, .int x3), (5, .int x5)]) : W p l e rm_SpeciesSolverModel_fillLast s m args below meth c H locs 0 0 (MQ below (Qv D A (wd_SpeciesSolverModel_fillLast kc ad md_thrown md_drafted md_lines md_n md_species md_above md_trialSize md_foundSize md_foundSpecies md_foundN md_foundCost md_chosen md_low md_many md_ties md_winnerCost md_allMany md_allTies md_faults r.1 r.2.1 r.2.2)) args s 0 0 A) (F0 m 60 ls [.int t2, .int t1, .ref (ad 8)]) := by
  obtain ⟨hx, hb, hr, hts, hown, hml, hlocks, hK, hN, hA, hX⟩ := id C
  obtain ⟨hP, hD, hS⟩ := hZ
  unfold m_SpeciesSolverModel_fillLast_60 at hm
  obtain ⟨hi1, hm⟩ := gd_some hm
  refine va_iast hx hb hK hP hD hS 1 0 rfl rfl hi1 d_SpeciesSolverModel_fillLast_60 (fun H locs hP hD hS => ?_)
  replace hP : va_P D vwCl (wd_SpeciesSolverModel_fillLast kc ad md_thrown md_drafted md_lines md_n md_species md_above md_trialSize md_foundSize md_foundSpecies md_foundN md_foundCost md_chosen md_low md_many md_ties md_winnerCost md_allMany md_allTies md_faults (upd md_least (Int32.toNatClampNeg t1) t2) md_all md_best) H := hP
  replace hD : va_D A (wd_SpeciesSolverModel_fillLast kc ad md_thrown md_drafted md_lines md_n md_species md_above md_trialSize md_foundSize md_foundSpecies md_foundN md_foundCost md_chosen md_low md_many md_ties md_winnerCost md_allMany md_allTies md_faults (upd md_least (Int32.toNatClampNeg t1) t2) md_all md_best) := hD
  refine lv_aload_n hx hb d_SpeciesSolverModel_fillLast_61 rfl (lv_at hl 0 rfl) ?_
  refine va_get (D := D) (ci := 1) (v := .ref (ad 9)) (C := R_SpeciesSolverModel) (T := T_SpeciesSolverModel) (N := 35) hx hb hts inG_SpeciesSolverModel hown hK hP 0 rfl rfl 20 (by decide) (hts _ gw_838) (fun _ h9 => h9) rfl d_SpeciesSolverModel_fillLast_62 ?_
  refine lv_iload_n hx hb d_SpeciesSolverModel_fillLast_65 rfl (lv_at hl 2 rfl) ?_
  refine lv_iconst (v := 2) hx hb d_SpeciesSolverModel_fillLast_66 (by decide) ?_
  refine lv_irem hx hb d_SpeciesSolverModel_fillLast_67 (by decide) ?_
  refine lv_sipush (v := 1280) hx hb d_SpeciesSolverModel_fillLast_68 (by decide) ?_
  refine lv_imul hx hb d_SpeciesSolverModel_fillLast_71 ?_
  refine lv_iload_n hx hb d_SpeciesSolverModel_fillLast_72 rfl (lv_at hl 3 rfl) ?_
  refine lv_iadd hx hb d_SpeciesSolverModel_fillLast_73 ?_
  refine lv_iload hx hb d_SpeciesSolverModel_fillLast_74 (lv_at hl 4 rfl) ?_
  refine lv_if_eq (tgt := 83) hx hb d_SpeciesSolverModel_fillLast_76 (by decide) (fun c2 => ?_) (fun c2 => ?_)
  · replace hm := ifT hm c2
    refine lv_lconst (v := 0) hx hb d_SpeciesSolverModel_fillLast_83 (by decide) ?_
    exact l_SpeciesSolverModel_fillLast_84 C hk9 hm ⟨hP, hD, hS⟩ (lv_sub hl [0, 1, 2, 3, 4] rfl)
  · replace hm := ifF hm c2
    refine lv_lconst (v := 1) hx hb d_SpeciesSolverModel_fillLast_79 (by decide) ?_
    refine lv_goto (tgt := 84) hx hb d_SpeciesSolverModel_fillLast_80 (by decide) ?_
    exact l_SpeciesSolverModel_fillLast_84 C hk9 hm ⟨hP, hD, hS⟩ (lv_sub hl [0, 1, 2, 3, 4] rfl)
def m_SpeciesSolverModel_fillLast_36 (F : Nat) (md_n : Int32) (md_species : Int32) (k9 : (Nat → Int32) → (Nat → Int64) → (Nat → Int64) → Int32 → Int32 → Int32 → Option ((Nat → Int32) × (Nat → Int64) × (Nat → Int64))) (md_least : Nat → Int32) (md_all : Nat → Int64) (md_best : Nat → Int64) (x1 : Int32) (x2 : Int32) (x3 : Int32) (t0 : Int32) : Option ((Nat → Int32) × (Nat → Int64) × (Nat → Int64)) :=
  (if t0 = (0 : Int32) then
    m_SpeciesSolverModel_fillLast_60 F md_n md_species k9 md_least md_all md_best x1 x2 x3 t0 (((1280 : Int32) * x2) + x3) (1000000000 : Int32)
  else
    m_SpeciesSolverModel_fillLast_60 F md_n md_species k9 md_least md_all md_best x1 x2 x3 t0 (((1280 : Int32) * x2) + x3) (0 : Int32))
set_option maxHeartbeats 4000000 in
set_option maxRecDepth 100000 in
theorem l_SpeciesSolverModel_fillLast_36 {r : (Nat → Int32) × (Nat → Int64) × (Nat → Int64)} {F : Nat} {ad : Nat → Nat} {md_thrown : Int32} {md_drafted : Int32} {md_lines : Int32} {md_n : Int32} {md_species : Int32} {md_above : Int32} {md_trialSize : Int32} {md_foundSize : Int32} {md_foundSpecies : Int32} {md_foundN : Int32} {md_foundCost : Int32} {md_chosen : Int32} {md_low : Int32} {md_many : Int64} {md_ties : Int64} {md_winnerCost : Int32} {md_allMany : Int64} {md_allTies : Int64} {md_faults : Int32} {md_least : Nat → Int32} {md_all : Nat → Int64} {md_best : Nat → Int64} {k9 : (Nat → Int32) → (Nat → Int64) → (Nat → Int64) → Int32 → Int32 → Int32 → Option ((Nat → Int32) × (Nat → Int64) × (Nat → Int64))} {x1 : Int32} {x2 : Int32} {x3 : Int32} {t0 : Int32} {H : Heap} {locs : List Loc} {ls : Array Slot} (C : Cx p s m meth c args A D kc R_SpeciesSolverModel b_SpeciesSolverModel_fillLast 6 none) (hk9 : (∀ (md_least : Nat → Int32) (md_all : Nat → Int64) (md_best : Nat → Int64) (x1 : Int32) (x2 : Int32) (x3 : Int32) (H : Heap) (locs : List Loc) (ls : Array Slot), k9 md_least md_all md_best x1 x2 x3 = some r → St D A s (wd_SpeciesSolverModel_fillLast kc ad md_thrown md_drafted md_lines md_n md_species md_above md_trialSize md_foundSize md_foundSpecies md_foundN md_foundCost md_chosen md_low md_many md_ties md_winnerCost md_allMany md_allTies md_faults md_least md_all md_best) H locs → lv_has ls 6 [(0, .ref (ad 0)), (1, .int x1), (2, .int x2), (3, .int x3)] → W p l e rm_SpeciesSolverModel_fillLast s m args below meth c H locs 0 0 (MQ below (Qv D A (wd_SpeciesSolverModel_fillLast kc ad md_thrown md_drafted md_lines md_n md_species md_above md_trialSize md_foundSize md_foundSpecies md_foundN md_foundCost md_chosen md_low md_many md_ties md_winnerCost md_allMany md_allTies md_faults r.1 r.2.1 r.2.2)) args s 0 0 A) (F0 m 9 ls []))) (hm : m_SpeciesSolverModel_fillLast_36 F md_n md_species k9 md_least md_all md_best x1 x2 x3 t0 = some r) (hZ : St D A s (wd_SpeciesSolverModel_fillLast kc ad md_thrown md_drafted md_lines md_n md_species md_above md_trialSize md_foundSize md_foundSpecies md_foundN md_foundCost md_chosen md_low md_many md_ties md_winnerCost md_allMany md_allTies md_faults md_least md_all md_best) H locs) (hl : lv_has ls 6 [(0, .ref (ad 0)), (1, .int x1), (2, .int x2), (3, .int x3)]) : W p l e rm_SpeciesSolverModel_fillLast s m args below meth c H locs 0 0 (MQ below (Qv D A (wd_SpeciesSolverModel_fillLast kc ad md_thrown md_drafted md_lines md_n md_species md_above md_trialSize md_foundSize md_foundSpecies md_foundN md_foundCost md_chosen md_low md_many md_ties md_winnerCost md_allMany md_allTies md_faults r.1 r.2.1 r.2.2)) args s 0 0 A) (F0 m 36 ls [.int t0]) := by
  obtain ⟨hx, hb, hr, hts, hown, hml, hlocks, hK, hN, hA, hX⟩ := id C
  obtain ⟨hP, hD, hS⟩ := hZ
  unfold m_SpeciesSolverModel_fillLast_36 at hm
  refine lv_istore (lv' := [(5, .int t0), (0, .ref (ad 0)), (1, .int x1), (2, .int x2), (3, .int x3)]) hx hb d_SpeciesSolverModel_fillLast_36 hl (by decide) rfl (fun ls hl => ?_)
  refine lv_aload_n hx hb d_SpeciesSolverModel_fillLast_38 rfl (lv_at hl 1 rfl) ?_
  refine va_get (D := D) (ci := 1) (v := .ref (ad 8)) (C := R_SpeciesSolverModel) (T := T_SpeciesSolverModel) (N := 35) hx hb hts inG_SpeciesSolverModel hown hK hP 0 rfl rfl 19 (by decide) (hts _ gw_837) (fun _ h9 => h9) rfl d_SpeciesSolverModel_fillLast_39 ?_
  refine lv_sipush (v := 1280) hx hb d_SpeciesSolverModel_fillLast_42 (by decide) ?_
  refine lv_iload_n hx hb d_SpeciesSolverModel_fillLast_45 rfl (lv_at hl 3 rfl) ?_
  refine lv_imul hx hb d_SpeciesSolverModel_fillLast_46 ?_
  refine lv_iload_n hx hb d_SpeciesSolverModel_fillLast_47 rfl (lv_at hl 4 rfl) ?_
  refine lv_iadd hx hb d_SpeciesSolverModel_fillLast_48 ?_
  refine lv_iload hx hb d_SpeciesSolverModel_fillLast_49 (lv_at hl 0 rfl) ?_
  refine lv_if_eq (tgt := 58) hx hb d_SpeciesSolverModel_fillLast_51 (by decide) (fun c1 => ?_) (fun c1 => ?_)
  · replace hm := ifT hm c1
    refine lv_ldc (v := 1000000000) hx hb hown (hts _ gw_983) d_SpeciesSolverModel_fillLast_58 ?_
    exact l_SpeciesSolverModel_fillLast_60 C hk9 hm ⟨hP, hD, hS⟩ (lv_sub hl [1, 2, 3, 4, 0] rfl)
  · replace hm := ifF hm c1
    refine lv_iconst (v := 0) hx hb d_SpeciesSolverModel_fillLast_54 (by decide) ?_
    refine lv_goto (tgt := 60) hx hb d_SpeciesSolverModel_fillLast_55 (by decide) ?_
    exact l_SpeciesSolverModel_fillLast_60 C hk9 hm ⟨hP, hD, hS⟩ (lv_sub hl [1, 2, 3, 4, 0] rfl)
def m_SpeciesSolverModel_fillLast_31 (F : Nat) (md_n : Int32) (md_species : Int32) (k9 : (Nat → Int32) → (Nat → Int64) → (Nat → Int64) → Int32 → Int32 → Int32 → Option ((Nat → Int32) × (Nat → Int64) × (Nat → Int64))) (md_least : Nat → Int32) (md_all : Nat → Int64) (md_best : Nat → Int64) (x1 : Int32) (x2 : Int32) (x3 : Int32) : Option ((Nat → Int32) × (Nat → Int64) × (Nat → Int64)) :=
  m_SpeciesSolverModel_fillLast_36 F md_n md_species k9 md_least md_all md_best x1 x2 x3 (1 : Int32)
set_option maxHeartbeats 4000000 in
set_option maxRecDepth 100000 in
theorem l_SpeciesSolverModel_fillLast_31 {r : (Nat → Int32) × (Nat → Int64) × (Nat → Int64)} {F : Nat} {ad : Nat → Nat} {md_thrown : Int32} {md_drafted : Int32} {md_lines : Int32} {md_n : Int32} {md_species : Int32} {md_above : Int32} {md_trialSize : Int32} {md_foundSize : Int32} {md_foundSpecies : Int32} {md_foundN : Int32} {md_foundCost : Int32} {md_chosen : Int32} {md_low : Int32} {md_many : Int64} {md_ties : Int64} {md_winnerCost : Int32} {md_allMany : Int64} {md_allTies : Int64} {md_faults : Int32} {md_least : Nat → Int32} {md_all : Nat → Int64} {md_best : Nat → Int64} {k9 : (Nat → Int32) → (Nat → Int64) → (Nat → Int64) → Int32 → Int32 → Int32 → Option ((Nat → Int32) × (Nat → Int64) × (Nat → Int64))} {x1 : Int32} {x2 : Int32} {x3 : Int32} {H : Heap} {locs : List Loc} {ls : Array Slot} (C : Cx p s m meth c args A D kc R_SpeciesSolverModel b_SpeciesSolverModel_fillLast 6 none) (hk9 : (∀ (md_least : Nat → Int32) (md_all : Nat → Int64) (md_best : Nat → Int64) (x1 : Int32) (x2 : Int32) (x3 : Int32) (H : Heap) (locs : List Loc) (ls : Array Slot), k9 md_least md_all md_best x1 x2 x3 = some r → St D A s (wd_SpeciesSolverModel_fillLast kc ad md_thrown md_drafted md_lines md_n md_species md_above md_trialSize md_foundSize md_foundSpecies md_foundN md_foundCost md_chosen md_low md_many md_ties md_winnerCost md_allMany md_allTies md_faults md_least md_all md_best) H locs → lv_has ls 6 [(0, .ref (ad 0)), (1, .int x1), (2, .int x2), (3, .int x3)] → W p l e rm_SpeciesSolverModel_fillLast s m args below meth c H locs 0 0 (MQ below (Qv D A (wd_SpeciesSolverModel_fillLast kc ad md_thrown md_drafted md_lines md_n md_species md_above md_trialSize md_foundSize md_foundSpecies md_foundN md_foundCost md_chosen md_low md_many md_ties md_winnerCost md_allMany md_allTies md_faults r.1 r.2.1 r.2.2)) args s 0 0 A) (F0 m 9 ls []))) (hm : m_SpeciesSolverModel_fillLast_31 F md_n md_species k9 md_least md_all md_best x1 x2 x3 = some r) (hZ : St D A s (wd_SpeciesSolverModel_fillLast kc ad md_thrown md_drafted md_lines md_n md_species md_above md_trialSize md_foundSize md_foundSpecies md_foundN md_foundCost md_chosen md_low md_many md_ties md_winnerCost md_allMany md_allTies md_faults md_least md_all md_best) H locs) (hl : lv_has ls 6 [(0, .ref (ad 0)), (1, .int x1), (2, .int x2), (3, .int x3)]) : W p l e rm_SpeciesSolverModel_fillLast s m args below meth c H locs 0 0 (MQ below (Qv D A (wd_SpeciesSolverModel_fillLast kc ad md_thrown md_drafted md_lines md_n md_species md_above md_trialSize md_foundSize md_foundSpecies md_foundN md_foundCost md_chosen md_low md_many md_ties md_winnerCost md_allMany md_allTies md_faults r.1 r.2.1 r.2.2)) args s 0 0 A) (F0 m 31 ls []) := by
  obtain ⟨hx, hb, hr, hts, hown, hml, hlocks, hK, hN, hA, hX⟩ := id C
  obtain ⟨hP, hD, hS⟩ := hZ
  unfold m_SpeciesSolverModel_fillLast_31 at hm
  refine lv_iconst (v := 1) hx hb d_SpeciesSolverModel_fillLast_31 (by decide) ?_
  refine lv_goto (tgt := 36) hx hb d_SpeciesSolverModel_fillLast_32 (by decide) ?_
  exact l_SpeciesSolverModel_fillLast_36 C hk9 hm ⟨hP, hD, hS⟩ (lv_sub hl [0, 1, 2, 3] rfl)
def m_SpeciesSolverModel_fillLast_9b (F : Nat) (md_n : Int32) (md_species : Int32) (k9 : (Nat → Int32) → (Nat → Int64) → (Nat → Int64) → Int32 → Int32 → Int32 → Option ((Nat → Int32) × (Nat → Int64) × (Nat → Int64))) (md_least : Nat → Int32) (md_all : Nat → Int64) (md_best : Nat → Int64) (x1 : Int32) (x2 : Int32) (x3 : Int32) : Option ((Nat → Int32) × (Nat → Int64) × (Nat → Int64)) :=
  (if (1280 : Int32) ≤ x3 then
    (some (md_least, md_all, md_best))
  else
    (if x1 < (0 : Int32) then
      m_SpeciesSolverModel_fillLast_31 F md_n md_species k9 md_least md_all md_best x1 x2 x3
    else
      (if (x3 - x3 / (2 : Int32) * (2 : Int32)) = (1 : Int32) then
        m_SpeciesSolverModel_fillLast_31 F md_n md_species k9 md_least md_all md_best x1 x2 x3
      else
        m_SpeciesSolverModel_fillLast_36 F md_n md_species k9 md_least md_all md_best x1 x2 x3 (0 : Int32))))
set_option maxHeartbeats 4000000 in
set_option maxRecDepth 100000 in
theorem l_SpeciesSolverModel_fillLast_9 {r : (Nat → Int32) × (Nat → Int64) × (Nat → Int64)} {F : Nat} {ad : Nat → Nat} {md_thrown : Int32} {md_drafted : Int32} {md_lines : Int32} {md_n : Int32} {md_species : Int32} {md_above : Int32} {md_trialSize : Int32} {md_foundSize : Int32} {md_foundSpecies : Int32} {md_foundN : Int32} {md_foundCost : Int32} {md_chosen : Int32} {md_low : Int32} {md_many : Int64} {md_ties : Int64} {md_winnerCost : Int32} {md_allMany : Int64} {md_allTies : Int64} {md_faults : Int32} {md_least : Nat → Int32} {md_all : Nat → Int64} {md_best : Nat → Int64} {k9 : (Nat → Int32) → (Nat → Int64) → (Nat → Int64) → Int32 → Int32 → Int32 → Option ((Nat → Int32) × (Nat → Int64) × (Nat → Int64))} {x1 : Int32} {x2 : Int32} {x3 : Int32} {H : Heap} {locs : List Loc} {ls : Array Slot} (C : Cx p s m meth c args A D kc R_SpeciesSolverModel b_SpeciesSolverModel_fillLast 6 none) (hk9 : (∀ (md_least : Nat → Int32) (md_all : Nat → Int64) (md_best : Nat → Int64) (x1 : Int32) (x2 : Int32) (x3 : Int32) (H : Heap) (locs : List Loc) (ls : Array Slot), k9 md_least md_all md_best x1 x2 x3 = some r → St D A s (wd_SpeciesSolverModel_fillLast kc ad md_thrown md_drafted md_lines md_n md_species md_above md_trialSize md_foundSize md_foundSpecies md_foundN md_foundCost md_chosen md_low md_many md_ties md_winnerCost md_allMany md_allTies md_faults md_least md_all md_best) H locs → lv_has ls 6 [(0, .ref (ad 0)), (1, .int x1), (2, .int x2), (3, .int x3)] → W p l e rm_SpeciesSolverModel_fillLast s m args below meth c H locs 0 0 (MQ below (Qv D A (wd_SpeciesSolverModel_fillLast kc ad md_thrown md_drafted md_lines md_n md_species md_above md_trialSize md_foundSize md_foundSpecies md_foundN md_foundCost md_chosen md_low md_many md_ties md_winnerCost md_allMany md_allTies md_faults r.1 r.2.1 r.2.2)) args s 0 0 A) (F0 m 9 ls []))) (hm : m_SpeciesSolverModel_fillLast_9b F md_n md_species k9 md_least md_all md_best x1 x2 x3 = some r) (hZ : St D A s (wd_SpeciesSolverModel_fillLast kc ad md_thrown md_drafted md_lines md_n md_species md_above md_trialSize md_foundSize md_foundSpecies md_foundN md_foundCost md_chosen md_low md_many md_ties md_winnerCost md_allMany md_allTies md_faults md_least md_all md_best) H locs) (hl : lv_has ls 6 [(0, .ref (ad 0)), (1, .int x1), (2, .int x2), (3, .int x3)]) : W p l e rm_SpeciesSolverModel_fillLast s m args below meth c H locs 0 0 (MQ below (Qv D A (wd_SpeciesSolverModel_fillLast kc ad md_thrown md_drafted md_lines md_n md_species md_above md_trialSize md_foundSize md_foundSpecies md_foundN md_foundCost md_chosen md_low md_many md_ties md_winnerCost md_allMany md_allTies md_faults r.1 r.2.1 r.2.2)) args s 0 0 A) (F0 m 9 ls []) := by
  obtain ⟨hx, hb, hr, hts, hown, hml, hlocks, hK, hN, hA, hX⟩ := id C
  obtain ⟨hP, hD, hS⟩ := hZ
  unfold m_SpeciesSolverModel_fillLast_9b at hm
  refine lv_iload_n hx hb d_SpeciesSolverModel_fillLast_9 rfl (lv_at hl 3 rfl) ?_
  refine lv_sipush (v := 1280) hx hb d_SpeciesSolverModel_fillLast_10 (by decide) ?_
  refine lv_icmp_ge (tgt := 115) hx hb d_SpeciesSolverModel_fillLast_13 (by decide) (fun c1 => ?_) (fun c1 => ?_)
  · replace hm := ifT hm c1
    replace hm := Option.some.inj hm; subst hm
    exact zret_v C hP hD hS d_SpeciesSolverModel_fillLast_115
  · replace hm := ifF hm c1
    refine lv_iload_n hx hb d_SpeciesSolverModel_fillLast_16 rfl (lv_at hl 3 rfl) ?_
    refine lv_iconst (v := 2) hx hb d_SpeciesSolverModel_fillLast_17 (by decide) ?_
    refine lv_irem hx hb d_SpeciesSolverModel_fillLast_18 (by decide) ?_
    refine lv_istore (lv' := [(4, .int (x3 - x3 / (2 : Int32) * (2 : Int32))), (0, .ref (ad 0)), (1, .int x1), (2, .int x2), (3, .int x3)]) hx hb d_SpeciesSolverModel_fillLast_19 hl (by decide) rfl (fun ls hl => ?_)
    refine lv_iload_n hx hb d_SpeciesSolverModel_fillLast_21 rfl (lv_at hl 2 rfl) ?_
    refine lv_if_lt (tgt := 31) hx hb d_SpeciesSolverModel_fillLast_22 (by decide) (fun c2 => ?_) (fun c2 => ?_)
    · replace hm := ifT hm c2
      exact l_SpeciesSolverModel_fillLast_31 C hk9 hm ⟨hP, hD, hS⟩ (lv_sub hl [1, 2, 3, 4] rfl)
    · replace hm := ifF hm c2
      refine lv_iload hx hb d_SpeciesSolverModel_fillLast_25 (lv_at hl 0 rfl) ?_
      refine lv_iconst (v := 1) hx hb d_SpeciesSolverModel_fillLast_27 (by decide) ?_
      refine lv_icmp_ne (tgt := 35) hx hb d_SpeciesSolverModel_fillLast_28 (by decide) (fun c3 => ?_) (fun c3 => ?_)
      · replace hm := ifF hm c3
        refine lv_iconst (v := 0) hx hb d_SpeciesSolverModel_fillLast_35 (by decide) ?_
        exact l_SpeciesSolverModel_fillLast_36 C hk9 hm ⟨hP, hD, hS⟩ (lv_sub hl [1, 2, 3, 4] rfl)
      · replace hm := ifT hm c3
        exact l_SpeciesSolverModel_fillLast_31 C hk9 hm ⟨hP, hD, hS⟩ (lv_sub hl [1, 2, 3, 4] rfl)
def m_SpeciesSolverModel_fillLast_9 (F : Nat) (md_n : Int32) (md_species : Int32)  : Nat → (Nat → Int32) → (Nat → Int64) → (Nat → Int64) → Int32 → Int32 → Int32 → Option ((Nat → Int32) × (Nat → Int64) × (Nat → Int64))
  | 0 => fun _ _ _ _ _ _ => none
  | n + 1 => m_SpeciesSolverModel_fillLast_9b F md_n md_species  (m_SpeciesSolverModel_fillLast_9 F md_n md_species  n)
set_option maxHeartbeats 4000000 in
set_option maxRecDepth 100000 in
theorem lp_SpeciesSolverModel_fillLast_9 {r : (Nat → Int32) × (Nat → Int64) × (Nat → Int64)} {F : Nat} {ad : Nat → Nat} {md_thrown : Int32} {md_drafted : Int32} {md_lines : Int32} {md_n : Int32} {md_species : Int32} {md_above : Int32} {md_trialSize : Int32} {md_foundSize : Int32} {md_foundSpecies : Int32} {md_foundN : Int32} {md_foundCost : Int32} {md_chosen : Int32} {md_low : Int32} {md_many : Int64} {md_ties : Int64} {md_winnerCost : Int32} {md_allMany : Int64} {md_allTies : Int64} {md_faults : Int32}  (C : Cx p s m meth c args A D kc R_SpeciesSolverModel b_SpeciesSolverModel_fillLast 6 none)  : ∀ (n : Nat) (md_least : Nat → Int32) (md_all : Nat → Int64) (md_best : Nat → Int64) (x1 : Int32) (x2 : Int32) (x3 : Int32) (H : Heap) (locs : List Loc) (ls : Array Slot), m_SpeciesSolverModel_fillLast_9 F md_n md_species  n md_least md_all md_best x1 x2 x3 = some r → St D A s (wd_SpeciesSolverModel_fillLast kc ad md_thrown md_drafted md_lines md_n md_species md_above md_trialSize md_foundSize md_foundSpecies md_foundN md_foundCost md_chosen md_low md_many md_ties md_winnerCost md_allMany md_allTies md_faults md_least md_all md_best) H locs → lv_has ls 6 [(0, .ref (ad 0)), (1, .int x1), (2, .int x2), (3, .int x3)] → W p l e rm_SpeciesSolverModel_fillLast s m args below meth c H locs 0 0 (MQ below (Qv D A (wd_SpeciesSolverModel_fillLast kc ad md_thrown md_drafted md_lines md_n md_species md_above md_trialSize md_foundSize md_foundSpecies md_foundN md_foundCost md_chosen md_low md_many md_ties md_winnerCost md_allMany md_allTies md_faults r.1 r.2.1 r.2.2)) args s 0 0 A) (F0 m 9 ls []) := by
  intro n
  induction n with
  | zero => intro md_least md_all md_best x1 x2 x3 H locs ls hm; cases hm
  | succ n ih => intro md_least md_all md_best x1 x2 x3 H locs ls hm hZ hl; exact l_SpeciesSolverModel_fillLast_9 C  ih hm hZ hl
def m_SpeciesSolverModel_fillLast (F : Nat) (md_n : Int32) (md_species : Int32) (md_least : Nat → Int32) (md_all : Nat → Int64) (md_best : Nat → Int64) (a1 : Int32) : Option ((Nat → Int32) × (Nat → Int64) × (Nat → Int64)) :=
  (bd (m_SpeciesSolverModel_size md_n md_species) (fun u1 => m_SpeciesSolverModel_fillLast_9 F md_n md_species  F md_least md_all md_best a1 (u1 - (1 : Int32)) (0 : Int32)))
set_option maxHeartbeats 4000000 in
set_option maxRecDepth 100000 in
theorem e_SpeciesSolverModel_fillLast {r : (Nat → Int32) × (Nat → Int64) × (Nat → Int64)} {F : Nat} {ad : Nat → Nat} {md_thrown : Int32} {md_drafted : Int32} {md_lines : Int32} {md_n : Int32} {md_species : Int32} {md_above : Int32} {md_trialSize : Int32} {md_foundSize : Int32} {md_foundSpecies : Int32} {md_foundN : Int32} {md_foundCost : Int32} {md_chosen : Int32} {md_low : Int32} {md_many : Int64} {md_ties : Int64} {md_winnerCost : Int32} {md_allMany : Int64} {md_allTies : Int64} {md_faults : Int32} {md_least : Nat → Int32} {md_all : Nat → Int64} {md_best : Nat → Int64} {a1 : Int32} {H : Heap} {locs : List Loc} {ls : Array Slot} (C : Cx p s m meth c args A D kc R_SpeciesSolverModel b_SpeciesSolverModel_fillLast 6 none) (hm : m_SpeciesSolverModel_fillLast F md_n md_species md_least md_all md_best a1 = some r) (hZ : St D A s (wd_SpeciesSolverModel_fillLast kc ad md_thrown md_drafted md_lines md_n md_species md_above md_trialSize md_foundSize md_foundSpecies md_foundN md_foundCost md_chosen md_low md_many md_ties md_winnerCost md_allMany md_allTies md_faults md_least md_all md_best) H locs) (hl : lv_has ls 6 [(0, .ref (ad 0)), (1, .int a1)]) : W p l e rm_SpeciesSolverModel_fillLast s m args below meth c H locs 0 0 (MQ below (Qv D A (wd_SpeciesSolverModel_fillLast kc ad md_thrown md_drafted md_lines md_n md_species md_above md_trialSize md_foundSize md_foundSpecies md_foundN md_foundCost md_chosen md_low md_many md_ties md_winnerCost md_allMany md_allTies md_faults r.1 r.2.1 r.2.2)) args s 0 0 A) (F0 m 0 ls []) := by
  obtain ⟨hx, hb, hr, hts, hown, hml, hlocks, hK, hN, hA, hX⟩ := id C
  obtain ⟨hP, hD, hS⟩ := hZ
  unfold m_SpeciesSolverModel_fillLast at hm
  refine lv_aload_n hx hb d_SpeciesSolverModel_fillLast_0 rfl (lv_at hl 0 rfl) ?_
  obtain ⟨u1, hc2, hm⟩ := bd_some hm
  refine zV_i (n := 0) (wr := [((ad 8), .inl (kc 0, 57600, .inl md_least)), ((ad 9), .inl (kc 2, 2560, .inr (.inl md_all))), ((ad 10), .inl (kc 2, 2560, .inr (.inl md_best)))]) (w1 := (wd_SpeciesSolverModel_size kc ad md_thrown md_drafted md_lines md_n md_species md_above md_trialSize md_foundSize md_foundSpecies md_foundN md_foundCost md_chosen md_low md_many md_ties md_winnerCost md_allMany md_allTies md_faults)) (ws1 := (wd_SpeciesSolverModel_fillLast kc ad md_thrown md_drafted md_lines md_n md_species md_above md_trialSize md_foundSize md_foundSpecies md_foundN md_foundCost md_chosen md_low md_many md_ties md_winnerCost md_allMany md_allTies md_faults md_least md_all md_best)) (As := []) (rest := []) (ci := 1) (q0 := 0) (y := y_SpeciesSolverModel_size) ⟨hx, hb, hml, hown, hts⟩ (fun sz => c_SpeciesSolverModel_size hc2 sz) gw_995 gw_992 gw_994 gw_79 gw_118 hd_SpeciesSolverModel_size ⟨Nat.le_of_ble_eq_true rfl, Nat.le_of_ble_eq_true rfl⟩ ⟨rfl, rfl⟩ ⟨Nat.zero_le _, Nat.zero_le _⟩ hK hN hP hD hS hA hX [0] [1, 2, 3] [3, 0, 1, 2] rfl rfl (by decide) (by decide) (by decide) rfl (by decide) rfl rfl rfl hl.1 rfl (Nat.le_of_ble_eq_true rfl) d_SpeciesSolverModel_fillLast_1 (fun H locs hP hD hS => ?_)
  refine lv_iconst (v := 1) hx hb d_SpeciesSolverModel_fillLast_4 (by decide) ?_
  refine lv_isub hx hb d_SpeciesSolverModel_fillLast_5 ?_
  refine lv_istore_n (lv' := [(2, .int (u1 - (1 : Int32))), (0, .ref (ad 0)), (1, .int a1)]) hx hb d_SpeciesSolverModel_fillLast_6 rfl hl (by decide) rfl (fun ls hl => ?_)
  refine lv_iconst (v := 0) hx hb d_SpeciesSolverModel_fillLast_7 (by decide) ?_
  refine lv_istore_n (lv' := [(3, .int (0 : Int32)), (2, .int (u1 - (1 : Int32))), (0, .ref (ad 0)), (1, .int a1)]) hx hb d_SpeciesSolverModel_fillLast_8 rfl hl (by decide) rfl (fun ls hl => ?_)
  exact lp_SpeciesSolverModel_fillLast_9 C  F md_least md_all md_best a1 (u1 - (1 : Int32)) (0 : Int32) _ _ _ hm ⟨hP, hD, hS⟩ (lv_sub hl [2, 3, 1, 0] rfl)
set_option maxHeartbeats 4000000 in
set_option maxRecDepth 100000 in
theorem c_SpeciesSolverModel_fillLast {l : Launch} {D : va_G} {kc : Nat → ClassId} {r : (Nat → Int32) × (Nat → Int64) × (Nat → Int64)} {F : Nat} {ad : Nat → Nat} {md_thrown : Int32} {md_drafted : Int32} {md_lines : Int32} {md_n : Int32} {md_species : Int32} {md_above : Int32} {md_trialSize : Int32} {md_foundSize : Int32} {md_foundSpecies : Int32} {md_foundN : Int32} {md_foundCost : Int32} {md_chosen : Int32} {md_low : Int32} {md_many : Int64} {md_ties : Int64} {md_winnerCost : Int32} {md_allMany : Int64} {md_allTies : Int64} {md_faults : Int32} {md_least : Nat → Int32} {md_all : Nat → Int64} {md_best : Nat → Int64} {a1 : Int32} (hm : m_SpeciesSolverModel_fillLast F md_n md_species md_least md_all md_best a1 = some r) (sz : Nat) : Cv l y_SpeciesSolverModel_fillLast ws_SpeciesSolverModel_fillLast rm_SpeciesSolverModel_fillLast D kc sz [.ref (ad 0), .int a1] (wd_SpeciesSolverModel_fillLast kc ad md_thrown md_drafted md_lines md_n md_species md_above md_trialSize md_foundSize md_foundSpecies md_foundN md_foundCost md_chosen md_low md_many md_ties md_winnerCost md_allMany md_allTies md_faults md_least md_all md_best) (wd_SpeciesSolverModel_fillLast kc ad md_thrown md_drafted md_lines md_n md_species md_above md_trialSize md_foundSize md_foundSpecies md_foundN md_foundCost md_chosen md_low md_many md_ties md_winnerCost md_allMany md_allTies md_faults r.1 r.2.1 r.2.2) :=
  Cz_of (Qf := fun A => (Qv D A (wd_SpeciesSolverModel_fillLast kc ad md_thrown md_drafted md_lines md_n md_species md_above md_trialSize md_foundSize md_foundSpecies md_foundN md_foundCost md_chosen md_low md_many md_ties md_winnerCost md_allMany md_allTies md_faults r.1 r.2.1 r.2.2))) (cc := b_SpeciesSolverModel_fillLast) (maxL := 6) (ret := none) (by decide) rfl rfl (fun C hZ hl => e_SpeciesSolverModel_fillLast C hm hZ hl)
end
