section
variable {p : Program} {l : Launch} {e : Env} {s : State} {m : MethodId} {args : Array Value} {below : List Frame} {meth : Method} {c : Code} {D : va_G} {kc : Nat → ClassId} {A : Nat → Prop}
abbrev b_SpeciesSolverModel_reach : ByteArray := prog_9_method_56_code
abbrev y_SpeciesSolverModel_reach : MethodName := ⟨"SpeciesSolverModel", "reach", "()I"⟩
theorem d_SpeciesSolverModel_reach_0 : decode b_SpeciesSolverModel_reach 0 = .ok (.aload_n 0, 1) := by decide +kernel
theorem d_SpeciesSolverModel_reach_1 : decode b_SpeciesSolverModel_reach 1 = .ok (.invokevirtual 231, 3) := by decide +kernel
theorem d_SpeciesSolverModel_reach_4 : decode b_SpeciesSolverModel_reach 4 = .ok (.ifCond .eq 5, 3) := by decide +kernel
theorem d_SpeciesSolverModel_reach_7 : decode b_SpeciesSolverModel_reach 7 = .ok (.iconst (-1), 1) := by decide +kernel
theorem d_SpeciesSolverModel_reach_8 : decode b_SpeciesSolverModel_reach 8 = .ok (.ireturn, 1) := by decide +kernel
theorem d_SpeciesSolverModel_reach_9 : decode b_SpeciesSolverModel_reach 9 = .ok (.iconst 0, 1) := by decide +kernel
theorem d_SpeciesSolverModel_reach_10 : decode b_SpeciesSolverModel_reach 10 = .ok (.istore_n 1, 1) := by decide +kernel
theorem d_SpeciesSolverModel_reach_11 : decode b_SpeciesSolverModel_reach 11 = .ok (.iconst 0, 1) := by decide +kernel
theorem d_SpeciesSolverModel_reach_12 : decode b_SpeciesSolverModel_reach 12 = .ok (.istore_n 2, 1) := by decide +kernel
theorem d_SpeciesSolverModel_reach_13 : decode b_SpeciesSolverModel_reach 13 = .ok (.iload_n 2, 1) := by decide +kernel
theorem d_SpeciesSolverModel_reach_14 : decode b_SpeciesSolverModel_reach 14 = .ok (.sipush 640, 3) := by decide +kernel
theorem d_SpeciesSolverModel_reach_17 : decode b_SpeciesSolverModel_reach 17 = .ok (.if_icmp .ge 16, 3) := by decide +kernel
theorem d_SpeciesSolverModel_reach_20 : decode b_SpeciesSolverModel_reach 20 = .ok (.aload_n 0, 1) := by decide +kernel
theorem d_SpeciesSolverModel_reach_21 : decode b_SpeciesSolverModel_reach 21 = .ok (.getfield 57, 3) := by decide +kernel
theorem d_SpeciesSolverModel_reach_24 : decode b_SpeciesSolverModel_reach 24 = .ok (.iload_n 2, 1) := by decide +kernel
theorem d_SpeciesSolverModel_reach_25 : decode b_SpeciesSolverModel_reach 25 = .ok (.iconst 0, 1) := by decide +kernel
theorem d_SpeciesSolverModel_reach_26 : decode b_SpeciesSolverModel_reach 26 = .ok (.bastore, 1) := by decide +kernel
theorem d_SpeciesSolverModel_reach_27 : decode b_SpeciesSolverModel_reach 27 = .ok (.iinc 2 1, 3) := by decide +kernel
theorem d_SpeciesSolverModel_reach_30 : decode b_SpeciesSolverModel_reach 30 = .ok (.goto (-17), 3) := by decide +kernel
theorem d_SpeciesSolverModel_reach_33 : decode b_SpeciesSolverModel_reach 33 = .ok (.iconst 0, 1) := by decide +kernel
theorem d_SpeciesSolverModel_reach_34 : decode b_SpeciesSolverModel_reach 34 = .ok (.istore_n 2, 1) := by decide +kernel
theorem d_SpeciesSolverModel_reach_35 : decode b_SpeciesSolverModel_reach 35 = .ok (.iload_n 2, 1) := by decide +kernel
theorem d_SpeciesSolverModel_reach_36 : decode b_SpeciesSolverModel_reach 36 = .ok (.aload_n 0, 1) := by decide +kernel
theorem d_SpeciesSolverModel_reach_37 : decode b_SpeciesSolverModel_reach 37 = .ok (.getfield 95, 3) := by decide +kernel
theorem d_SpeciesSolverModel_reach_40 : decode b_SpeciesSolverModel_reach 40 = .ok (.if_icmp .ge 32, 3) := by decide +kernel
theorem d_SpeciesSolverModel_reach_43 : decode b_SpeciesSolverModel_reach 43 = .ok (.aload_n 0, 1) := by decide +kernel
theorem d_SpeciesSolverModel_reach_44 : decode b_SpeciesSolverModel_reach 44 = .ok (.iload_n 2, 1) := by decide +kernel
theorem d_SpeciesSolverModel_reach_45 : decode b_SpeciesSolverModel_reach 45 = .ok (.invokevirtual 205, 3) := by decide +kernel
theorem d_SpeciesSolverModel_reach_48 : decode b_SpeciesSolverModel_reach 48 = .ok (.ifCond .eq 18, 3) := by decide +kernel
theorem d_SpeciesSolverModel_reach_51 : decode b_SpeciesSolverModel_reach 51 = .ok (.aload_n 0, 1) := by decide +kernel
theorem d_SpeciesSolverModel_reach_52 : decode b_SpeciesSolverModel_reach 52 = .ok (.getfield 57, 3) := by decide +kernel
theorem d_SpeciesSolverModel_reach_55 : decode b_SpeciesSolverModel_reach 55 = .ok (.aload_n 0, 1) := by decide +kernel
theorem d_SpeciesSolverModel_reach_56 : decode b_SpeciesSolverModel_reach 56 = .ok (.iload_n 2, 1) := by decide +kernel
theorem d_SpeciesSolverModel_reach_57 : decode b_SpeciesSolverModel_reach 57 = .ok (.iconst 0, 1) := by decide +kernel
theorem d_SpeciesSolverModel_reach_58 : decode b_SpeciesSolverModel_reach 58 = .ok (.iload_n 2, 1) := by decide +kernel
theorem d_SpeciesSolverModel_reach_59 : decode b_SpeciesSolverModel_reach 59 = .ok (.invokevirtual 248, 3) := by decide +kernel
theorem d_SpeciesSolverModel_reach_62 : decode b_SpeciesSolverModel_reach 62 = .ok (.iconst 1, 1) := by decide +kernel
theorem d_SpeciesSolverModel_reach_63 : decode b_SpeciesSolverModel_reach 63 = .ok (.bastore, 1) := by decide +kernel
theorem d_SpeciesSolverModel_reach_64 : decode b_SpeciesSolverModel_reach 64 = .ok (.iconst 1, 1) := by decide +kernel
theorem d_SpeciesSolverModel_reach_65 : decode b_SpeciesSolverModel_reach 65 = .ok (.istore_n 1, 1) := by decide +kernel
theorem d_SpeciesSolverModel_reach_66 : decode b_SpeciesSolverModel_reach 66 = .ok (.iinc 2 1, 3) := by decide +kernel
theorem d_SpeciesSolverModel_reach_69 : decode b_SpeciesSolverModel_reach 69 = .ok (.goto (-34), 3) := by decide +kernel
theorem d_SpeciesSolverModel_reach_72 : decode b_SpeciesSolverModel_reach 72 = .ok (.iload_n 1, 1) := by decide +kernel
theorem d_SpeciesSolverModel_reach_73 : decode b_SpeciesSolverModel_reach 73 = .ok (.ifCond .eq 7, 3) := by decide +kernel
theorem d_SpeciesSolverModel_reach_76 : decode b_SpeciesSolverModel_reach 76 = .ok (.iconst 1, 1) := by decide +kernel
theorem d_SpeciesSolverModel_reach_77 : decode b_SpeciesSolverModel_reach 77 = .ok (.goto 4, 3) := by decide +kernel
theorem d_SpeciesSolverModel_reach_80 : decode b_SpeciesSolverModel_reach 80 = .ok (.iconst 0, 1) := by decide +kernel
theorem d_SpeciesSolverModel_reach_81 : decode b_SpeciesSolverModel_reach 81 = .ok (.istore_n 2, 1) := by decide +kernel
theorem d_SpeciesSolverModel_reach_82 : decode b_SpeciesSolverModel_reach 82 = .ok (.iload_n 1, 1) := by decide +kernel
theorem d_SpeciesSolverModel_reach_83 : decode b_SpeciesSolverModel_reach 83 = .ok (.ifCond .eq 34, 3) := by decide +kernel
theorem d_SpeciesSolverModel_reach_86 : decode b_SpeciesSolverModel_reach 86 = .ok (.iload_n 2, 1) := by decide +kernel
theorem d_SpeciesSolverModel_reach_87 : decode b_SpeciesSolverModel_reach 87 = .ok (.aload_n 0, 1) := by decide +kernel
theorem d_SpeciesSolverModel_reach_88 : decode b_SpeciesSolverModel_reach 88 = .ok (.invokevirtual 130, 3) := by decide +kernel
theorem d_SpeciesSolverModel_reach_91 : decode b_SpeciesSolverModel_reach 91 = .ok (.if_icmp .ge 26, 3) := by decide +kernel
theorem d_SpeciesSolverModel_reach_94 : decode b_SpeciesSolverModel_reach 94 = .ok (.aload_n 0, 1) := by decide +kernel
theorem d_SpeciesSolverModel_reach_95 : decode b_SpeciesSolverModel_reach 95 = .ok (.iload_n 2, 1) := by decide +kernel
theorem d_SpeciesSolverModel_reach_96 : decode b_SpeciesSolverModel_reach 96 = .ok (.iconst 1, 1) := by decide +kernel
theorem d_SpeciesSolverModel_reach_97 : decode b_SpeciesSolverModel_reach 97 = .ok (.isub, 1) := by decide +kernel
theorem d_SpeciesSolverModel_reach_98 : decode b_SpeciesSolverModel_reach 98 = .ok (.invokevirtual 251, 3) := by decide +kernel
theorem d_SpeciesSolverModel_reach_101 : decode b_SpeciesSolverModel_reach 101 = .ok (.istore_n 1, 1) := by decide +kernel
theorem d_SpeciesSolverModel_reach_102 : decode b_SpeciesSolverModel_reach 102 = .ok (.iload_n 2, 1) := by decide +kernel
theorem d_SpeciesSolverModel_reach_103 : decode b_SpeciesSolverModel_reach 103 = .ok (.iload_n 1, 1) := by decide +kernel
theorem d_SpeciesSolverModel_reach_104 : decode b_SpeciesSolverModel_reach 104 = .ok (.ifCond .eq 7, 3) := by decide +kernel
theorem d_SpeciesSolverModel_reach_107 : decode b_SpeciesSolverModel_reach 107 = .ok (.iconst 1, 1) := by decide +kernel
theorem d_SpeciesSolverModel_reach_108 : decode b_SpeciesSolverModel_reach 108 = .ok (.goto 4, 3) := by decide +kernel
theorem d_SpeciesSolverModel_reach_111 : decode b_SpeciesSolverModel_reach 111 = .ok (.iconst 0, 1) := by decide +kernel
theorem d_SpeciesSolverModel_reach_112 : decode b_SpeciesSolverModel_reach 112 = .ok (.iadd, 1) := by decide +kernel
theorem d_SpeciesSolverModel_reach_113 : decode b_SpeciesSolverModel_reach 113 = .ok (.istore_n 2, 1) := by decide +kernel
theorem d_SpeciesSolverModel_reach_114 : decode b_SpeciesSolverModel_reach 114 = .ok (.goto (-32), 3) := by decide +kernel
theorem d_SpeciesSolverModel_reach_117 : decode b_SpeciesSolverModel_reach 117 = .ok (.iload_n 2, 1) := by decide +kernel
theorem d_SpeciesSolverModel_reach_118 : decode b_SpeciesSolverModel_reach 118 = .ok (.ireturn, 1) := by decide +kernel
abbrev wd_SpeciesSolverModel_reach (kc : Nat → ClassId) (ad : Nat → Nat) (md_thrown : Int32) (md_drafted : Int32) (md_lines : Int32) (md_n : Int32) (md_species : Int32) (md_above : Int32) (md_trialSize : Int32) (md_foundSize : Int32) (md_foundSpecies : Int32) (md_foundN : Int32) (md_foundCost : Int32) (md_chosen : Int32) (md_low : Int32) (md_many : Int64) (md_ties : Int64) (md_winnerCost : Int32) (md_allMany : Int64) (md_allTies : Int64) (md_faults : Int32) (md_given : Nat → Int32) (md_on : Nat → Int32) (md_numbers : Nat → Int32) (md_pitches : Nat → Int32) (md_reached : Nat → Int32) : va_W := [((ad 0), .inr (1, [.int md_thrown, .ref (ad 1), .int md_drafted, .ref (ad 2), .int md_lines, .int md_n, .int md_species, .int md_above, .ref (ad 3), .ref (ad 4), .ref (ad 5), .int md_trialSize, .ref (ad 6), .int md_foundSize, .int md_foundSpecies, .int md_foundN, .int md_foundCost, .ref (ad 7), .int md_chosen, .ref (ad 8), .ref (ad 9), .ref (ad 10), .int md_low, .long md_many, .long md_ties, .ref (ad 11), .ref (ad 12), .int md_winnerCost, .long md_allMany, .long md_allTies, .ref (ad 13), .ref (ad 14), .ref (ad 15), .ref (ad 16), .int md_faults])), ((ad 2), .inl (kc 0, 36, .inl md_given)), ((ad 3), .inl (kc 1, 11, .inl md_on)), ((ad 4), .inl (kc 0, 18, .inl md_numbers)), ((ad 7), .inl (kc 0, 8, .inl md_pitches)), ((ad 13), .inl (kc 1, 1280, .inl md_reached))]
abbrev rm_SpeciesSolverModel_reach : Room := { frames := 6, cells := 0, slots := 0, locals := 152 }
abbrev cw_SpeciesSolverModel_reach : Cond := .code y_SpeciesSolverModel_reach b_SpeciesSolverModel_reach 3 (some .int)
abbrev ws_SpeciesSolverModel_reach : List Cond := cw_SpeciesSolverModel_reach :: GW
theorem hd_SpeciesSolverModel_reach : y_SpeciesSolverModel_reach.cls ≠ "java/lang/invoke/MethodHandle" ∧ y_SpeciesSolverModel_reach.cls ≠ "java/lang/invoke/VarHandle" ∧ (parseMethodDescriptor y_SpeciesSolverModel_reach.desc).map (fun d => d.parameters.length) = some 0 := by decide +kernel
def m_SpeciesSolverModel_reach_112 (F : Nat) (md_lines : Int32) (md_n : Int32) (md_species : Int32) (md_above : Int32) (md_given : Nat → Int32) (md_on : Nat → Int32) (md_numbers : Nat → Int32) (k82 : Int32 → (Nat → Int32) → (Nat → Int32) → Int32 → Int32 → Option (Int32 × Int32 × (Nat → Int32) × (Nat → Int32))) (md_chosen : Int32) (md_pitches : Nat → Int32) (md_reached : Nat → Int32) (x1 : Int32) (t0 : Int32) (t1 : Int32) : Option (Int32 × Int32 × (Nat → Int32) × (Nat → Int32)) :=
  k82 md_chosen md_pitches md_reached x1 (t0 + t1)
set_option maxHeartbeats 4000000 in
set_option maxRecDepth 100000 in
theorem l_SpeciesSolverModel_reach_112 {r : Int32 × Int32 × (Nat → Int32) × (Nat → Int32)} {F : Nat} {ad : Nat → Nat} {md_thrown : Int32} {md_drafted : Int32} {md_lines : Int32} {md_n : Int32} {md_species : Int32} {md_above : Int32} {md_trialSize : Int32} {md_foundSize : Int32} {md_foundSpecies : Int32} {md_foundN : Int32} {md_foundCost : Int32} {md_chosen : Int32} {md_low : Int32} {md_many : Int64} {md_ties : Int64} {md_winnerCost : Int32} {md_allMany : Int64} {md_allTies : Int64} {md_faults : Int32} {md_given : Nat → Int32} {md_on : Nat → Int32} {md_numbers : Nat → Int32} {md_pitches : Nat → Int32} {md_reached : Nat → Int32} {k82 : Int32 → (Nat → Int32) → (Nat → Int32) → Int32 → Int32 → Option (Int32 × Int32 × (Nat → Int32) × (Nat → Int32))} {x1 : Int32} {t0 : Int32} {t1 : Int32} {H : Heap} {locs : List Loc} {ls : Array Slot} (C : Cx p s m meth c args A D kc R_SpeciesSolverModel b_SpeciesSolverModel_reach 3 (some .int)) (hk82 : (∀ (md_chosen : Int32) (md_pitches : Nat → Int32) (md_reached : Nat → Int32) (x1 : Int32) (x2 : Int32) (H : Heap) (locs : List Loc) (ls : Array Slot), k82 md_chosen md_pitches md_reached x1 x2 = some r → St D A s (wd_SpeciesSolverModel_reach kc ad md_thrown md_drafted md_lines md_n md_species md_above md_trialSize md_foundSize md_foundSpecies md_foundN md_foundCost md_chosen md_low md_many md_ties md_winnerCost md_allMany md_allTies md_faults md_given md_on md_numbers md_pitches md_reached) H locs → lv_has ls 3 [(0, .ref (ad 0)), (1, .int x1), (2, .int x2)] → W p l e rm_SpeciesSolverModel_reach s m args below meth c H locs 0 0 (MQ below (Qi D A (wd_SpeciesSolverModel_reach kc ad md_thrown md_drafted md_lines md_n md_species md_above md_trialSize md_foundSize md_foundSpecies md_foundN md_foundCost r.2.1 md_low md_many md_ties md_winnerCost md_allMany md_allTies md_faults md_given md_on md_numbers r.2.2.1 r.2.2.2) r.1) args s 0 0 A) (F0 m 82 ls []))) (hm : m_SpeciesSolverModel_reach_112 F md_lines md_n md_species md_above md_given md_on md_numbers k82 md_chosen md_pitches md_reached x1 t0 t1 = some r) (hZ : St D A s (wd_SpeciesSolverModel_reach kc ad md_thrown md_drafted md_lines md_n md_species md_above md_trialSize md_foundSize md_foundSpecies md_foundN md_foundCost md_chosen md_low md_many md_ties md_winnerCost md_allMany md_allTies md_faults md_given md_on md_numbers md_pitches md_reached) H locs) (hl : lv_has ls 3 [(0, .ref (ad 0)), (1, .int x1)]) : W p l e rm_SpeciesSolverModel_reach s m args below meth c H locs 0 0 (MQ below (Qi D A (wd_SpeciesSolverModel_reach kc ad md_thrown md_drafted md_lines md_n md_species md_above md_trialSize md_foundSize md_foundSpecies md_foundN md_foundCost r.2.1 md_low md_many md_ties md_winnerCost md_allMany md_allTies md_faults md_given md_on md_numbers r.2.2.1 r.2.2.2) r.1) args s 0 0 A) (F0 m 112 ls [.int t1, .int t0]) := by
  obtain ⟨hx, hb, hr, hts, hown, hml, hlocks, hK, hN, hA, hX⟩ := id C
  obtain ⟨hP, hD, hS⟩ := hZ
  unfold m_SpeciesSolverModel_reach_112 at hm
  refine lv_iadd hx hb d_SpeciesSolverModel_reach_112 ?_
  refine lv_istore_n (lv' := [(2, .int (t0 + t1)), (0, .ref (ad 0)), (1, .int x1)]) hx hb d_SpeciesSolverModel_reach_113 rfl hl (by decide) rfl (fun ls hl => ?_)
  refine lv_goto (tgt := 82) hx hb d_SpeciesSolverModel_reach_114 (by decide) ?_
  exact hk82 md_chosen md_pitches md_reached x1 (t0 + t1) _ _ _ hm ⟨hP, hD, hS⟩ (lv_sub hl [1, 2, 0] rfl)
def m_SpeciesSolverModel_reach_82b (F : Nat) (md_lines : Int32) (md_n : Int32) (md_species : Int32) (md_above : Int32) (md_given : Nat → Int32) (md_on : Nat → Int32) (md_numbers : Nat → Int32) (k82 : Int32 → (Nat → Int32) → (Nat → Int32) → Int32 → Int32 → Option (Int32 × Int32 × (Nat → Int32) × (Nat → Int32))) (md_chosen : Int32) (md_pitches : Nat → Int32) (md_reached : Nat → Int32) (x1 : Int32) (x2 : Int32) : Option (Int32 × Int32 × (Nat → Int32) × (Nat → Int32)) :=
  (if x1 = (0 : Int32) then
    (some (x2, md_chosen, md_pitches, md_reached))
  else
    (bd (m_SpeciesSolverModel_size md_n md_species) (fun u2 => (if u2 ≤ x2 then
      (some (x2, md_chosen, md_pitches, md_reached))
    else
      (bd (m_SpeciesSolverModel_goOn F md_lines md_n md_species md_above md_chosen md_given md_on md_numbers md_pitches md_reached (x2 - (1 : Int32))) (fun u5 => (if u5.1 = (0 : Int32) then
        m_SpeciesSolverModel_reach_112 F md_lines md_n md_species md_above md_given md_on md_numbers k82 md_chosen md_pitches u5.2 u5.1 x2 (0 : Int32)
      else
        m_SpeciesSolverModel_reach_112 F md_lines md_n md_species md_above md_given md_on md_numbers k82 md_chosen md_pitches u5.2 u5.1 x2 (1 : Int32))))))))
set_option maxHeartbeats 4000000 in
set_option maxRecDepth 100000 in
theorem l_SpeciesSolverModel_reach_82 {r : Int32 × Int32 × (Nat → Int32) × (Nat → Int32)} {F : Nat} {ad : Nat → Nat} {md_thrown : Int32} {md_drafted : Int32} {md_lines : Int32} {md_n : Int32} {md_species : Int32} {md_above : Int32} {md_trialSize : Int32} {md_foundSize : Int32} {md_foundSpecies : Int32} {md_foundN : Int32} {md_foundCost : Int32} {md_chosen : Int32} {md_low : Int32} {md_many : Int64} {md_ties : Int64} {md_winnerCost : Int32} {md_allMany : Int64} {md_allTies : Int64} {md_faults : Int32} {md_given : Nat → Int32} {md_on : Nat → Int32} {md_numbers : Nat → Int32} {md_pitches : Nat → Int32} {md_reached : Nat → Int32} {k82 : Int32 → (Nat → Int32) → (Nat → Int32) → Int32 → Int32 → Option (Int32 × Int32 × (Nat → Int32) × (Nat → Int32))} {x1 : Int32} {x2 : Int32} {H : Heap} {locs : List Loc} {ls : Array Slot} (C : Cx p s m meth c args A D kc R_SpeciesSolverModel b_SpeciesSolverModel_reach 3 (some .int)) (hk82 : (∀ (md_chosen : Int32) (md_pitches : Nat → Int32) (md_reached : Nat → Int32) (x1 : Int32) (x2 : Int32) (H : Heap) (locs : List Loc) (ls : Array Slot), k82 md_chosen md_pitches md_reached x1 x2 = some r → St D A s (wd_SpeciesSolverModel_reach kc ad md_thrown md_drafted md_lines md_n md_species md_above md_trialSize md_foundSize md_foundSpecies md_foundN md_foundCost md_chosen md_low md_many md_ties md_winnerCost md_allMany md_allTies md_faults md_given md_on md_numbers md_pitches md_reached) H locs → lv_has ls 3 [(0, .ref (ad 0)), (1, .int x1), (2, .int x2)] → W p l e rm_SpeciesSolverModel_reach s m args below meth c H locs 0 0 (MQ below (Qi D A (wd_SpeciesSolverModel_reach kc ad md_thrown md_drafted md_lines md_n md_species md_above md_trialSize md_foundSize md_foundSpecies md_foundN md_foundCost r.2.1 md_low md_many md_ties md_winnerCost md_allMany md_allTies md_faults md_given md_on md_numbers r.2.2.1 r.2.2.2) r.1) args s 0 0 A) (F0 m 82 ls []))) (hm : m_SpeciesSolverModel_reach_82b F md_lines md_n md_species md_above md_given md_on md_numbers k82 md_chosen md_pitches md_reached x1 x2 = some r) (hZ : St D A s (wd_SpeciesSolverModel_reach kc ad md_thrown md_drafted md_lines md_n md_species md_above md_trialSize md_foundSize md_foundSpecies md_foundN md_foundCost md_chosen md_low md_many md_ties md_winnerCost md_allMany md_allTies md_faults md_given md_on md_numbers md_pitches md_reached) H locs) (hl : lv_has ls 3 [(0, .ref (ad 0)), (1, .int x1), (2, .int x2)]) : W p l e rm_SpeciesSolverModel_reach s m args below meth c H locs 0 0 (MQ below (Qi D A (wd_SpeciesSolverModel_reach kc ad md_thrown md_drafted md_lines md_n md_species md_above md_trialSize md_foundSize md_foundSpecies md_foundN md_foundCost r.2.1 md_low md_many md_ties md_winnerCost md_allMany md_allTies md_faults md_given md_on md_numbers r.2.2.1 r.2.2.2) r.1) args s 0 0 A) (F0 m 82 ls []) := by
  obtain ⟨hx, hb, hr, hts, hown, hml, hlocks, hK, hN, hA, hX⟩ := id C
  obtain ⟨hP, hD, hS⟩ := hZ
  unfold m_SpeciesSolverModel_reach_82b at hm
  refine lv_iload_n hx hb d_SpeciesSolverModel_reach_82 rfl (lv_at hl 1 rfl) ?_
  refine lv_if_eq (tgt := 117) hx hb d_SpeciesSolverModel_reach_83 (by decide) (fun c1 => ?_) (fun c1 => ?_)
  · replace hm := ifT hm c1
    refine lv_iload_n hx hb d_SpeciesSolverModel_reach_117 rfl (lv_at hl 2 rfl) ?_
    replace hm := Option.some.inj hm; subst hm
    exact zret_i C hP hD hS d_SpeciesSolverModel_reach_118
  · replace hm := ifF hm c1
    refine lv_iload_n hx hb d_SpeciesSolverModel_reach_86 rfl (lv_at hl 2 rfl) ?_
    refine lv_aload_n hx hb d_SpeciesSolverModel_reach_87 rfl (lv_at hl 0 rfl) ?_
    obtain ⟨u2, hc3, hm⟩ := bd_some hm
    refine zV_i (n := 0) (wr := [((ad 2), .inl (kc 0, 36, .inl md_given)), ((ad 3), .inl (kc 1, 11, .inl md_on)), ((ad 4), .inl (kc 0, 18, .inl md_numbers)), ((ad 7), .inl (kc 0, 8, .inl md_pitches)), ((ad 13), .inl (kc 1, 1280, .inl md_reached))]) (w1 := (wd_SpeciesSolverModel_size kc ad md_thrown md_drafted md_lines md_n md_species md_above md_trialSize md_foundSize md_foundSpecies md_foundN md_foundCost md_chosen md_low md_many md_ties md_winnerCost md_allMany md_allTies md_faults)) (ws1 := (wd_SpeciesSolverModel_reach kc ad md_thrown md_drafted md_lines md_n md_species md_above md_trialSize md_foundSize md_foundSpecies md_foundN md_foundCost md_chosen md_low md_many md_ties md_winnerCost md_allMany md_allTies md_faults md_given md_on md_numbers md_pitches md_reached)) (As := []) (rest := [.int x2]) (ci := 1) (q0 := 0) (y := y_SpeciesSolverModel_size) ⟨hx, hb, hml, hown, hts⟩ (fun sz => c_SpeciesSolverModel_size hc3 sz) gw_995 gw_992 gw_994 gw_79 gw_118 hd_SpeciesSolverModel_size ⟨Nat.le_of_ble_eq_true rfl, Nat.le_of_ble_eq_true rfl⟩ ⟨rfl, rfl⟩ ⟨Nat.zero_le _, Nat.zero_le _⟩ hK hN hP hD hS hA hX [0] [1, 2, 3, 4, 5] [5, 0, 1, 2, 3, 4] rfl rfl (by decide) (by decide) (by decide) rfl (by decide) rfl rfl rfl hl.1 rfl (Nat.le_of_ble_eq_true rfl) d_SpeciesSolverModel_reach_88 (fun H locs hP hD hS => ?_)
    refine lv_icmp_ge (tgt := 117) hx hb d_SpeciesSolverModel_reach_91 (by decide) (fun c4 => ?_) (fun c4 => ?_)
    · replace hm := ifT hm c4
      refine lv_iload_n hx hb d_SpeciesSolverModel_reach_117 rfl (lv_at hl 2 rfl) ?_
      replace hm := Option.some.inj hm; subst hm
      exact zret_i C hP hD hS d_SpeciesSolverModel_reach_118
    · replace hm := ifF hm c4
      refine lv_aload_n hx hb d_SpeciesSolverModel_reach_94 rfl (lv_at hl 0 rfl) ?_
      refine lv_iload_n hx hb d_SpeciesSolverModel_reach_95 rfl (lv_at hl 2 rfl) ?_
      refine lv_iconst (v := 1) hx hb d_SpeciesSolverModel_reach_96 (by decide) ?_
      refine lv_isub hx hb d_SpeciesSolverModel_reach_97 ?_
      obtain ⟨u5, hc6, hm⟩ := bd_some hm
      refine zV_i (n := 1) (wr := []) (w1 := (wd_SpeciesSolverModel_goOn kc ad md_thrown md_drafted md_lines md_n md_species md_above md_trialSize md_foundSize md_foundSpecies md_foundN md_foundCost md_chosen md_low md_many md_ties md_winnerCost md_allMany md_allTies md_faults md_given md_on md_numbers md_pitches u5.2)) (ws1 := (wd_SpeciesSolverModel_reach kc ad md_thrown md_drafted md_lines md_n md_species md_above md_trialSize md_foundSize md_foundSpecies md_foundN md_foundCost md_chosen md_low md_many md_ties md_winnerCost md_allMany md_allTies md_faults md_given md_on md_numbers md_pitches u5.2)) (As := [.int (x2 - (1 : Int32))]) (rest := []) (ci := 1) (q0 := 0) (y := y_SpeciesSolverModel_goOn) ⟨hx, hb, hml, hown, hts⟩ (fun sz => c_SpeciesSolverModel_goOn hc6 sz) gw_1134 gw_1131 gw_1133 gw_104 gw_118 hd_SpeciesSolverModel_goOn ⟨Nat.le_of_ble_eq_true rfl, Nat.le_of_ble_eq_true rfl⟩ ⟨rfl, rfl⟩ ⟨Nat.zero_le _, Nat.zero_le _⟩ hK hN hP hD hS hA hX [0, 1, 2, 3, 4, 5] [] [0, 1, 2, 3, 4, 5] rfl rfl (by decide) (by decide) (by decide) rfl (by decide) rfl rfl rfl hl.1 rfl (Nat.le_of_ble_eq_true rfl) d_SpeciesSolverModel_reach_98 (fun H locs hP hD hS => ?_)
      refine lv_istore_n (lv' := [(1, .int u5.1), (0, .ref (ad 0)), (2, .int x2)]) hx hb d_SpeciesSolverModel_reach_101 rfl hl (by decide) rfl (fun ls hl => ?_)
      refine lv_iload_n hx hb d_SpeciesSolverModel_reach_102 rfl (lv_at hl 2 rfl) ?_
      refine lv_iload_n hx hb d_SpeciesSolverModel_reach_103 rfl (lv_at hl 0 rfl) ?_
      refine lv_if_eq (tgt := 111) hx hb d_SpeciesSolverModel_reach_104 (by decide) (fun c7 => ?_) (fun c7 => ?_)
      · replace hm := ifT hm c7
        refine lv_iconst (v := 0) hx hb d_SpeciesSolverModel_reach_111 (by decide) ?_
        exact l_SpeciesSolverModel_reach_112 C hk82 hm ⟨hP, hD, hS⟩ (lv_sub hl [1, 0] rfl)
      · replace hm := ifF hm c7
        refine lv_iconst (v := 1) hx hb d_SpeciesSolverModel_reach_107 (by decide) ?_
        refine lv_goto (tgt := 112) hx hb d_SpeciesSolverModel_reach_108 (by decide) ?_
        exact l_SpeciesSolverModel_reach_112 C hk82 hm ⟨hP, hD, hS⟩ (lv_sub hl [1, 0] rfl)
def m_SpeciesSolverModel_reach_82 (F : Nat) (md_lines : Int32) (md_n : Int32) (md_species : Int32) (md_above : Int32) (md_given : Nat → Int32) (md_on : Nat → Int32) (md_numbers : Nat → Int32)  : Nat → Int32 → (Nat → Int32) → (Nat → Int32) → Int32 → Int32 → Option (Int32 × Int32 × (Nat → Int32) × (Nat → Int32))
  | 0 => fun _ _ _ _ _ => none
  | n + 1 => m_SpeciesSolverModel_reach_82b F md_lines md_n md_species md_above md_given md_on md_numbers  (m_SpeciesSolverModel_reach_82 F md_lines md_n md_species md_above md_given md_on md_numbers  n)
set_option maxHeartbeats 4000000 in
set_option maxRecDepth 100000 in
theorem lp_SpeciesSolverModel_reach_82 {r : Int32 × Int32 × (Nat → Int32) × (Nat → Int32)} {F : Nat} {ad : Nat → Nat} {md_thrown : Int32} {md_drafted : Int32} {md_lines : Int32} {md_n : Int32} {md_species : Int32} {md_above : Int32} {md_trialSize : Int32} {md_foundSize : Int32} {md_foundSpecies : Int32} {md_foundN : Int32} {md_foundCost : Int32} {md_low : Int32} {md_many : Int64} {md_ties : Int64} {md_winnerCost : Int32} {md_allMany : Int64} {md_allTies : Int64} {md_faults : Int32} {md_given : Nat → Int32} {md_on : Nat → Int32} {md_numbers : Nat → Int32}  (C : Cx p s m meth c args A D kc R_SpeciesSolverModel b_SpeciesSolverModel_reach 3 (some .int))  : ∀ (n : Nat) (md_chosen : Int32) (md_pitches : Nat → Int32) (md_reached : Nat → Int32) (x1 : Int32) (x2 : Int32) (H : Heap) (locs : List Loc) (ls : Array Slot), m_SpeciesSolverModel_reach_82 F md_lines md_n md_species md_above md_given md_on md_numbers  n md_chosen md_pitches md_reached x1 x2 = some r → St D A s (wd_SpeciesSolverModel_reach kc ad md_thrown md_drafted md_lines md_n md_species md_above md_trialSize md_foundSize md_foundSpecies md_foundN md_foundCost md_chosen md_low md_many md_ties md_winnerCost md_allMany md_allTies md_faults md_given md_on md_numbers md_pitches md_reached) H locs → lv_has ls 3 [(0, .ref (ad 0)), (1, .int x1), (2, .int x2)] → W p l e rm_SpeciesSolverModel_reach s m args below meth c H locs 0 0 (MQ below (Qi D A (wd_SpeciesSolverModel_reach kc ad md_thrown md_drafted md_lines md_n md_species md_above md_trialSize md_foundSize md_foundSpecies md_foundN md_foundCost r.2.1 md_low md_many md_ties md_winnerCost md_allMany md_allTies md_faults md_given md_on md_numbers r.2.2.1 r.2.2.2) r.1) args s 0 0 A) (F0 m 82 ls []) := by
  intro n
  induction n with
  | zero => intro md_chosen md_pitches md_reached x1 x2 H locs ls hm; cases hm
  | succ n ih => intro md_chosen md_pitches md_reached x1 x2 H locs ls hm hZ hl; exact l_SpeciesSolverModel_reach_82 C  ih hm hZ hl
def m_SpeciesSolverModel_reach_81 (F : Nat) (md_lines : Int32) (md_n : Int32) (md_species : Int32) (md_above : Int32) (md_given : Nat → Int32) (md_on : Nat → Int32) (md_numbers : Nat → Int32)  (md_chosen : Int32) (md_pitches : Nat → Int32) (md_reached : Nat → Int32) (x1 : Int32) (t0 : Int32) : Option (Int32 × Int32 × (Nat → Int32) × (Nat → Int32)) :=
  m_SpeciesSolverModel_reach_82 F md_lines md_n md_species md_above md_given md_on md_numbers  F md_chosen md_pitches md_reached x1 t0
set_option maxHeartbeats 4000000 in
set_option maxRecDepth 100000 in
theorem l_SpeciesSolverModel_reach_81 {r : Int32 × Int32 × (Nat → Int32) × (Nat → Int32)} {F : Nat} {ad : Nat → Nat} {md_thrown : Int32} {md_drafted : Int32} {md_lines : Int32} {md_n : Int32} {md_species : Int32} {md_above : Int32} {md_trialSize : Int32} {md_foundSize : Int32} {md_foundSpecies : Int32} {md_foundN : Int32} {md_foundCost : Int32} {md_chosen : Int32} {md_low : Int32} {md_many : Int64} {md_ties : Int64} {md_winnerCost : Int32} {md_allMany : Int64} {md_allTies : Int64} {md_faults : Int32} {md_given : Nat → Int32} {md_on : Nat → Int32} {md_numbers : Nat → Int32} {md_pitches : Nat → Int32} {md_reached : Nat → Int32}  {x1 : Int32} {t0 : Int32} {H : Heap} {locs : List Loc} {ls : Array Slot} (C : Cx p s m meth c args A D kc R_SpeciesSolverModel b_SpeciesSolverModel_reach 3 (some .int))  (hm : m_SpeciesSolverModel_reach_81 F md_lines md_n md_species md_above md_given md_on md_numbers  md_chosen md_pitches md_reached x1 t0 = some r) (hZ : St D A s (wd_SpeciesSolverModel_reach kc ad md_thrown md_drafted md_lines md_n md_species md_above md_trialSize md_foundSize md_foundSpecies md_foundN md_foundCost md_chosen md_low md_many md_ties md_winnerCost md_allMany md_allTies md_faults md_given md_on md_numbers md_pitches md_reached) H locs) (hl : lv_has ls 3 [(0, .ref (ad 0)), (1, .int x1)]) : W p l e rm_SpeciesSolverModel_reach s m args below meth c H locs 0 0 (MQ below (Qi D A (wd_SpeciesSolverModel_reach kc ad md_thrown md_drafted md_lines md_n md_species md_above md_trialSize md_foundSize md_foundSpecies md_foundN md_foundCost r.2.1 md_low md_many md_ties md_winnerCost md_allMany md_allTies md_faults md_given md_on md_numbers r.2.2.1 r.2.2.2) r.1) args s 0 0 A) (F0 m 81 ls [.int t0]) := by
  obtain ⟨hx, hb, hr, hts, hown, hml, hlocks, hK, hN, hA, hX⟩ := id C
  obtain ⟨hP, hD, hS⟩ := hZ
  unfold m_SpeciesSolverModel_reach_81 at hm
  refine lv_istore_n (lv' := [(2, .int t0), (0, .ref (ad 0)), (1, .int x1)]) hx hb d_SpeciesSolverModel_reach_81 rfl hl (by decide) rfl (fun ls hl => ?_)
  exact lp_SpeciesSolverModel_reach_82 C  F md_chosen md_pitches md_reached x1 t0 _ _ _ hm ⟨hP, hD, hS⟩ (lv_sub hl [1, 2, 0] rfl)
def m_SpeciesSolverModel_reach_66 (F : Nat) (md_lines : Int32) (md_n : Int32) (md_species : Int32) (md_above : Int32) (md_given : Nat → Int32) (md_on : Nat → Int32) (md_numbers : Nat → Int32) (k35 : Int32 → (Nat → Int32) → (Nat → Int32) → Int32 → Int32 → Option (Int32 × Int32 × (Nat → Int32) × (Nat → Int32))) (md_chosen : Int32) (md_pitches : Nat → Int32) (md_reached : Nat → Int32) (x1 : Int32) (x2 : Int32) : Option (Int32 × Int32 × (Nat → Int32) × (Nat → Int32)) :=
  k35 md_chosen md_pitches md_reached x1 (x2 + 1)
set_option maxHeartbeats 4000000 in
set_option maxRecDepth 100000 in
theorem l_SpeciesSolverModel_reach_66 {r : Int32 × Int32 × (Nat → Int32) × (Nat → Int32)} {F : Nat} {ad : Nat → Nat} {md_thrown : Int32} {md_drafted : Int32} {md_lines : Int32} {md_n : Int32} {md_species : Int32} {md_above : Int32} {md_trialSize : Int32} {md_foundSize : Int32} {md_foundSpecies : Int32} {md_foundN : Int32} {md_foundCost : Int32} {md_chosen : Int32} {md_low : Int32} {md_many : Int64} {md_ties : Int64} {md_winnerCost : Int32} {md_allMany : Int64} {md_allTies : Int64} {md_faults : Int32} {md_given : Nat → Int32} {md_on : Nat → Int32} {md_numbers : Nat → Int32} {md_pitches : Nat → Int32} {md_reached : Nat → Int32} {k35 : Int32 → (Nat → Int32) → (Nat → Int32) → Int32 → Int32 → Option (Int32 × Int32 × (Nat → Int32) × (Nat → Int32))} {x1 : Int32} {x2 : Int32} {H : Heap} {locs : List Loc} {ls : Array Slot} (C : Cx p s m meth c args A D kc R_SpeciesSolverModel b_SpeciesSolverModel_reach 3 (some .int)) (hk35 : (∀ (md_chosen : Int32) (md_pitches : Nat → Int32) (md_reached : Nat → Int32) (x1 : Int32) (x2 : Int32) (H : Heap) (locs : List Loc) (ls : Array Slot), k35 md_chosen md_pitches md_reached x1 x2 = some r → St D A s (wd_SpeciesSolverModel_reach kc ad md_thrown md_drafted md_lines md_n md_species md_above md_trialSize md_foundSize md_foundSpecies md_foundN md_foundCost md_chosen md_low md_many md_ties md_winnerCost md_allMany md_allTies md_faults md_given md_on md_numbers md_pitches md_reached) H locs → lv_has ls 3 [(0, .ref (ad 0)), (1, .int x1), (2, .int x2)] → W p l e rm_SpeciesSolverModel_reach s m args below meth c H locs 0 0 (MQ below (Qi D A (wd_SpeciesSolverModel_reach kc ad md_thrown md_drafted md_lines md_n md_species md_above md_trialSize md_foundSize md_foundSpecies md_foundN md_foundCost r.2.1 md_low md_many md_ties md_winnerCost md_allMany md_allTies md_faults md_given md_on md_numbers r.2.2.1 r.2.2.2) r.1) args s 0 0 A) (F0 m 35 ls []))) (hm : m_SpeciesSolverModel_reach_66 F md_lines md_n md_species md_above md_given md_on md_numbers k35 md_chosen md_pitches md_reached x1 x2 = some r) (hZ : St D A s (wd_SpeciesSolverModel_reach kc ad md_thrown md_drafted md_lines md_n md_species md_above md_trialSize md_foundSize md_foundSpecies md_foundN md_foundCost md_chosen md_low md_many md_ties md_winnerCost md_allMany md_allTies md_faults md_given md_on md_numbers md_pitches md_reached) H locs) (hl : lv_has ls 3 [(0, .ref (ad 0)), (1, .int x1), (2, .int x2)]) : W p l e rm_SpeciesSolverModel_reach s m args below meth c H locs 0 0 (MQ below (Qi D A (wd_SpeciesSolverModel_reach kc ad md_thrown md_drafted md_lines md_n md_species md_above md_trialSize md_foundSize md_foundSpecies md_foundN md_foundCost r.2.1 md_low md_many md_ties md_winnerCost md_allMany md_allTies md_faults md_given md_on md_numbers r.2.2.1 r.2.2.2) r.1) args s 0 0 A) (F0 m 66 ls []) := by
  obtain ⟨hx, hb, hr, hts, hown, hml, hlocks, hK, hN, hA, hX⟩ := id C
  obtain ⟨hP, hD, hS⟩ := hZ
  unfold m_SpeciesSolverModel_reach_66 at hm
  refine lv_iinc (v := (x2 + 1)) (lv' := [(2, .int (x2 + 1)), (0, .ref (ad 0)), (1, .int x1)]) hx hb d_SpeciesSolverModel_reach_66 hl (k := 2) rfl rfl (by decide) rfl (fun ls hl => ?_)
  refine lv_goto (tgt := 35) hx hb d_SpeciesSolverModel_reach_69 (by decide) ?_
  exact hk35 md_chosen md_pitches md_reached x1 (x2 + 1) _ _ _ hm ⟨hP, hD, hS⟩ (lv_sub hl [1, 2, 0] rfl)
def m_SpeciesSolverModel_reach_35b (F : Nat) (md_lines : Int32) (md_n : Int32) (md_species : Int32) (md_above : Int32) (md_given : Nat → Int32) (md_on : Nat → Int32) (md_numbers : Nat → Int32) (k35 : Int32 → (Nat → Int32) → (Nat → Int32) → Int32 → Int32 → Option (Int32 × Int32 × (Nat → Int32) × (Nat → Int32))) (md_chosen : Int32) (md_pitches : Nat → Int32) (md_reached : Nat → Int32) (x1 : Int32) (x2 : Int32) : Option (Int32 × Int32 × (Nat → Int32) × (Nat → Int32)) :=
  (if md_chosen ≤ x2 then
    (if x1 = (0 : Int32) then
      m_SpeciesSolverModel_reach_81 F md_lines md_n md_species md_above md_given md_on md_numbers  md_chosen md_pitches md_reached x1 (0 : Int32)
    else
      m_SpeciesSolverModel_reach_81 F md_lines md_n md_species md_above md_given md_on md_numbers  md_chosen md_pitches md_reached x1 (1 : Int32))
  else
    (bd (m_SpeciesSolverModel_mayBegin F md_lines md_species md_above md_given md_on md_numbers md_pitches x2) (fun u3 => (if u3 = (0 : Int32) then
      m_SpeciesSolverModel_reach_66 F md_lines md_n md_species md_above md_given md_on md_numbers k35 md_chosen md_pitches md_reached x1 x2
    else
      (bd (m_SpeciesSolverModel_halfState x2 (0 : Int32) x2) (fun u6 => (gd u6 1280 (m_SpeciesSolverModel_reach_66 F md_lines md_n md_species md_above md_given md_on md_numbers k35 md_chosen md_pitches (upd md_reached (Int32.toNatClampNeg u6) (vp_nar .boolean (1 : Int32))) (1 : Int32) x2))))))))
set_option maxHeartbeats 4000000 in
set_option maxRecDepth 100000 in
theorem l_SpeciesSolverModel_reach_35 {r : Int32 × Int32 × (Nat → Int32) × (Nat → Int32)} {F : Nat} {ad : Nat → Nat} {md_thrown : Int32} {md_drafted : Int32} {md_lines : Int32} {md_n : Int32} {md_species : Int32} {md_above : Int32} {md_trialSize : Int32} {md_foundSize : Int32} {md_foundSpecies : Int32} {md_foundN : Int32} {md_foundCost : Int32} {md_chosen : Int32} {md_low : Int32} {md_many : Int64} {md_ties : Int64} {md_winnerCost : Int32} {md_allMany : Int64} {md_allTies : Int64} {md_faults : Int32} {md_given : Nat → Int32} {md_on : Nat → Int32} {md_numbers : Nat → Int32} {md_pitches : Nat → Int32} {md_reached : Nat → Int32} {k35 : Int32 → (Nat → Int32) → (Nat → Int32) → Int32 → Int32 → Option (Int32 × Int32 × (Nat → Int32) × (Nat → Int32))} {x1 : Int32} {x2 : Int32} {H : Heap} {locs : List Loc} {ls : Array Slot} (C : Cx p s m meth c args A D kc R_SpeciesSolverModel b_SpeciesSolverModel_reach 3 (some .int)) (hk35 : (∀ (md_chosen : Int32) (md_pitches : Nat → Int32) (md_reached : Nat → Int32) (x1 : Int32) (x2 : Int32) (H : Heap) (locs : List Loc) (ls : Array Slot), k35 md_chosen md_pitches md_reached x1 x2 = some r → St D A s (wd_SpeciesSolverModel_reach kc ad md_thrown md_drafted md_lines md_n md_species md_above md_trialSize md_foundSize md_foundSpecies md_foundN md_foundCost md_chosen md_low md_many md_ties md_winnerCost md_allMany md_allTies md_faults md_given md_on md_numbers md_pitches md_reached) H locs → lv_has ls 3 [(0, .ref (ad 0)), (1, .int x1), (2, .int x2)] → W p l e rm_SpeciesSolverModel_reach s m args below meth c H locs 0 0 (MQ below (Qi D A (wd_SpeciesSolverModel_reach kc ad md_thrown md_drafted md_lines md_n md_species md_above md_trialSize md_foundSize md_foundSpecies md_foundN md_foundCost r.2.1 md_low md_many md_ties md_winnerCost md_allMany md_allTies md_faults md_given md_on md_numbers r.2.2.1 r.2.2.2) r.1) args s 0 0 A) (F0 m 35 ls []))) (hm : m_SpeciesSolverModel_reach_35b F md_lines md_n md_species md_above md_given md_on md_numbers k35 md_chosen md_pitches md_reached x1 x2 = some r) (hZ : St D A s (wd_SpeciesSolverModel_reach kc ad md_thrown md_drafted md_lines md_n md_species md_above md_trialSize md_foundSize md_foundSpecies md_foundN md_foundCost md_chosen md_low md_many md_ties md_winnerCost md_allMany md_allTies md_faults md_given md_on md_numbers md_pitches md_reached) H locs) (hl : lv_has ls 3 [(0, .ref (ad 0)), (1, .int x1), (2, .int x2)]) : W p l e rm_SpeciesSolverModel_reach s m args below meth c H locs 0 0 (MQ below (Qi D A (wd_SpeciesSolverModel_reach kc ad md_thrown md_drafted md_lines md_n md_species md_above md_trialSize md_foundSize md_foundSpecies md_foundN md_foundCost r.2.1 md_low md_many md_ties md_winnerCost md_allMany md_allTies md_faults md_given md_on md_numbers r.2.2.1 r.2.2.2) r.1) args s 0 0 A) (F0 m 35 ls []) := by
  obtain ⟨hx, hb, hr, hts, hown, hml, hlocks, hK, hN, hA, hX⟩ := id C
  obtain ⟨hP, hD, hS⟩ := hZ
  unfold m_SpeciesSolverModel_reach_35b at hm
  refine lv_iload_n hx hb d_SpeciesSolverModel_reach_35 rfl (lv_at hl 2 rfl) ?_
  refine lv_aload_n hx hb d_SpeciesSolverModel_reach_36 rfl (lv_at hl 0 rfl) ?_
  refine va_get (D := D) (ci := 1) (v := .int md_chosen) (C := R_SpeciesSolverModel) (T := T_SpeciesSolverModel) (N := 35) hx hb hts inG_SpeciesSolverModel hown hK hP 0 rfl rfl 18 (by decide) (hts _ gw_836) (fun _ h9 => h9) rfl d_SpeciesSolverModel_reach_37 ?_
  refine lv_icmp_ge (tgt := 72) hx hb d_SpeciesSolverModel_reach_40 (by decide) (fun c1 => ?_) (fun c1 => ?_)
  · replace hm := ifT hm c1
    refine lv_iload_n hx hb d_SpeciesSolverModel_reach_72 rfl (lv_at hl 1 rfl) ?_
    refine lv_if_eq (tgt := 80) hx hb d_SpeciesSolverModel_reach_73 (by decide) (fun c2 => ?_) (fun c2 => ?_)
    · replace hm := ifT hm c2
      refine lv_iconst (v := 0) hx hb d_SpeciesSolverModel_reach_80 (by decide) ?_
      exact l_SpeciesSolverModel_reach_81 C  hm ⟨hP, hD, hS⟩ (lv_sub hl [0, 1] rfl)
    · replace hm := ifF hm c2
      refine lv_iconst (v := 1) hx hb d_SpeciesSolverModel_reach_76 (by decide) ?_
      refine lv_goto (tgt := 81) hx hb d_SpeciesSolverModel_reach_77 (by decide) ?_
      exact l_SpeciesSolverModel_reach_81 C  hm ⟨hP, hD, hS⟩ (lv_sub hl [0, 1] rfl)
  · replace hm := ifF hm c1
    refine lv_aload_n hx hb d_SpeciesSolverModel_reach_43 rfl (lv_at hl 0 rfl) ?_
    refine lv_iload_n hx hb d_SpeciesSolverModel_reach_44 rfl (lv_at hl 2 rfl) ?_
    obtain ⟨u3, hc4, hm⟩ := bd_some hm
    refine zV_i (n := 1) (wr := [((ad 13), .inl (kc 1, 1280, .inl md_reached))]) (w1 := (wd_SpeciesSolverModel_mayBegin kc ad md_thrown md_drafted md_lines md_n md_species md_above md_trialSize md_foundSize md_foundSpecies md_foundN md_foundCost md_chosen md_low md_many md_ties md_winnerCost md_allMany md_allTies md_faults md_given md_on md_numbers md_pitches)) (ws1 := (wd_SpeciesSolverModel_reach kc ad md_thrown md_drafted md_lines md_n md_species md_above md_trialSize md_foundSize md_foundSpecies md_foundN md_foundCost md_chosen md_low md_many md_ties md_winnerCost md_allMany md_allTies md_faults md_given md_on md_numbers md_pitches md_reached)) (As := [.int x2]) (rest := []) (ci := 1) (q0 := 0) (y := y_SpeciesSolverModel_mayBegin) ⟨hx, hb, hml, hown, hts⟩ (fun sz => c_SpeciesSolverModel_mayBegin hc4 sz) gw_1097 gw_1094 gw_1096 gw_100 gw_118 hd_SpeciesSolverModel_mayBegin ⟨Nat.le_of_ble_eq_true rfl, Nat.le_of_ble_eq_true rfl⟩ ⟨rfl, rfl⟩ ⟨Nat.zero_le _, Nat.zero_le _⟩ hK hN hP hD hS hA hX [0, 1, 2, 3, 4] [5] [1, 2, 3, 4, 5, 0] rfl rfl (by decide) (by decide) (by decide) rfl (by decide) rfl rfl rfl hl.1 rfl (Nat.le_of_ble_eq_true rfl) d_SpeciesSolverModel_reach_45 (fun H locs hP hD hS => ?_)
    refine lv_if_eq (tgt := 66) hx hb d_SpeciesSolverModel_reach_48 (by decide) (fun c5 => ?_) (fun c5 => ?_)
    · replace hm := ifT hm c5
      exact l_SpeciesSolverModel_reach_66 C hk35 hm ⟨hP, hD, hS⟩ (lv_sub hl [0, 1, 2] rfl)
    · replace hm := ifF hm c5
      refine lv_aload_n hx hb d_SpeciesSolverModel_reach_51 rfl (lv_at hl 0 rfl) ?_
      refine va_get (D := D) (ci := 1) (v := .ref (ad 13)) (C := R_SpeciesSolverModel) (T := T_SpeciesSolverModel) (N := 35) hx hb hts inG_SpeciesSolverModel hown hK hP 0 rfl rfl 30 (by decide) (hts _ gw_848) (fun _ h9 => h9) rfl d_SpeciesSolverModel_reach_52 ?_
      refine lv_aload_n hx hb d_SpeciesSolverModel_reach_55 rfl (lv_at hl 0 rfl) ?_
      refine lv_iload_n hx hb d_SpeciesSolverModel_reach_56 rfl (lv_at hl 2 rfl) ?_
      refine lv_iconst (v := 0) hx hb d_SpeciesSolverModel_reach_57 (by decide) ?_
      refine lv_iload_n hx hb d_SpeciesSolverModel_reach_58 rfl (lv_at hl 2 rfl) ?_
      obtain ⟨u6, hc7, hm⟩ := bd_some hm
      refine zV_i (n := 3) (wr := [((ad 2), .inl (kc 0, 36, .inl md_given)), ((ad 3), .inl (kc 1, 11, .inl md_on)), ((ad 4), .inl (kc 0, 18, .inl md_numbers)), ((ad 7), .inl (kc 0, 8, .inl md_pitches)), ((ad 13), .inl (kc 1, 1280, .inl md_reached))]) (w1 := (wd_SpeciesSolverModel_halfState kc ad md_thrown md_drafted md_lines md_n md_species md_above md_trialSize md_foundSize md_foundSpecies md_foundN md_foundCost md_chosen md_low md_many md_ties md_winnerCost md_allMany md_allTies md_faults)) (ws1 := (wd_SpeciesSolverModel_reach kc ad md_thrown md_drafted md_lines md_n md_species md_above md_trialSize md_foundSize md_foundSpecies md_foundN md_foundCost md_chosen md_low md_many md_ties md_winnerCost md_allMany md_allTies md_faults md_given md_on md_numbers md_pitches md_reached)) (As := [.int x2, .int (0 : Int32), .int x2]) (rest := [.ref (ad 13)]) (ci := 1) (q0 := 0) (y := y_SpeciesSolverModel_halfState) ⟨hx, hb, hml, hown, hts⟩ (fun sz => c_SpeciesSolverModel_halfState hc7 sz) gw_1130 gw_1127 gw_1129 gw_103 gw_118 hd_SpeciesSolverModel_halfState ⟨Nat.le_of_ble_eq_true rfl, Nat.le_of_ble_eq_true rfl⟩ ⟨rfl, rfl⟩ ⟨Nat.zero_le _, Nat.zero_le _⟩ hK hN hP hD hS hA hX [0] [1, 2, 3, 4, 5] [5, 0, 1, 2, 3, 4] rfl rfl (by decide) (by decide) (by decide) rfl (by decide) rfl rfl rfl hl.1 rfl (Nat.le_of_ble_eq_true rfl) d_SpeciesSolverModel_reach_59 (fun H locs hP hD hS => ?_)
      refine lv_iconst (v := 1) hx hb d_SpeciesSolverModel_reach_62 (by decide) ?_
      obtain ⟨hi8, hm⟩ := gd_some hm
      refine va_zast hx hb hK hP hD hS 5 1 rfl rfl hi8 d_SpeciesSolverModel_reach_63 (fun H locs hP hD hS => ?_)
      replace hP : va_P D vwCl (wd_SpeciesSolverModel_reach kc ad md_thrown md_drafted md_lines md_n md_species md_above md_trialSize md_foundSize md_foundSpecies md_foundN md_foundCost md_chosen md_low md_many md_ties md_winnerCost md_allMany md_allTies md_faults md_given md_on md_numbers md_pitches (upd md_reached (Int32.toNatClampNeg u6) (vp_nar .boolean (1 : Int32)))) H := hP
      replace hD : va_D A (wd_SpeciesSolverModel_reach kc ad md_thrown md_drafted md_lines md_n md_species md_above md_trialSize md_foundSize md_foundSpecies md_foundN md_foundCost md_chosen md_low md_many md_ties md_winnerCost md_allMany md_allTies md_faults md_given md_on md_numbers md_pitches (upd md_reached (Int32.toNatClampNeg u6) (vp_nar .boolean (1 : Int32)))) := hD
      refine lv_iconst (v := 1) hx hb d_SpeciesSolverModel_reach_64 (by decide) ?_
      refine lv_istore_n (lv' := [(1, .int (1 : Int32)), (0, .ref (ad 0)), (2, .int x2)]) hx hb d_SpeciesSolverModel_reach_65 rfl hl (by decide) rfl (fun ls hl => ?_)
      exact l_SpeciesSolverModel_reach_66 C hk35 hm ⟨hP, hD, hS⟩ (lv_sub hl [1, 0, 2] rfl)
def m_SpeciesSolverModel_reach_35 (F : Nat) (md_lines : Int32) (md_n : Int32) (md_species : Int32) (md_above : Int32) (md_given : Nat → Int32) (md_on : Nat → Int32) (md_numbers : Nat → Int32)  : Nat → Int32 → (Nat → Int32) → (Nat → Int32) → Int32 → Int32 → Option (Int32 × Int32 × (Nat → Int32) × (Nat → Int32))
  | 0 => fun _ _ _ _ _ => none
  | n + 1 => m_SpeciesSolverModel_reach_35b F md_lines md_n md_species md_above md_given md_on md_numbers  (m_SpeciesSolverModel_reach_35 F md_lines md_n md_species md_above md_given md_on md_numbers  n)
set_option maxHeartbeats 4000000 in
set_option maxRecDepth 100000 in
theorem lp_SpeciesSolverModel_reach_35 {r : Int32 × Int32 × (Nat → Int32) × (Nat → Int32)} {F : Nat} {ad : Nat → Nat} {md_thrown : Int32} {md_drafted : Int32} {md_lines : Int32} {md_n : Int32} {md_species : Int32} {md_above : Int32} {md_trialSize : Int32} {md_foundSize : Int32} {md_foundSpecies : Int32} {md_foundN : Int32} {md_foundCost : Int32} {md_low : Int32} {md_many : Int64} {md_ties : Int64} {md_winnerCost : Int32} {md_allMany : Int64} {md_allTies : Int64} {md_faults : Int32} {md_given : Nat → Int32} {md_on : Nat → Int32} {md_numbers : Nat → Int32}  (C : Cx p s m meth c args A D kc R_SpeciesSolverModel b_SpeciesSolverModel_reach 3 (some .int))  : ∀ (n : Nat) (md_chosen : Int32) (md_pitches : Nat → Int32) (md_reached : Nat → Int32) (x1 : Int32) (x2 : Int32) (H : Heap) (locs : List Loc) (ls : Array Slot), m_SpeciesSolverModel_reach_35 F md_lines md_n md_species md_above md_given md_on md_numbers  n md_chosen md_pitches md_reached x1 x2 = some r → St D A s (wd_SpeciesSolverModel_reach kc ad md_thrown md_drafted md_lines md_n md_species md_above md_trialSize md_foundSize md_foundSpecies md_foundN md_foundCost md_chosen md_low md_many md_ties md_winnerCost md_allMany md_allTies md_faults md_given md_on md_numbers md_pitches md_reached) H locs → lv_has ls 3 [(0, .ref (ad 0)), (1, .int x1), (2, .int x2)] → W p l e rm_SpeciesSolverModel_reach s m args below meth c H locs 0 0 (MQ below (Qi D A (wd_SpeciesSolverModel_reach kc ad md_thrown md_drafted md_lines md_n md_species md_above md_trialSize md_foundSize md_foundSpecies md_foundN md_foundCost r.2.1 md_low md_many md_ties md_winnerCost md_allMany md_allTies md_faults md_given md_on md_numbers r.2.2.1 r.2.2.2) r.1) args s 0 0 A) (F0 m 35 ls []) := by
  intro n
  induction n with
  | zero => intro md_chosen md_pitches md_reached x1 x2 H locs ls hm; cases hm
  | succ n ih => intro md_chosen md_pitches md_reached x1 x2 H locs ls hm hZ hl; exact l_SpeciesSolverModel_reach_35 C  ih hm hZ hl
def m_SpeciesSolverModel_reach_13b (F : Nat) (md_lines : Int32) (md_n : Int32) (md_species : Int32) (md_above : Int32) (md_given : Nat → Int32) (md_on : Nat → Int32) (md_numbers : Nat → Int32) (k13 : Int32 → (Nat → Int32) → (Nat → Int32) → Int32 → Int32 → Option (Int32 × Int32 × (Nat → Int32) × (Nat → Int32))) (md_chosen : Int32) (md_pitches : Nat → Int32) (md_reached : Nat → Int32) (x1 : Int32) (x2 : Int32) : Option (Int32 × Int32 × (Nat → Int32) × (Nat → Int32)) :=
  (if (640 : Int32) ≤ x2 then
    m_SpeciesSolverModel_reach_35 F md_lines md_n md_species md_above md_given md_on md_numbers  F md_chosen md_pitches md_reached x1 (0 : Int32)
  else
    (gd x2 1280 (k13 md_chosen md_pitches (upd md_reached (Int32.toNatClampNeg x2) (vp_nar .boolean (0 : Int32))) x1 (x2 + 1))))
set_option maxHeartbeats 4000000 in
set_option maxRecDepth 100000 in
theorem l_SpeciesSolverModel_reach_13 {r : Int32 × Int32 × (Nat → Int32) × (Nat → Int32)} {F : Nat} {ad : Nat → Nat} {md_thrown : Int32} {md_drafted : Int32} {md_lines : Int32} {md_n : Int32} {md_species : Int32} {md_above : Int32} {md_trialSize : Int32} {md_foundSize : Int32} {md_foundSpecies : Int32} {md_foundN : Int32} {md_foundCost : Int32} {md_chosen : Int32} {md_low : Int32} {md_many : Int64} {md_ties : Int64} {md_winnerCost : Int32} {md_allMany : Int64} {md_allTies : Int64} {md_faults : Int32} {md_given : Nat → Int32} {md_on : Nat → Int32} {md_numbers : Nat → Int32} {md_pitches : Nat → Int32} {md_reached : Nat → Int32} {k13 : Int32 → (Nat → Int32) → (Nat → Int32) → Int32 → Int32 → Option (Int32 × Int32 × (Nat → Int32) × (Nat → Int32))} {x1 : Int32} {x2 : Int32} {H : Heap} {locs : List Loc} {ls : Array Slot} (C : Cx p s m meth c args A D kc R_SpeciesSolverModel b_SpeciesSolverModel_reach 3 (some .int)) (hk13 : (∀ (md_chosen : Int32) (md_pitches : Nat → Int32) (md_reached : Nat → Int32) (x1 : Int32) (x2 : Int32) (H : Heap) (locs : List Loc) (ls : Array Slot), k13 md_chosen md_pitches md_reached x1 x2 = some r → St D A s (wd_SpeciesSolverModel_reach kc ad md_thrown md_drafted md_lines md_n md_species md_above md_trialSize md_foundSize md_foundSpecies md_foundN md_foundCost md_chosen md_low md_many md_ties md_winnerCost md_allMany md_allTies md_faults md_given md_on md_numbers md_pitches md_reached) H locs → lv_has ls 3 [(0, .ref (ad 0)), (1, .int x1), (2, .int x2)] → W p l e rm_SpeciesSolverModel_reach s m args below meth c H locs 0 0 (MQ below (Qi D A (wd_SpeciesSolverModel_reach kc ad md_thrown md_drafted md_lines md_n md_species md_above md_trialSize md_foundSize md_foundSpecies md_foundN md_foundCost r.2.1 md_low md_many md_ties md_winnerCost md_allMany md_allTies md_faults md_given md_on md_numbers r.2.2.1 r.2.2.2) r.1) args s 0 0 A) (F0 m 13 ls []))) (hm : m_SpeciesSolverModel_reach_13b F md_lines md_n md_species md_above md_given md_on md_numbers k13 md_chosen md_pitches md_reached x1 x2 = some r) (hZ : St D A s (wd_SpeciesSolverModel_reach kc ad md_thrown md_drafted md_lines md_n md_species md_above md_trialSize md_foundSize md_foundSpecies md_foundN md_foundCost md_chosen md_low md_many md_ties md_winnerCost md_allMany md_allTies md_faults md_given md_on md_numbers md_pitches md_reached) H locs) (hl : lv_has ls 3 [(0, .ref (ad 0)), (1, .int x1), (2, .int x2)]) : W p l e rm_SpeciesSolverModel_reach s m args below meth c H locs 0 0 (MQ below (Qi D A (wd_SpeciesSolverModel_reach kc ad md_thrown md_drafted md_lines md_n md_species md_above md_trialSize md_foundSize md_foundSpecies md_foundN md_foundCost r.2.1 md_low md_many md_ties md_winnerCost md_allMany md_allTies md_faults md_given md_on md_numbers r.2.2.1 r.2.2.2) r.1) args s 0 0 A) (F0 m 13 ls []) := by
  obtain ⟨hx, hb, hr, hts, hown, hml, hlocks, hK, hN, hA, hX⟩ := id C
  obtain ⟨hP, hD, hS⟩ := hZ
  unfold m_SpeciesSolverModel_reach_13b at hm
  refine lv_iload_n hx hb d_SpeciesSolverModel_reach_13 rfl (lv_at hl 2 rfl) ?_
  refine lv_sipush (v := 640) hx hb d_SpeciesSolverModel_reach_14 (by decide) ?_
  refine lv_icmp_ge (tgt := 33) hx hb d_SpeciesSolverModel_reach_17 (by decide) (fun c1 => ?_) (fun c1 => ?_)
  · replace hm := ifT hm c1
    refine lv_iconst (v := 0) hx hb d_SpeciesSolverModel_reach_33 (by decide) ?_
    refine lv_istore_n (lv' := [(2, .int (0 : Int32)), (0, .ref (ad 0)), (1, .int x1)]) hx hb d_SpeciesSolverModel_reach_34 rfl hl (by decide) rfl (fun ls hl => ?_)
    exact lp_SpeciesSolverModel_reach_35 C  F md_chosen md_pitches md_reached x1 (0 : Int32) _ _ _ hm ⟨hP, hD, hS⟩ (lv_sub hl [1, 2, 0] rfl)
  · replace hm := ifF hm c1
    refine lv_aload_n hx hb d_SpeciesSolverModel_reach_20 rfl (lv_at hl 0 rfl) ?_
    refine va_get (D := D) (ci := 1) (v := .ref (ad 13)) (C := R_SpeciesSolverModel) (T := T_SpeciesSolverModel) (N := 35) hx hb hts inG_SpeciesSolverModel hown hK hP 0 rfl rfl 30 (by decide) (hts _ gw_848) (fun _ h9 => h9) rfl d_SpeciesSolverModel_reach_21 ?_
    refine lv_iload_n hx hb d_SpeciesSolverModel_reach_24 rfl (lv_at hl 2 rfl) ?_
    refine lv_iconst (v := 0) hx hb d_SpeciesSolverModel_reach_25 (by decide) ?_
    obtain ⟨hi2, hm⟩ := gd_some hm
    refine va_zast hx hb hK hP hD hS 5 1 rfl rfl hi2 d_SpeciesSolverModel_reach_26 (fun H locs hP hD hS => ?_)
    replace hP : va_P D vwCl (wd_SpeciesSolverModel_reach kc ad md_thrown md_drafted md_lines md_n md_species md_above md_trialSize md_foundSize md_foundSpecies md_foundN md_foundCost md_chosen md_low md_many md_ties md_winnerCost md_allMany md_allTies md_faults md_given md_on md_numbers md_pitches (upd md_reached (Int32.toNatClampNeg x2) (vp_nar .boolean (0 : Int32)))) H := hP
    replace hD : va_D A (wd_SpeciesSolverModel_reach kc ad md_thrown md_drafted md_lines md_n md_species md_above md_trialSize md_foundSize md_foundSpecies md_foundN md_foundCost md_chosen md_low md_many md_ties md_winnerCost md_allMany md_allTies md_faults md_given md_on md_numbers md_pitches (upd md_reached (Int32.toNatClampNeg x2) (vp_nar .boolean (0 : Int32)))) := hD
    refine lv_iinc (v := (x2 + 1)) (lv' := [(2, .int (x2 + 1)), (0, .ref (ad 0)), (1, .int x1)]) hx hb d_SpeciesSolverModel_reach_27 hl (k := 2) rfl rfl (by decide) rfl (fun ls hl => ?_)
    refine lv_goto (tgt := 13) hx hb d_SpeciesSolverModel_reach_30 (by decide) ?_
    exact hk13 md_chosen md_pitches (upd md_reached (Int32.toNatClampNeg x2) (vp_nar .boolean (0 : Int32))) x1 (x2 + 1) _ _ _ hm ⟨hP, hD, hS⟩ (lv_sub hl [1, 2, 0] rfl)
def m_SpeciesSolverModel_reach_13 (F : Nat) (md_lines : Int32) (md_n : Int32) (md_species : Int32) (md_above : Int32) (md_given : Nat → Int32) (md_on : Nat → Int32) (md_numbers : Nat → Int32)  : Nat → Int32 → (Nat → Int32) → (Nat → Int32) → Int32 → Int32 → Option (Int32 × Int32 × (Nat → Int32) × (Nat → Int32))
  | 0 => fun _ _ _ _ _ => none
  | n + 1 => m_SpeciesSolverModel_reach_13b F md_lines md_n md_species md_above md_given md_on md_numbers  (m_SpeciesSolverModel_reach_13 F md_lines md_n md_species md_above md_given md_on md_numbers  n)
set_option maxHeartbeats 4000000 in
set_option maxRecDepth 100000 in
theorem lp_SpeciesSolverModel_reach_13 {r : Int32 × Int32 × (Nat → Int32) × (Nat → Int32)} {F : Nat} {ad : Nat → Nat} {md_thrown : Int32} {md_drafted : Int32} {md_lines : Int32} {md_n : Int32} {md_species : Int32} {md_above : Int32} {md_trialSize : Int32} {md_foundSize : Int32} {md_foundSpecies : Int32} {md_foundN : Int32} {md_foundCost : Int32} {md_low : Int32} {md_many : Int64} {md_ties : Int64} {md_winnerCost : Int32} {md_allMany : Int64} {md_allTies : Int64} {md_faults : Int32} {md_given : Nat → Int32} {md_on : Nat → Int32} {md_numbers : Nat → Int32}  (C : Cx p s m meth c args A D kc R_SpeciesSolverModel b_SpeciesSolverModel_reach 3 (some .int))  : ∀ (n : Nat) (md_chosen : Int32) (md_pitches : Nat → Int32) (md_reached : Nat → Int32) (x1 : Int32) (x2 : Int32) (H : Heap) (locs : List Loc) (ls : Array Slot), m_SpeciesSolverModel_reach_13 F md_lines md_n md_species md_above md_given md_on md_numbers  n md_chosen md_pitches md_reached x1 x2 = some r → St D A s (wd_SpeciesSolverModel_reach kc ad md_thrown md_drafted md_lines md_n md_species md_above md_trialSize md_foundSize md_foundSpecies md_foundN md_foundCost md_chosen md_low md_many md_ties md_winnerCost md_allMany md_allTies md_faults md_given md_on md_numbers md_pitches md_reached) H locs → lv_has ls 3 [(0, .ref (ad 0)), (1, .int x1), (2, .int x2)] → W p l e rm_SpeciesSolverModel_reach s m args below meth c H locs 0 0 (MQ below (Qi D A (wd_SpeciesSolverModel_reach kc ad md_thrown md_drafted md_lines md_n md_species md_above md_trialSize md_foundSize md_foundSpecies md_foundN md_foundCost r.2.1 md_low md_many md_ties md_winnerCost md_allMany md_allTies md_faults md_given md_on md_numbers r.2.2.1 r.2.2.2) r.1) args s 0 0 A) (F0 m 13 ls []) := by
  intro n
  induction n with
  | zero => intro md_chosen md_pitches md_reached x1 x2 H locs ls hm; cases hm
  | succ n ih => intro md_chosen md_pitches md_reached x1 x2 H locs ls hm hZ hl; exact l_SpeciesSolverModel_reach_13 C  ih hm hZ hl
def m_SpeciesSolverModel_reach (F : Nat) (md_lines : Int32) (md_n : Int32) (md_species : Int32) (md_above : Int32) (md_given : Nat → Int32) (md_on : Nat → Int32) (md_numbers : Nat → Int32) (md_chosen : Int32) (md_pitches : Nat → Int32) (md_reached : Nat → Int32)  : Option (Int32 × Int32 × (Nat → Int32) × (Nat → Int32)) :=
  (bd (m_SpeciesSolverModel_cannot F md_lines md_numbers md_chosen md_pitches) (fun u1 => (if u1.1 = (0 : Int32) then
    m_SpeciesSolverModel_reach_13 F md_lines md_n md_species md_above md_given md_on md_numbers  F u1.2.1 u1.2.2 md_reached (0 : Int32) (0 : Int32)
  else
    (some ((-1 : Int32), u1.2.1, u1.2.2, md_reached)))))
set_option maxHeartbeats 4000000 in
set_option maxRecDepth 100000 in
theorem e_SpeciesSolverModel_reach {r : Int32 × Int32 × (Nat → Int32) × (Nat → Int32)} {F : Nat} {ad : Nat → Nat} {md_thrown : Int32} {md_drafted : Int32} {md_lines : Int32} {md_n : Int32} {md_species : Int32} {md_above : Int32} {md_trialSize : Int32} {md_foundSize : Int32} {md_foundSpecies : Int32} {md_foundN : Int32} {md_foundCost : Int32} {md_chosen : Int32} {md_low : Int32} {md_many : Int64} {md_ties : Int64} {md_winnerCost : Int32} {md_allMany : Int64} {md_allTies : Int64} {md_faults : Int32} {md_given : Nat → Int32} {md_on : Nat → Int32} {md_numbers : Nat → Int32} {md_pitches : Nat → Int32} {md_reached : Nat → Int32}  {H : Heap} {locs : List Loc} {ls : Array Slot} (C : Cx p s m meth c args A D kc R_SpeciesSolverModel b_SpeciesSolverModel_reach 3 (some .int)) (hm : m_SpeciesSolverModel_reach F md_lines md_n md_species md_above md_given md_on md_numbers md_chosen md_pitches md_reached = some r) (hZ : St D A s (wd_SpeciesSolverModel_reach kc ad md_thrown md_drafted md_lines md_n md_species md_above md_trialSize md_foundSize md_foundSpecies md_foundN md_foundCost md_chosen md_low md_many md_ties md_winnerCost md_allMany md_allTies md_faults md_given md_on md_numbers md_pitches md_reached) H locs) (hl : lv_has ls 3 [(0, .ref (ad 0))]) : W p l e rm_SpeciesSolverModel_reach s m args below meth c H locs 0 0 (MQ below (Qi D A (wd_SpeciesSolverModel_reach kc ad md_thrown md_drafted md_lines md_n md_species md_above md_trialSize md_foundSize md_foundSpecies md_foundN md_foundCost r.2.1 md_low md_many md_ties md_winnerCost md_allMany md_allTies md_faults md_given md_on md_numbers r.2.2.1 r.2.2.2) r.1) args s 0 0 A) (F0 m 0 ls []) := by
  obtain ⟨hx, hb, hr, hts, hown, hml, hlocks, hK, hN, hA, hX⟩ := id C
  obtain ⟨hP, hD, hS⟩ := hZ
  unfold m_SpeciesSolverModel_reach at hm
  refine lv_aload_n hx hb d_SpeciesSolverModel_reach_0 rfl (lv_at hl 0 rfl) ?_
  obtain ⟨u1, hc2, hm⟩ := bd_some hm
  refine zV_i (n := 0) (wr := [((ad 2), .inl (kc 0, 36, .inl md_given)), ((ad 3), .inl (kc 1, 11, .inl md_on)), ((ad 13), .inl (kc 1, 1280, .inl md_reached))]) (w1 := (wd_SpeciesSolverModel_cannot kc ad md_thrown md_drafted md_lines md_n md_species md_above md_trialSize md_foundSize md_foundSpecies md_foundN md_foundCost u1.2.1 md_low md_many md_ties md_winnerCost md_allMany md_allTies md_faults md_numbers u1.2.2)) (ws1 := (wd_SpeciesSolverModel_reach kc ad md_thrown md_drafted md_lines md_n md_species md_above md_trialSize md_foundSize md_foundSpecies md_foundN md_foundCost u1.2.1 md_low md_many md_ties md_winnerCost md_allMany md_allTies md_faults md_given md_on md_numbers u1.2.2 md_reached)) (As := []) (rest := []) (ci := 1) (q0 := 0) (y := y_SpeciesSolverModel_cannot) ⟨hx, hb, hml, hown, hts⟩ (fun sz => c_SpeciesSolverModel_cannot hc2 sz) gw_978 gw_975 gw_977 gw_75 gw_118 hd_SpeciesSolverModel_cannot ⟨Nat.le_of_ble_eq_true rfl, Nat.le_of_ble_eq_true rfl⟩ ⟨rfl, rfl⟩ ⟨Nat.zero_le _, Nat.zero_le _⟩ hK hN hP hD hS hA hX [0, 3, 4] [1, 2, 5] [3, 0, 1, 4, 5, 2] rfl rfl (by decide) (by decide) (by decide) rfl (by decide) rfl rfl rfl hl.1 rfl (Nat.le_of_ble_eq_true rfl) d_SpeciesSolverModel_reach_1 (fun H locs hP hD hS => ?_)
  refine lv_if_eq (tgt := 9) hx hb d_SpeciesSolverModel_reach_4 (by decide) (fun c3 => ?_) (fun c3 => ?_)
  · replace hm := ifT hm c3
    refine lv_iconst (v := 0) hx hb d_SpeciesSolverModel_reach_9 (by decide) ?_
    refine lv_istore_n (lv' := [(1, .int (0 : Int32)), (0, .ref (ad 0))]) hx hb d_SpeciesSolverModel_reach_10 rfl hl (by decide) rfl (fun ls hl => ?_)
    refine lv_iconst (v := 0) hx hb d_SpeciesSolverModel_reach_11 (by decide) ?_
    refine lv_istore_n (lv' := [(2, .int (0 : Int32)), (1, .int (0 : Int32)), (0, .ref (ad 0))]) hx hb d_SpeciesSolverModel_reach_12 rfl hl (by decide) rfl (fun ls hl => ?_)
    exact lp_SpeciesSolverModel_reach_13 C  F u1.2.1 u1.2.2 md_reached (0 : Int32) (0 : Int32) _ _ _ hm ⟨hP, hD, hS⟩ (lv_sub hl [2, 1, 0] rfl)
  · replace hm := ifF hm c3
    refine lv_iconst (v := -1) hx hb d_SpeciesSolverModel_reach_7 (by decide) ?_
    replace hm := Option.some.inj hm; subst hm
    exact zret_i C hP hD hS d_SpeciesSolverModel_reach_8
set_option maxHeartbeats 4000000 in
set_option maxRecDepth 100000 in
theorem c_SpeciesSolverModel_reach {l : Launch} {D : va_G} {kc : Nat → ClassId} {r : Int32 × Int32 × (Nat → Int32) × (Nat → Int32)} {F : Nat} {ad : Nat → Nat} {md_thrown : Int32} {md_drafted : Int32} {md_lines : Int32} {md_n : Int32} {md_species : Int32} {md_above : Int32} {md_trialSize : Int32} {md_foundSize : Int32} {md_foundSpecies : Int32} {md_foundN : Int32} {md_foundCost : Int32} {md_chosen : Int32} {md_low : Int32} {md_many : Int64} {md_ties : Int64} {md_winnerCost : Int32} {md_allMany : Int64} {md_allTies : Int64} {md_faults : Int32} {md_given : Nat → Int32} {md_on : Nat → Int32} {md_numbers : Nat → Int32} {md_pitches : Nat → Int32} {md_reached : Nat → Int32}  (hm : m_SpeciesSolverModel_reach F md_lines md_n md_species md_above md_given md_on md_numbers md_chosen md_pitches md_reached = some r) (sz : Nat) : Ci l y_SpeciesSolverModel_reach ws_SpeciesSolverModel_reach rm_SpeciesSolverModel_reach D kc sz [.ref (ad 0)] (wd_SpeciesSolverModel_reach kc ad md_thrown md_drafted md_lines md_n md_species md_above md_trialSize md_foundSize md_foundSpecies md_foundN md_foundCost md_chosen md_low md_many md_ties md_winnerCost md_allMany md_allTies md_faults md_given md_on md_numbers md_pitches md_reached) (wd_SpeciesSolverModel_reach kc ad md_thrown md_drafted md_lines md_n md_species md_above md_trialSize md_foundSize md_foundSpecies md_foundN md_foundCost r.2.1 md_low md_many md_ties md_winnerCost md_allMany md_allTies md_faults md_given md_on md_numbers r.2.2.1 r.2.2.2) r.1 :=
  Cz_of (Qf := fun A => (Qi D A (wd_SpeciesSolverModel_reach kc ad md_thrown md_drafted md_lines md_n md_species md_above md_trialSize md_foundSize md_foundSpecies md_foundN md_foundCost r.2.1 md_low md_many md_ties md_winnerCost md_allMany md_allTies md_faults md_given md_on md_numbers r.2.2.1 r.2.2.2) r.1)) (cc := b_SpeciesSolverModel_reach) (maxL := 3) (ret := (some .int)) (by decide) rfl rfl (fun C hZ hl => e_SpeciesSolverModel_reach C hm hZ hl)
abbrev b_SpeciesSolverModel_keep : ByteArray := prog_9_method_57_code
abbrev y_SpeciesSolverModel_keep : MethodName := ⟨"SpeciesSolverModel", "keep", "()I"⟩
theorem d_SpeciesSolverModel_keep_0 : decode b_SpeciesSolverModel_keep 0 = .ok (.aload_n 0, 1) := by decide +kernel
theorem d_SpeciesSolverModel_keep_1 : decode b_SpeciesSolverModel_keep 1 = .ok (.getfield 237, 3) := by decide +kernel
theorem d_SpeciesSolverModel_keep_4 : decode b_SpeciesSolverModel_keep 4 = .ok (.ifCond .eq 22, 3) := by decide +kernel
theorem d_SpeciesSolverModel_keep_7 : decode b_SpeciesSolverModel_keep 7 = .ok (.aload_n 0, 1) := by decide +kernel
theorem d_SpeciesSolverModel_keep_8 : decode b_SpeciesSolverModel_keep 8 = .ok (.getfield 78, 3) := by decide +kernel
theorem d_SpeciesSolverModel_keep_11 : decode b_SpeciesSolverModel_keep 11 = .ok (.iconst 3, 1) := by decide +kernel
theorem d_SpeciesSolverModel_keep_12 : decode b_SpeciesSolverModel_keep 12 = .ok (.if_icmp .eq 14, 3) := by decide +kernel
theorem d_SpeciesSolverModel_keep_15 : decode b_SpeciesSolverModel_keep 15 = .ok (.aload_n 0, 1) := by decide +kernel
theorem d_SpeciesSolverModel_keep_16 : decode b_SpeciesSolverModel_keep 16 = .ok (.getfield 243, 3) := by decide +kernel
theorem d_SpeciesSolverModel_keep_19 : decode b_SpeciesSolverModel_keep 19 = .ok (.aload_n 0, 1) := by decide +kernel
theorem d_SpeciesSolverModel_keep_20 : decode b_SpeciesSolverModel_keep 20 = .ok (.getfield 81, 3) := by decide +kernel
theorem d_SpeciesSolverModel_keep_23 : decode b_SpeciesSolverModel_keep 23 = .ok (.if_icmp .eq 5, 3) := by decide +kernel
theorem d_SpeciesSolverModel_keep_26 : decode b_SpeciesSolverModel_keep 26 = .ok (.iconst (-1), 1) := by decide +kernel
theorem d_SpeciesSolverModel_keep_27 : decode b_SpeciesSolverModel_keep 27 = .ok (.ireturn, 1) := by decide +kernel
theorem d_SpeciesSolverModel_keep_28 : decode b_SpeciesSolverModel_keep 28 = .ok (.aload_n 0, 1) := by decide +kernel
theorem d_SpeciesSolverModel_keep_29 : decode b_SpeciesSolverModel_keep 29 = .ok (.aload_n 0, 1) := by decide +kernel
theorem d_SpeciesSolverModel_keep_30 : decode b_SpeciesSolverModel_keep 30 = .ok (.getfield 243, 3) := by decide +kernel
theorem d_SpeciesSolverModel_keep_33 : decode b_SpeciesSolverModel_keep 33 = .ok (.putfield 81, 3) := by decide +kernel
theorem d_SpeciesSolverModel_keep_36 : decode b_SpeciesSolverModel_keep 36 = .ok (.iconst 0, 1) := by decide +kernel
theorem d_SpeciesSolverModel_keep_37 : decode b_SpeciesSolverModel_keep 37 = .ok (.istore_n 1, 1) := by decide +kernel
theorem d_SpeciesSolverModel_keep_38 : decode b_SpeciesSolverModel_keep 38 = .ok (.iload_n 1, 1) := by decide +kernel
theorem d_SpeciesSolverModel_keep_39 : decode b_SpeciesSolverModel_keep 39 = .ok (.aload_n 0, 1) := by decide +kernel
theorem d_SpeciesSolverModel_keep_40 : decode b_SpeciesSolverModel_keep 40 = .ok (.getfield 243, 3) := by decide +kernel
theorem d_SpeciesSolverModel_keep_43 : decode b_SpeciesSolverModel_keep 43 = .ok (.if_icmp .ge 34, 3) := by decide +kernel
theorem d_SpeciesSolverModel_keep_46 : decode b_SpeciesSolverModel_keep 46 = .ok (.aload_n 0, 1) := by decide +kernel
theorem d_SpeciesSolverModel_keep_47 : decode b_SpeciesSolverModel_keep 47 = .ok (.getfield 13, 3) := by decide +kernel
theorem d_SpeciesSolverModel_keep_50 : decode b_SpeciesSolverModel_keep 50 = .ok (.bipush 12, 2) := by decide +kernel
theorem d_SpeciesSolverModel_keep_52 : decode b_SpeciesSolverModel_keep 52 = .ok (.aload_n 0, 1) := by decide +kernel
theorem d_SpeciesSolverModel_keep_53 : decode b_SpeciesSolverModel_keep 53 = .ok (.getfield 78, 3) := by decide +kernel
theorem d_SpeciesSolverModel_keep_56 : decode b_SpeciesSolverModel_keep 56 = .ok (.imul, 1) := by decide +kernel
theorem d_SpeciesSolverModel_keep_57 : decode b_SpeciesSolverModel_keep 57 = .ok (.iload_n 1, 1) := by decide +kernel
theorem d_SpeciesSolverModel_keep_58 : decode b_SpeciesSolverModel_keep 58 = .ok (.iadd, 1) := by decide +kernel
theorem d_SpeciesSolverModel_keep_59 : decode b_SpeciesSolverModel_keep 59 = .ok (.aload_n 0, 1) := by decide +kernel
theorem d_SpeciesSolverModel_keep_60 : decode b_SpeciesSolverModel_keep 60 = .ok (.getfield 34, 3) := by decide +kernel
theorem d_SpeciesSolverModel_keep_63 : decode b_SpeciesSolverModel_keep 63 = .ok (.iload_n 1, 1) := by decide +kernel
theorem d_SpeciesSolverModel_keep_64 : decode b_SpeciesSolverModel_keep 64 = .ok (.aload_n 0, 1) := by decide +kernel
theorem d_SpeciesSolverModel_keep_65 : decode b_SpeciesSolverModel_keep 65 = .ok (.getfield 240, 3) := by decide +kernel
theorem d_SpeciesSolverModel_keep_68 : decode b_SpeciesSolverModel_keep 68 = .ok (.imul, 1) := by decide +kernel
theorem d_SpeciesSolverModel_keep_69 : decode b_SpeciesSolverModel_keep 69 = .ok (.iaload, 1) := by decide +kernel
theorem d_SpeciesSolverModel_keep_70 : decode b_SpeciesSolverModel_keep 70 = .ok (.iastore, 1) := by decide +kernel
theorem d_SpeciesSolverModel_keep_71 : decode b_SpeciesSolverModel_keep 71 = .ok (.iinc 1 1, 3) := by decide +kernel
theorem d_SpeciesSolverModel_keep_74 : decode b_SpeciesSolverModel_keep 74 = .ok (.goto (-36), 3) := by decide +kernel
theorem d_SpeciesSolverModel_keep_77 : decode b_SpeciesSolverModel_keep 77 = .ok (.aload_n 0, 1) := by decide +kernel
theorem d_SpeciesSolverModel_keep_78 : decode b_SpeciesSolverModel_keep 78 = .ok (.dup, 1) := by decide +kernel
theorem d_SpeciesSolverModel_keep_79 : decode b_SpeciesSolverModel_keep 79 = .ok (.getfield 78, 3) := by decide +kernel
theorem d_SpeciesSolverModel_keep_82 : decode b_SpeciesSolverModel_keep 82 = .ok (.iconst 1, 1) := by decide +kernel
theorem d_SpeciesSolverModel_keep_83 : decode b_SpeciesSolverModel_keep 83 = .ok (.iadd, 1) := by decide +kernel
theorem d_SpeciesSolverModel_keep_84 : decode b_SpeciesSolverModel_keep 84 = .ok (.putfield 78, 3) := by decide +kernel
theorem d_SpeciesSolverModel_keep_87 : decode b_SpeciesSolverModel_keep 87 = .ok (.aload_n 0, 1) := by decide +kernel
theorem d_SpeciesSolverModel_keep_88 : decode b_SpeciesSolverModel_keep 88 = .ok (.getfield 78, 3) := by decide +kernel
theorem d_SpeciesSolverModel_keep_91 : decode b_SpeciesSolverModel_keep 91 = .ok (.iconst 1, 1) := by decide +kernel
theorem d_SpeciesSolverModel_keep_92 : decode b_SpeciesSolverModel_keep 92 = .ok (.isub, 1) := by decide +kernel
theorem d_SpeciesSolverModel_keep_93 : decode b_SpeciesSolverModel_keep 93 = .ok (.ireturn, 1) := by decide +kernel
abbrev wd_SpeciesSolverModel_keep (kc : Nat → ClassId) (ad : Nat → Nat) (md_thrown : Int32) (md_drafted : Int32) (md_lines : Int32) (md_n : Int32) (md_species : Int32) (md_above : Int32) (md_trialSize : Int32) (md_foundSize : Int32) (md_foundSpecies : Int32) (md_foundN : Int32) (md_foundCost : Int32) (md_chosen : Int32) (md_low : Int32) (md_many : Int64) (md_ties : Int64) (md_winnerCost : Int32) (md_allMany : Int64) (md_allTies : Int64) (md_faults : Int32) (md_given : Nat → Int32) (md_found : Nat → Int32) : va_W := [((ad 0), .inr (1, [.int md_thrown, .ref (ad 1), .int md_drafted, .ref (ad 2), .int md_lines, .int md_n, .int md_species, .int md_above, .ref (ad 3), .ref (ad 4), .ref (ad 5), .int md_trialSize, .ref (ad 6), .int md_foundSize, .int md_foundSpecies, .int md_foundN, .int md_foundCost, .ref (ad 7), .int md_chosen, .ref (ad 8), .ref (ad 9), .ref (ad 10), .int md_low, .long md_many, .long md_ties, .ref (ad 11), .ref (ad 12), .int md_winnerCost, .long md_allMany, .long md_allTies, .ref (ad 13), .ref (ad 14), .ref (ad 15), .ref (ad 16), .int md_faults])), ((ad 2), .inl (kc 0, 36, .inl md_given)), ((ad 6), .inl (kc 0, 45, .inl md_found))]
abbrev rm_SpeciesSolverModel_keep : Room := { frames := 0, cells := 0, slots := 0, locals := 0 }
abbrev cw_SpeciesSolverModel_keep : Cond := .code y_SpeciesSolverModel_keep b_SpeciesSolverModel_keep 2 (some .int)
abbrev ws_SpeciesSolverModel_keep : List Cond := cw_SpeciesSolverModel_keep :: GW
theorem hd_SpeciesSolverModel_keep : y_SpeciesSolverModel_keep.cls ≠ "java/lang/invoke/MethodHandle" ∧ y_SpeciesSolverModel_keep.cls ≠ "java/lang/invoke/VarHandle" ∧ (parseMethodDescriptor y_SpeciesSolverModel_keep.desc).map (fun d => d.parameters.length) = some 0 := by decide +kernel
def m_SpeciesSolverModel_keep_38b (F : Nat) (md_foundSize : Int32) (md_foundSpecies : Int32) (md_foundN : Int32) (md_found : Nat → Int32) (k38 : Int32 → Int32 → (Nat → Int32) → Int32 → Option (Int32 × Int32 × Int32 × (Nat → Int32))) (md_lines : Int32) (md_n : Int32) (md_given : Nat → Int32) (x1 : Int32) : Option (Int32 × Int32 × Int32 × (Nat → Int32)) :=
  (if md_foundN ≤ x1 then
    (some (((md_lines + (1 : Int32)) - (1 : Int32)), (md_lines + (1 : Int32)), md_n, md_given))
  else
    (gd (x1 * md_foundSpecies) 45 (gd (((12 : Int32) * md_lines) + x1) 36 (k38 md_lines md_n (upd md_given (Int32.toNatClampNeg (((12 : Int32) * md_lines) + x1)) (md_found (Int32.toNatClampNeg (x1 * md_foundSpecies)))) (x1 + 1)))))
set_option maxHeartbeats 4000000 in
set_option maxRecDepth 100000 in
theorem l_SpeciesSolverModel_keep_38 {r : Int32 × Int32 × Int32 × (Nat → Int32)} {F : Nat} {ad : Nat → Nat} {md_thrown : Int32} {md_drafted : Int32} {md_lines : Int32} {md_n : Int32} {md_species : Int32} {md_above : Int32} {md_trialSize : Int32} {md_foundSize : Int32} {md_foundSpecies : Int32} {md_foundN : Int32} {md_foundCost : Int32} {md_chosen : Int32} {md_low : Int32} {md_many : Int64} {md_ties : Int64} {md_winnerCost : Int32} {md_allMany : Int64} {md_allTies : Int64} {md_faults : Int32} {md_given : Nat → Int32} {md_found : Nat → Int32} {k38 : Int32 → Int32 → (Nat → Int32) → Int32 → Option (Int32 × Int32 × Int32 × (Nat → Int32))} {x1 : Int32} {H : Heap} {locs : List Loc} {ls : Array Slot} (C : Cx p s m meth c args A D kc R_SpeciesSolverModel b_SpeciesSolverModel_keep 2 (some .int)) (hk38 : (∀ (md_lines : Int32) (md_n : Int32) (md_given : Nat → Int32) (x1 : Int32) (H : Heap) (locs : List Loc) (ls : Array Slot), k38 md_lines md_n md_given x1 = some r → St D A s (wd_SpeciesSolverModel_keep kc ad md_thrown md_drafted md_lines md_n md_species md_above md_trialSize md_foundSize md_foundSpecies md_foundN md_foundCost md_chosen md_low md_many md_ties md_winnerCost md_allMany md_allTies md_faults md_given md_found) H locs → lv_has ls 2 [(0, .ref (ad 0)), (1, .int x1)] → W p l e rm_SpeciesSolverModel_keep s m args below meth c H locs 0 0 (MQ below (Qi D A (wd_SpeciesSolverModel_keep kc ad md_thrown md_drafted r.2.1 r.2.2.1 md_species md_above md_trialSize md_foundSize md_foundSpecies md_foundN md_foundCost md_chosen md_low md_many md_ties md_winnerCost md_allMany md_allTies md_faults r.2.2.2 md_found) r.1) args s 0 0 A) (F0 m 38 ls []))) (hm : m_SpeciesSolverModel_keep_38b F md_foundSize md_foundSpecies md_foundN md_found k38 md_lines md_n md_given x1 = some r) (hZ : St D A s (wd_SpeciesSolverModel_keep kc ad md_thrown md_drafted md_lines md_n md_species md_above md_trialSize md_foundSize md_foundSpecies md_foundN md_foundCost md_chosen md_low md_many md_ties md_winnerCost md_allMany md_allTies md_faults md_given md_found) H locs) (hl : lv_has ls 2 [(0, .ref (ad 0)), (1, .int x1)]) : W p l e rm_SpeciesSolverModel_keep s m args below meth c H locs 0 0 (MQ below (Qi D A (wd_SpeciesSolverModel_keep kc ad md_thrown md_drafted r.2.1 r.2.2.1 md_species md_above md_trialSize md_foundSize md_foundSpecies md_foundN md_foundCost md_chosen md_low md_many md_ties md_winnerCost md_allMany md_allTies md_faults r.2.2.2 md_found) r.1) args s 0 0 A) (F0 m 38 ls []) := by
  obtain ⟨hx, hb, hr, hts, hown, hml, hlocks, hK, hN, hA, hX⟩ := id C
  obtain ⟨hP, hD, hS⟩ := hZ
  unfold m_SpeciesSolverModel_keep_38b at hm
  refine lv_iload_n hx hb d_SpeciesSolverModel_keep_38 rfl (lv_at hl 1 rfl) ?_
  refine lv_aload_n hx hb d_SpeciesSolverModel_keep_39 rfl (lv_at hl 0 rfl) ?_
  refine va_get (D := D) (ci := 1) (v := .int md_foundN) (C := R_SpeciesSolverModel) (T := T_SpeciesSolverModel) (N := 35) hx hb hts inG_SpeciesSolverModel hown hK hP 0 rfl rfl 15 (by decide) (hts _ gw_833) (fun _ h9 => h9) rfl d_SpeciesSolverModel_keep_40 ?_
  refine lv_icmp_ge (tgt := 77) hx hb d_SpeciesSolverModel_keep_43 (by decide) (fun c1 => ?_) (fun c1 => ?_)
  · replace hm := ifT hm c1
    refine lv_aload_n hx hb d_SpeciesSolverModel_keep_77 rfl (lv_at hl 0 rfl) ?_
    refine lv_dup hx hb d_SpeciesSolverModel_keep_78 rfl ?_
    refine va_get (D := D) (ci := 1) (v := .int md_lines) (C := R_SpeciesSolverModel) (T := T_SpeciesSolverModel) (N := 35) hx hb hts inG_SpeciesSolverModel hown hK hP 0 rfl rfl 4 (by decide) (hts _ gw_822) (fun _ h9 => h9) rfl d_SpeciesSolverModel_keep_79 ?_
    refine lv_iconst (v := 1) hx hb d_SpeciesSolverModel_keep_82 (by decide) ?_
    refine lv_iadd hx hb d_SpeciesSolverModel_keep_83 ?_
    refine va_put (D := D) (ci := 1) (v := .int (md_lines + (1 : Int32))) (ty := .int) (C := R_SpeciesSolverModel) (T := T_SpeciesSolverModel) (N := 35) hx hb hts inG_SpeciesSolverModel ty_SpeciesSolverModel tok_SpeciesSolverModel nmo_SpeciesSolverModel hown hK hP hD hS 0 rfl rfl 4 (by decide) (hts _ gw_822) (fun _ h9 => h9) rfl (tok_SpeciesSolverModel 4 (by decide)) rfl rfl (Nat.le_of_ble_eq_true rfl) d_SpeciesSolverModel_keep_84 (fun H locs hP hD hS => ?_)
    replace hP : va_P D vwCl (wd_SpeciesSolverModel_keep kc ad md_thrown md_drafted (md_lines + (1 : Int32)) md_n md_species md_above md_trialSize md_foundSize md_foundSpecies md_foundN md_foundCost md_chosen md_low md_many md_ties md_winnerCost md_allMany md_allTies md_faults md_given md_found) H := hP
    replace hD : va_D A (wd_SpeciesSolverModel_keep kc ad md_thrown md_drafted (md_lines + (1 : Int32)) md_n md_species md_above md_trialSize md_foundSize md_foundSpecies md_foundN md_foundCost md_chosen md_low md_many md_ties md_winnerCost md_allMany md_allTies md_faults md_given md_found) := hD
    refine lv_aload_n hx hb d_SpeciesSolverModel_keep_87 rfl (lv_at hl 0 rfl) ?_
    refine va_get (D := D) (ci := 1) (v := .int (md_lines + (1 : Int32))) (C := R_SpeciesSolverModel) (T := T_SpeciesSolverModel) (N := 35) hx hb hts inG_SpeciesSolverModel hown hK hP 0 rfl rfl 4 (by decide) (hts _ gw_822) (fun _ h9 => h9) rfl d_SpeciesSolverModel_keep_88 ?_
    refine lv_iconst (v := 1) hx hb d_SpeciesSolverModel_keep_91 (by decide) ?_
    refine lv_isub hx hb d_SpeciesSolverModel_keep_92 ?_
    replace hm := Option.some.inj hm; subst hm
    exact zret_i C hP hD hS d_SpeciesSolverModel_keep_93
  · replace hm := ifF hm c1
    refine lv_aload_n hx hb d_SpeciesSolverModel_keep_46 rfl (lv_at hl 0 rfl) ?_
    refine va_get (D := D) (ci := 1) (v := .ref (ad 2)) (C := R_SpeciesSolverModel) (T := T_SpeciesSolverModel) (N := 35) hx hb hts inG_SpeciesSolverModel hown hK hP 0 rfl rfl 3 (by decide) (hts _ gw_821) (fun _ h9 => h9) rfl d_SpeciesSolverModel_keep_47 ?_
    refine lv_bipush (v := 12) hx hb d_SpeciesSolverModel_keep_50 (by decide) ?_
    refine lv_aload_n hx hb d_SpeciesSolverModel_keep_52 rfl (lv_at hl 0 rfl) ?_
    refine va_get (D := D) (ci := 1) (v := .int md_lines) (C := R_SpeciesSolverModel) (T := T_SpeciesSolverModel) (N := 35) hx hb hts inG_SpeciesSolverModel hown hK hP 0 rfl rfl 4 (by decide) (hts _ gw_822) (fun _ h9 => h9) rfl d_SpeciesSolverModel_keep_53 ?_
    refine lv_imul hx hb d_SpeciesSolverModel_keep_56 ?_
    refine lv_iload_n hx hb d_SpeciesSolverModel_keep_57 rfl (lv_at hl 1 rfl) ?_
    refine lv_iadd hx hb d_SpeciesSolverModel_keep_58 ?_
    refine lv_aload_n hx hb d_SpeciesSolverModel_keep_59 rfl (lv_at hl 0 rfl) ?_
    refine va_get (D := D) (ci := 1) (v := .ref (ad 6)) (C := R_SpeciesSolverModel) (T := T_SpeciesSolverModel) (N := 35) hx hb hts inG_SpeciesSolverModel hown hK hP 0 rfl rfl 12 (by decide) (hts _ gw_830) (fun _ h9 => h9) rfl d_SpeciesSolverModel_keep_60 ?_
    refine lv_iload_n hx hb d_SpeciesSolverModel_keep_63 rfl (lv_at hl 1 rfl) ?_
    refine lv_aload_n hx hb d_SpeciesSolverModel_keep_64 rfl (lv_at hl 0 rfl) ?_
    refine va_get (D := D) (ci := 1) (v := .int md_foundSpecies) (C := R_SpeciesSolverModel) (T := T_SpeciesSolverModel) (N := 35) hx hb hts inG_SpeciesSolverModel hown hK hP 0 rfl rfl 14 (by decide) (hts _ gw_832) (fun _ h9 => h9) rfl d_SpeciesSolverModel_keep_65 ?_
    refine lv_imul hx hb d_SpeciesSolverModel_keep_68 ?_
    obtain ⟨hi2, hm⟩ := gd_some hm
    refine va_iald hx hb hK hP 2 0 rfl rfl hi2 d_SpeciesSolverModel_keep_69 ?_
    obtain ⟨hi3, hm⟩ := gd_some hm
    refine va_iast hx hb hK hP hD hS 1 0 rfl rfl hi3 d_SpeciesSolverModel_keep_70 (fun H locs hP hD hS => ?_)
    replace hP : va_P D vwCl (wd_SpeciesSolverModel_keep kc ad md_thrown md_drafted md_lines md_n md_species md_above md_trialSize md_foundSize md_foundSpecies md_foundN md_foundCost md_chosen md_low md_many md_ties md_winnerCost md_allMany md_allTies md_faults (upd md_given (Int32.toNatClampNeg (((12 : Int32) * md_lines) + x1)) (md_found (Int32.toNatClampNeg (x1 * md_foundSpecies)))) md_found) H := hP
    replace hD : va_D A (wd_SpeciesSolverModel_keep kc ad md_thrown md_drafted md_lines md_n md_species md_above md_trialSize md_foundSize md_foundSpecies md_foundN md_foundCost md_chosen md_low md_many md_ties md_winnerCost md_allMany md_allTies md_faults (upd md_given (Int32.toNatClampNeg (((12 : Int32) * md_lines) + x1)) (md_found (Int32.toNatClampNeg (x1 * md_foundSpecies)))) md_found) := hD
    refine lv_iinc (v := (x1 + 1)) (lv' := [(1, .int (x1 + 1)), (0, .ref (ad 0))]) hx hb d_SpeciesSolverModel_keep_71 hl (k := 1) rfl rfl (by decide) rfl (fun ls hl => ?_)
    refine lv_goto (tgt := 38) hx hb d_SpeciesSolverModel_keep_74 (by decide) ?_
    exact hk38 md_lines md_n (upd md_given (Int32.toNatClampNeg (((12 : Int32) * md_lines) + x1)) (md_found (Int32.toNatClampNeg (x1 * md_foundSpecies)))) (x1 + 1) _ _ _ hm ⟨hP, hD, hS⟩ (lv_sub hl [1, 0] rfl)
def m_SpeciesSolverModel_keep_38 (F : Nat) (md_foundSize : Int32) (md_foundSpecies : Int32) (md_foundN : Int32) (md_found : Nat → Int32)  : Nat → Int32 → Int32 → (Nat → Int32) → Int32 → Option (Int32 × Int32 × Int32 × (Nat → Int32))
  | 0 => fun _ _ _ _ => none
  | n + 1 => m_SpeciesSolverModel_keep_38b F md_foundSize md_foundSpecies md_foundN md_found  (m_SpeciesSolverModel_keep_38 F md_foundSize md_foundSpecies md_foundN md_found  n)
set_option maxHeartbeats 4000000 in
set_option maxRecDepth 100000 in
theorem lp_SpeciesSolverModel_keep_38 {r : Int32 × Int32 × Int32 × (Nat → Int32)} {F : Nat} {ad : Nat → Nat} {md_thrown : Int32} {md_drafted : Int32} {md_species : Int32} {md_above : Int32} {md_trialSize : Int32} {md_foundSize : Int32} {md_foundSpecies : Int32} {md_foundN : Int32} {md_foundCost : Int32} {md_chosen : Int32} {md_low : Int32} {md_many : Int64} {md_ties : Int64} {md_winnerCost : Int32} {md_allMany : Int64} {md_allTies : Int64} {md_faults : Int32} {md_found : Nat → Int32}  (C : Cx p s m meth c args A D kc R_SpeciesSolverModel b_SpeciesSolverModel_keep 2 (some .int))  : ∀ (n : Nat) (md_lines : Int32) (md_n : Int32) (md_given : Nat → Int32) (x1 : Int32) (H : Heap) (locs : List Loc) (ls : Array Slot), m_SpeciesSolverModel_keep_38 F md_foundSize md_foundSpecies md_foundN md_found  n md_lines md_n md_given x1 = some r → St D A s (wd_SpeciesSolverModel_keep kc ad md_thrown md_drafted md_lines md_n md_species md_above md_trialSize md_foundSize md_foundSpecies md_foundN md_foundCost md_chosen md_low md_many md_ties md_winnerCost md_allMany md_allTies md_faults md_given md_found) H locs → lv_has ls 2 [(0, .ref (ad 0)), (1, .int x1)] → W p l e rm_SpeciesSolverModel_keep s m args below meth c H locs 0 0 (MQ below (Qi D A (wd_SpeciesSolverModel_keep kc ad md_thrown md_drafted r.2.1 r.2.2.1 md_species md_above md_trialSize md_foundSize md_foundSpecies md_foundN md_foundCost md_chosen md_low md_many md_ties md_winnerCost md_allMany md_allTies md_faults r.2.2.2 md_found) r.1) args s 0 0 A) (F0 m 38 ls []) := by
  intro n
  induction n with
  | zero => intro md_lines md_n md_given x1 H locs ls hm; cases hm
  | succ n ih => intro md_lines md_n md_given x1 H locs ls hm hZ hl; exact l_SpeciesSolverModel_keep_38 C  ih hm hZ hl
def m_SpeciesSolverModel_keep (F : Nat) (md_foundSize : Int32) (md_foundSpecies : Int32) (md_foundN : Int32) (md_found : Nat → Int32) (md_lines : Int32) (md_n : Int32) (md_given : Nat → Int32)  : Option (Int32 × Int32 × Int32 × (Nat → Int32)) :=
  (if md_foundSize = (0 : Int32) then
    (some ((-1 : Int32), md_lines, md_n, md_given))
  else
    (if md_lines = (3 : Int32) then
      (some ((-1 : Int32), md_lines, md_n, md_given))
    else
      (if md_foundN = md_n then
        m_SpeciesSolverModel_keep_38 F md_foundSize md_foundSpecies md_foundN md_found  F md_lines md_foundN md_given (0 : Int32)
      else
        (some ((-1 : Int32), md_lines, md_n, md_given)))))
set_option maxHeartbeats 4000000 in
set_option maxRecDepth 100000 in
theorem e_SpeciesSolverModel_keep {r : Int32 × Int32 × Int32 × (Nat → Int32)} {F : Nat} {ad : Nat → Nat} {md_thrown : Int32} {md_drafted : Int32} {md_lines : Int32} {md_n : Int32} {md_species : Int32} {md_above : Int32} {md_trialSize : Int32} {md_foundSize : Int32} {md_foundSpecies : Int32} {md_foundN : Int32} {md_foundCost : Int32} {md_chosen : Int32} {md_low : Int32} {md_many : Int64} {md_ties : Int64} {md_winnerCost : Int32} {md_allMany : Int64} {md_allTies : Int64} {md_faults : Int32} {md_given : Nat → Int32} {md_found : Nat → Int32}  {H : Heap} {locs : List Loc} {ls : Array Slot} (C : Cx p s m meth c args A D kc R_SpeciesSolverModel b_SpeciesSolverModel_keep 2 (some .int)) (hm : m_SpeciesSolverModel_keep F md_foundSize md_foundSpecies md_foundN md_found md_lines md_n md_given = some r) (hZ : St D A s (wd_SpeciesSolverModel_keep kc ad md_thrown md_drafted md_lines md_n md_species md_above md_trialSize md_foundSize md_foundSpecies md_foundN md_foundCost md_chosen md_low md_many md_ties md_winnerCost md_allMany md_allTies md_faults md_given md_found) H locs) (hl : lv_has ls 2 [(0, .ref (ad 0))]) : W p l e rm_SpeciesSolverModel_keep s m args below meth c H locs 0 0 (MQ below (Qi D A (wd_SpeciesSolverModel_keep kc ad md_thrown md_drafted r.2.1 r.2.2.1 md_species md_above md_trialSize md_foundSize md_foundSpecies md_foundN md_foundCost md_chosen md_low md_many md_ties md_winnerCost md_allMany md_allTies md_faults r.2.2.2 md_found) r.1) args s 0 0 A) (F0 m 0 ls []) := by
  obtain ⟨hx, hb, hr, hts, hown, hml, hlocks, hK, hN, hA, hX⟩ := id C
  obtain ⟨hP, hD, hS⟩ := hZ
  unfold m_SpeciesSolverModel_keep at hm
  refine lv_aload_n hx hb d_SpeciesSolverModel_keep_0 rfl (lv_at hl 0 rfl) ?_
  refine va_get (D := D) (ci := 1) (v := .int md_foundSize) (C := R_SpeciesSolverModel) (T := T_SpeciesSolverModel) (N := 35) hx hb hts inG_SpeciesSolverModel hown hK hP 0 rfl rfl 13 (by decide) (hts _ gw_831) (fun _ h9 => h9) rfl d_SpeciesSolverModel_keep_1 ?_
  refine lv_if_eq (tgt := 26) hx hb d_SpeciesSolverModel_keep_4 (by decide) (fun c1 => ?_) (fun c1 => ?_)
  · replace hm := ifT hm c1
    refine lv_iconst (v := -1) hx hb d_SpeciesSolverModel_keep_26 (by decide) ?_
    replace hm := Option.some.inj hm; subst hm
    exact zret_i C hP hD hS d_SpeciesSolverModel_keep_27
  · replace hm := ifF hm c1
    refine lv_aload_n hx hb d_SpeciesSolverModel_keep_7 rfl (lv_at hl 0 rfl) ?_
    refine va_get (D := D) (ci := 1) (v := .int md_lines) (C := R_SpeciesSolverModel) (T := T_SpeciesSolverModel) (N := 35) hx hb hts inG_SpeciesSolverModel hown hK hP 0 rfl rfl 4 (by decide) (hts _ gw_822) (fun _ h9 => h9) rfl d_SpeciesSolverModel_keep_8 ?_
    refine lv_iconst (v := 3) hx hb d_SpeciesSolverModel_keep_11 (by decide) ?_
    refine lv_icmp_eq (tgt := 26) hx hb d_SpeciesSolverModel_keep_12 (by decide) (fun c2 => ?_) (fun c2 => ?_)
    · replace hm := ifT hm c2
      refine lv_iconst (v := -1) hx hb d_SpeciesSolverModel_keep_26 (by decide) ?_
      replace hm := Option.some.inj hm; subst hm
      exact zret_i C hP hD hS d_SpeciesSolverModel_keep_27
    · replace hm := ifF hm c2
      refine lv_aload_n hx hb d_SpeciesSolverModel_keep_15 rfl (lv_at hl 0 rfl) ?_
      refine va_get (D := D) (ci := 1) (v := .int md_foundN) (C := R_SpeciesSolverModel) (T := T_SpeciesSolverModel) (N := 35) hx hb hts inG_SpeciesSolverModel hown hK hP 0 rfl rfl 15 (by decide) (hts _ gw_833) (fun _ h9 => h9) rfl d_SpeciesSolverModel_keep_16 ?_
      refine lv_aload_n hx hb d_SpeciesSolverModel_keep_19 rfl (lv_at hl 0 rfl) ?_
      refine va_get (D := D) (ci := 1) (v := .int md_n) (C := R_SpeciesSolverModel) (T := T_SpeciesSolverModel) (N := 35) hx hb hts inG_SpeciesSolverModel hown hK hP 0 rfl rfl 5 (by decide) (hts _ gw_823) (fun _ h9 => h9) rfl d_SpeciesSolverModel_keep_20 ?_
      refine lv_icmp_eq (tgt := 28) hx hb d_SpeciesSolverModel_keep_23 (by decide) (fun c3 => ?_) (fun c3 => ?_)
      · replace hm := ifT hm c3
        refine lv_aload_n hx hb d_SpeciesSolverModel_keep_28 rfl (lv_at hl 0 rfl) ?_
        refine lv_aload_n hx hb d_SpeciesSolverModel_keep_29 rfl (lv_at hl 0 rfl) ?_
        refine va_get (D := D) (ci := 1) (v := .int md_foundN) (C := R_SpeciesSolverModel) (T := T_SpeciesSolverModel) (N := 35) hx hb hts inG_SpeciesSolverModel hown hK hP 0 rfl rfl 15 (by decide) (hts _ gw_833) (fun _ h9 => h9) rfl d_SpeciesSolverModel_keep_30 ?_
        refine va_put (D := D) (ci := 1) (v := .int md_foundN) (ty := .int) (C := R_SpeciesSolverModel) (T := T_SpeciesSolverModel) (N := 35) hx hb hts inG_SpeciesSolverModel ty_SpeciesSolverModel tok_SpeciesSolverModel nmo_SpeciesSolverModel hown hK hP hD hS 0 rfl rfl 5 (by decide) (hts _ gw_823) (fun _ h9 => h9) rfl (tok_SpeciesSolverModel 5 (by decide)) rfl rfl (Nat.le_of_ble_eq_true rfl) d_SpeciesSolverModel_keep_33 (fun H locs hP hD hS => ?_)
        replace hP : va_P D vwCl (wd_SpeciesSolverModel_keep kc ad md_thrown md_drafted md_lines md_foundN md_species md_above md_trialSize md_foundSize md_foundSpecies md_foundN md_foundCost md_chosen md_low md_many md_ties md_winnerCost md_allMany md_allTies md_faults md_given md_found) H := hP
        replace hD : va_D A (wd_SpeciesSolverModel_keep kc ad md_thrown md_drafted md_lines md_foundN md_species md_above md_trialSize md_foundSize md_foundSpecies md_foundN md_foundCost md_chosen md_low md_many md_ties md_winnerCost md_allMany md_allTies md_faults md_given md_found) := hD
        refine lv_iconst (v := 0) hx hb d_SpeciesSolverModel_keep_36 (by decide) ?_
        refine lv_istore_n (lv' := [(1, .int (0 : Int32)), (0, .ref (ad 0))]) hx hb d_SpeciesSolverModel_keep_37 rfl hl (by decide) rfl (fun ls hl => ?_)
        exact lp_SpeciesSolverModel_keep_38 C  F md_lines md_foundN md_given (0 : Int32) _ _ _ hm ⟨hP, hD, hS⟩ (lv_sub hl [1, 0] rfl)
      · replace hm := ifF hm c3
        refine lv_iconst (v := -1) hx hb d_SpeciesSolverModel_keep_26 (by decide) ?_
        replace hm := Option.some.inj hm; subst hm
        exact zret_i C hP hD hS d_SpeciesSolverModel_keep_27
set_option maxHeartbeats 4000000 in
set_option maxRecDepth 100000 in
theorem c_SpeciesSolverModel_keep {l : Launch} {D : va_G} {kc : Nat → ClassId} {r : Int32 × Int32 × Int32 × (Nat → Int32)} {F : Nat} {ad : Nat → Nat} {md_thrown : Int32} {md_drafted : Int32} {md_lines : Int32} {md_n : Int32} {md_species : Int32} {md_above : Int32} {md_trialSize : Int32} {md_foundSize : Int32} {md_foundSpecies : Int32} {md_foundN : Int32} {md_foundCost : Int32} {md_chosen : Int32} {md_low : Int32} {md_many : Int64} {md_ties : Int64} {md_winnerCost : Int32} {md_allMany : Int64} {md_allTies : Int64} {md_faults : Int32} {md_given : Nat → Int32} {md_found : Nat → Int32}  (hm : m_SpeciesSolverModel_keep F md_foundSize md_foundSpecies md_foundN md_found md_lines md_n md_given = some r) (sz : Nat) : Ci l y_SpeciesSolverModel_keep ws_SpeciesSolverModel_keep rm_SpeciesSolverModel_keep D kc sz [.ref (ad 0)] (wd_SpeciesSolverModel_keep kc ad md_thrown md_drafted md_lines md_n md_species md_above md_trialSize md_foundSize md_foundSpecies md_foundN md_foundCost md_chosen md_low md_many md_ties md_winnerCost md_allMany md_allTies md_faults md_given md_found) (wd_SpeciesSolverModel_keep kc ad md_thrown md_drafted r.2.1 r.2.2.1 md_species md_above md_trialSize md_foundSize md_foundSpecies md_foundN md_foundCost md_chosen md_low md_many md_ties md_winnerCost md_allMany md_allTies md_faults r.2.2.2 md_found) r.1 :=
  Cz_of (Qf := fun A => (Qi D A (wd_SpeciesSolverModel_keep kc ad md_thrown md_drafted r.2.1 r.2.2.1 md_species md_above md_trialSize md_foundSize md_foundSpecies md_foundN md_foundCost md_chosen md_low md_many md_ties md_winnerCost md_allMany md_allTies md_faults r.2.2.2 md_found) r.1)) (cc := b_SpeciesSolverModel_keep) (maxL := 2) (ret := (some .int)) (by decide) rfl rfl (fun C hZ hl => e_SpeciesSolverModel_keep C hm hZ hl)
abbrev b_SpeciesSolverModel_blame : ByteArray := prog_9_method_58_code
abbrev y_SpeciesSolverModel_blame : MethodName := ⟨"SpeciesSolverModel", "blame", "(ZIII)V"⟩
theorem d_SpeciesSolverModel_blame_0 : decode b_SpeciesSolverModel_blame 0 = .ok (.iload_n 1, 1) := by decide +kernel
theorem d_SpeciesSolverModel_blame_1 : decode b_SpeciesSolverModel_blame 1 = .ok (.ifCond .eq 63, 3) := by decide +kernel
theorem d_SpeciesSolverModel_blame_4 : decode b_SpeciesSolverModel_blame 4 = .ok (.aload_n 0, 1) := by decide +kernel
theorem d_SpeciesSolverModel_blame_5 : decode b_SpeciesSolverModel_blame 5 = .ok (.getfield 24, 3) := by decide +kernel
theorem d_SpeciesSolverModel_blame_8 : decode b_SpeciesSolverModel_blame 8 = .ok (.iload_n 2, 1) := by decide +kernel
theorem d_SpeciesSolverModel_blame_9 : decode b_SpeciesSolverModel_blame 9 = .ok (.baload, 1) := by decide +kernel
theorem d_SpeciesSolverModel_blame_10 : decode b_SpeciesSolverModel_blame 10 = .ok (.ifCond .eq 54, 3) := by decide +kernel
theorem d_SpeciesSolverModel_blame_13 : decode b_SpeciesSolverModel_blame 13 = .ok (.aload_n 0, 1) := by decide +kernel
theorem d_SpeciesSolverModel_blame_14 : decode b_SpeciesSolverModel_blame 14 = .ok (.getfield 254, 3) := by decide +kernel
theorem d_SpeciesSolverModel_blame_17 : decode b_SpeciesSolverModel_blame 17 = .ok (.sipush 200, 3) := by decide +kernel
theorem d_SpeciesSolverModel_blame_20 : decode b_SpeciesSolverModel_blame 20 = .ok (.if_icmp .ge 34, 3) := by decide +kernel
theorem d_SpeciesSolverModel_blame_23 : decode b_SpeciesSolverModel_blame 23 = .ok (.aload_n 0, 1) := by decide +kernel
theorem d_SpeciesSolverModel_blame_24 : decode b_SpeciesSolverModel_blame 24 = .ok (.getfield 60, 3) := by decide +kernel
theorem d_SpeciesSolverModel_blame_27 : decode b_SpeciesSolverModel_blame 27 = .ok (.aload_n 0, 1) := by decide +kernel
theorem d_SpeciesSolverModel_blame_28 : decode b_SpeciesSolverModel_blame 28 = .ok (.getfield 254, 3) := by decide +kernel
theorem d_SpeciesSolverModel_blame_31 : decode b_SpeciesSolverModel_blame 31 = .ok (.iload_n 2, 1) := by decide +kernel
theorem d_SpeciesSolverModel_blame_32 : decode b_SpeciesSolverModel_blame 32 = .ok (.iastore, 1) := by decide +kernel
theorem d_SpeciesSolverModel_blame_33 : decode b_SpeciesSolverModel_blame 33 = .ok (.aload_n 0, 1) := by decide +kernel
theorem d_SpeciesSolverModel_blame_34 : decode b_SpeciesSolverModel_blame 34 = .ok (.getfield 63, 3) := by decide +kernel
theorem d_SpeciesSolverModel_blame_37 : decode b_SpeciesSolverModel_blame 37 = .ok (.aload_n 0, 1) := by decide +kernel
theorem d_SpeciesSolverModel_blame_38 : decode b_SpeciesSolverModel_blame 38 = .ok (.getfield 254, 3) := by decide +kernel
theorem d_SpeciesSolverModel_blame_41 : decode b_SpeciesSolverModel_blame 41 = .ok (.iload_n 3, 1) := by decide +kernel
theorem d_SpeciesSolverModel_blame_42 : decode b_SpeciesSolverModel_blame 42 = .ok (.iastore, 1) := by decide +kernel
theorem d_SpeciesSolverModel_blame_43 : decode b_SpeciesSolverModel_blame 43 = .ok (.aload_n 0, 1) := by decide +kernel
theorem d_SpeciesSolverModel_blame_44 : decode b_SpeciesSolverModel_blame 44 = .ok (.getfield 66, 3) := by decide +kernel
theorem d_SpeciesSolverModel_blame_47 : decode b_SpeciesSolverModel_blame 47 = .ok (.aload_n 0, 1) := by decide +kernel
theorem d_SpeciesSolverModel_blame_48 : decode b_SpeciesSolverModel_blame 48 = .ok (.getfield 254, 3) := by decide +kernel
theorem d_SpeciesSolverModel_blame_51 : decode b_SpeciesSolverModel_blame 51 = .ok (.iload 4, 2) := by decide +kernel
theorem d_SpeciesSolverModel_blame_53 : decode b_SpeciesSolverModel_blame 53 = .ok (.iastore, 1) := by decide +kernel
theorem d_SpeciesSolverModel_blame_54 : decode b_SpeciesSolverModel_blame 54 = .ok (.aload_n 0, 1) := by decide +kernel
theorem d_SpeciesSolverModel_blame_55 : decode b_SpeciesSolverModel_blame 55 = .ok (.dup, 1) := by decide +kernel
theorem d_SpeciesSolverModel_blame_56 : decode b_SpeciesSolverModel_blame 56 = .ok (.getfield 254, 3) := by decide +kernel
theorem d_SpeciesSolverModel_blame_59 : decode b_SpeciesSolverModel_blame 59 = .ok (.iconst 1, 1) := by decide +kernel
theorem d_SpeciesSolverModel_blame_60 : decode b_SpeciesSolverModel_blame 60 = .ok (.iadd, 1) := by decide +kernel
theorem d_SpeciesSolverModel_blame_61 : decode b_SpeciesSolverModel_blame 61 = .ok (.putfield 254, 3) := by decide +kernel
theorem d_SpeciesSolverModel_blame_64 : decode b_SpeciesSolverModel_blame 64 = .ok (.return_, 1) := by decide +kernel
abbrev wd_SpeciesSolverModel_blame (kc : Nat → ClassId) (ad : Nat → Nat) (md_thrown : Int32) (md_drafted : Int32) (md_lines : Int32) (md_n : Int32) (md_species : Int32) (md_above : Int32) (md_trialSize : Int32) (md_foundSize : Int32) (md_foundSpecies : Int32) (md_foundN : Int32) (md_foundCost : Int32) (md_chosen : Int32) (md_low : Int32) (md_many : Int64) (md_ties : Int64) (md_winnerCost : Int32) (md_allMany : Int64) (md_allTies : Int64) (md_faults : Int32) (md_on : Nat → Int32) (md_faultRule : Nat → Int32) (md_faultNote : Nat → Int32) (md_faultLine : Nat → Int32) : va_W := [((ad 0), .inr (1, [.int md_thrown, .ref (ad 1), .int md_drafted, .ref (ad 2), .int md_lines, .int md_n, .int md_species, .int md_above, .ref (ad 3), .ref (ad 4), .ref (ad 5), .int md_trialSize, .ref (ad 6), .int md_foundSize, .int md_foundSpecies, .int md_foundN, .int md_foundCost, .ref (ad 7), .int md_chosen, .ref (ad 8), .ref (ad 9), .ref (ad 10), .int md_low, .long md_many, .long md_ties, .ref (ad 11), .ref (ad 12), .int md_winnerCost, .long md_allMany, .long md_allTies, .ref (ad 13), .ref (ad 14), .ref (ad 15), .ref (ad 16), .int md_faults])), ((ad 3), .inl (kc 1, 11, .inl md_on)), ((ad 14), .inl (kc 0, 200, .inl md_faultRule)), ((ad 15), .inl (kc 0, 200, .inl md_faultNote)), ((ad 16), .inl (kc 0, 200, .inl md_faultLine))]
abbrev rm_SpeciesSolverModel_blame : Room := { frames := 0, cells := 0, slots := 0, locals := 0 }
abbrev cw_SpeciesSolverModel_blame : Cond := .code y_SpeciesSolverModel_blame b_SpeciesSolverModel_blame 5 none
abbrev ws_SpeciesSolverModel_blame : List Cond := cw_SpeciesSolverModel_blame :: GW
theorem hd_SpeciesSolverModel_blame : y_SpeciesSolverModel_blame.cls ≠ "java/lang/invoke/MethodHandle" ∧ y_SpeciesSolverModel_blame.cls ≠ "java/lang/invoke/VarHandle" ∧ (parseMethodDescriptor y_SpeciesSolverModel_blame.desc).map (fun d => d.parameters.length) = some 4 := by decide +kernel
def m_SpeciesSolverModel_blame_54 (md_on : Nat → Int32)  (md_faults : Int32) (md_faultRule : Nat → Int32) (md_faultNote : Nat → Int32) (md_faultLine : Nat → Int32)  : Option (Int32 × (Nat → Int32) × (Nat → Int32) × (Nat → Int32)) :=
  (some ((md_faults + (1 : Int32)), md_faultRule, md_faultNote, md_faultLine))
set_option maxHeartbeats 4000000 in
set_option maxRecDepth 100000 in
theorem l_SpeciesSolverModel_blame_54 {r : Int32 × (Nat → Int32) × (Nat → Int32) × (Nat → Int32)} {ad : Nat → Nat} {md_thrown : Int32} {md_drafted : Int32} {md_lines : Int32} {md_n : Int32} {md_species : Int32} {md_above : Int32} {md_trialSize : Int32} {md_foundSize : Int32} {md_foundSpecies : Int32} {md_foundN : Int32} {md_foundCost : Int32} {md_chosen : Int32} {md_low : Int32} {md_many : Int64} {md_ties : Int64} {md_winnerCost : Int32} {md_allMany : Int64} {md_allTies : Int64} {md_faults : Int32} {md_on : Nat → Int32} {md_faultRule : Nat → Int32} {md_faultNote : Nat → Int32} {md_faultLine : Nat → Int32}   {H : Heap} {locs : List Loc} {ls : Array Slot} (C : Cx p s m meth c args A D kc R_SpeciesSolverModel b_SpeciesSolverModel_blame 5 none)  (hm : m_SpeciesSolverModel_blame_54 md_on  md_faults md_faultRule md_faultNote md_faultLine = some r) (hZ : St D A s (wd_SpeciesSolverModel_blame kc ad md_thrown md_drafted md_lines md_n md_species md_above md_trialSize md_foundSize md_foundSpecies md_foundN md_foundCost md_chosen md_low md_many md_ties md_winnerCost md_allMany md_allTies md_faults md_on md_faultRule md_faultNote md_faultLine) H locs) (hl : lv_has ls 5 [(0, .ref (ad 0))]) : W p l e rm_SpeciesSolverModel_blame s m args below meth c H locs 0 0 (MQ below (Qv D A (wd_SpeciesSolverModel_blame kc ad md_thrown md_drafted md_lines md_n md_species md_above md_trialSize md_foundSize md_foundSpecies md_foundN md_foundCost md_chosen md_low md_many md_ties md_winnerCost md_allMany md_allTies r.1 md_on r.2.1 r.2.2.1 r.2.2.2)) args s 0 0 A) (F0 m 54 ls []) := by
  obtain ⟨hx, hb, hr, hts, hown, hml, hlocks, hK, hN, hA, hX⟩ := id C
  obtain ⟨hP, hD, hS⟩ := hZ
  unfold m_SpeciesSolverModel_blame_54 at hm
  refine lv_aload_n hx hb d_SpeciesSolverModel_blame_54 rfl (lv_at hl 0 rfl) ?_
  refine lv_dup hx hb d_SpeciesSolverModel_blame_55 rfl ?_
  refine va_get (D := D) (ci := 1) (v := .int md_faults) (C := R_SpeciesSolverModel) (T := T_SpeciesSolverModel) (N := 35) hx hb hts inG_SpeciesSolverModel hown hK hP 0 rfl rfl 34 (by decide) (hts _ gw_852) (fun _ h9 => h9) rfl d_SpeciesSolverModel_blame_56 ?_
  refine lv_iconst (v := 1) hx hb d_SpeciesSolverModel_blame_59 (by decide) ?_
  refine lv_iadd hx hb d_SpeciesSolverModel_blame_60 ?_
  refine va_put (D := D) (ci := 1) (v := .int (md_faults + (1 : Int32))) (ty := .int) (C := R_SpeciesSolverModel) (T := T_SpeciesSolverModel) (N := 35) hx hb hts inG_SpeciesSolverModel ty_SpeciesSolverModel tok_SpeciesSolverModel nmo_SpeciesSolverModel hown hK hP hD hS 0 rfl rfl 34 (by decide) (hts _ gw_852) (fun _ h9 => h9) rfl (tok_SpeciesSolverModel 34 (by decide)) rfl rfl (Nat.le_of_ble_eq_true rfl) d_SpeciesSolverModel_blame_61 (fun H locs hP hD hS => ?_)
  replace hP : va_P D vwCl (wd_SpeciesSolverModel_blame kc ad md_thrown md_drafted md_lines md_n md_species md_above md_trialSize md_foundSize md_foundSpecies md_foundN md_foundCost md_chosen md_low md_many md_ties md_winnerCost md_allMany md_allTies (md_faults + (1 : Int32)) md_on md_faultRule md_faultNote md_faultLine) H := hP
  replace hD : va_D A (wd_SpeciesSolverModel_blame kc ad md_thrown md_drafted md_lines md_n md_species md_above md_trialSize md_foundSize md_foundSpecies md_foundN md_foundCost md_chosen md_low md_many md_ties md_winnerCost md_allMany md_allTies (md_faults + (1 : Int32)) md_on md_faultRule md_faultNote md_faultLine) := hD
  replace hm := Option.some.inj hm; subst hm
  exact zret_v C hP hD hS d_SpeciesSolverModel_blame_64
def m_SpeciesSolverModel_blame (md_on : Nat → Int32) (md_faults : Int32) (md_faultRule : Nat → Int32) (md_faultNote : Nat → Int32) (md_faultLine : Nat → Int32) (a1 : Int32) (a2 : Int32) (a3 : Int32) (a4 : Int32) : Option (Int32 × (Nat → Int32) × (Nat → Int32) × (Nat → Int32)) :=
  (if a1 = (0 : Int32) then
    (some (md_faults, md_faultRule, md_faultNote, md_faultLine))
  else
    (gd a2 11 (if (md_on (Int32.toNatClampNeg a2)) = (0 : Int32) then
      (some (md_faults, md_faultRule, md_faultNote, md_faultLine))
    else
      (if (200 : Int32) ≤ md_faults then
        m_SpeciesSolverModel_blame_54 md_on  md_faults md_faultRule md_faultNote md_faultLine
      else
        (gd md_faults 200 (gd md_faults 200 (gd md_faults 200 (m_SpeciesSolverModel_blame_54 md_on  md_faults (upd md_faultRule (Int32.toNatClampNeg md_faults) a2) (upd md_faultNote (Int32.toNatClampNeg md_faults) a3) (upd md_faultLine (Int32.toNatClampNeg md_faults) a4)))))))))
set_option maxHeartbeats 4000000 in
set_option maxRecDepth 100000 in
theorem e_SpeciesSolverModel_blame {r : Int32 × (Nat → Int32) × (Nat → Int32) × (Nat → Int32)} {ad : Nat → Nat} {md_thrown : Int32} {md_drafted : Int32} {md_lines : Int32} {md_n : Int32} {md_species : Int32} {md_above : Int32} {md_trialSize : Int32} {md_foundSize : Int32} {md_foundSpecies : Int32} {md_foundN : Int32} {md_foundCost : Int32} {md_chosen : Int32} {md_low : Int32} {md_many : Int64} {md_ties : Int64} {md_winnerCost : Int32} {md_allMany : Int64} {md_allTies : Int64} {md_faults : Int32} {md_on : Nat → Int32} {md_faultRule : Nat → Int32} {md_faultNote : Nat → Int32} {md_faultLine : Nat → Int32} {a1 : Int32} {a2 : Int32} {a3 : Int32} {a4 : Int32} {H : Heap} {locs : List Loc} {ls : Array Slot} (C : Cx p s m meth c args A D kc R_SpeciesSolverModel b_SpeciesSolverModel_blame 5 none) (hm : m_SpeciesSolverModel_blame md_on md_faults md_faultRule md_faultNote md_faultLine a1 a2 a3 a4 = some r) (hZ : St D A s (wd_SpeciesSolverModel_blame kc ad md_thrown md_drafted md_lines md_n md_species md_above md_trialSize md_foundSize md_foundSpecies md_foundN md_foundCost md_chosen md_low md_many md_ties md_winnerCost md_allMany md_allTies md_faults md_on md_faultRule md_faultNote md_faultLine) H locs) (hl : lv_has ls 5 [(0, .ref (ad 0)), (1, .int a1), (2, .int a2), (3, .int a3), (4, .int a4)]) : W p l e rm_SpeciesSolverModel_blame s m args below meth c H locs 0 0 (MQ below (Qv D A (wd_SpeciesSolverModel_blame kc ad md_thrown md_drafted md_lines md_n md_species md_above md_trialSize md_foundSize md_foundSpecies md_foundN md_foundCost md_chosen md_low md_many md_ties md_winnerCost md_allMany md_allTies r.1 md_on r.2.1 r.2.2.1 r.2.2.2)) args s 0 0 A) (F0 m 0 ls []) := by
  obtain ⟨hx, hb, hr, hts, hown, hml, hlocks, hK, hN, hA, hX⟩ := id C
  obtain ⟨hP, hD, hS⟩ := hZ
  unfold m_SpeciesSolverModel_blame at hm
  refine lv_iload_n hx hb d_SpeciesSolverModel_blame_0 rfl (lv_at hl 1 rfl) ?_
  refine lv_if_eq (tgt := 64) hx hb d_SpeciesSolverModel_blame_1 (by decide) (fun c1 => ?_) (fun c1 => ?_)
  · replace hm := ifT hm c1
    replace hm := Option.some.inj hm; subst hm
    exact zret_v C hP hD hS d_SpeciesSolverModel_blame_64
  · replace hm := ifF hm c1
    refine lv_aload_n hx hb d_SpeciesSolverModel_blame_4 rfl (lv_at hl 0 rfl) ?_
    refine va_get (D := D) (ci := 1) (v := .ref (ad 3)) (C := R_SpeciesSolverModel) (T := T_SpeciesSolverModel) (N := 35) hx hb hts inG_SpeciesSolverModel hown hK hP 0 rfl rfl 8 (by decide) (hts _ gw_826) (fun _ h9 => h9) rfl d_SpeciesSolverModel_blame_5 ?_
    refine lv_iload_n hx hb d_SpeciesSolverModel_blame_8 rfl (lv_at hl 2 rfl) ?_
    obtain ⟨hi2, hm⟩ := gd_some hm
    refine va_zald hx hb hK hP 1 1 rfl rfl hi2 d_SpeciesSolverModel_blame_9 ?_
    refine lv_if_eq (tgt := 64) hx hb d_SpeciesSolverModel_blame_10 (by decide) (fun c3 => ?_) (fun c3 => ?_)
    · replace hm := ifT hm c3
      replace hm := Option.some.inj hm; subst hm
      exact zret_v C hP hD hS d_SpeciesSolverModel_blame_64
    · replace hm := ifF hm c3
      refine lv_aload_n hx hb d_SpeciesSolverModel_blame_13 rfl (lv_at hl 0 rfl) ?_
      refine va_get (D := D) (ci := 1) (v := .int md_faults) (C := R_SpeciesSolverModel) (T := T_SpeciesSolverModel) (N := 35) hx hb hts inG_SpeciesSolverModel hown hK hP 0 rfl rfl 34 (by decide) (hts _ gw_852) (fun _ h9 => h9) rfl d_SpeciesSolverModel_blame_14 ?_
      refine lv_sipush (v := 200) hx hb d_SpeciesSolverModel_blame_17 (by decide) ?_
      refine lv_icmp_ge (tgt := 54) hx hb d_SpeciesSolverModel_blame_20 (by decide) (fun c4 => ?_) (fun c4 => ?_)
      · replace hm := ifT hm c4
        exact l_SpeciesSolverModel_blame_54 C  hm ⟨hP, hD, hS⟩ (lv_sub hl [0] rfl)
      · replace hm := ifF hm c4
        refine lv_aload_n hx hb d_SpeciesSolverModel_blame_23 rfl (lv_at hl 0 rfl) ?_
        refine va_get (D := D) (ci := 1) (v := .ref (ad 14)) (C := R_SpeciesSolverModel) (T := T_SpeciesSolverModel) (N := 35) hx hb hts inG_SpeciesSolverModel hown hK hP 0 rfl rfl 31 (by decide) (hts _ gw_849) (fun _ h9 => h9) rfl d_SpeciesSolverModel_blame_24 ?_
        refine lv_aload_n hx hb d_SpeciesSolverModel_blame_27 rfl (lv_at hl 0 rfl) ?_
        refine va_get (D := D) (ci := 1) (v := .int md_faults) (C := R_SpeciesSolverModel) (T := T_SpeciesSolverModel) (N := 35) hx hb hts inG_SpeciesSolverModel hown hK hP 0 rfl rfl 34 (by decide) (hts _ gw_852) (fun _ h9 => h9) rfl d_SpeciesSolverModel_blame_28 ?_
        refine lv_iload_n hx hb d_SpeciesSolverModel_blame_31 rfl (lv_at hl 2 rfl) ?_
        obtain ⟨hi5, hm⟩ := gd_some hm
        refine va_iast hx hb hK hP hD hS 2 0 rfl rfl hi5 d_SpeciesSolverModel_blame_32 (fun H locs hP hD hS => ?_)
        replace hP : va_P D vwCl (wd_SpeciesSolverModel_blame kc ad md_thrown md_drafted md_lines md_n md_species md_above md_trialSize md_foundSize md_foundSpecies md_foundN md_foundCost md_chosen md_low md_many md_ties md_winnerCost md_allMany md_allTies md_faults md_on (upd md_faultRule (Int32.toNatClampNeg md_faults) a2) md_faultNote md_faultLine) H := hP
        replace hD : va_D A (wd_SpeciesSolverModel_blame kc ad md_thrown md_drafted md_lines md_n md_species md_above md_trialSize md_foundSize md_foundSpecies md_foundN md_foundCost md_chosen md_low md_many md_ties md_winnerCost md_allMany md_allTies md_faults md_on (upd md_faultRule (Int32.toNatClampNeg md_faults) a2) md_faultNote md_faultLine) := hD
        refine lv_aload_n hx hb d_SpeciesSolverModel_blame_33 rfl (lv_at hl 0 rfl) ?_
        refine va_get (D := D) (ci := 1) (v := .ref (ad 15)) (C := R_SpeciesSolverModel) (T := T_SpeciesSolverModel) (N := 35) hx hb hts inG_SpeciesSolverModel hown hK hP 0 rfl rfl 32 (by decide) (hts _ gw_850) (fun _ h9 => h9) rfl d_SpeciesSolverModel_blame_34 ?_
        refine lv_aload_n hx hb d_SpeciesSolverModel_blame_37 rfl (lv_at hl 0 rfl) ?_
        refine va_get (D := D) (ci := 1) (v := .int md_faults) (C := R_SpeciesSolverModel) (T := T_SpeciesSolverModel) (N := 35) hx hb hts inG_SpeciesSolverModel hown hK hP 0 rfl rfl 34 (by decide) (hts _ gw_852) (fun _ h9 => h9) rfl d_SpeciesSolverModel_blame_38 ?_
        refine lv_iload_n hx hb d_SpeciesSolverModel_blame_41 rfl (lv_at hl 3 rfl) ?_
        obtain ⟨hi6, hm⟩ := gd_some hm
        refine va_iast hx hb hK hP hD hS 3 0 rfl rfl hi6 d_SpeciesSolverModel_blame_42 (fun H locs hP hD hS => ?_)
        replace hP : va_P D vwCl (wd_SpeciesSolverModel_blame kc ad md_thrown md_drafted md_lines md_n md_species md_above md_trialSize md_foundSize md_foundSpecies md_foundN md_foundCost md_chosen md_low md_many md_ties md_winnerCost md_allMany md_allTies md_faults md_on (upd md_faultRule (Int32.toNatClampNeg md_faults) a2) (upd md_faultNote (Int32.toNatClampNeg md_faults) a3) md_faultLine) H := hP
        replace hD : va_D A (wd_SpeciesSolverModel_blame kc ad md_thrown md_drafted md_lines md_n md_species md_above md_trialSize md_foundSize md_foundSpecies md_foundN md_foundCost md_chosen md_low md_many md_ties md_winnerCost md_allMany md_allTies md_faults md_on (upd md_faultRule (Int32.toNatClampNeg md_faults) a2) (upd md_faultNote (Int32.toNatClampNeg md_faults) a3) md_faultLine) := hD
        refine lv_aload_n hx hb d_SpeciesSolverModel_blame_43 rfl (lv_at hl 0 rfl) ?_
        refine va_get (D := D) (ci := 1) (v := .ref (ad 16)) (C := R_SpeciesSolverModel) (T := T_SpeciesSolverModel) (N := 35) hx hb hts inG_SpeciesSolverModel hown hK hP 0 rfl rfl 33 (by decide) (hts _ gw_851) (fun _ h9 => h9) rfl d_SpeciesSolverModel_blame_44 ?_
        refine lv_aload_n hx hb d_SpeciesSolverModel_blame_47 rfl (lv_at hl 0 rfl) ?_
        refine va_get (D := D) (ci := 1) (v := .int md_faults) (C := R_SpeciesSolverModel) (T := T_SpeciesSolverModel) (N := 35) hx hb hts inG_SpeciesSolverModel hown hK hP 0 rfl rfl 34 (by decide) (hts _ gw_852) (fun _ h9 => h9) rfl d_SpeciesSolverModel_blame_48 ?_
        refine lv_iload hx hb d_SpeciesSolverModel_blame_51 (lv_at hl 4 rfl) ?_
        obtain ⟨hi7, hm⟩ := gd_some hm
        refine va_iast hx hb hK hP hD hS 4 0 rfl rfl hi7 d_SpeciesSolverModel_blame_53 (fun H locs hP hD hS => ?_)
        replace hP : va_P D vwCl (wd_SpeciesSolverModel_blame kc ad md_thrown md_drafted md_lines md_n md_species md_above md_trialSize md_foundSize md_foundSpecies md_foundN md_foundCost md_chosen md_low md_many md_ties md_winnerCost md_allMany md_allTies md_faults md_on (upd md_faultRule (Int32.toNatClampNeg md_faults) a2) (upd md_faultNote (Int32.toNatClampNeg md_faults) a3) (upd md_faultLine (Int32.toNatClampNeg md_faults) a4)) H := hP
        replace hD : va_D A (wd_SpeciesSolverModel_blame kc ad md_thrown md_drafted md_lines md_n md_species md_above md_trialSize md_foundSize md_foundSpecies md_foundN md_foundCost md_chosen md_low md_many md_ties md_winnerCost md_allMany md_allTies md_faults md_on (upd md_faultRule (Int32.toNatClampNeg md_faults) a2) (upd md_faultNote (Int32.toNatClampNeg md_faults) a3) (upd md_faultLine (Int32.toNatClampNeg md_faults) a4)) := hD
        exact l_SpeciesSolverModel_blame_54 C  hm ⟨hP, hD, hS⟩ (lv_sub hl [0] rfl)
set_option maxHeartbeats 4000000 in
set_option maxRecDepth 100000 in
theorem c_SpeciesSolverModel_blame {l : Launch} {D : va_G} {kc : Nat → ClassId} {r : Int32 × (Nat → Int32) × (Nat → Int32) × (Nat → Int32)} {ad : Nat → Nat} {md_thrown : Int32} {md_drafted : Int32} {md_lines : Int32} {md_n : Int32} {md_species : Int32} {md_above : Int32} {md_trialSize : Int32} {md_foundSize : Int32} {md_foundSpecies : Int32} {md_foundN : Int32} {md_foundCost : Int32} {md_chosen : Int32} {md_low : Int32} {md_many : Int64} {md_ties : Int64} {md_winnerCost : Int32} {md_allMany : Int64} {md_allTies : Int64} {md_faults : Int32} {md_on : Nat → Int32} {md_faultRule : Nat → Int32} {md_faultNote : Nat → Int32} {md_faultLine : Nat → Int32} {a1 : Int32} {a2 : Int32} {a3 : Int32} {a4 : Int32} (hm : m_SpeciesSolverModel_blame md_on md_faults md_faultRule md_faultNote md_faultLine a1 a2 a3 a4 = some r) (sz : Nat) : Cv l y_SpeciesSolverModel_blame ws_SpeciesSolverModel_blame rm_SpeciesSolverModel_blame D kc sz [.ref (ad 0), .int a1, .int a2, .int a3, .int a4] (wd_SpeciesSolverModel_blame kc ad md_thrown md_drafted md_lines md_n md_species md_above md_trialSize md_foundSize md_foundSpecies md_foundN md_foundCost md_chosen md_low md_many md_ties md_winnerCost md_allMany md_allTies md_faults md_on md_faultRule md_faultNote md_faultLine) (wd_SpeciesSolverModel_blame kc ad md_thrown md_drafted md_lines md_n md_species md_above md_trialSize md_foundSize md_foundSpecies md_foundN md_foundCost md_chosen md_low md_many md_ties md_winnerCost md_allMany md_allTies r.1 md_on r.2.1 r.2.2.1 r.2.2.2) :=
  Cz_of (Qf := fun A => (Qv D A (wd_SpeciesSolverModel_blame kc ad md_thrown md_drafted md_lines md_n md_species md_above md_trialSize md_foundSize md_foundSpecies md_foundN md_foundCost md_chosen md_low md_many md_ties md_winnerCost md_allMany md_allTies r.1 md_on r.2.1 r.2.2.1 r.2.2.2))) (cc := b_SpeciesSolverModel_blame) (maxL := 5) (ret := none) (by decide) rfl rfl (fun C hZ hl => e_SpeciesSolverModel_blame C hm hZ hl)
abbrev b_SpeciesSolverModel_strongBefore : ByteArray := prog_9_method_59_code
abbrev y_SpeciesSolverModel_strongBefore : MethodName := ⟨"SpeciesSolverModel", "strongBefore", "(I)I"⟩
theorem d_SpeciesSolverModel_strongBefore_0 : decode b_SpeciesSolverModel_strongBefore 0 = .ok (.iload_n 1, 1) := by decide +kernel
theorem d_SpeciesSolverModel_strongBefore_1 : decode b_SpeciesSolverModel_strongBefore 1 = .ok (.aload_n 0, 1) := by decide +kernel
theorem d_SpeciesSolverModel_strongBefore_2 : decode b_SpeciesSolverModel_strongBefore 2 = .ok (.getfield 16, 3) := by decide +kernel
theorem d_SpeciesSolverModel_strongBefore_5 : decode b_SpeciesSolverModel_strongBefore 5 = .ok (.if_icmp .ge 12, 3) := by decide +kernel
theorem d_SpeciesSolverModel_strongBefore_8 : decode b_SpeciesSolverModel_strongBefore 8 = .ok (.aload_n 0, 1) := by decide +kernel
theorem d_SpeciesSolverModel_strongBefore_9 : decode b_SpeciesSolverModel_strongBefore 9 = .ok (.getfield 31, 3) := by decide +kernel
theorem d_SpeciesSolverModel_strongBefore_12 : decode b_SpeciesSolverModel_strongBefore 12 = .ok (.iconst 0, 1) := by decide +kernel
theorem d_SpeciesSolverModel_strongBefore_13 : decode b_SpeciesSolverModel_strongBefore 13 = .ok (.iaload, 1) := by decide +kernel
theorem d_SpeciesSolverModel_strongBefore_14 : decode b_SpeciesSolverModel_strongBefore 14 = .ok (.goto 14, 3) := by decide +kernel
theorem d_SpeciesSolverModel_strongBefore_17 : decode b_SpeciesSolverModel_strongBefore 17 = .ok (.aload_n 0, 1) := by decide +kernel
theorem d_SpeciesSolverModel_strongBefore_18 : decode b_SpeciesSolverModel_strongBefore 18 = .ok (.getfield 31, 3) := by decide +kernel
theorem d_SpeciesSolverModel_strongBefore_21 : decode b_SpeciesSolverModel_strongBefore 21 = .ok (.iload_n 1, 1) := by decide +kernel
theorem d_SpeciesSolverModel_strongBefore_22 : decode b_SpeciesSolverModel_strongBefore 22 = .ok (.aload_n 0, 1) := by decide +kernel
theorem d_SpeciesSolverModel_strongBefore_23 : decode b_SpeciesSolverModel_strongBefore 23 = .ok (.getfield 16, 3) := by decide +kernel
theorem d_SpeciesSolverModel_strongBefore_26 : decode b_SpeciesSolverModel_strongBefore 26 = .ok (.isub, 1) := by decide +kernel
theorem d_SpeciesSolverModel_strongBefore_27 : decode b_SpeciesSolverModel_strongBefore 27 = .ok (.iaload, 1) := by decide +kernel
theorem d_SpeciesSolverModel_strongBefore_28 : decode b_SpeciesSolverModel_strongBefore 28 = .ok (.ireturn, 1) := by decide +kernel
abbrev wd_SpeciesSolverModel_strongBefore (kc : Nat → ClassId) (ad : Nat → Nat) (md_thrown : Int32) (md_drafted : Int32) (md_lines : Int32) (md_n : Int32) (md_species : Int32) (md_above : Int32) (md_trialSize : Int32) (md_foundSize : Int32) (md_foundSpecies : Int32) (md_foundN : Int32) (md_foundCost : Int32) (md_chosen : Int32) (md_low : Int32) (md_many : Int64) (md_ties : Int64) (md_winnerCost : Int32) (md_allMany : Int64) (md_allTies : Int64) (md_faults : Int32) (md_trial : Nat → Int32) : va_W := [((ad 0), .inr (1, [.int md_thrown, .ref (ad 1), .int md_drafted, .ref (ad 2), .int md_lines, .int md_n, .int md_species, .int md_above, .ref (ad 3), .ref (ad 4), .ref (ad 5), .int md_trialSize, .ref (ad 6), .int md_foundSize, .int md_foundSpecies, .int md_foundN, .int md_foundCost, .ref (ad 7), .int md_chosen, .ref (ad 8), .ref (ad 9), .ref (ad 10), .int md_low, .long md_many, .long md_ties, .ref (ad 11), .ref (ad 12), .int md_winnerCost, .long md_allMany, .long md_allTies, .ref (ad 13), .ref (ad 14), .ref (ad 15), .ref (ad 16), .int md_faults])), ((ad 5), .inl (kc 0, 45, .inl md_trial))]
abbrev rm_SpeciesSolverModel_strongBefore : Room := { frames := 0, cells := 0, slots := 0, locals := 0 }
abbrev cw_SpeciesSolverModel_strongBefore : Cond := .code y_SpeciesSolverModel_strongBefore b_SpeciesSolverModel_strongBefore 2 (some .int)
abbrev ws_SpeciesSolverModel_strongBefore : List Cond := cw_SpeciesSolverModel_strongBefore :: GW
theorem hd_SpeciesSolverModel_strongBefore : y_SpeciesSolverModel_strongBefore.cls ≠ "java/lang/invoke/MethodHandle" ∧ y_SpeciesSolverModel_strongBefore.cls ≠ "java/lang/invoke/VarHandle" ∧ (parseMethodDescriptor y_SpeciesSolverModel_strongBefore.desc).map (fun d => d.parameters.length) = some 1 := by decide +kernel
def m_SpeciesSolverModel_strongBefore (md_species : Int32) (md_trial : Nat → Int32)  (a1 : Int32) : Option (Int32) :=
  (if md_species ≤ a1 then
    (gd (a1 - md_species) 45 (some (md_trial (Int32.toNatClampNeg (a1 - md_species)))))
  else
    (some (md_trial (Int32.toNatClampNeg (0 : Int32)))))
set_option maxHeartbeats 4000000 in
set_option maxRecDepth 100000 in
theorem e_SpeciesSolverModel_strongBefore {r : Int32} {ad : Nat → Nat} {md_thrown : Int32} {md_drafted : Int32} {md_lines : Int32} {md_n : Int32} {md_species : Int32} {md_above : Int32} {md_trialSize : Int32} {md_foundSize : Int32} {md_foundSpecies : Int32} {md_foundN : Int32} {md_foundCost : Int32} {md_chosen : Int32} {md_low : Int32} {md_many : Int64} {md_ties : Int64} {md_winnerCost : Int32} {md_allMany : Int64} {md_allTies : Int64} {md_faults : Int32} {md_trial : Nat → Int32} {a1 : Int32} {H : Heap} {locs : List Loc} {ls : Array Slot} (C : Cx p s m meth c args A D kc R_SpeciesSolverModel b_SpeciesSolverModel_strongBefore 2 (some .int)) (hm : m_SpeciesSolverModel_strongBefore md_species md_trial a1 = some r) (hZ : St D A s (wd_SpeciesSolverModel_strongBefore kc ad md_thrown md_drafted md_lines md_n md_species md_above md_trialSize md_foundSize md_foundSpecies md_foundN md_foundCost md_chosen md_low md_many md_ties md_winnerCost md_allMany md_allTies md_faults md_trial) H locs) (hl : lv_has ls 2 [(0, .ref (ad 0)), (1, .int a1)]) : W p l e rm_SpeciesSolverModel_strongBefore s m args below meth c H locs 0 0 (MQ below (Qi D A (wd_SpeciesSolverModel_strongBefore kc ad md_thrown md_drafted md_lines md_n md_species md_above md_trialSize md_foundSize md_foundSpecies md_foundN md_foundCost md_chosen md_low md_many md_ties md_winnerCost md_allMany md_allTies md_faults md_trial) r) args s 0 0 A) (F0 m 0 ls []) := by
  obtain ⟨hx, hb, hr, hts, hown, hml, hlocks, hK, hN, hA, hX⟩ := id C
  obtain ⟨hP, hD, hS⟩ := hZ
  unfold m_SpeciesSolverModel_strongBefore at hm
  refine lv_iload_n hx hb d_SpeciesSolverModel_strongBefore_0 rfl (lv_at hl 1 rfl) ?_
  refine lv_aload_n hx hb d_SpeciesSolverModel_strongBefore_1 rfl (lv_at hl 0 rfl) ?_
  refine va_get (D := D) (ci := 1) (v := .int md_species) (C := R_SpeciesSolverModel) (T := T_SpeciesSolverModel) (N := 35) hx hb hts inG_SpeciesSolverModel hown hK hP 0 rfl rfl 6 (by decide) (hts _ gw_824) (fun _ h9 => h9) rfl d_SpeciesSolverModel_strongBefore_2 ?_
  refine lv_icmp_ge (tgt := 17) hx hb d_SpeciesSolverModel_strongBefore_5 (by decide) (fun c1 => ?_) (fun c1 => ?_)
  · replace hm := ifT hm c1
    refine lv_aload_n hx hb d_SpeciesSolverModel_strongBefore_17 rfl (lv_at hl 0 rfl) ?_
    refine va_get (D := D) (ci := 1) (v := .ref (ad 5)) (C := R_SpeciesSolverModel) (T := T_SpeciesSolverModel) (N := 35) hx hb hts inG_SpeciesSolverModel hown hK hP 0 rfl rfl 10 (by decide) (hts _ gw_828) (fun _ h9 => h9) rfl d_SpeciesSolverModel_strongBefore_18 ?_
    refine lv_iload_n hx hb d_SpeciesSolverModel_strongBefore_21 rfl (lv_at hl 1 rfl) ?_
    refine lv_aload_n hx hb d_SpeciesSolverModel_strongBefore_22 rfl (lv_at hl 0 rfl) ?_
    refine va_get (D := D) (ci := 1) (v := .int md_species) (C := R_SpeciesSolverModel) (T := T_SpeciesSolverModel) (N := 35) hx hb hts inG_SpeciesSolverModel hown hK hP 0 rfl rfl 6 (by decide) (hts _ gw_824) (fun _ h9 => h9) rfl d_SpeciesSolverModel_strongBefore_23 ?_
    refine lv_isub hx hb d_SpeciesSolverModel_strongBefore_26 ?_
    obtain ⟨hi2, hm⟩ := gd_some hm
    refine va_iald hx hb hK hP 1 0 rfl rfl hi2 d_SpeciesSolverModel_strongBefore_27 ?_
    replace hm := Option.some.inj hm; subst hm
    exact zret_i C hP hD hS d_SpeciesSolverModel_strongBefore_28
  · replace hm := ifF hm c1
    refine lv_aload_n hx hb d_SpeciesSolverModel_strongBefore_8 rfl (lv_at hl 0 rfl) ?_
    refine va_get (D := D) (ci := 1) (v := .ref (ad 5)) (C := R_SpeciesSolverModel) (T := T_SpeciesSolverModel) (N := 35) hx hb hts inG_SpeciesSolverModel hown hK hP 0 rfl rfl 10 (by decide) (hts _ gw_828) (fun _ h9 => h9) rfl d_SpeciesSolverModel_strongBefore_9 ?_
    refine lv_iconst (v := 0) hx hb d_SpeciesSolverModel_strongBefore_12 (by decide) ?_
    refine va_iald hx hb hK hP 1 0 rfl rfl (in_lit (by decide)) d_SpeciesSolverModel_strongBefore_13 ?_
    refine lv_goto (tgt := 28) hx hb d_SpeciesSolverModel_strongBefore_14 (by decide) ?_
    replace hm := Option.some.inj hm; subst hm
    exact zret_i C hP hD hS d_SpeciesSolverModel_strongBefore_28
set_option maxHeartbeats 4000000 in
set_option maxRecDepth 100000 in
theorem c_SpeciesSolverModel_strongBefore {l : Launch} {D : va_G} {kc : Nat → ClassId} {r : Int32} {ad : Nat → Nat} {md_thrown : Int32} {md_drafted : Int32} {md_lines : Int32} {md_n : Int32} {md_species : Int32} {md_above : Int32} {md_trialSize : Int32} {md_foundSize : Int32} {md_foundSpecies : Int32} {md_foundN : Int32} {md_foundCost : Int32} {md_chosen : Int32} {md_low : Int32} {md_many : Int64} {md_ties : Int64} {md_winnerCost : Int32} {md_allMany : Int64} {md_allTies : Int64} {md_faults : Int32} {md_trial : Nat → Int32} {a1 : Int32} (hm : m_SpeciesSolverModel_strongBefore md_species md_trial a1 = some r) (sz : Nat) : Ci l y_SpeciesSolverModel_strongBefore ws_SpeciesSolverModel_strongBefore rm_SpeciesSolverModel_strongBefore D kc sz [.ref (ad 0), .int a1] (wd_SpeciesSolverModel_strongBefore kc ad md_thrown md_drafted md_lines md_n md_species md_above md_trialSize md_foundSize md_foundSpecies md_foundN md_foundCost md_chosen md_low md_many md_ties md_winnerCost md_allMany md_allTies md_faults md_trial) (wd_SpeciesSolverModel_strongBefore kc ad md_thrown md_drafted md_lines md_n md_species md_above md_trialSize md_foundSize md_foundSpecies md_foundN md_foundCost md_chosen md_low md_many md_ties md_winnerCost md_allMany md_allTies md_faults md_trial) r :=
  Cz_of (Qf := fun A => (Qi D A (wd_SpeciesSolverModel_strongBefore kc ad md_thrown md_drafted md_lines md_n md_species md_above md_trialSize md_foundSize md_foundSpecies md_foundN md_foundCost md_chosen md_low md_many md_ties md_winnerCost md_allMany md_allTies md_faults md_trial) r)) (cc := b_SpeciesSolverModel_strongBefore) (maxL := 2) (ret := (some .int)) (by decide) rfl rfl (fun C hZ hl => e_SpeciesSolverModel_strongBefore C hm hZ hl)
abbrev b_SpeciesSolverModel_isRepeated : ByteArray := prog_9_method_60_code
abbrev y_SpeciesSolverModel_isRepeated : MethodName := ⟨"SpeciesSolverModel", "isRepeated", "(I)Z"⟩
theorem d_SpeciesSolverModel_isRepeated_0 : decode b_SpeciesSolverModel_isRepeated 0 = .ok (.iload_n 1, 1) := by decide +kernel
theorem d_SpeciesSolverModel_isRepeated_1 : decode b_SpeciesSolverModel_isRepeated 1 = .ok (.aload_n 0, 1) := by decide +kernel
theorem d_SpeciesSolverModel_isRepeated_2 : decode b_SpeciesSolverModel_isRepeated 2 = .ok (.getfield 28, 3) := by decide +kernel
theorem d_SpeciesSolverModel_isRepeated_5 : decode b_SpeciesSolverModel_isRepeated 5 = .ok (.bipush 11, 2) := by decide +kernel
theorem d_SpeciesSolverModel_isRepeated_7 : decode b_SpeciesSolverModel_isRepeated 7 = .ok (.iaload, 1) := by decide +kernel
theorem d_SpeciesSolverModel_isRepeated_8 : decode b_SpeciesSolverModel_isRepeated 8 = .ok (.if_icmp .lt 7, 3) := by decide +kernel
theorem d_SpeciesSolverModel_isRepeated_11 : decode b_SpeciesSolverModel_isRepeated 11 = .ok (.iconst 1, 1) := by decide +kernel
theorem d_SpeciesSolverModel_isRepeated_12 : decode b_SpeciesSolverModel_isRepeated 12 = .ok (.goto 4, 3) := by decide +kernel
theorem d_SpeciesSolverModel_isRepeated_15 : decode b_SpeciesSolverModel_isRepeated 15 = .ok (.iconst 0, 1) := by decide +kernel
theorem d_SpeciesSolverModel_isRepeated_16 : decode b_SpeciesSolverModel_isRepeated 16 = .ok (.istore_n 2, 1) := by decide +kernel
theorem d_SpeciesSolverModel_isRepeated_17 : decode b_SpeciesSolverModel_isRepeated 17 = .ok (.iconst 1, 1) := by decide +kernel
theorem d_SpeciesSolverModel_isRepeated_18 : decode b_SpeciesSolverModel_isRepeated 18 = .ok (.istore_n 3, 1) := by decide +kernel
theorem d_SpeciesSolverModel_isRepeated_19 : decode b_SpeciesSolverModel_isRepeated 19 = .ok (.iload_n 3, 1) := by decide +kernel
theorem d_SpeciesSolverModel_isRepeated_20 : decode b_SpeciesSolverModel_isRepeated 20 = .ok (.aload_n 0, 1) := by decide +kernel
theorem d_SpeciesSolverModel_isRepeated_21 : decode b_SpeciesSolverModel_isRepeated 21 = .ok (.getfield 28, 3) := by decide +kernel
theorem d_SpeciesSolverModel_isRepeated_24 : decode b_SpeciesSolverModel_isRepeated 24 = .ok (.bipush 11, 2) := by decide +kernel
theorem d_SpeciesSolverModel_isRepeated_26 : decode b_SpeciesSolverModel_isRepeated 26 = .ok (.iaload, 1) := by decide +kernel
theorem d_SpeciesSolverModel_isRepeated_27 : decode b_SpeciesSolverModel_isRepeated 27 = .ok (.if_icmp .gt 36, 3) := by decide +kernel
theorem d_SpeciesSolverModel_isRepeated_30 : decode b_SpeciesSolverModel_isRepeated 30 = .ok (.iload_n 2, 1) := by decide +kernel
theorem d_SpeciesSolverModel_isRepeated_31 : decode b_SpeciesSolverModel_isRepeated 31 = .ok (.ifCond .eq 32, 3) := by decide +kernel
theorem d_SpeciesSolverModel_isRepeated_34 : decode b_SpeciesSolverModel_isRepeated 34 = .ok (.aload_n 0, 1) := by decide +kernel
theorem d_SpeciesSolverModel_isRepeated_35 : decode b_SpeciesSolverModel_isRepeated 35 = .ok (.getfield 31, 3) := by decide +kernel
theorem d_SpeciesSolverModel_isRepeated_38 : decode b_SpeciesSolverModel_isRepeated 38 = .ok (.iload_n 1, 1) := by decide +kernel
theorem d_SpeciesSolverModel_isRepeated_39 : decode b_SpeciesSolverModel_isRepeated 39 = .ok (.iload_n 3, 1) := by decide +kernel
theorem d_SpeciesSolverModel_isRepeated_40 : decode b_SpeciesSolverModel_isRepeated 40 = .ok (.isub, 1) := by decide +kernel
theorem d_SpeciesSolverModel_isRepeated_41 : decode b_SpeciesSolverModel_isRepeated 41 = .ok (.iaload, 1) := by decide +kernel
theorem d_SpeciesSolverModel_isRepeated_42 : decode b_SpeciesSolverModel_isRepeated 42 = .ok (.aload_n 0, 1) := by decide +kernel
theorem d_SpeciesSolverModel_isRepeated_43 : decode b_SpeciesSolverModel_isRepeated 43 = .ok (.getfield 31, 3) := by decide +kernel
theorem d_SpeciesSolverModel_isRepeated_46 : decode b_SpeciesSolverModel_isRepeated 46 = .ok (.iload_n 1, 1) := by decide +kernel
theorem d_SpeciesSolverModel_isRepeated_47 : decode b_SpeciesSolverModel_isRepeated 47 = .ok (.iaload, 1) := by decide +kernel
theorem d_SpeciesSolverModel_isRepeated_48 : decode b_SpeciesSolverModel_isRepeated 48 = .ok (.if_icmp .ne 7, 3) := by decide +kernel
theorem d_SpeciesSolverModel_isRepeated_51 : decode b_SpeciesSolverModel_isRepeated 51 = .ok (.iconst 1, 1) := by decide +kernel
theorem d_SpeciesSolverModel_isRepeated_52 : decode b_SpeciesSolverModel_isRepeated 52 = .ok (.goto 4, 3) := by decide +kernel
theorem d_SpeciesSolverModel_isRepeated_55 : decode b_SpeciesSolverModel_isRepeated 55 = .ok (.iconst 0, 1) := by decide +kernel
theorem d_SpeciesSolverModel_isRepeated_56 : decode b_SpeciesSolverModel_isRepeated 56 = .ok (.istore_n 2, 1) := by decide +kernel
theorem d_SpeciesSolverModel_isRepeated_57 : decode b_SpeciesSolverModel_isRepeated 57 = .ok (.iinc 3 1, 3) := by decide +kernel
theorem d_SpeciesSolverModel_isRepeated_60 : decode b_SpeciesSolverModel_isRepeated 60 = .ok (.goto (-41), 3) := by decide +kernel
theorem d_SpeciesSolverModel_isRepeated_63 : decode b_SpeciesSolverModel_isRepeated 63 = .ok (.iload_n 2, 1) := by decide +kernel
theorem d_SpeciesSolverModel_isRepeated_64 : decode b_SpeciesSolverModel_isRepeated 64 = .ok (.ireturn, 1) := by decide +kernel
abbrev wd_SpeciesSolverModel_isRepeated (kc : Nat → ClassId) (ad : Nat → Nat) (md_thrown : Int32) (md_drafted : Int32) (md_lines : Int32) (md_n : Int32) (md_species : Int32) (md_above : Int32) (md_trialSize : Int32) (md_foundSize : Int32) (md_foundSpecies : Int32) (md_foundN : Int32) (md_foundCost : Int32) (md_chosen : Int32) (md_low : Int32) (md_many : Int64) (md_ties : Int64) (md_winnerCost : Int32) (md_allMany : Int64) (md_allTies : Int64) (md_faults : Int32) (md_numbers : Nat → Int32) (md_trial : Nat → Int32) : va_W := [((ad 0), .inr (1, [.int md_thrown, .ref (ad 1), .int md_drafted, .ref (ad 2), .int md_lines, .int md_n, .int md_species, .int md_above, .ref (ad 3), .ref (ad 4), .ref (ad 5), .int md_trialSize, .ref (ad 6), .int md_foundSize, .int md_foundSpecies, .int md_foundN, .int md_foundCost, .ref (ad 7), .int md_chosen, .ref (ad 8), .ref (ad 9), .ref (ad 10), .int md_low, .long md_many, .long md_ties, .ref (ad 11), .ref (ad 12), .int md_winnerCost, .long md_allMany, .long md_allTies, .ref (ad 13), .ref (ad 14), .ref (ad 15), .ref (ad 16), .int md_faults])), ((ad 4), .inl (kc 0, 18, .inl md_numbers)), ((ad 5), .inl (kc 0, 45, .inl md_trial))]
abbrev rm_SpeciesSolverModel_isRepeated : Room := { frames := 0, cells := 0, slots := 0, locals := 0 }
abbrev cw_SpeciesSolverModel_isRepeated : Cond := .code y_SpeciesSolverModel_isRepeated b_SpeciesSolverModel_isRepeated 4 (some .boolean)
abbrev ws_SpeciesSolverModel_isRepeated : List Cond := cw_SpeciesSolverModel_isRepeated :: GW
theorem hd_SpeciesSolverModel_isRepeated : y_SpeciesSolverModel_isRepeated.cls ≠ "java/lang/invoke/MethodHandle" ∧ y_SpeciesSolverModel_isRepeated.cls ≠ "java/lang/invoke/VarHandle" ∧ (parseMethodDescriptor y_SpeciesSolverModel_isRepeated.desc).map (fun d => d.parameters.length) = some 1 := by decide +kernel
def m_SpeciesSolverModel_isRepeated_56 (F : Nat) (md_numbers : Nat → Int32) (md_trial : Nat → Int32) (k19 : Int32 → Int32 → Int32 → Option (Int32))  (x1 : Int32) (x3 : Int32) (t0 : Int32) : Option (Int32) :=
  k19 x1 t0 (x3 + 1)
set_option maxHeartbeats 4000000 in
set_option maxRecDepth 100000 in
theorem l_SpeciesSolverModel_isRepeated_56 {r : Int32} {F : Nat} {ad : Nat → Nat} {md_thrown : Int32} {md_drafted : Int32} {md_lines : Int32} {md_n : Int32} {md_species : Int32} {md_above : Int32} {md_trialSize : Int32} {md_foundSize : Int32} {md_foundSpecies : Int32} {md_foundN : Int32} {md_foundCost : Int32} {md_chosen : Int32} {md_low : Int32} {md_many : Int64} {md_ties : Int64} {md_winnerCost : Int32} {md_allMany : Int64} {md_allTies : Int64} {md_faults : Int32} {md_numbers : Nat → Int32} {md_trial : Nat → Int32} {k19 : Int32 → Int32 → Int32 → Option (Int32)} {x1 : Int32} {x3 : Int32} {t0 : Int32} {H : Heap} {locs : List Loc} {ls : Array Slot} (C : Cx p s m meth c args A D kc R_SpeciesSolverModel b_SpeciesSolverModel_isRepeated 4 (some .boolean)) (hk19 : (∀  (x1 : Int32) (x2 : Int32) (x3 : Int32) (H : Heap) (locs : List Loc) (ls : Array Slot), k19 x1 x2 x3 = some r → St D A s (wd_SpeciesSolverModel_isRepeated kc ad md_thrown md_drafted md_lines md_n md_species md_above md_trialSize md_foundSize md_foundSpecies md_foundN md_foundCost md_chosen md_low md_many md_ties md_winnerCost md_allMany md_allTies md_faults md_numbers md_trial) H locs → lv_has ls 4 [(0, .ref (ad 0)), (1, .int x1), (2, .int x2), (3, .int x3)] → W p l e rm_SpeciesSolverModel_isRepeated s m args below meth c H locs 0 0 (MQ below (Qi D A (wd_SpeciesSolverModel_isRepeated kc ad md_thrown md_drafted md_lines md_n md_species md_above md_trialSize md_foundSize md_foundSpecies md_foundN md_foundCost md_chosen md_low md_many md_ties md_winnerCost md_allMany md_allTies md_faults md_numbers md_trial) r) args s 0 0 A) (F0 m 19 ls []))) (hm : m_SpeciesSolverModel_isRepeated_56 F md_numbers md_trial k19 x1 x3 t0 = some r) (hZ : St D A s (wd_SpeciesSolverModel_isRepeated kc ad md_thrown md_drafted md_lines md_n md_species md_above md_trialSize md_foundSize md_foundSpecies md_foundN md_foundCost md_chosen md_low md_many md_ties md_winnerCost md_allMany md_allTies md_faults md_numbers md_trial) H locs) (hl : lv_has ls 4 [(0, .ref (ad 0)), (1, .int x1), (3, .int x3)]) : W p l e rm_SpeciesSolverModel_isRepeated s m args below meth c H locs 0 0 (MQ below (Qi D A (wd_SpeciesSolverModel_isRepeated kc ad md_thrown md_drafted md_lines md_n md_species md_above md_trialSize md_foundSize md_foundSpecies md_foundN md_foundCost md_chosen md_low md_many md_ties md_winnerCost md_allMany md_allTies md_faults md_numbers md_trial) r) args s 0 0 A) (F0 m 56 ls [.int t0]) := by
  obtain ⟨hx, hb, hr, hts, hown, hml, hlocks, hK, hN, hA, hX⟩ := id C
  obtain ⟨hP, hD, hS⟩ := hZ
  unfold m_SpeciesSolverModel_isRepeated_56 at hm
  refine lv_istore_n (lv' := [(2, .int t0), (0, .ref (ad 0)), (1, .int x1), (3, .int x3)]) hx hb d_SpeciesSolverModel_isRepeated_56 rfl hl (by decide) rfl (fun ls hl => ?_)
  refine lv_iinc (v := (x3 + 1)) (lv' := [(3, .int (x3 + 1)), (2, .int t0), (0, .ref (ad 0)), (1, .int x1)]) hx hb d_SpeciesSolverModel_isRepeated_57 hl (k := 3) rfl rfl (by decide) rfl (fun ls hl => ?_)
  refine lv_goto (tgt := 19) hx hb d_SpeciesSolverModel_isRepeated_60 (by decide) ?_
  exact hk19 x1 t0 (x3 + 1) _ _ _ hm ⟨hP, hD, hS⟩ (lv_sub hl [2, 3, 1, 0] rfl)
def m_SpeciesSolverModel_isRepeated_19b (F : Nat) (md_numbers : Nat → Int32) (md_trial : Nat → Int32) (k19 : Int32 → Int32 → Int32 → Option (Int32))  (x1 : Int32) (x2 : Int32) (x3 : Int32) : Option (Int32) :=
  (if (md_numbers (Int32.toNatClampNeg (11 : Int32))) < x3 then
    (gb x2 (some x2))
  else
    (if x2 = (0 : Int32) then
      (gb x2 (some x2))
    else
      (gd (x1 - x3) 45 (gd x1 45 (if (md_trial (Int32.toNatClampNeg (x1 - x3))) = (md_trial (Int32.toNatClampNeg x1)) then
        m_SpeciesSolverModel_isRepeated_56 F md_numbers md_trial k19 x1 x3 (1 : Int32)
      else
        m_SpeciesSolverModel_isRepeated_56 F md_numbers md_trial k19 x1 x3 (0 : Int32))))))
set_option maxHeartbeats 4000000 in
set_option maxRecDepth 100000 in
theorem l_SpeciesSolverModel_isRepeated_19 {r : Int32} {F : Nat} {ad : Nat → Nat} {md_thrown : Int32} {md_drafted : Int32} {md_lines : Int32} {md_n : Int32} {md_species : Int32} {md_above : Int32} {md_trialSize : Int32} {md_foundSize : Int32} {md_foundSpecies : Int32} {md_foundN : Int32} {md_foundCost : Int32} {md_chosen : Int32} {md_low : Int32} {md_many : Int64} {md_ties : Int64} {md_winnerCost : Int32} {md_allMany : Int64} {md_allTies : Int64} {md_faults : Int32} {md_numbers : Nat → Int32} {md_trial : Nat → Int32} {k19 : Int32 → Int32 → Int32 → Option (Int32)} {x1 : Int32} {x2 : Int32} {x3 : Int32} {H : Heap} {locs : List Loc} {ls : Array Slot} (C : Cx p s m meth c args A D kc R_SpeciesSolverModel b_SpeciesSolverModel_isRepeated 4 (some .boolean)) (hk19 : (∀  (x1 : Int32) (x2 : Int32) (x3 : Int32) (H : Heap) (locs : List Loc) (ls : Array Slot), k19 x1 x2 x3 = some r → St D A s (wd_SpeciesSolverModel_isRepeated kc ad md_thrown md_drafted md_lines md_n md_species md_above md_trialSize md_foundSize md_foundSpecies md_foundN md_foundCost md_chosen md_low md_many md_ties md_winnerCost md_allMany md_allTies md_faults md_numbers md_trial) H locs → lv_has ls 4 [(0, .ref (ad 0)), (1, .int x1), (2, .int x2), (3, .int x3)] → W p l e rm_SpeciesSolverModel_isRepeated s m args below meth c H locs 0 0 (MQ below (Qi D A (wd_SpeciesSolverModel_isRepeated kc ad md_thrown md_drafted md_lines md_n md_species md_above md_trialSize md_foundSize md_foundSpecies md_foundN md_foundCost md_chosen md_low md_many md_ties md_winnerCost md_allMany md_allTies md_faults md_numbers md_trial) r) args s 0 0 A) (F0 m 19 ls []))) (hm : m_SpeciesSolverModel_isRepeated_19b F md_numbers md_trial k19 x1 x2 x3 = some r) (hZ : St D A s (wd_SpeciesSolverModel_isRepeated kc ad md_thrown md_drafted md_lines md_n md_species md_above md_trialSize md_foundSize md_foundSpecies md_foundN md_foundCost md_chosen md_low md_many md_ties md_winnerCost md_allMany md_allTies md_faults md_numbers md_trial) H locs) (hl : lv_has ls 4 [(0, .ref (ad 0)), (1, .int x1), (2, .int x2), (3, .int x3)]) : W p l e rm_SpeciesSolverModel_isRepeated s m args below meth c H locs 0 0 (MQ below (Qi D A (wd_SpeciesSolverModel_isRepeated kc ad md_thrown md_drafted md_lines md_n md_species md_above md_trialSize md_foundSize md_foundSpecies md_foundN md_foundCost md_chosen md_low md_many md_ties md_winnerCost md_allMany md_allTies md_faults md_numbers md_trial) r) args s 0 0 A) (F0 m 19 ls []) := by
  obtain ⟨hx, hb, hr, hts, hown, hml, hlocks, hK, hN, hA, hX⟩ := id C
  obtain ⟨hP, hD, hS⟩ := hZ
  unfold m_SpeciesSolverModel_isRepeated_19b at hm
  refine lv_iload_n hx hb d_SpeciesSolverModel_isRepeated_19 rfl (lv_at hl 3 rfl) ?_
  refine lv_aload_n hx hb d_SpeciesSolverModel_isRepeated_20 rfl (lv_at hl 0 rfl) ?_
  refine va_get (D := D) (ci := 1) (v := .ref (ad 4)) (C := R_SpeciesSolverModel) (T := T_SpeciesSolverModel) (N := 35) hx hb hts inG_SpeciesSolverModel hown hK hP 0 rfl rfl 9 (by decide) (hts _ gw_827) (fun _ h9 => h9) rfl d_SpeciesSolverModel_isRepeated_21 ?_
  refine lv_bipush (v := 11) hx hb d_SpeciesSolverModel_isRepeated_24 (by decide) ?_
  refine va_iald hx hb hK hP 1 0 rfl rfl (in_lit (by decide)) d_SpeciesSolverModel_isRepeated_26 ?_
  refine lv_icmp_gt (tgt := 63) hx hb d_SpeciesSolverModel_isRepeated_27 (by decide) (fun c1 => ?_) (fun c1 => ?_)
  · replace hm := ifT hm c1
    refine lv_iload_n hx hb d_SpeciesSolverModel_isRepeated_63 rfl (lv_at hl 2 rfl) ?_
    obtain ⟨hz2, hm⟩ := gb_some hm
    replace hm := Option.some.inj hm; subst hm
    exact zret_z (v := x2) C hP hD hS (gb_nar hz2) d_SpeciesSolverModel_isRepeated_64
  · replace hm := ifF hm c1
    refine lv_iload_n hx hb d_SpeciesSolverModel_isRepeated_30 rfl (lv_at hl 2 rfl) ?_
    refine lv_if_eq (tgt := 63) hx hb d_SpeciesSolverModel_isRepeated_31 (by decide) (fun c3 => ?_) (fun c3 => ?_)
    · replace hm := ifT hm c3
      refine lv_iload_n hx hb d_SpeciesSolverModel_isRepeated_63 rfl (lv_at hl 2 rfl) ?_
      obtain ⟨hz4, hm⟩ := gb_some hm
      replace hm := Option.some.inj hm; subst hm
      exact zret_z (v := x2) C hP hD hS (gb_nar hz4) d_SpeciesSolverModel_isRepeated_64
    · replace hm := ifF hm c3
      refine lv_aload_n hx hb d_SpeciesSolverModel_isRepeated_34 rfl (lv_at hl 0 rfl) ?_
      refine va_get (D := D) (ci := 1) (v := .ref (ad 5)) (C := R_SpeciesSolverModel) (T := T_SpeciesSolverModel) (N := 35) hx hb hts inG_SpeciesSolverModel hown hK hP 0 rfl rfl 10 (by decide) (hts _ gw_828) (fun _ h9 => h9) rfl d_SpeciesSolverModel_isRepeated_35 ?_
      refine lv_iload_n hx hb d_SpeciesSolverModel_isRepeated_38 rfl (lv_at hl 1 rfl) ?_
      refine lv_iload_n hx hb d_SpeciesSolverModel_isRepeated_39 rfl (lv_at hl 3 rfl) ?_
      refine lv_isub hx hb d_SpeciesSolverModel_isRepeated_40 ?_
      obtain ⟨hi5, hm⟩ := gd_some hm
      refine va_iald hx hb hK hP 2 0 rfl rfl hi5 d_SpeciesSolverModel_isRepeated_41 ?_
      refine lv_aload_n hx hb d_SpeciesSolverModel_isRepeated_42 rfl (lv_at hl 0 rfl) ?_
      refine va_get (D := D) (ci := 1) (v := .ref (ad 5)) (C := R_SpeciesSolverModel) (T := T_SpeciesSolverModel) (N := 35) hx hb hts inG_SpeciesSolverModel hown hK hP 0 rfl rfl 10 (by decide) (hts _ gw_828) (fun _ h9 => h9) rfl d_SpeciesSolverModel_isRepeated_43 ?_
      refine lv_iload_n hx hb d_SpeciesSolverModel_isRepeated_46 rfl (lv_at hl 1 rfl) ?_
      obtain ⟨hi6, hm⟩ := gd_some hm
      refine va_iald hx hb hK hP 2 0 rfl rfl hi6 d_SpeciesSolverModel_isRepeated_47 ?_
      refine lv_icmp_ne (tgt := 55) hx hb d_SpeciesSolverModel_isRepeated_48 (by decide) (fun c7 => ?_) (fun c7 => ?_)
      · replace hm := ifF hm c7
        refine lv_iconst (v := 0) hx hb d_SpeciesSolverModel_isRepeated_55 (by decide) ?_
        exact l_SpeciesSolverModel_isRepeated_56 C hk19 hm ⟨hP, hD, hS⟩ (lv_sub hl [0, 1, 3] rfl)
      · replace hm := ifT hm c7
        refine lv_iconst (v := 1) hx hb d_SpeciesSolverModel_isRepeated_51 (by decide) ?_
        refine lv_goto (tgt := 56) hx hb d_SpeciesSolverModel_isRepeated_52 (by decide) ?_
        exact l_SpeciesSolverModel_isRepeated_56 C hk19 hm ⟨hP, hD, hS⟩ (lv_sub hl [0, 1, 3] rfl)
def m_SpeciesSolverModel_isRepeated_19 (F : Nat) (md_numbers : Nat → Int32) (md_trial : Nat → Int32)  : Nat → Int32 → Int32 → Int32 → Option (Int32)
  | 0 => fun _ _ _ => none
  | n + 1 => m_SpeciesSolverModel_isRepeated_19b F md_numbers md_trial  (m_SpeciesSolverModel_isRepeated_19 F md_numbers md_trial  n)
set_option maxHeartbeats 4000000 in
set_option maxRecDepth 100000 in
theorem lp_SpeciesSolverModel_isRepeated_19 {r : Int32} {F : Nat} {ad : Nat → Nat} {md_thrown : Int32} {md_drafted : Int32} {md_lines : Int32} {md_n : Int32} {md_species : Int32} {md_above : Int32} {md_trialSize : Int32} {md_foundSize : Int32} {md_foundSpecies : Int32} {md_foundN : Int32} {md_foundCost : Int32} {md_chosen : Int32} {md_low : Int32} {md_many : Int64} {md_ties : Int64} {md_winnerCost : Int32} {md_allMany : Int64} {md_allTies : Int64} {md_faults : Int32} {md_numbers : Nat → Int32} {md_trial : Nat → Int32}  (C : Cx p s m meth c args A D kc R_SpeciesSolverModel b_SpeciesSolverModel_isRepeated 4 (some .boolean))  : ∀ (n : Nat)  (x1 : Int32) (x2 : Int32) (x3 : Int32) (H : Heap) (locs : List Loc) (ls : Array Slot), m_SpeciesSolverModel_isRepeated_19 F md_numbers md_trial  n x1 x2 x3 = some r → St D A s (wd_SpeciesSolverModel_isRepeated kc ad md_thrown md_drafted md_lines md_n md_species md_above md_trialSize md_foundSize md_foundSpecies md_foundN md_foundCost md_chosen md_low md_many md_ties md_winnerCost md_allMany md_allTies md_faults md_numbers md_trial) H locs → lv_has ls 4 [(0, .ref (ad 0)), (1, .int x1), (2, .int x2), (3, .int x3)] → W p l e rm_SpeciesSolverModel_isRepeated s m args below meth c H locs 0 0 (MQ below (Qi D A (wd_SpeciesSolverModel_isRepeated kc ad md_thrown md_drafted md_lines md_n md_species md_above md_trialSize md_foundSize md_foundSpecies md_foundN md_foundCost md_chosen md_low md_many md_ties md_winnerCost md_allMany md_allTies md_faults md_numbers md_trial) r) args s 0 0 A) (F0 m 19 ls []) := by
  intro n
  induction n with
  | zero => intro x1 x2 x3 H locs ls hm; cases hm
  | succ n ih => intro x1 x2 x3 H locs ls hm hZ hl; exact l_SpeciesSolverModel_isRepeated_19 C  ih hm hZ hl
def m_SpeciesSolverModel_isRepeated_16 (F : Nat) (md_numbers : Nat → Int32) (md_trial : Nat → Int32)   (x1 : Int32) (t0 : Int32) : Option (Int32) :=
  m_SpeciesSolverModel_isRepeated_19 F md_numbers md_trial  F x1 t0 (1 : Int32)
set_option maxHeartbeats 4000000 in
set_option maxRecDepth 100000 in
theorem l_SpeciesSolverModel_isRepeated_16 {r : Int32} {F : Nat} {ad : Nat → Nat} {md_thrown : Int32} {md_drafted : Int32} {md_lines : Int32} {md_n : Int32} {md_species : Int32} {md_above : Int32} {md_trialSize : Int32} {md_foundSize : Int32} {md_foundSpecies : Int32} {md_foundN : Int32} {md_foundCost : Int32} {md_chosen : Int32} {md_low : Int32} {md_many : Int64} {md_ties : Int64} {md_winnerCost : Int32} {md_allMany : Int64} {md_allTies : Int64} {md_faults : Int32} {md_numbers : Nat → Int32} {md_trial : Nat → Int32}  {x1 : Int32} {t0 : Int32} {H : Heap} {locs : List Loc} {ls : Array Slot} (C : Cx p s m meth c args A D kc R_SpeciesSolverModel b_SpeciesSolverModel_isRepeated 4 (some .boolean))  (hm : m_SpeciesSolverModel_isRepeated_16 F md_numbers md_trial  x1 t0 = some r) (hZ : St D A s (wd_SpeciesSolverModel_isRepeated kc ad md_thrown md_drafted md_lines md_n md_species md_above md_trialSize md_foundSize md_foundSpecies md_foundN md_foundCost md_chosen md_low md_many md_ties md_winnerCost md_allMany md_allTies md_faults md_numbers md_trial) H locs) (hl : lv_has ls 4 [(0, .ref (ad 0)), (1, .int x1)]) : W p l e rm_SpeciesSolverModel_isRepeated s m args below meth c H locs 0 0 (MQ below (Qi D A (wd_SpeciesSolverModel_isRepeated kc ad md_thrown md_drafted md_lines md_n md_species md_above md_trialSize md_foundSize md_foundSpecies md_foundN md_foundCost md_chosen md_low md_many md_ties md_winnerCost md_allMany md_allTies md_faults md_numbers md_trial) r) args s 0 0 A) (F0 m 16 ls [.int t0]) := by
  obtain ⟨hx, hb, hr, hts, hown, hml, hlocks, hK, hN, hA, hX⟩ := id C
  obtain ⟨hP, hD, hS⟩ := hZ
  unfold m_SpeciesSolverModel_isRepeated_16 at hm
  refine lv_istore_n (lv' := [(2, .int t0), (0, .ref (ad 0)), (1, .int x1)]) hx hb d_SpeciesSolverModel_isRepeated_16 rfl hl (by decide) rfl (fun ls hl => ?_)
  refine lv_iconst (v := 1) hx hb d_SpeciesSolverModel_isRepeated_17 (by decide) ?_
  refine lv_istore_n (lv' := [(3, .int (1 : Int32)), (2, .int t0), (0, .ref (ad 0)), (1, .int x1)]) hx hb d_SpeciesSolverModel_isRepeated_18 rfl hl (by decide) rfl (fun ls hl => ?_)
  exact lp_SpeciesSolverModel_isRepeated_19 C  F x1 t0 (1 : Int32) _ _ _ hm ⟨hP, hD, hS⟩ (lv_sub hl [2, 3, 1, 0] rfl)
def m_SpeciesSolverModel_isRepeated (F : Nat) (md_numbers : Nat → Int32) (md_trial : Nat → Int32)  (a1 : Int32) : Option (Int32) :=
  (if a1 < (md_numbers (Int32.toNatClampNeg (11 : Int32))) then
    m_SpeciesSolverModel_isRepeated_16 F md_numbers md_trial  a1 (0 : Int32)
  else
    m_SpeciesSolverModel_isRepeated_16 F md_numbers md_trial  a1 (1 : Int32))
set_option maxHeartbeats 4000000 in
set_option maxRecDepth 100000 in
theorem e_SpeciesSolverModel_isRepeated {r : Int32} {F : Nat} {ad : Nat → Nat} {md_thrown : Int32} {md_drafted : Int32} {md_lines : Int32} {md_n : Int32} {md_species : Int32} {md_above : Int32} {md_trialSize : Int32} {md_foundSize : Int32} {md_foundSpecies : Int32} {md_foundN : Int32} {md_foundCost : Int32} {md_chosen : Int32} {md_low : Int32} {md_many : Int64} {md_ties : Int64} {md_winnerCost : Int32} {md_allMany : Int64} {md_allTies : Int64} {md_faults : Int32} {md_numbers : Nat → Int32} {md_trial : Nat → Int32} {a1 : Int32} {H : Heap} {locs : List Loc} {ls : Array Slot} (C : Cx p s m meth c args A D kc R_SpeciesSolverModel b_SpeciesSolverModel_isRepeated 4 (some .boolean)) (hm : m_SpeciesSolverModel_isRepeated F md_numbers md_trial a1 = some r) (hZ : St D A s (wd_SpeciesSolverModel_isRepeated kc ad md_thrown md_drafted md_lines md_n md_species md_above md_trialSize md_foundSize md_foundSpecies md_foundN md_foundCost md_chosen md_low md_many md_ties md_winnerCost md_allMany md_allTies md_faults md_numbers md_trial) H locs) (hl : lv_has ls 4 [(0, .ref (ad 0)), (1, .int a1)]) : W p l e rm_SpeciesSolverModel_isRepeated s m args below meth c H locs 0 0 (MQ below (Qi D A (wd_SpeciesSolverModel_isRepeated kc ad md_thrown md_drafted md_lines md_n md_species md_above md_trialSize md_foundSize md_foundSpecies md_foundN md_foundCost md_chosen md_low md_many md_ties md_winnerCost md_allMany md_allTies md_faults md_numbers md_trial) r) args s 0 0 A) (F0 m 0 ls []) := by
  obtain ⟨hx, hb, hr, hts, hown, hml, hlocks, hK, hN, hA, hX⟩ := id C
  obtain ⟨hP, hD, hS⟩ := hZ
  unfold m_SpeciesSolverModel_isRepeated at hm
  refine lv_iload_n hx hb d_SpeciesSolverModel_isRepeated_0 rfl (lv_at hl 1 rfl) ?_
  refine lv_aload_n hx hb d_SpeciesSolverModel_isRepeated_1 rfl (lv_at hl 0 rfl) ?_
  refine va_get (D := D) (ci := 1) (v := .ref (ad 4)) (C := R_SpeciesSolverModel) (T := T_SpeciesSolverModel) (N := 35) hx hb hts inG_SpeciesSolverModel hown hK hP 0 rfl rfl 9 (by decide) (hts _ gw_827) (fun _ h9 => h9) rfl d_SpeciesSolverModel_isRepeated_2 ?_
  refine lv_bipush (v := 11) hx hb d_SpeciesSolverModel_isRepeated_5 (by decide) ?_
  refine va_iald hx hb hK hP 1 0 rfl rfl (in_lit (by decide)) d_SpeciesSolverModel_isRepeated_7 ?_
  refine lv_icmp_lt (tgt := 15) hx hb d_SpeciesSolverModel_isRepeated_8 (by decide) (fun c1 => ?_) (fun c1 => ?_)
  · replace hm := ifT hm c1
    refine lv_iconst (v := 0) hx hb d_SpeciesSolverModel_isRepeated_15 (by decide) ?_
    exact l_SpeciesSolverModel_isRepeated_16 C  hm ⟨hP, hD, hS⟩ (lv_sub hl [0, 1] rfl)
  · replace hm := ifF hm c1
    refine lv_iconst (v := 1) hx hb d_SpeciesSolverModel_isRepeated_11 (by decide) ?_
    refine lv_goto (tgt := 16) hx hb d_SpeciesSolverModel_isRepeated_12 (by decide) ?_
    exact l_SpeciesSolverModel_isRepeated_16 C  hm ⟨hP, hD, hS⟩ (lv_sub hl [0, 1] rfl)
set_option maxHeartbeats 4000000 in
set_option maxRecDepth 100000 in
theorem c_SpeciesSolverModel_isRepeated {l : Launch} {D : va_G} {kc : Nat → ClassId} {r : Int32} {F : Nat} {ad : Nat → Nat} {md_thrown : Int32} {md_drafted : Int32} {md_lines : Int32} {md_n : Int32} {md_species : Int32} {md_above : Int32} {md_trialSize : Int32} {md_foundSize : Int32} {md_foundSpecies : Int32} {md_foundN : Int32} {md_foundCost : Int32} {md_chosen : Int32} {md_low : Int32} {md_many : Int64} {md_ties : Int64} {md_winnerCost : Int32} {md_allMany : Int64} {md_allTies : Int64} {md_faults : Int32} {md_numbers : Nat → Int32} {md_trial : Nat → Int32} {a1 : Int32} (hm : m_SpeciesSolverModel_isRepeated F md_numbers md_trial a1 = some r) (sz : Nat) : Ci l y_SpeciesSolverModel_isRepeated ws_SpeciesSolverModel_isRepeated rm_SpeciesSolverModel_isRepeated D kc sz [.ref (ad 0), .int a1] (wd_SpeciesSolverModel_isRepeated kc ad md_thrown md_drafted md_lines md_n md_species md_above md_trialSize md_foundSize md_foundSpecies md_foundN md_foundCost md_chosen md_low md_many md_ties md_winnerCost md_allMany md_allTies md_faults md_numbers md_trial) (wd_SpeciesSolverModel_isRepeated kc ad md_thrown md_drafted md_lines md_n md_species md_above md_trialSize md_foundSize md_foundSpecies md_foundN md_foundCost md_chosen md_low md_many md_ties md_winnerCost md_allMany md_allTies md_faults md_numbers md_trial) r :=
  Cz_of (Qf := fun A => (Qi D A (wd_SpeciesSolverModel_isRepeated kc ad md_thrown md_drafted md_lines md_n md_species md_above md_trialSize md_foundSize md_foundSpecies md_foundN md_foundCost md_chosen md_low md_many md_ties md_winnerCost md_allMany md_allTies md_faults md_numbers md_trial) r)) (cc := b_SpeciesSolverModel_isRepeated) (maxL := 4) (ret := (some .boolean)) (by decide) rfl rfl (fun C hZ hl => e_SpeciesSolverModel_isRepeated C hm hZ hl)
end
