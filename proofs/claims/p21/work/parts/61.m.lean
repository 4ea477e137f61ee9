section
variable {p : Program} {l : Launch} {e : Env} {s : State} {m : MethodId} {args : Array Value} {below : List Frame} {meth : Method} {c : Code} {D : va_G} {kc : Nat → ClassId} {A : Nat → Prop}
abbrev b_SpeciesSolverModel_isHighestAgain : ByteArray := prog_9_method_61_code
abbrev y_SpeciesSolverModel_isHighestAgain : MethodName := ⟨"SpeciesSolverModel", "isHighestAgain", "(I)Z"⟩
theorem d_SpeciesSolverModel_isHighestAgain_0 : decode b_SpeciesSolverModel_isHighestAgain 0 = .ok (.iconst 1, 1) := by decide +kernel
theorem d_SpeciesSolverModel_isHighestAgain_1 : decode b_SpeciesSolverModel_isHighestAgain 1 = .ok (.istore_n 2, 1) := by decide +kernel
theorem d_SpeciesSolverModel_isHighestAgain_2 : decode b_SpeciesSolverModel_isHighestAgain 2 = .ok (.iconst 0, 1) := by decide +kernel
theorem d_SpeciesSolverModel_isHighestAgain_3 : decode b_SpeciesSolverModel_isHighestAgain 3 = .ok (.istore_n 3, 1) := by decide +kernel
theorem d_SpeciesSolverModel_isHighestAgain_4 : decode b_SpeciesSolverModel_isHighestAgain 4 = .ok (.iconst 0, 1) := by decide +kernel
theorem d_SpeciesSolverModel_isHighestAgain_5 : decode b_SpeciesSolverModel_isHighestAgain 5 = .ok (.istore 4, 2) := by decide +kernel
theorem d_SpeciesSolverModel_isHighestAgain_7 : decode b_SpeciesSolverModel_isHighestAgain 7 = .ok (.iload 4, 2) := by decide +kernel
theorem d_SpeciesSolverModel_isHighestAgain_9 : decode b_SpeciesSolverModel_isHighestAgain 9 = .ok (.aload_n 0, 1) := by decide +kernel
theorem d_SpeciesSolverModel_isHighestAgain_10 : decode b_SpeciesSolverModel_isHighestAgain 10 = .ok (.getfield 84, 3) := by decide +kernel
theorem d_SpeciesSolverModel_isHighestAgain_13 : decode b_SpeciesSolverModel_isHighestAgain 13 = .ok (.if_icmp .ge 63, 3) := by decide +kernel
theorem d_SpeciesSolverModel_isHighestAgain_16 : decode b_SpeciesSolverModel_isHighestAgain 16 = .ok (.iload_n 2, 1) := by decide +kernel
theorem d_SpeciesSolverModel_isHighestAgain_17 : decode b_SpeciesSolverModel_isHighestAgain 17 = .ok (.aload_n 0, 1) := by decide +kernel
theorem d_SpeciesSolverModel_isHighestAgain_18 : decode b_SpeciesSolverModel_isHighestAgain 18 = .ok (.getfield 31, 3) := by decide +kernel
theorem d_SpeciesSolverModel_isHighestAgain_21 : decode b_SpeciesSolverModel_isHighestAgain 21 = .ok (.iload 4, 2) := by decide +kernel
theorem d_SpeciesSolverModel_isHighestAgain_23 : decode b_SpeciesSolverModel_isHighestAgain 23 = .ok (.iaload, 1) := by decide +kernel
theorem d_SpeciesSolverModel_isHighestAgain_24 : decode b_SpeciesSolverModel_isHighestAgain 24 = .ok (.aload_n 0, 1) := by decide +kernel
theorem d_SpeciesSolverModel_isHighestAgain_25 : decode b_SpeciesSolverModel_isHighestAgain 25 = .ok (.getfield 31, 3) := by decide +kernel
theorem d_SpeciesSolverModel_isHighestAgain_28 : decode b_SpeciesSolverModel_isHighestAgain 28 = .ok (.iload_n 1, 1) := by decide +kernel
theorem d_SpeciesSolverModel_isHighestAgain_29 : decode b_SpeciesSolverModel_isHighestAgain 29 = .ok (.iaload, 1) := by decide +kernel
theorem d_SpeciesSolverModel_isHighestAgain_30 : decode b_SpeciesSolverModel_isHighestAgain 30 = .ok (.if_icmp .gt 7, 3) := by decide +kernel
theorem d_SpeciesSolverModel_isHighestAgain_33 : decode b_SpeciesSolverModel_isHighestAgain 33 = .ok (.iconst 1, 1) := by decide +kernel
theorem d_SpeciesSolverModel_isHighestAgain_34 : decode b_SpeciesSolverModel_isHighestAgain 34 = .ok (.goto 4, 3) := by decide +kernel
theorem d_SpeciesSolverModel_isHighestAgain_37 : decode b_SpeciesSolverModel_isHighestAgain 37 = .ok (.iconst 0, 1) := by decide +kernel
theorem d_SpeciesSolverModel_isHighestAgain_38 : decode b_SpeciesSolverModel_isHighestAgain 38 = .ok (.iand, 1) := by decide +kernel
theorem d_SpeciesSolverModel_isHighestAgain_39 : decode b_SpeciesSolverModel_isHighestAgain 39 = .ok (.istore_n 2, 1) := by decide +kernel
theorem d_SpeciesSolverModel_isHighestAgain_40 : decode b_SpeciesSolverModel_isHighestAgain 40 = .ok (.iload_n 3, 1) := by decide +kernel
theorem d_SpeciesSolverModel_isHighestAgain_41 : decode b_SpeciesSolverModel_isHighestAgain 41 = .ok (.iload 4, 2) := by decide +kernel
theorem d_SpeciesSolverModel_isHighestAgain_43 : decode b_SpeciesSolverModel_isHighestAgain 43 = .ok (.iload_n 1, 1) := by decide +kernel
theorem d_SpeciesSolverModel_isHighestAgain_44 : decode b_SpeciesSolverModel_isHighestAgain 44 = .ok (.if_icmp .ge 23, 3) := by decide +kernel
theorem d_SpeciesSolverModel_isHighestAgain_47 : decode b_SpeciesSolverModel_isHighestAgain 47 = .ok (.aload_n 0, 1) := by decide +kernel
theorem d_SpeciesSolverModel_isHighestAgain_48 : decode b_SpeciesSolverModel_isHighestAgain 48 = .ok (.getfield 31, 3) := by decide +kernel
theorem d_SpeciesSolverModel_isHighestAgain_51 : decode b_SpeciesSolverModel_isHighestAgain 51 = .ok (.iload 4, 2) := by decide +kernel
theorem d_SpeciesSolverModel_isHighestAgain_53 : decode b_SpeciesSolverModel_isHighestAgain 53 = .ok (.iaload, 1) := by decide +kernel
theorem d_SpeciesSolverModel_isHighestAgain_54 : decode b_SpeciesSolverModel_isHighestAgain 54 = .ok (.aload_n 0, 1) := by decide +kernel
theorem d_SpeciesSolverModel_isHighestAgain_55 : decode b_SpeciesSolverModel_isHighestAgain 55 = .ok (.getfield 31, 3) := by decide +kernel
theorem d_SpeciesSolverModel_isHighestAgain_58 : decode b_SpeciesSolverModel_isHighestAgain 58 = .ok (.iload_n 1, 1) := by decide +kernel
theorem d_SpeciesSolverModel_isHighestAgain_59 : decode b_SpeciesSolverModel_isHighestAgain 59 = .ok (.iaload, 1) := by decide +kernel
theorem d_SpeciesSolverModel_isHighestAgain_60 : decode b_SpeciesSolverModel_isHighestAgain 60 = .ok (.if_icmp .ne 7, 3) := by decide +kernel
theorem d_SpeciesSolverModel_isHighestAgain_63 : decode b_SpeciesSolverModel_isHighestAgain 63 = .ok (.iconst 1, 1) := by decide +kernel
theorem d_SpeciesSolverModel_isHighestAgain_64 : decode b_SpeciesSolverModel_isHighestAgain 64 = .ok (.goto 4, 3) := by decide +kernel
theorem d_SpeciesSolverModel_isHighestAgain_67 : decode b_SpeciesSolverModel_isHighestAgain 67 = .ok (.iconst 0, 1) := by decide +kernel
theorem d_SpeciesSolverModel_isHighestAgain_68 : decode b_SpeciesSolverModel_isHighestAgain 68 = .ok (.ior, 1) := by decide +kernel
theorem d_SpeciesSolverModel_isHighestAgain_69 : decode b_SpeciesSolverModel_isHighestAgain 69 = .ok (.istore_n 3, 1) := by decide +kernel
theorem d_SpeciesSolverModel_isHighestAgain_70 : decode b_SpeciesSolverModel_isHighestAgain 70 = .ok (.iinc 4 1, 3) := by decide +kernel
theorem d_SpeciesSolverModel_isHighestAgain_73 : decode b_SpeciesSolverModel_isHighestAgain 73 = .ok (.goto (-66), 3) := by decide +kernel
theorem d_SpeciesSolverModel_isHighestAgain_76 : decode b_SpeciesSolverModel_isHighestAgain 76 = .ok (.iload_n 2, 1) := by decide +kernel
theorem d_SpeciesSolverModel_isHighestAgain_77 : decode b_SpeciesSolverModel_isHighestAgain 77 = .ok (.ifCond .eq 11, 3) := by decide +kernel
theorem d_SpeciesSolverModel_isHighestAgain_80 : decode b_SpeciesSolverModel_isHighestAgain 80 = .ok (.iload_n 3, 1) := by decide +kernel
theorem d_SpeciesSolverModel_isHighestAgain_81 : decode b_SpeciesSolverModel_isHighestAgain 81 = .ok (.ifCond .eq 7, 3) := by decide +kernel
theorem d_SpeciesSolverModel_isHighestAgain_84 : decode b_SpeciesSolverModel_isHighestAgain 84 = .ok (.iconst 1, 1) := by decide +kernel
theorem d_SpeciesSolverModel_isHighestAgain_85 : decode b_SpeciesSolverModel_isHighestAgain 85 = .ok (.goto 4, 3) := by decide +kernel
theorem d_SpeciesSolverModel_isHighestAgain_88 : decode b_SpeciesSolverModel_isHighestAgain 88 = .ok (.iconst 0, 1) := by decide +kernel
theorem d_SpeciesSolverModel_isHighestAgain_89 : decode b_SpeciesSolverModel_isHighestAgain 89 = .ok (.ireturn, 1) := by decide +kernel
abbrev wd_SpeciesSolverModel_isHighestAgain (kc : Nat → ClassId) (ad : Nat → Nat) (md_thrown : Int32) (md_drafted : Int32) (md_lines : Int32) (md_n : Int32) (md_species : Int32) (md_above : Int32) (md_trialSize : Int32) (md_foundSize : Int32) (md_foundSpecies : Int32) (md_foundN : Int32) (md_foundCost : Int32) (md_chosen : Int32) (md_low : Int32) (md_many : Int64) (md_ties : Int64) (md_winnerCost : Int32) (md_allMany : Int64) (md_allTies : Int64) (md_faults : Int32) (md_trial : Nat → Int32) : va_W := [((ad 0), .inr (1, [.int md_thrown, .ref (ad 1), .int md_drafted, .ref (ad 2), .int md_lines, .int md_n, .int md_species, .int md_above, .ref (ad 3), .ref (ad 4), .ref (ad 5), .int md_trialSize, .ref (ad 6), .int md_foundSize, .int md_foundSpecies, .int md_foundN, .int md_foundCost, .ref (ad 7), .int md_chosen, .ref (ad 8), .ref (ad 9), .ref (ad 10), .int md_low, .long md_many, .long md_ties, .ref (ad 11), .ref (ad 12), .int md_winnerCost, .long md_allMany, .long md_allTies, .ref (ad 13), .ref (ad 14), .ref (ad 15), .ref (ad 16), .int md_faults])), ((ad 5), .inl (kc 0, 45, .inl md_trial))]
abbrev rm_SpeciesSolverModel_isHighestAgain : Room := { frames := 0, cells := 0, slots := 0, locals := 0 }
abbrev cw_SpeciesSolverModel_isHighestAgain : Cond := .code y_SpeciesSolverModel_isHighestAgain b_SpeciesSolverModel_isHighestAgain 5 (some .boolean)
abbrev ws_SpeciesSolverModel_isHighestAgain : List Cond := cw_SpeciesSolverModel_isHighestAgain :: GW
theorem hd_SpeciesSolverModel_isHighestAgain : y_SpeciesSolverModel_isHighestAgain.cls ≠ "java/lang/invoke/MethodHandle" ∧ y_SpeciesSolverModel_isHighestAgain.cls ≠ "java/lang/invoke/VarHandle" ∧ (parseMethodDescriptor y_SpeciesSolverModel_isHighestAgain.desc).map (fun d => d.parameters.length) = some 1 := by decide +kernel
def m_SpeciesSolverModel_isHighestAgain_68 (F : Nat) (md_trialSize : Int32) (md_trial : Nat → Int32) (k7 : Int32 → Int32 → Int32 → Int32 → Option (Int32))  (x1 : Int32) (x2 : Int32) (x4 : Int32) (t0 : Int32) (t1 : Int32) : Option (Int32) :=
  k7 x1 x2 (t0 ||| t1) (x4 + 1)
set_option maxHeartbeats 4000000 in
set_option maxRecDepth 100000 in
theorem l_SpeciesSolverModel_isHighestAgain_68 {r : Int32} {F : Nat} {ad : Nat → Nat} {md_thrown : Int32} {md_drafted : Int32} {md_lines : Int32} {md_n : Int32} {md_species : Int32} {md_above : Int32} {md_trialSize : Int32} {md_foundSize : Int32} {md_foundSpecies : Int32} {md_foundN : Int32} {md_foundCost : Int32} {md_chosen : Int32} {md_low : Int32} {md_many : Int64} {md_ties : Int64} {md_winnerCost : Int32} {md_allMany : Int64} {md_allTies : Int64} {md_faults : Int32} {md_trial : Nat → Int32} {k7 : Int32 → Int32 → Int32 → Int32 → Option (Int32)} {x1 : Int32} {x2 : Int32} {x4 : Int32} {t0 : Int32} {t1 : Int32} {H : Heap} {locs : List Loc} {ls : Array Slot} (C : Cx p s m meth c args A D kc R_SpeciesSolverModel b_SpeciesSolverModel_isHighestAgain 5 (some .boolean)) (hk7 : (∀  (x1 : Int32) (x2 : Int32) (x3 : Int32) (x4 : Int32) (H : Heap) (locs : List Loc) (ls : Array Slot), k7 x1 x2 x3 x4 = some r → St D A s (wd_SpeciesSolverModel_isHighestAgain kc ad md_thrown md_drafted md_lines md_n md_species md_above md_trialSize md_foundSize md_foundSpecies md_foundN md_foundCost md_chosen md_low md_many md_ties md_winnerCost md_allMany md_allTies md_faults md_trial) H locs → lv_has ls 5 [(0, .ref (ad 0)), (1, .int x1), (2, .int x2), (3, .int x3), (4, .int x4)] → W p l e rm_SpeciesSolverModel_isHighestAgain s m args below meth c H locs 0 0 (MQ below (Qi D A (wd_SpeciesSolverModel_isHighestAgain kc ad md_thrown md_drafted md_lines md_n md_species md_above md_trialSize md_foundSize md_foundSpecies md_foundN md_foundCost md_chosen md_low md_many md_ties md_winnerCost md_allMany md_allTies md_faults md_trial) r) args s 0 0 A) (F0 m 7 ls []))) (hm : m_SpeciesSolverModel_isHighestAgain_68 F md_trialSize md_trial k7 x1 x2 x4 t0 t1 = some r) (hZ : St D A s (wd_SpeciesSolverModel_isHighestAgain kc ad md_thrown md_drafted md_lines md_n md_species md_above md_trialSize md_foundSize md_foundSpecies md_foundN md_foundCost md_chosen md_low md_many md_ties md_winnerCost md_allMany md_allTies md_faults md_trial) H locs) (hl : lv_has ls 5 [(0, .ref (ad 0)), (1, .int x1), (2, .int x2), (4, .int x4)]) : W p l e rm_SpeciesSolverModel_isHighestAgain s m args below meth c H locs 0 0 (MQ below (Qi D A (wd_SpeciesSolverModel_isHighestAgain kc ad md_thrown md_drafted md_lines md_n md_species md_above md_trialSize md_foundSize md_foundSpecies md_foundN md_foundCost md_chosen md_low md_many md_ties md_winnerCost md_allMany md_allTies md_faults md_trial) r) args s 0 0 A) (F0 m 68 ls [.int t1, .int t0]) := by
  obtain ⟨hx, hb, hr, hts, hown, hml, hlocks, hK, hN, hA, hX⟩ := id C
  obtain ⟨hP, hD, hS⟩ := hZ
  unfold m_SpeciesSolverModel_isHighestAgain_68 at hm
  refine lv_ior hx hb d_SpeciesSolverModel_isHighestAgain_68 ?_
  refine lv_istore_n (lv' := [(3, .int (t0 ||| t1)), (0, .ref (ad 0)), (1, .int x1), (2, .int x2), (4, .int x4)]) hx hb d_SpeciesSolverModel_isHighestAgain_69 rfl hl (by decide) rfl (fun ls hl => ?_)
  refine lv_iinc (v := (x4 + 1)) (lv' := [(4, .int (x4 + 1)), (3, .int (t0 ||| t1)), (0, .ref (ad 0)), (1, .int x1), (2, .int x2)]) hx hb d_SpeciesSolverModel_isHighestAgain_70 hl (k := 4) rfl rfl (by decide) rfl (fun ls hl => ?_)
  refine lv_goto (tgt := 7) hx hb d_SpeciesSolverModel_isHighestAgain_73 (by decide) ?_
  exact hk7 x1 x2 (t0 ||| t1) (x4 + 1) _ _ _ hm ⟨hP, hD, hS⟩ (lv_sub hl [2, 3, 4, 1, 0] rfl)
def m_SpeciesSolverModel_isHighestAgain_67 (F : Nat) (md_trialSize : Int32) (md_trial : Nat → Int32) (k7 : Int32 → Int32 → Int32 → Int32 → Option (Int32))  (x1 : Int32) (x2 : Int32) (x4 : Int32) (t0 : Int32) : Option (Int32) :=
  m_SpeciesSolverModel_isHighestAgain_68 F md_trialSize md_trial k7 x1 x2 x4 t0 (0 : Int32)
set_option maxHeartbeats 4000000 in
set_option maxRecDepth 100000 in
theorem l_SpeciesSolverModel_isHighestAgain_67 {r : Int32} {F : Nat} {ad : Nat → Nat} {md_thrown : Int32} {md_drafted : Int32} {md_lines : Int32} {md_n : Int32} {md_species : Int32} {md_above : Int32} {md_trialSize : Int32} {md_foundSize : Int32} {md_foundSpecies : Int32} {md_foundN : Int32} {md_foundCost : Int32} {md_chosen : Int32} {md_low : Int32} {md_many : Int64} {md_ties : Int64} {md_winnerCost : Int32} {md_allMany : Int64} {md_allTies : Int64} {md_faults : Int32} {md_trial : Nat → Int32} {k7 : Int32 → Int32 → Int32 → Int32 → Option (Int32)} {x1 : Int32} {x2 : Int32} {x4 : Int32} {t0 : Int32} {H : Heap} {locs : List Loc} {ls : Array Slot} (C : Cx p s m meth c args A D kc R_SpeciesSolverModel b_SpeciesSolverModel_isHighestAgain 5 (some .boolean)) (hk7 : (∀  (x1 : Int32) (x2 : Int32) (x3 : Int32) (x4 : Int32) (H : Heap) (locs : List Loc) (ls : Array Slot), k7 x1 x2 x3 x4 = some r → St D A s (wd_SpeciesSolverModel_isHighestAgain kc ad md_thrown md_drafted md_lines md_n md_species md_above md_trialSize md_foundSize md_foundSpecies md_foundN md_foundCost md_chosen md_low md_many md_ties md_winnerCost md_allMany md_allTies md_faults md_trial) H locs → lv_has ls 5 [(0, .ref (ad 0)), (1, .int x1), (2, .int x2), (3, .int x3), (4, .int x4)] → W p l e rm_SpeciesSolverModel_isHighestAgain s m args below meth c H locs 0 0 (MQ below (Qi D A (wd_SpeciesSolverModel_isHighestAgain kc ad md_thrown md_drafted md_lines md_n md_species md_above md_trialSize md_foundSize md_foundSpecies md_foundN md_foundCost md_chosen md_low md_many md_ties md_winnerCost md_allMany md_allTies md_faults md_trial) r) args s 0 0 A) (F0 m 7 ls []))) (hm : m_SpeciesSolverModel_isHighestAgain_67 F md_trialSize md_trial k7 x1 x2 x4 t0 = some r) (hZ : St D A s (wd_SpeciesSolverModel_isHighestAgain kc ad md_thrown md_drafted md_lines md_n md_species md_above md_trialSize md_foundSize md_foundSpecies md_foundN md_foundCost md_chosen md_low md_many md_ties md_winnerCost md_allMany md_allTies md_faults md_trial) H locs) (hl : lv_has ls 5 [(0, .ref (ad 0)), (1, .int x1), (2, .int x2), (4, .int x4)]) : W p l e rm_SpeciesSolverModel_isHighestAgain s m args below meth c H locs 0 0 (MQ below (Qi D A (wd_SpeciesSolverModel_isHighestAgain kc ad md_thrown md_drafted md_lines md_n md_species md_above md_trialSize md_foundSize md_foundSpecies md_foundN md_foundCost md_chosen md_low md_many md_ties md_winnerCost md_allMany md_allTies md_faults md_trial) r) args s 0 0 A) (F0 m 67 ls [.int t0]) := by
  obtain ⟨hx, hb, hr, hts, hown, hml, hlocks, hK, hN, hA, hX⟩ := id C
  obtain ⟨hP, hD, hS⟩ := hZ
  unfold m_SpeciesSolverModel_isHighestAgain_67 at hm
  refine lv_iconst (v := 0) hx hb d_SpeciesSolverModel_isHighestAgain_67 (by decide) ?_
  exact l_SpeciesSolverModel_isHighestAgain_68 C hk7 hm ⟨hP, hD, hS⟩ (lv_sub hl [0, 1, 2, 3] rfl)
def m_SpeciesSolverModel_isHighestAgain_38 (F : Nat) (md_trialSize : Int32) (md_trial : Nat → Int32) (k7 : Int32 → Int32 → Int32 → Int32 → Option (Int32))  (x1 : Int32) (x3 : Int32) (x4 : Int32) (t0 : Int32) (t1 : Int32) : Option (Int32) :=
  (if x1 ≤ x4 then
    m_SpeciesSolverModel_isHighestAgain_67 F md_trialSize md_trial k7 x1 (t0 &&& t1) x4 x3
  else
    (gd x4 45 (gd x1 45 (if (md_trial (Int32.toNatClampNeg x4)) = (md_trial (Int32.toNatClampNeg x1)) then
      m_SpeciesSolverModel_isHighestAgain_68 F md_trialSize md_trial k7 x1 (t0 &&& t1) x4 x3 (1 : Int32)
    else
      m_SpeciesSolverModel_isHighestAgain_67 F md_trialSize md_trial k7 x1 (t0 &&& t1) x4 x3))))
set_option maxHeartbeats 4000000 in
set_option maxRecDepth 100000 in
theorem l_SpeciesSolverModel_isHighestAgain_38 {r : Int32} {F : Nat} {ad : Nat → Nat} {md_thrown : Int32} {md_drafted : Int32} {md_lines : Int32} {md_n : Int32} {md_species : Int32} {md_above : Int32} {md_trialSize : Int32} {md_foundSize : Int32} {md_foundSpecies : Int32} {md_foundN : Int32} {md_foundCost : Int32} {md_chosen : Int32} {md_low : Int32} {md_many : Int64} {md_ties : Int64} {md_winnerCost : Int32} {md_allMany : Int64} {md_allTies : Int64} {md_faults : Int32} {md_trial : Nat → Int32} {k7 : Int32 → Int32 → Int32 → Int32 → Option (Int32)} {x1 : Int32} {x3 : Int32} {x4 : Int32} {t0 : Int32} {t1 : Int32} {H : Heap} {locs : List Loc} {ls : Array Slot} (C : Cx p s m meth c args A D kc R_SpeciesSolverModel b_SpeciesSolverModel_isHighestAgain 5 (some .boolean)) (hk7 : (∀  (x1 : Int32) (x2 : Int32) (x3 : Int32) (x4 : Int32) (H : Heap) (locs : List Loc) (ls : Array Slot), k7 x1 x2 x3 x4 = some r → St D A s (wd_SpeciesSolverModel_isHighestAgain kc ad md_thrown md_drafted md_lines md_n md_species md_above md_trialSize md_foundSize md_foundSpecies md_foundN md_foundCost md_chosen md_low md_many md_ties md_winnerCost md_allMany md_allTies md_faults md_trial) H locs → lv_has ls 5 [(0, .ref (ad 0)), (1, .int x1), (2, .int x2), (3, .int x3), (4, .int x4)] → W p l e rm_SpeciesSolverModel_isHighestAgain s m args below meth c H locs 0 0 (MQ below (Qi D A (wd_SpeciesSolverModel_isHighestAgain kc ad md_thrown md_drafted md_lines md_n md_species md_above md_trialSize md_foundSize md_foundSpecies md_foundN md_foundCost md_chosen md_low md_many md_ties md_winnerCost md_allMany md_allTies md_faults md_trial) r) args s 0 0 A) (F0 m 7 ls []))) (hm : m_SpeciesSolverModel_isHighestAgain_38 F md_trialSize md_trial k7 x1 x3 x4 t0 t1 = some r) (hZ : St D A s (wd_SpeciesSolverModel_isHighestAgain kc ad md_thrown md_drafted md_lines md_n md_species md_above md_trialSize md_foundSize md_foundSpecies md_foundN md_foundCost md_chosen md_low md_many md_ties md_winnerCost md_allMany md_allTies md_faults md_trial) H locs) (hl : lv_has ls 5 [(0, .ref (ad 0)), (1, .int x1), (3, .int x3), (4, .int x4)]) : W p l e rm_SpeciesSolverModel_isHighestAgain s m args below meth c H locs 0 0 (MQ below (Qi D A (wd_SpeciesSolverModel_isHighestAgain kc ad md_thrown md_drafted md_lines md_n md_species md_above md_trialSize md_foundSize md_foundSpecies md_foundN md_foundCost md_chosen md_low md_many md_ties md_winnerCost md_allMany md_allTies md_faults md_trial) r) args s 0 0 A) (F0 m 38 ls [.int t1, .int t0]) := by
  obtain ⟨hx, hb, hr, hts, hown, hml, hlocks, hK, hN, hA, hX⟩ := id C
  obtain ⟨hP, hD, hS⟩ := hZ
  unfold m_SpeciesSolverModel_isHighestAgain_38 at hm
  refine lv_iand hx hb d_SpeciesSolverModel_isHighestAgain_38 ?_
  refine lv_istore_n (lv' := [(2, .int (t0 &&& t1)), (0, .ref (ad 0)), (1, .int x1), (3, .int x3), (4, .int x4)]) hx hb d_SpeciesSolverModel_isHighestAgain_39 rfl hl (by decide) rfl (fun ls hl => ?_)
  refine lv_iload_n hx hb d_SpeciesSolverModel_isHighestAgain_40 rfl (lv_at hl 3 rfl) ?_
  refine lv_iload hx hb d_SpeciesSolverModel_isHighestAgain_41 (lv_at hl 4 rfl) ?_
  refine lv_iload_n hx hb d_SpeciesSolverModel_isHighestAgain_43 rfl (lv_at hl 2 rfl) ?_
  refine lv_icmp_ge (tgt := 67) hx hb d_SpeciesSolverModel_isHighestAgain_44 (by decide) (fun c1 => ?_) (fun c1 => ?_)
  · replace hm := ifT hm c1
    exact l_SpeciesSolverModel_isHighestAgain_67 C hk7 hm ⟨hP, hD, hS⟩ (lv_sub hl [1, 2, 0, 4] rfl)
  · replace hm := ifF hm c1
    refine lv_aload_n hx hb d_SpeciesSolverModel_isHighestAgain_47 rfl (lv_at hl 1 rfl) ?_
    refine va_get (D := D) (ci := 1) (v := .ref (ad 5)) (C := R_SpeciesSolverModel) (T := T_SpeciesSolverModel) (N := 35) hx hb hts inG_SpeciesSolverModel hown hK hP 0 rfl rfl 10 (by decide) (hts _ gw_828) (fun _ h9 => h9) rfl d_SpeciesSolverModel_isHighestAgain_48 ?_
    refine lv_iload hx hb d_SpeciesSolverModel_isHighestAgain_51 (lv_at hl 4 rfl) ?_
    obtain ⟨hi2, hm⟩ := gd_some hm
    refine va_iald hx hb hK hP 1 0 rfl rfl hi2 d_SpeciesSolverModel_isHighestAgain_53 ?_
    refine lv_aload_n hx hb d_SpeciesSolverModel_isHighestAgain_54 rfl (lv_at hl 1 rfl) ?_
    refine va_get (D := D) (ci := 1) (v := .ref (ad 5)) (C := R_SpeciesSolverModel) (T := T_SpeciesSolverModel) (N := 35) hx hb hts inG_SpeciesSolverModel hown hK hP 0 rfl rfl 10 (by decide) (hts _ gw_828) (fun _ h9 => h9) rfl d_SpeciesSolverModel_isHighestAgain_55 ?_
    refine lv_iload_n hx hb d_SpeciesSolverModel_isHighestAgain_58 rfl (lv_at hl 2 rfl) ?_
    obtain ⟨hi3, hm⟩ := gd_some hm
    refine va_iald hx hb hK hP 1 0 rfl rfl hi3 d_SpeciesSolverModel_isHighestAgain_59 ?_
    refine lv_icmp_ne (tgt := 67) hx hb d_SpeciesSolverModel_isHighestAgain_60 (by decide) (fun c4 => ?_) (fun c4 => ?_)
    · replace hm := ifF hm c4
      exact l_SpeciesSolverModel_isHighestAgain_67 C hk7 hm ⟨hP, hD, hS⟩ (lv_sub hl [1, 2, 0, 4] rfl)
    · replace hm := ifT hm c4
      refine lv_iconst (v := 1) hx hb d_SpeciesSolverModel_isHighestAgain_63 (by decide) ?_
      refine lv_goto (tgt := 68) hx hb d_SpeciesSolverModel_isHighestAgain_64 (by decide) ?_
      exact l_SpeciesSolverModel_isHighestAgain_68 C hk7 hm ⟨hP, hD, hS⟩ (lv_sub hl [1, 2, 0, 4] rfl)
def m_SpeciesSolverModel_isHighestAgain_7b (F : Nat) (md_trialSize : Int32) (md_trial : Nat → Int32) (k7 : Int32 → Int32 → Int32 → Int32 → Option (Int32))  (x1 : Int32) (x2 : Int32) (x3 : Int32) (x4 : Int32) : Option (Int32) :=
  (if md_trialSize ≤ x4 then
    (if x2 = (0 : Int32) then
      (some (0 : Int32))
    else
      (if x3 = (0 : Int32) then
        (some (0 : Int32))
      else
        (some (1 : Int32))))
  else
    (gd x4 45 (gd x1 45 (if (md_trial (Int32.toNatClampNeg x1)) < (md_trial (Int32.toNatClampNeg x4)) then
      m_SpeciesSolverModel_isHighestAgain_38 F md_trialSize md_trial k7 x1 x3 x4 x2 (0 : Int32)
    else
      m_SpeciesSolverModel_isHighestAgain_38 F md_trialSize md_trial k7 x1 x3 x4 x2 (1 : Int32)))))
set_option maxHeartbeats 4000000 in
set_option maxRecDepth 100000 in
theorem l_SpeciesSolverModel_isHighestAgain_7 {r : Int32} {F : Nat} {ad : Nat → Nat} {md_thrown : Int32} {md_drafted : Int32} {md_lines : Int32} {md_n : Int32} {md_species : Int32} {md_above : Int32} {md_trialSize : Int32} {md_foundSize : Int32} {md_foundSpecies : Int32} {md_foundN : Int32} {md_foundCost : Int32} {md_chosen : Int32} {md_low : Int32} {md_many : Int64} {md_ties : Int64} {md_winnerCost : Int32} {md_allMany : Int64} {md_allTies : Int64} {md_faults : Int32} {md_trial : Nat → Int32} {k7 : Int32 → Int32 → Int32 → Int32 → Option (Int32)} {x1 : Int32} {x2 : Int32} {x3 : Int32} {x4 : Int32} {H : Heap} {locs : List Loc} {ls : Array Slot} (C : Cx p s m meth c args A D kc R_SpeciesSolverModel b_SpeciesSolverModel_isHighestAgain 5 (some .boolean)) (hk7 : (∀  (x1 : Int32) (x2 : Int32) (x3 : Int32) (x4 : Int32) (H : Heap) (locs : List Loc) (ls : Array Slot), k7 x1 x2 x3 x4 = some r → St D A s (wd_SpeciesSolverModel_isHighestAgain kc ad md_thrown md_drafted md_lines md_n md_species md_above md_trialSize md_foundSize md_foundSpecies md_foundN md_foundCost md_chosen md_low md_many md_ties md_winnerCost md_allMany md_allTies md_faults md_trial) H locs → lv_has ls 5 [(0, .ref (ad 0)), (1, .int x1), (2, .int x2), (3, .int x3), (4, .int x4)] → W p l e rm_SpeciesSolverModel_isHighestAgain s m args below meth c H locs 0 0 (MQ below (Qi D A (wd_SpeciesSolverModel_isHighestAgain kc ad md_thrown md_drafted md_lines md_n md_species md_above md_trialSize md_foundSize md_foundSpecies md_foundN md_foundCost md_chosen md_low md_many md_ties md_winnerCost md_allMany md_allTies md_faults md_trial) r) args s 0 0 A) (F0 m 7 ls []))) (hm : m_SpeciesSolverModel_isHighestAgain_7b F md_trialSize md_trial k7 x1 x2 x3 x4 = some r) (hZ : St D A s (wd_SpeciesSolverModel_isHighestAgain kc ad md_thrown md_drafted md_lines md_n md_species md_above md_trialSize md_foundSize md_foundSpecies md_foundN md_foundCost md_chosen md_low md_many md_ties md_winnerCost md_allMany md_allTies md_faults md_trial) H locs) (hl : lv_has ls 5 [(0, .ref (ad 0)), (1, .int x1), (2, .int x2), (3, .int x3), (4, .int x4)]) : W p l e rm_SpeciesSolverModel_isHighestAgain s m args below meth c H locs 0 0 (MQ below (Qi D A (wd_SpeciesSolverModel_isHighestAgain kc ad md_thrown md_drafted md_lines md_n md_species md_above md_trialSize md_foundSize md_foundSpecies md_foundN md_foundCost md_chosen md_low md_many md_ties md_winnerCost md_allMany md_allTies md_faults md_trial) r) args s 0 0 A) (F0 m 7 ls []) := by
  obtain ⟨hx, hb, hr, hts, hown, hml, hlocks, hK, hN, hA, hX⟩ := id C
  obtain ⟨hP, hD, hS⟩ := hZ
  unfold m_SpeciesSolverModel_isHighestAgain_7b at hm
  refine lv_iload hx hb d_SpeciesSolverModel_isHighestAgain_7 (lv_at hl 4 rfl) ?_
  refine lv_aload_n hx hb d_SpeciesSolverModel_isHighestAgain_9 rfl (lv_at hl 0 rfl) ?_
  refine va_get (D := D) (ci := 1) (v := .int md_trialSize) (C := R_SpeciesSolverModel) (T := T_SpeciesSolverModel) (N := 35) hx hb hts inG_SpeciesSolverModel hown hK hP 0 rfl rfl 11 (by decide) (hts _ gw_829) (fun _ h9 => h9) rfl d_SpeciesSolverModel_isHighestAgain_10 ?_
  refine lv_icmp_ge (tgt := 76) hx hb d_SpeciesSolverModel_isHighestAgain_13 (by decide) (fun c1 => ?_) (fun c1 => ?_)
  · replace hm := ifT hm c1
    refine lv_iload_n hx hb d_SpeciesSolverModel_isHighestAgain_76 rfl (lv_at hl 2 rfl) ?_
    refine lv_if_eq (tgt := 88) hx hb d_SpeciesSolverModel_isHighestAgain_77 (by decide) (fun c2 => ?_) (fun c2 => ?_)
    · replace hm := ifT hm c2
      refine lv_iconst (v := 0) hx hb d_SpeciesSolverModel_isHighestAgain_88 (by decide) ?_
      replace hm := Option.some.inj hm; subst hm
      exact zret_z (v := 0) C hP hD hS (by rfl) d_SpeciesSolverModel_isHighestAgain_89
    · replace hm := ifF hm c2
      refine lv_iload_n hx hb d_SpeciesSolverModel_isHighestAgain_80 rfl (lv_at hl 3 rfl) ?_
      refine lv_if_eq (tgt := 88) hx hb d_SpeciesSolverModel_isHighestAgain_81 (by decide) (fun c3 => ?_) (fun c3 => ?_)
      · replace hm := ifT hm c3
        refine lv_iconst (v := 0) hx hb d_SpeciesSolverModel_isHighestAgain_88 (by decide) ?_
        replace hm := Option.some.inj hm; subst hm
        exact zret_z (v := 0) C hP hD hS (by rfl) d_SpeciesSolverModel_isHighestAgain_89
      · replace hm := ifF hm c3
        refine lv_iconst (v := 1) hx hb d_SpeciesSolverModel_isHighestAgain_84 (by decide) ?_
        refine lv_goto (tgt := 89) hx hb d_SpeciesSolverModel_isHighestAgain_85 (by decide) ?_
        replace hm := Option.some.inj hm; subst hm
        exact zret_z (v := 1) C hP hD hS (by rfl) d_SpeciesSolverModel_isHighestAgain_89
  · replace hm := ifF hm c1
    refine lv_iload_n hx hb d_SpeciesSolverModel_isHighestAgain_16 rfl (lv_at hl 2 rfl) ?_
    refine lv_aload_n hx hb d_SpeciesSolverModel_isHighestAgain_17 rfl (lv_at hl 0 rfl) ?_
    refine va_get (D := D) (ci := 1) (v := .ref (ad 5)) (C := R_SpeciesSolverModel) (T := T_SpeciesSolverModel) (N := 35) hx hb hts inG_SpeciesSolverModel hown hK hP 0 rfl rfl 10 (by decide) (hts _ gw_828) (fun _ h9 => h9) rfl d_SpeciesSolverModel_isHighestAgain_18 ?_
    refine lv_iload hx hb d_SpeciesSolverModel_isHighestAgain_21 (lv_at hl 4 rfl) ?_
    obtain ⟨hi4, hm⟩ := gd_some hm
    refine va_iald hx hb hK hP 1 0 rfl rfl hi4 d_SpeciesSolverModel_isHighestAgain_23 ?_
    refine lv_aload_n hx hb d_SpeciesSolverModel_isHighestAgain_24 rfl (lv_at hl 0 rfl) ?_
    refine va_get (D := D) (ci := 1) (v := .ref (ad 5)) (C := R_SpeciesSolverModel) (T := T_SpeciesSolverModel) (N := 35) hx hb hts inG_SpeciesSolverModel hown hK hP 0 rfl rfl 10 (by decide) (hts _ gw_828) (fun _ h9 => h9) rfl d_SpeciesSolverModel_isHighestAgain_25 ?_
    refine lv_iload_n hx hb d_SpeciesSolverModel_isHighestAgain_28 rfl (lv_at hl 1 rfl) ?_
    obtain ⟨hi5, hm⟩ := gd_some hm
    refine va_iald hx hb hK hP 1 0 rfl rfl hi5 d_SpeciesSolverModel_isHighestAgain_29 ?_
    refine lv_icmp_gt (tgt := 37) hx hb d_SpeciesSolverModel_isHighestAgain_30 (by decide) (fun c6 => ?_) (fun c6 => ?_)
    · replace hm := ifT hm c6
      refine lv_iconst (v := 0) hx hb d_SpeciesSolverModel_isHighestAgain_37 (by decide) ?_
      exact l_SpeciesSolverModel_isHighestAgain_38 C hk7 hm ⟨hP, hD, hS⟩ (lv_sub hl [0, 1, 3, 4] rfl)
    · replace hm := ifF hm c6
      refine lv_iconst (v := 1) hx hb d_SpeciesSolverModel_isHighestAgain_33 (by decide) ?_
      refine lv_goto (tgt := 38) hx hb d_SpeciesSolverModel_isHighestAgain_34 (by decide) ?_
      exact l_SpeciesSolverModel_isHighestAgain_38 C hk7 hm ⟨hP, hD, hS⟩ (lv_sub hl [0, 1, 3, 4] rfl)
def m_SpeciesSolverModel_isHighestAgain_7 (F : Nat) (md_trialSize : Int32) (md_trial : Nat → Int32)  : Nat → Int32 → Int32 → Int32 → Int32 → Option (Int32)
  | 0 => fun _ _ _ _ => none
  | n + 1 => m_SpeciesSolverModel_isHighestAgain_7b F md_trialSize md_trial  (m_SpeciesSolverModel_isHighestAgain_7 F md_trialSize md_trial  n)
set_option maxHeartbeats 4000000 in
set_option maxRecDepth 100000 in
theorem lp_SpeciesSolverModel_isHighestAgain_7 {r : Int32} {F : Nat} {ad : Nat → Nat} {md_thrown : Int32} {md_drafted : Int32} {md_lines : Int32} {md_n : Int32} {md_species : Int32} {md_above : Int32} {md_trialSize : Int32} {md_foundSize : Int32} {md_foundSpecies : Int32} {md_foundN : Int32} {md_foundCost : Int32} {md_chosen : Int32} {md_low : Int32} {md_many : Int64} {md_ties : Int64} {md_winnerCost : Int32} {md_allMany : Int64} {md_allTies : Int64} {md_faults : Int32} {md_trial : Nat → Int32}  (C : Cx p s m meth c args A D kc R_SpeciesSolverModel b_SpeciesSolverModel_isHighestAgain 5 (some .boolean))  : ∀ (n : Nat)  (x1 : Int32) (x2 : Int32) (x3 : Int32) (x4 : Int32) (H : Heap) (locs : List Loc) (ls : Array Slot), m_SpeciesSolverModel_isHighestAgain_7 F md_trialSize md_trial  n x1 x2 x3 x4 = some r → St D A s (wd_SpeciesSolverModel_isHighestAgain kc ad md_thrown md_drafted md_lines md_n md_species md_above md_trialSize md_foundSize md_foundSpecies md_foundN md_foundCost md_chosen md_low md_many md_ties md_winnerCost md_allMany md_allTies md_faults md_trial) H locs → lv_has ls 5 [(0, .ref (ad 0)), (1, .int x1), (2, .int x2), (3, .int x3), (4, .int x4)] → W p l e rm_SpeciesSolverModel_isHighestAgain s m args below meth c H locs 0 0 (MQ below (Qi D A (wd_SpeciesSolverModel_isHighestAgain kc ad md_thrown md_drafted md_lines md_n md_species md_above md_trialSize md_foundSize md_foundSpecies md_foundN md_foundCost md_chosen md_low md_many md_ties md_winnerCost md_allMany md_allTies md_faults md_trial) r) args s 0 0 A) (F0 m 7 ls []) := by
  intro n
  induction n with
  | zero => intro x1 x2 x3 x4 H locs ls hm; cases hm
  | succ n ih => intro x1 x2 x3 x4 H locs ls hm hZ hl; exact l_SpeciesSolverModel_isHighestAgain_7 C  ih hm hZ hl
def m_SpeciesSolverModel_isHighestAgain (F : Nat) (md_trialSize : Int32) (md_trial : Nat → Int32)  (a1 : Int32) : Option (Int32) :=
  m_SpeciesSolverModel_isHighestAgain_7 F md_trialSize md_trial  F a1 (1 : Int32) (0 : Int32) (0 : Int32)
set_option maxHeartbeats 4000000 in
set_option maxRecDepth 100000 in
theorem e_SpeciesSolverModel_isHighestAgain {r : Int32} {F : Nat} {ad : Nat → Nat} {md_thrown : Int32} {md_drafted : Int32} {md_lines : Int32} {md_n : Int32} {md_species : Int32} {md_above : Int32} {md_trialSize : Int32} {md_foundSize : Int32} {md_foundSpecies : Int32} {md_foundN : Int32} {md_foundCost : Int32} {md_chosen : Int32} {md_low : Int32} {md_many : Int64} {md_ties : Int64} {md_winnerCost : Int32} {md_allMany : Int64} {md_allTies : Int64} {md_faults : Int32} {md_trial : Nat → Int32} {a1 : Int32} {H : Heap} {locs : List Loc} {ls : Array Slot} (C : Cx p s m meth c args A D kc R_SpeciesSolverModel b_SpeciesSolverModel_isHighestAgain 5 (some .boolean)) (hm : m_SpeciesSolverModel_isHighestAgain F md_trialSize md_trial a1 = some r) (hZ : St D A s (wd_SpeciesSolverModel_isHighestAgain kc ad md_thrown md_drafted md_lines md_n md_species md_above md_trialSize md_foundSize md_foundSpecies md_foundN md_foundCost md_chosen md_low md_many md_ties md_winnerCost md_allMany md_allTies md_faults md_trial) H locs) (hl : lv_has ls 5 [(0, .ref (ad 0)), (1, .int a1)]) : W p l e rm_SpeciesSolverModel_isHighestAgain s m args below meth c H locs 0 0 (MQ below (Qi D A (wd_SpeciesSolverModel_isHighestAgain kc ad md_thrown md_drafted md_lines md_n md_species md_above md_trialSize md_foundSize md_foundSpecies md_foundN md_foundCost md_chosen md_low md_many md_ties md_winnerCost md_allMany md_allTies md_faults md_trial) r) args s 0 0 A) (F0 m 0 ls []) := by
  obtain ⟨hx, hb, hr, hts, hown, hml, hlocks, hK, hN, hA, hX⟩ := id C
  obtain ⟨hP, hD, hS⟩ := hZ
  unfold m_SpeciesSolverModel_isHighestAgain at hm
  refine lv_iconst (v := 1) hx hb d_SpeciesSolverModel_isHighestAgain_0 (by decide) ?_
  refine lv_istore_n (lv' := [(2, .int (1 : Int32)), (0, .ref (ad 0)), (1, .int a1)]) hx hb d_SpeciesSolverModel_isHighestAgain_1 rfl hl (by decide) rfl (fun ls hl => ?_)
  refine lv_iconst (v := 0) hx hb d_SpeciesSolverModel_isHighestAgain_2 (by decide) ?_
  refine lv_istore_n (lv' := [(3, .int (0 : Int32)), (2, .int (1 : Int32)), (0, .ref (ad 0)), (1, .int a1)]) hx hb d_SpeciesSolverModel_isHighestAgain_3 rfl hl (by decide) rfl (fun ls hl => ?_)
  refine lv_iconst (v := 0) hx hb d_SpeciesSolverModel_isHighestAgain_4 (by decide) ?_
  refine lv_istore (lv' := [(4, .int (0 : Int32)), (3, .int (0 : Int32)), (2, .int (1 : Int32)), (0, .ref (ad 0)), (1, .int a1)]) hx hb d_SpeciesSolverModel_isHighestAgain_5 hl (by decide) rfl (fun ls hl => ?_)
  exact lp_SpeciesSolverModel_isHighestAgain_7 C  F a1 (1 : Int32) (0 : Int32) (0 : Int32) _ _ _ hm ⟨hP, hD, hS⟩ (lv_sub hl [3, 4, 2, 1, 0] rfl)
set_option maxHeartbeats 4000000 in
set_option maxRecDepth 100000 in
theorem c_SpeciesSolverModel_isHighestAgain {l : Launch} {D : va_G} {kc : Nat → ClassId} {r : Int32} {F : Nat} {ad : Nat → Nat} {md_thrown : Int32} {md_drafted : Int32} {md_lines : Int32} {md_n : Int32} {md_species : Int32} {md_above : Int32} {md_trialSize : Int32} {md_foundSize : Int32} {md_foundSpecies : Int32} {md_foundN : Int32} {md_foundCost : Int32} {md_chosen : Int32} {md_low : Int32} {md_many : Int64} {md_ties : Int64} {md_winnerCost : Int32} {md_allMany : Int64} {md_allTies : Int64} {md_faults : Int32} {md_trial : Nat → Int32} {a1 : Int32} (hm : m_SpeciesSolverModel_isHighestAgain F md_trialSize md_trial a1 = some r) (sz : Nat) : Ci l y_SpeciesSolverModel_isHighestAgain ws_SpeciesSolverModel_isHighestAgain rm_SpeciesSolverModel_isHighestAgain D kc sz [.ref (ad 0), .int a1] (wd_SpeciesSolverModel_isHighestAgain kc ad md_thrown md_drafted md_lines md_n md_species md_above md_trialSize md_foundSize md_foundSpecies md_foundN md_foundCost md_chosen md_low md_many md_ties md_winnerCost md_allMany md_allTies md_faults md_trial) (wd_SpeciesSolverModel_isHighestAgain kc ad md_thrown md_drafted md_lines md_n md_species md_above md_trialSize md_foundSize md_foundSpecies md_foundN md_foundCost md_chosen md_low md_many md_ties md_winnerCost md_allMany md_allTies md_faults md_trial) r :=
  Cz_of (Qf := fun A => (Qi D A (wd_SpeciesSolverModel_isHighestAgain kc ad md_thrown md_drafted md_lines md_n md_species md_above md_trialSize md_foundSize md_foundSpecies md_foundN md_foundCost md_chosen md_low md_many md_ties md_winnerCost md_allMany md_allTies md_faults md_trial) r)) (cc := b_SpeciesSolverModel_isHighestAgain) (maxL := 5) (ret := (some .boolean)) (by decide) rfl rfl (fun C hZ hl => e_SpeciesSolverModel_isHighestAgain C hm hZ hl)
end
