section
variable {p : Program} {l : Launch} {e : Env} {s : State} {m : MethodId} {args : Array Value} {below : List Frame} {meth : Method} {c : Code} {D : va_G} {kc : Nat → ClassId} {A : Nat → Prop}
abbrev b_SpeciesSolverModel_rule2 : ByteArray := prog_9_method_25_code
abbrev y_SpeciesSolverModel_rule2 : MethodName := ⟨"SpeciesSolverModel", "rule2", "(IIII)Z"⟩
theorem d_SpeciesSolverModel_rule2_0 : decode b_SpeciesSolverModel_rule2 0 = .ok (.iload_n 2, 1) := by decide +kernel
theorem d_SpeciesSolverModel_rule2_1 : decode b_SpeciesSolverModel_rule2 1 = .ok (.ifCond .le 59, 3) := by decide +kernel
theorem d_SpeciesSolverModel_rule2_4 : decode b_SpeciesSolverModel_rule2 4 = .ok (.aload_n 0, 1) := by decide +kernel
theorem d_SpeciesSolverModel_rule2_5 : decode b_SpeciesSolverModel_rule2 5 = .ok (.iload_n 2, 1) := by decide +kernel
theorem d_SpeciesSolverModel_rule2_6 : decode b_SpeciesSolverModel_rule2 6 = .ok (.invokevirtual 111, 3) := by decide +kernel
theorem d_SpeciesSolverModel_rule2_9 : decode b_SpeciesSolverModel_rule2 9 = .ok (.ifCond .eq 51, 3) := by decide +kernel
theorem d_SpeciesSolverModel_rule2_12 : decode b_SpeciesSolverModel_rule2 12 = .ok (.aload_n 0, 1) := by decide +kernel
theorem d_SpeciesSolverModel_rule2_13 : decode b_SpeciesSolverModel_rule2 13 = .ok (.iconst 4, 1) := by decide +kernel
theorem d_SpeciesSolverModel_rule2_14 : decode b_SpeciesSolverModel_rule2 14 = .ok (.iload 4, 2) := by decide +kernel
theorem d_SpeciesSolverModel_rule2_16 : decode b_SpeciesSolverModel_rule2 16 = .ok (.aload_n 0, 1) := by decide +kernel
theorem d_SpeciesSolverModel_rule2_17 : decode b_SpeciesSolverModel_rule2 17 = .ok (.iload_n 1, 1) := by decide +kernel
theorem d_SpeciesSolverModel_rule2_18 : decode b_SpeciesSolverModel_rule2 18 = .ok (.iload_n 2, 1) := by decide +kernel
theorem d_SpeciesSolverModel_rule2_19 : decode b_SpeciesSolverModel_rule2 19 = .ok (.invokevirtual 108, 3) := by decide +kernel
theorem d_SpeciesSolverModel_rule2_22 : decode b_SpeciesSolverModel_rule2 22 = .ok (.invokevirtual 115, 3) := by decide +kernel
theorem d_SpeciesSolverModel_rule2_25 : decode b_SpeciesSolverModel_rule2 25 = .ok (.ifCond .eq 35, 3) := by decide +kernel
theorem d_SpeciesSolverModel_rule2_28 : decode b_SpeciesSolverModel_rule2 28 = .ok (.aload_n 0, 1) := by decide +kernel
theorem d_SpeciesSolverModel_rule2_29 : decode b_SpeciesSolverModel_rule2 29 = .ok (.iload_n 1, 1) := by decide +kernel
theorem d_SpeciesSolverModel_rule2_30 : decode b_SpeciesSolverModel_rule2 30 = .ok (.iload_n 2, 1) := by decide +kernel
theorem d_SpeciesSolverModel_rule2_31 : decode b_SpeciesSolverModel_rule2 31 = .ok (.iload_n 3, 1) := by decide +kernel
theorem d_SpeciesSolverModel_rule2_32 : decode b_SpeciesSolverModel_rule2 32 = .ok (.iload 4, 2) := by decide +kernel
theorem d_SpeciesSolverModel_rule2_34 : decode b_SpeciesSolverModel_rule2 34 = .ok (.invokevirtual 119, 3) := by decide +kernel
theorem d_SpeciesSolverModel_rule2_37 : decode b_SpeciesSolverModel_rule2 37 = .ok (.ifCond .eq 23, 3) := by decide +kernel
theorem d_SpeciesSolverModel_rule2_40 : decode b_SpeciesSolverModel_rule2 40 = .ok (.iload_n 3, 1) := by decide +kernel
theorem d_SpeciesSolverModel_rule2_41 : decode b_SpeciesSolverModel_rule2 41 = .ok (.iload 4, 2) := by decide +kernel
theorem d_SpeciesSolverModel_rule2_43 : decode b_SpeciesSolverModel_rule2 43 = .ok (.invokestatic 101, 3) := by decide +kernel
theorem d_SpeciesSolverModel_rule2_46 : decode b_SpeciesSolverModel_rule2 46 = .ok (.aload_n 0, 1) := by decide +kernel
theorem d_SpeciesSolverModel_rule2_47 : decode b_SpeciesSolverModel_rule2 47 = .ok (.getfield 28, 3) := by decide +kernel
theorem d_SpeciesSolverModel_rule2_50 : decode b_SpeciesSolverModel_rule2 50 = .ok (.bipush 8, 2) := by decide +kernel
theorem d_SpeciesSolverModel_rule2_52 : decode b_SpeciesSolverModel_rule2 52 = .ok (.iaload, 1) := by decide +kernel
theorem d_SpeciesSolverModel_rule2_53 : decode b_SpeciesSolverModel_rule2 53 = .ok (.if_icmp .le 7, 3) := by decide +kernel
theorem d_SpeciesSolverModel_rule2_56 : decode b_SpeciesSolverModel_rule2 56 = .ok (.iconst 1, 1) := by decide +kernel
theorem d_SpeciesSolverModel_rule2_57 : decode b_SpeciesSolverModel_rule2 57 = .ok (.goto 4, 3) := by decide +kernel
theorem d_SpeciesSolverModel_rule2_60 : decode b_SpeciesSolverModel_rule2 60 = .ok (.iconst 0, 1) := by decide +kernel
theorem d_SpeciesSolverModel_rule2_61 : decode b_SpeciesSolverModel_rule2 61 = .ok (.ireturn, 1) := by decide +kernel
abbrev wd_SpeciesSolverModel_rule2 (kc : Nat → ClassId) (ad : Nat → Nat) (md_thrown : Int32) (md_drafted : Int32) (md_lines : Int32) (md_n : Int32) (md_species : Int32) (md_above : Int32) (md_trialSize : Int32) (md_foundSize : Int32) (md_foundSpecies : Int32) (md_foundN : Int32) (md_foundCost : Int32) (md_chosen : Int32) (md_low : Int32) (md_many : Int64) (md_ties : Int64) (md_winnerCost : Int32) (md_allMany : Int64) (md_allTies : Int64) (md_faults : Int32) (md_given : Nat → Int32) (md_numbers : Nat → Int32) : va_W := [((ad 0), .inr (1, [.int md_thrown, .ref (ad 1), .int md_drafted, .ref (ad 2), .int md_lines, .int md_n, .int md_species, .int md_above, .ref (ad 3), .ref (ad 4), .ref (ad 5), .int md_trialSize, .ref (ad 6), .int md_foundSize, .int md_foundSpecies, .int md_foundN, .int md_foundCost, .ref (ad 7), .int md_chosen, .ref (ad 8), .ref (ad 9), .ref (ad 10), .int md_low, .long md_many, .long md_ties, .ref (ad 11), .ref (ad 12), .int md_winnerCost, .long md_allMany, .long md_allTies, .ref (ad 13), .ref (ad 14), .ref (ad 15), .ref (ad 16), .int md_faults])), ((ad 2), .inl (kc 0, 36, .inl md_given)), ((ad 4), .inl (kc 0, 18, .inl md_numbers))]
abbrev rm_SpeciesSolverModel_rule2 : Room := { frames := 2, cells := 0, slots := 0, locals := 47 }
abbrev cw_SpeciesSolverModel_rule2 : Cond := .code y_SpeciesSolverModel_rule2 b_SpeciesSolverModel_rule2 5 (some .boolean)
abbrev ws_SpeciesSolverModel_rule2 : List Cond := cw_SpeciesSolverModel_rule2 :: GW
theorem hd_SpeciesSolverModel_rule2 : y_SpeciesSolverModel_rule2.cls ≠ "java/lang/invoke/MethodHandle" ∧ y_SpeciesSolverModel_rule2.cls ≠ "java/lang/invoke/VarHandle" ∧ (parseMethodDescriptor y_SpeciesSolverModel_rule2.desc).map (fun d => d.parameters.length) = some 4 := by decide +kernel
def m_SpeciesSolverModel_rule2 (md_species : Int32) (md_given : Nat → Int32) (md_numbers : Nat → Int32)  (a1 : Int32) (a2 : Int32) (a3 : Int32) (a4 : Int32) : Option (Int32) :=
  (if a2 ≤ (0 : Int32) then
    (some (0 : Int32))
  else
    (bd (m_SpeciesSolverModel_isStrong md_species a2) (fun u2 => (if u2 = (0 : Int32) then
      (some (0 : Int32))
    else
      (bd (m_SpeciesSolverModel_at md_species md_given a1 a2) (fun u5 => (bd (m_SpeciesSolverModel_isIn md_numbers (4 : Int32) a4 u5) (fun u7 => (if u7 = (0 : Int32) then
        (some (0 : Int32))
      else
        (bd (m_SpeciesSolverModel_isAlike md_species md_given a1 a2 a3 a4) (fun u10 => (if u10 = (0 : Int32) then
          (some (0 : Int32))
        else
          (bd (m_SpeciesSolverModel_far a3 a4) (fun u13 => (if u13 ≤ (md_numbers (Int32.toNatClampNeg (8 : Int32))) then
            (some (0 : Int32))
          else
            (some (1 : Int32)))))))))))))))))
set_option maxHeartbeats 4000000 in
set_option maxRecDepth 100000 in
theorem e_SpeciesSolverModel_rule2 {r : Int32} {ad : Nat → Nat} {md_thrown : Int32} {md_drafted : Int32} {md_lines : Int32} {md_n : Int32} {md_species : Int32} {md_above : Int32} {md_trialSize : Int32} {md_foundSize : Int32} {md_foundSpecies : Int32} {md_foundN : Int32} {md_foundCost : Int32} {md_chosen : Int32} {md_low : Int32} {md_many : Int64} {md_ties : Int64} {md_winnerCost : Int32} {md_allMany : Int64} {md_allTies : Int64} {md_faults : Int32} {md_given : Nat → Int32} {md_numbers : Nat → Int32} {a1 : Int32} {a2 : Int32} {a3 : Int32} {a4 : Int32} {H : Heap} {locs : List Loc} {ls : Array Slot} (C : Cx p s m meth c args A D kc R_SpeciesSolverModel b_SpeciesSolverModel_rule2 5 (some .boolean)) (hm : m_SpeciesSolverModel_rule2 md_species md_given md_numbers a1 a2 a3 a4 = some r) (hZ : St D A s (wd_SpeciesSolverModel_rule2 kc ad md_thrown md_drafted md_lines md_n md_species md_above md_trialSize md_foundSize md_foundSpecies md_foundN md_foundCost md_chosen md_low md_many md_ties md_winnerCost md_allMany md_allTies md_faults md_given md_numbers) H locs) (hl : lv_has ls 5 [(0, .ref (ad 0)), (1, .int a1), (2, .int a2), (3, .int a3), (4, .int a4)]) : W p l e rm_SpeciesSolverModel_rule2 s m args below meth c H locs 0 0 (MQ below (Qi D A (wd_SpeciesSolverModel_rule2 kc ad md_thrown md_drafted md_lines md_n md_species md_above md_trialSize md_foundSize md_foundSpecies md_foundN md_foundCost md_chosen md_low md_many md_ties md_winnerCost md_allMany md_allTies md_faults md_given md_numbers) r) args s 0 0 A) (F0 m 0 ls []) := by
  obtain ⟨hx, hb, hr, hts, hown, hml, hlocks, hK, hN, hA, hX⟩ := id C
  obtain ⟨hP, hD, hS⟩ := hZ
  unfold m_SpeciesSolverModel_rule2 at hm
  refine lv_iload_n hx hb d_SpeciesSolverModel_rule2_0 rfl (lv_at hl 2 rfl) ?_
  refine lv_if_le (tgt := 60) hx hb d_SpeciesSolverModel_rule2_1 (by decide) (fun c1 => ?_) (fun c1 => ?_)
  · replace hm := ifT hm c1
    refine lv_iconst (v := 0) hx hb d_SpeciesSolverModel_rule2_60 (by decide) ?_
    replace hm := Option.some.inj hm; subst hm
    exact zret_z (v := 0) C hP hD hS (by rfl) d_SpeciesSolverModel_rule2_61
  · replace hm := ifF hm c1
    refine lv_aload_n hx hb d_SpeciesSolverModel_rule2_4 rfl (lv_at hl 0 rfl) ?_
    refine lv_iload_n hx hb d_SpeciesSolverModel_rule2_5 rfl (lv_at hl 2 rfl) ?_
    obtain ⟨u2, hc3, hm⟩ := bd_some hm
    refine zV_i (n := 1) (wr := [((ad 2), .inl (kc 0, 36, .inl md_given)), ((ad 4), .inl (kc 0, 18, .inl md_numbers))]) (w1 := (wd_SpeciesSolverModel_isStrong kc ad md_thrown md_drafted md_lines md_n md_species md_above md_trialSize md_foundSize md_foundSpecies md_foundN md_foundCost md_chosen md_low md_many md_ties md_winnerCost md_allMany md_allTies md_faults)) (ws1 := (wd_SpeciesSolverModel_rule2 kc ad md_thrown md_drafted md_lines md_n md_species md_above md_trialSize md_foundSize md_foundSpecies md_foundN md_foundCost md_chosen md_low md_many md_ties md_winnerCost md_allMany md_allTies md_faults md_given md_numbers)) (As := [.int a2]) (rest := []) (ci := 1) (q0 := 0) (y := y_SpeciesSolverModel_isStrong) ⟨hx, hb, hml, hown, hts⟩ (fun sz => c_SpeciesSolverModel_isStrong hc3 sz) gw_999 gw_996 gw_998 gw_80 gw_118 hd_SpeciesSolverModel_isStrong ⟨Nat.le_of_ble_eq_true rfl, Nat.le_of_ble_eq_true rfl⟩ ⟨rfl, rfl⟩ ⟨Nat.zero_le _, Nat.zero_le _⟩ hK hN hP hD hS hA hX [0] [1, 2] [2, 0, 1] rfl rfl (by decide) (by decide) (by decide) rfl (by decide) rfl rfl rfl hl.1 rfl (Nat.le_of_ble_eq_true rfl) d_SpeciesSolverModel_rule2_6 (fun H locs hP hD hS => ?_)
    refine lv_if_eq (tgt := 60) hx hb d_SpeciesSolverModel_rule2_9 (by decide) (fun c4 => ?_) (fun c4 => ?_)
    · replace hm := ifT hm c4
      refine lv_iconst (v := 0) hx hb d_SpeciesSolverModel_rule2_60 (by decide) ?_
      replace hm := Option.some.inj hm; subst hm
      exact zret_z (v := 0) C hP hD hS (by rfl) d_SpeciesSolverModel_rule2_61
    · replace hm := ifF hm c4
      refine lv_aload_n hx hb d_SpeciesSolverModel_rule2_12 rfl (lv_at hl 0 rfl) ?_
      refine lv_iconst (v := 4) hx hb d_SpeciesSolverModel_rule2_13 (by decide) ?_
      refine lv_iload hx hb d_SpeciesSolverModel_rule2_14 (lv_at hl 4 rfl) ?_
      refine lv_aload_n hx hb d_SpeciesSolverModel_rule2_16 rfl (lv_at hl 0 rfl) ?_
      refine lv_iload_n hx hb d_SpeciesSolverModel_rule2_17 rfl (lv_at hl 1 rfl) ?_
      refine lv_iload_n hx hb d_SpeciesSolverModel_rule2_18 rfl (lv_at hl 2 rfl) ?_
      obtain ⟨u5, hc6, hm⟩ := bd_some hm
      refine zV_i (n := 2) (wr := [((ad 4), .inl (kc 0, 18, .inl md_numbers))]) (w1 := (wd_SpeciesSolverModel_at kc ad md_thrown md_drafted md_lines md_n md_species md_above md_trialSize md_foundSize md_foundSpecies md_foundN md_foundCost md_chosen md_low md_many md_ties md_winnerCost md_allMany md_allTies md_faults md_given)) (ws1 := (wd_SpeciesSolverModel_rule2 kc ad md_thrown md_drafted md_lines md_n md_species md_above md_trialSize md_foundSize md_foundSpecies md_foundN md_foundCost md_chosen md_low md_many md_ties md_winnerCost md_allMany md_allTies md_faults md_given md_numbers)) (As := [.int a1, .int a2]) (rest := [.int a4, .int (4 : Int32), .ref (ad 0)]) (ci := 1) (q0 := 0) (y := y_SpeciesSolverModel_at) ⟨hx, hb, hml, hown, hts⟩ (fun sz => c_SpeciesSolverModel_at hc6 sz) gw_1022 gw_1019 gw_1021 gw_85 gw_118 hd_SpeciesSolverModel_at ⟨Nat.le_of_ble_eq_true rfl, Nat.le_of_ble_eq_true rfl⟩ ⟨rfl, rfl⟩ ⟨Nat.zero_le _, Nat.zero_le _⟩ hK hN hP hD hS hA hX [0, 1] [2] [1, 2, 0] rfl rfl (by decide) (by decide) (by decide) rfl (by decide) rfl rfl rfl hl.1 rfl (Nat.le_of_ble_eq_true rfl) d_SpeciesSolverModel_rule2_19 (fun H locs hP hD hS => ?_)
      obtain ⟨u7, hc8, hm⟩ := bd_some hm
      refine zV_i (n := 3) (wr := [((ad 2), .inl (kc 0, 36, .inl md_given))]) (w1 := (wd_SpeciesSolverModel_isIn kc ad md_thrown md_drafted md_lines md_n md_species md_above md_trialSize md_foundSize md_foundSpecies md_foundN md_foundCost md_chosen md_low md_many md_ties md_winnerCost md_allMany md_allTies md_faults md_numbers)) (ws1 := (wd_SpeciesSolverModel_rule2 kc ad md_thrown md_drafted md_lines md_n md_species md_above md_trialSize md_foundSize md_foundSpecies md_foundN md_foundCost md_chosen md_low md_many md_ties md_winnerCost md_allMany md_allTies md_faults md_given md_numbers)) (As := [.int (4 : Int32), .int a4, .int u5]) (rest := []) (ci := 1) (q0 := 0) (y := y_SpeciesSolverModel_isIn) ⟨hx, hb, hml, hown, hts⟩ (fun sz => c_SpeciesSolverModel_isIn hc8 sz) gw_1026 gw_1023 gw_1025 gw_86 gw_118 hd_SpeciesSolverModel_isIn ⟨Nat.le_of_ble_eq_true rfl, Nat.le_of_ble_eq_true rfl⟩ ⟨rfl, rfl⟩ ⟨Nat.zero_le _, Nat.zero_le _⟩ hK hN hP hD hS hA hX [0, 2] [1] [1, 0, 2] rfl rfl (by decide) (by decide) (by decide) rfl (by decide) rfl rfl rfl hl.1 rfl (Nat.le_of_ble_eq_true rfl) d_SpeciesSolverModel_rule2_22 (fun H locs hP hD hS => ?_)
      refine lv_if_eq (tgt := 60) hx hb d_SpeciesSolverModel_rule2_25 (by decide) (fun c9 => ?_) (fun c9 => ?_)
      · replace hm := ifT hm c9
        refine lv_iconst (v := 0) hx hb d_SpeciesSolverModel_rule2_60 (by decide) ?_
        replace hm := Option.some.inj hm; subst hm
        exact zret_z (v := 0) C hP hD hS (by rfl) d_SpeciesSolverModel_rule2_61
      · replace hm := ifF hm c9
        refine lv_aload_n hx hb d_SpeciesSolverModel_rule2_28 rfl (lv_at hl 0 rfl) ?_
        refine lv_iload_n hx hb d_SpeciesSolverModel_rule2_29 rfl (lv_at hl 1 rfl) ?_
        refine lv_iload_n hx hb d_SpeciesSolverModel_rule2_30 rfl (lv_at hl 2 rfl) ?_
        refine lv_iload_n hx hb d_SpeciesSolverModel_rule2_31 rfl (lv_at hl 3 rfl) ?_
        refine lv_iload hx hb d_SpeciesSolverModel_rule2_32 (lv_at hl 4 rfl) ?_
        obtain ⟨u10, hc11, hm⟩ := bd_some hm
        refine zV_i (n := 4) (wr := [((ad 4), .inl (kc 0, 18, .inl md_numbers))]) (w1 := (wd_SpeciesSolverModel_isAlike kc ad md_thrown md_drafted md_lines md_n md_species md_above md_trialSize md_foundSize md_foundSpecies md_foundN md_foundCost md_chosen md_low md_many md_ties md_winnerCost md_allMany md_allTies md_faults md_given)) (ws1 := (wd_SpeciesSolverModel_rule2 kc ad md_thrown md_drafted md_lines md_n md_species md_above md_trialSize md_foundSize md_foundSpecies md_foundN md_foundCost md_chosen md_low md_many md_ties md_winnerCost md_allMany md_allTies md_faults md_given md_numbers)) (As := [.int a1, .int a2, .int a3, .int a4]) (rest := []) (ci := 1) (q0 := 0) (y := y_SpeciesSolverModel_isAlike) ⟨hx, hb, hml, hown, hts⟩ (fun sz => c_SpeciesSolverModel_isAlike hc11 sz) gw_1037 gw_1034 gw_1036 gw_88 gw_118 hd_SpeciesSolverModel_isAlike ⟨Nat.le_of_ble_eq_true rfl, Nat.le_of_ble_eq_true rfl⟩ ⟨rfl, rfl⟩ ⟨Nat.zero_le _, Nat.zero_le _⟩ hK hN hP hD hS hA hX [0, 1] [2] [1, 2, 0] rfl rfl (by decide) (by decide) (by decide) rfl (by decide) rfl rfl rfl hl.1 rfl (Nat.le_of_ble_eq_true rfl) d_SpeciesSolverModel_rule2_34 (fun H locs hP hD hS => ?_)
        refine lv_if_eq (tgt := 60) hx hb d_SpeciesSolverModel_rule2_37 (by decide) (fun c12 => ?_) (fun c12 => ?_)
        · replace hm := ifT hm c12
          refine lv_iconst (v := 0) hx hb d_SpeciesSolverModel_rule2_60 (by decide) ?_
          replace hm := Option.some.inj hm; subst hm
          exact zret_z (v := 0) C hP hD hS (by rfl) d_SpeciesSolverModel_rule2_61
        · replace hm := ifF hm c12
          refine lv_iload_n hx hb d_SpeciesSolverModel_rule2_40 rfl (lv_at hl 3 rfl) ?_
          refine lv_iload hx hb d_SpeciesSolverModel_rule2_41 (lv_at hl 4 rfl) ?_
          obtain ⟨u13, hc14, hm⟩ := bd_some hm
          refine zS_i (n := 2) (wr := [((ad 0), .inr (1, [.int md_thrown, .ref (ad 1), .int md_drafted, .ref (ad 2), .int md_lines, .int md_n, .int md_species, .int md_above, .ref (ad 3), .ref (ad 4), .ref (ad 5), .int md_trialSize, .ref (ad 6), .int md_foundSize, .int md_foundSpecies, .int md_foundN, .int md_foundCost, .ref (ad 7), .int md_chosen, .ref (ad 8), .ref (ad 9), .ref (ad 10), .int md_low, .long md_many, .long md_ties, .ref (ad 11), .ref (ad 12), .int md_winnerCost, .long md_allMany, .long md_allTies, .ref (ad 13), .ref (ad 14), .ref (ad 15), .ref (ad 16), .int md_faults])), ((ad 2), .inl (kc 0, 36, .inl md_given)), ((ad 4), .inl (kc 0, 18, .inl md_numbers))]) (w1 := (wd_SpeciesSolverModel_far kc )) (ws1 := (wd_SpeciesSolverModel_rule2 kc ad md_thrown md_drafted md_lines md_n md_species md_above md_trialSize md_foundSize md_foundSpecies md_foundN md_foundCost md_chosen md_low md_many md_ties md_winnerCost md_allMany md_allTies md_faults md_given md_numbers)) (As := [.int a3, .int a4]) (rest := []) (y := y_SpeciesSolverModel_far) ⟨hx, hb, hml, hown, hts⟩ (fun sz => c_SpeciesSolverModel_far hc14 sz) gw_1029 gw_1027 gw_1028 gw_118 rfl hd_SpeciesSolverModel_far ⟨Nat.le_of_ble_eq_true rfl, Nat.le_of_ble_eq_true rfl⟩ ⟨rfl, rfl⟩ ⟨Nat.zero_le _, Nat.zero_le _⟩ hK hN hP hD hS hA hX [] [0, 1, 2] [0, 1, 2] rfl rfl (by decide) (by decide) (by decide) rfl (by decide) rfl hl.1 rfl (Nat.le_of_ble_eq_true rfl) d_SpeciesSolverModel_rule2_43 (fun H locs hP hD hS => ?_)
          refine lv_aload_n hx hb d_SpeciesSolverModel_rule2_46 rfl (lv_at hl 0 rfl) ?_
          refine va_get (D := D) (ci := 1) (v := .ref (ad 4)) (C := R_SpeciesSolverModel) (T := T_SpeciesSolverModel) (N := 35) hx hb hts inG_SpeciesSolverModel hown hK hP 0 rfl rfl 9 (by decide) (hts _ gw_827) (fun _ h9 => h9) rfl d_SpeciesSolverModel_rule2_47 ?_
          refine lv_bipush (v := 8) hx hb d_SpeciesSolverModel_rule2_50 (by decide) ?_
          refine va_iald hx hb hK hP 2 0 rfl rfl (in_lit (by decide)) d_SpeciesSolverModel_rule2_52 ?_
          refine lv_icmp_le (tgt := 60) hx hb d_SpeciesSolverModel_rule2_53 (by decide) (fun c15 => ?_) (fun c15 => ?_)
          · replace hm := ifT hm c15
            refine lv_iconst (v := 0) hx hb d_SpeciesSolverModel_rule2_60 (by decide) ?_
            replace hm := Option.some.inj hm; subst hm
            exact zret_z (v := 0) C hP hD hS (by rfl) d_SpeciesSolverModel_rule2_61
          · replace hm := ifF hm c15
            refine lv_iconst (v := 1) hx hb d_SpeciesSolverModel_rule2_56 (by decide) ?_
            refine lv_goto (tgt := 61) hx hb d_SpeciesSolverModel_rule2_57 (by decide) ?_
            replace hm := Option.some.inj hm; subst hm
            exact zret_z (v := 1) C hP hD hS (by rfl) d_SpeciesSolverModel_rule2_61
set_option maxHeartbeats 4000000 in
set_option maxRecDepth 100000 in
theorem c_SpeciesSolverModel_rule2 {l : Launch} {D : va_G} {kc : Nat → ClassId} {r : Int32} {ad : Nat → Nat} {md_thrown : Int32} {md_drafted : Int32} {md_lines : Int32} {md_n : Int32} {md_species : Int32} {md_above : Int32} {md_trialSize : Int32} {md_foundSize : Int32} {md_foundSpecies : Int32} {md_foundN : Int32} {md_foundCost : Int32} {md_chosen : Int32} {md_low : Int32} {md_many : Int64} {md_ties : Int64} {md_winnerCost : Int32} {md_allMany : Int64} {md_allTies : Int64} {md_faults : Int32} {md_given : Nat → Int32} {md_numbers : Nat → Int32} {a1 : Int32} {a2 : Int32} {a3 : Int32} {a4 : Int32} (hm : m_SpeciesSolverModel_rule2 md_species md_given md_numbers a1 a2 a3 a4 = some r) (sz : Nat) : Ci l y_SpeciesSolverModel_rule2 ws_SpeciesSolverModel_rule2 rm_SpeciesSolverModel_rule2 D kc sz [.ref (ad 0), .int a1, .int a2, .int a3, .int a4] (wd_SpeciesSolverModel_rule2 kc ad md_thrown md_drafted md_lines md_n md_species md_above md_trialSize md_foundSize md_foundSpecies md_foundN md_foundCost md_chosen md_low md_many md_ties md_winnerCost md_allMany md_allTies md_faults md_given md_numbers) (wd_SpeciesSolverModel_rule2 kc ad md_thrown md_drafted md_lines md_n md_species md_above md_trialSize md_foundSize md_foundSpecies md_foundN md_foundCost md_chosen md_low md_many md_ties md_winnerCost md_allMany md_allTies md_faults md_given md_numbers) r :=
  Cz_of (Qf := fun A => (Qi D A (wd_SpeciesSolverModel_rule2 kc ad md_thrown md_drafted md_lines md_n md_species md_above md_trialSize md_foundSize md_foundSpecies md_foundN md_foundCost md_chosen md_low md_many md_ties md_winnerCost md_allMany md_allTies md_faults md_given md_numbers) r)) (cc := b_SpeciesSolverModel_rule2) (maxL := 5) (ret := (some .boolean)) (by decide) rfl rfl (fun C hZ hl => e_SpeciesSolverModel_rule2 C hm hZ hl)
abbrev b_SpeciesSolverModel_rule3 : ByteArray := prog_9_method_26_code
abbrev y_SpeciesSolverModel_rule3 : MethodName := ⟨"SpeciesSolverModel", "rule3", "(III)Z"⟩
theorem d_SpeciesSolverModel_rule3_0 : decode b_SpeciesSolverModel_rule3 0 = .ok (.aload_n 0, 1) := by decide +kernel
theorem d_SpeciesSolverModel_rule3_1 : decode b_SpeciesSolverModel_rule3 1 = .ok (.getfield 20, 3) := by decide +kernel
theorem d_SpeciesSolverModel_rule3_4 : decode b_SpeciesSolverModel_rule3 4 = .ok (.ifCond .eq 21, 3) := by decide +kernel
theorem d_SpeciesSolverModel_rule3_7 : decode b_SpeciesSolverModel_rule3 7 = .ok (.iload_n 3, 1) := by decide +kernel
theorem d_SpeciesSolverModel_rule3_8 : decode b_SpeciesSolverModel_rule3 8 = .ok (.aload_n 0, 1) := by decide +kernel
theorem d_SpeciesSolverModel_rule3_9 : decode b_SpeciesSolverModel_rule3 9 = .ok (.iload_n 1, 1) := by decide +kernel
theorem d_SpeciesSolverModel_rule3_10 : decode b_SpeciesSolverModel_rule3 10 = .ok (.iload_n 2, 1) := by decide +kernel
theorem d_SpeciesSolverModel_rule3_11 : decode b_SpeciesSolverModel_rule3 11 = .ok (.invokevirtual 108, 3) := by decide +kernel
theorem d_SpeciesSolverModel_rule3_14 : decode b_SpeciesSolverModel_rule3 14 = .ok (.if_icmp .ge 7, 3) := by decide +kernel
theorem d_SpeciesSolverModel_rule3_17 : decode b_SpeciesSolverModel_rule3 17 = .ok (.iconst 1, 1) := by decide +kernel
theorem d_SpeciesSolverModel_rule3_18 : decode b_SpeciesSolverModel_rule3 18 = .ok (.goto 22, 3) := by decide +kernel
theorem d_SpeciesSolverModel_rule3_21 : decode b_SpeciesSolverModel_rule3 21 = .ok (.iconst 0, 1) := by decide +kernel
theorem d_SpeciesSolverModel_rule3_22 : decode b_SpeciesSolverModel_rule3 22 = .ok (.goto 18, 3) := by decide +kernel
theorem d_SpeciesSolverModel_rule3_25 : decode b_SpeciesSolverModel_rule3 25 = .ok (.iload_n 3, 1) := by decide +kernel
theorem d_SpeciesSolverModel_rule3_26 : decode b_SpeciesSolverModel_rule3 26 = .ok (.aload_n 0, 1) := by decide +kernel
theorem d_SpeciesSolverModel_rule3_27 : decode b_SpeciesSolverModel_rule3 27 = .ok (.iload_n 1, 1) := by decide +kernel
theorem d_SpeciesSolverModel_rule3_28 : decode b_SpeciesSolverModel_rule3 28 = .ok (.iload_n 2, 1) := by decide +kernel
theorem d_SpeciesSolverModel_rule3_29 : decode b_SpeciesSolverModel_rule3 29 = .ok (.invokevirtual 108, 3) := by decide +kernel
theorem d_SpeciesSolverModel_rule3_32 : decode b_SpeciesSolverModel_rule3 32 = .ok (.if_icmp .le 7, 3) := by decide +kernel
theorem d_SpeciesSolverModel_rule3_35 : decode b_SpeciesSolverModel_rule3 35 = .ok (.iconst 1, 1) := by decide +kernel
theorem d_SpeciesSolverModel_rule3_36 : decode b_SpeciesSolverModel_rule3 36 = .ok (.goto 4, 3) := by decide +kernel
theorem d_SpeciesSolverModel_rule3_39 : decode b_SpeciesSolverModel_rule3 39 = .ok (.iconst 0, 1) := by decide +kernel
theorem d_SpeciesSolverModel_rule3_40 : decode b_SpeciesSolverModel_rule3 40 = .ok (.ireturn, 1) := by decide +kernel
abbrev wd_SpeciesSolverModel_rule3 (kc : Nat → ClassId) (ad : Nat → Nat) (md_thrown : Int32) (md_drafted : Int32) (md_lines : Int32) (md_n : Int32) (md_species : Int32) (md_above : Int32) (md_trialSize : Int32) (md_foundSize : Int32) (md_foundSpecies : Int32) (md_foundN : Int32) (md_foundCost : Int32) (md_chosen : Int32) (md_low : Int32) (md_many : Int64) (md_ties : Int64) (md_winnerCost : Int32) (md_allMany : Int64) (md_allTies : Int64) (md_faults : Int32) (md_given : Nat → Int32) : va_W := [((ad 0), .inr (1, [.int md_thrown, .ref (ad 1), .int md_drafted, .ref (ad 2), .int md_lines, .int md_n, .int md_species, .int md_above, .ref (ad 3), .ref (ad 4), .ref (ad 5), .int md_trialSize, .ref (ad 6), .int md_foundSize, .int md_foundSpecies, .int md_foundN, .int md_foundCost, .ref (ad 7), .int md_chosen, .ref (ad 8), .ref (ad 9), .ref (ad 10), .int md_low, .long md_many, .long md_ties, .ref (ad 11), .ref (ad 12), .int md_winnerCost, .long md_allMany, .long md_allTies, .ref (ad 13), .ref (ad 14), .ref (ad 15), .ref (ad 16), .int md_faults])), ((ad 2), .inl (kc 0, 36, .inl md_given))]
abbrev rm_SpeciesSolverModel_rule3 : Room := { frames := 1, cells := 0, slots := 0, locals := 22 }
abbrev cw_SpeciesSolverModel_rule3 : Cond := .code y_SpeciesSolverModel_rule3 b_SpeciesSolverModel_rule3 4 (some .boolean)
abbrev ws_SpeciesSolverModel_rule3 : List Cond := cw_SpeciesSolverModel_rule3 :: GW
theorem hd_SpeciesSolverModel_rule3 : y_SpeciesSolverModel_rule3.cls ≠ "java/lang/invoke/MethodHandle" ∧ y_SpeciesSolverModel_rule3.cls ≠ "java/lang/invoke/VarHandle" ∧ (parseMethodDescriptor y_SpeciesSolverModel_rule3.desc).map (fun d => d.parameters.length) = some 3 := by decide +kernel
def m_SpeciesSolverModel_rule3 (md_species : Int32) (md_above : Int32) (md_given : Nat → Int32)  (a1 : Int32) (a2 : Int32) (a3 : Int32) : Option (Int32) :=
  (if md_above = (0 : Int32) then
    (bd (m_SpeciesSolverModel_at md_species md_given a1 a2) (fun u2 => (if a3 ≤ u2 then
      (some (0 : Int32))
    else
      (some (1 : Int32)))))
  else
    (bd (m_SpeciesSolverModel_at md_species md_given a1 a2) (fun u5 => (if u5 ≤ a3 then
      (some (0 : Int32))
    else
      (some (1 : Int32))))))
set_option maxHeartbeats 4000000 in
set_option maxRecDepth 100000 in
theorem e_SpeciesSolverModel_rule3 {r : Int32} {ad : Nat → Nat} {md_thrown : Int32} {md_drafted : Int32} {md_lines : Int32} {md_n : Int32} {md_species : Int32} {md_above : Int32} {md_trialSize : Int32} {md_foundSize : Int32} {md_foundSpecies : Int32} {md_foundN : Int32} {md_foundCost : Int32} {md_chosen : Int32} {md_low : Int32} {md_many : Int64} {md_ties : Int64} {md_winnerCost : Int32} {md_allMany : Int64} {md_allTies : Int64} {md_faults : Int32} {md_given : Nat → Int32} {a1 : Int32} {a2 : Int32} {a3 : Int32} {H : Heap} {locs : List Loc} {ls : Array Slot} (C : Cx p s m meth c args A D kc R_SpeciesSolverModel b_SpeciesSolverModel_rule3 4 (some .boolean)) (hm : m_SpeciesSolverModel_rule3 md_species md_above md_given a1 a2 a3 = some r) (hZ : St D A s (wd_SpeciesSolverModel_rule3 kc ad md_thrown md_drafted md_lines md_n md_species md_above md_trialSize md_foundSize md_foundSpecies md_foundN md_foundCost md_chosen md_low md_many md_ties md_winnerCost md_allMany md_allTies md_faults md_given) H locs) (hl : lv_has ls 4 [(0, .ref (ad 0)), (1, .int a1), (2, .int a2), (3, .int a3)]) : W p l e rm_SpeciesSolverModel_rule3 s m args below meth c H locs 0 0 (MQ below (Qi D A (wd_SpeciesSolverModel_rule3 kc ad md_thrown md_drafted md_lines md_n md_species md_above md_trialSize md_foundSize md_foundSpecies md_foundN md_foundCost md_chosen md_low md_many md_ties md_winnerCost md_allMany md_allTies md_faults md_given) r) args s 0 0 A) (F0 m 0 ls []) := by
  obtain ⟨hx, hb, hr, hts, hown, hml, hlocks, hK, hN, hA, hX⟩ := id C
  obtain ⟨hP, hD, hS⟩ := hZ
  unfold m_SpeciesSolverModel_rule3 at hm
  refine lv_aload_n hx hb d_SpeciesSolverModel_rule3_0 rfl (lv_at hl 0 rfl) ?_
  refine va_get (D := D) (ci := 1) (v := .int md_above) (C := R_SpeciesSolverModel) (T := T_SpeciesSolverModel) (N := 35) hx hb hts inG_SpeciesSolverModel hown hK hP 0 rfl rfl 7 (by decide) (hts _ gw_825) (fun _ h9 => h9) rfl d_SpeciesSolverModel_rule3_1 ?_
  refine lv_if_eq (tgt := 25) hx hb d_SpeciesSolverModel_rule3_4 (by decide) (fun c1 => ?_) (fun c1 => ?_)
  · replace hm := ifT hm c1
    refine lv_iload_n hx hb d_SpeciesSolverModel_rule3_25 rfl (lv_at hl 3 rfl) ?_
    refine lv_aload_n hx hb d_SpeciesSolverModel_rule3_26 rfl (lv_at hl 0 rfl) ?_
    refine lv_iload_n hx hb d_SpeciesSolverModel_rule3_27 rfl (lv_at hl 1 rfl) ?_
    refine lv_iload_n hx hb d_SpeciesSolverModel_rule3_28 rfl (lv_at hl 2 rfl) ?_
    obtain ⟨u2, hc3, hm⟩ := bd_some hm
    refine zV_i (n := 2) (wr := []) (w1 := (wd_SpeciesSolverModel_at kc ad md_thrown md_drafted md_lines md_n md_species md_above md_trialSize md_foundSize md_foundSpecies md_foundN md_foundCost md_chosen md_low md_many md_ties md_winnerCost md_allMany md_allTies md_faults md_given)) (ws1 := (wd_SpeciesSolverModel_rule3 kc ad md_thrown md_drafted md_lines md_n md_species md_above md_trialSize md_foundSize md_foundSpecies md_foundN md_foundCost md_chosen md_low md_many md_ties md_winnerCost md_allMany md_allTies md_faults md_given)) (As := [.int a1, .int a2]) (rest := [.int a3]) (ci := 1) (q0 := 0) (y := y_SpeciesSolverModel_at) ⟨hx, hb, hml, hown, hts⟩ (fun sz => c_SpeciesSolverModel_at hc3 sz) gw_1022 gw_1019 gw_1021 gw_85 gw_118 hd_SpeciesSolverModel_at ⟨Nat.le_of_ble_eq_true rfl, Nat.le_of_ble_eq_true rfl⟩ ⟨rfl, rfl⟩ ⟨Nat.zero_le _, Nat.zero_le _⟩ hK hN hP hD hS hA hX [0, 1] [] [0, 1] rfl rfl (by decide) (by decide) (by decide) rfl (by decide) rfl rfl rfl hl.1 rfl (Nat.le_of_ble_eq_true rfl) d_SpeciesSolverModel_rule3_29 (fun H locs hP hD hS => ?_)
    refine lv_icmp_le (tgt := 39) hx hb d_SpeciesSolverModel_rule3_32 (by decide) (fun c4 => ?_) (fun c4 => ?_)
    · replace hm := ifT hm c4
      refine lv_iconst (v := 0) hx hb d_SpeciesSolverModel_rule3_39 (by decide) ?_
      replace hm := Option.some.inj hm; subst hm
      exact zret_z (v := 0) C hP hD hS (by rfl) d_SpeciesSolverModel_rule3_40
    · replace hm := ifF hm c4
      refine lv_iconst (v := 1) hx hb d_SpeciesSolverModel_rule3_35 (by decide) ?_
      refine lv_goto (tgt := 40) hx hb d_SpeciesSolverModel_rule3_36 (by decide) ?_
      replace hm := Option.some.inj hm; subst hm
      exact zret_z (v := 1) C hP hD hS (by rfl) d_SpeciesSolverModel_rule3_40
  · replace hm := ifF hm c1
    refine lv_iload_n hx hb d_SpeciesSolverModel_rule3_7 rfl (lv_at hl 3 rfl) ?_
    refine lv_aload_n hx hb d_SpeciesSolverModel_rule3_8 rfl (lv_at hl 0 rfl) ?_
    refine lv_iload_n hx hb d_SpeciesSolverModel_rule3_9 rfl (lv_at hl 1 rfl) ?_
    refine lv_iload_n hx hb d_SpeciesSolverModel_rule3_10 rfl (lv_at hl 2 rfl) ?_
    obtain ⟨u5, hc6, hm⟩ := bd_some hm
    refine zV_i (n := 2) (wr := []) (w1 := (wd_SpeciesSolverModel_at kc ad md_thrown md_drafted md_lines md_n md_species md_above md_trialSize md_foundSize md_foundSpecies md_foundN md_foundCost md_chosen md_low md_many md_ties md_winnerCost md_allMany md_allTies md_faults md_given)) (ws1 := (wd_SpeciesSolverModel_rule3 kc ad md_thrown md_drafted md_lines md_n md_species md_above md_trialSize md_foundSize md_foundSpecies md_foundN md_foundCost md_chosen md_low md_many md_ties md_winnerCost md_allMany md_allTies md_faults md_given)) (As := [.int a1, .int a2]) (rest := [.int a3]) (ci := 1) (q0 := 0) (y := y_SpeciesSolverModel_at) ⟨hx, hb, hml, hown, hts⟩ (fun sz => c_SpeciesSolverModel_at hc6 sz) gw_1022 gw_1019 gw_1021 gw_85 gw_118 hd_SpeciesSolverModel_at ⟨Nat.le_of_ble_eq_true rfl, Nat.le_of_ble_eq_true rfl⟩ ⟨rfl, rfl⟩ ⟨Nat.zero_le _, Nat.zero_le _⟩ hK hN hP hD hS hA hX [0, 1] [] [0, 1] rfl rfl (by decide) (by decide) (by decide) rfl (by decide) rfl rfl rfl hl.1 rfl (Nat.le_of_ble_eq_true rfl) d_SpeciesSolverModel_rule3_11 (fun H locs hP hD hS => ?_)
    refine lv_icmp_ge (tgt := 21) hx hb d_SpeciesSolverModel_rule3_14 (by decide) (fun c7 => ?_) (fun c7 => ?_)
    · replace hm := ifT hm c7
      refine lv_iconst (v := 0) hx hb d_SpeciesSolverModel_rule3_21 (by decide) ?_
      refine lv_goto (tgt := 40) hx hb d_SpeciesSolverModel_rule3_22 (by decide) ?_
      replace hm := Option.some.inj hm; subst hm
      exact zret_z (v := 0) C hP hD hS (by rfl) d_SpeciesSolverModel_rule3_40
    · replace hm := ifF hm c7
      refine lv_iconst (v := 1) hx hb d_SpeciesSolverModel_rule3_17 (by decide) ?_
      refine lv_goto (tgt := 40) hx hb d_SpeciesSolverModel_rule3_18 (by decide) ?_
      replace hm := Option.some.inj hm; subst hm
      exact zret_z (v := 1) C hP hD hS (by rfl) d_SpeciesSolverModel_rule3_40
set_option maxHeartbeats 4000000 in
set_option maxRecDepth 100000 in
theorem c_SpeciesSolverModel_rule3 {l : Launch} {D : va_G} {kc : Nat → ClassId} {r : Int32} {ad : Nat → Nat} {md_thrown : Int32} {md_drafted : Int32} {md_lines : Int32} {md_n : Int32} {md_species : Int32} {md_above : Int32} {md_trialSize : Int32} {md_foundSize : Int32} {md_foundSpecies : Int32} {md_foundN : Int32} {md_foundCost : Int32} {md_chosen : Int32} {md_low : Int32} {md_many : Int64} {md_ties : Int64} {md_winnerCost : Int32} {md_allMany : Int64} {md_allTies : Int64} {md_faults : Int32} {md_given : Nat → Int32} {a1 : Int32} {a2 : Int32} {a3 : Int32} (hm : m_SpeciesSolverModel_rule3 md_species md_above md_given a1 a2 a3 = some r) (sz : Nat) : Ci l y_SpeciesSolverModel_rule3 ws_SpeciesSolverModel_rule3 rm_SpeciesSolverModel_rule3 D kc sz [.ref (ad 0), .int a1, .int a2, .int a3] (wd_SpeciesSolverModel_rule3 kc ad md_thrown md_drafted md_lines md_n md_species md_above md_trialSize md_foundSize md_foundSpecies md_foundN md_foundCost md_chosen md_low md_many md_ties md_winnerCost md_allMany md_allTies md_faults md_given) (wd_SpeciesSolverModel_rule3 kc ad md_thrown md_drafted md_lines md_n md_species md_above md_trialSize md_foundSize md_foundSpecies md_foundN md_foundCost md_chosen md_low md_many md_ties md_winnerCost md_allMany md_allTies md_faults md_given) r :=
  Cz_of (Qf := fun A => (Qi D A (wd_SpeciesSolverModel_rule3 kc ad md_thrown md_drafted md_lines md_n md_species md_above md_trialSize md_foundSize md_foundSpecies md_foundN md_foundCost md_chosen md_low md_many md_ties md_winnerCost md_allMany md_allTies md_faults md_given) r)) (cc := b_SpeciesSolverModel_rule3) (maxL := 4) (ret := (some .boolean)) (by decide) rfl rfl (fun C hZ hl => e_SpeciesSolverModel_rule3 C hm hZ hl)
abbrev b_SpeciesSolverModel_isPassing : ByteArray := prog_9_method_27_code
abbrev y_SpeciesSolverModel_isPassing : MethodName := ⟨"SpeciesSolverModel", "isPassing", "(III)Z"⟩
theorem d_SpeciesSolverModel_isPassing_0 : decode b_SpeciesSolverModel_isPassing 0 = .ok (.iload_n 1, 1) := by decide +kernel
theorem d_SpeciesSolverModel_isPassing_1 : decode b_SpeciesSolverModel_isPassing 1 = .ok (.iload_n 2, 1) := by decide +kernel
theorem d_SpeciesSolverModel_isPassing_2 : decode b_SpeciesSolverModel_isPassing 2 = .ok (.invokestatic 105, 3) := by decide +kernel
theorem d_SpeciesSolverModel_isPassing_5 : decode b_SpeciesSolverModel_isPassing 5 = .ok (.iload_n 2, 1) := by decide +kernel
theorem d_SpeciesSolverModel_isPassing_6 : decode b_SpeciesSolverModel_isPassing 6 = .ok (.iload_n 3, 1) := by decide +kernel
theorem d_SpeciesSolverModel_isPassing_7 : decode b_SpeciesSolverModel_isPassing 7 = .ok (.invokestatic 105, 3) := by decide +kernel
theorem d_SpeciesSolverModel_isPassing_10 : decode b_SpeciesSolverModel_isPassing 10 = .ok (.if_icmp .ne 25, 3) := by decide +kernel
theorem d_SpeciesSolverModel_isPassing_13 : decode b_SpeciesSolverModel_isPassing 13 = .ok (.aload_n 0, 1) := by decide +kernel
theorem d_SpeciesSolverModel_isPassing_14 : decode b_SpeciesSolverModel_isPassing 14 = .ok (.iload_n 1, 1) := by decide +kernel
theorem d_SpeciesSolverModel_isPassing_15 : decode b_SpeciesSolverModel_isPassing 15 = .ok (.iload_n 2, 1) := by decide +kernel
theorem d_SpeciesSolverModel_isPassing_16 : decode b_SpeciesSolverModel_isPassing 16 = .ok (.invokevirtual 123, 3) := by decide +kernel
theorem d_SpeciesSolverModel_isPassing_19 : decode b_SpeciesSolverModel_isPassing 19 = .ok (.ifCond .eq 16, 3) := by decide +kernel
theorem d_SpeciesSolverModel_isPassing_22 : decode b_SpeciesSolverModel_isPassing 22 = .ok (.aload_n 0, 1) := by decide +kernel
theorem d_SpeciesSolverModel_isPassing_23 : decode b_SpeciesSolverModel_isPassing 23 = .ok (.iload_n 2, 1) := by decide +kernel
theorem d_SpeciesSolverModel_isPassing_24 : decode b_SpeciesSolverModel_isPassing 24 = .ok (.iload_n 3, 1) := by decide +kernel
theorem d_SpeciesSolverModel_isPassing_25 : decode b_SpeciesSolverModel_isPassing 25 = .ok (.invokevirtual 123, 3) := by decide +kernel
theorem d_SpeciesSolverModel_isPassing_28 : decode b_SpeciesSolverModel_isPassing 28 = .ok (.ifCond .eq 7, 3) := by decide +kernel
theorem d_SpeciesSolverModel_isPassing_31 : decode b_SpeciesSolverModel_isPassing 31 = .ok (.iconst 1, 1) := by decide +kernel
theorem d_SpeciesSolverModel_isPassing_32 : decode b_SpeciesSolverModel_isPassing 32 = .ok (.goto 4, 3) := by decide +kernel
theorem d_SpeciesSolverModel_isPassing_35 : decode b_SpeciesSolverModel_isPassing 35 = .ok (.iconst 0, 1) := by decide +kernel
theorem d_SpeciesSolverModel_isPassing_36 : decode b_SpeciesSolverModel_isPassing 36 = .ok (.ireturn, 1) := by decide +kernel
abbrev wd_SpeciesSolverModel_isPassing (kc : Nat → ClassId) (ad : Nat → Nat) (md_thrown : Int32) (md_drafted : Int32) (md_lines : Int32) (md_n : Int32) (md_species : Int32) (md_above : Int32) (md_trialSize : Int32) (md_foundSize : Int32) (md_foundSpecies : Int32) (md_foundN : Int32) (md_foundCost : Int32) (md_chosen : Int32) (md_low : Int32) (md_many : Int64) (md_ties : Int64) (md_winnerCost : Int32) (md_allMany : Int64) (md_allTies : Int64) (md_faults : Int32) (md_numbers : Nat → Int32) : va_W := [((ad 0), .inr (1, [.int md_thrown, .ref (ad 1), .int md_drafted, .ref (ad 2), .int md_lines, .int md_n, .int md_species, .int md_above, .ref (ad 3), .ref (ad 4), .ref (ad 5), .int md_trialSize, .ref (ad 6), .int md_foundSize, .int md_foundSpecies, .int md_foundN, .int md_foundCost, .ref (ad 7), .int md_chosen, .ref (ad 8), .ref (ad 9), .ref (ad 10), .int md_low, .long md_many, .long md_ties, .ref (ad 11), .ref (ad 12), .int md_winnerCost, .long md_allMany, .long md_allTies, .ref (ad 13), .ref (ad 14), .ref (ad 15), .ref (ad 16), .int md_faults])), ((ad 4), .inl (kc 0, 18, .inl md_numbers))]
abbrev rm_SpeciesSolverModel_isPassing : Room := { frames := 2, cells := 0, slots := 0, locals := 44 }
abbrev cw_SpeciesSolverModel_isPassing : Cond := .code y_SpeciesSolverModel_isPassing b_SpeciesSolverModel_isPassing 4 (some .boolean)
abbrev ws_SpeciesSolverModel_isPassing : List Cond := cw_SpeciesSolverModel_isPassing :: GW
theorem hd_SpeciesSolverModel_isPassing : y_SpeciesSolverModel_isPassing.cls ≠ "java/lang/invoke/MethodHandle" ∧ y_SpeciesSolverModel_isPassing.cls ≠ "java/lang/invoke/VarHandle" ∧ (parseMethodDescriptor y_SpeciesSolverModel_isPassing.desc).map (fun d => d.parameters.length) = some 3 := by decide +kernel
def m_SpeciesSolverModel_isPassing (md_numbers : Nat → Int32)  (a1 : Int32) (a2 : Int32) (a3 : Int32) : Option (Int32) :=
  (bd (m_SpeciesSolverModel_way a1 a2) (fun u1 => (bd (m_SpeciesSolverModel_way a2 a3) (fun u3 => (if u1 = u3 then
    (bd (m_SpeciesSolverModel_isStep md_numbers a1 a2) (fun u6 => (if u6 = (0 : Int32) then
      (some (0 : Int32))
    else
      (bd (m_SpeciesSolverModel_isStep md_numbers a2 a3) (fun u9 => (if u9 = (0 : Int32) then
        (some (0 : Int32))
      else
        (some (1 : Int32))))))))
  else
    (some (0 : Int32)))))))
set_option maxHeartbeats 4000000 in
set_option maxRecDepth 100000 in
theorem e_SpeciesSolverModel_isPassing {r : Int32} {ad : Nat → Nat} {md_thrown : Int32} {md_drafted : Int32} {md_lines : Int32} {md_n : Int32} {md_species : Int32} {md_above : Int32} {md_trialSize : Int32} {md_foundSize : Int32} {md_foundSpecies : Int32} {md_foundN : Int32} {md_foundCost : Int32} {md_chosen : Int32} {md_low : Int32} {md_many : Int64} {md_ties : Int64} {md_winnerCost : Int32} {md_allMany : Int64} {md_allTies : Int64} {md_faults : Int32} {md_numbers : Nat → Int32} {a1 : Int32} {a2 : Int32} {a3 : Int32} {H : Heap} {locs : List Loc} {ls : Array Slot} (C : Cx p s m meth c args A D kc R_SpeciesSolverModel b_SpeciesSolverModel_isPassing 4 (some .boolean)) (hm : m_SpeciesSolverModel_isPassing md_numbers a1 a2 a3 = some r) (hZ : St D A s (wd_SpeciesSolverModel_isPassing kc ad md_thrown md_drafted md_lines md_n md_species md_above md_trialSize md_foundSize md_foundSpecies md_foundN md_foundCost md_chosen md_low md_many md_ties md_winnerCost md_allMany md_allTies md_faults md_numbers) H locs) (hl : lv_has ls 4 [(0, .ref (ad 0)), (1, .int a1), (2, .int a2), (3, .int a3)]) : W p l e rm_SpeciesSolverModel_isPassing s m args below meth c H locs 0 0 (MQ below (Qi D A (wd_SpeciesSolverModel_isPassing kc ad md_thrown md_drafted md_lines md_n md_species md_above md_trialSize md_foundSize md_foundSpecies md_foundN md_foundCost md_chosen md_low md_many md_ties md_winnerCost md_allMany md_allTies md_faults md_numbers) r) args s 0 0 A) (F0 m 0 ls []) := by
  obtain ⟨hx, hb, hr, hts, hown, hml, hlocks, hK, hN, hA, hX⟩ := id C
  obtain ⟨hP, hD, hS⟩ := hZ
  unfold m_SpeciesSolverModel_isPassing at hm
  refine lv_iload_n hx hb d_SpeciesSolverModel_isPassing_0 rfl (lv_at hl 1 rfl) ?_
  refine lv_iload_n hx hb d_SpeciesSolverModel_isPassing_1 rfl (lv_at hl 2 rfl) ?_
  obtain ⟨u1, hc2, hm⟩ := bd_some hm
  refine zS_i (n := 2) (wr := [((ad 0), .inr (1, [.int md_thrown, .ref (ad 1), .int md_drafted, .ref (ad 2), .int md_lines, .int md_n, .int md_species, .int md_above, .ref (ad 3), .ref (ad 4), .ref (ad 5), .int md_trialSize, .ref (ad 6), .int md_foundSize, .int md_foundSpecies, .int md_foundN, .int md_foundCost, .ref (ad 7), .int md_chosen, .ref (ad 8), .ref (ad 9), .ref (ad 10), .int md_low, .long md_many, .long md_ties, .ref (ad 11), .ref (ad 12), .int md_winnerCost, .long md_allMany, .long md_allTies, .ref (ad 13), .ref (ad 14), .ref (ad 15), .ref (ad 16), .int md_faults])), ((ad 4), .inl (kc 0, 18, .inl md_numbers))]) (w1 := (wd_SpeciesSolverModel_way kc )) (ws1 := (wd_SpeciesSolverModel_isPassing kc ad md_thrown md_drafted md_lines md_n md_species md_above md_trialSize md_foundSize md_foundSpecies md_foundN md_foundCost md_chosen md_low md_many md_ties md_winnerCost md_allMany md_allTies md_faults md_numbers)) (As := [.int a1, .int a2]) (rest := []) (y := y_SpeciesSolverModel_way) ⟨hx, hb, hml, hown, hts⟩ (fun sz => c_SpeciesSolverModel_way hc2 sz) gw_1040 gw_1038 gw_1039 gw_118 rfl hd_SpeciesSolverModel_way ⟨Nat.le_of_ble_eq_true rfl, Nat.le_of_ble_eq_true rfl⟩ ⟨rfl, rfl⟩ ⟨Nat.zero_le _, Nat.zero_le _⟩ hK hN hP hD hS hA hX [] [0, 1] [0, 1] rfl rfl (by decide) (by decide) (by decide) rfl (by decide) rfl hl.1 rfl (Nat.le_of_ble_eq_true rfl) d_SpeciesSolverModel_isPassing_2 (fun H locs hP hD hS => ?_)
  refine lv_iload_n hx hb d_SpeciesSolverModel_isPassing_5 rfl (lv_at hl 2 rfl) ?_
  refine lv_iload_n hx hb d_SpeciesSolverModel_isPassing_6 rfl (lv_at hl 3 rfl) ?_
  obtain ⟨u3, hc4, hm⟩ := bd_some hm
  refine zS_i (n := 2) (wr := [((ad 0), .inr (1, [.int md_thrown, .ref (ad 1), .int md_drafted, .ref (ad 2), .int md_lines, .int md_n, .int md_species, .int md_above, .ref (ad 3), .ref (ad 4), .ref (ad 5), .int md_trialSize, .ref (ad 6), .int md_foundSize, .int md_foundSpecies, .int md_foundN, .int md_foundCost, .ref (ad 7), .int md_chosen, .ref (ad 8), .ref (ad 9), .ref (ad 10), .int md_low, .long md_many, .long md_ties, .ref (ad 11), .ref (ad 12), .int md_winnerCost, .long md_allMany, .long md_allTies, .ref (ad 13), .ref (ad 14), .ref (ad 15), .ref (ad 16), .int md_faults])), ((ad 4), .inl (kc 0, 18, .inl md_numbers))]) (w1 := (wd_SpeciesSolverModel_way kc )) (ws1 := (wd_SpeciesSolverModel_isPassing kc ad md_thrown md_drafted md_lines md_n md_species md_above md_trialSize md_foundSize md_foundSpecies md_foundN md_foundCost md_chosen md_low md_many md_ties md_winnerCost md_allMany md_allTies md_faults md_numbers)) (As := [.int a2, .int a3]) (rest := [.int u1]) (y := y_SpeciesSolverModel_way) ⟨hx, hb, hml, hown, hts⟩ (fun sz => c_SpeciesSolverModel_way hc4 sz) gw_1040 gw_1038 gw_1039 gw_118 rfl hd_SpeciesSolverModel_way ⟨Nat.le_of_ble_eq_true rfl, Nat.le_of_ble_eq_true rfl⟩ ⟨rfl, rfl⟩ ⟨Nat.zero_le _, Nat.zero_le _⟩ hK hN hP hD hS hA hX [] [0, 1] [0, 1] rfl rfl (by decide) (by decide) (by decide) rfl (by decide) rfl hl.1 rfl (Nat.le_of_ble_eq_true rfl) d_SpeciesSolverModel_isPassing_7 (fun H locs hP hD hS => ?_)
  refine lv_icmp_ne (tgt := 35) hx hb d_SpeciesSolverModel_isPassing_10 (by decide) (fun c5 => ?_) (fun c5 => ?_)
  · replace hm := ifF hm c5
    refine lv_iconst (v := 0) hx hb d_SpeciesSolverModel_isPassing_35 (by decide) ?_
    replace hm := Option.some.inj hm; subst hm
    exact zret_z (v := 0) C hP hD hS (by rfl) d_SpeciesSolverModel_isPassing_36
  · replace hm := ifT hm c5
    refine lv_aload_n hx hb d_SpeciesSolverModel_isPassing_13 rfl (lv_at hl 0 rfl) ?_
    refine lv_iload_n hx hb d_SpeciesSolverModel_isPassing_14 rfl (lv_at hl 1 rfl) ?_
    refine lv_iload_n hx hb d_SpeciesSolverModel_isPassing_15 rfl (lv_at hl 2 rfl) ?_
    obtain ⟨u6, hc7, hm⟩ := bd_some hm
    refine zV_i (n := 2) (wr := []) (w1 := (wd_SpeciesSolverModel_isStep kc ad md_thrown md_drafted md_lines md_n md_species md_above md_trialSize md_foundSize md_foundSpecies md_foundN md_foundCost md_chosen md_low md_many md_ties md_winnerCost md_allMany md_allTies md_faults md_numbers)) (ws1 := (wd_SpeciesSolverModel_isPassing kc ad md_thrown md_drafted md_lines md_n md_species md_above md_trialSize md_foundSize md_foundSpecies md_foundN md_foundCost md_chosen md_low md_many md_ties md_winnerCost md_allMany md_allTies md_faults md_numbers)) (As := [.int a1, .int a2]) (rest := []) (ci := 1) (q0 := 0) (y := y_SpeciesSolverModel_isStep) ⟨hx, hb, hml, hown, hts⟩ (fun sz => c_SpeciesSolverModel_isStep hc7 sz) gw_1063 gw_1060 gw_1062 gw_93 gw_118 hd_SpeciesSolverModel_isStep ⟨Nat.le_of_ble_eq_true rfl, Nat.le_of_ble_eq_true rfl⟩ ⟨rfl, rfl⟩ ⟨Nat.zero_le _, Nat.zero_le _⟩ hK hN hP hD hS hA hX [0, 1] [] [0, 1] rfl rfl (by decide) (by decide) (by decide) rfl (by decide) rfl rfl rfl hl.1 rfl (Nat.le_of_ble_eq_true rfl) d_SpeciesSolverModel_isPassing_16 (fun H locs hP hD hS => ?_)
    refine lv_if_eq (tgt := 35) hx hb d_SpeciesSolverModel_isPassing_19 (by decide) (fun c8 => ?_) (fun c8 => ?_)
    · replace hm := ifT hm c8
      refine lv_iconst (v := 0) hx hb d_SpeciesSolverModel_isPassing_35 (by decide) ?_
      replace hm := Option.some.inj hm; subst hm
      exact zret_z (v := 0) C hP hD hS (by rfl) d_SpeciesSolverModel_isPassing_36
    · replace hm := ifF hm c8
      refine lv_aload_n hx hb d_SpeciesSolverModel_isPassing_22 rfl (lv_at hl 0 rfl) ?_
      refine lv_iload_n hx hb d_SpeciesSolverModel_isPassing_23 rfl (lv_at hl 2 rfl) ?_
      refine lv_iload_n hx hb d_SpeciesSolverModel_isPassing_24 rfl (lv_at hl 3 rfl) ?_
      obtain ⟨u9, hc10, hm⟩ := bd_some hm
      refine zV_i (n := 2) (wr := []) (w1 := (wd_SpeciesSolverModel_isStep kc ad md_thrown md_drafted md_lines md_n md_species md_above md_trialSize md_foundSize md_foundSpecies md_foundN md_foundCost md_chosen md_low md_many md_ties md_winnerCost md_allMany md_allTies md_faults md_numbers)) (ws1 := (wd_SpeciesSolverModel_isPassing kc ad md_thrown md_drafted md_lines md_n md_species md_above md_trialSize md_foundSize md_foundSpecies md_foundN md_foundCost md_chosen md_low md_many md_ties md_winnerCost md_allMany md_allTies md_faults md_numbers)) (As := [.int a2, .int a3]) (rest := []) (ci := 1) (q0 := 0) (y := y_SpeciesSolverModel_isStep) ⟨hx, hb, hml, hown, hts⟩ (fun sz => c_SpeciesSolverModel_isStep hc10 sz) gw_1063 gw_1060 gw_1062 gw_93 gw_118 hd_SpeciesSolverModel_isStep ⟨Nat.le_of_ble_eq_true rfl, Nat.le_of_ble_eq_true rfl⟩ ⟨rfl, rfl⟩ ⟨Nat.zero_le _, Nat.zero_le _⟩ hK hN hP hD hS hA hX [0, 1] [] [0, 1] rfl rfl (by decide) (by decide) (by decide) rfl (by decide) rfl rfl rfl hl.1 rfl (Nat.le_of_ble_eq_true rfl) d_SpeciesSolverModel_isPassing_25 (fun H locs hP hD hS => ?_)
      refine lv_if_eq (tgt := 35) hx hb d_SpeciesSolverModel_isPassing_28 (by decide) (fun c11 => ?_) (fun c11 => ?_)
      · replace hm := ifT hm c11
        refine lv_iconst (v := 0) hx hb d_SpeciesSolverModel_isPassing_35 (by decide) ?_
        replace hm := Option.some.inj hm; subst hm
        exact zret_z (v := 0) C hP hD hS (by rfl) d_SpeciesSolverModel_isPassing_36
      · replace hm := ifF hm c11
        refine lv_iconst (v := 1) hx hb d_SpeciesSolverModel_isPassing_31 (by decide) ?_
        refine lv_goto (tgt := 36) hx hb d_SpeciesSolverModel_isPassing_32 (by decide) ?_
        replace hm := Option.some.inj hm; subst hm
        exact zret_z (v := 1) C hP hD hS (by rfl) d_SpeciesSolverModel_isPassing_36
set_option maxHeartbeats 4000000 in
set_option maxRecDepth 100000 in
theorem c_SpeciesSolverModel_isPassing {l : Launch} {D : va_G} {kc : Nat → ClassId} {r : Int32} {ad : Nat → Nat} {md_thrown : Int32} {md_drafted : Int32} {md_lines : Int32} {md_n : Int32} {md_species : Int32} {md_above : Int32} {md_trialSize : Int32} {md_foundSize : Int32} {md_foundSpecies : Int32} {md_foundN : Int32} {md_foundCost : Int32} {md_chosen : Int32} {md_low : Int32} {md_many : Int64} {md_ties : Int64} {md_winnerCost : Int32} {md_allMany : Int64} {md_allTies : Int64} {md_faults : Int32} {md_numbers : Nat → Int32} {a1 : Int32} {a2 : Int32} {a3 : Int32} (hm : m_SpeciesSolverModel_isPassing md_numbers a1 a2 a3 = some r) (sz : Nat) : Ci l y_SpeciesSolverModel_isPassing ws_SpeciesSolverModel_isPassing rm_SpeciesSolverModel_isPassing D kc sz [.ref (ad 0), .int a1, .int a2, .int a3] (wd_SpeciesSolverModel_isPassing kc ad md_thrown md_drafted md_lines md_n md_species md_above md_trialSize md_foundSize md_foundSpecies md_foundN md_foundCost md_chosen md_low md_many md_ties md_winnerCost md_allMany md_allTies md_faults md_numbers) (wd_SpeciesSolverModel_isPassing kc ad md_thrown md_drafted md_lines md_n md_species md_above md_trialSize md_foundSize md_foundSpecies md_foundN md_foundCost md_chosen md_low md_many md_ties md_winnerCost md_allMany md_allTies md_faults md_numbers) r :=
  Cz_of (Qf := fun A => (Qi D A (wd_SpeciesSolverModel_isPassing kc ad md_thrown md_drafted md_lines md_n md_species md_above md_trialSize md_foundSize md_foundSpecies md_foundN md_foundCost md_chosen md_low md_many md_ties md_winnerCost md_allMany md_allTies md_faults md_numbers) r)) (cc := b_SpeciesSolverModel_isPassing) (maxL := 4) (ret := (some .boolean)) (by decide) rfl rfl (fun C hZ hl => e_SpeciesSolverModel_isPassing C hm hZ hl)
abbrev b_SpeciesSolverModel_rule4 : ByteArray := prog_9_method_28_code
abbrev y_SpeciesSolverModel_rule4 : MethodName := ⟨"SpeciesSolverModel", "rule4", "(IIIII)Z"⟩
theorem d_SpeciesSolverModel_rule4_0 : decode b_SpeciesSolverModel_rule4 0 = .ok (.aload_n 0, 1) := by decide +kernel
theorem d_SpeciesSolverModel_rule4_1 : decode b_SpeciesSolverModel_rule4 1 = .ok (.iload_n 2, 1) := by decide +kernel
theorem d_SpeciesSolverModel_rule4_2 : decode b_SpeciesSolverModel_rule4 2 = .ok (.invokevirtual 111, 3) := by decide +kernel
theorem d_SpeciesSolverModel_rule4_5 : decode b_SpeciesSolverModel_rule4 5 = .ok (.ifCond .ne 35, 3) := by decide +kernel
theorem d_SpeciesSolverModel_rule4_8 : decode b_SpeciesSolverModel_rule4 8 = .ok (.aload_n 0, 1) := by decide +kernel
theorem d_SpeciesSolverModel_rule4_9 : decode b_SpeciesSolverModel_rule4 9 = .ok (.iconst 3, 1) := by decide +kernel
theorem d_SpeciesSolverModel_rule4_10 : decode b_SpeciesSolverModel_rule4 10 = .ok (.iload 4, 2) := by decide +kernel
theorem d_SpeciesSolverModel_rule4_12 : decode b_SpeciesSolverModel_rule4 12 = .ok (.aload_n 0, 1) := by decide +kernel
theorem d_SpeciesSolverModel_rule4_13 : decode b_SpeciesSolverModel_rule4 13 = .ok (.iload_n 1, 1) := by decide +kernel
theorem d_SpeciesSolverModel_rule4_14 : decode b_SpeciesSolverModel_rule4 14 = .ok (.iload_n 2, 1) := by decide +kernel
theorem d_SpeciesSolverModel_rule4_15 : decode b_SpeciesSolverModel_rule4 15 = .ok (.invokevirtual 108, 3) := by decide +kernel
theorem d_SpeciesSolverModel_rule4_18 : decode b_SpeciesSolverModel_rule4 18 = .ok (.invokevirtual 115, 3) := by decide +kernel
theorem d_SpeciesSolverModel_rule4_21 : decode b_SpeciesSolverModel_rule4 21 = .ok (.ifCond .ne 19, 3) := by decide +kernel
theorem d_SpeciesSolverModel_rule4_24 : decode b_SpeciesSolverModel_rule4 24 = .ok (.aload_n 0, 1) := by decide +kernel
theorem d_SpeciesSolverModel_rule4_25 : decode b_SpeciesSolverModel_rule4 25 = .ok (.iload_n 3, 1) := by decide +kernel
theorem d_SpeciesSolverModel_rule4_26 : decode b_SpeciesSolverModel_rule4 26 = .ok (.iload 4, 2) := by decide +kernel
theorem d_SpeciesSolverModel_rule4_28 : decode b_SpeciesSolverModel_rule4 28 = .ok (.iload 5, 2) := by decide +kernel
theorem d_SpeciesSolverModel_rule4_30 : decode b_SpeciesSolverModel_rule4 30 = .ok (.invokevirtual 127, 3) := by decide +kernel
theorem d_SpeciesSolverModel_rule4_33 : decode b_SpeciesSolverModel_rule4 33 = .ok (.ifCond .ne 7, 3) := by decide +kernel
theorem d_SpeciesSolverModel_rule4_36 : decode b_SpeciesSolverModel_rule4 36 = .ok (.iconst 1, 1) := by decide +kernel
theorem d_SpeciesSolverModel_rule4_37 : decode b_SpeciesSolverModel_rule4 37 = .ok (.goto 4, 3) := by decide +kernel
theorem d_SpeciesSolverModel_rule4_40 : decode b_SpeciesSolverModel_rule4 40 = .ok (.iconst 0, 1) := by decide +kernel
theorem d_SpeciesSolverModel_rule4_41 : decode b_SpeciesSolverModel_rule4 41 = .ok (.ireturn, 1) := by decide +kernel
abbrev wd_SpeciesSolverModel_rule4 (kc : Nat → ClassId) (ad : Nat → Nat) (md_thrown : Int32) (md_drafted : Int32) (md_lines : Int32) (md_n : Int32) (md_species : Int32) (md_above : Int32) (md_trialSize : Int32) (md_foundSize : Int32) (md_foundSpecies : Int32) (md_foundN : Int32) (md_foundCost : Int32) (md_chosen : Int32) (md_low : Int32) (md_many : Int64) (md_ties : Int64) (md_winnerCost : Int32) (md_allMany : Int64) (md_allTies : Int64) (md_faults : Int32) (md_given : Nat → Int32) (md_numbers : Nat → Int32) : va_W := [((ad 0), .inr (1, [.int md_thrown, .ref (ad 1), .int md_drafted, .ref (ad 2), .int md_lines, .int md_n, .int md_species, .int md_above, .ref (ad 3), .ref (ad 4), .ref (ad 5), .int md_trialSize, .ref (ad 6), .int md_foundSize, .int md_foundSpecies, .int md_foundN, .int md_foundCost, .ref (ad 7), .int md_chosen, .ref (ad 8), .ref (ad 9), .ref (ad 10), .int md_low, .long md_many, .long md_ties, .ref (ad 11), .ref (ad 12), .int md_winnerCost, .long md_allMany, .long md_allTies, .ref (ad 13), .ref (ad 14), .ref (ad 15), .ref (ad 16), .int md_faults])), ((ad 2), .inl (kc 0, 36, .inl md_given)), ((ad 4), .inl (kc 0, 18, .inl md_numbers))]
abbrev rm_SpeciesSolverModel_rule4 : Room := { frames := 3, cells := 0, slots := 0, locals := 67 }
abbrev cw_SpeciesSolverModel_rule4 : Cond := .code y_SpeciesSolverModel_rule4 b_SpeciesSolverModel_rule4 6 (some .boolean)
abbrev ws_SpeciesSolverModel_rule4 : List Cond := cw_SpeciesSolverModel_rule4 :: GW
theorem hd_SpeciesSolverModel_rule4 : y_SpeciesSolverModel_rule4.cls ≠ "java/lang/invoke/MethodHandle" ∧ y_SpeciesSolverModel_rule4.cls ≠ "java/lang/invoke/VarHandle" ∧ (parseMethodDescriptor y_SpeciesSolverModel_rule4.desc).map (fun d => d.parameters.length) = some 5 := by decide +kernel
def m_SpeciesSolverModel_rule4 (md_species : Int32) (md_given : Nat → Int32) (md_numbers : Nat → Int32)  (a1 : Int32) (a2 : Int32) (a3 : Int32) (a4 : Int32) (a5 : Int32) : Option (Int32) :=
  (bd (m_SpeciesSolverModel_isStrong md_species a2) (fun u1 => (if u1 = (0 : Int32) then
    (bd (m_SpeciesSolverModel_at md_species md_given a1 a2) (fun u4 => (bd (m_SpeciesSolverModel_isIn md_numbers (3 : Int32) a4 u4) (fun u6 => (if u6 = (0 : Int32) then
      (bd (m_SpeciesSolverModel_isPassing md_numbers a3 a4 a5) (fun u9 => (if u9 = (0 : Int32) then
        (some (1 : Int32))
      else
        (some (0 : Int32)))))
    else
      (some (0 : Int32)))))))
  else
    (some (0 : Int32)))))
set_option maxHeartbeats 4000000 in
set_option maxRecDepth 100000 in
theorem e_SpeciesSolverModel_rule4 {r : Int32} {ad : Nat → Nat} {md_thrown : Int32} {md_drafted : Int32} {md_lines : Int32} {md_n : Int32} {md_species : Int32} {md_above : Int32} {md_trialSize : Int32} {md_foundSize : Int32} {md_foundSpecies : Int32} {md_foundN : Int32} {md_foundCost : Int32} {md_chosen : Int32} {md_low : Int32} {md_many : Int64} {md_ties : Int64} {md_winnerCost : Int32} {md_allMany : Int64} {md_allTies : Int64} {md_faults : Int32} {md_given : Nat → Int32} {md_numbers : Nat → Int32} {a1 : Int32} {a2 : Int32} {a3 : Int32} {a4 : Int32} {a5 : Int32} {H : Heap} {locs : List Loc} {ls : Array Slot} (C : Cx p s m meth c args A D kc R_SpeciesSolverModel b_SpeciesSolverModel_rule4 6 (some .boolean)) (hm : m_SpeciesSolverModel_rule4 md_species md_given md_numbers a1 a2 a3 a4 a5 = some r) (hZ : St D A s (wd_SpeciesSolverModel_rule4 kc ad md_thrown md_drafted md_lines md_n md_species md_above md_trialSize md_foundSize md_foundSpecies md_foundN md_foundCost md_chosen md_low md_many md_ties md_winnerCost md_allMany md_allTies md_faults md_given md_numbers) H locs) (hl : lv_has ls 6 [(0, .ref (ad 0)), (1, .int a1), (2, .int a2), (3, .int a3), (4, .int a4), (5, .int a5)]) : W p l e rm_SpeciesSolverModel_rule4 s m args below meth c H locs 0 0 (MQ below (Qi D A (wd_SpeciesSolverModel_rule4 kc ad md_thrown md_drafted md_lines md_n md_species md_above md_trialSize md_foundSize md_foundSpecies md_foundN md_foundCost md_chosen md_low md_many md_ties md_winnerCost md_allMany md_allTies md_faults md_given md_numbers) r) args s 0 0 A) (F0 m 0 ls []) := by
  obtain ⟨hx, hb, hr, hts, hown, hml, hlocks, hK, hN, hA, hX⟩ := id C
  obtain ⟨hP, hD, hS⟩ := hZ
  unfold m_SpeciesSolverModel_rule4 at hm
  refine lv_aload_n hx hb d_SpeciesSolverModel_rule4_0 rfl (lv_at hl 0 rfl) ?_
  refine lv_iload_n hx hb d_SpeciesSolverModel_rule4_1 rfl (lv_at hl 2 rfl) ?_
  obtain ⟨u1, hc2, hm⟩ := bd_some hm
  refine zV_i (n := 1) (wr := [((ad 2), .inl (kc 0, 36, .inl md_given)), ((ad 4), .inl (kc 0, 18, .inl md_numbers))]) (w1 := (wd_SpeciesSolverModel_isStrong kc ad md_thrown md_drafted md_lines md_n md_species md_above md_trialSize md_foundSize md_foundSpecies md_foundN md_foundCost md_chosen md_low md_many md_ties md_winnerCost md_allMany md_allTies md_faults)) (ws1 := (wd_SpeciesSolverModel_rule4 kc ad md_thrown md_drafted md_lines md_n md_species md_above md_trialSize md_foundSize md_foundSpecies md_foundN md_foundCost md_chosen md_low md_many md_ties md_winnerCost md_allMany md_allTies md_faults md_given md_numbers)) (As := [.int a2]) (rest := []) (ci := 1) (q0 := 0) (y := y_SpeciesSolverModel_isStrong) ⟨hx, hb, hml, hown, hts⟩ (fun sz => c_SpeciesSolverModel_isStrong hc2 sz) gw_999 gw_996 gw_998 gw_80 gw_118 hd_SpeciesSolverModel_isStrong ⟨Nat.le_of_ble_eq_true rfl, Nat.le_of_ble_eq_true rfl⟩ ⟨rfl, rfl⟩ ⟨Nat.zero_le _, Nat.zero_le _⟩ hK hN hP hD hS hA hX [0] [1, 2] [2, 0, 1] rfl rfl (by decide) (by decide) (by decide) rfl (by decide) rfl rfl rfl hl.1 rfl (Nat.le_of_ble_eq_true rfl) d_SpeciesSolverModel_rule4_2 (fun H locs hP hD hS => ?_)
  refine lv_if_ne (tgt := 40) hx hb d_SpeciesSolverModel_rule4_5 (by decide) (fun c3 => ?_) (fun c3 => ?_)
  · replace hm := ifF hm c3
    refine lv_iconst (v := 0) hx hb d_SpeciesSolverModel_rule4_40 (by decide) ?_
    replace hm := Option.some.inj hm; subst hm
    exact zret_z (v := 0) C hP hD hS (by rfl) d_SpeciesSolverModel_rule4_41
  · replace hm := ifT hm c3
    refine lv_aload_n hx hb d_SpeciesSolverModel_rule4_8 rfl (lv_at hl 0 rfl) ?_
    refine lv_iconst (v := 3) hx hb d_SpeciesSolverModel_rule4_9 (by decide) ?_
    refine lv_iload hx hb d_SpeciesSolverModel_rule4_10 (lv_at hl 4 rfl) ?_
    refine lv_aload_n hx hb d_SpeciesSolverModel_rule4_12 rfl (lv_at hl 0 rfl) ?_
    refine lv_iload_n hx hb d_SpeciesSolverModel_rule4_13 rfl (lv_at hl 1 rfl) ?_
    refine lv_iload_n hx hb d_SpeciesSolverModel_rule4_14 rfl (lv_at hl 2 rfl) ?_
    obtain ⟨u4, hc5, hm⟩ := bd_some hm
    refine zV_i (n := 2) (wr := [((ad 4), .inl (kc 0, 18, .inl md_numbers))]) (w1 := (wd_SpeciesSolverModel_at kc ad md_thrown md_drafted md_lines md_n md_species md_above md_trialSize md_foundSize md_foundSpecies md_foundN md_foundCost md_chosen md_low md_many md_ties md_winnerCost md_allMany md_allTies md_faults md_given)) (ws1 := (wd_SpeciesSolverModel_rule4 kc ad md_thrown md_drafted md_lines md_n md_species md_above md_trialSize md_foundSize md_foundSpecies md_foundN md_foundCost md_chosen md_low md_many md_ties md_winnerCost md_allMany md_allTies md_faults md_given md_numbers)) (As := [.int a1, .int a2]) (rest := [.int a4, .int (3 : Int32), .ref (ad 0)]) (ci := 1) (q0 := 0) (y := y_SpeciesSolverModel_at) ⟨hx, hb, hml, hown, hts⟩ (fun sz => c_SpeciesSolverModel_at hc5 sz) gw_1022 gw_1019 gw_1021 gw_85 gw_118 hd_SpeciesSolverModel_at ⟨Nat.le_of_ble_eq_true rfl, Nat.le_of_ble_eq_true rfl⟩ ⟨rfl, rfl⟩ ⟨Nat.zero_le _, Nat.zero_le _⟩ hK hN hP hD hS hA hX [0, 1] [2] [1, 2, 0] rfl rfl (by decide) (by decide) (by decide) rfl (by decide) rfl rfl rfl hl.1 rfl (Nat.le_of_ble_eq_true rfl) d_SpeciesSolverModel_rule4_15 (fun H locs hP hD hS => ?_)
    obtain ⟨u6, hc7, hm⟩ := bd_some hm
    refine zV_i (n := 3) (wr := [((ad 2), .inl (kc 0, 36, .inl md_given))]) (w1 := (wd_SpeciesSolverModel_isIn kc ad md_thrown md_drafted md_lines md_n md_species md_above md_trialSize md_foundSize md_foundSpecies md_foundN md_foundCost md_chosen md_low md_many md_ties md_winnerCost md_allMany md_allTies md_faults md_numbers)) (ws1 := (wd_SpeciesSolverModel_rule4 kc ad md_thrown md_drafted md_lines md_n md_species md_above md_trialSize md_foundSize md_foundSpecies md_foundN md_foundCost md_chosen md_low md_many md_ties md_winnerCost md_allMany md_allTies md_faults md_given md_numbers)) (As := [.int (3 : Int32), .int a4, .int u4]) (rest := []) (ci := 1) (q0 := 0) (y := y_SpeciesSolverModel_isIn) ⟨hx, hb, hml, hown, hts⟩ (fun sz => c_SpeciesSolverModel_isIn hc7 sz) gw_1026 gw_1023 gw_1025 gw_86 gw_118 hd_SpeciesSolverModel_isIn ⟨Nat.le_of_ble_eq_true rfl, Nat.le_of_ble_eq_true rfl⟩ ⟨rfl, rfl⟩ ⟨Nat.zero_le _, Nat.zero_le _⟩ hK hN hP hD hS hA hX [0, 2] [1] [1, 0, 2] rfl rfl (by decide) (by decide) (by decide) rfl (by decide) rfl rfl rfl hl.1 rfl (Nat.le_of_ble_eq_true rfl) d_SpeciesSolverModel_rule4_18 (fun H locs hP hD hS => ?_)
    refine lv_if_ne (tgt := 40) hx hb d_SpeciesSolverModel_rule4_21 (by decide) (fun c8 => ?_) (fun c8 => ?_)
    · replace hm := ifF hm c8
      refine lv_iconst (v := 0) hx hb d_SpeciesSolverModel_rule4_40 (by decide) ?_
      replace hm := Option.some.inj hm; subst hm
      exact zret_z (v := 0) C hP hD hS (by rfl) d_SpeciesSolverModel_rule4_41
    · replace hm := ifT hm c8
      refine lv_aload_n hx hb d_SpeciesSolverModel_rule4_24 rfl (lv_at hl 0 rfl) ?_
      refine lv_iload_n hx hb d_SpeciesSolverModel_rule4_25 rfl (lv_at hl 3 rfl) ?_
      refine lv_iload hx hb d_SpeciesSolverModel_rule4_26 (lv_at hl 4 rfl) ?_
      refine lv_iload hx hb d_SpeciesSolverModel_rule4_28 (lv_at hl 5 rfl) ?_
      obtain ⟨u9, hc10, hm⟩ := bd_some hm
      refine zV_i (n := 3) (wr := [((ad 2), .inl (kc 0, 36, .inl md_given))]) (w1 := (wd_SpeciesSolverModel_isPassing kc ad md_thrown md_drafted md_lines md_n md_species md_above md_trialSize md_foundSize md_foundSpecies md_foundN md_foundCost md_chosen md_low md_many md_ties md_winnerCost md_allMany md_allTies md_faults md_numbers)) (ws1 := (wd_SpeciesSolverModel_rule4 kc ad md_thrown md_drafted md_lines md_n md_species md_above md_trialSize md_foundSize md_foundSpecies md_foundN md_foundCost md_chosen md_low md_many md_ties md_winnerCost md_allMany md_allTies md_faults md_given md_numbers)) (As := [.int a3, .int a4, .int a5]) (rest := []) (ci := 1) (q0 := 0) (y := y_SpeciesSolverModel_isPassing) ⟨hx, hb, hml, hown, hts⟩ (fun sz => c_SpeciesSolverModel_isPassing hc10 sz) gw_1059 gw_1056 gw_1058 gw_92 gw_118 hd_SpeciesSolverModel_isPassing ⟨Nat.le_of_ble_eq_true rfl, Nat.le_of_ble_eq_true rfl⟩ ⟨rfl, rfl⟩ ⟨Nat.zero_le _, Nat.zero_le _⟩ hK hN hP hD hS hA hX [0, 2] [1] [1, 0, 2] rfl rfl (by decide) (by decide) (by decide) rfl (by decide) rfl rfl rfl hl.1 rfl (Nat.le_of_ble_eq_true rfl) d_SpeciesSolverModel_rule4_30 (fun H locs hP hD hS => ?_)
      refine lv_if_ne (tgt := 40) hx hb d_SpeciesSolverModel_rule4_33 (by decide) (fun c11 => ?_) (fun c11 => ?_)
      · replace hm := ifF hm c11
        refine lv_iconst (v := 0) hx hb d_SpeciesSolverModel_rule4_40 (by decide) ?_
        replace hm := Option.some.inj hm; subst hm
        exact zret_z (v := 0) C hP hD hS (by rfl) d_SpeciesSolverModel_rule4_41
      · replace hm := ifT hm c11
        refine lv_iconst (v := 1) hx hb d_SpeciesSolverModel_rule4_36 (by decide) ?_
        refine lv_goto (tgt := 41) hx hb d_SpeciesSolverModel_rule4_37 (by decide) ?_
        replace hm := Option.some.inj hm; subst hm
        exact zret_z (v := 1) C hP hD hS (by rfl) d_SpeciesSolverModel_rule4_41
set_option maxHeartbeats 4000000 in
set_option maxRecDepth 100000 in
theorem c_SpeciesSolverModel_rule4 {l : Launch} {D : va_G} {kc : Nat → ClassId} {r : Int32} {ad : Nat → Nat} {md_thrown : Int32} {md_drafted : Int32} {md_lines : Int32} {md_n : Int32} {md_species : Int32} {md_above : Int32} {md_trialSize : Int32} {md_foundSize : Int32} {md_foundSpecies : Int32} {md_foundN : Int32} {md_foundCost : Int32} {md_chosen : Int32} {md_low : Int32} {md_many : Int64} {md_ties : Int64} {md_winnerCost : Int32} {md_allMany : Int64} {md_allTies : Int64} {md_faults : Int32} {md_given : Nat → Int32} {md_numbers : Nat → Int32} {a1 : Int32} {a2 : Int32} {a3 : Int32} {a4 : Int32} {a5 : Int32} (hm : m_SpeciesSolverModel_rule4 md_species md_given md_numbers a1 a2 a3 a4 a5 = some r) (sz : Nat) : Ci l y_SpeciesSolverModel_rule4 ws_SpeciesSolverModel_rule4 rm_SpeciesSolverModel_rule4 D kc sz [.ref (ad 0), .int a1, .int a2, .int a3, .int a4, .int a5] (wd_SpeciesSolverModel_rule4 kc ad md_thrown md_drafted md_lines md_n md_species md_above md_trialSize md_foundSize md_foundSpecies md_foundN md_foundCost md_chosen md_low md_many md_ties md_winnerCost md_allMany md_allTies md_faults md_given md_numbers) (wd_SpeciesSolverModel_rule4 kc ad md_thrown md_drafted md_lines md_n md_species md_above md_trialSize md_foundSize md_foundSpecies md_foundN md_foundCost md_chosen md_low md_many md_ties md_winnerCost md_allMany md_allTies md_faults md_given md_numbers) r :=
  Cz_of (Qf := fun A => (Qi D A (wd_SpeciesSolverModel_rule4 kc ad md_thrown md_drafted md_lines md_n md_species md_above md_trialSize md_foundSize md_foundSpecies md_foundN md_foundCost md_chosen md_low md_many md_ties md_winnerCost md_allMany md_allTies md_faults md_given md_numbers) r)) (cc := b_SpeciesSolverModel_rule4) (maxL := 6) (ret := (some .boolean)) (by decide) rfl rfl (fun C hZ hl => e_SpeciesSolverModel_rule4 C hm hZ hl)
abbrev b_SpeciesSolverModel_rule5 : ByteArray := prog_9_method_29_code
abbrev y_SpeciesSolverModel_rule5 : MethodName := ⟨"SpeciesSolverModel", "rule5", "(II)Z"⟩
theorem d_SpeciesSolverModel_rule5_0 : decode b_SpeciesSolverModel_rule5 0 = .ok (.iload_n 1, 1) := by decide +kernel
theorem d_SpeciesSolverModel_rule5_1 : decode b_SpeciesSolverModel_rule5 1 = .ok (.iload_n 2, 1) := by decide +kernel
theorem d_SpeciesSolverModel_rule5_2 : decode b_SpeciesSolverModel_rule5 2 = .ok (.invokestatic 101, 3) := by decide +kernel
theorem d_SpeciesSolverModel_rule5_5 : decode b_SpeciesSolverModel_rule5 5 = .ok (.istore_n 3, 1) := by decide +kernel
theorem d_SpeciesSolverModel_rule5_6 : decode b_SpeciesSolverModel_rule5 6 = .ok (.iload_n 3, 1) := by decide +kernel
theorem d_SpeciesSolverModel_rule5_7 : decode b_SpeciesSolverModel_rule5 7 = .ok (.aload_n 0, 1) := by decide +kernel
theorem d_SpeciesSolverModel_rule5_8 : decode b_SpeciesSolverModel_rule5 8 = .ok (.getfield 28, 3) := by decide +kernel
theorem d_SpeciesSolverModel_rule5_11 : decode b_SpeciesSolverModel_rule5 11 = .ok (.bipush 9, 2) := by decide +kernel
theorem d_SpeciesSolverModel_rule5_13 : decode b_SpeciesSolverModel_rule5 13 = .ok (.iaload, 1) := by decide +kernel
theorem d_SpeciesSolverModel_rule5_14 : decode b_SpeciesSolverModel_rule5 14 = .ok (.if_icmp .gt 24, 3) := by decide +kernel
theorem d_SpeciesSolverModel_rule5_17 : decode b_SpeciesSolverModel_rule5 17 = .ok (.iload_n 3, 1) := by decide +kernel
theorem d_SpeciesSolverModel_rule5_18 : decode b_SpeciesSolverModel_rule5 18 = .ok (.bipush 24, 2) := by decide +kernel
theorem d_SpeciesSolverModel_rule5_20 : decode b_SpeciesSolverModel_rule5 20 = .ok (.if_icmp .gt 22, 3) := by decide +kernel
theorem d_SpeciesSolverModel_rule5_23 : decode b_SpeciesSolverModel_rule5 23 = .ok (.aload_n 0, 1) := by decide +kernel
theorem d_SpeciesSolverModel_rule5_24 : decode b_SpeciesSolverModel_rule5 24 = .ok (.getfield 28, 3) := by decide +kernel
theorem d_SpeciesSolverModel_rule5_27 : decode b_SpeciesSolverModel_rule5 27 = .ok (.bipush 7, 2) := by decide +kernel
theorem d_SpeciesSolverModel_rule5_29 : decode b_SpeciesSolverModel_rule5 29 = .ok (.iaload, 1) := by decide +kernel
theorem d_SpeciesSolverModel_rule5_30 : decode b_SpeciesSolverModel_rule5 30 = .ok (.iload_n 3, 1) := by decide +kernel
theorem d_SpeciesSolverModel_rule5_31 : decode b_SpeciesSolverModel_rule5 31 = .ok (.ishr, 1) := by decide +kernel
theorem d_SpeciesSolverModel_rule5_32 : decode b_SpeciesSolverModel_rule5 32 = .ok (.iconst 1, 1) := by decide +kernel
theorem d_SpeciesSolverModel_rule5_33 : decode b_SpeciesSolverModel_rule5 33 = .ok (.iand, 1) := by decide +kernel
theorem d_SpeciesSolverModel_rule5_34 : decode b_SpeciesSolverModel_rule5 34 = .ok (.iconst 1, 1) := by decide +kernel
theorem d_SpeciesSolverModel_rule5_35 : decode b_SpeciesSolverModel_rule5 35 = .ok (.if_icmp .ne 7, 3) := by decide +kernel
theorem d_SpeciesSolverModel_rule5_38 : decode b_SpeciesSolverModel_rule5 38 = .ok (.iconst 1, 1) := by decide +kernel
theorem d_SpeciesSolverModel_rule5_39 : decode b_SpeciesSolverModel_rule5 39 = .ok (.goto 4, 3) := by decide +kernel
theorem d_SpeciesSolverModel_rule5_42 : decode b_SpeciesSolverModel_rule5 42 = .ok (.iconst 0, 1) := by decide +kernel
theorem d_SpeciesSolverModel_rule5_43 : decode b_SpeciesSolverModel_rule5 43 = .ok (.ireturn, 1) := by decide +kernel
abbrev wd_SpeciesSolverModel_rule5 (kc : Nat → ClassId) (ad : Nat → Nat) (md_thrown : Int32) (md_drafted : Int32) (md_lines : Int32) (md_n : Int32) (md_species : Int32) (md_above : Int32) (md_trialSize : Int32) (md_foundSize : Int32) (md_foundSpecies : Int32) (md_foundN : Int32) (md_foundCost : Int32) (md_chosen : Int32) (md_low : Int32) (md_many : Int64) (md_ties : Int64) (md_winnerCost : Int32) (md_allMany : Int64) (md_allTies : Int64) (md_faults : Int32) (md_numbers : Nat → Int32) : va_W := [((ad 0), .inr (1, [.int md_thrown, .ref (ad 1), .int md_drafted, .ref (ad 2), .int md_lines, .int md_n, .int md_species, .int md_above, .ref (ad 3), .ref (ad 4), .ref (ad 5), .int md_trialSize, .ref (ad 6), .int md_foundSize, .int md_foundSpecies, .int md_foundN, .int md_foundCost, .ref (ad 7), .int md_chosen, .ref (ad 8), .ref (ad 9), .ref (ad 10), .int md_low, .long md_many, .long md_ties, .ref (ad 11), .ref (ad 12), .int md_winnerCost, .long md_allMany, .long md_allTies, .ref (ad 13), .ref (ad 14), .ref (ad 15), .ref (ad 16), .int md_faults])), ((ad 4), .inl (kc 0, 18, .inl md_numbers))]
abbrev rm_SpeciesSolverModel_rule5 : Room := { frames := 1, cells := 0, slots := 0, locals := 21 }
abbrev cw_SpeciesSolverModel_rule5 : Cond := .code y_SpeciesSolverModel_rule5 b_SpeciesSolverModel_rule5 4 (some .boolean)
abbrev ws_SpeciesSolverModel_rule5 : List Cond := cw_SpeciesSolverModel_rule5 :: GW
theorem hd_SpeciesSolverModel_rule5 : y_SpeciesSolverModel_rule5.cls ≠ "java/lang/invoke/MethodHandle" ∧ y_SpeciesSolverModel_rule5.cls ≠ "java/lang/invoke/VarHandle" ∧ (parseMethodDescriptor y_SpeciesSolverModel_rule5.desc).map (fun d => d.parameters.length) = some 2 := by decide +kernel
def m_SpeciesSolverModel_rule5 (md_numbers : Nat → Int32)  (a1 : Int32) (a2 : Int32) : Option (Int32) :=
  (bd (m_SpeciesSolverModel_far a1 a2) (fun u1 => (if (md_numbers (Int32.toNatClampNeg (9 : Int32))) < u1 then
    (some (1 : Int32))
  else
    (if (24 : Int32) < u1 then
      (some (0 : Int32))
    else
      (if (((md_numbers (Int32.toNatClampNeg (7 : Int32))) >>> (u1 &&& 31)) &&& (1 : Int32)) = (1 : Int32) then
        (some (1 : Int32))
      else
        (some (0 : Int32)))))))
set_option maxHeartbeats 4000000 in
set_option maxRecDepth 100000 in
theorem e_SpeciesSolverModel_rule5 {r : Int32} {ad : Nat → Nat} {md_thrown : Int32} {md_drafted : Int32} {md_lines : Int32} {md_n : Int32} {md_species : Int32} {md_above : Int32} {md_trialSize : Int32} {md_foundSize : Int32} {md_foundSpecies : Int32} {md_foundN : Int32} {md_foundCost : Int32} {md_chosen : Int32} {md_low : Int32} {md_many : Int64} {md_ties : Int64} {md_winnerCost : Int32} {md_allMany : Int64} {md_allTies : Int64} {md_faults : Int32} {md_numbers : Nat → Int32} {a1 : Int32} {a2 : Int32} {H : Heap} {locs : List Loc} {ls : Array Slot} (C : Cx p s m meth c args A D kc R_SpeciesSolverModel b_SpeciesSolverModel_rule5 4 (some .boolean)) (hm : m_SpeciesSolverModel_rule5 md_numbers a1 a2 = some r) (hZ : St D A s (wd_SpeciesSolverModel_rule5 kc ad md_thrown md_drafted md_lines md_n md_species md_above md_trialSize md_foundSize md_foundSpecies md_foundN md_foundCost md_chosen md_low md_many md_ties md_winnerCost md_allMany md_allTies md_faults md_numbers) H locs) (hl : lv_has ls 4 [(0, .ref (ad 0)), (1, .int a1), (2, .int a2)]) : W p l e rm_SpeciesSolverModel_rule5 s m args below meth c H locs 0 0 (MQ below (Qi D A (wd_SpeciesSolverModel_rule5 kc ad md_thrown md_drafted md_lines md_n md_species md_above md_trialSize md_foundSize md_foundSpecies md_foundN md_foundCost md_chosen md_low md_many md_ties md_winnerCost md_allMany md_allTies md_faults md_numbers) r) args s 0 0 A) (F0 m 0 ls []) := by
  obtain ⟨hx, hb, hr, hts, hown, hml, hlocks, hK, hN, hA, hX⟩ := id C
  obtain ⟨hP, hD, hS⟩ := hZ
  unfold m_SpeciesSolverModel_rule5 at hm
  refine lv_iload_n hx hb d_SpeciesSolverModel_rule5_0 rfl (lv_at hl 1 rfl) ?_
  refine lv_iload_n hx hb d_SpeciesSolverModel_rule5_1 rfl (lv_at hl 2 rfl) ?_
  obtain ⟨u1, hc2, hm⟩ := bd_some hm
  refine zS_i (n := 2) (wr := [((ad 0), .inr (1, [.int md_thrown, .ref (ad 1), .int md_drafted, .ref (ad 2), .int md_lines, .int md_n, .int md_species, .int md_above, .ref (ad 3), .ref (ad 4), .ref (ad 5), .int md_trialSize, .ref (ad 6), .int md_foundSize, .int md_foundSpecies, .int md_foundN, .int md_foundCost, .ref (ad 7), .int md_chosen, .ref (ad 8), .ref (ad 9), .ref (ad 10), .int md_low, .long md_many, .long md_ties, .ref (ad 11), .ref (ad 12), .int md_winnerCost, .long md_allMany, .long md_allTies, .ref (ad 13), .ref (ad 14), .ref (ad 15), .ref (ad 16), .int md_faults])), ((ad 4), .inl (kc 0, 18, .inl md_numbers))]) (w1 := (wd_SpeciesSolverModel_far kc )) (ws1 := (wd_SpeciesSolverModel_rule5 kc ad md_thrown md_drafted md_lines md_n md_species md_above md_trialSize md_foundSize md_foundSpecies md_foundN md_foundCost md_chosen md_low md_many md_ties md_winnerCost md_allMany md_allTies md_faults md_numbers)) (As := [.int a1, .int a2]) (rest := []) (y := y_SpeciesSolverModel_far) ⟨hx, hb, hml, hown, hts⟩ (fun sz => c_SpeciesSolverModel_far hc2 sz) gw_1029 gw_1027 gw_1028 gw_118 rfl hd_SpeciesSolverModel_far ⟨Nat.le_of_ble_eq_true rfl, Nat.le_of_ble_eq_true rfl⟩ ⟨rfl, rfl⟩ ⟨Nat.zero_le _, Nat.zero_le _⟩ hK hN hP hD hS hA hX [] [0, 1] [0, 1] rfl rfl (by decide) (by decide) (by decide) rfl (by decide) rfl hl.1 rfl (Nat.le_of_ble_eq_true rfl) d_SpeciesSolverModel_rule5_2 (fun H locs hP hD hS => ?_)
  refine lv_istore_n (lv' := [(3, .int u1), (0, .ref (ad 0)), (1, .int a1), (2, .int a2)]) hx hb d_SpeciesSolverModel_rule5_5 rfl hl (by decide) rfl (fun ls hl => ?_)
  refine lv_iload_n hx hb d_SpeciesSolverModel_rule5_6 rfl (lv_at hl 0 rfl) ?_
  refine lv_aload_n hx hb d_SpeciesSolverModel_rule5_7 rfl (lv_at hl 1 rfl) ?_
  refine va_get (D := D) (ci := 1) (v := .ref (ad 4)) (C := R_SpeciesSolverModel) (T := T_SpeciesSolverModel) (N := 35) hx hb hts inG_SpeciesSolverModel hown hK hP 0 rfl rfl 9 (by decide) (hts _ gw_827) (fun _ h9 => h9) rfl d_SpeciesSolverModel_rule5_8 ?_
  refine lv_bipush (v := 9) hx hb d_SpeciesSolverModel_rule5_11 (by decide) ?_
  refine va_iald hx hb hK hP 1 0 rfl rfl (in_lit (by decide)) d_SpeciesSolverModel_rule5_13 ?_
  refine lv_icmp_gt (tgt := 38) hx hb d_SpeciesSolverModel_rule5_14 (by decide) (fun c3 => ?_) (fun c3 => ?_)
  · replace hm := ifT hm c3
    refine lv_iconst (v := 1) hx hb d_SpeciesSolverModel_rule5_38 (by decide) ?_
    refine lv_goto (tgt := 43) hx hb d_SpeciesSolverModel_rule5_39 (by decide) ?_
    replace hm := Option.some.inj hm; subst hm
    exact zret_z (v := 1) C hP hD hS (by rfl) d_SpeciesSolverModel_rule5_43
  · replace hm := ifF hm c3
    refine lv_iload_n hx hb d_SpeciesSolverModel_rule5_17 rfl (lv_at hl 0 rfl) ?_
    refine lv_bipush (v := 24) hx hb d_SpeciesSolverModel_rule5_18 (by decide) ?_
    refine lv_icmp_gt (tgt := 42) hx hb d_SpeciesSolverModel_rule5_20 (by decide) (fun c4 => ?_) (fun c4 => ?_)
    · replace hm := ifT hm c4
      refine lv_iconst (v := 0) hx hb d_SpeciesSolverModel_rule5_42 (by decide) ?_
      replace hm := Option.some.inj hm; subst hm
      exact zret_z (v := 0) C hP hD hS (by rfl) d_SpeciesSolverModel_rule5_43
    · replace hm := ifF hm c4
      refine lv_aload_n hx hb d_SpeciesSolverModel_rule5_23 rfl (lv_at hl 1 rfl) ?_
      refine va_get (D := D) (ci := 1) (v := .ref (ad 4)) (C := R_SpeciesSolverModel) (T := T_SpeciesSolverModel) (N := 35) hx hb hts inG_SpeciesSolverModel hown hK hP 0 rfl rfl 9 (by decide) (hts _ gw_827) (fun _ h9 => h9) rfl d_SpeciesSolverModel_rule5_24 ?_
      refine lv_bipush (v := 7) hx hb d_SpeciesSolverModel_rule5_27 (by decide) ?_
      refine va_iald hx hb hK hP 1 0 rfl rfl (in_lit (by decide)) d_SpeciesSolverModel_rule5_29 ?_
      refine lv_iload_n hx hb d_SpeciesSolverModel_rule5_30 rfl (lv_at hl 0 rfl) ?_
      refine lv_ishr hx hb d_SpeciesSolverModel_rule5_31 ?_
      refine lv_iconst (v := 1) hx hb d_SpeciesSolverModel_rule5_32 (by decide) ?_
      refine lv_iand hx hb d_SpeciesSolverModel_rule5_33 ?_
      refine lv_iconst (v := 1) hx hb d_SpeciesSolverModel_rule5_34 (by decide) ?_
      refine lv_icmp_ne (tgt := 42) hx hb d_SpeciesSolverModel_rule5_35 (by decide) (fun c5 => ?_) (fun c5 => ?_)
      · replace hm := ifF hm c5
        refine lv_iconst (v := 0) hx hb d_SpeciesSolverModel_rule5_42 (by decide) ?_
        replace hm := Option.some.inj hm; subst hm
        exact zret_z (v := 0) C hP hD hS (by rfl) d_SpeciesSolverModel_rule5_43
      · replace hm := ifT hm c5
        refine lv_iconst (v := 1) hx hb d_SpeciesSolverModel_rule5_38 (by decide) ?_
        refine lv_goto (tgt := 43) hx hb d_SpeciesSolverModel_rule5_39 (by decide) ?_
        replace hm := Option.some.inj hm; subst hm
        exact zret_z (v := 1) C hP hD hS (by rfl) d_SpeciesSolverModel_rule5_43
set_option maxHeartbeats 4000000 in
set_option maxRecDepth 100000 in
theorem c_SpeciesSolverModel_rule5 {l : Launch} {D : va_G} {kc : Nat → ClassId} {r : Int32} {ad : Nat → Nat} {md_thrown : Int32} {md_drafted : Int32} {md_lines : Int32} {md_n : Int32} {md_species : Int32} {md_above : Int32} {md_trialSize : Int32} {md_foundSize : Int32} {md_foundSpecies : Int32} {md_foundN : Int32} {md_foundCost : Int32} {md_chosen : Int32} {md_low : Int32} {md_many : Int64} {md_ties : Int64} {md_winnerCost : Int32} {md_allMany : Int64} {md_allTies : Int64} {md_faults : Int32} {md_numbers : Nat → Int32} {a1 : Int32} {a2 : Int32} (hm : m_SpeciesSolverModel_rule5 md_numbers a1 a2 = some r) (sz : Nat) : Ci l y_SpeciesSolverModel_rule5 ws_SpeciesSolverModel_rule5 rm_SpeciesSolverModel_rule5 D kc sz [.ref (ad 0), .int a1, .int a2] (wd_SpeciesSolverModel_rule5 kc ad md_thrown md_drafted md_lines md_n md_species md_above md_trialSize md_foundSize md_foundSpecies md_foundN md_foundCost md_chosen md_low md_many md_ties md_winnerCost md_allMany md_allTies md_faults md_numbers) (wd_SpeciesSolverModel_rule5 kc ad md_thrown md_drafted md_lines md_n md_species md_above md_trialSize md_foundSize md_foundSpecies md_foundN md_foundCost md_chosen md_low md_many md_ties md_winnerCost md_allMany md_allTies md_faults md_numbers) r :=
  Cz_of (Qf := fun A => (Qi D A (wd_SpeciesSolverModel_rule5 kc ad md_thrown md_drafted md_lines md_n md_species md_above md_trialSize md_foundSize md_foundSpecies md_foundN md_foundCost md_chosen md_low md_many md_ties md_winnerCost md_allMany md_allTies md_faults md_numbers) r)) (cc := b_SpeciesSolverModel_rule5) (maxL := 4) (ret := (some .boolean)) (by decide) rfl rfl (fun C hZ hl => e_SpeciesSolverModel_rule5 C hm hZ hl)
abbrev b_SpeciesSolverModel_rule6 : ByteArray := prog_9_method_30_code
abbrev y_SpeciesSolverModel_rule6 : MethodName := ⟨"SpeciesSolverModel", "rule6", "(III)Z"⟩
theorem d_SpeciesSolverModel_rule6_0 : decode b_SpeciesSolverModel_rule6 0 = .ok (.iload_n 1, 1) := by decide +kernel
theorem d_SpeciesSolverModel_rule6_1 : decode b_SpeciesSolverModel_rule6 1 = .ok (.iload_n 2, 1) := by decide +kernel
theorem d_SpeciesSolverModel_rule6_2 : decode b_SpeciesSolverModel_rule6 2 = .ok (.invokestatic 101, 3) := by decide +kernel
theorem d_SpeciesSolverModel_rule6_5 : decode b_SpeciesSolverModel_rule6 5 = .ok (.aload_n 0, 1) := by decide +kernel
theorem d_SpeciesSolverModel_rule6_6 : decode b_SpeciesSolverModel_rule6 6 = .ok (.getfield 28, 3) := by decide +kernel
theorem d_SpeciesSolverModel_rule6_9 : decode b_SpeciesSolverModel_rule6 9 = .ok (.bipush 10, 2) := by decide +kernel
theorem d_SpeciesSolverModel_rule6_11 : decode b_SpeciesSolverModel_rule6 11 = .ok (.iaload, 1) := by decide +kernel
theorem d_SpeciesSolverModel_rule6_12 : decode b_SpeciesSolverModel_rule6 12 = .ok (.if_icmp .le 30, 3) := by decide +kernel
theorem d_SpeciesSolverModel_rule6_15 : decode b_SpeciesSolverModel_rule6 15 = .ok (.iload_n 2, 1) := by decide +kernel
theorem d_SpeciesSolverModel_rule6_16 : decode b_SpeciesSolverModel_rule6 16 = .ok (.iload_n 3, 1) := by decide +kernel
theorem d_SpeciesSolverModel_rule6_17 : decode b_SpeciesSolverModel_rule6 17 = .ok (.invokestatic 105, 3) := by decide +kernel
theorem d_SpeciesSolverModel_rule6_20 : decode b_SpeciesSolverModel_rule6 20 = .ok (.iload_n 1, 1) := by decide +kernel
theorem d_SpeciesSolverModel_rule6_21 : decode b_SpeciesSolverModel_rule6 21 = .ok (.iload_n 2, 1) := by decide +kernel
theorem d_SpeciesSolverModel_rule6_22 : decode b_SpeciesSolverModel_rule6 22 = .ok (.invokestatic 105, 3) := by decide +kernel
theorem d_SpeciesSolverModel_rule6_25 : decode b_SpeciesSolverModel_rule6 25 = .ok (.ineg, 1) := by decide +kernel
theorem d_SpeciesSolverModel_rule6_26 : decode b_SpeciesSolverModel_rule6 26 = .ok (.if_icmp .ne 12, 3) := by decide +kernel
theorem d_SpeciesSolverModel_rule6_29 : decode b_SpeciesSolverModel_rule6 29 = .ok (.aload_n 0, 1) := by decide +kernel
theorem d_SpeciesSolverModel_rule6_30 : decode b_SpeciesSolverModel_rule6 30 = .ok (.iload_n 2, 1) := by decide +kernel
theorem d_SpeciesSolverModel_rule6_31 : decode b_SpeciesSolverModel_rule6 31 = .ok (.iload_n 3, 1) := by decide +kernel
theorem d_SpeciesSolverModel_rule6_32 : decode b_SpeciesSolverModel_rule6 32 = .ok (.invokevirtual 123, 3) := by decide +kernel
theorem d_SpeciesSolverModel_rule6_35 : decode b_SpeciesSolverModel_rule6 35 = .ok (.ifCond .ne 7, 3) := by decide +kernel
theorem d_SpeciesSolverModel_rule6_38 : decode b_SpeciesSolverModel_rule6 38 = .ok (.iconst 1, 1) := by decide +kernel
theorem d_SpeciesSolverModel_rule6_39 : decode b_SpeciesSolverModel_rule6 39 = .ok (.goto 4, 3) := by decide +kernel
theorem d_SpeciesSolverModel_rule6_42 : decode b_SpeciesSolverModel_rule6 42 = .ok (.iconst 0, 1) := by decide +kernel
theorem d_SpeciesSolverModel_rule6_43 : decode b_SpeciesSolverModel_rule6 43 = .ok (.ireturn, 1) := by decide +kernel
abbrev wd_SpeciesSolverModel_rule6 (kc : Nat → ClassId) (ad : Nat → Nat) (md_thrown : Int32) (md_drafted : Int32) (md_lines : Int32) (md_n : Int32) (md_species : Int32) (md_above : Int32) (md_trialSize : Int32) (md_foundSize : Int32) (md_foundSpecies : Int32) (md_foundN : Int32) (md_foundCost : Int32) (md_chosen : Int32) (md_low : Int32) (md_many : Int64) (md_ties : Int64) (md_winnerCost : Int32) (md_allMany : Int64) (md_allTies : Int64) (md_faults : Int32) (md_numbers : Nat → Int32) : va_W := [((ad 0), .inr (1, [.int md_thrown, .ref (ad 1), .int md_drafted, .ref (ad 2), .int md_lines, .int md_n, .int md_species, .int md_above, .ref (ad 3), .ref (ad 4), .ref (ad 5), .int md_trialSize, .ref (ad 6), .int md_foundSize, .int md_foundSpecies, .int md_foundN, .int md_foundCost, .ref (ad 7), .int md_chosen, .ref (ad 8), .ref (ad 9), .ref (ad 10), .int md_low, .long md_many, .long md_ties, .ref (ad 11), .ref (ad 12), .int md_winnerCost, .long md_allMany, .long md_allTies, .ref (ad 13), .ref (ad 14), .ref (ad 15), .ref (ad 16), .int md_faults])), ((ad 4), .inl (kc 0, 18, .inl md_numbers))]
abbrev rm_SpeciesSolverModel_rule6 : Room := { frames := 2, cells := 0, slots := 0, locals := 44 }
abbrev cw_SpeciesSolverModel_rule6 : Cond := .code y_SpeciesSolverModel_rule6 b_SpeciesSolverModel_rule6 4 (some .boolean)
abbrev ws_SpeciesSolverModel_rule6 : List Cond := cw_SpeciesSolverModel_rule6 :: GW
theorem hd_SpeciesSolverModel_rule6 : y_SpeciesSolverModel_rule6.cls ≠ "java/lang/invoke/MethodHandle" ∧ y_SpeciesSolverModel_rule6.cls ≠ "java/lang/invoke/VarHandle" ∧ (parseMethodDescriptor y_SpeciesSolverModel_rule6.desc).map (fun d => d.parameters.length) = some 3 := by decide +kernel
def m_SpeciesSolverModel_rule6 (md_numbers : Nat → Int32)  (a1 : Int32) (a2 : Int32) (a3 : Int32) : Option (Int32) :=
  (bd (m_SpeciesSolverModel_far a1 a2) (fun u1 => (if u1 ≤ (md_numbers (Int32.toNatClampNeg (10 : Int32))) then
    (some (0 : Int32))
  else
    (bd (m_SpeciesSolverModel_way a2 a3) (fun u4 => (bd (m_SpeciesSolverModel_way a1 a2) (fun u6 => (if u4 = (-u6) then
      (bd (m_SpeciesSolverModel_isStep md_numbers a2 a3) (fun u9 => (if u9 = (0 : Int32) then
        (some (1 : Int32))
      else
        (some (0 : Int32)))))
    else
      (some (1 : Int32))))))))))
set_option maxHeartbeats 4000000 in
set_option maxRecDepth 100000 in
theorem e_SpeciesSolverModel_rule6 {r : Int32} {ad : Nat → Nat} {md_thrown : Int32} {md_drafted : Int32} {md_lines : Int32} {md_n : Int32} {md_species : Int32} {md_above : Int32} {md_trialSize : Int32} {md_foundSize : Int32} {md_foundSpecies : Int32} {md_foundN : Int32} {md_foundCost : Int32} {md_chosen : Int32} {md_low : Int32} {md_many : Int64} {md_ties : Int64} {md_winnerCost : Int32} {md_allMany : Int64} {md_allTies : Int64} {md_faults : Int32} {md_numbers : Nat → Int32} {a1 : Int32} {a2 : Int32} {a3 : Int32} {H : Heap} {locs : List Loc} {ls : Array Slot} (C : Cx p s m meth c args A D kc R_SpeciesSolverModel b_SpeciesSolverModel_rule6 4 (some .boolean)) (hm : m_SpeciesSolverModel_rule6 md_numbers a1 a2 a3 = some r) (hZ : St D A s (wd_SpeciesSolverModel_rule6 kc ad md_thrown md_drafted md_lines md_n md_species md_above md_trialSize md_foundSize md_foundSpecies md_foundN md_foundCost md_chosen md_low md_many md_ties md_winnerCost md_allMany md_allTies md_faults md_numbers) H locs) (hl : lv_has ls 4 [(0, .ref (ad 0)), (1, .int a1), (2, .int a2), (3, .int a3)]) : W p l e rm_SpeciesSolverModel_rule6 s m args below meth c H locs 0 0 (MQ below (Qi D A (wd_SpeciesSolverModel_rule6 kc ad md_thrown md_drafted md_lines md_n md_species md_above md_trialSize md_foundSize md_foundSpecies md_foundN md_foundCost md_chosen md_low md_many md_ties md_winnerCost md_allMany md_allTies md_faults md_numbers) r) args s 0 0 A) (F0 m 0 ls []) := by
  obtain ⟨hx, hb, hr, hts, hown, hml, hlocks, hK, hN, hA, hX⟩ := id C
  obtain ⟨hP, hD, hS⟩ := hZ
  unfold m_SpeciesSolverModel_rule6 at hm
  refine lv_iload_n hx hb d_SpeciesSolverModel_rule6_0 rfl (lv_at hl 1 rfl) ?_
  refine lv_iload_n hx hb d_SpeciesSolverModel_rule6_1 rfl (lv_at hl 2 rfl) ?_
  obtain ⟨u1, hc2, hm⟩ := bd_some hm
  refine zS_i (n := 2) (wr := [((ad 0), .inr (1, [.int md_thrown, .ref (ad 1), .int md_drafted, .ref (ad 2), .int md_lines, .int md_n, .int md_species, .int md_above, .ref (ad 3), .ref (ad 4), .ref (ad 5), .int md_trialSize, .ref (ad 6), .int md_foundSize, .int md_foundSpecies, .int md_foundN, .int md_foundCost, .ref (ad 7), .int md_chosen, .ref (ad 8), .ref (ad 9), .ref (ad 10), .int md_low, .long md_many, .long md_ties, .ref (ad 11), .ref (ad 12), .int md_winnerCost, .long md_allMany, .long md_allTies, .ref (ad 13), .ref (ad 14), .ref (ad 15), .ref (ad 16), .int md_faults])), ((ad 4), .inl (kc 0, 18, .inl md_numbers))]) (w1 := (wd_SpeciesSolverModel_far kc )) (ws1 := (wd_SpeciesSolverModel_rule6 kc ad md_thrown md_drafted md_lines md_n md_species md_above md_trialSize md_foundSize md_foundSpecies md_foundN md_foundCost md_chosen md_low md_many md_ties md_winnerCost md_allMany md_allTies md_faults md_numbers)) (As := [.int a1, .int a2]) (rest := []) (y := y_SpeciesSolverModel_far) ⟨hx, hb, hml, hown, hts⟩ (fun sz => c_SpeciesSolverModel_far hc2 sz) gw_1029 gw_1027 gw_1028 gw_118 rfl hd_SpeciesSolverModel_far ⟨Nat.le_of_ble_eq_true rfl, Nat.le_of_ble_eq_true rfl⟩ ⟨rfl, rfl⟩ ⟨Nat.zero_le _, Nat.zero_le _⟩ hK hN hP hD hS hA hX [] [0, 1] [0, 1] rfl rfl (by decide) (by decide) (by decide) rfl (by decide) rfl hl.1 rfl (Nat.le_of_ble_eq_true rfl) d_SpeciesSolverModel_rule6_2 (fun H locs hP hD hS => ?_)
  refine lv_aload_n hx hb d_SpeciesSolverModel_rule6_5 rfl (lv_at hl 0 rfl) ?_
  refine va_get (D := D) (ci := 1) (v := .ref (ad 4)) (C := R_SpeciesSolverModel) (T := T_SpeciesSolverModel) (N := 35) hx hb hts inG_SpeciesSolverModel hown hK hP 0 rfl rfl 9 (by decide) (hts _ gw_827) (fun _ h9 => h9) rfl d_SpeciesSolverModel_rule6_6 ?_
  refine lv_bipush (v := 10) hx hb d_SpeciesSolverModel_rule6_9 (by decide) ?_
  refine va_iald hx hb hK hP 1 0 rfl rfl (in_lit (by decide)) d_SpeciesSolverModel_rule6_11 ?_
  refine lv_icmp_le (tgt := 42) hx hb d_SpeciesSolverModel_rule6_12 (by decide) (fun c3 => ?_) (fun c3 => ?_)
  · replace hm := ifT hm c3
    refine lv_iconst (v := 0) hx hb d_SpeciesSolverModel_rule6_42 (by decide) ?_
    replace hm := Option.some.inj hm; subst hm
    exact zret_z (v := 0) C hP hD hS (by rfl) d_SpeciesSolverModel_rule6_43
  · replace hm := ifF hm c3
    refine lv_iload_n hx hb d_SpeciesSolverModel_rule6_15 rfl (lv_at hl 2 rfl) ?_
    refine lv_iload_n hx hb d_SpeciesSolverModel_rule6_16 rfl (lv_at hl 3 rfl) ?_
    obtain ⟨u4, hc5, hm⟩ := bd_some hm
    refine zS_i (n := 2) (wr := [((ad 0), .inr (1, [.int md_thrown, .ref (ad 1), .int md_drafted, .ref (ad 2), .int md_lines, .int md_n, .int md_species, .int md_above, .ref (ad 3), .ref (ad 4), .ref (ad 5), .int md_trialSize, .ref (ad 6), .int md_foundSize, .int md_foundSpecies, .int md_foundN, .int md_foundCost, .ref (ad 7), .int md_chosen, .ref (ad 8), .ref (ad 9), .ref (ad 10), .int md_low, .long md_many, .long md_ties, .ref (ad 11), .ref (ad 12), .int md_winnerCost, .long md_allMany, .long md_allTies, .ref (ad 13), .ref (ad 14), .ref (ad 15), .ref (ad 16), .int md_faults])), ((ad 4), .inl (kc 0, 18, .inl md_numbers))]) (w1 := (wd_SpeciesSolverModel_way kc )) (ws1 := (wd_SpeciesSolverModel_rule6 kc ad md_thrown md_drafted md_lines md_n md_species md_above md_trialSize md_foundSize md_foundSpecies md_foundN md_foundCost md_chosen md_low md_many md_ties md_winnerCost md_allMany md_allTies md_faults md_numbers)) (As := [.int a2, .int a3]) (rest := []) (y := y_SpeciesSolverModel_way) ⟨hx, hb, hml, hown, hts⟩ (fun sz => c_SpeciesSolverModel_way hc5 sz) gw_1040 gw_1038 gw_1039 gw_118 rfl hd_SpeciesSolverModel_way ⟨Nat.le_of_ble_eq_true rfl, Nat.le_of_ble_eq_true rfl⟩ ⟨rfl, rfl⟩ ⟨Nat.zero_le _, Nat.zero_le _⟩ hK hN hP hD hS hA hX [] [0, 1] [0, 1] rfl rfl (by decide) (by decide) (by decide) rfl (by decide) rfl hl.1 rfl (Nat.le_of_ble_eq_true rfl) d_SpeciesSolverModel_rule6_17 (fun H locs hP hD hS => ?_)
    refine lv_iload_n hx hb d_SpeciesSolverModel_rule6_20 rfl (lv_at hl 1 rfl) ?_
    refine lv_iload_n hx hb d_SpeciesSolverModel_rule6_21 rfl (lv_at hl 2 rfl) ?_
    obtain ⟨u6, hc7, hm⟩ := bd_some hm
    refine zS_i (n := 2) (wr := [((ad 0), .inr (1, [.int md_thrown, .ref (ad 1), .int md_drafted, .ref (ad 2), .int md_lines, .int md_n, .int md_species, .int md_above, .ref (ad 3), .ref (ad 4), .ref (ad 5), .int md_trialSize, .ref (ad 6), .int md_foundSize, .int md_foundSpecies, .int md_foundN, .int md_foundCost, .ref (ad 7), .int md_chosen, .ref (ad 8), .ref (ad 9), .ref (ad 10), .int md_low, .long md_many, .long md_ties, .ref (ad 11), .ref (ad 12), .int md_winnerCost, .long md_allMany, .long md_allTies, .ref (ad 13), .ref (ad 14), .ref (ad 15), .ref (ad 16), .int md_faults])), ((ad 4), .inl (kc 0, 18, .inl md_numbers))]) (w1 := (wd_SpeciesSolverModel_way kc )) (ws1 := (wd_SpeciesSolverModel_rule6 kc ad md_thrown md_drafted md_lines md_n md_species md_above md_trialSize md_foundSize md_foundSpecies md_foundN md_foundCost md_chosen md_low md_many md_ties md_winnerCost md_allMany md_allTies md_faults md_numbers)) (As := [.int a1, .int a2]) (rest := [.int u4]) (y := y_SpeciesSolverModel_way) ⟨hx, hb, hml, hown, hts⟩ (fun sz => c_SpeciesSolverModel_way hc7 sz) gw_1040 gw_1038 gw_1039 gw_118 rfl hd_SpeciesSolverModel_way ⟨Nat.le_of_ble_eq_true rfl, Nat.le_of_ble_eq_true rfl⟩ ⟨rfl, rfl⟩ ⟨Nat.zero_le _, Nat.zero_le _⟩ hK hN hP hD hS hA hX [] [0, 1] [0, 1] rfl rfl (by decide) (by decide) (by decide) rfl (by decide) rfl hl.1 rfl (Nat.le_of_ble_eq_true rfl) d_SpeciesSolverModel_rule6_22 (fun H locs hP hD hS => ?_)
    refine lv_ineg hx hb d_SpeciesSolverModel_rule6_25 ?_
    refine lv_icmp_ne (tgt := 38) hx hb d_SpeciesSolverModel_rule6_26 (by decide) (fun c8 => ?_) (fun c8 => ?_)
    · replace hm := ifF hm c8
      refine lv_iconst (v := 1) hx hb d_SpeciesSolverModel_rule6_38 (by decide) ?_
      refine lv_goto (tgt := 43) hx hb d_SpeciesSolverModel_rule6_39 (by decide) ?_
      replace hm := Option.some.inj hm; subst hm
      exact zret_z (v := 1) C hP hD hS (by rfl) d_SpeciesSolverModel_rule6_43
    · replace hm := ifT hm c8
      refine lv_aload_n hx hb d_SpeciesSolverModel_rule6_29 rfl (lv_at hl 0 rfl) ?_
      refine lv_iload_n hx hb d_SpeciesSolverModel_rule6_30 rfl (lv_at hl 2 rfl) ?_
      refine lv_iload_n hx hb d_SpeciesSolverModel_rule6_31 rfl (lv_at hl 3 rfl) ?_
      obtain ⟨u9, hc10, hm⟩ := bd_some hm
      refine zV_i (n := 2) (wr := []) (w1 := (wd_SpeciesSolverModel_isStep kc ad md_thrown md_drafted md_lines md_n md_species md_above md_trialSize md_foundSize md_foundSpecies md_foundN md_foundCost md_chosen md_low md_many md_ties md_winnerCost md_allMany md_allTies md_faults md_numbers)) (ws1 := (wd_SpeciesSolverModel_rule6 kc ad md_thrown md_drafted md_lines md_n md_species md_above md_trialSize md_foundSize md_foundSpecies md_foundN md_foundCost md_chosen md_low md_many md_ties md_winnerCost md_allMany md_allTies md_faults md_numbers)) (As := [.int a2, .int a3]) (rest := []) (ci := 1) (q0 := 0) (y := y_SpeciesSolverModel_isStep) ⟨hx, hb, hml, hown, hts⟩ (fun sz => c_SpeciesSolverModel_isStep hc10 sz) gw_1063 gw_1060 gw_1062 gw_93 gw_118 hd_SpeciesSolverModel_isStep ⟨Nat.le_of_ble_eq_true rfl, Nat.le_of_ble_eq_true rfl⟩ ⟨rfl, rfl⟩ ⟨Nat.zero_le _, Nat.zero_le _⟩ hK hN hP hD hS hA hX [0, 1] [] [0, 1] rfl rfl (by decide) (by decide) (by decide) rfl (by decide) rfl rfl rfl hl.1 rfl (Nat.le_of_ble_eq_true rfl) d_SpeciesSolverModel_rule6_32 (fun H locs hP hD hS => ?_)
      refine lv_if_ne (tgt := 42) hx hb d_SpeciesSolverModel_rule6_35 (by decide) (fun c11 => ?_) (fun c11 => ?_)
      · replace hm := ifF hm c11
        refine lv_iconst (v := 0) hx hb d_SpeciesSolverModel_rule6_42 (by decide) ?_
        replace hm := Option.some.inj hm; subst hm
        exact zret_z (v := 0) C hP hD hS (by rfl) d_SpeciesSolverModel_rule6_43
      · replace hm := ifT hm c11
        refine lv_iconst (v := 1) hx hb d_SpeciesSolverModel_rule6_38 (by decide) ?_
        refine lv_goto (tgt := 43) hx hb d_SpeciesSolverModel_rule6_39 (by decide) ?_
        replace hm := Option.some.inj hm; subst hm
        exact zret_z (v := 1) C hP hD hS (by rfl) d_SpeciesSolverModel_rule6_43
set_option maxHeartbeats 4000000 in
set_option maxRecDepth 100000 in
theorem c_SpeciesSolverModel_rule6 {l : Launch} {D : va_G} {kc : Nat → ClassId} {r : Int32} {ad : Nat → Nat} {md_thrown : Int32} {md_drafted : Int32} {md_lines : Int32} {md_n : Int32} {md_species : Int32} {md_above : Int32} {md_trialSize : Int32} {md_foundSize : Int32} {md_foundSpecies : Int32} {md_foundN : Int32} {md_foundCost : Int32} {md_chosen : Int32} {md_low : Int32} {md_many : Int64} {md_ties : Int64} {md_winnerCost : Int32} {md_allMany : Int64} {md_allTies : Int64} {md_faults : Int32} {md_numbers : Nat → Int32} {a1 : Int32} {a2 : Int32} {a3 : Int32} (hm : m_SpeciesSolverModel_rule6 md_numbers a1 a2 a3 = some r) (sz : Nat) : Ci l y_SpeciesSolverModel_rule6 ws_SpeciesSolverModel_rule6 rm_SpeciesSolverModel_rule6 D kc sz [.ref (ad 0), .int a1, .int a2, .int a3] (wd_SpeciesSolverModel_rule6 kc ad md_thrown md_drafted md_lines md_n md_species md_above md_trialSize md_foundSize md_foundSpecies md_foundN md_foundCost md_chosen md_low md_many md_ties md_winnerCost md_allMany md_allTies md_faults md_numbers) (wd_SpeciesSolverModel_rule6 kc ad md_thrown md_drafted md_lines md_n md_species md_above md_trialSize md_foundSize md_foundSpecies md_foundN md_foundCost md_chosen md_low md_many md_ties md_winnerCost md_allMany md_allTies md_faults md_numbers) r :=
  Cz_of (Qf := fun A => (Qi D A (wd_SpeciesSolverModel_rule6 kc ad md_thrown md_drafted md_lines md_n md_species md_above md_trialSize md_foundSize md_foundSpecies md_foundN md_foundCost md_chosen md_low md_many md_ties md_winnerCost md_allMany md_allTies md_faults md_numbers) r)) (cc := b_SpeciesSolverModel_rule6) (maxL := 4) (ret := (some .boolean)) (by decide) rfl rfl (fun C hZ hl => e_SpeciesSolverModel_rule6 C hm hZ hl)
abbrev b_SpeciesSolverModel_isHard : ByteArray := prog_9_method_31_code
abbrev y_SpeciesSolverModel_isHard : MethodName := ⟨"SpeciesSolverModel", "isHard", "(II)Z"⟩
theorem d_SpeciesSolverModel_isHard_0 : decode b_SpeciesSolverModel_isHard 0 = .ok (.iconst 0, 1) := by decide +kernel
theorem d_SpeciesSolverModel_isHard_1 : decode b_SpeciesSolverModel_isHard 1 = .ok (.istore_n 3, 1) := by decide +kernel
theorem d_SpeciesSolverModel_isHard_2 : decode b_SpeciesSolverModel_isHard 2 = .ok (.iconst 0, 1) := by decide +kernel
theorem d_SpeciesSolverModel_isHard_3 : decode b_SpeciesSolverModel_isHard 3 = .ok (.istore 4, 2) := by decide +kernel
theorem d_SpeciesSolverModel_isHard_5 : decode b_SpeciesSolverModel_isHard 5 = .ok (.iload 4, 2) := by decide +kernel
theorem d_SpeciesSolverModel_isHard_7 : decode b_SpeciesSolverModel_isHard 7 = .ok (.aload_n 0, 1) := by decide +kernel
theorem d_SpeciesSolverModel_isHard_8 : decode b_SpeciesSolverModel_isHard 8 = .ok (.getfield 78, 3) := by decide +kernel
theorem d_SpeciesSolverModel_isHard_11 : decode b_SpeciesSolverModel_isHard 11 = .ok (.if_icmp .ge 33, 3) := by decide +kernel
theorem d_SpeciesSolverModel_isHard_14 : decode b_SpeciesSolverModel_isHard 14 = .ok (.iload_n 3, 1) := by decide +kernel
theorem d_SpeciesSolverModel_isHard_15 : decode b_SpeciesSolverModel_isHard 15 = .ok (.aload_n 0, 1) := by decide +kernel
theorem d_SpeciesSolverModel_isHard_16 : decode b_SpeciesSolverModel_isHard 16 = .ok (.iconst 3, 1) := by decide +kernel
theorem d_SpeciesSolverModel_isHard_17 : decode b_SpeciesSolverModel_isHard 17 = .ok (.iload_n 2, 1) := by decide +kernel
theorem d_SpeciesSolverModel_isHard_18 : decode b_SpeciesSolverModel_isHard 18 = .ok (.aload_n 0, 1) := by decide +kernel
theorem d_SpeciesSolverModel_isHard_19 : decode b_SpeciesSolverModel_isHard 19 = .ok (.iload 4, 2) := by decide +kernel
theorem d_SpeciesSolverModel_isHard_21 : decode b_SpeciesSolverModel_isHard 21 = .ok (.iload_n 1, 1) := by decide +kernel
theorem d_SpeciesSolverModel_isHard_22 : decode b_SpeciesSolverModel_isHard 22 = .ok (.invokevirtual 108, 3) := by decide +kernel
theorem d_SpeciesSolverModel_isHard_25 : decode b_SpeciesSolverModel_isHard 25 = .ok (.invokevirtual 115, 3) := by decide +kernel
theorem d_SpeciesSolverModel_isHard_28 : decode b_SpeciesSolverModel_isHard 28 = .ok (.ifCond .ne 7, 3) := by decide +kernel
theorem d_SpeciesSolverModel_isHard_31 : decode b_SpeciesSolverModel_isHard 31 = .ok (.iconst 1, 1) := by decide +kernel
theorem d_SpeciesSolverModel_isHard_32 : decode b_SpeciesSolverModel_isHard 32 = .ok (.goto 4, 3) := by decide +kernel
theorem d_SpeciesSolverModel_isHard_35 : decode b_SpeciesSolverModel_isHard 35 = .ok (.iconst 0, 1) := by decide +kernel
theorem d_SpeciesSolverModel_isHard_36 : decode b_SpeciesSolverModel_isHard 36 = .ok (.ior, 1) := by decide +kernel
theorem d_SpeciesSolverModel_isHard_37 : decode b_SpeciesSolverModel_isHard 37 = .ok (.istore_n 3, 1) := by decide +kernel
theorem d_SpeciesSolverModel_isHard_38 : decode b_SpeciesSolverModel_isHard 38 = .ok (.iinc 4 1, 3) := by decide +kernel
theorem d_SpeciesSolverModel_isHard_41 : decode b_SpeciesSolverModel_isHard 41 = .ok (.goto (-36), 3) := by decide +kernel
theorem d_SpeciesSolverModel_isHard_44 : decode b_SpeciesSolverModel_isHard 44 = .ok (.iload_n 3, 1) := by decide +kernel
theorem d_SpeciesSolverModel_isHard_45 : decode b_SpeciesSolverModel_isHard 45 = .ok (.ireturn, 1) := by decide +kernel
abbrev wd_SpeciesSolverModel_isHard (kc : Nat → ClassId) (ad : Nat → Nat) (md_thrown : Int32) (md_drafted : Int32) (md_lines : Int32) (md_n : Int32) (md_species : Int32) (md_above : Int32) (md_trialSize : Int32) (md_foundSize : Int32) (md_foundSpecies : Int32) (md_foundN : Int32) (md_foundCost : Int32) (md_chosen : Int32) (md_low : Int32) (md_many : Int64) (md_ties : Int64) (md_winnerCost : Int32) (md_allMany : Int64) (md_allTies : Int64) (md_faults : Int32) (md_given : Nat → Int32) (md_numbers : Nat → Int32) : va_W := [((ad 0), .inr (1, [.int md_thrown, .ref (ad 1), .int md_drafted, .ref (ad 2), .int md_lines, .int md_n, .int md_species, .int md_above, .ref (ad 3), .ref (ad 4), .ref (ad 5), .int md_trialSize, .ref (ad 6), .int md_foundSize, .int md_foundSpecies, .int md_foundN, .int md_foundCost, .ref (ad 7), .int md_chosen, .ref (ad 8), .ref (ad 9), .ref (ad 10), .int md_low, .long md_many, .long md_ties, .ref (ad 11), .ref (ad 12), .int md_winnerCost, .long md_allMany, .long md_allTies, .ref (ad 13), .ref (ad 14), .ref (ad 15), .ref (ad 16), .int md_faults])), ((ad 2), .inl (kc 0, 36, .inl md_given)), ((ad 4), .inl (kc 0, 18, .inl md_numbers))]
abbrev rm_SpeciesSolverModel_isHard : Room := { frames := 2, cells := 0, slots := 0, locals := 44 }
abbrev cw_SpeciesSolverModel_isHard : Cond := .code y_SpeciesSolverModel_isHard b_SpeciesSolverModel_isHard 5 (some .boolean)
abbrev ws_SpeciesSolverModel_isHard : List Cond := cw_SpeciesSolverModel_isHard :: GW
theorem hd_SpeciesSolverModel_isHard : y_SpeciesSolverModel_isHard.cls ≠ "java/lang/invoke/MethodHandle" ∧ y_SpeciesSolverModel_isHard.cls ≠ "java/lang/invoke/VarHandle" ∧ (parseMethodDescriptor y_SpeciesSolverModel_isHard.desc).map (fun d => d.parameters.length) = some 2 := by decide +kernel
def m_SpeciesSolverModel_isHard_36 (F : Nat) (md_lines : Int32) (md_species : Int32) (md_given : Nat → Int32) (md_numbers : Nat → Int32) (k5 : Int32 → Int32 → Int32 → Int32 → Option (Int32))  (x1 : Int32) (x2 : Int32) (x4 : Int32) (t0 : Int32) (t1 : Int32) : Option (Int32) :=
  k5 x1 x2 (t0 ||| t1) (x4 + 1)
set_option maxHeartbeats 4000000 in
set_option maxRecDepth 100000 in
theorem l_SpeciesSolverModel_isHard_36 {r : Int32} {F : Nat} {ad : Nat → Nat} {md_thrown : Int32} {md_drafted : Int32} {md_lines : Int32} {md_n : Int32} {md_species : Int32} {md_above : Int32} {md_trialSize : Int32} {md_foundSize : Int32} {md_foundSpecies : Int32} {md_foundN : Int32} {md_foundCost : Int32} {md_chosen : Int32} {md_low : Int32} {md_many : Int64} {md_ties : Int64} {md_winnerCost : Int32} {md_allMany : Int64} {md_allTies : Int64} {md_faults : Int32} {md_given : Nat → Int32} {md_numbers : Nat → Int32} {k5 : Int32 → Int32 → Int32 → Int32 → Option (Int32)} {x1 : Int32} {x2 : Int32} {x4 : Int32} {t0 : Int32} {t1 : Int32} {H : Heap} {locs : List Loc} {ls : Array Slot} (C : Cx p s m meth c args A D kc R_SpeciesSolverModel b_SpeciesSolverModel_isHard 5 (some .boolean)) (hk5 : (∀  (x1 : Int32) (x2 : Int32) (x3 : Int32) (x4 : Int32) (H : Heap) (locs : List Loc) (ls : Array Slot), k5 x1 x2 x3 x4 = some r → St D A s (wd_SpeciesSolverModel_isHard kc ad md_thrown md_drafted md_lines md_n md_species md_above md_trialSize md_foundSize md_foundSpecies md_foundN md_foundCost md_chosen md_low md_many md_ties md_winnerCost md_allMany md_allTies md_faults md_given md_numbers) H locs → lv_has ls 5 [(0, .ref (ad 0)), (1, .int x1), (2, .int x2), (3, .int x3), (4, .int x4)] → W p l e rm_SpeciesSolverModel_isHard s m args below meth c H locs 0 0 (MQ below (Qi D A (wd_SpeciesSolverModel_isHard kc ad md_thrown md_drafted md_lines md_n md_species md_above md_trialSize md_foundSize md_foundSpecies md_foundN md_foundCost md_chosen md_low md_many md_ties md_winnerCost md_allMany md_allTies md_faults md_given md_numbers) r) args s 0 0 A) (F0 m 5 ls []))) (hm : m_SpeciesSolverModel_isHard_36 F md_lines md_species md_given md_numbers k5 x1 x2 x4 t0 t1 = some r) (hZ : St D A s (wd_SpeciesSolverModel_isHard kc ad md_thrown md_drafted md_lines md_n md_species md_above md_trialSize md_foundSize md_foundSpecies md_foundN md_foundCost md_chosen md_low md_many md_ties md_winnerCost md_allMany md_allTies md_faults md_given md_numbers) H locs) (hl : lv_has ls 5 [(0, .ref (ad 0)), (1, .int x1), (2, .int x2), (4, .int x4)]) : W p l e rm_SpeciesSolverModel_isHard s m args below meth c H locs 0 0 (MQ below (Qi D A (wd_SpeciesSolverModel_isHard kc ad md_thrown md_drafted md_lines md_n md_species md_above md_trialSize md_foundSize md_foundSpecies md_foundN md_foundCost md_chosen md_low md_many md_ties md_winnerCost md_allMany md_allTies md_faults md_given md_numbers) r) args s 0 0 A) (F0 m 36 ls [.int t1, .int t0]) := by
  obtain ⟨hx, hb, hr, hts, hown, hml, hlocks, hK, hN, hA, hX⟩ := id C
  obtain ⟨hP, hD, hS⟩ := hZ
  unfold m_SpeciesSolverModel_isHard_36 at hm
  refine lv_ior hx hb d_SpeciesSolverModel_isHard_36 ?_
  refine lv_istore_n (lv' := [(3, .int (t0 ||| t1)), (0, .ref (ad 0)), (1, .int x1), (2, .int x2), (4, .int x4)]) hx hb d_SpeciesSolverModel_isHard_37 rfl hl (by decide) rfl (fun ls hl => ?_)
  refine lv_iinc (v := (x4 + 1)) (lv' := [(4, .int (x4 + 1)), (3, .int (t0 ||| t1)), (0, .ref (ad 0)), (1, .int x1), (2, .int x2)]) hx hb d_SpeciesSolverModel_isHard_38 hl (k := 4) rfl rfl (by decide) rfl (fun ls hl => ?_)
  refine lv_goto (tgt := 5) hx hb d_SpeciesSolverModel_isHard_41 (by decide) ?_
  exact hk5 x1 x2 (t0 ||| t1) (x4 + 1) _ _ _ hm ⟨hP, hD, hS⟩ (lv_sub hl [2, 3, 4, 1, 0] rfl)
def m_SpeciesSolverModel_isHard_5b (F : Nat) (md_lines : Int32) (md_species : Int32) (md_given : Nat → Int32) (md_numbers : Nat → Int32) (k5 : Int32 → Int32 → Int32 → Int32 → Option (Int32))  (x1 : Int32) (x2 : Int32) (x3 : Int32) (x4 : Int32) : Option (Int32) :=
  (if md_lines ≤ x4 then
    (gb x3 (some x3))
  else
    (bd (m_SpeciesSolverModel_at md_species md_given x4 x1) (fun u3 => (bd (m_SpeciesSolverModel_isIn md_numbers (3 : Int32) x2 u3) (fun u5 => (if u5 = (0 : Int32) then
      m_SpeciesSolverModel_isHard_36 F md_lines md_species md_given md_numbers k5 x1 x2 x4 x3 (1 : Int32)
    else
      m_SpeciesSolverModel_isHard_36 F md_lines md_species md_given md_numbers k5 x1 x2 x4 x3 (0 : Int32)))))))
set_option maxHeartbeats 4000000 in
set_option maxRecDepth 100000 in
theorem l_SpeciesSolverModel_isHard_5 {r : Int32} {F : Nat} {ad : Nat → Nat} {md_thrown : Int32} {md_drafted : Int32} {md_lines : Int32} {md_n : Int32} {md_species : Int32} {md_above : Int32} {md_trialSize : Int32} {md_foundSize : Int32} {md_foundSpecies : Int32} {md_foundN : Int32} {md_foundCost : Int32} {md_chosen : Int32} {md_low : Int32} {md_many : Int64} {md_ties : Int64} {md_winnerCost : Int32} {md_allMany : Int64} {md_allTies : Int64} {md_faults : Int32} {md_given : Nat → Int32} {md_numbers : Nat → Int32} {k5 : Int32 → Int32 → Int32 → Int32 → Option (Int32)} {x1 : Int32} {x2 : Int32} {x3 : Int32} {x4 : Int32} {H : Heap} {locs : List Loc} {ls : Array Slot} (C : Cx p s m meth c args A D kc R_SpeciesSolverModel b_SpeciesSolverModel_isHard 5 (some .boolean)) (hk5 : (∀  (x1 : Int32) (x2 : Int32) (x3 : Int32) (x4 : Int32) (H : Heap) (locs : List Loc) (ls : Array Slot), k5 x1 x2 x3 x4 = some r → St D A s (wd_SpeciesSolverModel_isHard kc ad md_thrown md_drafted md_lines md_n md_species md_above md_trialSize md_foundSize md_foundSpecies md_foundN md_foundCost md_chosen md_low md_many md_ties md_winnerCost md_allMany md_allTies md_faults md_given md_numbers) H locs → lv_has ls 5 [(0, .ref (ad 0)), (1, .int x1), (2, .int x2), (3, .int x3), (4, .int x4)] → W p l e rm_SpeciesSolverModel_isHard s m args below meth c H locs 0 0 (MQ below (Qi D A (wd_SpeciesSolverModel_isHard kc ad md_thrown md_drafted md_lines md_n md_species md_above md_trialSize md_foundSize md_foundSpecies md_foundN md_foundCost md_chosen md_low md_many md_ties md_winnerCost md_allMany md_allTies md_faults md_given md_numbers) r) args s 0 0 A) (F0 m 5 ls []))) (hm : m_SpeciesSolverModel_isHard_5b F md_lines md_species md_given md_numbers k5 x1 x2 x3 x4 = some r) (hZ : St D A s (wd_SpeciesSolverModel_isHard kc ad md_thrown md_drafted md_lines md_n md_species md_above md_trialSize md_foundSize md_foundSpecies md_foundN md_foundCost md_chosen md_low md_many md_ties md_winnerCost md_allMany md_allTies md_faults md_given md_numbers) H locs) (hl : lv_has ls 5 [(0, .ref (ad 0)), (1, .int x1), (2, .int x2), (3, .int x3), (4, .int x4)]) : W p l e rm_SpeciesSolverModel_isHard s m args below meth c H locs 0 0 (MQ below (Qi D A (wd_SpeciesSolverModel_isHard kc ad md_thrown md_drafted md_lines md_n md_species md_above md_trialSize md_foundSize md_foundSpecies md_foundN md_foundCost md_chosen md_low md_many md_ties md_winnerCost md_allMany md_allTies md_faults md_given md_numbers) r) args s 0 0 A) (F0 m 5 ls []) := by
  obtain ⟨hx, hb, hr, hts, hown, hml, hlocks, hK, hN, hA, hX⟩ := id C
  obtain ⟨hP, hD, hS⟩ := hZ
  unfold m_SpeciesSolverModel_isHard_5b at hm
  refine lv_iload hx hb d_SpeciesSolverModel_isHard_5 (lv_at hl 4 rfl) ?_
  refine lv_aload_n hx hb d_SpeciesSolverModel_isHard_7 rfl (lv_at hl 0 rfl) ?_
  refine va_get (D := D) (ci := 1) (v := .int md_lines) (C := R_SpeciesSolverModel) (T := T_SpeciesSolverModel) (N := 35) hx hb hts inG_SpeciesSolverModel hown hK hP 0 rfl rfl 4 (by decide) (hts _ gw_822) (fun _ h9 => h9) rfl d_SpeciesSolverModel_isHard_8 ?_
  refine lv_icmp_ge (tgt := 44) hx hb d_SpeciesSolverModel_isHard_11 (by decide) (fun c1 => ?_) (fun c1 => ?_)
  · replace hm := ifT hm c1
    refine lv_iload_n hx hb d_SpeciesSolverModel_isHard_44 rfl (lv_at hl 3 rfl) ?_
    obtain ⟨hz2, hm⟩ := gb_some hm
    replace hm := Option.some.inj hm; subst hm
    exact zret_z (v := x3) C hP hD hS (gb_nar hz2) d_SpeciesSolverModel_isHard_45
  · replace hm := ifF hm c1
    refine lv_iload_n hx hb d_SpeciesSolverModel_isHard_14 rfl (lv_at hl 3 rfl) ?_
    refine lv_aload_n hx hb d_SpeciesSolverModel_isHard_15 rfl (lv_at hl 0 rfl) ?_
    refine lv_iconst (v := 3) hx hb d_SpeciesSolverModel_isHard_16 (by decide) ?_
    refine lv_iload_n hx hb d_SpeciesSolverModel_isHard_17 rfl (lv_at hl 2 rfl) ?_
    refine lv_aload_n hx hb d_SpeciesSolverModel_isHard_18 rfl (lv_at hl 0 rfl) ?_
    refine lv_iload hx hb d_SpeciesSolverModel_isHard_19 (lv_at hl 4 rfl) ?_
    refine lv_iload_n hx hb d_SpeciesSolverModel_isHard_21 rfl (lv_at hl 1 rfl) ?_
    obtain ⟨u3, hc4, hm⟩ := bd_some hm
    refine zV_i (n := 2) (wr := [((ad 4), .inl (kc 0, 18, .inl md_numbers))]) (w1 := (wd_SpeciesSolverModel_at kc ad md_thrown md_drafted md_lines md_n md_species md_above md_trialSize md_foundSize md_foundSpecies md_foundN md_foundCost md_chosen md_low md_many md_ties md_winnerCost md_allMany md_allTies md_faults md_given)) (ws1 := (wd_SpeciesSolverModel_isHard kc ad md_thrown md_drafted md_lines md_n md_species md_above md_trialSize md_foundSize md_foundSpecies md_foundN md_foundCost md_chosen md_low md_many md_ties md_winnerCost md_allMany md_allTies md_faults md_given md_numbers)) (As := [.int x4, .int x1]) (rest := [.int x2, .int (3 : Int32), .ref (ad 0), .int x3]) (ci := 1) (q0 := 0) (y := y_SpeciesSolverModel_at) ⟨hx, hb, hml, hown, hts⟩ (fun sz => c_SpeciesSolverModel_at hc4 sz) gw_1022 gw_1019 gw_1021 gw_85 gw_118 hd_SpeciesSolverModel_at ⟨Nat.le_of_ble_eq_true rfl, Nat.le_of_ble_eq_true rfl⟩ ⟨rfl, rfl⟩ ⟨Nat.zero_le _, Nat.zero_le _⟩ hK hN hP hD hS hA hX [0, 1] [2] [1, 2, 0] rfl rfl (by decide) (by decide) (by decide) rfl (by decide) rfl rfl rfl hl.1 rfl (Nat.le_of_ble_eq_true rfl) d_SpeciesSolverModel_isHard_22 (fun H locs hP hD hS => ?_)
    obtain ⟨u5, hc6, hm⟩ := bd_some hm
    refine zV_i (n := 3) (wr := [((ad 2), .inl (kc 0, 36, .inl md_given))]) (w1 := (wd_SpeciesSolverModel_isIn kc ad md_thrown md_drafted md_lines md_n md_species md_above md_trialSize md_foundSize md_foundSpecies md_foundN md_foundCost md_chosen md_low md_many md_ties md_winnerCost md_allMany md_allTies md_faults md_numbers)) (ws1 := (wd_SpeciesSolverModel_isHard kc ad md_thrown md_drafted md_lines md_n md_species md_above md_trialSize md_foundSize md_foundSpecies md_foundN md_foundCost md_chosen md_low md_many md_ties md_winnerCost md_allMany md_allTies md_faults md_given md_numbers)) (As := [.int (3 : Int32), .int x2, .int u3]) (rest := [.int x3]) (ci := 1) (q0 := 0) (y := y_SpeciesSolverModel_isIn) ⟨hx, hb, hml, hown, hts⟩ (fun sz => c_SpeciesSolverModel_isIn hc6 sz) gw_1026 gw_1023 gw_1025 gw_86 gw_118 hd_SpeciesSolverModel_isIn ⟨Nat.le_of_ble_eq_true rfl, Nat.le_of_ble_eq_true rfl⟩ ⟨rfl, rfl⟩ ⟨Nat.zero_le _, Nat.zero_le _⟩ hK hN hP hD hS hA hX [0, 2] [1] [1, 0, 2] rfl rfl (by decide) (by decide) (by decide) rfl (by decide) rfl rfl rfl hl.1 rfl (Nat.le_of_ble_eq_true rfl) d_SpeciesSolverModel_isHard_25 (fun H locs hP hD hS => ?_)
    refine lv_if_ne (tgt := 35) hx hb d_SpeciesSolverModel_isHard_28 (by decide) (fun c7 => ?_) (fun c7 => ?_)
    · replace hm := ifF hm c7
      refine lv_iconst (v := 0) hx hb d_SpeciesSolverModel_isHard_35 (by decide) ?_
      exact l_SpeciesSolverModel_isHard_36 C hk5 hm ⟨hP, hD, hS⟩ (lv_sub hl [0, 1, 2, 4] rfl)
    · replace hm := ifT hm c7
      refine lv_iconst (v := 1) hx hb d_SpeciesSolverModel_isHard_31 (by decide) ?_
      refine lv_goto (tgt := 36) hx hb d_SpeciesSolverModel_isHard_32 (by decide) ?_
      exact l_SpeciesSolverModel_isHard_36 C hk5 hm ⟨hP, hD, hS⟩ (lv_sub hl [0, 1, 2, 4] rfl)
def m_SpeciesSolverModel_isHard_5 (F : Nat) (md_lines : Int32) (md_species : Int32) (md_given : Nat → Int32) (md_numbers : Nat → Int32)  : Nat → Int32 → Int32 → Int32 → Int32 → Option (Int32)
  | 0 => fun _ _ _ _ => none
  | n + 1 => m_SpeciesSolverModel_isHard_5b F md_lines md_species md_given md_numbers  (m_SpeciesSolverModel_isHard_5 F md_lines md_species md_given md_numbers  n)
set_option maxHeartbeats 4000000 in
set_option maxRecDepth 100000 in
theorem lp_SpeciesSolverModel_isHard_5 {r : Int32} {F : Nat} {ad : Nat → Nat} {md_thrown : Int32} {md_drafted : Int32} {md_lines : Int32} {md_n : Int32} {md_species : Int32} {md_above : Int32} {md_trialSize : Int32} {md_foundSize : Int32} {md_foundSpecies : Int32} {md_foundN : Int32} {md_foundCost : Int32} {md_chosen : Int32} {md_low : Int32} {md_many : Int64} {md_ties : Int64} {md_winnerCost : Int32} {md_allMany : Int64} {md_allTies : Int64} {md_faults : Int32} {md_given : Nat → Int32} {md_numbers : Nat → Int32}  (C : Cx p s m meth c args A D kc R_SpeciesSolverModel b_SpeciesSolverModel_isHard 5 (some .boolean))  : ∀ (n : Nat)  (x1 : Int32) (x2 : Int32) (x3 : Int32) (x4 : Int32) (H : Heap) (locs : List Loc) (ls : Array Slot), m_SpeciesSolverModel_isHard_5 F md_lines md_species md_given md_numbers  n x1 x2 x3 x4 = some r → St D A s (wd_SpeciesSolverModel_isHard kc ad md_thrown md_drafted md_lines md_n md_species md_above md_trialSize md_foundSize md_foundSpecies md_foundN md_foundCost md_chosen md_low md_many md_ties md_winnerCost md_allMany md_allTies md_faults md_given md_numbers) H locs → lv_has ls 5 [(0, .ref (ad 0)), (1, .int x1), (2, .int x2), (3, .int x3), (4, .int x4)] → W p l e rm_SpeciesSolverModel_isHard s m args below meth c H locs 0 0 (MQ below (Qi D A (wd_SpeciesSolverModel_isHard kc ad md_thrown md_drafted md_lines md_n md_species md_above md_trialSize md_foundSize md_foundSpecies md_foundN md_foundCost md_chosen md_low md_many md_ties md_winnerCost md_allMany md_allTies md_faults md_given md_numbers) r) args s 0 0 A) (F0 m 5 ls []) := by
  intro n
  induction n with
  | zero => intro x1 x2 x3 x4 H locs ls hm; cases hm
  | succ n ih => intro x1 x2 x3 x4 H locs ls hm hZ hl; exact l_SpeciesSolverModel_isHard_5 C  ih hm hZ hl
def m_SpeciesSolverModel_isHard (F : Nat) (md_lines : Int32) (md_species : Int32) (md_given : Nat → Int32) (md_numbers : Nat → Int32)  (a1 : Int32) (a2 : Int32) : Option (Int32) :=
  m_SpeciesSolverModel_isHard_5 F md_lines md_species md_given md_numbers  F a1 a2 (0 : Int32) (0 : Int32)
set_option maxHeartbeats 4000000 in
set_option maxRecDepth 100000 in
theorem e_SpeciesSolverModel_isHard {r : Int32} {F : Nat} {ad : Nat → Nat} {md_thrown : Int32} {md_drafted : Int32} {md_lines : Int32} {md_n : Int32} {md_species : Int32} {md_above : Int32} {md_trialSize : Int32} {md_foundSize : Int32} {md_foundSpecies : Int32} {md_foundN : Int32} {md_foundCost : Int32} {md_chosen : Int32} {md_low : Int32} {md_many : Int64} {md_ties : Int64} {md_winnerCost : Int32} {md_allMany : Int64} {md_allTies : Int64} {md_faults : Int32} {md_given : Nat → Int32} {md_numbers : Nat → Int32} {a1 : Int32} {a2 : Int32} {H : Heap} {locs : List Loc} {ls : Array Slot} (C : Cx p s m meth c args A D kc R_SpeciesSolverModel b_SpeciesSolverModel_isHard 5 (some .boolean)) (hm : m_SpeciesSolverModel_isHard F md_lines md_species md_given md_numbers a1 a2 = some r) (hZ : St D A s (wd_SpeciesSolverModel_isHard kc ad md_thrown md_drafted md_lines md_n md_species md_above md_trialSize md_foundSize md_foundSpecies md_foundN md_foundCost md_chosen md_low md_many md_ties md_winnerCost md_allMany md_allTies md_faults md_given md_numbers) H locs) (hl : lv_has ls 5 [(0, .ref (ad 0)), (1, .int a1), (2, .int a2)]) : W p l e rm_SpeciesSolverModel_isHard s m args below meth c H locs 0 0 (MQ below (Qi D A (wd_SpeciesSolverModel_isHard kc ad md_thrown md_drafted md_lines md_n md_species md_above md_trialSize md_foundSize md_foundSpecies md_foundN md_foundCost md_chosen md_low md_many md_ties md_winnerCost md_allMany md_allTies md_faults md_given md_numbers) r) args s 0 0 A) (F0 m 0 ls []) := by
  obtain ⟨hx, hb, hr, hts, hown, hml, hlocks, hK, hN, hA, hX⟩ := id C
  obtain ⟨hP, hD, hS⟩ := hZ
  unfold m_SpeciesSolverModel_isHard at hm
  refine lv_iconst (v := 0) hx hb d_SpeciesSolverModel_isHard_0 (by decide) ?_
  refine lv_istore_n (lv' := [(3, .int (0 : Int32)), (0, .ref (ad 0)), (1, .int a1), (2, .int a2)]) hx hb d_SpeciesSolverModel_isHard_1 rfl hl (by decide) rfl (fun ls hl => ?_)
  refine lv_iconst (v := 0) hx hb d_SpeciesSolverModel_isHard_2 (by decide) ?_
  refine lv_istore (lv' := [(4, .int (0 : Int32)), (3, .int (0 : Int32)), (0, .ref (ad 0)), (1, .int a1), (2, .int a2)]) hx hb d_SpeciesSolverModel_isHard_3 hl (by decide) rfl (fun ls hl => ?_)
  exact lp_SpeciesSolverModel_isHard_5 C  F a1 a2 (0 : Int32) (0 : Int32) _ _ _ hm ⟨hP, hD, hS⟩ (lv_sub hl [2, 3, 4, 1, 0] rfl)
set_option maxHeartbeats 4000000 in
set_option maxRecDepth 100000 in
theorem c_SpeciesSolverModel_isHard {l : Launch} {D : va_G} {kc : Nat → ClassId} {r : Int32} {F : Nat} {ad : Nat → Nat} {md_thrown : Int32} {md_drafted : Int32} {md_lines : Int32} {md_n : Int32} {md_species : Int32} {md_above : Int32} {md_trialSize : Int32} {md_foundSize : Int32} {md_foundSpecies : Int32} {md_foundN : Int32} {md_foundCost : Int32} {md_chosen : Int32} {md_low : Int32} {md_many : Int64} {md_ties : Int64} {md_winnerCost : Int32} {md_allMany : Int64} {md_allTies : Int64} {md_faults : Int32} {md_given : Nat → Int32} {md_numbers : Nat → Int32} {a1 : Int32} {a2 : Int32} (hm : m_SpeciesSolverModel_isHard F md_lines md_species md_given md_numbers a1 a2 = some r) (sz : Nat) : Ci l y_SpeciesSolverModel_isHard ws_SpeciesSolverModel_isHard rm_SpeciesSolverModel_isHard D kc sz [.ref (ad 0), .int a1, .int a2] (wd_SpeciesSolverModel_isHard kc ad md_thrown md_drafted md_lines md_n md_species md_above md_trialSize md_foundSize md_foundSpecies md_foundN md_foundCost md_chosen md_low md_many md_ties md_winnerCost md_allMany md_allTies md_faults md_given md_numbers) (wd_SpeciesSolverModel_isHard kc ad md_thrown md_drafted md_lines md_n md_species md_above md_trialSize md_foundSize md_foundSpecies md_foundN md_foundCost md_chosen md_low md_many md_ties md_winnerCost md_allMany md_allTies md_faults md_given md_numbers) r :=
  Cz_of (Qf := fun A => (Qi D A (wd_SpeciesSolverModel_isHard kc ad md_thrown md_drafted md_lines md_n md_species md_above md_trialSize md_foundSize md_foundSpecies md_foundN md_foundCost md_chosen md_low md_many md_ties md_winnerCost md_allMany md_allTies md_faults md_given md_numbers) r)) (cc := b_SpeciesSolverModel_isHard) (maxL := 5) (ret := (some .boolean)) (by decide) rfl rfl (fun C hZ hl => e_SpeciesSolverModel_isHard C hm hZ hl)
abbrev b_SpeciesSolverModel_moveCost : ByteArray := prog_9_method_32_code
abbrev y_SpeciesSolverModel_moveCost : MethodName := ⟨"SpeciesSolverModel", "moveCost", "(II)I"⟩
theorem d_SpeciesSolverModel_moveCost_0 : decode b_SpeciesSolverModel_moveCost 0 = .ok (.iload_n 1, 1) := by decide +kernel
theorem d_SpeciesSolverModel_moveCost_1 : decode b_SpeciesSolverModel_moveCost 1 = .ok (.iload_n 2, 1) := by decide +kernel
theorem d_SpeciesSolverModel_moveCost_2 : decode b_SpeciesSolverModel_moveCost 2 = .ok (.invokestatic 101, 3) := by decide +kernel
theorem d_SpeciesSolverModel_moveCost_5 : decode b_SpeciesSolverModel_moveCost 5 = .ok (.istore_n 3, 1) := by decide +kernel
theorem d_SpeciesSolverModel_moveCost_6 : decode b_SpeciesSolverModel_moveCost 6 = .ok (.iload_n 3, 1) := by decide +kernel
theorem d_SpeciesSolverModel_moveCost_7 : decode b_SpeciesSolverModel_moveCost 7 = .ok (.ifCond .ne 13, 3) := by decide +kernel
theorem d_SpeciesSolverModel_moveCost_10 : decode b_SpeciesSolverModel_moveCost 10 = .ok (.aload_n 0, 1) := by decide +kernel
theorem d_SpeciesSolverModel_moveCost_11 : decode b_SpeciesSolverModel_moveCost 11 = .ok (.getfield 28, 3) := by decide +kernel
theorem d_SpeciesSolverModel_moveCost_14 : decode b_SpeciesSolverModel_moveCost 14 = .ok (.bipush 12, 2) := by decide +kernel
theorem d_SpeciesSolverModel_moveCost_16 : decode b_SpeciesSolverModel_moveCost 16 = .ok (.iaload, 1) := by decide +kernel
theorem d_SpeciesSolverModel_moveCost_17 : decode b_SpeciesSolverModel_moveCost 17 = .ok (.goto 4, 3) := by decide +kernel
theorem d_SpeciesSolverModel_moveCost_20 : decode b_SpeciesSolverModel_moveCost 20 = .ok (.iconst 0, 1) := by decide +kernel
theorem d_SpeciesSolverModel_moveCost_21 : decode b_SpeciesSolverModel_moveCost 21 = .ok (.iload_n 3, 1) := by decide +kernel
theorem d_SpeciesSolverModel_moveCost_22 : decode b_SpeciesSolverModel_moveCost 22 = .ok (.aload_n 0, 1) := by decide +kernel
theorem d_SpeciesSolverModel_moveCost_23 : decode b_SpeciesSolverModel_moveCost 23 = .ok (.getfield 28, 3) := by decide +kernel
theorem d_SpeciesSolverModel_moveCost_26 : decode b_SpeciesSolverModel_moveCost 26 = .ok (.bipush 8, 2) := by decide +kernel
theorem d_SpeciesSolverModel_moveCost_28 : decode b_SpeciesSolverModel_moveCost 28 = .ok (.iaload, 1) := by decide +kernel
theorem d_SpeciesSolverModel_moveCost_29 : decode b_SpeciesSolverModel_moveCost 29 = .ok (.if_icmp .le 13, 3) := by decide +kernel
theorem d_SpeciesSolverModel_moveCost_32 : decode b_SpeciesSolverModel_moveCost 32 = .ok (.aload_n 0, 1) := by decide +kernel
theorem d_SpeciesSolverModel_moveCost_33 : decode b_SpeciesSolverModel_moveCost 33 = .ok (.getfield 28, 3) := by decide +kernel
theorem d_SpeciesSolverModel_moveCost_36 : decode b_SpeciesSolverModel_moveCost 36 = .ok (.bipush 13, 2) := by decide +kernel
theorem d_SpeciesSolverModel_moveCost_38 : decode b_SpeciesSolverModel_moveCost 38 = .ok (.iaload, 1) := by decide +kernel
theorem d_SpeciesSolverModel_moveCost_39 : decode b_SpeciesSolverModel_moveCost 39 = .ok (.goto 4, 3) := by decide +kernel
theorem d_SpeciesSolverModel_moveCost_42 : decode b_SpeciesSolverModel_moveCost 42 = .ok (.iconst 0, 1) := by decide +kernel
theorem d_SpeciesSolverModel_moveCost_43 : decode b_SpeciesSolverModel_moveCost 43 = .ok (.iadd, 1) := by decide +kernel
theorem d_SpeciesSolverModel_moveCost_44 : decode b_SpeciesSolverModel_moveCost 44 = .ok (.iload_n 3, 1) := by decide +kernel
theorem d_SpeciesSolverModel_moveCost_45 : decode b_SpeciesSolverModel_moveCost 45 = .ok (.aload_n 0, 1) := by decide +kernel
theorem d_SpeciesSolverModel_moveCost_46 : decode b_SpeciesSolverModel_moveCost 46 = .ok (.getfield 28, 3) := by decide +kernel
theorem d_SpeciesSolverModel_moveCost_49 : decode b_SpeciesSolverModel_moveCost 49 = .ok (.bipush 14, 2) := by decide +kernel
theorem d_SpeciesSolverModel_moveCost_51 : decode b_SpeciesSolverModel_moveCost 51 = .ok (.iaload, 1) := by decide +kernel
theorem d_SpeciesSolverModel_moveCost_52 : decode b_SpeciesSolverModel_moveCost 52 = .ok (.imul, 1) := by decide +kernel
theorem d_SpeciesSolverModel_moveCost_53 : decode b_SpeciesSolverModel_moveCost 53 = .ok (.iadd, 1) := by decide +kernel
theorem d_SpeciesSolverModel_moveCost_54 : decode b_SpeciesSolverModel_moveCost 54 = .ok (.ireturn, 1) := by decide +kernel
abbrev wd_SpeciesSolverModel_moveCost (kc : Nat → ClassId) (ad : Nat → Nat) (md_thrown : Int32) (md_drafted : Int32) (md_lines : Int32) (md_n : Int32) (md_species : Int32) (md_above : Int32) (md_trialSize : Int32) (md_foundSize : Int32) (md_foundSpecies : Int32) (md_foundN : Int32) (md_foundCost : Int32) (md_chosen : Int32) (md_low : Int32) (md_many : Int64) (md_ties : Int64) (md_winnerCost : Int32) (md_allMany : Int64) (md_allTies : Int64) (md_faults : Int32) (md_numbers : Nat → Int32) : va_W := [((ad 0), .inr (1, [.int md_thrown, .ref (ad 1), .int md_drafted, .ref (ad 2), .int md_lines, .int md_n, .int md_species, .int md_above, .ref (ad 3), .ref (ad 4), .ref (ad 5), .int md_trialSize, .ref (ad 6), .int md_foundSize, .int md_foundSpecies, .int md_foundN, .int md_foundCost, .ref (ad 7), .int md_chosen, .ref (ad 8), .ref (ad 9), .ref (ad 10), .int md_low, .long md_many, .long md_ties, .ref (ad 11), .ref (ad 12), .int md_winnerCost, .long md_allMany, .long md_allTies, .ref (ad 13), .ref (ad 14), .ref (ad 15), .ref (ad 16), .int md_faults])), ((ad 4), .inl (kc 0, 18, .inl md_numbers))]
abbrev rm_SpeciesSolverModel_moveCost : Room := { frames := 1, cells := 0, slots := 0, locals := 21 }
abbrev cw_SpeciesSolverModel_moveCost : Cond := .code y_SpeciesSolverModel_moveCost b_SpeciesSolverModel_moveCost 4 (some .int)
abbrev ws_SpeciesSolverModel_moveCost : List Cond := cw_SpeciesSolverModel_moveCost :: GW
theorem hd_SpeciesSolverModel_moveCost : y_SpeciesSolverModel_moveCost.cls ≠ "java/lang/invoke/MethodHandle" ∧ y_SpeciesSolverModel_moveCost.cls ≠ "java/lang/invoke/VarHandle" ∧ (parseMethodDescriptor y_SpeciesSolverModel_moveCost.desc).map (fun d => d.parameters.length) = some 2 := by decide +kernel
def m_SpeciesSolverModel_moveCost_43 (md_numbers : Nat → Int32)   (x3 : Int32) (t0 : Int32) (t1 : Int32) : Option (Int32) :=
  (some ((t0 + t1) + (x3 * (md_numbers (Int32.toNatClampNeg (14 : Int32))))))
set_option maxHeartbeats 4000000 in
set_option maxRecDepth 100000 in
theorem l_SpeciesSolverModel_moveCost_43 {r : Int32} {ad : Nat → Nat} {md_thrown : Int32} {md_drafted : Int32} {md_lines : Int32} {md_n : Int32} {md_species : Int32} {md_above : Int32} {md_trialSize : Int32} {md_foundSize : Int32} {md_foundSpecies : Int32} {md_foundN : Int32} {md_foundCost : Int32} {md_chosen : Int32} {md_low : Int32} {md_many : Int64} {md_ties : Int64} {md_winnerCost : Int32} {md_allMany : Int64} {md_allTies : Int64} {md_faults : Int32} {md_numbers : Nat → Int32}  {x3 : Int32} {t0 : Int32} {t1 : Int32} {H : Heap} {locs : List Loc} {ls : Array Slot} (C : Cx p s m meth c args A D kc R_SpeciesSolverModel b_SpeciesSolverModel_moveCost 4 (some .int))  (hm : m_SpeciesSolverModel_moveCost_43 md_numbers  x3 t0 t1 = some r) (hZ : St D A s (wd_SpeciesSolverModel_moveCost kc ad md_thrown md_drafted md_lines md_n md_species md_above md_trialSize md_foundSize md_foundSpecies md_foundN md_foundCost md_chosen md_low md_many md_ties md_winnerCost md_allMany md_allTies md_faults md_numbers) H locs) (hl : lv_has ls 4 [(0, .ref (ad 0)), (3, .int x3)]) : W p l e rm_SpeciesSolverModel_moveCost s m args below meth c H locs 0 0 (MQ below (Qi D A (wd_SpeciesSolverModel_moveCost kc ad md_thrown md_drafted md_lines md_n md_species md_above md_trialSize md_foundSize md_foundSpecies md_foundN md_foundCost md_chosen md_low md_many md_ties md_winnerCost md_allMany md_allTies md_faults md_numbers) r) args s 0 0 A) (F0 m 43 ls [.int t1, .int t0]) := by
  obtain ⟨hx, hb, hr, hts, hown, hml, hlocks, hK, hN, hA, hX⟩ := id C
  obtain ⟨hP, hD, hS⟩ := hZ
  unfold m_SpeciesSolverModel_moveCost_43 at hm
  refine lv_iadd hx hb d_SpeciesSolverModel_moveCost_43 ?_
  refine lv_iload_n hx hb d_SpeciesSolverModel_moveCost_44 rfl (lv_at hl 1 rfl) ?_
  refine lv_aload_n hx hb d_SpeciesSolverModel_moveCost_45 rfl (lv_at hl 0 rfl) ?_
  refine va_get (D := D) (ci := 1) (v := .ref (ad 4)) (C := R_SpeciesSolverModel) (T := T_SpeciesSolverModel) (N := 35) hx hb hts inG_SpeciesSolverModel hown hK hP 0 rfl rfl 9 (by decide) (hts _ gw_827) (fun _ h9 => h9) rfl d_SpeciesSolverModel_moveCost_46 ?_
  refine lv_bipush (v := 14) hx hb d_SpeciesSolverModel_moveCost_49 (by decide) ?_
  refine va_iald hx hb hK hP 1 0 rfl rfl (in_lit (by decide)) d_SpeciesSolverModel_moveCost_51 ?_
  refine lv_imul hx hb d_SpeciesSolverModel_moveCost_52 ?_
  refine lv_iadd hx hb d_SpeciesSolverModel_moveCost_53 ?_
  replace hm := Option.some.inj hm; subst hm
  exact zret_i C hP hD hS d_SpeciesSolverModel_moveCost_54
def m_SpeciesSolverModel_moveCost_21 (md_numbers : Nat → Int32)   (x3 : Int32) (t0 : Int32) : Option (Int32) :=
  (if x3 ≤ (md_numbers (Int32.toNatClampNeg (8 : Int32))) then
    m_SpeciesSolverModel_moveCost_43 md_numbers  x3 t0 (0 : Int32)
  else
    m_SpeciesSolverModel_moveCost_43 md_numbers  x3 t0 (md_numbers (Int32.toNatClampNeg (13 : Int32))))
set_option maxHeartbeats 4000000 in
set_option maxRecDepth 100000 in
theorem l_SpeciesSolverModel_moveCost_21 {r : Int32} {ad : Nat → Nat} {md_thrown : Int32} {md_drafted : Int32} {md_lines : Int32} {md_n : Int32} {md_species : Int32} {md_above : Int32} {md_trialSize : Int32} {md_foundSize : Int32} {md_foundSpecies : Int32} {md_foundN : Int32} {md_foundCost : Int32} {md_chosen : Int32} {md_low : Int32} {md_many : Int64} {md_ties : Int64} {md_winnerCost : Int32} {md_allMany : Int64} {md_allTies : Int64} {md_faults : Int32} {md_numbers : Nat → Int32}  {x3 : Int32} {t0 : Int32} {H : Heap} {locs : List Loc} {ls : Array Slot} (C : Cx p s m meth c args A D kc R_SpeciesSolverModel b_SpeciesSolverModel_moveCost 4 (some .int))  (hm : m_SpeciesSolverModel_moveCost_21 md_numbers  x3 t0 = some r) (hZ : St D A s (wd_SpeciesSolverModel_moveCost kc ad md_thrown md_drafted md_lines md_n md_species md_above md_trialSize md_foundSize md_foundSpecies md_foundN md_foundCost md_chosen md_low md_many md_ties md_winnerCost md_allMany md_allTies md_faults md_numbers) H locs) (hl : lv_has ls 4 [(0, .ref (ad 0)), (3, .int x3)]) : W p l e rm_SpeciesSolverModel_moveCost s m args below meth c H locs 0 0 (MQ below (Qi D A (wd_SpeciesSolverModel_moveCost kc ad md_thrown md_drafted md_lines md_n md_species md_above md_trialSize md_foundSize md_foundSpecies md_foundN md_foundCost md_chosen md_low md_many md_ties md_winnerCost md_allMany md_allTies md_faults md_numbers) r) args s 0 0 A) (F0 m 21 ls [.int t0]) := by
  obtain ⟨hx, hb, hr, hts, hown, hml, hlocks, hK, hN, hA, hX⟩ := id C
  obtain ⟨hP, hD, hS⟩ := hZ
  unfold m_SpeciesSolverModel_moveCost_21 at hm
  refine lv_iload_n hx hb d_SpeciesSolverModel_moveCost_21 rfl (lv_at hl 1 rfl) ?_
  refine lv_aload_n hx hb d_SpeciesSolverModel_moveCost_22 rfl (lv_at hl 0 rfl) ?_
  refine va_get (D := D) (ci := 1) (v := .ref (ad 4)) (C := R_SpeciesSolverModel) (T := T_SpeciesSolverModel) (N := 35) hx hb hts inG_SpeciesSolverModel hown hK hP 0 rfl rfl 9 (by decide) (hts _ gw_827) (fun _ h9 => h9) rfl d_SpeciesSolverModel_moveCost_23 ?_
  refine lv_bipush (v := 8) hx hb d_SpeciesSolverModel_moveCost_26 (by decide) ?_
  refine va_iald hx hb hK hP 1 0 rfl rfl (in_lit (by decide)) d_SpeciesSolverModel_moveCost_28 ?_
  refine lv_icmp_le (tgt := 42) hx hb d_SpeciesSolverModel_moveCost_29 (by decide) (fun c1 => ?_) (fun c1 => ?_)
  · replace hm := ifT hm c1
    refine lv_iconst (v := 0) hx hb d_SpeciesSolverModel_moveCost_42 (by decide) ?_
    exact l_SpeciesSolverModel_moveCost_43 C  hm ⟨hP, hD, hS⟩ (lv_sub hl [0, 1] rfl)
  · replace hm := ifF hm c1
    refine lv_aload_n hx hb d_SpeciesSolverModel_moveCost_32 rfl (lv_at hl 0 rfl) ?_
    refine va_get (D := D) (ci := 1) (v := .ref (ad 4)) (C := R_SpeciesSolverModel) (T := T_SpeciesSolverModel) (N := 35) hx hb hts inG_SpeciesSolverModel hown hK hP 0 rfl rfl 9 (by decide) (hts _ gw_827) (fun _ h9 => h9) rfl d_SpeciesSolverModel_moveCost_33 ?_
    refine lv_bipush (v := 13) hx hb d_SpeciesSolverModel_moveCost_36 (by decide) ?_
    refine va_iald hx hb hK hP 1 0 rfl rfl (in_lit (by decide)) d_SpeciesSolverModel_moveCost_38 ?_
    refine lv_goto (tgt := 43) hx hb d_SpeciesSolverModel_moveCost_39 (by decide) ?_
    exact l_SpeciesSolverModel_moveCost_43 C  hm ⟨hP, hD, hS⟩ (lv_sub hl [0, 1] rfl)
def m_SpeciesSolverModel_moveCost (md_numbers : Nat → Int32)  (a1 : Int32) (a2 : Int32) : Option (Int32) :=
  (bd (m_SpeciesSolverModel_far a1 a2) (fun u1 => (if u1 = (0 : Int32) then
    m_SpeciesSolverModel_moveCost_21 md_numbers  u1 (md_numbers (Int32.toNatClampNeg (12 : Int32)))
  else
    m_SpeciesSolverModel_moveCost_21 md_numbers  u1 (0 : Int32))))
set_option maxHeartbeats 4000000 in
set_option maxRecDepth 100000 in
theorem e_SpeciesSolverModel_moveCost {r : Int32} {ad : Nat → Nat} {md_thrown : Int32} {md_drafted : Int32} {md_lines : Int32} {md_n : Int32} {md_species : Int32} {md_above : Int32} {md_trialSize : Int32} {md_foundSize : Int32} {md_foundSpecies : Int32} {md_foundN : Int32} {md_foundCost : Int32} {md_chosen : Int32} {md_low : Int32} {md_many : Int64} {md_ties : Int64} {md_winnerCost : Int32} {md_allMany : Int64} {md_allTies : Int64} {md_faults : Int32} {md_numbers : Nat → Int32} {a1 : Int32} {a2 : Int32} {H : Heap} {locs : List Loc} {ls : Array Slot} (C : Cx p s m meth c args A D kc R_SpeciesSolverModel b_SpeciesSolverModel_moveCost 4 (some .int)) (hm : m_SpeciesSolverModel_moveCost md_numbers a1 a2 = some r) (hZ : St D A s (wd_SpeciesSolverModel_moveCost kc ad md_thrown md_drafted md_lines md_n md_species md_above md_trialSize md_foundSize md_foundSpecies md_foundN md_foundCost md_chosen md_low md_many md_ties md_winnerCost md_allMany md_allTies md_faults md_numbers) H locs) (hl : lv_has ls 4 [(0, .ref (ad 0)), (1, .int a1), (2, .int a2)]) : W p l e rm_SpeciesSolverModel_moveCost s m args below meth c H locs 0 0 (MQ below (Qi D A (wd_SpeciesSolverModel_moveCost kc ad md_thrown md_drafted md_lines md_n md_species md_above md_trialSize md_foundSize md_foundSpecies md_foundN md_foundCost md_chosen md_low md_many md_ties md_winnerCost md_allMany md_allTies md_faults md_numbers) r) args s 0 0 A) (F0 m 0 ls []) := by
  obtain ⟨hx, hb, hr, hts, hown, hml, hlocks, hK, hN, hA, hX⟩ := id C
  obtain ⟨hP, hD, hS⟩ := hZ
  unfold m_SpeciesSolverModel_moveCost at hm
  refine lv_iload_n hx hb d_SpeciesSolverModel_moveCost_0 rfl (lv_at hl 1 rfl) ?_
  refine lv_iload_n hx hb d_SpeciesSolverModel_moveCost_1 rfl (lv_at hl 2 rfl) ?_
  obtain ⟨u1, hc2, hm⟩ := bd_some hm
  refine zS_i (n := 2) (wr := [((ad 0), .inr (1, [.int md_thrown, .ref (ad 1), .int md_drafted, .ref (ad 2), .int md_lines, .int md_n, .int md_species, .int md_above, .ref (ad 3), .ref (ad 4), .ref (ad 5), .int md_trialSize, .ref (ad 6), .int md_foundSize, .int md_foundSpecies, .int md_foundN, .int md_foundCost, .ref (ad 7), .int md_chosen, .ref (ad 8), .ref (ad 9), .ref (ad 10), .int md_low, .long md_many, .long md_ties, .ref (ad 11), .ref (ad 12), .int md_winnerCost, .long md_allMany, .long md_allTies, .ref (ad 13), .ref (ad 14), .ref (ad 15), .ref (ad 16), .int md_faults])), ((ad 4), .inl (kc 0, 18, .inl md_numbers))]) (w1 := (wd_SpeciesSolverModel_far kc )) (ws1 := (wd_SpeciesSolverModel_moveCost kc ad md_thrown md_drafted md_lines md_n md_species md_above md_trialSize md_foundSize md_foundSpecies md_foundN md_foundCost md_chosen md_low md_many md_ties md_winnerCost md_allMany md_allTies md_faults md_numbers)) (As := [.int a1, .int a2]) (rest := []) (y := y_SpeciesSolverModel_far) ⟨hx, hb, hml, hown, hts⟩ (fun sz => c_SpeciesSolverModel_far hc2 sz) gw_1029 gw_1027 gw_1028 gw_118 rfl hd_SpeciesSolverModel_far ⟨Nat.le_of_ble_eq_true rfl, Nat.le_of_ble_eq_true rfl⟩ ⟨rfl, rfl⟩ ⟨Nat.zero_le _, Nat.zero_le _⟩ hK hN hP hD hS hA hX [] [0, 1] [0, 1] rfl rfl (by decide) (by decide) (by decide) rfl (by decide) rfl hl.1 rfl (Nat.le_of_ble_eq_true rfl) d_SpeciesSolverModel_moveCost_2 (fun H locs hP hD hS => ?_)
  refine lv_istore_n (lv' := [(3, .int u1), (0, .ref (ad 0)), (1, .int a1), (2, .int a2)]) hx hb d_SpeciesSolverModel_moveCost_5 rfl hl (by decide) rfl (fun ls hl => ?_)
  refine lv_iload_n hx hb d_SpeciesSolverModel_moveCost_6 rfl (lv_at hl 0 rfl) ?_
  refine lv_if_ne (tgt := 20) hx hb d_SpeciesSolverModel_moveCost_7 (by decide) (fun c3 => ?_) (fun c3 => ?_)
  · replace hm := ifF hm c3
    refine lv_iconst (v := 0) hx hb d_SpeciesSolverModel_moveCost_20 (by decide) ?_
    exact l_SpeciesSolverModel_moveCost_21 C  hm ⟨hP, hD, hS⟩ (lv_sub hl [1, 0] rfl)
  · replace hm := ifT hm c3
    refine lv_aload_n hx hb d_SpeciesSolverModel_moveCost_10 rfl (lv_at hl 1 rfl) ?_
    refine va_get (D := D) (ci := 1) (v := .ref (ad 4)) (C := R_SpeciesSolverModel) (T := T_SpeciesSolverModel) (N := 35) hx hb hts inG_SpeciesSolverModel hown hK hP 0 rfl rfl 9 (by decide) (hts _ gw_827) (fun _ h9 => h9) rfl d_SpeciesSolverModel_moveCost_11 ?_
    refine lv_bipush (v := 12) hx hb d_SpeciesSolverModel_moveCost_14 (by decide) ?_
    refine va_iald hx hb hK hP 1 0 rfl rfl (in_lit (by decide)) d_SpeciesSolverModel_moveCost_16 ?_
    refine lv_goto (tgt := 21) hx hb d_SpeciesSolverModel_moveCost_17 (by decide) ?_
    exact l_SpeciesSolverModel_moveCost_21 C  hm ⟨hP, hD, hS⟩ (lv_sub hl [1, 0] rfl)
set_option maxHeartbeats 4000000 in
set_option maxRecDepth 100000 in
theorem c_SpeciesSolverModel_moveCost {l : Launch} {D : va_G} {kc : Nat → ClassId} {r : Int32} {ad : Nat → Nat} {md_thrown : Int32} {md_drafted : Int32} {md_lines : Int32} {md_n : Int32} {md_species : Int32} {md_above : Int32} {md_trialSize : Int32} {md_foundSize : Int32} {md_foundSpecies : Int32} {md_foundN : Int32} {md_foundCost : Int32} {md_chosen : Int32} {md_low : Int32} {md_many : Int64} {md_ties : Int64} {md_winnerCost : Int32} {md_allMany : Int64} {md_allTies : Int64} {md_faults : Int32} {md_numbers : Nat → Int32} {a1 : Int32} {a2 : Int32} (hm : m_SpeciesSolverModel_moveCost md_numbers a1 a2 = some r) (sz : Nat) : Ci l y_SpeciesSolverModel_moveCost ws_SpeciesSolverModel_moveCost rm_SpeciesSolverModel_moveCost D kc sz [.ref (ad 0), .int a1, .int a2] (wd_SpeciesSolverModel_moveCost kc ad md_thrown md_drafted md_lines md_n md_species md_above md_trialSize md_foundSize md_foundSpecies md_foundN md_foundCost md_chosen md_low md_many md_ties md_winnerCost md_allMany md_allTies md_faults md_numbers) (wd_SpeciesSolverModel_moveCost kc ad md_thrown md_drafted md_lines md_n md_species md_above md_trialSize md_foundSize md_foundSpecies md_foundN md_foundCost md_chosen md_low md_many md_ties md_winnerCost md_allMany md_allTies md_faults md_numbers) r :=
  Cz_of (Qf := fun A => (Qi D A (wd_SpeciesSolverModel_moveCost kc ad md_thrown md_drafted md_lines md_n md_species md_above md_trialSize md_foundSize md_foundSpecies md_foundN md_foundCost md_chosen md_low md_many md_ties md_winnerCost md_allMany md_allTies md_faults md_numbers) r)) (cc := b_SpeciesSolverModel_moveCost) (maxL := 4) (ret := (some .int)) (by decide) rfl rfl (fun C hZ hl => e_SpeciesSolverModel_moveCost C hm hZ hl)
end
