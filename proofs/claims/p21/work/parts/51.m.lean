section
variable {p : Program} {l : Launch} {e : Env} {s : State} {m : MethodId} {args : Array Value} {below : List Frame} {meth : Method} {c : Code} {D : va_G} {kc : Nat → ClassId} {A : Nat → Prop}
abbrev b_SpeciesSolverModel_choose : ByteArray := prog_9_method_13_code
abbrev y_SpeciesSolverModel_choose : MethodName := ⟨"SpeciesSolverModel", "choose", "()V"⟩
theorem d_SpeciesSolverModel_choose_0 : decode b_SpeciesSolverModel_choose 0 = .ok (.aload_n 0, 1) := by decide +kernel
theorem d_SpeciesSolverModel_choose_1 : decode b_SpeciesSolverModel_choose 1 = .ok (.iconst 0, 1) := by decide +kernel
theorem d_SpeciesSolverModel_choose_2 : decode b_SpeciesSolverModel_choose 2 = .ok (.putfield 95, 3) := by decide +kernel
theorem d_SpeciesSolverModel_choose_5 : decode b_SpeciesSolverModel_choose 5 = .ok (.aload_n 0, 1) := by decide +kernel
theorem d_SpeciesSolverModel_choose_6 : decode b_SpeciesSolverModel_choose 6 = .ok (.getfield 28, 3) := by decide +kernel
theorem d_SpeciesSolverModel_choose_9 : decode b_SpeciesSolverModel_choose 9 = .ok (.iconst 1, 1) := by decide +kernel
theorem d_SpeciesSolverModel_choose_10 : decode b_SpeciesSolverModel_choose 10 = .ok (.iaload, 1) := by decide +kernel
theorem d_SpeciesSolverModel_choose_11 : decode b_SpeciesSolverModel_choose 11 = .ok (.istore_n 1, 1) := by decide +kernel
theorem d_SpeciesSolverModel_choose_12 : decode b_SpeciesSolverModel_choose 12 = .ok (.iload_n 1, 1) := by decide +kernel
theorem d_SpeciesSolverModel_choose_13 : decode b_SpeciesSolverModel_choose 13 = .ok (.aload_n 0, 1) := by decide +kernel
theorem d_SpeciesSolverModel_choose_14 : decode b_SpeciesSolverModel_choose 14 = .ok (.getfield 28, 3) := by decide +kernel
theorem d_SpeciesSolverModel_choose_17 : decode b_SpeciesSolverModel_choose 17 = .ok (.iconst 2, 1) := by decide +kernel
theorem d_SpeciesSolverModel_choose_18 : decode b_SpeciesSolverModel_choose 18 = .ok (.iaload, 1) := by decide +kernel
theorem d_SpeciesSolverModel_choose_19 : decode b_SpeciesSolverModel_choose 19 = .ok (.if_icmp .gt 64, 3) := by decide +kernel
theorem d_SpeciesSolverModel_choose_22 : decode b_SpeciesSolverModel_choose 22 = .ok (.aload_n 0, 1) := by decide +kernel
theorem d_SpeciesSolverModel_choose_23 : decode b_SpeciesSolverModel_choose 23 = .ok (.getfield 95, 3) := by decide +kernel
theorem d_SpeciesSolverModel_choose_26 : decode b_SpeciesSolverModel_choose 26 = .ok (.bipush 9, 2) := by decide +kernel
theorem d_SpeciesSolverModel_choose_28 : decode b_SpeciesSolverModel_choose 28 = .ok (.if_icmp .ge 55, 3) := by decide +kernel
theorem d_SpeciesSolverModel_choose_31 : decode b_SpeciesSolverModel_choose 31 = .ok (.aload_n 0, 1) := by decide +kernel
theorem d_SpeciesSolverModel_choose_32 : decode b_SpeciesSolverModel_choose 32 = .ok (.getfield 28, 3) := by decide +kernel
theorem d_SpeciesSolverModel_choose_35 : decode b_SpeciesSolverModel_choose 35 = .ok (.iconst 0, 1) := by decide +kernel
theorem d_SpeciesSolverModel_choose_36 : decode b_SpeciesSolverModel_choose 36 = .ok (.iaload, 1) := by decide +kernel
theorem d_SpeciesSolverModel_choose_37 : decode b_SpeciesSolverModel_choose 37 = .ok (.iload_n 1, 1) := by decide +kernel
theorem d_SpeciesSolverModel_choose_38 : decode b_SpeciesSolverModel_choose 38 = .ok (.bipush 12, 2) := by decide +kernel
theorem d_SpeciesSolverModel_choose_40 : decode b_SpeciesSolverModel_choose 40 = .ok (.irem, 1) := by decide +kernel
theorem d_SpeciesSolverModel_choose_41 : decode b_SpeciesSolverModel_choose 41 = .ok (.ishr, 1) := by decide +kernel
theorem d_SpeciesSolverModel_choose_42 : decode b_SpeciesSolverModel_choose 42 = .ok (.iconst 1, 1) := by decide +kernel
theorem d_SpeciesSolverModel_choose_43 : decode b_SpeciesSolverModel_choose 43 = .ok (.iand, 1) := by decide +kernel
theorem d_SpeciesSolverModel_choose_44 : decode b_SpeciesSolverModel_choose 44 = .ok (.iconst 1, 1) := by decide +kernel
theorem d_SpeciesSolverModel_choose_45 : decode b_SpeciesSolverModel_choose 45 = .ok (.if_icmp .ne 32, 3) := by decide +kernel
theorem d_SpeciesSolverModel_choose_48 : decode b_SpeciesSolverModel_choose 48 = .ok (.aload_n 0, 1) := by decide +kernel
theorem d_SpeciesSolverModel_choose_49 : decode b_SpeciesSolverModel_choose 49 = .ok (.getfield 95, 3) := by decide +kernel
theorem d_SpeciesSolverModel_choose_52 : decode b_SpeciesSolverModel_choose 52 = .ok (.bipush 8, 2) := by decide +kernel
theorem d_SpeciesSolverModel_choose_54 : decode b_SpeciesSolverModel_choose 54 = .ok (.if_icmp .ge 13, 3) := by decide +kernel
theorem d_SpeciesSolverModel_choose_57 : decode b_SpeciesSolverModel_choose 57 = .ok (.aload_n 0, 1) := by decide +kernel
theorem d_SpeciesSolverModel_choose_58 : decode b_SpeciesSolverModel_choose 58 = .ok (.getfield 37, 3) := by decide +kernel
theorem d_SpeciesSolverModel_choose_61 : decode b_SpeciesSolverModel_choose 61 = .ok (.aload_n 0, 1) := by decide +kernel
theorem d_SpeciesSolverModel_choose_62 : decode b_SpeciesSolverModel_choose 62 = .ok (.getfield 95, 3) := by decide +kernel
theorem d_SpeciesSolverModel_choose_65 : decode b_SpeciesSolverModel_choose 65 = .ok (.iload_n 1, 1) := by decide +kernel
theorem d_SpeciesSolverModel_choose_66 : decode b_SpeciesSolverModel_choose 66 = .ok (.iastore, 1) := by decide +kernel
theorem d_SpeciesSolverModel_choose_67 : decode b_SpeciesSolverModel_choose 67 = .ok (.aload_n 0, 1) := by decide +kernel
theorem d_SpeciesSolverModel_choose_68 : decode b_SpeciesSolverModel_choose 68 = .ok (.dup, 1) := by decide +kernel
theorem d_SpeciesSolverModel_choose_69 : decode b_SpeciesSolverModel_choose 69 = .ok (.getfield 95, 3) := by decide +kernel
theorem d_SpeciesSolverModel_choose_72 : decode b_SpeciesSolverModel_choose 72 = .ok (.iconst 1, 1) := by decide +kernel
theorem d_SpeciesSolverModel_choose_73 : decode b_SpeciesSolverModel_choose 73 = .ok (.iadd, 1) := by decide +kernel
theorem d_SpeciesSolverModel_choose_74 : decode b_SpeciesSolverModel_choose 74 = .ok (.putfield 95, 3) := by decide +kernel
theorem d_SpeciesSolverModel_choose_77 : decode b_SpeciesSolverModel_choose 77 = .ok (.iinc 1 1, 3) := by decide +kernel
theorem d_SpeciesSolverModel_choose_80 : decode b_SpeciesSolverModel_choose 80 = .ok (.goto (-68), 3) := by decide +kernel
theorem d_SpeciesSolverModel_choose_83 : decode b_SpeciesSolverModel_choose 83 = .ok (.return_, 1) := by decide +kernel
abbrev wd_SpeciesSolverModel_choose (kc : Nat → ClassId) (ad : Nat → Nat) (md_thrown : Int32) (md_drafted : Int32) (md_lines : Int32) (md_n : Int32) (md_species : Int32) (md_above : Int32) (md_trialSize : Int32) (md_foundSize : Int32) (md_foundSpecies : Int32) (md_foundN : Int32) (md_foundCost : Int32) (md_chosen : Int32) (md_low : Int32) (md_many : Int64) (md_ties : Int64) (md_winnerCost : Int32) (md_allMany : Int64) (md_allTies : Int64) (md_faults : Int32) (md_numbers : Nat → Int32) (md_pitches : Nat → Int32) : va_W := [((ad 0), .inr (1, [.int md_thrown, .ref (ad 1), .int md_drafted, .ref (ad 2), .int md_lines, .int md_n, .int md_species, .int md_above, .ref (ad 3), .ref (ad 4), .ref (ad 5), .int md_trialSize, .ref (ad 6), .int md_foundSize, .int md_foundSpecies, .int md_foundN, .int md_foundCost, .ref (ad 7), .int md_chosen, .ref (ad 8), .ref (ad 9), .ref (ad 10), .int md_low, .long md_many, .long md_ties, .ref (ad 11), .ref (ad 12), .int md_winnerCost, .long md_allMany, .long md_allTies, .ref (ad 13), .ref (ad 14), .ref (ad 15), .ref (ad 16), .int md_faults])), ((ad 4), .inl (kc 0, 18, .inl md_numbers)), ((ad 7), .inl (kc 0, 8, .inl md_pitches))]
abbrev rm_SpeciesSolverModel_choose : Room := { frames := 0, cells := 0, slots := 0, locals := 0 }
abbrev cw_SpeciesSolverModel_choose : Cond := .code y_SpeciesSolverModel_choose b_SpeciesSolverModel_choose 2 none
abbrev ws_SpeciesSolverModel_choose : List Cond := cw_SpeciesSolverModel_choose :: GW
theorem hd_SpeciesSolverModel_choose : y_SpeciesSolverModel_choose.cls ≠ "java/lang/invoke/MethodHandle" ∧ y_SpeciesSolverModel_choose.cls ≠ "java/lang/invoke/VarHandle" ∧ (parseMethodDescriptor y_SpeciesSolverModel_choose.desc).map (fun d => d.parameters.length) = some 0 := by decide +kernel
def m_SpeciesSolverModel_choose_77 (F : Nat) (md_numbers : Nat → Int32) (k12 : Int32 → (Nat → Int32) → Int32 → Option (Int32 × (Nat → Int32))) (md_chosen : Int32) (md_pitches : Nat → Int32) (x1 : Int32) : Option (Int32 × (Nat → Int32)) :=
  k12 md_chosen md_pitches (x1 + 1)
set_option maxHeartbeats 4000000 in
set_option maxRecDepth 100000 in
theorem l_SpeciesSolverModel_choose_77 {r : Int32 × (Nat → Int32)} {F : Nat} {ad : Nat → Nat} {md_thrown : Int32} {md_drafted : Int32} {md_lines : Int32} {md_n : Int32} {md_species : Int32} {md_above : Int32} {md_trialSize : Int32} {md_foundSize : Int32} {md_foundSpecies : Int32} {md_foundN : Int32} {md_foundCost : Int32} {md_chosen : Int32} {md_low : Int32} {md_many : Int64} {md_ties : Int64} {md_winnerCost : Int32} {md_allMany : Int64} {md_allTies : Int64} {md_faults : Int32} {md_numbers : Nat → Int32} {md_pitches : Nat → Int32} {k12 : Int32 → (Nat → Int32) → Int32 → Option (Int32 × (Nat → Int32))} {x1 : Int32} {H : Heap} {locs : List Loc} {ls : Array Slot} (C : Cx p s m meth c args A D kc R_SpeciesSolverModel b_SpeciesSolverModel_choose 2 none) (hk12 : (∀ (md_chosen : Int32) (md_pitches : Nat → Int32) (x1 : Int32) (H : Heap) (locs : List Loc) (ls : Array Slot), k12 md_chosen md_pitches x1 = some r → St D A s (wd_SpeciesSolverModel_choose kc ad md_thrown md_drafted md_lines md_n md_species md_above md_trialSize md_foundSize md_foundSpecies md_foundN md_foundCost md_chosen md_low md_many md_ties md_winnerCost md_allMany md_allTies md_faults md_numbers md_pitches) H locs → lv_has ls 2 [(0, .ref (ad 0)), (1, .int x1)] → W p l e rm_SpeciesSolverModel_choose s m args below meth c H locs 0 0 (MQ below (Qv D A (wd_SpeciesSolverModel_choose kc ad md_thrown md_drafted md_lines md_n md_species md_above md_trialSize md_foundSize md_foundSpecies md_foundN md_foundCost r.1 md_low md_many md_ties md_winnerCost md_allMany md_allTies md_faults md_numbers r.2)) args s 0 0 A) (F0 m 12 ls []))) (hm : m_SpeciesSolverModel_choose_77 F md_numbers k12 md_chosen md_pitches x1 = some r) (hZ : St D A s (wd_SpeciesSolverModel_choose kc ad md_thrown md_drafted md_lines md_n md_species md_above md_trialSize md_foundSize md_foundSpecies md_foundN md_foundCost md_chosen md_low md_many md_ties md_winnerCost md_allMany md_allTies md_faults md_numbers md_pitches) H locs) (hl : lv_has ls 2 [(0, .ref (ad 0)), (1, .int x1)]) : W p l e rm_SpeciesSolverModel_choose s m args below meth c H locs 0 0 (MQ below (Qv D A (wd_SpeciesSolverModel_choose kc ad md_thrown md_drafted md_lines md_n md_species md_above md_trialSize md_foundSize md_foundSpecies md_foundN md_foundCost r.1 md_low md_many md_ties md_winnerCost md_allMany md_allTies md_faults md_numbers r.2)) args s 0 0 A) (F0 m 77 ls []) := by
  obtain ⟨hx, hb, hr, hts, hown, hml, hlocks, hK, hN, hA, hX⟩ := id C
  obtain ⟨hP, hD, hS⟩ := hZ
  unfold m_SpeciesSolverModel_choose_77 at hm
  refine lv_iinc (v := (x1 + 1)) (lv' := [(1, .int (x1 + 1)), (0, .ref (ad 0))]) hx hb d_SpeciesSolverModel_choose_77 hl (k := 1) rfl rfl (by decide) rfl (fun ls hl => ?_)
  refine lv_goto (tgt := 12) hx hb d_SpeciesSolverModel_choose_80 (by decide) ?_
  exact hk12 md_chosen md_pitches (x1 + 1) _ _ _ hm ⟨hP, hD, hS⟩ (lv_sub hl [1, 0] rfl)
def m_SpeciesSolverModel_choose_67 (F : Nat) (md_numbers : Nat → Int32) (k12 : Int32 → (Nat → Int32) → Int32 → Option (Int32 × (Nat → Int32))) (md_chosen : Int32) (md_pitches : Nat → Int32) (x1 : Int32) : Option (Int32 × (Nat → Int32)) :=
  m_SpeciesSolverModel_choose_77 F md_numbers k12 (md_chosen + (1 : Int32)) md_pitches x1
set_option maxHeartbeats 4000000 in
set_option maxRecDepth 100000 in
theorem l_SpeciesSolverModel_choose_67 {r : Int32 × (Nat → Int32)} {F : Nat} {ad : Nat → Nat} {md_thrown : Int32} {md_drafted : Int32} {md_lines : Int32} {md_n : Int32} {md_species : Int32} {md_above : Int32} {md_trialSize : Int32} {md_foundSize : Int32} {md_foundSpecies : Int32} {md_foundN : Int32} {md_foundCost : Int32} {md_chosen : Int32} {md_low : Int32} {md_many : Int64} {md_ties : Int64} {md_winnerCost : Int32} {md_allMany : Int64} {md_allTies : Int64} {md_faults : Int32} {md_numbers : Nat → Int32} {md_pitches : Nat → Int32} {k12 : Int32 → (Nat → Int32) → Int32 → Option (Int32 × (Nat → Int32))} {x1 : Int32} {H : Heap} {locs : List Loc} {ls : Array Slot} (C : Cx p s m meth c args A D kc R_SpeciesSolverModel b_SpeciesSolverModel_choose 2 none) (hk12 : (∀ (md_chosen : Int32) (md_pitches : Nat → Int32) (x1 : Int32) (H : Heap) (locs : List Loc) (ls : Array Slot), k12 md_chosen md_pitches x1 = some r → St D A s (wd_SpeciesSolverModel_choose kc ad md_thrown md_drafted md_lines md_n md_species md_above md_trialSize md_foundSize md_foundSpecies md_foundN md_foundCost md_chosen md_low md_many md_ties md_winnerCost md_allMany md_allTies md_faults md_numbers md_pitches) H locs → lv_has ls 2 [(0, .ref (ad 0)), (1, .int x1)] → W p l e rm_SpeciesSolverModel_choose s m args below meth c H locs 0 0 (MQ below (Qv D A (wd_SpeciesSolverModel_choose kc ad md_thrown md_drafted md_lines md_n md_species md_above md_trialSize md_foundSize md_foundSpecies md_foundN md_foundCost r.1 md_low md_many md_ties md_winnerCost md_allMany md_allTies md_faults md_numbers r.2)) args s 0 0 A) (F0 m 12 ls []))) (hm : m_SpeciesSolverModel_choose_67 F md_numbers k12 md_chosen md_pitches x1 = some r) (hZ : St D A s (wd_SpeciesSolverModel_choose kc ad md_thrown md_drafted md_lines md_n md_species md_above md_trialSize md_foundSize md_foundSpecies md_foundN md_foundCost md_chosen md_low md_many md_ties md_winnerCost md_allMany md_allTies md_faults md_numbers md_pitches) H locs) (hl : lv_has ls 2 [(0, .ref (ad 0)), (1, .int x1)]) : W p l e rm_SpeciesSolverModel_choose s m args below meth c H locs 0 0 (MQ below (Qv D A (wd_SpeciesSolverModel_choose kc ad md_thrown md_drafted md_lines md_n md_species md_above md_trialSize md_foundSize md_foundSpecies md_foundN md_foundCost r.1 md_low md_many md_ties md_winnerCost md_allMany md_allTies md_faults md_numbers r.2)) args s 0 0 A) (F0 m 67 ls []) := by
  obtain ⟨hx, hb, hr, hts, hown, hml, hlocks, hK, hN, hA, hX⟩ := id C
  obtain ⟨hP, hD, hS⟩ := hZ
  unfold m_SpeciesSolverModel_choose_67 at hm
  refine lv_aload_n hx hb d_SpeciesSolverModel_choose_67 rfl (lv_at hl 0 rfl) ?_
  refine lv_dup hx hb d_SpeciesSolverModel_choose_68 rfl ?_
  refine va_get (D := D) (ci := 1) (v := .int md_chosen) (C := R_SpeciesSolverModel) (T := T_SpeciesSolverModel) (N := 35) hx hb hts inG_SpeciesSolverModel hown hK hP 0 rfl rfl 18 (by decide) (hts _ gw_836) (fun _ h9 => h9) rfl d_SpeciesSolverModel_choose_69 ?_
  refine lv_iconst (v := 1) hx hb d_SpeciesSolverModel_choose_72 (by decide) ?_
  refine lv_iadd hx hb d_SpeciesSolverModel_choose_73 ?_
  refine va_put (D := D) (ci := 1) (v := .int (md_chosen + (1 : Int32))) (ty := .int) (C := R_SpeciesSolverModel) (T := T_SpeciesSolverModel) (N := 35) hx hb hts inG_SpeciesSolverModel ty_SpeciesSolverModel tok_SpeciesSolverModel nmo_SpeciesSolverModel hown hK hP hD hS 0 rfl rfl 18 (by decide) (hts _ gw_836) (fun _ h9 => h9) rfl (tok_SpeciesSolverModel 18 (by decide)) rfl rfl (Nat.le_of_ble_eq_true rfl) d_SpeciesSolverModel_choose_74 (fun H locs hP hD hS => ?_)
  replace hP : va_P D vwCl (wd_SpeciesSolverModel_choose kc ad md_thrown md_drafted md_lines md_n md_species md_above md_trialSize md_foundSize md_foundSpecies md_foundN md_foundCost (md_chosen + (1 : Int32)) md_low md_many md_ties md_winnerCost md_allMany md_allTies md_faults md_numbers md_pitches) H := hP
  replace hD : va_D A (wd_SpeciesSolverModel_choose kc ad md_thrown md_drafted md_lines md_n md_species md_above md_trialSize md_foundSize md_foundSpecies md_foundN md_foundCost (md_chosen + (1 : Int32)) md_low md_many md_ties md_winnerCost md_allMany md_allTies md_faults md_numbers md_pitches) := hD
  exact l_SpeciesSolverModel_choose_77 C hk12 hm ⟨hP, hD, hS⟩ (lv_sub hl [0, 1] rfl)
def m_SpeciesSolverModel_choose_12b (F : Nat) (md_numbers : Nat → Int32) (k12 : Int32 → (Nat → Int32) → Int32 → Option (Int32 × (Nat → Int32))) (md_chosen : Int32) (md_pitches : Nat → Int32) (x1 : Int32) : Option (Int32 × (Nat → Int32)) :=
  (if (md_numbers (Int32.toNatClampNeg (2 : Int32))) < x1 then
    (some (md_chosen, md_pitches))
  else
    (if (9 : Int32) ≤ md_chosen then
      (some (md_chosen, md_pitches))
    else
      (if (((md_numbers (Int32.toNatClampNeg (0 : Int32))) >>> ((x1 - x1 / (12 : Int32) * (12 : Int32)) &&& 31)) &&& (1 : Int32)) = (1 : Int32) then
        (if (8 : Int32) ≤ md_chosen then
          m_SpeciesSolverModel_choose_67 F md_numbers k12 md_chosen md_pitches x1
        else
          (gd md_chosen 8 (m_SpeciesSolverModel_choose_67 F md_numbers k12 md_chosen (upd md_pitches (Int32.toNatClampNeg md_chosen) x1) x1)))
      else
        m_SpeciesSolverModel_choose_77 F md_numbers k12 md_chosen md_pitches x1)))
set_option maxHeartbeats 4000000 in
set_option maxRecDepth 100000 in
theorem l_SpeciesSolverModel_choose_12 {r : Int32 × (Nat → Int32)} {F : Nat} {ad : Nat → Nat} {md_thrown : Int32} {md_drafted : Int32} {md_lines : Int32} {md_n : Int32} {md_species : Int32} {md_above : Int32} {md_trialSize : Int32} {md_foundSize : Int32} {md_foundSpecies : Int32} {md_foundN : Int32} {md_foundCost : Int32} {md_chosen : Int32} {md_low : Int32} {md_many : Int64} {md_ties : Int64} {md_winnerCost : Int32} {md_allMany : Int64} {md_allTies : Int64} {md_faults : Int32} {md_numbers : Nat → Int32} {md_pitches : Nat → Int32} {k12 : Int32 → (Nat → Int32) → Int32 → Option (Int32 × (Nat → Int32))} {x1 : Int32} {H : Heap} {locs : List Loc} {ls : Array Slot} (C : Cx p s m meth c args A D kc R_SpeciesSolverModel b_SpeciesSolverModel_choose 2 none) (hk12 : (∀ (md_chosen : Int32) (md_pitches : Nat → Int32) (x1 : Int32) (H : Heap) (locs : List Loc) (ls : Array Slot), k12 md_chosen md_pitches x1 = some r → St D A s (wd_SpeciesSolverModel_choose kc ad md_thrown md_drafted md_lines md_n md_species md_above md_trialSize md_foundSize md_foundSpecies md_foundN md_foundCost md_chosen md_low md_many md_ties md_winnerCost md_allMany md_allTies md_faults md_numbers md_pitches) H locs → lv_has ls 2 [(0, .ref (ad 0)), (1, .int x1)] → W p l e rm_SpeciesSolverModel_choose s m args below meth c H locs 0 0 (MQ below (Qv D A (wd_SpeciesSolverModel_choose kc ad md_thrown md_drafted md_lines md_n md_species md_above md_trialSize md_foundSize md_foundSpecies md_foundN md_foundCost r.1 md_low md_many md_ties md_winnerCost md_allMany md_allTies md_faults md_numbers r.2)) args s 0 0 A) (F0 m 12 ls []))) (hm : m_SpeciesSolverModel_choose_12b F md_numbers k12 md_chosen md_pitches x1 = some r) (hZ : St D A s (wd_SpeciesSolverModel_choose kc ad md_thrown md_drafted md_lines md_n md_species md_above md_trialSize md_foundSize md_foundSpecies md_foundN md_foundCost md_chosen md_low md_many md_ties md_winnerCost md_allMany md_allTies md_faults md_numbers md_pitches) H locs) (hl : lv_has ls 2 [(0, .ref (ad 0)), (1, .int x1)]) : W p l e rm_SpeciesSolverModel_choose s m args below meth c H locs 0 0 (MQ below (Qv D A (wd_SpeciesSolverModel_choose kc ad md_thrown md_drafted md_lines md_n md_species md_above md_trialSize md_foundSize md_foundSpecies md_foundN md_foundCost r.1 md_low md_many md_ties md_winnerCost md_allMany md_allTies md_faults md_numbers r.2)) args s 0 0 A) (F0 m 12 ls []) := by
  obtain ⟨hx, hb, hr, hts, hown, hml, hlocks, hK, hN, hA, hX⟩ := id C
  obtain ⟨hP, hD, hS⟩ := hZ
  unfold m_SpeciesSolverModel_choose_12b at hm
  refine lv_iload_n hx hb d_SpeciesSolverModel_choose_12 rfl (lv_at hl 1 rfl) ?_
  refine lv_aload_n hx hb d_SpeciesSolverModel_choose_13 rfl (lv_at hl 0 rfl) ?_
  refine va_get (D := D) (ci := 1) (v := .ref (ad 4)) (C := R_SpeciesSolverModel) (T := T_SpeciesSolverModel) (N := 35) hx hb hts inG_SpeciesSolverModel hown hK hP 0 rfl rfl 9 (by decide) (hts _ gw_827) (fun _ h9 => h9) rfl d_SpeciesSolverModel_choose_14 ?_
  refine lv_iconst (v := 2) hx hb d_SpeciesSolverModel_choose_17 (by decide) ?_
  refine va_iald hx hb hK hP 1 0 rfl rfl (in_lit (by decide)) d_SpeciesSolverModel_choose_18 ?_
  refine lv_icmp_gt (tgt := 83) hx hb d_SpeciesSolverModel_choose_19 (by decide) (fun c1 => ?_) (fun c1 => ?_)
  · replace hm := ifT hm c1
    replace hm := Option.some.inj hm; subst hm
    exact zret_v C hP hD hS d_SpeciesSolverModel_choose_83
  · replace hm := ifF hm c1
    refine lv_aload_n hx hb d_SpeciesSolverModel_choose_22 rfl (lv_at hl 0 rfl) ?_
    refine va_get (D := D) (ci := 1) (v := .int md_chosen) (C := R_SpeciesSolverModel) (T := T_SpeciesSolverModel) (N := 35) hx hb hts inG_SpeciesSolverModel hown hK hP 0 rfl rfl 18 (by decide) (hts _ gw_836) (fun _ h9 => h9) rfl d_SpeciesSolverModel_choose_23 ?_
    refine lv_bipush (v := 9) hx hb d_SpeciesSolverModel_choose_26 (by decide) ?_
    refine lv_icmp_ge (tgt := 83) hx hb d_SpeciesSolverModel_choose_28 (by decide) (fun c2 => ?_) (fun c2 => ?_)
    · replace hm := ifT hm c2
      replace hm := Option.some.inj hm; subst hm
      exact zret_v C hP hD hS d_SpeciesSolverModel_choose_83
    · replace hm := ifF hm c2
      refine lv_aload_n hx hb d_SpeciesSolverModel_choose_31 rfl (lv_at hl 0 rfl) ?_
      refine va_get (D := D) (ci := 1) (v := .ref (ad 4)) (C := R_SpeciesSolverModel) (T := T_SpeciesSolverModel) (N := 35) hx hb hts inG_SpeciesSolverModel hown hK hP 0 rfl rfl 9 (by decide) (hts _ gw_827) (fun _ h9 => h9) rfl d_SpeciesSolverModel_choose_32 ?_
      refine lv_iconst (v := 0) hx hb d_SpeciesSolverModel_choose_35 (by decide) ?_
      refine va_iald hx hb hK hP 1 0 rfl rfl (in_lit (by decide)) d_SpeciesSolverModel_choose_36 ?_
      refine lv_iload_n hx hb d_SpeciesSolverModel_choose_37 rfl (lv_at hl 1 rfl) ?_
      refine lv_bipush (v := 12) hx hb d_SpeciesSolverModel_choose_38 (by decide) ?_
      refine lv_irem hx hb d_SpeciesSolverModel_choose_40 (by decide) ?_
      refine lv_ishr hx hb d_SpeciesSolverModel_choose_41 ?_
      refine lv_iconst (v := 1) hx hb d_SpeciesSolverModel_choose_42 (by decide) ?_
      refine lv_iand hx hb d_SpeciesSolverModel_choose_43 ?_
      refine lv_iconst (v := 1) hx hb d_SpeciesSolverModel_choose_44 (by decide) ?_
      refine lv_icmp_ne (tgt := 77) hx hb d_SpeciesSolverModel_choose_45 (by decide) (fun c3 => ?_) (fun c3 => ?_)
      · replace hm := ifF hm c3
        exact l_SpeciesSolverModel_choose_77 C hk12 hm ⟨hP, hD, hS⟩ (lv_sub hl [0, 1] rfl)
      · replace hm := ifT hm c3
        refine lv_aload_n hx hb d_SpeciesSolverModel_choose_48 rfl (lv_at hl 0 rfl) ?_
        refine va_get (D := D) (ci := 1) (v := .int md_chosen) (C := R_SpeciesSolverModel) (T := T_SpeciesSolverModel) (N := 35) hx hb hts inG_SpeciesSolverModel hown hK hP 0 rfl rfl 18 (by decide) (hts _ gw_836) (fun _ h9 => h9) rfl d_SpeciesSolverModel_choose_49 ?_
        refine lv_bipush (v := 8) hx hb d_SpeciesSolverModel_choose_52 (by decide) ?_
        refine lv_icmp_ge (tgt := 67) hx hb d_SpeciesSolverModel_choose_54 (by decide) (fun c4 => ?_) (fun c4 => ?_)
        · replace hm := ifT hm c4
          exact l_SpeciesSolverModel_choose_67 C hk12 hm ⟨hP, hD, hS⟩ (lv_sub hl [0, 1] rfl)
        · replace hm := ifF hm c4
          refine lv_aload_n hx hb d_SpeciesSolverModel_choose_57 rfl (lv_at hl 0 rfl) ?_
          refine va_get (D := D) (ci := 1) (v := .ref (ad 7)) (C := R_SpeciesSolverModel) (T := T_SpeciesSolverModel) (N := 35) hx hb hts inG_SpeciesSolverModel hown hK hP 0 rfl rfl 17 (by decide) (hts _ gw_835) (fun _ h9 => h9) rfl d_SpeciesSolverModel_choose_58 ?_
          refine lv_aload_n hx hb d_SpeciesSolverModel_choose_61 rfl (lv_at hl 0 rfl) ?_
          refine va_get (D := D) (ci := 1) (v := .int md_chosen) (C := R_SpeciesSolverModel) (T := T_SpeciesSolverModel) (N := 35) hx hb hts inG_SpeciesSolverModel hown hK hP 0 rfl rfl 18 (by decide) (hts _ gw_836) (fun _ h9 => h9) rfl d_SpeciesSolverModel_choose_62 ?_
          refine lv_iload_n hx hb d_SpeciesSolverModel_choose_65 rfl (lv_at hl 1 rfl) ?_
          obtain ⟨hi5, hm⟩ := gd_some hm
          refine va_iast hx hb hK hP hD hS 2 0 rfl rfl hi5 d_SpeciesSolverModel_choose_66 (fun H locs hP hD hS => ?_)
          replace hP : va_P D vwCl (wd_SpeciesSolverModel_choose kc ad md_thrown md_drafted md_lines md_n md_species md_above md_trialSize md_foundSize md_foundSpecies md_foundN md_foundCost md_chosen md_low md_many md_ties md_winnerCost md_allMany md_allTies md_faults md_numbers (upd md_pitches (Int32.toNatClampNeg md_chosen) x1)) H := hP
          replace hD : va_D A (wd_SpeciesSolverModel_choose kc ad md_thrown md_drafted md_lines md_n md_species md_above md_trialSize md_foundSize md_foundSpecies md_foundN md_foundCost md_chosen md_low md_many md_ties md_winnerCost md_allMany md_allTies md_faults md_numbers (upd md_pitches (Int32.toNatClampNeg md_chosen) x1)) := hD
          exact l_SpeciesSolverModel_choose_67 C hk12 hm ⟨hP, hD, hS⟩ (lv_sub hl [0, 1] rfl)
def m_SpeciesSolverModel_choose_12 (F : Nat) (md_numbers : Nat → Int32)  : Nat → Int32 → (Nat → Int32) → Int32 → Option (Int32 × (Nat → Int32))
  | 0 => fun _ _ _ => none
  | n + 1 => m_SpeciesSolverModel_choose_12b F md_numbers  (m_SpeciesSolverModel_choose_12 F md_numbers  n)
set_option maxHeartbeats 4000000 in
set_option maxRecDepth 100000 in
theorem lp_SpeciesSolverModel_choose_12 {r : Int32 × (Nat → Int32)} {F : Nat} {ad : Nat → Nat} {md_thrown : Int32} {md_drafted : Int32} {md_lines : Int32} {md_n : Int32} {md_species : Int32} {md_above : Int32} {md_trialSize : Int32} {md_foundSize : Int32} {md_foundSpecies : Int32} {md_foundN : Int32} {md_foundCost : Int32} {md_low : Int32} {md_many : Int64} {md_ties : Int64} {md_winnerCost : Int32} {md_allMany : Int64} {md_allTies : Int64} {md_faults : Int32} {md_numbers : Nat → Int32}  (C : Cx p s m meth c args A D kc R_SpeciesSolverModel b_SpeciesSolverModel_choose 2 none)  : ∀ (n : Nat) (md_chosen : Int32) (md_pitches : Nat → Int32) (x1 : Int32) (H : Heap) (locs : List Loc) (ls : Array Slot), m_SpeciesSolverModel_choose_12 F md_numbers  n md_chosen md_pitches x1 = some r → St D A s (wd_SpeciesSolverModel_choose kc ad md_thrown md_drafted md_lines md_n md_species md_above md_trialSize md_foundSize md_foundSpecies md_foundN md_foundCost md_chosen md_low md_many md_ties md_winnerCost md_allMany md_allTies md_faults md_numbers md_pitches) H locs → lv_has ls 2 [(0, .ref (ad 0)), (1, .int x1)] → W p l e rm_SpeciesSolverModel_choose s m args below meth c H locs 0 0 (MQ below (Qv D A (wd_SpeciesSolverModel_choose kc ad md_thrown md_drafted md_lines md_n md_species md_above md_trialSize md_foundSize md_foundSpecies md_foundN md_foundCost r.1 md_low md_many md_ties md_winnerCost md_allMany md_allTies md_faults md_numbers r.2)) args s 0 0 A) (F0 m 12 ls []) := by
  intro n
  induction n with
  | zero => intro md_chosen md_pitches x1 H locs ls hm; cases hm
  | succ n ih => intro md_chosen md_pitches x1 H locs ls hm hZ hl; exact l_SpeciesSolverModel_choose_12 C  ih hm hZ hl
def m_SpeciesSolverModel_choose (F : Nat) (md_numbers : Nat → Int32) (md_chosen : Int32) (md_pitches : Nat → Int32)  : Option (Int32 × (Nat → Int32)) :=
  m_SpeciesSolverModel_choose_12 F md_numbers  F (0 : Int32) md_pitches (md_numbers (Int32.toNatClampNeg (1 : Int32)))
set_option maxHeartbeats 4000000 in
set_option maxRecDepth 100000 in
theorem e_SpeciesSolverModel_choose {r : Int32 × (Nat → Int32)} {F : Nat} {ad : Nat → Nat} {md_thrown : Int32} {md_drafted : Int32} {md_lines : Int32} {md_n : Int32} {md_species : Int32} {md_above : Int32} {md_trialSize : Int32} {md_foundSize : Int32} {md_foundSpecies : Int32} {md_foundN : Int32} {md_foundCost : Int32} {md_chosen : Int32} {md_low : Int32} {md_many : Int64} {md_ties : Int64} {md_winnerCost : Int32} {md_allMany : Int64} {md_allTies : Int64} {md_faults : Int32} {md_numbers : Nat → Int32} {md_pitches : Nat → Int32}  {H : Heap} {locs : List Loc} {ls : Array Slot} (C : Cx p s m meth c args A D kc R_SpeciesSolverModel b_SpeciesSolverModel_choose 2 none) (hm : m_SpeciesSolverModel_choose F md_numbers md_chosen md_pitches = some r) (hZ : St D A s (wd_SpeciesSolverModel_choose kc ad md_thrown md_drafted md_lines md_n md_species md_above md_trialSize md_foundSize md_foundSpecies md_foundN md_foundCost md_chosen md_low md_many md_ties md_winnerCost md_allMany md_allTies md_faults md_numbers md_pitches) H locs) (hl : lv_has ls 2 [(0, .ref (ad 0))]) : W p l e rm_SpeciesSolverModel_choose s m args below meth c H locs 0 0 (MQ below (Qv D A (wd_SpeciesSolverModel_choose kc ad md_thrown md_drafted md_lines md_n md_species md_above md_trialSize md_foundSize md_foundSpecies md_foundN md_foundCost r.1 md_low md_many md_ties md_winnerCost md_allMany md_allTies md_faults md_numbers r.2)) args s 0 0 A) (F0 m 0 ls []) := by
  obtain ⟨hx, hb, hr, hts, hown, hml, hlocks, hK, hN, hA, hX⟩ := id C
  obtain ⟨hP, hD, hS⟩ := hZ
  unfold m_SpeciesSolverModel_choose at hm
  refine lv_aload_n hx hb d_SpeciesSolverModel_choose_0 rfl (lv_at hl 0 rfl) ?_
  refine lv_iconst (v := 0) hx hb d_SpeciesSolverModel_choose_1 (by decide) ?_
  refine va_put (D := D) (ci := 1) (v := .int (0 : Int32)) (ty := .int) (C := R_SpeciesSolverModel) (T := T_SpeciesSolverModel) (N := 35) hx hb hts inG_SpeciesSolverModel ty_SpeciesSolverModel tok_SpeciesSolverModel nmo_SpeciesSolverModel hown hK hP hD hS 0 rfl rfl 18 (by decide) (hts _ gw_836) (fun _ h9 => h9) rfl (tok_SpeciesSolverModel 18 (by decide)) rfl rfl (Nat.le_of_ble_eq_true rfl) d_SpeciesSolverModel_choose_2 (fun H locs hP hD hS => ?_)
  replace hP : va_P D vwCl (wd_SpeciesSolverModel_choose kc ad md_thrown md_drafted md_lines md_n md_species md_above md_trialSize md_foundSize md_foundSpecies md_foundN md_foundCost (0 : Int32) md_low md_many md_ties md_winnerCost md_allMany md_allTies md_faults md_numbers md_pitches) H := hP
  replace hD : va_D A (wd_SpeciesSolverModel_choose kc ad md_thrown md_drafted md_lines md_n md_species md_above md_trialSize md_foundSize md_foundSpecies md_foundN md_foundCost (0 : Int32) md_low md_many md_ties md_winnerCost md_allMany md_allTies md_faults md_numbers md_pitches) := hD
  refine lv_aload_n hx hb d_SpeciesSolverModel_choose_5 rfl (lv_at hl 0 rfl) ?_
  refine va_get (D := D) (ci := 1) (v := .ref (ad 4)) (C := R_SpeciesSolverModel) (T := T_SpeciesSolverModel) (N := 35) hx hb hts inG_SpeciesSolverModel hown hK hP 0 rfl rfl 9 (by decide) (hts _ gw_827) (fun _ h9 => h9) rfl d_SpeciesSolverModel_choose_6 ?_
  refine lv_iconst (v := 1) hx hb d_SpeciesSolverModel_choose_9 (by decide) ?_
  refine va_iald hx hb hK hP 1 0 rfl rfl (in_lit (by decide)) d_SpeciesSolverModel_choose_10 ?_
  refine lv_istore_n (lv' := [(1, .int (md_numbers (Int32.toNatClampNeg (1 : Int32)))), (0, .ref (ad 0))]) hx hb d_SpeciesSolverModel_choose_11 rfl hl (by decide) rfl (fun ls hl => ?_)
  exact lp_SpeciesSolverModel_choose_12 C  F (0 : Int32) md_pitches (md_numbers (Int32.toNatClampNeg (1 : Int32))) _ _ _ hm ⟨hP, hD, hS⟩ (lv_sub hl [1, 0] rfl)
set_option maxHeartbeats 4000000 in
set_option maxRecDepth 100000 in
theorem c_SpeciesSolverModel_choose {l : Launch} {D : va_G} {kc : Nat → ClassId} {r : Int32 × (Nat → Int32)} {F : Nat} {ad : Nat → Nat} {md_thrown : Int32} {md_drafted : Int32} {md_lines : Int32} {md_n : Int32} {md_species : Int32} {md_above : Int32} {md_trialSize : Int32} {md_foundSize : Int32} {md_foundSpecies : Int32} {md_foundN : Int32} {md_foundCost : Int32} {md_chosen : Int32} {md_low : Int32} {md_many : Int64} {md_ties : Int64} {md_winnerCost : Int32} {md_allMany : Int64} {md_allTies : Int64} {md_faults : Int32} {md_numbers : Nat → Int32} {md_pitches : Nat → Int32}  (hm : m_SpeciesSolverModel_choose F md_numbers md_chosen md_pitches = some r) (sz : Nat) : Cv l y_SpeciesSolverModel_choose ws_SpeciesSolverModel_choose rm_SpeciesSolverModel_choose D kc sz [.ref (ad 0)] (wd_SpeciesSolverModel_choose kc ad md_thrown md_drafted md_lines md_n md_species md_above md_trialSize md_foundSize md_foundSpecies md_foundN md_foundCost md_chosen md_low md_many md_ties md_winnerCost md_allMany md_allTies md_faults md_numbers md_pitches) (wd_SpeciesSolverModel_choose kc ad md_thrown md_drafted md_lines md_n md_species md_above md_trialSize md_foundSize md_foundSpecies md_foundN md_foundCost r.1 md_low md_many md_ties md_winnerCost md_allMany md_allTies md_faults md_numbers r.2) :=
  Cz_of (Qf := fun A => (Qv D A (wd_SpeciesSolverModel_choose kc ad md_thrown md_drafted md_lines md_n md_species md_above md_trialSize md_foundSize md_foundSpecies md_foundN md_foundCost r.1 md_low md_many md_ties md_winnerCost md_allMany md_allTies md_faults md_numbers r.2))) (cc := b_SpeciesSolverModel_choose) (maxL := 2) (ret := none) (by decide) rfl rfl (fun C hZ hl => e_SpeciesSolverModel_choose C hm hZ hl)
abbrev b_SpeciesSolverModel_choice : ByteArray := prog_9_method_14_code
abbrev y_SpeciesSolverModel_choice : MethodName := ⟨"SpeciesSolverModel", "choice", "()I"⟩
theorem d_SpeciesSolverModel_choice_0 : decode b_SpeciesSolverModel_choice 0 = .ok (.aload_n 0, 1) := by decide +kernel
theorem d_SpeciesSolverModel_choice_1 : decode b_SpeciesSolverModel_choice 1 = .ok (.invokevirtual 98, 3) := by decide +kernel
theorem d_SpeciesSolverModel_choice_4 : decode b_SpeciesSolverModel_choice 4 = .ok (.aload_n 0, 1) := by decide +kernel
theorem d_SpeciesSolverModel_choice_5 : decode b_SpeciesSolverModel_choice 5 = .ok (.getfield 95, 3) := by decide +kernel
theorem d_SpeciesSolverModel_choice_8 : decode b_SpeciesSolverModel_choice 8 = .ok (.bipush 8, 2) := by decide +kernel
theorem d_SpeciesSolverModel_choice_10 : decode b_SpeciesSolverModel_choice 10 = .ok (.if_icmp .le 7, 3) := by decide +kernel
theorem d_SpeciesSolverModel_choice_13 : decode b_SpeciesSolverModel_choice 13 = .ok (.iconst (-1), 1) := by decide +kernel
theorem d_SpeciesSolverModel_choice_14 : decode b_SpeciesSolverModel_choice 14 = .ok (.goto 7, 3) := by decide +kernel
theorem d_SpeciesSolverModel_choice_17 : decode b_SpeciesSolverModel_choice 17 = .ok (.aload_n 0, 1) := by decide +kernel
theorem d_SpeciesSolverModel_choice_18 : decode b_SpeciesSolverModel_choice 18 = .ok (.getfield 95, 3) := by decide +kernel
theorem d_SpeciesSolverModel_choice_21 : decode b_SpeciesSolverModel_choice 21 = .ok (.ireturn, 1) := by decide +kernel
abbrev wd_SpeciesSolverModel_choice (kc : Nat → ClassId) (ad : Nat → Nat) (md_thrown : Int32) (md_drafted : Int32) (md_lines : Int32) (md_n : Int32) (md_species : Int32) (md_above : Int32) (md_trialSize : Int32) (md_foundSize : Int32) (md_foundSpecies : Int32) (md_foundN : Int32) (md_foundCost : Int32) (md_chosen : Int32) (md_low : Int32) (md_many : Int64) (md_ties : Int64) (md_winnerCost : Int32) (md_allMany : Int64) (md_allTies : Int64) (md_faults : Int32) (md_numbers : Nat → Int32) (md_pitches : Nat → Int32) : va_W := [((ad 0), .inr (1, [.int md_thrown, .ref (ad 1), .int md_drafted, .ref (ad 2), .int md_lines, .int md_n, .int md_species, .int md_above, .ref (ad 3), .ref (ad 4), .ref (ad 5), .int md_trialSize, .ref (ad 6), .int md_foundSize, .int md_foundSpecies, .int md_foundN, .int md_foundCost, .ref (ad 7), .int md_chosen, .ref (ad 8), .ref (ad 9), .ref (ad 10), .int md_low, .long md_many, .long md_ties, .ref (ad 11), .ref (ad 12), .int md_winnerCost, .long md_allMany, .long md_allTies, .ref (ad 13), .ref (ad 14), .ref (ad 15), .ref (ad 16), .int md_faults])), ((ad 4), .inl (kc 0, 18, .inl md_numbers)), ((ad 7), .inl (kc 0, 8, .inl md_pitches))]
abbrev rm_SpeciesSolverModel_choice : Room := { frames := 1, cells := 0, slots := 0, locals := 21 }
abbrev cw_SpeciesSolverModel_choice : Cond := .code y_SpeciesSolverModel_choice b_SpeciesSolverModel_choice 1 (some .int)
abbrev ws_SpeciesSolverModel_choice : List Cond := cw_SpeciesSolverModel_choice :: GW
theorem hd_SpeciesSolverModel_choice : y_SpeciesSolverModel_choice.cls ≠ "java/lang/invoke/MethodHandle" ∧ y_SpeciesSolverModel_choice.cls ≠ "java/lang/invoke/VarHandle" ∧ (parseMethodDescriptor y_SpeciesSolverModel_choice.desc).map (fun d => d.parameters.length) = some 0 := by decide +kernel
def m_SpeciesSolverModel_choice (F : Nat) (md_numbers : Nat → Int32) (md_chosen : Int32) (md_pitches : Nat → Int32)  : Option (Int32 × Int32 × (Nat → Int32)) :=
  (bd (m_SpeciesSolverModel_choose F md_numbers md_chosen md_pitches) (fun u1 => (if u1.1 ≤ (8 : Int32) then
    (some (u1.1, u1.1, u1.2))
  else
    (some ((-1 : Int32), u1.1, u1.2)))))
set_option maxHeartbeats 4000000 in
set_option maxRecDepth 100000 in
theorem e_SpeciesSolverModel_choice {r : Int32 × Int32 × (Nat → Int32)} {F : Nat} {ad : Nat → Nat} {md_thrown : Int32} {md_drafted : Int32} {md_lines : Int32} {md_n : Int32} {md_species : Int32} {md_above : Int32} {md_trialSize : Int32} {md_foundSize : Int32} {md_foundSpecies : Int32} {md_foundN : Int32} {md_foundCost : Int32} {md_chosen : Int32} {md_low : Int32} {md_many : Int64} {md_ties : Int64} {md_winnerCost : Int32} {md_allMany : Int64} {md_allTies : Int64} {md_faults : Int32} {md_numbers : Nat → Int32} {md_pitches : Nat → Int32}  {H : Heap} {locs : List Loc} {ls : Array Slot} (C : Cx p s m meth c args A D kc R_SpeciesSolverModel b_SpeciesSolverModel_choice 1 (some .int)) (hm : m_SpeciesSolverModel_choice F md_numbers md_chosen md_pitches = some r) (hZ : St D A s (wd_SpeciesSolverModel_choice kc ad md_thrown md_drafted md_lines md_n md_species md_above md_trialSize md_foundSize md_foundSpecies md_foundN md_foundCost md_chosen md_low md_many md_ties md_winnerCost md_allMany md_allTies md_faults md_numbers md_pitches) H locs) (hl : lv_has ls 1 [(0, .ref (ad 0))]) : W p l e rm_SpeciesSolverModel_choice s m args below meth c H locs 0 0 (MQ below (Qi D A (wd_SpeciesSolverModel_choice kc ad md_thrown md_drafted md_lines md_n md_species md_above md_trialSize md_foundSize md_foundSpecies md_foundN md_foundCost r.2.1 md_low md_many md_ties md_winnerCost md_allMany md_allTies md_faults md_numbers r.2.2) r.1) args s 0 0 A) (F0 m 0 ls []) := by
  obtain ⟨hx, hb, hr, hts, hown, hml, hlocks, hK, hN, hA, hX⟩ := id C
  obtain ⟨hP, hD, hS⟩ := hZ
  unfold m_SpeciesSolverModel_choice at hm
  refine lv_aload_n hx hb d_SpeciesSolverModel_choice_0 rfl (lv_at hl 0 rfl) ?_
  obtain ⟨u1, hc2, hm⟩ := bd_some hm
  refine zV_v (n := 0) (wr := []) (w1 := (wd_SpeciesSolverModel_choose kc ad md_thrown md_drafted md_lines md_n md_species md_above md_trialSize md_foundSize md_foundSpecies md_foundN md_foundCost u1.1 md_low md_many md_ties md_winnerCost md_allMany md_allTies md_faults md_numbers u1.2)) (ws1 := (wd_SpeciesSolverModel_choice kc ad md_thrown md_drafted md_lines md_n md_species md_above md_trialSize md_foundSize md_foundSpecies md_foundN md_foundCost u1.1 md_low md_many md_ties md_winnerCost md_allMany md_allTies md_faults md_numbers u1.2)) (As := []) (rest := []) (ci := 1) (q0 := 0) (y := y_SpeciesSolverModel_choose) ⟨hx, hb, hml, hown, hts⟩ (fun sz => c_SpeciesSolverModel_choose hc2 sz) gw_970 gw_967 gw_969 gw_74 gw_118 hd_SpeciesSolverModel_choose ⟨Nat.le_of_ble_eq_true rfl, Nat.le_of_ble_eq_true rfl⟩ ⟨rfl, rfl⟩ ⟨Nat.zero_le _, Nat.zero_le _⟩ hK hN hP hD hS hA hX [0, 1, 2] [] [0, 1, 2] rfl rfl (by decide) (by decide) (by decide) rfl (by decide) rfl rfl rfl hl.1 rfl (Nat.le_of_ble_eq_true rfl) d_SpeciesSolverModel_choice_1 (fun H locs hP hD hS => ?_)
  refine lv_aload_n hx hb d_SpeciesSolverModel_choice_4 rfl (lv_at hl 0 rfl) ?_
  refine va_get (D := D) (ci := 1) (v := .int u1.1) (C := R_SpeciesSolverModel) (T := T_SpeciesSolverModel) (N := 35) hx hb hts inG_SpeciesSolverModel hown hK hP 0 rfl rfl 18 (by decide) (hts _ gw_836) (fun _ h9 => h9) rfl d_SpeciesSolverModel_choice_5 ?_
  refine lv_bipush (v := 8) hx hb d_SpeciesSolverModel_choice_8 (by decide) ?_
  refine lv_icmp_le (tgt := 17) hx hb d_SpeciesSolverModel_choice_10 (by decide) (fun c3 => ?_) (fun c3 => ?_)
  · replace hm := ifT hm c3
    refine lv_aload_n hx hb d_SpeciesSolverModel_choice_17 rfl (lv_at hl 0 rfl) ?_
    refine va_get (D := D) (ci := 1) (v := .int u1.1) (C := R_SpeciesSolverModel) (T := T_SpeciesSolverModel) (N := 35) hx hb hts inG_SpeciesSolverModel hown hK hP 0 rfl rfl 18 (by decide) (hts _ gw_836) (fun _ h9 => h9) rfl d_SpeciesSolverModel_choice_18 ?_
    replace hm := Option.some.inj hm; subst hm
    exact zret_i C hP hD hS d_SpeciesSolverModel_choice_21
  · replace hm := ifF hm c3
    refine lv_iconst (v := -1) hx hb d_SpeciesSolverModel_choice_13 (by decide) ?_
    refine lv_goto (tgt := 21) hx hb d_SpeciesSolverModel_choice_14 (by decide) ?_
    replace hm := Option.some.inj hm; subst hm
    exact zret_i C hP hD hS d_SpeciesSolverModel_choice_21
set_option maxHeartbeats 4000000 in
set_option maxRecDepth 100000 in
theorem c_SpeciesSolverModel_choice {l : Launch} {D : va_G} {kc : Nat → ClassId} {r : Int32 × Int32 × (Nat → Int32)} {F : Nat} {ad : Nat → Nat} {md_thrown : Int32} {md_drafted : Int32} {md_lines : Int32} {md_n : Int32} {md_species : Int32} {md_above : Int32} {md_trialSize : Int32} {md_foundSize : Int32} {md_foundSpecies : Int32} {md_foundN : Int32} {md_foundCost : Int32} {md_chosen : Int32} {md_low : Int32} {md_many : Int64} {md_ties : Int64} {md_winnerCost : Int32} {md_allMany : Int64} {md_allTies : Int64} {md_faults : Int32} {md_numbers : Nat → Int32} {md_pitches : Nat → Int32}  (hm : m_SpeciesSolverModel_choice F md_numbers md_chosen md_pitches = some r) (sz : Nat) : Ci l y_SpeciesSolverModel_choice ws_SpeciesSolverModel_choice rm_SpeciesSolverModel_choice D kc sz [.ref (ad 0)] (wd_SpeciesSolverModel_choice kc ad md_thrown md_drafted md_lines md_n md_species md_above md_trialSize md_foundSize md_foundSpecies md_foundN md_foundCost md_chosen md_low md_many md_ties md_winnerCost md_allMany md_allTies md_faults md_numbers md_pitches) (wd_SpeciesSolverModel_choice kc ad md_thrown md_drafted md_lines md_n md_species md_above md_trialSize md_foundSize md_foundSpecies md_foundN md_foundCost r.2.1 md_low md_many md_ties md_winnerCost md_allMany md_allTies md_faults md_numbers r.2.2) r.1 :=
  Cz_of (Qf := fun A => (Qi D A (wd_SpeciesSolverModel_choice kc ad md_thrown md_drafted md_lines md_n md_species md_above md_trialSize md_foundSize md_foundSpecies md_foundN md_foundCost r.2.1 md_low md_many md_ties md_winnerCost md_allMany md_allTies md_faults md_numbers r.2.2) r.1)) (cc := b_SpeciesSolverModel_choice) (maxL := 1) (ret := (some .int)) (by decide) rfl rfl (fun C hZ hl => e_SpeciesSolverModel_choice C hm hZ hl)
abbrev b_SpeciesSolverModel_size : ByteArray := prog_9_method_15_code
abbrev y_SpeciesSolverModel_size : MethodName := ⟨"SpeciesSolverModel", "size", "()I"⟩
theorem d_SpeciesSolverModel_size_0 : decode b_SpeciesSolverModel_size 0 = .ok (.aload_n 0, 1) := by decide +kernel
theorem d_SpeciesSolverModel_size_1 : decode b_SpeciesSolverModel_size 1 = .ok (.getfield 16, 3) := by decide +kernel
theorem d_SpeciesSolverModel_size_4 : decode b_SpeciesSolverModel_size 4 = .ok (.aload_n 0, 1) := by decide +kernel
theorem d_SpeciesSolverModel_size_5 : decode b_SpeciesSolverModel_size 5 = .ok (.getfield 81, 3) := by decide +kernel
theorem d_SpeciesSolverModel_size_8 : decode b_SpeciesSolverModel_size 8 = .ok (.iconst 1, 1) := by decide +kernel
theorem d_SpeciesSolverModel_size_9 : decode b_SpeciesSolverModel_size 9 = .ok (.isub, 1) := by decide +kernel
theorem d_SpeciesSolverModel_size_10 : decode b_SpeciesSolverModel_size 10 = .ok (.imul, 1) := by decide +kernel
theorem d_SpeciesSolverModel_size_11 : decode b_SpeciesSolverModel_size 11 = .ok (.iconst 1, 1) := by decide +kernel
theorem d_SpeciesSolverModel_size_12 : decode b_SpeciesSolverModel_size 12 = .ok (.iadd, 1) := by decide +kernel
theorem d_SpeciesSolverModel_size_13 : decode b_SpeciesSolverModel_size 13 = .ok (.ireturn, 1) := by decide +kernel
abbrev wd_SpeciesSolverModel_size (kc : Nat → ClassId) (ad : Nat → Nat) (md_thrown : Int32) (md_drafted : Int32) (md_lines : Int32) (md_n : Int32) (md_species : Int32) (md_above : Int32) (md_trialSize : Int32) (md_foundSize : Int32) (md_foundSpecies : Int32) (md_foundN : Int32) (md_foundCost : Int32) (md_chosen : Int32) (md_low : Int32) (md_many : Int64) (md_ties : Int64) (md_winnerCost : Int32) (md_allMany : Int64) (md_allTies : Int64) (md_faults : Int32) : va_W := [((ad 0), .inr (1, [.int md_thrown, .ref (ad 1), .int md_drafted, .ref (ad 2), .int md_lines, .int md_n, .int md_species, .int md_above, .ref (ad 3), .ref (ad 4), .ref (ad 5), .int md_trialSize, .ref (ad 6), .int md_foundSize, .int md_foundSpecies, .int md_foundN, .int md_foundCost, .ref (ad 7), .int md_chosen, .ref (ad 8), .ref (ad 9), .ref (ad 10), .int md_low, .long md_many, .long md_ties, .ref (ad 11), .ref (ad 12), .int md_winnerCost, .long md_allMany, .long md_allTies, .ref (ad 13), .ref (ad 14), .ref (ad 15), .ref (ad 16), .int md_faults]))]
abbrev rm_SpeciesSolverModel_size : Room := { frames := 0, cells := 0, slots := 0, locals := 0 }
abbrev cw_SpeciesSolverModel_size : Cond := .code y_SpeciesSolverModel_size b_SpeciesSolverModel_size 1 (some .int)
abbrev ws_SpeciesSolverModel_size : List Cond := cw_SpeciesSolverModel_size :: GW
theorem hd_SpeciesSolverModel_size : y_SpeciesSolverModel_size.cls ≠ "java/lang/invoke/MethodHandle" ∧ y_SpeciesSolverModel_size.cls ≠ "java/lang/invoke/VarHandle" ∧ (parseMethodDescriptor y_SpeciesSolverModel_size.desc).map (fun d => d.parameters.length) = some 0 := by decide +kernel
def m_SpeciesSolverModel_size (md_n : Int32) (md_species : Int32)   : Option (Int32) :=
  (some ((md_species * (md_n - (1 : Int32))) + (1 : Int32)))
set_option maxHeartbeats 4000000 in
set_option maxRecDepth 100000 in
theorem e_SpeciesSolverModel_size {r : Int32} {ad : Nat → Nat} {md_thrown : Int32} {md_drafted : Int32} {md_lines : Int32} {md_n : Int32} {md_species : Int32} {md_above : Int32} {md_trialSize : Int32} {md_foundSize : Int32} {md_foundSpecies : Int32} {md_foundN : Int32} {md_foundCost : Int32} {md_chosen : Int32} {md_low : Int32} {md_many : Int64} {md_ties : Int64} {md_winnerCost : Int32} {md_allMany : Int64} {md_allTies : Int64} {md_faults : Int32}  {H : Heap} {locs : List Loc} {ls : Array Slot} (C : Cx p s m meth c args A D kc R_SpeciesSolverModel b_SpeciesSolverModel_size 1 (some .int)) (hm : m_SpeciesSolverModel_size md_n md_species  = some r) (hZ : St D A s (wd_SpeciesSolverModel_size kc ad md_thrown md_drafted md_lines md_n md_species md_above md_trialSize md_foundSize md_foundSpecies md_foundN md_foundCost md_chosen md_low md_many md_ties md_winnerCost md_allMany md_allTies md_faults) H locs) (hl : lv_has ls 1 [(0, .ref (ad 0))]) : W p l e rm_SpeciesSolverModel_size s m args below meth c H locs 0 0 (MQ below (Qi D A (wd_SpeciesSolverModel_size kc ad md_thrown md_drafted md_lines md_n md_species md_above md_trialSize md_foundSize md_foundSpecies md_foundN md_foundCost md_chosen md_low md_many md_ties md_winnerCost md_allMany md_allTies md_faults) r) args s 0 0 A) (F0 m 0 ls []) := by
  obtain ⟨hx, hb, hr, hts, hown, hml, hlocks, hK, hN, hA, hX⟩ := id C
  obtain ⟨hP, hD, hS⟩ := hZ
  unfold m_SpeciesSolverModel_size at hm
  refine lv_aload_n hx hb d_SpeciesSolverModel_size_0 rfl (lv_at hl 0 rfl) ?_
  refine va_get (D := D) (ci := 1) (v := .int md_species) (C := R_SpeciesSolverModel) (T := T_SpeciesSolverModel) (N := 35) hx hb hts inG_SpeciesSolverModel hown hK hP 0 rfl rfl 6 (by decide) (hts _ gw_824) (fun _ h9 => h9) rfl d_SpeciesSolverModel_size_1 ?_
  refine lv_aload_n hx hb d_SpeciesSolverModel_size_4 rfl (lv_at hl 0 rfl) ?_
  refine va_get (D := D) (ci := 1) (v := .int md_n) (C := R_SpeciesSolverModel) (T := T_SpeciesSolverModel) (N := 35) hx hb hts inG_SpeciesSolverModel hown hK hP 0 rfl rfl 5 (by decide) (hts _ gw_823) (fun _ h9 => h9) rfl d_SpeciesSolverModel_size_5 ?_
  refine lv_iconst (v := 1) hx hb d_SpeciesSolverModel_size_8 (by decide) ?_
  refine lv_isub hx hb d_SpeciesSolverModel_size_9 ?_
  refine lv_imul hx hb d_SpeciesSolverModel_size_10 ?_
  refine lv_iconst (v := 1) hx hb d_SpeciesSolverModel_size_11 (by decide) ?_
  refine lv_iadd hx hb d_SpeciesSolverModel_size_12 ?_
  replace hm := Option.some.inj hm; subst hm
  exact zret_i C hP hD hS d_SpeciesSolverModel_size_13
set_option maxHeartbeats 4000000 in
set_option maxRecDepth 100000 in
theorem c_SpeciesSolverModel_size {l : Launch} {D : va_G} {kc : Nat → ClassId} {r : Int32} {ad : Nat → Nat} {md_thrown : Int32} {md_drafted : Int32} {md_lines : Int32} {md_n : Int32} {md_species : Int32} {md_above : Int32} {md_trialSize : Int32} {md_foundSize : Int32} {md_foundSpecies : Int32} {md_foundN : Int32} {md_foundCost : Int32} {md_chosen : Int32} {md_low : Int32} {md_many : Int64} {md_ties : Int64} {md_winnerCost : Int32} {md_allMany : Int64} {md_allTies : Int64} {md_faults : Int32}  (hm : m_SpeciesSolverModel_size md_n md_species  = some r) (sz : Nat) : Ci l y_SpeciesSolverModel_size ws_SpeciesSolverModel_size rm_SpeciesSolverModel_size D kc sz [.ref (ad 0)] (wd_SpeciesSolverModel_size kc ad md_thrown md_drafted md_lines md_n md_species md_above md_trialSize md_foundSize md_foundSpecies md_foundN md_foundCost md_chosen md_low md_many md_ties md_winnerCost md_allMany md_allTies md_faults) (wd_SpeciesSolverModel_size kc ad md_thrown md_drafted md_lines md_n md_species md_above md_trialSize md_foundSize md_foundSpecies md_foundN md_foundCost md_chosen md_low md_many md_ties md_winnerCost md_allMany md_allTies md_faults) r :=
  Cz_of (Qf := fun A => (Qi D A (wd_SpeciesSolverModel_size kc ad md_thrown md_drafted md_lines md_n md_species md_above md_trialSize md_foundSize md_foundSpecies md_foundN md_foundCost md_chosen md_low md_many md_ties md_winnerCost md_allMany md_allTies md_faults) r)) (cc := b_SpeciesSolverModel_size) (maxL := 1) (ret := (some .int)) (by decide) rfl rfl (fun C hZ hl => e_SpeciesSolverModel_size C hm hZ hl)
abbrev b_SpeciesSolverModel_far : ByteArray := prog_9_method_16_code
abbrev y_SpeciesSolverModel_far : MethodName := ⟨"SpeciesSolverModel", "far", "(II)I"⟩
theorem d_SpeciesSolverModel_far_0 : decode b_SpeciesSolverModel_far 0 = .ok (.iload_n 0, 1) := by decide +kernel
theorem d_SpeciesSolverModel_far_1 : decode b_SpeciesSolverModel_far 1 = .ok (.iload_n 1, 1) := by decide +kernel
theorem d_SpeciesSolverModel_far_2 : decode b_SpeciesSolverModel_far 2 = .ok (.if_icmp .ge 9, 3) := by decide +kernel
theorem d_SpeciesSolverModel_far_5 : decode b_SpeciesSolverModel_far 5 = .ok (.iload_n 1, 1) := by decide +kernel
theorem d_SpeciesSolverModel_far_6 : decode b_SpeciesSolverModel_far 6 = .ok (.iload_n 0, 1) := by decide +kernel
theorem d_SpeciesSolverModel_far_7 : decode b_SpeciesSolverModel_far 7 = .ok (.isub, 1) := by decide +kernel
theorem d_SpeciesSolverModel_far_8 : decode b_SpeciesSolverModel_far 8 = .ok (.goto 6, 3) := by decide +kernel
theorem d_SpeciesSolverModel_far_11 : decode b_SpeciesSolverModel_far 11 = .ok (.iload_n 0, 1) := by decide +kernel
theorem d_SpeciesSolverModel_far_12 : decode b_SpeciesSolverModel_far 12 = .ok (.iload_n 1, 1) := by decide +kernel
theorem d_SpeciesSolverModel_far_13 : decode b_SpeciesSolverModel_far 13 = .ok (.isub, 1) := by decide +kernel
theorem d_SpeciesSolverModel_far_14 : decode b_SpeciesSolverModel_far 14 = .ok (.ireturn, 1) := by decide +kernel
abbrev wd_SpeciesSolverModel_far (kc : Nat → ClassId)   : va_W := []
abbrev rm_SpeciesSolverModel_far : Room := { frames := 0, cells := 0, slots := 0, locals := 0 }
abbrev cw_SpeciesSolverModel_far : Cond := .code y_SpeciesSolverModel_far b_SpeciesSolverModel_far 2 (some .int)
abbrev ws_SpeciesSolverModel_far : List Cond := cw_SpeciesSolverModel_far :: GW
theorem hd_SpeciesSolverModel_far : y_SpeciesSolverModel_far.cls ≠ "java/lang/invoke/MethodHandle" ∧ y_SpeciesSolverModel_far.cls ≠ "java/lang/invoke/VarHandle" ∧ (parseMethodDescriptor y_SpeciesSolverModel_far.desc).map (fun d => d.parameters.length) = some 2 := by decide +kernel
def m_SpeciesSolverModel_far   (a0 : Int32) (a1 : Int32) : Option (Int32) :=
  (if a1 ≤ a0 then
    (some (a0 - a1))
  else
    (some (a1 - a0)))
set_option maxHeartbeats 4000000 in
set_option maxRecDepth 100000 in
theorem e_SpeciesSolverModel_far {r : Int32}   {a0 : Int32} {a1 : Int32} {H : Heap} {locs : List Loc} {ls : Array Slot} (C : Cx p s m meth c args A D kc R_SpeciesSolverModel b_SpeciesSolverModel_far 2 (some .int)) (hm : m_SpeciesSolverModel_far  a0 a1 = some r) (hZ : St D A s (wd_SpeciesSolverModel_far kc ) H locs) (hl : lv_has ls 2 [(0, .int a0), (1, .int a1)]) : W p l e rm_SpeciesSolverModel_far s m args below meth c H locs 0 0 (MQ below (Qi D A (wd_SpeciesSolverModel_far kc ) r) args s 0 0 A) (F0 m 0 ls []) := by
  obtain ⟨hx, hb, hr, hts, hown, hml, hlocks, hK, hN, hA, hX⟩ := id C
  obtain ⟨hP, hD, hS⟩ := hZ
  unfold m_SpeciesSolverModel_far at hm
  refine lv_iload_n hx hb d_SpeciesSolverModel_far_0 rfl (lv_at hl 0 rfl) ?_
  refine lv_iload_n hx hb d_SpeciesSolverModel_far_1 rfl (lv_at hl 1 rfl) ?_
  refine lv_icmp_ge (tgt := 11) hx hb d_SpeciesSolverModel_far_2 (by decide) (fun c1 => ?_) (fun c1 => ?_)
  · replace hm := ifT hm c1
    refine lv_iload_n hx hb d_SpeciesSolverModel_far_11 rfl (lv_at hl 0 rfl) ?_
    refine lv_iload_n hx hb d_SpeciesSolverModel_far_12 rfl (lv_at hl 1 rfl) ?_
    refine lv_isub hx hb d_SpeciesSolverModel_far_13 ?_
    replace hm := Option.some.inj hm; subst hm
    exact zret_i C hP hD hS d_SpeciesSolverModel_far_14
  · replace hm := ifF hm c1
    refine lv_iload_n hx hb d_SpeciesSolverModel_far_5 rfl (lv_at hl 1 rfl) ?_
    refine lv_iload_n hx hb d_SpeciesSolverModel_far_6 rfl (lv_at hl 0 rfl) ?_
    refine lv_isub hx hb d_SpeciesSolverModel_far_7 ?_
    refine lv_goto (tgt := 14) hx hb d_SpeciesSolverModel_far_8 (by decide) ?_
    replace hm := Option.some.inj hm; subst hm
    exact zret_i C hP hD hS d_SpeciesSolverModel_far_14
set_option maxHeartbeats 4000000 in
set_option maxRecDepth 100000 in
theorem c_SpeciesSolverModel_far {l : Launch} {D : va_G} {kc : Nat → ClassId} {r : Int32}   {a0 : Int32} {a1 : Int32} (hm : m_SpeciesSolverModel_far  a0 a1 = some r) (sz : Nat) : Ci l y_SpeciesSolverModel_far ws_SpeciesSolverModel_far rm_SpeciesSolverModel_far D kc sz [.int a0, .int a1] (wd_SpeciesSolverModel_far kc ) (wd_SpeciesSolverModel_far kc ) r :=
  Cz_of (Qf := fun A => (Qi D A (wd_SpeciesSolverModel_far kc ) r)) (cc := b_SpeciesSolverModel_far) (maxL := 2) (ret := (some .int)) (by decide) rfl rfl (fun C hZ hl => e_SpeciesSolverModel_far C hm hZ hl)
abbrev b_SpeciesSolverModel_isIn : ByteArray := prog_9_method_17_code
abbrev y_SpeciesSolverModel_isIn : MethodName := ⟨"SpeciesSolverModel", "isIn", "(III)Z"⟩
theorem d_SpeciesSolverModel_isIn_0 : decode b_SpeciesSolverModel_isIn 0 = .ok (.aload_n 0, 1) := by decide +kernel
theorem d_SpeciesSolverModel_isIn_1 : decode b_SpeciesSolverModel_isIn 1 = .ok (.getfield 28, 3) := by decide +kernel
theorem d_SpeciesSolverModel_isIn_4 : decode b_SpeciesSolverModel_isIn 4 = .ok (.iload_n 1, 1) := by decide +kernel
theorem d_SpeciesSolverModel_isIn_5 : decode b_SpeciesSolverModel_isIn 5 = .ok (.iaload, 1) := by decide +kernel
theorem d_SpeciesSolverModel_isIn_6 : decode b_SpeciesSolverModel_isIn 6 = .ok (.iload_n 2, 1) := by decide +kernel
theorem d_SpeciesSolverModel_isIn_7 : decode b_SpeciesSolverModel_isIn 7 = .ok (.iload_n 3, 1) := by decide +kernel
theorem d_SpeciesSolverModel_isIn_8 : decode b_SpeciesSolverModel_isIn 8 = .ok (.invokestatic 101, 3) := by decide +kernel
theorem d_SpeciesSolverModel_isIn_11 : decode b_SpeciesSolverModel_isIn 11 = .ok (.bipush 12, 2) := by decide +kernel
theorem d_SpeciesSolverModel_isIn_13 : decode b_SpeciesSolverModel_isIn 13 = .ok (.irem, 1) := by decide +kernel
theorem d_SpeciesSolverModel_isIn_14 : decode b_SpeciesSolverModel_isIn 14 = .ok (.ishr, 1) := by decide +kernel
theorem d_SpeciesSolverModel_isIn_15 : decode b_SpeciesSolverModel_isIn 15 = .ok (.iconst 1, 1) := by decide +kernel
theorem d_SpeciesSolverModel_isIn_16 : decode b_SpeciesSolverModel_isIn 16 = .ok (.iand, 1) := by decide +kernel
theorem d_SpeciesSolverModel_isIn_17 : decode b_SpeciesSolverModel_isIn 17 = .ok (.iconst 1, 1) := by decide +kernel
theorem d_SpeciesSolverModel_isIn_18 : decode b_SpeciesSolverModel_isIn 18 = .ok (.if_icmp .ne 7, 3) := by decide +kernel
theorem d_SpeciesSolverModel_isIn_21 : decode b_SpeciesSolverModel_isIn 21 = .ok (.iconst 1, 1) := by decide +kernel
theorem d_SpeciesSolverModel_isIn_22 : decode b_SpeciesSolverModel_isIn 22 = .ok (.goto 4, 3) := by decide +kernel
theorem d_SpeciesSolverModel_isIn_25 : decode b_SpeciesSolverModel_isIn 25 = .ok (.iconst 0, 1) := by decide +kernel
theorem d_SpeciesSolverModel_isIn_26 : decode b_SpeciesSolverModel_isIn 26 = .ok (.ireturn, 1) := by decide +kernel
abbrev wd_SpeciesSolverModel_isIn (kc : Nat → ClassId) (ad : Nat → Nat) (md_thrown : Int32) (md_drafted : Int32) (md_lines : Int32) (md_n : Int32) (md_species : Int32) (md_above : Int32) (md_trialSize : Int32) (md_foundSize : Int32) (md_foundSpecies : Int32) (md_foundN : Int32) (md_foundCost : Int32) (md_chosen : Int32) (md_low : Int32) (md_many : Int64) (md_ties : Int64) (md_winnerCost : Int32) (md_allMany : Int64) (md_allTies : Int64) (md_faults : Int32) (md_numbers : Nat → Int32) : va_W := [((ad 0), .inr (1, [.int md_thrown, .ref (ad 1), .int md_drafted, .ref (ad 2), .int md_lines, .int md_n, .int md_species, .int md_above, .ref (ad 3), .ref (ad 4), .ref (ad 5), .int md_trialSize, .ref (ad 6), .int md_foundSize, .int md_foundSpecies, .int md_foundN, .int md_foundCost, .ref (ad 7), .int md_chosen, .ref (ad 8), .ref (ad 9), .ref (ad 10), .int md_low, .long md_many, .long md_ties, .ref (ad 11), .ref (ad 12), .int md_winnerCost, .long md_allMany, .long md_allTies, .ref (ad 13), .ref (ad 14), .ref (ad 15), .ref (ad 16), .int md_faults])), ((ad 4), .inl (kc 0, 18, .inl md_numbers))]
abbrev rm_SpeciesSolverModel_isIn : Room := { frames := 1, cells := 0, slots := 0, locals := 21 }
abbrev cw_SpeciesSolverModel_isIn : Cond := .code y_SpeciesSolverModel_isIn b_SpeciesSolverModel_isIn 4 (some .boolean)
abbrev ws_SpeciesSolverModel_isIn : List Cond := cw_SpeciesSolverModel_isIn :: GW
theorem hd_SpeciesSolverModel_isIn : y_SpeciesSolverModel_isIn.cls ≠ "java/lang/invoke/MethodHandle" ∧ y_SpeciesSolverModel_isIn.cls ≠ "java/lang/invoke/VarHandle" ∧ (parseMethodDescriptor y_SpeciesSolverModel_isIn.desc).map (fun d => d.parameters.length) = some 3 := by decide +kernel
def m_SpeciesSolverModel_isIn (md_numbers : Nat → Int32)  (a1 : Int32) (a2 : Int32) (a3 : Int32) : Option (Int32) :=
  (gd a1 18 (bd (m_SpeciesSolverModel_far a2 a3) (fun u2 => (if (((md_numbers (Int32.toNatClampNeg a1)) >>> ((u2 - u2 / (12 : Int32) * (12 : Int32)) &&& 31)) &&& (1 : Int32)) = (1 : Int32) then
    (some (1 : Int32))
  else
    (some (0 : Int32))))))
set_option maxHeartbeats 4000000 in
set_option maxRecDepth 100000 in
theorem e_SpeciesSolverModel_isIn {r : Int32} {ad : Nat → Nat} {md_thrown : Int32} {md_drafted : Int32} {md_lines : Int32} {md_n : Int32} {md_species : Int32} {md_above : Int32} {md_trialSize : Int32} {md_foundSize : Int32} {md_foundSpecies : Int32} {md_foundN : Int32} {md_foundCost : Int32} {md_chosen : Int32} {md_low : Int32} {md_many : Int64} {md_ties : Int64} {md_winnerCost : Int32} {md_allMany : Int64} {md_allTies : Int64} {md_faults : Int32} {md_numbers : Nat → Int32} {a1 : Int32} {a2 : Int32} {a3 : Int32} {H : Heap} {locs : List Loc} {ls : Array Slot} (C : Cx p s m meth c args A D kc R_SpeciesSolverModel b_SpeciesSolverModel_isIn 4 (some .boolean)) (hm : m_SpeciesSolverModel_isIn md_numbers a1 a2 a3 = some r) (hZ : St D A s (wd_SpeciesSolverModel_isIn kc ad md_thrown md_drafted md_lines md_n md_species md_above md_trialSize md_foundSize md_foundSpecies md_foundN md_foundCost md_chosen md_low md_many md_ties md_winnerCost md_allMany md_allTies md_faults md_numbers) H locs) (hl : lv_has ls 4 [(0, .ref (ad 0)), (1, .int a1), (2, .int a2), (3, .int a3)]) : W p l e rm_SpeciesSolverModel_isIn s m args below meth c H locs 0 0 (MQ below (Qi D A (wd_SpeciesSolverModel_isIn kc ad md_thrown md_drafted md_lines md_n md_species md_above md_trialSize md_foundSize md_foundSpecies md_foundN md_foundCost md_chosen md_low md_many md_ties md_winnerCost md_allMany md_allTies md_faults md_numbers) r) args s 0 0 A) (F0 m 0 ls []) := by
  obtain ⟨hx, hb, hr, hts, hown, hml, hlocks, hK, hN, hA, hX⟩ := id C
  obtain ⟨hP, hD, hS⟩ := hZ
  unfold m_SpeciesSolverModel_isIn at hm
  refine lv_aload_n hx hb d_SpeciesSolverModel_isIn_0 rfl (lv_at hl 0 rfl) ?_
  refine va_get (D := D) (ci := 1) (v := .ref (ad 4)) (C := R_SpeciesSolverModel) (T := T_SpeciesSolverModel) (N := 35) hx hb hts inG_SpeciesSolverModel hown hK hP 0 rfl rfl 9 (by decide) (hts _ gw_827) (fun _ h9 => h9) rfl d_SpeciesSolverModel_isIn_1 ?_
  refine lv_iload_n hx hb d_SpeciesSolverModel_isIn_4 rfl (lv_at hl 1 rfl) ?_
  obtain ⟨hi1, hm⟩ := gd_some hm
  refine va_iald hx hb hK hP 1 0 rfl rfl hi1 d_SpeciesSolverModel_isIn_5 ?_
  refine lv_iload_n hx hb d_SpeciesSolverModel_isIn_6 rfl (lv_at hl 2 rfl) ?_
  refine lv_iload_n hx hb d_SpeciesSolverModel_isIn_7 rfl (lv_at hl 3 rfl) ?_
  obtain ⟨u2, hc3, hm⟩ := bd_some hm
  refine zS_i (n := 2) (wr := [((ad 0), .inr (1, [.int md_thrown, .ref (ad 1), .int md_drafted, .ref (ad 2), .int md_lines, .int md_n, .int md_species, .int md_above, .ref (ad 3), .ref (ad 4), .ref (ad 5), .int md_trialSize, .ref (ad 6), .int md_foundSize, .int md_foundSpecies, .int md_foundN, .int md_foundCost, .ref (ad 7), .int md_chosen, .ref (ad 8), .ref (ad 9), .ref (ad 10), .int md_low, .long md_many, .long md_ties, .ref (ad 11), .ref (ad 12), .int md_winnerCost, .long md_allMany, .long md_allTies, .ref (ad 13), .ref (ad 14), .ref (ad 15), .ref (ad 16), .int md_faults])), ((ad 4), .inl (kc 0, 18, .inl md_numbers))]) (w1 := (wd_SpeciesSolverModel_far kc )) (ws1 := (wd_SpeciesSolverModel_isIn kc ad md_thrown md_drafted md_lines md_n md_species md_above md_trialSize md_foundSize md_foundSpecies md_foundN md_foundCost md_chosen md_low md_many md_ties md_winnerCost md_allMany md_allTies md_faults md_numbers)) (As := [.int a2, .int a3]) (rest := [.int (md_numbers (Int32.toNatClampNeg a1))]) (y := y_SpeciesSolverModel_far) ⟨hx, hb, hml, hown, hts⟩ (fun sz => c_SpeciesSolverModel_far hc3 sz) gw_1029 gw_1027 gw_1028 gw_118 rfl hd_SpeciesSolverModel_far ⟨Nat.le_of_ble_eq_true rfl, Nat.le_of_ble_eq_true rfl⟩ ⟨rfl, rfl⟩ ⟨Nat.zero_le _, Nat.zero_le _⟩ hK hN hP hD hS hA hX [] [0, 1] [0, 1] rfl rfl (by decide) (by decide) (by decide) rfl (by decide) rfl hl.1 rfl (Nat.le_of_ble_eq_true rfl) d_SpeciesSolverModel_isIn_8 (fun H locs hP hD hS => ?_)
  refine lv_bipush (v := 12) hx hb d_SpeciesSolverModel_isIn_11 (by decide) ?_
  refine lv_irem hx hb d_SpeciesSolverModel_isIn_13 (by decide) ?_
  refine lv_ishr hx hb d_SpeciesSolverModel_isIn_14 ?_
  refine lv_iconst (v := 1) hx hb d_SpeciesSolverModel_isIn_15 (by decide) ?_
  refine lv_iand hx hb d_SpeciesSolverModel_isIn_16 ?_
  refine lv_iconst (v := 1) hx hb d_SpeciesSolverModel_isIn_17 (by decide) ?_
  refine lv_icmp_ne (tgt := 25) hx hb d_SpeciesSolverModel_isIn_18 (by decide) (fun c4 => ?_) (fun c4 => ?_)
  · replace hm := ifF hm c4
    refine lv_iconst (v := 0) hx hb d_SpeciesSolverModel_isIn_25 (by decide) ?_
    replace hm := Option.some.inj hm; subst hm
    exact zret_z (v := 0) C hP hD hS (by rfl) d_SpeciesSolverModel_isIn_26
  · replace hm := ifT hm c4
    refine lv_iconst (v := 1) hx hb d_SpeciesSolverModel_isIn_21 (by decide) ?_
    refine lv_goto (tgt := 26) hx hb d_SpeciesSolverModel_isIn_22 (by decide) ?_
    replace hm := Option.some.inj hm; subst hm
    exact zret_z (v := 1) C hP hD hS (by rfl) d_SpeciesSolverModel_isIn_26
set_option maxHeartbeats 4000000 in
set_option maxRecDepth 100000 in
theorem c_SpeciesSolverModel_isIn {l : Launch} {D : va_G} {kc : Nat → ClassId} {r : Int32} {ad : Nat → Nat} {md_thrown : Int32} {md_drafted : Int32} {md_lines : Int32} {md_n : Int32} {md_species : Int32} {md_above : Int32} {md_trialSize : Int32} {md_foundSize : Int32} {md_foundSpecies : Int32} {md_foundN : Int32} {md_foundCost : Int32} {md_chosen : Int32} {md_low : Int32} {md_many : Int64} {md_ties : Int64} {md_winnerCost : Int32} {md_allMany : Int64} {md_allTies : Int64} {md_faults : Int32} {md_numbers : Nat → Int32} {a1 : Int32} {a2 : Int32} {a3 : Int32} (hm : m_SpeciesSolverModel_isIn md_numbers a1 a2 a3 = some r) (sz : Nat) : Ci l y_SpeciesSolverModel_isIn ws_SpeciesSolverModel_isIn rm_SpeciesSolverModel_isIn D kc sz [.ref (ad 0), .int a1, .int a2, .int a3] (wd_SpeciesSolverModel_isIn kc ad md_thrown md_drafted md_lines md_n md_species md_above md_trialSize md_foundSize md_foundSpecies md_foundN md_foundCost md_chosen md_low md_many md_ties md_winnerCost md_allMany md_allTies md_faults md_numbers) (wd_SpeciesSolverModel_isIn kc ad md_thrown md_drafted md_lines md_n md_species md_above md_trialSize md_foundSize md_foundSpecies md_foundN md_foundCost md_chosen md_low md_many md_ties md_winnerCost md_allMany md_allTies md_faults md_numbers) r :=
  Cz_of (Qf := fun A => (Qi D A (wd_SpeciesSolverModel_isIn kc ad md_thrown md_drafted md_lines md_n md_species md_above md_trialSize md_foundSize md_foundSpecies md_foundN md_foundCost md_chosen md_low md_many md_ties md_winnerCost md_allMany md_allTies md_faults md_numbers) r)) (cc := b_SpeciesSolverModel_isIn) (maxL := 4) (ret := (some .boolean)) (by decide) rfl rfl (fun C hZ hl => e_SpeciesSolverModel_isIn C hm hZ hl)
abbrev b_SpeciesSolverModel_at : ByteArray := prog_9_method_18_code
abbrev y_SpeciesSolverModel_at : MethodName := ⟨"SpeciesSolverModel", "at", "(II)I"⟩
theorem d_SpeciesSolverModel_at_0 : decode b_SpeciesSolverModel_at 0 = .ok (.aload_n 0, 1) := by decide +kernel
theorem d_SpeciesSolverModel_at_1 : decode b_SpeciesSolverModel_at 1 = .ok (.getfield 13, 3) := by decide +kernel
theorem d_SpeciesSolverModel_at_4 : decode b_SpeciesSolverModel_at 4 = .ok (.bipush 12, 2) := by decide +kernel
theorem d_SpeciesSolverModel_at_6 : decode b_SpeciesSolverModel_at 6 = .ok (.iload_n 1, 1) := by decide +kernel
theorem d_SpeciesSolverModel_at_7 : decode b_SpeciesSolverModel_at 7 = .ok (.imul, 1) := by decide +kernel
theorem d_SpeciesSolverModel_at_8 : decode b_SpeciesSolverModel_at 8 = .ok (.iload_n 2, 1) := by decide +kernel
theorem d_SpeciesSolverModel_at_9 : decode b_SpeciesSolverModel_at 9 = .ok (.aload_n 0, 1) := by decide +kernel
theorem d_SpeciesSolverModel_at_10 : decode b_SpeciesSolverModel_at 10 = .ok (.getfield 16, 3) := by decide +kernel
theorem d_SpeciesSolverModel_at_13 : decode b_SpeciesSolverModel_at 13 = .ok (.idiv, 1) := by decide +kernel
theorem d_SpeciesSolverModel_at_14 : decode b_SpeciesSolverModel_at 14 = .ok (.iadd, 1) := by decide +kernel
theorem d_SpeciesSolverModel_at_15 : decode b_SpeciesSolverModel_at 15 = .ok (.iaload, 1) := by decide +kernel
theorem d_SpeciesSolverModel_at_16 : decode b_SpeciesSolverModel_at 16 = .ok (.ireturn, 1) := by decide +kernel
abbrev wd_SpeciesSolverModel_at (kc : Nat → ClassId) (ad : Nat → Nat) (md_thrown : Int32) (md_drafted : Int32) (md_lines : Int32) (md_n : Int32) (md_species : Int32) (md_above : Int32) (md_trialSize : Int32) (md_foundSize : Int32) (md_foundSpecies : Int32) (md_foundN : Int32) (md_foundCost : Int32) (md_chosen : Int32) (md_low : Int32) (md_many : Int64) (md_ties : Int64) (md_winnerCost : Int32) (md_allMany : Int64) (md_allTies : Int64) (md_faults : Int32) (md_given : Nat → Int32) : va_W := [((ad 0), .inr (1, [.int md_thrown, .ref (ad 1), .int md_drafted, .ref (ad 2), .int md_lines, .int md_n, .int md_species, .int md_above, .ref (ad 3), .ref (ad 4), .ref (ad 5), .int md_trialSize, .ref (ad 6), .int md_foundSize, .int md_foundSpecies, .int md_foundN, .int md_foundCost, .ref (ad 7), .int md_chosen, .ref (ad 8), .ref (ad 9), .ref (ad 10), .int md_low, .long md_many, .long md_ties, .ref (ad 11), .ref (ad 12), .int md_winnerCost, .long md_allMany, .long md_allTies, .ref (ad 13), .ref (ad 14), .ref (ad 15), .ref (ad 16), .int md_faults])), ((ad 2), .inl (kc 0, 36, .inl md_given))]
abbrev rm_SpeciesSolverModel_at : Room := { frames := 0, cells := 0, slots := 0, locals := 0 }
abbrev cw_SpeciesSolverModel_at : Cond := .code y_SpeciesSolverModel_at b_SpeciesSolverModel_at 3 (some .int)
abbrev ws_SpeciesSolverModel_at : List Cond := cw_SpeciesSolverModel_at :: GW
theorem hd_SpeciesSolverModel_at : y_SpeciesSolverModel_at.cls ≠ "java/lang/invoke/MethodHandle" ∧ y_SpeciesSolverModel_at.cls ≠ "java/lang/invoke/VarHandle" ∧ (parseMethodDescriptor y_SpeciesSolverModel_at.desc).map (fun d => d.parameters.length) = some 2 := by decide +kernel
def m_SpeciesSolverModel_at (md_species : Int32) (md_given : Nat → Int32)  (a1 : Int32) (a2 : Int32) : Option (Int32) :=
  (nz md_species (gd (((12 : Int32) * a1) + (a2 / md_species)) 36 (some (md_given (Int32.toNatClampNeg (((12 : Int32) * a1) + (a2 / md_species)))))))
set_option maxHeartbeats 4000000 in
set_option maxRecDepth 100000 in
theorem e_SpeciesSolverModel_at {r : Int32} {ad : Nat → Nat} {md_thrown : Int32} {md_drafted : Int32} {md_lines : Int32} {md_n : Int32} {md_species : Int32} {md_above : Int32} {md_trialSize : Int32} {md_foundSize : Int32} {md_foundSpecies : Int32} {md_foundN : Int32} {md_foundCost : Int32} {md_chosen : Int32} {md_low : Int32} {md_many : Int64} {md_ties : Int64} {md_winnerCost : Int32} {md_allMany : Int64} {md_allTies : Int64} {md_faults : Int32} {md_given : Nat → Int32} {a1 : Int32} {a2 : Int32} {H : Heap} {locs : List Loc} {ls : Array Slot} (C : Cx p s m meth c args A D kc R_SpeciesSolverModel b_SpeciesSolverModel_at 3 (some .int)) (hm : m_SpeciesSolverModel_at md_species md_given a1 a2 = some r) (hZ : St D A s (wd_SpeciesSolverModel_at kc ad md_thrown md_drafted md_lines md_n md_species md_above md_trialSize md_foundSize md_foundSpecies md_foundN md_foundCost md_chosen md_low md_many md_ties md_winnerCost md_allMany md_allTies md_faults md_given) H locs) (hl : lv_has ls 3 [(0, .ref (ad 0)), (1, .int a1), (2, .int a2)]) : W p l e rm_SpeciesSolverModel_at s m args below meth c H locs 0 0 (MQ below (Qi D A (wd_SpeciesSolverModel_at kc ad md_thrown md_drafted md_lines md_n md_species md_above md_trialSize md_foundSize md_foundSpecies md_foundN md_foundCost md_chosen md_low md_many md_ties md_winnerCost md_allMany md_allTies md_faults md_given) r) args s 0 0 A) (F0 m 0 ls []) := by
  obtain ⟨hx, hb, hr, hts, hown, hml, hlocks, hK, hN, hA, hX⟩ := id C
  obtain ⟨hP, hD, hS⟩ := hZ
  unfold m_SpeciesSolverModel_at at hm
  refine lv_aload_n hx hb d_SpeciesSolverModel_at_0 rfl (lv_at hl 0 rfl) ?_
  refine va_get (D := D) (ci := 1) (v := .ref (ad 2)) (C := R_SpeciesSolverModel) (T := T_SpeciesSolverModel) (N := 35) hx hb hts inG_SpeciesSolverModel hown hK hP 0 rfl rfl 3 (by decide) (hts _ gw_821) (fun _ h9 => h9) rfl d_SpeciesSolverModel_at_1 ?_
  refine lv_bipush (v := 12) hx hb d_SpeciesSolverModel_at_4 (by decide) ?_
  refine lv_iload_n hx hb d_SpeciesSolverModel_at_6 rfl (lv_at hl 1 rfl) ?_
  refine lv_imul hx hb d_SpeciesSolverModel_at_7 ?_
  refine lv_iload_n hx hb d_SpeciesSolverModel_at_8 rfl (lv_at hl 2 rfl) ?_
  refine lv_aload_n hx hb d_SpeciesSolverModel_at_9 rfl (lv_at hl 0 rfl) ?_
  refine va_get (D := D) (ci := 1) (v := .int md_species) (C := R_SpeciesSolverModel) (T := T_SpeciesSolverModel) (N := 35) hx hb hts inG_SpeciesSolverModel hown hK hP 0 rfl rfl 6 (by decide) (hts _ gw_824) (fun _ h9 => h9) rfl d_SpeciesSolverModel_at_10 ?_
  obtain ⟨hz1, hm⟩ := nz_some hm
  refine lv_idiv hx hb d_SpeciesSolverModel_at_13 hz1 ?_
  refine lv_iadd hx hb d_SpeciesSolverModel_at_14 ?_
  obtain ⟨hi2, hm⟩ := gd_some hm
  refine va_iald hx hb hK hP 1 0 rfl rfl hi2 d_SpeciesSolverModel_at_15 ?_
  replace hm := Option.some.inj hm; subst hm
  exact zret_i C hP hD hS d_SpeciesSolverModel_at_16
set_option maxHeartbeats 4000000 in
set_option maxRecDepth 100000 in
theorem c_SpeciesSolverModel_at {l : Launch} {D : va_G} {kc : Nat → ClassId} {r : Int32} {ad : Nat → Nat} {md_thrown : Int32} {md_drafted : Int32} {md_lines : Int32} {md_n : Int32} {md_species : Int32} {md_above : Int32} {md_trialSize : Int32} {md_foundSize : Int32} {md_foundSpecies : Int32} {md_foundN : Int32} {md_foundCost : Int32} {md_chosen : Int32} {md_low : Int32} {md_many : Int64} {md_ties : Int64} {md_winnerCost : Int32} {md_allMany : Int64} {md_allTies : Int64} {md_faults : Int32} {md_given : Nat → Int32} {a1 : Int32} {a2 : Int32} (hm : m_SpeciesSolverModel_at md_species md_given a1 a2 = some r) (sz : Nat) : Ci l y_SpeciesSolverModel_at ws_SpeciesSolverModel_at rm_SpeciesSolverModel_at D kc sz [.ref (ad 0), .int a1, .int a2] (wd_SpeciesSolverModel_at kc ad md_thrown md_drafted md_lines md_n md_species md_above md_trialSize md_foundSize md_foundSpecies md_foundN md_foundCost md_chosen md_low md_many md_ties md_winnerCost md_allMany md_allTies md_faults md_given) (wd_SpeciesSolverModel_at kc ad md_thrown md_drafted md_lines md_n md_species md_above md_trialSize md_foundSize md_foundSpecies md_foundN md_foundCost md_chosen md_low md_many md_ties md_winnerCost md_allMany md_allTies md_faults md_given) r :=
  Cz_of (Qf := fun A => (Qi D A (wd_SpeciesSolverModel_at kc ad md_thrown md_drafted md_lines md_n md_species md_above md_trialSize md_foundSize md_foundSpecies md_foundN md_foundCost md_chosen md_low md_many md_ties md_winnerCost md_allMany md_allTies md_faults md_given) r)) (cc := b_SpeciesSolverModel_at) (maxL := 3) (ret := (some .int)) (by decide) rfl rfl (fun C hZ hl => e_SpeciesSolverModel_at C hm hZ hl)
abbrev b_SpeciesSolverModel_isStrong : ByteArray := prog_9_method_19_code
abbrev y_SpeciesSolverModel_isStrong : MethodName := ⟨"SpeciesSolverModel", "isStrong", "(I)Z"⟩
theorem d_SpeciesSolverModel_isStrong_0 : decode b_SpeciesSolverModel_isStrong 0 = .ok (.iload_n 1, 1) := by decide +kernel
theorem d_SpeciesSolverModel_isStrong_1 : decode b_SpeciesSolverModel_isStrong 1 = .ok (.aload_n 0, 1) := by decide +kernel
theorem d_SpeciesSolverModel_isStrong_2 : decode b_SpeciesSolverModel_isStrong 2 = .ok (.getfield 16, 3) := by decide +kernel
theorem d_SpeciesSolverModel_isStrong_5 : decode b_SpeciesSolverModel_isStrong 5 = .ok (.irem, 1) := by decide +kernel
theorem d_SpeciesSolverModel_isStrong_6 : decode b_SpeciesSolverModel_isStrong 6 = .ok (.ifCond .ne 7, 3) := by decide +kernel
theorem d_SpeciesSolverModel_isStrong_9 : decode b_SpeciesSolverModel_isStrong 9 = .ok (.iconst 1, 1) := by decide +kernel
theorem d_SpeciesSolverModel_isStrong_10 : decode b_SpeciesSolverModel_isStrong 10 = .ok (.goto 4, 3) := by decide +kernel
theorem d_SpeciesSolverModel_isStrong_13 : decode b_SpeciesSolverModel_isStrong 13 = .ok (.iconst 0, 1) := by decide +kernel
theorem d_SpeciesSolverModel_isStrong_14 : decode b_SpeciesSolverModel_isStrong 14 = .ok (.ireturn, 1) := by decide +kernel
abbrev wd_SpeciesSolverModel_isStrong (kc : Nat → ClassId) (ad : Nat → Nat) (md_thrown : Int32) (md_drafted : Int32) (md_lines : Int32) (md_n : Int32) (md_species : Int32) (md_above : Int32) (md_trialSize : Int32) (md_foundSize : Int32) (md_foundSpecies : Int32) (md_foundN : Int32) (md_foundCost : Int32) (md_chosen : Int32) (md_low : Int32) (md_many : Int64) (md_ties : Int64) (md_winnerCost : Int32) (md_allMany : Int64) (md_allTies : Int64) (md_faults : Int32) : va_W := [((ad 0), .inr (1, [.int md_thrown, .ref (ad 1), .int md_drafted, .ref (ad 2), .int md_lines, .int md_n, .int md_species, .int md_above, .ref (ad 3), .ref (ad 4), .ref (ad 5), .int md_trialSize, .ref (ad 6), .int md_foundSize, .int md_foundSpecies, .int md_foundN, .int md_foundCost, .ref (ad 7), .int md_chosen, .ref (ad 8), .ref (ad 9), .ref (ad 10), .int md_low, .long md_many, .long md_ties, .ref (ad 11), .ref (ad 12), .int md_winnerCost, .long md_allMany, .long md_allTies, .ref (ad 13), .ref (ad 14), .ref (ad 15), .ref (ad 16), .int md_faults]))]
abbrev rm_SpeciesSolverModel_isStrong : Room := { frames := 0, cells := 0, slots := 0, locals := 0 }
abbrev cw_SpeciesSolverModel_isStrong : Cond := .code y_SpeciesSolverModel_isStrong b_SpeciesSolverModel_isStrong 2 (some .boolean)
abbrev ws_SpeciesSolverModel_isStrong : List Cond := cw_SpeciesSolverModel_isStrong :: GW
theorem hd_SpeciesSolverModel_isStrong : y_SpeciesSolverModel_isStrong.cls ≠ "java/lang/invoke/MethodHandle" ∧ y_SpeciesSolverModel_isStrong.cls ≠ "java/lang/invoke/VarHandle" ∧ (parseMethodDescriptor y_SpeciesSolverModel_isStrong.desc).map (fun d => d.parameters.length) = some 1 := by decide +kernel
def m_SpeciesSolverModel_isStrong (md_species : Int32)  (a1 : Int32) : Option (Int32) :=
  (nz md_species (if (a1 - a1 / md_species * md_species) = (0 : Int32) then
    (some (1 : Int32))
  else
    (some (0 : Int32))))
set_option maxHeartbeats 4000000 in
set_option maxRecDepth 100000 in
theorem e_SpeciesSolverModel_isStrong {r : Int32} {ad : Nat → Nat} {md_thrown : Int32} {md_drafted : Int32} {md_lines : Int32} {md_n : Int32} {md_species : Int32} {md_above : Int32} {md_trialSize : Int32} {md_foundSize : Int32} {md_foundSpecies : Int32} {md_foundN : Int32} {md_foundCost : Int32} {md_chosen : Int32} {md_low : Int32} {md_many : Int64} {md_ties : Int64} {md_winnerCost : Int32} {md_allMany : Int64} {md_allTies : Int64} {md_faults : Int32} {a1 : Int32} {H : Heap} {locs : List Loc} {ls : Array Slot} (C : Cx p s m meth c args A D kc R_SpeciesSolverModel b_SpeciesSolverModel_isStrong 2 (some .boolean)) (hm : m_SpeciesSolverModel_isStrong md_species a1 = some r) (hZ : St D A s (wd_SpeciesSolverModel_isStrong kc ad md_thrown md_drafted md_lines md_n md_species md_above md_trialSize md_foundSize md_foundSpecies md_foundN md_foundCost md_chosen md_low md_many md_ties md_winnerCost md_allMany md_allTies md_faults) H locs) (hl : lv_has ls 2 [(0, .ref (ad 0)), (1, .int a1)]) : W p l e rm_SpeciesSolverModel_isStrong s m args below meth c H locs 0 0 (MQ below (Qi D A (wd_SpeciesSolverModel_isStrong kc ad md_thrown md_drafted md_lines md_n md_species md_above md_trialSize md_foundSize md_foundSpecies md_foundN md_foundCost md_chosen md_low md_many md_ties md_winnerCost md_allMany md_allTies md_faults) r) args s 0 0 A) (F0 m 0 ls []) := by
  obtain ⟨hx, hb, hr, hts, hown, hml, hlocks, hK, hN, hA, hX⟩ := id C
  obtain ⟨hP, hD, hS⟩ := hZ
  unfold m_SpeciesSolverModel_isStrong at hm
  refine lv_iload_n hx hb d_SpeciesSolverModel_isStrong_0 rfl (lv_at hl 1 rfl) ?_
  refine lv_aload_n hx hb d_SpeciesSolverModel_isStrong_1 rfl (lv_at hl 0 rfl) ?_
  refine va_get (D := D) (ci := 1) (v := .int md_species) (C := R_SpeciesSolverModel) (T := T_SpeciesSolverModel) (N := 35) hx hb hts inG_SpeciesSolverModel hown hK hP 0 rfl rfl 6 (by decide) (hts _ gw_824) (fun _ h9 => h9) rfl d_SpeciesSolverModel_isStrong_2 ?_
  obtain ⟨hz1, hm⟩ := nz_some hm
  refine lv_irem hx hb d_SpeciesSolverModel_isStrong_5 hz1 ?_
  refine lv_if_ne (tgt := 13) hx hb d_SpeciesSolverModel_isStrong_6 (by decide) (fun c2 => ?_) (fun c2 => ?_)
  · replace hm := ifF hm c2
    refine lv_iconst (v := 0) hx hb d_SpeciesSolverModel_isStrong_13 (by decide) ?_
    replace hm := Option.some.inj hm; subst hm
    exact zret_z (v := 0) C hP hD hS (by rfl) d_SpeciesSolverModel_isStrong_14
  · replace hm := ifT hm c2
    refine lv_iconst (v := 1) hx hb d_SpeciesSolverModel_isStrong_9 (by decide) ?_
    refine lv_goto (tgt := 14) hx hb d_SpeciesSolverModel_isStrong_10 (by decide) ?_
    replace hm := Option.some.inj hm; subst hm
    exact zret_z (v := 1) C hP hD hS (by rfl) d_SpeciesSolverModel_isStrong_14
set_option maxHeartbeats 4000000 in
set_option maxRecDepth 100000 in
theorem c_SpeciesSolverModel_isStrong {l : Launch} {D : va_G} {kc : Nat → ClassId} {r : Int32} {ad : Nat → Nat} {md_thrown : Int32} {md_drafted : Int32} {md_lines : Int32} {md_n : Int32} {md_species : Int32} {md_above : Int32} {md_trialSize : Int32} {md_foundSize : Int32} {md_foundSpecies : Int32} {md_foundN : Int32} {md_foundCost : Int32} {md_chosen : Int32} {md_low : Int32} {md_many : Int64} {md_ties : Int64} {md_winnerCost : Int32} {md_allMany : Int64} {md_allTies : Int64} {md_faults : Int32} {a1 : Int32} (hm : m_SpeciesSolverModel_isStrong md_species a1 = some r) (sz : Nat) : Ci l y_SpeciesSolverModel_isStrong ws_SpeciesSolverModel_isStrong rm_SpeciesSolverModel_isStrong D kc sz [.ref (ad 0), .int a1] (wd_SpeciesSolverModel_isStrong kc ad md_thrown md_drafted md_lines md_n md_species md_above md_trialSize md_foundSize md_foundSpecies md_foundN md_foundCost md_chosen md_low md_many md_ties md_winnerCost md_allMany md_allTies md_faults) (wd_SpeciesSolverModel_isStrong kc ad md_thrown md_drafted md_lines md_n md_species md_above md_trialSize md_foundSize md_foundSpecies md_foundN md_foundCost md_chosen md_low md_many md_ties md_winnerCost md_allMany md_allTies md_faults) r :=
  Cz_of (Qf := fun A => (Qi D A (wd_SpeciesSolverModel_isStrong kc ad md_thrown md_drafted md_lines md_n md_species md_above md_trialSize md_foundSize md_foundSpecies md_foundN md_foundCost md_chosen md_low md_many md_ties md_winnerCost md_allMany md_allTies md_faults) r)) (cc := b_SpeciesSolverModel_isStrong) (maxL := 2) (ret := (some .boolean)) (by decide) rfl rfl (fun C hZ hl => e_SpeciesSolverModel_isStrong C hm hZ hl)
abbrev b_SpeciesSolverModel_way : ByteArray := prog_9_method_20_code
abbrev y_SpeciesSolverModel_way : MethodName := ⟨"SpeciesSolverModel", "way", "(II)I"⟩
theorem d_SpeciesSolverModel_way_0 : decode b_SpeciesSolverModel_way 0 = .ok (.iload_n 0, 1) := by decide +kernel
theorem d_SpeciesSolverModel_way_1 : decode b_SpeciesSolverModel_way 1 = .ok (.iload_n 1, 1) := by decide +kernel
theorem d_SpeciesSolverModel_way_2 : decode b_SpeciesSolverModel_way 2 = .ok (.if_icmp .ge 7, 3) := by decide +kernel
theorem d_SpeciesSolverModel_way_5 : decode b_SpeciesSolverModel_way 5 = .ok (.iconst 1, 1) := by decide +kernel
theorem d_SpeciesSolverModel_way_6 : decode b_SpeciesSolverModel_way 6 = .ok (.goto 13, 3) := by decide +kernel
theorem d_SpeciesSolverModel_way_9 : decode b_SpeciesSolverModel_way 9 = .ok (.iload_n 0, 1) := by decide +kernel
theorem d_SpeciesSolverModel_way_10 : decode b_SpeciesSolverModel_way 10 = .ok (.iload_n 1, 1) := by decide +kernel
theorem d_SpeciesSolverModel_way_11 : decode b_SpeciesSolverModel_way 11 = .ok (.if_icmp .le 7, 3) := by decide +kernel
theorem d_SpeciesSolverModel_way_14 : decode b_SpeciesSolverModel_way 14 = .ok (.iconst (-1), 1) := by decide +kernel
theorem d_SpeciesSolverModel_way_15 : decode b_SpeciesSolverModel_way 15 = .ok (.goto 4, 3) := by decide +kernel
theorem d_SpeciesSolverModel_way_18 : decode b_SpeciesSolverModel_way 18 = .ok (.iconst 0, 1) := by decide +kernel
theorem d_SpeciesSolverModel_way_19 : decode b_SpeciesSolverModel_way 19 = .ok (.ireturn, 1) := by decide +kernel
abbrev wd_SpeciesSolverModel_way (kc : Nat → ClassId)   : va_W := []
abbrev rm_SpeciesSolverModel_way : Room := { frames := 0, cells := 0, slots := 0, locals := 0 }
abbrev cw_SpeciesSolverModel_way : Cond := .code y_SpeciesSolverModel_way b_SpeciesSolverModel_way 2 (some .int)
abbrev ws_SpeciesSolverModel_way : List Cond := cw_SpeciesSolverModel_way :: GW
theorem hd_SpeciesSolverModel_way : y_SpeciesSolverModel_way.cls ≠ "java/lang/invoke/MethodHandle" ∧ y_SpeciesSolverModel_way.cls ≠ "java/lang/invoke/VarHandle" ∧ (parseMethodDescriptor y_SpeciesSolverModel_way.desc).map (fun d => d.parameters.length) = some 2 := by decide +kernel
def m_SpeciesSolverModel_way   (a0 : Int32) (a1 : Int32) : Option (Int32) :=
  (if a1 ≤ a0 then
    (if a0 ≤ a1 then
      (some (0 : Int32))
    else
      (some (-1 : Int32)))
  else
    (some (1 : Int32)))
set_option maxHeartbeats 4000000 in
set_option maxRecDepth 100000 in
theorem e_SpeciesSolverModel_way {r : Int32}   {a0 : Int32} {a1 : Int32} {H : Heap} {locs : List Loc} {ls : Array Slot} (C : Cx p s m meth c args A D kc R_SpeciesSolverModel b_SpeciesSolverModel_way 2 (some .int)) (hm : m_SpeciesSolverModel_way  a0 a1 = some r) (hZ : St D A s (wd_SpeciesSolverModel_way kc ) H locs) (hl : lv_has ls 2 [(0, .int a0), (1, .int a1)]) : W p l e rm_SpeciesSolverModel_way s m args below meth c H locs 0 0 (MQ below (Qi D A (wd_SpeciesSolverModel_way kc ) r) args s 0 0 A) (F0 m 0 ls []) := by
  obtain ⟨hx, hb, hr, hts, hown, hml, hlocks, hK, hN, hA, hX⟩ := id C
  obtain ⟨hP, hD, hS⟩ := hZ
  unfold m_SpeciesSolverModel_way at hm
  refine lv_iload_n hx hb d_SpeciesSolverModel_way_0 rfl (lv_at hl 0 rfl) ?_
  refine lv_iload_n hx hb d_SpeciesSolverModel_way_1 rfl (lv_at hl 1 rfl) ?_
  refine lv_icmp_ge (tgt := 9) hx hb d_SpeciesSolverModel_way_2 (by decide) (fun c1 => ?_) (fun c1 => ?_)
  · replace hm := ifT hm c1
    refine lv_iload_n hx hb d_SpeciesSolverModel_way_9 rfl (lv_at hl 0 rfl) ?_
    refine lv_iload_n hx hb d_SpeciesSolverModel_way_10 rfl (lv_at hl 1 rfl) ?_
    refine lv_icmp_le (tgt := 18) hx hb d_SpeciesSolverModel_way_11 (by decide) (fun c2 => ?_) (fun c2 => ?_)
    · replace hm := ifT hm c2
      refine lv_iconst (v := 0) hx hb d_SpeciesSolverModel_way_18 (by decide) ?_
      replace hm := Option.some.inj hm; subst hm
      exact zret_i C hP hD hS d_SpeciesSolverModel_way_19
    · replace hm := ifF hm c2
      refine lv_iconst (v := -1) hx hb d_SpeciesSolverModel_way_14 (by decide) ?_
      refine lv_goto (tgt := 19) hx hb d_SpeciesSolverModel_way_15 (by decide) ?_
      replace hm := Option.some.inj hm; subst hm
      exact zret_i C hP hD hS d_SpeciesSolverModel_way_19
  · replace hm := ifF hm c1
    refine lv_iconst (v := 1) hx hb d_SpeciesSolverModel_way_5 (by decide) ?_
    refine lv_goto (tgt := 19) hx hb d_SpeciesSolverModel_way_6 (by decide) ?_
    replace hm := Option.some.inj hm; subst hm
    exact zret_i C hP hD hS d_SpeciesSolverModel_way_19
set_option maxHeartbeats 4000000 in
set_option maxRecDepth 100000 in
theorem c_SpeciesSolverModel_way {l : Launch} {D : va_G} {kc : Nat → ClassId} {r : Int32}   {a0 : Int32} {a1 : Int32} (hm : m_SpeciesSolverModel_way  a0 a1 = some r) (sz : Nat) : Ci l y_SpeciesSolverModel_way ws_SpeciesSolverModel_way rm_SpeciesSolverModel_way D kc sz [.int a0, .int a1] (wd_SpeciesSolverModel_way kc ) (wd_SpeciesSolverModel_way kc ) r :=
  Cz_of (Qf := fun A => (Qi D A (wd_SpeciesSolverModel_way kc ) r)) (cc := b_SpeciesSolverModel_way) (maxL := 2) (ret := (some .int)) (by decide) rfl rfl (fun C hZ hl => e_SpeciesSolverModel_way C hm hZ hl)
abbrev b_SpeciesSolverModel_isStep : ByteArray := prog_9_method_21_code
abbrev y_SpeciesSolverModel_isStep : MethodName := ⟨"SpeciesSolverModel", "isStep", "(II)Z"⟩
theorem d_SpeciesSolverModel_isStep_0 : decode b_SpeciesSolverModel_isStep 0 = .ok (.iload_n 1, 1) := by decide +kernel
theorem d_SpeciesSolverModel_isStep_1 : decode b_SpeciesSolverModel_isStep 1 = .ok (.iload_n 2, 1) := by decide +kernel
theorem d_SpeciesSolverModel_isStep_2 : decode b_SpeciesSolverModel_isStep 2 = .ok (.invokestatic 101, 3) := by decide +kernel
theorem d_SpeciesSolverModel_isStep_5 : decode b_SpeciesSolverModel_isStep 5 = .ok (.istore_n 3, 1) := by decide +kernel
theorem d_SpeciesSolverModel_isStep_6 : decode b_SpeciesSolverModel_isStep 6 = .ok (.iload_n 3, 1) := by decide +kernel
theorem d_SpeciesSolverModel_isStep_7 : decode b_SpeciesSolverModel_isStep 7 = .ok (.iconst 1, 1) := by decide +kernel
theorem d_SpeciesSolverModel_isStep_8 : decode b_SpeciesSolverModel_isStep 8 = .ok (.if_icmp .lt 18, 3) := by decide +kernel
theorem d_SpeciesSolverModel_isStep_11 : decode b_SpeciesSolverModel_isStep 11 = .ok (.iload_n 3, 1) := by decide +kernel
theorem d_SpeciesSolverModel_isStep_12 : decode b_SpeciesSolverModel_isStep 12 = .ok (.aload_n 0, 1) := by decide +kernel
theorem d_SpeciesSolverModel_isStep_13 : decode b_SpeciesSolverModel_isStep 13 = .ok (.getfield 28, 3) := by decide +kernel
theorem d_SpeciesSolverModel_isStep_16 : decode b_SpeciesSolverModel_isStep 16 = .ok (.bipush 8, 2) := by decide +kernel
theorem d_SpeciesSolverModel_isStep_18 : decode b_SpeciesSolverModel_isStep 18 = .ok (.iaload, 1) := by decide +kernel
theorem d_SpeciesSolverModel_isStep_19 : decode b_SpeciesSolverModel_isStep 19 = .ok (.if_icmp .gt 7, 3) := by decide +kernel
theorem d_SpeciesSolverModel_isStep_22 : decode b_SpeciesSolverModel_isStep 22 = .ok (.iconst 1, 1) := by decide +kernel
theorem d_SpeciesSolverModel_isStep_23 : decode b_SpeciesSolverModel_isStep 23 = .ok (.goto 4, 3) := by decide +kernel
theorem d_SpeciesSolverModel_isStep_26 : decode b_SpeciesSolverModel_isStep 26 = .ok (.iconst 0, 1) := by decide +kernel
theorem d_SpeciesSolverModel_isStep_27 : decode b_SpeciesSolverModel_isStep 27 = .ok (.ireturn, 1) := by decide +kernel
abbrev wd_SpeciesSolverModel_isStep (kc : Nat → ClassId) (ad : Nat → Nat) (md_thrown : Int32) (md_drafted : Int32) (md_lines : Int32) (md_n : Int32) (md_species : Int32) (md_above : Int32) (md_trialSize : Int32) (md_foundSize : Int32) (md_foundSpecies : Int32) (md_foundN : Int32) (md_foundCost : Int32) (md_chosen : Int32) (md_low : Int32) (md_many : Int64) (md_ties : Int64) (md_winnerCost : Int32) (md_allMany : Int64) (md_allTies : Int64) (md_faults : Int32) (md_numbers : Nat → Int32) : va_W := [((ad 0), .inr (1, [.int md_thrown, .ref (ad 1), .int md_drafted, .ref (ad 2), .int md_lines, .int md_n, .int md_species, .int md_above, .ref (ad 3), .ref (ad 4), .ref (ad 5), .int md_trialSize, .ref (ad 6), .int md_foundSize, .int md_foundSpecies, .int md_foundN, .int md_foundCost, .ref (ad 7), .int md_chosen, .ref (ad 8), .ref (ad 9), .ref (ad 10), .int md_low, .long md_many, .long md_ties, .ref (ad 11), .ref (ad 12), .int md_winnerCost, .long md_allMany, .long md_allTies, .ref (ad 13), .ref (ad 14), .ref (ad 15), .ref (ad 16), .int md_faults])), ((ad 4), .inl (kc 0, 18, .inl md_numbers))]
abbrev rm_SpeciesSolverModel_isStep : Room := { frames := 1, cells := 0, slots := 0, locals := 21 }
abbrev cw_SpeciesSolverModel_isStep : Cond := .code y_SpeciesSolverModel_isStep b_SpeciesSolverModel_isStep 4 (some .boolean)
abbrev ws_SpeciesSolverModel_isStep : List Cond := cw_SpeciesSolverModel_isStep :: GW
theorem hd_SpeciesSolverModel_isStep : y_SpeciesSolverModel_isStep.cls ≠ "java/lang/invoke/MethodHandle" ∧ y_SpeciesSolverModel_isStep.cls ≠ "java/lang/invoke/VarHandle" ∧ (parseMethodDescriptor y_SpeciesSolverModel_isStep.desc).map (fun d => d.parameters.length) = some 2 := by decide +kernel
def m_SpeciesSolverModel_isStep (md_numbers : Nat → Int32)  (a1 : Int32) (a2 : Int32) : Option (Int32) :=
  (bd (m_SpeciesSolverModel_far a1 a2) (fun u1 => (if u1 < (1 : Int32) then
    (some (0 : Int32))
  else
    (if (md_numbers (Int32.toNatClampNeg (8 : Int32))) < u1 then
      (some (0 : Int32))
    else
      (some (1 : Int32))))))
set_option maxHeartbeats 4000000 in
set_option maxRecDepth 100000 in
theorem e_SpeciesSolverModel_isStep {r : Int32} {ad : Nat → Nat} {md_thrown : Int32} {md_drafted : Int32} {md_lines : Int32} {md_n : Int32} {md_species : Int32} {md_above : Int32} {md_trialSize : Int32} {md_foundSize : Int32} {md_foundSpecies : Int32} {md_foundN : Int32} {md_foundCost : Int32} {md_chosen : Int32} {md_low : Int32} {md_many : Int64} {md_ties : Int64} {md_winnerCost : Int32} {md_allMany : Int64} {md_allTies : Int64} {md_faults : Int32} {md_numbers : Nat → Int32} {a1 : Int32} {a2 : Int32} {H : Heap} {locs : List Loc} {ls : Array Slot} (C : Cx p s m meth c args A D kc R_SpeciesSolverModel b_SpeciesSolverModel_isStep 4 (some .boolean)) (hm : m_SpeciesSolverModel_isStep md_numbers a1 a2 = some r) (hZ : St D A s (wd_SpeciesSolverModel_isStep kc ad md_thrown md_drafted md_lines md_n md_species md_above md_trialSize md_foundSize md_foundSpecies md_foundN md_foundCost md_chosen md_low md_many md_ties md_winnerCost md_allMany md_allTies md_faults md_numbers) H locs) (hl : lv_has ls 4 [(0, .ref (ad 0)), (1, .int a1), (2, .int a2)]) : W p l e rm_SpeciesSolverModel_isStep s m args below meth c H locs 0 0 (MQ below (Qi D A (wd_SpeciesSolverModel_isStep kc ad md_thrown md_drafted md_lines md_n md_species md_above md_trialSize md_foundSize md_foundSpecies md_foundN md_foundCost md_chosen md_low md_many md_ties md_winnerCost md_allMany md_allTies md_faults md_numbers) r) args s 0 0 A) (F0 m 0 ls []) := by
  obtain ⟨hx, hb, hr, hts, hown, hml, hlocks, hK, hN, hA, hX⟩ := id C
  obtain ⟨hP, hD, hS⟩ := hZ
  unfold m_SpeciesSolverModel_isStep at hm
  refine lv_iload_n hx hb d_SpeciesSolverModel_isStep_0 rfl (lv_at hl 1 rfl) ?_
  refine lv_iload_n hx hb d_SpeciesSolverModel_isStep_1 rfl (lv_at hl 2 rfl) ?_
  obtain ⟨u1, hc2, hm⟩ := bd_some hm
  refine zS_i (n := 2) (wr := [((ad 0), .inr (1, [.int md_thrown, .ref (ad 1), .int md_drafted, .ref (ad 2), .int md_lines, .int md_n, .int md_species, .int md_above, .ref (ad 3), .ref (ad 4), .ref (ad 5), .int md_trialSize, .ref (ad 6), .int md_foundSize, .int md_foundSpecies, .int md_foundN, .int md_foundCost, .ref (ad 7), .int md_chosen, .ref (ad 8), .ref (ad 9), .ref (ad 10), .int md_low, .long md_many, .long md_ties, .ref (ad 11), .ref (ad 12), .int md_winnerCost, .long md_allMany, .long md_allTies, .ref (ad 13), .ref (ad 14), .ref (ad 15), .ref (ad 16), .int md_faults])), ((ad 4), .inl (kc 0, 18, .inl md_numbers))]) (w1 := (wd_SpeciesSolverModel_far kc )) (ws1 := (wd_SpeciesSolverModel_isStep kc ad md_thrown md_drafted md_lines md_n md_species md_above md_trialSize md_foundSize md_foundSpecies md_foundN md_foundCost md_chosen md_low md_many md_ties md_winnerCost md_allMany md_allTies md_faults md_numbers)) (As := [.int a1, .int a2]) (rest := []) (y := y_SpeciesSolverModel_far) ⟨hx, hb, hml, hown, hts⟩ (fun sz => c_SpeciesSolverModel_far hc2 sz) gw_1029 gw_1027 gw_1028 gw_118 rfl hd_SpeciesSolverModel_far ⟨Nat.le_of_ble_eq_true rfl, Nat.le_of_ble_eq_true rfl⟩ ⟨rfl, rfl⟩ ⟨Nat.zero_le _, Nat.zero_le _⟩ hK hN hP hD hS hA hX [] [0, 1] [0, 1] rfl rfl (by decide) (by decide) (by decide) rfl (by decide) rfl hl.1 rfl (Nat.le_of_ble_eq_true rfl) d_SpeciesSolverModel_isStep_2 (fun H locs hP hD hS => ?_)
  refine lv_istore_n (lv' := [(3, .int u1), (0, .ref (ad 0)), (1, .int a1), (2, .int a2)]) hx hb d_SpeciesSolverModel_isStep_5 rfl hl (by decide) rfl (fun ls hl => ?_)
  refine lv_iload_n hx hb d_SpeciesSolverModel_isStep_6 rfl (lv_at hl 0 rfl) ?_
  refine lv_iconst (v := 1) hx hb d_SpeciesSolverModel_isStep_7 (by decide) ?_
  refine lv_icmp_lt (tgt := 26) hx hb d_SpeciesSolverModel_isStep_8 (by decide) (fun c3 => ?_) (fun c3 => ?_)
  · replace hm := ifT hm c3
    refine lv_iconst (v := 0) hx hb d_SpeciesSolverModel_isStep_26 (by decide) ?_
    replace hm := Option.some.inj hm; subst hm
    exact zret_z (v := 0) C hP hD hS (by rfl) d_SpeciesSolverModel_isStep_27
  · replace hm := ifF hm c3
    refine lv_iload_n hx hb d_SpeciesSolverModel_isStep_11 rfl (lv_at hl 0 rfl) ?_
    refine lv_aload_n hx hb d_SpeciesSolverModel_isStep_12 rfl (lv_at hl 1 rfl) ?_
    refine va_get (D := D) (ci := 1) (v := .ref (ad 4)) (C := R_SpeciesSolverModel) (T := T_SpeciesSolverModel) (N := 35) hx hb hts inG_SpeciesSolverModel hown hK hP 0 rfl rfl 9 (by decide) (hts _ gw_827) (fun _ h9 => h9) rfl d_SpeciesSolverModel_isStep_13 ?_
    refine lv_bipush (v := 8) hx hb d_SpeciesSolverModel_isStep_16 (by decide) ?_
    refine va_iald hx hb hK hP 1 0 rfl rfl (in_lit (by decide)) d_SpeciesSolverModel_isStep_18 ?_
    refine lv_icmp_gt (tgt := 26) hx hb d_SpeciesSolverModel_isStep_19 (by decide) (fun c4 => ?_) (fun c4 => ?_)
    · replace hm := ifT hm c4
      refine lv_iconst (v := 0) hx hb d_SpeciesSolverModel_isStep_26 (by decide) ?_
      replace hm := Option.some.inj hm; subst hm
      exact zret_z (v := 0) C hP hD hS (by rfl) d_SpeciesSolverModel_isStep_27
    · replace hm := ifF hm c4
      refine lv_iconst (v := 1) hx hb d_SpeciesSolverModel_isStep_22 (by decide) ?_
      refine lv_goto (tgt := 27) hx hb d_SpeciesSolverModel_isStep_23 (by decide) ?_
      replace hm := Option.some.inj hm; subst hm
      exact zret_z (v := 1) C hP hD hS (by rfl) d_SpeciesSolverModel_isStep_27
set_option maxHeartbeats 4000000 in
set_option maxRecDepth 100000 in
theorem c_SpeciesSolverModel_isStep {l : Launch} {D : va_G} {kc : Nat → ClassId} {r : Int32} {ad : Nat → Nat} {md_thrown : Int32} {md_drafted : Int32} {md_lines : Int32} {md_n : Int32} {md_species : Int32} {md_above : Int32} {md_trialSize : Int32} {md_foundSize : Int32} {md_foundSpecies : Int32} {md_foundN : Int32} {md_foundCost : Int32} {md_chosen : Int32} {md_low : Int32} {md_many : Int64} {md_ties : Int64} {md_winnerCost : Int32} {md_allMany : Int64} {md_allTies : Int64} {md_faults : Int32} {md_numbers : Nat → Int32} {a1 : Int32} {a2 : Int32} (hm : m_SpeciesSolverModel_isStep md_numbers a1 a2 = some r) (sz : Nat) : Ci l y_SpeciesSolverModel_isStep ws_SpeciesSolverModel_isStep rm_SpeciesSolverModel_isStep D kc sz [.ref (ad 0), .int a1, .int a2] (wd_SpeciesSolverModel_isStep kc ad md_thrown md_drafted md_lines md_n md_species md_above md_trialSize md_foundSize md_foundSpecies md_foundN md_foundCost md_chosen md_low md_many md_ties md_winnerCost md_allMany md_allTies md_faults md_numbers) (wd_SpeciesSolverModel_isStep kc ad md_thrown md_drafted md_lines md_n md_species md_above md_trialSize md_foundSize md_foundSpecies md_foundN md_foundCost md_chosen md_low md_many md_ties md_winnerCost md_allMany md_allTies md_faults md_numbers) r :=
  Cz_of (Qf := fun A => (Qi D A (wd_SpeciesSolverModel_isStep kc ad md_thrown md_drafted md_lines md_n md_species md_above md_trialSize md_foundSize md_foundSpecies md_foundN md_foundCost md_chosen md_low md_many md_ties md_winnerCost md_allMany md_allTies md_faults md_numbers) r)) (cc := b_SpeciesSolverModel_isStep) (maxL := 4) (ret := (some .boolean)) (by decide) rfl rfl (fun C hZ hl => e_SpeciesSolverModel_isStep C hm hZ hl)
abbrev b_SpeciesSolverModel_isAlike : ByteArray := prog_9_method_22_code
abbrev y_SpeciesSolverModel_isAlike : MethodName := ⟨"SpeciesSolverModel", "isAlike", "(IIII)Z"⟩
theorem d_SpeciesSolverModel_isAlike_0 : decode b_SpeciesSolverModel_isAlike 0 = .ok (.iload_n 3, 1) := by decide +kernel
theorem d_SpeciesSolverModel_isAlike_1 : decode b_SpeciesSolverModel_isAlike 1 = .ok (.iload 4, 2) := by decide +kernel
theorem d_SpeciesSolverModel_isAlike_3 : decode b_SpeciesSolverModel_isAlike 3 = .ok (.invokestatic 105, 3) := by decide +kernel
theorem d_SpeciesSolverModel_isAlike_6 : decode b_SpeciesSolverModel_isAlike 6 = .ok (.istore 5, 2) := by decide +kernel
theorem d_SpeciesSolverModel_isAlike_8 : decode b_SpeciesSolverModel_isAlike 8 = .ok (.iload 5, 2) := by decide +kernel
theorem d_SpeciesSolverModel_isAlike_10 : decode b_SpeciesSolverModel_isAlike 10 = .ok (.ifCond .eq 39, 3) := by decide +kernel
theorem d_SpeciesSolverModel_isAlike_13 : decode b_SpeciesSolverModel_isAlike 13 = .ok (.iload 5, 2) := by decide +kernel
theorem d_SpeciesSolverModel_isAlike_15 : decode b_SpeciesSolverModel_isAlike 15 = .ok (.aload_n 0, 1) := by decide +kernel
theorem d_SpeciesSolverModel_isAlike_16 : decode b_SpeciesSolverModel_isAlike 16 = .ok (.getfield 13, 3) := by decide +kernel
theorem d_SpeciesSolverModel_isAlike_19 : decode b_SpeciesSolverModel_isAlike 19 = .ok (.bipush 12, 2) := by decide +kernel
theorem d_SpeciesSolverModel_isAlike_21 : decode b_SpeciesSolverModel_isAlike 21 = .ok (.iload_n 1, 1) := by decide +kernel
theorem d_SpeciesSolverModel_isAlike_22 : decode b_SpeciesSolverModel_isAlike 22 = .ok (.imul, 1) := by decide +kernel
theorem d_SpeciesSolverModel_isAlike_23 : decode b_SpeciesSolverModel_isAlike 23 = .ok (.iload_n 2, 1) := by decide +kernel
theorem d_SpeciesSolverModel_isAlike_24 : decode b_SpeciesSolverModel_isAlike 24 = .ok (.aload_n 0, 1) := by decide +kernel
theorem d_SpeciesSolverModel_isAlike_25 : decode b_SpeciesSolverModel_isAlike 25 = .ok (.getfield 16, 3) := by decide +kernel
theorem d_SpeciesSolverModel_isAlike_28 : decode b_SpeciesSolverModel_isAlike 28 = .ok (.idiv, 1) := by decide +kernel
theorem d_SpeciesSolverModel_isAlike_29 : decode b_SpeciesSolverModel_isAlike 29 = .ok (.iadd, 1) := by decide +kernel
theorem d_SpeciesSolverModel_isAlike_30 : decode b_SpeciesSolverModel_isAlike 30 = .ok (.iconst 1, 1) := by decide +kernel
theorem d_SpeciesSolverModel_isAlike_31 : decode b_SpeciesSolverModel_isAlike 31 = .ok (.isub, 1) := by decide +kernel
theorem d_SpeciesSolverModel_isAlike_32 : decode b_SpeciesSolverModel_isAlike 32 = .ok (.iaload, 1) := by decide +kernel
theorem d_SpeciesSolverModel_isAlike_33 : decode b_SpeciesSolverModel_isAlike 33 = .ok (.aload_n 0, 1) := by decide +kernel
theorem d_SpeciesSolverModel_isAlike_34 : decode b_SpeciesSolverModel_isAlike 34 = .ok (.iload_n 1, 1) := by decide +kernel
theorem d_SpeciesSolverModel_isAlike_35 : decode b_SpeciesSolverModel_isAlike 35 = .ok (.iload_n 2, 1) := by decide +kernel
theorem d_SpeciesSolverModel_isAlike_36 : decode b_SpeciesSolverModel_isAlike 36 = .ok (.invokevirtual 108, 3) := by decide +kernel
theorem d_SpeciesSolverModel_isAlike_39 : decode b_SpeciesSolverModel_isAlike 39 = .ok (.invokestatic 105, 3) := by decide +kernel
theorem d_SpeciesSolverModel_isAlike_42 : decode b_SpeciesSolverModel_isAlike 42 = .ok (.if_icmp .ne 7, 3) := by decide +kernel
theorem d_SpeciesSolverModel_isAlike_45 : decode b_SpeciesSolverModel_isAlike 45 = .ok (.iconst 1, 1) := by decide +kernel
theorem d_SpeciesSolverModel_isAlike_46 : decode b_SpeciesSolverModel_isAlike 46 = .ok (.goto 4, 3) := by decide +kernel
theorem d_SpeciesSolverModel_isAlike_49 : decode b_SpeciesSolverModel_isAlike 49 = .ok (.iconst 0, 1) := by decide +kernel
theorem d_SpeciesSolverModel_isAlike_50 : decode b_SpeciesSolverModel_isAlike 50 = .ok (.ireturn, 1) := by decide +kernel
abbrev wd_SpeciesSolverModel_isAlike (kc : Nat → ClassId) (ad : Nat → Nat) (md_thrown : Int32) (md_drafted : Int32) (md_lines : Int32) (md_n : Int32) (md_species : Int32) (md_above : Int32) (md_trialSize : Int32) (md_foundSize : Int32) (md_foundSpecies : Int32) (md_foundN : Int32) (md_foundCost : Int32) (md_chosen : Int32) (md_low : Int32) (md_many : Int64) (md_ties : Int64) (md_winnerCost : Int32) (md_allMany : Int64) (md_allTies : Int64) (md_faults : Int32) (md_given : Nat → Int32) : va_W := [((ad 0), .inr (1, [.int md_thrown, .ref (ad 1), .int md_drafted, .ref (ad 2), .int md_lines, .int md_n, .int md_species, .int md_above, .ref (ad 3), .ref (ad 4), .ref (ad 5), .int md_trialSize, .ref (ad 6), .int md_foundSize, .int md_foundSpecies, .int md_foundN, .int md_foundCost, .ref (ad 7), .int md_chosen, .ref (ad 8), .ref (ad 9), .ref (ad 10), .int md_low, .long md_many, .long md_ties, .ref (ad 11), .ref (ad 12), .int md_winnerCost, .long md_allMany, .long md_allTies, .ref (ad 13), .ref (ad 14), .ref (ad 15), .ref (ad 16), .int md_faults])), ((ad 2), .inl (kc 0, 36, .inl md_given))]
abbrev rm_SpeciesSolverModel_isAlike : Room := { frames := 1, cells := 0, slots := 0, locals := 22 }
abbrev cw_SpeciesSolverModel_isAlike : Cond := .code y_SpeciesSolverModel_isAlike b_SpeciesSolverModel_isAlike 6 (some .boolean)
abbrev ws_SpeciesSolverModel_isAlike : List Cond := cw_SpeciesSolverModel_isAlike :: GW
theorem hd_SpeciesSolverModel_isAlike : y_SpeciesSolverModel_isAlike.cls ≠ "java/lang/invoke/MethodHandle" ∧ y_SpeciesSolverModel_isAlike.cls ≠ "java/lang/invoke/VarHandle" ∧ (parseMethodDescriptor y_SpeciesSolverModel_isAlike.desc).map (fun d => d.parameters.length) = some 4 := by decide +kernel
def m_SpeciesSolverModel_isAlike (md_species : Int32) (md_given : Nat → Int32)  (a1 : Int32) (a2 : Int32) (a3 : Int32) (a4 : Int32) : Option (Int32) :=
  (bd (m_SpeciesSolverModel_way a3 a4) (fun u1 => (if u1 = (0 : Int32) then
    (some (0 : Int32))
  else
    (nz md_species (gd ((((12 : Int32) * a1) + (a2 / md_species)) - (1 : Int32)) 36 (bd (m_SpeciesSolverModel_at md_species md_given a1 a2) (fun u6 => (bd (m_SpeciesSolverModel_way (md_given (Int32.toNatClampNeg ((((12 : Int32) * a1) + (a2 / md_species)) - (1 : Int32)))) u6) (fun u8 => (if u1 = u8 then
      (some (1 : Int32))
    else
      (some (0 : Int32))))))))))))
set_option maxHeartbeats 4000000 in
set_option maxRecDepth 100000 in
theorem e_SpeciesSolverModel_isAlike {r : Int32} {ad : Nat → Nat} {md_thrown : Int32} {md_drafted : Int32} {md_lines : Int32} {md_n : Int32} {md_species : Int32} {md_above : Int32} {md_trialSize : Int32} {md_foundSize : Int32} {md_foundSpecies : Int32} {md_foundN : Int32} {md_foundCost : Int32} {md_chosen : Int32} {md_low : Int32} {md_many : Int64} {md_ties : Int64} {md_winnerCost : Int32} {md_allMany : Int64} {md_allTies : Int64} {md_faults : Int32} {md_given : Nat → Int32} {a1 : Int32} {a2 : Int32} {a3 : Int32} {a4 : Int32} {H : Heap} {locs : List Loc} {ls : Array Slot} (C : Cx p s m meth c args A D kc R_SpeciesSolverModel b_SpeciesSolverModel_isAlike 6 (some .boolean)) (hm : m_SpeciesSolverModel_isAlike md_species md_given a1 a2 a3 a4 = some r) (hZ : St D A s (wd_SpeciesSolverModel_isAlike kc ad md_thrown md_drafted md_lines md_n md_species md_above md_trialSize md_foundSize md_foundSpecies md_foundN md_foundCost md_chosen md_low md_many md_ties md_winnerCost md_allMany md_allTies md_faults md_given) H locs) (hl : lv_has ls 6 [(0, .ref (ad 0)), (1, .int a1), (2, .int a2), (3, .int a3), (4, .int a4)]) : W p l e rm_SpeciesSolverModel_isAlike s m args below meth c H locs 0 0 (MQ below (Qi D A (wd_SpeciesSolverModel_isAlike kc ad md_thrown md_drafted md_lines md_n md_species md_above md_trialSize md_foundSize md_foundSpecies md_foundN md_foundCost md_chosen md_low md_many md_ties md_winnerCost md_allMany md_allTies md_faults md_given) r) args s 0 0 A) (F0 m 0 ls []) := by
  obtain ⟨hx, hb, hr, hts, hown, hml, hlocks, hK, hN, hA, hX⟩ := id C
  obtain ⟨hP, hD, hS⟩ := hZ
  unfold m_SpeciesSolverModel_isAlike at hm
  refine lv_iload_n hx hb d_SpeciesSolverModel_isAlike_0 rfl (lv_at hl 3 rfl) ?_
  refine lv_iload hx hb d_SpeciesSolverModel_isAlike_1 (lv_at hl 4 rfl) ?_
  obtain ⟨u1, hc2, hm⟩ := bd_some hm
  refine zS_i (n := 2) (wr := [((ad 0), .inr (1, [.int md_thrown, .ref (ad 1), .int md_drafted, .ref (ad 2), .int md_lines, .int md_n, .int md_species, .int md_above, .ref (ad 3), .ref (ad 4), .ref (ad 5), .int md_trialSize, .ref (ad 6), .int md_foundSize, .int md_foundSpecies, .int md_foundN, .int md_foundCost, .ref (ad 7), .int md_chosen, .ref (ad 8), .ref (ad 9), .ref (ad 10), .int md_low, .long md_many, .long md_ties, .ref (ad 11), .ref (ad 12), .int md_winnerCost, .long md_allMany, .long md_allTies, .ref (ad 13), .ref (ad 14), .ref (ad 15), .ref (ad 16), .int md_faults])), ((ad 2), .inl (kc 0, 36, .inl md_given))]) (w1 := (wd_SpeciesSolverModel_way kc )) (ws1 := (wd_SpeciesSolverModel_isAlike kc ad md_thrown md_drafted md_lines md_n md_species md_above md_trialSize md_foundSize md_foundSpecies md_foundN md_foundCost md_chosen md_low md_many md_ties md_winnerCost md_allMany md_allTies md_faults md_given)) (As := [.int a3, .int a4]) (rest := []) (y := y_SpeciesSolverModel_way) ⟨hx, hb, hml, hown, hts⟩ (fun sz => c_SpeciesSolverModel_way hc2 sz) gw_1040 gw_1038 gw_1039 gw_118 rfl hd_SpeciesSolverModel_way ⟨Nat.le_of_ble_eq_true rfl, Nat.le_of_ble_eq_true rfl⟩ ⟨rfl, rfl⟩ ⟨Nat.zero_le _, Nat.zero_le _⟩ hK hN hP hD hS hA hX [] [0, 1] [0, 1] rfl rfl (by decide) (by decide) (by decide) rfl (by decide) rfl hl.1 rfl (Nat.le_of_ble_eq_true rfl) d_SpeciesSolverModel_isAlike_3 (fun H locs hP hD hS => ?_)
  refine lv_istore (lv' := [(5, .int u1), (0, .ref (ad 0)), (1, .int a1), (2, .int a2), (3, .int a3), (4, .int a4)]) hx hb d_SpeciesSolverModel_isAlike_6 hl (by decide) rfl (fun ls hl => ?_)
  refine lv_iload hx hb d_SpeciesSolverModel_isAlike_8 (lv_at hl 0 rfl) ?_
  refine lv_if_eq (tgt := 49) hx hb d_SpeciesSolverModel_isAlike_10 (by decide) (fun c3 => ?_) (fun c3 => ?_)
  · replace hm := ifT hm c3
    refine lv_iconst (v := 0) hx hb d_SpeciesSolverModel_isAlike_49 (by decide) ?_
    replace hm := Option.some.inj hm; subst hm
    exact zret_z (v := 0) C hP hD hS (by rfl) d_SpeciesSolverModel_isAlike_50
  · replace hm := ifF hm c3
    refine lv_iload hx hb d_SpeciesSolverModel_isAlike_13 (lv_at hl 0 rfl) ?_
    refine lv_aload_n hx hb d_SpeciesSolverModel_isAlike_15 rfl (lv_at hl 1 rfl) ?_
    refine va_get (D := D) (ci := 1) (v := .ref (ad 2)) (C := R_SpeciesSolverModel) (T := T_SpeciesSolverModel) (N := 35) hx hb hts inG_SpeciesSolverModel hown hK hP 0 rfl rfl 3 (by decide) (hts _ gw_821) (fun _ h9 => h9) rfl d_SpeciesSolverModel_isAlike_16 ?_
    refine lv_bipush (v := 12) hx hb d_SpeciesSolverModel_isAlike_19 (by decide) ?_
    refine lv_iload_n hx hb d_SpeciesSolverModel_isAlike_21 rfl (lv_at hl 2 rfl) ?_
    refine lv_imul hx hb d_SpeciesSolverModel_isAlike_22 ?_
    refine lv_iload_n hx hb d_SpeciesSolverModel_isAlike_23 rfl (lv_at hl 3 rfl) ?_
    refine lv_aload_n hx hb d_SpeciesSolverModel_isAlike_24 rfl (lv_at hl 1 rfl) ?_
    refine va_get (D := D) (ci := 1) (v := .int md_species) (C := R_SpeciesSolverModel) (T := T_SpeciesSolverModel) (N := 35) hx hb hts inG_SpeciesSolverModel hown hK hP 0 rfl rfl 6 (by decide) (hts _ gw_824) (fun _ h9 => h9) rfl d_SpeciesSolverModel_isAlike_25 ?_
    obtain ⟨hz4, hm⟩ := nz_some hm
    refine lv_idiv hx hb d_SpeciesSolverModel_isAlike_28 hz4 ?_
    refine lv_iadd hx hb d_SpeciesSolverModel_isAlike_29 ?_
    refine lv_iconst (v := 1) hx hb d_SpeciesSolverModel_isAlike_30 (by decide) ?_
    refine lv_isub hx hb d_SpeciesSolverModel_isAlike_31 ?_
    obtain ⟨hi5, hm⟩ := gd_some hm
    refine va_iald hx hb hK hP 1 0 rfl rfl hi5 d_SpeciesSolverModel_isAlike_32 ?_
    refine lv_aload_n hx hb d_SpeciesSolverModel_isAlike_33 rfl (lv_at hl 1 rfl) ?_
    refine lv_iload_n hx hb d_SpeciesSolverModel_isAlike_34 rfl (lv_at hl 2 rfl) ?_
    refine lv_iload_n hx hb d_SpeciesSolverModel_isAlike_35 rfl (lv_at hl 3 rfl) ?_
    obtain ⟨u6, hc7, hm⟩ := bd_some hm
    refine zV_i (n := 2) (wr := []) (w1 := (wd_SpeciesSolverModel_at kc ad md_thrown md_drafted md_lines md_n md_species md_above md_trialSize md_foundSize md_foundSpecies md_foundN md_foundCost md_chosen md_low md_many md_ties md_winnerCost md_allMany md_allTies md_faults md_given)) (ws1 := (wd_SpeciesSolverModel_isAlike kc ad md_thrown md_drafted md_lines md_n md_species md_above md_trialSize md_foundSize md_foundSpecies md_foundN md_foundCost md_chosen md_low md_many md_ties md_winnerCost md_allMany md_allTies md_faults md_given)) (As := [.int a1, .int a2]) (rest := [.int (md_given (Int32.toNatClampNeg ((((12 : Int32) * a1) + (a2 / md_species)) - (1 : Int32)))), .int u1]) (ci := 1) (q0 := 0) (y := y_SpeciesSolverModel_at) ⟨hx, hb, hml, hown, hts⟩ (fun sz => c_SpeciesSolverModel_at hc7 sz) gw_1022 gw_1019 gw_1021 gw_85 gw_118 hd_SpeciesSolverModel_at ⟨Nat.le_of_ble_eq_true rfl, Nat.le_of_ble_eq_true rfl⟩ ⟨rfl, rfl⟩ ⟨Nat.zero_le _, Nat.zero_le _⟩ hK hN hP hD hS hA hX [0, 1] [] [0, 1] rfl rfl (by decide) (by decide) (by decide) rfl (by decide) rfl rfl rfl hl.1 rfl (Nat.le_of_ble_eq_true rfl) d_SpeciesSolverModel_isAlike_36 (fun H locs hP hD hS => ?_)
    obtain ⟨u8, hc9, hm⟩ := bd_some hm
    refine zS_i (n := 2) (wr := [((ad 0), .inr (1, [.int md_thrown, .ref (ad 1), .int md_drafted, .ref (ad 2), .int md_lines, .int md_n, .int md_species, .int md_above, .ref (ad 3), .ref (ad 4), .ref (ad 5), .int md_trialSize, .ref (ad 6), .int md_foundSize, .int md_foundSpecies, .int md_foundN, .int md_foundCost, .ref (ad 7), .int md_chosen, .ref (ad 8), .ref (ad 9), .ref (ad 10), .int md_low, .long md_many, .long md_ties, .ref (ad 11), .ref (ad 12), .int md_winnerCost, .long md_allMany, .long md_allTies, .ref (ad 13), .ref (ad 14), .ref (ad 15), .ref (ad 16), .int md_faults])), ((ad 2), .inl (kc 0, 36, .inl md_given))]) (w1 := (wd_SpeciesSolverModel_way kc )) (ws1 := (wd_SpeciesSolverModel_isAlike kc ad md_thrown md_drafted md_lines md_n md_species md_above md_trialSize md_foundSize md_foundSpecies md_foundN md_foundCost md_chosen md_low md_many md_ties md_winnerCost md_allMany md_allTies md_faults md_given)) (As := [.int (md_given (Int32.toNatClampNeg ((((12 : Int32) * a1) + (a2 / md_species)) - (1 : Int32)))), .int u6]) (rest := [.int u1]) (y := y_SpeciesSolverModel_way) ⟨hx, hb, hml, hown, hts⟩ (fun sz => c_SpeciesSolverModel_way hc9 sz) gw_1040 gw_1038 gw_1039 gw_118 rfl hd_SpeciesSolverModel_way ⟨Nat.le_of_ble_eq_true rfl, Nat.le_of_ble_eq_true rfl⟩ ⟨rfl, rfl⟩ ⟨Nat.zero_le _, Nat.zero_le _⟩ hK hN hP hD hS hA hX [] [0, 1] [0, 1] rfl rfl (by decide) (by decide) (by decide) rfl (by decide) rfl hl.1 rfl (Nat.le_of_ble_eq_true rfl) d_SpeciesSolverModel_isAlike_39 (fun H locs hP hD hS => ?_)
    refine lv_icmp_ne (tgt := 49) hx hb d_SpeciesSolverModel_isAlike_42 (by decide) (fun c10 => ?_) (fun c10 => ?_)
    · replace hm := ifF hm c10
      refine lv_iconst (v := 0) hx hb d_SpeciesSolverModel_isAlike_49 (by decide) ?_
      replace hm := Option.some.inj hm; subst hm
      exact zret_z (v := 0) C hP hD hS (by rfl) d_SpeciesSolverModel_isAlike_50
    · replace hm := ifT hm c10
      refine lv_iconst (v := 1) hx hb d_SpeciesSolverModel_isAlike_45 (by decide) ?_
      refine lv_goto (tgt := 50) hx hb d_SpeciesSolverModel_isAlike_46 (by decide) ?_
      replace hm := Option.some.inj hm; subst hm
      exact zret_z (v := 1) C hP hD hS (by rfl) d_SpeciesSolverModel_isAlike_50
set_option maxHeartbeats 4000000 in
set_option maxRecDepth 100000 in
theorem c_SpeciesSolverModel_isAlike {l : Launch} {D : va_G} {kc : Nat → ClassId} {r : Int32} {ad : Nat → Nat} {md_thrown : Int32} {md_drafted : Int32} {md_lines : Int32} {md_n : Int32} {md_species : Int32} {md_above : Int32} {md_trialSize : Int32} {md_foundSize : Int32} {md_foundSpecies : Int32} {md_foundN : Int32} {md_foundCost : Int32} {md_chosen : Int32} {md_low : Int32} {md_many : Int64} {md_ties : Int64} {md_winnerCost : Int32} {md_allMany : Int64} {md_allTies : Int64} {md_faults : Int32} {md_given : Nat → Int32} {a1 : Int32} {a2 : Int32} {a3 : Int32} {a4 : Int32} (hm : m_SpeciesSolverModel_isAlike md_species md_given a1 a2 a3 a4 = some r) (sz : Nat) : Ci l y_SpeciesSolverModel_isAlike ws_SpeciesSolverModel_isAlike rm_SpeciesSolverModel_isAlike D kc sz [.ref (ad 0), .int a1, .int a2, .int a3, .int a4] (wd_SpeciesSolverModel_isAlike kc ad md_thrown md_drafted md_lines md_n md_species md_above md_trialSize md_foundSize md_foundSpecies md_foundN md_foundCost md_chosen md_low md_many md_ties md_winnerCost md_allMany md_allTies md_faults md_given) (wd_SpeciesSolverModel_isAlike kc ad md_thrown md_drafted md_lines md_n md_species md_above md_trialSize md_foundSize md_foundSpecies md_foundN md_foundCost md_chosen md_low md_many md_ties md_winnerCost md_allMany md_allTies md_faults md_given) r :=
  Cz_of (Qf := fun A => (Qi D A (wd_SpeciesSolverModel_isAlike kc ad md_thrown md_drafted md_lines md_n md_species md_above md_trialSize md_foundSize md_foundSpecies md_foundN md_foundCost md_chosen md_low md_many md_ties md_winnerCost md_allMany md_allTies md_faults md_given) r)) (cc := b_SpeciesSolverModel_isAlike) (maxL := 6) (ret := (some .boolean)) (by decide) rfl rfl (fun C hZ hl => e_SpeciesSolverModel_isAlike C hm hZ hl)
abbrev b_SpeciesSolverModel_rule0 : ByteArray := prog_9_method_23_code
abbrev y_SpeciesSolverModel_rule0 : MethodName := ⟨"SpeciesSolverModel", "rule0", "(III)Z"⟩
theorem d_SpeciesSolverModel_rule0_0 : decode b_SpeciesSolverModel_rule0 0 = .ok (.aload_n 0, 1) := by decide +kernel
theorem d_SpeciesSolverModel_rule0_1 : decode b_SpeciesSolverModel_rule0 1 = .ok (.iload_n 2, 1) := by decide +kernel
theorem d_SpeciesSolverModel_rule0_2 : decode b_SpeciesSolverModel_rule0 2 = .ok (.invokevirtual 111, 3) := by decide +kernel
theorem d_SpeciesSolverModel_rule0_5 : decode b_SpeciesSolverModel_rule0 5 = .ok (.ifCond .eq 22, 3) := by decide +kernel
theorem d_SpeciesSolverModel_rule0_8 : decode b_SpeciesSolverModel_rule0 8 = .ok (.aload_n 0, 1) := by decide +kernel
theorem d_SpeciesSolverModel_rule0_9 : decode b_SpeciesSolverModel_rule0 9 = .ok (.iconst 3, 1) := by decide +kernel
theorem d_SpeciesSolverModel_rule0_10 : decode b_SpeciesSolverModel_rule0 10 = .ok (.iload_n 3, 1) := by decide +kernel
theorem d_SpeciesSolverModel_rule0_11 : decode b_SpeciesSolverModel_rule0 11 = .ok (.aload_n 0, 1) := by decide +kernel
theorem d_SpeciesSolverModel_rule0_12 : decode b_SpeciesSolverModel_rule0 12 = .ok (.iload_n 1, 1) := by decide +kernel
theorem d_SpeciesSolverModel_rule0_13 : decode b_SpeciesSolverModel_rule0 13 = .ok (.iload_n 2, 1) := by decide +kernel
theorem d_SpeciesSolverModel_rule0_14 : decode b_SpeciesSolverModel_rule0 14 = .ok (.invokevirtual 108, 3) := by decide +kernel
theorem d_SpeciesSolverModel_rule0_17 : decode b_SpeciesSolverModel_rule0 17 = .ok (.invokevirtual 115, 3) := by decide +kernel
theorem d_SpeciesSolverModel_rule0_20 : decode b_SpeciesSolverModel_rule0 20 = .ok (.ifCond .ne 7, 3) := by decide +kernel
theorem d_SpeciesSolverModel_rule0_23 : decode b_SpeciesSolverModel_rule0 23 = .ok (.iconst 1, 1) := by decide +kernel
theorem d_SpeciesSolverModel_rule0_24 : decode b_SpeciesSolverModel_rule0 24 = .ok (.goto 4, 3) := by decide +kernel
theorem d_SpeciesSolverModel_rule0_27 : decode b_SpeciesSolverModel_rule0 27 = .ok (.iconst 0, 1) := by decide +kernel
theorem d_SpeciesSolverModel_rule0_28 : decode b_SpeciesSolverModel_rule0 28 = .ok (.ireturn, 1) := by decide +kernel
abbrev wd_SpeciesSolverModel_rule0 (kc : Nat → ClassId) (ad : Nat → Nat) (md_thrown : Int32) (md_drafted : Int32) (md_lines : Int32) (md_n : Int32) (md_species : Int32) (md_above : Int32) (md_trialSize : Int32) (md_foundSize : Int32) (md_foundSpecies : Int32) (md_foundN : Int32) (md_foundCost : Int32) (md_chosen : Int32) (md_low : Int32) (md_many : Int64) (md_ties : Int64) (md_winnerCost : Int32) (md_allMany : Int64) (md_allTies : Int64) (md_faults : Int32) (md_given : Nat → Int32) (md_numbers : Nat → Int32) : va_W := [((ad 0), .inr (1, [.int md_thrown, .ref (ad 1), .int md_drafted, .ref (ad 2), .int md_lines, .int md_n, .int md_species, .int md_above, .ref (ad 3), .ref (ad 4), .ref (ad 5), .int md_trialSize, .ref (ad 6), .int md_foundSize, .int md_foundSpecies, .int md_foundN, .int md_foundCost, .ref (ad 7), .int md_chosen, .ref (ad 8), .ref (ad 9), .ref (ad 10), .int md_low, .long md_many, .long md_ties, .ref (ad 11), .ref (ad 12), .int md_winnerCost, .long md_allMany, .long md_allTies, .ref (ad 13), .ref (ad 14), .ref (ad 15), .ref (ad 16), .int md_faults])), ((ad 2), .inl (kc 0, 36, .inl md_given)), ((ad 4), .inl (kc 0, 18, .inl md_numbers))]
abbrev rm_SpeciesSolverModel_rule0 : Room := { frames := 2, cells := 0, slots := 0, locals := 44 }
abbrev cw_SpeciesSolverModel_rule0 : Cond := .code y_SpeciesSolverModel_rule0 b_SpeciesSolverModel_rule0 4 (some .boolean)
abbrev ws_SpeciesSolverModel_rule0 : List Cond := cw_SpeciesSolverModel_rule0 :: GW
theorem hd_SpeciesSolverModel_rule0 : y_SpeciesSolverModel_rule0.cls ≠ "java/lang/invoke/MethodHandle" ∧ y_SpeciesSolverModel_rule0.cls ≠ "java/lang/invoke/VarHandle" ∧ (parseMethodDescriptor y_SpeciesSolverModel_rule0.desc).map (fun d => d.parameters.length) = some 3 := by decide +kernel
def m_SpeciesSolverModel_rule0 (md_species : Int32) (md_given : Nat → Int32) (md_numbers : Nat → Int32)  (a1 : Int32) (a2 : Int32) (a3 : Int32) : Option (Int32) :=
  (bd (m_SpeciesSolverModel_isStrong md_species a2) (fun u1 => (if u1 = (0 : Int32) then
    (some (0 : Int32))
  else
    (bd (m_SpeciesSolverModel_at md_species md_given a1 a2) (fun u4 => (bd (m_SpeciesSolverModel_isIn md_numbers (3 : Int32) a3 u4) (fun u6 => (if u6 = (0 : Int32) then
      (some (1 : Int32))
    else
      (some (0 : Int32))))))))))
set_option maxHeartbeats 4000000 in
set_option maxRecDepth 100000 in
theorem e_SpeciesSolverModel_rule0 {r : Int32} {ad : Nat → Nat} {md_thrown : Int32} {md_drafted : Int32} {md_lines : Int32} {md_n : Int32} {md_species : Int32} {md_above : Int32} {md_trialSize : Int32} {md_foundSize : Int32} {md_foundSpecies : Int32} {md_foundN : Int32} {md_foundCost : Int32} {md_chosen : Int32} {md_low : Int32} {md_many : Int64} {md_ties : Int64} {md_winnerCost : Int32} {md_allMany : Int64} {md_allTies : Int64} {md_faults : Int32} {md_given : Nat → Int32} {md_numbers : Nat → Int32} {a1 : Int32} {a2 : Int32} {a3 : Int32} {H : Heap} {locs : List Loc} {ls : Array Slot} (C : Cx p s m meth c args A D kc R_SpeciesSolverModel b_SpeciesSolverModel_rule0 4 (some .boolean)) (hm : m_SpeciesSolverModel_rule0 md_species md_given md_numbers a1 a2 a3 = some r) (hZ : St D A s (wd_SpeciesSolverModel_rule0 kc ad md_thrown md_drafted md_lines md_n md_species md_above md_trialSize md_foundSize md_foundSpecies md_foundN md_foundCost md_chosen md_low md_many md_ties md_winnerCost md_allMany md_allTies md_faults md_given md_numbers) H locs) (hl : lv_has ls 4 [(0, .ref (ad 0)), (1, .int a1), (2, .int a2), (3, .int a3)]) : W p l e rm_SpeciesSolverModel_rule0 s m args below meth c H locs 0 0 (MQ below (Qi D A (wd_SpeciesSolverModel_rule0 kc ad md_thrown md_drafted md_lines md_n md_species md_above md_trialSize md_foundSize md_foundSpecies md_foundN md_foundCost md_chosen md_low md_many md_ties md_winnerCost md_allMany md_allTies md_faults md_given md_numbers) r) args s 0 0 A) (F0 m 0 ls []) := by
  obtain ⟨hx, hb, hr, hts, hown, hml, hlocks, hK, hN, hA, hX⟩ := id C
  obtain ⟨hP, hD, hS⟩ := hZ
  unfold m_SpeciesSolverModel_rule0 at hm
  refine lv_aload_n hx hb d_SpeciesSolverModel_rule0_0 rfl (lv_at hl 0 rfl) ?_
  refine lv_iload_n hx hb d_SpeciesSolverModel_rule0_1 rfl (lv_at hl 2 rfl) ?_
  obtain ⟨u1, hc2, hm⟩ := bd_some hm
  refine zV_i (n := 1) (wr := [((ad 2), .inl (kc 0, 36, .inl md_given)), ((ad 4), .inl (kc 0, 18, .inl md_numbers))]) (w1 := (wd_SpeciesSolverModel_isStrong kc ad md_thrown md_drafted md_lines md_n md_species md_above md_trialSize md_foundSize md_foundSpecies md_foundN md_foundCost md_chosen md_low md_many md_ties md_winnerCost md_allMany md_allTies md_faults)) (ws1 := (wd_SpeciesSolverModel_rule0 kc ad md_thrown md_drafted md_lines md_n md_species md_above md_trialSize md_foundSize md_foundSpecies md_foundN md_foundCost md_chosen md_low md_many md_ties md_winnerCost md_allMany md_allTies md_faults md_given md_numbers)) (As := [.int a2]) (rest := []) (ci := 1) (q0 := 0) (y := y_SpeciesSolverModel_isStrong) ⟨hx, hb, hml, hown, hts⟩ (fun sz => c_SpeciesSolverModel_isStrong hc2 sz) gw_999 gw_996 gw_998 gw_80 gw_118 hd_SpeciesSolverModel_isStrong ⟨Nat.le_of_ble_eq_true rfl, Nat.le_of_ble_eq_true rfl⟩ ⟨rfl, rfl⟩ ⟨Nat.zero_le _, Nat.zero_le _⟩ hK hN hP hD hS hA hX [0] [1, 2] [2, 0, 1] rfl rfl (by decide) (by decide) (by decide) rfl (by decide) rfl rfl rfl hl.1 rfl (Nat.le_of_ble_eq_true rfl) d_SpeciesSolverModel_rule0_2 (fun H locs hP hD hS => ?_)
  refine lv_if_eq (tgt := 27) hx hb d_SpeciesSolverModel_rule0_5 (by decide) (fun c3 => ?_) (fun c3 => ?_)
  · replace hm := ifT hm c3
    refine lv_iconst (v := 0) hx hb d_SpeciesSolverModel_rule0_27 (by decide) ?_
    replace hm := Option.some.inj hm; subst hm
    exact zret_z (v := 0) C hP hD hS (by rfl) d_SpeciesSolverModel_rule0_28
  · replace hm := ifF hm c3
    refine lv_aload_n hx hb d_SpeciesSolverModel_rule0_8 rfl (lv_at hl 0 rfl) ?_
    refine lv_iconst (v := 3) hx hb d_SpeciesSolverModel_rule0_9 (by decide) ?_
    refine lv_iload_n hx hb d_SpeciesSolverModel_rule0_10 rfl (lv_at hl 3 rfl) ?_
    refine lv_aload_n hx hb d_SpeciesSolverModel_rule0_11 rfl (lv_at hl 0 rfl) ?_
    refine lv_iload_n hx hb d_SpeciesSolverModel_rule0_12 rfl (lv_at hl 1 rfl) ?_
    refine lv_iload_n hx hb d_SpeciesSolverModel_rule0_13 rfl (lv_at hl 2 rfl) ?_
    obtain ⟨u4, hc5, hm⟩ := bd_some hm
    refine zV_i (n := 2) (wr := [((ad 4), .inl (kc 0, 18, .inl md_numbers))]) (w1 := (wd_SpeciesSolverModel_at kc ad md_thrown md_drafted md_lines md_n md_species md_above md_trialSize md_foundSize md_foundSpecies md_foundN md_foundCost md_chosen md_low md_many md_ties md_winnerCost md_allMany md_allTies md_faults md_given)) (ws1 := (wd_SpeciesSolverModel_rule0 kc ad md_thrown md_drafted md_lines md_n md_species md_above md_trialSize md_foundSize md_foundSpecies md_foundN md_foundCost md_chosen md_low md_many md_ties md_winnerCost md_allMany md_allTies md_faults md_given md_numbers)) (As := [.int a1, .int a2]) (rest := [.int a3, .int (3 : Int32), .ref (ad 0)]) (ci := 1) (q0 := 0) (y := y_SpeciesSolverModel_at) ⟨hx, hb, hml, hown, hts⟩ (fun sz => c_SpeciesSolverModel_at hc5 sz) gw_1022 gw_1019 gw_1021 gw_85 gw_118 hd_SpeciesSolverModel_at ⟨Nat.le_of_ble_eq_true rfl, Nat.le_of_ble_eq_true rfl⟩ ⟨rfl, rfl⟩ ⟨Nat.zero_le _, Nat.zero_le _⟩ hK hN hP hD hS hA hX [0, 1] [2] [1, 2, 0] rfl rfl (by decide) (by decide) (by decide) rfl (by decide) rfl rfl rfl hl.1 rfl (Nat.le_of_ble_eq_true rfl) d_SpeciesSolverModel_rule0_14 (fun H locs hP hD hS => ?_)
    obtain ⟨u6, hc7, hm⟩ := bd_some hm
    refine zV_i (n := 3) (wr := [((ad 2), .inl (kc 0, 36, .inl md_given))]) (w1 := (wd_SpeciesSolverModel_isIn kc ad md_thrown md_drafted md_lines md_n md_species md_above md_trialSize md_foundSize md_foundSpecies md_foundN md_foundCost md_chosen md_low md_many md_ties md_winnerCost md_allMany md_allTies md_faults md_numbers)) (ws1 := (wd_SpeciesSolverModel_rule0 kc ad md_thrown md_drafted md_lines md_n md_species md_above md_trialSize md_foundSize md_foundSpecies md_foundN md_foundCost md_chosen md_low md_many md_ties md_winnerCost md_allMany md_allTies md_faults md_given md_numbers)) (As := [.int (3 : Int32), .int a3, .int u4]) (rest := []) (ci := 1) (q0 := 0) (y := y_SpeciesSolverModel_isIn) ⟨hx, hb, hml, hown, hts⟩ (fun sz => c_SpeciesSolverModel_isIn hc7 sz) gw_1026 gw_1023 gw_1025 gw_86 gw_118 hd_SpeciesSolverModel_isIn ⟨Nat.le_of_ble_eq_true rfl, Nat.le_of_ble_eq_true rfl⟩ ⟨rfl, rfl⟩ ⟨Nat.zero_le _, Nat.zero_le _⟩ hK hN hP hD hS hA hX [0, 2] [1] [1, 0, 2] rfl rfl (by decide) (by decide) (by decide) rfl (by decide) rfl rfl rfl hl.1 rfl (Nat.le_of_ble_eq_true rfl) d_SpeciesSolverModel_rule0_17 (fun H locs hP hD hS => ?_)
    refine lv_if_ne (tgt := 27) hx hb d_SpeciesSolverModel_rule0_20 (by decide) (fun c8 => ?_) (fun c8 => ?_)
    · replace hm := ifF hm c8
      refine lv_iconst (v := 0) hx hb d_SpeciesSolverModel_rule0_27 (by decide) ?_
      replace hm := Option.some.inj hm; subst hm
      exact zret_z (v := 0) C hP hD hS (by rfl) d_SpeciesSolverModel_rule0_28
    · replace hm := ifT hm c8
      refine lv_iconst (v := 1) hx hb d_SpeciesSolverModel_rule0_23 (by decide) ?_
      refine lv_goto (tgt := 28) hx hb d_SpeciesSolverModel_rule0_24 (by decide) ?_
      replace hm := Option.some.inj hm; subst hm
      exact zret_z (v := 1) C hP hD hS (by rfl) d_SpeciesSolverModel_rule0_28
set_option maxHeartbeats 4000000 in
set_option maxRecDepth 100000 in
theorem c_SpeciesSolverModel_rule0 {l : Launch} {D : va_G} {kc : Nat → ClassId} {r : Int32} {ad : Nat → Nat} {md_thrown : Int32} {md_drafted : Int32} {md_lines : Int32} {md_n : Int32} {md_species : Int32} {md_above : Int32} {md_trialSize : Int32} {md_foundSize : Int32} {md_foundSpecies : Int32} {md_foundN : Int32} {md_foundCost : Int32} {md_chosen : Int32} {md_low : Int32} {md_many : Int64} {md_ties : Int64} {md_winnerCost : Int32} {md_allMany : Int64} {md_allTies : Int64} {md_faults : Int32} {md_given : Nat → Int32} {md_numbers : Nat → Int32} {a1 : Int32} {a2 : Int32} {a3 : Int32} (hm : m_SpeciesSolverModel_rule0 md_species md_given md_numbers a1 a2 a3 = some r) (sz : Nat) : Ci l y_SpeciesSolverModel_rule0 ws_SpeciesSolverModel_rule0 rm_SpeciesSolverModel_rule0 D kc sz [.ref (ad 0), .int a1, .int a2, .int a3] (wd_SpeciesSolverModel_rule0 kc ad md_thrown md_drafted md_lines md_n md_species md_above md_trialSize md_foundSize md_foundSpecies md_foundN md_foundCost md_chosen md_low md_many md_ties md_winnerCost md_allMany md_allTies md_faults md_given md_numbers) (wd_SpeciesSolverModel_rule0 kc ad md_thrown md_drafted md_lines md_n md_species md_above md_trialSize md_foundSize md_foundSpecies md_foundN md_foundCost md_chosen md_low md_many md_ties md_winnerCost md_allMany md_allTies md_faults md_given md_numbers) r :=
  Cz_of (Qf := fun A => (Qi D A (wd_SpeciesSolverModel_rule0 kc ad md_thrown md_drafted md_lines md_n md_species md_above md_trialSize md_foundSize md_foundSpecies md_foundN md_foundCost md_chosen md_low md_many md_ties md_winnerCost md_allMany md_allTies md_faults md_given md_numbers) r)) (cc := b_SpeciesSolverModel_rule0) (maxL := 4) (ret := (some .boolean)) (by decide) rfl rfl (fun C hZ hl => e_SpeciesSolverModel_rule0 C hm hZ hl)
abbrev b_SpeciesSolverModel_rule1 : ByteArray := prog_9_method_24_code
abbrev y_SpeciesSolverModel_rule1 : MethodName := ⟨"SpeciesSolverModel", "rule1", "(IIII)Z"⟩
theorem d_SpeciesSolverModel_rule1_0 : decode b_SpeciesSolverModel_rule1 0 = .ok (.iload_n 2, 1) := by decide +kernel
theorem d_SpeciesSolverModel_rule1_1 : decode b_SpeciesSolverModel_rule1 1 = .ok (.ifCond .le 85, 3) := by decide +kernel
theorem d_SpeciesSolverModel_rule1_4 : decode b_SpeciesSolverModel_rule1 4 = .ok (.aload_n 0, 1) := by decide +kernel
theorem d_SpeciesSolverModel_rule1_5 : decode b_SpeciesSolverModel_rule1 5 = .ok (.iload_n 2, 1) := by decide +kernel
theorem d_SpeciesSolverModel_rule1_6 : decode b_SpeciesSolverModel_rule1 6 = .ok (.invokevirtual 111, 3) := by decide +kernel
theorem d_SpeciesSolverModel_rule1_9 : decode b_SpeciesSolverModel_rule1 9 = .ok (.ifCond .eq 77, 3) := by decide +kernel
theorem d_SpeciesSolverModel_rule1_12 : decode b_SpeciesSolverModel_rule1 12 = .ok (.aload_n 0, 1) := by decide +kernel
theorem d_SpeciesSolverModel_rule1_13 : decode b_SpeciesSolverModel_rule1 13 = .ok (.iconst 4, 1) := by decide +kernel
theorem d_SpeciesSolverModel_rule1_14 : decode b_SpeciesSolverModel_rule1 14 = .ok (.iload 4, 2) := by decide +kernel
theorem d_SpeciesSolverModel_rule1_16 : decode b_SpeciesSolverModel_rule1 16 = .ok (.aload_n 0, 1) := by decide +kernel
theorem d_SpeciesSolverModel_rule1_17 : decode b_SpeciesSolverModel_rule1 17 = .ok (.iload_n 1, 1) := by decide +kernel
theorem d_SpeciesSolverModel_rule1_18 : decode b_SpeciesSolverModel_rule1 18 = .ok (.iload_n 2, 1) := by decide +kernel
theorem d_SpeciesSolverModel_rule1_19 : decode b_SpeciesSolverModel_rule1 19 = .ok (.invokevirtual 108, 3) := by decide +kernel
theorem d_SpeciesSolverModel_rule1_22 : decode b_SpeciesSolverModel_rule1 22 = .ok (.invokevirtual 115, 3) := by decide +kernel
theorem d_SpeciesSolverModel_rule1_25 : decode b_SpeciesSolverModel_rule1 25 = .ok (.ifCond .eq 61, 3) := by decide +kernel
theorem d_SpeciesSolverModel_rule1_28 : decode b_SpeciesSolverModel_rule1 28 = .ok (.iload 4, 2) := by decide +kernel
theorem d_SpeciesSolverModel_rule1_30 : decode b_SpeciesSolverModel_rule1 30 = .ok (.aload_n 0, 1) := by decide +kernel
theorem d_SpeciesSolverModel_rule1_31 : decode b_SpeciesSolverModel_rule1 31 = .ok (.iload_n 1, 1) := by decide +kernel
theorem d_SpeciesSolverModel_rule1_32 : decode b_SpeciesSolverModel_rule1 32 = .ok (.iload_n 2, 1) := by decide +kernel
theorem d_SpeciesSolverModel_rule1_33 : decode b_SpeciesSolverModel_rule1 33 = .ok (.invokevirtual 108, 3) := by decide +kernel
theorem d_SpeciesSolverModel_rule1_36 : decode b_SpeciesSolverModel_rule1 36 = .ok (.invokestatic 101, 3) := by decide +kernel
theorem d_SpeciesSolverModel_rule1_39 : decode b_SpeciesSolverModel_rule1 39 = .ok (.bipush 12, 2) := by decide +kernel
theorem d_SpeciesSolverModel_rule1_41 : decode b_SpeciesSolverModel_rule1 41 = .ok (.irem, 1) := by decide +kernel
theorem d_SpeciesSolverModel_rule1_42 : decode b_SpeciesSolverModel_rule1 42 = .ok (.iload_n 3, 1) := by decide +kernel
theorem d_SpeciesSolverModel_rule1_43 : decode b_SpeciesSolverModel_rule1 43 = .ok (.aload_n 0, 1) := by decide +kernel
theorem d_SpeciesSolverModel_rule1_44 : decode b_SpeciesSolverModel_rule1 44 = .ok (.getfield 13, 3) := by decide +kernel
theorem d_SpeciesSolverModel_rule1_47 : decode b_SpeciesSolverModel_rule1 47 = .ok (.bipush 12, 2) := by decide +kernel
theorem d_SpeciesSolverModel_rule1_49 : decode b_SpeciesSolverModel_rule1 49 = .ok (.iload_n 1, 1) := by decide +kernel
theorem d_SpeciesSolverModel_rule1_50 : decode b_SpeciesSolverModel_rule1 50 = .ok (.imul, 1) := by decide +kernel
theorem d_SpeciesSolverModel_rule1_51 : decode b_SpeciesSolverModel_rule1 51 = .ok (.iload_n 2, 1) := by decide +kernel
theorem d_SpeciesSolverModel_rule1_52 : decode b_SpeciesSolverModel_rule1 52 = .ok (.aload_n 0, 1) := by decide +kernel
theorem d_SpeciesSolverModel_rule1_53 : decode b_SpeciesSolverModel_rule1 53 = .ok (.getfield 16, 3) := by decide +kernel
theorem d_SpeciesSolverModel_rule1_56 : decode b_SpeciesSolverModel_rule1 56 = .ok (.idiv, 1) := by decide +kernel
theorem d_SpeciesSolverModel_rule1_57 : decode b_SpeciesSolverModel_rule1 57 = .ok (.iadd, 1) := by decide +kernel
theorem d_SpeciesSolverModel_rule1_58 : decode b_SpeciesSolverModel_rule1 58 = .ok (.iconst 1, 1) := by decide +kernel
theorem d_SpeciesSolverModel_rule1_59 : decode b_SpeciesSolverModel_rule1 59 = .ok (.isub, 1) := by decide +kernel
theorem d_SpeciesSolverModel_rule1_60 : decode b_SpeciesSolverModel_rule1 60 = .ok (.iaload, 1) := by decide +kernel
theorem d_SpeciesSolverModel_rule1_61 : decode b_SpeciesSolverModel_rule1 61 = .ok (.invokestatic 101, 3) := by decide +kernel
theorem d_SpeciesSolverModel_rule1_64 : decode b_SpeciesSolverModel_rule1 64 = .ok (.bipush 12, 2) := by decide +kernel
theorem d_SpeciesSolverModel_rule1_66 : decode b_SpeciesSolverModel_rule1 66 = .ok (.irem, 1) := by decide +kernel
theorem d_SpeciesSolverModel_rule1_67 : decode b_SpeciesSolverModel_rule1 67 = .ok (.if_icmp .ne 19, 3) := by decide +kernel
theorem d_SpeciesSolverModel_rule1_70 : decode b_SpeciesSolverModel_rule1 70 = .ok (.aload_n 0, 1) := by decide +kernel
theorem d_SpeciesSolverModel_rule1_71 : decode b_SpeciesSolverModel_rule1 71 = .ok (.iload_n 1, 1) := by decide +kernel
theorem d_SpeciesSolverModel_rule1_72 : decode b_SpeciesSolverModel_rule1 72 = .ok (.iload_n 2, 1) := by decide +kernel
theorem d_SpeciesSolverModel_rule1_73 : decode b_SpeciesSolverModel_rule1 73 = .ok (.iload_n 3, 1) := by decide +kernel
theorem d_SpeciesSolverModel_rule1_74 : decode b_SpeciesSolverModel_rule1 74 = .ok (.iload 4, 2) := by decide +kernel
theorem d_SpeciesSolverModel_rule1_76 : decode b_SpeciesSolverModel_rule1 76 = .ok (.invokevirtual 119, 3) := by decide +kernel
theorem d_SpeciesSolverModel_rule1_79 : decode b_SpeciesSolverModel_rule1 79 = .ok (.ifCond .eq 7, 3) := by decide +kernel
theorem d_SpeciesSolverModel_rule1_82 : decode b_SpeciesSolverModel_rule1 82 = .ok (.iconst 1, 1) := by decide +kernel
theorem d_SpeciesSolverModel_rule1_83 : decode b_SpeciesSolverModel_rule1 83 = .ok (.goto 4, 3) := by decide +kernel
theorem d_SpeciesSolverModel_rule1_86 : decode b_SpeciesSolverModel_rule1 86 = .ok (.iconst 0, 1) := by decide +kernel
theorem d_SpeciesSolverModel_rule1_87 : decode b_SpeciesSolverModel_rule1 87 = .ok (.ireturn, 1) := by decide +kernel
abbrev wd_SpeciesSolverModel_rule1 (kc : Nat → ClassId) (ad : Nat → Nat) (md_thrown : Int32) (md_drafted : Int32) (md_lines : Int32) (md_n : Int32) (md_species : Int32) (md_above : Int32) (md_trialSize : Int32) (md_foundSize : Int32) (md_foundSpecies : Int32) (md_foundN : Int32) (md_foundCost : Int32) (md_chosen : Int32) (md_low : Int32) (md_many : Int64) (md_ties : Int64) (md_winnerCost : Int32) (md_allMany : Int64) (md_allTies : Int64) (md_faults : Int32) (md_given : Nat → Int32) (md_numbers : Nat → Int32) : va_W := [((ad 0), .inr (1, [.int md_thrown, .ref (ad 1), .int md_drafted, .ref (ad 2), .int md_lines, .int md_n, .int md_species, .int md_above, .ref (ad 3), .ref (ad 4), .ref (ad 5), .int md_trialSize, .ref (ad 6), .int md_foundSize, .int md_foundSpecies, .int md_foundN, .int md_foundCost, .ref (ad 7), .int md_chosen, .ref (ad 8), .ref (ad 9), .ref (ad 10), .int md_low, .long md_many, .long md_ties, .ref (ad 11), .ref (ad 12), .int md_winnerCost, .long md_allMany, .long md_allTies, .ref (ad 13), .ref (ad 14), .ref (ad 15), .ref (ad 16), .int md_faults])), ((ad 2), .inl (kc 0, 36, .inl md_given)), ((ad 4), .inl (kc 0, 18, .inl md_numbers))]
abbrev rm_SpeciesSolverModel_rule1 : Room := { frames := 2, cells := 0, slots := 0, locals := 47 }
abbrev cw_SpeciesSolverModel_rule1 : Cond := .code y_SpeciesSolverModel_rule1 b_SpeciesSolverModel_rule1 5 (some .boolean)
abbrev ws_SpeciesSolverModel_rule1 : List Cond := cw_SpeciesSolverModel_rule1 :: GW
theorem hd_SpeciesSolverModel_rule1 : y_SpeciesSolverModel_rule1.cls ≠ "java/lang/invoke/MethodHandle" ∧ y_SpeciesSolverModel_rule1.cls ≠ "java/lang/invoke/VarHandle" ∧ (parseMethodDescriptor y_SpeciesSolverModel_rule1.desc).map (fun d => d.parameters.length) = some 4 := by decide +kernel
def m_SpeciesSolverModel_rule1 (md_species : Int32) (md_given : Nat → Int32) (md_numbers : Nat → Int32)  (a1 : Int32) (a2 : Int32) (a3 : Int32) (a4 : Int32) : Option (Int32) :=
  (if a2 ≤ (0 : Int32) then
    (some (0 : Int32))
  else
    (bd (m_SpeciesSolverModel_isStrong md_species a2) (fun u2 => (if u2 = (0 : Int32) then
      (some (0 : Int32))
    else
      (bd (m_SpeciesSolverModel_at md_species md_given a1 a2) (fun u5 => (bd (m_SpeciesSolverModel_isIn md_numbers (4 : Int32) a4 u5) (fun u7 => (if u7 = (0 : Int32) then
        (some (0 : Int32))
      else
        (bd (m_SpeciesSolverModel_at md_species md_given a1 a2) (fun u10 => (bd (m_SpeciesSolverModel_far a4 u10) (fun u12 => (nz md_species (gd ((((12 : Int32) * a1) + (a2 / md_species)) - (1 : Int32)) 36 (bd (m_SpeciesSolverModel_far a3 (md_given (Int32.toNatClampNeg ((((12 : Int32) * a1) + (a2 / md_species)) - (1 : Int32))))) (fun u16 => (if (u12 - u12 / (12 : Int32) * (12 : Int32)) = (u16 - u16 / (12 : Int32) * (12 : Int32)) then
          (bd (m_SpeciesSolverModel_isAlike md_species md_given a1 a2 a3 a4) (fun u19 => (if u19 = (0 : Int32) then
            (some (0 : Int32))
          else
            (some (1 : Int32)))))
        else
          (some (0 : Int32))))))))))))))))))))
set_option maxHeartbeats 4000000 in
set_option maxRecDepth 100000 in
theorem e_SpeciesSolverModel_rule1 {r : Int32} {ad : Nat → Nat} {md_thrown : Int32} {md_drafted : Int32} {md_lines : Int32} {md_n : Int32} {md_species : Int32} {md_above : Int32} {md_trialSize : Int32} {md_foundSize : Int32} {md_foundSpecies : Int32} {md_foundN : Int32} {md_foundCost : Int32} {md_chosen : Int32} {md_low : Int32} {md_many : Int64} {md_ties : Int64} {md_winnerCost : Int32} {md_allMany : Int64} {md_allTies : Int64} {md_faults : Int32} {md_given : Nat → Int32} {md_numbers : Nat → Int32} {a1 : Int32} {a2 : Int32} {a3 : Int32} {a4 : Int32} {H : Heap} {locs : List Loc} {ls : Array Slot} (C : Cx p s m meth c args A D kc R_SpeciesSolverModel b_SpeciesSolverModel_rule1 5 (some .boolean)) (hm : m_SpeciesSolverModel_rule1 md_species md_given md_numbers a1 a2 a3 a4 = some r) (hZ : St D A s (wd_SpeciesSolverModel_rule1 kc ad md_thrown md_drafted md_lines md_n md_species md_above md_trialSize md_foundSize md_foundSpecies md_foundN md_foundCost md_chosen md_low md_many md_ties md_winnerCost md_allMany md_allTies md_faults md_given md_numbers) H locs) (hl : lv_has ls 5 [(0, .ref (ad 0)), (1, .int a1), (2, .int a2), (3, .int a3), (4, .int a4)]) : W p l e rm_SpeciesSolverModel_rule1 s m args below meth c H locs 0 0 (MQ below (Qi D A (wd_SpeciesSolverModel_rule1 kc ad md_thrown md_drafted md_lines md_n md_species md_above md_trialSize md_foundSize md_foundSpecies md_foundN md_foundCost md_chosen md_low md_many md_ties md_winnerCost md_allMany md_allTies md_faults md_given md_numbers) r) args s 0 0 A) (F0 m 0 ls []) := by
  obtain ⟨hx, hb, hr, hts, hown, hml, hlocks, hK, hN, hA, hX⟩ := id C
  obtain ⟨hP, hD, hS⟩ := hZ
  unfold m_SpeciesSolverModel_rule1 at hm
  refine lv_iload_n hx hb d_SpeciesSolverModel_rule1_0 rfl (lv_at hl 2 rfl) ?_
  refine lv_if_le (tgt := 86) hx hb d_SpeciesSolverModel_rule1_1 (by decide) (fun c1 => ?_) (fun c1 => ?_)
  · replace hm := ifT hm c1
    refine lv_iconst (v := 0) hx hb d_SpeciesSolverModel_rule1_86 (by decide) ?_
    replace hm := Option.some.inj hm; subst hm
    exact zret_z (v := 0) C hP hD hS (by rfl) d_SpeciesSolverModel_rule1_87
  · replace hm := ifF hm c1
    refine lv_aload_n hx hb d_SpeciesSolverModel_rule1_4 rfl (lv_at hl 0 rfl) ?_
    refine lv_iload_n hx hb d_SpeciesSolverModel_rule1_5 rfl (lv_at hl 2 rfl) ?_
    obtain ⟨u2, hc3, hm⟩ := bd_some hm
    refine zV_i (n := 1) (wr := [((ad 2), .inl (kc 0, 36, .inl md_given)), ((ad 4), .inl (kc 0, 18, .inl md_numbers))]) (w1 := (wd_SpeciesSolverModel_isStrong kc ad md_thrown md_drafted md_lines md_n md_species md_above md_trialSize md_foundSize md_foundSpecies md_foundN md_foundCost md_chosen md_low md_many md_ties md_winnerCost md_allMany md_allTies md_faults)) (ws1 := (wd_SpeciesSolverModel_rule1 kc ad md_thrown md_drafted md_lines md_n md_species md_above md_trialSize md_foundSize md_foundSpecies md_foundN md_foundCost md_chosen md_low md_many md_ties md_winnerCost md_allMany md_allTies md_faults md_given md_numbers)) (As := [.int a2]) (rest := []) (ci := 1) (q0 := 0) (y := y_SpeciesSolverModel_isStrong) ⟨hx, hb, hml, hown, hts⟩ (fun sz => c_SpeciesSolverModel_isStrong hc3 sz) gw_999 gw_996 gw_998 gw_80 gw_118 hd_SpeciesSolverModel_isStrong ⟨Nat.le_of_ble_eq_true rfl, Nat.le_of_ble_eq_true rfl⟩ ⟨rfl, rfl⟩ ⟨Nat.zero_le _, Nat.zero_le _⟩ hK hN hP hD hS hA hX [0] [1, 2] [2, 0, 1] rfl rfl (by decide) (by decide) (by decide) rfl (by decide) rfl rfl rfl hl.1 rfl (Nat.le_of_ble_eq_true rfl) d_SpeciesSolverModel_rule1_6 (fun H locs hP hD hS => ?_)
    refine lv_if_eq (tgt := 86) hx hb d_SpeciesSolverModel_rule1_9 (by decide) (fun c4 => ?_) (fun c4 => ?_)
    · replace hm := ifT hm c4
      refine lv_iconst (v := 0) hx hb d_SpeciesSolverModel_rule1_86 (by decide) ?_
      replace hm := Option.some.inj hm; subst hm
      exact zret_z (v := 0) C hP hD hS (by rfl) d_SpeciesSolverModel_rule1_87
    · replace hm := ifF hm c4
      refine lv_aload_n hx hb d_SpeciesSolverModel_rule1_12 rfl (lv_at hl 0 rfl) ?_
      refine lv_iconst (v := 4) hx hb d_SpeciesSolverModel_rule1_13 (by decide) ?_
      refine lv_iload hx hb d_SpeciesSolverModel_rule1_14 (lv_at hl 4 rfl) ?_
      refine lv_aload_n hx hb d_SpeciesSolverModel_rule1_16 rfl (lv_at hl 0 rfl) ?_
      refine lv_iload_n hx hb d_SpeciesSolverModel_rule1_17 rfl (lv_at hl 1 rfl) ?_
      refine lv_iload_n hx hb d_SpeciesSolverModel_rule1_18 rfl (lv_at hl 2 rfl) ?_
      obtain ⟨u5, hc6, hm⟩ := bd_some hm
      refine zV_i (n := 2) (wr := [((ad 4), .inl (kc 0, 18, .inl md_numbers))]) (w1 := (wd_SpeciesSolverModel_at kc ad md_thrown md_drafted md_lines md_n md_species md_above md_trialSize md_foundSize md_foundSpecies md_foundN md_foundCost md_chosen md_low md_many md_ties md_winnerCost md_allMany md_allTies md_faults md_given)) (ws1 := (wd_SpeciesSolverModel_rule1 kc ad md_thrown md_drafted md_lines md_n md_species md_above md_trialSize md_foundSize md_foundSpecies md_foundN md_foundCost md_chosen md_low md_many md_ties md_winnerCost md_allMany md_allTies md_faults md_given md_numbers)) (As := [.int a1, .int a2]) (rest := [.int a4, .int (4 : Int32), .ref (ad 0)]) (ci := 1) (q0 := 0) (y := y_SpeciesSolverModel_at) ⟨hx, hb, hml, hown, hts⟩ (fun sz => c_SpeciesSolverModel_at hc6 sz) gw_1022 gw_1019 gw_1021 gw_85 gw_118 hd_SpeciesSolverModel_at ⟨Nat.le_of_ble_eq_true rfl, Nat.le_of_ble_eq_true rfl⟩ ⟨rfl, rfl⟩ ⟨Nat.zero_le _, Nat.zero_le _⟩ hK hN hP hD hS hA hX [0, 1] [2] [1, 2, 0] rfl rfl (by decide) (by decide) (by decide) rfl (by decide) rfl rfl rfl hl.1 rfl (Nat.le_of_ble_eq_true rfl) d_SpeciesSolverModel_rule1_19 (fun H locs hP hD hS => ?_)
      obtain ⟨u7, hc8, hm⟩ := bd_some hm
      refine zV_i (n := 3) (wr := [((ad 2), .inl (kc 0, 36, .inl md_given))]) (w1 := (wd_SpeciesSolverModel_isIn kc ad md_thrown md_drafted md_lines md_n md_species md_above md_trialSize md_foundSize md_foundSpecies md_foundN md_foundCost md_chosen md_low md_many md_ties md_winnerCost md_allMany md_allTies md_faults md_numbers)) (ws1 := (wd_SpeciesSolverModel_rule1 kc ad md_thrown md_drafted md_lines md_n md_species md_above md_trialSize md_foundSize md_foundSpecies md_foundN md_foundCost md_chosen md_low md_many md_ties md_winnerCost md_allMany md_allTies md_faults md_given md_numbers)) (As := [.int (4 : Int32), .int a4, .int u5]) (rest := []) (ci := 1) (q0 := 0) (y := y_SpeciesSolverModel_isIn) ⟨hx, hb, hml, hown, hts⟩ (fun sz => c_SpeciesSolverModel_isIn hc8 sz) gw_1026 gw_1023 gw_1025 gw_86 gw_118 hd_SpeciesSolverModel_isIn ⟨Nat.le_of_ble_eq_true rfl, Nat.le_of_ble_eq_true rfl⟩ ⟨rfl, rfl⟩ ⟨Nat.zero_le _, Nat.zero_le _⟩ hK hN hP hD hS hA hX [0, 2] [1] [1, 0, 2] rfl rfl (by decide) (by decide) (by decide) rfl (by decide) rfl rfl rfl hl.1 rfl (Nat.le_of_ble_eq_true rfl) d_SpeciesSolverModel_rule1_22 (fun H locs hP hD hS => ?_)
      refine lv_if_eq (tgt := 86) hx hb d_SpeciesSolverModel_rule1_25 (by decide) (fun c9 => ?_) (fun c9 => ?_)
      · replace hm := ifT hm c9
        refine lv_iconst (v := 0) hx hb d_SpeciesSolverModel_rule1_86 (by decide) ?_
        replace hm := Option.some.inj hm; subst hm
        exact zret_z (v := 0) C hP hD hS (by rfl) d_SpeciesSolverModel_rule1_87
      · replace hm := ifF hm c9
        refine lv_iload hx hb d_SpeciesSolverModel_rule1_28 (lv_at hl 4 rfl) ?_
        refine lv_aload_n hx hb d_SpeciesSolverModel_rule1_30 rfl (lv_at hl 0 rfl) ?_
        refine lv_iload_n hx hb d_SpeciesSolverModel_rule1_31 rfl (lv_at hl 1 rfl) ?_
        refine lv_iload_n hx hb d_SpeciesSolverModel_rule1_32 rfl (lv_at hl 2 rfl) ?_
        obtain ⟨u10, hc11, hm⟩ := bd_some hm
        refine zV_i (n := 2) (wr := [((ad 4), .inl (kc 0, 18, .inl md_numbers))]) (w1 := (wd_SpeciesSolverModel_at kc ad md_thrown md_drafted md_lines md_n md_species md_above md_trialSize md_foundSize md_foundSpecies md_foundN md_foundCost md_chosen md_low md_many md_ties md_winnerCost md_allMany md_allTies md_faults md_given)) (ws1 := (wd_SpeciesSolverModel_rule1 kc ad md_thrown md_drafted md_lines md_n md_species md_above md_trialSize md_foundSize md_foundSpecies md_foundN md_foundCost md_chosen md_low md_many md_ties md_winnerCost md_allMany md_allTies md_faults md_given md_numbers)) (As := [.int a1, .int a2]) (rest := [.int a4]) (ci := 1) (q0 := 0) (y := y_SpeciesSolverModel_at) ⟨hx, hb, hml, hown, hts⟩ (fun sz => c_SpeciesSolverModel_at hc11 sz) gw_1022 gw_1019 gw_1021 gw_85 gw_118 hd_SpeciesSolverModel_at ⟨Nat.le_of_ble_eq_true rfl, Nat.le_of_ble_eq_true rfl⟩ ⟨rfl, rfl⟩ ⟨Nat.zero_le _, Nat.zero_le _⟩ hK hN hP hD hS hA hX [0, 1] [2] [1, 2, 0] rfl rfl (by decide) (by decide) (by decide) rfl (by decide) rfl rfl rfl hl.1 rfl (Nat.le_of_ble_eq_true rfl) d_SpeciesSolverModel_rule1_33 (fun H locs hP hD hS => ?_)
        obtain ⟨u12, hc13, hm⟩ := bd_some hm
        refine zS_i (n := 2) (wr := [((ad 0), .inr (1, [.int md_thrown, .ref (ad 1), .int md_drafted, .ref (ad 2), .int md_lines, .int md_n, .int md_species, .int md_above, .ref (ad 3), .ref (ad 4), .ref (ad 5), .int md_trialSize, .ref (ad 6), .int md_foundSize, .int md_foundSpecies, .int md_foundN, .int md_foundCost, .ref (ad 7), .int md_chosen, .ref (ad 8), .ref (ad 9), .ref (ad 10), .int md_low, .long md_many, .long md_ties, .ref (ad 11), .ref (ad 12), .int md_winnerCost, .long md_allMany, .long md_allTies, .ref (ad 13), .ref (ad 14), .ref (ad 15), .ref (ad 16), .int md_faults])), ((ad 2), .inl (kc 0, 36, .inl md_given)), ((ad 4), .inl (kc 0, 18, .inl md_numbers))]) (w1 := (wd_SpeciesSolverModel_far kc )) (ws1 := (wd_SpeciesSolverModel_rule1 kc ad md_thrown md_drafted md_lines md_n md_species md_above md_trialSize md_foundSize md_foundSpecies md_foundN md_foundCost md_chosen md_low md_many md_ties md_winnerCost md_allMany md_allTies md_faults md_given md_numbers)) (As := [.int a4, .int u10]) (rest := []) (y := y_SpeciesSolverModel_far) ⟨hx, hb, hml, hown, hts⟩ (fun sz => c_SpeciesSolverModel_far hc13 sz) gw_1029 gw_1027 gw_1028 gw_118 rfl hd_SpeciesSolverModel_far ⟨Nat.le_of_ble_eq_true rfl, Nat.le_of_ble_eq_true rfl⟩ ⟨rfl, rfl⟩ ⟨Nat.zero_le _, Nat.zero_le _⟩ hK hN hP hD hS hA hX [] [0, 1, 2] [0, 1, 2] rfl rfl (by decide) (by decide) (by decide) rfl (by decide) rfl hl.1 rfl (Nat.le_of_ble_eq_true rfl) d_SpeciesSolverModel_rule1_36 (fun H locs hP hD hS => ?_)
        refine lv_bipush (v := 12) hx hb d_SpeciesSolverModel_rule1_39 (by decide) ?_
        refine lv_irem hx hb d_SpeciesSolverModel_rule1_41 (by decide) ?_
        refine lv_iload_n hx hb d_SpeciesSolverModel_rule1_42 rfl (lv_at hl 3 rfl) ?_
        refine lv_aload_n hx hb d_SpeciesSolverModel_rule1_43 rfl (lv_at hl 0 rfl) ?_
        refine va_get (D := D) (ci := 1) (v := .ref (ad 2)) (C := R_SpeciesSolverModel) (T := T_SpeciesSolverModel) (N := 35) hx hb hts inG_SpeciesSolverModel hown hK hP 0 rfl rfl 3 (by decide) (hts _ gw_821) (fun _ h9 => h9) rfl d_SpeciesSolverModel_rule1_44 ?_
        refine lv_bipush (v := 12) hx hb d_SpeciesSolverModel_rule1_47 (by decide) ?_
        refine lv_iload_n hx hb d_SpeciesSolverModel_rule1_49 rfl (lv_at hl 1 rfl) ?_
        refine lv_imul hx hb d_SpeciesSolverModel_rule1_50 ?_
        refine lv_iload_n hx hb d_SpeciesSolverModel_rule1_51 rfl (lv_at hl 2 rfl) ?_
        refine lv_aload_n hx hb d_SpeciesSolverModel_rule1_52 rfl (lv_at hl 0 rfl) ?_
        refine va_get (D := D) (ci := 1) (v := .int md_species) (C := R_SpeciesSolverModel) (T := T_SpeciesSolverModel) (N := 35) hx hb hts inG_SpeciesSolverModel hown hK hP 0 rfl rfl 6 (by decide) (hts _ gw_824) (fun _ h9 => h9) rfl d_SpeciesSolverModel_rule1_53 ?_
        obtain ⟨hz14, hm⟩ := nz_some hm
        refine lv_idiv hx hb d_SpeciesSolverModel_rule1_56 hz14 ?_
        refine lv_iadd hx hb d_SpeciesSolverModel_rule1_57 ?_
        refine lv_iconst (v := 1) hx hb d_SpeciesSolverModel_rule1_58 (by decide) ?_
        refine lv_isub hx hb d_SpeciesSolverModel_rule1_59 ?_
        obtain ⟨hi15, hm⟩ := gd_some hm
        refine va_iald hx hb hK hP 1 0 rfl rfl hi15 d_SpeciesSolverModel_rule1_60 ?_
        obtain ⟨u16, hc17, hm⟩ := bd_some hm
        refine zS_i (n := 2) (wr := [((ad 0), .inr (1, [.int md_thrown, .ref (ad 1), .int md_drafted, .ref (ad 2), .int md_lines, .int md_n, .int md_species, .int md_above, .ref (ad 3), .ref (ad 4), .ref (ad 5), .int md_trialSize, .ref (ad 6), .int md_foundSize, .int md_foundSpecies, .int md_foundN, .int md_foundCost, .ref (ad 7), .int md_chosen, .ref (ad 8), .ref (ad 9), .ref (ad 10), .int md_low, .long md_many, .long md_ties, .ref (ad 11), .ref (ad 12), .int md_winnerCost, .long md_allMany, .long md_allTies, .ref (ad 13), .ref (ad 14), .ref (ad 15), .ref (ad 16), .int md_faults])), ((ad 2), .inl (kc 0, 36, .inl md_given)), ((ad 4), .inl (kc 0, 18, .inl md_numbers))]) (w1 := (wd_SpeciesSolverModel_far kc )) (ws1 := (wd_SpeciesSolverModel_rule1 kc ad md_thrown md_drafted md_lines md_n md_species md_above md_trialSize md_foundSize md_foundSpecies md_foundN md_foundCost md_chosen md_low md_many md_ties md_winnerCost md_allMany md_allTies md_faults md_given md_numbers)) (As := [.int a3, .int (md_given (Int32.toNatClampNeg ((((12 : Int32) * a1) + (a2 / md_species)) - (1 : Int32))))]) (rest := [.int (u12 - u12 / (12 : Int32) * (12 : Int32))]) (y := y_SpeciesSolverModel_far) ⟨hx, hb, hml, hown, hts⟩ (fun sz => c_SpeciesSolverModel_far hc17 sz) gw_1029 gw_1027 gw_1028 gw_118 rfl hd_SpeciesSolverModel_far ⟨Nat.le_of_ble_eq_true rfl, Nat.le_of_ble_eq_true rfl⟩ ⟨rfl, rfl⟩ ⟨Nat.zero_le _, Nat.zero_le _⟩ hK hN hP hD hS hA hX [] [0, 1, 2] [0, 1, 2] rfl rfl (by decide) (by decide) (by decide) rfl (by decide) rfl hl.1 rfl (Nat.le_of_ble_eq_true rfl) d_SpeciesSolverModel_rule1_61 (fun H locs hP hD hS => ?_)
        refine lv_bipush (v := 12) hx hb d_SpeciesSolverModel_rule1_64 (by decide) ?_
        refine lv_irem hx hb d_SpeciesSolverModel_rule1_66 (by decide) ?_
        refine lv_icmp_ne (tgt := 86) hx hb d_SpeciesSolverModel_rule1_67 (by decide) (fun c18 => ?_) (fun c18 => ?_)
        · replace hm := ifF hm c18
          refine lv_iconst (v := 0) hx hb d_SpeciesSolverModel_rule1_86 (by decide) ?_
          replace hm := Option.some.inj hm; subst hm
          exact zret_z (v := 0) C hP hD hS (by rfl) d_SpeciesSolverModel_rule1_87
        · replace hm := ifT hm c18
          refine lv_aload_n hx hb d_SpeciesSolverModel_rule1_70 rfl (lv_at hl 0 rfl) ?_
          refine lv_iload_n hx hb d_SpeciesSolverModel_rule1_71 rfl (lv_at hl 1 rfl) ?_
          refine lv_iload_n hx hb d_SpeciesSolverModel_rule1_72 rfl (lv_at hl 2 rfl) ?_
          refine lv_iload_n hx hb d_SpeciesSolverModel_rule1_73 rfl (lv_at hl 3 rfl) ?_
          refine lv_iload hx hb d_SpeciesSolverModel_rule1_74 (lv_at hl 4 rfl) ?_
          obtain ⟨u19, hc20, hm⟩ := bd_some hm
          refine zV_i (n := 4) (wr := [((ad 4), .inl (kc 0, 18, .inl md_numbers))]) (w1 := (wd_SpeciesSolverModel_isAlike kc ad md_thrown md_drafted md_lines md_n md_species md_above md_trialSize md_foundSize md_foundSpecies md_foundN md_foundCost md_chosen md_low md_many md_ties md_winnerCost md_allMany md_allTies md_faults md_given)) (ws1 := (wd_SpeciesSolverModel_rule1 kc ad md_thrown md_drafted md_lines md_n md_species md_above md_trialSize md_foundSize md_foundSpecies md_foundN md_foundCost md_chosen md_low md_many md_ties md_winnerCost md_allMany md_allTies md_faults md_given md_numbers)) (As := [.int a1, .int a2, .int a3, .int a4]) (rest := []) (ci := 1) (q0 := 0) (y := y_SpeciesSolverModel_isAlike) ⟨hx, hb, hml, hown, hts⟩ (fun sz => c_SpeciesSolverModel_isAlike hc20 sz) gw_1037 gw_1034 gw_1036 gw_88 gw_118 hd_SpeciesSolverModel_isAlike ⟨Nat.le_of_ble_eq_true rfl, Nat.le_of_ble_eq_true rfl⟩ ⟨rfl, rfl⟩ ⟨Nat.zero_le _, Nat.zero_le _⟩ hK hN hP hD hS hA hX [0, 1] [2] [1, 2, 0] rfl rfl (by decide) (by decide) (by decide) rfl (by decide) rfl rfl rfl hl.1 rfl (Nat.le_of_ble_eq_true rfl) d_SpeciesSolverModel_rule1_76 (fun H locs hP hD hS => ?_)
          refine lv_if_eq (tgt := 86) hx hb d_SpeciesSolverModel_rule1_79 (by decide) (fun c21 => ?_) (fun c21 => ?_)
          · replace hm := ifT hm c21
            refine lv_iconst (v := 0) hx hb d_SpeciesSolverModel_rule1_86 (by decide) ?_
            replace hm := Option.some.inj hm; subst hm
            exact zret_z (v := 0) C hP hD hS (by rfl) d_SpeciesSolverModel_rule1_87
          · replace hm := ifF hm c21
            refine lv_iconst (v := 1) hx hb d_SpeciesSolverModel_rule1_82 (by decide) ?_
            refine lv_goto (tgt := 87) hx hb d_SpeciesSolverModel_rule1_83 (by decide) ?_
            replace hm := Option.some.inj hm; subst hm
            exact zret_z (v := 1) C hP hD hS (by rfl) d_SpeciesSolverModel_rule1_87
set_option maxHeartbeats 4000000 in
set_option maxRecDepth 100000 in
theorem c_SpeciesSolverModel_rule1 {l : Launch} {D : va_G} {kc : Nat → ClassId} {r : Int32} {ad : Nat → Nat} {md_thrown : Int32} {md_drafted : Int32} {md_lines : Int32} {md_n : Int32} {md_species : Int32} {md_above : Int32} {md_trialSize : Int32} {md_foundSize : Int32} {md_foundSpecies : Int32} {md_foundN : Int32} {md_foundCost : Int32} {md_chosen : Int32} {md_low : Int32} {md_many : Int64} {md_ties : Int64} {md_winnerCost : Int32} {md_allMany : Int64} {md_allTies : Int64} {md_faults : Int32} {md_given : Nat → Int32} {md_numbers : Nat → Int32} {a1 : Int32} {a2 : Int32} {a3 : Int32} {a4 : Int32} (hm : m_SpeciesSolverModel_rule1 md_species md_given md_numbers a1 a2 a3 a4 = some r) (sz : Nat) : Ci l y_SpeciesSolverModel_rule1 ws_SpeciesSolverModel_rule1 rm_SpeciesSolverModel_rule1 D kc sz [.ref (ad 0), .int a1, .int a2, .int a3, .int a4] (wd_SpeciesSolverModel_rule1 kc ad md_thrown md_drafted md_lines md_n md_species md_above md_trialSize md_foundSize md_foundSpecies md_foundN md_foundCost md_chosen md_low md_many md_ties md_winnerCost md_allMany md_allTies md_faults md_given md_numbers) (wd_SpeciesSolverModel_rule1 kc ad md_thrown md_drafted md_lines md_n md_species md_above md_trialSize md_foundSize md_foundSpecies md_foundN md_foundCost md_chosen md_low md_many md_ties md_winnerCost md_allMany md_allTies md_faults md_given md_numbers) r :=
  Cz_of (Qf := fun A => (Qi D A (wd_SpeciesSolverModel_rule1 kc ad md_thrown md_drafted md_lines md_n md_species md_above md_trialSize md_foundSize md_foundSpecies md_foundN md_foundCost md_chosen md_low md_many md_ties md_winnerCost md_allMany md_allTies md_faults md_given md_numbers) r)) (cc := b_SpeciesSolverModel_rule1) (maxL := 5) (ret := (some .boolean)) (by decide) rfl rfl (fun C hZ hl => e_SpeciesSolverModel_rule1 C hm hZ hl)
end
