section
variable {p : Program} {l : Launch} {e : Env} {s : State} {m : MethodId} {args : Array Value} {below : List Frame} {meth : Method} {c : Code} {D : va_G} {kc : Nat → ClassId} {A : Nat → Prop}
abbrev b_SpeciesSolverModel_judge : ByteArray := prog_9_method_63_code
abbrev y_SpeciesSolverModel_judge : MethodName := ⟨"SpeciesSolverModel", "judge", "()I"⟩
theorem d_SpeciesSolverModel_judge_0 : decode b_SpeciesSolverModel_judge 0 = .ok (.aload_n 0, 1) := by decide +kernel
theorem d_SpeciesSolverModel_judge_1 : decode b_SpeciesSolverModel_judge 1 = .ok (.getfield 78, 3) := by decide +kernel
theorem d_SpeciesSolverModel_judge_4 : decode b_SpeciesSolverModel_judge 4 = .ok (.ifCond .eq 14, 3) := by decide +kernel
theorem d_SpeciesSolverModel_judge_7 : decode b_SpeciesSolverModel_judge 7 = .ok (.aload_n 0, 1) := by decide +kernel
theorem d_SpeciesSolverModel_judge_8 : decode b_SpeciesSolverModel_judge 8 = .ok (.getfield 84, 3) := by decide +kernel
theorem d_SpeciesSolverModel_judge_11 : decode b_SpeciesSolverModel_judge 11 = .ok (.aload_n 0, 1) := by decide +kernel
theorem d_SpeciesSolverModel_judge_12 : decode b_SpeciesSolverModel_judge 12 = .ok (.invokevirtual 130, 3) := by decide +kernel
theorem d_SpeciesSolverModel_judge_15 : decode b_SpeciesSolverModel_judge 15 = .ok (.if_icmp .eq 5, 3) := by decide +kernel
theorem d_SpeciesSolverModel_judge_18 : decode b_SpeciesSolverModel_judge 18 = .ok (.iconst (-1), 1) := by decide +kernel
theorem d_SpeciesSolverModel_judge_19 : decode b_SpeciesSolverModel_judge 19 = .ok (.ireturn, 1) := by decide +kernel
theorem d_SpeciesSolverModel_judge_20 : decode b_SpeciesSolverModel_judge 20 = .ok (.aload_n 0, 1) := by decide +kernel
theorem d_SpeciesSolverModel_judge_21 : decode b_SpeciesSolverModel_judge 21 = .ok (.iconst 0, 1) := by decide +kernel
theorem d_SpeciesSolverModel_judge_22 : decode b_SpeciesSolverModel_judge 22 = .ok (.putfield 254, 3) := by decide +kernel
theorem d_SpeciesSolverModel_judge_25 : decode b_SpeciesSolverModel_judge 25 = .ok (.iconst 0, 1) := by decide +kernel
theorem d_SpeciesSolverModel_judge_26 : decode b_SpeciesSolverModel_judge 26 = .ok (.istore_n 1, 1) := by decide +kernel
theorem d_SpeciesSolverModel_judge_27 : decode b_SpeciesSolverModel_judge 27 = .ok (.iload_n 1, 1) := by decide +kernel
theorem d_SpeciesSolverModel_judge_28 : decode b_SpeciesSolverModel_judge 28 = .ok (.aload_n 0, 1) := by decide +kernel
theorem d_SpeciesSolverModel_judge_29 : decode b_SpeciesSolverModel_judge 29 = .ok (.getfield 84, 3) := by decide +kernel
theorem d_SpeciesSolverModel_judge_32 : decode b_SpeciesSolverModel_judge 32 = .ok (.if_icmp .ge 14, 3) := by decide +kernel
theorem d_SpeciesSolverModel_judge_35 : decode b_SpeciesSolverModel_judge 35 = .ok (.aload_n 0, 1) := by decide +kernel
theorem d_SpeciesSolverModel_judge_36 : decode b_SpeciesSolverModel_judge 36 = .ok (.iload_n 1, 1) := by decide +kernel
theorem d_SpeciesSolverModel_judge_37 : decode b_SpeciesSolverModel_judge 37 = .ok (.invokevirtual 270, 3) := by decide +kernel
theorem d_SpeciesSolverModel_judge_40 : decode b_SpeciesSolverModel_judge 40 = .ok (.iinc 1 1, 3) := by decide +kernel
theorem d_SpeciesSolverModel_judge_43 : decode b_SpeciesSolverModel_judge 43 = .ok (.goto (-16), 3) := by decide +kernel
theorem d_SpeciesSolverModel_judge_46 : decode b_SpeciesSolverModel_judge 46 = .ok (.aload_n 0, 1) := by decide +kernel
theorem d_SpeciesSolverModel_judge_47 : decode b_SpeciesSolverModel_judge 47 = .ok (.getfield 254, 3) := by decide +kernel
theorem d_SpeciesSolverModel_judge_50 : decode b_SpeciesSolverModel_judge 50 = .ok (.ireturn, 1) := by decide +kernel
abbrev wd_SpeciesSolverModel_judge (kc : Nat → ClassId) (ad : Nat → Nat) (md_thrown : Int32) (md_drafted : Int32) (md_lines : Int32) (md_n : Int32) (md_species : Int32) (md_above : Int32) (md_trialSize : Int32) (md_foundSize : Int32) (md_foundSpecies : Int32) (md_foundN : Int32) (md_foundCost : Int32) (md_chosen : Int32) (md_low : Int32) (md_many : Int64) (md_ties : Int64) (md_winnerCost : Int32) (md_allMany : Int64) (md_allTies : Int64) (md_faults : Int32) (md_given : Nat → Int32) (md_on : Nat → Int32) (md_numbers : Nat → Int32) (md_trial : Nat → Int32) (md_faultRule : Nat → Int32) (md_faultNote : Nat → Int32) (md_faultLine : Nat → Int32) : va_W := [((ad 0), .inr (1, [.int md_thrown, .ref (ad 1), .int md_drafted, .ref (ad 2), .int md_lines, .int md_n, .int md_species, .int md_above, .ref (ad 3), .ref (ad 4), .ref (ad 5), .int md_trialSize, .ref (ad 6), .int md_foundSize, .int md_foundSpecies, .int md_foundN, .int md_foundCost, .ref (ad 7), .int md_chosen, .ref (ad 8), .ref (ad 9), .ref (ad 10), .int md_low, .long md_many, .long md_ties, .ref (ad 11), .ref (ad 12), .int md_winnerCost, .long md_allMany, .long md_allTies, .ref (ad 13), .ref (ad 14), .ref (ad 15), .ref (ad 16), .int md_faults])), ((ad 2), .inl (kc 0, 36, .inl md_given)), ((ad 3), .inl (kc 1, 11, .inl md_on)), ((ad 4), .inl (kc 0, 18, .inl md_numbers)), ((ad 5), .inl (kc 0, 45, .inl md_trial)), ((ad 14), .inl (kc 0, 200, .inl md_faultRule)), ((ad 15), .inl (kc 0, 200, .inl md_faultNote)), ((ad 16), .inl (kc 0, 200, .inl md_faultLine))]
abbrev rm_SpeciesSolverModel_judge : Room := { frames := 5, cells := 0, slots := 0, locals := 116 }
abbrev cw_SpeciesSolverModel_judge : Cond := .code y_SpeciesSolverModel_judge b_SpeciesSolverModel_judge 2 (some .int)
abbrev ws_SpeciesSolverModel_judge : List Cond := cw_SpeciesSolverModel_judge :: GW
theorem hd_SpeciesSolverModel_judge : y_SpeciesSolverModel_judge.cls ≠ "java/lang/invoke/MethodHandle" ∧ y_SpeciesSolverModel_judge.cls ≠ "java/lang/invoke/VarHandle" ∧ (parseMethodDescriptor y_SpeciesSolverModel_judge.desc).map (fun d => d.parameters.length) = some 0 := by decide +kernel
def m_SpeciesSolverModel_judge_27b (F : Nat) (md_lines : Int32) (md_n : Int32) (md_species : Int32) (md_above : Int32) (md_trialSize : Int32) (md_given : Nat → Int32) (md_on : Nat → Int32) (md_numbers : Nat → Int32) (md_trial : Nat → Int32) (k27 : Int32 → (Nat → Int32) → (Nat → Int32) → (Nat → Int32) → Int32 → Option (Int32 × Int32 × (Nat → Int32) × (Nat → Int32) × (Nat → Int32))) (md_faults : Int32) (md_faultRule : Nat → Int32) (md_faultNote : Nat → Int32) (md_faultLine : Nat → Int32) (x1 : Int32) : Option (Int32 × Int32 × (Nat → Int32) × (Nat → Int32) × (Nat → Int32)) :=
  (if md_trialSize ≤ x1 then
    (some (md_faults, md_faults, md_faultRule, md_faultNote, md_faultLine))
  else
    (bd (m_SpeciesSolverModel_judgeNote F md_lines md_n md_species md_above md_trialSize md_given md_on md_numbers md_trial md_faults md_faultRule md_faultNote md_faultLine x1) (fun u2 => k27 u2.1 u2.2.1 u2.2.2.1 u2.2.2.2 (x1 + 1))))
set_option maxHeartbeats 4000000 in
set_option maxRecDepth 100000 in
theorem l_SpeciesSolverModel_judge_27 {r : Int32 × Int32 × (Nat → Int32) × (Nat → Int32) × (Nat → Int32)} {F : Nat} {ad : Nat → Nat} {md_thrown : Int32} {md_drafted : Int32} {md_lines : Int32} {md_n : Int32} {md_species : Int32} {md_above : Int32} {md_trialSize : Int32} {md_foundSize : Int32} {md_foundSpecies : Int32} {md_foundN : Int32} {md_foundCost : Int32} {md_chosen : Int32} {md_low : Int32} {md_many : Int64} {md_ties : Int64} {md_winnerCost : Int32} {md_allMany : Int64} {md_allTies : Int64} {md_faults : Int32} {md_given : Nat → Int32} {md_on : Nat → Int32} {md_numbers : Nat → Int32} {md_trial : Nat → Int32} {md_faultRule : Nat → Int32} {md_faultNote : Nat → Int32} {md_faultLine : Nat → Int32} {k27 : Int32 → (Nat → Int32) → (Nat → Int32) → (Nat → Int32) → Int32 → Option (Int32 × Int32 × (Nat → Int32) × (Nat → Int32) × (Nat → Int32))} {x1 : Int32} {H : Heap} {locs : List Loc} {ls : Array Slot} (C : Cx p s m meth c args A D kc R_SpeciesSolverModel b_SpeciesSolverModel_judge 2 (some .int)) (hk27 : (∀ (md_faults : Int32) (md_faultRule : Nat → Int32) (md_faultNote : Nat → Int32) (md_faultLine : Nat → Int32) (x1 : Int32) (H : Heap) (locs : List Loc) (ls : Array Slot), k27 md_faults md_faultRule md_faultNote md_faultLine x1 = some r → St D A s (wd_SpeciesSolverModel_judge kc ad md_thrown md_drafted md_lines md_n md_species md_above md_trialSize md_foundSize md_foundSpecies md_foundN md_foundCost md_chosen md_low md_many md_ties md_winnerCost md_allMany md_allTies md_faults md_given md_on md_numbers md_trial md_faultRule md_faultNote md_faultLine) H locs → lv_has ls 2 [(0, .ref (ad 0)), (1, .int x1)] → W p l e rm_SpeciesSolverModel_judge s m args below meth c H locs 0 0 (MQ below (Qi D A (wd_SpeciesSolverModel_judge kc ad md_thrown md_drafted md_lines md_n md_species md_above md_trialSize md_foundSize md_foundSpecies md_foundN md_foundCost md_chosen md_low md_many md_ties md_winnerCost md_allMany md_allTies r.2.1 md_given md_on md_numbers md_trial r.2.2.1 r.2.2.2.1 r.2.2.2.2) r.1) args s 0 0 A) (F0 m 27 ls []))) (hm : m_SpeciesSolverModel_judge_27b F md_lines md_n md_species md_above md_trialSize md_given md_on md_numbers md_trial k27 md_faults md_faultRule md_faultNote md_faultLine x1 = some r) (hZ : St D A s (wd_SpeciesSolverModel_judge kc ad md_thrown md_drafted md_lines md_n md_species md_above md_trialSize md_foundSize md_foundSpecies md_foundN md_foundCost md_chosen md_low md_many md_ties md_winnerCost md_allMany md_allTies md_faults md_given md_on md_numbers md_trial md_faultRule md_faultNote md_faultLine) H locs) (hl : lv_has ls 2 [(0, .ref (ad 0)), (1, .int x1)]) : W p l e rm_SpeciesSolverModel_judge s m args below meth c H locs 0 0 (MQ below (Qi D A (wd_SpeciesSolverModel_judge kc ad md_thrown md_drafted md_lines md_n md_species md_above md_trialSize md_foundSize md_foundSpecies md_foundN md_foundCost md_chosen md_low md_many md_ties md_winnerCost md_allMany md_allTies r.2.1 md_given md_on md_numbers md_trial r.2.2.1 r.2.2.2.1 r.2.2.2.2) r.1) args s 0 0 A) (F0 m 27 ls []) := by
  obtain ⟨hx, hb, hr, hts, hown, hml, hlocks, hK, hN, hA, hX⟩ := id C
  obtain ⟨hP, hD, hS⟩ := hZ
  unfold m_SpeciesSolverModel_judge_27b at hm
  refine lv_iload_n hx hb d_SpeciesSolverModel_judge_27 rfl (lv_at hl 1 rfl) ?_
  refine lv_aload_n hx hb d_SpeciesSolverModel_judge_28 rfl (lv_at hl 0 rfl) ?_
  refine va_get (D := D) (ci := 1) (v := .int md_trialSize) (C := R_SpeciesSolverModel) (T := T_SpeciesSolverModel) (N := 35) hx hb hts inG_SpeciesSolverModel hown hK hP 0 rfl rfl 11 (by decide) (hts _ gw_829) (fun _ h9 => h9) rfl d_SpeciesSolverModel_judge_29 ?_
  refine lv_icmp_ge (tgt := 46) hx hb d_SpeciesSolverModel_judge_32 (by decide) (fun c1 => ?_) (fun c1 => ?_)
  · replace hm := ifT hm c1
    refine lv_aload_n hx hb d_SpeciesSolverModel_judge_46 rfl (lv_at hl 0 rfl) ?_
    refine va_get (D := D) (ci := 1) (v := .int md_faults) (C := R_SpeciesSolverModel) (T := T_SpeciesSolverModel) (N := 35) hx hb hts inG_SpeciesSolverModel hown hK hP 0 rfl rfl 34 (by decide) (hts _ gw_852) (fun _ h9 => h9) rfl d_SpeciesSolverModel_judge_47 ?_
    replace hm := Option.some.inj hm; subst hm
    exact zret_i C hP hD hS d_SpeciesSolverModel_judge_50
  · replace hm := ifF hm c1
    refine lv_aload_n hx hb d_SpeciesSolverModel_judge_35 rfl (lv_at hl 0 rfl) ?_
    refine lv_iload_n hx hb d_SpeciesSolverModel_judge_36 rfl (lv_at hl 1 rfl) ?_
    obtain ⟨u2, hc3, hm⟩ := bd_some hm
    refine zV_v (n := 1) (wr := []) (w1 := (wd_SpeciesSolverModel_judgeNote kc ad md_thrown md_drafted md_lines md_n md_species md_above md_trialSize md_foundSize md_foundSpecies md_foundN md_foundCost md_chosen md_low md_many md_ties md_winnerCost md_allMany md_allTies u2.1 md_given md_on md_numbers md_trial u2.2.1 u2.2.2.1 u2.2.2.2)) (ws1 := (wd_SpeciesSolverModel_judge kc ad md_thrown md_drafted md_lines md_n md_species md_above md_trialSize md_foundSize md_foundSpecies md_foundN md_foundCost md_chosen md_low md_many md_ties md_winnerCost md_allMany md_allTies u2.1 md_given md_on md_numbers md_trial u2.2.1 u2.2.2.1 u2.2.2.2)) (As := [.int x1]) (rest := []) (ci := 1) (q0 := 0) (y := y_SpeciesSolverModel_judgeNote) ⟨hx, hb, hml, hown, hts⟩ (fun sz => c_SpeciesSolverModel_judgeNote hc3 sz) gw_1146 gw_1143 gw_1145 gw_105 gw_118 hd_SpeciesSolverModel_judgeNote ⟨Nat.le_of_ble_eq_true rfl, Nat.le_of_ble_eq_true rfl⟩ ⟨rfl, rfl⟩ ⟨Nat.zero_le _, Nat.zero_le _⟩ hK hN hP hD hS hA hX [0, 1, 2, 3, 4, 5, 6, 7] [] [0, 1, 2, 3, 4, 5, 6, 7] rfl rfl (by decide) (by decide) (by decide) rfl (by decide) rfl rfl rfl hl.1 rfl (Nat.le_of_ble_eq_true rfl) d_SpeciesSolverModel_judge_37 (fun H locs hP hD hS => ?_)
    refine lv_iinc (v := (x1 + 1)) (lv' := [(1, .int (x1 + 1)), (0, .ref (ad 0))]) hx hb d_SpeciesSolverModel_judge_40 hl (k := 1) rfl rfl (by decide) rfl (fun ls hl => ?_)
    refine lv_goto (tgt := 27) hx hb d_SpeciesSolverModel_judge_43 (by decide) ?_
    exact hk27 u2.1 u2.2.1 u2.2.2.1 u2.2.2.2 (x1 + 1) _ _ _ hm ⟨hP, hD, hS⟩ (lv_sub hl [1, 0] rfl)
def m_SpeciesSolverModel_judge_27 (F : Nat) (md_lines : Int32) (md_n : Int32) (md_species : Int32) (md_above : Int32) (md_trialSize : Int32) (md_given : Nat → Int32) (md_on : Nat → Int32) (md_numbers : Nat → Int32) (md_trial : Nat → Int32)  : Nat → Int32 → (Nat → Int32) → (Nat → Int32) → (Nat → Int32) → Int32 → Option (Int32 × Int32 × (Nat → Int32) × (Nat → Int32) × (Nat → Int32))
  | 0 => fun _ _ _ _ _ => none
  | n + 1 => m_SpeciesSolverModel_judge_27b F md_lines md_n md_species md_above md_trialSize md_given md_on md_numbers md_trial  (m_SpeciesSolverModel_judge_27 F md_lines md_n md_species md_above md_trialSize md_given md_on md_numbers md_trial  n)
set_option maxHeartbeats 4000000 in
set_option maxRecDepth 100000 in
theorem lp_SpeciesSolverModel_judge_27 {r : Int32 × Int32 × (Nat → Int32) × (Nat → Int32) × (Nat → Int32)} {F : Nat} {ad : Nat → Nat} {md_thrown : Int32} {md_drafted : Int32} {md_lines : Int32} {md_n : Int32} {md_species : Int32} {md_above : Int32} {md_trialSize : Int32} {md_foundSize : Int32} {md_foundSpecies : Int32} {md_foundN : Int32} {md_foundCost : Int32} {md_chosen : Int32} {md_low : Int32} {md_many : Int64} {md_ties : Int64} {md_winnerCost : Int32} {md_allMany : Int64} {md_allTies : Int64} {md_given : Nat → Int32} {md_on : Nat → Int32} {md_numbers : Nat → Int32} {md_trial : Nat → Int32}  (C : Cx p s m meth c args A D kc R_SpeciesSolverModel b_SpeciesSolverModel_judge 2 (some .int))  : ∀ (n : Nat) (md_faults : Int32) (md_faultRule : Nat → Int32) (md_faultNote : Nat → Int32) (md_faultLine : Nat → Int32) (x1 : Int32) (H : Heap) (locs : List Loc) (ls : Array Slot), m_SpeciesSolverModel_judge_27 F md_lines md_n md_species md_above md_trialSize md_given md_on md_numbers md_trial  n md_faults md_faultRule md_faultNote md_faultLine x1 = some r → St D A s (wd_SpeciesSolverModel_judge kc ad md_thrown md_drafted md_lines md_n md_species md_above md_trialSize md_foundSize md_foundSpecies md_foundN md_foundCost md_chosen md_low md_many md_ties md_winnerCost md_allMany md_allTies md_faults md_given md_on md_numbers md_trial md_faultRule md_faultNote md_faultLine) H locs → lv_has ls 2 [(0, .ref (ad 0)), (1, .int x1)] → W p l e rm_SpeciesSolverModel_judge s m args below meth c H locs 0 0 (MQ below (Qi D A (wd_SpeciesSolverModel_judge kc ad md_thrown md_drafted md_lines md_n md_species md_above md_trialSize md_foundSize md_foundSpecies md_foundN md_foundCost md_chosen md_low md_many md_ties md_winnerCost md_allMany md_allTies r.2.1 md_given md_on md_numbers md_trial r.2.2.1 r.2.2.2.1 r.2.2.2.2) r.1) args s 0 0 A) (F0 m 27 ls []) := by
  intro n
  induction n with
  | zero => intro md_faults md_faultRule md_faultNote md_faultLine x1 H locs ls hm; cases hm
  | succ n ih => intro md_faults md_faultRule md_faultNote md_faultLine x1 H locs ls hm hZ hl; exact l_SpeciesSolverModel_judge_27 C  ih hm hZ hl
def m_SpeciesSolverModel_judge (F : Nat) (md_lines : Int32) (md_n : Int32) (md_species : Int32) (md_above : Int32) (md_trialSize : Int32) (md_given : Nat → Int32) (md_on : Nat → Int32) (md_numbers : Nat → Int32) (md_trial : Nat → Int32) (md_faults : Int32) (md_faultRule : Nat → Int32) (md_faultNote : Nat → Int32) (md_faultLine : Nat → Int32)  : Option (Int32 × Int32 × (Nat → Int32) × (Nat → Int32) × (Nat → Int32)) :=
  (if md_lines = (0 : Int32) then
    (some ((-1 : Int32), md_faults, md_faultRule, md_faultNote, md_faultLine))
  else
    (bd (m_SpeciesSolverModel_size md_n md_species) (fun u2 => (if md_trialSize = u2 then
      m_SpeciesSolverModel_judge_27 F md_lines md_n md_species md_above md_trialSize md_given md_on md_numbers md_trial  F (0 : Int32) md_faultRule md_faultNote md_faultLine (0 : Int32)
    else
      (some ((-1 : Int32), md_faults, md_faultRule, md_faultNote, md_faultLine))))))
set_option maxHeartbeats 4000000 in
set_option maxRecDepth 100000 in
theorem e_SpeciesSolverModel_judge {r : Int32 × Int32 × (Nat → Int32) × (Nat → Int32) × (Nat → Int32)} {F : Nat} {ad : Nat → Nat} {md_thrown : Int32} {md_drafted : Int32} {md_lines : Int32} {md_n : Int32} {md_species : Int32} {md_above : Int32} {md_trialSize : Int32} {md_foundSize : Int32} {md_foundSpecies : Int32} {md_foundN : Int32} {md_foundCost : Int32} {md_chosen : Int32} {md_low : Int32} {md_many : Int64} {md_ties : Int64} {md_winnerCost : Int32} {md_allMany : Int64} {md_allTies : Int64} {md_faults : Int32} {md_given : Nat → Int32} {md_on : Nat → Int32} {md_numbers : Nat → Int32} {md_trial : Nat → Int32} {md_faultRule : Nat → Int32} {md_faultNote : Nat → Int32} {md_faultLine : Nat → Int32}  {H : Heap} {locs : List Loc} {ls : Array Slot} (C : Cx p s m meth c args A D kc R_SpeciesSolverModel b_SpeciesSolverModel_judge 2 (some .int)) (hm : m_SpeciesSolverModel_judge F md_lines md_n md_species md_above md_trialSize md_given md_on md_numbers md_trial md_faults md_faultRule md_faultNote md_faultLine = some r) (hZ : St D A s (wd_SpeciesSolverModel_judge kc ad md_thrown md_drafted md_lines md_n md_species md_above md_trialSize md_foundSize md_foundSpecies md_foundN md_foundCost md_chosen md_low md_many md_ties md_winnerCost md_allMany md_allTies md_faults md_given md_on md_numbers md_trial md_faultRule md_faultNote md_faultLine) H locs) (hl : lv_has ls 2 [(0, .ref (ad 0))]) : W p l e rm_SpeciesSolverModel_judge s m args below meth c H locs 0 0 (MQ below (Qi D A (wd_SpeciesSolverModel_judge kc ad md_thrown md_drafted md_lines md_n md_species md_above md_trialSize md_foundSize md_foundSpecies md_foundN md_foundCost md_chosen md_low md_many md_ties md_winnerCost md_allMany md_allTies r.2.1 md_given md_on md_numbers md_trial r.2.2.1 r.2.2.2.1 r.2.2.2.2) r.1) args s 0 0 A) (F0 m 0 ls []) := by
  obtain ⟨hx, hb, hr, hts, hown, hml, hlocks, hK, hN, hA, hX⟩ := id C
  obtain ⟨hP, hD, hS⟩ := hZ
  unfold m_SpeciesSolverModel_judge at hm
  refine lv_aload_n hx hb d_SpeciesSolverModel_judge_0 rfl (lv_at hl 0 rfl) ?_
  refine va_get (D := D) (ci := 1) (v := .int md_lines) (C := R_SpeciesSolverModel) (T := T_SpeciesSolverModel) (N := 35) hx hb hts inG_SpeciesSolverModel hown hK hP 0 rfl rfl 4 (by decide) (hts _ gw_822) (fun _ h9 => h9) rfl d_SpeciesSolverModel_judge_1 ?_
  refine lv_if_eq (tgt := 18) hx hb d_SpeciesSolverModel_judge_4 (by decide) (fun c1 => ?_) (fun c1 => ?_)
  · replace hm := ifT hm c1
    refine lv_iconst (v := -1) hx hb d_SpeciesSolverModel_judge_18 (by decide) ?_
    replace hm := Option.some.inj hm; subst hm
    exact zret_i C hP hD hS d_SpeciesSolverModel_judge_19
  · replace hm := ifF hm c1
    refine lv_aload_n hx hb d_SpeciesSolverModel_judge_7 rfl (lv_at hl 0 rfl) ?_
    refine va_get (D := D) (ci := 1) (v := .int md_trialSize) (C := R_SpeciesSolverModel) (T := T_SpeciesSolverModel) (N := 35) hx hb hts inG_SpeciesSolverModel hown hK hP 0 rfl rfl 11 (by decide) (hts _ gw_829) (fun _ h9 => h9) rfl d_SpeciesSolverModel_judge_8 ?_
    refine lv_aload_n hx hb d_SpeciesSolverModel_judge_11 rfl (lv_at hl 0 rfl) ?_
    obtain ⟨u2, hc3, hm⟩ := bd_some hm
    refine zV_i (n := 0) (wr := [((ad 2), .inl (kc 0, 36, .inl md_given)), ((ad 3), .inl (kc 1, 11, .inl md_on)), ((ad 4), .inl (kc 0, 18, .inl md_numbers)), ((ad 5), .inl (kc 0, 45, .inl md_trial)), ((ad 14), .inl (kc 0, 200, .inl md_faultRule)), ((ad 15), .inl (kc 0, 200, .inl md_faultNote)), ((ad 16), .inl (kc 0, 200, .inl md_faultLine))]) (w1 := (wd_SpeciesSolverModel_size kc ad md_thrown md_drafted md_lines md_n md_species md_above md_trialSize md_foundSize md_foundSpecies md_foundN md_foundCost md_chosen md_low md_many md_ties md_winnerCost md_allMany md_allTies md_faults)) (ws1 := (wd_SpeciesSolverModel_judge kc ad md_thrown md_drafted md_lines md_n md_species md_above md_trialSize md_foundSize md_foundSpecies md_foundN md_foundCost md_chosen md_low md_many md_ties md_winnerCost md_allMany md_allTies md_faults md_given md_on md_numbers md_trial md_faultRule md_faultNote md_faultLine)) (As := []) (rest := [.int md_trialSize]) (ci := 1) (q0 := 0) (y := y_SpeciesSolverModel_size) ⟨hx, hb, hml, hown, hts⟩ (fun sz => c_SpeciesSolverModel_size hc3 sz) gw_995 gw_992 gw_994 gw_79 gw_118 hd_SpeciesSolverModel_size ⟨Nat.le_of_ble_eq_true rfl, Nat.le_of_ble_eq_true rfl⟩ ⟨rfl, rfl⟩ ⟨Nat.zero_le _, Nat.zero_le _⟩ hK hN hP hD hS hA hX [0] [1, 2, 3, 4, 5, 6, 7] [7, 0, 1, 2, 3, 4, 5, 6] rfl rfl (by decide) (by decide) (by decide) rfl (by decide) rfl rfl rfl hl.1 rfl (Nat.le_of_ble_eq_true rfl) d_SpeciesSolverModel_judge_12 (fun H locs hP hD hS => ?_)
    refine lv_icmp_eq (tgt := 20) hx hb d_SpeciesSolverModel_judge_15 (by decide) (fun c4 => ?_) (fun c4 => ?_)
    · replace hm := ifT hm c4
      refine lv_aload_n hx hb d_SpeciesSolverModel_judge_20 rfl (lv_at hl 0 rfl) ?_
      refine lv_iconst (v := 0) hx hb d_SpeciesSolverModel_judge_21 (by decide) ?_
      refine va_put (D := D) (ci := 1) (v := .int (0 : Int32)) (ty := .int) (C := R_SpeciesSolverModel) (T := T_SpeciesSolverModel) (N := 35) hx hb hts inG_SpeciesSolverModel ty_SpeciesSolverModel tok_SpeciesSolverModel nmo_SpeciesSolverModel hown hK hP hD hS 0 rfl rfl 34 (by decide) (hts _ gw_852) (fun _ h9 => h9) rfl (tok_SpeciesSolverModel 34 (by decide)) rfl rfl (Nat.le_of_ble_eq_true rfl) d_SpeciesSolverModel_judge_22 (fun H locs hP hD hS => ?_)
      replace hP : va_P D vwCl (wd_SpeciesSolverModel_judge kc ad md_thrown md_drafted md_lines md_n md_species md_above md_trialSize md_foundSize md_foundSpecies md_foundN md_foundCost md_chosen md_low md_many md_ties md_winnerCost md_allMany md_allTies (0 : Int32) md_given md_on md_numbers md_trial md_faultRule md_faultNote md_faultLine) H := hP
      replace hD : va_D A (wd_SpeciesSolverModel_judge kc ad md_thrown md_drafted md_lines md_n md_species md_above md_trialSize md_foundSize md_foundSpecies md_foundN md_foundCost md_chosen md_low md_many md_ties md_winnerCost md_allMany md_allTies (0 : Int32) md_given md_on md_numbers md_trial md_faultRule md_faultNote md_faultLine) := hD
      refine lv_iconst (v := 0) hx hb d_SpeciesSolverModel_judge_25 (by decide) ?_
      refine lv_istore_n (lv' := [(1, .int (0 : Int32)), (0, .ref (ad 0))]) hx hb d_SpeciesSolverModel_judge_26 rfl hl (by decide) rfl (fun ls hl => ?_)
      exact lp_SpeciesSolverModel_judge_27 C  F (0 : Int32) md_faultRule md_faultNote md_faultLine (0 : Int32) _ _ _ hm ⟨hP, hD, hS⟩ (lv_sub hl [1, 0] rfl)
    · replace hm := ifF hm c4
      refine lv_iconst (v := -1) hx hb d_SpeciesSolverModel_judge_18 (by decide) ?_
      replace hm := Option.some.inj hm; subst hm
      exact zret_i C hP hD hS d_SpeciesSolverModel_judge_19
set_option maxHeartbeats 4000000 in
set_option maxRecDepth 100000 in
theorem c_SpeciesSolverModel_judge {l : Launch} {D : va_G} {kc : Nat → ClassId} {r : Int32 × Int32 × (Nat → Int32) × (Nat → Int32) × (Nat → Int32)} {F : Nat} {ad : Nat → Nat} {md_thrown : Int32} {md_drafted : Int32} {md_lines : Int32} {md_n : Int32} {md_species : Int32} {md_above : Int32} {md_trialSize : Int32} {md_foundSize : Int32} {md_foundSpecies : Int32} {md_foundN : Int32} {md_foundCost : Int32} {md_chosen : Int32} {md_low : Int32} {md_many : Int64} {md_ties : Int64} {md_winnerCost : Int32} {md_allMany : Int64} {md_allTies : Int64} {md_faults : Int32} {md_given : Nat → Int32} {md_on : Nat → Int32} {md_numbers : Nat → Int32} {md_trial : Nat → Int32} {md_faultRule : Nat → Int32} {md_faultNote : Nat → Int32} {md_faultLine : Nat → Int32}  (hm : m_SpeciesSolverModel_judge F md_lines md_n md_species md_above md_trialSize md_given md_on md_numbers md_trial md_faults md_faultRule md_faultNote md_faultLine = some r) (sz : Nat) : Ci l y_SpeciesSolverModel_judge ws_SpeciesSolverModel_judge rm_SpeciesSolverModel_judge D kc sz [.ref (ad 0)] (wd_SpeciesSolverModel_judge kc ad md_thrown md_drafted md_lines md_n md_species md_above md_trialSize md_foundSize md_foundSpecies md_foundN md_foundCost md_chosen md_low md_many md_ties md_winnerCost md_allMany md_allTies md_faults md_given md_on md_numbers md_trial md_faultRule md_faultNote md_faultLine) (wd_SpeciesSolverModel_judge kc ad md_thrown md_drafted md_lines md_n md_species md_above md_trialSize md_foundSize md_foundSpecies md_foundN md_foundCost md_chosen md_low md_many md_ties md_winnerCost md_allMany md_allTies r.2.1 md_given md_on md_numbers md_trial r.2.2.1 r.2.2.2.1 r.2.2.2.2) r.1 :=
  Cz_of (Qf := fun A => (Qi D A (wd_SpeciesSolverModel_judge kc ad md_thrown md_drafted md_lines md_n md_species md_above md_trialSize md_foundSize md_foundSpecies md_foundN md_foundCost md_chosen md_low md_many md_ties md_winnerCost md_allMany md_allTies r.2.1 md_given md_on md_numbers md_trial r.2.2.1 r.2.2.2.1 r.2.2.2.2) r.1)) (cc := b_SpeciesSolverModel_judge) (maxL := 2) (ret := (some .int)) (by decide) rfl rfl (fun C hZ hl => e_SpeciesSolverModel_judge C hm hZ hl)
abbrev b_SpeciesSolverModel_fault : ByteArray := prog_9_method_64_code
abbrev y_SpeciesSolverModel_fault : MethodName := ⟨"SpeciesSolverModel", "fault", "(II)I"⟩
theorem d_SpeciesSolverModel_fault_0 : decode b_SpeciesSolverModel_fault 0 = .ok (.iload_n 1, 1) := by decide +kernel
theorem d_SpeciesSolverModel_fault_1 : decode b_SpeciesSolverModel_fault 1 = .ok (.ifCond .lt 27, 3) := by decide +kernel
theorem d_SpeciesSolverModel_fault_4 : decode b_SpeciesSolverModel_fault 4 = .ok (.iload_n 1, 1) := by decide +kernel
theorem d_SpeciesSolverModel_fault_5 : decode b_SpeciesSolverModel_fault 5 = .ok (.aload_n 0, 1) := by decide +kernel
theorem d_SpeciesSolverModel_fault_6 : decode b_SpeciesSolverModel_fault 6 = .ok (.getfield 254, 3) := by decide +kernel
theorem d_SpeciesSolverModel_fault_9 : decode b_SpeciesSolverModel_fault 9 = .ok (.if_icmp .ge 19, 3) := by decide +kernel
theorem d_SpeciesSolverModel_fault_12 : decode b_SpeciesSolverModel_fault 12 = .ok (.iload_n 1, 1) := by decide +kernel
theorem d_SpeciesSolverModel_fault_13 : decode b_SpeciesSolverModel_fault 13 = .ok (.sipush 200, 3) := by decide +kernel
theorem d_SpeciesSolverModel_fault_16 : decode b_SpeciesSolverModel_fault 16 = .ok (.if_icmp .ge 12, 3) := by decide +kernel
theorem d_SpeciesSolverModel_fault_19 : decode b_SpeciesSolverModel_fault 19 = .ok (.iload_n 2, 1) := by decide +kernel
theorem d_SpeciesSolverModel_fault_20 : decode b_SpeciesSolverModel_fault 20 = .ok (.ifCond .lt 8, 3) := by decide +kernel
theorem d_SpeciesSolverModel_fault_23 : decode b_SpeciesSolverModel_fault 23 = .ok (.iload_n 2, 1) := by decide +kernel
theorem d_SpeciesSolverModel_fault_24 : decode b_SpeciesSolverModel_fault 24 = .ok (.iconst 2, 1) := by decide +kernel
theorem d_SpeciesSolverModel_fault_25 : decode b_SpeciesSolverModel_fault 25 = .ok (.if_icmp .le 5, 3) := by decide +kernel
theorem d_SpeciesSolverModel_fault_28 : decode b_SpeciesSolverModel_fault 28 = .ok (.iconst (-1), 1) := by decide +kernel
theorem d_SpeciesSolverModel_fault_29 : decode b_SpeciesSolverModel_fault 29 = .ok (.ireturn, 1) := by decide +kernel
theorem d_SpeciesSolverModel_fault_30 : decode b_SpeciesSolverModel_fault 30 = .ok (.iload_n 2, 1) := by decide +kernel
theorem d_SpeciesSolverModel_fault_31 : decode b_SpeciesSolverModel_fault 31 = .ok (.ifCond .ne 12, 3) := by decide +kernel
theorem d_SpeciesSolverModel_fault_34 : decode b_SpeciesSolverModel_fault 34 = .ok (.aload_n 0, 1) := by decide +kernel
theorem d_SpeciesSolverModel_fault_35 : decode b_SpeciesSolverModel_fault 35 = .ok (.getfield 60, 3) := by decide +kernel
theorem d_SpeciesSolverModel_fault_38 : decode b_SpeciesSolverModel_fault 38 = .ok (.iload_n 1, 1) := by decide +kernel
theorem d_SpeciesSolverModel_fault_39 : decode b_SpeciesSolverModel_fault 39 = .ok (.iaload, 1) := by decide +kernel
theorem d_SpeciesSolverModel_fault_40 : decode b_SpeciesSolverModel_fault 40 = .ok (.goto 23, 3) := by decide +kernel
theorem d_SpeciesSolverModel_fault_43 : decode b_SpeciesSolverModel_fault 43 = .ok (.iload_n 2, 1) := by decide +kernel
theorem d_SpeciesSolverModel_fault_44 : decode b_SpeciesSolverModel_fault 44 = .ok (.iconst 1, 1) := by decide +kernel
theorem d_SpeciesSolverModel_fault_45 : decode b_SpeciesSolverModel_fault 45 = .ok (.if_icmp .ne 12, 3) := by decide +kernel
theorem d_SpeciesSolverModel_fault_48 : decode b_SpeciesSolverModel_fault 48 = .ok (.aload_n 0, 1) := by decide +kernel
theorem d_SpeciesSolverModel_fault_49 : decode b_SpeciesSolverModel_fault 49 = .ok (.getfield 63, 3) := by decide +kernel
theorem d_SpeciesSolverModel_fault_52 : decode b_SpeciesSolverModel_fault 52 = .ok (.iload_n 1, 1) := by decide +kernel
theorem d_SpeciesSolverModel_fault_53 : decode b_SpeciesSolverModel_fault 53 = .ok (.iaload, 1) := by decide +kernel
theorem d_SpeciesSolverModel_fault_54 : decode b_SpeciesSolverModel_fault 54 = .ok (.goto 9, 3) := by decide +kernel
theorem d_SpeciesSolverModel_fault_57 : decode b_SpeciesSolverModel_fault 57 = .ok (.aload_n 0, 1) := by decide +kernel
theorem d_SpeciesSolverModel_fault_58 : decode b_SpeciesSolverModel_fault 58 = .ok (.getfield 66, 3) := by decide +kernel
theorem d_SpeciesSolverModel_fault_61 : decode b_SpeciesSolverModel_fault 61 = .ok (.iload_n 1, 1) := by decide +kernel
theorem d_SpeciesSolverModel_fault_62 : decode b_SpeciesSolverModel_fault 62 = .ok (.iaload, 1) := by decide +kernel
theorem d_SpeciesSolverModel_fault_63 : decode b_SpeciesSolverModel_fault 63 = .ok (.ireturn, 1) := by decide +kernel
abbrev wd_SpeciesSolverModel_fault (kc : Nat → ClassId) (ad : Nat → Nat) (md_thrown : Int32) (md_drafted : Int32) (md_lines : Int32) (md_n : Int32) (md_species : Int32) (md_above : Int32) (md_trialSize : Int32) (md_foundSize : Int32) (md_foundSpecies : Int32) (md_foundN : Int32) (md_foundCost : Int32) (md_chosen : Int32) (md_low : Int32) (md_many : Int64) (md_ties : Int64) (md_winnerCost : Int32) (md_allMany : Int64) (md_allTies : Int64) (md_faults : Int32) (md_faultRule : Nat → Int32) (md_faultNote : Nat → Int32) (md_faultLine : Nat → Int32) : va_W := [((ad 0), .inr (1, [.int md_thrown, .ref (ad 1), .int md_drafted, .ref (ad 2), .int md_lines, .int md_n, .int md_species, .int md_above, .ref (ad 3), .ref (ad 4), .ref (ad 5), .int md_trialSize, .ref (ad 6), .int md_foundSize, .int md_foundSpecies, .int md_foundN, .int md_foundCost, .ref (ad 7), .int md_chosen, .ref (ad 8), .ref (ad 9), .ref (ad 10), .int md_low, .long md_many, .long md_ties, .ref (ad 11), .ref (ad 12), .int md_winnerCost, .long md_allMany, .long md_allTies, .ref (ad 13), .ref (ad 14), .ref (ad 15), .ref (ad 16), .int md_faults])), ((ad 14), .inl (kc 0, 200, .inl md_faultRule)), ((ad 15), .inl (kc 0, 200, .inl md_faultNote)), ((ad 16), .inl (kc 0, 200, .inl md_faultLine))]
abbrev rm_SpeciesSolverModel_fault : Room := { frames := 0, cells := 0, slots := 0, locals := 0 }
abbrev cw_SpeciesSolverModel_fault : Cond := .code y_SpeciesSolverModel_fault b_SpeciesSolverModel_fault 3 (some .int)
abbrev ws_SpeciesSolverModel_fault : List Cond := cw_SpeciesSolverModel_fault :: GW
theorem hd_SpeciesSolverModel_fault : y_SpeciesSolverModel_fault.cls ≠ "java/lang/invoke/MethodHandle" ∧ y_SpeciesSolverModel_fault.cls ≠ "java/lang/invoke/VarHandle" ∧ (parseMethodDescriptor y_SpeciesSolverModel_fault.desc).map (fun d => d.parameters.length) = some 2 := by decide +kernel
def m_SpeciesSolverModel_fault (md_faults : Int32) (md_faultRule : Nat → Int32) (md_faultNote : Nat → Int32) (md_faultLine : Nat → Int32)  (a1 : Int32) (a2 : Int32) : Option (Int32) :=
  (if a1 < (0 : Int32) then
    (some (-1 : Int32))
  else
    (if md_faults ≤ a1 then
      (some (-1 : Int32))
    else
      (if (200 : Int32) ≤ a1 then
        (some (-1 : Int32))
      else
        (if a2 < (0 : Int32) then
          (some (-1 : Int32))
        else
          (if a2 ≤ (2 : Int32) then
            (if a2 = (0 : Int32) then
              (gd a1 200 (some (md_faultRule (Int32.toNatClampNeg a1))))
            else
              (if a2 = (1 : Int32) then
                (gd a1 200 (some (md_faultNote (Int32.toNatClampNeg a1))))
              else
                (gd a1 200 (some (md_faultLine (Int32.toNatClampNeg a1))))))
          else
            (some (-1 : Int32)))))))
set_option maxHeartbeats 4000000 in
set_option maxRecDepth 100000 in
theorem e_SpeciesSolverModel_fault {r : Int32} {ad : Nat → Nat} {md_thrown : Int32} {md_drafted : Int32} {md_lines : Int32} {md_n : Int32} {md_species : Int32} {md_above : Int32} {md_trialSize : Int32} {md_foundSize : Int32} {md_foundSpecies : Int32} {md_foundN : Int32} {md_foundCost : Int32} {md_chosen : Int32} {md_low : Int32} {md_many : Int64} {md_ties : Int64} {md_winnerCost : Int32} {md_allMany : Int64} {md_allTies : Int64} {md_faults : Int32} {md_faultRule : Nat → Int32} {md_faultNote : Nat → Int32} {md_faultLine : Nat → Int32} {a1 : Int32} {a2 : Int32} {H : Heap} {locs : List Loc} {ls : Array Slot} (C : Cx p s m meth c args A D kc R_SpeciesSolverModel b_SpeciesSolverModel_fault 3 (some .int)) (hm : m_SpeciesSolverModel_fault md_faults md_faultRule md_faultNote md_faultLine a1 a2 = some r) (hZ : St D A s (wd_SpeciesSolverModel_fault kc ad md_thrown md_drafted md_lines md_n md_species md_above md_trialSize md_foundSize md_foundSpecies md_foundN md_foundCost md_chosen md_low md_many md_ties md_winnerCost md_allMany md_allTies md_faults md_faultRule md_faultNote md_faultLine) H locs) (hl : lv_has ls 3 [(0, .ref (ad 0)), (1, .int a1), (2, .int a2)]) : W p l e rm_SpeciesSolverModel_fault s m args below meth c H locs 0 0 (MQ below (Qi D A (wd_SpeciesSolverModel_fault kc ad md_thrown md_drafted md_lines md_n md_species md_above md_trialSize md_foundSize md_foundSpecies md_foundN md_foundCost md_chosen md_low md_many md_ties md_winnerCost md_allMany md_allTies md_faults md_faultRule md_faultNote md_faultLine) r) args s 0 0 A) (F0 m 0 ls []) := by
  obtain ⟨hx, hb, hr, hts, hown, hml, hlocks, hK, hN, hA, hX⟩ := id C
  obtain ⟨hP, hD, hS⟩ := hZ
  unfold m_SpeciesSolverModel_fault at hm
  refine lv_iload_n hx hb d_SpeciesSolverModel_fault_0 rfl (lv_at hl 1 rfl) ?_
  refine lv_if_lt (tgt := 28) hx hb d_SpeciesSolverModel_fault_1 (by decide) (fun c1 => ?_) (fun c1 => ?_)
  · replace hm := ifT hm c1
    refine lv_iconst (v := -1) hx hb d_SpeciesSolverModel_fault_28 (by decide) ?_
    replace hm := Option.some.inj hm; subst hm
    exact zret_i C hP hD hS d_SpeciesSolverModel_fault_29
  · replace hm := ifF hm c1
    refine lv_iload_n hx hb d_SpeciesSolverModel_fault_4 rfl (lv_at hl 1 rfl) ?_
    refine lv_aload_n hx hb d_SpeciesSolverModel_fault_5 rfl (lv_at hl 0 rfl) ?_
    refine va_get (D := D) (ci := 1) (v := .int md_faults) (C := R_SpeciesSolverModel) (T := T_SpeciesSolverModel) (N := 35) hx hb hts inG_SpeciesSolverModel hown hK hP 0 rfl rfl 34 (by decide) (hts _ gw_852) (fun _ h9 => h9) rfl d_SpeciesSolverModel_fault_6 ?_
    refine lv_icmp_ge (tgt := 28) hx hb d_SpeciesSolverModel_fault_9 (by decide) (fun c2 => ?_) (fun c2 => ?_)
    · replace hm := ifT hm c2
      refine lv_iconst (v := -1) hx hb d_SpeciesSolverModel_fault_28 (by decide) ?_
      replace hm := Option.some.inj hm; subst hm
      exact zret_i C hP hD hS d_SpeciesSolverModel_fault_29
    · replace hm := ifF hm c2
      refine lv_iload_n hx hb d_SpeciesSolverModel_fault_12 rfl (lv_at hl 1 rfl) ?_
      refine lv_sipush (v := 200) hx hb d_SpeciesSolverModel_fault_13 (by decide) ?_
      refine lv_icmp_ge (tgt := 28) hx hb d_SpeciesSolverModel_fault_16 (by decide) (fun c3 => ?_) (fun c3 => ?_)
      · replace hm := ifT hm c3
        refine lv_iconst (v := -1) hx hb d_SpeciesSolverModel_fault_28 (by decide) ?_
        replace hm := Option.some.inj hm; subst hm
        exact zret_i C hP hD hS d_SpeciesSolverModel_fault_29
      · replace hm := ifF hm c3
        refine lv_iload_n hx hb d_SpeciesSolverModel_fault_19 rfl (lv_at hl 2 rfl) ?_
        refine lv_if_lt (tgt := 28) hx hb d_SpeciesSolverModel_fault_20 (by decide) (fun c4 => ?_) (fun c4 => ?_)
        · replace hm := ifT hm c4
          refine lv_iconst (v := -1) hx hb d_SpeciesSolverModel_fault_28 (by decide) ?_
          replace hm := Option.some.inj hm; subst hm
          exact zret_i C hP hD hS d_SpeciesSolverModel_fault_29
        · replace hm := ifF hm c4
          refine lv_iload_n hx hb d_SpeciesSolverModel_fault_23 rfl (lv_at hl 2 rfl) ?_
          refine lv_iconst (v := 2) hx hb d_SpeciesSolverModel_fault_24 (by decide) ?_
          refine lv_icmp_le (tgt := 30) hx hb d_SpeciesSolverModel_fault_25 (by decide) (fun c5 => ?_) (fun c5 => ?_)
          · replace hm := ifT hm c5
            refine lv_iload_n hx hb d_SpeciesSolverModel_fault_30 rfl (lv_at hl 2 rfl) ?_
            refine lv_if_ne (tgt := 43) hx hb d_SpeciesSolverModel_fault_31 (by decide) (fun c6 => ?_) (fun c6 => ?_)
            · replace hm := ifF hm c6
              refine lv_iload_n hx hb d_SpeciesSolverModel_fault_43 rfl (lv_at hl 2 rfl) ?_
              refine lv_iconst (v := 1) hx hb d_SpeciesSolverModel_fault_44 (by decide) ?_
              refine lv_icmp_ne (tgt := 57) hx hb d_SpeciesSolverModel_fault_45 (by decide) (fun c7 => ?_) (fun c7 => ?_)
              · replace hm := ifF hm c7
                refine lv_aload_n hx hb d_SpeciesSolverModel_fault_57 rfl (lv_at hl 0 rfl) ?_
                refine va_get (D := D) (ci := 1) (v := .ref (ad 16)) (C := R_SpeciesSolverModel) (T := T_SpeciesSolverModel) (N := 35) hx hb hts inG_SpeciesSolverModel hown hK hP 0 rfl rfl 33 (by decide) (hts _ gw_851) (fun _ h9 => h9) rfl d_SpeciesSolverModel_fault_58 ?_
                refine lv_iload_n hx hb d_SpeciesSolverModel_fault_61 rfl (lv_at hl 1 rfl) ?_
                obtain ⟨hi8, hm⟩ := gd_some hm
                refine va_iald hx hb hK hP 3 0 rfl rfl hi8 d_SpeciesSolverModel_fault_62 ?_
                replace hm := Option.some.inj hm; subst hm
                exact zret_i C hP hD hS d_SpeciesSolverModel_fault_63
              · replace hm := ifT hm c7
                refine lv_aload_n hx hb d_SpeciesSolverModel_fault_48 rfl (lv_at hl 0 rfl) ?_
                refine va_get (D := D) (ci := 1) (v := .ref (ad 15)) (C := R_SpeciesSolverModel) (T := T_SpeciesSolverModel) (N := 35) hx hb hts inG_SpeciesSolverModel hown hK hP 0 rfl rfl 32 (by decide) (hts _ gw_850) (fun _ h9 => h9) rfl d_SpeciesSolverModel_fault_49 ?_
                refine lv_iload_n hx hb d_SpeciesSolverModel_fault_52 rfl (lv_at hl 1 rfl) ?_
                obtain ⟨hi9, hm⟩ := gd_some hm
                refine va_iald hx hb hK hP 2 0 rfl rfl hi9 d_SpeciesSolverModel_fault_53 ?_
                refine lv_goto (tgt := 63) hx hb d_SpeciesSolverModel_fault_54 (by decide) ?_
                replace hm := Option.some.inj hm; subst hm
                exact zret_i C hP hD hS d_SpeciesSolverModel_fault_63
            · replace hm := ifT hm c6
              refine lv_aload_n hx hb d_SpeciesSolverModel_fault_34 rfl (lv_at hl 0 rfl) ?_
              refine va_get (D := D) (ci := 1) (v := .ref (ad 14)) (C := R_SpeciesSolverModel) (T := T_SpeciesSolverModel) (N := 35) hx hb hts inG_SpeciesSolverModel hown hK hP 0 rfl rfl 31 (by decide) (hts _ gw_849) (fun _ h9 => h9) rfl d_SpeciesSolverModel_fault_35 ?_
              refine lv_iload_n hx hb d_SpeciesSolverModel_fault_38 rfl (lv_at hl 1 rfl) ?_
              obtain ⟨hi10, hm⟩ := gd_some hm
              refine va_iald hx hb hK hP 1 0 rfl rfl hi10 d_SpeciesSolverModel_fault_39 ?_
              refine lv_goto (tgt := 63) hx hb d_SpeciesSolverModel_fault_40 (by decide) ?_
              replace hm := Option.some.inj hm; subst hm
              exact zret_i C hP hD hS d_SpeciesSolverModel_fault_63
          · replace hm := ifF hm c5
            refine lv_iconst (v := -1) hx hb d_SpeciesSolverModel_fault_28 (by decide) ?_
            replace hm := Option.some.inj hm; subst hm
            exact zret_i C hP hD hS d_SpeciesSolverModel_fault_29
set_option maxHeartbeats 4000000 in
set_option maxRecDepth 100000 in
theorem c_SpeciesSolverModel_fault {l : Launch} {D : va_G} {kc : Nat → ClassId} {r : Int32} {ad : Nat → Nat} {md_thrown : Int32} {md_drafted : Int32} {md_lines : Int32} {md_n : Int32} {md_species : Int32} {md_above : Int32} {md_trialSize : Int32} {md_foundSize : Int32} {md_foundSpecies : Int32} {md_foundN : Int32} {md_foundCost : Int32} {md_chosen : Int32} {md_low : Int32} {md_many : Int64} {md_ties : Int64} {md_winnerCost : Int32} {md_allMany : Int64} {md_allTies : Int64} {md_faults : Int32} {md_faultRule : Nat → Int32} {md_faultNote : Nat → Int32} {md_faultLine : Nat → Int32} {a1 : Int32} {a2 : Int32} (hm : m_SpeciesSolverModel_fault md_faults md_faultRule md_faultNote md_faultLine a1 a2 = some r) (sz : Nat) : Ci l y_SpeciesSolverModel_fault ws_SpeciesSolverModel_fault rm_SpeciesSolverModel_fault D kc sz [.ref (ad 0), .int a1, .int a2] (wd_SpeciesSolverModel_fault kc ad md_thrown md_drafted md_lines md_n md_species md_above md_trialSize md_foundSize md_foundSpecies md_foundN md_foundCost md_chosen md_low md_many md_ties md_winnerCost md_allMany md_allTies md_faults md_faultRule md_faultNote md_faultLine) (wd_SpeciesSolverModel_fault kc ad md_thrown md_drafted md_lines md_n md_species md_above md_trialSize md_foundSize md_foundSpecies md_foundN md_foundCost md_chosen md_low md_many md_ties md_winnerCost md_allMany md_allTies md_faults md_faultRule md_faultNote md_faultLine) r :=
  Cz_of (Qf := fun A => (Qi D A (wd_SpeciesSolverModel_fault kc ad md_thrown md_drafted md_lines md_n md_species md_above md_trialSize md_foundSize md_foundSpecies md_foundN md_foundCost md_chosen md_low md_many md_ties md_winnerCost md_allMany md_allTies md_faults md_faultRule md_faultNote md_faultLine) r)) (cc := b_SpeciesSolverModel_fault) (maxL := 3) (ret := (some .int)) (by decide) rfl rfl (fun C hZ hl => e_SpeciesSolverModel_fault C hm hZ hl)
abbrev b_SpeciesSolverModel_tried : ByteArray := prog_9_method_65_code
abbrev y_SpeciesSolverModel_tried : MethodName := ⟨"SpeciesSolverModel", "tried", "()I"⟩
theorem d_SpeciesSolverModel_tried_0 : decode b_SpeciesSolverModel_tried 0 = .ok (.aload_n 0, 1) := by decide +kernel
theorem d_SpeciesSolverModel_tried_1 : decode b_SpeciesSolverModel_tried 1 = .ok (.getfield 78, 3) := by decide +kernel
theorem d_SpeciesSolverModel_tried_4 : decode b_SpeciesSolverModel_tried 4 = .ok (.ifCond .eq 14, 3) := by decide +kernel
theorem d_SpeciesSolverModel_tried_7 : decode b_SpeciesSolverModel_tried 7 = .ok (.aload_n 0, 1) := by decide +kernel
theorem d_SpeciesSolverModel_tried_8 : decode b_SpeciesSolverModel_tried 8 = .ok (.getfield 84, 3) := by decide +kernel
theorem d_SpeciesSolverModel_tried_11 : decode b_SpeciesSolverModel_tried 11 = .ok (.aload_n 0, 1) := by decide +kernel
theorem d_SpeciesSolverModel_tried_12 : decode b_SpeciesSolverModel_tried 12 = .ok (.invokevirtual 130, 3) := by decide +kernel
theorem d_SpeciesSolverModel_tried_15 : decode b_SpeciesSolverModel_tried 15 = .ok (.if_icmp .eq 5, 3) := by decide +kernel
theorem d_SpeciesSolverModel_tried_18 : decode b_SpeciesSolverModel_tried 18 = .ok (.iconst (-1), 1) := by decide +kernel
theorem d_SpeciesSolverModel_tried_19 : decode b_SpeciesSolverModel_tried 19 = .ok (.ireturn, 1) := by decide +kernel
theorem d_SpeciesSolverModel_tried_20 : decode b_SpeciesSolverModel_tried 20 = .ok (.iconst 0, 1) := by decide +kernel
theorem d_SpeciesSolverModel_tried_21 : decode b_SpeciesSolverModel_tried 21 = .ok (.istore_n 1, 1) := by decide +kernel
theorem d_SpeciesSolverModel_tried_22 : decode b_SpeciesSolverModel_tried 22 = .ok (.iconst 0, 1) := by decide +kernel
theorem d_SpeciesSolverModel_tried_23 : decode b_SpeciesSolverModel_tried 23 = .ok (.istore_n 2, 1) := by decide +kernel
theorem d_SpeciesSolverModel_tried_24 : decode b_SpeciesSolverModel_tried 24 = .ok (.iload_n 2, 1) := by decide +kernel
theorem d_SpeciesSolverModel_tried_25 : decode b_SpeciesSolverModel_tried 25 = .ok (.aload_n 0, 1) := by decide +kernel
theorem d_SpeciesSolverModel_tried_26 : decode b_SpeciesSolverModel_tried 26 = .ok (.getfield 84, 3) := by decide +kernel
theorem d_SpeciesSolverModel_tried_29 : decode b_SpeciesSolverModel_tried 29 = .ok (.if_icmp .ge 55, 3) := by decide +kernel
theorem d_SpeciesSolverModel_tried_32 : decode b_SpeciesSolverModel_tried 32 = .ok (.iload_n 1, 1) := by decide +kernel
theorem d_SpeciesSolverModel_tried_33 : decode b_SpeciesSolverModel_tried 33 = .ok (.iload_n 2, 1) := by decide +kernel
theorem d_SpeciesSolverModel_tried_34 : decode b_SpeciesSolverModel_tried 34 = .ok (.ifCond .le 24, 3) := by decide +kernel
theorem d_SpeciesSolverModel_tried_37 : decode b_SpeciesSolverModel_tried 37 = .ok (.aload_n 0, 1) := by decide +kernel
theorem d_SpeciesSolverModel_tried_38 : decode b_SpeciesSolverModel_tried 38 = .ok (.aload_n 0, 1) := by decide +kernel
theorem d_SpeciesSolverModel_tried_39 : decode b_SpeciesSolverModel_tried 39 = .ok (.getfield 31, 3) := by decide +kernel
theorem d_SpeciesSolverModel_tried_42 : decode b_SpeciesSolverModel_tried 42 = .ok (.iload_n 2, 1) := by decide +kernel
theorem d_SpeciesSolverModel_tried_43 : decode b_SpeciesSolverModel_tried 43 = .ok (.iconst 1, 1) := by decide +kernel
theorem d_SpeciesSolverModel_tried_44 : decode b_SpeciesSolverModel_tried 44 = .ok (.isub, 1) := by decide +kernel
theorem d_SpeciesSolverModel_tried_45 : decode b_SpeciesSolverModel_tried 45 = .ok (.iaload, 1) := by decide +kernel
theorem d_SpeciesSolverModel_tried_46 : decode b_SpeciesSolverModel_tried 46 = .ok (.aload_n 0, 1) := by decide +kernel
theorem d_SpeciesSolverModel_tried_47 : decode b_SpeciesSolverModel_tried 47 = .ok (.getfield 31, 3) := by decide +kernel
theorem d_SpeciesSolverModel_tried_50 : decode b_SpeciesSolverModel_tried 50 = .ok (.iload_n 2, 1) := by decide +kernel
theorem d_SpeciesSolverModel_tried_51 : decode b_SpeciesSolverModel_tried 51 = .ok (.iaload, 1) := by decide +kernel
theorem d_SpeciesSolverModel_tried_52 : decode b_SpeciesSolverModel_tried 52 = .ok (.invokevirtual 181, 3) := by decide +kernel
theorem d_SpeciesSolverModel_tried_55 : decode b_SpeciesSolverModel_tried 55 = .ok (.goto 4, 3) := by decide +kernel
theorem d_SpeciesSolverModel_tried_58 : decode b_SpeciesSolverModel_tried 58 = .ok (.iconst 0, 1) := by decide +kernel
theorem d_SpeciesSolverModel_tried_59 : decode b_SpeciesSolverModel_tried 59 = .ok (.aload_n 0, 1) := by decide +kernel
theorem d_SpeciesSolverModel_tried_60 : decode b_SpeciesSolverModel_tried 60 = .ok (.iload_n 2, 1) := by decide +kernel
theorem d_SpeciesSolverModel_tried_61 : decode b_SpeciesSolverModel_tried 61 = .ok (.aload_n 0, 1) := by decide +kernel
theorem d_SpeciesSolverModel_tried_62 : decode b_SpeciesSolverModel_tried 62 = .ok (.iload_n 2, 1) := by decide +kernel
theorem d_SpeciesSolverModel_tried_63 : decode b_SpeciesSolverModel_tried 63 = .ok (.invokevirtual 261, 3) := by decide +kernel
theorem d_SpeciesSolverModel_tried_66 : decode b_SpeciesSolverModel_tried 66 = .ok (.aload_n 0, 1) := by decide +kernel
theorem d_SpeciesSolverModel_tried_67 : decode b_SpeciesSolverModel_tried 67 = .ok (.getfield 31, 3) := by decide +kernel
theorem d_SpeciesSolverModel_tried_70 : decode b_SpeciesSolverModel_tried 70 = .ok (.iload_n 2, 1) := by decide +kernel
theorem d_SpeciesSolverModel_tried_71 : decode b_SpeciesSolverModel_tried 71 = .ok (.iaload, 1) := by decide +kernel
theorem d_SpeciesSolverModel_tried_72 : decode b_SpeciesSolverModel_tried 72 = .ok (.invokevirtual 184, 3) := by decide +kernel
theorem d_SpeciesSolverModel_tried_75 : decode b_SpeciesSolverModel_tried 75 = .ok (.iadd, 1) := by decide +kernel
theorem d_SpeciesSolverModel_tried_76 : decode b_SpeciesSolverModel_tried 76 = .ok (.iadd, 1) := by decide +kernel
theorem d_SpeciesSolverModel_tried_77 : decode b_SpeciesSolverModel_tried 77 = .ok (.istore_n 1, 1) := by decide +kernel
theorem d_SpeciesSolverModel_tried_78 : decode b_SpeciesSolverModel_tried 78 = .ok (.iinc 2 1, 3) := by decide +kernel
theorem d_SpeciesSolverModel_tried_81 : decode b_SpeciesSolverModel_tried 81 = .ok (.goto (-57), 3) := by decide +kernel
theorem d_SpeciesSolverModel_tried_84 : decode b_SpeciesSolverModel_tried 84 = .ok (.iload_n 1, 1) := by decide +kernel
theorem d_SpeciesSolverModel_tried_85 : decode b_SpeciesSolverModel_tried 85 = .ok (.ireturn, 1) := by decide +kernel
abbrev wd_SpeciesSolverModel_tried (kc : Nat → ClassId) (ad : Nat → Nat) (md_thrown : Int32) (md_drafted : Int32) (md_lines : Int32) (md_n : Int32) (md_species : Int32) (md_above : Int32) (md_trialSize : Int32) (md_foundSize : Int32) (md_foundSpecies : Int32) (md_foundN : Int32) (md_foundCost : Int32) (md_chosen : Int32) (md_low : Int32) (md_many : Int64) (md_ties : Int64) (md_winnerCost : Int32) (md_allMany : Int64) (md_allTies : Int64) (md_faults : Int32) (md_given : Nat → Int32) (md_numbers : Nat → Int32) (md_trial : Nat → Int32) : va_W := [((ad 0), .inr (1, [.int md_thrown, .ref (ad 1), .int md_drafted, .ref (ad 2), .int md_lines, .int md_n, .int md_species, .int md_above, .ref (ad 3), .ref (ad 4), .ref (ad 5), .int md_trialSize, .ref (ad 6), .int md_foundSize, .int md_foundSpecies, .int md_foundN, .int md_foundCost, .ref (ad 7), .int md_chosen, .ref (ad 8), .ref (ad 9), .ref (ad 10), .int md_low, .long md_many, .long md_ties, .ref (ad 11), .ref (ad 12), .int md_winnerCost, .long md_allMany, .long md_allTies, .ref (ad 13), .ref (ad 14), .ref (ad 15), .ref (ad 16), .int md_faults])), ((ad 2), .inl (kc 0, 36, .inl md_given)), ((ad 4), .inl (kc 0, 18, .inl md_numbers)), ((ad 5), .inl (kc 0, 45, .inl md_trial))]
abbrev rm_SpeciesSolverModel_tried : Room := { frames := 4, cells := 0, slots := 0, locals := 93 }
abbrev cw_SpeciesSolverModel_tried : Cond := .code y_SpeciesSolverModel_tried b_SpeciesSolverModel_tried 3 (some .int)
abbrev ws_SpeciesSolverModel_tried : List Cond := cw_SpeciesSolverModel_tried :: GW
theorem hd_SpeciesSolverModel_tried : y_SpeciesSolverModel_tried.cls ≠ "java/lang/invoke/MethodHandle" ∧ y_SpeciesSolverModel_tried.cls ≠ "java/lang/invoke/VarHandle" ∧ (parseMethodDescriptor y_SpeciesSolverModel_tried.desc).map (fun d => d.parameters.length) = some 0 := by decide +kernel
def m_SpeciesSolverModel_tried_59 (F : Nat) (md_lines : Int32) (md_n : Int32) (md_species : Int32) (md_trialSize : Int32) (md_given : Nat → Int32) (md_numbers : Nat → Int32) (md_trial : Nat → Int32) (k24 : Int32 → Int32 → Option (Int32))  (x2 : Int32) (t0 : Int32) (t1 : Int32) : Option (Int32) :=
  (bd (m_SpeciesSolverModel_strongBefore md_species md_trial x2) (fun u1 => (gd x2 45 (bd (m_SpeciesSolverModel_noteCost F md_lines md_n md_species md_given md_numbers x2 u1 (md_trial (Int32.toNatClampNeg x2))) (fun u4 => k24 (t0 + (t1 + u4)) (x2 + 1))))))
set_option maxHeartbeats 4000000 in
set_option maxRecDepth 100000 in
theorem l_SpeciesSolverModel_tried_59 {r : Int32} {F : Nat} {ad : Nat → Nat} {md_thrown : Int32} {md_drafted : Int32} {md_lines : Int32} {md_n : Int32} {md_species : Int32} {md_above : Int32} {md_trialSize : Int32} {md_foundSize : Int32} {md_foundSpecies : Int32} {md_foundN : Int32} {md_foundCost : Int32} {md_chosen : Int32} {md_low : Int32} {md_many : Int64} {md_ties : Int64} {md_winnerCost : Int32} {md_allMany : Int64} {md_allTies : Int64} {md_faults : Int32} {md_given : Nat → Int32} {md_numbers : Nat → Int32} {md_trial : Nat → Int32} {k24 : Int32 → Int32 → Option (Int32)} {x2 : Int32} {t0 : Int32} {t1 : Int32} {H : Heap} {locs : List Loc} {ls : Array Slot} (C : Cx p s m meth c args A D kc R_SpeciesSolverModel b_SpeciesSolverModel_tried 3 (some .int)) (hk24 : (∀  (x1 : Int32) (x2 : Int32) (H : Heap) (locs : List Loc) (ls : Array Slot), k24 x1 x2 = some r → St D A s (wd_SpeciesSolverModel_tried kc ad md_thrown md_drafted md_lines md_n md_species md_above md_trialSize md_foundSize md_foundSpecies md_foundN md_foundCost md_chosen md_low md_many md_ties md_winnerCost md_allMany md_allTies md_faults md_given md_numbers md_trial) H locs → lv_has ls 3 [(0, .ref (ad 0)), (1, .int x1), (2, .int x2)] → W p l e rm_SpeciesSolverModel_tried s m args below meth c H locs 0 0 (MQ below (Qi D A (wd_SpeciesSolverModel_tried kc ad md_thrown md_drafted md_lines md_n md_species md_above md_trialSize md_foundSize md_foundSpecies md_foundN md_foundCost md_chosen md_low md_many md_ties md_winnerCost md_allMany md_allTies md_faults md_given md_numbers md_trial) r) args s 0 0 A) (F0 m 24 ls []))) (hm : m_SpeciesSolverModel_tried_59 F md_lines md_n md_species md_trialSize md_given md_numbers md_trial k24 x2 t0 t1 = some r) (hZ : St D A s (wd_SpeciesSolverModel_tried kc ad md_thrown md_drafted md_lines md_n md_species md_above md_trialSize md_foundSize md_foundSpecies md_foundN md_foundCost md_chosen md_low md_many md_ties md_winnerCost md_allMany md_allTies md_faults md_given md_numbers md_trial) H locs) (hl : lv_has ls 3 [(0, .ref (ad 0)), (2, .int x2)]) : W p l e rm_SpeciesSolverModel_tried s m args below meth c H locs 0 0 (MQ below (Qi D A (wd_SpeciesSolverModel_tried kc ad md_thrown md_drafted md_lines md_n md_species md_above md_trialSize md_foundSize md_foundSpecies md_foundN md_foundCost md_chosen md_low md_many md_ties md_winnerCost md_allMany md_allTies md_faults md_given md_numbers md_trial) r) args s 0 0 A) (F0 m 59 ls [.int t1, .int t0]) := by
  obtain ⟨hx, hb, hr, hts, hown, hml, hlocks, hK, hN, hA, hX⟩ := id C
  obtain ⟨hP, hD, hS⟩ := hZ
  unfold m_SpeciesSolverModel_tried_59 at hm
  refine lv_aload_n hx hb d_SpeciesSolverModel_tried_59 rfl (lv_at hl 0 rfl) ?_
  refine lv_iload_n hx hb d_SpeciesSolverModel_tried_60 rfl (lv_at hl 1 rfl) ?_
  refine lv_aload_n hx hb d_SpeciesSolverModel_tried_61 rfl (lv_at hl 0 rfl) ?_
  refine lv_iload_n hx hb d_SpeciesSolverModel_tried_62 rfl (lv_at hl 1 rfl) ?_
  obtain ⟨u1, hc2, hm⟩ := bd_some hm
  refine zV_i (n := 1) (wr := [((ad 2), .inl (kc 0, 36, .inl md_given)), ((ad 4), .inl (kc 0, 18, .inl md_numbers))]) (w1 := (wd_SpeciesSolverModel_strongBefore kc ad md_thrown md_drafted md_lines md_n md_species md_above md_trialSize md_foundSize md_foundSpecies md_foundN md_foundCost md_chosen md_low md_many md_ties md_winnerCost md_allMany md_allTies md_faults md_trial)) (ws1 := (wd_SpeciesSolverModel_tried kc ad md_thrown md_drafted md_lines md_n md_species md_above md_trialSize md_foundSize md_foundSpecies md_foundN md_foundCost md_chosen md_low md_many md_ties md_winnerCost md_allMany md_allTies md_faults md_given md_numbers md_trial)) (As := [.int x2]) (rest := [.int x2, .ref (ad 0), .int t1, .int t0]) (ci := 1) (q0 := 0) (y := y_SpeciesSolverModel_strongBefore) ⟨hx, hb, hml, hown, hts⟩ (fun sz => c_SpeciesSolverModel_strongBefore hc2 sz) gw_1154 gw_1151 gw_1153 gw_107 gw_118 hd_SpeciesSolverModel_strongBefore ⟨Nat.le_of_ble_eq_true rfl, Nat.le_of_ble_eq_true rfl⟩ ⟨rfl, rfl⟩ ⟨Nat.zero_le _, Nat.zero_le _⟩ hK hN hP hD hS hA hX [0, 3] [1, 2] [2, 0, 1, 3] rfl rfl (by decide) (by decide) (by decide) rfl (by decide) rfl rfl rfl hl.1 rfl (Nat.le_of_ble_eq_true rfl) d_SpeciesSolverModel_tried_63 (fun H locs hP hD hS => ?_)
  refine lv_aload_n hx hb d_SpeciesSolverModel_tried_66 rfl (lv_at hl 0 rfl) ?_
  refine va_get (D := D) (ci := 1) (v := .ref (ad 5)) (C := R_SpeciesSolverModel) (T := T_SpeciesSolverModel) (N := 35) hx hb hts inG_SpeciesSolverModel hown hK hP 0 rfl rfl 10 (by decide) (hts _ gw_828) (fun _ h9 => h9) rfl d_SpeciesSolverModel_tried_67 ?_
  refine lv_iload_n hx hb d_SpeciesSolverModel_tried_70 rfl (lv_at hl 1 rfl) ?_
  obtain ⟨hi3, hm⟩ := gd_some hm
  refine va_iald hx hb hK hP 3 0 rfl rfl hi3 d_SpeciesSolverModel_tried_71 ?_
  obtain ⟨u4, hc5, hm⟩ := bd_some hm
  refine zV_i (n := 3) (wr := [((ad 5), .inl (kc 0, 45, .inl md_trial))]) (w1 := (wd_SpeciesSolverModel_noteCost kc ad md_thrown md_drafted md_lines md_n md_species md_above md_trialSize md_foundSize md_foundSpecies md_foundN md_foundCost md_chosen md_low md_many md_ties md_winnerCost md_allMany md_allTies md_faults md_given md_numbers)) (ws1 := (wd_SpeciesSolverModel_tried kc ad md_thrown md_drafted md_lines md_n md_species md_above md_trialSize md_foundSize md_foundSpecies md_foundN md_foundCost md_chosen md_low md_many md_ties md_winnerCost md_allMany md_allTies md_faults md_given md_numbers md_trial)) (As := [.int x2, .int u1, .int (md_trial (Int32.toNatClampNeg x2))]) (rest := [.int t1, .int t0]) (ci := 1) (q0 := 0) (y := y_SpeciesSolverModel_noteCost) ⟨hx, hb, hml, hown, hts⟩ (fun sz => c_SpeciesSolverModel_noteCost hc5 sz) gw_1085 gw_1082 gw_1084 gw_97 gw_118 hd_SpeciesSolverModel_noteCost ⟨Nat.le_of_ble_eq_true rfl, Nat.le_of_ble_eq_true rfl⟩ ⟨rfl, rfl⟩ ⟨Nat.zero_le _, Nat.zero_le _⟩ hK hN hP hD hS hA hX [0, 1, 2] [3] [1, 2, 3, 0] rfl rfl (by decide) (by decide) (by decide) rfl (by decide) rfl rfl rfl hl.1 rfl (Nat.le_of_ble_eq_true rfl) d_SpeciesSolverModel_tried_72 (fun H locs hP hD hS => ?_)
  refine lv_iadd hx hb d_SpeciesSolverModel_tried_75 ?_
  refine lv_iadd hx hb d_SpeciesSolverModel_tried_76 ?_
  refine lv_istore_n (lv' := [(1, .int (t0 + (t1 + u4))), (0, .ref (ad 0)), (2, .int x2)]) hx hb d_SpeciesSolverModel_tried_77 rfl hl (by decide) rfl (fun ls hl => ?_)
  refine lv_iinc (v := (x2 + 1)) (lv' := [(2, .int (x2 + 1)), (1, .int (t0 + (t1 + u4))), (0, .ref (ad 0))]) hx hb d_SpeciesSolverModel_tried_78 hl (k := 2) rfl rfl (by decide) rfl (fun ls hl => ?_)
  refine lv_goto (tgt := 24) hx hb d_SpeciesSolverModel_tried_81 (by decide) ?_
  exact hk24 (t0 + (t1 + u4)) (x2 + 1) _ _ _ hm ⟨hP, hD, hS⟩ (lv_sub hl [2, 1, 0] rfl)
def m_SpeciesSolverModel_tried_24b (F : Nat) (md_lines : Int32) (md_n : Int32) (md_species : Int32) (md_trialSize : Int32) (md_given : Nat → Int32) (md_numbers : Nat → Int32) (md_trial : Nat → Int32) (k24 : Int32 → Int32 → Option (Int32))  (x1 : Int32) (x2 : Int32) : Option (Int32) :=
  (if md_trialSize ≤ x2 then
    (some x1)
  else
    (if x2 ≤ (0 : Int32) then
      m_SpeciesSolverModel_tried_59 F md_lines md_n md_species md_trialSize md_given md_numbers md_trial k24 x2 x1 (0 : Int32)
    else
      (gd (x2 - (1 : Int32)) 45 (gd x2 45 (bd (m_SpeciesSolverModel_moveCost md_numbers (md_trial (Int32.toNatClampNeg (x2 - (1 : Int32)))) (md_trial (Int32.toNatClampNeg x2))) (fun u5 => m_SpeciesSolverModel_tried_59 F md_lines md_n md_species md_trialSize md_given md_numbers md_trial k24 x2 x1 u5))))))
set_option maxHeartbeats 4000000 in
set_option maxRecDepth 100000 in
theorem l_SpeciesSolverModel_tried_24 {r : Int32} {F : Nat} {ad : Nat → Nat} {md_thrown : Int32} {md_drafted : Int32} {md_lines : Int32} {md_n : Int32} {md_species : Int32} {md_above : Int32} {md_trialSize : Int32} {md_foundSize : Int32} {md_foundSpecies : Int32} {md_foundN : Int32} {md_foundCost : Int32} {md_chosen : Int32} {md_low : Int32} {md_many : Int64} {md_ties : Int64} {md_winnerCost : Int32} {md_allMany : Int64} {md_allTies : Int64} {md_faults : Int32} {md_given : Nat → Int32} {md_numbers : Nat → Int32} {md_trial : Nat → Int32} {k24 : Int32 → Int32 → Option (Int32)} {x1 : Int32} {x2 : Int32} {H : Heap} {locs : List Loc} {ls : Array Slot} (C : Cx p s m meth c args A D kc R_SpeciesSolverModel b_SpeciesSolverModel_tried 3 (some .int)) (hk24 : (∀  (x1 : Int32) (x2 : Int32) (H : Heap) (locs : List Loc) (ls : Array Slot), k24 x1 x2 = some r → St D A s (wd_SpeciesSolverModel_tried kc ad md_thrown md_drafted md_lines md_n md_species md_above md_trialSize md_foundSize md_foundSpecies md_foundN md_foundCost md_chosen md_low md_many md_ties md_winnerCost md_allMany md_allTies md_faults md_given md_numbers md_trial) H locs → lv_has ls 3 [(0, .ref (ad 0)), (1, .int x1), (2, .int x2)] → W p l e rm_SpeciesSolverModel_tried s m args below meth c H locs 0 0 (MQ below (Qi D A (wd_SpeciesSolverModel_tried kc ad md_thrown md_drafted md_lines md_n md_species md_above md_trialSize md_foundSize md_foundSpecies md_foundN md_foundCost md_chosen md_low md_many md_ties md_winnerCost md_allMany md_allTies md_faults md_given md_numbers md_trial) r) args s 0 0 A) (F0 m 24 ls []))) (hm : m_SpeciesSolverModel_tried_24b F md_lines md_n md_species md_trialSize md_given md_numbers md_trial k24 x1 x2 = some r) (hZ : St D A s (wd_SpeciesSolverModel_tried kc ad md_thrown md_drafted md_lines md_n md_species md_above md_trialSize md_foundSize md_foundSpecies md_foundN md_foundCost md_chosen md_low md_many md_ties md_winnerCost md_allMany md_allTies md_faults md_given md_numbers md_trial) H locs) (hl : lv_has ls 3 [(0, .ref (ad 0)), (1, .int x1), (2, .int x2)]) : W p l e rm_SpeciesSolverModel_tried s m args below meth c H locs 0 0 (MQ below (Qi D A (wd_SpeciesSolverModel_tried kc ad md_thrown md_drafted md_lines md_n md_species md_above md_trialSize md_foundSize md_foundSpecies md_foundN md_foundCost md_chosen md_low md_many md_ties md_winnerCost md_allMany md_allTies md_faults md_given md_numbers md_trial) r) args s 0 0 A) (F0 m 24 ls []) := by
  obtain ⟨hx, hb, hr, hts, hown, hml, hlocks, hK, hN, hA, hX⟩ := id C
  obtain ⟨hP, hD, hS⟩ := hZ
  unfold m_SpeciesSolverModel_tried_24b at hm
  refine lv_iload_n hx hb d_SpeciesSolverModel_tried_24 rfl (lv_at hl 2 rfl) ?_
  refine lv_aload_n hx hb d_SpeciesSolverModel_tried_25 rfl (lv_at hl 0 rfl) ?_
  refine va_get (D := D) (ci := 1) (v := .int md_trialSize) (C := R_SpeciesSolverModel) (T := T_SpeciesSolverModel) (N := 35) hx hb hts inG_SpeciesSolverModel hown hK hP 0 rfl rfl 11 (by decide) (hts _ gw_829) (fun _ h9 => h9) rfl d_SpeciesSolverModel_tried_26 ?_
  refine lv_icmp_ge (tgt := 84) hx hb d_SpeciesSolverModel_tried_29 (by decide) (fun c1 => ?_) (fun c1 => ?_)
  · replace hm := ifT hm c1
    refine lv_iload_n hx hb d_SpeciesSolverModel_tried_84 rfl (lv_at hl 1 rfl) ?_
    replace hm := Option.some.inj hm; subst hm
    exact zret_i C hP hD hS d_SpeciesSolverModel_tried_85
  · replace hm := ifF hm c1
    refine lv_iload_n hx hb d_SpeciesSolverModel_tried_32 rfl (lv_at hl 1 rfl) ?_
    refine lv_iload_n hx hb d_SpeciesSolverModel_tried_33 rfl (lv_at hl 2 rfl) ?_
    refine lv_if_le (tgt := 58) hx hb d_SpeciesSolverModel_tried_34 (by decide) (fun c2 => ?_) (fun c2 => ?_)
    · replace hm := ifT hm c2
      refine lv_iconst (v := 0) hx hb d_SpeciesSolverModel_tried_58 (by decide) ?_
      exact l_SpeciesSolverModel_tried_59 C hk24 hm ⟨hP, hD, hS⟩ (lv_sub hl [0, 2] rfl)
    · replace hm := ifF hm c2
      refine lv_aload_n hx hb d_SpeciesSolverModel_tried_37 rfl (lv_at hl 0 rfl) ?_
      refine lv_aload_n hx hb d_SpeciesSolverModel_tried_38 rfl (lv_at hl 0 rfl) ?_
      refine va_get (D := D) (ci := 1) (v := .ref (ad 5)) (C := R_SpeciesSolverModel) (T := T_SpeciesSolverModel) (N := 35) hx hb hts inG_SpeciesSolverModel hown hK hP 0 rfl rfl 10 (by decide) (hts _ gw_828) (fun _ h9 => h9) rfl d_SpeciesSolverModel_tried_39 ?_
      refine lv_iload_n hx hb d_SpeciesSolverModel_tried_42 rfl (lv_at hl 2 rfl) ?_
      refine lv_iconst (v := 1) hx hb d_SpeciesSolverModel_tried_43 (by decide) ?_
      refine lv_isub hx hb d_SpeciesSolverModel_tried_44 ?_
      obtain ⟨hi3, hm⟩ := gd_some hm
      refine va_iald hx hb hK hP 3 0 rfl rfl hi3 d_SpeciesSolverModel_tried_45 ?_
      refine lv_aload_n hx hb d_SpeciesSolverModel_tried_46 rfl (lv_at hl 0 rfl) ?_
      refine va_get (D := D) (ci := 1) (v := .ref (ad 5)) (C := R_SpeciesSolverModel) (T := T_SpeciesSolverModel) (N := 35) hx hb hts inG_SpeciesSolverModel hown hK hP 0 rfl rfl 10 (by decide) (hts _ gw_828) (fun _ h9 => h9) rfl d_SpeciesSolverModel_tried_47 ?_
      refine lv_iload_n hx hb d_SpeciesSolverModel_tried_50 rfl (lv_at hl 2 rfl) ?_
      obtain ⟨hi4, hm⟩ := gd_some hm
      refine va_iald hx hb hK hP 3 0 rfl rfl hi4 d_SpeciesSolverModel_tried_51 ?_
      obtain ⟨u5, hc6, hm⟩ := bd_some hm
      refine zV_i (n := 2) (wr := [((ad 2), .inl (kc 0, 36, .inl md_given)), ((ad 5), .inl (kc 0, 45, .inl md_trial))]) (w1 := (wd_SpeciesSolverModel_moveCost kc ad md_thrown md_drafted md_lines md_n md_species md_above md_trialSize md_foundSize md_foundSpecies md_foundN md_foundCost md_chosen md_low md_many md_ties md_winnerCost md_allMany md_allTies md_faults md_numbers)) (ws1 := (wd_SpeciesSolverModel_tried kc ad md_thrown md_drafted md_lines md_n md_species md_above md_trialSize md_foundSize md_foundSpecies md_foundN md_foundCost md_chosen md_low md_many md_ties md_winnerCost md_allMany md_allTies md_faults md_given md_numbers md_trial)) (As := [.int (md_trial (Int32.toNatClampNeg (x2 - (1 : Int32)))), .int (md_trial (Int32.toNatClampNeg x2))]) (rest := [.int x1]) (ci := 1) (q0 := 0) (y := y_SpeciesSolverModel_moveCost) ⟨hx, hb, hml, hown, hts⟩ (fun sz => c_SpeciesSolverModel_moveCost hc6 sz) gw_1081 gw_1078 gw_1080 gw_96 gw_118 hd_SpeciesSolverModel_moveCost ⟨Nat.le_of_ble_eq_true rfl, Nat.le_of_ble_eq_true rfl⟩ ⟨rfl, rfl⟩ ⟨Nat.zero_le _, Nat.zero_le _⟩ hK hN hP hD hS hA hX [0, 2] [1, 3] [2, 0, 3, 1] rfl rfl (by decide) (by decide) (by decide) rfl (by decide) rfl rfl rfl hl.1 rfl (Nat.le_of_ble_eq_true rfl) d_SpeciesSolverModel_tried_52 (fun H locs hP hD hS => ?_)
      refine lv_goto (tgt := 59) hx hb d_SpeciesSolverModel_tried_55 (by decide) ?_
      exact l_SpeciesSolverModel_tried_59 C hk24 hm ⟨hP, hD, hS⟩ (lv_sub hl [0, 2] rfl)
def m_SpeciesSolverModel_tried_24 (F : Nat) (md_lines : Int32) (md_n : Int32) (md_species : Int32) (md_trialSize : Int32) (md_given : Nat → Int32) (md_numbers : Nat → Int32) (md_trial : Nat → Int32)  : Nat → Int32 → Int32 → Option (Int32)
  | 0 => fun _ _ => none
  | n + 1 => m_SpeciesSolverModel_tried_24b F md_lines md_n md_species md_trialSize md_given md_numbers md_trial  (m_SpeciesSolverModel_tried_24 F md_lines md_n md_species md_trialSize md_given md_numbers md_trial  n)
set_option maxHeartbeats 4000000 in
set_option maxRecDepth 100000 in
theorem lp_SpeciesSolverModel_tried_24 {r : Int32} {F : Nat} {ad : Nat → Nat} {md_thrown : Int32} {md_drafted : Int32} {md_lines : Int32} {md_n : Int32} {md_species : Int32} {md_above : Int32} {md_trialSize : Int32} {md_foundSize : Int32} {md_foundSpecies : Int32} {md_foundN : Int32} {md_foundCost : Int32} {md_chosen : Int32} {md_low : Int32} {md_many : Int64} {md_ties : Int64} {md_winnerCost : Int32} {md_allMany : Int64} {md_allTies : Int64} {md_faults : Int32} {md_given : Nat → Int32} {md_numbers : Nat → Int32} {md_trial : Nat → Int32}  (C : Cx p s m meth c args A D kc R_SpeciesSolverModel b_SpeciesSolverModel_tried 3 (some .int))  : ∀ (n : Nat)  (x1 : Int32) (x2 : Int32) (H : Heap) (locs : List Loc) (ls : Array Slot), m_SpeciesSolverModel_tried_24 F md_lines md_n md_species md_trialSize md_given md_numbers md_trial  n x1 x2 = some r → St D A s (wd_SpeciesSolverModel_tried kc ad md_thrown md_drafted md_lines md_n md_species md_above md_trialSize md_foundSize md_foundSpecies md_foundN md_foundCost md_chosen md_low md_many md_ties md_winnerCost md_allMany md_allTies md_faults md_given md_numbers md_trial) H locs → lv_has ls 3 [(0, .ref (ad 0)), (1, .int x1), (2, .int x2)] → W p l e rm_SpeciesSolverModel_tried s m args below meth c H locs 0 0 (MQ below (Qi D A (wd_SpeciesSolverModel_tried kc ad md_thrown md_drafted md_lines md_n md_species md_above md_trialSize md_foundSize md_foundSpecies md_foundN md_foundCost md_chosen md_low md_many md_ties md_winnerCost md_allMany md_allTies md_faults md_given md_numbers md_trial) r) args s 0 0 A) (F0 m 24 ls []) := by
  intro n
  induction n with
  | zero => intro x1 x2 H locs ls hm; cases hm
  | succ n ih => intro x1 x2 H locs ls hm hZ hl; exact l_SpeciesSolverModel_tried_24 C  ih hm hZ hl
def m_SpeciesSolverModel_tried (F : Nat) (md_lines : Int32) (md_n : Int32) (md_species : Int32) (md_trialSize : Int32) (md_given : Nat → Int32) (md_numbers : Nat → Int32) (md_trial : Nat → Int32)   : Option (Int32) :=
  (if md_lines = (0 : Int32) then
    (some (-1 : Int32))
  else
    (bd (m_SpeciesSolverModel_size md_n md_species) (fun u2 => (if md_trialSize = u2 then
      m_SpeciesSolverModel_tried_24 F md_lines md_n md_species md_trialSize md_given md_numbers md_trial  F (0 : Int32) (0 : Int32)
    else
      (some (-1 : Int32))))))
set_option maxHeartbeats 4000000 in
set_option maxRecDepth 100000 in
theorem e_SpeciesSolverModel_tried {r : Int32} {F : Nat} {ad : Nat → Nat} {md_thrown : Int32} {md_drafted : Int32} {md_lines : Int32} {md_n : Int32} {md_species : Int32} {md_above : Int32} {md_trialSize : Int32} {md_foundSize : Int32} {md_foundSpecies : Int32} {md_foundN : Int32} {md_foundCost : Int32} {md_chosen : Int32} {md_low : Int32} {md_many : Int64} {md_ties : Int64} {md_winnerCost : Int32} {md_allMany : Int64} {md_allTies : Int64} {md_faults : Int32} {md_given : Nat → Int32} {md_numbers : Nat → Int32} {md_trial : Nat → Int32}  {H : Heap} {locs : List Loc} {ls : Array Slot} (C : Cx p s m meth c args A D kc R_SpeciesSolverModel b_SpeciesSolverModel_tried 3 (some .int)) (hm : m_SpeciesSolverModel_tried F md_lines md_n md_species md_trialSize md_given md_numbers md_trial  = some r) (hZ : St D A s (wd_SpeciesSolverModel_tried kc ad md_thrown md_drafted md_lines md_n md_species md_above md_trialSize md_foundSize md_foundSpecies md_foundN md_foundCost md_chosen md_low md_many md_ties md_winnerCost md_allMany md_allTies md_faults md_given md_numbers md_trial) H locs) (hl : lv_has ls 3 [(0, .ref (ad 0))]) : W p l e rm_SpeciesSolverModel_tried s m args below meth c H locs 0 0 (MQ below (Qi D A (wd_SpeciesSolverModel_tried kc ad md_thrown md_drafted md_lines md_n md_species md_above md_trialSize md_foundSize md_foundSpecies md_foundN md_foundCost md_chosen md_low md_many md_ties md_winnerCost md_allMany md_allTies md_faults md_given md_numbers md_trial) r) args s 0 0 A) (F0 m 0 ls []) := by
  obtain ⟨hx, hb, hr, hts, hown, hml, hlocks, hK, hN, hA, hX⟩ := id C
  obtain ⟨hP, hD, hS⟩ := hZ
  unfold m_SpeciesSolverModel_tried at hm
  refine lv_aload_n hx hb d_SpeciesSolverModel_tried_0 rfl (lv_at hl 0 rfl) ?_
  refine va_get (D := D) (ci := 1) (v := .int md_lines) (C := R_SpeciesSolverModel) (T := T_SpeciesSolverModel) (N := 35) hx hb hts inG_SpeciesSolverModel hown hK hP 0 rfl rfl 4 (by decide) (hts _ gw_822) (fun _ h9 => h9) rfl d_SpeciesSolverModel_tried_1 ?_
  refine lv_if_eq (tgt := 18) hx hb d_SpeciesSolverModel_tried_4 (by decide) (fun c1 => ?_) (fun c1 => ?_)
  · replace hm := ifT hm c1
    refine lv_iconst (v := -1) hx hb d_SpeciesSolverModel_tried_18 (by decide) ?_
    replace hm := Option.some.inj hm; subst hm
    exact zret_i C hP hD hS d_SpeciesSolverModel_tried_19
  · replace hm := ifF hm c1
    refine lv_aload_n hx hb d_SpeciesSolverModel_tried_7 rfl (lv_at hl 0 rfl) ?_
    refine va_get (D := D) (ci := 1) (v := .int md_trialSize) (C := R_SpeciesSolverModel) (T := T_SpeciesSolverModel) (N := 35) hx hb hts inG_SpeciesSolverModel hown hK hP 0 rfl rfl 11 (by decide) (hts _ gw_829) (fun _ h9 => h9) rfl d_SpeciesSolverModel_tried_8 ?_
    refine lv_aload_n hx hb d_SpeciesSolverModel_tried_11 rfl (lv_at hl 0 rfl) ?_
    obtain ⟨u2, hc3, hm⟩ := bd_some hm
    refine zV_i (n := 0) (wr := [((ad 2), .inl (kc 0, 36, .inl md_given)), ((ad 4), .inl (kc 0, 18, .inl md_numbers)), ((ad 5), .inl (kc 0, 45, .inl md_trial))]) (w1 := (wd_SpeciesSolverModel_size kc ad md_thrown md_drafted md_lines md_n md_species md_above md_trialSize md_foundSize md_foundSpecies md_foundN md_foundCost md_chosen md_low md_many md_ties md_winnerCost md_allMany md_allTies md_faults)) (ws1 := (wd_SpeciesSolverModel_tried kc ad md_thrown md_drafted md_lines md_n md_species md_above md_trialSize md_foundSize md_foundSpecies md_foundN md_foundCost md_chosen md_low md_many md_ties md_winnerCost md_allMany md_allTies md_faults md_given md_numbers md_trial)) (As := []) (rest := [.int md_trialSize]) (ci := 1) (q0 := 0) (y := y_SpeciesSolverModel_size) ⟨hx, hb, hml, hown, hts⟩ (fun sz => c_SpeciesSolverModel_size hc3 sz) gw_995 gw_992 gw_994 gw_79 gw_118 hd_SpeciesSolverModel_size ⟨Nat.le_of_ble_eq_true rfl, Nat.le_of_ble_eq_true rfl⟩ ⟨rfl, rfl⟩ ⟨Nat.zero_le _, Nat.zero_le _⟩ hK hN hP hD hS hA hX [0] [1, 2, 3] [3, 0, 1, 2] rfl rfl (by decide) (by decide) (by decide) rfl (by decide) rfl rfl rfl hl.1 rfl (Nat.le_of_ble_eq_true rfl) d_SpeciesSolverModel_tried_12 (fun H locs hP hD hS => ?_)
    refine lv_icmp_eq (tgt := 20) hx hb d_SpeciesSolverModel_tried_15 (by decide) (fun c4 => ?_) (fun c4 => ?_)
    · replace hm := ifT hm c4
      refine lv_iconst (v := 0) hx hb d_SpeciesSolverModel_tried_20 (by decide) ?_
      refine lv_istore_n (lv' := [(1, .int (0 : Int32)), (0, .ref (ad 0))]) hx hb d_SpeciesSolverModel_tried_21 rfl hl (by decide) rfl (fun ls hl => ?_)
      refine lv_iconst (v := 0) hx hb d_SpeciesSolverModel_tried_22 (by decide) ?_
      refine lv_istore_n (lv' := [(2, .int (0 : Int32)), (1, .int (0 : Int32)), (0, .ref (ad 0))]) hx hb d_SpeciesSolverModel_tried_23 rfl hl (by decide) rfl (fun ls hl => ?_)
      exact lp_SpeciesSolverModel_tried_24 C  F (0 : Int32) (0 : Int32) _ _ _ hm ⟨hP, hD, hS⟩ (lv_sub hl [2, 1, 0] rfl)
    · replace hm := ifF hm c4
      refine lv_iconst (v := -1) hx hb d_SpeciesSolverModel_tried_18 (by decide) ?_
      replace hm := Option.some.inj hm; subst hm
      exact zret_i C hP hD hS d_SpeciesSolverModel_tried_19
set_option maxHeartbeats 4000000 in
set_option maxRecDepth 100000 in
theorem c_SpeciesSolverModel_tried {l : Launch} {D : va_G} {kc : Nat → ClassId} {r : Int32} {F : Nat} {ad : Nat → Nat} {md_thrown : Int32} {md_drafted : Int32} {md_lines : Int32} {md_n : Int32} {md_species : Int32} {md_above : Int32} {md_trialSize : Int32} {md_foundSize : Int32} {md_foundSpecies : Int32} {md_foundN : Int32} {md_foundCost : Int32} {md_chosen : Int32} {md_low : Int32} {md_many : Int64} {md_ties : Int64} {md_winnerCost : Int32} {md_allMany : Int64} {md_allTies : Int64} {md_faults : Int32} {md_given : Nat → Int32} {md_numbers : Nat → Int32} {md_trial : Nat → Int32}  (hm : m_SpeciesSolverModel_tried F md_lines md_n md_species md_trialSize md_given md_numbers md_trial  = some r) (sz : Nat) : Ci l y_SpeciesSolverModel_tried ws_SpeciesSolverModel_tried rm_SpeciesSolverModel_tried D kc sz [.ref (ad 0)] (wd_SpeciesSolverModel_tried kc ad md_thrown md_drafted md_lines md_n md_species md_above md_trialSize md_foundSize md_foundSpecies md_foundN md_foundCost md_chosen md_low md_many md_ties md_winnerCost md_allMany md_allTies md_faults md_given md_numbers md_trial) (wd_SpeciesSolverModel_tried kc ad md_thrown md_drafted md_lines md_n md_species md_above md_trialSize md_foundSize md_foundSpecies md_foundN md_foundCost md_chosen md_low md_many md_ties md_winnerCost md_allMany md_allTies md_faults md_given md_numbers md_trial) r :=
  Cz_of (Qf := fun A => (Qi D A (wd_SpeciesSolverModel_tried kc ad md_thrown md_drafted md_lines md_n md_species md_above md_trialSize md_foundSize md_foundSpecies md_foundN md_foundCost md_chosen md_low md_many md_ties md_winnerCost md_allMany md_allTies md_faults md_given md_numbers md_trial) r)) (cc := b_SpeciesSolverModel_tried) (maxL := 3) (ret := (some .int)) (by decide) rfl rfl (fun C hZ hl => e_SpeciesSolverModel_tried C hm hZ hl)
abbrev b_SpeciesSolverModel_told : ByteArray := prog_9_method_66_code
abbrev y_SpeciesSolverModel_told : MethodName := ⟨"SpeciesSolverModel", "told", "(I)I"⟩
theorem d_SpeciesSolverModel_told_0 : decode b_SpeciesSolverModel_told 0 = .ok (.iload_n 1, 1) := by decide +kernel
theorem d_SpeciesSolverModel_told_1 : decode b_SpeciesSolverModel_told 1 = .ok (.tableswitch 80 0 5 #[39, 44, 49, 65, 70, 75], 39) := by decide +kernel
theorem d_SpeciesSolverModel_told_40 : decode b_SpeciesSolverModel_told 40 = .ok (.aload_n 0, 1) := by decide +kernel
theorem d_SpeciesSolverModel_told_41 : decode b_SpeciesSolverModel_told 41 = .ok (.getfield 78, 3) := by decide +kernel
theorem d_SpeciesSolverModel_told_44 : decode b_SpeciesSolverModel_told 44 = .ok (.ireturn, 1) := by decide +kernel
theorem d_SpeciesSolverModel_told_45 : decode b_SpeciesSolverModel_told 45 = .ok (.aload_n 0, 1) := by decide +kernel
theorem d_SpeciesSolverModel_told_46 : decode b_SpeciesSolverModel_told 46 = .ok (.getfield 81, 3) := by decide +kernel
theorem d_SpeciesSolverModel_told_49 : decode b_SpeciesSolverModel_told 49 = .ok (.ireturn, 1) := by decide +kernel
theorem d_SpeciesSolverModel_told_50 : decode b_SpeciesSolverModel_told 50 = .ok (.aload_n 0, 1) := by decide +kernel
theorem d_SpeciesSolverModel_told_51 : decode b_SpeciesSolverModel_told 51 = .ok (.getfield 78, 3) := by decide +kernel
theorem d_SpeciesSolverModel_told_54 : decode b_SpeciesSolverModel_told 54 = .ok (.ifCond .ne 7, 3) := by decide +kernel
theorem d_SpeciesSolverModel_told_57 : decode b_SpeciesSolverModel_told 57 = .ok (.iconst 0, 1) := by decide +kernel
theorem d_SpeciesSolverModel_told_58 : decode b_SpeciesSolverModel_told 58 = .ok (.goto 7, 3) := by decide +kernel
theorem d_SpeciesSolverModel_told_61 : decode b_SpeciesSolverModel_told 61 = .ok (.aload_n 0, 1) := by decide +kernel
theorem d_SpeciesSolverModel_told_62 : decode b_SpeciesSolverModel_told 62 = .ok (.invokevirtual 130, 3) := by decide +kernel
theorem d_SpeciesSolverModel_told_65 : decode b_SpeciesSolverModel_told 65 = .ok (.ireturn, 1) := by decide +kernel
theorem d_SpeciesSolverModel_told_66 : decode b_SpeciesSolverModel_told 66 = .ok (.aload_n 0, 1) := by decide +kernel
theorem d_SpeciesSolverModel_told_67 : decode b_SpeciesSolverModel_told 67 = .ok (.getfield 75, 3) := by decide +kernel
theorem d_SpeciesSolverModel_told_70 : decode b_SpeciesSolverModel_told 70 = .ok (.ireturn, 1) := by decide +kernel
theorem d_SpeciesSolverModel_told_71 : decode b_SpeciesSolverModel_told 71 = .ok (.aload_n 0, 1) := by decide +kernel
theorem d_SpeciesSolverModel_told_72 : decode b_SpeciesSolverModel_told 72 = .ok (.getfield 84, 3) := by decide +kernel
theorem d_SpeciesSolverModel_told_75 : decode b_SpeciesSolverModel_told 75 = .ok (.ireturn, 1) := by decide +kernel
theorem d_SpeciesSolverModel_told_76 : decode b_SpeciesSolverModel_told 76 = .ok (.aload_n 0, 1) := by decide +kernel
theorem d_SpeciesSolverModel_told_77 : decode b_SpeciesSolverModel_told 77 = .ok (.getfield 237, 3) := by decide +kernel
theorem d_SpeciesSolverModel_told_80 : decode b_SpeciesSolverModel_told 80 = .ok (.ireturn, 1) := by decide +kernel
theorem d_SpeciesSolverModel_told_81 : decode b_SpeciesSolverModel_told 81 = .ok (.iconst (-1), 1) := by decide +kernel
theorem d_SpeciesSolverModel_told_82 : decode b_SpeciesSolverModel_told 82 = .ok (.ireturn, 1) := by decide +kernel
abbrev wd_SpeciesSolverModel_told (kc : Nat → ClassId) (ad : Nat → Nat) (md_thrown : Int32) (md_drafted : Int32) (md_lines : Int32) (md_n : Int32) (md_species : Int32) (md_above : Int32) (md_trialSize : Int32) (md_foundSize : Int32) (md_foundSpecies : Int32) (md_foundN : Int32) (md_foundCost : Int32) (md_chosen : Int32) (md_low : Int32) (md_many : Int64) (md_ties : Int64) (md_winnerCost : Int32) (md_allMany : Int64) (md_allTies : Int64) (md_faults : Int32) : va_W := [((ad 0), .inr (1, [.int md_thrown, .ref (ad 1), .int md_drafted, .ref (ad 2), .int md_lines, .int md_n, .int md_species, .int md_above, .ref (ad 3), .ref (ad 4), .ref (ad 5), .int md_trialSize, .ref (ad 6), .int md_foundSize, .int md_foundSpecies, .int md_foundN, .int md_foundCost, .ref (ad 7), .int md_chosen, .ref (ad 8), .ref (ad 9), .ref (ad 10), .int md_low, .long md_many, .long md_ties, .ref (ad 11), .ref (ad 12), .int md_winnerCost, .long md_allMany, .long md_allTies, .ref (ad 13), .ref (ad 14), .ref (ad 15), .ref (ad 16), .int md_faults]))]
abbrev rm_SpeciesSolverModel_told : Room := { frames := 1, cells := 0, slots := 0, locals := 20 }
abbrev cw_SpeciesSolverModel_told : Cond := .code y_SpeciesSolverModel_told b_SpeciesSolverModel_told 2 (some .int)
abbrev ws_SpeciesSolverModel_told : List Cond := cw_SpeciesSolverModel_told :: GW
theorem hd_SpeciesSolverModel_told : y_SpeciesSolverModel_told.cls ≠ "java/lang/invoke/MethodHandle" ∧ y_SpeciesSolverModel_told.cls ≠ "java/lang/invoke/VarHandle" ∧ (parseMethodDescriptor y_SpeciesSolverModel_told.desc).map (fun d => d.parameters.length) = some 1 := by decide +kernel
def m_SpeciesSolverModel_told (md_drafted : Int32) (md_lines : Int32) (md_n : Int32) (md_species : Int32) (md_trialSize : Int32) (md_foundSize : Int32)  (a1 : Int32) : Option (Int32) :=
  (if a1 = (0 : Int32) then (some md_lines) else (if a1 = (1 : Int32) then (some md_n) else (if a1 = (2 : Int32) then (if md_lines = (0 : Int32) then
      (some (0 : Int32))
    else
      (bd (m_SpeciesSolverModel_size md_n md_species) (fun u5 => (some u5)))) else (if a1 = (3 : Int32) then (some md_drafted) else (if a1 = (4 : Int32) then (some md_trialSize) else (if a1 = (5 : Int32) then (some md_foundSize) else (some (-1 : Int32))))))))
set_option maxHeartbeats 4000000 in
set_option maxRecDepth 100000 in
theorem e_SpeciesSolverModel_told {r : Int32} {ad : Nat → Nat} {md_thrown : Int32} {md_drafted : Int32} {md_lines : Int32} {md_n : Int32} {md_species : Int32} {md_above : Int32} {md_trialSize : Int32} {md_foundSize : Int32} {md_foundSpecies : Int32} {md_foundN : Int32} {md_foundCost : Int32} {md_chosen : Int32} {md_low : Int32} {md_many : Int64} {md_ties : Int64} {md_winnerCost : Int32} {md_allMany : Int64} {md_allTies : Int64} {md_faults : Int32} {a1 : Int32} {H : Heap} {locs : List Loc} {ls : Array Slot} (C : Cx p s m meth c args A D kc R_SpeciesSolverModel b_SpeciesSolverModel_told 2 (some .int)) (hm : m_SpeciesSolverModel_told md_drafted md_lines md_n md_species md_trialSize md_foundSize a1 = some r) (hZ : St D A s (wd_SpeciesSolverModel_told kc ad md_thrown md_drafted md_lines md_n md_species md_above md_trialSize md_foundSize md_foundSpecies md_foundN md_foundCost md_chosen md_low md_many md_ties md_winnerCost md_allMany md_allTies md_faults) H locs) (hl : lv_has ls 2 [(0, .ref (ad 0)), (1, .int a1)]) : W p l e rm_SpeciesSolverModel_told s m args below meth c H locs 0 0 (MQ below (Qi D A (wd_SpeciesSolverModel_told kc ad md_thrown md_drafted md_lines md_n md_species md_above md_trialSize md_foundSize md_foundSpecies md_foundN md_foundCost md_chosen md_low md_many md_ties md_winnerCost md_allMany md_allTies md_faults) r) args s 0 0 A) (F0 m 0 ls []) := by
  obtain ⟨hx, hb, hr, hts, hown, hml, hlocks, hK, hN, hA, hX⟩ := id C
  obtain ⟨hP, hD, hS⟩ := hZ
  unfold m_SpeciesSolverModel_told at hm
  refine lv_iload_n hx hb d_SpeciesSolverModel_told_0 rfl (lv_at hl 1 rfl) ?_
  by_cases c1 : a1 = (0 : Int32)
  · replace hm := ifT hm c1
    refine lv_tableIn (off := 39) (tgt := 40) hx hb d_SpeciesSolverModel_told_1 (by rw [c1]; decide) (by rw [c1]; decide) (by rw [c1]; rfl) (by decide) ?_
    refine lv_aload_n hx hb d_SpeciesSolverModel_told_40 rfl (lv_at hl 0 rfl) ?_
    refine va_get (D := D) (ci := 1) (v := .int md_lines) (C := R_SpeciesSolverModel) (T := T_SpeciesSolverModel) (N := 35) hx hb hts inG_SpeciesSolverModel hown hK hP 0 rfl rfl 4 (by decide) (hts _ gw_822) (fun _ h9 => h9) rfl d_SpeciesSolverModel_told_41 ?_
    replace hm := Option.some.inj hm; subst hm
    exact zret_i C hP hD hS d_SpeciesSolverModel_told_44
  replace hm := ifF hm c1
  by_cases c2 : a1 = (1 : Int32)
  · replace hm := ifT hm c2
    refine lv_tableIn (off := 44) (tgt := 45) hx hb d_SpeciesSolverModel_told_1 (by rw [c2]; decide) (by rw [c2]; decide) (by rw [c2]; rfl) (by decide) ?_
    refine lv_aload_n hx hb d_SpeciesSolverModel_told_45 rfl (lv_at hl 0 rfl) ?_
    refine va_get (D := D) (ci := 1) (v := .int md_n) (C := R_SpeciesSolverModel) (T := T_SpeciesSolverModel) (N := 35) hx hb hts inG_SpeciesSolverModel hown hK hP 0 rfl rfl 5 (by decide) (hts _ gw_823) (fun _ h9 => h9) rfl d_SpeciesSolverModel_told_46 ?_
    replace hm := Option.some.inj hm; subst hm
    exact zret_i C hP hD hS d_SpeciesSolverModel_told_49
  replace hm := ifF hm c2
  by_cases c3 : a1 = (2 : Int32)
  · replace hm := ifT hm c3
    refine lv_tableIn (off := 49) (tgt := 50) hx hb d_SpeciesSolverModel_told_1 (by rw [c3]; decide) (by rw [c3]; decide) (by rw [c3]; rfl) (by decide) ?_
    refine lv_aload_n hx hb d_SpeciesSolverModel_told_50 rfl (lv_at hl 0 rfl) ?_
    refine va_get (D := D) (ci := 1) (v := .int md_lines) (C := R_SpeciesSolverModel) (T := T_SpeciesSolverModel) (N := 35) hx hb hts inG_SpeciesSolverModel hown hK hP 0 rfl rfl 4 (by decide) (hts _ gw_822) (fun _ h9 => h9) rfl d_SpeciesSolverModel_told_51 ?_
    refine lv_if_ne (tgt := 61) hx hb d_SpeciesSolverModel_told_54 (by decide) (fun c4 => ?_) (fun c4 => ?_)
    · replace hm := ifF hm c4
      refine lv_aload_n hx hb d_SpeciesSolverModel_told_61 rfl (lv_at hl 0 rfl) ?_
      obtain ⟨u5, hc6, hm⟩ := bd_some hm
      refine zV_i (n := 0) (wr := []) (w1 := (wd_SpeciesSolverModel_size kc ad md_thrown md_drafted md_lines md_n md_species md_above md_trialSize md_foundSize md_foundSpecies md_foundN md_foundCost md_chosen md_low md_many md_ties md_winnerCost md_allMany md_allTies md_faults)) (ws1 := (wd_SpeciesSolverModel_told kc ad md_thrown md_drafted md_lines md_n md_species md_above md_trialSize md_foundSize md_foundSpecies md_foundN md_foundCost md_chosen md_low md_many md_ties md_winnerCost md_allMany md_allTies md_faults)) (As := []) (rest := []) (ci := 1) (q0 := 0) (y := y_SpeciesSolverModel_size) ⟨hx, hb, hml, hown, hts⟩ (fun sz => c_SpeciesSolverModel_size hc6 sz) gw_995 gw_992 gw_994 gw_79 gw_118 hd_SpeciesSolverModel_size ⟨Nat.le_of_ble_eq_true rfl, Nat.le_of_ble_eq_true rfl⟩ ⟨rfl, rfl⟩ ⟨Nat.zero_le _, Nat.zero_le _⟩ hK hN hP hD hS hA hX [0] [] [0] rfl rfl (by decide) (by decide) (by decide) rfl (by decide) rfl rfl rfl hl.1 rfl (Nat.le_of_ble_eq_true rfl) d_SpeciesSolverModel_told_62 (fun H locs hP hD hS => ?_)
      replace hm := Option.some.inj hm; subst hm
      exact zret_i C hP hD hS d_SpeciesSolverModel_told_65
    · replace hm := ifT hm c4
      refine lv_iconst (v := 0) hx hb d_SpeciesSolverModel_told_57 (by decide) ?_
      refine lv_goto (tgt := 65) hx hb d_SpeciesSolverModel_told_58 (by decide) ?_
      replace hm := Option.some.inj hm; subst hm
      exact zret_i C hP hD hS d_SpeciesSolverModel_told_65
  replace hm := ifF hm c3
  by_cases c7 : a1 = (3 : Int32)
  · replace hm := ifT hm c7
    refine lv_tableIn (off := 65) (tgt := 66) hx hb d_SpeciesSolverModel_told_1 (by rw [c7]; decide) (by rw [c7]; decide) (by rw [c7]; rfl) (by decide) ?_
    refine lv_aload_n hx hb d_SpeciesSolverModel_told_66 rfl (lv_at hl 0 rfl) ?_
    refine va_get (D := D) (ci := 1) (v := .int md_drafted) (C := R_SpeciesSolverModel) (T := T_SpeciesSolverModel) (N := 35) hx hb hts inG_SpeciesSolverModel hown hK hP 0 rfl rfl 2 (by decide) (hts _ gw_820) (fun _ h9 => h9) rfl d_SpeciesSolverModel_told_67 ?_
    replace hm := Option.some.inj hm; subst hm
    exact zret_i C hP hD hS d_SpeciesSolverModel_told_70
  replace hm := ifF hm c7
  by_cases c8 : a1 = (4 : Int32)
  · replace hm := ifT hm c8
    refine lv_tableIn (off := 70) (tgt := 71) hx hb d_SpeciesSolverModel_told_1 (by rw [c8]; decide) (by rw [c8]; decide) (by rw [c8]; rfl) (by decide) ?_
    refine lv_aload_n hx hb d_SpeciesSolverModel_told_71 rfl (lv_at hl 0 rfl) ?_
    refine va_get (D := D) (ci := 1) (v := .int md_trialSize) (C := R_SpeciesSolverModel) (T := T_SpeciesSolverModel) (N := 35) hx hb hts inG_SpeciesSolverModel hown hK hP 0 rfl rfl 11 (by decide) (hts _ gw_829) (fun _ h9 => h9) rfl d_SpeciesSolverModel_told_72 ?_
    replace hm := Option.some.inj hm; subst hm
    exact zret_i C hP hD hS d_SpeciesSolverModel_told_75
  replace hm := ifF hm c8
  by_cases c9 : a1 = (5 : Int32)
  · replace hm := ifT hm c9
    refine lv_tableIn (off := 75) (tgt := 76) hx hb d_SpeciesSolverModel_told_1 (by rw [c9]; decide) (by rw [c9]; decide) (by rw [c9]; rfl) (by decide) ?_
    refine lv_aload_n hx hb d_SpeciesSolverModel_told_76 rfl (lv_at hl 0 rfl) ?_
    refine va_get (D := D) (ci := 1) (v := .int md_foundSize) (C := R_SpeciesSolverModel) (T := T_SpeciesSolverModel) (N := 35) hx hb hts inG_SpeciesSolverModel hown hK hP 0 rfl rfl 13 (by decide) (hts _ gw_831) (fun _ h9 => h9) rfl d_SpeciesSolverModel_told_77 ?_
    replace hm := Option.some.inj hm; subst hm
    exact zret_i C hP hD hS d_SpeciesSolverModel_told_80
  replace hm := ifF hm c9
  refine lv_tableOut (tgt := 81) hx hb d_SpeciesSolverModel_told_1 (by have := ti_ne (k := 0) (y := (0 : Int32)) rfl c1; have := ti_ne (k := 1) (y := (1 : Int32)) rfl c2; have := ti_ne (k := 2) (y := (2 : Int32)) rfl c3; have := ti_ne (k := 3) (y := (3 : Int32)) rfl c7; have := ti_ne (k := 4) (y := (4 : Int32)) rfl c8; have := ti_ne (k := 5) (y := (5 : Int32)) rfl c9; omega) (by decide) ?_
  refine lv_iconst (v := -1) hx hb d_SpeciesSolverModel_told_81 (by decide) ?_
  replace hm := Option.some.inj hm; subst hm
  exact zret_i C hP hD hS d_SpeciesSolverModel_told_82
set_option maxHeartbeats 4000000 in
set_option maxRecDepth 100000 in
theorem c_SpeciesSolverModel_told {l : Launch} {D : va_G} {kc : Nat → ClassId} {r : Int32} {ad : Nat → Nat} {md_thrown : Int32} {md_drafted : Int32} {md_lines : Int32} {md_n : Int32} {md_species : Int32} {md_above : Int32} {md_trialSize : Int32} {md_foundSize : Int32} {md_foundSpecies : Int32} {md_foundN : Int32} {md_foundCost : Int32} {md_chosen : Int32} {md_low : Int32} {md_many : Int64} {md_ties : Int64} {md_winnerCost : Int32} {md_allMany : Int64} {md_allTies : Int64} {md_faults : Int32} {a1 : Int32} (hm : m_SpeciesSolverModel_told md_drafted md_lines md_n md_species md_trialSize md_foundSize a1 = some r) (sz : Nat) : Ci l y_SpeciesSolverModel_told ws_SpeciesSolverModel_told rm_SpeciesSolverModel_told D kc sz [.ref (ad 0), .int a1] (wd_SpeciesSolverModel_told kc ad md_thrown md_drafted md_lines md_n md_species md_above md_trialSize md_foundSize md_foundSpecies md_foundN md_foundCost md_chosen md_low md_many md_ties md_winnerCost md_allMany md_allTies md_faults) (wd_SpeciesSolverModel_told kc ad md_thrown md_drafted md_lines md_n md_species md_above md_trialSize md_foundSize md_foundSpecies md_foundN md_foundCost md_chosen md_low md_many md_ties md_winnerCost md_allMany md_allTies md_faults) r :=
  Cz_of (Qf := fun A => (Qi D A (wd_SpeciesSolverModel_told kc ad md_thrown md_drafted md_lines md_n md_species md_above md_trialSize md_foundSize md_foundSpecies md_foundN md_foundCost md_chosen md_low md_many md_ties md_winnerCost md_allMany md_allTies md_faults) r)) (cc := b_SpeciesSolverModel_told) (maxL := 2) (ret := (some .int)) (by decide) rfl rfl (fun C hZ hl => e_SpeciesSolverModel_told C hm hZ hl)
end
