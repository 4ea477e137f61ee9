section
variable {p : Program} {l : Launch} {e : Env} {s : State} {m : MethodId} {args : Array Value} {below : List Frame} {meth : Method} {c : Code} {D : va_G} {kc : Nat → ClassId} {A : Nat → Prop}
abbrev b_SpeciesSolverModel_note : ByteArray := prog_9_method_3_code
abbrev y_SpeciesSolverModel_note : MethodName := ⟨"SpeciesSolverModel", "note", "(I)I"⟩
theorem d_SpeciesSolverModel_note_0 : decode b_SpeciesSolverModel_note 0 = .ok (.iload_n 1, 1) := by decide +kernel
theorem d_SpeciesSolverModel_note_1 : decode b_SpeciesSolverModel_note 1 = .ok (.ifCond .lt 18, 3) := by decide +kernel
theorem d_SpeciesSolverModel_note_4 : decode b_SpeciesSolverModel_note 4 = .ok (.iload_n 1, 1) := by decide +kernel
theorem d_SpeciesSolverModel_note_5 : decode b_SpeciesSolverModel_note 5 = .ok (.bipush 127, 2) := by decide +kernel
theorem d_SpeciesSolverModel_note_7 : decode b_SpeciesSolverModel_note 7 = .ok (.if_icmp .gt 12, 3) := by decide +kernel
theorem d_SpeciesSolverModel_note_10 : decode b_SpeciesSolverModel_note 10 = .ok (.aload_n 0, 1) := by decide +kernel
theorem d_SpeciesSolverModel_note_11 : decode b_SpeciesSolverModel_note 11 = .ok (.getfield 75, 3) := by decide +kernel
theorem d_SpeciesSolverModel_note_14 : decode b_SpeciesSolverModel_note 14 = .ok (.bipush 45, 2) := by decide +kernel
theorem d_SpeciesSolverModel_note_16 : decode b_SpeciesSolverModel_note 16 = .ok (.if_icmp .ne 5, 3) := by decide +kernel
theorem d_SpeciesSolverModel_note_19 : decode b_SpeciesSolverModel_note 19 = .ok (.iconst (-1), 1) := by decide +kernel
theorem d_SpeciesSolverModel_note_20 : decode b_SpeciesSolverModel_note 20 = .ok (.ireturn, 1) := by decide +kernel
theorem d_SpeciesSolverModel_note_21 : decode b_SpeciesSolverModel_note 21 = .ok (.aload_n 0, 1) := by decide +kernel
theorem d_SpeciesSolverModel_note_22 : decode b_SpeciesSolverModel_note 22 = .ok (.getfield 7, 3) := by decide +kernel
theorem d_SpeciesSolverModel_note_25 : decode b_SpeciesSolverModel_note 25 = .ok (.aload_n 0, 1) := by decide +kernel
theorem d_SpeciesSolverModel_note_26 : decode b_SpeciesSolverModel_note 26 = .ok (.getfield 75, 3) := by decide +kernel
theorem d_SpeciesSolverModel_note_29 : decode b_SpeciesSolverModel_note 29 = .ok (.iload_n 1, 1) := by decide +kernel
theorem d_SpeciesSolverModel_note_30 : decode b_SpeciesSolverModel_note 30 = .ok (.iastore, 1) := by decide +kernel
theorem d_SpeciesSolverModel_note_31 : decode b_SpeciesSolverModel_note 31 = .ok (.aload_n 0, 1) := by decide +kernel
theorem d_SpeciesSolverModel_note_32 : decode b_SpeciesSolverModel_note 32 = .ok (.dup, 1) := by decide +kernel
theorem d_SpeciesSolverModel_note_33 : decode b_SpeciesSolverModel_note 33 = .ok (.getfield 75, 3) := by decide +kernel
theorem d_SpeciesSolverModel_note_36 : decode b_SpeciesSolverModel_note 36 = .ok (.iconst 1, 1) := by decide +kernel
theorem d_SpeciesSolverModel_note_37 : decode b_SpeciesSolverModel_note 37 = .ok (.iadd, 1) := by decide +kernel
theorem d_SpeciesSolverModel_note_38 : decode b_SpeciesSolverModel_note 38 = .ok (.putfield 75, 3) := by decide +kernel
theorem d_SpeciesSolverModel_note_41 : decode b_SpeciesSolverModel_note 41 = .ok (.aload_n 0, 1) := by decide +kernel
theorem d_SpeciesSolverModel_note_42 : decode b_SpeciesSolverModel_note 42 = .ok (.getfield 75, 3) := by decide +kernel
theorem d_SpeciesSolverModel_note_45 : decode b_SpeciesSolverModel_note 45 = .ok (.ireturn, 1) := by decide +kernel
abbrev wd_SpeciesSolverModel_note (kc : Nat → ClassId) (ad : Nat → Nat) (md_thrown : Int32) (md_drafted : Int32) (md_lines : Int32) (md_n : Int32) (md_species : Int32) (md_above : Int32) (md_trialSize : Int32) (md_foundSize : Int32) (md_foundSpecies : Int32) (md_foundN : Int32) (md_foundCost : Int32) (md_chosen : Int32) (md_low : Int32) (md_many : Int64) (md_ties : Int64) (md_winnerCost : Int32) (md_allMany : Int64) (md_allTies : Int64) (md_faults : Int32) (md_draft : Nat → Int32) : va_W := [((ad 0), .inr (1, [.int md_thrown, .ref (ad 1), .int md_drafted, .ref (ad 2), .int md_lines, .int md_n, .int md_species, .int md_above, .ref (ad 3), .ref (ad 4), .ref (ad 5), .int md_trialSize, .ref (ad 6), .int md_foundSize, .int md_foundSpecies, .int md_foundN, .int md_foundCost, .ref (ad 7), .int md_chosen, .ref (ad 8), .ref (ad 9), .ref (ad 10), .int md_low, .long md_many, .long md_ties, .ref (ad 11), .ref (ad 12), .int md_winnerCost, .long md_allMany, .long md_allTies, .ref (ad 13), .ref (ad 14), .ref (ad 15), .ref (ad 16), .int md_faults])), ((ad 1), .inl (kc 0, 45, .inl md_draft))]
abbrev rm_SpeciesSolverModel_note : Room := { frames := 0, cells := 0, slots := 0, locals := 0 }
abbrev cw_SpeciesSolverModel_note : Cond := .code y_SpeciesSolverModel_note b_SpeciesSolverModel_note 2 (some .int)
abbrev ws_SpeciesSolverModel_note : List Cond := cw_SpeciesSolverModel_note :: GW
theorem hd_SpeciesSolverModel_note : y_SpeciesSolverModel_note.cls ≠ "java/lang/invoke/MethodHandle" ∧ y_SpeciesSolverModel_note.cls ≠ "java/lang/invoke/VarHandle" ∧ (parseMethodDescriptor y_SpeciesSolverModel_note.desc).map (fun d => d.parameters.length) = some 1 := by decide +kernel
def m_SpeciesSolverModel_note  (md_drafted : Int32) (md_draft : Nat → Int32) (a1 : Int32) : Option (Int32 × Int32 × (Nat → Int32)) :=
  (if a1 < (0 : Int32) then
    (some ((-1 : Int32), md_drafted, md_draft))
  else
    (if (127 : Int32) < a1 then
      (some ((-1 : Int32), md_drafted, md_draft))
    else
      (if md_drafted = (45 : Int32) then
        (some ((-1 : Int32), md_drafted, md_draft))
      else
        (gd md_drafted 45 (some ((md_drafted + (1 : Int32)), (md_drafted + (1 : Int32)), (upd md_draft (Int32.toNatClampNeg md_drafted) a1)))))))
set_option maxHeartbeats 4000000 in
set_option maxRecDepth 100000 in
theorem e_SpeciesSolverModel_note {r : Int32 × Int32 × (Nat → Int32)} {ad : Nat → Nat} {md_thrown : Int32} {md_drafted : Int32} {md_lines : Int32} {md_n : Int32} {md_species : Int32} {md_above : Int32} {md_trialSize : Int32} {md_foundSize : Int32} {md_foundSpecies : Int32} {md_foundN : Int32} {md_foundCost : Int32} {md_chosen : Int32} {md_low : Int32} {md_many : Int64} {md_ties : Int64} {md_winnerCost : Int32} {md_allMany : Int64} {md_allTies : Int64} {md_faults : Int32} {md_draft : Nat → Int32} {a1 : Int32} {H : Heap} {locs : List Loc} {ls : Array Slot} (C : Cx p s m meth c args A D kc R_SpeciesSolverModel b_SpeciesSolverModel_note 2 (some .int)) (hm : m_SpeciesSolverModel_note  md_drafted md_draft a1 = some r) (hZ : St D A s (wd_SpeciesSolverModel_note kc ad md_thrown md_drafted md_lines md_n md_species md_above md_trialSize md_foundSize md_foundSpecies md_foundN md_foundCost md_chosen md_low md_many md_ties md_winnerCost md_allMany md_allTies md_faults md_draft) H locs) (hl : lv_has ls 2 [(0, .ref (ad 0)), (1, .int a1)]) : W p l e rm_SpeciesSolverModel_note s m args below meth c H locs 0 0 (MQ below (Qi D A (wd_SpeciesSolverModel_note kc ad md_thrown r.2.1 md_lines md_n md_species md_above md_trialSize md_foundSize md_foundSpecies md_foundN md_foundCost md_chosen md_low md_many md_ties md_winnerCost md_allMany md_allTies md_faults r.2.2) r.1) args s 0 0 A) (F0 m 0 ls []) := by
  obtain ⟨hx, hb, hr, hts, hown, hml, hlocks, hK, hN, hA, hX⟩ := id C
  obtain ⟨hP, hD, hS⟩ := hZ
  unfold m_SpeciesSolverModel_note at hm
  refine lv_iload_n hx hb d_SpeciesSolverModel_note_0 rfl (lv_at hl 1 rfl) ?_
  refine lv_if_lt (tgt := 19) hx hb d_SpeciesSolverModel_note_1 (by decide) (fun c1 => ?_) (fun c1 => ?_)
  · replace hm := ifT hm c1
    refine lv_iconst (v := -1) hx hb d_SpeciesSolverModel_note_19 (by decide) ?_
    replace hm := Option.some.inj hm; subst hm
    exact zret_i C hP hD hS d_SpeciesSolverModel_note_20
  · replace hm := ifF hm c1
    refine lv_iload_n hx hb d_SpeciesSolverModel_note_4 rfl (lv_at hl 1 rfl) ?_
    refine lv_bipush (v := 127) hx hb d_SpeciesSolverModel_note_5 (by decide) ?_
    refine lv_icmp_gt (tgt := 19) hx hb d_SpeciesSolverModel_note_7 (by decide) (fun c2 => ?_) (fun c2 => ?_)
    · replace hm := ifT hm c2
      refine lv_iconst (v := -1) hx hb d_SpeciesSolverModel_note_19 (by decide) ?_
      replace hm := Option.some.inj hm; subst hm
      exact zret_i C hP hD hS d_SpeciesSolverModel_note_20
    · replace hm := ifF hm c2
      refine lv_aload_n hx hb d_SpeciesSolverModel_note_10 rfl (lv_at hl 0 rfl) ?_
      refine va_get (D := D) (ci := 1) (v := .int md_drafted) (C := R_SpeciesSolverModel) (T := T_SpeciesSolverModel) (N := 35) hx hb hts inG_SpeciesSolverModel hown hK hP 0 rfl rfl 2 (by decide) (hts _ gw_820) (fun _ h9 => h9) rfl d_SpeciesSolverModel_note_11 ?_
      refine lv_bipush (v := 45) hx hb d_SpeciesSolverModel_note_14 (by decide) ?_
      refine lv_icmp_ne (tgt := 21) hx hb d_SpeciesSolverModel_note_16 (by decide) (fun c3 => ?_) (fun c3 => ?_)
      · replace hm := ifF hm c3
        refine lv_aload_n hx hb d_SpeciesSolverModel_note_21 rfl (lv_at hl 0 rfl) ?_
        refine va_get (D := D) (ci := 1) (v := .ref (ad 1)) (C := R_SpeciesSolverModel) (T := T_SpeciesSolverModel) (N := 35) hx hb hts inG_SpeciesSolverModel hown hK hP 0 rfl rfl 1 (by decide) (hts _ gw_819) (fun _ h9 => h9) rfl d_SpeciesSolverModel_note_22 ?_
        refine lv_aload_n hx hb d_SpeciesSolverModel_note_25 rfl (lv_at hl 0 rfl) ?_
        refine va_get (D := D) (ci := 1) (v := .int md_drafted) (C := R_SpeciesSolverModel) (T := T_SpeciesSolverModel) (N := 35) hx hb hts inG_SpeciesSolverModel hown hK hP 0 rfl rfl 2 (by decide) (hts _ gw_820) (fun _ h9 => h9) rfl d_SpeciesSolverModel_note_26 ?_
        refine lv_iload_n hx hb d_SpeciesSolverModel_note_29 rfl (lv_at hl 1 rfl) ?_
        obtain ⟨hi4, hm⟩ := gd_some hm
        refine va_iast hx hb hK hP hD hS 1 0 rfl rfl hi4 d_SpeciesSolverModel_note_30 (fun H locs hP hD hS => ?_)
        replace hP : va_P D vwCl (wd_SpeciesSolverModel_note kc ad md_thrown md_drafted md_lines md_n md_species md_above md_trialSize md_foundSize md_foundSpecies md_foundN md_foundCost md_chosen md_low md_many md_ties md_winnerCost md_allMany md_allTies md_faults (upd md_draft (Int32.toNatClampNeg md_drafted) a1)) H := hP
        replace hD : va_D A (wd_SpeciesSolverModel_note kc ad md_thrown md_drafted md_lines md_n md_species md_above md_trialSize md_foundSize md_foundSpecies md_foundN md_foundCost md_chosen md_low md_many md_ties md_winnerCost md_allMany md_allTies md_faults (upd md_draft (Int32.toNatClampNeg md_drafted) a1)) := hD
        refine lv_aload_n hx hb d_SpeciesSolverModel_note_31 rfl (lv_at hl 0 rfl) ?_
        refine lv_dup hx hb d_SpeciesSolverModel_note_32 rfl ?_
        refine va_get (D := D) (ci := 1) (v := .int md_drafted) (C := R_SpeciesSolverModel) (T := T_SpeciesSolverModel) (N := 35) hx hb hts inG_SpeciesSolverModel hown hK hP 0 rfl rfl 2 (by decide) (hts _ gw_820) (fun _ h9 => h9) rfl d_SpeciesSolverModel_note_33 ?_
        refine lv_iconst (v := 1) hx hb d_SpeciesSolverModel_note_36 (by decide) ?_
        refine lv_iadd hx hb d_SpeciesSolverModel_note_37 ?_
        refine va_put (D := D) (ci := 1) (v := .int (md_drafted + (1 : Int32))) (ty := .int) (C := R_SpeciesSolverModel) (T := T_SpeciesSolverModel) (N := 35) hx hb hts inG_SpeciesSolverModel ty_SpeciesSolverModel tok_SpeciesSolverModel nmo_SpeciesSolverModel hown hK hP hD hS 0 rfl rfl 2 (by decide) (hts _ gw_820) (fun _ h9 => h9) rfl (tok_SpeciesSolverModel 2 (by decide)) rfl rfl (Nat.le_of_ble_eq_true rfl) d_SpeciesSolverModel_note_38 (fun H locs hP hD hS => ?_)
        replace hP : va_P D vwCl (wd_SpeciesSolverModel_note kc ad md_thrown (md_drafted + (1 : Int32)) md_lines md_n md_species md_above md_trialSize md_foundSize md_foundSpecies md_foundN md_foundCost md_chosen md_low md_many md_ties md_winnerCost md_allMany md_allTies md_faults (upd md_draft (Int32.toNatClampNeg md_drafted) a1)) H := hP
        replace hD : va_D A (wd_SpeciesSolverModel_note kc ad md_thrown (md_drafted + (1 : Int32)) md_lines md_n md_species md_above md_trialSize md_foundSize md_foundSpecies md_foundN md_foundCost md_chosen md_low md_many md_ties md_winnerCost md_allMany md_allTies md_faults (upd md_draft (Int32.toNatClampNeg md_drafted) a1)) := hD
        refine lv_aload_n hx hb d_SpeciesSolverModel_note_41 rfl (lv_at hl 0 rfl) ?_
        refine va_get (D := D) (ci := 1) (v := .int (md_drafted + (1 : Int32))) (C := R_SpeciesSolverModel) (T := T_SpeciesSolverModel) (N := 35) hx hb hts inG_SpeciesSolverModel hown hK hP 0 rfl rfl 2 (by decide) (hts _ gw_820) (fun _ h9 => h9) rfl d_SpeciesSolverModel_note_42 ?_
        replace hm := Option.some.inj hm; subst hm
        exact zret_i C hP hD hS d_SpeciesSolverModel_note_45
      · replace hm := ifT hm c3
        refine lv_iconst (v := -1) hx hb d_SpeciesSolverModel_note_19 (by decide) ?_
        replace hm := Option.some.inj hm; subst hm
        exact zret_i C hP hD hS d_SpeciesSolverModel_note_20
set_option maxHeartbeats 4000000 in
set_option maxRecDepth 100000 in
theorem c_SpeciesSolverModel_note {l : Launch} {D : va_G} {kc : Nat → ClassId} {r : Int32 × Int32 × (Nat → Int32)} {ad : Nat → Nat} {md_thrown : Int32} {md_drafted : Int32} {md_lines : Int32} {md_n : Int32} {md_species : Int32} {md_above : Int32} {md_trialSize : Int32} {md_foundSize : Int32} {md_foundSpecies : Int32} {md_foundN : Int32} {md_foundCost : Int32} {md_chosen : Int32} {md_low : Int32} {md_many : Int64} {md_ties : Int64} {md_winnerCost : Int32} {md_allMany : Int64} {md_allTies : Int64} {md_faults : Int32} {md_draft : Nat → Int32} {a1 : Int32} (hm : m_SpeciesSolverModel_note  md_drafted md_draft a1 = some r) (sz : Nat) : Ci l y_SpeciesSolverModel_note ws_SpeciesSolverModel_note rm_SpeciesSolverModel_note D kc sz [.ref (ad 0), .int a1] (wd_SpeciesSolverModel_note kc ad md_thrown md_drafted md_lines md_n md_species md_above md_trialSize md_foundSize md_foundSpecies md_foundN md_foundCost md_chosen md_low md_many md_ties md_winnerCost md_allMany md_allTies md_faults md_draft) (wd_SpeciesSolverModel_note kc ad md_thrown r.2.1 md_lines md_n md_species md_above md_trialSize md_foundSize md_foundSpecies md_foundN md_foundCost md_chosen md_low md_many md_ties md_winnerCost md_allMany md_allTies md_faults r.2.2) r.1 :=
  Cz_of (Qf := fun A => (Qi D A (wd_SpeciesSolverModel_note kc ad md_thrown r.2.1 md_lines md_n md_species md_above md_trialSize md_foundSize md_foundSpecies md_foundN md_foundCost md_chosen md_low md_many md_ties md_winnerCost md_allMany md_allTies md_faults r.2.2) r.1)) (cc := b_SpeciesSolverModel_note) (maxL := 2) (ret := (some .int)) (by decide) rfl rfl (fun C hZ hl => e_SpeciesSolverModel_note C hm hZ hl)
abbrev b_SpeciesSolverModel_give : ByteArray := prog_9_method_4_code
abbrev y_SpeciesSolverModel_give : MethodName := ⟨"SpeciesSolverModel", "give", "()I"⟩
theorem d_SpeciesSolverModel_give_0 : decode b_SpeciesSolverModel_give 0 = .ok (.aload_n 0, 1) := by decide +kernel
theorem d_SpeciesSolverModel_give_1 : decode b_SpeciesSolverModel_give 1 = .ok (.getfield 78, 3) := by decide +kernel
theorem d_SpeciesSolverModel_give_4 : decode b_SpeciesSolverModel_give 4 = .ok (.iconst 3, 1) := by decide +kernel
theorem d_SpeciesSolverModel_give_5 : decode b_SpeciesSolverModel_give 5 = .ok (.if_icmp .eq 38, 3) := by decide +kernel
theorem d_SpeciesSolverModel_give_8 : decode b_SpeciesSolverModel_give 8 = .ok (.aload_n 0, 1) := by decide +kernel
theorem d_SpeciesSolverModel_give_9 : decode b_SpeciesSolverModel_give 9 = .ok (.getfield 75, 3) := by decide +kernel
theorem d_SpeciesSolverModel_give_12 : decode b_SpeciesSolverModel_give 12 = .ok (.iconst 2, 1) := by decide +kernel
theorem d_SpeciesSolverModel_give_13 : decode b_SpeciesSolverModel_give 13 = .ok (.if_icmp .lt 30, 3) := by decide +kernel
theorem d_SpeciesSolverModel_give_16 : decode b_SpeciesSolverModel_give 16 = .ok (.aload_n 0, 1) := by decide +kernel
theorem d_SpeciesSolverModel_give_17 : decode b_SpeciesSolverModel_give 17 = .ok (.getfield 75, 3) := by decide +kernel
theorem d_SpeciesSolverModel_give_20 : decode b_SpeciesSolverModel_give 20 = .ok (.bipush 12, 2) := by decide +kernel
theorem d_SpeciesSolverModel_give_22 : decode b_SpeciesSolverModel_give 22 = .ok (.if_icmp .gt 21, 3) := by decide +kernel
theorem d_SpeciesSolverModel_give_25 : decode b_SpeciesSolverModel_give 25 = .ok (.aload_n 0, 1) := by decide +kernel
theorem d_SpeciesSolverModel_give_26 : decode b_SpeciesSolverModel_give 26 = .ok (.getfield 78, 3) := by decide +kernel
theorem d_SpeciesSolverModel_give_29 : decode b_SpeciesSolverModel_give 29 = .ok (.ifCond .le 16, 3) := by decide +kernel
theorem d_SpeciesSolverModel_give_32 : decode b_SpeciesSolverModel_give 32 = .ok (.aload_n 0, 1) := by decide +kernel
theorem d_SpeciesSolverModel_give_33 : decode b_SpeciesSolverModel_give 33 = .ok (.getfield 75, 3) := by decide +kernel
theorem d_SpeciesSolverModel_give_36 : decode b_SpeciesSolverModel_give 36 = .ok (.aload_n 0, 1) := by decide +kernel
theorem d_SpeciesSolverModel_give_37 : decode b_SpeciesSolverModel_give 37 = .ok (.getfield 81, 3) := by decide +kernel
theorem d_SpeciesSolverModel_give_40 : decode b_SpeciesSolverModel_give 40 = .ok (.if_icmp .eq 5, 3) := by decide +kernel
theorem d_SpeciesSolverModel_give_43 : decode b_SpeciesSolverModel_give 43 = .ok (.iconst (-1), 1) := by decide +kernel
theorem d_SpeciesSolverModel_give_44 : decode b_SpeciesSolverModel_give 44 = .ok (.ireturn, 1) := by decide +kernel
theorem d_SpeciesSolverModel_give_45 : decode b_SpeciesSolverModel_give 45 = .ok (.aload_n 0, 1) := by decide +kernel
theorem d_SpeciesSolverModel_give_46 : decode b_SpeciesSolverModel_give 46 = .ok (.aload_n 0, 1) := by decide +kernel
theorem d_SpeciesSolverModel_give_47 : decode b_SpeciesSolverModel_give 47 = .ok (.getfield 75, 3) := by decide +kernel
theorem d_SpeciesSolverModel_give_50 : decode b_SpeciesSolverModel_give 50 = .ok (.putfield 81, 3) := by decide +kernel
theorem d_SpeciesSolverModel_give_53 : decode b_SpeciesSolverModel_give 53 = .ok (.iconst 0, 1) := by decide +kernel
theorem d_SpeciesSolverModel_give_54 : decode b_SpeciesSolverModel_give 54 = .ok (.istore_n 1, 1) := by decide +kernel
theorem d_SpeciesSolverModel_give_55 : decode b_SpeciesSolverModel_give 55 = .ok (.iload_n 1, 1) := by decide +kernel
theorem d_SpeciesSolverModel_give_56 : decode b_SpeciesSolverModel_give 56 = .ok (.aload_n 0, 1) := by decide +kernel
theorem d_SpeciesSolverModel_give_57 : decode b_SpeciesSolverModel_give 57 = .ok (.getfield 81, 3) := by decide +kernel
theorem d_SpeciesSolverModel_give_60 : decode b_SpeciesSolverModel_give 60 = .ok (.if_icmp .ge 29, 3) := by decide +kernel
theorem d_SpeciesSolverModel_give_63 : decode b_SpeciesSolverModel_give 63 = .ok (.aload_n 0, 1) := by decide +kernel
theorem d_SpeciesSolverModel_give_64 : decode b_SpeciesSolverModel_give 64 = .ok (.getfield 13, 3) := by decide +kernel
theorem d_SpeciesSolverModel_give_67 : decode b_SpeciesSolverModel_give 67 = .ok (.bipush 12, 2) := by decide +kernel
theorem d_SpeciesSolverModel_give_69 : decode b_SpeciesSolverModel_give 69 = .ok (.aload_n 0, 1) := by decide +kernel
theorem d_SpeciesSolverModel_give_70 : decode b_SpeciesSolverModel_give 70 = .ok (.getfield 78, 3) := by decide +kernel
theorem d_SpeciesSolverModel_give_73 : decode b_SpeciesSolverModel_give 73 = .ok (.imul, 1) := by decide +kernel
theorem d_SpeciesSolverModel_give_74 : decode b_SpeciesSolverModel_give 74 = .ok (.iload_n 1, 1) := by decide +kernel
theorem d_SpeciesSolverModel_give_75 : decode b_SpeciesSolverModel_give 75 = .ok (.iadd, 1) := by decide +kernel
theorem d_SpeciesSolverModel_give_76 : decode b_SpeciesSolverModel_give 76 = .ok (.aload_n 0, 1) := by decide +kernel
theorem d_SpeciesSolverModel_give_77 : decode b_SpeciesSolverModel_give 77 = .ok (.getfield 7, 3) := by decide +kernel
theorem d_SpeciesSolverModel_give_80 : decode b_SpeciesSolverModel_give 80 = .ok (.iload_n 1, 1) := by decide +kernel
theorem d_SpeciesSolverModel_give_81 : decode b_SpeciesSolverModel_give 81 = .ok (.iaload, 1) := by decide +kernel
theorem d_SpeciesSolverModel_give_82 : decode b_SpeciesSolverModel_give 82 = .ok (.iastore, 1) := by decide +kernel
theorem d_SpeciesSolverModel_give_83 : decode b_SpeciesSolverModel_give 83 = .ok (.iinc 1 1, 3) := by decide +kernel
theorem d_SpeciesSolverModel_give_86 : decode b_SpeciesSolverModel_give 86 = .ok (.goto (-31), 3) := by decide +kernel
theorem d_SpeciesSolverModel_give_89 : decode b_SpeciesSolverModel_give 89 = .ok (.aload_n 0, 1) := by decide +kernel
theorem d_SpeciesSolverModel_give_90 : decode b_SpeciesSolverModel_give 90 = .ok (.iconst 0, 1) := by decide +kernel
theorem d_SpeciesSolverModel_give_91 : decode b_SpeciesSolverModel_give 91 = .ok (.putfield 75, 3) := by decide +kernel
theorem d_SpeciesSolverModel_give_94 : decode b_SpeciesSolverModel_give 94 = .ok (.aload_n 0, 1) := by decide +kernel
theorem d_SpeciesSolverModel_give_95 : decode b_SpeciesSolverModel_give 95 = .ok (.dup, 1) := by decide +kernel
theorem d_SpeciesSolverModel_give_96 : decode b_SpeciesSolverModel_give 96 = .ok (.getfield 78, 3) := by decide +kernel
theorem d_SpeciesSolverModel_give_99 : decode b_SpeciesSolverModel_give 99 = .ok (.iconst 1, 1) := by decide +kernel
theorem d_SpeciesSolverModel_give_100 : decode b_SpeciesSolverModel_give 100 = .ok (.iadd, 1) := by decide +kernel
theorem d_SpeciesSolverModel_give_101 : decode b_SpeciesSolverModel_give 101 = .ok (.putfield 78, 3) := by decide +kernel
theorem d_SpeciesSolverModel_give_104 : decode b_SpeciesSolverModel_give 104 = .ok (.aload_n 0, 1) := by decide +kernel
theorem d_SpeciesSolverModel_give_105 : decode b_SpeciesSolverModel_give 105 = .ok (.getfield 78, 3) := by decide +kernel
theorem d_SpeciesSolverModel_give_108 : decode b_SpeciesSolverModel_give 108 = .ok (.iconst 1, 1) := by decide +kernel
theorem d_SpeciesSolverModel_give_109 : decode b_SpeciesSolverModel_give 109 = .ok (.isub, 1) := by decide +kernel
theorem d_SpeciesSolverModel_give_110 : decode b_SpeciesSolverModel_give 110 = .ok (.ireturn, 1) := by decide +kernel
abbrev wd_SpeciesSolverModel_give (kc : Nat → ClassId) (ad : Nat → Nat) (md_thrown : Int32) (md_drafted : Int32) (md_lines : Int32) (md_n : Int32) (md_species : Int32) (md_above : Int32) (md_trialSize : Int32) (md_foundSize : Int32) (md_foundSpecies : Int32) (md_foundN : Int32) (md_foundCost : Int32) (md_chosen : Int32) (md_low : Int32) (md_many : Int64) (md_ties : Int64) (md_winnerCost : Int32) (md_allMany : Int64) (md_allTies : Int64) (md_faults : Int32) (md_draft : Nat → Int32) (md_given : Nat → Int32) : va_W := [((ad 0), .inr (1, [.int md_thrown, .ref (ad 1), .int md_drafted, .ref (ad 2), .int md_lines, .int md_n, .int md_species, .int md_above, .ref (ad 3), .ref (ad 4), .ref (ad 5), .int md_trialSize, .ref (ad 6), .int md_foundSize, .int md_foundSpecies, .int md_foundN, .int md_foundCost, .ref (ad 7), .int md_chosen, .ref (ad 8), .ref (ad 9), .ref (ad 10), .int md_low, .long md_many, .long md_ties, .ref (ad 11), .ref (ad 12), .int md_winnerCost, .long md_allMany, .long md_allTies, .ref (ad 13), .ref (ad 14), .ref (ad 15), .ref (ad 16), .int md_faults])), ((ad 1), .inl (kc 0, 45, .inl md_draft)), ((ad 2), .inl (kc 0, 36, .inl md_given))]
abbrev rm_SpeciesSolverModel_give : Room := { frames := 0, cells := 0, slots := 0, locals := 0 }
abbrev cw_SpeciesSolverModel_give : Cond := .code y_SpeciesSolverModel_give b_SpeciesSolverModel_give 2 (some .int)
abbrev ws_SpeciesSolverModel_give : List Cond := cw_SpeciesSolverModel_give :: GW
theorem hd_SpeciesSolverModel_give : y_SpeciesSolverModel_give.cls ≠ "java/lang/invoke/MethodHandle" ∧ y_SpeciesSolverModel_give.cls ≠ "java/lang/invoke/VarHandle" ∧ (parseMethodDescriptor y_SpeciesSolverModel_give.desc).map (fun d => d.parameters.length) = some 0 := by decide +kernel
def m_SpeciesSolverModel_give_55b (F : Nat) (md_draft : Nat → Int32) (k55 : Int32 → Int32 → Int32 → (Nat → Int32) → Int32 → Option (Int32 × Int32 × Int32 × Int32 × (Nat → Int32))) (md_drafted : Int32) (md_lines : Int32) (md_n : Int32) (md_given : Nat → Int32) (x1 : Int32) : Option (Int32 × Int32 × Int32 × Int32 × (Nat → Int32)) :=
  (if md_n ≤ x1 then
    (some (((md_lines + (1 : Int32)) - (1 : Int32)), (0 : Int32), (md_lines + (1 : Int32)), md_n, md_given))
  else
    (gd x1 45 (gd (((12 : Int32) * md_lines) + x1) 36 (k55 md_drafted md_lines md_n (upd md_given (Int32.toNatClampNeg (((12 : Int32) * md_lines) + x1)) (md_draft (Int32.toNatClampNeg x1))) (x1 + 1)))))
set_option maxHeartbeats 4000000 in
set_option maxRecDepth 100000 in
theorem l_SpeciesSolverModel_give_55 {r : Int32 × Int32 × Int32 × Int32 × (Nat → Int32)} {F : Nat} {ad : Nat → Nat} {md_thrown : Int32} {md_drafted : Int32} {md_lines : Int32} {md_n : Int32} {md_species : Int32} {md_above : Int32} {md_trialSize : Int32} {md_foundSize : Int32} {md_foundSpecies : Int32} {md_foundN : Int32} {md_foundCost : Int32} {md_chosen : Int32} {md_low : Int32} {md_many : Int64} {md_ties : Int64} {md_winnerCost : Int32} {md_allMany : Int64} {md_allTies : Int64} {md_faults : Int32} {md_draft : Nat → Int32} {md_given : Nat → Int32} {k55 : Int32 → Int32 → Int32 → (Nat → Int32) → Int32 → Option (Int32 × Int32 × Int32 × Int32 × (Nat → Int32))} {x1 : Int32} {H : Heap} {locs : List Loc} {ls : Array Slot} (C : Cx p s m meth c args A D kc R_SpeciesSolverModel b_SpeciesSolverModel_give 2 (some .int)) (hk55 : (∀ (md_drafted : Int32) (md_lines : Int32) (md_n : Int32) (md_given : Nat → Int32) (x1 : Int32) (H : Heap) (locs : List Loc) (ls : Array Slot), k55 md_drafted md_lines md_n md_given x1 = some r → St D A s (wd_SpeciesSolverModel_give kc ad md_thrown md_drafted md_lines md_n md_species md_above md_trialSize md_foundSize md_foundSpecies md_foundN md_foundCost md_chosen md_low md_many md_ties md_winnerCost md_allMany md_allTies md_faults md_draft md_given) H locs → lv_has ls 2 [(0, .ref (ad 0)), (1, .int x1)] → W p l e rm_SpeciesSolverModel_give s m args below meth c H locs 0 0 (MQ below (Qi D A (wd_SpeciesSolverModel_give kc ad md_thrown r.2.1 r.2.2.1 r.2.2.2.1 md_species md_above md_trialSize md_foundSize md_foundSpecies md_foundN md_foundCost md_chosen md_low md_many md_ties md_winnerCost md_allMany md_allTies md_faults md_draft r.2.2.2.2) r.1) args s 0 0 A) (F0 m 55 ls []))) (hm : m_SpeciesSolverModel_give_55b F md_draft k55 md_drafted md_lines md_n md_given x1 = some r) (hZ : St D A s (wd_SpeciesSolverModel_give kc ad md_thrown md_drafted md_lines md_n md_species md_above md_trialSize md_foundSize md_foundSpecies md_foundN md_foundCost md_chosen md_low md_many md_ties md_winnerCost md_allMany md_allTies md_faults md_draft md_given) H locs) (hl : lv_has ls 2 [(0, .ref (ad 0)), (1, .int x1)]) : W p l e rm_SpeciesSolverModel_give s m args below meth c H locs 0 0 (MQ below (Qi D A (wd_SpeciesSolverModel_give kc ad md_thrown r.2.1 r.2.2.1 r.2.2.2.1 md_species md_above md_trialSize md_foundSize md_foundSpecies md_foundN md_foundCost md_chosen md_low md_many md_ties md_winnerCost md_allMany md_allTies md_faults md_draft r.2.2.2.2) r.1) args s 0 0 A) (F0 m 55 ls []) := by
  obtain ⟨hx, hb, hr, hts, hown, hml, hlocks, hK, hN, hA, hX⟩ := id C
  obtain ⟨hP, hD, hS⟩ := hZ
  unfold m_SpeciesSolverModel_give_55b at hm
  refine lv_iload_n hx hb d_SpeciesSolverModel_give_55 rfl (lv_at hl 1 rfl) ?_
  refine lv_aload_n hx hb d_SpeciesSolverModel_give_56 rfl (lv_at hl 0 rfl) ?_
  refine va_get (D := D) (ci := 1) (v := .int md_n) (C := R_SpeciesSolverModel) (T := T_SpeciesSolverModel) (N := 35) hx hb hts inG_SpeciesSolverModel hown hK hP 0 rfl rfl 5 (by decide) (hts _ gw_823) (fun _ h9 => h9) rfl d_SpeciesSolverModel_give_57 ?_
  refine lv_icmp_ge (tgt := 89) hx hb d_SpeciesSolverModel_give_60 (by decide) (fun c1 => ?_) (fun c1 => ?_)
  · replace hm := ifT hm c1
    refine lv_aload_n hx hb d_SpeciesSolverModel_give_89 rfl (lv_at hl 0 rfl) ?_
    refine lv_iconst (v := 0) hx hb d_SpeciesSolverModel_give_90 (by decide) ?_
    refine va_put (D := D) (ci := 1) (v := .int (0 : Int32)) (ty := .int) (C := R_SpeciesSolverModel) (T := T_SpeciesSolverModel) (N := 35) hx hb hts inG_SpeciesSolverModel ty_SpeciesSolverModel tok_SpeciesSolverModel nmo_SpeciesSolverModel hown hK hP hD hS 0 rfl rfl 2 (by decide) (hts _ gw_820) (fun _ h9 => h9) rfl (tok_SpeciesSolverModel 2 (by decide)) rfl rfl (Nat.le_of_ble_eq_true rfl) d_SpeciesSolverModel_give_91 (fun H locs hP hD hS => ?_)
    replace hP : va_P D vwCl (wd_SpeciesSolverModel_give kc ad md_thrown (0 : Int32) md_lines md_n md_species md_above md_trialSize md_foundSize md_foundSpecies md_foundN md_foundCost md_chosen md_low md_many md_ties md_winnerCost md_allMany md_allTies md_faults md_draft md_given) H := hP
    replace hD : va_D A (wd_SpeciesSolverModel_give kc ad md_thrown (0 : Int32) md_lines md_n md_species md_above md_trialSize md_foundSize md_foundSpecies md_foundN md_foundCost md_chosen md_low md_many md_ties md_winnerCost md_allMany md_allTies md_faults md_draft md_given) := hD
    refine lv_aload_n hx hb d_SpeciesSolverModel_give_94 rfl (lv_at hl 0 rfl) ?_
    refine lv_dup hx hb d_SpeciesSolverModel_give_95 rfl ?_
    refine va_get (D := D) (ci := 1) (v := .int md_lines) (C := R_SpeciesSolverModel) (T := T_SpeciesSolverModel) (N := 35) hx hb hts inG_SpeciesSolverModel hown hK hP 0 rfl rfl 4 (by decide) (hts _ gw_822) (fun _ h9 => h9) rfl d_SpeciesSolverModel_give_96 ?_
    refine lv_iconst (v := 1) hx hb d_SpeciesSolverModel_give_99 (by decide) ?_
    refine lv_iadd hx hb d_SpeciesSolverModel_give_100 ?_
    refine va_put (D := D) (ci := 1) (v := .int (md_lines + (1 : Int32))) (ty := .int) (C := R_SpeciesSolverModel) (T := T_SpeciesSolverModel) (N := 35) hx hb hts inG_SpeciesSolverModel ty_SpeciesSolverModel tok_SpeciesSolverModel nmo_SpeciesSolverModel hown hK hP hD hS 0 rfl rfl 4 (by decide) (hts _ gw_822) (fun _ h9 => h9) rfl (tok_SpeciesSolverModel 4 (by decide)) rfl rfl (Nat.le_of_ble_eq_true rfl) d_SpeciesSolverModel_give_101 (fun H locs hP hD hS => ?_)
    replace hP : va_P D vwCl (wd_SpeciesSolverModel_give kc ad md_thrown (0 : Int32) (md_lines + (1 : Int32)) md_n md_species md_above md_trialSize md_foundSize md_foundSpecies md_foundN md_foundCost md_chosen md_low md_many md_ties md_winnerCost md_allMany md_allTies md_faults md_draft md_given) H := hP
    replace hD : va_D A (wd_SpeciesSolverModel_give kc ad md_thrown (0 : Int32) (md_lines + (1 : Int32)) md_n md_species md_above md_trialSize md_foundSize md_foundSpecies md_foundN md_foundCost md_chosen md_low md_many md_ties md_winnerCost md_allMany md_allTies md_faults md_draft md_given) := hD
    refine lv_aload_n hx hb d_SpeciesSolverModel_give_104 rfl (lv_at hl 0 rfl) ?_
    refine va_get (D := D) (ci := 1) (v := .int (md_lines + (1 : Int32))) (C := R_SpeciesSolverModel) (T := T_SpeciesSolverModel) (N := 35) hx hb hts inG_SpeciesSolverModel hown hK hP 0 rfl rfl 4 (by decide) (hts _ gw_822) (fun _ h9 => h9) rfl d_SpeciesSolverModel_give_105 ?_
    refine lv_iconst (v := 1) hx hb d_SpeciesSolverModel_give_108 (by decide) ?_
    refine lv_isub hx hb d_SpeciesSolverModel_give_109 ?_
    replace hm := Option.some.inj hm; subst hm
    exact zret_i C hP hD hS d_SpeciesSolverModel_give_110
  · replace hm := ifF hm c1
    refine lv_aload_n hx hb d_SpeciesSolverModel_give_63 rfl (lv_at hl 0 rfl) ?_
    refine va_get (D := D) (ci := 1) (v := .ref (ad 2)) (C := R_SpeciesSolverModel) (T := T_SpeciesSolverModel) (N := 35) hx hb hts inG_SpeciesSolverModel hown hK hP 0 rfl rfl 3 (by decide) (hts _ gw_821) (fun _ h9 => h9) rfl d_SpeciesSolverModel_give_64 ?_
    refine lv_bipush (v := 12) hx hb d_SpeciesSolverModel_give_67 (by decide) ?_
    refine lv_aload_n hx hb d_SpeciesSolverModel_give_69 rfl (lv_at hl 0 rfl) ?_
    refine va_get (D := D) (ci := 1) (v := .int md_lines) (C := R_SpeciesSolverModel) (T := T_SpeciesSolverModel) (N := 35) hx hb hts inG_SpeciesSolverModel hown hK hP 0 rfl rfl 4 (by decide) (hts _ gw_822) (fun _ h9 => h9) rfl d_SpeciesSolverModel_give_70 ?_
    refine lv_imul hx hb d_SpeciesSolverModel_give_73 ?_
    refine lv_iload_n hx hb d_SpeciesSolverModel_give_74 rfl (lv_at hl 1 rfl) ?_
    refine lv_iadd hx hb d_SpeciesSolverModel_give_75 ?_
    refine lv_aload_n hx hb d_SpeciesSolverModel_give_76 rfl (lv_at hl 0 rfl) ?_
    refine va_get (D := D) (ci := 1) (v := .ref (ad 1)) (C := R_SpeciesSolverModel) (T := T_SpeciesSolverModel) (N := 35) hx hb hts inG_SpeciesSolverModel hown hK hP 0 rfl rfl 1 (by decide) (hts _ gw_819) (fun _ h9 => h9) rfl d_SpeciesSolverModel_give_77 ?_
    refine lv_iload_n hx hb d_SpeciesSolverModel_give_80 rfl (lv_at hl 1 rfl) ?_
    obtain ⟨hi2, hm⟩ := gd_some hm
    refine va_iald hx hb hK hP 1 0 rfl rfl hi2 d_SpeciesSolverModel_give_81 ?_
    obtain ⟨hi3, hm⟩ := gd_some hm
    refine va_iast hx hb hK hP hD hS 2 0 rfl rfl hi3 d_SpeciesSolverModel_give_82 (fun H locs hP hD hS => ?_)
    replace hP : va_P D vwCl (wd_SpeciesSolverModel_give kc ad md_thrown md_drafted md_lines md_n md_species md_above md_trialSize md_foundSize md_foundSpecies md_foundN md_foundCost md_chosen md_low md_many md_ties md_winnerCost md_allMany md_allTies md_faults md_draft (upd md_given (Int32.toNatClampNeg (((12 : Int32) * md_lines) + x1)) (md_draft (Int32.toNatClampNeg x1)))) H := hP
    replace hD : va_D A (wd_SpeciesSolverModel_give kc ad md_thrown md_drafted md_lines md_n md_species md_above md_trialSize md_foundSize md_foundSpecies md_foundN md_foundCost md_chosen md_low md_many md_ties md_winnerCost md_allMany md_allTies md_faults md_draft (upd md_given (Int32.toNatClampNeg (((12 : Int32) * md_lines) + x1)) (md_draft (Int32.toNatClampNeg x1)))) := hD
    refine lv_iinc (v := (x1 + 1)) (lv' := [(1, .int (x1 + 1)), (0, .ref (ad 0))]) hx hb d_SpeciesSolverModel_give_83 hl (k := 1) rfl rfl (by decide) rfl (fun ls hl => ?_)
    refine lv_goto (tgt := 55) hx hb d_SpeciesSolverModel_give_86 (by decide) ?_
    exact hk55 md_drafted md_lines md_n (upd md_given (Int32.toNatClampNeg (((12 : Int32) * md_lines) + x1)) (md_draft (Int32.toNatClampNeg x1))) (x1 + 1) _ _ _ hm ⟨hP, hD, hS⟩ (lv_sub hl [1, 0] rfl)
def m_SpeciesSolverModel_give_55 (F : Nat) (md_draft : Nat → Int32)  : Nat → Int32 → Int32 → Int32 → (Nat → Int32) → Int32 → Option (Int32 × Int32 × Int32 × Int32 × (Nat → Int32))
  | 0 => fun _ _ _ _ _ => none
  | n + 1 => m_SpeciesSolverModel_give_55b F md_draft  (m_SpeciesSolverModel_give_55 F md_draft  n)
set_option maxHeartbeats 4000000 in
set_option maxRecDepth 100000 in
theorem lp_SpeciesSolverModel_give_55 {r : Int32 × Int32 × Int32 × Int32 × (Nat → Int32)} {F : Nat} {ad : Nat → Nat} {md_thrown : Int32} {md_species : Int32} {md_above : Int32} {md_trialSize : Int32} {md_foundSize : Int32} {md_foundSpecies : Int32} {md_foundN : Int32} {md_foundCost : Int32} {md_chosen : Int32} {md_low : Int32} {md_many : Int64} {md_ties : Int64} {md_winnerCost : Int32} {md_allMany : Int64} {md_allTies : Int64} {md_faults : Int32} {md_draft : Nat → Int32}  (C : Cx p s m meth c args A D kc R_SpeciesSolverModel b_SpeciesSolverModel_give 2 (some .int))  : ∀ (n : Nat) (md_drafted : Int32) (md_lines : Int32) (md_n : Int32) (md_given : Nat → Int32) (x1 : Int32) (H : Heap) (locs : List Loc) (ls : Array Slot), m_SpeciesSolverModel_give_55 F md_draft  n md_drafted md_lines md_n md_given x1 = some r → St D A s (wd_SpeciesSolverModel_give kc ad md_thrown md_drafted md_lines md_n md_species md_above md_trialSize md_foundSize md_foundSpecies md_foundN md_foundCost md_chosen md_low md_many md_ties md_winnerCost md_allMany md_allTies md_faults md_draft md_given) H locs → lv_has ls 2 [(0, .ref (ad 0)), (1, .int x1)] → W p l e rm_SpeciesSolverModel_give s m args below meth c H locs 0 0 (MQ below (Qi D A (wd_SpeciesSolverModel_give kc ad md_thrown r.2.1 r.2.2.1 r.2.2.2.1 md_species md_above md_trialSize md_foundSize md_foundSpecies md_foundN md_foundCost md_chosen md_low md_many md_ties md_winnerCost md_allMany md_allTies md_faults md_draft r.2.2.2.2) r.1) args s 0 0 A) (F0 m 55 ls []) := by
  intro n
  induction n with
  | zero => intro md_drafted md_lines md_n md_given x1 H locs ls hm; cases hm
  | succ n ih => intro md_drafted md_lines md_n md_given x1 H locs ls hm hZ hl; exact l_SpeciesSolverModel_give_55 C  ih hm hZ hl
def m_SpeciesSolverModel_give_45 (F : Nat) (md_draft : Nat → Int32)  (md_drafted : Int32) (md_lines : Int32) (md_n : Int32) (md_given : Nat → Int32)  : Option (Int32 × Int32 × Int32 × Int32 × (Nat → Int32)) :=
  m_SpeciesSolverModel_give_55 F md_draft  F md_drafted md_lines md_drafted md_given (0 : Int32)
set_option maxHeartbeats 4000000 in
set_option maxRecDepth 100000 in
theorem l_SpeciesSolverModel_give_45 {r : Int32 × Int32 × Int32 × Int32 × (Nat → Int32)} {F : Nat} {ad : Nat → Nat} {md_thrown : Int32} {md_drafted : Int32} {md_lines : Int32} {md_n : Int32} {md_species : Int32} {md_above : Int32} {md_trialSize : Int32} {md_foundSize : Int32} {md_foundSpecies : Int32} {md_foundN : Int32} {md_foundCost : Int32} {md_chosen : Int32} {md_low : Int32} {md_many : Int64} {md_ties : Int64} {md_winnerCost : Int32} {md_allMany : Int64} {md_allTies : Int64} {md_faults : Int32} {md_draft : Nat → Int32} {md_given : Nat → Int32}   {H : Heap} {locs : List Loc} {ls : Array Slot} (C : Cx p s m meth c args A D kc R_SpeciesSolverModel b_SpeciesSolverModel_give 2 (some .int))  (hm : m_SpeciesSolverModel_give_45 F md_draft  md_drafted md_lines md_n md_given = some r) (hZ : St D A s (wd_SpeciesSolverModel_give kc ad md_thrown md_drafted md_lines md_n md_species md_above md_trialSize md_foundSize md_foundSpecies md_foundN md_foundCost md_chosen md_low md_many md_ties md_winnerCost md_allMany md_allTies md_faults md_draft md_given) H locs) (hl : lv_has ls 2 [(0, .ref (ad 0))]) : W p l e rm_SpeciesSolverModel_give s m args below meth c H locs 0 0 (MQ below (Qi D A (wd_SpeciesSolverModel_give kc ad md_thrown r.2.1 r.2.2.1 r.2.2.2.1 md_species md_above md_trialSize md_foundSize md_foundSpecies md_foundN md_foundCost md_chosen md_low md_many md_ties md_winnerCost md_allMany md_allTies md_faults md_draft r.2.2.2.2) r.1) args s 0 0 A) (F0 m 45 ls []) := by
  obtain ⟨hx, hb, hr, hts, hown, hml, hlocks, hK, hN, hA, hX⟩ := id C
  obtain ⟨hP, hD, hS⟩ := hZ
  unfold m_SpeciesSolverModel_give_45 at hm
  refine lv_aload_n hx hb d_SpeciesSolverModel_give_45 rfl (lv_at hl 0 rfl) ?_
  refine lv_aload_n hx hb d_SpeciesSolverModel_give_46 rfl (lv_at hl 0 rfl) ?_
  refine va_get (D := D) (ci := 1) (v := .int md_drafted) (C := R_SpeciesSolverModel) (T := T_SpeciesSolverModel) (N := 35) hx hb hts inG_SpeciesSolverModel hown hK hP 0 rfl rfl 2 (by decide) (hts _ gw_820) (fun _ h9 => h9) rfl d_SpeciesSolverModel_give_47 ?_
  refine va_put (D := D) (ci := 1) (v := .int md_drafted) (ty := .int) (C := R_SpeciesSolverModel) (T := T_SpeciesSolverModel) (N := 35) hx hb hts inG_SpeciesSolverModel ty_SpeciesSolverModel tok_SpeciesSolverModel nmo_SpeciesSolverModel hown hK hP hD hS 0 rfl rfl 5 (by decide) (hts _ gw_823) (fun _ h9 => h9) rfl (tok_SpeciesSolverModel 5 (by decide)) rfl rfl (Nat.le_of_ble_eq_true rfl) d_SpeciesSolverModel_give_50 (fun H locs hP hD hS => ?_)
  replace hP : va_P D vwCl (wd_SpeciesSolverModel_give kc ad md_thrown md_drafted md_lines md_drafted md_species md_above md_trialSize md_foundSize md_foundSpecies md_foundN md_foundCost md_chosen md_low md_many md_ties md_winnerCost md_allMany md_allTies md_faults md_draft md_given) H := hP
  replace hD : va_D A (wd_SpeciesSolverModel_give kc ad md_thrown md_drafted md_lines md_drafted md_species md_above md_trialSize md_foundSize md_foundSpecies md_foundN md_foundCost md_chosen md_low md_many md_ties md_winnerCost md_allMany md_allTies md_faults md_draft md_given) := hD
  refine lv_iconst (v := 0) hx hb d_SpeciesSolverModel_give_53 (by decide) ?_
  refine lv_istore_n (lv' := [(1, .int (0 : Int32)), (0, .ref (ad 0))]) hx hb d_SpeciesSolverModel_give_54 rfl hl (by decide) rfl (fun ls hl => ?_)
  exact lp_SpeciesSolverModel_give_55 C  F md_drafted md_lines md_drafted md_given (0 : Int32) _ _ _ hm ⟨hP, hD, hS⟩ (lv_sub hl [1, 0] rfl)
def m_SpeciesSolverModel_give (F : Nat) (md_draft : Nat → Int32) (md_drafted : Int32) (md_lines : Int32) (md_n : Int32) (md_given : Nat → Int32)  : Option (Int32 × Int32 × Int32 × Int32 × (Nat → Int32)) :=
  (if md_lines = (3 : Int32) then
    (some ((-1 : Int32), md_drafted, md_lines, md_n, md_given))
  else
    (if md_drafted < (2 : Int32) then
      (some ((-1 : Int32), md_drafted, md_lines, md_n, md_given))
    else
      (if (12 : Int32) < md_drafted then
        (some ((-1 : Int32), md_drafted, md_lines, md_n, md_given))
      else
        (if md_lines ≤ (0 : Int32) then
          m_SpeciesSolverModel_give_45 F md_draft  md_drafted md_lines md_n md_given
        else
          (if md_drafted = md_n then
            m_SpeciesSolverModel_give_45 F md_draft  md_drafted md_lines md_n md_given
          else
            (some ((-1 : Int32), md_drafted, md_lines, md_n, md_given)))))))
set_option maxHeartbeats 4000000 in
set_option maxRecDepth 100000 in
theorem e_SpeciesSolverModel_give {r : Int32 × Int32 × Int32 × Int32 × (Nat → Int32)} {F : Nat} {ad : Nat → Nat} {md_thrown : Int32} {md_drafted : Int32} {md_lines : Int32} {md_n : Int32} {md_species : Int32} {md_above : Int32} {md_trialSize : Int32} {md_foundSize : Int32} {md_foundSpecies : Int32} {md_foundN : Int32} {md_foundCost : Int32} {md_chosen : Int32} {md_low : Int32} {md_many : Int64} {md_ties : Int64} {md_winnerCost : Int32} {md_allMany : Int64} {md_allTies : Int64} {md_faults : Int32} {md_draft : Nat → Int32} {md_given : Nat → Int32}  {H : Heap} {locs : List Loc} {ls : Array Slot} (C : Cx p s m meth c args A D kc R_SpeciesSolverModel b_SpeciesSolverModel_give 2 (some .int)) (hm : m_SpeciesSolverModel_give F md_draft md_drafted md_lines md_n md_given = some r) (hZ : St D A s (wd_SpeciesSolverModel_give kc ad md_thrown md_drafted md_lines md_n md_species md_above md_trialSize md_foundSize md_foundSpecies md_foundN md_foundCost md_chosen md_low md_many md_ties md_winnerCost md_allMany md_allTies md_faults md_draft md_given) H locs) (hl : lv_has ls 2 [(0, .ref (ad 0))]) : W p l e rm_SpeciesSolverModel_give s m args below meth c H locs 0 0 (MQ below (Qi D A (wd_SpeciesSolverModel_give kc ad md_thrown r.2.1 r.2.2.1 r.2.2.2.1 md_species md_above md_trialSize md_foundSize md_foundSpecies md_foundN md_foundCost md_chosen md_low md_many md_ties md_winnerCost md_allMany md_allTies md_faults md_draft r.2.2.2.2) r.1) args s 0 0 A) (F0 m 0 ls []) := by
  obtain ⟨hx, hb, hr, hts, hown, hml, hlocks, hK, hN, hA, hX⟩ := id C
  obtain ⟨hP, hD, hS⟩ := hZ
  unfold m_SpeciesSolverModel_give at hm
  refine lv_aload_n hx hb d_SpeciesSolverModel_give_0 rfl (lv_at hl 0 rfl) ?_
  refine va_get (D := D) (ci := 1) (v := .int md_lines) (C := R_SpeciesSolverModel) (T := T_SpeciesSolverModel) (N := 35) hx hb hts inG_SpeciesSolverModel hown hK hP 0 rfl rfl 4 (by decide) (hts _ gw_822) (fun _ h9 => h9) rfl d_SpeciesSolverModel_give_1 ?_
  refine lv_iconst (v := 3) hx hb d_SpeciesSolverModel_give_4 (by decide) ?_
  refine lv_icmp_eq (tgt := 43) hx hb d_SpeciesSolverModel_give_5 (by decide) (fun c1 => ?_) (fun c1 => ?_)
  · replace hm := ifT hm c1
    refine lv_iconst (v := -1) hx hb d_SpeciesSolverModel_give_43 (by decide) ?_
    replace hm := Option.some.inj hm; subst hm
    exact zret_i C hP hD hS d_SpeciesSolverModel_give_44
  · replace hm := ifF hm c1
    refine lv_aload_n hx hb d_SpeciesSolverModel_give_8 rfl (lv_at hl 0 rfl) ?_
    refine va_get (D := D) (ci := 1) (v := .int md_drafted) (C := R_SpeciesSolverModel) (T := T_SpeciesSolverModel) (N := 35) hx hb hts inG_SpeciesSolverModel hown hK hP 0 rfl rfl 2 (by decide) (hts _ gw_820) (fun _ h9 => h9) rfl d_SpeciesSolverModel_give_9 ?_
    refine lv_iconst (v := 2) hx hb d_SpeciesSolverModel_give_12 (by decide) ?_
    refine lv_icmp_lt (tgt := 43) hx hb d_SpeciesSolverModel_give_13 (by decide) (fun c2 => ?_) (fun c2 => ?_)
    · replace hm := ifT hm c2
      refine lv_iconst (v := -1) hx hb d_SpeciesSolverModel_give_43 (by decide) ?_
      replace hm := Option.some.inj hm; subst hm
      exact zret_i C hP hD hS d_SpeciesSolverModel_give_44
    · replace hm := ifF hm c2
      refine lv_aload_n hx hb d_SpeciesSolverModel_give_16 rfl (lv_at hl 0 rfl) ?_
      refine va_get (D := D) (ci := 1) (v := .int md_drafted) (C := R_SpeciesSolverModel) (T := T_SpeciesSolverModel) (N := 35) hx hb hts inG_SpeciesSolverModel hown hK hP 0 rfl rfl 2 (by decide) (hts _ gw_820) (fun _ h9 => h9) rfl d_SpeciesSolverModel_give_17 ?_
      refine lv_bipush (v := 12) hx hb d_SpeciesSolverModel_give_20 (by decide) ?_
      refine lv_icmp_gt (tgt := 43) hx hb d_SpeciesSolverModel_give_22 (by decide) (fun c3 => ?_) (fun c3 => ?_)
      · replace hm := ifT hm c3
        refine lv_iconst (v := -1) hx hb d_SpeciesSolverModel_give_43 (by decide) ?_
        replace hm := Option.some.inj hm; subst hm
        exact zret_i C hP hD hS d_SpeciesSolverModel_give_44
      · replace hm := ifF hm c3
        refine lv_aload_n hx hb d_SpeciesSolverModel_give_25 rfl (lv_at hl 0 rfl) ?_
        refine va_get (D := D) (ci := 1) (v := .int md_lines) (C := R_SpeciesSolverModel) (T := T_SpeciesSolverModel) (N := 35) hx hb hts inG_SpeciesSolverModel hown hK hP 0 rfl rfl 4 (by decide) (hts _ gw_822) (fun _ h9 => h9) rfl d_SpeciesSolverModel_give_26 ?_
        refine lv_if_le (tgt := 45) hx hb d_SpeciesSolverModel_give_29 (by decide) (fun c4 => ?_) (fun c4 => ?_)
        · replace hm := ifT hm c4
          exact l_SpeciesSolverModel_give_45 C  hm ⟨hP, hD, hS⟩ (lv_sub hl [0] rfl)
        · replace hm := ifF hm c4
          refine lv_aload_n hx hb d_SpeciesSolverModel_give_32 rfl (lv_at hl 0 rfl) ?_
          refine va_get (D := D) (ci := 1) (v := .int md_drafted) (C := R_SpeciesSolverModel) (T := T_SpeciesSolverModel) (N := 35) hx hb hts inG_SpeciesSolverModel hown hK hP 0 rfl rfl 2 (by decide) (hts _ gw_820) (fun _ h9 => h9) rfl d_SpeciesSolverModel_give_33 ?_
          refine lv_aload_n hx hb d_SpeciesSolverModel_give_36 rfl (lv_at hl 0 rfl) ?_
          refine va_get (D := D) (ci := 1) (v := .int md_n) (C := R_SpeciesSolverModel) (T := T_SpeciesSolverModel) (N := 35) hx hb hts inG_SpeciesSolverModel hown hK hP 0 rfl rfl 5 (by decide) (hts _ gw_823) (fun _ h9 => h9) rfl d_SpeciesSolverModel_give_37 ?_
          refine lv_icmp_eq (tgt := 45) hx hb d_SpeciesSolverModel_give_40 (by decide) (fun c5 => ?_) (fun c5 => ?_)
          · replace hm := ifT hm c5
            exact l_SpeciesSolverModel_give_45 C  hm ⟨hP, hD, hS⟩ (lv_sub hl [0] rfl)
          · replace hm := ifF hm c5
            refine lv_iconst (v := -1) hx hb d_SpeciesSolverModel_give_43 (by decide) ?_
            replace hm := Option.some.inj hm; subst hm
            exact zret_i C hP hD hS d_SpeciesSolverModel_give_44
set_option maxHeartbeats 4000000 in
set_option maxRecDepth 100000 in
theorem c_SpeciesSolverModel_give {l : Launch} {D : va_G} {kc : Nat → ClassId} {r : Int32 × Int32 × Int32 × Int32 × (Nat → Int32)} {F : Nat} {ad : Nat → Nat} {md_thrown : Int32} {md_drafted : Int32} {md_lines : Int32} {md_n : Int32} {md_species : Int32} {md_above : Int32} {md_trialSize : Int32} {md_foundSize : Int32} {md_foundSpecies : Int32} {md_foundN : Int32} {md_foundCost : Int32} {md_chosen : Int32} {md_low : Int32} {md_many : Int64} {md_ties : Int64} {md_winnerCost : Int32} {md_allMany : Int64} {md_allTies : Int64} {md_faults : Int32} {md_draft : Nat → Int32} {md_given : Nat → Int32}  (hm : m_SpeciesSolverModel_give F md_draft md_drafted md_lines md_n md_given = some r) (sz : Nat) : Ci l y_SpeciesSolverModel_give ws_SpeciesSolverModel_give rm_SpeciesSolverModel_give D kc sz [.ref (ad 0)] (wd_SpeciesSolverModel_give kc ad md_thrown md_drafted md_lines md_n md_species md_above md_trialSize md_foundSize md_foundSpecies md_foundN md_foundCost md_chosen md_low md_many md_ties md_winnerCost md_allMany md_allTies md_faults md_draft md_given) (wd_SpeciesSolverModel_give kc ad md_thrown r.2.1 r.2.2.1 r.2.2.2.1 md_species md_above md_trialSize md_foundSize md_foundSpecies md_foundN md_foundCost md_chosen md_low md_many md_ties md_winnerCost md_allMany md_allTies md_faults md_draft r.2.2.2.2) r.1 :=
  Cz_of (Qf := fun A => (Qi D A (wd_SpeciesSolverModel_give kc ad md_thrown r.2.1 r.2.2.1 r.2.2.2.1 md_species md_above md_trialSize md_foundSize md_foundSpecies md_foundN md_foundCost md_chosen md_low md_many md_ties md_winnerCost md_allMany md_allTies md_faults md_draft r.2.2.2.2) r.1)) (cc := b_SpeciesSolverModel_give) (maxL := 2) (ret := (some .int)) (by decide) rfl rfl (fun C hZ hl => e_SpeciesSolverModel_give C hm hZ hl)
abbrev b_SpeciesSolverModel_attempt : ByteArray := prog_9_method_5_code
abbrev y_SpeciesSolverModel_attempt : MethodName := ⟨"SpeciesSolverModel", "attempt", "()I"⟩
theorem d_SpeciesSolverModel_attempt_0 : decode b_SpeciesSolverModel_attempt 0 = .ok (.aload_n 0, 1) := by decide +kernel
theorem d_SpeciesSolverModel_attempt_1 : decode b_SpeciesSolverModel_attempt 1 = .ok (.aload_n 0, 1) := by decide +kernel
theorem d_SpeciesSolverModel_attempt_2 : decode b_SpeciesSolverModel_attempt 2 = .ok (.getfield 75, 3) := by decide +kernel
theorem d_SpeciesSolverModel_attempt_5 : decode b_SpeciesSolverModel_attempt 5 = .ok (.putfield 84, 3) := by decide +kernel
theorem d_SpeciesSolverModel_attempt_8 : decode b_SpeciesSolverModel_attempt 8 = .ok (.iconst 0, 1) := by decide +kernel
theorem d_SpeciesSolverModel_attempt_9 : decode b_SpeciesSolverModel_attempt 9 = .ok (.istore_n 1, 1) := by decide +kernel
theorem d_SpeciesSolverModel_attempt_10 : decode b_SpeciesSolverModel_attempt 10 = .ok (.iload_n 1, 1) := by decide +kernel
theorem d_SpeciesSolverModel_attempt_11 : decode b_SpeciesSolverModel_attempt 11 = .ok (.aload_n 0, 1) := by decide +kernel
theorem d_SpeciesSolverModel_attempt_12 : decode b_SpeciesSolverModel_attempt 12 = .ok (.getfield 75, 3) := by decide +kernel
theorem d_SpeciesSolverModel_attempt_15 : decode b_SpeciesSolverModel_attempt 15 = .ok (.if_icmp .ge 21, 3) := by decide +kernel
theorem d_SpeciesSolverModel_attempt_18 : decode b_SpeciesSolverModel_attempt 18 = .ok (.aload_n 0, 1) := by decide +kernel
theorem d_SpeciesSolverModel_attempt_19 : decode b_SpeciesSolverModel_attempt 19 = .ok (.getfield 31, 3) := by decide +kernel
theorem d_SpeciesSolverModel_attempt_22 : decode b_SpeciesSolverModel_attempt 22 = .ok (.iload_n 1, 1) := by decide +kernel
theorem d_SpeciesSolverModel_attempt_23 : decode b_SpeciesSolverModel_attempt 23 = .ok (.aload_n 0, 1) := by decide +kernel
theorem d_SpeciesSolverModel_attempt_24 : decode b_SpeciesSolverModel_attempt 24 = .ok (.getfield 7, 3) := by decide +kernel
theorem d_SpeciesSolverModel_attempt_27 : decode b_SpeciesSolverModel_attempt 27 = .ok (.iload_n 1, 1) := by decide +kernel
theorem d_SpeciesSolverModel_attempt_28 : decode b_SpeciesSolverModel_attempt 28 = .ok (.iaload, 1) := by decide +kernel
theorem d_SpeciesSolverModel_attempt_29 : decode b_SpeciesSolverModel_attempt 29 = .ok (.iastore, 1) := by decide +kernel
theorem d_SpeciesSolverModel_attempt_30 : decode b_SpeciesSolverModel_attempt 30 = .ok (.iinc 1 1, 3) := by decide +kernel
theorem d_SpeciesSolverModel_attempt_33 : decode b_SpeciesSolverModel_attempt 33 = .ok (.goto (-23), 3) := by decide +kernel
theorem d_SpeciesSolverModel_attempt_36 : decode b_SpeciesSolverModel_attempt 36 = .ok (.aload_n 0, 1) := by decide +kernel
theorem d_SpeciesSolverModel_attempt_37 : decode b_SpeciesSolverModel_attempt 37 = .ok (.iconst 0, 1) := by decide +kernel
theorem d_SpeciesSolverModel_attempt_38 : decode b_SpeciesSolverModel_attempt 38 = .ok (.putfield 75, 3) := by decide +kernel
theorem d_SpeciesSolverModel_attempt_41 : decode b_SpeciesSolverModel_attempt 41 = .ok (.aload_n 0, 1) := by decide +kernel
theorem d_SpeciesSolverModel_attempt_42 : decode b_SpeciesSolverModel_attempt 42 = .ok (.getfield 84, 3) := by decide +kernel
theorem d_SpeciesSolverModel_attempt_45 : decode b_SpeciesSolverModel_attempt 45 = .ok (.ireturn, 1) := by decide +kernel
abbrev wd_SpeciesSolverModel_attempt (kc : Nat → ClassId) (ad : Nat → Nat) (md_thrown : Int32) (md_drafted : Int32) (md_lines : Int32) (md_n : Int32) (md_species : Int32) (md_above : Int32) (md_trialSize : Int32) (md_foundSize : Int32) (md_foundSpecies : Int32) (md_foundN : Int32) (md_foundCost : Int32) (md_chosen : Int32) (md_low : Int32) (md_many : Int64) (md_ties : Int64) (md_winnerCost : Int32) (md_allMany : Int64) (md_allTies : Int64) (md_faults : Int32) (md_draft : Nat → Int32) (md_trial : Nat → Int32) : va_W := [((ad 0), .inr (1, [.int md_thrown, .ref (ad 1), .int md_drafted, .ref (ad 2), .int md_lines, .int md_n, .int md_species, .int md_above, .ref (ad 3), .ref (ad 4), .ref (ad 5), .int md_trialSize, .ref (ad 6), .int md_foundSize, .int md_foundSpecies, .int md_foundN, .int md_foundCost, .ref (ad 7), .int md_chosen, .ref (ad 8), .ref (ad 9), .ref (ad 10), .int md_low, .long md_many, .long md_ties, .ref (ad 11), .ref (ad 12), .int md_winnerCost, .long md_allMany, .long md_allTies, .ref (ad 13), .ref (ad 14), .ref (ad 15), .ref (ad 16), .int md_faults])), ((ad 1), .inl (kc 0, 45, .inl md_draft)), ((ad 5), .inl (kc 0, 45, .inl md_trial))]
abbrev rm_SpeciesSolverModel_attempt : Room := { frames := 0, cells := 0, slots := 0, locals := 0 }
abbrev cw_SpeciesSolverModel_attempt : Cond := .code y_SpeciesSolverModel_attempt b_SpeciesSolverModel_attempt 2 (some .int)
abbrev ws_SpeciesSolverModel_attempt : List Cond := cw_SpeciesSolverModel_attempt :: GW
theorem hd_SpeciesSolverModel_attempt : y_SpeciesSolverModel_attempt.cls ≠ "java/lang/invoke/MethodHandle" ∧ y_SpeciesSolverModel_attempt.cls ≠ "java/lang/invoke/VarHandle" ∧ (parseMethodDescriptor y_SpeciesSolverModel_attempt.desc).map (fun d => d.parameters.length) = some 0 := by decide +kernel
def m_SpeciesSolverModel_attempt_10b (F : Nat) (md_draft : Nat → Int32) (k10 : Int32 → Int32 → (Nat → Int32) → Int32 → Option (Int32 × Int32 × Int32 × (Nat → Int32))) (md_drafted : Int32) (md_trialSize : Int32) (md_trial : Nat → Int32) (x1 : Int32) : Option (Int32 × Int32 × Int32 × (Nat → Int32)) :=
  (if md_drafted ≤ x1 then
    (some (md_trialSize, (0 : Int32), md_trialSize, md_trial))
  else
    (gd x1 45 (gd x1 45 (k10 md_drafted md_trialSize (upd md_trial (Int32.toNatClampNeg x1) (md_draft (Int32.toNatClampNeg x1))) (x1 + 1)))))
set_option maxHeartbeats 4000000 in
set_option maxRecDepth 100000 in
theorem l_SpeciesSolverModel_attempt_10 {r : Int32 × Int32 × Int32 × (Nat → Int32)} {F : Nat} {ad : Nat → Nat} {md_thrown : Int32} {md_drafted : Int32} {md_lines : Int32} {md_n : Int32} {md_species : Int32} {md_above : Int32} {md_trialSize : Int32} {md_foundSize : Int32} {md_foundSpecies : Int32} {md_foundN : Int32} {md_foundCost : Int32} {md_chosen : Int32} {md_low : Int32} {md_many : Int64} {md_ties : Int64} {md_winnerCost : Int32} {md_allMany : Int64} {md_allTies : Int64} {md_faults : Int32} {md_draft : Nat → Int32} {md_trial : Nat → Int32} {k10 : Int32 → Int32 → (Nat → Int32) → Int32 → Option (Int32 × Int32 × Int32 × (Nat → Int32))} {x1 : Int32} {H : Heap} {locs : List Loc} {ls : Array Slot} (C : Cx p s m meth c args A D kc R_SpeciesSolverModel b_SpeciesSolverModel_attempt 2 (some .int)) (hk10 : (∀ (md_drafted : Int32) (md_trialSize : Int32) (md_trial : Nat → Int32) (x1 : Int32) (H : Heap) (locs : List Loc) (ls : Array Slot), k10 md_drafted md_trialSize md_trial x1 = some r → St D A s (wd_SpeciesSolverModel_attempt kc ad md_thrown md_drafted md_lines md_n md_species md_above md_trialSize md_foundSize md_foundSpecies md_foundN md_foundCost md_chosen md_low md_many md_ties md_winnerCost md_allMany md_allTies md_faults md_draft md_trial) H locs → lv_has ls 2 [(0, .ref (ad 0)), (1, .int x1)] → W p l e rm_SpeciesSolverModel_attempt s m args below meth c H locs 0 0 (MQ below (Qi D A (wd_SpeciesSolverModel_attempt kc ad md_thrown r.2.1 md_lines md_n md_species md_above r.2.2.1 md_foundSize md_foundSpecies md_foundN md_foundCost md_chosen md_low md_many md_ties md_winnerCost md_allMany md_allTies md_faults md_draft r.2.2.2) r.1) args s 0 0 A) (F0 m 10 ls []))) (hm : m_SpeciesSolverModel_attempt_10b F md_draft k10 md_drafted md_trialSize md_trial x1 = some r) (hZ : St D A s (wd_SpeciesSolverModel_attempt kc ad md_thrown md_drafted md_lines md_n md_species md_above md_trialSize md_foundSize md_foundSpecies md_foundN md_foundCost md_chosen md_low md_many md_ties md_winnerCost md_allMany md_allTies md_faults md_draft md_trial) H locs) (hl : lv_has ls 2 [(0, .ref (ad 0)), (1, .int x1)]) : W p l e rm_SpeciesSolverModel_attempt s m args below meth c H locs 0 0 (MQ below (Qi D A (wd_SpeciesSolverModel_attempt kc ad md_thrown r.2.1 md_lines md_n md_species md_above r.2.2.1 md_foundSize md_foundSpecies md_foundN md_foundCost md_chosen md_low md_many md_ties md_winnerCost md_allMany md_allTies md_faults md_draft r.2.2.2) r.1) args s 0 0 A) (F0 m 10 ls []) := by
  obtain ⟨hx, hb, hr, hts, hown, hml, hlocks, hK, hN, hA, hX⟩ := id C
  obtain ⟨hP, hD, hS⟩ := hZ
  unfold m_SpeciesSolverModel_attempt_10b at hm
  refine lv_iload_n hx hb d_SpeciesSolverModel_attempt_10 rfl (lv_at hl 1 rfl) ?_
  refine lv_aload_n hx hb d_SpeciesSolverModel_attempt_11 rfl (lv_at hl 0 rfl) ?_
  refine va_get (D := D) (ci := 1) (v := .int md_drafted) (C := R_SpeciesSolverModel) (T := T_SpeciesSolverModel) (N := 35) hx hb hts inG_SpeciesSolverModel hown hK hP 0 rfl rfl 2 (by decide) (hts _ gw_820) (fun _ h9 => h9) rfl d_SpeciesSolverModel_attempt_12 ?_
  refine lv_icmp_ge (tgt := 36) hx hb d_SpeciesSolverModel_attempt_15 (by decide) (fun c1 => ?_) (fun c1 => ?_)
  · replace hm := ifT hm c1
    refine lv_aload_n hx hb d_SpeciesSolverModel_attempt_36 rfl (lv_at hl 0 rfl) ?_
    refine lv_iconst (v := 0) hx hb d_SpeciesSolverModel_attempt_37 (by decide) ?_
    refine va_put (D := D) (ci := 1) (v := .int (0 : Int32)) (ty := .int) (C := R_SpeciesSolverModel) (T := T_SpeciesSolverModel) (N := 35) hx hb hts inG_SpeciesSolverModel ty_SpeciesSolverModel tok_SpeciesSolverModel nmo_SpeciesSolverModel hown hK hP hD hS 0 rfl rfl 2 (by decide) (hts _ gw_820) (fun _ h9 => h9) rfl (tok_SpeciesSolverModel 2 (by decide)) rfl rfl (Nat.le_of_ble_eq_true rfl) d_SpeciesSolverModel_attempt_38 (fun H locs hP hD hS => ?_)
    replace hP : va_P D vwCl (wd_SpeciesSolverModel_attempt kc ad md_thrown (0 : Int32) md_lines md_n md_species md_above md_trialSize md_foundSize md_foundSpecies md_foundN md_foundCost md_chosen md_low md_many md_ties md_winnerCost md_allMany md_allTies md_faults md_draft md_trial) H := hP
    replace hD : va_D A (wd_SpeciesSolverModel_attempt kc ad md_thrown (0 : Int32) md_lines md_n md_species md_above md_trialSize md_foundSize md_foundSpecies md_foundN md_foundCost md_chosen md_low md_many md_ties md_winnerCost md_allMany md_allTies md_faults md_draft md_trial) := hD
    refine lv_aload_n hx hb d_SpeciesSolverModel_attempt_41 rfl (lv_at hl 0 rfl) ?_
    refine va_get (D := D) (ci := 1) (v := .int md_trialSize) (C := R_SpeciesSolverModel) (T := T_SpeciesSolverModel) (N := 35) hx hb hts inG_SpeciesSolverModel hown hK hP 0 rfl rfl 11 (by decide) (hts _ gw_829) (fun _ h9 => h9) rfl d_SpeciesSolverModel_attempt_42 ?_
    replace hm := Option.some.inj hm; subst hm
    exact zret_i C hP hD hS d_SpeciesSolverModel_attempt_45
  · replace hm := ifF hm c1
    refine lv_aload_n hx hb d_SpeciesSolverModel_attempt_18 rfl (lv_at hl 0 rfl) ?_
    refine va_get (D := D) (ci := 1) (v := .ref (ad 5)) (C := R_SpeciesSolverModel) (T := T_SpeciesSolverModel) (N := 35) hx hb hts inG_SpeciesSolverModel hown hK hP 0 rfl rfl 10 (by decide) (hts _ gw_828) (fun _ h9 => h9) rfl d_SpeciesSolverModel_attempt_19 ?_
    refine lv_iload_n hx hb d_SpeciesSolverModel_attempt_22 rfl (lv_at hl 1 rfl) ?_
    refine lv_aload_n hx hb d_SpeciesSolverModel_attempt_23 rfl (lv_at hl 0 rfl) ?_
    refine va_get (D := D) (ci := 1) (v := .ref (ad 1)) (C := R_SpeciesSolverModel) (T := T_SpeciesSolverModel) (N := 35) hx hb hts inG_SpeciesSolverModel hown hK hP 0 rfl rfl 1 (by decide) (hts _ gw_819) (fun _ h9 => h9) rfl d_SpeciesSolverModel_attempt_24 ?_
    refine lv_iload_n hx hb d_SpeciesSolverModel_attempt_27 rfl (lv_at hl 1 rfl) ?_
    obtain ⟨hi2, hm⟩ := gd_some hm
    refine va_iald hx hb hK hP 1 0 rfl rfl hi2 d_SpeciesSolverModel_attempt_28 ?_
    obtain ⟨hi3, hm⟩ := gd_some hm
    refine va_iast hx hb hK hP hD hS 2 0 rfl rfl hi3 d_SpeciesSolverModel_attempt_29 (fun H locs hP hD hS => ?_)
    replace hP : va_P D vwCl (wd_SpeciesSolverModel_attempt kc ad md_thrown md_drafted md_lines md_n md_species md_above md_trialSize md_foundSize md_foundSpecies md_foundN md_foundCost md_chosen md_low md_many md_ties md_winnerCost md_allMany md_allTies md_faults md_draft (upd md_trial (Int32.toNatClampNeg x1) (md_draft (Int32.toNatClampNeg x1)))) H := hP
    replace hD : va_D A (wd_SpeciesSolverModel_attempt kc ad md_thrown md_drafted md_lines md_n md_species md_above md_trialSize md_foundSize md_foundSpecies md_foundN md_foundCost md_chosen md_low md_many md_ties md_winnerCost md_allMany md_allTies md_faults md_draft (upd md_trial (Int32.toNatClampNeg x1) (md_draft (Int32.toNatClampNeg x1)))) := hD
    refine lv_iinc (v := (x1 + 1)) (lv' := [(1, .int (x1 + 1)), (0, .ref (ad 0))]) hx hb d_SpeciesSolverModel_attempt_30 hl (k := 1) rfl rfl (by decide) rfl (fun ls hl => ?_)
    refine lv_goto (tgt := 10) hx hb d_SpeciesSolverModel_attempt_33 (by decide) ?_
    exact hk10 md_drafted md_trialSize (upd md_trial (Int32.toNatClampNeg x1) (md_draft (Int32.toNatClampNeg x1))) (x1 + 1) _ _ _ hm ⟨hP, hD, hS⟩ (lv_sub hl [1, 0] rfl)
def m_SpeciesSolverModel_attempt_10 (F : Nat) (md_draft : Nat → Int32)  : Nat → Int32 → Int32 → (Nat → Int32) → Int32 → Option (Int32 × Int32 × Int32 × (Nat → Int32))
  | 0 => fun _ _ _ _ => none
  | n + 1 => m_SpeciesSolverModel_attempt_10b F md_draft  (m_SpeciesSolverModel_attempt_10 F md_draft  n)
set_option maxHeartbeats 4000000 in
set_option maxRecDepth 100000 in
theorem lp_SpeciesSolverModel_attempt_10 {r : Int32 × Int32 × Int32 × (Nat → Int32)} {F : Nat} {ad : Nat → Nat} {md_thrown : Int32} {md_lines : Int32} {md_n : Int32} {md_species : Int32} {md_above : Int32} {md_foundSize : Int32} {md_foundSpecies : Int32} {md_foundN : Int32} {md_foundCost : Int32} {md_chosen : Int32} {md_low : Int32} {md_many : Int64} {md_ties : Int64} {md_winnerCost : Int32} {md_allMany : Int64} {md_allTies : Int64} {md_faults : Int32} {md_draft : Nat → Int32}  (C : Cx p s m meth c args A D kc R_SpeciesSolverModel b_SpeciesSolverModel_attempt 2 (some .int))  : ∀ (n : Nat) (md_drafted : Int32) (md_trialSize : Int32) (md_trial : Nat → Int32) (x1 : Int32) (H : Heap) (locs : List Loc) (ls : Array Slot), m_SpeciesSolverModel_attempt_10 F md_draft  n md_drafted md_trialSize md_trial x1 = some r → St D A s (wd_SpeciesSolverModel_attempt kc ad md_thrown md_drafted md_lines md_n md_species md_above md_trialSize md_foundSize md_foundSpecies md_foundN md_foundCost md_chosen md_low md_many md_ties md_winnerCost md_allMany md_allTies md_faults md_draft md_trial) H locs → lv_has ls 2 [(0, .ref (ad 0)), (1, .int x1)] → W p l e rm_SpeciesSolverModel_attempt s m args below meth c H locs 0 0 (MQ below (Qi D A (wd_SpeciesSolverModel_attempt kc ad md_thrown r.2.1 md_lines md_n md_species md_above r.2.2.1 md_foundSize md_foundSpecies md_foundN md_foundCost md_chosen md_low md_many md_ties md_winnerCost md_allMany md_allTies md_faults md_draft r.2.2.2) r.1) args s 0 0 A) (F0 m 10 ls []) := by
  intro n
  induction n with
  | zero => intro md_drafted md_trialSize md_trial x1 H locs ls hm; cases hm
  | succ n ih => intro md_drafted md_trialSize md_trial x1 H locs ls hm hZ hl; exact l_SpeciesSolverModel_attempt_10 C  ih hm hZ hl
def m_SpeciesSolverModel_attempt (F : Nat) (md_draft : Nat → Int32) (md_drafted : Int32) (md_trialSize : Int32) (md_trial : Nat → Int32)  : Option (Int32 × Int32 × Int32 × (Nat → Int32)) :=
  m_SpeciesSolverModel_attempt_10 F md_draft  F md_drafted md_drafted md_trial (0 : Int32)
set_option maxHeartbeats 4000000 in
set_option maxRecDepth 100000 in
theorem e_SpeciesSolverModel_attempt {r : Int32 × Int32 × Int32 × (Nat → Int32)} {F : Nat} {ad : Nat → Nat} {md_thrown : Int32} {md_drafted : Int32} {md_lines : Int32} {md_n : Int32} {md_species : Int32} {md_above : Int32} {md_trialSize : Int32} {md_foundSize : Int32} {md_foundSpecies : Int32} {md_foundN : Int32} {md_foundCost : Int32} {md_chosen : Int32} {md_low : Int32} {md_many : Int64} {md_ties : Int64} {md_winnerCost : Int32} {md_allMany : Int64} {md_allTies : Int64} {md_faults : Int32} {md_draft : Nat → Int32} {md_trial : Nat → Int32}  {H : Heap} {locs : List Loc} {ls : Array Slot} (C : Cx p s m meth c args A D kc R_SpeciesSolverModel b_SpeciesSolverModel_attempt 2 (some .int)) (hm : m_SpeciesSolverModel_attempt F md_draft md_drafted md_trialSize md_trial = some r) (hZ : St D A s (wd_SpeciesSolverModel_attempt kc ad md_thrown md_drafted md_lines md_n md_species md_above md_trialSize md_foundSize md_foundSpecies md_foundN md_foundCost md_chosen md_low md_many md_ties md_winnerCost md_allMany md_allTies md_faults md_draft md_trial) H locs) (hl : lv_has ls 2 [(0, .ref (ad 0))]) : W p l e rm_SpeciesSolverModel_attempt s m args below meth c H locs 0 0 (MQ below (Qi D A (wd_SpeciesSolverModel_attempt kc ad md_thrown r.2.1 md_lines md_n md_species md_above r.2.2.1 md_foundSize md_foundSpecies md_foundN md_foundCost md_chosen md_low md_many md_ties md_winnerCost md_allMany md_allTies md_faults md_draft r.2.2.2) r.1) args s 0 0 A) (F0 m 0 ls []) := by
  obtain ⟨hx, hb, hr, hts, hown, hml, hlocks, hK, hN, hA, hX⟩ := id C
  obtain ⟨hP, hD, hS⟩ := hZ
  unfold m_SpeciesSolverModel_attempt at hm
  refine lv_aload_n hx hb d_SpeciesSolverModel_attempt_0 rfl (lv_at hl 0 rfl) ?_
  refine lv_aload_n hx hb d_SpeciesSolverModel_attempt_1 rfl (lv_at hl 0 rfl) ?_
  refine va_get (D := D) (ci := 1) (v := .int md_drafted) (C := R_SpeciesSolverModel) (T := T_SpeciesSolverModel) (N := 35) hx hb hts inG_SpeciesSolverModel hown hK hP 0 rfl rfl 2 (by decide) (hts _ gw_820) (fun _ h9 => h9) rfl d_SpeciesSolverModel_attempt_2 ?_
  refine va_put (D := D) (ci := 1) (v := .int md_drafted) (ty := .int) (C := R_SpeciesSolverModel) (T := T_SpeciesSolverModel) (N := 35) hx hb hts inG_SpeciesSolverModel ty_SpeciesSolverModel tok_SpeciesSolverModel nmo_SpeciesSolverModel hown hK hP hD hS 0 rfl rfl 11 (by decide) (hts _ gw_829) (fun _ h9 => h9) rfl (tok_SpeciesSolverModel 11 (by decide)) rfl rfl (Nat.le_of_ble_eq_true rfl) d_SpeciesSolverModel_attempt_5 (fun H locs hP hD hS => ?_)
  replace hP : va_P D vwCl (wd_SpeciesSolverModel_attempt kc ad md_thrown md_drafted md_lines md_n md_species md_above md_drafted md_foundSize md_foundSpecies md_foundN md_foundCost md_chosen md_low md_many md_ties md_winnerCost md_allMany md_allTies md_faults md_draft md_trial) H := hP
  replace hD : va_D A (wd_SpeciesSolverModel_attempt kc ad md_thrown md_drafted md_lines md_n md_species md_above md_drafted md_foundSize md_foundSpecies md_foundN md_foundCost md_chosen md_low md_many md_ties md_winnerCost md_allMany md_allTies md_faults md_draft md_trial) := hD
  refine lv_iconst (v := 0) hx hb d_SpeciesSolverModel_attempt_8 (by decide) ?_
  refine lv_istore_n (lv' := [(1, .int (0 : Int32)), (0, .ref (ad 0))]) hx hb d_SpeciesSolverModel_attempt_9 rfl hl (by decide) rfl (fun ls hl => ?_)
  exact lp_SpeciesSolverModel_attempt_10 C  F md_drafted md_drafted md_trial (0 : Int32) _ _ _ hm ⟨hP, hD, hS⟩ (lv_sub hl [1, 0] rfl)
set_option maxHeartbeats 4000000 in
set_option maxRecDepth 100000 in
theorem c_SpeciesSolverModel_attempt {l : Launch} {D : va_G} {kc : Nat → ClassId} {r : Int32 × Int32 × Int32 × (Nat → Int32)} {F : Nat} {ad : Nat → Nat} {md_thrown : Int32} {md_drafted : Int32} {md_lines : Int32} {md_n : Int32} {md_species : Int32} {md_above : Int32} {md_trialSize : Int32} {md_foundSize : Int32} {md_foundSpecies : Int32} {md_foundN : Int32} {md_foundCost : Int32} {md_chosen : Int32} {md_low : Int32} {md_many : Int64} {md_ties : Int64} {md_winnerCost : Int32} {md_allMany : Int64} {md_allTies : Int64} {md_faults : Int32} {md_draft : Nat → Int32} {md_trial : Nat → Int32}  (hm : m_SpeciesSolverModel_attempt F md_draft md_drafted md_trialSize md_trial = some r) (sz : Nat) : Ci l y_SpeciesSolverModel_attempt ws_SpeciesSolverModel_attempt rm_SpeciesSolverModel_attempt D kc sz [.ref (ad 0)] (wd_SpeciesSolverModel_attempt kc ad md_thrown md_drafted md_lines md_n md_species md_above md_trialSize md_foundSize md_foundSpecies md_foundN md_foundCost md_chosen md_low md_many md_ties md_winnerCost md_allMany md_allTies md_faults md_draft md_trial) (wd_SpeciesSolverModel_attempt kc ad md_thrown r.2.1 md_lines md_n md_species md_above r.2.2.1 md_foundSize md_foundSpecies md_foundN md_foundCost md_chosen md_low md_many md_ties md_winnerCost md_allMany md_allTies md_faults md_draft r.2.2.2) r.1 :=
  Cz_of (Qf := fun A => (Qi D A (wd_SpeciesSolverModel_attempt kc ad md_thrown r.2.1 md_lines md_n md_species md_above r.2.2.1 md_foundSize md_foundSpecies md_foundN md_foundCost md_chosen md_low md_many md_ties md_winnerCost md_allMany md_allTies md_faults md_draft r.2.2.2) r.1)) (cc := b_SpeciesSolverModel_attempt) (maxL := 2) (ret := (some .int)) (by decide) rfl rfl (fun C hZ hl => e_SpeciesSolverModel_attempt C hm hZ hl)
abbrev b_SpeciesSolverModel_drop : ByteArray := prog_9_method_6_code
abbrev y_SpeciesSolverModel_drop : MethodName := ⟨"SpeciesSolverModel", "drop", "()Z"⟩
theorem d_SpeciesSolverModel_drop_0 : decode b_SpeciesSolverModel_drop 0 = .ok (.aload_n 0, 1) := by decide +kernel
theorem d_SpeciesSolverModel_drop_1 : decode b_SpeciesSolverModel_drop 1 = .ok (.getfield 78, 3) := by decide +kernel
theorem d_SpeciesSolverModel_drop_4 : decode b_SpeciesSolverModel_drop 4 = .ok (.ifCond .le 7, 3) := by decide +kernel
theorem d_SpeciesSolverModel_drop_7 : decode b_SpeciesSolverModel_drop 7 = .ok (.iconst 1, 1) := by decide +kernel
theorem d_SpeciesSolverModel_drop_8 : decode b_SpeciesSolverModel_drop 8 = .ok (.goto 4, 3) := by decide +kernel
theorem d_SpeciesSolverModel_drop_11 : decode b_SpeciesSolverModel_drop 11 = .ok (.iconst 0, 1) := by decide +kernel
theorem d_SpeciesSolverModel_drop_12 : decode b_SpeciesSolverModel_drop 12 = .ok (.istore_n 1, 1) := by decide +kernel
theorem d_SpeciesSolverModel_drop_13 : decode b_SpeciesSolverModel_drop 13 = .ok (.aload_n 0, 1) := by decide +kernel
theorem d_SpeciesSolverModel_drop_14 : decode b_SpeciesSolverModel_drop 14 = .ok (.dup, 1) := by decide +kernel
theorem d_SpeciesSolverModel_drop_15 : decode b_SpeciesSolverModel_drop 15 = .ok (.getfield 78, 3) := by decide +kernel
theorem d_SpeciesSolverModel_drop_18 : decode b_SpeciesSolverModel_drop 18 = .ok (.iload_n 1, 1) := by decide +kernel
theorem d_SpeciesSolverModel_drop_19 : decode b_SpeciesSolverModel_drop 19 = .ok (.ifCond .eq 7, 3) := by decide +kernel
theorem d_SpeciesSolverModel_drop_22 : decode b_SpeciesSolverModel_drop 22 = .ok (.iconst 1, 1) := by decide +kernel
theorem d_SpeciesSolverModel_drop_23 : decode b_SpeciesSolverModel_drop 23 = .ok (.goto 4, 3) := by decide +kernel
theorem d_SpeciesSolverModel_drop_26 : decode b_SpeciesSolverModel_drop 26 = .ok (.iconst 0, 1) := by decide +kernel
theorem d_SpeciesSolverModel_drop_27 : decode b_SpeciesSolverModel_drop 27 = .ok (.isub, 1) := by decide +kernel
theorem d_SpeciesSolverModel_drop_28 : decode b_SpeciesSolverModel_drop 28 = .ok (.putfield 78, 3) := by decide +kernel
theorem d_SpeciesSolverModel_drop_31 : decode b_SpeciesSolverModel_drop 31 = .ok (.aload_n 0, 1) := by decide +kernel
theorem d_SpeciesSolverModel_drop_32 : decode b_SpeciesSolverModel_drop 32 = .ok (.aload_n 0, 1) := by decide +kernel
theorem d_SpeciesSolverModel_drop_33 : decode b_SpeciesSolverModel_drop 33 = .ok (.getfield 78, 3) := by decide +kernel
theorem d_SpeciesSolverModel_drop_36 : decode b_SpeciesSolverModel_drop 36 = .ok (.ifCond .ne 7, 3) := by decide +kernel
theorem d_SpeciesSolverModel_drop_39 : decode b_SpeciesSolverModel_drop 39 = .ok (.iconst 0, 1) := by decide +kernel
theorem d_SpeciesSolverModel_drop_40 : decode b_SpeciesSolverModel_drop 40 = .ok (.goto 7, 3) := by decide +kernel
theorem d_SpeciesSolverModel_drop_43 : decode b_SpeciesSolverModel_drop 43 = .ok (.aload_n 0, 1) := by decide +kernel
theorem d_SpeciesSolverModel_drop_44 : decode b_SpeciesSolverModel_drop 44 = .ok (.getfield 81, 3) := by decide +kernel
theorem d_SpeciesSolverModel_drop_47 : decode b_SpeciesSolverModel_drop 47 = .ok (.putfield 81, 3) := by decide +kernel
theorem d_SpeciesSolverModel_drop_50 : decode b_SpeciesSolverModel_drop 50 = .ok (.iload_n 1, 1) := by decide +kernel
theorem d_SpeciesSolverModel_drop_51 : decode b_SpeciesSolverModel_drop 51 = .ok (.ireturn, 1) := by decide +kernel
abbrev wd_SpeciesSolverModel_drop (kc : Nat → ClassId) (ad : Nat → Nat) (md_thrown : Int32) (md_drafted : Int32) (md_lines : Int32) (md_n : Int32) (md_species : Int32) (md_above : Int32) (md_trialSize : Int32) (md_foundSize : Int32) (md_foundSpecies : Int32) (md_foundN : Int32) (md_foundCost : Int32) (md_chosen : Int32) (md_low : Int32) (md_many : Int64) (md_ties : Int64) (md_winnerCost : Int32) (md_allMany : Int64) (md_allTies : Int64) (md_faults : Int32) : va_W := [((ad 0), .inr (1, [.int md_thrown, .ref (ad 1), .int md_drafted, .ref (ad 2), .int md_lines, .int md_n, .int md_species, .int md_above, .ref (ad 3), .ref (ad 4), .ref (ad 5), .int md_trialSize, .ref (ad 6), .int md_foundSize, .int md_foundSpecies, .int md_foundN, .int md_foundCost, .ref (ad 7), .int md_chosen, .ref (ad 8), .ref (ad 9), .ref (ad 10), .int md_low, .long md_many, .long md_ties, .ref (ad 11), .ref (ad 12), .int md_winnerCost, .long md_allMany, .long md_allTies, .ref (ad 13), .ref (ad 14), .ref (ad 15), .ref (ad 16), .int md_faults]))]
abbrev rm_SpeciesSolverModel_drop : Room := { frames := 0, cells := 0, slots := 0, locals := 0 }
abbrev cw_SpeciesSolverModel_drop : Cond := .code y_SpeciesSolverModel_drop b_SpeciesSolverModel_drop 2 (some .boolean)
abbrev ws_SpeciesSolverModel_drop : List Cond := cw_SpeciesSolverModel_drop :: GW
theorem hd_SpeciesSolverModel_drop : y_SpeciesSolverModel_drop.cls ≠ "java/lang/invoke/MethodHandle" ∧ y_SpeciesSolverModel_drop.cls ≠ "java/lang/invoke/VarHandle" ∧ (parseMethodDescriptor y_SpeciesSolverModel_drop.desc).map (fun d => d.parameters.length) = some 0 := by decide +kernel
def m_SpeciesSolverModel_drop_27   (md_lines : Int32) (md_n : Int32) (x1 : Int32) (t1 : Int32) (t2 : Int32) : Option (Int32 × Int32 × Int32) :=
  (if (t1 - t2) = (0 : Int32) then
    (gb x1 (some (x1, (t1 - t2), (0 : Int32))))
  else
    (gb x1 (some (x1, (t1 - t2), md_n))))
set_option maxHeartbeats 4000000 in
set_option maxRecDepth 100000 in
theorem l_SpeciesSolverModel_drop_27 {r : Int32 × Int32 × Int32} {ad : Nat → Nat} {md_thrown : Int32} {md_drafted : Int32} {md_lines : Int32} {md_n : Int32} {md_species : Int32} {md_above : Int32} {md_trialSize : Int32} {md_foundSize : Int32} {md_foundSpecies : Int32} {md_foundN : Int32} {md_foundCost : Int32} {md_chosen : Int32} {md_low : Int32} {md_many : Int64} {md_ties : Int64} {md_winnerCost : Int32} {md_allMany : Int64} {md_allTies : Int64} {md_faults : Int32}  {x1 : Int32} {t1 : Int32} {t2 : Int32} {H : Heap} {locs : List Loc} {ls : Array Slot} (C : Cx p s m meth c args A D kc R_SpeciesSolverModel b_SpeciesSolverModel_drop 2 (some .boolean))  (hm : m_SpeciesSolverModel_drop_27   md_lines md_n x1 t1 t2 = some r) (hZ : St D A s (wd_SpeciesSolverModel_drop kc ad md_thrown md_drafted md_lines md_n md_species md_above md_trialSize md_foundSize md_foundSpecies md_foundN md_foundCost md_chosen md_low md_many md_ties md_winnerCost md_allMany md_allTies md_faults) H locs) (hl : lv_has ls 2 [(0, .ref (ad 0)), (1, .int x1)]) : W p l e rm_SpeciesSolverModel_drop s m args below meth c H locs 0 0 (MQ below (Qi D A (wd_SpeciesSolverModel_drop kc ad md_thrown md_drafted r.2.1 r.2.2 md_species md_above md_trialSize md_foundSize md_foundSpecies md_foundN md_foundCost md_chosen md_low md_many md_ties md_winnerCost md_allMany md_allTies md_faults) r.1) args s 0 0 A) (F0 m 27 ls [.int t2, .int t1, .ref (ad 0)]) := by
  obtain ⟨hx, hb, hr, hts, hown, hml, hlocks, hK, hN, hA, hX⟩ := id C
  obtain ⟨hP, hD, hS⟩ := hZ
  unfold m_SpeciesSolverModel_drop_27 at hm
  refine lv_isub hx hb d_SpeciesSolverModel_drop_27 ?_
  refine va_put (D := D) (ci := 1) (v := .int (t1 - t2)) (ty := .int) (C := R_SpeciesSolverModel) (T := T_SpeciesSolverModel) (N := 35) hx hb hts inG_SpeciesSolverModel ty_SpeciesSolverModel tok_SpeciesSolverModel nmo_SpeciesSolverModel hown hK hP hD hS 0 rfl rfl 4 (by decide) (hts _ gw_822) (fun _ h9 => h9) rfl (tok_SpeciesSolverModel 4 (by decide)) rfl rfl (Nat.le_of_ble_eq_true rfl) d_SpeciesSolverModel_drop_28 (fun H locs hP hD hS => ?_)
  replace hP : va_P D vwCl (wd_SpeciesSolverModel_drop kc ad md_thrown md_drafted (t1 - t2) md_n md_species md_above md_trialSize md_foundSize md_foundSpecies md_foundN md_foundCost md_chosen md_low md_many md_ties md_winnerCost md_allMany md_allTies md_faults) H := hP
  replace hD : va_D A (wd_SpeciesSolverModel_drop kc ad md_thrown md_drafted (t1 - t2) md_n md_species md_above md_trialSize md_foundSize md_foundSpecies md_foundN md_foundCost md_chosen md_low md_many md_ties md_winnerCost md_allMany md_allTies md_faults) := hD
  refine lv_aload_n hx hb d_SpeciesSolverModel_drop_31 rfl (lv_at hl 0 rfl) ?_
  refine lv_aload_n hx hb d_SpeciesSolverModel_drop_32 rfl (lv_at hl 0 rfl) ?_
  refine va_get (D := D) (ci := 1) (v := .int (t1 - t2)) (C := R_SpeciesSolverModel) (T := T_SpeciesSolverModel) (N := 35) hx hb hts inG_SpeciesSolverModel hown hK hP 0 rfl rfl 4 (by decide) (hts _ gw_822) (fun _ h9 => h9) rfl d_SpeciesSolverModel_drop_33 ?_
  refine lv_if_ne (tgt := 43) hx hb d_SpeciesSolverModel_drop_36 (by decide) (fun c1 => ?_) (fun c1 => ?_)
  · replace hm := ifF hm c1
    refine lv_aload_n hx hb d_SpeciesSolverModel_drop_43 rfl (lv_at hl 0 rfl) ?_
    refine va_get (D := D) (ci := 1) (v := .int md_n) (C := R_SpeciesSolverModel) (T := T_SpeciesSolverModel) (N := 35) hx hb hts inG_SpeciesSolverModel hown hK hP 0 rfl rfl 5 (by decide) (hts _ gw_823) (fun _ h9 => h9) rfl d_SpeciesSolverModel_drop_44 ?_
    refine va_put (D := D) (ci := 1) (v := .int md_n) (ty := .int) (C := R_SpeciesSolverModel) (T := T_SpeciesSolverModel) (N := 35) hx hb hts inG_SpeciesSolverModel ty_SpeciesSolverModel tok_SpeciesSolverModel nmo_SpeciesSolverModel hown hK hP hD hS 0 rfl rfl 5 (by decide) (hts _ gw_823) (fun _ h9 => h9) rfl (tok_SpeciesSolverModel 5 (by decide)) rfl rfl (Nat.le_of_ble_eq_true rfl) d_SpeciesSolverModel_drop_47 (fun H locs hP hD hS => ?_)
    replace hP : va_P D vwCl (wd_SpeciesSolverModel_drop kc ad md_thrown md_drafted (t1 - t2) md_n md_species md_above md_trialSize md_foundSize md_foundSpecies md_foundN md_foundCost md_chosen md_low md_many md_ties md_winnerCost md_allMany md_allTies md_faults) H := hP
    replace hD : va_D A (wd_SpeciesSolverModel_drop kc ad md_thrown md_drafted (t1 - t2) md_n md_species md_above md_trialSize md_foundSize md_foundSpecies md_foundN md_foundCost md_chosen md_low md_many md_ties md_winnerCost md_allMany md_allTies md_faults) := hD
    refine lv_iload_n hx hb d_SpeciesSolverModel_drop_50 rfl (lv_at hl 1 rfl) ?_
    obtain ⟨hz2, hm⟩ := gb_some hm
    replace hm := Option.some.inj hm; subst hm
    exact zret_z (v := x1) C hP hD hS (gb_nar hz2) d_SpeciesSolverModel_drop_51
  · replace hm := ifT hm c1
    refine lv_iconst (v := 0) hx hb d_SpeciesSolverModel_drop_39 (by decide) ?_
    refine lv_goto (tgt := 47) hx hb d_SpeciesSolverModel_drop_40 (by decide) ?_
    refine va_put (D := D) (ci := 1) (v := .int (0 : Int32)) (ty := .int) (C := R_SpeciesSolverModel) (T := T_SpeciesSolverModel) (N := 35) hx hb hts inG_SpeciesSolverModel ty_SpeciesSolverModel tok_SpeciesSolverModel nmo_SpeciesSolverModel hown hK hP hD hS 0 rfl rfl 5 (by decide) (hts _ gw_823) (fun _ h9 => h9) rfl (tok_SpeciesSolverModel 5 (by decide)) rfl rfl (Nat.le_of_ble_eq_true rfl) d_SpeciesSolverModel_drop_47 (fun H locs hP hD hS => ?_)
    replace hP : va_P D vwCl (wd_SpeciesSolverModel_drop kc ad md_thrown md_drafted (t1 - t2) (0 : Int32) md_species md_above md_trialSize md_foundSize md_foundSpecies md_foundN md_foundCost md_chosen md_low md_many md_ties md_winnerCost md_allMany md_allTies md_faults) H := hP
    replace hD : va_D A (wd_SpeciesSolverModel_drop kc ad md_thrown md_drafted (t1 - t2) (0 : Int32) md_species md_above md_trialSize md_foundSize md_foundSpecies md_foundN md_foundCost md_chosen md_low md_many md_ties md_winnerCost md_allMany md_allTies md_faults) := hD
    refine lv_iload_n hx hb d_SpeciesSolverModel_drop_50 rfl (lv_at hl 1 rfl) ?_
    obtain ⟨hz3, hm⟩ := gb_some hm
    replace hm := Option.some.inj hm; subst hm
    exact zret_z (v := x1) C hP hD hS (gb_nar hz3) d_SpeciesSolverModel_drop_51
def m_SpeciesSolverModel_drop_12   (md_lines : Int32) (md_n : Int32) (t0 : Int32) : Option (Int32 × Int32 × Int32) :=
  (if t0 = (0 : Int32) then
    m_SpeciesSolverModel_drop_27   md_lines md_n t0 md_lines (0 : Int32)
  else
    m_SpeciesSolverModel_drop_27   md_lines md_n t0 md_lines (1 : Int32))
set_option maxHeartbeats 4000000 in
set_option maxRecDepth 100000 in
theorem l_SpeciesSolverModel_drop_12 {r : Int32 × Int32 × Int32} {ad : Nat → Nat} {md_thrown : Int32} {md_drafted : Int32} {md_lines : Int32} {md_n : Int32} {md_species : Int32} {md_above : Int32} {md_trialSize : Int32} {md_foundSize : Int32} {md_foundSpecies : Int32} {md_foundN : Int32} {md_foundCost : Int32} {md_chosen : Int32} {md_low : Int32} {md_many : Int64} {md_ties : Int64} {md_winnerCost : Int32} {md_allMany : Int64} {md_allTies : Int64} {md_faults : Int32}  {t0 : Int32} {H : Heap} {locs : List Loc} {ls : Array Slot} (C : Cx p s m meth c args A D kc R_SpeciesSolverModel b_SpeciesSolverModel_drop 2 (some .boolean))  (hm : m_SpeciesSolverModel_drop_12   md_lines md_n t0 = some r) (hZ : St D A s (wd_SpeciesSolverModel_drop kc ad md_thrown md_drafted md_lines md_n md_species md_above md_trialSize md_foundSize md_foundSpecies md_foundN md_foundCost md_chosen md_low md_many md_ties md_winnerCost md_allMany md_allTies md_faults) H locs) (hl : lv_has ls 2 [(0, .ref (ad 0))]) : W p l e rm_SpeciesSolverModel_drop s m args below meth c H locs 0 0 (MQ below (Qi D A (wd_SpeciesSolverModel_drop kc ad md_thrown md_drafted r.2.1 r.2.2 md_species md_above md_trialSize md_foundSize md_foundSpecies md_foundN md_foundCost md_chosen md_low md_many md_ties md_winnerCost md_allMany md_allTies md_faults) r.1) args s 0 0 A) (F0 m 12 ls [.int t0]) := by
  obtain ⟨hx, hb, hr, hts, hown, hml, hlocks, hK, hN, hA, hX⟩ := id C
  obtain ⟨hP, hD, hS⟩ := hZ
  unfold m_SpeciesSolverModel_drop_12 at hm
  refine lv_istore_n (lv' := [(1, .int t0), (0, .ref (ad 0))]) hx hb d_SpeciesSolverModel_drop_12 rfl hl (by decide) rfl (fun ls hl => ?_)
  refine lv_aload_n hx hb d_SpeciesSolverModel_drop_13 rfl (lv_at hl 1 rfl) ?_
  refine lv_dup hx hb d_SpeciesSolverModel_drop_14 rfl ?_
  refine va_get (D := D) (ci := 1) (v := .int md_lines) (C := R_SpeciesSolverModel) (T := T_SpeciesSolverModel) (N := 35) hx hb hts inG_SpeciesSolverModel hown hK hP 0 rfl rfl 4 (by decide) (hts _ gw_822) (fun _ h9 => h9) rfl d_SpeciesSolverModel_drop_15 ?_
  refine lv_iload_n hx hb d_SpeciesSolverModel_drop_18 rfl (lv_at hl 0 rfl) ?_
  refine lv_if_eq (tgt := 26) hx hb d_SpeciesSolverModel_drop_19 (by decide) (fun c1 => ?_) (fun c1 => ?_)
  · replace hm := ifT hm c1
    refine lv_iconst (v := 0) hx hb d_SpeciesSolverModel_drop_26 (by decide) ?_
    exact l_SpeciesSolverModel_drop_27 C  hm ⟨hP, hD, hS⟩ (lv_sub hl [1, 0] rfl)
  · replace hm := ifF hm c1
    refine lv_iconst (v := 1) hx hb d_SpeciesSolverModel_drop_22 (by decide) ?_
    refine lv_goto (tgt := 27) hx hb d_SpeciesSolverModel_drop_23 (by decide) ?_
    exact l_SpeciesSolverModel_drop_27 C  hm ⟨hP, hD, hS⟩ (lv_sub hl [1, 0] rfl)
def m_SpeciesSolverModel_drop  (md_lines : Int32) (md_n : Int32)  : Option (Int32 × Int32 × Int32) :=
  (if md_lines ≤ (0 : Int32) then
    m_SpeciesSolverModel_drop_12   md_lines md_n (0 : Int32)
  else
    m_SpeciesSolverModel_drop_12   md_lines md_n (1 : Int32))
set_option maxHeartbeats 4000000 in
set_option maxRecDepth 100000 in
theorem e_SpeciesSolverModel_drop {r : Int32 × Int32 × Int32} {ad : Nat → Nat} {md_thrown : Int32} {md_drafted : Int32} {md_lines : Int32} {md_n : Int32} {md_species : Int32} {md_above : Int32} {md_trialSize : Int32} {md_foundSize : Int32} {md_foundSpecies : Int32} {md_foundN : Int32} {md_foundCost : Int32} {md_chosen : Int32} {md_low : Int32} {md_many : Int64} {md_ties : Int64} {md_winnerCost : Int32} {md_allMany : Int64} {md_allTies : Int64} {md_faults : Int32}  {H : Heap} {locs : List Loc} {ls : Array Slot} (C : Cx p s m meth c args A D kc R_SpeciesSolverModel b_SpeciesSolverModel_drop 2 (some .boolean)) (hm : m_SpeciesSolverModel_drop  md_lines md_n = some r) (hZ : St D A s (wd_SpeciesSolverModel_drop kc ad md_thrown md_drafted md_lines md_n md_species md_above md_trialSize md_foundSize md_foundSpecies md_foundN md_foundCost md_chosen md_low md_many md_ties md_winnerCost md_allMany md_allTies md_faults) H locs) (hl : lv_has ls 2 [(0, .ref (ad 0))]) : W p l e rm_SpeciesSolverModel_drop s m args below meth c H locs 0 0 (MQ below (Qi D A (wd_SpeciesSolverModel_drop kc ad md_thrown md_drafted r.2.1 r.2.2 md_species md_above md_trialSize md_foundSize md_foundSpecies md_foundN md_foundCost md_chosen md_low md_many md_ties md_winnerCost md_allMany md_allTies md_faults) r.1) args s 0 0 A) (F0 m 0 ls []) := by
  obtain ⟨hx, hb, hr, hts, hown, hml, hlocks, hK, hN, hA, hX⟩ := id C
  obtain ⟨hP, hD, hS⟩ := hZ
  unfold m_SpeciesSolverModel_drop at hm
  refine lv_aload_n hx hb d_SpeciesSolverModel_drop_0 rfl (lv_at hl 0 rfl) ?_
  refine va_get (D := D) (ci := 1) (v := .int md_lines) (C := R_SpeciesSolverModel) (T := T_SpeciesSolverModel) (N := 35) hx hb hts inG_SpeciesSolverModel hown hK hP 0 rfl rfl 4 (by decide) (hts _ gw_822) (fun _ h9 => h9) rfl d_SpeciesSolverModel_drop_1 ?_
  refine lv_if_le (tgt := 11) hx hb d_SpeciesSolverModel_drop_4 (by decide) (fun c1 => ?_) (fun c1 => ?_)
  · replace hm := ifT hm c1
    refine lv_iconst (v := 0) hx hb d_SpeciesSolverModel_drop_11 (by decide) ?_
    exact l_SpeciesSolverModel_drop_12 C  hm ⟨hP, hD, hS⟩ (lv_sub hl [0] rfl)
  · replace hm := ifF hm c1
    refine lv_iconst (v := 1) hx hb d_SpeciesSolverModel_drop_7 (by decide) ?_
    refine lv_goto (tgt := 12) hx hb d_SpeciesSolverModel_drop_8 (by decide) ?_
    exact l_SpeciesSolverModel_drop_12 C  hm ⟨hP, hD, hS⟩ (lv_sub hl [0] rfl)
set_option maxHeartbeats 4000000 in
set_option maxRecDepth 100000 in
theorem c_SpeciesSolverModel_drop {l : Launch} {D : va_G} {kc : Nat → ClassId} {r : Int32 × Int32 × Int32} {ad : Nat → Nat} {md_thrown : Int32} {md_drafted : Int32} {md_lines : Int32} {md_n : Int32} {md_species : Int32} {md_above : Int32} {md_trialSize : Int32} {md_foundSize : Int32} {md_foundSpecies : Int32} {md_foundN : Int32} {md_foundCost : Int32} {md_chosen : Int32} {md_low : Int32} {md_many : Int64} {md_ties : Int64} {md_winnerCost : Int32} {md_allMany : Int64} {md_allTies : Int64} {md_faults : Int32}  (hm : m_SpeciesSolverModel_drop  md_lines md_n = some r) (sz : Nat) : Ci l y_SpeciesSolverModel_drop ws_SpeciesSolverModel_drop rm_SpeciesSolverModel_drop D kc sz [.ref (ad 0)] (wd_SpeciesSolverModel_drop kc ad md_thrown md_drafted md_lines md_n md_species md_above md_trialSize md_foundSize md_foundSpecies md_foundN md_foundCost md_chosen md_low md_many md_ties md_winnerCost md_allMany md_allTies md_faults) (wd_SpeciesSolverModel_drop kc ad md_thrown md_drafted r.2.1 r.2.2 md_species md_above md_trialSize md_foundSize md_foundSpecies md_foundN md_foundCost md_chosen md_low md_many md_ties md_winnerCost md_allMany md_allTies md_faults) r.1 :=
  Cz_of (Qf := fun A => (Qi D A (wd_SpeciesSolverModel_drop kc ad md_thrown md_drafted r.2.1 r.2.2 md_species md_above md_trialSize md_foundSize md_foundSpecies md_foundN md_foundCost md_chosen md_low md_many md_ties md_winnerCost md_allMany md_allTies md_faults) r.1)) (cc := b_SpeciesSolverModel_drop) (maxL := 2) (ret := (some .boolean)) (by decide) rfl rfl (fun C hZ hl => e_SpeciesSolverModel_drop C hm hZ hl)
abbrev b_SpeciesSolverModel_species : ByteArray := prog_9_method_7_code
abbrev y_SpeciesSolverModel_species : MethodName := ⟨"SpeciesSolverModel", "species", "(IZ)Z"⟩
theorem d_SpeciesSolverModel_species_0 : decode b_SpeciesSolverModel_species 0 = .ok (.iload_n 1, 1) := by decide +kernel
theorem d_SpeciesSolverModel_species_1 : decode b_SpeciesSolverModel_species 1 = .ok (.iconst 1, 1) := by decide +kernel
theorem d_SpeciesSolverModel_species_2 : decode b_SpeciesSolverModel_species 2 = .ok (.if_icmp .eq 13, 3) := by decide +kernel
theorem d_SpeciesSolverModel_species_5 : decode b_SpeciesSolverModel_species 5 = .ok (.iload_n 1, 1) := by decide +kernel
theorem d_SpeciesSolverModel_species_6 : decode b_SpeciesSolverModel_species 6 = .ok (.iconst 2, 1) := by decide +kernel
theorem d_SpeciesSolverModel_species_7 : decode b_SpeciesSolverModel_species 7 = .ok (.if_icmp .eq 8, 3) := by decide +kernel
theorem d_SpeciesSolverModel_species_10 : decode b_SpeciesSolverModel_species 10 = .ok (.iload_n 1, 1) := by decide +kernel
theorem d_SpeciesSolverModel_species_11 : decode b_SpeciesSolverModel_species 11 = .ok (.iconst 4, 1) := by decide +kernel
theorem d_SpeciesSolverModel_species_12 : decode b_SpeciesSolverModel_species 12 = .ok (.if_icmp .ne 7, 3) := by decide +kernel
theorem d_SpeciesSolverModel_species_15 : decode b_SpeciesSolverModel_species 15 = .ok (.iconst 1, 1) := by decide +kernel
theorem d_SpeciesSolverModel_species_16 : decode b_SpeciesSolverModel_species 16 = .ok (.goto 4, 3) := by decide +kernel
theorem d_SpeciesSolverModel_species_19 : decode b_SpeciesSolverModel_species 19 = .ok (.iconst 0, 1) := by decide +kernel
theorem d_SpeciesSolverModel_species_20 : decode b_SpeciesSolverModel_species 20 = .ok (.istore_n 3, 1) := by decide +kernel
theorem d_SpeciesSolverModel_species_21 : decode b_SpeciesSolverModel_species 21 = .ok (.iload_n 3, 1) := by decide +kernel
theorem d_SpeciesSolverModel_species_22 : decode b_SpeciesSolverModel_species 22 = .ok (.ifCond .eq 13, 3) := by decide +kernel
theorem d_SpeciesSolverModel_species_25 : decode b_SpeciesSolverModel_species 25 = .ok (.aload_n 0, 1) := by decide +kernel
theorem d_SpeciesSolverModel_species_26 : decode b_SpeciesSolverModel_species 26 = .ok (.iload_n 1, 1) := by decide +kernel
theorem d_SpeciesSolverModel_species_27 : decode b_SpeciesSolverModel_species 27 = .ok (.putfield 16, 3) := by decide +kernel
theorem d_SpeciesSolverModel_species_30 : decode b_SpeciesSolverModel_species 30 = .ok (.aload_n 0, 1) := by decide +kernel
theorem d_SpeciesSolverModel_species_31 : decode b_SpeciesSolverModel_species 31 = .ok (.iload_n 2, 1) := by decide +kernel
theorem d_SpeciesSolverModel_species_32 : decode b_SpeciesSolverModel_species 32 = .ok (.putfield 20, 3) := by decide +kernel
theorem d_SpeciesSolverModel_species_35 : decode b_SpeciesSolverModel_species 35 = .ok (.iload_n 3, 1) := by decide +kernel
theorem d_SpeciesSolverModel_species_36 : decode b_SpeciesSolverModel_species 36 = .ok (.ireturn, 1) := by decide +kernel
abbrev wd_SpeciesSolverModel_species (kc : Nat → ClassId) (ad : Nat → Nat) (md_thrown : Int32) (md_drafted : Int32) (md_lines : Int32) (md_n : Int32) (md_species : Int32) (md_above : Int32) (md_trialSize : Int32) (md_foundSize : Int32) (md_foundSpecies : Int32) (md_foundN : Int32) (md_foundCost : Int32) (md_chosen : Int32) (md_low : Int32) (md_many : Int64) (md_ties : Int64) (md_winnerCost : Int32) (md_allMany : Int64) (md_allTies : Int64) (md_faults : Int32) : va_W := [((ad 0), .inr (1, [.int md_thrown, .ref (ad 1), .int md_drafted, .ref (ad 2), .int md_lines, .int md_n, .int md_species, .int md_above, .ref (ad 3), .ref (ad 4), .ref (ad 5), .int md_trialSize, .ref (ad 6), .int md_foundSize, .int md_foundSpecies, .int md_foundN, .int md_foundCost, .ref (ad 7), .int md_chosen, .ref (ad 8), .ref (ad 9), .ref (ad 10), .int md_low, .long md_many, .long md_ties, .ref (ad 11), .ref (ad 12), .int md_winnerCost, .long md_allMany, .long md_allTies, .ref (ad 13), .ref (ad 14), .ref (ad 15), .ref (ad 16), .int md_faults]))]
abbrev rm_SpeciesSolverModel_species : Room := { frames := 0, cells := 0, slots := 0, locals := 0 }
abbrev cw_SpeciesSolverModel_species : Cond := .code y_SpeciesSolverModel_species b_SpeciesSolverModel_species 4 (some .boolean)
abbrev ws_SpeciesSolverModel_species : List Cond := cw_SpeciesSolverModel_species :: GW
theorem hd_SpeciesSolverModel_species : y_SpeciesSolverModel_species.cls ≠ "java/lang/invoke/MethodHandle" ∧ y_SpeciesSolverModel_species.cls ≠ "java/lang/invoke/VarHandle" ∧ (parseMethodDescriptor y_SpeciesSolverModel_species.desc).map (fun d => d.parameters.length) = some 2 := by decide +kernel
def m_SpeciesSolverModel_species_20   (md_species : Int32) (md_above : Int32) (x1 : Int32) (x2 : Int32) (t0 : Int32) : Option (Int32 × Int32 × Int32) :=
  (if t0 = (0 : Int32) then
    (gb t0 (some (t0, md_species, md_above)))
  else
    (gb x2 (gb t0 (some (t0, x1, x2)))))
set_option maxHeartbeats 4000000 in
set_option maxRecDepth 100000 in
theorem l_SpeciesSolverModel_species_20 {r : Int32 × Int32 × Int32} {ad : Nat → Nat} {md_thrown : Int32} {md_drafted : Int32} {md_lines : Int32} {md_n : Int32} {md_species : Int32} {md_above : Int32} {md_trialSize : Int32} {md_foundSize : Int32} {md_foundSpecies : Int32} {md_foundN : Int32} {md_foundCost : Int32} {md_chosen : Int32} {md_low : Int32} {md_many : Int64} {md_ties : Int64} {md_winnerCost : Int32} {md_allMany : Int64} {md_allTies : Int64} {md_faults : Int32}  {x1 : Int32} {x2 : Int32} {t0 : Int32} {H : Heap} {locs : List Loc} {ls : Array Slot} (C : Cx p s m meth c args A D kc R_SpeciesSolverModel b_SpeciesSolverModel_species 4 (some .boolean))  (hm : m_SpeciesSolverModel_species_20   md_species md_above x1 x2 t0 = some r) (hZ : St D A s (wd_SpeciesSolverModel_species kc ad md_thrown md_drafted md_lines md_n md_species md_above md_trialSize md_foundSize md_foundSpecies md_foundN md_foundCost md_chosen md_low md_many md_ties md_winnerCost md_allMany md_allTies md_faults) H locs) (hl : lv_has ls 4 [(0, .ref (ad 0)), (1, .int x1), (2, .int x2)]) : W p l e rm_SpeciesSolverModel_species s m args below meth c H locs 0 0 (MQ below (Qi D A (wd_SpeciesSolverModel_species kc ad md_thrown md_drafted md_lines md_n r.2.1 r.2.2 md_trialSize md_foundSize md_foundSpecies md_foundN md_foundCost md_chosen md_low md_many md_ties md_winnerCost md_allMany md_allTies md_faults) r.1) args s 0 0 A) (F0 m 20 ls [.int t0]) := by
  obtain ⟨hx, hb, hr, hts, hown, hml, hlocks, hK, hN, hA, hX⟩ := id C
  obtain ⟨hP, hD, hS⟩ := hZ
  unfold m_SpeciesSolverModel_species_20 at hm
  refine lv_istore_n (lv' := [(3, .int t0), (0, .ref (ad 0)), (1, .int x1), (2, .int x2)]) hx hb d_SpeciesSolverModel_species_20 rfl hl (by decide) rfl (fun ls hl => ?_)
  refine lv_iload_n hx hb d_SpeciesSolverModel_species_21 rfl (lv_at hl 0 rfl) ?_
  refine lv_if_eq (tgt := 35) hx hb d_SpeciesSolverModel_species_22 (by decide) (fun c1 => ?_) (fun c1 => ?_)
  · replace hm := ifT hm c1
    refine lv_iload_n hx hb d_SpeciesSolverModel_species_35 rfl (lv_at hl 0 rfl) ?_
    obtain ⟨hz2, hm⟩ := gb_some hm
    replace hm := Option.some.inj hm; subst hm
    exact zret_z (v := t0) C hP hD hS (gb_nar hz2) d_SpeciesSolverModel_species_36
  · replace hm := ifF hm c1
    refine lv_aload_n hx hb d_SpeciesSolverModel_species_25 rfl (lv_at hl 1 rfl) ?_
    refine lv_iload_n hx hb d_SpeciesSolverModel_species_26 rfl (lv_at hl 2 rfl) ?_
    refine va_put (D := D) (ci := 1) (v := .int x1) (ty := .int) (C := R_SpeciesSolverModel) (T := T_SpeciesSolverModel) (N := 35) hx hb hts inG_SpeciesSolverModel ty_SpeciesSolverModel tok_SpeciesSolverModel nmo_SpeciesSolverModel hown hK hP hD hS 0 rfl rfl 6 (by decide) (hts _ gw_824) (fun _ h9 => h9) rfl (tok_SpeciesSolverModel 6 (by decide)) rfl rfl (Nat.le_of_ble_eq_true rfl) d_SpeciesSolverModel_species_27 (fun H locs hP hD hS => ?_)
    replace hP : va_P D vwCl (wd_SpeciesSolverModel_species kc ad md_thrown md_drafted md_lines md_n x1 md_above md_trialSize md_foundSize md_foundSpecies md_foundN md_foundCost md_chosen md_low md_many md_ties md_winnerCost md_allMany md_allTies md_faults) H := hP
    replace hD : va_D A (wd_SpeciesSolverModel_species kc ad md_thrown md_drafted md_lines md_n x1 md_above md_trialSize md_foundSize md_foundSpecies md_foundN md_foundCost md_chosen md_low md_many md_ties md_winnerCost md_allMany md_allTies md_faults) := hD
    refine lv_aload_n hx hb d_SpeciesSolverModel_species_30 rfl (lv_at hl 1 rfl) ?_
    refine lv_iload_n hx hb d_SpeciesSolverModel_species_31 rfl (lv_at hl 3 rfl) ?_
    obtain ⟨hz3, hm⟩ := gb_some hm
    refine va_put (D := D) (ci := 1) (v := .int x2) (ty := .boolean) (C := R_SpeciesSolverModel) (T := T_SpeciesSolverModel) (N := 35) hx hb hts inG_SpeciesSolverModel ty_SpeciesSolverModel tok_SpeciesSolverModel nmo_SpeciesSolverModel hown hK hP hD hS 0 rfl rfl 7 (by decide) (hts _ gw_825) (fun _ h9 => h9) rfl (tok_SpeciesSolverModel 7 (by decide)) (gb_nar hz3) (gb_fit hz3) (Nat.le_of_ble_eq_true rfl) d_SpeciesSolverModel_species_32 (fun H locs hP hD hS => ?_)
    replace hP : va_P D vwCl (wd_SpeciesSolverModel_species kc ad md_thrown md_drafted md_lines md_n x1 x2 md_trialSize md_foundSize md_foundSpecies md_foundN md_foundCost md_chosen md_low md_many md_ties md_winnerCost md_allMany md_allTies md_faults) H := hP
    replace hD : va_D A (wd_SpeciesSolverModel_species kc ad md_thrown md_drafted md_lines md_n x1 x2 md_trialSize md_foundSize md_foundSpecies md_foundN md_foundCost md_chosen md_low md_many md_ties md_winnerCost md_allMany md_allTies md_faults) := hD
    refine lv_iload_n hx hb d_SpeciesSolverModel_species_35 rfl (lv_at hl 0 rfl) ?_
    obtain ⟨hz4, hm⟩ := gb_some hm
    replace hm := Option.some.inj hm; subst hm
    exact zret_z (v := t0) C hP hD hS (gb_nar hz4) d_SpeciesSolverModel_species_36
def m_SpeciesSolverModel_species_15   (md_species : Int32) (md_above : Int32) (x1 : Int32) (x2 : Int32) : Option (Int32 × Int32 × Int32) :=
  m_SpeciesSolverModel_species_20   md_species md_above x1 x2 (1 : Int32)
set_option maxHeartbeats 4000000 in
set_option maxRecDepth 100000 in
theorem l_SpeciesSolverModel_species_15 {r : Int32 × Int32 × Int32} {ad : Nat → Nat} {md_thrown : Int32} {md_drafted : Int32} {md_lines : Int32} {md_n : Int32} {md_species : Int32} {md_above : Int32} {md_trialSize : Int32} {md_foundSize : Int32} {md_foundSpecies : Int32} {md_foundN : Int32} {md_foundCost : Int32} {md_chosen : Int32} {md_low : Int32} {md_many : Int64} {md_ties : Int64} {md_winnerCost : Int32} {md_allMany : Int64} {md_allTies : Int64} {md_faults : Int32}  {x1 : Int32} {x2 : Int32} {H : Heap} {locs : List Loc} {ls : Array Slot} (C : Cx p s m meth c args A D kc R_SpeciesSolverModel b_SpeciesSolverModel_species 4 (some .boolean))  (hm : m_SpeciesSolverModel_species_15   md_species md_above x1 x2 = some r) (hZ : St D A s (wd_SpeciesSolverModel_species kc ad md_thrown md_drafted md_lines md_n md_species md_above md_trialSize md_foundSize md_foundSpecies md_foundN md_foundCost md_chosen md_low md_many md_ties md_winnerCost md_allMany md_allTies md_faults) H locs) (hl : lv_has ls 4 [(0, .ref (ad 0)), (1, .int x1), (2, .int x2)]) : W p l e rm_SpeciesSolverModel_species s m args below meth c H locs 0 0 (MQ below (Qi D A (wd_SpeciesSolverModel_species kc ad md_thrown md_drafted md_lines md_n r.2.1 r.2.2 md_trialSize md_foundSize md_foundSpecies md_foundN md_foundCost md_chosen md_low md_many md_ties md_winnerCost md_allMany md_allTies md_faults) r.1) args s 0 0 A) (F0 m 15 ls []) := by
  obtain ⟨hx, hb, hr, hts, hown, hml, hlocks, hK, hN, hA, hX⟩ := id C
  obtain ⟨hP, hD, hS⟩ := hZ
  unfold m_SpeciesSolverModel_species_15 at hm
  refine lv_iconst (v := 1) hx hb d_SpeciesSolverModel_species_15 (by decide) ?_
  refine lv_goto (tgt := 20) hx hb d_SpeciesSolverModel_species_16 (by decide) ?_
  exact l_SpeciesSolverModel_species_20 C  hm ⟨hP, hD, hS⟩ (lv_sub hl [0, 1, 2] rfl)
def m_SpeciesSolverModel_species  (md_species : Int32) (md_above : Int32) (a1 : Int32) (a2 : Int32) : Option (Int32 × Int32 × Int32) :=
  (if a1 = (1 : Int32) then
    m_SpeciesSolverModel_species_15   md_species md_above a1 a2
  else
    (if a1 = (2 : Int32) then
      m_SpeciesSolverModel_species_15   md_species md_above a1 a2
    else
      (if a1 = (4 : Int32) then
        m_SpeciesSolverModel_species_15   md_species md_above a1 a2
      else
        m_SpeciesSolverModel_species_20   md_species md_above a1 a2 (0 : Int32))))
set_option maxHeartbeats 4000000 in
set_option maxRecDepth 100000 in
theorem e_SpeciesSolverModel_species {r : Int32 × Int32 × Int32} {ad : Nat → Nat} {md_thrown : Int32} {md_drafted : Int32} {md_lines : Int32} {md_n : Int32} {md_species : Int32} {md_above : Int32} {md_trialSize : Int32} {md_foundSize : Int32} {md_foundSpecies : Int32} {md_foundN : Int32} {md_foundCost : Int32} {md_chosen : Int32} {md_low : Int32} {md_many : Int64} {md_ties : Int64} {md_winnerCost : Int32} {md_allMany : Int64} {md_allTies : Int64} {md_faults : Int32} {a1 : Int32} {a2 : Int32} {H : Heap} {locs : List Loc} {ls : Array Slot} (C : Cx p s m meth c args A D kc R_SpeciesSolverModel b_SpeciesSolverModel_species 4 (some .boolean)) (hm : m_SpeciesSolverModel_species  md_species md_above a1 a2 = some r) (hZ : St D A s (wd_SpeciesSolverModel_species kc ad md_thrown md_drafted md_lines md_n md_species md_above md_trialSize md_foundSize md_foundSpecies md_foundN md_foundCost md_chosen md_low md_many md_ties md_winnerCost md_allMany md_allTies md_faults) H locs) (hl : lv_has ls 4 [(0, .ref (ad 0)), (1, .int a1), (2, .int a2)]) : W p l e rm_SpeciesSolverModel_species s m args below meth c H locs 0 0 (MQ below (Qi D A (wd_SpeciesSolverModel_species kc ad md_thrown md_drafted md_lines md_n r.2.1 r.2.2 md_trialSize md_foundSize md_foundSpecies md_foundN md_foundCost md_chosen md_low md_many md_ties md_winnerCost md_allMany md_allTies md_faults) r.1) args s 0 0 A) (F0 m 0 ls []) := by
  obtain ⟨hx, hb, hr, hts, hown, hml, hlocks, hK, hN, hA, hX⟩ := id C
  obtain ⟨hP, hD, hS⟩ := hZ
  unfold m_SpeciesSolverModel_species at hm
  refine lv_iload_n hx hb d_SpeciesSolverModel_species_0 rfl (lv_at hl 1 rfl) ?_
  refine lv_iconst (v := 1) hx hb d_SpeciesSolverModel_species_1 (by decide) ?_
  refine lv_icmp_eq (tgt := 15) hx hb d_SpeciesSolverModel_species_2 (by decide) (fun c1 => ?_) (fun c1 => ?_)
  · replace hm := ifT hm c1
    exact l_SpeciesSolverModel_species_15 C  hm ⟨hP, hD, hS⟩ (lv_sub hl [0, 1, 2] rfl)
  · replace hm := ifF hm c1
    refine lv_iload_n hx hb d_SpeciesSolverModel_species_5 rfl (lv_at hl 1 rfl) ?_
    refine lv_iconst (v := 2) hx hb d_SpeciesSolverModel_species_6 (by decide) ?_
    refine lv_icmp_eq (tgt := 15) hx hb d_SpeciesSolverModel_species_7 (by decide) (fun c2 => ?_) (fun c2 => ?_)
    · replace hm := ifT hm c2
      exact l_SpeciesSolverModel_species_15 C  hm ⟨hP, hD, hS⟩ (lv_sub hl [0, 1, 2] rfl)
    · replace hm := ifF hm c2
      refine lv_iload_n hx hb d_SpeciesSolverModel_species_10 rfl (lv_at hl 1 rfl) ?_
      refine lv_iconst (v := 4) hx hb d_SpeciesSolverModel_species_11 (by decide) ?_
      refine lv_icmp_ne (tgt := 19) hx hb d_SpeciesSolverModel_species_12 (by decide) (fun c3 => ?_) (fun c3 => ?_)
      · replace hm := ifF hm c3
        refine lv_iconst (v := 0) hx hb d_SpeciesSolverModel_species_19 (by decide) ?_
        exact l_SpeciesSolverModel_species_20 C  hm ⟨hP, hD, hS⟩ (lv_sub hl [0, 1, 2] rfl)
      · replace hm := ifT hm c3
        exact l_SpeciesSolverModel_species_15 C  hm ⟨hP, hD, hS⟩ (lv_sub hl [0, 1, 2] rfl)
set_option maxHeartbeats 4000000 in
set_option maxRecDepth 100000 in
theorem c_SpeciesSolverModel_species {l : Launch} {D : va_G} {kc : Nat → ClassId} {r : Int32 × Int32 × Int32} {ad : Nat → Nat} {md_thrown : Int32} {md_drafted : Int32} {md_lines : Int32} {md_n : Int32} {md_species : Int32} {md_above : Int32} {md_trialSize : Int32} {md_foundSize : Int32} {md_foundSpecies : Int32} {md_foundN : Int32} {md_foundCost : Int32} {md_chosen : Int32} {md_low : Int32} {md_many : Int64} {md_ties : Int64} {md_winnerCost : Int32} {md_allMany : Int64} {md_allTies : Int64} {md_faults : Int32} {a1 : Int32} {a2 : Int32} (hm : m_SpeciesSolverModel_species  md_species md_above a1 a2 = some r) (sz : Nat) : Ci l y_SpeciesSolverModel_species ws_SpeciesSolverModel_species rm_SpeciesSolverModel_species D kc sz [.ref (ad 0), .int a1, .int a2] (wd_SpeciesSolverModel_species kc ad md_thrown md_drafted md_lines md_n md_species md_above md_trialSize md_foundSize md_foundSpecies md_foundN md_foundCost md_chosen md_low md_many md_ties md_winnerCost md_allMany md_allTies md_faults) (wd_SpeciesSolverModel_species kc ad md_thrown md_drafted md_lines md_n r.2.1 r.2.2 md_trialSize md_foundSize md_foundSpecies md_foundN md_foundCost md_chosen md_low md_many md_ties md_winnerCost md_allMany md_allTies md_faults) r.1 :=
  Cz_of (Qf := fun A => (Qi D A (wd_SpeciesSolverModel_species kc ad md_thrown md_drafted md_lines md_n r.2.1 r.2.2 md_trialSize md_foundSize md_foundSpecies md_foundN md_foundCost md_chosen md_low md_many md_ties md_winnerCost md_allMany md_allTies md_faults) r.1)) (cc := b_SpeciesSolverModel_species) (maxL := 4) (ret := (some .boolean)) (by decide) rfl rfl (fun C hZ hl => e_SpeciesSolverModel_species C hm hZ hl)
abbrev b_SpeciesSolverModel_rule : ByteArray := prog_9_method_8_code
abbrev y_SpeciesSolverModel_rule : MethodName := ⟨"SpeciesSolverModel", "rule", "(IZ)Z"⟩
theorem d_SpeciesSolverModel_rule_0 : decode b_SpeciesSolverModel_rule 0 = .ok (.iload_n 1, 1) := by decide +kernel
theorem d_SpeciesSolverModel_rule_1 : decode b_SpeciesSolverModel_rule 1 = .ok (.ifCond .lt 13, 3) := by decide +kernel
theorem d_SpeciesSolverModel_rule_4 : decode b_SpeciesSolverModel_rule 4 = .ok (.iload_n 1, 1) := by decide +kernel
theorem d_SpeciesSolverModel_rule_5 : decode b_SpeciesSolverModel_rule 5 = .ok (.bipush 11, 2) := by decide +kernel
theorem d_SpeciesSolverModel_rule_7 : decode b_SpeciesSolverModel_rule 7 = .ok (.if_icmp .ge 7, 3) := by decide +kernel
theorem d_SpeciesSolverModel_rule_10 : decode b_SpeciesSolverModel_rule 10 = .ok (.iconst 1, 1) := by decide +kernel
theorem d_SpeciesSolverModel_rule_11 : decode b_SpeciesSolverModel_rule 11 = .ok (.goto 4, 3) := by decide +kernel
theorem d_SpeciesSolverModel_rule_14 : decode b_SpeciesSolverModel_rule 14 = .ok (.iconst 0, 1) := by decide +kernel
theorem d_SpeciesSolverModel_rule_15 : decode b_SpeciesSolverModel_rule 15 = .ok (.istore_n 3, 1) := by decide +kernel
theorem d_SpeciesSolverModel_rule_16 : decode b_SpeciesSolverModel_rule 16 = .ok (.iload_n 3, 1) := by decide +kernel
theorem d_SpeciesSolverModel_rule_17 : decode b_SpeciesSolverModel_rule 17 = .ok (.ifCond .eq 10, 3) := by decide +kernel
theorem d_SpeciesSolverModel_rule_20 : decode b_SpeciesSolverModel_rule 20 = .ok (.aload_n 0, 1) := by decide +kernel
theorem d_SpeciesSolverModel_rule_21 : decode b_SpeciesSolverModel_rule 21 = .ok (.getfield 24, 3) := by decide +kernel
theorem d_SpeciesSolverModel_rule_24 : decode b_SpeciesSolverModel_rule 24 = .ok (.iload_n 1, 1) := by decide +kernel
theorem d_SpeciesSolverModel_rule_25 : decode b_SpeciesSolverModel_rule 25 = .ok (.iload_n 2, 1) := by decide +kernel
theorem d_SpeciesSolverModel_rule_26 : decode b_SpeciesSolverModel_rule 26 = .ok (.bastore, 1) := by decide +kernel
theorem d_SpeciesSolverModel_rule_27 : decode b_SpeciesSolverModel_rule 27 = .ok (.iload_n 3, 1) := by decide +kernel
theorem d_SpeciesSolverModel_rule_28 : decode b_SpeciesSolverModel_rule 28 = .ok (.ireturn, 1) := by decide +kernel
abbrev wd_SpeciesSolverModel_rule (kc : Nat → ClassId) (ad : Nat → Nat) (md_thrown : Int32) (md_drafted : Int32) (md_lines : Int32) (md_n : Int32) (md_species : Int32) (md_above : Int32) (md_trialSize : Int32) (md_foundSize : Int32) (md_foundSpecies : Int32) (md_foundN : Int32) (md_foundCost : Int32) (md_chosen : Int32) (md_low : Int32) (md_many : Int64) (md_ties : Int64) (md_winnerCost : Int32) (md_allMany : Int64) (md_allTies : Int64) (md_faults : Int32) (md_on : Nat → Int32) : va_W := [((ad 0), .inr (1, [.int md_thrown, .ref (ad 1), .int md_drafted, .ref (ad 2), .int md_lines, .int md_n, .int md_species, .int md_above, .ref (ad 3), .ref (ad 4), .ref (ad 5), .int md_trialSize, .ref (ad 6), .int md_foundSize, .int md_foundSpecies, .int md_foundN, .int md_foundCost, .ref (ad 7), .int md_chosen, .ref (ad 8), .ref (ad 9), .ref (ad 10), .int md_low, .long md_many, .long md_ties, .ref (ad 11), .ref (ad 12), .int md_winnerCost, .long md_allMany, .long md_allTies, .ref (ad 13), .ref (ad 14), .ref (ad 15), .ref (ad 16), .int md_faults])), ((ad 3), .inl (kc 1, 11, .inl md_on))]
abbrev rm_SpeciesSolverModel_rule : Room := { frames := 0, cells := 0, slots := 0, locals := 0 }
abbrev cw_SpeciesSolverModel_rule : Cond := .code y_SpeciesSolverModel_rule b_SpeciesSolverModel_rule 4 (some .boolean)
abbrev ws_SpeciesSolverModel_rule : List Cond := cw_SpeciesSolverModel_rule :: GW
theorem hd_SpeciesSolverModel_rule : y_SpeciesSolverModel_rule.cls ≠ "java/lang/invoke/MethodHandle" ∧ y_SpeciesSolverModel_rule.cls ≠ "java/lang/invoke/VarHandle" ∧ (parseMethodDescriptor y_SpeciesSolverModel_rule.desc).map (fun d => d.parameters.length) = some 2 := by decide +kernel
def m_SpeciesSolverModel_rule_15   (md_on : Nat → Int32) (x1 : Int32) (x2 : Int32) (t0 : Int32) : Option (Int32 × (Nat → Int32)) :=
  (if t0 = (0 : Int32) then
    (gb t0 (some (t0, md_on)))
  else
    (gd x1 11 (gb t0 (some (t0, (upd md_on (Int32.toNatClampNeg x1) (vp_nar .boolean x2)))))))
set_option maxHeartbeats 4000000 in
set_option maxRecDepth 100000 in
theorem l_SpeciesSolverModel_rule_15 {r : Int32 × (Nat → Int32)} {ad : Nat → Nat} {md_thrown : Int32} {md_drafted : Int32} {md_lines : Int32} {md_n : Int32} {md_species : Int32} {md_above : Int32} {md_trialSize : Int32} {md_foundSize : Int32} {md_foundSpecies : Int32} {md_foundN : Int32} {md_foundCost : Int32} {md_chosen : Int32} {md_low : Int32} {md_many : Int64} {md_ties : Int64} {md_winnerCost : Int32} {md_allMany : Int64} {md_allTies : Int64} {md_faults : Int32} {md_on : Nat → Int32}  {x1 : Int32} {x2 : Int32} {t0 : Int32} {H : Heap} {locs : List Loc} {ls : Array Slot} (C : Cx p s m meth c args A D kc R_SpeciesSolverModel b_SpeciesSolverModel_rule 4 (some .boolean))  (hm : m_SpeciesSolverModel_rule_15   md_on x1 x2 t0 = some r) (hZ : St D A s (wd_SpeciesSolverModel_rule kc ad md_thrown md_drafted md_lines md_n md_species md_above md_trialSize md_foundSize md_foundSpecies md_foundN md_foundCost md_chosen md_low md_many md_ties md_winnerCost md_allMany md_allTies md_faults md_on) H locs) (hl : lv_has ls 4 [(0, .ref (ad 0)), (1, .int x1), (2, .int x2)]) : W p l e rm_SpeciesSolverModel_rule s m args below meth c H locs 0 0 (MQ below (Qi D A (wd_SpeciesSolverModel_rule kc ad md_thrown md_drafted md_lines md_n md_species md_above md_trialSize md_foundSize md_foundSpecies md_foundN md_foundCost md_chosen md_low md_many md_ties md_winnerCost md_allMany md_allTies md_faults r.2) r.1) args s 0 0 A) (F0 m 15 ls [.int t0]) := by
  obtain ⟨hx, hb, hr, hts, hown, hml, hlocks, hK, hN, hA, hX⟩ := id C
  obtain ⟨hP, hD, hS⟩ := hZ
  unfold m_SpeciesSolverModel_rule_15 at hm
  refine lv_istore_n (lv' := [(3, .int t0), (0, .ref (ad 0)), (1, .int x1), (2, .int x2)]) hx hb d_SpeciesSolverModel_rule_15 rfl hl (by decide) rfl (fun ls hl => ?_)
  refine lv_iload_n hx hb d_SpeciesSolverModel_rule_16 rfl (lv_at hl 0 rfl) ?_
  refine lv_if_eq (tgt := 27) hx hb d_SpeciesSolverModel_rule_17 (by decide) (fun c1 => ?_) (fun c1 => ?_)
  · replace hm := ifT hm c1
    refine lv_iload_n hx hb d_SpeciesSolverModel_rule_27 rfl (lv_at hl 0 rfl) ?_
    obtain ⟨hz2, hm⟩ := gb_some hm
    replace hm := Option.some.inj hm; subst hm
    exact zret_z (v := t0) C hP hD hS (gb_nar hz2) d_SpeciesSolverModel_rule_28
  · replace hm := ifF hm c1
    refine lv_aload_n hx hb d_SpeciesSolverModel_rule_20 rfl (lv_at hl 1 rfl) ?_
    refine va_get (D := D) (ci := 1) (v := .ref (ad 3)) (C := R_SpeciesSolverModel) (T := T_SpeciesSolverModel) (N := 35) hx hb hts inG_SpeciesSolverModel hown hK hP 0 rfl rfl 8 (by decide) (hts _ gw_826) (fun _ h9 => h9) rfl d_SpeciesSolverModel_rule_21 ?_
    refine lv_iload_n hx hb d_SpeciesSolverModel_rule_24 rfl (lv_at hl 2 rfl) ?_
    refine lv_iload_n hx hb d_SpeciesSolverModel_rule_25 rfl (lv_at hl 3 rfl) ?_
    obtain ⟨hi3, hm⟩ := gd_some hm
    refine va_zast hx hb hK hP hD hS 1 1 rfl rfl hi3 d_SpeciesSolverModel_rule_26 (fun H locs hP hD hS => ?_)
    replace hP : va_P D vwCl (wd_SpeciesSolverModel_rule kc ad md_thrown md_drafted md_lines md_n md_species md_above md_trialSize md_foundSize md_foundSpecies md_foundN md_foundCost md_chosen md_low md_many md_ties md_winnerCost md_allMany md_allTies md_faults (upd md_on (Int32.toNatClampNeg x1) (vp_nar .boolean x2))) H := hP
    replace hD : va_D A (wd_SpeciesSolverModel_rule kc ad md_thrown md_drafted md_lines md_n md_species md_above md_trialSize md_foundSize md_foundSpecies md_foundN md_foundCost md_chosen md_low md_many md_ties md_winnerCost md_allMany md_allTies md_faults (upd md_on (Int32.toNatClampNeg x1) (vp_nar .boolean x2))) := hD
    refine lv_iload_n hx hb d_SpeciesSolverModel_rule_27 rfl (lv_at hl 0 rfl) ?_
    obtain ⟨hz4, hm⟩ := gb_some hm
    replace hm := Option.some.inj hm; subst hm
    exact zret_z (v := t0) C hP hD hS (gb_nar hz4) d_SpeciesSolverModel_rule_28
def m_SpeciesSolverModel_rule_14   (md_on : Nat → Int32) (x1 : Int32) (x2 : Int32) : Option (Int32 × (Nat → Int32)) :=
  m_SpeciesSolverModel_rule_15   md_on x1 x2 (0 : Int32)
set_option maxHeartbeats 4000000 in
set_option maxRecDepth 100000 in
theorem l_SpeciesSolverModel_rule_14 {r : Int32 × (Nat → Int32)} {ad : Nat → Nat} {md_thrown : Int32} {md_drafted : Int32} {md_lines : Int32} {md_n : Int32} {md_species : Int32} {md_above : Int32} {md_trialSize : Int32} {md_foundSize : Int32} {md_foundSpecies : Int32} {md_foundN : Int32} {md_foundCost : Int32} {md_chosen : Int32} {md_low : Int32} {md_many : Int64} {md_ties : Int64} {md_winnerCost : Int32} {md_allMany : Int64} {md_allTies : Int64} {md_faults : Int32} {md_on : Nat → Int32}  {x1 : Int32} {x2 : Int32} {H : Heap} {locs : List Loc} {ls : Array Slot} (C : Cx p s m meth c args A D kc R_SpeciesSolverModel b_SpeciesSolverModel_rule 4 (some .boolean))  (hm : m_SpeciesSolverModel_rule_14   md_on x1 x2 = some r) (hZ : St D A s (wd_SpeciesSolverModel_rule kc ad md_thrown md_drafted md_lines md_n md_species md_above md_trialSize md_foundSize md_foundSpecies md_foundN md_foundCost md_chosen md_low md_many md_ties md_winnerCost md_allMany md_allTies md_faults md_on) H locs) (hl : lv_has ls 4 [(0, .ref (ad 0)), (1, .int x1), (2, .int x2)]) : W p l e rm_SpeciesSolverModel_rule s m args below meth c H locs 0 0 (MQ below (Qi D A (wd_SpeciesSolverModel_rule kc ad md_thrown md_drafted md_lines md_n md_species md_above md_trialSize md_foundSize md_foundSpecies md_foundN md_foundCost md_chosen md_low md_many md_ties md_winnerCost md_allMany md_allTies md_faults r.2) r.1) args s 0 0 A) (F0 m 14 ls []) := by
  obtain ⟨hx, hb, hr, hts, hown, hml, hlocks, hK, hN, hA, hX⟩ := id C
  obtain ⟨hP, hD, hS⟩ := hZ
  unfold m_SpeciesSolverModel_rule_14 at hm
  refine lv_iconst (v := 0) hx hb d_SpeciesSolverModel_rule_14 (by decide) ?_
  exact l_SpeciesSolverModel_rule_15 C  hm ⟨hP, hD, hS⟩ (lv_sub hl [0, 1, 2] rfl)
def m_SpeciesSolverModel_rule  (md_on : Nat → Int32) (a1 : Int32) (a2 : Int32) : Option (Int32 × (Nat → Int32)) :=
  (if a1 < (0 : Int32) then
    m_SpeciesSolverModel_rule_14   md_on a1 a2
  else
    (if (11 : Int32) ≤ a1 then
      m_SpeciesSolverModel_rule_14   md_on a1 a2
    else
      m_SpeciesSolverModel_rule_15   md_on a1 a2 (1 : Int32)))
set_option maxHeartbeats 4000000 in
set_option maxRecDepth 100000 in
theorem e_SpeciesSolverModel_rule {r : Int32 × (Nat → Int32)} {ad : Nat → Nat} {md_thrown : Int32} {md_drafted : Int32} {md_lines : Int32} {md_n : Int32} {md_species : Int32} {md_above : Int32} {md_trialSize : Int32} {md_foundSize : Int32} {md_foundSpecies : Int32} {md_foundN : Int32} {md_foundCost : Int32} {md_chosen : Int32} {md_low : Int32} {md_many : Int64} {md_ties : Int64} {md_winnerCost : Int32} {md_allMany : Int64} {md_allTies : Int64} {md_faults : Int32} {md_on : Nat → Int32} {a1 : Int32} {a2 : Int32} {H : Heap} {locs : List Loc} {ls : Array Slot} (C : Cx p s m meth c args A D kc R_SpeciesSolverModel b_SpeciesSolverModel_rule 4 (some .boolean)) (hm : m_SpeciesSolverModel_rule  md_on a1 a2 = some r) (hZ : St D A s (wd_SpeciesSolverModel_rule kc ad md_thrown md_drafted md_lines md_n md_species md_above md_trialSize md_foundSize md_foundSpecies md_foundN md_foundCost md_chosen md_low md_many md_ties md_winnerCost md_allMany md_allTies md_faults md_on) H locs) (hl : lv_has ls 4 [(0, .ref (ad 0)), (1, .int a1), (2, .int a2)]) : W p l e rm_SpeciesSolverModel_rule s m args below meth c H locs 0 0 (MQ below (Qi D A (wd_SpeciesSolverModel_rule kc ad md_thrown md_drafted md_lines md_n md_species md_above md_trialSize md_foundSize md_foundSpecies md_foundN md_foundCost md_chosen md_low md_many md_ties md_winnerCost md_allMany md_allTies md_faults r.2) r.1) args s 0 0 A) (F0 m 0 ls []) := by
  obtain ⟨hx, hb, hr, hts, hown, hml, hlocks, hK, hN, hA, hX⟩ := id C
  obtain ⟨hP, hD, hS⟩ := hZ
  unfold m_SpeciesSolverModel_rule at hm
  refine lv_iload_n hx hb d_SpeciesSolverModel_rule_0 rfl (lv_at hl 1 rfl) ?_
  refine lv_if_lt (tgt := 14) hx hb d_SpeciesSolverModel_rule_1 (by decide) (fun c1 => ?_) (fun c1 => ?_)
  · replace hm := ifT hm c1
    exact l_SpeciesSolverModel_rule_14 C  hm ⟨hP, hD, hS⟩ (lv_sub hl [0, 1, 2] rfl)
  · replace hm := ifF hm c1
    refine lv_iload_n hx hb d_SpeciesSolverModel_rule_4 rfl (lv_at hl 1 rfl) ?_
    refine lv_bipush (v := 11) hx hb d_SpeciesSolverModel_rule_5 (by decide) ?_
    refine lv_icmp_ge (tgt := 14) hx hb d_SpeciesSolverModel_rule_7 (by decide) (fun c2 => ?_) (fun c2 => ?_)
    · replace hm := ifT hm c2
      exact l_SpeciesSolverModel_rule_14 C  hm ⟨hP, hD, hS⟩ (lv_sub hl [0, 1, 2] rfl)
    · replace hm := ifF hm c2
      refine lv_iconst (v := 1) hx hb d_SpeciesSolverModel_rule_10 (by decide) ?_
      refine lv_goto (tgt := 15) hx hb d_SpeciesSolverModel_rule_11 (by decide) ?_
      exact l_SpeciesSolverModel_rule_15 C  hm ⟨hP, hD, hS⟩ (lv_sub hl [0, 1, 2] rfl)
set_option maxHeartbeats 4000000 in
set_option maxRecDepth 100000 in
theorem c_SpeciesSolverModel_rule {l : Launch} {D : va_G} {kc : Nat → ClassId} {r : Int32 × (Nat → Int32)} {ad : Nat → Nat} {md_thrown : Int32} {md_drafted : Int32} {md_lines : Int32} {md_n : Int32} {md_species : Int32} {md_above : Int32} {md_trialSize : Int32} {md_foundSize : Int32} {md_foundSpecies : Int32} {md_foundN : Int32} {md_foundCost : Int32} {md_chosen : Int32} {md_low : Int32} {md_many : Int64} {md_ties : Int64} {md_winnerCost : Int32} {md_allMany : Int64} {md_allTies : Int64} {md_faults : Int32} {md_on : Nat → Int32} {a1 : Int32} {a2 : Int32} (hm : m_SpeciesSolverModel_rule  md_on a1 a2 = some r) (sz : Nat) : Ci l y_SpeciesSolverModel_rule ws_SpeciesSolverModel_rule rm_SpeciesSolverModel_rule D kc sz [.ref (ad 0), .int a1, .int a2] (wd_SpeciesSolverModel_rule kc ad md_thrown md_drafted md_lines md_n md_species md_above md_trialSize md_foundSize md_foundSpecies md_foundN md_foundCost md_chosen md_low md_many md_ties md_winnerCost md_allMany md_allTies md_faults md_on) (wd_SpeciesSolverModel_rule kc ad md_thrown md_drafted md_lines md_n md_species md_above md_trialSize md_foundSize md_foundSpecies md_foundN md_foundCost md_chosen md_low md_many md_ties md_winnerCost md_allMany md_allTies md_faults r.2) r.1 :=
  Cz_of (Qf := fun A => (Qi D A (wd_SpeciesSolverModel_rule kc ad md_thrown md_drafted md_lines md_n md_species md_above md_trialSize md_foundSize md_foundSpecies md_foundN md_foundCost md_chosen md_low md_many md_ties md_winnerCost md_allMany md_allTies md_faults r.2) r.1)) (cc := b_SpeciesSolverModel_rule) (maxL := 4) (ret := (some .boolean)) (by decide) rfl rfl (fun C hZ hl => e_SpeciesSolverModel_rule C hm hZ hl)
abbrev b_SpeciesSolverModel_leastOf : ByteArray := prog_9_method_9_code
abbrev y_SpeciesSolverModel_leastOf : MethodName := ⟨"SpeciesSolverModel", "leastOf", "(I)I"⟩
theorem d_SpeciesSolverModel_leastOf_0 : decode b_SpeciesSolverModel_leastOf 0 = .ok (.iload_n 0, 1) := by decide +kernel
theorem d_SpeciesSolverModel_leastOf_1 : decode b_SpeciesSolverModel_leastOf 1 = .ok (.bipush 8, 2) := by decide +kernel
theorem d_SpeciesSolverModel_leastOf_3 : decode b_SpeciesSolverModel_leastOf 3 = .ok (.if_icmp .lt 13, 3) := by decide +kernel
theorem d_SpeciesSolverModel_leastOf_6 : decode b_SpeciesSolverModel_leastOf 6 = .ok (.iload_n 0, 1) := by decide +kernel
theorem d_SpeciesSolverModel_leastOf_7 : decode b_SpeciesSolverModel_leastOf 7 = .ok (.bipush 11, 2) := by decide +kernel
theorem d_SpeciesSolverModel_leastOf_9 : decode b_SpeciesSolverModel_leastOf 9 = .ok (.if_icmp .gt 7, 3) := by decide +kernel
theorem d_SpeciesSolverModel_leastOf_12 : decode b_SpeciesSolverModel_leastOf 12 = .ok (.iconst 1, 1) := by decide +kernel
theorem d_SpeciesSolverModel_leastOf_13 : decode b_SpeciesSolverModel_leastOf 13 = .ok (.goto 4, 3) := by decide +kernel
theorem d_SpeciesSolverModel_leastOf_16 : decode b_SpeciesSolverModel_leastOf 16 = .ok (.iconst 0, 1) := by decide +kernel
theorem d_SpeciesSolverModel_leastOf_17 : decode b_SpeciesSolverModel_leastOf 17 = .ok (.ireturn, 1) := by decide +kernel
abbrev wd_SpeciesSolverModel_leastOf (kc : Nat → ClassId)   : va_W := []
abbrev rm_SpeciesSolverModel_leastOf : Room := { frames := 0, cells := 0, slots := 0, locals := 0 }
abbrev cw_SpeciesSolverModel_leastOf : Cond := .code y_SpeciesSolverModel_leastOf b_SpeciesSolverModel_leastOf 1 (some .int)
abbrev ws_SpeciesSolverModel_leastOf : List Cond := cw_SpeciesSolverModel_leastOf :: GW
theorem hd_SpeciesSolverModel_leastOf : y_SpeciesSolverModel_leastOf.cls ≠ "java/lang/invoke/MethodHandle" ∧ y_SpeciesSolverModel_leastOf.cls ≠ "java/lang/invoke/VarHandle" ∧ (parseMethodDescriptor y_SpeciesSolverModel_leastOf.desc).map (fun d => d.parameters.length) = some 1 := by decide +kernel
def m_SpeciesSolverModel_leastOf   (a0 : Int32) : Option (Int32) :=
  (if a0 < (8 : Int32) then
    (some (0 : Int32))
  else
    (if (11 : Int32) < a0 then
      (some (0 : Int32))
    else
      (some (1 : Int32))))
set_option maxHeartbeats 4000000 in
set_option maxRecDepth 100000 in
theorem e_SpeciesSolverModel_leastOf {r : Int32}   {a0 : Int32} {H : Heap} {locs : List Loc} {ls : Array Slot} (C : Cx p s m meth c args A D kc R_SpeciesSolverModel b_SpeciesSolverModel_leastOf 1 (some .int)) (hm : m_SpeciesSolverModel_leastOf  a0 = some r) (hZ : St D A s (wd_SpeciesSolverModel_leastOf kc ) H locs) (hl : lv_has ls 1 [(0, .int a0)]) : W p l e rm_SpeciesSolverModel_leastOf s m args below meth c H locs 0 0 (MQ below (Qi D A (wd_SpeciesSolverModel_leastOf kc ) r) args s 0 0 A) (F0 m 0 ls []) := by
  obtain ⟨hx, hb, hr, hts, hown, hml, hlocks, hK, hN, hA, hX⟩ := id C
  obtain ⟨hP, hD, hS⟩ := hZ
  unfold m_SpeciesSolverModel_leastOf at hm
  refine lv_iload_n hx hb d_SpeciesSolverModel_leastOf_0 rfl (lv_at hl 0 rfl) ?_
  refine lv_bipush (v := 8) hx hb d_SpeciesSolverModel_leastOf_1 (by decide) ?_
  refine lv_icmp_lt (tgt := 16) hx hb d_SpeciesSolverModel_leastOf_3 (by decide) (fun c1 => ?_) (fun c1 => ?_)
  · replace hm := ifT hm c1
    refine lv_iconst (v := 0) hx hb d_SpeciesSolverModel_leastOf_16 (by decide) ?_
    replace hm := Option.some.inj hm; subst hm
    exact zret_i C hP hD hS d_SpeciesSolverModel_leastOf_17
  · replace hm := ifF hm c1
    refine lv_iload_n hx hb d_SpeciesSolverModel_leastOf_6 rfl (lv_at hl 0 rfl) ?_
    refine lv_bipush (v := 11) hx hb d_SpeciesSolverModel_leastOf_7 (by decide) ?_
    refine lv_icmp_gt (tgt := 16) hx hb d_SpeciesSolverModel_leastOf_9 (by decide) (fun c2 => ?_) (fun c2 => ?_)
    · replace hm := ifT hm c2
      refine lv_iconst (v := 0) hx hb d_SpeciesSolverModel_leastOf_16 (by decide) ?_
      replace hm := Option.some.inj hm; subst hm
      exact zret_i C hP hD hS d_SpeciesSolverModel_leastOf_17
    · replace hm := ifF hm c2
      refine lv_iconst (v := 1) hx hb d_SpeciesSolverModel_leastOf_12 (by decide) ?_
      refine lv_goto (tgt := 17) hx hb d_SpeciesSolverModel_leastOf_13 (by decide) ?_
      replace hm := Option.some.inj hm; subst hm
      exact zret_i C hP hD hS d_SpeciesSolverModel_leastOf_17
set_option maxHeartbeats 4000000 in
set_option maxRecDepth 100000 in
theorem c_SpeciesSolverModel_leastOf {l : Launch} {D : va_G} {kc : Nat → ClassId} {r : Int32}   {a0 : Int32} (hm : m_SpeciesSolverModel_leastOf  a0 = some r) (sz : Nat) : Ci l y_SpeciesSolverModel_leastOf ws_SpeciesSolverModel_leastOf rm_SpeciesSolverModel_leastOf D kc sz [.int a0] (wd_SpeciesSolverModel_leastOf kc ) (wd_SpeciesSolverModel_leastOf kc ) r :=
  Cz_of (Qf := fun A => (Qi D A (wd_SpeciesSolverModel_leastOf kc ) r)) (cc := b_SpeciesSolverModel_leastOf) (maxL := 1) (ret := (some .int)) (by decide) rfl rfl (fun C hZ hl => e_SpeciesSolverModel_leastOf C hm hZ hl)
abbrev b_SpeciesSolverModel_mostOf : ByteArray := prog_9_method_10_code
abbrev y_SpeciesSolverModel_mostOf : MethodName := ⟨"SpeciesSolverModel", "mostOf", "(I)I"⟩
theorem d_SpeciesSolverModel_mostOf_0 : decode b_SpeciesSolverModel_mostOf 0 = .ok (.iload_n 0, 1) := by decide +kernel
theorem d_SpeciesSolverModel_mostOf_1 : decode b_SpeciesSolverModel_mostOf 1 = .ok (.tableswitch 73 1 11 #[59, 59, 73, 73, 73, 73, 62, 65, 68, 68, 71], 59) := by decide +kernel
theorem d_SpeciesSolverModel_mostOf_60 : decode b_SpeciesSolverModel_mostOf 60 = .ok (.bipush 127, 2) := by decide +kernel
theorem d_SpeciesSolverModel_mostOf_62 : decode b_SpeciesSolverModel_mostOf 62 = .ok (.ireturn, 1) := by decide +kernel
theorem d_SpeciesSolverModel_mostOf_63 : decode b_SpeciesSolverModel_mostOf 63 = .ok (.ldc 87, 2) := by decide +kernel
theorem d_SpeciesSolverModel_mostOf_65 : decode b_SpeciesSolverModel_mostOf 65 = .ok (.ireturn, 1) := by decide +kernel
theorem d_SpeciesSolverModel_mostOf_66 : decode b_SpeciesSolverModel_mostOf 66 = .ok (.bipush 12, 2) := by decide +kernel
theorem d_SpeciesSolverModel_mostOf_68 : decode b_SpeciesSolverModel_mostOf 68 = .ok (.ireturn, 1) := by decide +kernel
theorem d_SpeciesSolverModel_mostOf_69 : decode b_SpeciesSolverModel_mostOf 69 = .ok (.bipush 24, 2) := by decide +kernel
theorem d_SpeciesSolverModel_mostOf_71 : decode b_SpeciesSolverModel_mostOf 71 = .ok (.ireturn, 1) := by decide +kernel
theorem d_SpeciesSolverModel_mostOf_72 : decode b_SpeciesSolverModel_mostOf 72 = .ok (.iconst 3, 1) := by decide +kernel
theorem d_SpeciesSolverModel_mostOf_73 : decode b_SpeciesSolverModel_mostOf 73 = .ok (.ireturn, 1) := by decide +kernel
theorem d_SpeciesSolverModel_mostOf_74 : decode b_SpeciesSolverModel_mostOf 74 = .ok (.iload_n 0, 1) := by decide +kernel
theorem d_SpeciesSolverModel_mostOf_75 : decode b_SpeciesSolverModel_mostOf 75 = .ok (.bipush 11, 2) := by decide +kernel
theorem d_SpeciesSolverModel_mostOf_77 : decode b_SpeciesSolverModel_mostOf 77 = .ok (.if_icmp .le 9, 3) := by decide +kernel
theorem d_SpeciesSolverModel_mostOf_80 : decode b_SpeciesSolverModel_mostOf 80 = .ok (.sipush 1000, 3) := by decide +kernel
theorem d_SpeciesSolverModel_mostOf_83 : decode b_SpeciesSolverModel_mostOf 83 = .ok (.goto 6, 3) := by decide +kernel
theorem d_SpeciesSolverModel_mostOf_86 : decode b_SpeciesSolverModel_mostOf 86 = .ok (.sipush 4095, 3) := by decide +kernel
theorem d_SpeciesSolverModel_mostOf_89 : decode b_SpeciesSolverModel_mostOf 89 = .ok (.ireturn, 1) := by decide +kernel
abbrev wd_SpeciesSolverModel_mostOf (kc : Nat → ClassId)   : va_W := []
abbrev rm_SpeciesSolverModel_mostOf : Room := { frames := 0, cells := 0, slots := 0, locals := 0 }
abbrev cw_SpeciesSolverModel_mostOf : Cond := .code y_SpeciesSolverModel_mostOf b_SpeciesSolverModel_mostOf 1 (some .int)
abbrev ws_SpeciesSolverModel_mostOf : List Cond := cw_SpeciesSolverModel_mostOf :: GW
theorem hd_SpeciesSolverModel_mostOf : y_SpeciesSolverModel_mostOf.cls ≠ "java/lang/invoke/MethodHandle" ∧ y_SpeciesSolverModel_mostOf.cls ≠ "java/lang/invoke/VarHandle" ∧ (parseMethodDescriptor y_SpeciesSolverModel_mostOf.desc).map (fun d => d.parameters.length) = some 1 := by decide +kernel
def m_SpeciesSolverModel_mostOf   (a0 : Int32) : Option (Int32) :=
  (if a0 = (1 : Int32) then (some (127 : Int32)) else (if a0 = (2 : Int32) then (some (127 : Int32)) else (if a0 = (3 : Int32) then (if a0 ≤ (11 : Int32) then
      (some (4095 : Int32))
    else
      (some (1000 : Int32))) else (if a0 = (4 : Int32) then (if a0 ≤ (11 : Int32) then
      (some (4095 : Int32))
    else
      (some (1000 : Int32))) else (if a0 = (5 : Int32) then (if a0 ≤ (11 : Int32) then
      (some (4095 : Int32))
    else
      (some (1000 : Int32))) else (if a0 = (6 : Int32) then (if a0 ≤ (11 : Int32) then
      (some (4095 : Int32))
    else
      (some (1000 : Int32))) else (if a0 = (7 : Int32) then (some (33554431 : Int32)) else (if a0 = (8 : Int32) then (some (12 : Int32)) else (if a0 = (9 : Int32) then (some (24 : Int32)) else (if a0 = (10 : Int32) then (some (24 : Int32)) else (if a0 = (11 : Int32) then (some (3 : Int32)) else (if a0 ≤ (11 : Int32) then
    (some (4095 : Int32))
  else
    (some (1000 : Int32))))))))))))))
set_option maxHeartbeats 4000000 in
set_option maxRecDepth 100000 in
theorem e_SpeciesSolverModel_mostOf {r : Int32}   {a0 : Int32} {H : Heap} {locs : List Loc} {ls : Array Slot} (C : Cx p s m meth c args A D kc R_SpeciesSolverModel b_SpeciesSolverModel_mostOf 1 (some .int)) (hm : m_SpeciesSolverModel_mostOf  a0 = some r) (hZ : St D A s (wd_SpeciesSolverModel_mostOf kc ) H locs) (hl : lv_has ls 1 [(0, .int a0)]) : W p l e rm_SpeciesSolverModel_mostOf s m args below meth c H locs 0 0 (MQ below (Qi D A (wd_SpeciesSolverModel_mostOf kc ) r) args s 0 0 A) (F0 m 0 ls []) := by
  obtain ⟨hx, hb, hr, hts, hown, hml, hlocks, hK, hN, hA, hX⟩ := id C
  obtain ⟨hP, hD, hS⟩ := hZ
  unfold m_SpeciesSolverModel_mostOf at hm
  refine lv_iload_n hx hb d_SpeciesSolverModel_mostOf_0 rfl (lv_at hl 0 rfl) ?_
  by_cases c1 : a0 = (1 : Int32)
  · replace hm := ifT hm c1
    refine lv_tableIn (off := 59) (tgt := 60) hx hb d_SpeciesSolverModel_mostOf_1 (by rw [c1]; decide) (by rw [c1]; decide) (by rw [c1]; rfl) (by decide) ?_
    refine lv_bipush (v := 127) hx hb d_SpeciesSolverModel_mostOf_60 (by decide) ?_
    replace hm := Option.some.inj hm; subst hm
    exact zret_i C hP hD hS d_SpeciesSolverModel_mostOf_62
  replace hm := ifF hm c1
  by_cases c2 : a0 = (2 : Int32)
  · replace hm := ifT hm c2
    refine lv_tableIn (off := 59) (tgt := 60) hx hb d_SpeciesSolverModel_mostOf_1 (by rw [c2]; decide) (by rw [c2]; decide) (by rw [c2]; rfl) (by decide) ?_
    refine lv_bipush (v := 127) hx hb d_SpeciesSolverModel_mostOf_60 (by decide) ?_
    replace hm := Option.some.inj hm; subst hm
    exact zret_i C hP hD hS d_SpeciesSolverModel_mostOf_62
  replace hm := ifF hm c2
  by_cases c3 : a0 = (3 : Int32)
  · replace hm := ifT hm c3
    refine lv_tableIn (off := 73) (tgt := 74) hx hb d_SpeciesSolverModel_mostOf_1 (by rw [c3]; decide) (by rw [c3]; decide) (by rw [c3]; rfl) (by decide) ?_
    refine lv_iload_n hx hb d_SpeciesSolverModel_mostOf_74 rfl (lv_at hl 0 rfl) ?_
    refine lv_bipush (v := 11) hx hb d_SpeciesSolverModel_mostOf_75 (by decide) ?_
    refine lv_icmp_le (tgt := 86) hx hb d_SpeciesSolverModel_mostOf_77 (by decide) (fun c4 => ?_) (fun c4 => ?_)
    · replace hm := ifT hm c4
      refine lv_sipush (v := 4095) hx hb d_SpeciesSolverModel_mostOf_86 (by decide) ?_
      replace hm := Option.some.inj hm; subst hm
      exact zret_i C hP hD hS d_SpeciesSolverModel_mostOf_89
    · replace hm := ifF hm c4
      refine lv_sipush (v := 1000) hx hb d_SpeciesSolverModel_mostOf_80 (by decide) ?_
      refine lv_goto (tgt := 89) hx hb d_SpeciesSolverModel_mostOf_83 (by decide) ?_
      replace hm := Option.some.inj hm; subst hm
      exact zret_i C hP hD hS d_SpeciesSolverModel_mostOf_89
  replace hm := ifF hm c3
  by_cases c5 : a0 = (4 : Int32)
  · replace hm := ifT hm c5
    refine lv_tableIn (off := 73) (tgt := 74) hx hb d_SpeciesSolverModel_mostOf_1 (by rw [c5]; decide) (by rw [c5]; decide) (by rw [c5]; rfl) (by decide) ?_
    refine lv_iload_n hx hb d_SpeciesSolverModel_mostOf_74 rfl (lv_at hl 0 rfl) ?_
    refine lv_bipush (v := 11) hx hb d_SpeciesSolverModel_mostOf_75 (by decide) ?_
    refine lv_icmp_le (tgt := 86) hx hb d_SpeciesSolverModel_mostOf_77 (by decide) (fun c6 => ?_) (fun c6 => ?_)
    · replace hm := ifT hm c6
      refine lv_sipush (v := 4095) hx hb d_SpeciesSolverModel_mostOf_86 (by decide) ?_
      replace hm := Option.some.inj hm; subst hm
      exact zret_i C hP hD hS d_SpeciesSolverModel_mostOf_89
    · replace hm := ifF hm c6
      refine lv_sipush (v := 1000) hx hb d_SpeciesSolverModel_mostOf_80 (by decide) ?_
      refine lv_goto (tgt := 89) hx hb d_SpeciesSolverModel_mostOf_83 (by decide) ?_
      replace hm := Option.some.inj hm; subst hm
      exact zret_i C hP hD hS d_SpeciesSolverModel_mostOf_89
  replace hm := ifF hm c5
  by_cases c7 : a0 = (5 : Int32)
  · replace hm := ifT hm c7
    refine lv_tableIn (off := 73) (tgt := 74) hx hb d_SpeciesSolverModel_mostOf_1 (by rw [c7]; decide) (by rw [c7]; decide) (by rw [c7]; rfl) (by decide) ?_
    refine lv_iload_n hx hb d_SpeciesSolverModel_mostOf_74 rfl (lv_at hl 0 rfl) ?_
    refine lv_bipush (v := 11) hx hb d_SpeciesSolverModel_mostOf_75 (by decide) ?_
    refine lv_icmp_le (tgt := 86) hx hb d_SpeciesSolverModel_mostOf_77 (by decide) (fun c8 => ?_) (fun c8 => ?_)
    · replace hm := ifT hm c8
      refine lv_sipush (v := 4095) hx hb d_SpeciesSolverModel_mostOf_86 (by decide) ?_
      replace hm := Option.some.inj hm; subst hm
      exact zret_i C hP hD hS d_SpeciesSolverModel_mostOf_89
    · replace hm := ifF hm c8
      refine lv_sipush (v := 1000) hx hb d_SpeciesSolverModel_mostOf_80 (by decide) ?_
      refine lv_goto (tgt := 89) hx hb d_SpeciesSolverModel_mostOf_83 (by decide) ?_
      replace hm := Option.some.inj hm; subst hm
      exact zret_i C hP hD hS d_SpeciesSolverModel_mostOf_89
  replace hm := ifF hm c7
  by_cases c9 : a0 = (6 : Int32)
  · replace hm := ifT hm c9
    refine lv_tableIn (off := 73) (tgt := 74) hx hb d_SpeciesSolverModel_mostOf_1 (by rw [c9]; decide) (by rw [c9]; decide) (by rw [c9]; rfl) (by decide) ?_
    refine lv_iload_n hx hb d_SpeciesSolverModel_mostOf_74 rfl (lv_at hl 0 rfl) ?_
    refine lv_bipush (v := 11) hx hb d_SpeciesSolverModel_mostOf_75 (by decide) ?_
    refine lv_icmp_le (tgt := 86) hx hb d_SpeciesSolverModel_mostOf_77 (by decide) (fun c10 => ?_) (fun c10 => ?_)
    · replace hm := ifT hm c10
      refine lv_sipush (v := 4095) hx hb d_SpeciesSolverModel_mostOf_86 (by decide) ?_
      replace hm := Option.some.inj hm; subst hm
      exact zret_i C hP hD hS d_SpeciesSolverModel_mostOf_89
    · replace hm := ifF hm c10
      refine lv_sipush (v := 1000) hx hb d_SpeciesSolverModel_mostOf_80 (by decide) ?_
      refine lv_goto (tgt := 89) hx hb d_SpeciesSolverModel_mostOf_83 (by decide) ?_
      replace hm := Option.some.inj hm; subst hm
      exact zret_i C hP hD hS d_SpeciesSolverModel_mostOf_89
  replace hm := ifF hm c9
  by_cases c11 : a0 = (7 : Int32)
  · replace hm := ifT hm c11
    refine lv_tableIn (off := 62) (tgt := 63) hx hb d_SpeciesSolverModel_mostOf_1 (by rw [c11]; decide) (by rw [c11]; decide) (by rw [c11]; rfl) (by decide) ?_
    refine lv_ldc (v := 33554431) hx hb hown (hts _ gw_958) d_SpeciesSolverModel_mostOf_63 ?_
    replace hm := Option.some.inj hm; subst hm
    exact zret_i C hP hD hS d_SpeciesSolverModel_mostOf_65
  replace hm := ifF hm c11
  by_cases c12 : a0 = (8 : Int32)
  · replace hm := ifT hm c12
    refine lv_tableIn (off := 65) (tgt := 66) hx hb d_SpeciesSolverModel_mostOf_1 (by rw [c12]; decide) (by rw [c12]; decide) (by rw [c12]; rfl) (by decide) ?_
    refine lv_bipush (v := 12) hx hb d_SpeciesSolverModel_mostOf_66 (by decide) ?_
    replace hm := Option.some.inj hm; subst hm
    exact zret_i C hP hD hS d_SpeciesSolverModel_mostOf_68
  replace hm := ifF hm c12
  by_cases c13 : a0 = (9 : Int32)
  · replace hm := ifT hm c13
    refine lv_tableIn (off := 68) (tgt := 69) hx hb d_SpeciesSolverModel_mostOf_1 (by rw [c13]; decide) (by rw [c13]; decide) (by rw [c13]; rfl) (by decide) ?_
    refine lv_bipush (v := 24) hx hb d_SpeciesSolverModel_mostOf_69 (by decide) ?_
    replace hm := Option.some.inj hm; subst hm
    exact zret_i C hP hD hS d_SpeciesSolverModel_mostOf_71
  replace hm := ifF hm c13
  by_cases c14 : a0 = (10 : Int32)
  · replace hm := ifT hm c14
    refine lv_tableIn (off := 68) (tgt := 69) hx hb d_SpeciesSolverModel_mostOf_1 (by rw [c14]; decide) (by rw [c14]; decide) (by rw [c14]; rfl) (by decide) ?_
    refine lv_bipush (v := 24) hx hb d_SpeciesSolverModel_mostOf_69 (by decide) ?_
    replace hm := Option.some.inj hm; subst hm
    exact zret_i C hP hD hS d_SpeciesSolverModel_mostOf_71
  replace hm := ifF hm c14
  by_cases c15 : a0 = (11 : Int32)
  · replace hm := ifT hm c15
    refine lv_tableIn (off := 71) (tgt := 72) hx hb d_SpeciesSolverModel_mostOf_1 (by rw [c15]; decide) (by rw [c15]; decide) (by rw [c15]; rfl) (by decide) ?_
    refine lv_iconst (v := 3) hx hb d_SpeciesSolverModel_mostOf_72 (by decide) ?_
    replace hm := Option.some.inj hm; subst hm
    exact zret_i C hP hD hS d_SpeciesSolverModel_mostOf_73
  replace hm := ifF hm c15
  refine lv_tableOut (tgt := 74) hx hb d_SpeciesSolverModel_mostOf_1 (by have := ti_ne (k := 1) (y := (1 : Int32)) rfl c1; have := ti_ne (k := 2) (y := (2 : Int32)) rfl c2; have := ti_ne (k := 3) (y := (3 : Int32)) rfl c3; have := ti_ne (k := 4) (y := (4 : Int32)) rfl c5; have := ti_ne (k := 5) (y := (5 : Int32)) rfl c7; have := ti_ne (k := 6) (y := (6 : Int32)) rfl c9; have := ti_ne (k := 7) (y := (7 : Int32)) rfl c11; have := ti_ne (k := 8) (y := (8 : Int32)) rfl c12; have := ti_ne (k := 9) (y := (9 : Int32)) rfl c13; have := ti_ne (k := 10) (y := (10 : Int32)) rfl c14; have := ti_ne (k := 11) (y := (11 : Int32)) rfl c15; omega) (by decide) ?_
  refine lv_iload_n hx hb d_SpeciesSolverModel_mostOf_74 rfl (lv_at hl 0 rfl) ?_
  refine lv_bipush (v := 11) hx hb d_SpeciesSolverModel_mostOf_75 (by decide) ?_
  refine lv_icmp_le (tgt := 86) hx hb d_SpeciesSolverModel_mostOf_77 (by decide) (fun c16 => ?_) (fun c16 => ?_)
  · replace hm := ifT hm c16
    refine lv_sipush (v := 4095) hx hb d_SpeciesSolverModel_mostOf_86 (by decide) ?_
    replace hm := Option.some.inj hm; subst hm
    exact zret_i C hP hD hS d_SpeciesSolverModel_mostOf_89
  · replace hm := ifF hm c16
    refine lv_sipush (v := 1000) hx hb d_SpeciesSolverModel_mostOf_80 (by decide) ?_
    refine lv_goto (tgt := 89) hx hb d_SpeciesSolverModel_mostOf_83 (by decide) ?_
    replace hm := Option.some.inj hm; subst hm
    exact zret_i C hP hD hS d_SpeciesSolverModel_mostOf_89
set_option maxHeartbeats 4000000 in
set_option maxRecDepth 100000 in
theorem c_SpeciesSolverModel_mostOf {l : Launch} {D : va_G} {kc : Nat → ClassId} {r : Int32}   {a0 : Int32} (hm : m_SpeciesSolverModel_mostOf  a0 = some r) (sz : Nat) : Ci l y_SpeciesSolverModel_mostOf ws_SpeciesSolverModel_mostOf rm_SpeciesSolverModel_mostOf D kc sz [.int a0] (wd_SpeciesSolverModel_mostOf kc ) (wd_SpeciesSolverModel_mostOf kc ) r :=
  Cz_of (Qf := fun A => (Qi D A (wd_SpeciesSolverModel_mostOf kc ) r)) (cc := b_SpeciesSolverModel_mostOf) (maxL := 1) (ret := (some .int)) (by decide) rfl rfl (fun C hZ hl => e_SpeciesSolverModel_mostOf C hm hZ hl)
abbrev b_SpeciesSolverModel_number : ByteArray := prog_9_method_11_code
abbrev y_SpeciesSolverModel_number : MethodName := ⟨"SpeciesSolverModel", "number", "(II)Z"⟩
theorem d_SpeciesSolverModel_number_0 : decode b_SpeciesSolverModel_number 0 = .ok (.iload_n 1, 1) := by decide +kernel
theorem d_SpeciesSolverModel_number_1 : decode b_SpeciesSolverModel_number 1 = .ok (.ifCond .lt 29, 3) := by decide +kernel
theorem d_SpeciesSolverModel_number_4 : decode b_SpeciesSolverModel_number 4 = .ok (.iload_n 1, 1) := by decide +kernel
theorem d_SpeciesSolverModel_number_5 : decode b_SpeciesSolverModel_number 5 = .ok (.bipush 18, 2) := by decide +kernel
theorem d_SpeciesSolverModel_number_7 : decode b_SpeciesSolverModel_number 7 = .ok (.if_icmp .ge 23, 3) := by decide +kernel
theorem d_SpeciesSolverModel_number_10 : decode b_SpeciesSolverModel_number 10 = .ok (.iload_n 2, 1) := by decide +kernel
theorem d_SpeciesSolverModel_number_11 : decode b_SpeciesSolverModel_number 11 = .ok (.iload_n 1, 1) := by decide +kernel
theorem d_SpeciesSolverModel_number_12 : decode b_SpeciesSolverModel_number 12 = .ok (.invokestatic 88, 3) := by decide +kernel
theorem d_SpeciesSolverModel_number_15 : decode b_SpeciesSolverModel_number 15 = .ok (.if_icmp .lt 15, 3) := by decide +kernel
theorem d_SpeciesSolverModel_number_18 : decode b_SpeciesSolverModel_number 18 = .ok (.iload_n 2, 1) := by decide +kernel
theorem d_SpeciesSolverModel_number_19 : decode b_SpeciesSolverModel_number 19 = .ok (.iload_n 1, 1) := by decide +kernel
theorem d_SpeciesSolverModel_number_20 : decode b_SpeciesSolverModel_number 20 = .ok (.invokestatic 92, 3) := by decide +kernel
theorem d_SpeciesSolverModel_number_23 : decode b_SpeciesSolverModel_number 23 = .ok (.if_icmp .gt 7, 3) := by decide +kernel
theorem d_SpeciesSolverModel_number_26 : decode b_SpeciesSolverModel_number 26 = .ok (.iconst 1, 1) := by decide +kernel
theorem d_SpeciesSolverModel_number_27 : decode b_SpeciesSolverModel_number 27 = .ok (.goto 4, 3) := by decide +kernel
theorem d_SpeciesSolverModel_number_30 : decode b_SpeciesSolverModel_number 30 = .ok (.iconst 0, 1) := by decide +kernel
theorem d_SpeciesSolverModel_number_31 : decode b_SpeciesSolverModel_number 31 = .ok (.istore_n 3, 1) := by decide +kernel
theorem d_SpeciesSolverModel_number_32 : decode b_SpeciesSolverModel_number 32 = .ok (.iload_n 3, 1) := by decide +kernel
theorem d_SpeciesSolverModel_number_33 : decode b_SpeciesSolverModel_number 33 = .ok (.ifCond .eq 10, 3) := by decide +kernel
theorem d_SpeciesSolverModel_number_36 : decode b_SpeciesSolverModel_number 36 = .ok (.aload_n 0, 1) := by decide +kernel
theorem d_SpeciesSolverModel_number_37 : decode b_SpeciesSolverModel_number 37 = .ok (.getfield 28, 3) := by decide +kernel
theorem d_SpeciesSolverModel_number_40 : decode b_SpeciesSolverModel_number 40 = .ok (.iload_n 1, 1) := by decide +kernel
theorem d_SpeciesSolverModel_number_41 : decode b_SpeciesSolverModel_number 41 = .ok (.iload_n 2, 1) := by decide +kernel
theorem d_SpeciesSolverModel_number_42 : decode b_SpeciesSolverModel_number 42 = .ok (.iastore, 1) := by decide +kernel
theorem d_SpeciesSolverModel_number_43 : decode b_SpeciesSolverModel_number 43 = .ok (.iload_n 3, 1) := by decide +kernel
theorem d_SpeciesSolverModel_number_44 : decode b_SpeciesSolverModel_number 44 = .ok (.ireturn, 1) := by decide +kernel
abbrev wd_SpeciesSolverModel_number (kc : Nat → ClassId) (ad : Nat → Nat) (md_thrown : Int32) (md_drafted : Int32) (md_lines : Int32) (md_n : Int32) (md_species : Int32) (md_above : Int32) (md_trialSize : Int32) (md_foundSize : Int32) (md_foundSpecies : Int32) (md_foundN : Int32) (md_foundCost : Int32) (md_chosen : Int32) (md_low : Int32) (md_many : Int64) (md_ties : Int64) (md_winnerCost : Int32) (md_allMany : Int64) (md_allTies : Int64) (md_faults : Int32) (md_numbers : Nat → Int32) : va_W := [((ad 0), .inr (1, [.int md_thrown, .ref (ad 1), .int md_drafted, .ref (ad 2), .int md_lines, .int md_n, .int md_species, .int md_above, .ref (ad 3), .ref (ad 4), .ref (ad 5), .int md_trialSize, .ref (ad 6), .int md_foundSize, .int md_foundSpecies, .int md_foundN, .int md_foundCost, .ref (ad 7), .int md_chosen, .ref (ad 8), .ref (ad 9), .ref (ad 10), .int md_low, .long md_many, .long md_ties, .ref (ad 11), .ref (ad 12), .int md_winnerCost, .long md_allMany, .long md_allTies, .ref (ad 13), .ref (ad 14), .ref (ad 15), .ref (ad 16), .int md_faults])), ((ad 4), .inl (kc 0, 18, .inl md_numbers))]
abbrev rm_SpeciesSolverModel_number : Room := { frames := 1, cells := 0, slots := 0, locals := 20 }
abbrev cw_SpeciesSolverModel_number : Cond := .code y_SpeciesSolverModel_number b_SpeciesSolverModel_number 4 (some .boolean)
abbrev ws_SpeciesSolverModel_number : List Cond := cw_SpeciesSolverModel_number :: GW
theorem hd_SpeciesSolverModel_number : y_SpeciesSolverModel_number.cls ≠ "java/lang/invoke/MethodHandle" ∧ y_SpeciesSolverModel_number.cls ≠ "java/lang/invoke/VarHandle" ∧ (parseMethodDescriptor y_SpeciesSolverModel_number.desc).map (fun d => d.parameters.length) = some 2 := by decide +kernel
def m_SpeciesSolverModel_number_31   (md_numbers : Nat → Int32) (x1 : Int32) (x2 : Int32) (t0 : Int32) : Option (Int32 × (Nat → Int32)) :=
  (if t0 = (0 : Int32) then
    (gb t0 (some (t0, md_numbers)))
  else
    (gd x1 18 (gb t0 (some (t0, (upd md_numbers (Int32.toNatClampNeg x1) x2))))))
set_option maxHeartbeats 4000000 in
set_option maxRecDepth 100000 in
theorem l_SpeciesSolverModel_number_31 {r : Int32 × (Nat → Int32)} {ad : Nat → Nat} {md_thrown : Int32} {md_drafted : Int32} {md_lines : Int32} {md_n : Int32} {md_species : Int32} {md_above : Int32} {md_trialSize : Int32} {md_foundSize : Int32} {md_foundSpecies : Int32} {md_foundN : Int32} {md_foundCost : Int32} {md_chosen : Int32} {md_low : Int32} {md_many : Int64} {md_ties : Int64} {md_winnerCost : Int32} {md_allMany : Int64} {md_allTies : Int64} {md_faults : Int32} {md_numbers : Nat → Int32}  {x1 : Int32} {x2 : Int32} {t0 : Int32} {H : Heap} {locs : List Loc} {ls : Array Slot} (C : Cx p s m meth c args A D kc R_SpeciesSolverModel b_SpeciesSolverModel_number 4 (some .boolean))  (hm : m_SpeciesSolverModel_number_31   md_numbers x1 x2 t0 = some r) (hZ : St D A s (wd_SpeciesSolverModel_number kc ad md_thrown md_drafted md_lines md_n md_species md_above md_trialSize md_foundSize md_foundSpecies md_foundN md_foundCost md_chosen md_low md_many md_ties md_winnerCost md_allMany md_allTies md_faults md_numbers) H locs) (hl : lv_has ls 4 [(0, .ref (ad 0)), (1, .int x1), (2, .int x2)]) : W p l e rm_SpeciesSolverModel_number s m args below meth c H locs 0 0 (MQ below (Qi D A (wd_SpeciesSolverModel_number kc ad md_thrown md_drafted md_lines md_n md_species md_above md_trialSize md_foundSize md_foundSpecies md_foundN md_foundCost md_chosen md_low md_many md_ties md_winnerCost md_allMany md_allTies md_faults r.2) r.1) args s 0 0 A) (F0 m 31 ls [.int t0]) := by
  obtain ⟨hx, hb, hr, hts, hown, hml, hlocks, hK, hN, hA, hX⟩ := id C
  obtain ⟨hP, hD, hS⟩ := hZ
  unfold m_SpeciesSolverModel_number_31 at hm
  refine lv_istore_n (lv' := [(3, .int t0), (0, .ref (ad 0)), (1, .int x1), (2, .int x2)]) hx hb d_SpeciesSolverModel_number_31 rfl hl (by decide) rfl (fun ls hl => ?_)
  refine lv_iload_n hx hb d_SpeciesSolverModel_number_32 rfl (lv_at hl 0 rfl) ?_
  refine lv_if_eq (tgt := 43) hx hb d_SpeciesSolverModel_number_33 (by decide) (fun c1 => ?_) (fun c1 => ?_)
  · replace hm := ifT hm c1
    refine lv_iload_n hx hb d_SpeciesSolverModel_number_43 rfl (lv_at hl 0 rfl) ?_
    obtain ⟨hz2, hm⟩ := gb_some hm
    replace hm := Option.some.inj hm; subst hm
    exact zret_z (v := t0) C hP hD hS (gb_nar hz2) d_SpeciesSolverModel_number_44
  · replace hm := ifF hm c1
    refine lv_aload_n hx hb d_SpeciesSolverModel_number_36 rfl (lv_at hl 1 rfl) ?_
    refine va_get (D := D) (ci := 1) (v := .ref (ad 4)) (C := R_SpeciesSolverModel) (T := T_SpeciesSolverModel) (N := 35) hx hb hts inG_SpeciesSolverModel hown hK hP 0 rfl rfl 9 (by decide) (hts _ gw_827) (fun _ h9 => h9) rfl d_SpeciesSolverModel_number_37 ?_
    refine lv_iload_n hx hb d_SpeciesSolverModel_number_40 rfl (lv_at hl 2 rfl) ?_
    refine lv_iload_n hx hb d_SpeciesSolverModel_number_41 rfl (lv_at hl 3 rfl) ?_
    obtain ⟨hi3, hm⟩ := gd_some hm
    refine va_iast hx hb hK hP hD hS 1 0 rfl rfl hi3 d_SpeciesSolverModel_number_42 (fun H locs hP hD hS => ?_)
    replace hP : va_P D vwCl (wd_SpeciesSolverModel_number kc ad md_thrown md_drafted md_lines md_n md_species md_above md_trialSize md_foundSize md_foundSpecies md_foundN md_foundCost md_chosen md_low md_many md_ties md_winnerCost md_allMany md_allTies md_faults (upd md_numbers (Int32.toNatClampNeg x1) x2)) H := hP
    replace hD : va_D A (wd_SpeciesSolverModel_number kc ad md_thrown md_drafted md_lines md_n md_species md_above md_trialSize md_foundSize md_foundSpecies md_foundN md_foundCost md_chosen md_low md_many md_ties md_winnerCost md_allMany md_allTies md_faults (upd md_numbers (Int32.toNatClampNeg x1) x2)) := hD
    refine lv_iload_n hx hb d_SpeciesSolverModel_number_43 rfl (lv_at hl 0 rfl) ?_
    obtain ⟨hz4, hm⟩ := gb_some hm
    replace hm := Option.some.inj hm; subst hm
    exact zret_z (v := t0) C hP hD hS (gb_nar hz4) d_SpeciesSolverModel_number_44
def m_SpeciesSolverModel_number_30   (md_numbers : Nat → Int32) (x1 : Int32) (x2 : Int32) : Option (Int32 × (Nat → Int32)) :=
  m_SpeciesSolverModel_number_31   md_numbers x1 x2 (0 : Int32)
set_option maxHeartbeats 4000000 in
set_option maxRecDepth 100000 in
theorem l_SpeciesSolverModel_number_30 {r : Int32 × (Nat → Int32)} {ad : Nat → Nat} {md_thrown : Int32} {md_drafted : Int32} {md_lines : Int32} {md_n : Int32} {md_species : Int32} {md_above : Int32} {md_trialSize : Int32} {md_foundSize : Int32} {md_foundSpecies : Int32} {md_foundN : Int32} {md_foundCost : Int32} {md_chosen : Int32} {md_low : Int32} {md_many : Int64} {md_ties : Int64} {md_winnerCost : Int32} {md_allMany : Int64} {md_allTies : Int64} {md_faults : Int32} {md_numbers : Nat → Int32}  {x1 : Int32} {x2 : Int32} {H : Heap} {locs : List Loc} {ls : Array Slot} (C : Cx p s m meth c args A D kc R_SpeciesSolverModel b_SpeciesSolverModel_number 4 (some .boolean))  (hm : m_SpeciesSolverModel_number_30   md_numbers x1 x2 = some r) (hZ : St D A s (wd_SpeciesSolverModel_number kc ad md_thrown md_drafted md_lines md_n md_species md_above md_trialSize md_foundSize md_foundSpecies md_foundN md_foundCost md_chosen md_low md_many md_ties md_winnerCost md_allMany md_allTies md_faults md_numbers) H locs) (hl : lv_has ls 4 [(0, .ref (ad 0)), (1, .int x1), (2, .int x2)]) : W p l e rm_SpeciesSolverModel_number s m args below meth c H locs 0 0 (MQ below (Qi D A (wd_SpeciesSolverModel_number kc ad md_thrown md_drafted md_lines md_n md_species md_above md_trialSize md_foundSize md_foundSpecies md_foundN md_foundCost md_chosen md_low md_many md_ties md_winnerCost md_allMany md_allTies md_faults r.2) r.1) args s 0 0 A) (F0 m 30 ls []) := by
  obtain ⟨hx, hb, hr, hts, hown, hml, hlocks, hK, hN, hA, hX⟩ := id C
  obtain ⟨hP, hD, hS⟩ := hZ
  unfold m_SpeciesSolverModel_number_30 at hm
  refine lv_iconst (v := 0) hx hb d_SpeciesSolverModel_number_30 (by decide) ?_
  exact l_SpeciesSolverModel_number_31 C  hm ⟨hP, hD, hS⟩ (lv_sub hl [0, 1, 2] rfl)
def m_SpeciesSolverModel_number  (md_numbers : Nat → Int32) (a1 : Int32) (a2 : Int32) : Option (Int32 × (Nat → Int32)) :=
  (if a1 < (0 : Int32) then
    m_SpeciesSolverModel_number_30   md_numbers a1 a2
  else
    (if (18 : Int32) ≤ a1 then
      m_SpeciesSolverModel_number_30   md_numbers a1 a2
    else
      (bd (m_SpeciesSolverModel_leastOf a1) (fun u3 => (if a2 < u3 then
        m_SpeciesSolverModel_number_30   md_numbers a1 a2
      else
        (bd (m_SpeciesSolverModel_mostOf a1) (fun u6 => (if u6 < a2 then
          m_SpeciesSolverModel_number_30   md_numbers a1 a2
        else
          m_SpeciesSolverModel_number_31   md_numbers a1 a2 (1 : Int32)))))))))
set_option maxHeartbeats 4000000 in
set_option maxRecDepth 100000 in
theorem e_SpeciesSolverModel_number {r : Int32 × (Nat → Int32)} {ad : Nat → Nat} {md_thrown : Int32} {md_drafted : Int32} {md_lines : Int32} {md_n : Int32} {md_species : Int32} {md_above : Int32} {md_trialSize : Int32} {md_foundSize : Int32} {md_foundSpecies : Int32} {md_foundN : Int32} {md_foundCost : Int32} {md_chosen : Int32} {md_low : Int32} {md_many : Int64} {md_ties : Int64} {md_winnerCost : Int32} {md_allMany : Int64} {md_allTies : Int64} {md_faults : Int32} {md_numbers : Nat → Int32} {a1 : Int32} {a2 : Int32} {H : Heap} {locs : List Loc} {ls : Array Slot} (C : Cx p s m meth c args A D kc R_SpeciesSolverModel b_SpeciesSolverModel_number 4 (some .boolean)) (hm : m_SpeciesSolverModel_number  md_numbers a1 a2 = some r) (hZ : St D A s (wd_SpeciesSolverModel_number kc ad md_thrown md_drafted md_lines md_n md_species md_above md_trialSize md_foundSize md_foundSpecies md_foundN md_foundCost md_chosen md_low md_many md_ties md_winnerCost md_allMany md_allTies md_faults md_numbers) H locs) (hl : lv_has ls 4 [(0, .ref (ad 0)), (1, .int a1), (2, .int a2)]) : W p l e rm_SpeciesSolverModel_number s m args below meth c H locs 0 0 (MQ below (Qi D A (wd_SpeciesSolverModel_number kc ad md_thrown md_drafted md_lines md_n md_species md_above md_trialSize md_foundSize md_foundSpecies md_foundN md_foundCost md_chosen md_low md_many md_ties md_winnerCost md_allMany md_allTies md_faults r.2) r.1) args s 0 0 A) (F0 m 0 ls []) := by
  obtain ⟨hx, hb, hr, hts, hown, hml, hlocks, hK, hN, hA, hX⟩ := id C
  obtain ⟨hP, hD, hS⟩ := hZ
  unfold m_SpeciesSolverModel_number at hm
  refine lv_iload_n hx hb d_SpeciesSolverModel_number_0 rfl (lv_at hl 1 rfl) ?_
  refine lv_if_lt (tgt := 30) hx hb d_SpeciesSolverModel_number_1 (by decide) (fun c1 => ?_) (fun c1 => ?_)
  · replace hm := ifT hm c1
    exact l_SpeciesSolverModel_number_30 C  hm ⟨hP, hD, hS⟩ (lv_sub hl [0, 1, 2] rfl)
  · replace hm := ifF hm c1
    refine lv_iload_n hx hb d_SpeciesSolverModel_number_4 rfl (lv_at hl 1 rfl) ?_
    refine lv_bipush (v := 18) hx hb d_SpeciesSolverModel_number_5 (by decide) ?_
    refine lv_icmp_ge (tgt := 30) hx hb d_SpeciesSolverModel_number_7 (by decide) (fun c2 => ?_) (fun c2 => ?_)
    · replace hm := ifT hm c2
      exact l_SpeciesSolverModel_number_30 C  hm ⟨hP, hD, hS⟩ (lv_sub hl [0, 1, 2] rfl)
    · replace hm := ifF hm c2
      refine lv_iload_n hx hb d_SpeciesSolverModel_number_10 rfl (lv_at hl 2 rfl) ?_
      refine lv_iload_n hx hb d_SpeciesSolverModel_number_11 rfl (lv_at hl 1 rfl) ?_
      obtain ⟨u3, hc4, hm⟩ := bd_some hm
      refine zS_i (n := 1) (wr := [((ad 0), .inr (1, [.int md_thrown, .ref (ad 1), .int md_drafted, .ref (ad 2), .int md_lines, .int md_n, .int md_species, .int md_above, .ref (ad 3), .ref (ad 4), .ref (ad 5), .int md_trialSize, .ref (ad 6), .int md_foundSize, .int md_foundSpecies, .int md_foundN, .int md_foundCost, .ref (ad 7), .int md_chosen, .ref (ad 8), .ref (ad 9), .ref (ad 10), .int md_low, .long md_many, .long md_ties, .ref (ad 11), .ref (ad 12), .int md_winnerCost, .long md_allMany, .long md_allTies, .ref (ad 13), .ref (ad 14), .ref (ad 15), .ref (ad 16), .int md_faults])), ((ad 4), .inl (kc 0, 18, .inl md_numbers))]) (w1 := (wd_SpeciesSolverModel_leastOf kc )) (ws1 := (wd_SpeciesSolverModel_number kc ad md_thrown md_drafted md_lines md_n md_species md_above md_trialSize md_foundSize md_foundSpecies md_foundN md_foundCost md_chosen md_low md_many md_ties md_winnerCost md_allMany md_allTies md_faults md_numbers)) (As := [.int a1]) (rest := [.int a2]) (y := y_SpeciesSolverModel_leastOf) ⟨hx, hb, hml, hown, hts⟩ (fun sz => c_SpeciesSolverModel_leastOf hc4 sz) gw_954 gw_952 gw_953 gw_118 rfl hd_SpeciesSolverModel_leastOf ⟨Nat.le_of_ble_eq_true rfl, Nat.le_of_ble_eq_true rfl⟩ ⟨rfl, rfl⟩ ⟨Nat.zero_le _, Nat.zero_le _⟩ hK hN hP hD hS hA hX [] [0, 1] [0, 1] rfl rfl (by decide) (by decide) (by decide) rfl (by decide) rfl hl.1 rfl (Nat.le_of_ble_eq_true rfl) d_SpeciesSolverModel_number_12 (fun H locs hP hD hS => ?_)
      refine lv_icmp_lt (tgt := 30) hx hb d_SpeciesSolverModel_number_15 (by decide) (fun c5 => ?_) (fun c5 => ?_)
      · replace hm := ifT hm c5
        exact l_SpeciesSolverModel_number_30 C  hm ⟨hP, hD, hS⟩ (lv_sub hl [0, 1, 2] rfl)
      · replace hm := ifF hm c5
        refine lv_iload_n hx hb d_SpeciesSolverModel_number_18 rfl (lv_at hl 2 rfl) ?_
        refine lv_iload_n hx hb d_SpeciesSolverModel_number_19 rfl (lv_at hl 1 rfl) ?_
        obtain ⟨u6, hc7, hm⟩ := bd_some hm
        refine zS_i (n := 1) (wr := [((ad 0), .inr (1, [.int md_thrown, .ref (ad 1), .int md_drafted, .ref (ad 2), .int md_lines, .int md_n, .int md_species, .int md_above, .ref (ad 3), .ref (ad 4), .ref (ad 5), .int md_trialSize, .ref (ad 6), .int md_foundSize, .int md_foundSpecies, .int md_foundN, .int md_foundCost, .ref (ad 7), .int md_chosen, .ref (ad 8), .ref (ad 9), .ref (ad 10), .int md_low, .long md_many, .long md_ties, .ref (ad 11), .ref (ad 12), .int md_winnerCost, .long md_allMany, .long md_allTies, .ref (ad 13), .ref (ad 14), .ref (ad 15), .ref (ad 16), .int md_faults])), ((ad 4), .inl (kc 0, 18, .inl md_numbers))]) (w1 := (wd_SpeciesSolverModel_mostOf kc )) (ws1 := (wd_SpeciesSolverModel_number kc ad md_thrown md_drafted md_lines md_n md_species md_above md_trialSize md_foundSize md_foundSpecies md_foundN md_foundCost md_chosen md_low md_many md_ties md_winnerCost md_allMany md_allTies md_faults md_numbers)) (As := [.int a1]) (rest := [.int a2]) (y := y_SpeciesSolverModel_mostOf) ⟨hx, hb, hml, hown, hts⟩ (fun sz => c_SpeciesSolverModel_mostOf hc7 sz) gw_957 gw_955 gw_956 gw_118 rfl hd_SpeciesSolverModel_mostOf ⟨Nat.le_of_ble_eq_true rfl, Nat.le_of_ble_eq_true rfl⟩ ⟨rfl, rfl⟩ ⟨Nat.zero_le _, Nat.zero_le _⟩ hK hN hP hD hS hA hX [] [0, 1] [0, 1] rfl rfl (by decide) (by decide) (by decide) rfl (by decide) rfl hl.1 rfl (Nat.le_of_ble_eq_true rfl) d_SpeciesSolverModel_number_20 (fun H locs hP hD hS => ?_)
        refine lv_icmp_gt (tgt := 30) hx hb d_SpeciesSolverModel_number_23 (by decide) (fun c8 => ?_) (fun c8 => ?_)
        · replace hm := ifT hm c8
          exact l_SpeciesSolverModel_number_30 C  hm ⟨hP, hD, hS⟩ (lv_sub hl [0, 1, 2] rfl)
        · replace hm := ifF hm c8
          refine lv_iconst (v := 1) hx hb d_SpeciesSolverModel_number_26 (by decide) ?_
          refine lv_goto (tgt := 31) hx hb d_SpeciesSolverModel_number_27 (by decide) ?_
          exact l_SpeciesSolverModel_number_31 C  hm ⟨hP, hD, hS⟩ (lv_sub hl [0, 1, 2] rfl)
set_option maxHeartbeats 4000000 in
set_option maxRecDepth 100000 in
theorem c_SpeciesSolverModel_number {l : Launch} {D : va_G} {kc : Nat → ClassId} {r : Int32 × (Nat → Int32)} {ad : Nat → Nat} {md_thrown : Int32} {md_drafted : Int32} {md_lines : Int32} {md_n : Int32} {md_species : Int32} {md_above : Int32} {md_trialSize : Int32} {md_foundSize : Int32} {md_foundSpecies : Int32} {md_foundN : Int32} {md_foundCost : Int32} {md_chosen : Int32} {md_low : Int32} {md_many : Int64} {md_ties : Int64} {md_winnerCost : Int32} {md_allMany : Int64} {md_allTies : Int64} {md_faults : Int32} {md_numbers : Nat → Int32} {a1 : Int32} {a2 : Int32} (hm : m_SpeciesSolverModel_number  md_numbers a1 a2 = some r) (sz : Nat) : Ci l y_SpeciesSolverModel_number ws_SpeciesSolverModel_number rm_SpeciesSolverModel_number D kc sz [.ref (ad 0), .int a1, .int a2] (wd_SpeciesSolverModel_number kc ad md_thrown md_drafted md_lines md_n md_species md_above md_trialSize md_foundSize md_foundSpecies md_foundN md_foundCost md_chosen md_low md_many md_ties md_winnerCost md_allMany md_allTies md_faults md_numbers) (wd_SpeciesSolverModel_number kc ad md_thrown md_drafted md_lines md_n md_species md_above md_trialSize md_foundSize md_foundSpecies md_foundN md_foundCost md_chosen md_low md_many md_ties md_winnerCost md_allMany md_allTies md_faults r.2) r.1 :=
  Cz_of (Qf := fun A => (Qi D A (wd_SpeciesSolverModel_number kc ad md_thrown md_drafted md_lines md_n md_species md_above md_trialSize md_foundSize md_foundSpecies md_foundN md_foundCost md_chosen md_low md_many md_ties md_winnerCost md_allMany md_allTies md_faults r.2) r.1)) (cc := b_SpeciesSolverModel_number) (maxL := 4) (ret := (some .boolean)) (by decide) rfl rfl (fun C hZ hl => e_SpeciesSolverModel_number C hm hZ hl)
abbrev b_SpeciesSolverModel_setting : ByteArray := prog_9_method_12_code
abbrev y_SpeciesSolverModel_setting : MethodName := ⟨"SpeciesSolverModel", "setting", "(I)I"⟩
theorem d_SpeciesSolverModel_setting_0 : decode b_SpeciesSolverModel_setting 0 = .ok (.iload_n 1, 1) := by decide +kernel
theorem d_SpeciesSolverModel_setting_1 : decode b_SpeciesSolverModel_setting 1 = .ok (.ifCond .lt 9, 3) := by decide +kernel
theorem d_SpeciesSolverModel_setting_4 : decode b_SpeciesSolverModel_setting 4 = .ok (.iload_n 1, 1) := by decide +kernel
theorem d_SpeciesSolverModel_setting_5 : decode b_SpeciesSolverModel_setting 5 = .ok (.bipush 17, 2) := by decide +kernel
theorem d_SpeciesSolverModel_setting_7 : decode b_SpeciesSolverModel_setting 7 = .ok (.if_icmp .le 7, 3) := by decide +kernel
theorem d_SpeciesSolverModel_setting_10 : decode b_SpeciesSolverModel_setting 10 = .ok (.iconst (-1), 1) := by decide +kernel
theorem d_SpeciesSolverModel_setting_11 : decode b_SpeciesSolverModel_setting 11 = .ok (.goto 9, 3) := by decide +kernel
theorem d_SpeciesSolverModel_setting_14 : decode b_SpeciesSolverModel_setting 14 = .ok (.aload_n 0, 1) := by decide +kernel
theorem d_SpeciesSolverModel_setting_15 : decode b_SpeciesSolverModel_setting 15 = .ok (.getfield 28, 3) := by decide +kernel
theorem d_SpeciesSolverModel_setting_18 : decode b_SpeciesSolverModel_setting 18 = .ok (.iload_n 1, 1) := by decide +kernel
theorem d_SpeciesSolverModel_setting_19 : decode b_SpeciesSolverModel_setting 19 = .ok (.iaload, 1) := by decide +kernel
theorem d_SpeciesSolverModel_setting_20 : decode b_SpeciesSolverModel_setting 20 = .ok (.ireturn, 1) := by decide +kernel
abbrev wd_SpeciesSolverModel_setting (kc : Nat → ClassId) (ad : Nat → Nat) (md_thrown : Int32) (md_drafted : Int32) (md_lines : Int32) (md_n : Int32) (md_species : Int32) (md_above : Int32) (md_trialSize : Int32) (md_foundSize : Int32) (md_foundSpecies : Int32) (md_foundN : Int32) (md_foundCost : Int32) (md_chosen : Int32) (md_low : Int32) (md_many : Int64) (md_ties : Int64) (md_winnerCost : Int32) (md_allMany : Int64) (md_allTies : Int64) (md_faults : Int32) (md_numbers : Nat → Int32) : va_W := [((ad 0), .inr (1, [.int md_thrown, .ref (ad 1), .int md_drafted, .ref (ad 2), .int md_lines, .int md_n, .int md_species, .int md_above, .ref (ad 3), .ref (ad 4), .ref (ad 5), .int md_trialSize, .ref (ad 6), .int md_foundSize, .int md_foundSpecies, .int md_foundN, .int md_foundCost, .ref (ad 7), .int md_chosen, .ref (ad 8), .ref (ad 9), .ref (ad 10), .int md_low, .long md_many, .long md_ties, .ref (ad 11), .ref (ad 12), .int md_winnerCost, .long md_allMany, .long md_allTies, .ref (ad 13), .ref (ad 14), .ref (ad 15), .ref (ad 16), .int md_faults])), ((ad 4), .inl (kc 0, 18, .inl md_numbers))]
abbrev rm_SpeciesSolverModel_setting : Room := { frames := 0, cells := 0, slots := 0, locals := 0 }
abbrev cw_SpeciesSolverModel_setting : Cond := .code y_SpeciesSolverModel_setting b_SpeciesSolverModel_setting 2 (some .int)
abbrev ws_SpeciesSolverModel_setting : List Cond := cw_SpeciesSolverModel_setting :: GW
theorem hd_SpeciesSolverModel_setting : y_SpeciesSolverModel_setting.cls ≠ "java/lang/invoke/MethodHandle" ∧ y_SpeciesSolverModel_setting.cls ≠ "java/lang/invoke/VarHandle" ∧ (parseMethodDescriptor y_SpeciesSolverModel_setting.desc).map (fun d => d.parameters.length) = some 1 := by decide +kernel
def m_SpeciesSolverModel_setting (md_numbers : Nat → Int32)  (a1 : Int32) : Option (Int32) :=
  (if a1 < (0 : Int32) then
    (some (-1 : Int32))
  else
    (if a1 ≤ (17 : Int32) then
      (gd a1 18 (some (md_numbers (Int32.toNatClampNeg a1))))
    else
      (some (-1 : Int32))))
set_option maxHeartbeats 4000000 in
set_option maxRecDepth 100000 in
theorem e_SpeciesSolverModel_setting {r : Int32} {ad : Nat → Nat} {md_thrown : Int32} {md_drafted : Int32} {md_lines : Int32} {md_n : Int32} {md_species : Int32} {md_above : Int32} {md_trialSize : Int32} {md_foundSize : Int32} {md_foundSpecies : Int32} {md_foundN : Int32} {md_foundCost : Int32} {md_chosen : Int32} {md_low : Int32} {md_many : Int64} {md_ties : Int64} {md_winnerCost : Int32} {md_allMany : Int64} {md_allTies : Int64} {md_faults : Int32} {md_numbers : Nat → Int32} {a1 : Int32} {H : Heap} {locs : List Loc} {ls : Array Slot} (C : Cx p s m meth c args A D kc R_SpeciesSolverModel b_SpeciesSolverModel_setting 2 (some .int)) (hm : m_SpeciesSolverModel_setting md_numbers a1 = some r) (hZ : St D A s (wd_SpeciesSolverModel_setting kc ad md_thrown md_drafted md_lines md_n md_species md_above md_trialSize md_foundSize md_foundSpecies md_foundN md_foundCost md_chosen md_low md_many md_ties md_winnerCost md_allMany md_allTies md_faults md_numbers) H locs) (hl : lv_has ls 2 [(0, .ref (ad 0)), (1, .int a1)]) : W p l e rm_SpeciesSolverModel_setting s m args below meth c H locs 0 0 (MQ below (Qi D A (wd_SpeciesSolverModel_setting kc ad md_thrown md_drafted md_lines md_n md_species md_above md_trialSize md_foundSize md_foundSpecies md_foundN md_foundCost md_chosen md_low md_many md_ties md_winnerCost md_allMany md_allTies md_faults md_numbers) r) args s 0 0 A) (F0 m 0 ls []) := by
  obtain ⟨hx, hb, hr, hts, hown, hml, hlocks, hK, hN, hA, hX⟩ := id C
  obtain ⟨hP, hD, hS⟩ := hZ
  unfold m_SpeciesSolverModel_setting at hm
  refine lv_iload_n hx hb d_SpeciesSolverModel_setting_0 rfl (lv_at hl 1 rfl) ?_
  refine lv_if_lt (tgt := 10) hx hb d_SpeciesSolverModel_setting_1 (by decide) (fun c1 => ?_) (fun c1 => ?_)
  · replace hm := ifT hm c1
    refine lv_iconst (v := -1) hx hb d_SpeciesSolverModel_setting_10 (by decide) ?_
    refine lv_goto (tgt := 20) hx hb d_SpeciesSolverModel_setting_11 (by decide) ?_
    replace hm := Option.some.inj hm; subst hm
    exact zret_i C hP hD hS d_SpeciesSolverModel_setting_20
  · replace hm := ifF hm c1
    refine lv_iload_n hx hb d_SpeciesSolverModel_setting_4 rfl (lv_at hl 1 rfl) ?_
    refine lv_bipush (v := 17) hx hb d_SpeciesSolverModel_setting_5 (by decide) ?_
    refine lv_icmp_le (tgt := 14) hx hb d_SpeciesSolverModel_setting_7 (by decide) (fun c2 => ?_) (fun c2 => ?_)
    · replace hm := ifT hm c2
      refine lv_aload_n hx hb d_SpeciesSolverModel_setting_14 rfl (lv_at hl 0 rfl) ?_
      refine va_get (D := D) (ci := 1) (v := .ref (ad 4)) (C := R_SpeciesSolverModel) (T := T_SpeciesSolverModel) (N := 35) hx hb hts inG_SpeciesSolverModel hown hK hP 0 rfl rfl 9 (by decide) (hts _ gw_827) (fun _ h9 => h9) rfl d_SpeciesSolverModel_setting_15 ?_
      refine lv_iload_n hx hb d_SpeciesSolverModel_setting_18 rfl (lv_at hl 1 rfl) ?_
      obtain ⟨hi3, hm⟩ := gd_some hm
      refine va_iald hx hb hK hP 1 0 rfl rfl hi3 d_SpeciesSolverModel_setting_19 ?_
      replace hm := Option.some.inj hm; subst hm
      exact zret_i C hP hD hS d_SpeciesSolverModel_setting_20
    · replace hm := ifF hm c2
      refine lv_iconst (v := -1) hx hb d_SpeciesSolverModel_setting_10 (by decide) ?_
      refine lv_goto (tgt := 20) hx hb d_SpeciesSolverModel_setting_11 (by decide) ?_
      replace hm := Option.some.inj hm; subst hm
      exact zret_i C hP hD hS d_SpeciesSolverModel_setting_20
set_option maxHeartbeats 4000000 in
set_option maxRecDepth 100000 in
theorem c_SpeciesSolverModel_setting {l : Launch} {D : va_G} {kc : Nat → ClassId} {r : Int32} {ad : Nat → Nat} {md_thrown : Int32} {md_drafted : Int32} {md_lines : Int32} {md_n : Int32} {md_species : Int32} {md_above : Int32} {md_trialSize : Int32} {md_foundSize : Int32} {md_foundSpecies : Int32} {md_foundN : Int32} {md_foundCost : Int32} {md_chosen : Int32} {md_low : Int32} {md_many : Int64} {md_ties : Int64} {md_winnerCost : Int32} {md_allMany : Int64} {md_allTies : Int64} {md_faults : Int32} {md_numbers : Nat → Int32} {a1 : Int32} (hm : m_SpeciesSolverModel_setting md_numbers a1 = some r) (sz : Nat) : Ci l y_SpeciesSolverModel_setting ws_SpeciesSolverModel_setting rm_SpeciesSolverModel_setting D kc sz [.ref (ad 0), .int a1] (wd_SpeciesSolverModel_setting kc ad md_thrown md_drafted md_lines md_n md_species md_above md_trialSize md_foundSize md_foundSpecies md_foundN md_foundCost md_chosen md_low md_many md_ties md_winnerCost md_allMany md_allTies md_faults md_numbers) (wd_SpeciesSolverModel_setting kc ad md_thrown md_drafted md_lines md_n md_species md_above md_trialSize md_foundSize md_foundSpecies md_foundN md_foundCost md_chosen md_low md_many md_ties md_winnerCost md_allMany md_allTies md_faults md_numbers) r :=
  Cz_of (Qf := fun A => (Qi D A (wd_SpeciesSolverModel_setting kc ad md_thrown md_drafted md_lines md_n md_species md_above md_trialSize md_foundSize md_foundSpecies md_foundN md_foundCost md_chosen md_low md_many md_ties md_winnerCost md_allMany md_allTies md_faults md_numbers) r)) (cc := b_SpeciesSolverModel_setting) (maxL := 2) (ret := (some .int)) (by decide) rfl rfl (fun C hZ hl => e_SpeciesSolverModel_setting C hm hZ hl)
end
