section
variable {p : Program} {l : Launch} {e : Env} {s : State} {m : MethodId} {args : Array Value} {below : List Frame} {meth : Method} {c : Code} {D : va_G} {kc : Nat → ClassId} {A : Nat → Prop}
abbrev b_Line_append : ByteArray := prog_3_method_3_code
abbrev y_Line_append : MethodName := ⟨"SpeciesSolver$Line", "append", "(I)V"⟩
theorem d_Line_append_0 : decode b_Line_append 0 = .ok (.aload_n 0, 1) := by decide +kernel
theorem d_Line_append_1 : decode b_Line_append 1 = .ok (.getfield 15, 3) := by decide +kernel
theorem d_Line_append_4 : decode b_Line_append 4 = .ok (.bipush 45, 2) := by decide +kernel
theorem d_Line_append_6 : decode b_Line_append 6 = .ok (.if_icmp .ge 23, 3) := by decide +kernel
theorem d_Line_append_9 : decode b_Line_append 9 = .ok (.aload_n 0, 1) := by decide +kernel
theorem d_Line_append_10 : decode b_Line_append 10 = .ok (.getfield 9, 3) := by decide +kernel
theorem d_Line_append_13 : decode b_Line_append 13 = .ok (.aload_n 0, 1) := by decide +kernel
theorem d_Line_append_14 : decode b_Line_append 14 = .ok (.getfield 15, 3) := by decide +kernel
theorem d_Line_append_17 : decode b_Line_append 17 = .ok (.iload_n 1, 1) := by decide +kernel
theorem d_Line_append_18 : decode b_Line_append 18 = .ok (.iastore, 1) := by decide +kernel
theorem d_Line_append_19 : decode b_Line_append 19 = .ok (.aload_n 0, 1) := by decide +kernel
theorem d_Line_append_20 : decode b_Line_append 20 = .ok (.dup, 1) := by decide +kernel
theorem d_Line_append_21 : decode b_Line_append 21 = .ok (.getfield 15, 3) := by decide +kernel
theorem d_Line_append_24 : decode b_Line_append 24 = .ok (.iconst 1, 1) := by decide +kernel
theorem d_Line_append_25 : decode b_Line_append 25 = .ok (.iadd, 1) := by decide +kernel
theorem d_Line_append_26 : decode b_Line_append 26 = .ok (.putfield 15, 3) := by decide +kernel
theorem d_Line_append_29 : decode b_Line_append 29 = .ok (.return_, 1) := by decide +kernel
abbrev wd_Line_append (kc : Nat → ClassId) (xa : Nat) (xb : Nat) (X_size : Int32) (X_notes : Nat → Int32) : va_W := [(xa, .inr (3, [.ref xb, .int X_size])), (xb, .inl (kc 0, 45, .inl X_notes))]
abbrev rm_Line_append : Room := { frames := 0, cells := 0, slots := 0, locals := 0 }
abbrev cw_Line_append : Cond := .code y_Line_append b_Line_append 2 none
abbrev ws_Line_append : List Cond := cw_Line_append :: GW
theorem hd_Line_append : y_Line_append.cls ≠ "java/lang/invoke/MethodHandle" ∧ y_Line_append.cls ≠ "java/lang/invoke/VarHandle" ∧ (parseMethodDescriptor y_Line_append.desc).map (fun d => d.parameters.length) = some 1 := by decide +kernel
def m_Line_append  (X_size : Int32) (X_notes : Nat → Int32) (a1 : Int32) : Option (Int32 × (Nat → Int32)) :=
  (if (45 : Int32) ≤ X_size then
    (some (X_size, X_notes))
  else
    (gd X_size 45 (some ((X_size + (1 : Int32)), (upd X_notes (Int32.toNatClampNeg X_size) a1)))))
set_option maxHeartbeats 4000000 in
set_option maxRecDepth 100000 in
theorem e_Line_append {r : Int32 × (Nat → Int32)} {xa : Nat} {xb : Nat} {X_size : Int32} {X_notes : Nat → Int32} {a1 : Int32} {H : Heap} {locs : List Loc} {ls : Array Slot} (C : Cx p s m meth c args A D kc R_Line b_Line_append 2 none) (hm : m_Line_append  X_size X_notes a1 = some r) (hZ : St D A s (wd_Line_append kc xa xb X_size X_notes) H locs) (hl : lv_has ls 2 [(0, .ref xa), (1, .int a1)]) : W p l e rm_Line_append s m args below meth c H locs 0 0 (MQ below (Qv D A (wd_Line_append kc xa xb r.1 r.2)) args s 0 0 A) (F0 m 0 ls []) := by
  obtain ⟨hx, hb, hr, hts, hown, hml, hlocks, hK, hN, hA, hX⟩ := id C
  obtain ⟨hP, hD, hS⟩ := hZ
  unfold m_Line_append at hm
  refine lv_aload_n hx hb d_Line_append_0 rfl (lv_at hl 0 rfl) ?_
  refine va_get (D := D) (ci := 3) (v := .int X_size) (C := R_Line) (T := T_Line) (N := 2) hx hb hts inG_Line hown hK hP 0 rfl rfl 1 (by decide) (hts _ gw_136) (fun _ h9 => h9) rfl d_Line_append_1 ?_
  refine lv_bipush (v := 45) hx hb d_Line_append_4 (by decide) ?_
  refine lv_icmp_ge (tgt := 29) hx hb d_Line_append_6 (by decide) (fun c1 => ?_) (fun c1 => ?_)
  · replace hm := ifT hm c1
    replace hm := Option.some.inj hm; subst hm
    exact zret_v C hP hD hS d_Line_append_29
  · replace hm := ifF hm c1
    refine lv_aload_n hx hb d_Line_append_9 rfl (lv_at hl 0 rfl) ?_
    refine va_get (D := D) (ci := 3) (v := .ref xb) (C := R_Line) (T := T_Line) (N := 2) hx hb hts inG_Line hown hK hP 0 rfl rfl 0 (by decide) (hts _ gw_133) (fun _ h9 => h9) rfl d_Line_append_10 ?_
    refine lv_aload_n hx hb d_Line_append_13 rfl (lv_at hl 0 rfl) ?_
    refine va_get (D := D) (ci := 3) (v := .int X_size) (C := R_Line) (T := T_Line) (N := 2) hx hb hts inG_Line hown hK hP 0 rfl rfl 1 (by decide) (hts _ gw_136) (fun _ h9 => h9) rfl d_Line_append_14 ?_
    refine lv_iload_n hx hb d_Line_append_17 rfl (lv_at hl 1 rfl) ?_
    obtain ⟨hi2, hm⟩ := gd_some hm
    refine va_iast hx hb hK hP hD hS 1 0 rfl rfl hi2 d_Line_append_18 (fun H locs hP hD hS => ?_)
    replace hP : va_P D vwCl (wd_Line_append kc xa xb X_size (upd X_notes (Int32.toNatClampNeg X_size) a1)) H := hP
    replace hD : va_D A (wd_Line_append kc xa xb X_size (upd X_notes (Int32.toNatClampNeg X_size) a1)) := hD
    refine lv_aload_n hx hb d_Line_append_19 rfl (lv_at hl 0 rfl) ?_
    refine lv_dup hx hb d_Line_append_20 rfl ?_
    refine va_get (D := D) (ci := 3) (v := .int X_size) (C := R_Line) (T := T_Line) (N := 2) hx hb hts inG_Line hown hK hP 0 rfl rfl 1 (by decide) (hts _ gw_136) (fun _ h9 => h9) rfl d_Line_append_21 ?_
    refine lv_iconst (v := 1) hx hb d_Line_append_24 (by decide) ?_
    refine lv_iadd hx hb d_Line_append_25 ?_
    refine va_put (D := D) (ci := 3) (v := .int (X_size + (1 : Int32))) (ty := .int) (C := R_Line) (T := T_Line) (N := 2) hx hb hts inG_Line ty_Line tok_Line nmo_Line hown hK hP hD hS 0 rfl rfl 1 (by decide) (hts _ gw_136) (fun _ h9 => h9) rfl (tok_Line 1 (by decide)) rfl rfl (Nat.le_of_ble_eq_true rfl) d_Line_append_26 (fun H locs hP hD hS => ?_)
    replace hP : va_P D vwCl (wd_Line_append kc xa xb (X_size + (1 : Int32)) (upd X_notes (Int32.toNatClampNeg X_size) a1)) H := hP
    replace hD : va_D A (wd_Line_append kc xa xb (X_size + (1 : Int32)) (upd X_notes (Int32.toNatClampNeg X_size) a1)) := hD
    replace hm := Option.some.inj hm; subst hm
    exact zret_v C hP hD hS d_Line_append_29
set_option maxHeartbeats 4000000 in
set_option maxRecDepth 100000 in
theorem c_Line_append {l : Launch} {D : va_G} {kc : Nat → ClassId} {r : Int32 × (Nat → Int32)} {xa : Nat} {xb : Nat} {X_size : Int32} {X_notes : Nat → Int32} {a1 : Int32} (hm : m_Line_append  X_size X_notes a1 = some r) (sz : Nat) : Cv l y_Line_append ws_Line_append rm_Line_append D kc sz [.ref xa, .int a1] (wd_Line_append kc xa xb X_size X_notes) (wd_Line_append kc xa xb r.1 r.2) :=
  Cz_of (Qf := fun A => (Qv D A (wd_Line_append kc xa xb r.1 r.2))) (cc := b_Line_append) (maxL := 2) (ret := none) (by decide) rfl rfl (fun C hZ hl => e_Line_append C hm hZ hl)
abbrev b_SpeciesSolver_note : ByteArray := prog_1_method_2_code
abbrev y_SpeciesSolver_note : MethodName := ⟨"SpeciesSolver", "note", "(I)I"⟩
theorem d_SpeciesSolver_note_0 : decode b_SpeciesSolver_note 0 = .ok (.iload_n 1, 1) := by decide +kernel
theorem d_SpeciesSolver_note_1 : decode b_SpeciesSolver_note 1 = .ok (.ifCond .lt 21, 3) := by decide +kernel
theorem d_SpeciesSolver_note_4 : decode b_SpeciesSolver_note 4 = .ok (.iload_n 1, 1) := by decide +kernel
theorem d_SpeciesSolver_note_5 : decode b_SpeciesSolver_note 5 = .ok (.bipush 127, 2) := by decide +kernel
theorem d_SpeciesSolver_note_7 : decode b_SpeciesSolver_note 7 = .ok (.if_icmp .gt 15, 3) := by decide +kernel
theorem d_SpeciesSolver_note_10 : decode b_SpeciesSolver_note 10 = .ok (.aload_n 0, 1) := by decide +kernel
theorem d_SpeciesSolver_note_11 : decode b_SpeciesSolver_note 11 = .ok (.getfield 10, 3) := by decide +kernel
theorem d_SpeciesSolver_note_14 : decode b_SpeciesSolver_note 14 = .ok (.getfield 77, 3) := by decide +kernel
theorem d_SpeciesSolver_note_17 : decode b_SpeciesSolver_note 17 = .ok (.bipush 45, 2) := by decide +kernel
theorem d_SpeciesSolver_note_19 : decode b_SpeciesSolver_note 19 = .ok (.if_icmp .lt 5, 3) := by decide +kernel
theorem d_SpeciesSolver_note_22 : decode b_SpeciesSolver_note 22 = .ok (.iconst (-1), 1) := by decide +kernel
theorem d_SpeciesSolver_note_23 : decode b_SpeciesSolver_note 23 = .ok (.ireturn, 1) := by decide +kernel
theorem d_SpeciesSolver_note_24 : decode b_SpeciesSolver_note 24 = .ok (.aload_n 0, 1) := by decide +kernel
theorem d_SpeciesSolver_note_25 : decode b_SpeciesSolver_note 25 = .ok (.getfield 10, 3) := by decide +kernel
theorem d_SpeciesSolver_note_28 : decode b_SpeciesSolver_note 28 = .ok (.iload_n 1, 1) := by decide +kernel
theorem d_SpeciesSolver_note_29 : decode b_SpeciesSolver_note 29 = .ok (.invokevirtual 80, 3) := by decide +kernel
theorem d_SpeciesSolver_note_32 : decode b_SpeciesSolver_note 32 = .ok (.aload_n 0, 1) := by decide +kernel
theorem d_SpeciesSolver_note_33 : decode b_SpeciesSolver_note 33 = .ok (.getfield 10, 3) := by decide +kernel
theorem d_SpeciesSolver_note_36 : decode b_SpeciesSolver_note 36 = .ok (.getfield 77, 3) := by decide +kernel
theorem d_SpeciesSolver_note_39 : decode b_SpeciesSolver_note 39 = .ok (.ireturn, 1) := by decide +kernel
abbrev wd_SpeciesSolver_note (kc : Nat → ClassId) (ad : Nat → Nat) (mn_bestCost : Int32) (mn_bestPerNote : Int32) (mn_bestLength : Int32) (mn_searched : Int32) (dr_size : Int32) (dr_notes : Nat → Int32) : va_W := [((ad 0), .inr (0, [.ref (ad 1), .ref (ad 8), .ref (ad 9), .ref (ad 13), .ref (ad 23), .ref (ad 34), .ref (ad 36), .ref (ad 38), .int mn_bestCost, .int mn_bestPerNote, .int mn_bestLength, .int mn_searched])), ((ad 34), .inr (3, [.ref (ad 35), .int dr_size])), ((ad 35), .inl (kc 0, 45, .inl dr_notes))]
abbrev rm_SpeciesSolver_note : Room := { frames := 1, cells := 0, slots := 0, locals := 21 }
abbrev cw_SpeciesSolver_note : Cond := .code y_SpeciesSolver_note b_SpeciesSolver_note 2 (some .int)
abbrev ws_SpeciesSolver_note : List Cond := cw_SpeciesSolver_note :: GW
theorem hd_SpeciesSolver_note : y_SpeciesSolver_note.cls ≠ "java/lang/invoke/MethodHandle" ∧ y_SpeciesSolver_note.cls ≠ "java/lang/invoke/VarHandle" ∧ (parseMethodDescriptor y_SpeciesSolver_note.desc).map (fun d => d.parameters.length) = some 1 := by decide +kernel
def m_SpeciesSolver_note  (dr_size : Int32) (dr_notes : Nat → Int32) (a1 : Int32) : Option (Int32 × Int32 × (Nat → Int32)) :=
  (if a1 < (0 : Int32) then
    (some ((-1 : Int32), dr_size, dr_notes))
  else
    (if (127 : Int32) < a1 then
      (some ((-1 : Int32), dr_size, dr_notes))
    else
      (if dr_size < (45 : Int32) then
        (bd (m_Line_append dr_size dr_notes a1) (fun u4 => (some (u4.1, u4.1, u4.2))))
      else
        (some ((-1 : Int32), dr_size, dr_notes)))))
set_option maxHeartbeats 4000000 in
set_option maxRecDepth 100000 in
theorem e_SpeciesSolver_note {r : Int32 × Int32 × (Nat → Int32)} {ad : Nat → Nat} {mn_bestCost : Int32} {mn_bestPerNote : Int32} {mn_bestLength : Int32} {mn_searched : Int32} {dr_size : Int32} {dr_notes : Nat → Int32} {a1 : Int32} {H : Heap} {locs : List Loc} {ls : Array Slot} (C : Cx p s m meth c args A D kc R_SpeciesSolver b_SpeciesSolver_note 2 (some .int)) (hm : m_SpeciesSolver_note  dr_size dr_notes a1 = some r) (hZ : St D A s (wd_SpeciesSolver_note kc ad mn_bestCost mn_bestPerNote mn_bestLength mn_searched dr_size dr_notes) H locs) (hl : lv_has ls 2 [(0, .ref (ad 0)), (1, .int a1)]) : W p l e rm_SpeciesSolver_note s m args below meth c H locs 0 0 (MQ below (Qi D A (wd_SpeciesSolver_note kc ad mn_bestCost mn_bestPerNote mn_bestLength mn_searched r.2.1 r.2.2) r.1) args s 0 0 A) (F0 m 0 ls []) := by
  obtain ⟨hx, hb, hr, hts, hown, hml, hlocks, hK, hN, hA, hX⟩ := id C
  obtain ⟨hP, hD, hS⟩ := hZ
  unfold m_SpeciesSolver_note at hm
  refine lv_iload_n hx hb d_SpeciesSolver_note_0 rfl (lv_at hl 1 rfl) ?_
  refine lv_if_lt (tgt := 22) hx hb d_SpeciesSolver_note_1 (by decide) (fun c1 => ?_) (fun c1 => ?_)
  · replace hm := ifT hm c1
    refine lv_iconst (v := -1) hx hb d_SpeciesSolver_note_22 (by decide) ?_
    replace hm := Option.some.inj hm; subst hm
    exact zret_i C hP hD hS d_SpeciesSolver_note_23
  · replace hm := ifF hm c1
    refine lv_iload_n hx hb d_SpeciesSolver_note_4 rfl (lv_at hl 1 rfl) ?_
    refine lv_bipush (v := 127) hx hb d_SpeciesSolver_note_5 (by decide) ?_
    refine lv_icmp_gt (tgt := 22) hx hb d_SpeciesSolver_note_7 (by decide) (fun c2 => ?_) (fun c2 => ?_)
    · replace hm := ifT hm c2
      refine lv_iconst (v := -1) hx hb d_SpeciesSolver_note_22 (by decide) ?_
      replace hm := Option.some.inj hm; subst hm
      exact zret_i C hP hD hS d_SpeciesSolver_note_23
    · replace hm := ifF hm c2
      refine lv_aload_n hx hb d_SpeciesSolver_note_10 rfl (lv_at hl 0 rfl) ?_
      refine va_get (D := D) (ci := 0) (v := .ref (ad 34)) (C := R_SpeciesSolver) (T := T_SpeciesSolver) (N := 12) hx hb hts inG_SpeciesSolver hown hK hP 0 rfl rfl 5 (by decide) (hts _ gw_373) (fun _ h9 => h9) rfl d_SpeciesSolver_note_11 ?_
      refine va_getN (D := D) (ci := 3) (v := .int dr_size) (C := R_Line) (T := T_Line) (N := 2) hx hb hts inG_Line hown hK hP 1 rfl rfl 1 (by decide) (va_Nw.use rfl (hN _ nw_137)) (fun _ h9 => h9) rfl d_SpeciesSolver_note_14 ?_
      refine lv_bipush (v := 45) hx hb d_SpeciesSolver_note_17 (by decide) ?_
      refine lv_icmp_lt (tgt := 24) hx hb d_SpeciesSolver_note_19 (by decide) (fun c3 => ?_) (fun c3 => ?_)
      · replace hm := ifT hm c3
        refine lv_aload_n hx hb d_SpeciesSolver_note_24 rfl (lv_at hl 0 rfl) ?_
        refine va_get (D := D) (ci := 0) (v := .ref (ad 34)) (C := R_SpeciesSolver) (T := T_SpeciesSolver) (N := 12) hx hb hts inG_SpeciesSolver hown hK hP 0 rfl rfl 5 (by decide) (hts _ gw_373) (fun _ h9 => h9) rfl d_SpeciesSolver_note_25 ?_
        refine lv_iload_n hx hb d_SpeciesSolver_note_28 rfl (lv_at hl 1 rfl) ?_
        obtain ⟨u4, hc5, hm⟩ := bd_some hm
        refine zVN_v (n := 1) (wr := [((ad 0), .inr (0, [.ref (ad 1), .ref (ad 8), .ref (ad 9), .ref (ad 13), .ref (ad 23), .ref (ad 34), .ref (ad 36), .ref (ad 38), .int mn_bestCost, .int mn_bestPerNote, .int mn_bestLength, .int mn_searched]))]) (w1 := (wd_Line_append kc (ad 34) (ad 35) u4.1 u4.2)) (ws1 := (wd_SpeciesSolver_note kc ad mn_bestCost mn_bestPerNote mn_bestLength mn_searched u4.1 u4.2)) (As := [.int a1]) (rest := []) (ci := 3) (q0 := 0) (y := y_Line_append) (host := "SpeciesSolver") ⟨hx, hb, hml, hown, hts⟩ (fun sz => c_Line_append hc5 sz) gw_412 (hN _ nw_409) gw_411 gw_0 gw_112 hd_Line_append ⟨Nat.le_of_ble_eq_true rfl, Nat.le_of_ble_eq_true rfl⟩ ⟨rfl, rfl⟩ ⟨Nat.zero_le _, Nat.zero_le _⟩ hK hN hP hD hS hA hX [1, 2] [0] [0, 1, 2] rfl rfl (by decide) (by decide) (by decide) rfl (by decide) rfl rfl rfl hl.1 rfl (Nat.le_of_ble_eq_true rfl) d_SpeciesSolver_note_29 (fun H locs hP hD hS => ?_)
        refine lv_aload_n hx hb d_SpeciesSolver_note_32 rfl (lv_at hl 0 rfl) ?_
        refine va_get (D := D) (ci := 0) (v := .ref (ad 34)) (C := R_SpeciesSolver) (T := T_SpeciesSolver) (N := 12) hx hb hts inG_SpeciesSolver hown hK hP 0 rfl rfl 5 (by decide) (hts _ gw_373) (fun _ h9 => h9) rfl d_SpeciesSolver_note_33 ?_
        refine va_getN (D := D) (ci := 3) (v := .int u4.1) (C := R_Line) (T := T_Line) (N := 2) hx hb hts inG_Line hown hK hP 1 rfl rfl 1 (by decide) (va_Nw.use rfl (hN _ nw_137)) (fun _ h9 => h9) rfl d_SpeciesSolver_note_36 ?_
        replace hm := Option.some.inj hm; subst hm
        exact zret_i C hP hD hS d_SpeciesSolver_note_39
      · replace hm := ifF hm c3
        refine lv_iconst (v := -1) hx hb d_SpeciesSolver_note_22 (by decide) ?_
        replace hm := Option.some.inj hm; subst hm
        exact zret_i C hP hD hS d_SpeciesSolver_note_23
set_option maxHeartbeats 4000000 in
set_option maxRecDepth 100000 in
theorem c_SpeciesSolver_note {l : Launch} {D : va_G} {kc : Nat → ClassId} {r : Int32 × Int32 × (Nat → Int32)} {ad : Nat → Nat} {mn_bestCost : Int32} {mn_bestPerNote : Int32} {mn_bestLength : Int32} {mn_searched : Int32} {dr_size : Int32} {dr_notes : Nat → Int32} {a1 : Int32} (hm : m_SpeciesSolver_note  dr_size dr_notes a1 = some r) (sz : Nat) : Ci l y_SpeciesSolver_note ws_SpeciesSolver_note rm_SpeciesSolver_note D kc sz [.ref (ad 0), .int a1] (wd_SpeciesSolver_note kc ad mn_bestCost mn_bestPerNote mn_bestLength mn_searched dr_size dr_notes) (wd_SpeciesSolver_note kc ad mn_bestCost mn_bestPerNote mn_bestLength mn_searched r.2.1 r.2.2) r.1 :=
  Cz_of (Qf := fun A => (Qi D A (wd_SpeciesSolver_note kc ad mn_bestCost mn_bestPerNote mn_bestLength mn_searched r.2.1 r.2.2) r.1)) (cc := b_SpeciesSolver_note) (maxL := 2) (ret := (some .int)) (by decide) rfl rfl (fun C hZ hl => e_SpeciesSolver_note C hm hZ hl)
abbrev b_Setup_hasPlaceFor : ByteArray := prog_7_method_3_code
abbrev y_Setup_hasPlaceFor : MethodName := ⟨"SpeciesSolver$Setup", "hasPlaceFor", "(I)Z"⟩
theorem d_Setup_hasPlaceFor_0 : decode b_Setup_hasPlaceFor 0 = .ok (.aload_n 0, 1) := by decide +kernel
theorem d_Setup_hasPlaceFor_1 : decode b_Setup_hasPlaceFor 1 = .ok (.getfield 24, 3) := by decide +kernel
theorem d_Setup_hasPlaceFor_4 : decode b_Setup_hasPlaceFor 4 = .ok (.iconst 3, 1) := by decide +kernel
theorem d_Setup_hasPlaceFor_5 : decode b_Setup_hasPlaceFor 5 = .ok (.if_icmp .ge 33, 3) := by decide +kernel
theorem d_Setup_hasPlaceFor_8 : decode b_Setup_hasPlaceFor 8 = .ok (.iload_n 1, 1) := by decide +kernel
theorem d_Setup_hasPlaceFor_9 : decode b_Setup_hasPlaceFor 9 = .ok (.iconst 2, 1) := by decide +kernel
theorem d_Setup_hasPlaceFor_10 : decode b_Setup_hasPlaceFor 10 = .ok (.if_icmp .lt 28, 3) := by decide +kernel
theorem d_Setup_hasPlaceFor_13 : decode b_Setup_hasPlaceFor 13 = .ok (.iload_n 1, 1) := by decide +kernel
theorem d_Setup_hasPlaceFor_14 : decode b_Setup_hasPlaceFor 14 = .ok (.bipush 12, 2) := by decide +kernel
theorem d_Setup_hasPlaceFor_16 : decode b_Setup_hasPlaceFor 16 = .ok (.if_icmp .gt 22, 3) := by decide +kernel
theorem d_Setup_hasPlaceFor_19 : decode b_Setup_hasPlaceFor 19 = .ok (.aload_n 0, 1) := by decide +kernel
theorem d_Setup_hasPlaceFor_20 : decode b_Setup_hasPlaceFor 20 = .ok (.getfield 24, 3) := by decide +kernel
theorem d_Setup_hasPlaceFor_23 : decode b_Setup_hasPlaceFor 23 = .ok (.ifCond .eq 11, 3) := by decide +kernel
theorem d_Setup_hasPlaceFor_26 : decode b_Setup_hasPlaceFor 26 = .ok (.iload_n 1, 1) := by decide +kernel
theorem d_Setup_hasPlaceFor_27 : decode b_Setup_hasPlaceFor 27 = .ok (.aload_n 0, 1) := by decide +kernel
theorem d_Setup_hasPlaceFor_28 : decode b_Setup_hasPlaceFor 28 = .ok (.getfield 28, 3) := by decide +kernel
theorem d_Setup_hasPlaceFor_31 : decode b_Setup_hasPlaceFor 31 = .ok (.if_icmp .ne 7, 3) := by decide +kernel
theorem d_Setup_hasPlaceFor_34 : decode b_Setup_hasPlaceFor 34 = .ok (.iconst 1, 1) := by decide +kernel
theorem d_Setup_hasPlaceFor_35 : decode b_Setup_hasPlaceFor 35 = .ok (.goto 4, 3) := by decide +kernel
theorem d_Setup_hasPlaceFor_38 : decode b_Setup_hasPlaceFor 38 = .ok (.iconst 0, 1) := by decide +kernel
theorem d_Setup_hasPlaceFor_39 : decode b_Setup_hasPlaceFor 39 = .ok (.ireturn, 1) := by decide +kernel
abbrev wd_Setup_hasPlaceFor (kc : Nat → ClassId) (ad : Nat → Nat) (su_lines : Int32) (su_length : Int32) (su_perNote : Int32) (su_above : Int32) : va_W := [((ad 1), .inr (7, [.ref (ad 2), .ref (ad 3), .ref (ad 4), .int su_lines, .int su_length, .int su_perNote, .int su_above]))]
abbrev rm_Setup_hasPlaceFor : Room := { frames := 0, cells := 0, slots := 0, locals := 0 }
abbrev cw_Setup_hasPlaceFor : Cond := .code y_Setup_hasPlaceFor b_Setup_hasPlaceFor 2 (some .boolean)
abbrev ws_Setup_hasPlaceFor : List Cond := cw_Setup_hasPlaceFor :: GW
theorem hd_Setup_hasPlaceFor : y_Setup_hasPlaceFor.cls ≠ "java/lang/invoke/MethodHandle" ∧ y_Setup_hasPlaceFor.cls ≠ "java/lang/invoke/VarHandle" ∧ (parseMethodDescriptor y_Setup_hasPlaceFor.desc).map (fun d => d.parameters.length) = some 1 := by decide +kernel
def m_Setup_hasPlaceFor (su_lines : Int32) (su_length : Int32)  (a1 : Int32) : Option (Int32) :=
  (if (3 : Int32) ≤ su_lines then
    (some (0 : Int32))
  else
    (if a1 < (2 : Int32) then
      (some (0 : Int32))
    else
      (if (12 : Int32) < a1 then
        (some (0 : Int32))
      else
        (if su_lines = (0 : Int32) then
          (some (1 : Int32))
        else
          (if a1 = su_length then
            (some (1 : Int32))
          else
            (some (0 : Int32)))))))
set_option maxHeartbeats 4000000 in
set_option maxRecDepth 100000 in
theorem e_Setup_hasPlaceFor {r : Int32} {ad : Nat → Nat} {su_lines : Int32} {su_length : Int32} {su_perNote : Int32} {su_above : Int32} {a1 : Int32} {H : Heap} {locs : List Loc} {ls : Array Slot} (C : Cx p s m meth c args A D kc R_Setup b_Setup_hasPlaceFor 2 (some .boolean)) (hm : m_Setup_hasPlaceFor su_lines su_length a1 = some r) (hZ : St D A s (wd_Setup_hasPlaceFor kc ad su_lines su_length su_perNote su_above) H locs) (hl : lv_has ls 2 [(0, .ref (ad 1)), (1, .int a1)]) : W p l e rm_Setup_hasPlaceFor s m args below meth c H locs 0 0 (MQ below (Qi D A (wd_Setup_hasPlaceFor kc ad su_lines su_length su_perNote su_above) r) args s 0 0 A) (F0 m 0 ls []) := by
  obtain ⟨hx, hb, hr, hts, hown, hml, hlocks, hK, hN, hA, hX⟩ := id C
  obtain ⟨hP, hD, hS⟩ := hZ
  unfold m_Setup_hasPlaceFor at hm
  refine lv_aload_n hx hb d_Setup_hasPlaceFor_0 rfl (lv_at hl 0 rfl) ?_
  refine va_get (D := D) (ci := 7) (v := .int su_lines) (C := R_Setup) (T := T_Setup) (N := 7) hx hb hts inG_Setup hown hK hP 0 rfl rfl 3 (by decide) (hts _ gw_169) (fun _ h9 => h9) rfl d_Setup_hasPlaceFor_1 ?_
  refine lv_iconst (v := 3) hx hb d_Setup_hasPlaceFor_4 (by decide) ?_
  refine lv_icmp_ge (tgt := 38) hx hb d_Setup_hasPlaceFor_5 (by decide) (fun c1 => ?_) (fun c1 => ?_)
  · replace hm := ifT hm c1
    refine lv_iconst (v := 0) hx hb d_Setup_hasPlaceFor_38 (by decide) ?_
    replace hm := Option.some.inj hm; subst hm
    exact zret_z (v := 0) C hP hD hS (by rfl) d_Setup_hasPlaceFor_39
  · replace hm := ifF hm c1
    refine lv_iload_n hx hb d_Setup_hasPlaceFor_8 rfl (lv_at hl 1 rfl) ?_
    refine lv_iconst (v := 2) hx hb d_Setup_hasPlaceFor_9 (by decide) ?_
    refine lv_icmp_lt (tgt := 38) hx hb d_Setup_hasPlaceFor_10 (by decide) (fun c2 => ?_) (fun c2 => ?_)
    · replace hm := ifT hm c2
      refine lv_iconst (v := 0) hx hb d_Setup_hasPlaceFor_38 (by decide) ?_
      replace hm := Option.some.inj hm; subst hm
      exact zret_z (v := 0) C hP hD hS (by rfl) d_Setup_hasPlaceFor_39
    · replace hm := ifF hm c2
      refine lv_iload_n hx hb d_Setup_hasPlaceFor_13 rfl (lv_at hl 1 rfl) ?_
      refine lv_bipush (v := 12) hx hb d_Setup_hasPlaceFor_14 (by decide) ?_
      refine lv_icmp_gt (tgt := 38) hx hb d_Setup_hasPlaceFor_16 (by decide) (fun c3 => ?_) (fun c3 => ?_)
      · replace hm := ifT hm c3
        refine lv_iconst (v := 0) hx hb d_Setup_hasPlaceFor_38 (by decide) ?_
        replace hm := Option.some.inj hm; subst hm
        exact zret_z (v := 0) C hP hD hS (by rfl) d_Setup_hasPlaceFor_39
      · replace hm := ifF hm c3
        refine lv_aload_n hx hb d_Setup_hasPlaceFor_19 rfl (lv_at hl 0 rfl) ?_
        refine va_get (D := D) (ci := 7) (v := .int su_lines) (C := R_Setup) (T := T_Setup) (N := 7) hx hb hts inG_Setup hown hK hP 0 rfl rfl 3 (by decide) (hts _ gw_169) (fun _ h9 => h9) rfl d_Setup_hasPlaceFor_20 ?_
        refine lv_if_eq (tgt := 34) hx hb d_Setup_hasPlaceFor_23 (by decide) (fun c4 => ?_) (fun c4 => ?_)
        · replace hm := ifT hm c4
          refine lv_iconst (v := 1) hx hb d_Setup_hasPlaceFor_34 (by decide) ?_
          refine lv_goto (tgt := 39) hx hb d_Setup_hasPlaceFor_35 (by decide) ?_
          replace hm := Option.some.inj hm; subst hm
          exact zret_z (v := 1) C hP hD hS (by rfl) d_Setup_hasPlaceFor_39
        · replace hm := ifF hm c4
          refine lv_iload_n hx hb d_Setup_hasPlaceFor_26 rfl (lv_at hl 1 rfl) ?_
          refine lv_aload_n hx hb d_Setup_hasPlaceFor_27 rfl (lv_at hl 0 rfl) ?_
          refine va_get (D := D) (ci := 7) (v := .int su_length) (C := R_Setup) (T := T_Setup) (N := 7) hx hb hts inG_Setup hown hK hP 0 rfl rfl 4 (by decide) (hts _ gw_174) (fun _ h9 => h9) rfl d_Setup_hasPlaceFor_28 ?_
          refine lv_icmp_ne (tgt := 38) hx hb d_Setup_hasPlaceFor_31 (by decide) (fun c5 => ?_) (fun c5 => ?_)
          · replace hm := ifF hm c5
            refine lv_iconst (v := 0) hx hb d_Setup_hasPlaceFor_38 (by decide) ?_
            replace hm := Option.some.inj hm; subst hm
            exact zret_z (v := 0) C hP hD hS (by rfl) d_Setup_hasPlaceFor_39
          · replace hm := ifT hm c5
            refine lv_iconst (v := 1) hx hb d_Setup_hasPlaceFor_34 (by decide) ?_
            refine lv_goto (tgt := 39) hx hb d_Setup_hasPlaceFor_35 (by decide) ?_
            replace hm := Option.some.inj hm; subst hm
            exact zret_z (v := 1) C hP hD hS (by rfl) d_Setup_hasPlaceFor_39
set_option maxHeartbeats 4000000 in
set_option maxRecDepth 100000 in
theorem c_Setup_hasPlaceFor {l : Launch} {D : va_G} {kc : Nat → ClassId} {r : Int32} {ad : Nat → Nat} {su_lines : Int32} {su_length : Int32} {su_perNote : Int32} {su_above : Int32} {a1 : Int32} (hm : m_Setup_hasPlaceFor su_lines su_length a1 = some r) (sz : Nat) : Ci l y_Setup_hasPlaceFor ws_Setup_hasPlaceFor rm_Setup_hasPlaceFor D kc sz [.ref (ad 1), .int a1] (wd_Setup_hasPlaceFor kc ad su_lines su_length su_perNote su_above) (wd_Setup_hasPlaceFor kc ad su_lines su_length su_perNote su_above) r :=
  Cz_of (Qf := fun A => (Qi D A (wd_Setup_hasPlaceFor kc ad su_lines su_length su_perNote su_above) r)) (cc := b_Setup_hasPlaceFor) (maxL := 2) (ret := (some .boolean)) (by decide) rfl rfl (fun C hZ hl => e_Setup_hasPlaceFor C hm hZ hl)
abbrev b_Line_at : ByteArray := prog_3_method_2_code
abbrev y_Line_at : MethodName := ⟨"SpeciesSolver$Line", "at", "(I)I"⟩
theorem d_Line_at_0 : decode b_Line_at 0 = .ok (.iload_n 1, 1) := by decide +kernel
theorem d_Line_at_1 : decode b_Line_at 1 = .ok (.ifCond .lt 20, 3) := by decide +kernel
theorem d_Line_at_4 : decode b_Line_at 4 = .ok (.iload_n 1, 1) := by decide +kernel
theorem d_Line_at_5 : decode b_Line_at 5 = .ok (.aload_n 0, 1) := by decide +kernel
theorem d_Line_at_6 : decode b_Line_at 6 = .ok (.getfield 15, 3) := by decide +kernel
theorem d_Line_at_9 : decode b_Line_at 9 = .ok (.if_icmp .ge 12, 3) := by decide +kernel
theorem d_Line_at_12 : decode b_Line_at 12 = .ok (.aload_n 0, 1) := by decide +kernel
theorem d_Line_at_13 : decode b_Line_at 13 = .ok (.getfield 9, 3) := by decide +kernel
theorem d_Line_at_16 : decode b_Line_at 16 = .ok (.iload_n 1, 1) := by decide +kernel
theorem d_Line_at_17 : decode b_Line_at 17 = .ok (.iaload, 1) := by decide +kernel
theorem d_Line_at_18 : decode b_Line_at 18 = .ok (.goto 4, 3) := by decide +kernel
theorem d_Line_at_21 : decode b_Line_at 21 = .ok (.iconst (-1), 1) := by decide +kernel
theorem d_Line_at_22 : decode b_Line_at 22 = .ok (.ireturn, 1) := by decide +kernel
abbrev wd_Line_at (kc : Nat → ClassId) (xa : Nat) (xb : Nat) (X_size : Int32) (X_notes : Nat → Int32) : va_W := [(xa, .inr (3, [.ref xb, .int X_size])), (xb, .inl (kc 0, 45, .inl X_notes))]
abbrev rm_Line_at : Room := { frames := 0, cells := 0, slots := 0, locals := 0 }
abbrev cw_Line_at : Cond := .code y_Line_at b_Line_at 2 (some .int)
abbrev ws_Line_at : List Cond := cw_Line_at :: GW
theorem hd_Line_at : y_Line_at.cls ≠ "java/lang/invoke/MethodHandle" ∧ y_Line_at.cls ≠ "java/lang/invoke/VarHandle" ∧ (parseMethodDescriptor y_Line_at.desc).map (fun d => d.parameters.length) = some 1 := by decide +kernel
def m_Line_at (X_size : Int32) (X_notes : Nat → Int32)  (a1 : Int32) : Option (Int32) :=
  (if a1 < (0 : Int32) then
    (some (-1 : Int32))
  else
    (if X_size ≤ a1 then
      (some (-1 : Int32))
    else
      (gd a1 45 (some (X_notes (Int32.toNatClampNeg a1))))))
set_option maxHeartbeats 4000000 in
set_option maxRecDepth 100000 in
theorem e_Line_at {r : Int32} {xa : Nat} {xb : Nat} {X_size : Int32} {X_notes : Nat → Int32} {a1 : Int32} {H : Heap} {locs : List Loc} {ls : Array Slot} (C : Cx p s m meth c args A D kc R_Line b_Line_at 2 (some .int)) (hm : m_Line_at X_size X_notes a1 = some r) (hZ : St D A s (wd_Line_at kc xa xb X_size X_notes) H locs) (hl : lv_has ls 2 [(0, .ref xa), (1, .int a1)]) : W p l e rm_Line_at s m args below meth c H locs 0 0 (MQ below (Qi D A (wd_Line_at kc xa xb X_size X_notes) r) args s 0 0 A) (F0 m 0 ls []) := by
  obtain ⟨hx, hb, hr, hts, hown, hml, hlocks, hK, hN, hA, hX⟩ := id C
  obtain ⟨hP, hD, hS⟩ := hZ
  unfold m_Line_at at hm
  refine lv_iload_n hx hb d_Line_at_0 rfl (lv_at hl 1 rfl) ?_
  refine lv_if_lt (tgt := 21) hx hb d_Line_at_1 (by decide) (fun c1 => ?_) (fun c1 => ?_)
  · replace hm := ifT hm c1
    refine lv_iconst (v := -1) hx hb d_Line_at_21 (by decide) ?_
    replace hm := Option.some.inj hm; subst hm
    exact zret_i C hP hD hS d_Line_at_22
  · replace hm := ifF hm c1
    refine lv_iload_n hx hb d_Line_at_4 rfl (lv_at hl 1 rfl) ?_
    refine lv_aload_n hx hb d_Line_at_5 rfl (lv_at hl 0 rfl) ?_
    refine va_get (D := D) (ci := 3) (v := .int X_size) (C := R_Line) (T := T_Line) (N := 2) hx hb hts inG_Line hown hK hP 0 rfl rfl 1 (by decide) (hts _ gw_136) (fun _ h9 => h9) rfl d_Line_at_6 ?_
    refine lv_icmp_ge (tgt := 21) hx hb d_Line_at_9 (by decide) (fun c2 => ?_) (fun c2 => ?_)
    · replace hm := ifT hm c2
      refine lv_iconst (v := -1) hx hb d_Line_at_21 (by decide) ?_
      replace hm := Option.some.inj hm; subst hm
      exact zret_i C hP hD hS d_Line_at_22
    · replace hm := ifF hm c2
      refine lv_aload_n hx hb d_Line_at_12 rfl (lv_at hl 0 rfl) ?_
      refine va_get (D := D) (ci := 3) (v := .ref xb) (C := R_Line) (T := T_Line) (N := 2) hx hb hts inG_Line hown hK hP 0 rfl rfl 0 (by decide) (hts _ gw_133) (fun _ h9 => h9) rfl d_Line_at_13 ?_
      refine lv_iload_n hx hb d_Line_at_16 rfl (lv_at hl 1 rfl) ?_
      obtain ⟨hi3, hm⟩ := gd_some hm
      refine va_iald hx hb hK hP 1 0 rfl rfl hi3 d_Line_at_17 ?_
      refine lv_goto (tgt := 22) hx hb d_Line_at_18 (by decide) ?_
      replace hm := Option.some.inj hm; subst hm
      exact zret_i C hP hD hS d_Line_at_22
set_option maxHeartbeats 4000000 in
set_option maxRecDepth 100000 in
theorem c_Line_at {l : Launch} {D : va_G} {kc : Nat → ClassId} {r : Int32} {xa : Nat} {xb : Nat} {X_size : Int32} {X_notes : Nat → Int32} {a1 : Int32} (hm : m_Line_at X_size X_notes a1 = some r) (sz : Nat) : Ci l y_Line_at ws_Line_at rm_Line_at D kc sz [.ref xa, .int a1] (wd_Line_at kc xa xb X_size X_notes) (wd_Line_at kc xa xb X_size X_notes) r :=
  Cz_of (Qf := fun A => (Qi D A (wd_Line_at kc xa xb X_size X_notes) r)) (cc := b_Line_at) (maxL := 2) (ret := (some .int)) (by decide) rfl rfl (fun C hZ hl => e_Line_at C hm hZ hl)
abbrev b_Setup_addLine : ByteArray := prog_7_method_4_code
abbrev y_Setup_addLine : MethodName := ⟨"SpeciesSolver$Setup", "addLine", "(LSpeciesSolver$Line;II)V"⟩
theorem d_Setup_addLine_0 : decode b_Setup_addLine 0 = .ok (.iconst 0, 1) := by decide +kernel
theorem d_Setup_addLine_1 : decode b_Setup_addLine 1 = .ok (.istore 4, 2) := by decide +kernel
theorem d_Setup_addLine_3 : decode b_Setup_addLine 3 = .ok (.iload 4, 2) := by decide +kernel
theorem d_Setup_addLine_5 : decode b_Setup_addLine 5 = .ok (.iload_n 3, 1) := by decide +kernel
theorem d_Setup_addLine_6 : decode b_Setup_addLine 6 = .ok (.if_icmp .ge 29, 3) := by decide +kernel
theorem d_Setup_addLine_9 : decode b_Setup_addLine 9 = .ok (.aload_n 0, 1) := by decide +kernel
theorem d_Setup_addLine_10 : decode b_Setup_addLine 10 = .ok (.getfield 21, 3) := by decide +kernel
theorem d_Setup_addLine_13 : decode b_Setup_addLine 13 = .ok (.aload_n 0, 1) := by decide +kernel
theorem d_Setup_addLine_14 : decode b_Setup_addLine 14 = .ok (.getfield 24, 3) := by decide +kernel
theorem d_Setup_addLine_17 : decode b_Setup_addLine 17 = .ok (.aaload, 1) := by decide +kernel
theorem d_Setup_addLine_18 : decode b_Setup_addLine 18 = .ok (.iload 4, 2) := by decide +kernel
theorem d_Setup_addLine_20 : decode b_Setup_addLine 20 = .ok (.aload_n 1, 1) := by decide +kernel
theorem d_Setup_addLine_21 : decode b_Setup_addLine 21 = .ok (.iload 4, 2) := by decide +kernel
theorem d_Setup_addLine_23 : decode b_Setup_addLine 23 = .ok (.iload_n 2, 1) := by decide +kernel
theorem d_Setup_addLine_24 : decode b_Setup_addLine 24 = .ok (.imul, 1) := by decide +kernel
theorem d_Setup_addLine_25 : decode b_Setup_addLine 25 = .ok (.invokevirtual 41, 3) := by decide +kernel
theorem d_Setup_addLine_28 : decode b_Setup_addLine 28 = .ok (.iastore, 1) := by decide +kernel
theorem d_Setup_addLine_29 : decode b_Setup_addLine 29 = .ok (.iinc 4 1, 3) := by decide +kernel
theorem d_Setup_addLine_32 : decode b_Setup_addLine 32 = .ok (.goto (-29), 3) := by decide +kernel
theorem d_Setup_addLine_35 : decode b_Setup_addLine 35 = .ok (.aload_n 0, 1) := by decide +kernel
theorem d_Setup_addLine_36 : decode b_Setup_addLine 36 = .ok (.dup, 1) := by decide +kernel
theorem d_Setup_addLine_37 : decode b_Setup_addLine 37 = .ok (.getfield 24, 3) := by decide +kernel
theorem d_Setup_addLine_40 : decode b_Setup_addLine 40 = .ok (.iconst 1, 1) := by decide +kernel
theorem d_Setup_addLine_41 : decode b_Setup_addLine 41 = .ok (.iadd, 1) := by decide +kernel
theorem d_Setup_addLine_42 : decode b_Setup_addLine 42 = .ok (.putfield 24, 3) := by decide +kernel
theorem d_Setup_addLine_45 : decode b_Setup_addLine 45 = .ok (.aload_n 0, 1) := by decide +kernel
theorem d_Setup_addLine_46 : decode b_Setup_addLine 46 = .ok (.iload_n 3, 1) := by decide +kernel
theorem d_Setup_addLine_47 : decode b_Setup_addLine 47 = .ok (.putfield 28, 3) := by decide +kernel
theorem d_Setup_addLine_50 : decode b_Setup_addLine 50 = .ok (.return_, 1) := by decide +kernel
abbrev wd_Setup_addLine (kc : Nat → ClassId) (ad : Nat → Nat) (xa : Nat) (xb : Nat) (X_size : Int32) (X_notes : Nat → Int32) (su_lines : Int32) (su_length : Int32) (su_perNote : Int32) (su_above : Int32) (su_given : Nat → Nat → Int32) : va_W := [(xa, .inr (3, [.ref xb, .int X_size])), (xb, .inl (kc 0, 45, .inl X_notes)), ((ad 1), .inr (7, [.ref (ad 2), .ref (ad 3), .ref (ad 4), .int su_lines, .int su_length, .int su_perNote, .int su_above])), ((ad 4), .inl (kc 3, 3, .inr (.inr (.inr (.inr (fun i => if i < 3 then some (ad (5 + i)) else none)))))), ((ad 5), .inl (kc 0, 12, .inl (su_given 0))), ((ad 6), .inl (kc 0, 12, .inl (su_given 1))), ((ad 7), .inl (kc 0, 12, .inl (su_given 2)))]
abbrev rm_Setup_addLine : Room := { frames := 1, cells := 0, slots := 0, locals := 21 }
abbrev cw_Setup_addLine : Cond := .code y_Setup_addLine b_Setup_addLine 5 none
abbrev ws_Setup_addLine : List Cond := cw_Setup_addLine :: GW
theorem hd_Setup_addLine : y_Setup_addLine.cls ≠ "java/lang/invoke/MethodHandle" ∧ y_Setup_addLine.cls ≠ "java/lang/invoke/VarHandle" ∧ (parseMethodDescriptor y_Setup_addLine.desc).map (fun d => d.parameters.length) = some 3 := by decide +kernel
def m_Setup_addLine_3b (F : Nat) (X_size : Int32) (X_notes : Nat → Int32) (k3 : Int32 → Int32 → (Nat → Nat → Int32) → Int32 → Int32 → Int32 → Option (Int32 × Int32 × (Nat → Nat → Int32))) (su_lines : Int32) (su_length : Int32) (su_given : Nat → Nat → Int32) (x2 : Int32) (x3 : Int32) (x4 : Int32) : Option (Int32 × Int32 × (Nat → Nat → Int32)) :=
  (if x3 ≤ x4 then
    (some ((su_lines + (1 : Int32)), x3, su_given))
  else
    (gd su_lines 3 (bd (m_Line_at X_size X_notes (x4 * x2)) (fun u3 => (gd x4 12 (k3 su_lines su_length (upd2 su_given (Int32.toNatClampNeg su_lines) (Int32.toNatClampNeg x4) u3) x2 x3 (x4 + 1)))))))
set_option maxHeartbeats 4000000 in
set_option maxRecDepth 100000 in
theorem l_Setup_addLine_3 {r : Int32 × Int32 × (Nat → Nat → Int32)} {F : Nat} {ad : Nat → Nat} {xa : Nat} {xb : Nat} {X_size : Int32} {X_notes : Nat → Int32} {su_lines : Int32} {su_length : Int32} {su_perNote : Int32} {su_above : Int32} {su_given : Nat → Nat → Int32} {k3 : Int32 → Int32 → (Nat → Nat → Int32) → Int32 → Int32 → Int32 → Option (Int32 × Int32 × (Nat → Nat → Int32))} {x2 : Int32} {x3 : Int32} {x4 : Int32} {H : Heap} {locs : List Loc} {ls : Array Slot} (C : Cx p s m meth c args A D kc R_Setup b_Setup_addLine 5 none) (hk3 : (∀ (su_lines : Int32) (su_length : Int32) (su_given : Nat → Nat → Int32) (x2 : Int32) (x3 : Int32) (x4 : Int32) (H : Heap) (locs : List Loc) (ls : Array Slot), k3 su_lines su_length su_given x2 x3 x4 = some r → St D A s (wd_Setup_addLine kc ad xa xb X_size X_notes su_lines su_length su_perNote su_above su_given) H locs → lv_has ls 5 [(0, .ref (ad 1)), (1, .ref xa), (2, .int x2), (3, .int x3), (4, .int x4)] → W p l e rm_Setup_addLine s m args below meth c H locs 0 0 (MQ below (Qv D A (wd_Setup_addLine kc ad xa xb X_size X_notes r.1 r.2.1 su_perNote su_above r.2.2)) args s 0 0 A) (F0 m 3 ls []))) (hm : m_Setup_addLine_3b F X_size X_notes k3 su_lines su_length su_given x2 x3 x4 = some r) (hZ : St D A s (wd_Setup_addLine kc ad xa xb X_size X_notes su_lines su_length su_perNote su_above su_given) H locs) (hl : lv_has ls 5 [(0, .ref (ad 1)), (1, .ref xa), (2, .int x2), (3, .int x3), (4, .int x4)]) : W p l e rm_Setup_addLine s m args below meth c H locs 0 0 (MQ below (Qv D A (wd_Setup_addLine kc ad xa xb X_size X_notes r.1 r.2.1 su_perNote su_above r.2.2)) args s 0 0 A) (F0 m 3 ls []) := by
  obtain ⟨hx, hb, hr, hts, hown, hml, hlocks, hK, hN, hA, hX⟩ := id C
  obtain ⟨hP, hD, hS⟩ := hZ
  unfold m_Setup_addLine_3b at hm
  refine lv_iload hx hb d_Setup_addLine_3 (lv_at hl 4 rfl) ?_
  refine lv_iload_n hx hb d_Setup_addLine_5 rfl (lv_at hl 3 rfl) ?_
  refine lv_icmp_ge (tgt := 35) hx hb d_Setup_addLine_6 (by decide) (fun c1 => ?_) (fun c1 => ?_)
  · replace hm := ifT hm c1
    refine lv_aload_n hx hb d_Setup_addLine_35 rfl (lv_at hl 0 rfl) ?_
    refine lv_dup hx hb d_Setup_addLine_36 rfl ?_
    refine va_get (D := D) (ci := 7) (v := .int su_lines) (C := R_Setup) (T := T_Setup) (N := 7) hx hb hts inG_Setup hown hK hP 2 rfl rfl 3 (by decide) (hts _ gw_169) (fun _ h9 => h9) rfl d_Setup_addLine_37 ?_
    refine lv_iconst (v := 1) hx hb d_Setup_addLine_40 (by decide) ?_
    refine lv_iadd hx hb d_Setup_addLine_41 ?_
    refine va_put (D := D) (ci := 7) (v := .int (su_lines + (1 : Int32))) (ty := .int) (C := R_Setup) (T := T_Setup) (N := 7) hx hb hts inG_Setup ty_Setup tok_Setup nmo_Setup hown hK hP hD hS 2 rfl rfl 3 (by decide) (hts _ gw_169) (fun _ h9 => h9) rfl (tok_Setup 3 (by decide)) rfl rfl (Nat.le_of_ble_eq_true rfl) d_Setup_addLine_42 (fun H locs hP hD hS => ?_)
    replace hP : va_P D vwCl (wd_Setup_addLine kc ad xa xb X_size X_notes (su_lines + (1 : Int32)) su_length su_perNote su_above su_given) H := hP
    replace hD : va_D A (wd_Setup_addLine kc ad xa xb X_size X_notes (su_lines + (1 : Int32)) su_length su_perNote su_above su_given) := hD
    refine lv_aload_n hx hb d_Setup_addLine_45 rfl (lv_at hl 0 rfl) ?_
    refine lv_iload_n hx hb d_Setup_addLine_46 rfl (lv_at hl 3 rfl) ?_
    refine va_put (D := D) (ci := 7) (v := .int x3) (ty := .int) (C := R_Setup) (T := T_Setup) (N := 7) hx hb hts inG_Setup ty_Setup tok_Setup nmo_Setup hown hK hP hD hS 2 rfl rfl 4 (by decide) (hts _ gw_174) (fun _ h9 => h9) rfl (tok_Setup 4 (by decide)) rfl rfl (Nat.le_of_ble_eq_true rfl) d_Setup_addLine_47 (fun H locs hP hD hS => ?_)
    replace hP : va_P D vwCl (wd_Setup_addLine kc ad xa xb X_size X_notes (su_lines + (1 : Int32)) x3 su_perNote su_above su_given) H := hP
    replace hD : va_D A (wd_Setup_addLine kc ad xa xb X_size X_notes (su_lines + (1 : Int32)) x3 su_perNote su_above su_given) := hD
    replace hm := Option.some.inj hm; subst hm
    exact zret_v C hP hD hS d_Setup_addLine_50
  · replace hm := ifF hm c1
    refine lv_aload_n hx hb d_Setup_addLine_9 rfl (lv_at hl 0 rfl) ?_
    refine va_get (D := D) (ci := 7) (v := .ref (ad 4)) (C := R_Setup) (T := T_Setup) (N := 7) hx hb hts inG_Setup hown hK hP 2 rfl rfl 2 (by decide) (hts _ gw_167) (fun _ h9 => h9) rfl d_Setup_addLine_10 ?_
    refine lv_aload_n hx hb d_Setup_addLine_13 rfl (lv_at hl 0 rfl) ?_
    refine va_get (D := D) (ci := 7) (v := .int su_lines) (C := R_Setup) (T := T_Setup) (N := 7) hx hb hts inG_Setup hown hK hP 2 rfl rfl 3 (by decide) (hts _ gw_169) (fun _ h9 => h9) rfl d_Setup_addLine_14 ?_
    obtain ⟨hi2, hm⟩ := gd_some hm
    refine zg_aald (ad := ad) (k := 5) hx hb hK hP 3 3 rfl rfl hi2 d_Setup_addLine_17 ?_
    refine lv_iload hx hb d_Setup_addLine_18 (lv_at hl 4 rfl) ?_
    refine lv_aload_n hx hb d_Setup_addLine_20 rfl (lv_at hl 1 rfl) ?_
    refine lv_iload hx hb d_Setup_addLine_21 (lv_at hl 4 rfl) ?_
    refine lv_iload_n hx hb d_Setup_addLine_23 rfl (lv_at hl 2 rfl) ?_
    refine lv_imul hx hb d_Setup_addLine_24 ?_
    obtain ⟨u3, hc4, hm⟩ := bd_some hm
    refine zVN_i (n := 1) (wr := [((ad 1), .inr (7, [.ref (ad 2), .ref (ad 3), .ref (ad 4), .int su_lines, .int su_length, .int su_perNote, .int su_above])), ((ad 4), .inl (kc 3, 3, .inr (.inr (.inr (.inr (fun i => if i < 3 then some (ad (5 + i)) else none)))))), ((ad 5), .inl (kc 0, 12, .inl (su_given 0))), ((ad 6), .inl (kc 0, 12, .inl (su_given 1))), ((ad 7), .inl (kc 0, 12, .inl (su_given 2)))]) (w1 := (wd_Line_at kc xa xb X_size X_notes)) (ws1 := (wd_Setup_addLine kc ad xa xb X_size X_notes su_lines su_length su_perNote su_above su_given)) (As := [.int (x4 * x2)]) (rest := [.int x4, .ref (ad (5 + Int32.toNatClampNeg su_lines))]) (ci := 3) (q0 := 0) (y := y_Line_at) (host := "SpeciesSolver") ⟨hx, hb, hml, hown, hts⟩ (fun sz => c_Line_at hc4 sz) gw_428 (hN _ nw_425) gw_427 gw_3 gw_112 hd_Line_at ⟨Nat.le_of_ble_eq_true rfl, Nat.le_of_ble_eq_true rfl⟩ ⟨rfl, rfl⟩ ⟨Nat.zero_le _, Nat.zero_le _⟩ hK hN hP hD hS hA hX [0, 1] [2, 3, 4, 5, 6] [5, 6, 0, 1, 2, 3, 4] rfl rfl (by decide) (by decide) (by decide) rfl (by decide) rfl rfl rfl hl.1 rfl (Nat.le_of_ble_eq_true rfl) d_Setup_addLine_25 (fun H locs hP hD hS => ?_)
    obtain ⟨hi5, hm⟩ := gd_some hm
    refine zg_iast (k := 5) (g := su_given) (ws1 := (wd_Setup_addLine kc ad xa xb X_size X_notes su_lines su_length su_perNote su_above (upd2 su_given (Int32.toNatClampNeg su_lines) (Int32.toNatClampNeg x4) u3))) hx hb hK hP hD hS 4 0 rfl rfl rfl rfl hi2 hi5 d_Setup_addLine_28 rfl (fun H locs hP hD hS => ?_)
    replace hP : va_P D vwCl (wd_Setup_addLine kc ad xa xb X_size X_notes su_lines su_length su_perNote su_above (upd2 su_given (Int32.toNatClampNeg su_lines) (Int32.toNatClampNeg x4) u3)) H := hP
    replace hD : va_D A (wd_Setup_addLine kc ad xa xb X_size X_notes su_lines su_length su_perNote su_above (upd2 su_given (Int32.toNatClampNeg su_lines) (Int32.toNatClampNeg x4) u3)) := hD
    refine lv_iinc (v := (x4 + 1)) (lv' := [(4, .int (x4 + 1)), (0, .ref (ad 1)), (1, .ref xa), (2, .int x2), (3, .int x3)]) hx hb d_Setup_addLine_29 hl (k := 4) rfl rfl (by decide) rfl (fun ls hl => ?_)
    refine lv_goto (tgt := 3) hx hb d_Setup_addLine_32 (by decide) ?_
    exact hk3 su_lines su_length (upd2 su_given (Int32.toNatClampNeg su_lines) (Int32.toNatClampNeg x4) u3) x2 x3 (x4 + 1) _ _ _ hm ⟨hP, hD, hS⟩ (lv_sub hl [1, 2, 3, 4, 0] rfl)
def m_Setup_addLine_3 (F : Nat) (X_size : Int32) (X_notes : Nat → Int32)  : Nat → Int32 → Int32 → (Nat → Nat → Int32) → Int32 → Int32 → Int32 → Option (Int32 × Int32 × (Nat → Nat → Int32))
  | 0 => fun _ _ _ _ _ _ => none
  | n + 1 => m_Setup_addLine_3b F X_size X_notes  (m_Setup_addLine_3 F X_size X_notes  n)
set_option maxHeartbeats 4000000 in
set_option maxRecDepth 100000 in
theorem lp_Setup_addLine_3 {r : Int32 × Int32 × (Nat → Nat → Int32)} {F : Nat} {ad : Nat → Nat} {xa : Nat} {xb : Nat} {X_size : Int32} {X_notes : Nat → Int32} {su_perNote : Int32} {su_above : Int32}  (C : Cx p s m meth c args A D kc R_Setup b_Setup_addLine 5 none)  : ∀ (n : Nat) (su_lines : Int32) (su_length : Int32) (su_given : Nat → Nat → Int32) (x2 : Int32) (x3 : Int32) (x4 : Int32) (H : Heap) (locs : List Loc) (ls : Array Slot), m_Setup_addLine_3 F X_size X_notes  n su_lines su_length su_given x2 x3 x4 = some r → St D A s (wd_Setup_addLine kc ad xa xb X_size X_notes su_lines su_length su_perNote su_above su_given) H locs → lv_has ls 5 [(0, .ref (ad 1)), (1, .ref xa), (2, .int x2), (3, .int x3), (4, .int x4)] → W p l e rm_Setup_addLine s m args below meth c H locs 0 0 (MQ below (Qv D A (wd_Setup_addLine kc ad xa xb X_size X_notes r.1 r.2.1 su_perNote su_above r.2.2)) args s 0 0 A) (F0 m 3 ls []) := by
  intro n
  induction n with
  | zero => intro su_lines su_length su_given x2 x3 x4 H locs ls hm; cases hm
  | succ n ih => intro su_lines su_length su_given x2 x3 x4 H locs ls hm hZ hl; exact l_Setup_addLine_3 C  ih hm hZ hl
def m_Setup_addLine (F : Nat) (X_size : Int32) (X_notes : Nat → Int32) (su_lines : Int32) (su_length : Int32) (su_given : Nat → Nat → Int32) (a2 : Int32) (a3 : Int32) : Option (Int32 × Int32 × (Nat → Nat → Int32)) :=
  m_Setup_addLine_3 F X_size X_notes  F su_lines su_length su_given a2 a3 (0 : Int32)
set_option maxHeartbeats 4000000 in
set_option maxRecDepth 100000 in
theorem e_Setup_addLine {r : Int32 × Int32 × (Nat → Nat → Int32)} {F : Nat} {ad : Nat → Nat} {xa : Nat} {xb : Nat} {X_size : Int32} {X_notes : Nat → Int32} {su_lines : Int32} {su_length : Int32} {su_perNote : Int32} {su_above : Int32} {su_given : Nat → Nat → Int32} {a2 : Int32} {a3 : Int32} {H : Heap} {locs : List Loc} {ls : Array Slot} (C : Cx p s m meth c args A D kc R_Setup b_Setup_addLine 5 none) (hm : m_Setup_addLine F X_size X_notes su_lines su_length su_given a2 a3 = some r) (hZ : St D A s (wd_Setup_addLine kc ad xa xb X_size X_notes su_lines su_length su_perNote su_above su_given) H locs) (hl : lv_has ls 5 [(0, .ref (ad 1)), (1, .ref xa), (2, .int a2), (3, .int a3)]) : W p l e rm_Setup_addLine s m args below meth c H locs 0 0 (MQ below (Qv D A (wd_Setup_addLine kc ad xa xb X_size X_notes r.1 r.2.1 su_perNote su_above r.2.2)) args s 0 0 A) (F0 m 0 ls []) := by
  obtain ⟨hx, hb, hr, hts, hown, hml, hlocks, hK, hN, hA, hX⟩ := id C
  obtain ⟨hP, hD, hS⟩ := hZ
  unfold m_Setup_addLine at hm
  refine lv_iconst (v := 0) hx hb d_Setup_addLine_0 (by decide) ?_
  refine lv_istore (lv' := [(4, .int (0 : Int32)), (0, .ref (ad 1)), (1, .ref xa), (2, .int a2), (3, .int a3)]) hx hb d_Setup_addLine_1 hl (by decide) rfl (fun ls hl => ?_)
  exact lp_Setup_addLine_3 C  F su_lines su_length su_given a2 a3 (0 : Int32) _ _ _ hm ⟨hP, hD, hS⟩ (lv_sub hl [1, 2, 3, 4, 0] rfl)
set_option maxHeartbeats 4000000 in
set_option maxRecDepth 100000 in
theorem c_Setup_addLine {l : Launch} {D : va_G} {kc : Nat → ClassId} {r : Int32 × Int32 × (Nat → Nat → Int32)} {F : Nat} {ad : Nat → Nat} {xa : Nat} {xb : Nat} {X_size : Int32} {X_notes : Nat → Int32} {su_lines : Int32} {su_length : Int32} {su_perNote : Int32} {su_above : Int32} {su_given : Nat → Nat → Int32} {a2 : Int32} {a3 : Int32} (hm : m_Setup_addLine F X_size X_notes su_lines su_length su_given a2 a3 = some r) (sz : Nat) : Cv l y_Setup_addLine ws_Setup_addLine rm_Setup_addLine D kc sz [.ref (ad 1), .ref xa, .int a2, .int a3] (wd_Setup_addLine kc ad xa xb X_size X_notes su_lines su_length su_perNote su_above su_given) (wd_Setup_addLine kc ad xa xb X_size X_notes r.1 r.2.1 su_perNote su_above r.2.2) :=
  Cz_of (Qf := fun A => (Qv D A (wd_Setup_addLine kc ad xa xb X_size X_notes r.1 r.2.1 su_perNote su_above r.2.2))) (cc := b_Setup_addLine) (maxL := 5) (ret := none) (by decide) rfl rfl (fun C hZ hl => e_Setup_addLine C hm hZ hl)
abbrev b_SpeciesSolver_give : ByteArray := prog_1_method_3_code
abbrev y_SpeciesSolver_give : MethodName := ⟨"SpeciesSolver", "give", "()I"⟩
theorem d_SpeciesSolver_give_0 : decode b_SpeciesSolver_give 0 = .ok (.aload_n 0, 1) := by decide +kernel
theorem d_SpeciesSolver_give_1 : decode b_SpeciesSolver_give 1 = .ok (.getfield 39, 3) := by decide +kernel
theorem d_SpeciesSolver_give_4 : decode b_SpeciesSolver_give 4 = .ok (.aload_n 0, 1) := by decide +kernel
theorem d_SpeciesSolver_give_5 : decode b_SpeciesSolver_give 5 = .ok (.getfield 10, 3) := by decide +kernel
theorem d_SpeciesSolver_give_8 : decode b_SpeciesSolver_give 8 = .ok (.getfield 77, 3) := by decide +kernel
theorem d_SpeciesSolver_give_11 : decode b_SpeciesSolver_give 11 = .ok (.invokevirtual 84, 3) := by decide +kernel
theorem d_SpeciesSolver_give_14 : decode b_SpeciesSolver_give 14 = .ok (.ifCond .ne 5, 3) := by decide +kernel
theorem d_SpeciesSolver_give_17 : decode b_SpeciesSolver_give 17 = .ok (.iconst (-1), 1) := by decide +kernel
theorem d_SpeciesSolver_give_18 : decode b_SpeciesSolver_give 18 = .ok (.ireturn, 1) := by decide +kernel
theorem d_SpeciesSolver_give_19 : decode b_SpeciesSolver_give 19 = .ok (.aload_n 0, 1) := by decide +kernel
theorem d_SpeciesSolver_give_20 : decode b_SpeciesSolver_give 20 = .ok (.getfield 39, 3) := by decide +kernel
theorem d_SpeciesSolver_give_23 : decode b_SpeciesSolver_give 23 = .ok (.aload_n 0, 1) := by decide +kernel
theorem d_SpeciesSolver_give_24 : decode b_SpeciesSolver_give 24 = .ok (.getfield 10, 3) := by decide +kernel
theorem d_SpeciesSolver_give_27 : decode b_SpeciesSolver_give 27 = .ok (.iconst 1, 1) := by decide +kernel
theorem d_SpeciesSolver_give_28 : decode b_SpeciesSolver_give 28 = .ok (.aload_n 0, 1) := by decide +kernel
theorem d_SpeciesSolver_give_29 : decode b_SpeciesSolver_give 29 = .ok (.getfield 10, 3) := by decide +kernel
theorem d_SpeciesSolver_give_32 : decode b_SpeciesSolver_give 32 = .ok (.getfield 77, 3) := by decide +kernel
theorem d_SpeciesSolver_give_35 : decode b_SpeciesSolver_give 35 = .ok (.invokevirtual 88, 3) := by decide +kernel
theorem d_SpeciesSolver_give_38 : decode b_SpeciesSolver_give 38 = .ok (.aload_n 0, 1) := by decide +kernel
theorem d_SpeciesSolver_give_39 : decode b_SpeciesSolver_give 39 = .ok (.getfield 10, 3) := by decide +kernel
theorem d_SpeciesSolver_give_42 : decode b_SpeciesSolver_give 42 = .ok (.iconst 0, 1) := by decide +kernel
theorem d_SpeciesSolver_give_43 : decode b_SpeciesSolver_give 43 = .ok (.putfield 77, 3) := by decide +kernel
theorem d_SpeciesSolver_give_46 : decode b_SpeciesSolver_give 46 = .ok (.aload_n 0, 1) := by decide +kernel
theorem d_SpeciesSolver_give_47 : decode b_SpeciesSolver_give 47 = .ok (.iconst 0, 1) := by decide +kernel
theorem d_SpeciesSolver_give_48 : decode b_SpeciesSolver_give 48 = .ok (.putfield 32, 3) := by decide +kernel
theorem d_SpeciesSolver_give_51 : decode b_SpeciesSolver_give 51 = .ok (.aload_n 0, 1) := by decide +kernel
theorem d_SpeciesSolver_give_52 : decode b_SpeciesSolver_give 52 = .ok (.getfield 39, 3) := by decide +kernel
theorem d_SpeciesSolver_give_55 : decode b_SpeciesSolver_give 55 = .ok (.getfield 92, 3) := by decide +kernel
theorem d_SpeciesSolver_give_58 : decode b_SpeciesSolver_give 58 = .ok (.iconst 1, 1) := by decide +kernel
theorem d_SpeciesSolver_give_59 : decode b_SpeciesSolver_give 59 = .ok (.isub, 1) := by decide +kernel
theorem d_SpeciesSolver_give_60 : decode b_SpeciesSolver_give 60 = .ok (.ireturn, 1) := by decide +kernel
abbrev wd_SpeciesSolver_give (kc : Nat → ClassId) (ad : Nat → Nat) (mn_bestCost : Int32) (mn_bestPerNote : Int32) (mn_bestLength : Int32) (mn_searched : Int32) (su_lines : Int32) (su_length : Int32) (su_perNote : Int32) (su_above : Int32) (su_given : Nat → Nat → Int32) (dr_size : Int32) (dr_notes : Nat → Int32) : va_W := [((ad 0), .inr (0, [.ref (ad 1), .ref (ad 8), .ref (ad 9), .ref (ad 13), .ref (ad 23), .ref (ad 34), .ref (ad 36), .ref (ad 38), .int mn_bestCost, .int mn_bestPerNote, .int mn_bestLength, .int mn_searched])), ((ad 1), .inr (7, [.ref (ad 2), .ref (ad 3), .ref (ad 4), .int su_lines, .int su_length, .int su_perNote, .int su_above])), ((ad 4), .inl (kc 3, 3, .inr (.inr (.inr (.inr (fun i => if i < 3 then some (ad (5 + i)) else none)))))), ((ad 5), .inl (kc 0, 12, .inl (su_given 0))), ((ad 6), .inl (kc 0, 12, .inl (su_given 1))), ((ad 7), .inl (kc 0, 12, .inl (su_given 2))), ((ad 34), .inr (3, [.ref (ad 35), .int dr_size])), ((ad 35), .inl (kc 0, 45, .inl dr_notes))]
abbrev rm_SpeciesSolver_give : Room := { frames := 2, cells := 0, slots := 0, locals := 45 }
abbrev cw_SpeciesSolver_give : Cond := .code y_SpeciesSolver_give b_SpeciesSolver_give 1 (some .int)
abbrev ws_SpeciesSolver_give : List Cond := cw_SpeciesSolver_give :: GW
theorem hd_SpeciesSolver_give : y_SpeciesSolver_give.cls ≠ "java/lang/invoke/MethodHandle" ∧ y_SpeciesSolver_give.cls ≠ "java/lang/invoke/VarHandle" ∧ (parseMethodDescriptor y_SpeciesSolver_give.desc).map (fun d => d.parameters.length) = some 0 := by decide +kernel
def m_SpeciesSolver_give (F : Nat) (dr_notes : Nat → Int32) (mn_searched : Int32) (su_lines : Int32) (su_length : Int32) (su_given : Nat → Nat → Int32) (dr_size : Int32)  : Option (Int32 × Int32 × Int32 × Int32 × (Nat → Nat → Int32) × Int32) :=
  (bd (m_Setup_hasPlaceFor su_lines su_length dr_size) (fun u1 => (if u1 = (0 : Int32) then
    (some ((-1 : Int32), mn_searched, su_lines, su_length, su_given, dr_size))
  else
    (bd (m_Setup_addLine F dr_size dr_notes su_lines su_length su_given (1 : Int32) dr_size) (fun u4 => (some ((u4.1 - (1 : Int32)), (0 : Int32), u4.1, u4.2.1, u4.2.2, (0 : Int32))))))))
set_option maxHeartbeats 4000000 in
set_option maxRecDepth 100000 in
theorem e_SpeciesSolver_give {r : Int32 × Int32 × Int32 × Int32 × (Nat → Nat → Int32) × Int32} {F : Nat} {ad : Nat → Nat} {mn_bestCost : Int32} {mn_bestPerNote : Int32} {mn_bestLength : Int32} {mn_searched : Int32} {su_lines : Int32} {su_length : Int32} {su_perNote : Int32} {su_above : Int32} {su_given : Nat → Nat → Int32} {dr_size : Int32} {dr_notes : Nat → Int32}  {H : Heap} {locs : List Loc} {ls : Array Slot} (C : Cx p s m meth c args A D kc R_SpeciesSolver b_SpeciesSolver_give 1 (some .int)) (hm : m_SpeciesSolver_give F dr_notes mn_searched su_lines su_length su_given dr_size = some r) (hZ : St D A s (wd_SpeciesSolver_give kc ad mn_bestCost mn_bestPerNote mn_bestLength mn_searched su_lines su_length su_perNote su_above su_given dr_size dr_notes) H locs) (hl : lv_has ls 1 [(0, .ref (ad 0))]) : W p l e rm_SpeciesSolver_give s m args below meth c H locs 0 0 (MQ below (Qi D A (wd_SpeciesSolver_give kc ad mn_bestCost mn_bestPerNote mn_bestLength r.2.1 r.2.2.1 r.2.2.2.1 su_perNote su_above r.2.2.2.2.1 r.2.2.2.2.2 dr_notes) r.1) args s 0 0 A) (F0 m 0 ls []) := by
  obtain ⟨hx, hb, hr, hts, hown, hml, hlocks, hK, hN, hA, hX⟩ := id C
  obtain ⟨hP, hD, hS⟩ := hZ
  unfold m_SpeciesSolver_give at hm
  refine lv_aload_n hx hb d_SpeciesSolver_give_0 rfl (lv_at hl 0 rfl) ?_
  refine va_get (D := D) (ci := 0) (v := .ref (ad 1)) (C := R_SpeciesSolver) (T := T_SpeciesSolver) (N := 12) hx hb hts inG_SpeciesSolver hown hK hP 0 rfl rfl 0 (by decide) (hts _ gw_368) (fun _ h9 => h9) rfl d_SpeciesSolver_give_1 ?_
  refine lv_aload_n hx hb d_SpeciesSolver_give_4 rfl (lv_at hl 0 rfl) ?_
  refine va_get (D := D) (ci := 0) (v := .ref (ad 34)) (C := R_SpeciesSolver) (T := T_SpeciesSolver) (N := 12) hx hb hts inG_SpeciesSolver hown hK hP 0 rfl rfl 5 (by decide) (hts _ gw_373) (fun _ h9 => h9) rfl d_SpeciesSolver_give_5 ?_
  refine va_getN (D := D) (ci := 3) (v := .int dr_size) (C := R_Line) (T := T_Line) (N := 2) hx hb hts inG_Line hown hK hP 6 rfl rfl 1 (by decide) (va_Nw.use rfl (hN _ nw_137)) (fun _ h9 => h9) rfl d_SpeciesSolver_give_8 ?_
  obtain ⟨u1, hc2, hm⟩ := bd_some hm
  refine zVN_i (n := 1) (wr := [((ad 0), .inr (0, [.ref (ad 1), .ref (ad 8), .ref (ad 9), .ref (ad 13), .ref (ad 23), .ref (ad 34), .ref (ad 36), .ref (ad 38), .int mn_bestCost, .int mn_bestPerNote, .int mn_bestLength, .int mn_searched])), ((ad 4), .inl (kc 3, 3, .inr (.inr (.inr (.inr (fun i => if i < 3 then some (ad (5 + i)) else none)))))), ((ad 5), .inl (kc 0, 12, .inl (su_given 0))), ((ad 6), .inl (kc 0, 12, .inl (su_given 1))), ((ad 7), .inl (kc 0, 12, .inl (su_given 2))), ((ad 34), .inr (3, [.ref (ad 35), .int dr_size])), ((ad 35), .inl (kc 0, 45, .inl dr_notes))]) (w1 := (wd_Setup_hasPlaceFor kc ad su_lines su_length su_perNote su_above)) (ws1 := (wd_SpeciesSolver_give kc ad mn_bestCost mn_bestPerNote mn_bestLength mn_searched su_lines su_length su_perNote su_above su_given dr_size dr_notes)) (As := [.int dr_size]) (rest := []) (ci := 7) (q0 := 0) (y := y_Setup_hasPlaceFor) (host := "SpeciesSolver") ⟨hx, hb, hml, hown, hts⟩ (fun sz => c_Setup_hasPlaceFor hc2 sz) gw_420 (hN _ nw_417) gw_419 gw_1 gw_113 hd_Setup_hasPlaceFor ⟨Nat.le_of_ble_eq_true rfl, Nat.le_of_ble_eq_true rfl⟩ ⟨rfl, rfl⟩ ⟨Nat.zero_le _, Nat.zero_le _⟩ hK hN hP hD hS hA hX [1] [0, 2, 3, 4, 5, 6, 7] [0, 7, 1, 2, 3, 4, 5, 6] rfl rfl (by decide) (by decide) (by decide) rfl (by decide) rfl rfl rfl hl.1 rfl (Nat.le_of_ble_eq_true rfl) d_SpeciesSolver_give_11 (fun H locs hP hD hS => ?_)
  refine lv_if_ne (tgt := 19) hx hb d_SpeciesSolver_give_14 (by decide) (fun c3 => ?_) (fun c3 => ?_)
  · replace hm := ifF hm c3
    refine lv_aload_n hx hb d_SpeciesSolver_give_19 rfl (lv_at hl 0 rfl) ?_
    refine va_get (D := D) (ci := 0) (v := .ref (ad 1)) (C := R_SpeciesSolver) (T := T_SpeciesSolver) (N := 12) hx hb hts inG_SpeciesSolver hown hK hP 0 rfl rfl 0 (by decide) (hts _ gw_368) (fun _ h9 => h9) rfl d_SpeciesSolver_give_20 ?_
    refine lv_aload_n hx hb d_SpeciesSolver_give_23 rfl (lv_at hl 0 rfl) ?_
    refine va_get (D := D) (ci := 0) (v := .ref (ad 34)) (C := R_SpeciesSolver) (T := T_SpeciesSolver) (N := 12) hx hb hts inG_SpeciesSolver hown hK hP 0 rfl rfl 5 (by decide) (hts _ gw_373) (fun _ h9 => h9) rfl d_SpeciesSolver_give_24 ?_
    refine lv_iconst (v := 1) hx hb d_SpeciesSolver_give_27 (by decide) ?_
    refine lv_aload_n hx hb d_SpeciesSolver_give_28 rfl (lv_at hl 0 rfl) ?_
    refine va_get (D := D) (ci := 0) (v := .ref (ad 34)) (C := R_SpeciesSolver) (T := T_SpeciesSolver) (N := 12) hx hb hts inG_SpeciesSolver hown hK hP 0 rfl rfl 5 (by decide) (hts _ gw_373) (fun _ h9 => h9) rfl d_SpeciesSolver_give_29 ?_
    refine va_getN (D := D) (ci := 3) (v := .int dr_size) (C := R_Line) (T := T_Line) (N := 2) hx hb hts inG_Line hown hK hP 6 rfl rfl 1 (by decide) (va_Nw.use rfl (hN _ nw_137)) (fun _ h9 => h9) rfl d_SpeciesSolver_give_32 ?_
    obtain ⟨u4, hc5, hm⟩ := bd_some hm
    refine zVN_v (n := 3) (wr := [((ad 0), .inr (0, [.ref (ad 1), .ref (ad 8), .ref (ad 9), .ref (ad 13), .ref (ad 23), .ref (ad 34), .ref (ad 36), .ref (ad 38), .int mn_bestCost, .int mn_bestPerNote, .int mn_bestLength, .int mn_searched]))]) (w1 := (wd_Setup_addLine kc ad (ad 34) (ad 35) dr_size dr_notes u4.1 u4.2.1 su_perNote su_above u4.2.2)) (ws1 := (wd_SpeciesSolver_give kc ad mn_bestCost mn_bestPerNote mn_bestLength mn_searched u4.1 u4.2.1 su_perNote su_above u4.2.2 dr_size dr_notes)) (As := [.ref (ad 34), .int (1 : Int32), .int dr_size]) (rest := []) (ci := 7) (q0 := 2) (y := y_Setup_addLine) (host := "SpeciesSolver") ⟨hx, hb, hml, hown, hts⟩ (fun sz => c_Setup_addLine hc5 sz) gw_424 (hN _ nw_421) gw_423 gw_2 gw_113 hd_Setup_addLine ⟨Nat.le_of_ble_eq_true rfl, Nat.le_of_ble_eq_true rfl⟩ ⟨rfl, rfl⟩ ⟨Nat.zero_le _, Nat.zero_le _⟩ hK hN hP hD hS hA hX [6, 7, 1, 2, 3, 4, 5] [0] [0, 3, 4, 5, 6, 7, 1, 2] rfl rfl (by decide) (by decide) (by decide) rfl (by decide) rfl rfl rfl hl.1 rfl (Nat.le_of_ble_eq_true rfl) d_SpeciesSolver_give_35 (fun H locs hP hD hS => ?_)
    refine lv_aload_n hx hb d_SpeciesSolver_give_38 rfl (lv_at hl 0 rfl) ?_
    refine va_get (D := D) (ci := 0) (v := .ref (ad 34)) (C := R_SpeciesSolver) (T := T_SpeciesSolver) (N := 12) hx hb hts inG_SpeciesSolver hown hK hP 0 rfl rfl 5 (by decide) (hts _ gw_373) (fun _ h9 => h9) rfl d_SpeciesSolver_give_39 ?_
    refine lv_iconst (v := 0) hx hb d_SpeciesSolver_give_42 (by decide) ?_
    refine va_putN (D := D) (ci := 3) (v := .int (0 : Int32)) (ty := .int) (C := R_Line) (T := T_Line) (N := 2) hx hb hts inG_Line ty_Line tok_Line nmo_Line hown hK hP hD hS 6 rfl rfl 1 (by decide) (va_Nw.use rfl (hN _ nw_137)) (fun _ h9 => h9) rfl (tok_Line 1 (by decide)) rfl rfl (Nat.le_of_ble_eq_true rfl) d_SpeciesSolver_give_43 (fun H locs hP hD hS => ?_)
    replace hP : va_P D vwCl (wd_SpeciesSolver_give kc ad mn_bestCost mn_bestPerNote mn_bestLength mn_searched u4.1 u4.2.1 su_perNote su_above u4.2.2 (0 : Int32) dr_notes) H := hP
    replace hD : va_D A (wd_SpeciesSolver_give kc ad mn_bestCost mn_bestPerNote mn_bestLength mn_searched u4.1 u4.2.1 su_perNote su_above u4.2.2 (0 : Int32) dr_notes) := hD
    refine lv_aload_n hx hb d_SpeciesSolver_give_46 rfl (lv_at hl 0 rfl) ?_
    refine lv_iconst (v := 0) hx hb d_SpeciesSolver_give_47 (by decide) ?_
    refine va_put (D := D) (ci := 0) (v := .int (0 : Int32)) (ty := .boolean) (C := R_SpeciesSolver) (T := T_SpeciesSolver) (N := 12) hx hb hts inG_SpeciesSolver ty_SpeciesSolver tok_SpeciesSolver nmo_SpeciesSolver hown hK hP hD hS 0 rfl rfl 11 (by decide) (hts _ gw_379) (fun _ h9 => h9) rfl (tok_SpeciesSolver 11 (by decide)) rfl rfl (Nat.le_of_ble_eq_true rfl) d_SpeciesSolver_give_48 (fun H locs hP hD hS => ?_)
    replace hP : va_P D vwCl (wd_SpeciesSolver_give kc ad mn_bestCost mn_bestPerNote mn_bestLength (0 : Int32) u4.1 u4.2.1 su_perNote su_above u4.2.2 (0 : Int32) dr_notes) H := hP
    replace hD : va_D A (wd_SpeciesSolver_give kc ad mn_bestCost mn_bestPerNote mn_bestLength (0 : Int32) u4.1 u4.2.1 su_perNote su_above u4.2.2 (0 : Int32) dr_notes) := hD
    refine lv_aload_n hx hb d_SpeciesSolver_give_51 rfl (lv_at hl 0 rfl) ?_
    refine va_get (D := D) (ci := 0) (v := .ref (ad 1)) (C := R_SpeciesSolver) (T := T_SpeciesSolver) (N := 12) hx hb hts inG_SpeciesSolver hown hK hP 0 rfl rfl 0 (by decide) (hts _ gw_368) (fun _ h9 => h9) rfl d_SpeciesSolver_give_52 ?_
    refine va_getN (D := D) (ci := 7) (v := .int u4.1) (C := R_Setup) (T := T_Setup) (N := 7) hx hb hts inG_Setup hown hK hP 1 rfl rfl 3 (by decide) (va_Nw.use rfl (hN _ nw_170)) (fun _ h9 => h9) rfl d_SpeciesSolver_give_55 ?_
    refine lv_iconst (v := 1) hx hb d_SpeciesSolver_give_58 (by decide) ?_
    refine lv_isub hx hb d_SpeciesSolver_give_59 ?_
    replace hm := Option.some.inj hm; subst hm
    exact zret_i C hP hD hS d_SpeciesSolver_give_60
  · replace hm := ifT hm c3
    refine lv_iconst (v := -1) hx hb d_SpeciesSolver_give_17 (by decide) ?_
    replace hm := Option.some.inj hm; subst hm
    exact zret_i C hP hD hS d_SpeciesSolver_give_18
set_option maxHeartbeats 4000000 in
set_option maxRecDepth 100000 in
theorem c_SpeciesSolver_give {l : Launch} {D : va_G} {kc : Nat → ClassId} {r : Int32 × Int32 × Int32 × Int32 × (Nat → Nat → Int32) × Int32} {F : Nat} {ad : Nat → Nat} {mn_bestCost : Int32} {mn_bestPerNote : Int32} {mn_bestLength : Int32} {mn_searched : Int32} {su_lines : Int32} {su_length : Int32} {su_perNote : Int32} {su_above : Int32} {su_given : Nat → Nat → Int32} {dr_size : Int32} {dr_notes : Nat → Int32}  (hm : m_SpeciesSolver_give F dr_notes mn_searched su_lines su_length su_given dr_size = some r) (sz : Nat) : Ci l y_SpeciesSolver_give ws_SpeciesSolver_give rm_SpeciesSolver_give D kc sz [.ref (ad 0)] (wd_SpeciesSolver_give kc ad mn_bestCost mn_bestPerNote mn_bestLength mn_searched su_lines su_length su_perNote su_above su_given dr_size dr_notes) (wd_SpeciesSolver_give kc ad mn_bestCost mn_bestPerNote mn_bestLength r.2.1 r.2.2.1 r.2.2.2.1 su_perNote su_above r.2.2.2.2.1 r.2.2.2.2.2 dr_notes) r.1 :=
  Cz_of (Qf := fun A => (Qi D A (wd_SpeciesSolver_give kc ad mn_bestCost mn_bestPerNote mn_bestLength r.2.1 r.2.2.1 r.2.2.2.1 su_perNote su_above r.2.2.2.2.1 r.2.2.2.2.2 dr_notes) r.1)) (cc := b_SpeciesSolver_give) (maxL := 1) (ret := (some .int)) (by decide) rfl rfl (fun C hZ hl => e_SpeciesSolver_give C hm hZ hl)
abbrev b_Line_copyOf : ByteArray := prog_3_method_4_code
abbrev y_Line_copyOf : MethodName := ⟨"SpeciesSolver$Line", "copyOf", "(LSpeciesSolver$Line;)V"⟩
theorem d_Line_copyOf_0 : decode b_Line_copyOf 0 = .ok (.iconst 0, 1) := by decide +kernel
theorem d_Line_copyOf_1 : decode b_Line_copyOf 1 = .ok (.istore_n 2, 1) := by decide +kernel
theorem d_Line_copyOf_2 : decode b_Line_copyOf 2 = .ok (.iload_n 2, 1) := by decide +kernel
theorem d_Line_copyOf_3 : decode b_Line_copyOf 3 = .ok (.aload_n 1, 1) := by decide +kernel
theorem d_Line_copyOf_4 : decode b_Line_copyOf 4 = .ok (.getfield 15, 3) := by decide +kernel
theorem d_Line_copyOf_7 : decode b_Line_copyOf 7 = .ok (.if_icmp .ge 21, 3) := by decide +kernel
theorem d_Line_copyOf_10 : decode b_Line_copyOf 10 = .ok (.aload_n 0, 1) := by decide +kernel
theorem d_Line_copyOf_11 : decode b_Line_copyOf 11 = .ok (.getfield 9, 3) := by decide +kernel
theorem d_Line_copyOf_14 : decode b_Line_copyOf 14 = .ok (.iload_n 2, 1) := by decide +kernel
theorem d_Line_copyOf_15 : decode b_Line_copyOf 15 = .ok (.aload_n 1, 1) := by decide +kernel
theorem d_Line_copyOf_16 : decode b_Line_copyOf 16 = .ok (.getfield 9, 3) := by decide +kernel
theorem d_Line_copyOf_19 : decode b_Line_copyOf 19 = .ok (.iload_n 2, 1) := by decide +kernel
theorem d_Line_copyOf_20 : decode b_Line_copyOf 20 = .ok (.iaload, 1) := by decide +kernel
theorem d_Line_copyOf_21 : decode b_Line_copyOf 21 = .ok (.iastore, 1) := by decide +kernel
theorem d_Line_copyOf_22 : decode b_Line_copyOf 22 = .ok (.iinc 2 1, 3) := by decide +kernel
theorem d_Line_copyOf_25 : decode b_Line_copyOf 25 = .ok (.goto (-23), 3) := by decide +kernel
theorem d_Line_copyOf_28 : decode b_Line_copyOf 28 = .ok (.aload_n 0, 1) := by decide +kernel
theorem d_Line_copyOf_29 : decode b_Line_copyOf 29 = .ok (.aload_n 1, 1) := by decide +kernel
theorem d_Line_copyOf_30 : decode b_Line_copyOf 30 = .ok (.getfield 15, 3) := by decide +kernel
theorem d_Line_copyOf_33 : decode b_Line_copyOf 33 = .ok (.putfield 15, 3) := by decide +kernel
theorem d_Line_copyOf_36 : decode b_Line_copyOf 36 = .ok (.return_, 1) := by decide +kernel
abbrev wd_Line_copyOf (kc : Nat → ClassId) (xa : Nat) (xb : Nat) (ya : Nat) (yb : Nat) (X_size : Int32) (X_notes : Nat → Int32) (Y_size : Int32) (Y_notes : Nat → Int32) : va_W := [(xa, .inr (3, [.ref xb, .int X_size])), (xb, .inl (kc 0, 45, .inl X_notes)), (ya, .inr (3, [.ref yb, .int Y_size])), (yb, .inl (kc 0, 45, .inl Y_notes))]
abbrev rm_Line_copyOf : Room := { frames := 0, cells := 0, slots := 0, locals := 0 }
abbrev cw_Line_copyOf : Cond := .code y_Line_copyOf b_Line_copyOf 3 none
abbrev ws_Line_copyOf : List Cond := cw_Line_copyOf :: GW
theorem hd_Line_copyOf : y_Line_copyOf.cls ≠ "java/lang/invoke/MethodHandle" ∧ y_Line_copyOf.cls ≠ "java/lang/invoke/VarHandle" ∧ (parseMethodDescriptor y_Line_copyOf.desc).map (fun d => d.parameters.length) = some 1 := by decide +kernel
def m_Line_copyOf_2b (F : Nat) (Y_size : Int32) (Y_notes : Nat → Int32) (k2 : Int32 → (Nat → Int32) → Int32 → Option (Int32 × (Nat → Int32))) (X_size : Int32) (X_notes : Nat → Int32) (x2 : Int32) : Option (Int32 × (Nat → Int32)) :=
  (if Y_size ≤ x2 then
    (some (Y_size, X_notes))
  else
    (gd x2 45 (gd x2 45 (k2 X_size (upd X_notes (Int32.toNatClampNeg x2) (Y_notes (Int32.toNatClampNeg x2))) (x2 + 1)))))
set_option maxHeartbeats 4000000 in
set_option maxRecDepth 100000 in
theorem l_Line_copyOf_2 {r : Int32 × (Nat → Int32)} {F : Nat} {xa : Nat} {xb : Nat} {ya : Nat} {yb : Nat} {X_size : Int32} {X_notes : Nat → Int32} {Y_size : Int32} {Y_notes : Nat → Int32} {k2 : Int32 → (Nat → Int32) → Int32 → Option (Int32 × (Nat → Int32))} {x2 : Int32} {H : Heap} {locs : List Loc} {ls : Array Slot} (C : Cx p s m meth c args A D kc R_Line b_Line_copyOf 3 none) (hk2 : (∀ (X_size : Int32) (X_notes : Nat → Int32) (x2 : Int32) (H : Heap) (locs : List Loc) (ls : Array Slot), k2 X_size X_notes x2 = some r → St D A s (wd_Line_copyOf kc xa xb ya yb X_size X_notes Y_size Y_notes) H locs → lv_has ls 3 [(0, .ref xa), (1, .ref ya), (2, .int x2)] → W p l e rm_Line_copyOf s m args below meth c H locs 0 0 (MQ below (Qv D A (wd_Line_copyOf kc xa xb ya yb r.1 r.2 Y_size Y_notes)) args s 0 0 A) (F0 m 2 ls []))) (hm : m_Line_copyOf_2b F Y_size Y_notes k2 X_size X_notes x2 = some r) (hZ : St D A s (wd_Line_copyOf kc xa xb ya yb X_size X_notes Y_size Y_notes) H locs) (hl : lv_has ls 3 [(0, .ref xa), (1, .ref ya), (2, .int x2)]) : W p l e rm_Line_copyOf s m args below meth c H locs 0 0 (MQ below (Qv D A (wd_Line_copyOf kc xa xb ya yb r.1 r.2 Y_size Y_notes)) args s 0 0 A) (F0 m 2 ls []) := by
  obtain ⟨hx, hb, hr, hts, hown, hml, hlocks, hK, hN, hA, hX⟩ := id C
  obtain ⟨hP, hD, hS⟩ := hZ
  unfold m_Line_copyOf_2b at hm
  refine lv_iload_n hx hb d_Line_copyOf_2 rfl (lv_at hl 2 rfl) ?_
  refine lv_aload_n hx hb d_Line_copyOf_3 rfl (lv_at hl 1 rfl) ?_
  refine va_get (D := D) (ci := 3) (v := .int Y_size) (C := R_Line) (T := T_Line) (N := 2) hx hb hts inG_Line hown hK hP 2 rfl rfl 1 (by decide) (hts _ gw_136) (fun _ h9 => h9) rfl d_Line_copyOf_4 ?_
  refine lv_icmp_ge (tgt := 28) hx hb d_Line_copyOf_7 (by decide) (fun c1 => ?_) (fun c1 => ?_)
  · replace hm := ifT hm c1
    refine lv_aload_n hx hb d_Line_copyOf_28 rfl (lv_at hl 0 rfl) ?_
    refine lv_aload_n hx hb d_Line_copyOf_29 rfl (lv_at hl 1 rfl) ?_
    refine va_get (D := D) (ci := 3) (v := .int Y_size) (C := R_Line) (T := T_Line) (N := 2) hx hb hts inG_Line hown hK hP 2 rfl rfl 1 (by decide) (hts _ gw_136) (fun _ h9 => h9) rfl d_Line_copyOf_30 ?_
    refine va_put (D := D) (ci := 3) (v := .int Y_size) (ty := .int) (C := R_Line) (T := T_Line) (N := 2) hx hb hts inG_Line ty_Line tok_Line nmo_Line hown hK hP hD hS 0 rfl rfl 1 (by decide) (hts _ gw_136) (fun _ h9 => h9) rfl (tok_Line 1 (by decide)) rfl rfl (Nat.le_of_ble_eq_true rfl) d_Line_copyOf_33 (fun H locs hP hD hS => ?_)
    replace hP : va_P D vwCl (wd_Line_copyOf kc xa xb ya yb Y_size X_notes Y_size Y_notes) H := hP
    replace hD : va_D A (wd_Line_copyOf kc xa xb ya yb Y_size X_notes Y_size Y_notes) := hD
    replace hm := Option.some.inj hm; subst hm
    exact zret_v C hP hD hS d_Line_copyOf_36
  · replace hm := ifF hm c1
    refine lv_aload_n hx hb d_Line_copyOf_10 rfl (lv_at hl 0 rfl) ?_
    refine va_get (D := D) (ci := 3) (v := .ref xb) (C := R_Line) (T := T_Line) (N := 2) hx hb hts inG_Line hown hK hP 0 rfl rfl 0 (by decide) (hts _ gw_133) (fun _ h9 => h9) rfl d_Line_copyOf_11 ?_
    refine lv_iload_n hx hb d_Line_copyOf_14 rfl (lv_at hl 2 rfl) ?_
    refine lv_aload_n hx hb d_Line_copyOf_15 rfl (lv_at hl 1 rfl) ?_
    refine va_get (D := D) (ci := 3) (v := .ref yb) (C := R_Line) (T := T_Line) (N := 2) hx hb hts inG_Line hown hK hP 2 rfl rfl 0 (by decide) (hts _ gw_133) (fun _ h9 => h9) rfl d_Line_copyOf_16 ?_
    refine lv_iload_n hx hb d_Line_copyOf_19 rfl (lv_at hl 2 rfl) ?_
    obtain ⟨hi2, hm⟩ := gd_some hm
    refine va_iald hx hb hK hP 3 0 rfl rfl hi2 d_Line_copyOf_20 ?_
    obtain ⟨hi3, hm⟩ := gd_some hm
    refine va_iast hx hb hK hP hD hS 1 0 rfl rfl hi3 d_Line_copyOf_21 (fun H locs hP hD hS => ?_)
    replace hP : va_P D vwCl (wd_Line_copyOf kc xa xb ya yb X_size (upd X_notes (Int32.toNatClampNeg x2) (Y_notes (Int32.toNatClampNeg x2))) Y_size Y_notes) H := hP
    replace hD : va_D A (wd_Line_copyOf kc xa xb ya yb X_size (upd X_notes (Int32.toNatClampNeg x2) (Y_notes (Int32.toNatClampNeg x2))) Y_size Y_notes) := hD
    refine lv_iinc (v := (x2 + 1)) (lv' := [(2, .int (x2 + 1)), (0, .ref xa), (1, .ref ya)]) hx hb d_Line_copyOf_22 hl (k := 2) rfl rfl (by decide) rfl (fun ls hl => ?_)
    refine lv_goto (tgt := 2) hx hb d_Line_copyOf_25 (by decide) ?_
    exact hk2 X_size (upd X_notes (Int32.toNatClampNeg x2) (Y_notes (Int32.toNatClampNeg x2))) (x2 + 1) _ _ _ hm ⟨hP, hD, hS⟩ (lv_sub hl [1, 2, 0] rfl)
def m_Line_copyOf_2 (F : Nat) (Y_size : Int32) (Y_notes : Nat → Int32)  : Nat → Int32 → (Nat → Int32) → Int32 → Option (Int32 × (Nat → Int32))
  | 0 => fun _ _ _ => none
  | n + 1 => m_Line_copyOf_2b F Y_size Y_notes  (m_Line_copyOf_2 F Y_size Y_notes  n)
set_option maxHeartbeats 4000000 in
set_option maxRecDepth 100000 in
theorem lp_Line_copyOf_2 {r : Int32 × (Nat → Int32)} {F : Nat} {xa : Nat} {xb : Nat} {ya : Nat} {yb : Nat} {Y_size : Int32} {Y_notes : Nat → Int32}  (C : Cx p s m meth c args A D kc R_Line b_Line_copyOf 3 none)  : ∀ (n : Nat) (X_size : Int32) (X_notes : Nat → Int32) (x2 : Int32) (H : Heap) (locs : List Loc) (ls : Array Slot), m_Line_copyOf_2 F Y_size Y_notes  n X_size X_notes x2 = some r → St D A s (wd_Line_copyOf kc xa xb ya yb X_size X_notes Y_size Y_notes) H locs → lv_has ls 3 [(0, .ref xa), (1, .ref ya), (2, .int x2)] → W p l e rm_Line_copyOf s m args below meth c H locs 0 0 (MQ below (Qv D A (wd_Line_copyOf kc xa xb ya yb r.1 r.2 Y_size Y_notes)) args s 0 0 A) (F0 m 2 ls []) := by
  intro n
  induction n with
  | zero => intro X_size X_notes x2 H locs ls hm; cases hm
  | succ n ih => intro X_size X_notes x2 H locs ls hm hZ hl; exact l_Line_copyOf_2 C  ih hm hZ hl
def m_Line_copyOf (F : Nat) (Y_size : Int32) (Y_notes : Nat → Int32) (X_size : Int32) (X_notes : Nat → Int32)  : Option (Int32 × (Nat → Int32)) :=
  m_Line_copyOf_2 F Y_size Y_notes  F X_size X_notes (0 : Int32)
set_option maxHeartbeats 4000000 in
set_option maxRecDepth 100000 in
theorem e_Line_copyOf {r : Int32 × (Nat → Int32)} {F : Nat} {xa : Nat} {xb : Nat} {ya : Nat} {yb : Nat} {X_size : Int32} {X_notes : Nat → Int32} {Y_size : Int32} {Y_notes : Nat → Int32}  {H : Heap} {locs : List Loc} {ls : Array Slot} (C : Cx p s m meth c args A D kc R_Line b_Line_copyOf 3 none) (hm : m_Line_copyOf F Y_size Y_notes X_size X_notes = some r) (hZ : St D A s (wd_Line_copyOf kc xa xb ya yb X_size X_notes Y_size Y_notes) H locs) (hl : lv_has ls 3 [(0, .ref xa), (1, .ref ya)]) : W p l e rm_Line_copyOf s m args below meth c H locs 0 0 (MQ below (Qv D A (wd_Line_copyOf kc xa xb ya yb r.1 r.2 Y_size Y_notes)) args s 0 0 A) (F0 m 0 ls []) := by
  obtain ⟨hx, hb, hr, hts, hown, hml, hlocks, hK, hN, hA, hX⟩ := id C
  obtain ⟨hP, hD, hS⟩ := hZ
  unfold m_Line_copyOf at hm
  refine lv_iconst (v := 0) hx hb d_Line_copyOf_0 (by decide) ?_
  refine lv_istore_n (lv' := [(2, .int (0 : Int32)), (0, .ref xa), (1, .ref ya)]) hx hb d_Line_copyOf_1 rfl hl (by decide) rfl (fun ls hl => ?_)
  exact lp_Line_copyOf_2 C  F X_size X_notes (0 : Int32) _ _ _ hm ⟨hP, hD, hS⟩ (lv_sub hl [1, 2, 0] rfl)
set_option maxHeartbeats 4000000 in
set_option maxRecDepth 100000 in
theorem c_Line_copyOf {l : Launch} {D : va_G} {kc : Nat → ClassId} {r : Int32 × (Nat → Int32)} {F : Nat} {xa : Nat} {xb : Nat} {ya : Nat} {yb : Nat} {X_size : Int32} {X_notes : Nat → Int32} {Y_size : Int32} {Y_notes : Nat → Int32}  (hm : m_Line_copyOf F Y_size Y_notes X_size X_notes = some r) (sz : Nat) : Cv l y_Line_copyOf ws_Line_copyOf rm_Line_copyOf D kc sz [.ref xa, .ref ya] (wd_Line_copyOf kc xa xb ya yb X_size X_notes Y_size Y_notes) (wd_Line_copyOf kc xa xb ya yb r.1 r.2 Y_size Y_notes) :=
  Cz_of (Qf := fun A => (Qv D A (wd_Line_copyOf kc xa xb ya yb r.1 r.2 Y_size Y_notes))) (cc := b_Line_copyOf) (maxL := 3) (ret := none) (by decide) rfl rfl (fun C hZ hl => e_Line_copyOf C hm hZ hl)
abbrev b_SpeciesSolver_attempt : ByteArray := prog_1_method_4_code
abbrev y_SpeciesSolver_attempt : MethodName := ⟨"SpeciesSolver", "attempt", "()I"⟩
theorem d_SpeciesSolver_attempt_0 : decode b_SpeciesSolver_attempt 0 = .ok (.aload_n 0, 1) := by decide +kernel
theorem d_SpeciesSolver_attempt_1 : decode b_SpeciesSolver_attempt 1 = .ok (.getfield 16, 3) := by decide +kernel
theorem d_SpeciesSolver_attempt_4 : decode b_SpeciesSolver_attempt 4 = .ok (.aload_n 0, 1) := by decide +kernel
theorem d_SpeciesSolver_attempt_5 : decode b_SpeciesSolver_attempt 5 = .ok (.getfield 10, 3) := by decide +kernel
theorem d_SpeciesSolver_attempt_8 : decode b_SpeciesSolver_attempt 8 = .ok (.invokevirtual 95, 3) := by decide +kernel
theorem d_SpeciesSolver_attempt_11 : decode b_SpeciesSolver_attempt 11 = .ok (.aload_n 0, 1) := by decide +kernel
theorem d_SpeciesSolver_attempt_12 : decode b_SpeciesSolver_attempt 12 = .ok (.getfield 10, 3) := by decide +kernel
theorem d_SpeciesSolver_attempt_15 : decode b_SpeciesSolver_attempt 15 = .ok (.iconst 0, 1) := by decide +kernel
theorem d_SpeciesSolver_attempt_16 : decode b_SpeciesSolver_attempt 16 = .ok (.putfield 77, 3) := by decide +kernel
theorem d_SpeciesSolver_attempt_19 : decode b_SpeciesSolver_attempt 19 = .ok (.aload_n 0, 1) := by decide +kernel
theorem d_SpeciesSolver_attempt_20 : decode b_SpeciesSolver_attempt 20 = .ok (.getfield 16, 3) := by decide +kernel
theorem d_SpeciesSolver_attempt_23 : decode b_SpeciesSolver_attempt 23 = .ok (.getfield 77, 3) := by decide +kernel
theorem d_SpeciesSolver_attempt_26 : decode b_SpeciesSolver_attempt 26 = .ok (.ireturn, 1) := by decide +kernel
abbrev wd_SpeciesSolver_attempt (kc : Nat → ClassId) (ad : Nat → Nat) (mn_bestCost : Int32) (mn_bestPerNote : Int32) (mn_bestLength : Int32) (mn_searched : Int32) (dr_size : Int32) (dr_notes : Nat → Int32) (tr_size : Int32) (tr_notes : Nat → Int32) : va_W := [((ad 0), .inr (0, [.ref (ad 1), .ref (ad 8), .ref (ad 9), .ref (ad 13), .ref (ad 23), .ref (ad 34), .ref (ad 36), .ref (ad 38), .int mn_bestCost, .int mn_bestPerNote, .int mn_bestLength, .int mn_searched])), ((ad 34), .inr (3, [.ref (ad 35), .int dr_size])), ((ad 35), .inl (kc 0, 45, .inl dr_notes)), ((ad 36), .inr (3, [.ref (ad 37), .int tr_size])), ((ad 37), .inl (kc 0, 45, .inl tr_notes))]
abbrev rm_SpeciesSolver_attempt : Room := { frames := 1, cells := 0, slots := 0, locals := 22 }
abbrev cw_SpeciesSolver_attempt : Cond := .code y_SpeciesSolver_attempt b_SpeciesSolver_attempt 1 (some .int)
abbrev ws_SpeciesSolver_attempt : List Cond := cw_SpeciesSolver_attempt :: GW
theorem hd_SpeciesSolver_attempt : y_SpeciesSolver_attempt.cls ≠ "java/lang/invoke/MethodHandle" ∧ y_SpeciesSolver_attempt.cls ≠ "java/lang/invoke/VarHandle" ∧ (parseMethodDescriptor y_SpeciesSolver_attempt.desc).map (fun d => d.parameters.length) = some 0 := by decide +kernel
def m_SpeciesSolver_attempt (F : Nat) (dr_notes : Nat → Int32) (dr_size : Int32) (tr_size : Int32) (tr_notes : Nat → Int32)  : Option (Int32 × Int32 × Int32 × (Nat → Int32)) :=
  (bd (m_Line_copyOf F dr_size dr_notes tr_size tr_notes) (fun u1 => (some (u1.1, (0 : Int32), u1.1, u1.2))))
set_option maxHeartbeats 4000000 in
set_option maxRecDepth 100000 in
theorem e_SpeciesSolver_attempt {r : Int32 × Int32 × Int32 × (Nat → Int32)} {F : Nat} {ad : Nat → Nat} {mn_bestCost : Int32} {mn_bestPerNote : Int32} {mn_bestLength : Int32} {mn_searched : Int32} {dr_size : Int32} {dr_notes : Nat → Int32} {tr_size : Int32} {tr_notes : Nat → Int32}  {H : Heap} {locs : List Loc} {ls : Array Slot} (C : Cx p s m meth c args A D kc R_SpeciesSolver b_SpeciesSolver_attempt 1 (some .int)) (hm : m_SpeciesSolver_attempt F dr_notes dr_size tr_size tr_notes = some r) (hZ : St D A s (wd_SpeciesSolver_attempt kc ad mn_bestCost mn_bestPerNote mn_bestLength mn_searched dr_size dr_notes tr_size tr_notes) H locs) (hl : lv_has ls 1 [(0, .ref (ad 0))]) : W p l e rm_SpeciesSolver_attempt s m args below meth c H locs 0 0 (MQ below (Qi D A (wd_SpeciesSolver_attempt kc ad mn_bestCost mn_bestPerNote mn_bestLength mn_searched r.2.1 dr_notes r.2.2.1 r.2.2.2) r.1) args s 0 0 A) (F0 m 0 ls []) := by
  obtain ⟨hx, hb, hr, hts, hown, hml, hlocks, hK, hN, hA, hX⟩ := id C
  obtain ⟨hP, hD, hS⟩ := hZ
  unfold m_SpeciesSolver_attempt at hm
  refine lv_aload_n hx hb d_SpeciesSolver_attempt_0 rfl (lv_at hl 0 rfl) ?_
  refine va_get (D := D) (ci := 0) (v := .ref (ad 36)) (C := R_SpeciesSolver) (T := T_SpeciesSolver) (N := 12) hx hb hts inG_SpeciesSolver hown hK hP 0 rfl rfl 6 (by decide) (hts _ gw_374) (fun _ h9 => h9) rfl d_SpeciesSolver_attempt_1 ?_
  refine lv_aload_n hx hb d_SpeciesSolver_attempt_4 rfl (lv_at hl 0 rfl) ?_
  refine va_get (D := D) (ci := 0) (v := .ref (ad 34)) (C := R_SpeciesSolver) (T := T_SpeciesSolver) (N := 12) hx hb hts inG_SpeciesSolver hown hK hP 0 rfl rfl 5 (by decide) (hts _ gw_373) (fun _ h9 => h9) rfl d_SpeciesSolver_attempt_5 ?_
  obtain ⟨u1, hc2, hm⟩ := bd_some hm
  refine zVN_v (n := 1) (wr := [((ad 0), .inr (0, [.ref (ad 1), .ref (ad 8), .ref (ad 9), .ref (ad 13), .ref (ad 23), .ref (ad 34), .ref (ad 36), .ref (ad 38), .int mn_bestCost, .int mn_bestPerNote, .int mn_bestLength, .int mn_searched]))]) (w1 := (wd_Line_copyOf kc (ad 36) (ad 37) (ad 34) (ad 35) u1.1 u1.2 dr_size dr_notes)) (ws1 := (wd_SpeciesSolver_attempt kc ad mn_bestCost mn_bestPerNote mn_bestLength mn_searched dr_size dr_notes u1.1 u1.2)) (As := [.ref (ad 34)]) (rest := []) (ci := 3) (q0 := 0) (y := y_Line_copyOf) (host := "SpeciesSolver") ⟨hx, hb, hml, hown, hts⟩ (fun sz => c_Line_copyOf hc2 sz) gw_436 (hN _ nw_433) gw_435 gw_4 gw_112 hd_Line_copyOf ⟨Nat.le_of_ble_eq_true rfl, Nat.le_of_ble_eq_true rfl⟩ ⟨rfl, rfl⟩ ⟨Nat.zero_le _, Nat.zero_le _⟩ hK hN hP hD hS hA hX [3, 4, 1, 2] [0] [0, 3, 4, 1, 2] rfl rfl (by decide) (by decide) (by decide) rfl (by decide) rfl rfl rfl hl.1 rfl (Nat.le_of_ble_eq_true rfl) d_SpeciesSolver_attempt_8 (fun H locs hP hD hS => ?_)
  refine lv_aload_n hx hb d_SpeciesSolver_attempt_11 rfl (lv_at hl 0 rfl) ?_
  refine va_get (D := D) (ci := 0) (v := .ref (ad 34)) (C := R_SpeciesSolver) (T := T_SpeciesSolver) (N := 12) hx hb hts inG_SpeciesSolver hown hK hP 0 rfl rfl 5 (by decide) (hts _ gw_373) (fun _ h9 => h9) rfl d_SpeciesSolver_attempt_12 ?_
  refine lv_iconst (v := 0) hx hb d_SpeciesSolver_attempt_15 (by decide) ?_
  refine va_putN (D := D) (ci := 3) (v := .int (0 : Int32)) (ty := .int) (C := R_Line) (T := T_Line) (N := 2) hx hb hts inG_Line ty_Line tok_Line nmo_Line hown hK hP hD hS 1 rfl rfl 1 (by decide) (va_Nw.use rfl (hN _ nw_137)) (fun _ h9 => h9) rfl (tok_Line 1 (by decide)) rfl rfl (Nat.le_of_ble_eq_true rfl) d_SpeciesSolver_attempt_16 (fun H locs hP hD hS => ?_)
  replace hP : va_P D vwCl (wd_SpeciesSolver_attempt kc ad mn_bestCost mn_bestPerNote mn_bestLength mn_searched (0 : Int32) dr_notes u1.1 u1.2) H := hP
  replace hD : va_D A (wd_SpeciesSolver_attempt kc ad mn_bestCost mn_bestPerNote mn_bestLength mn_searched (0 : Int32) dr_notes u1.1 u1.2) := hD
  refine lv_aload_n hx hb d_SpeciesSolver_attempt_19 rfl (lv_at hl 0 rfl) ?_
  refine va_get (D := D) (ci := 0) (v := .ref (ad 36)) (C := R_SpeciesSolver) (T := T_SpeciesSolver) (N := 12) hx hb hts inG_SpeciesSolver hown hK hP 0 rfl rfl 6 (by decide) (hts _ gw_374) (fun _ h9 => h9) rfl d_SpeciesSolver_attempt_20 ?_
  refine va_getN (D := D) (ci := 3) (v := .int u1.1) (C := R_Line) (T := T_Line) (N := 2) hx hb hts inG_Line hown hK hP 3 rfl rfl 1 (by decide) (va_Nw.use rfl (hN _ nw_137)) (fun _ h9 => h9) rfl d_SpeciesSolver_attempt_23 ?_
  replace hm := Option.some.inj hm; subst hm
  exact zret_i C hP hD hS d_SpeciesSolver_attempt_26
set_option maxHeartbeats 4000000 in
set_option maxRecDepth 100000 in
theorem c_SpeciesSolver_attempt {l : Launch} {D : va_G} {kc : Nat → ClassId} {r : Int32 × Int32 × Int32 × (Nat → Int32)} {F : Nat} {ad : Nat → Nat} {mn_bestCost : Int32} {mn_bestPerNote : Int32} {mn_bestLength : Int32} {mn_searched : Int32} {dr_size : Int32} {dr_notes : Nat → Int32} {tr_size : Int32} {tr_notes : Nat → Int32}  (hm : m_SpeciesSolver_attempt F dr_notes dr_size tr_size tr_notes = some r) (sz : Nat) : Ci l y_SpeciesSolver_attempt ws_SpeciesSolver_attempt rm_SpeciesSolver_attempt D kc sz [.ref (ad 0)] (wd_SpeciesSolver_attempt kc ad mn_bestCost mn_bestPerNote mn_bestLength mn_searched dr_size dr_notes tr_size tr_notes) (wd_SpeciesSolver_attempt kc ad mn_bestCost mn_bestPerNote mn_bestLength mn_searched r.2.1 dr_notes r.2.2.1 r.2.2.2) r.1 :=
  Cz_of (Qf := fun A => (Qi D A (wd_SpeciesSolver_attempt kc ad mn_bestCost mn_bestPerNote mn_bestLength mn_searched r.2.1 dr_notes r.2.2.1 r.2.2.2) r.1)) (cc := b_SpeciesSolver_attempt) (maxL := 1) (ret := (some .int)) (by decide) rfl rfl (fun C hZ hl => e_SpeciesSolver_attempt C hm hZ hl)
abbrev b_Setup_removeLine : ByteArray := prog_7_method_5_code
abbrev y_Setup_removeLine : MethodName := ⟨"SpeciesSolver$Setup", "removeLine", "()V"⟩
theorem d_Setup_removeLine_0 : decode b_Setup_removeLine 0 = .ok (.aload_n 0, 1) := by decide +kernel
theorem d_Setup_removeLine_1 : decode b_Setup_removeLine 1 = .ok (.dup, 1) := by decide +kernel
theorem d_Setup_removeLine_2 : decode b_Setup_removeLine 2 = .ok (.getfield 24, 3) := by decide +kernel
theorem d_Setup_removeLine_5 : decode b_Setup_removeLine 5 = .ok (.iconst 1, 1) := by decide +kernel
theorem d_Setup_removeLine_6 : decode b_Setup_removeLine 6 = .ok (.isub, 1) := by decide +kernel
theorem d_Setup_removeLine_7 : decode b_Setup_removeLine 7 = .ok (.putfield 24, 3) := by decide +kernel
theorem d_Setup_removeLine_10 : decode b_Setup_removeLine 10 = .ok (.aload_n 0, 1) := by decide +kernel
theorem d_Setup_removeLine_11 : decode b_Setup_removeLine 11 = .ok (.getfield 24, 3) := by decide +kernel
theorem d_Setup_removeLine_14 : decode b_Setup_removeLine 14 = .ok (.ifCond .ne 8, 3) := by decide +kernel
theorem d_Setup_removeLine_17 : decode b_Setup_removeLine 17 = .ok (.aload_n 0, 1) := by decide +kernel
theorem d_Setup_removeLine_18 : decode b_Setup_removeLine 18 = .ok (.iconst 0, 1) := by decide +kernel
theorem d_Setup_removeLine_19 : decode b_Setup_removeLine 19 = .ok (.putfield 28, 3) := by decide +kernel
theorem d_Setup_removeLine_22 : decode b_Setup_removeLine 22 = .ok (.return_, 1) := by decide +kernel
abbrev wd_Setup_removeLine (kc : Nat → ClassId) (ad : Nat → Nat) (su_lines : Int32) (su_length : Int32) (su_perNote : Int32) (su_above : Int32) : va_W := [((ad 1), .inr (7, [.ref (ad 2), .ref (ad 3), .ref (ad 4), .int su_lines, .int su_length, .int su_perNote, .int su_above]))]
abbrev rm_Setup_removeLine : Room := { frames := 0, cells := 0, slots := 0, locals := 0 }
abbrev cw_Setup_removeLine : Cond := .code y_Setup_removeLine b_Setup_removeLine 1 none
abbrev ws_Setup_removeLine : List Cond := cw_Setup_removeLine :: GW
theorem hd_Setup_removeLine : y_Setup_removeLine.cls ≠ "java/lang/invoke/MethodHandle" ∧ y_Setup_removeLine.cls ≠ "java/lang/invoke/VarHandle" ∧ (parseMethodDescriptor y_Setup_removeLine.desc).map (fun d => d.parameters.length) = some 0 := by decide +kernel
def m_Setup_removeLine  (su_lines : Int32) (su_length : Int32)  : Option (Int32 × Int32) :=
  (if (su_lines - (1 : Int32)) = (0 : Int32) then
    (some ((su_lines - (1 : Int32)), (0 : Int32)))
  else
    (some ((su_lines - (1 : Int32)), su_length)))
set_option maxHeartbeats 4000000 in
set_option maxRecDepth 100000 in
theorem e_Setup_removeLine {r : Int32 × Int32} {ad : Nat → Nat} {su_lines : Int32} {su_length : Int32} {su_perNote : Int32} {su_above : Int32}  {H : Heap} {locs : List Loc} {ls : Array Slot} (C : Cx p s m meth c args A D kc R_Setup b_Setup_removeLine 1 none) (hm : m_Setup_removeLine  su_lines su_length = some r) (hZ : St D A s (wd_Setup_removeLine kc ad su_lines su_length su_perNote su_above) H locs) (hl : lv_has ls 1 [(0, .ref (ad 1))]) : W p l e rm_Setup_removeLine s m args below meth c H locs 0 0 (MQ below (Qv D A (wd_Setup_removeLine kc ad r.1 r.2 su_perNote su_above)) args s 0 0 A) (F0 m 0 ls []) := by
  obtain ⟨hx, hb, hr, hts, hown, hml, hlocks, hK, hN, hA, hX⟩ := id C
  obtain ⟨hP, hD, hS⟩ := hZ
  unfold m_Setup_removeLine at hm
  refine lv_aload_n hx hb d_Setup_removeLine_0 rfl (lv_at hl 0 rfl) ?_
  refine lv_dup hx hb d_Setup_removeLine_1 rfl ?_
  refine va_get (D := D) (ci := 7) (v := .int su_lines) (C := R_Setup) (T := T_Setup) (N := 7) hx hb hts inG_Setup hown hK hP 0 rfl rfl 3 (by decide) (hts _ gw_169) (fun _ h9 => h9) rfl d_Setup_removeLine_2 ?_
  refine lv_iconst (v := 1) hx hb d_Setup_removeLine_5 (by decide) ?_
  refine lv_isub hx hb d_Setup_removeLine_6 ?_
  refine va_put (D := D) (ci := 7) (v := .int (su_lines - (1 : Int32))) (ty := .int) (C := R_Setup) (T := T_Setup) (N := 7) hx hb hts inG_Setup ty_Setup tok_Setup nmo_Setup hown hK hP hD hS 0 rfl rfl 3 (by decide) (hts _ gw_169) (fun _ h9 => h9) rfl (tok_Setup 3 (by decide)) rfl rfl (Nat.le_of_ble_eq_true rfl) d_Setup_removeLine_7 (fun H locs hP hD hS => ?_)
  replace hP : va_P D vwCl (wd_Setup_removeLine kc ad (su_lines - (1 : Int32)) su_length su_perNote su_above) H := hP
  replace hD : va_D A (wd_Setup_removeLine kc ad (su_lines - (1 : Int32)) su_length su_perNote su_above) := hD
  refine lv_aload_n hx hb d_Setup_removeLine_10 rfl (lv_at hl 0 rfl) ?_
  refine va_get (D := D) (ci := 7) (v := .int (su_lines - (1 : Int32))) (C := R_Setup) (T := T_Setup) (N := 7) hx hb hts inG_Setup hown hK hP 0 rfl rfl 3 (by decide) (hts _ gw_169) (fun _ h9 => h9) rfl d_Setup_removeLine_11 ?_
  refine lv_if_ne (tgt := 22) hx hb d_Setup_removeLine_14 (by decide) (fun c1 => ?_) (fun c1 => ?_)
  · replace hm := ifF hm c1
    replace hm := Option.some.inj hm; subst hm
    exact zret_v C hP hD hS d_Setup_removeLine_22
  · replace hm := ifT hm c1
    refine lv_aload_n hx hb d_Setup_removeLine_17 rfl (lv_at hl 0 rfl) ?_
    refine lv_iconst (v := 0) hx hb d_Setup_removeLine_18 (by decide) ?_
    refine va_put (D := D) (ci := 7) (v := .int (0 : Int32)) (ty := .int) (C := R_Setup) (T := T_Setup) (N := 7) hx hb hts inG_Setup ty_Setup tok_Setup nmo_Setup hown hK hP hD hS 0 rfl rfl 4 (by decide) (hts _ gw_174) (fun _ h9 => h9) rfl (tok_Setup 4 (by decide)) rfl rfl (Nat.le_of_ble_eq_true rfl) d_Setup_removeLine_19 (fun H locs hP hD hS => ?_)
    replace hP : va_P D vwCl (wd_Setup_removeLine kc ad (su_lines - (1 : Int32)) (0 : Int32) su_perNote su_above) H := hP
    replace hD : va_D A (wd_Setup_removeLine kc ad (su_lines - (1 : Int32)) (0 : Int32) su_perNote su_above) := hD
    replace hm := Option.some.inj hm; subst hm
    exact zret_v C hP hD hS d_Setup_removeLine_22
set_option maxHeartbeats 4000000 in
set_option maxRecDepth 100000 in
theorem c_Setup_removeLine {l : Launch} {D : va_G} {kc : Nat → ClassId} {r : Int32 × Int32} {ad : Nat → Nat} {su_lines : Int32} {su_length : Int32} {su_perNote : Int32} {su_above : Int32}  (hm : m_Setup_removeLine  su_lines su_length = some r) (sz : Nat) : Cv l y_Setup_removeLine ws_Setup_removeLine rm_Setup_removeLine D kc sz [.ref (ad 1)] (wd_Setup_removeLine kc ad su_lines su_length su_perNote su_above) (wd_Setup_removeLine kc ad r.1 r.2 su_perNote su_above) :=
  Cz_of (Qf := fun A => (Qv D A (wd_Setup_removeLine kc ad r.1 r.2 su_perNote su_above))) (cc := b_Setup_removeLine) (maxL := 1) (ret := none) (by decide) rfl rfl (fun C hZ hl => e_Setup_removeLine C hm hZ hl)
abbrev b_SpeciesSolver_drop : ByteArray := prog_1_method_5_code
abbrev y_SpeciesSolver_drop : MethodName := ⟨"SpeciesSolver", "drop", "()Z"⟩
theorem d_SpeciesSolver_drop_0 : decode b_SpeciesSolver_drop 0 = .ok (.aload_n 0, 1) := by decide +kernel
theorem d_SpeciesSolver_drop_1 : decode b_SpeciesSolver_drop 1 = .ok (.getfield 39, 3) := by decide +kernel
theorem d_SpeciesSolver_drop_4 : decode b_SpeciesSolver_drop 4 = .ok (.getfield 92, 3) := by decide +kernel
theorem d_SpeciesSolver_drop_7 : decode b_SpeciesSolver_drop 7 = .ok (.ifCond .ne 5, 3) := by decide +kernel
theorem d_SpeciesSolver_drop_10 : decode b_SpeciesSolver_drop 10 = .ok (.iconst 0, 1) := by decide +kernel
theorem d_SpeciesSolver_drop_11 : decode b_SpeciesSolver_drop 11 = .ok (.ireturn, 1) := by decide +kernel
theorem d_SpeciesSolver_drop_12 : decode b_SpeciesSolver_drop 12 = .ok (.aload_n 0, 1) := by decide +kernel
theorem d_SpeciesSolver_drop_13 : decode b_SpeciesSolver_drop 13 = .ok (.getfield 39, 3) := by decide +kernel
theorem d_SpeciesSolver_drop_16 : decode b_SpeciesSolver_drop 16 = .ok (.invokevirtual 99, 3) := by decide +kernel
theorem d_SpeciesSolver_drop_19 : decode b_SpeciesSolver_drop 19 = .ok (.aload_n 0, 1) := by decide +kernel
theorem d_SpeciesSolver_drop_20 : decode b_SpeciesSolver_drop 20 = .ok (.iconst 0, 1) := by decide +kernel
theorem d_SpeciesSolver_drop_21 : decode b_SpeciesSolver_drop 21 = .ok (.putfield 32, 3) := by decide +kernel
theorem d_SpeciesSolver_drop_24 : decode b_SpeciesSolver_drop 24 = .ok (.iconst 1, 1) := by decide +kernel
theorem d_SpeciesSolver_drop_25 : decode b_SpeciesSolver_drop 25 = .ok (.ireturn, 1) := by decide +kernel
abbrev wd_SpeciesSolver_drop (kc : Nat → ClassId) (ad : Nat → Nat) (mn_bestCost : Int32) (mn_bestPerNote : Int32) (mn_bestLength : Int32) (mn_searched : Int32) (su_lines : Int32) (su_length : Int32) (su_perNote : Int32) (su_above : Int32) : va_W := [((ad 0), .inr (0, [.ref (ad 1), .ref (ad 8), .ref (ad 9), .ref (ad 13), .ref (ad 23), .ref (ad 34), .ref (ad 36), .ref (ad 38), .int mn_bestCost, .int mn_bestPerNote, .int mn_bestLength, .int mn_searched])), ((ad 1), .inr (7, [.ref (ad 2), .ref (ad 3), .ref (ad 4), .int su_lines, .int su_length, .int su_perNote, .int su_above]))]
abbrev rm_SpeciesSolver_drop : Room := { frames := 1, cells := 0, slots := 0, locals := 20 }
abbrev cw_SpeciesSolver_drop : Cond := .code y_SpeciesSolver_drop b_SpeciesSolver_drop 1 (some .boolean)
abbrev ws_SpeciesSolver_drop : List Cond := cw_SpeciesSolver_drop :: GW
theorem hd_SpeciesSolver_drop : y_SpeciesSolver_drop.cls ≠ "java/lang/invoke/MethodHandle" ∧ y_SpeciesSolver_drop.cls ≠ "java/lang/invoke/VarHandle" ∧ (parseMethodDescriptor y_SpeciesSolver_drop.desc).map (fun d => d.parameters.length) = some 0 := by decide +kernel
def m_SpeciesSolver_drop  (mn_searched : Int32) (su_lines : Int32) (su_length : Int32)  : Option (Int32 × Int32 × Int32 × Int32) :=
  (if su_lines = (0 : Int32) then
    (some ((0 : Int32), mn_searched, su_lines, su_length))
  else
    (bd (m_Setup_removeLine su_lines su_length) (fun u2 => (some ((1 : Int32), (0 : Int32), u2.1, u2.2)))))
set_option maxHeartbeats 4000000 in
set_option maxRecDepth 100000 in
theorem e_SpeciesSolver_drop {r : Int32 × Int32 × Int32 × Int32} {ad : Nat → Nat} {mn_bestCost : Int32} {mn_bestPerNote : Int32} {mn_bestLength : Int32} {mn_searched : Int32} {su_lines : Int32} {su_length : Int32} {su_perNote : Int32} {su_above : Int32}  {H : Heap} {locs : List Loc} {ls : Array Slot} (C : Cx p s m meth c args A D kc R_SpeciesSolver b_SpeciesSolver_drop 1 (some .boolean)) (hm : m_SpeciesSolver_drop  mn_searched su_lines su_length = some r) (hZ : St D A s (wd_SpeciesSolver_drop kc ad mn_bestCost mn_bestPerNote mn_bestLength mn_searched su_lines su_length su_perNote su_above) H locs) (hl : lv_has ls 1 [(0, .ref (ad 0))]) : W p l e rm_SpeciesSolver_drop s m args below meth c H locs 0 0 (MQ below (Qi D A (wd_SpeciesSolver_drop kc ad mn_bestCost mn_bestPerNote mn_bestLength r.2.1 r.2.2.1 r.2.2.2 su_perNote su_above) r.1) args s 0 0 A) (F0 m 0 ls []) := by
  obtain ⟨hx, hb, hr, hts, hown, hml, hlocks, hK, hN, hA, hX⟩ := id C
  obtain ⟨hP, hD, hS⟩ := hZ
  unfold m_SpeciesSolver_drop at hm
  refine lv_aload_n hx hb d_SpeciesSolver_drop_0 rfl (lv_at hl 0 rfl) ?_
  refine va_get (D := D) (ci := 0) (v := .ref (ad 1)) (C := R_SpeciesSolver) (T := T_SpeciesSolver) (N := 12) hx hb hts inG_SpeciesSolver hown hK hP 0 rfl rfl 0 (by decide) (hts _ gw_368) (fun _ h9 => h9) rfl d_SpeciesSolver_drop_1 ?_
  refine va_getN (D := D) (ci := 7) (v := .int su_lines) (C := R_Setup) (T := T_Setup) (N := 7) hx hb hts inG_Setup hown hK hP 1 rfl rfl 3 (by decide) (va_Nw.use rfl (hN _ nw_170)) (fun _ h9 => h9) rfl d_SpeciesSolver_drop_4 ?_
  refine lv_if_ne (tgt := 12) hx hb d_SpeciesSolver_drop_7 (by decide) (fun c1 => ?_) (fun c1 => ?_)
  · replace hm := ifF hm c1
    refine lv_aload_n hx hb d_SpeciesSolver_drop_12 rfl (lv_at hl 0 rfl) ?_
    refine va_get (D := D) (ci := 0) (v := .ref (ad 1)) (C := R_SpeciesSolver) (T := T_SpeciesSolver) (N := 12) hx hb hts inG_SpeciesSolver hown hK hP 0 rfl rfl 0 (by decide) (hts _ gw_368) (fun _ h9 => h9) rfl d_SpeciesSolver_drop_13 ?_
    obtain ⟨u2, hc3, hm⟩ := bd_some hm
    refine zVN_v (n := 0) (wr := [((ad 0), .inr (0, [.ref (ad 1), .ref (ad 8), .ref (ad 9), .ref (ad 13), .ref (ad 23), .ref (ad 34), .ref (ad 36), .ref (ad 38), .int mn_bestCost, .int mn_bestPerNote, .int mn_bestLength, .int mn_searched]))]) (w1 := (wd_Setup_removeLine kc ad u2.1 u2.2 su_perNote su_above)) (ws1 := (wd_SpeciesSolver_drop kc ad mn_bestCost mn_bestPerNote mn_bestLength mn_searched u2.1 u2.2 su_perNote su_above)) (As := []) (rest := []) (ci := 7) (q0 := 0) (y := y_Setup_removeLine) (host := "SpeciesSolver") ⟨hx, hb, hml, hown, hts⟩ (fun sz => c_Setup_removeLine hc3 sz) gw_444 (hN _ nw_441) gw_443 gw_5 gw_113 hd_Setup_removeLine ⟨Nat.le_of_ble_eq_true rfl, Nat.le_of_ble_eq_true rfl⟩ ⟨rfl, rfl⟩ ⟨Nat.zero_le _, Nat.zero_le _⟩ hK hN hP hD hS hA hX [1] [0] [0, 1] rfl rfl (by decide) (by decide) (by decide) rfl (by decide) rfl rfl rfl hl.1 rfl (Nat.le_of_ble_eq_true rfl) d_SpeciesSolver_drop_16 (fun H locs hP hD hS => ?_)
    refine lv_aload_n hx hb d_SpeciesSolver_drop_19 rfl (lv_at hl 0 rfl) ?_
    refine lv_iconst (v := 0) hx hb d_SpeciesSolver_drop_20 (by decide) ?_
    refine va_put (D := D) (ci := 0) (v := .int (0 : Int32)) (ty := .boolean) (C := R_SpeciesSolver) (T := T_SpeciesSolver) (N := 12) hx hb hts inG_SpeciesSolver ty_SpeciesSolver tok_SpeciesSolver nmo_SpeciesSolver hown hK hP hD hS 0 rfl rfl 11 (by decide) (hts _ gw_379) (fun _ h9 => h9) rfl (tok_SpeciesSolver 11 (by decide)) rfl rfl (Nat.le_of_ble_eq_true rfl) d_SpeciesSolver_drop_21 (fun H locs hP hD hS => ?_)
    replace hP : va_P D vwCl (wd_SpeciesSolver_drop kc ad mn_bestCost mn_bestPerNote mn_bestLength (0 : Int32) u2.1 u2.2 su_perNote su_above) H := hP
    replace hD : va_D A (wd_SpeciesSolver_drop kc ad mn_bestCost mn_bestPerNote mn_bestLength (0 : Int32) u2.1 u2.2 su_perNote su_above) := hD
    refine lv_iconst (v := 1) hx hb d_SpeciesSolver_drop_24 (by decide) ?_
    replace hm := Option.some.inj hm; subst hm
    exact zret_z (v := 1) C hP hD hS (by rfl) d_SpeciesSolver_drop_25
  · replace hm := ifT hm c1
    refine lv_iconst (v := 0) hx hb d_SpeciesSolver_drop_10 (by decide) ?_
    replace hm := Option.some.inj hm; subst hm
    exact zret_z (v := 0) C hP hD hS (by rfl) d_SpeciesSolver_drop_11
set_option maxHeartbeats 4000000 in
set_option maxRecDepth 100000 in
theorem c_SpeciesSolver_drop {l : Launch} {D : va_G} {kc : Nat → ClassId} {r : Int32 × Int32 × Int32 × Int32} {ad : Nat → Nat} {mn_bestCost : Int32} {mn_bestPerNote : Int32} {mn_bestLength : Int32} {mn_searched : Int32} {su_lines : Int32} {su_length : Int32} {su_perNote : Int32} {su_above : Int32}  (hm : m_SpeciesSolver_drop  mn_searched su_lines su_length = some r) (sz : Nat) : Ci l y_SpeciesSolver_drop ws_SpeciesSolver_drop rm_SpeciesSolver_drop D kc sz [.ref (ad 0)] (wd_SpeciesSolver_drop kc ad mn_bestCost mn_bestPerNote mn_bestLength mn_searched su_lines su_length su_perNote su_above) (wd_SpeciesSolver_drop kc ad mn_bestCost mn_bestPerNote mn_bestLength r.2.1 r.2.2.1 r.2.2.2 su_perNote su_above) r.1 :=
  Cz_of (Qf := fun A => (Qi D A (wd_SpeciesSolver_drop kc ad mn_bestCost mn_bestPerNote mn_bestLength r.2.1 r.2.2.1 r.2.2.2 su_perNote su_above) r.1)) (cc := b_SpeciesSolver_drop) (maxL := 1) (ret := (some .boolean)) (by decide) rfl rfl (fun C hZ hl => e_SpeciesSolver_drop C hm hZ hl)
abbrev b_SpeciesSolver_species : ByteArray := prog_1_method_6_code
abbrev y_SpeciesSolver_species : MethodName := ⟨"SpeciesSolver", "species", "(IZ)Z"⟩
theorem d_SpeciesSolver_species_0 : decode b_SpeciesSolver_species 0 = .ok (.iload_n 1, 1) := by decide +kernel
theorem d_SpeciesSolver_species_1 : decode b_SpeciesSolver_species 1 = .ok (.iconst 1, 1) := by decide +kernel
theorem d_SpeciesSolver_species_2 : decode b_SpeciesSolver_species 2 = .ok (.if_icmp .eq 15, 3) := by decide +kernel
theorem d_SpeciesSolver_species_5 : decode b_SpeciesSolver_species 5 = .ok (.iload_n 1, 1) := by decide +kernel
theorem d_SpeciesSolver_species_6 : decode b_SpeciesSolver_species 6 = .ok (.iconst 2, 1) := by decide +kernel
theorem d_SpeciesSolver_species_7 : decode b_SpeciesSolver_species 7 = .ok (.if_icmp .eq 10, 3) := by decide +kernel
theorem d_SpeciesSolver_species_10 : decode b_SpeciesSolver_species 10 = .ok (.iload_n 1, 1) := by decide +kernel
theorem d_SpeciesSolver_species_11 : decode b_SpeciesSolver_species 11 = .ok (.iconst 4, 1) := by decide +kernel
theorem d_SpeciesSolver_species_12 : decode b_SpeciesSolver_species 12 = .ok (.if_icmp .eq 5, 3) := by decide +kernel
theorem d_SpeciesSolver_species_15 : decode b_SpeciesSolver_species 15 = .ok (.iconst 0, 1) := by decide +kernel
theorem d_SpeciesSolver_species_16 : decode b_SpeciesSolver_species 16 = .ok (.ireturn, 1) := by decide +kernel
theorem d_SpeciesSolver_species_17 : decode b_SpeciesSolver_species 17 = .ok (.aload_n 0, 1) := by decide +kernel
theorem d_SpeciesSolver_species_18 : decode b_SpeciesSolver_species 18 = .ok (.getfield 39, 3) := by decide +kernel
theorem d_SpeciesSolver_species_21 : decode b_SpeciesSolver_species 21 = .ok (.iload_n 1, 1) := by decide +kernel
theorem d_SpeciesSolver_species_22 : decode b_SpeciesSolver_species 22 = .ok (.putfield 102, 3) := by decide +kernel
theorem d_SpeciesSolver_species_25 : decode b_SpeciesSolver_species 25 = .ok (.aload_n 0, 1) := by decide +kernel
theorem d_SpeciesSolver_species_26 : decode b_SpeciesSolver_species 26 = .ok (.getfield 39, 3) := by decide +kernel
theorem d_SpeciesSolver_species_29 : decode b_SpeciesSolver_species 29 = .ok (.iload_n 2, 1) := by decide +kernel
theorem d_SpeciesSolver_species_30 : decode b_SpeciesSolver_species 30 = .ok (.putfield 105, 3) := by decide +kernel
theorem d_SpeciesSolver_species_33 : decode b_SpeciesSolver_species 33 = .ok (.aload_n 0, 1) := by decide +kernel
theorem d_SpeciesSolver_species_34 : decode b_SpeciesSolver_species 34 = .ok (.iconst 0, 1) := by decide +kernel
theorem d_SpeciesSolver_species_35 : decode b_SpeciesSolver_species 35 = .ok (.putfield 32, 3) := by decide +kernel
theorem d_SpeciesSolver_species_38 : decode b_SpeciesSolver_species 38 = .ok (.iconst 1, 1) := by decide +kernel
theorem d_SpeciesSolver_species_39 : decode b_SpeciesSolver_species 39 = .ok (.ireturn, 1) := by decide +kernel
abbrev wd_SpeciesSolver_species (kc : Nat → ClassId) (ad : Nat → Nat) (mn_bestCost : Int32) (mn_bestPerNote : Int32) (mn_bestLength : Int32) (mn_searched : Int32) (su_lines : Int32) (su_length : Int32) (su_perNote : Int32) (su_above : Int32) : va_W := [((ad 0), .inr (0, [.ref (ad 1), .ref (ad 8), .ref (ad 9), .ref (ad 13), .ref (ad 23), .ref (ad 34), .ref (ad 36), .ref (ad 38), .int mn_bestCost, .int mn_bestPerNote, .int mn_bestLength, .int mn_searched])), ((ad 1), .inr (7, [.ref (ad 2), .ref (ad 3), .ref (ad 4), .int su_lines, .int su_length, .int su_perNote, .int su_above]))]
abbrev rm_SpeciesSolver_species : Room := { frames := 0, cells := 0, slots := 0, locals := 0 }
abbrev cw_SpeciesSolver_species : Cond := .code y_SpeciesSolver_species b_SpeciesSolver_species 3 (some .boolean)
abbrev ws_SpeciesSolver_species : List Cond := cw_SpeciesSolver_species :: GW
theorem hd_SpeciesSolver_species : y_SpeciesSolver_species.cls ≠ "java/lang/invoke/MethodHandle" ∧ y_SpeciesSolver_species.cls ≠ "java/lang/invoke/VarHandle" ∧ (parseMethodDescriptor y_SpeciesSolver_species.desc).map (fun d => d.parameters.length) = some 2 := by decide +kernel
def m_SpeciesSolver_species_17   (mn_searched : Int32) (su_perNote : Int32) (su_above : Int32) (x1 : Int32) (x2 : Int32) : Option (Int32 × Int32 × Int32 × Int32) :=
  (gb x2 (some ((1 : Int32), (0 : Int32), x1, x2)))
set_option maxHeartbeats 4000000 in
set_option maxRecDepth 100000 in
theorem l_SpeciesSolver_species_17 {r : Int32 × Int32 × Int32 × Int32} {ad : Nat → Nat} {mn_bestCost : Int32} {mn_bestPerNote : Int32} {mn_bestLength : Int32} {mn_searched : Int32} {su_lines : Int32} {su_length : Int32} {su_perNote : Int32} {su_above : Int32}  {x1 : Int32} {x2 : Int32} {H : Heap} {locs : List Loc} {ls : Array Slot} (C : Cx p s m meth c args A D kc R_SpeciesSolver b_SpeciesSolver_species 3 (some .boolean))  (hm : m_SpeciesSolver_species_17   mn_searched su_perNote su_above x1 x2 = some r) (hZ : St D A s (wd_SpeciesSolver_species kc ad mn_bestCost mn_bestPerNote mn_bestLength mn_searched su_lines su_length su_perNote su_above) H locs) (hl : lv_has ls 3 [(0, .ref (ad 0)), (1, .int x1), (2, .int x2)]) : W p l e rm_SpeciesSolver_species s m args below meth c H locs 0 0 (MQ below (Qi D A (wd_SpeciesSolver_species kc ad mn_bestCost mn_bestPerNote mn_bestLength r.2.1 su_lines su_length r.2.2.1 r.2.2.2) r.1) args s 0 0 A) (F0 m 17 ls []) := by
  obtain ⟨hx, hb, hr, hts, hown, hml, hlocks, hK, hN, hA, hX⟩ := id C
  obtain ⟨hP, hD, hS⟩ := hZ
  unfold m_SpeciesSolver_species_17 at hm
  refine lv_aload_n hx hb d_SpeciesSolver_species_17 rfl (lv_at hl 0 rfl) ?_
  refine va_get (D := D) (ci := 0) (v := .ref (ad 1)) (C := R_SpeciesSolver) (T := T_SpeciesSolver) (N := 12) hx hb hts inG_SpeciesSolver hown hK hP 0 rfl rfl 0 (by decide) (hts _ gw_368) (fun _ h9 => h9) rfl d_SpeciesSolver_species_18 ?_
  refine lv_iload_n hx hb d_SpeciesSolver_species_21 rfl (lv_at hl 1 rfl) ?_
  refine va_putN (D := D) (ci := 7) (v := .int x1) (ty := .int) (C := R_Setup) (T := T_Setup) (N := 7) hx hb hts inG_Setup ty_Setup tok_Setup nmo_Setup hown hK hP hD hS 1 rfl rfl 5 (by decide) (va_Nw.use rfl (hN _ nw_180)) (fun _ h9 => h9) rfl (tok_Setup 5 (by decide)) rfl rfl (Nat.le_of_ble_eq_true rfl) d_SpeciesSolver_species_22 (fun H locs hP hD hS => ?_)
  replace hP : va_P D vwCl (wd_SpeciesSolver_species kc ad mn_bestCost mn_bestPerNote mn_bestLength mn_searched su_lines su_length x1 su_above) H := hP
  replace hD : va_D A (wd_SpeciesSolver_species kc ad mn_bestCost mn_bestPerNote mn_bestLength mn_searched su_lines su_length x1 su_above) := hD
  refine lv_aload_n hx hb d_SpeciesSolver_species_25 rfl (lv_at hl 0 rfl) ?_
  refine va_get (D := D) (ci := 0) (v := .ref (ad 1)) (C := R_SpeciesSolver) (T := T_SpeciesSolver) (N := 12) hx hb hts inG_SpeciesSolver hown hK hP 0 rfl rfl 0 (by decide) (hts _ gw_368) (fun _ h9 => h9) rfl d_SpeciesSolver_species_26 ?_
  refine lv_iload_n hx hb d_SpeciesSolver_species_29 rfl (lv_at hl 2 rfl) ?_
  obtain ⟨hz1, hm⟩ := gb_some hm
  refine va_putN (D := D) (ci := 7) (v := .int x2) (ty := .boolean) (C := R_Setup) (T := T_Setup) (N := 7) hx hb hts inG_Setup ty_Setup tok_Setup nmo_Setup hown hK hP hD hS 1 rfl rfl 6 (by decide) (va_Nw.use rfl (hN _ nw_183)) (fun _ h9 => h9) rfl (tok_Setup 6 (by decide)) (gb_nar hz1) (gb_fit hz1) (Nat.le_of_ble_eq_true rfl) d_SpeciesSolver_species_30 (fun H locs hP hD hS => ?_)
  replace hP : va_P D vwCl (wd_SpeciesSolver_species kc ad mn_bestCost mn_bestPerNote mn_bestLength mn_searched su_lines su_length x1 x2) H := hP
  replace hD : va_D A (wd_SpeciesSolver_species kc ad mn_bestCost mn_bestPerNote mn_bestLength mn_searched su_lines su_length x1 x2) := hD
  refine lv_aload_n hx hb d_SpeciesSolver_species_33 rfl (lv_at hl 0 rfl) ?_
  refine lv_iconst (v := 0) hx hb d_SpeciesSolver_species_34 (by decide) ?_
  refine va_put (D := D) (ci := 0) (v := .int (0 : Int32)) (ty := .boolean) (C := R_SpeciesSolver) (T := T_SpeciesSolver) (N := 12) hx hb hts inG_SpeciesSolver ty_SpeciesSolver tok_SpeciesSolver nmo_SpeciesSolver hown hK hP hD hS 0 rfl rfl 11 (by decide) (hts _ gw_379) (fun _ h9 => h9) rfl (tok_SpeciesSolver 11 (by decide)) rfl rfl (Nat.le_of_ble_eq_true rfl) d_SpeciesSolver_species_35 (fun H locs hP hD hS => ?_)
  replace hP : va_P D vwCl (wd_SpeciesSolver_species kc ad mn_bestCost mn_bestPerNote mn_bestLength (0 : Int32) su_lines su_length x1 x2) H := hP
  replace hD : va_D A (wd_SpeciesSolver_species kc ad mn_bestCost mn_bestPerNote mn_bestLength (0 : Int32) su_lines su_length x1 x2) := hD
  refine lv_iconst (v := 1) hx hb d_SpeciesSolver_species_38 (by decide) ?_
  replace hm := Option.some.inj hm; subst hm
  exact zret_z (v := 1) C hP hD hS (by rfl) d_SpeciesSolver_species_39
def m_SpeciesSolver_species  (mn_searched : Int32) (su_perNote : Int32) (su_above : Int32) (a1 : Int32) (a2 : Int32) : Option (Int32 × Int32 × Int32 × Int32) :=
  (if a1 = (1 : Int32) then
    m_SpeciesSolver_species_17   mn_searched su_perNote su_above a1 a2
  else
    (if a1 = (2 : Int32) then
      m_SpeciesSolver_species_17   mn_searched su_perNote su_above a1 a2
    else
      (if a1 = (4 : Int32) then
        m_SpeciesSolver_species_17   mn_searched su_perNote su_above a1 a2
      else
        (some ((0 : Int32), mn_searched, su_perNote, su_above)))))
set_option maxHeartbeats 4000000 in
set_option maxRecDepth 100000 in
theorem e_SpeciesSolver_species {r : Int32 × Int32 × Int32 × Int32} {ad : Nat → Nat} {mn_bestCost : Int32} {mn_bestPerNote : Int32} {mn_bestLength : Int32} {mn_searched : Int32} {su_lines : Int32} {su_length : Int32} {su_perNote : Int32} {su_above : Int32} {a1 : Int32} {a2 : Int32} {H : Heap} {locs : List Loc} {ls : Array Slot} (C : Cx p s m meth c args A D kc R_SpeciesSolver b_SpeciesSolver_species 3 (some .boolean)) (hm : m_SpeciesSolver_species  mn_searched su_perNote su_above a1 a2 = some r) (hZ : St D A s (wd_SpeciesSolver_species kc ad mn_bestCost mn_bestPerNote mn_bestLength mn_searched su_lines su_length su_perNote su_above) H locs) (hl : lv_has ls 3 [(0, .ref (ad 0)), (1, .int a1), (2, .int a2)]) : W p l e rm_SpeciesSolver_species s m args below meth c H locs 0 0 (MQ below (Qi D A (wd_SpeciesSolver_species kc ad mn_bestCost mn_bestPerNote mn_bestLength r.2.1 su_lines su_length r.2.2.1 r.2.2.2) r.1) args s 0 0 A) (F0 m 0 ls []) := by
  obtain ⟨hx, hb, hr, hts, hown, hml, hlocks, hK, hN, hA, hX⟩ := id C
  obtain ⟨hP, hD, hS⟩ := hZ
  unfold m_SpeciesSolver_species at hm
  refine lv_iload_n hx hb d_SpeciesSolver_species_0 rfl (lv_at hl 1 rfl) ?_
  refine lv_iconst (v := 1) hx hb d_SpeciesSolver_species_1 (by decide) ?_
  refine lv_icmp_eq (tgt := 17) hx hb d_SpeciesSolver_species_2 (by decide) (fun c1 => ?_) (fun c1 => ?_)
  · replace hm := ifT hm c1
    exact l_SpeciesSolver_species_17 C  hm ⟨hP, hD, hS⟩ (lv_sub hl [0, 1, 2] rfl)
  · replace hm := ifF hm c1
    refine lv_iload_n hx hb d_SpeciesSolver_species_5 rfl (lv_at hl 1 rfl) ?_
    refine lv_iconst (v := 2) hx hb d_SpeciesSolver_species_6 (by decide) ?_
    refine lv_icmp_eq (tgt := 17) hx hb d_SpeciesSolver_species_7 (by decide) (fun c2 => ?_) (fun c2 => ?_)
    · replace hm := ifT hm c2
      exact l_SpeciesSolver_species_17 C  hm ⟨hP, hD, hS⟩ (lv_sub hl [0, 1, 2] rfl)
    · replace hm := ifF hm c2
      refine lv_iload_n hx hb d_SpeciesSolver_species_10 rfl (lv_at hl 1 rfl) ?_
      refine lv_iconst (v := 4) hx hb d_SpeciesSolver_species_11 (by decide) ?_
      refine lv_icmp_eq (tgt := 17) hx hb d_SpeciesSolver_species_12 (by decide) (fun c3 => ?_) (fun c3 => ?_)
      · replace hm := ifT hm c3
        exact l_SpeciesSolver_species_17 C  hm ⟨hP, hD, hS⟩ (lv_sub hl [0, 1, 2] rfl)
      · replace hm := ifF hm c3
        refine lv_iconst (v := 0) hx hb d_SpeciesSolver_species_15 (by decide) ?_
        replace hm := Option.some.inj hm; subst hm
        exact zret_z (v := 0) C hP hD hS (by rfl) d_SpeciesSolver_species_16
set_option maxHeartbeats 4000000 in
set_option maxRecDepth 100000 in
theorem c_SpeciesSolver_species {l : Launch} {D : va_G} {kc : Nat → ClassId} {r : Int32 × Int32 × Int32 × Int32} {ad : Nat → Nat} {mn_bestCost : Int32} {mn_bestPerNote : Int32} {mn_bestLength : Int32} {mn_searched : Int32} {su_lines : Int32} {su_length : Int32} {su_perNote : Int32} {su_above : Int32} {a1 : Int32} {a2 : Int32} (hm : m_SpeciesSolver_species  mn_searched su_perNote su_above a1 a2 = some r) (sz : Nat) : Ci l y_SpeciesSolver_species ws_SpeciesSolver_species rm_SpeciesSolver_species D kc sz [.ref (ad 0), .int a1, .int a2] (wd_SpeciesSolver_species kc ad mn_bestCost mn_bestPerNote mn_bestLength mn_searched su_lines su_length su_perNote su_above) (wd_SpeciesSolver_species kc ad mn_bestCost mn_bestPerNote mn_bestLength r.2.1 su_lines su_length r.2.2.1 r.2.2.2) r.1 :=
  Cz_of (Qf := fun A => (Qi D A (wd_SpeciesSolver_species kc ad mn_bestCost mn_bestPerNote mn_bestLength r.2.1 su_lines su_length r.2.2.1 r.2.2.2) r.1)) (cc := b_SpeciesSolver_species) (maxL := 3) (ret := (some .boolean)) (by decide) rfl rfl (fun C hZ hl => e_SpeciesSolver_species C hm hZ hl)
abbrev b_SpeciesSolver_rule : ByteArray := prog_1_method_7_code
abbrev y_SpeciesSolver_rule : MethodName := ⟨"SpeciesSolver", "rule", "(IZ)Z"⟩
theorem d_SpeciesSolver_rule_0 : decode b_SpeciesSolver_rule 0 = .ok (.iload_n 1, 1) := by decide +kernel
theorem d_SpeciesSolver_rule_1 : decode b_SpeciesSolver_rule 1 = .ok (.ifCond .lt 9, 3) := by decide +kernel
theorem d_SpeciesSolver_rule_4 : decode b_SpeciesSolver_rule 4 = .ok (.iload_n 1, 1) := by decide +kernel
theorem d_SpeciesSolver_rule_5 : decode b_SpeciesSolver_rule 5 = .ok (.bipush 11, 2) := by decide +kernel
theorem d_SpeciesSolver_rule_7 : decode b_SpeciesSolver_rule 7 = .ok (.if_icmp .lt 5, 3) := by decide +kernel
theorem d_SpeciesSolver_rule_10 : decode b_SpeciesSolver_rule 10 = .ok (.iconst 0, 1) := by decide +kernel
theorem d_SpeciesSolver_rule_11 : decode b_SpeciesSolver_rule 11 = .ok (.ireturn, 1) := by decide +kernel
theorem d_SpeciesSolver_rule_12 : decode b_SpeciesSolver_rule 12 = .ok (.aload_n 0, 1) := by decide +kernel
theorem d_SpeciesSolver_rule_13 : decode b_SpeciesSolver_rule 13 = .ok (.getfield 39, 3) := by decide +kernel
theorem d_SpeciesSolver_rule_16 : decode b_SpeciesSolver_rule 16 = .ok (.getfield 108, 3) := by decide +kernel
theorem d_SpeciesSolver_rule_19 : decode b_SpeciesSolver_rule 19 = .ok (.iload_n 1, 1) := by decide +kernel
theorem d_SpeciesSolver_rule_20 : decode b_SpeciesSolver_rule 20 = .ok (.iload_n 2, 1) := by decide +kernel
theorem d_SpeciesSolver_rule_21 : decode b_SpeciesSolver_rule 21 = .ok (.bastore, 1) := by decide +kernel
theorem d_SpeciesSolver_rule_22 : decode b_SpeciesSolver_rule 22 = .ok (.aload_n 0, 1) := by decide +kernel
theorem d_SpeciesSolver_rule_23 : decode b_SpeciesSolver_rule 23 = .ok (.iconst 0, 1) := by decide +kernel
theorem d_SpeciesSolver_rule_24 : decode b_SpeciesSolver_rule 24 = .ok (.putfield 32, 3) := by decide +kernel
theorem d_SpeciesSolver_rule_27 : decode b_SpeciesSolver_rule 27 = .ok (.iconst 1, 1) := by decide +kernel
theorem d_SpeciesSolver_rule_28 : decode b_SpeciesSolver_rule 28 = .ok (.ireturn, 1) := by decide +kernel
abbrev wd_SpeciesSolver_rule (kc : Nat → ClassId) (ad : Nat → Nat) (mn_bestCost : Int32) (mn_bestPerNote : Int32) (mn_bestLength : Int32) (mn_searched : Int32) (su_lines : Int32) (su_length : Int32) (su_perNote : Int32) (su_above : Int32) (su_on : Nat → Int32) : va_W := [((ad 0), .inr (0, [.ref (ad 1), .ref (ad 8), .ref (ad 9), .ref (ad 13), .ref (ad 23), .ref (ad 34), .ref (ad 36), .ref (ad 38), .int mn_bestCost, .int mn_bestPerNote, .int mn_bestLength, .int mn_searched])), ((ad 1), .inr (7, [.ref (ad 2), .ref (ad 3), .ref (ad 4), .int su_lines, .int su_length, .int su_perNote, .int su_above])), ((ad 3), .inl (kc 1, 11, .inl su_on))]
abbrev rm_SpeciesSolver_rule : Room := { frames := 0, cells := 0, slots := 0, locals := 0 }
abbrev cw_SpeciesSolver_rule : Cond := .code y_SpeciesSolver_rule b_SpeciesSolver_rule 3 (some .boolean)
abbrev ws_SpeciesSolver_rule : List Cond := cw_SpeciesSolver_rule :: GW
theorem hd_SpeciesSolver_rule : y_SpeciesSolver_rule.cls ≠ "java/lang/invoke/MethodHandle" ∧ y_SpeciesSolver_rule.cls ≠ "java/lang/invoke/VarHandle" ∧ (parseMethodDescriptor y_SpeciesSolver_rule.desc).map (fun d => d.parameters.length) = some 2 := by decide +kernel
def m_SpeciesSolver_rule  (mn_searched : Int32) (su_on : Nat → Int32) (a1 : Int32) (a2 : Int32) : Option (Int32 × Int32 × (Nat → Int32)) :=
  (if a1 < (0 : Int32) then
    (some ((0 : Int32), mn_searched, su_on))
  else
    (if a1 < (11 : Int32) then
      (gd a1 11 (some ((1 : Int32), (0 : Int32), (upd su_on (Int32.toNatClampNeg a1) (vp_nar .boolean a2)))))
    else
      (some ((0 : Int32), mn_searched, su_on))))
set_option maxHeartbeats 4000000 in
set_option maxRecDepth 100000 in
theorem e_SpeciesSolver_rule {r : Int32 × Int32 × (Nat → Int32)} {ad : Nat → Nat} {mn_bestCost : Int32} {mn_bestPerNote : Int32} {mn_bestLength : Int32} {mn_searched : Int32} {su_lines : Int32} {su_length : Int32} {su_perNote : Int32} {su_above : Int32} {su_on : Nat → Int32} {a1 : Int32} {a2 : Int32} {H : Heap} {locs : List Loc} {ls : Array Slot} (C : Cx p s m meth c args A D kc R_SpeciesSolver b_SpeciesSolver_rule 3 (some .boolean)) (hm : m_SpeciesSolver_rule  mn_searched su_on a1 a2 = some r) (hZ : St D A s (wd_SpeciesSolver_rule kc ad mn_bestCost mn_bestPerNote mn_bestLength mn_searched su_lines su_length su_perNote su_above su_on) H locs) (hl : lv_has ls 3 [(0, .ref (ad 0)), (1, .int a1), (2, .int a2)]) : W p l e rm_SpeciesSolver_rule s m args below meth c H locs 0 0 (MQ below (Qi D A (wd_SpeciesSolver_rule kc ad mn_bestCost mn_bestPerNote mn_bestLength r.2.1 su_lines su_length su_perNote su_above r.2.2) r.1) args s 0 0 A) (F0 m 0 ls []) := by
  obtain ⟨hx, hb, hr, hts, hown, hml, hlocks, hK, hN, hA, hX⟩ := id C
  obtain ⟨hP, hD, hS⟩ := hZ
  unfold m_SpeciesSolver_rule at hm
  refine lv_iload_n hx hb d_SpeciesSolver_rule_0 rfl (lv_at hl 1 rfl) ?_
  refine lv_if_lt (tgt := 10) hx hb d_SpeciesSolver_rule_1 (by decide) (fun c1 => ?_) (fun c1 => ?_)
  · replace hm := ifT hm c1
    refine lv_iconst (v := 0) hx hb d_SpeciesSolver_rule_10 (by decide) ?_
    replace hm := Option.some.inj hm; subst hm
    exact zret_z (v := 0) C hP hD hS (by rfl) d_SpeciesSolver_rule_11
  · replace hm := ifF hm c1
    refine lv_iload_n hx hb d_SpeciesSolver_rule_4 rfl (lv_at hl 1 rfl) ?_
    refine lv_bipush (v := 11) hx hb d_SpeciesSolver_rule_5 (by decide) ?_
    refine lv_icmp_lt (tgt := 12) hx hb d_SpeciesSolver_rule_7 (by decide) (fun c2 => ?_) (fun c2 => ?_)
    · replace hm := ifT hm c2
      refine lv_aload_n hx hb d_SpeciesSolver_rule_12 rfl (lv_at hl 0 rfl) ?_
      refine va_get (D := D) (ci := 0) (v := .ref (ad 1)) (C := R_SpeciesSolver) (T := T_SpeciesSolver) (N := 12) hx hb hts inG_SpeciesSolver hown hK hP 0 rfl rfl 0 (by decide) (hts _ gw_368) (fun _ h9 => h9) rfl d_SpeciesSolver_rule_13 ?_
      refine va_getN (D := D) (ci := 7) (v := .ref (ad 3)) (C := R_Setup) (T := T_Setup) (N := 7) hx hb hts inG_Setup hown hK hP 1 rfl rfl 1 (by decide) (va_Nw.use rfl (hN _ nw_166)) (fun _ h9 => h9) rfl d_SpeciesSolver_rule_16 ?_
      refine lv_iload_n hx hb d_SpeciesSolver_rule_19 rfl (lv_at hl 1 rfl) ?_
      refine lv_iload_n hx hb d_SpeciesSolver_rule_20 rfl (lv_at hl 2 rfl) ?_
      obtain ⟨hi3, hm⟩ := gd_some hm
      refine va_zast hx hb hK hP hD hS 2 1 rfl rfl hi3 d_SpeciesSolver_rule_21 (fun H locs hP hD hS => ?_)
      replace hP : va_P D vwCl (wd_SpeciesSolver_rule kc ad mn_bestCost mn_bestPerNote mn_bestLength mn_searched su_lines su_length su_perNote su_above (upd su_on (Int32.toNatClampNeg a1) (vp_nar .boolean a2))) H := hP
      replace hD : va_D A (wd_SpeciesSolver_rule kc ad mn_bestCost mn_bestPerNote mn_bestLength mn_searched su_lines su_length su_perNote su_above (upd su_on (Int32.toNatClampNeg a1) (vp_nar .boolean a2))) := hD
      refine lv_aload_n hx hb d_SpeciesSolver_rule_22 rfl (lv_at hl 0 rfl) ?_
      refine lv_iconst (v := 0) hx hb d_SpeciesSolver_rule_23 (by decide) ?_
      refine va_put (D := D) (ci := 0) (v := .int (0 : Int32)) (ty := .boolean) (C := R_SpeciesSolver) (T := T_SpeciesSolver) (N := 12) hx hb hts inG_SpeciesSolver ty_SpeciesSolver tok_SpeciesSolver nmo_SpeciesSolver hown hK hP hD hS 0 rfl rfl 11 (by decide) (hts _ gw_379) (fun _ h9 => h9) rfl (tok_SpeciesSolver 11 (by decide)) rfl rfl (Nat.le_of_ble_eq_true rfl) d_SpeciesSolver_rule_24 (fun H locs hP hD hS => ?_)
      replace hP : va_P D vwCl (wd_SpeciesSolver_rule kc ad mn_bestCost mn_bestPerNote mn_bestLength (0 : Int32) su_lines su_length su_perNote su_above (upd su_on (Int32.toNatClampNeg a1) (vp_nar .boolean a2))) H := hP
      replace hD : va_D A (wd_SpeciesSolver_rule kc ad mn_bestCost mn_bestPerNote mn_bestLength (0 : Int32) su_lines su_length su_perNote su_above (upd su_on (Int32.toNatClampNeg a1) (vp_nar .boolean a2))) := hD
      refine lv_iconst (v := 1) hx hb d_SpeciesSolver_rule_27 (by decide) ?_
      replace hm := Option.some.inj hm; subst hm
      exact zret_z (v := 1) C hP hD hS (by rfl) d_SpeciesSolver_rule_28
    · replace hm := ifF hm c2
      refine lv_iconst (v := 0) hx hb d_SpeciesSolver_rule_10 (by decide) ?_
      replace hm := Option.some.inj hm; subst hm
      exact zret_z (v := 0) C hP hD hS (by rfl) d_SpeciesSolver_rule_11
set_option maxHeartbeats 4000000 in
set_option maxRecDepth 100000 in
theorem c_SpeciesSolver_rule {l : Launch} {D : va_G} {kc : Nat → ClassId} {r : Int32 × Int32 × (Nat → Int32)} {ad : Nat → Nat} {mn_bestCost : Int32} {mn_bestPerNote : Int32} {mn_bestLength : Int32} {mn_searched : Int32} {su_lines : Int32} {su_length : Int32} {su_perNote : Int32} {su_above : Int32} {su_on : Nat → Int32} {a1 : Int32} {a2 : Int32} (hm : m_SpeciesSolver_rule  mn_searched su_on a1 a2 = some r) (sz : Nat) : Ci l y_SpeciesSolver_rule ws_SpeciesSolver_rule rm_SpeciesSolver_rule D kc sz [.ref (ad 0), .int a1, .int a2] (wd_SpeciesSolver_rule kc ad mn_bestCost mn_bestPerNote mn_bestLength mn_searched su_lines su_length su_perNote su_above su_on) (wd_SpeciesSolver_rule kc ad mn_bestCost mn_bestPerNote mn_bestLength r.2.1 su_lines su_length su_perNote su_above r.2.2) r.1 :=
  Cz_of (Qf := fun A => (Qi D A (wd_SpeciesSolver_rule kc ad mn_bestCost mn_bestPerNote mn_bestLength r.2.1 su_lines su_length su_perNote su_above r.2.2) r.1)) (cc := b_SpeciesSolver_rule) (maxL := 3) (ret := (some .boolean)) (by decide) rfl rfl (fun C hZ hl => e_SpeciesSolver_rule C hm hZ hl)
end
