section
variable {p : Program} {l : Launch} {e : Env} {s : State} {m : MethodId} {args : Array Value} {below : List Frame} {meth : Method} {c : Code} {D : va_G} {kc : Nat → ClassId} {A : Nat → Prop}
abbrev b_FaultFinder_breaksWith : ByteArray := prog_2_method_7_code
abbrev y_FaultFinder_breaksWith : MethodName := ⟨"SpeciesSolver$FaultFinder", "breaksWith", "(IILSpeciesSolver$Line;I)Z"⟩
theorem d_FaultFinder_breaksWith_0 : decode b_FaultFinder_breaksWith 0 = .ok (.aload_n 3, 1) := by decide +kernel
theorem d_FaultFinder_breaksWith_1 : decode b_FaultFinder_breaksWith 1 = .ok (.getfield 58, 3) := by decide +kernel
theorem d_FaultFinder_breaksWith_4 : decode b_FaultFinder_breaksWith 4 = .ok (.iload 4, 2) := by decide +kernel
theorem d_FaultFinder_breaksWith_6 : decode b_FaultFinder_breaksWith 6 = .ok (.iaload, 1) := by decide +kernel
theorem d_FaultFinder_breaksWith_7 : decode b_FaultFinder_breaksWith 7 = .ok (.istore 5, 2) := by decide +kernel
theorem d_FaultFinder_breaksWith_9 : decode b_FaultFinder_breaksWith 9 = .ok (.iload 4, 2) := by decide +kernel
theorem d_FaultFinder_breaksWith_11 : decode b_FaultFinder_breaksWith 11 = .ok (.aload_n 0, 1) := by decide +kernel
theorem d_FaultFinder_breaksWith_12 : decode b_FaultFinder_breaksWith 12 = .ok (.getfield 31, 3) := by decide +kernel
theorem d_FaultFinder_breaksWith_15 : decode b_FaultFinder_breaksWith 15 = .ok (.getfield 76, 3) := by decide +kernel
theorem d_FaultFinder_breaksWith_18 : decode b_FaultFinder_breaksWith 18 = .ok (.if_icmp .lt 19, 3) := by decide +kernel
theorem d_FaultFinder_breaksWith_21 : decode b_FaultFinder_breaksWith 21 = .ok (.aload_n 0, 1) := by decide +kernel
theorem d_FaultFinder_breaksWith_22 : decode b_FaultFinder_breaksWith 22 = .ok (.getfield 35, 3) := by decide +kernel
theorem d_FaultFinder_breaksWith_25 : decode b_FaultFinder_breaksWith 25 = .ok (.iload 4, 2) := by decide +kernel
theorem d_FaultFinder_breaksWith_27 : decode b_FaultFinder_breaksWith 27 = .ok (.invokevirtual 79, 3) := by decide +kernel
theorem d_FaultFinder_breaksWith_30 : decode b_FaultFinder_breaksWith 30 = .ok (.ifCond .eq 7, 3) := by decide +kernel
theorem d_FaultFinder_breaksWith_33 : decode b_FaultFinder_breaksWith 33 = .ok (.iconst 1, 1) := by decide +kernel
theorem d_FaultFinder_breaksWith_34 : decode b_FaultFinder_breaksWith 34 = .ok (.goto 4, 3) := by decide +kernel
theorem d_FaultFinder_breaksWith_37 : decode b_FaultFinder_breaksWith 37 = .ok (.iconst 0, 1) := by decide +kernel
theorem d_FaultFinder_breaksWith_38 : decode b_FaultFinder_breaksWith 38 = .ok (.istore 6, 2) := by decide +kernel
theorem d_FaultFinder_breaksWith_40 : decode b_FaultFinder_breaksWith 40 = .ok (.iload_n 2, 1) := by decide +kernel
theorem d_FaultFinder_breaksWith_41 : decode b_FaultFinder_breaksWith 41 = .ok (.tableswitch 206 1 4 #[31, 72, 113, 126], 31) := by decide +kernel
theorem d_FaultFinder_breaksWith_72 : decode b_FaultFinder_breaksWith 72 = .ok (.iload 6, 2) := by decide +kernel
theorem d_FaultFinder_breaksWith_74 : decode b_FaultFinder_breaksWith 74 = .ok (.ifCond .eq 37, 3) := by decide +kernel
theorem d_FaultFinder_breaksWith_77 : decode b_FaultFinder_breaksWith 77 = .ok (.aload_n 0, 1) := by decide +kernel
theorem d_FaultFinder_breaksWith_78 : decode b_FaultFinder_breaksWith 78 = .ok (.getfield 35, 3) := by decide +kernel
theorem d_FaultFinder_breaksWith_81 : decode b_FaultFinder_breaksWith 81 = .ok (.iload_n 1, 1) := by decide +kernel
theorem d_FaultFinder_breaksWith_82 : decode b_FaultFinder_breaksWith 82 = .ok (.iload 4, 2) := by decide +kernel
theorem d_FaultFinder_breaksWith_84 : decode b_FaultFinder_breaksWith 84 = .ok (.aload_n 3, 1) := by decide +kernel
theorem d_FaultFinder_breaksWith_85 : decode b_FaultFinder_breaksWith 85 = .ok (.getfield 58, 3) := by decide +kernel
theorem d_FaultFinder_breaksWith_88 : decode b_FaultFinder_breaksWith 88 = .ok (.iload 4, 2) := by decide +kernel
theorem d_FaultFinder_breaksWith_90 : decode b_FaultFinder_breaksWith 90 = .ok (.aload_n 0, 1) := by decide +kernel
theorem d_FaultFinder_breaksWith_91 : decode b_FaultFinder_breaksWith 91 = .ok (.getfield 31, 3) := by decide +kernel
theorem d_FaultFinder_breaksWith_94 : decode b_FaultFinder_breaksWith 94 = .ok (.getfield 76, 3) := by decide +kernel
theorem d_FaultFinder_breaksWith_97 : decode b_FaultFinder_breaksWith 97 = .ok (.isub, 1) := by decide +kernel
theorem d_FaultFinder_breaksWith_98 : decode b_FaultFinder_breaksWith 98 = .ok (.iaload, 1) := by decide +kernel
theorem d_FaultFinder_breaksWith_99 : decode b_FaultFinder_breaksWith 99 = .ok (.iload 5, 2) := by decide +kernel
theorem d_FaultFinder_breaksWith_101 : decode b_FaultFinder_breaksWith 101 = .ok (.invokevirtual 85, 3) := by decide +kernel
theorem d_FaultFinder_breaksWith_104 : decode b_FaultFinder_breaksWith 104 = .ok (.ifCond .eq 7, 3) := by decide +kernel
theorem d_FaultFinder_breaksWith_107 : decode b_FaultFinder_breaksWith 107 = .ok (.iconst 1, 1) := by decide +kernel
theorem d_FaultFinder_breaksWith_108 : decode b_FaultFinder_breaksWith 108 = .ok (.goto 4, 3) := by decide +kernel
theorem d_FaultFinder_breaksWith_111 : decode b_FaultFinder_breaksWith 111 = .ok (.iconst 0, 1) := by decide +kernel
theorem d_FaultFinder_breaksWith_112 : decode b_FaultFinder_breaksWith 112 = .ok (.ireturn, 1) := by decide +kernel
theorem d_FaultFinder_breaksWith_113 : decode b_FaultFinder_breaksWith 113 = .ok (.iload 6, 2) := by decide +kernel
theorem d_FaultFinder_breaksWith_115 : decode b_FaultFinder_breaksWith 115 = .ok (.ifCond .eq 37, 3) := by decide +kernel
theorem d_FaultFinder_breaksWith_118 : decode b_FaultFinder_breaksWith 118 = .ok (.aload_n 0, 1) := by decide +kernel
theorem d_FaultFinder_breaksWith_119 : decode b_FaultFinder_breaksWith 119 = .ok (.getfield 35, 3) := by decide +kernel
theorem d_FaultFinder_breaksWith_122 : decode b_FaultFinder_breaksWith 122 = .ok (.iload_n 1, 1) := by decide +kernel
theorem d_FaultFinder_breaksWith_123 : decode b_FaultFinder_breaksWith 123 = .ok (.iload 4, 2) := by decide +kernel
theorem d_FaultFinder_breaksWith_125 : decode b_FaultFinder_breaksWith 125 = .ok (.aload_n 3, 1) := by decide +kernel
theorem d_FaultFinder_breaksWith_126 : decode b_FaultFinder_breaksWith 126 = .ok (.getfield 58, 3) := by decide +kernel
theorem d_FaultFinder_breaksWith_129 : decode b_FaultFinder_breaksWith 129 = .ok (.iload 4, 2) := by decide +kernel
theorem d_FaultFinder_breaksWith_131 : decode b_FaultFinder_breaksWith 131 = .ok (.aload_n 0, 1) := by decide +kernel
theorem d_FaultFinder_breaksWith_132 : decode b_FaultFinder_breaksWith 132 = .ok (.getfield 31, 3) := by decide +kernel
theorem d_FaultFinder_breaksWith_135 : decode b_FaultFinder_breaksWith 135 = .ok (.getfield 76, 3) := by decide +kernel
theorem d_FaultFinder_breaksWith_138 : decode b_FaultFinder_breaksWith 138 = .ok (.isub, 1) := by decide +kernel
theorem d_FaultFinder_breaksWith_139 : decode b_FaultFinder_breaksWith 139 = .ok (.iaload, 1) := by decide +kernel
theorem d_FaultFinder_breaksWith_140 : decode b_FaultFinder_breaksWith 140 = .ok (.iload 5, 2) := by decide +kernel
theorem d_FaultFinder_breaksWith_142 : decode b_FaultFinder_breaksWith 142 = .ok (.invokevirtual 89, 3) := by decide +kernel
theorem d_FaultFinder_breaksWith_145 : decode b_FaultFinder_breaksWith 145 = .ok (.ifCond .eq 7, 3) := by decide +kernel
theorem d_FaultFinder_breaksWith_148 : decode b_FaultFinder_breaksWith 148 = .ok (.iconst 1, 1) := by decide +kernel
theorem d_FaultFinder_breaksWith_149 : decode b_FaultFinder_breaksWith 149 = .ok (.goto 4, 3) := by decide +kernel
theorem d_FaultFinder_breaksWith_152 : decode b_FaultFinder_breaksWith 152 = .ok (.iconst 0, 1) := by decide +kernel
theorem d_FaultFinder_breaksWith_153 : decode b_FaultFinder_breaksWith 153 = .ok (.ireturn, 1) := by decide +kernel
theorem d_FaultFinder_breaksWith_154 : decode b_FaultFinder_breaksWith 154 = .ok (.aload_n 0, 1) := by decide +kernel
theorem d_FaultFinder_breaksWith_155 : decode b_FaultFinder_breaksWith 155 = .ok (.getfield 35, 3) := by decide +kernel
theorem d_FaultFinder_breaksWith_158 : decode b_FaultFinder_breaksWith 158 = .ok (.iload_n 1, 1) := by decide +kernel
theorem d_FaultFinder_breaksWith_159 : decode b_FaultFinder_breaksWith 159 = .ok (.iload 4, 2) := by decide +kernel
theorem d_FaultFinder_breaksWith_161 : decode b_FaultFinder_breaksWith 161 = .ok (.iload 5, 2) := by decide +kernel
theorem d_FaultFinder_breaksWith_163 : decode b_FaultFinder_breaksWith 163 = .ok (.invokevirtual 92, 3) := by decide +kernel
theorem d_FaultFinder_breaksWith_166 : decode b_FaultFinder_breaksWith 166 = .ok (.ireturn, 1) := by decide +kernel
theorem d_FaultFinder_breaksWith_167 : decode b_FaultFinder_breaksWith 167 = .ok (.aload_n 0, 1) := by decide +kernel
theorem d_FaultFinder_breaksWith_168 : decode b_FaultFinder_breaksWith 168 = .ok (.getfield 35, 3) := by decide +kernel
theorem d_FaultFinder_breaksWith_171 : decode b_FaultFinder_breaksWith 171 = .ok (.iload 4, 2) := by decide +kernel
theorem d_FaultFinder_breaksWith_173 : decode b_FaultFinder_breaksWith 173 = .ok (.invokevirtual 79, 3) := by decide +kernel
theorem d_FaultFinder_breaksWith_176 : decode b_FaultFinder_breaksWith 176 = .ok (.ifCond .ne 69, 3) := by decide +kernel
theorem d_FaultFinder_breaksWith_179 : decode b_FaultFinder_breaksWith 179 = .ok (.iload 4, 2) := by decide +kernel
theorem d_FaultFinder_breaksWith_181 : decode b_FaultFinder_breaksWith 181 = .ok (.iconst 1, 1) := by decide +kernel
theorem d_FaultFinder_breaksWith_182 : decode b_FaultFinder_breaksWith 182 = .ok (.if_icmp .lt 63, 3) := by decide +kernel
theorem d_FaultFinder_breaksWith_185 : decode b_FaultFinder_breaksWith 185 = .ok (.iload 4, 2) := by decide +kernel
theorem d_FaultFinder_breaksWith_187 : decode b_FaultFinder_breaksWith 187 = .ok (.iconst 1, 1) := by decide +kernel
theorem d_FaultFinder_breaksWith_188 : decode b_FaultFinder_breaksWith 188 = .ok (.iadd, 1) := by decide +kernel
theorem d_FaultFinder_breaksWith_189 : decode b_FaultFinder_breaksWith 189 = .ok (.aload_n 3, 1) := by decide +kernel
theorem d_FaultFinder_breaksWith_190 : decode b_FaultFinder_breaksWith 190 = .ok (.getfield 43, 3) := by decide +kernel
theorem d_FaultFinder_breaksWith_193 : decode b_FaultFinder_breaksWith 193 = .ok (.if_icmp .ge 52, 3) := by decide +kernel
theorem d_FaultFinder_breaksWith_196 : decode b_FaultFinder_breaksWith 196 = .ok (.aload_n 0, 1) := by decide +kernel
theorem d_FaultFinder_breaksWith_197 : decode b_FaultFinder_breaksWith 197 = .ok (.getfield 35, 3) := by decide +kernel
theorem d_FaultFinder_breaksWith_200 : decode b_FaultFinder_breaksWith 200 = .ok (.iload_n 1, 1) := by decide +kernel
theorem d_FaultFinder_breaksWith_201 : decode b_FaultFinder_breaksWith 201 = .ok (.iload 4, 2) := by decide +kernel
theorem d_FaultFinder_breaksWith_203 : decode b_FaultFinder_breaksWith 203 = .ok (.iload 5, 2) := by decide +kernel
theorem d_FaultFinder_breaksWith_205 : decode b_FaultFinder_breaksWith 205 = .ok (.invokevirtual 96, 3) := by decide +kernel
theorem d_FaultFinder_breaksWith_208 : decode b_FaultFinder_breaksWith 208 = .ok (.ifCond .eq 37, 3) := by decide +kernel
theorem d_FaultFinder_breaksWith_211 : decode b_FaultFinder_breaksWith 211 = .ok (.aload_n 0, 1) := by decide +kernel
theorem d_FaultFinder_breaksWith_212 : decode b_FaultFinder_breaksWith 212 = .ok (.getfield 35, 3) := by decide +kernel
theorem d_FaultFinder_breaksWith_215 : decode b_FaultFinder_breaksWith 215 = .ok (.aload_n 3, 1) := by decide +kernel
theorem d_FaultFinder_breaksWith_216 : decode b_FaultFinder_breaksWith 216 = .ok (.getfield 58, 3) := by decide +kernel
theorem d_FaultFinder_breaksWith_219 : decode b_FaultFinder_breaksWith 219 = .ok (.iload 4, 2) := by decide +kernel
theorem d_FaultFinder_breaksWith_221 : decode b_FaultFinder_breaksWith 221 = .ok (.iconst 1, 1) := by decide +kernel
theorem d_FaultFinder_breaksWith_222 : decode b_FaultFinder_breaksWith 222 = .ok (.isub, 1) := by decide +kernel
theorem d_FaultFinder_breaksWith_223 : decode b_FaultFinder_breaksWith 223 = .ok (.iaload, 1) := by decide +kernel
theorem d_FaultFinder_breaksWith_224 : decode b_FaultFinder_breaksWith 224 = .ok (.iload 5, 2) := by decide +kernel
theorem d_FaultFinder_breaksWith_226 : decode b_FaultFinder_breaksWith 226 = .ok (.aload_n 3, 1) := by decide +kernel
theorem d_FaultFinder_breaksWith_227 : decode b_FaultFinder_breaksWith 227 = .ok (.getfield 58, 3) := by decide +kernel
theorem d_FaultFinder_breaksWith_230 : decode b_FaultFinder_breaksWith 230 = .ok (.iload 4, 2) := by decide +kernel
theorem d_FaultFinder_breaksWith_232 : decode b_FaultFinder_breaksWith 232 = .ok (.iconst 1, 1) := by decide +kernel
theorem d_FaultFinder_breaksWith_233 : decode b_FaultFinder_breaksWith 233 = .ok (.iadd, 1) := by decide +kernel
theorem d_FaultFinder_breaksWith_234 : decode b_FaultFinder_breaksWith 234 = .ok (.iaload, 1) := by decide +kernel
theorem d_FaultFinder_breaksWith_235 : decode b_FaultFinder_breaksWith 235 = .ok (.invokevirtual 99, 3) := by decide +kernel
theorem d_FaultFinder_breaksWith_238 : decode b_FaultFinder_breaksWith 238 = .ok (.ifCond .ne 7, 3) := by decide +kernel
theorem d_FaultFinder_breaksWith_241 : decode b_FaultFinder_breaksWith 241 = .ok (.iconst 1, 1) := by decide +kernel
theorem d_FaultFinder_breaksWith_242 : decode b_FaultFinder_breaksWith 242 = .ok (.goto 4, 3) := by decide +kernel
theorem d_FaultFinder_breaksWith_245 : decode b_FaultFinder_breaksWith 245 = .ok (.iconst 0, 1) := by decide +kernel
theorem d_FaultFinder_breaksWith_246 : decode b_FaultFinder_breaksWith 246 = .ok (.ireturn, 1) := by decide +kernel
theorem d_FaultFinder_breaksWith_247 : decode b_FaultFinder_breaksWith 247 = .ok (.iconst 0, 1) := by decide +kernel
theorem d_FaultFinder_breaksWith_248 : decode b_FaultFinder_breaksWith 248 = .ok (.ireturn, 1) := by decide +kernel
abbrev wd_FaultFinder_breaksWith (kc : Nat → ClassId) (ad : Nat → Nat) (xa : Nat) (xb : Nat) (X_size : Int32) (X_notes : Nat → Int32) (su_lines : Int32) (su_length : Int32) (su_perNote : Int32) (su_above : Int32) (su_numbers : Nat → Int32) (su_given : Nat → Nat → Int32) (fi_faults : Int32) (fi_highest : Int32) (fi_firstHighest : Int32) : va_W := [(xa, .inr (3, [.ref xb, .int X_size])), (xb, .inl (kc 0, 45, .inl X_notes)), ((ad 1), .inr (7, [.ref (ad 2), .ref (ad 3), .ref (ad 4), .int su_lines, .int su_length, .int su_perNote, .int su_above])), ((ad 2), .inl (kc 0, 18, .inl su_numbers)), ((ad 4), .inl (kc 3, 3, .inr (.inr (.inr (.inr (fun i => if i < 3 then some (ad (5 + i)) else none)))))), ((ad 5), .inl (kc 0, 12, .inl (su_given 0))), ((ad 6), .inl (kc 0, 12, .inl (su_given 1))), ((ad 7), .inl (kc 0, 12, .inl (su_given 2))), ((ad 8), .inr (5, [.ref (ad 1)])), ((ad 9), .inr (2, [.ref (ad 1), .ref (ad 8), .ref (ad 10), .ref (ad 11), .ref (ad 12), .int fi_faults, .int fi_highest, .int fi_firstHighest]))]
abbrev rm_FaultFinder_breaksWith : Room := { frames := 3, cells := 0, slots := 0, locals := 66 }
abbrev cw_FaultFinder_breaksWith : Cond := .code y_FaultFinder_breaksWith b_FaultFinder_breaksWith 7 (some .boolean)
abbrev ws_FaultFinder_breaksWith : List Cond := cw_FaultFinder_breaksWith :: GW
theorem hd_FaultFinder_breaksWith : y_FaultFinder_breaksWith.cls ≠ "java/lang/invoke/MethodHandle" ∧ y_FaultFinder_breaksWith.cls ≠ "java/lang/invoke/VarHandle" ∧ (parseMethodDescriptor y_FaultFinder_breaksWith.desc).map (fun d => d.parameters.length) = some 4 := by decide +kernel
def m_FaultFinder_breaksWith_38 (X_size : Int32) (X_notes : Nat → Int32) (su_perNote : Int32) (su_above : Int32) (su_numbers : Nat → Int32) (su_given : Nat → Nat → Int32)   (x1 : Int32) (x2 : Int32) (x4 : Int32) (x5 : Int32) (t0 : Int32) : Option (Int32) :=
  (if x2 = (1 : Int32) then (if t0 = (0 : Int32) then
      (some (0 : Int32))
    else
      (gd (x4 - su_perNote) 45 (bd (m_Rules_isParallel su_perNote su_numbers su_given x1 x4 (X_notes (Int32.toNatClampNeg (x4 - su_perNote))) x5) (fun u4 => (if u4 = (0 : Int32) then
        (some (0 : Int32))
      else
        (some (1 : Int32))))))) else (if x2 = (2 : Int32) then (if t0 = (0 : Int32) then
      (some (0 : Int32))
    else
      (gd (x4 - su_perNote) 45 (bd (m_Rules_isHidden su_perNote su_numbers su_given x1 x4 (X_notes (Int32.toNatClampNeg (x4 - su_perNote))) x5) (fun u10 => (if u10 = (0 : Int32) then
        (some (0 : Int32))
      else
        (some (1 : Int32))))))) else (if x2 = (3 : Int32) then (bd (m_Rules_isCrossing su_perNote su_above su_given x1 x4 x5) (fun u14 => (gb u14 (some u14)))) else (if x2 = (4 : Int32) then (bd (m_Rules_isStrong su_perNote x4) (fun u18 => (if u18 = (0 : Int32) then
      (if x4 < (1 : Int32) then
        (some (0 : Int32))
      else
        (if X_size ≤ (x4 + (1 : Int32)) then
          (some (0 : Int32))
        else
          (bd (m_Rules_isHardWith su_perNote su_numbers su_given x1 x4 x5) (fun u23 => (if u23 = (0 : Int32) then
            (some (0 : Int32))
          else
            (gd (x4 - (1 : Int32)) 45 (gd (x4 + (1 : Int32)) 45 (bd (m_Rules_isPassing su_numbers (X_notes (Int32.toNatClampNeg (x4 - (1 : Int32)))) x5 (X_notes (Int32.toNatClampNeg (x4 + (1 : Int32))))) (fun u28 => (if u28 = (0 : Int32) then
              (some (1 : Int32))
            else
              (some (0 : Int32))))))))))))
    else
      (some (0 : Int32))))) else (some (0 : Int32))))))
set_option maxHeartbeats 4000000 in
set_option maxRecDepth 100000 in
theorem l_FaultFinder_breaksWith_38 {r : Int32} {ad : Nat → Nat} {xa : Nat} {xb : Nat} {X_size : Int32} {X_notes : Nat → Int32} {su_lines : Int32} {su_length : Int32} {su_perNote : Int32} {su_above : Int32} {su_numbers : Nat → Int32} {su_given : Nat → Nat → Int32} {fi_faults : Int32} {fi_highest : Int32} {fi_firstHighest : Int32}  {x1 : Int32} {x2 : Int32} {x4 : Int32} {x5 : Int32} {t0 : Int32} {H : Heap} {locs : List Loc} {ls : Array Slot} (C : Cx p s m meth c args A D kc R_FaultFinder b_FaultFinder_breaksWith 7 (some .boolean))  (hm : m_FaultFinder_breaksWith_38 X_size X_notes su_perNote su_above su_numbers su_given  x1 x2 x4 x5 t0 = some r) (hZ : St D A s (wd_FaultFinder_breaksWith kc ad xa xb X_size X_notes su_lines su_length su_perNote su_above su_numbers su_given fi_faults fi_highest fi_firstHighest) H locs) (hl : lv_has ls 7 [(0, .ref (ad 9)), (1, .int x1), (2, .int x2), (3, .ref xa), (4, .int x4), (5, .int x5)]) : W p l e rm_FaultFinder_breaksWith s m args below meth c H locs 0 0 (MQ below (Qi D A (wd_FaultFinder_breaksWith kc ad xa xb X_size X_notes su_lines su_length su_perNote su_above su_numbers su_given fi_faults fi_highest fi_firstHighest) r) args s 0 0 A) (F0 m 38 ls [.int t0]) := by
  obtain ⟨hx, hb, hr, hts, hown, hml, hlocks, hK, hN, hA, hX⟩ := id C
  obtain ⟨hP, hD, hS⟩ := hZ
  unfold m_FaultFinder_breaksWith_38 at hm
  refine lv_istore (lv' := [(6, .int t0), (0, .ref (ad 9)), (1, .int x1), (2, .int x2), (3, .ref xa), (4, .int x4), (5, .int x5)]) hx hb d_FaultFinder_breaksWith_38 hl (by decide) rfl (fun ls hl => ?_)
  refine lv_iload_n hx hb d_FaultFinder_breaksWith_40 rfl (lv_at hl 3 rfl) ?_
  by_cases c1 : x2 = (1 : Int32)
  · replace hm := ifT hm c1
    refine lv_tableIn (off := 31) (tgt := 72) hx hb d_FaultFinder_breaksWith_41 (by rw [c1]; decide) (by rw [c1]; decide) (by rw [c1]; rfl) (by decide) ?_
    refine lv_iload hx hb d_FaultFinder_breaksWith_72 (lv_at hl 0 rfl) ?_
    refine lv_if_eq (tgt := 111) hx hb d_FaultFinder_breaksWith_74 (by decide) (fun c2 => ?_) (fun c2 => ?_)
    · replace hm := ifT hm c2
      refine lv_iconst (v := 0) hx hb d_FaultFinder_breaksWith_111 (by decide) ?_
      replace hm := Option.some.inj hm; subst hm
      exact zret_z (v := 0) C hP hD hS (by rfl) d_FaultFinder_breaksWith_112
    · replace hm := ifF hm c2
      refine lv_aload_n hx hb d_FaultFinder_breaksWith_77 rfl (lv_at hl 1 rfl) ?_
      refine va_get (D := D) (ci := 2) (v := .ref (ad 8)) (C := R_FaultFinder) (T := T_FaultFinder) (N := 8) hx hb hts inG_FaultFinder hown hK hP 9 rfl rfl 1 (by decide) (hts _ gw_218) (fun _ h9 => h9) rfl d_FaultFinder_breaksWith_78 ?_
      refine lv_iload_n hx hb d_FaultFinder_breaksWith_81 rfl (lv_at hl 2 rfl) ?_
      refine lv_iload hx hb d_FaultFinder_breaksWith_82 (lv_at hl 5 rfl) ?_
      refine lv_aload_n hx hb d_FaultFinder_breaksWith_84 rfl (lv_at hl 4 rfl) ?_
      refine va_getN (D := D) (ci := 3) (v := .ref xb) (C := R_Line) (T := T_Line) (N := 2) hx hb hts inG_Line hown hK hP 0 rfl rfl 0 (by decide) (va_Nw.use rfl (hN _ nw_134)) (fun _ h9 => h9) rfl d_FaultFinder_breaksWith_85 ?_
      refine lv_iload hx hb d_FaultFinder_breaksWith_88 (lv_at hl 5 rfl) ?_
      refine lv_aload_n hx hb d_FaultFinder_breaksWith_90 rfl (lv_at hl 1 rfl) ?_
      refine va_get (D := D) (ci := 2) (v := .ref (ad 1)) (C := R_FaultFinder) (T := T_FaultFinder) (N := 8) hx hb hts inG_FaultFinder hown hK hP 9 rfl rfl 0 (by decide) (hts _ gw_217) (fun _ h9 => h9) rfl d_FaultFinder_breaksWith_91 ?_
      refine va_getN (D := D) (ci := 7) (v := .int su_perNote) (C := R_Setup) (T := T_Setup) (N := 7) hx hb hts inG_Setup hown hK hP 2 rfl rfl 5 (by decide) (va_Nw.use rfl (hN _ nw_181)) (fun _ h9 => h9) rfl d_FaultFinder_breaksWith_94 ?_
      refine lv_isub hx hb d_FaultFinder_breaksWith_97 ?_
      obtain ⟨hi3, hm⟩ := gd_some hm
      refine va_iald hx hb hK hP 1 0 rfl rfl hi3 d_FaultFinder_breaksWith_98 ?_
      refine lv_iload hx hb d_FaultFinder_breaksWith_99 (lv_at hl 6 rfl) ?_
      obtain ⟨u4, hc5, hm⟩ := bd_some hm
      refine zVN_i (n := 4) (wr := [(xa, .inr (3, [.ref xb, .int X_size])), (xb, .inl (kc 0, 45, .inl X_notes)), ((ad 9), .inr (2, [.ref (ad 1), .ref (ad 8), .ref (ad 10), .ref (ad 11), .ref (ad 12), .int fi_faults, .int fi_highest, .int fi_firstHighest]))]) (w1 := (wd_Rules_isParallel kc ad su_lines su_length su_perNote su_above su_numbers su_given)) (ws1 := (wd_FaultFinder_breaksWith kc ad xa xb X_size X_notes su_lines su_length su_perNote su_above su_numbers su_given fi_faults fi_highest fi_firstHighest)) (As := [.int x1, .int x4, .int (X_notes (Int32.toNatClampNeg (x4 - su_perNote))), .int x5]) (rest := []) (ci := 5) (q0 := 6) (y := y_Rules_isParallel) (host := "SpeciesSolver") ⟨hx, hb, hml, hown, hts⟩ (fun sz => c_Rules_isParallel hc5 sz) gw_591 (hN _ nw_764) gw_590 gw_33 gw_114 hd_Rules_isParallel ⟨Nat.le_of_ble_eq_true rfl, Nat.le_of_ble_eq_true rfl⟩ ⟨rfl, rfl⟩ ⟨Nat.zero_le _, Nat.zero_le _⟩ hK hN hP hD hS hA hX [2, 3, 4, 5, 6, 7, 8] [0, 1, 9] [0, 1, 3, 4, 5, 6, 7, 8, 9, 2] rfl rfl (by decide) (by decide) (by decide) rfl (by decide) rfl rfl rfl hl.1 rfl (Nat.le_of_ble_eq_true rfl) d_FaultFinder_breaksWith_101 (fun H locs hP hD hS => ?_)
      refine lv_if_eq (tgt := 111) hx hb d_FaultFinder_breaksWith_104 (by decide) (fun c6 => ?_) (fun c6 => ?_)
      · replace hm := ifT hm c6
        refine lv_iconst (v := 0) hx hb d_FaultFinder_breaksWith_111 (by decide) ?_
        replace hm := Option.some.inj hm; subst hm
        exact zret_z (v := 0) C hP hD hS (by rfl) d_FaultFinder_breaksWith_112
      · replace hm := ifF hm c6
        refine lv_iconst (v := 1) hx hb d_FaultFinder_breaksWith_107 (by decide) ?_
        refine lv_goto (tgt := 112) hx hb d_FaultFinder_breaksWith_108 (by decide) ?_
        replace hm := Option.some.inj hm; subst hm
        exact zret_z (v := 1) C hP hD hS (by rfl) d_FaultFinder_breaksWith_112
  replace hm := ifF hm c1
  by_cases c7 : x2 = (2 : Int32)
  · replace hm := ifT hm c7
    refine lv_tableIn (off := 72) (tgt := 113) hx hb d_FaultFinder_breaksWith_41 (by rw [c7]; decide) (by rw [c7]; decide) (by rw [c7]; rfl) (by decide) ?_
    refine lv_iload hx hb d_FaultFinder_breaksWith_113 (lv_at hl 0 rfl) ?_
    refine lv_if_eq (tgt := 152) hx hb d_FaultFinder_breaksWith_115 (by decide) (fun c8 => ?_) (fun c8 => ?_)
    · replace hm := ifT hm c8
      refine lv_iconst (v := 0) hx hb d_FaultFinder_breaksWith_152 (by decide) ?_
      replace hm := Option.some.inj hm; subst hm
      exact zret_z (v := 0) C hP hD hS (by rfl) d_FaultFinder_breaksWith_153
    · replace hm := ifF hm c8
      refine lv_aload_n hx hb d_FaultFinder_breaksWith_118 rfl (lv_at hl 1 rfl) ?_
      refine va_get (D := D) (ci := 2) (v := .ref (ad 8)) (C := R_FaultFinder) (T := T_FaultFinder) (N := 8) hx hb hts inG_FaultFinder hown hK hP 9 rfl rfl 1 (by decide) (hts _ gw_218) (fun _ h9 => h9) rfl d_FaultFinder_breaksWith_119 ?_
      refine lv_iload_n hx hb d_FaultFinder_breaksWith_122 rfl (lv_at hl 2 rfl) ?_
      refine lv_iload hx hb d_FaultFinder_breaksWith_123 (lv_at hl 5 rfl) ?_
      refine lv_aload_n hx hb d_FaultFinder_breaksWith_125 rfl (lv_at hl 4 rfl) ?_
      refine va_getN (D := D) (ci := 3) (v := .ref xb) (C := R_Line) (T := T_Line) (N := 2) hx hb hts inG_Line hown hK hP 0 rfl rfl 0 (by decide) (va_Nw.use rfl (hN _ nw_134)) (fun _ h9 => h9) rfl d_FaultFinder_breaksWith_126 ?_
      refine lv_iload hx hb d_FaultFinder_breaksWith_129 (lv_at hl 5 rfl) ?_
      refine lv_aload_n hx hb d_FaultFinder_breaksWith_131 rfl (lv_at hl 1 rfl) ?_
      refine va_get (D := D) (ci := 2) (v := .ref (ad 1)) (C := R_FaultFinder) (T := T_FaultFinder) (N := 8) hx hb hts inG_FaultFinder hown hK hP 9 rfl rfl 0 (by decide) (hts _ gw_217) (fun _ h9 => h9) rfl d_FaultFinder_breaksWith_132 ?_
      refine va_getN (D := D) (ci := 7) (v := .int su_perNote) (C := R_Setup) (T := T_Setup) (N := 7) hx hb hts inG_Setup hown hK hP 2 rfl rfl 5 (by decide) (va_Nw.use rfl (hN _ nw_181)) (fun _ h9 => h9) rfl d_FaultFinder_breaksWith_135 ?_
      refine lv_isub hx hb d_FaultFinder_breaksWith_138 ?_
      obtain ⟨hi9, hm⟩ := gd_some hm
      refine va_iald hx hb hK hP 1 0 rfl rfl hi9 d_FaultFinder_breaksWith_139 ?_
      refine lv_iload hx hb d_FaultFinder_breaksWith_140 (lv_at hl 6 rfl) ?_
      obtain ⟨u10, hc11, hm⟩ := bd_some hm
      refine zVN_i (n := 4) (wr := [(xa, .inr (3, [.ref xb, .int X_size])), (xb, .inl (kc 0, 45, .inl X_notes)), ((ad 9), .inr (2, [.ref (ad 1), .ref (ad 8), .ref (ad 10), .ref (ad 11), .ref (ad 12), .int fi_faults, .int fi_highest, .int fi_firstHighest]))]) (w1 := (wd_Rules_isHidden kc ad su_lines su_length su_perNote su_above su_numbers su_given)) (ws1 := (wd_FaultFinder_breaksWith kc ad xa xb X_size X_notes su_lines su_length su_perNote su_above su_numbers su_given fi_faults fi_highest fi_firstHighest)) (As := [.int x1, .int x4, .int (X_notes (Int32.toNatClampNeg (x4 - su_perNote))), .int x5]) (rest := []) (ci := 5) (q0 := 6) (y := y_Rules_isHidden) (host := "SpeciesSolver") ⟨hx, hb, hml, hown, hts⟩ (fun sz => c_Rules_isHidden hc11 sz) gw_599 (hN _ nw_765) gw_598 gw_35 gw_114 hd_Rules_isHidden ⟨Nat.le_of_ble_eq_true rfl, Nat.le_of_ble_eq_true rfl⟩ ⟨rfl, rfl⟩ ⟨Nat.zero_le _, Nat.zero_le _⟩ hK hN hP hD hS hA hX [2, 3, 4, 5, 6, 7, 8] [0, 1, 9] [0, 1, 3, 4, 5, 6, 7, 8, 9, 2] rfl rfl (by decide) (by decide) (by decide) rfl (by decide) rfl rfl rfl hl.1 rfl (Nat.le_of_ble_eq_true rfl) d_FaultFinder_breaksWith_142 (fun H locs hP hD hS => ?_)
      refine lv_if_eq (tgt := 152) hx hb d_FaultFinder_breaksWith_145 (by decide) (fun c12 => ?_) (fun c12 => ?_)
      · replace hm := ifT hm c12
        refine lv_iconst (v := 0) hx hb d_FaultFinder_breaksWith_152 (by decide) ?_
        replace hm := Option.some.inj hm; subst hm
        exact zret_z (v := 0) C hP hD hS (by rfl) d_FaultFinder_breaksWith_153
      · replace hm := ifF hm c12
        refine lv_iconst (v := 1) hx hb d_FaultFinder_breaksWith_148 (by decide) ?_
        refine lv_goto (tgt := 153) hx hb d_FaultFinder_breaksWith_149 (by decide) ?_
        replace hm := Option.some.inj hm; subst hm
        exact zret_z (v := 1) C hP hD hS (by rfl) d_FaultFinder_breaksWith_153
  replace hm := ifF hm c7
  by_cases c13 : x2 = (3 : Int32)
  · replace hm := ifT hm c13
    refine lv_tableIn (off := 113) (tgt := 154) hx hb d_FaultFinder_breaksWith_41 (by rw [c13]; decide) (by rw [c13]; decide) (by rw [c13]; rfl) (by decide) ?_
    refine lv_aload_n hx hb d_FaultFinder_breaksWith_154 rfl (lv_at hl 1 rfl) ?_
    refine va_get (D := D) (ci := 2) (v := .ref (ad 8)) (C := R_FaultFinder) (T := T_FaultFinder) (N := 8) hx hb hts inG_FaultFinder hown hK hP 9 rfl rfl 1 (by decide) (hts _ gw_218) (fun _ h9 => h9) rfl d_FaultFinder_breaksWith_155 ?_
    refine lv_iload_n hx hb d_FaultFinder_breaksWith_158 rfl (lv_at hl 2 rfl) ?_
    refine lv_iload hx hb d_FaultFinder_breaksWith_159 (lv_at hl 5 rfl) ?_
    refine lv_iload hx hb d_FaultFinder_breaksWith_161 (lv_at hl 6 rfl) ?_
    obtain ⟨u14, hc15, hm⟩ := bd_some hm
    refine zVN_i (n := 3) (wr := [(xa, .inr (3, [.ref xb, .int X_size])), (xb, .inl (kc 0, 45, .inl X_notes)), ((ad 2), .inl (kc 0, 18, .inl su_numbers)), ((ad 9), .inr (2, [.ref (ad 1), .ref (ad 8), .ref (ad 10), .ref (ad 11), .ref (ad 12), .int fi_faults, .int fi_highest, .int fi_firstHighest]))]) (w1 := (wd_Rules_isCrossing kc ad su_lines su_length su_perNote su_above su_given)) (ws1 := (wd_FaultFinder_breaksWith kc ad xa xb X_size X_notes su_lines su_length su_perNote su_above su_numbers su_given fi_faults fi_highest fi_firstHighest)) (As := [.int x1, .int x4, .int x5]) (rest := []) (ci := 5) (q0 := 5) (y := y_Rules_isCrossing) (host := "SpeciesSolver") ⟨hx, hb, hml, hown, hts⟩ (fun sz => c_Rules_isCrossing hc15 sz) gw_532 (hN _ nw_766) gw_531 gw_20 gw_114 hd_Rules_isCrossing ⟨Nat.le_of_ble_eq_true rfl, Nat.le_of_ble_eq_true rfl⟩ ⟨rfl, rfl⟩ ⟨Nat.zero_le _, Nat.zero_le _⟩ hK hN hP hD hS hA hX [2, 4, 5, 6, 7, 8] [0, 1, 3, 9] [0, 1, 4, 2, 5, 6, 7, 8, 9, 3] rfl rfl (by decide) (by decide) (by decide) rfl (by decide) rfl rfl rfl hl.1 rfl (Nat.le_of_ble_eq_true rfl) d_FaultFinder_breaksWith_163 (fun H locs hP hD hS => ?_)
    obtain ⟨hz16, hm⟩ := gb_some hm
    replace hm := Option.some.inj hm; subst hm
    exact zret_z (v := u14) C hP hD hS (gb_nar hz16) d_FaultFinder_breaksWith_166
  replace hm := ifF hm c13
  by_cases c17 : x2 = (4 : Int32)
  · replace hm := ifT hm c17
    refine lv_tableIn (off := 126) (tgt := 167) hx hb d_FaultFinder_breaksWith_41 (by rw [c17]; decide) (by rw [c17]; decide) (by rw [c17]; rfl) (by decide) ?_
    refine lv_aload_n hx hb d_FaultFinder_breaksWith_167 rfl (lv_at hl 1 rfl) ?_
    refine va_get (D := D) (ci := 2) (v := .ref (ad 8)) (C := R_FaultFinder) (T := T_FaultFinder) (N := 8) hx hb hts inG_FaultFinder hown hK hP 9 rfl rfl 1 (by decide) (hts _ gw_218) (fun _ h9 => h9) rfl d_FaultFinder_breaksWith_168 ?_
    refine lv_iload hx hb d_FaultFinder_breaksWith_171 (lv_at hl 5 rfl) ?_
    obtain ⟨u18, hc19, hm⟩ := bd_some hm
    refine zVN_i (n := 1) (wr := [(xa, .inr (3, [.ref xb, .int X_size])), (xb, .inl (kc 0, 45, .inl X_notes)), ((ad 2), .inl (kc 0, 18, .inl su_numbers)), ((ad 4), .inl (kc 3, 3, .inr (.inr (.inr (.inr (fun i => if i < 3 then some (ad (5 + i)) else none)))))), ((ad 5), .inl (kc 0, 12, .inl (su_given 0))), ((ad 6), .inl (kc 0, 12, .inl (su_given 1))), ((ad 7), .inl (kc 0, 12, .inl (su_given 2))), ((ad 9), .inr (2, [.ref (ad 1), .ref (ad 8), .ref (ad 10), .ref (ad 11), .ref (ad 12), .int fi_faults, .int fi_highest, .int fi_firstHighest]))]) (w1 := (wd_Rules_isStrong kc ad su_lines su_length su_perNote su_above)) (ws1 := (wd_FaultFinder_breaksWith kc ad xa xb X_size X_notes su_lines su_length su_perNote su_above su_numbers su_given fi_faults fi_highest fi_firstHighest)) (As := [.int x4]) (rest := []) (ci := 5) (q0 := 1) (y := y_Rules_isStrong) (host := "SpeciesSolver") ⟨hx, hb, hml, hown, hts⟩ (fun sz => c_Rules_isStrong hc19 sz) gw_512 (hN _ nw_763) gw_511 gw_15 gw_114 hd_Rules_isStrong ⟨Nat.le_of_ble_eq_true rfl, Nat.le_of_ble_eq_true rfl⟩ ⟨rfl, rfl⟩ ⟨Nat.zero_le _, Nat.zero_le _⟩ hK hN hP hD hS hA hX [2, 8] [0, 1, 3, 4, 5, 6, 7, 9] [0, 1, 8, 2, 3, 4, 5, 6, 9, 7] rfl rfl (by decide) (by decide) (by decide) rfl (by decide) rfl rfl rfl hl.1 rfl (Nat.le_of_ble_eq_true rfl) d_FaultFinder_breaksWith_173 (fun H locs hP hD hS => ?_)
    refine lv_if_ne (tgt := 245) hx hb d_FaultFinder_breaksWith_176 (by decide) (fun c20 => ?_) (fun c20 => ?_)
    · replace hm := ifF hm c20
      refine lv_iconst (v := 0) hx hb d_FaultFinder_breaksWith_245 (by decide) ?_
      replace hm := Option.some.inj hm; subst hm
      exact zret_z (v := 0) C hP hD hS (by rfl) d_FaultFinder_breaksWith_246
    · replace hm := ifT hm c20
      refine lv_iload hx hb d_FaultFinder_breaksWith_179 (lv_at hl 5 rfl) ?_
      refine lv_iconst (v := 1) hx hb d_FaultFinder_breaksWith_181 (by decide) ?_
      refine lv_icmp_lt (tgt := 245) hx hb d_FaultFinder_breaksWith_182 (by decide) (fun c21 => ?_) (fun c21 => ?_)
      · replace hm := ifT hm c21
        refine lv_iconst (v := 0) hx hb d_FaultFinder_breaksWith_245 (by decide) ?_
        replace hm := Option.some.inj hm; subst hm
        exact zret_z (v := 0) C hP hD hS (by rfl) d_FaultFinder_breaksWith_246
      · replace hm := ifF hm c21
        refine lv_iload hx hb d_FaultFinder_breaksWith_185 (lv_at hl 5 rfl) ?_
        refine lv_iconst (v := 1) hx hb d_FaultFinder_breaksWith_187 (by decide) ?_
        refine lv_iadd hx hb d_FaultFinder_breaksWith_188 ?_
        refine lv_aload_n hx hb d_FaultFinder_breaksWith_189 rfl (lv_at hl 4 rfl) ?_
        refine va_getN (D := D) (ci := 3) (v := .int X_size) (C := R_Line) (T := T_Line) (N := 2) hx hb hts inG_Line hown hK hP 0 rfl rfl 1 (by decide) (va_Nw.use rfl (hN _ nw_138)) (fun _ h9 => h9) rfl d_FaultFinder_breaksWith_190 ?_
        refine lv_icmp_ge (tgt := 245) hx hb d_FaultFinder_breaksWith_193 (by decide) (fun c22 => ?_) (fun c22 => ?_)
        · replace hm := ifT hm c22
          refine lv_iconst (v := 0) hx hb d_FaultFinder_breaksWith_245 (by decide) ?_
          replace hm := Option.some.inj hm; subst hm
          exact zret_z (v := 0) C hP hD hS (by rfl) d_FaultFinder_breaksWith_246
        · replace hm := ifF hm c22
          refine lv_aload_n hx hb d_FaultFinder_breaksWith_196 rfl (lv_at hl 1 rfl) ?_
          refine va_get (D := D) (ci := 2) (v := .ref (ad 8)) (C := R_FaultFinder) (T := T_FaultFinder) (N := 8) hx hb hts inG_FaultFinder hown hK hP 9 rfl rfl 1 (by decide) (hts _ gw_218) (fun _ h9 => h9) rfl d_FaultFinder_breaksWith_197 ?_
          refine lv_iload_n hx hb d_FaultFinder_breaksWith_200 rfl (lv_at hl 2 rfl) ?_
          refine lv_iload hx hb d_FaultFinder_breaksWith_201 (lv_at hl 5 rfl) ?_
          refine lv_iload hx hb d_FaultFinder_breaksWith_203 (lv_at hl 6 rfl) ?_
          obtain ⟨u23, hc24, hm⟩ := bd_some hm
          refine zVN_i (n := 3) (wr := [(xa, .inr (3, [.ref xb, .int X_size])), (xb, .inl (kc 0, 45, .inl X_notes)), ((ad 9), .inr (2, [.ref (ad 1), .ref (ad 8), .ref (ad 10), .ref (ad 11), .ref (ad 12), .int fi_faults, .int fi_highest, .int fi_firstHighest]))]) (w1 := (wd_Rules_isHardWith kc ad su_lines su_length su_perNote su_above su_numbers su_given)) (ws1 := (wd_FaultFinder_breaksWith kc ad xa xb X_size X_notes su_lines su_length su_perNote su_above su_numbers su_given fi_faults fi_highest fi_firstHighest)) (As := [.int x1, .int x4, .int x5]) (rest := []) (ci := 5) (q0 := 6) (y := y_Rules_isHardWith) (host := "SpeciesSolver") ⟨hx, hb, hml, hown, hts⟩ (fun sz => c_Rules_isHardWith hc24 sz) gw_770 (hN _ nw_767) gw_769 gw_68 gw_114 hd_Rules_isHardWith ⟨Nat.le_of_ble_eq_true rfl, Nat.le_of_ble_eq_true rfl⟩ ⟨rfl, rfl⟩ ⟨Nat.zero_le _, Nat.zero_le _⟩ hK hN hP hD hS hA hX [2, 3, 4, 5, 6, 7, 8] [0, 1, 9] [0, 1, 3, 4, 5, 6, 7, 8, 9, 2] rfl rfl (by decide) (by decide) (by decide) rfl (by decide) rfl rfl rfl hl.1 rfl (Nat.le_of_ble_eq_true rfl) d_FaultFinder_breaksWith_205 (fun H locs hP hD hS => ?_)
          refine lv_if_eq (tgt := 245) hx hb d_FaultFinder_breaksWith_208 (by decide) (fun c25 => ?_) (fun c25 => ?_)
          · replace hm := ifT hm c25
            refine lv_iconst (v := 0) hx hb d_FaultFinder_breaksWith_245 (by decide) ?_
            replace hm := Option.some.inj hm; subst hm
            exact zret_z (v := 0) C hP hD hS (by rfl) d_FaultFinder_breaksWith_246
          · replace hm := ifF hm c25
            refine lv_aload_n hx hb d_FaultFinder_breaksWith_211 rfl (lv_at hl 1 rfl) ?_
            refine va_get (D := D) (ci := 2) (v := .ref (ad 8)) (C := R_FaultFinder) (T := T_FaultFinder) (N := 8) hx hb hts inG_FaultFinder hown hK hP 9 rfl rfl 1 (by decide) (hts _ gw_218) (fun _ h9 => h9) rfl d_FaultFinder_breaksWith_212 ?_
            refine lv_aload_n hx hb d_FaultFinder_breaksWith_215 rfl (lv_at hl 4 rfl) ?_
            refine va_getN (D := D) (ci := 3) (v := .ref xb) (C := R_Line) (T := T_Line) (N := 2) hx hb hts inG_Line hown hK hP 0 rfl rfl 0 (by decide) (va_Nw.use rfl (hN _ nw_134)) (fun _ h9 => h9) rfl d_FaultFinder_breaksWith_216 ?_
            refine lv_iload hx hb d_FaultFinder_breaksWith_219 (lv_at hl 5 rfl) ?_
            refine lv_iconst (v := 1) hx hb d_FaultFinder_breaksWith_221 (by decide) ?_
            refine lv_isub hx hb d_FaultFinder_breaksWith_222 ?_
            obtain ⟨hi26, hm⟩ := gd_some hm
            refine va_iald hx hb hK hP 1 0 rfl rfl hi26 d_FaultFinder_breaksWith_223 ?_
            refine lv_iload hx hb d_FaultFinder_breaksWith_224 (lv_at hl 6 rfl) ?_
            refine lv_aload_n hx hb d_FaultFinder_breaksWith_226 rfl (lv_at hl 4 rfl) ?_
            refine va_getN (D := D) (ci := 3) (v := .ref xb) (C := R_Line) (T := T_Line) (N := 2) hx hb hts inG_Line hown hK hP 0 rfl rfl 0 (by decide) (va_Nw.use rfl (hN _ nw_134)) (fun _ h9 => h9) rfl d_FaultFinder_breaksWith_227 ?_
            refine lv_iload hx hb d_FaultFinder_breaksWith_230 (lv_at hl 5 rfl) ?_
            refine lv_iconst (v := 1) hx hb d_FaultFinder_breaksWith_232 (by decide) ?_
            refine lv_iadd hx hb d_FaultFinder_breaksWith_233 ?_
            obtain ⟨hi27, hm⟩ := gd_some hm
            refine va_iald hx hb hK hP 1 0 rfl rfl hi27 d_FaultFinder_breaksWith_234 ?_
            obtain ⟨u28, hc29, hm⟩ := bd_some hm
            refine zVN_i (n := 3) (wr := [(xa, .inr (3, [.ref xb, .int X_size])), (xb, .inl (kc 0, 45, .inl X_notes)), ((ad 4), .inl (kc 3, 3, .inr (.inr (.inr (.inr (fun i => if i < 3 then some (ad (5 + i)) else none)))))), ((ad 5), .inl (kc 0, 12, .inl (su_given 0))), ((ad 6), .inl (kc 0, 12, .inl (su_given 1))), ((ad 7), .inl (kc 0, 12, .inl (su_given 2))), ((ad 9), .inr (2, [.ref (ad 1), .ref (ad 8), .ref (ad 10), .ref (ad 11), .ref (ad 12), .int fi_faults, .int fi_highest, .int fi_firstHighest]))]) (w1 := (wd_Rules_isPassing kc ad su_lines su_length su_perNote su_above su_numbers)) (ws1 := (wd_FaultFinder_breaksWith kc ad xa xb X_size X_notes su_lines su_length su_perNote su_above su_numbers su_given fi_faults fi_highest fi_firstHighest)) (As := [.int (X_notes (Int32.toNatClampNeg (x4 - (1 : Int32)))), .int x5, .int (X_notes (Int32.toNatClampNeg (x4 + (1 : Int32))))]) (rest := []) (ci := 5) (q0 := 2) (y := y_Rules_isPassing) (host := "SpeciesSolver") ⟨hx, hb, hml, hown, hts⟩ (fun sz => c_Rules_isPassing hc29 sz) gw_579 (hN _ nw_771) gw_578 gw_30 gw_114 hd_Rules_isPassing ⟨Nat.le_of_ble_eq_true rfl, Nat.le_of_ble_eq_true rfl⟩ ⟨rfl, rfl⟩ ⟨Nat.zero_le _, Nat.zero_le _⟩ hK hN hP hD hS hA hX [2, 3, 8] [0, 1, 4, 5, 6, 7, 9] [0, 1, 7, 8, 2, 3, 4, 5, 9, 6] rfl rfl (by decide) (by decide) (by decide) rfl (by decide) rfl rfl rfl hl.1 rfl (Nat.le_of_ble_eq_true rfl) d_FaultFinder_breaksWith_235 (fun H locs hP hD hS => ?_)
            refine lv_if_ne (tgt := 245) hx hb d_FaultFinder_breaksWith_238 (by decide) (fun c30 => ?_) (fun c30 => ?_)
            · replace hm := ifF hm c30
              refine lv_iconst (v := 0) hx hb d_FaultFinder_breaksWith_245 (by decide) ?_
              replace hm := Option.some.inj hm; subst hm
              exact zret_z (v := 0) C hP hD hS (by rfl) d_FaultFinder_breaksWith_246
            · replace hm := ifT hm c30
              refine lv_iconst (v := 1) hx hb d_FaultFinder_breaksWith_241 (by decide) ?_
              refine lv_goto (tgt := 246) hx hb d_FaultFinder_breaksWith_242 (by decide) ?_
              replace hm := Option.some.inj hm; subst hm
              exact zret_z (v := 1) C hP hD hS (by rfl) d_FaultFinder_breaksWith_246
  replace hm := ifF hm c17
  refine lv_tableOut (tgt := 247) hx hb d_FaultFinder_breaksWith_41 (by have := ti_ne (k := 1) (y := (1 : Int32)) rfl c1; have := ti_ne (k := 2) (y := (2 : Int32)) rfl c7; have := ti_ne (k := 3) (y := (3 : Int32)) rfl c13; have := ti_ne (k := 4) (y := (4 : Int32)) rfl c17; omega) (by decide) ?_
  refine lv_iconst (v := 0) hx hb d_FaultFinder_breaksWith_247 (by decide) ?_
  replace hm := Option.some.inj hm; subst hm
  exact zret_z (v := 0) C hP hD hS (by rfl) d_FaultFinder_breaksWith_248
def m_FaultFinder_breaksWith_37 (X_size : Int32) (X_notes : Nat → Int32) (su_perNote : Int32) (su_above : Int32) (su_numbers : Nat → Int32) (su_given : Nat → Nat → Int32)   (x1 : Int32) (x2 : Int32) (x4 : Int32) (x5 : Int32) : Option (Int32) :=
  m_FaultFinder_breaksWith_38 X_size X_notes su_perNote su_above su_numbers su_given  x1 x2 x4 x5 (0 : Int32)
set_option maxHeartbeats 4000000 in
set_option maxRecDepth 100000 in
theorem l_FaultFinder_breaksWith_37 {r : Int32} {ad : Nat → Nat} {xa : Nat} {xb : Nat} {X_size : Int32} {X_notes : Nat → Int32} {su_lines : Int32} {su_length : Int32} {su_perNote : Int32} {su_above : Int32} {su_numbers : Nat → Int32} {su_given : Nat → Nat → Int32} {fi_faults : Int32} {fi_highest : Int32} {fi_firstHighest : Int32}  {x1 : Int32} {x2 : Int32} {x4 : Int32} {x5 : Int32} {H : Heap} {locs : List Loc} {ls : Array Slot} (C : Cx p s m meth c args A D kc R_FaultFinder b_FaultFinder_breaksWith 7 (some .boolean))  (hm : m_FaultFinder_breaksWith_37 X_size X_notes su_perNote su_above su_numbers su_given  x1 x2 x4 x5 = some r) (hZ : St D A s (wd_FaultFinder_breaksWith kc ad xa xb X_size X_notes su_lines su_length su_perNote su_above su_numbers su_given fi_faults fi_highest fi_firstHighest) H locs) (hl : lv_has ls 7 [(0, .ref (ad 9)), (1, .int x1), (2, .int x2), (3, .ref xa), (4, .int x4), (5, .int x5)]) : W p l e rm_FaultFinder_breaksWith s m args below meth c H locs 0 0 (MQ below (Qi D A (wd_FaultFinder_breaksWith kc ad xa xb X_size X_notes su_lines su_length su_perNote su_above su_numbers su_given fi_faults fi_highest fi_firstHighest) r) args s 0 0 A) (F0 m 37 ls []) := by
  obtain ⟨hx, hb, hr, hts, hown, hml, hlocks, hK, hN, hA, hX⟩ := id C
  obtain ⟨hP, hD, hS⟩ := hZ
  unfold m_FaultFinder_breaksWith_37 at hm
  refine lv_iconst (v := 0) hx hb d_FaultFinder_breaksWith_37 (by decide) ?_
  exact l_FaultFinder_breaksWith_38 C  hm ⟨hP, hD, hS⟩ (lv_sub hl [0, 1, 2, 3, 4, 5] rfl)
def m_FaultFinder_breaksWith (X_size : Int32) (X_notes : Nat → Int32) (su_perNote : Int32) (su_above : Int32) (su_numbers : Nat → Int32) (su_given : Nat → Nat → Int32)  (a1 : Int32) (a2 : Int32) (a4 : Int32) : Option (Int32) :=
  (gd a4 45 (if a4 < su_perNote then
    m_FaultFinder_breaksWith_37 X_size X_notes su_perNote su_above su_numbers su_given  a1 a2 a4 (X_notes (Int32.toNatClampNeg a4))
  else
    (bd (m_Rules_isStrong su_perNote a4) (fun u3 => (if u3 = (0 : Int32) then
      m_FaultFinder_breaksWith_37 X_size X_notes su_perNote su_above su_numbers su_given  a1 a2 a4 (X_notes (Int32.toNatClampNeg a4))
    else
      m_FaultFinder_breaksWith_38 X_size X_notes su_perNote su_above su_numbers su_given  a1 a2 a4 (X_notes (Int32.toNatClampNeg a4)) (1 : Int32))))))
set_option maxHeartbeats 4000000 in
set_option maxRecDepth 100000 in
theorem e_FaultFinder_breaksWith {r : Int32} {ad : Nat → Nat} {xa : Nat} {xb : Nat} {X_size : Int32} {X_notes : Nat → Int32} {su_lines : Int32} {su_length : Int32} {su_perNote : Int32} {su_above : Int32} {su_numbers : Nat → Int32} {su_given : Nat → Nat → Int32} {fi_faults : Int32} {fi_highest : Int32} {fi_firstHighest : Int32} {a1 : Int32} {a2 : Int32} {a4 : Int32} {H : Heap} {locs : List Loc} {ls : Array Slot} (C : Cx p s m meth c args A D kc R_FaultFinder b_FaultFinder_breaksWith 7 (some .boolean)) (hm : m_FaultFinder_breaksWith X_size X_notes su_perNote su_above su_numbers su_given a1 a2 a4 = some r) (hZ : St D A s (wd_FaultFinder_breaksWith kc ad xa xb X_size X_notes su_lines su_length su_perNote su_above su_numbers su_given fi_faults fi_highest fi_firstHighest) H locs) (hl : lv_has ls 7 [(0, .ref (ad 9)), (1, .int a1), (2, .int a2), (3, .ref xa), (4, .int a4)]) : W p l e rm_FaultFinder_breaksWith s m args below meth c H locs 0 0 (MQ below (Qi D A (wd_FaultFinder_breaksWith kc ad xa xb X_size X_notes su_lines su_length su_perNote su_above su_numbers su_given fi_faults fi_highest fi_firstHighest) r) args s 0 0 A) (F0 m 0 ls []) := by
  obtain ⟨hx, hb, hr, hts, hown, hml, hlocks, hK, hN, hA, hX⟩ := id C
  obtain ⟨hP, hD, hS⟩ := hZ
  unfold m_FaultFinder_breaksWith at hm
  refine lv_aload_n hx hb d_FaultFinder_breaksWith_0 rfl (lv_at hl 3 rfl) ?_
  refine va_getN (D := D) (ci := 3) (v := .ref xb) (C := R_Line) (T := T_Line) (N := 2) hx hb hts inG_Line hown hK hP 0 rfl rfl 0 (by decide) (va_Nw.use rfl (hN _ nw_134)) (fun _ h9 => h9) rfl d_FaultFinder_breaksWith_1 ?_
  refine lv_iload hx hb d_FaultFinder_breaksWith_4 (lv_at hl 4 rfl) ?_
  obtain ⟨hi1, hm⟩ := gd_some hm
  refine va_iald hx hb hK hP 1 0 rfl rfl hi1 d_FaultFinder_breaksWith_6 ?_
  refine lv_istore (lv' := [(5, .int (X_notes (Int32.toNatClampNeg a4))), (0, .ref (ad 9)), (1, .int a1), (2, .int a2), (3, .ref xa), (4, .int a4)]) hx hb d_FaultFinder_breaksWith_7 hl (by decide) rfl (fun ls hl => ?_)
  refine lv_iload hx hb d_FaultFinder_breaksWith_9 (lv_at hl 5 rfl) ?_
  refine lv_aload_n hx hb d_FaultFinder_breaksWith_11 rfl (lv_at hl 1 rfl) ?_
  refine va_get (D := D) (ci := 2) (v := .ref (ad 1)) (C := R_FaultFinder) (T := T_FaultFinder) (N := 8) hx hb hts inG_FaultFinder hown hK hP 9 rfl rfl 0 (by decide) (hts _ gw_217) (fun _ h9 => h9) rfl d_FaultFinder_breaksWith_12 ?_
  refine va_getN (D := D) (ci := 7) (v := .int su_perNote) (C := R_Setup) (T := T_Setup) (N := 7) hx hb hts inG_Setup hown hK hP 2 rfl rfl 5 (by decide) (va_Nw.use rfl (hN _ nw_181)) (fun _ h9 => h9) rfl d_FaultFinder_breaksWith_15 ?_
  refine lv_icmp_lt (tgt := 37) hx hb d_FaultFinder_breaksWith_18 (by decide) (fun c2 => ?_) (fun c2 => ?_)
  · replace hm := ifT hm c2
    exact l_FaultFinder_breaksWith_37 C  hm ⟨hP, hD, hS⟩ (lv_sub hl [1, 2, 3, 4, 5, 0] rfl)
  · replace hm := ifF hm c2
    refine lv_aload_n hx hb d_FaultFinder_breaksWith_21 rfl (lv_at hl 1 rfl) ?_
    refine va_get (D := D) (ci := 2) (v := .ref (ad 8)) (C := R_FaultFinder) (T := T_FaultFinder) (N := 8) hx hb hts inG_FaultFinder hown hK hP 9 rfl rfl 1 (by decide) (hts _ gw_218) (fun _ h9 => h9) rfl d_FaultFinder_breaksWith_22 ?_
    refine lv_iload hx hb d_FaultFinder_breaksWith_25 (lv_at hl 5 rfl) ?_
    obtain ⟨u3, hc4, hm⟩ := bd_some hm
    refine zVN_i (n := 1) (wr := [(xa, .inr (3, [.ref xb, .int X_size])), (xb, .inl (kc 0, 45, .inl X_notes)), ((ad 2), .inl (kc 0, 18, .inl su_numbers)), ((ad 4), .inl (kc 3, 3, .inr (.inr (.inr (.inr (fun i => if i < 3 then some (ad (5 + i)) else none)))))), ((ad 5), .inl (kc 0, 12, .inl (su_given 0))), ((ad 6), .inl (kc 0, 12, .inl (su_given 1))), ((ad 7), .inl (kc 0, 12, .inl (su_given 2))), ((ad 9), .inr (2, [.ref (ad 1), .ref (ad 8), .ref (ad 10), .ref (ad 11), .ref (ad 12), .int fi_faults, .int fi_highest, .int fi_firstHighest]))]) (w1 := (wd_Rules_isStrong kc ad su_lines su_length su_perNote su_above)) (ws1 := (wd_FaultFinder_breaksWith kc ad xa xb X_size X_notes su_lines su_length su_perNote su_above su_numbers su_given fi_faults fi_highest fi_firstHighest)) (As := [.int a4]) (rest := []) (ci := 5) (q0 := 1) (y := y_Rules_isStrong) (host := "SpeciesSolver") ⟨hx, hb, hml, hown, hts⟩ (fun sz => c_Rules_isStrong hc4 sz) gw_512 (hN _ nw_763) gw_511 gw_15 gw_114 hd_Rules_isStrong ⟨Nat.le_of_ble_eq_true rfl, Nat.le_of_ble_eq_true rfl⟩ ⟨rfl, rfl⟩ ⟨Nat.zero_le _, Nat.zero_le _⟩ hK hN hP hD hS hA hX [2, 8] [0, 1, 3, 4, 5, 6, 7, 9] [0, 1, 8, 2, 3, 4, 5, 6, 9, 7] rfl rfl (by decide) (by decide) (by decide) rfl (by decide) rfl rfl rfl hl.1 rfl (Nat.le_of_ble_eq_true rfl) d_FaultFinder_breaksWith_27 (fun H locs hP hD hS => ?_)
    refine lv_if_eq (tgt := 37) hx hb d_FaultFinder_breaksWith_30 (by decide) (fun c5 => ?_) (fun c5 => ?_)
    · replace hm := ifT hm c5
      exact l_FaultFinder_breaksWith_37 C  hm ⟨hP, hD, hS⟩ (lv_sub hl [1, 2, 3, 4, 5, 0] rfl)
    · replace hm := ifF hm c5
      refine lv_iconst (v := 1) hx hb d_FaultFinder_breaksWith_33 (by decide) ?_
      refine lv_goto (tgt := 38) hx hb d_FaultFinder_breaksWith_34 (by decide) ?_
      exact l_FaultFinder_breaksWith_38 C  hm ⟨hP, hD, hS⟩ (lv_sub hl [1, 2, 3, 4, 5, 0] rfl)
set_option maxHeartbeats 4000000 in
set_option maxRecDepth 100000 in
theorem c_FaultFinder_breaksWith {l : Launch} {D : va_G} {kc : Nat → ClassId} {r : Int32} {ad : Nat → Nat} {xa : Nat} {xb : Nat} {X_size : Int32} {X_notes : Nat → Int32} {su_lines : Int32} {su_length : Int32} {su_perNote : Int32} {su_above : Int32} {su_numbers : Nat → Int32} {su_given : Nat → Nat → Int32} {fi_faults : Int32} {fi_highest : Int32} {fi_firstHighest : Int32} {a1 : Int32} {a2 : Int32} {a4 : Int32} (hm : m_FaultFinder_breaksWith X_size X_notes su_perNote su_above su_numbers su_given a1 a2 a4 = some r) (sz : Nat) : Ci l y_FaultFinder_breaksWith ws_FaultFinder_breaksWith rm_FaultFinder_breaksWith D kc sz [.ref (ad 9), .int a1, .int a2, .ref xa, .int a4] (wd_FaultFinder_breaksWith kc ad xa xb X_size X_notes su_lines su_length su_perNote su_above su_numbers su_given fi_faults fi_highest fi_firstHighest) (wd_FaultFinder_breaksWith kc ad xa xb X_size X_notes su_lines su_length su_perNote su_above su_numbers su_given fi_faults fi_highest fi_firstHighest) r :=
  Cz_of (Qf := fun A => (Qi D A (wd_FaultFinder_breaksWith kc ad xa xb X_size X_notes su_lines su_length su_perNote su_above su_numbers su_given fi_faults fi_highest fi_firstHighest) r)) (cc := b_FaultFinder_breaksWith) (maxL := 7) (ret := (some .boolean)) (by decide) rfl rfl (fun C hZ hl => e_FaultFinder_breaksWith C hm hZ hl)
abbrev b_FaultFinder_addFault : ByteArray := prog_2_method_6_code
abbrev y_FaultFinder_addFault : MethodName := ⟨"SpeciesSolver$FaultFinder", "addFault", "(III)V"⟩
theorem d_FaultFinder_addFault_0 : decode b_FaultFinder_addFault 0 = .ok (.aload_n 0, 1) := by decide +kernel
theorem d_FaultFinder_addFault_1 : decode b_FaultFinder_addFault 1 = .ok (.getfield 21, 3) := by decide +kernel
theorem d_FaultFinder_addFault_4 : decode b_FaultFinder_addFault 4 = .ok (.sipush 200, 3) := by decide +kernel
theorem d_FaultFinder_addFault_7 : decode b_FaultFinder_addFault 7 = .ok (.if_icmp .ge 33, 3) := by decide +kernel
theorem d_FaultFinder_addFault_10 : decode b_FaultFinder_addFault 10 = .ok (.aload_n 0, 1) := by decide +kernel
theorem d_FaultFinder_addFault_11 : decode b_FaultFinder_addFault 11 = .ok (.getfield 9, 3) := by decide +kernel
theorem d_FaultFinder_addFault_14 : decode b_FaultFinder_addFault 14 = .ok (.aload_n 0, 1) := by decide +kernel
theorem d_FaultFinder_addFault_15 : decode b_FaultFinder_addFault 15 = .ok (.getfield 21, 3) := by decide +kernel
theorem d_FaultFinder_addFault_18 : decode b_FaultFinder_addFault 18 = .ok (.iload_n 1, 1) := by decide +kernel
theorem d_FaultFinder_addFault_19 : decode b_FaultFinder_addFault 19 = .ok (.iastore, 1) := by decide +kernel
theorem d_FaultFinder_addFault_20 : decode b_FaultFinder_addFault 20 = .ok (.aload_n 0, 1) := by decide +kernel
theorem d_FaultFinder_addFault_21 : decode b_FaultFinder_addFault 21 = .ok (.getfield 15, 3) := by decide +kernel
theorem d_FaultFinder_addFault_24 : decode b_FaultFinder_addFault 24 = .ok (.aload_n 0, 1) := by decide +kernel
theorem d_FaultFinder_addFault_25 : decode b_FaultFinder_addFault 25 = .ok (.getfield 21, 3) := by decide +kernel
theorem d_FaultFinder_addFault_28 : decode b_FaultFinder_addFault 28 = .ok (.iload_n 2, 1) := by decide +kernel
theorem d_FaultFinder_addFault_29 : decode b_FaultFinder_addFault 29 = .ok (.iastore, 1) := by decide +kernel
theorem d_FaultFinder_addFault_30 : decode b_FaultFinder_addFault 30 = .ok (.aload_n 0, 1) := by decide +kernel
theorem d_FaultFinder_addFault_31 : decode b_FaultFinder_addFault 31 = .ok (.getfield 18, 3) := by decide +kernel
theorem d_FaultFinder_addFault_34 : decode b_FaultFinder_addFault 34 = .ok (.aload_n 0, 1) := by decide +kernel
theorem d_FaultFinder_addFault_35 : decode b_FaultFinder_addFault 35 = .ok (.getfield 21, 3) := by decide +kernel
theorem d_FaultFinder_addFault_38 : decode b_FaultFinder_addFault 38 = .ok (.iload_n 3, 1) := by decide +kernel
theorem d_FaultFinder_addFault_39 : decode b_FaultFinder_addFault 39 = .ok (.iastore, 1) := by decide +kernel
theorem d_FaultFinder_addFault_40 : decode b_FaultFinder_addFault 40 = .ok (.aload_n 0, 1) := by decide +kernel
theorem d_FaultFinder_addFault_41 : decode b_FaultFinder_addFault 41 = .ok (.dup, 1) := by decide +kernel
theorem d_FaultFinder_addFault_42 : decode b_FaultFinder_addFault 42 = .ok (.getfield 21, 3) := by decide +kernel
theorem d_FaultFinder_addFault_45 : decode b_FaultFinder_addFault 45 = .ok (.iconst 1, 1) := by decide +kernel
theorem d_FaultFinder_addFault_46 : decode b_FaultFinder_addFault 46 = .ok (.iadd, 1) := by decide +kernel
theorem d_FaultFinder_addFault_47 : decode b_FaultFinder_addFault 47 = .ok (.putfield 21, 3) := by decide +kernel
theorem d_FaultFinder_addFault_50 : decode b_FaultFinder_addFault 50 = .ok (.return_, 1) := by decide +kernel
abbrev wd_FaultFinder_addFault (kc : Nat → ClassId) (ad : Nat → Nat) (fi_faults : Int32) (fi_highest : Int32) (fi_firstHighest : Int32) (fi_faultRules : Nat → Int32) (fi_faultNotes : Nat → Int32) (fi_faultLines : Nat → Int32) : va_W := [((ad 9), .inr (2, [.ref (ad 1), .ref (ad 8), .ref (ad 10), .ref (ad 11), .ref (ad 12), .int fi_faults, .int fi_highest, .int fi_firstHighest])), ((ad 10), .inl (kc 0, 200, .inl fi_faultRules)), ((ad 11), .inl (kc 0, 200, .inl fi_faultNotes)), ((ad 12), .inl (kc 0, 200, .inl fi_faultLines))]
abbrev rm_FaultFinder_addFault : Room := { frames := 0, cells := 0, slots := 0, locals := 0 }
abbrev cw_FaultFinder_addFault : Cond := .code y_FaultFinder_addFault b_FaultFinder_addFault 4 none
abbrev ws_FaultFinder_addFault : List Cond := cw_FaultFinder_addFault :: GW
theorem hd_FaultFinder_addFault : y_FaultFinder_addFault.cls ≠ "java/lang/invoke/MethodHandle" ∧ y_FaultFinder_addFault.cls ≠ "java/lang/invoke/VarHandle" ∧ (parseMethodDescriptor y_FaultFinder_addFault.desc).map (fun d => d.parameters.length) = some 3 := by decide +kernel
def m_FaultFinder_addFault_40   (fi_faults : Int32) (fi_faultRules : Nat → Int32) (fi_faultNotes : Nat → Int32) (fi_faultLines : Nat → Int32)  : Option (Int32 × (Nat → Int32) × (Nat → Int32) × (Nat → Int32)) :=
  (some ((fi_faults + (1 : Int32)), fi_faultRules, fi_faultNotes, fi_faultLines))
set_option maxHeartbeats 4000000 in
set_option maxRecDepth 100000 in
theorem l_FaultFinder_addFault_40 {r : Int32 × (Nat → Int32) × (Nat → Int32) × (Nat → Int32)} {ad : Nat → Nat} {fi_faults : Int32} {fi_highest : Int32} {fi_firstHighest : Int32} {fi_faultRules : Nat → Int32} {fi_faultNotes : Nat → Int32} {fi_faultLines : Nat → Int32}   {H : Heap} {locs : List Loc} {ls : Array Slot} (C : Cx p s m meth c args A D kc R_FaultFinder b_FaultFinder_addFault 4 none)  (hm : m_FaultFinder_addFault_40   fi_faults fi_faultRules fi_faultNotes fi_faultLines = some r) (hZ : St D A s (wd_FaultFinder_addFault kc ad fi_faults fi_highest fi_firstHighest fi_faultRules fi_faultNotes fi_faultLines) H locs) (hl : lv_has ls 4 [(0, .ref (ad 9))]) : W p l e rm_FaultFinder_addFault s m args below meth c H locs 0 0 (MQ below (Qv D A (wd_FaultFinder_addFault kc ad r.1 fi_highest fi_firstHighest r.2.1 r.2.2.1 r.2.2.2)) args s 0 0 A) (F0 m 40 ls []) := by
  obtain ⟨hx, hb, hr, hts, hown, hml, hlocks, hK, hN, hA, hX⟩ := id C
  obtain ⟨hP, hD, hS⟩ := hZ
  unfold m_FaultFinder_addFault_40 at hm
  refine lv_aload_n hx hb d_FaultFinder_addFault_40 rfl (lv_at hl 0 rfl) ?_
  refine lv_dup hx hb d_FaultFinder_addFault_41 rfl ?_
  refine va_get (D := D) (ci := 2) (v := .int fi_faults) (C := R_FaultFinder) (T := T_FaultFinder) (N := 8) hx hb hts inG_FaultFinder hown hK hP 0 rfl rfl 5 (by decide) (hts _ gw_222) (fun _ h9 => h9) rfl d_FaultFinder_addFault_42 ?_
  refine lv_iconst (v := 1) hx hb d_FaultFinder_addFault_45 (by decide) ?_
  refine lv_iadd hx hb d_FaultFinder_addFault_46 ?_
  refine va_put (D := D) (ci := 2) (v := .int (fi_faults + (1 : Int32))) (ty := .int) (C := R_FaultFinder) (T := T_FaultFinder) (N := 8) hx hb hts inG_FaultFinder ty_FaultFinder tok_FaultFinder nmo_FaultFinder hown hK hP hD hS 0 rfl rfl 5 (by decide) (hts _ gw_222) (fun _ h9 => h9) rfl (tok_FaultFinder 5 (by decide)) rfl rfl (Nat.le_of_ble_eq_true rfl) d_FaultFinder_addFault_47 (fun H locs hP hD hS => ?_)
  replace hP : va_P D vwCl (wd_FaultFinder_addFault kc ad (fi_faults + (1 : Int32)) fi_highest fi_firstHighest fi_faultRules fi_faultNotes fi_faultLines) H := hP
  replace hD : va_D A (wd_FaultFinder_addFault kc ad (fi_faults + (1 : Int32)) fi_highest fi_firstHighest fi_faultRules fi_faultNotes fi_faultLines) := hD
  replace hm := Option.some.inj hm; subst hm
  exact zret_v C hP hD hS d_FaultFinder_addFault_50
def m_FaultFinder_addFault  (fi_faults : Int32) (fi_faultRules : Nat → Int32) (fi_faultNotes : Nat → Int32) (fi_faultLines : Nat → Int32) (a1 : Int32) (a2 : Int32) (a3 : Int32) : Option (Int32 × (Nat → Int32) × (Nat → Int32) × (Nat → Int32)) :=
  (if (200 : Int32) ≤ fi_faults then
    m_FaultFinder_addFault_40   fi_faults fi_faultRules fi_faultNotes fi_faultLines
  else
    (gd fi_faults 200 (gd fi_faults 200 (gd fi_faults 200 (m_FaultFinder_addFault_40   fi_faults (upd fi_faultRules (Int32.toNatClampNeg fi_faults) a1) (upd fi_faultNotes (Int32.toNatClampNeg fi_faults) a2) (upd fi_faultLines (Int32.toNatClampNeg fi_faults) a3))))))
set_option maxHeartbeats 4000000 in
set_option maxRecDepth 100000 in
theorem e_FaultFinder_addFault {r : Int32 × (Nat → Int32) × (Nat → Int32) × (Nat → Int32)} {ad : Nat → Nat} {fi_faults : Int32} {fi_highest : Int32} {fi_firstHighest : Int32} {fi_faultRules : Nat → Int32} {fi_faultNotes : Nat → Int32} {fi_faultLines : Nat → Int32} {a1 : Int32} {a2 : Int32} {a3 : Int32} {H : Heap} {locs : List Loc} {ls : Array Slot} (C : Cx p s m meth c args A D kc R_FaultFinder b_FaultFinder_addFault 4 none) (hm : m_FaultFinder_addFault  fi_faults fi_faultRules fi_faultNotes fi_faultLines a1 a2 a3 = some r) (hZ : St D A s (wd_FaultFinder_addFault kc ad fi_faults fi_highest fi_firstHighest fi_faultRules fi_faultNotes fi_faultLines) H locs) (hl : lv_has ls 4 [(0, .ref (ad 9)), (1, .int a1), (2, .int a2), (3, .int a3)]) : W p l e rm_FaultFinder_addFault s m args below meth c H locs 0 0 (MQ below (Qv D A (wd_FaultFinder_addFault kc ad r.1 fi_highest fi_firstHighest r.2.1 r.2.2.1 r.2.2.2)) args s 0 0 A) (F0 m 0 ls []) := by
  obtain ⟨hx, hb, hr, hts, hown, hml, hlocks, hK, hN, hA, hX⟩ := id C
  obtain ⟨hP, hD, hS⟩ := hZ
  unfold m_FaultFinder_addFault at hm
  refine lv_aload_n hx hb d_FaultFinder_addFault_0 rfl (lv_at hl 0 rfl) ?_
  refine va_get (D := D) (ci := 2) (v := .int fi_faults) (C := R_FaultFinder) (T := T_FaultFinder) (N := 8) hx hb hts inG_FaultFinder hown hK hP 0 rfl rfl 5 (by decide) (hts _ gw_222) (fun _ h9 => h9) rfl d_FaultFinder_addFault_1 ?_
  refine lv_sipush (v := 200) hx hb d_FaultFinder_addFault_4 (by decide) ?_
  refine lv_icmp_ge (tgt := 40) hx hb d_FaultFinder_addFault_7 (by decide) (fun c1 => ?_) (fun c1 => ?_)
  · replace hm := ifT hm c1
    exact l_FaultFinder_addFault_40 C  hm ⟨hP, hD, hS⟩ (lv_sub hl [0] rfl)
  · replace hm := ifF hm c1
    refine lv_aload_n hx hb d_FaultFinder_addFault_10 rfl (lv_at hl 0 rfl) ?_
    refine va_get (D := D) (ci := 2) (v := .ref (ad 10)) (C := R_FaultFinder) (T := T_FaultFinder) (N := 8) hx hb hts inG_FaultFinder hown hK hP 0 rfl rfl 2 (by decide) (hts _ gw_219) (fun _ h9 => h9) rfl d_FaultFinder_addFault_11 ?_
    refine lv_aload_n hx hb d_FaultFinder_addFault_14 rfl (lv_at hl 0 rfl) ?_
    refine va_get (D := D) (ci := 2) (v := .int fi_faults) (C := R_FaultFinder) (T := T_FaultFinder) (N := 8) hx hb hts inG_FaultFinder hown hK hP 0 rfl rfl 5 (by decide) (hts _ gw_222) (fun _ h9 => h9) rfl d_FaultFinder_addFault_15 ?_
    refine lv_iload_n hx hb d_FaultFinder_addFault_18 rfl (lv_at hl 1 rfl) ?_
    obtain ⟨hi2, hm⟩ := gd_some hm
    refine va_iast hx hb hK hP hD hS 1 0 rfl rfl hi2 d_FaultFinder_addFault_19 (fun H locs hP hD hS => ?_)
    replace hP : va_P D vwCl (wd_FaultFinder_addFault kc ad fi_faults fi_highest fi_firstHighest (upd fi_faultRules (Int32.toNatClampNeg fi_faults) a1) fi_faultNotes fi_faultLines) H := hP
    replace hD : va_D A (wd_FaultFinder_addFault kc ad fi_faults fi_highest fi_firstHighest (upd fi_faultRules (Int32.toNatClampNeg fi_faults) a1) fi_faultNotes fi_faultLines) := hD
    refine lv_aload_n hx hb d_FaultFinder_addFault_20 rfl (lv_at hl 0 rfl) ?_
    refine va_get (D := D) (ci := 2) (v := .ref (ad 11)) (C := R_FaultFinder) (T := T_FaultFinder) (N := 8) hx hb hts inG_FaultFinder hown hK hP 0 rfl rfl 3 (by decide) (hts _ gw_220) (fun _ h9 => h9) rfl d_FaultFinder_addFault_21 ?_
    refine lv_aload_n hx hb d_FaultFinder_addFault_24 rfl (lv_at hl 0 rfl) ?_
    refine va_get (D := D) (ci := 2) (v := .int fi_faults) (C := R_FaultFinder) (T := T_FaultFinder) (N := 8) hx hb hts inG_FaultFinder hown hK hP 0 rfl rfl 5 (by decide) (hts _ gw_222) (fun _ h9 => h9) rfl d_FaultFinder_addFault_25 ?_
    refine lv_iload_n hx hb d_FaultFinder_addFault_28 rfl (lv_at hl 2 rfl) ?_
    obtain ⟨hi3, hm⟩ := gd_some hm
    refine va_iast hx hb hK hP hD hS 2 0 rfl rfl hi3 d_FaultFinder_addFault_29 (fun H locs hP hD hS => ?_)
    replace hP : va_P D vwCl (wd_FaultFinder_addFault kc ad fi_faults fi_highest fi_firstHighest (upd fi_faultRules (Int32.toNatClampNeg fi_faults) a1) (upd fi_faultNotes (Int32.toNatClampNeg fi_faults) a2) fi_faultLines) H := hP
    replace hD : va_D A (wd_FaultFinder_addFault kc ad fi_faults fi_highest fi_firstHighest (upd fi_faultRules (Int32.toNatClampNeg fi_faults) a1) (upd fi_faultNotes (Int32.toNatClampNeg fi_faults) a2) fi_faultLines) := hD
    refine lv_aload_n hx hb d_FaultFinder_addFault_30 rfl (lv_at hl 0 rfl) ?_
    refine va_get (D := D) (ci := 2) (v := .ref (ad 12)) (C := R_FaultFinder) (T := T_FaultFinder) (N := 8) hx hb hts inG_FaultFinder hown hK hP 0 rfl rfl 4 (by decide) (hts _ gw_221) (fun _ h9 => h9) rfl d_FaultFinder_addFault_31 ?_
    refine lv_aload_n hx hb d_FaultFinder_addFault_34 rfl (lv_at hl 0 rfl) ?_
    refine va_get (D := D) (ci := 2) (v := .int fi_faults) (C := R_FaultFinder) (T := T_FaultFinder) (N := 8) hx hb hts inG_FaultFinder hown hK hP 0 rfl rfl 5 (by decide) (hts _ gw_222) (fun _ h9 => h9) rfl d_FaultFinder_addFault_35 ?_
    refine lv_iload_n hx hb d_FaultFinder_addFault_38 rfl (lv_at hl 3 rfl) ?_
    obtain ⟨hi4, hm⟩ := gd_some hm
    refine va_iast hx hb hK hP hD hS 3 0 rfl rfl hi4 d_FaultFinder_addFault_39 (fun H locs hP hD hS => ?_)
    replace hP : va_P D vwCl (wd_FaultFinder_addFault kc ad fi_faults fi_highest fi_firstHighest (upd fi_faultRules (Int32.toNatClampNeg fi_faults) a1) (upd fi_faultNotes (Int32.toNatClampNeg fi_faults) a2) (upd fi_faultLines (Int32.toNatClampNeg fi_faults) a3)) H := hP
    replace hD : va_D A (wd_FaultFinder_addFault kc ad fi_faults fi_highest fi_firstHighest (upd fi_faultRules (Int32.toNatClampNeg fi_faults) a1) (upd fi_faultNotes (Int32.toNatClampNeg fi_faults) a2) (upd fi_faultLines (Int32.toNatClampNeg fi_faults) a3)) := hD
    exact l_FaultFinder_addFault_40 C  hm ⟨hP, hD, hS⟩ (lv_sub hl [0] rfl)
set_option maxHeartbeats 4000000 in
set_option maxRecDepth 100000 in
theorem c_FaultFinder_addFault {l : Launch} {D : va_G} {kc : Nat → ClassId} {r : Int32 × (Nat → Int32) × (Nat → Int32) × (Nat → Int32)} {ad : Nat → Nat} {fi_faults : Int32} {fi_highest : Int32} {fi_firstHighest : Int32} {fi_faultRules : Nat → Int32} {fi_faultNotes : Nat → Int32} {fi_faultLines : Nat → Int32} {a1 : Int32} {a2 : Int32} {a3 : Int32} (hm : m_FaultFinder_addFault  fi_faults fi_faultRules fi_faultNotes fi_faultLines a1 a2 a3 = some r) (sz : Nat) : Cv l y_FaultFinder_addFault ws_FaultFinder_addFault rm_FaultFinder_addFault D kc sz [.ref (ad 9), .int a1, .int a2, .int a3] (wd_FaultFinder_addFault kc ad fi_faults fi_highest fi_firstHighest fi_faultRules fi_faultNotes fi_faultLines) (wd_FaultFinder_addFault kc ad r.1 fi_highest fi_firstHighest r.2.1 r.2.2.1 r.2.2.2) :=
  Cz_of (Qf := fun A => (Qv D A (wd_FaultFinder_addFault kc ad r.1 fi_highest fi_firstHighest r.2.1 r.2.2.1 r.2.2.2))) (cc := b_FaultFinder_addFault) (maxL := 4) (ret := none) (by decide) rfl rfl (fun C hZ hl => e_FaultFinder_addFault C hm hZ hl)
abbrev b_FaultFinder_isRepeated : ByteArray := prog_2_method_9_code
abbrev y_FaultFinder_isRepeated : MethodName := ⟨"SpeciesSolver$FaultFinder", "isRepeated", "(LSpeciesSolver$Line;I)Z"⟩
theorem d_FaultFinder_isRepeated_0 : decode b_FaultFinder_isRepeated 0 = .ok (.aload_n 0, 1) := by decide +kernel
theorem d_FaultFinder_isRepeated_1 : decode b_FaultFinder_isRepeated 1 = .ok (.getfield 31, 3) := by decide +kernel
theorem d_FaultFinder_isRepeated_4 : decode b_FaultFinder_isRepeated 4 = .ok (.getfield 122, 3) := by decide +kernel
theorem d_FaultFinder_isRepeated_7 : decode b_FaultFinder_isRepeated 7 = .ok (.bipush 11, 2) := by decide +kernel
theorem d_FaultFinder_isRepeated_9 : decode b_FaultFinder_isRepeated 9 = .ok (.iaload, 1) := by decide +kernel
theorem d_FaultFinder_isRepeated_10 : decode b_FaultFinder_isRepeated 10 = .ok (.istore_n 3, 1) := by decide +kernel
theorem d_FaultFinder_isRepeated_11 : decode b_FaultFinder_isRepeated 11 = .ok (.iload_n 2, 1) := by decide +kernel
theorem d_FaultFinder_isRepeated_12 : decode b_FaultFinder_isRepeated 12 = .ok (.iload_n 3, 1) := by decide +kernel
theorem d_FaultFinder_isRepeated_13 : decode b_FaultFinder_isRepeated 13 = .ok (.if_icmp .ge 5, 3) := by decide +kernel
theorem d_FaultFinder_isRepeated_16 : decode b_FaultFinder_isRepeated 16 = .ok (.iconst 0, 1) := by decide +kernel
theorem d_FaultFinder_isRepeated_17 : decode b_FaultFinder_isRepeated 17 = .ok (.ireturn, 1) := by decide +kernel
theorem d_FaultFinder_isRepeated_18 : decode b_FaultFinder_isRepeated 18 = .ok (.iload_n 2, 1) := by decide +kernel
theorem d_FaultFinder_isRepeated_19 : decode b_FaultFinder_isRepeated 19 = .ok (.iload_n 3, 1) := by decide +kernel
theorem d_FaultFinder_isRepeated_20 : decode b_FaultFinder_isRepeated 20 = .ok (.isub, 1) := by decide +kernel
theorem d_FaultFinder_isRepeated_21 : decode b_FaultFinder_isRepeated 21 = .ok (.istore 4, 2) := by decide +kernel
theorem d_FaultFinder_isRepeated_23 : decode b_FaultFinder_isRepeated 23 = .ok (.iload 4, 2) := by decide +kernel
theorem d_FaultFinder_isRepeated_25 : decode b_FaultFinder_isRepeated 25 = .ok (.iload_n 2, 1) := by decide +kernel
theorem d_FaultFinder_isRepeated_26 : decode b_FaultFinder_isRepeated 26 = .ok (.if_icmp .ge 27, 3) := by decide +kernel
theorem d_FaultFinder_isRepeated_29 : decode b_FaultFinder_isRepeated 29 = .ok (.aload_n 1, 1) := by decide +kernel
theorem d_FaultFinder_isRepeated_30 : decode b_FaultFinder_isRepeated 30 = .ok (.getfield 58, 3) := by decide +kernel
theorem d_FaultFinder_isRepeated_33 : decode b_FaultFinder_isRepeated 33 = .ok (.iload 4, 2) := by decide +kernel
theorem d_FaultFinder_isRepeated_35 : decode b_FaultFinder_isRepeated 35 = .ok (.iaload, 1) := by decide +kernel
theorem d_FaultFinder_isRepeated_36 : decode b_FaultFinder_isRepeated 36 = .ok (.aload_n 1, 1) := by decide +kernel
theorem d_FaultFinder_isRepeated_37 : decode b_FaultFinder_isRepeated 37 = .ok (.getfield 58, 3) := by decide +kernel
theorem d_FaultFinder_isRepeated_40 : decode b_FaultFinder_isRepeated 40 = .ok (.iload_n 2, 1) := by decide +kernel
theorem d_FaultFinder_isRepeated_41 : decode b_FaultFinder_isRepeated 41 = .ok (.iaload, 1) := by decide +kernel
theorem d_FaultFinder_isRepeated_42 : decode b_FaultFinder_isRepeated 42 = .ok (.if_icmp .eq 5, 3) := by decide +kernel
theorem d_FaultFinder_isRepeated_45 : decode b_FaultFinder_isRepeated 45 = .ok (.iconst 0, 1) := by decide +kernel
theorem d_FaultFinder_isRepeated_46 : decode b_FaultFinder_isRepeated 46 = .ok (.ireturn, 1) := by decide +kernel
theorem d_FaultFinder_isRepeated_47 : decode b_FaultFinder_isRepeated 47 = .ok (.iinc 4 1, 3) := by decide +kernel
theorem d_FaultFinder_isRepeated_50 : decode b_FaultFinder_isRepeated 50 = .ok (.goto (-27), 3) := by decide +kernel
theorem d_FaultFinder_isRepeated_53 : decode b_FaultFinder_isRepeated 53 = .ok (.iconst 1, 1) := by decide +kernel
theorem d_FaultFinder_isRepeated_54 : decode b_FaultFinder_isRepeated 54 = .ok (.ireturn, 1) := by decide +kernel
abbrev wd_FaultFinder_isRepeated (kc : Nat → ClassId) (ad : Nat → Nat) (xa : Nat) (xb : Nat) (X_size : Int32) (X_notes : Nat → Int32) (su_lines : Int32) (su_length : Int32) (su_perNote : Int32) (su_above : Int32) (su_numbers : Nat → Int32) (fi_faults : Int32) (fi_highest : Int32) (fi_firstHighest : Int32) : va_W := [(xa, .inr (3, [.ref xb, .int X_size])), (xb, .inl (kc 0, 45, .inl X_notes)), ((ad 1), .inr (7, [.ref (ad 2), .ref (ad 3), .ref (ad 4), .int su_lines, .int su_length, .int su_perNote, .int su_above])), ((ad 2), .inl (kc 0, 18, .inl su_numbers)), ((ad 9), .inr (2, [.ref (ad 1), .ref (ad 8), .ref (ad 10), .ref (ad 11), .ref (ad 12), .int fi_faults, .int fi_highest, .int fi_firstHighest]))]
abbrev rm_FaultFinder_isRepeated : Room := { frames := 0, cells := 0, slots := 0, locals := 0 }
abbrev cw_FaultFinder_isRepeated : Cond := .code y_FaultFinder_isRepeated b_FaultFinder_isRepeated 5 (some .boolean)
abbrev ws_FaultFinder_isRepeated : List Cond := cw_FaultFinder_isRepeated :: GW
theorem hd_FaultFinder_isRepeated : y_FaultFinder_isRepeated.cls ≠ "java/lang/invoke/MethodHandle" ∧ y_FaultFinder_isRepeated.cls ≠ "java/lang/invoke/VarHandle" ∧ (parseMethodDescriptor y_FaultFinder_isRepeated.desc).map (fun d => d.parameters.length) = some 2 := by decide +kernel
def m_FaultFinder_isRepeated_23b (F : Nat) (X_notes : Nat → Int32) (su_numbers : Nat → Int32) (k23 : Int32 → Int32 → Option (Int32))  (x2 : Int32) (x4 : Int32) : Option (Int32) :=
  (if x2 ≤ x4 then
    (some (1 : Int32))
  else
    (gd x4 45 (gd x2 45 (if (X_notes (Int32.toNatClampNeg x4)) = (X_notes (Int32.toNatClampNeg x2)) then
      k23 x2 (x4 + 1)
    else
      (some (0 : Int32))))))
set_option maxHeartbeats 4000000 in
set_option maxRecDepth 100000 in
theorem l_FaultFinder_isRepeated_23 {r : Int32} {F : Nat} {ad : Nat → Nat} {xa : Nat} {xb : Nat} {X_size : Int32} {X_notes : Nat → Int32} {su_lines : Int32} {su_length : Int32} {su_perNote : Int32} {su_above : Int32} {su_numbers : Nat → Int32} {fi_faults : Int32} {fi_highest : Int32} {fi_firstHighest : Int32} {k23 : Int32 → Int32 → Option (Int32)} {x2 : Int32} {x4 : Int32} {H : Heap} {locs : List Loc} {ls : Array Slot} (C : Cx p s m meth c args A D kc R_FaultFinder b_FaultFinder_isRepeated 5 (some .boolean)) (hk23 : (∀  (x2 : Int32) (x4 : Int32) (H : Heap) (locs : List Loc) (ls : Array Slot), k23 x2 x4 = some r → St D A s (wd_FaultFinder_isRepeated kc ad xa xb X_size X_notes su_lines su_length su_perNote su_above su_numbers fi_faults fi_highest fi_firstHighest) H locs → lv_has ls 5 [(1, .ref xa), (2, .int x2), (4, .int x4)] → W p l e rm_FaultFinder_isRepeated s m args below meth c H locs 0 0 (MQ below (Qi D A (wd_FaultFinder_isRepeated kc ad xa xb X_size X_notes su_lines su_length su_perNote su_above su_numbers fi_faults fi_highest fi_firstHighest) r) args s 0 0 A) (F0 m 23 ls []))) (hm : m_FaultFinder_isRepeated_23b F X_notes su_numbers k23 x2 x4 = some r) (hZ : St D A s (wd_FaultFinder_isRepeated kc ad xa xb X_size X_notes su_lines su_length su_perNote su_above su_numbers fi_faults fi_highest fi_firstHighest) H locs) (hl : lv_has ls 5 [(1, .ref xa), (2, .int x2), (4, .int x4)]) : W p l e rm_FaultFinder_isRepeated s m args below meth c H locs 0 0 (MQ below (Qi D A (wd_FaultFinder_isRepeated kc ad xa xb X_size X_notes su_lines su_length su_perNote su_above su_numbers fi_faults fi_highest fi_firstHighest) r) args s 0 0 A) (F0 m 23 ls []) := by
  obtain ⟨hx, hb, hr, hts, hown, hml, hlocks, hK, hN, hA, hX⟩ := id C
  obtain ⟨hP, hD, hS⟩ := hZ
  unfold m_FaultFinder_isRepeated_23b at hm
  refine lv_iload hx hb d_FaultFinder_isRepeated_23 (lv_at hl 2 rfl) ?_
  refine lv_iload_n hx hb d_FaultFinder_isRepeated_25 rfl (lv_at hl 1 rfl) ?_
  refine lv_icmp_ge (tgt := 53) hx hb d_FaultFinder_isRepeated_26 (by decide) (fun c1 => ?_) (fun c1 => ?_)
  · replace hm := ifT hm c1
    refine lv_iconst (v := 1) hx hb d_FaultFinder_isRepeated_53 (by decide) ?_
    replace hm := Option.some.inj hm; subst hm
    exact zret_z (v := 1) C hP hD hS (by rfl) d_FaultFinder_isRepeated_54
  · replace hm := ifF hm c1
    refine lv_aload_n hx hb d_FaultFinder_isRepeated_29 rfl (lv_at hl 0 rfl) ?_
    refine va_getN (D := D) (ci := 3) (v := .ref xb) (C := R_Line) (T := T_Line) (N := 2) hx hb hts inG_Line hown hK hP 0 rfl rfl 0 (by decide) (va_Nw.use rfl (hN _ nw_134)) (fun _ h9 => h9) rfl d_FaultFinder_isRepeated_30 ?_
    refine lv_iload hx hb d_FaultFinder_isRepeated_33 (lv_at hl 2 rfl) ?_
    obtain ⟨hi2, hm⟩ := gd_some hm
    refine va_iald hx hb hK hP 1 0 rfl rfl hi2 d_FaultFinder_isRepeated_35 ?_
    refine lv_aload_n hx hb d_FaultFinder_isRepeated_36 rfl (lv_at hl 0 rfl) ?_
    refine va_getN (D := D) (ci := 3) (v := .ref xb) (C := R_Line) (T := T_Line) (N := 2) hx hb hts inG_Line hown hK hP 0 rfl rfl 0 (by decide) (va_Nw.use rfl (hN _ nw_134)) (fun _ h9 => h9) rfl d_FaultFinder_isRepeated_37 ?_
    refine lv_iload_n hx hb d_FaultFinder_isRepeated_40 rfl (lv_at hl 1 rfl) ?_
    obtain ⟨hi3, hm⟩ := gd_some hm
    refine va_iald hx hb hK hP 1 0 rfl rfl hi3 d_FaultFinder_isRepeated_41 ?_
    refine lv_icmp_eq (tgt := 47) hx hb d_FaultFinder_isRepeated_42 (by decide) (fun c4 => ?_) (fun c4 => ?_)
    · replace hm := ifT hm c4
      refine lv_iinc (v := (x4 + 1)) (lv' := [(4, .int (x4 + 1)), (1, .ref xa), (2, .int x2)]) hx hb d_FaultFinder_isRepeated_47 hl (k := 2) rfl rfl (by decide) rfl (fun ls hl => ?_)
      refine lv_goto (tgt := 23) hx hb d_FaultFinder_isRepeated_50 (by decide) ?_
      exact hk23 x2 (x4 + 1) _ _ _ hm ⟨hP, hD, hS⟩ (lv_sub hl [1, 2, 0] rfl)
    · replace hm := ifF hm c4
      refine lv_iconst (v := 0) hx hb d_FaultFinder_isRepeated_45 (by decide) ?_
      replace hm := Option.some.inj hm; subst hm
      exact zret_z (v := 0) C hP hD hS (by rfl) d_FaultFinder_isRepeated_46
def m_FaultFinder_isRepeated_23 (F : Nat) (X_notes : Nat → Int32) (su_numbers : Nat → Int32)  : Nat → Int32 → Int32 → Option (Int32)
  | 0 => fun _ _ => none
  | n + 1 => m_FaultFinder_isRepeated_23b F X_notes su_numbers  (m_FaultFinder_isRepeated_23 F X_notes su_numbers  n)
set_option maxHeartbeats 4000000 in
set_option maxRecDepth 100000 in
theorem lp_FaultFinder_isRepeated_23 {r : Int32} {F : Nat} {ad : Nat → Nat} {xa : Nat} {xb : Nat} {X_size : Int32} {X_notes : Nat → Int32} {su_lines : Int32} {su_length : Int32} {su_perNote : Int32} {su_above : Int32} {su_numbers : Nat → Int32} {fi_faults : Int32} {fi_highest : Int32} {fi_firstHighest : Int32}  (C : Cx p s m meth c args A D kc R_FaultFinder b_FaultFinder_isRepeated 5 (some .boolean))  : ∀ (n : Nat)  (x2 : Int32) (x4 : Int32) (H : Heap) (locs : List Loc) (ls : Array Slot), m_FaultFinder_isRepeated_23 F X_notes su_numbers  n x2 x4 = some r → St D A s (wd_FaultFinder_isRepeated kc ad xa xb X_size X_notes su_lines su_length su_perNote su_above su_numbers fi_faults fi_highest fi_firstHighest) H locs → lv_has ls 5 [(1, .ref xa), (2, .int x2), (4, .int x4)] → W p l e rm_FaultFinder_isRepeated s m args below meth c H locs 0 0 (MQ below (Qi D A (wd_FaultFinder_isRepeated kc ad xa xb X_size X_notes su_lines su_length su_perNote su_above su_numbers fi_faults fi_highest fi_firstHighest) r) args s 0 0 A) (F0 m 23 ls []) := by
  intro n
  induction n with
  | zero => intro x2 x4 H locs ls hm; cases hm
  | succ n ih => intro x2 x4 H locs ls hm hZ hl; exact l_FaultFinder_isRepeated_23 C  ih hm hZ hl
def m_FaultFinder_isRepeated (F : Nat) (X_notes : Nat → Int32) (su_numbers : Nat → Int32)  (a2 : Int32) : Option (Int32) :=
  (if (su_numbers (Int32.toNatClampNeg (11 : Int32))) ≤ a2 then
    m_FaultFinder_isRepeated_23 F X_notes su_numbers  F a2 (a2 - (su_numbers (Int32.toNatClampNeg (11 : Int32))))
  else
    (some (0 : Int32)))
set_option maxHeartbeats 4000000 in
set_option maxRecDepth 100000 in
theorem e_FaultFinder_isRepeated {r : Int32} {F : Nat} {ad : Nat → Nat} {xa : Nat} {xb : Nat} {X_size : Int32} {X_notes : Nat → Int32} {su_lines : Int32} {su_length : Int32} {su_perNote : Int32} {su_above : Int32} {su_numbers : Nat → Int32} {fi_faults : Int32} {fi_highest : Int32} {fi_firstHighest : Int32} {a2 : Int32} {H : Heap} {locs : List Loc} {ls : Array Slot} (C : Cx p s m meth c args A D kc R_FaultFinder b_FaultFinder_isRepeated 5 (some .boolean)) (hm : m_FaultFinder_isRepeated F X_notes su_numbers a2 = some r) (hZ : St D A s (wd_FaultFinder_isRepeated kc ad xa xb X_size X_notes su_lines su_length su_perNote su_above su_numbers fi_faults fi_highest fi_firstHighest) H locs) (hl : lv_has ls 5 [(0, .ref (ad 9)), (1, .ref xa), (2, .int a2)]) : W p l e rm_FaultFinder_isRepeated s m args below meth c H locs 0 0 (MQ below (Qi D A (wd_FaultFinder_isRepeated kc ad xa xb X_size X_notes su_lines su_length su_perNote su_above su_numbers fi_faults fi_highest fi_firstHighest) r) args s 0 0 A) (F0 m 0 ls []) := by
  obtain ⟨hx, hb, hr, hts, hown, hml, hlocks, hK, hN, hA, hX⟩ := id C
  obtain ⟨hP, hD, hS⟩ := hZ
  unfold m_FaultFinder_isRepeated at hm
  refine lv_aload_n hx hb d_FaultFinder_isRepeated_0 rfl (lv_at hl 0 rfl) ?_
  refine va_get (D := D) (ci := 2) (v := .ref (ad 1)) (C := R_FaultFinder) (T := T_FaultFinder) (N := 8) hx hb hts inG_FaultFinder hown hK hP 4 rfl rfl 0 (by decide) (hts _ gw_217) (fun _ h9 => h9) rfl d_FaultFinder_isRepeated_1 ?_
  refine va_getN (D := D) (ci := 7) (v := .ref (ad 2)) (C := R_Setup) (T := T_Setup) (N := 7) hx hb hts inG_Setup hown hK hP 2 rfl rfl 0 (by decide) (va_Nw.use rfl (hN _ nw_161)) (fun _ h9 => h9) rfl d_FaultFinder_isRepeated_4 ?_
  refine lv_bipush (v := 11) hx hb d_FaultFinder_isRepeated_7 (by decide) ?_
  refine va_iald hx hb hK hP 3 0 rfl rfl (in_lit (by decide)) d_FaultFinder_isRepeated_9 ?_
  refine lv_istore_n (lv' := [(3, .int (su_numbers (Int32.toNatClampNeg (11 : Int32)))), (0, .ref (ad 9)), (1, .ref xa), (2, .int a2)]) hx hb d_FaultFinder_isRepeated_10 rfl hl (by decide) rfl (fun ls hl => ?_)
  refine lv_iload_n hx hb d_FaultFinder_isRepeated_11 rfl (lv_at hl 3 rfl) ?_
  refine lv_iload_n hx hb d_FaultFinder_isRepeated_12 rfl (lv_at hl 0 rfl) ?_
  refine lv_icmp_ge (tgt := 18) hx hb d_FaultFinder_isRepeated_13 (by decide) (fun c1 => ?_) (fun c1 => ?_)
  · replace hm := ifT hm c1
    refine lv_iload_n hx hb d_FaultFinder_isRepeated_18 rfl (lv_at hl 3 rfl) ?_
    refine lv_iload_n hx hb d_FaultFinder_isRepeated_19 rfl (lv_at hl 0 rfl) ?_
    refine lv_isub hx hb d_FaultFinder_isRepeated_20 ?_
    refine lv_istore (lv' := [(4, .int (a2 - (su_numbers (Int32.toNatClampNeg (11 : Int32))))), (3, .int (su_numbers (Int32.toNatClampNeg (11 : Int32)))), (0, .ref (ad 9)), (1, .ref xa), (2, .int a2)]) hx hb d_FaultFinder_isRepeated_21 hl (by decide) rfl (fun ls hl => ?_)
    exact lp_FaultFinder_isRepeated_23 C  F a2 (a2 - (su_numbers (Int32.toNatClampNeg (11 : Int32)))) _ _ _ hm ⟨hP, hD, hS⟩ (lv_sub hl [3, 4, 0] rfl)
  · replace hm := ifF hm c1
    refine lv_iconst (v := 0) hx hb d_FaultFinder_isRepeated_16 (by decide) ?_
    replace hm := Option.some.inj hm; subst hm
    exact zret_z (v := 0) C hP hD hS (by rfl) d_FaultFinder_isRepeated_17
set_option maxHeartbeats 4000000 in
set_option maxRecDepth 100000 in
theorem c_FaultFinder_isRepeated {l : Launch} {D : va_G} {kc : Nat → ClassId} {r : Int32} {F : Nat} {ad : Nat → Nat} {xa : Nat} {xb : Nat} {X_size : Int32} {X_notes : Nat → Int32} {su_lines : Int32} {su_length : Int32} {su_perNote : Int32} {su_above : Int32} {su_numbers : Nat → Int32} {fi_faults : Int32} {fi_highest : Int32} {fi_firstHighest : Int32} {a2 : Int32} (hm : m_FaultFinder_isRepeated F X_notes su_numbers a2 = some r) (sz : Nat) : Ci l y_FaultFinder_isRepeated ws_FaultFinder_isRepeated rm_FaultFinder_isRepeated D kc sz [.ref (ad 9), .ref xa, .int a2] (wd_FaultFinder_isRepeated kc ad xa xb X_size X_notes su_lines su_length su_perNote su_above su_numbers fi_faults fi_highest fi_firstHighest) (wd_FaultFinder_isRepeated kc ad xa xb X_size X_notes su_lines su_length su_perNote su_above su_numbers fi_faults fi_highest fi_firstHighest) r :=
  Cz_of (Qf := fun A => (Qi D A (wd_FaultFinder_isRepeated kc ad xa xb X_size X_notes su_lines su_length su_perNote su_above su_numbers fi_faults fi_highest fi_firstHighest) r)) (cc := b_FaultFinder_isRepeated) (maxL := 5) (ret := (some .boolean)) (by decide) rfl rfl (fun C hZ hl => e_FaultFinder_isRepeated C hm hZ hl)
end
