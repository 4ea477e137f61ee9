section
variable {p : Program} {l : Launch} {e : Env} {s : State} {m : MethodId} {args : Array Value} {below : List Frame} {meth : Method} {c : Code} {D : va_G} {kc : Nat → ClassId} {A : Nat → Prop}
abbrev b_FaultFinder_breaksAlone : ByteArray := prog_2_method_8_code
abbrev y_FaultFinder_breaksAlone : MethodName := ⟨"SpeciesSolver$FaultFinder", "breaksAlone", "(ILSpeciesSolver$Line;I)Z"⟩
theorem d_FaultFinder_breaksAlone_0 : decode b_FaultFinder_breaksAlone 0 = .ok (.aload_n 2, 1) := by decide +kernel
theorem d_FaultFinder_breaksAlone_1 : decode b_FaultFinder_breaksAlone 1 = .ok (.getfield 58, 3) := by decide +kernel
theorem d_FaultFinder_breaksAlone_4 : decode b_FaultFinder_breaksAlone 4 = .ok (.iload_n 3, 1) := by decide +kernel
theorem d_FaultFinder_breaksAlone_5 : decode b_FaultFinder_breaksAlone 5 = .ok (.iaload, 1) := by decide +kernel
theorem d_FaultFinder_breaksAlone_6 : decode b_FaultFinder_breaksAlone 6 = .ok (.istore 4, 2) := by decide +kernel
theorem d_FaultFinder_breaksAlone_8 : decode b_FaultFinder_breaksAlone 8 = .ok (.iload_n 1, 1) := by decide +kernel
theorem d_FaultFinder_breaksAlone_9 : decode b_FaultFinder_breaksAlone 9 = .ok (.tableswitch 253 0 10 #[59, 253, 253, 253, 253, 89, 120, 159, 166, 188, 230], 59) := by decide +kernel
theorem d_FaultFinder_breaksAlone_68 : decode b_FaultFinder_breaksAlone 68 = .ok (.aload_n 0, 1) := by decide +kernel
theorem d_FaultFinder_breaksAlone_69 : decode b_FaultFinder_breaksAlone 69 = .ok (.getfield 35, 3) := by decide +kernel
theorem d_FaultFinder_breaksAlone_72 : decode b_FaultFinder_breaksAlone 72 = .ok (.iload_n 3, 1) := by decide +kernel
theorem d_FaultFinder_breaksAlone_73 : decode b_FaultFinder_breaksAlone 73 = .ok (.invokevirtual 79, 3) := by decide +kernel
theorem d_FaultFinder_breaksAlone_76 : decode b_FaultFinder_breaksAlone 76 = .ok (.ifCond .eq 20, 3) := by decide +kernel
theorem d_FaultFinder_breaksAlone_79 : decode b_FaultFinder_breaksAlone 79 = .ok (.aload_n 0, 1) := by decide +kernel
theorem d_FaultFinder_breaksAlone_80 : decode b_FaultFinder_breaksAlone 80 = .ok (.getfield 35, 3) := by decide +kernel
theorem d_FaultFinder_breaksAlone_83 : decode b_FaultFinder_breaksAlone 83 = .ok (.iload_n 3, 1) := by decide +kernel
theorem d_FaultFinder_breaksAlone_84 : decode b_FaultFinder_breaksAlone 84 = .ok (.iload 4, 2) := by decide +kernel
theorem d_FaultFinder_breaksAlone_86 : decode b_FaultFinder_breaksAlone 86 = .ok (.invokevirtual 102, 3) := by decide +kernel
theorem d_FaultFinder_breaksAlone_89 : decode b_FaultFinder_breaksAlone 89 = .ok (.ifCond .eq 7, 3) := by decide +kernel
theorem d_FaultFinder_breaksAlone_92 : decode b_FaultFinder_breaksAlone 92 = .ok (.iconst 1, 1) := by decide +kernel
theorem d_FaultFinder_breaksAlone_93 : decode b_FaultFinder_breaksAlone 93 = .ok (.goto 4, 3) := by decide +kernel
theorem d_FaultFinder_breaksAlone_96 : decode b_FaultFinder_breaksAlone 96 = .ok (.iconst 0, 1) := by decide +kernel
theorem d_FaultFinder_breaksAlone_97 : decode b_FaultFinder_breaksAlone 97 = .ok (.ireturn, 1) := by decide +kernel
theorem d_FaultFinder_breaksAlone_98 : decode b_FaultFinder_breaksAlone 98 = .ok (.iload_n 3, 1) := by decide +kernel
theorem d_FaultFinder_breaksAlone_99 : decode b_FaultFinder_breaksAlone 99 = .ok (.iconst 1, 1) := by decide +kernel
theorem d_FaultFinder_breaksAlone_100 : decode b_FaultFinder_breaksAlone 100 = .ok (.if_icmp .lt 27, 3) := by decide +kernel
theorem d_FaultFinder_breaksAlone_103 : decode b_FaultFinder_breaksAlone 103 = .ok (.aload_n 0, 1) := by decide +kernel
theorem d_FaultFinder_breaksAlone_104 : decode b_FaultFinder_breaksAlone 104 = .ok (.getfield 35, 3) := by decide +kernel
theorem d_FaultFinder_breaksAlone_107 : decode b_FaultFinder_breaksAlone 107 = .ok (.aload_n 2, 1) := by decide +kernel
theorem d_FaultFinder_breaksAlone_108 : decode b_FaultFinder_breaksAlone 108 = .ok (.getfield 58, 3) := by decide +kernel
theorem d_FaultFinder_breaksAlone_111 : decode b_FaultFinder_breaksAlone 111 = .ok (.iload_n 3, 1) := by decide +kernel
theorem d_FaultFinder_breaksAlone_112 : decode b_FaultFinder_breaksAlone 112 = .ok (.iconst 1, 1) := by decide +kernel
theorem d_FaultFinder_breaksAlone_113 : decode b_FaultFinder_breaksAlone 113 = .ok (.isub, 1) := by decide +kernel
theorem d_FaultFinder_breaksAlone_114 : decode b_FaultFinder_breaksAlone 114 = .ok (.iaload, 1) := by decide +kernel
theorem d_FaultFinder_breaksAlone_115 : decode b_FaultFinder_breaksAlone 115 = .ok (.iload 4, 2) := by decide +kernel
theorem d_FaultFinder_breaksAlone_117 : decode b_FaultFinder_breaksAlone 117 = .ok (.invokevirtual 106, 3) := by decide +kernel
theorem d_FaultFinder_breaksAlone_120 : decode b_FaultFinder_breaksAlone 120 = .ok (.ifCond .eq 7, 3) := by decide +kernel
theorem d_FaultFinder_breaksAlone_123 : decode b_FaultFinder_breaksAlone 123 = .ok (.iconst 1, 1) := by decide +kernel
theorem d_FaultFinder_breaksAlone_124 : decode b_FaultFinder_breaksAlone 124 = .ok (.goto 4, 3) := by decide +kernel
theorem d_FaultFinder_breaksAlone_127 : decode b_FaultFinder_breaksAlone 127 = .ok (.iconst 0, 1) := by decide +kernel
theorem d_FaultFinder_breaksAlone_128 : decode b_FaultFinder_breaksAlone 128 = .ok (.ireturn, 1) := by decide +kernel
theorem d_FaultFinder_breaksAlone_129 : decode b_FaultFinder_breaksAlone 129 = .ok (.iload_n 3, 1) := by decide +kernel
theorem d_FaultFinder_breaksAlone_130 : decode b_FaultFinder_breaksAlone 130 = .ok (.iconst 2, 1) := by decide +kernel
theorem d_FaultFinder_breaksAlone_131 : decode b_FaultFinder_breaksAlone 131 = .ok (.if_icmp .lt 35, 3) := by decide +kernel
theorem d_FaultFinder_breaksAlone_134 : decode b_FaultFinder_breaksAlone 134 = .ok (.aload_n 0, 1) := by decide +kernel
theorem d_FaultFinder_breaksAlone_135 : decode b_FaultFinder_breaksAlone 135 = .ok (.getfield 35, 3) := by decide +kernel
theorem d_FaultFinder_breaksAlone_138 : decode b_FaultFinder_breaksAlone 138 = .ok (.aload_n 2, 1) := by decide +kernel
theorem d_FaultFinder_breaksAlone_139 : decode b_FaultFinder_breaksAlone 139 = .ok (.getfield 58, 3) := by decide +kernel
theorem d_FaultFinder_breaksAlone_142 : decode b_FaultFinder_breaksAlone 142 = .ok (.iload_n 3, 1) := by decide +kernel
theorem d_FaultFinder_breaksAlone_143 : decode b_FaultFinder_breaksAlone 143 = .ok (.iconst 2, 1) := by decide +kernel
theorem d_FaultFinder_breaksAlone_144 : decode b_FaultFinder_breaksAlone 144 = .ok (.isub, 1) := by decide +kernel
theorem d_FaultFinder_breaksAlone_145 : decode b_FaultFinder_breaksAlone 145 = .ok (.iaload, 1) := by decide +kernel
theorem d_FaultFinder_breaksAlone_146 : decode b_FaultFinder_breaksAlone 146 = .ok (.aload_n 2, 1) := by decide +kernel
theorem d_FaultFinder_breaksAlone_147 : decode b_FaultFinder_breaksAlone 147 = .ok (.getfield 58, 3) := by decide +kernel
theorem d_FaultFinder_breaksAlone_150 : decode b_FaultFinder_breaksAlone 150 = .ok (.iload_n 3, 1) := by decide +kernel
theorem d_FaultFinder_breaksAlone_151 : decode b_FaultFinder_breaksAlone 151 = .ok (.iconst 1, 1) := by decide +kernel
theorem d_FaultFinder_breaksAlone_152 : decode b_FaultFinder_breaksAlone 152 = .ok (.isub, 1) := by decide +kernel
theorem d_FaultFinder_breaksAlone_153 : decode b_FaultFinder_breaksAlone 153 = .ok (.iaload, 1) := by decide +kernel
theorem d_FaultFinder_breaksAlone_154 : decode b_FaultFinder_breaksAlone 154 = .ok (.iload 4, 2) := by decide +kernel
theorem d_FaultFinder_breaksAlone_156 : decode b_FaultFinder_breaksAlone 156 = .ok (.invokevirtual 109, 3) := by decide +kernel
theorem d_FaultFinder_breaksAlone_159 : decode b_FaultFinder_breaksAlone 159 = .ok (.ifCond .eq 7, 3) := by decide +kernel
theorem d_FaultFinder_breaksAlone_162 : decode b_FaultFinder_breaksAlone 162 = .ok (.iconst 1, 1) := by decide +kernel
theorem d_FaultFinder_breaksAlone_163 : decode b_FaultFinder_breaksAlone 163 = .ok (.goto 4, 3) := by decide +kernel
theorem d_FaultFinder_breaksAlone_166 : decode b_FaultFinder_breaksAlone 166 = .ok (.iconst 0, 1) := by decide +kernel
theorem d_FaultFinder_breaksAlone_167 : decode b_FaultFinder_breaksAlone 167 = .ok (.ireturn, 1) := by decide +kernel
theorem d_FaultFinder_breaksAlone_168 : decode b_FaultFinder_breaksAlone 168 = .ok (.aload_n 0, 1) := by decide +kernel
theorem d_FaultFinder_breaksAlone_169 : decode b_FaultFinder_breaksAlone 169 = .ok (.aload_n 2, 1) := by decide +kernel
theorem d_FaultFinder_breaksAlone_170 : decode b_FaultFinder_breaksAlone 170 = .ok (.iload_n 3, 1) := by decide +kernel
theorem d_FaultFinder_breaksAlone_171 : decode b_FaultFinder_breaksAlone 171 = .ok (.invokevirtual 112, 3) := by decide +kernel
theorem d_FaultFinder_breaksAlone_174 : decode b_FaultFinder_breaksAlone 174 = .ok (.ireturn, 1) := by decide +kernel
theorem d_FaultFinder_breaksAlone_175 : decode b_FaultFinder_breaksAlone 175 = .ok (.iload_n 3, 1) := by decide +kernel
theorem d_FaultFinder_breaksAlone_176 : decode b_FaultFinder_breaksAlone 176 = .ok (.ifCond .ne 19, 3) := by decide +kernel
theorem d_FaultFinder_breaksAlone_179 : decode b_FaultFinder_breaksAlone 179 = .ok (.aload_n 0, 1) := by decide +kernel
theorem d_FaultFinder_breaksAlone_180 : decode b_FaultFinder_breaksAlone 180 = .ok (.getfield 35, 3) := by decide +kernel
theorem d_FaultFinder_breaksAlone_183 : decode b_FaultFinder_breaksAlone 183 = .ok (.iload 4, 2) := by decide +kernel
theorem d_FaultFinder_breaksAlone_185 : decode b_FaultFinder_breaksAlone 185 = .ok (.invokevirtual 116, 3) := by decide +kernel
theorem d_FaultFinder_breaksAlone_188 : decode b_FaultFinder_breaksAlone 188 = .ok (.ifCond .eq 7, 3) := by decide +kernel
theorem d_FaultFinder_breaksAlone_191 : decode b_FaultFinder_breaksAlone 191 = .ok (.iconst 1, 1) := by decide +kernel
theorem d_FaultFinder_breaksAlone_192 : decode b_FaultFinder_breaksAlone 192 = .ok (.goto 4, 3) := by decide +kernel
theorem d_FaultFinder_breaksAlone_195 : decode b_FaultFinder_breaksAlone 195 = .ok (.iconst 0, 1) := by decide +kernel
theorem d_FaultFinder_breaksAlone_196 : decode b_FaultFinder_breaksAlone 196 = .ok (.ireturn, 1) := by decide +kernel
theorem d_FaultFinder_breaksAlone_197 : decode b_FaultFinder_breaksAlone 197 = .ok (.iload_n 3, 1) := by decide +kernel
theorem d_FaultFinder_breaksAlone_198 : decode b_FaultFinder_breaksAlone 198 = .ok (.iconst 1, 1) := by decide +kernel
theorem d_FaultFinder_breaksAlone_199 : decode b_FaultFinder_breaksAlone 199 = .ok (.if_icmp .lt 38, 3) := by decide +kernel
theorem d_FaultFinder_breaksAlone_202 : decode b_FaultFinder_breaksAlone 202 = .ok (.iload_n 3, 1) := by decide +kernel
theorem d_FaultFinder_breaksAlone_203 : decode b_FaultFinder_breaksAlone 203 = .ok (.aload_n 2, 1) := by decide +kernel
theorem d_FaultFinder_breaksAlone_204 : decode b_FaultFinder_breaksAlone 204 = .ok (.getfield 43, 3) := by decide +kernel
theorem d_FaultFinder_breaksAlone_207 : decode b_FaultFinder_breaksAlone 207 = .ok (.iconst 1, 1) := by decide +kernel
theorem d_FaultFinder_breaksAlone_208 : decode b_FaultFinder_breaksAlone 208 = .ok (.isub, 1) := by decide +kernel
theorem d_FaultFinder_breaksAlone_209 : decode b_FaultFinder_breaksAlone 209 = .ok (.if_icmp .ne 28, 3) := by decide +kernel
theorem d_FaultFinder_breaksAlone_212 : decode b_FaultFinder_breaksAlone 212 = .ok (.aload_n 0, 1) := by decide +kernel
theorem d_FaultFinder_breaksAlone_213 : decode b_FaultFinder_breaksAlone 213 = .ok (.getfield 35, 3) := by decide +kernel
theorem d_FaultFinder_breaksAlone_216 : decode b_FaultFinder_breaksAlone 216 = .ok (.iload_n 3, 1) := by decide +kernel
theorem d_FaultFinder_breaksAlone_217 : decode b_FaultFinder_breaksAlone 217 = .ok (.aload_n 2, 1) := by decide +kernel
theorem d_FaultFinder_breaksAlone_218 : decode b_FaultFinder_breaksAlone 218 = .ok (.getfield 58, 3) := by decide +kernel
theorem d_FaultFinder_breaksAlone_221 : decode b_FaultFinder_breaksAlone 221 = .ok (.iload_n 3, 1) := by decide +kernel
theorem d_FaultFinder_breaksAlone_222 : decode b_FaultFinder_breaksAlone 222 = .ok (.iconst 1, 1) := by decide +kernel
theorem d_FaultFinder_breaksAlone_223 : decode b_FaultFinder_breaksAlone 223 = .ok (.isub, 1) := by decide +kernel
theorem d_FaultFinder_breaksAlone_224 : decode b_FaultFinder_breaksAlone 224 = .ok (.iaload, 1) := by decide +kernel
theorem d_FaultFinder_breaksAlone_225 : decode b_FaultFinder_breaksAlone 225 = .ok (.iload 4, 2) := by decide +kernel
theorem d_FaultFinder_breaksAlone_227 : decode b_FaultFinder_breaksAlone 227 = .ok (.invokevirtual 119, 3) := by decide +kernel
theorem d_FaultFinder_breaksAlone_230 : decode b_FaultFinder_breaksAlone 230 = .ok (.ifCond .eq 7, 3) := by decide +kernel
theorem d_FaultFinder_breaksAlone_233 : decode b_FaultFinder_breaksAlone 233 = .ok (.iconst 1, 1) := by decide +kernel
theorem d_FaultFinder_breaksAlone_234 : decode b_FaultFinder_breaksAlone 234 = .ok (.goto 4, 3) := by decide +kernel
theorem d_FaultFinder_breaksAlone_237 : decode b_FaultFinder_breaksAlone 237 = .ok (.iconst 0, 1) := by decide +kernel
theorem d_FaultFinder_breaksAlone_238 : decode b_FaultFinder_breaksAlone 238 = .ok (.ireturn, 1) := by decide +kernel
theorem d_FaultFinder_breaksAlone_239 : decode b_FaultFinder_breaksAlone 239 = .ok (.iload 4, 2) := by decide +kernel
theorem d_FaultFinder_breaksAlone_241 : decode b_FaultFinder_breaksAlone 241 = .ok (.aload_n 0, 1) := by decide +kernel
theorem d_FaultFinder_breaksAlone_242 : decode b_FaultFinder_breaksAlone 242 = .ok (.getfield 25, 3) := by decide +kernel
theorem d_FaultFinder_breaksAlone_245 : decode b_FaultFinder_breaksAlone 245 = .ok (.if_icmp .ne 15, 3) := by decide +kernel
theorem d_FaultFinder_breaksAlone_248 : decode b_FaultFinder_breaksAlone 248 = .ok (.iload_n 3, 1) := by decide +kernel
theorem d_FaultFinder_breaksAlone_249 : decode b_FaultFinder_breaksAlone 249 = .ok (.aload_n 0, 1) := by decide +kernel
theorem d_FaultFinder_breaksAlone_250 : decode b_FaultFinder_breaksAlone 250 = .ok (.getfield 28, 3) := by decide +kernel
theorem d_FaultFinder_breaksAlone_253 : decode b_FaultFinder_breaksAlone 253 = .ok (.if_icmp .eq 7, 3) := by decide +kernel
theorem d_FaultFinder_breaksAlone_256 : decode b_FaultFinder_breaksAlone 256 = .ok (.iconst 1, 1) := by decide +kernel
theorem d_FaultFinder_breaksAlone_257 : decode b_FaultFinder_breaksAlone 257 = .ok (.goto 4, 3) := by decide +kernel
theorem d_FaultFinder_breaksAlone_260 : decode b_FaultFinder_breaksAlone 260 = .ok (.iconst 0, 1) := by decide +kernel
theorem d_FaultFinder_breaksAlone_261 : decode b_FaultFinder_breaksAlone 261 = .ok (.ireturn, 1) := by decide +kernel
theorem d_FaultFinder_breaksAlone_262 : decode b_FaultFinder_breaksAlone 262 = .ok (.iconst 0, 1) := by decide +kernel
theorem d_FaultFinder_breaksAlone_263 : decode b_FaultFinder_breaksAlone 263 = .ok (.ireturn, 1) := by decide +kernel
abbrev wd_FaultFinder_breaksAlone (kc : Nat → ClassId) (ad : Nat → Nat) (xa : Nat) (xb : Nat) (X_size : Int32) (X_notes : Nat → Int32) (su_lines : Int32) (su_length : Int32) (su_perNote : Int32) (su_above : Int32) (su_numbers : Nat → Int32) (su_given : Nat → Nat → Int32) (fi_faults : Int32) (fi_highest : Int32) (fi_firstHighest : Int32) : va_W := [(xa, .inr (3, [.ref xb, .int X_size])), (xb, .inl (kc 0, 45, .inl X_notes)), ((ad 1), .inr (7, [.ref (ad 2), .ref (ad 3), .ref (ad 4), .int su_lines, .int su_length, .int su_perNote, .int su_above])), ((ad 2), .inl (kc 0, 18, .inl su_numbers)), ((ad 4), .inl (kc 3, 3, .inr (.inr (.inr (.inr (fun i => if i < 3 then some (ad (5 + i)) else none)))))), ((ad 5), .inl (kc 0, 12, .inl (su_given 0))), ((ad 6), .inl (kc 0, 12, .inl (su_given 1))), ((ad 7), .inl (kc 0, 12, .inl (su_given 2))), ((ad 8), .inr (5, [.ref (ad 1)])), ((ad 9), .inr (2, [.ref (ad 1), .ref (ad 8), .ref (ad 10), .ref (ad 11), .ref (ad 12), .int fi_faults, .int fi_highest, .int fi_firstHighest]))]
abbrev rm_FaultFinder_breaksAlone : Room := { frames := 3, cells := 0, slots := 0, locals := 67 }
abbrev cw_FaultFinder_breaksAlone : Cond := .code y_FaultFinder_breaksAlone b_FaultFinder_breaksAlone 5 (some .boolean)
abbrev ws_FaultFinder_breaksAlone : List Cond := cw_FaultFinder_breaksAlone :: GW
theorem hd_FaultFinder_breaksAlone : y_FaultFinder_breaksAlone.cls ≠ "java/lang/invoke/MethodHandle" ∧ y_FaultFinder_breaksAlone.cls ≠ "java/lang/invoke/VarHandle" ∧ (parseMethodDescriptor y_FaultFinder_breaksAlone.desc).map (fun d => d.parameters.length) = some 3 := by decide +kernel
def m_FaultFinder_breaksAlone (F : Nat) (X_size : Int32) (X_notes : Nat → Int32) (su_lines : Int32) (su_perNote : Int32) (su_numbers : Nat → Int32) (su_given : Nat → Nat → Int32) (fi_highest : Int32) (fi_firstHighest : Int32)  (a1 : Int32) (a3 : Int32) : Option (Int32) :=
  (gd a3 45 (if a1 = (0 : Int32) then (bd (m_Rules_isStrong su_perNote a3) (fun u3 => (if u3 = (0 : Int32) then
      (some (0 : Int32))
    else
      (bd (m_Rules_isHard F su_lines su_perNote su_numbers su_given a3 (X_notes (Int32.toNatClampNeg a3))) (fun u6 => (if u6 = (0 : Int32) then
        (some (0 : Int32))
      else
        (some (1 : Int32)))))))) else (if a1 = (1 : Int32) then (some (0 : Int32)) else (if a1 = (2 : Int32) then (some (0 : Int32)) else (if a1 = (3 : Int32) then (some (0 : Int32)) else (if a1 = (4 : Int32) then (some (0 : Int32)) else (if a1 = (5 : Int32) then (if a3 < (1 : Int32) then
      (some (0 : Int32))
    else
      (gd (a3 - (1 : Int32)) 45 (bd (m_Rules_isLeaping su_numbers (X_notes (Int32.toNatClampNeg (a3 - (1 : Int32)))) (X_notes (Int32.toNatClampNeg a3))) (fun u16 => (if u16 = (0 : Int32) then
        (some (0 : Int32))
      else
        (some (1 : Int32))))))) else (if a1 = (6 : Int32) then (if a3 < (2 : Int32) then
      (some (0 : Int32))
    else
      (gd (a3 - (2 : Int32)) 45 (gd (a3 - (1 : Int32)) 45 (bd (m_Rules_isNotTurned su_numbers (X_notes (Int32.toNatClampNeg (a3 - (2 : Int32)))) (X_notes (Int32.toNatClampNeg (a3 - (1 : Int32)))) (X_notes (Int32.toNatClampNeg a3))) (fun u23 => (if u23 = (0 : Int32) then
        (some (0 : Int32))
      else
        (some (1 : Int32)))))))) else (if a1 = (7 : Int32) then (bd (m_FaultFinder_isRepeated F X_notes su_numbers a3) (fun u27 => (gb u27 (some u27)))) else (if a1 = (8 : Int32) then (if a3 = (0 : Int32) then
      (bd (m_Rules_isBadOpening su_perNote su_numbers su_given (X_notes (Int32.toNatClampNeg a3))) (fun u32 => (if u32 = (0 : Int32) then
        (some (0 : Int32))
      else
        (some (1 : Int32)))))
    else
      (some (0 : Int32))) else (if a1 = (9 : Int32) then (if a3 < (1 : Int32) then
      (some (0 : Int32))
    else
      (if a3 = (X_size - (1 : Int32)) then
        (gd (a3 - (1 : Int32)) 45 (bd (m_Rules_isBadClosing su_perNote su_numbers su_given a3 (X_notes (Int32.toNatClampNeg (a3 - (1 : Int32)))) (X_notes (Int32.toNatClampNeg a3))) (fun u39 => (if u39 = (0 : Int32) then
          (some (0 : Int32))
        else
          (some (1 : Int32))))))
      else
        (some (0 : Int32)))) else (if a1 = (10 : Int32) then (if (X_notes (Int32.toNatClampNeg a3)) = fi_highest then
      (if a3 = fi_firstHighest then
        (some (0 : Int32))
      else
        (some (1 : Int32)))
    else
      (some (0 : Int32))) else (some (0 : Int32))))))))))))))
set_option maxHeartbeats 4000000 in
set_option maxRecDepth 100000 in
theorem e_FaultFinder_breaksAlone {r : Int32} {F : Nat} {ad : Nat → Nat} {xa : Nat} {xb : Nat} {X_size : Int32} {X_notes : Nat → Int32} {su_lines : Int32} {su_length : Int32} {su_perNote : Int32} {su_above : Int32} {su_numbers : Nat → Int32} {su_given : Nat → Nat → Int32} {fi_faults : Int32} {fi_highest : Int32} {fi_firstHighest : Int32} {a1 : Int32} {a3 : Int32} {H : Heap} {locs : List Loc} {ls : Array Slot} (C : Cx p s m meth c args A D kc R_FaultFinder b_FaultFinder_breaksAlone 5 (some .boolean)) (hm : m_FaultFinder_breaksAlone F X_size X_notes su_lines su_perNote su_numbers su_given fi_highest fi_firstHighest a1 a3 = some r) (hZ : St D A s (wd_FaultFinder_breaksAlone kc ad xa xb X_size X_notes su_lines su_length su_perNote su_above su_numbers su_given fi_faults fi_highest fi_firstHighest) H locs) (hl : lv_has ls 5 [(0, .ref (ad 9)), (1, .int a1), (2, .ref xa), (3, .int a3)]) : W p l e rm_FaultFinder_breaksAlone s m args below meth c H locs 0 0 (MQ below (Qi D A (wd_FaultFinder_breaksAlone kc ad xa xb X_size X_notes su_lines su_length su_perNote su_above su_numbers su_given fi_faults fi_highest fi_firstHighest) r) args s 0 0 A) (F0 m 0 ls []) := by
  obtain ⟨hx, hb, hr, hts, hown, hml, hlocks, hK, hN, hA, hX⟩ := id C
  obtain ⟨hP, hD, hS⟩ := hZ
  unfold m_FaultFinder_breaksAlone at hm
  refine lv_aload_n hx hb d_FaultFinder_breaksAlone_0 rfl (lv_at hl 2 rfl) ?_
  refine va_getN (D := D) (ci := 3) (v := .ref xb) (C := R_Line) (T := T_Line) (N := 2) hx hb hts inG_Line hown hK hP 0 rfl rfl 0 (by decide) (va_Nw.use rfl (hN _ nw_134)) (fun _ h9 => h9) rfl d_FaultFinder_breaksAlone_1 ?_
  refine lv_iload_n hx hb d_FaultFinder_breaksAlone_4 rfl (lv_at hl 3 rfl) ?_
  obtain ⟨hi1, hm⟩ := gd_some hm
  refine va_iald hx hb hK hP 1 0 rfl rfl hi1 d_FaultFinder_breaksAlone_5 ?_
  refine lv_istore (lv' := [(4, .int (X_notes (Int32.toNatClampNeg a3))), (0, .ref (ad 9)), (1, .int a1), (2, .ref xa), (3, .int a3)]) hx hb d_FaultFinder_breaksAlone_6 hl (by decide) rfl (fun ls hl => ?_)
  refine lv_iload_n hx hb d_FaultFinder_breaksAlone_8 rfl (lv_at hl 2 rfl) ?_
  by_cases c2 : a1 = (0 : Int32)
  · replace hm := ifT hm c2
    refine lv_tableIn (off := 59) (tgt := 68) hx hb d_FaultFinder_breaksAlone_9 (by rw [c2]; decide) (by rw [c2]; decide) (by rw [c2]; rfl) (by decide) ?_
    refine lv_aload_n hx hb d_FaultFinder_breaksAlone_68 rfl (lv_at hl 1 rfl) ?_
    refine va_get (D := D) (ci := 2) (v := .ref (ad 8)) (C := R_FaultFinder) (T := T_FaultFinder) (N := 8) hx hb hts inG_FaultFinder hown hK hP 9 rfl rfl 1 (by decide) (hts _ gw_218) (fun _ h9 => h9) rfl d_FaultFinder_breaksAlone_69 ?_
    refine lv_iload_n hx hb d_FaultFinder_breaksAlone_72 rfl (lv_at hl 4 rfl) ?_
    obtain ⟨u3, hc4, hm⟩ := bd_some hm
    refine zVN_i (n := 1) (wr := [(xa, .inr (3, [.ref xb, .int X_size])), (xb, .inl (kc 0, 45, .inl X_notes)), ((ad 2), .inl (kc 0, 18, .inl su_numbers)), ((ad 4), .inl (kc 3, 3, .inr (.inr (.inr (.inr (fun i => if i < 3 then some (ad (5 + i)) else none)))))), ((ad 5), .inl (kc 0, 12, .inl (su_given 0))), ((ad 6), .inl (kc 0, 12, .inl (su_given 1))), ((ad 7), .inl (kc 0, 12, .inl (su_given 2))), ((ad 9), .inr (2, [.ref (ad 1), .ref (ad 8), .ref (ad 10), .ref (ad 11), .ref (ad 12), .int fi_faults, .int fi_highest, .int fi_firstHighest]))]) (w1 := (wd_Rules_isStrong kc ad su_lines su_length su_perNote su_above)) (ws1 := (wd_FaultFinder_breaksAlone kc ad xa xb X_size X_notes su_lines su_length su_perNote su_above su_numbers su_given fi_faults fi_highest fi_firstHighest)) (As := [.int a3]) (rest := []) (ci := 5) (q0 := 1) (y := y_Rules_isStrong) (host := "SpeciesSolver") ⟨hx, hb, hml, hown, hts⟩ (fun sz => c_Rules_isStrong hc4 sz) gw_512 (hN _ nw_763) gw_511 gw_15 gw_114 hd_Rules_isStrong ⟨Nat.le_of_ble_eq_true rfl, Nat.le_of_ble_eq_true rfl⟩ ⟨rfl, rfl⟩ ⟨Nat.zero_le _, Nat.zero_le _⟩ hK hN hP hD hS hA hX [2, 8] [0, 1, 3, 4, 5, 6, 7, 9] [0, 1, 8, 2, 3, 4, 5, 6, 9, 7] rfl rfl (by decide) (by decide) (by decide) rfl (by decide) rfl rfl rfl hl.1 rfl (Nat.le_of_ble_eq_true rfl) d_FaultFinder_breaksAlone_73 (fun H locs hP hD hS => ?_)
    refine lv_if_eq (tgt := 96) hx hb d_FaultFinder_breaksAlone_76 (by decide) (fun c5 => ?_) (fun c5 => ?_)
    · replace hm := ifT hm c5
      refine lv_iconst (v := 0) hx hb d_FaultFinder_breaksAlone_96 (by decide) ?_
      replace hm := Option.some.inj hm; subst hm
      exact zret_z (v := 0) C hP hD hS (by rfl) d_FaultFinder_breaksAlone_97
    · replace hm := ifF hm c5
      refine lv_aload_n hx hb d_FaultFinder_breaksAlone_79 rfl (lv_at hl 1 rfl) ?_
      refine va_get (D := D) (ci := 2) (v := .ref (ad 8)) (C := R_FaultFinder) (T := T_FaultFinder) (N := 8) hx hb hts inG_FaultFinder hown hK hP 9 rfl rfl 1 (by decide) (hts _ gw_218) (fun _ h9 => h9) rfl d_FaultFinder_breaksAlone_80 ?_
      refine lv_iload_n hx hb d_FaultFinder_breaksAlone_83 rfl (lv_at hl 4 rfl) ?_
      refine lv_iload hx hb d_FaultFinder_breaksAlone_84 (lv_at hl 0 rfl) ?_
      obtain ⟨u6, hc7, hm⟩ := bd_some hm
      refine zVN_i (n := 2) (wr := [(xa, .inr (3, [.ref xb, .int X_size])), (xb, .inl (kc 0, 45, .inl X_notes)), ((ad 9), .inr (2, [.ref (ad 1), .ref (ad 8), .ref (ad 10), .ref (ad 11), .ref (ad 12), .int fi_faults, .int fi_highest, .int fi_firstHighest]))]) (w1 := (wd_Rules_isHard kc ad su_lines su_length su_perNote su_above su_numbers su_given)) (ws1 := (wd_FaultFinder_breaksAlone kc ad xa xb X_size X_notes su_lines su_length su_perNote su_above su_numbers su_given fi_faults fi_highest fi_firstHighest)) (As := [.int a3, .int (X_notes (Int32.toNatClampNeg a3))]) (rest := []) (ci := 5) (q0 := 6) (y := y_Rules_isHard) (host := "SpeciesSolver") ⟨hx, hb, hml, hown, hts⟩ (fun sz => c_Rules_isHard hc7 sz) gw_516 (hN _ nw_780) gw_515 gw_16 gw_114 hd_Rules_isHard ⟨Nat.le_of_ble_eq_true rfl, Nat.le_of_ble_eq_true rfl⟩ ⟨rfl, rfl⟩ ⟨Nat.zero_le _, Nat.zero_le _⟩ hK hN hP hD hS hA hX [2, 3, 4, 5, 6, 7, 8] [0, 1, 9] [0, 1, 3, 4, 5, 6, 7, 8, 9, 2] rfl rfl (by decide) (by decide) (by decide) rfl (by decide) rfl rfl rfl hl.1 rfl (Nat.le_of_ble_eq_true rfl) d_FaultFinder_breaksAlone_86 (fun H locs hP hD hS => ?_)
      refine lv_if_eq (tgt := 96) hx hb d_FaultFinder_breaksAlone_89 (by decide) (fun c8 => ?_) (fun c8 => ?_)
      · replace hm := ifT hm c8
        refine lv_iconst (v := 0) hx hb d_FaultFinder_breaksAlone_96 (by decide) ?_
        replace hm := Option.some.inj hm; subst hm
        exact zret_z (v := 0) C hP hD hS (by rfl) d_FaultFinder_breaksAlone_97
      · replace hm := ifF hm c8
        refine lv_iconst (v := 1) hx hb d_FaultFinder_breaksAlone_92 (by decide) ?_
        refine lv_goto (tgt := 97) hx hb d_FaultFinder_breaksAlone_93 (by decide) ?_
        replace hm := Option.some.inj hm; subst hm
        exact zret_z (v := 1) C hP hD hS (by rfl) d_FaultFinder_breaksAlone_97
  replace hm := ifF hm c2
  by_cases c9 : a1 = (1 : Int32)
  · replace hm := ifT hm c9
    refine lv_tableIn (off := 253) (tgt := 262) hx hb d_FaultFinder_breaksAlone_9 (by rw [c9]; decide) (by rw [c9]; decide) (by rw [c9]; rfl) (by decide) ?_
    refine lv_iconst (v := 0) hx hb d_FaultFinder_breaksAlone_262 (by decide) ?_
    replace hm := Option.some.inj hm; subst hm
    exact zret_z (v := 0) C hP hD hS (by rfl) d_FaultFinder_breaksAlone_263
  replace hm := ifF hm c9
  by_cases c10 : a1 = (2 : Int32)
  · replace hm := ifT hm c10
    refine lv_tableIn (off := 253) (tgt := 262) hx hb d_FaultFinder_breaksAlone_9 (by rw [c10]; decide) (by rw [c10]; decide) (by rw [c10]; rfl) (by decide) ?_
    refine lv_iconst (v := 0) hx hb d_FaultFinder_breaksAlone_262 (by decide) ?_
    replace hm := Option.some.inj hm; subst hm
    exact zret_z (v := 0) C hP hD hS (by rfl) d_FaultFinder_breaksAlone_263
  replace hm := ifF hm c10
  by_cases c11 : a1 = (3 : Int32)
  · replace hm := ifT hm c11
    refine lv_tableIn (off := 253) (tgt := 262) hx hb d_FaultFinder_breaksAlone_9 (by rw [c11]; decide) (by rw [c11]; decide) (by rw [c11]; rfl) (by decide) ?_
    refine lv_iconst (v := 0) hx hb d_FaultFinder_breaksAlone_262 (by decide) ?_
    replace hm := Option.some.inj hm; subst hm
    exact zret_z (v := 0) C hP hD hS (by rfl) d_FaultFinder_breaksAlone_263
  replace hm := ifF hm c11
  by_cases c12 : a1 = (4 : Int32)
  · replace hm := ifT hm c12
    refine lv_tableIn (off := 253) (tgt := 262) hx hb d_FaultFinder_breaksAlone_9 (by rw [c12]; decide) (by rw [c12]; decide) (by rw [c12]; rfl) (by decide) ?_
    refine lv_iconst (v := 0) hx hb d_FaultFinder_breaksAlone_262 (by decide) ?_
    replace hm := Option.some.inj hm; subst hm
    exact zret_z (v := 0) C hP hD hS (by rfl) d_FaultFinder_breaksAlone_263
  replace hm := ifF hm c12
  by_cases c13 : a1 = (5 : Int32)
  · replace hm := ifT hm c13
    refine lv_tableIn (off := 89) (tgt := 98) hx hb d_FaultFinder_breaksAlone_9 (by rw [c13]; decide) (by rw [c13]; decide) (by rw [c13]; rfl) (by decide) ?_
    refine lv_iload_n hx hb d_FaultFinder_breaksAlone_98 rfl (lv_at hl 4 rfl) ?_
    refine lv_iconst (v := 1) hx hb d_FaultFinder_breaksAlone_99 (by decide) ?_
    refine lv_icmp_lt (tgt := 127) hx hb d_FaultFinder_breaksAlone_100 (by decide) (fun c14 => ?_) (fun c14 => ?_)
    · replace hm := ifT hm c14
      refine lv_iconst (v := 0) hx hb d_FaultFinder_breaksAlone_127 (by decide) ?_
      replace hm := Option.some.inj hm; subst hm
      exact zret_z (v := 0) C hP hD hS (by rfl) d_FaultFinder_breaksAlone_128
    · replace hm := ifF hm c14
      refine lv_aload_n hx hb d_FaultFinder_breaksAlone_103 rfl (lv_at hl 1 rfl) ?_
      refine va_get (D := D) (ci := 2) (v := .ref (ad 8)) (C := R_FaultFinder) (T := T_FaultFinder) (N := 8) hx hb hts inG_FaultFinder hown hK hP 9 rfl rfl 1 (by decide) (hts _ gw_218) (fun _ h9 => h9) rfl d_FaultFinder_breaksAlone_104 ?_
      refine lv_aload_n hx hb d_FaultFinder_breaksAlone_107 rfl (lv_at hl 3 rfl) ?_
      refine va_getN (D := D) (ci := 3) (v := .ref xb) (C := R_Line) (T := T_Line) (N := 2) hx hb hts inG_Line hown hK hP 0 rfl rfl 0 (by decide) (va_Nw.use rfl (hN _ nw_134)) (fun _ h9 => h9) rfl d_FaultFinder_breaksAlone_108 ?_
      refine lv_iload_n hx hb d_FaultFinder_breaksAlone_111 rfl (lv_at hl 4 rfl) ?_
      refine lv_iconst (v := 1) hx hb d_FaultFinder_breaksAlone_112 (by decide) ?_
      refine lv_isub hx hb d_FaultFinder_breaksAlone_113 ?_
      obtain ⟨hi15, hm⟩ := gd_some hm
      refine va_iald hx hb hK hP 1 0 rfl rfl hi15 d_FaultFinder_breaksAlone_114 ?_
      refine lv_iload hx hb d_FaultFinder_breaksAlone_115 (lv_at hl 0 rfl) ?_
      obtain ⟨u16, hc17, hm⟩ := bd_some hm
      refine zVN_i (n := 2) (wr := [(xa, .inr (3, [.ref xb, .int X_size])), (xb, .inl (kc 0, 45, .inl X_notes)), ((ad 4), .inl (kc 3, 3, .inr (.inr (.inr (.inr (fun i => if i < 3 then some (ad (5 + i)) else none)))))), ((ad 5), .inl (kc 0, 12, .inl (su_given 0))), ((ad 6), .inl (kc 0, 12, .inl (su_given 1))), ((ad 7), .inl (kc 0, 12, .inl (su_given 2))), ((ad 9), .inr (2, [.ref (ad 1), .ref (ad 8), .ref (ad 10), .ref (ad 11), .ref (ad 12), .int fi_faults, .int fi_highest, .int fi_firstHighest]))]) (w1 := (wd_Rules_isLeaping kc ad su_lines su_length su_perNote su_above su_numbers)) (ws1 := (wd_FaultFinder_breaksAlone kc ad xa xb X_size X_notes su_lines su_length su_perNote su_above su_numbers su_given fi_faults fi_highest fi_firstHighest)) (As := [.int (X_notes (Int32.toNatClampNeg (a3 - (1 : Int32)))), .int (X_notes (Int32.toNatClampNeg a3))]) (rest := []) (ci := 5) (q0 := 2) (y := y_Rules_isLeaping) (host := "SpeciesSolver") ⟨hx, hb, hml, hown, hts⟩ (fun sz => c_Rules_isLeaping hc17 sz) gw_547 (hN _ nw_781) gw_546 gw_23 gw_114 hd_Rules_isLeaping ⟨Nat.le_of_ble_eq_true rfl, Nat.le_of_ble_eq_true rfl⟩ ⟨rfl, rfl⟩ ⟨Nat.zero_le _, Nat.zero_le _⟩ hK hN hP hD hS hA hX [2, 3, 8] [0, 1, 4, 5, 6, 7, 9] [0, 1, 7, 8, 2, 3, 4, 5, 9, 6] rfl rfl (by decide) (by decide) (by decide) rfl (by decide) rfl rfl rfl hl.1 rfl (Nat.le_of_ble_eq_true rfl) d_FaultFinder_breaksAlone_117 (fun H locs hP hD hS => ?_)
      refine lv_if_eq (tgt := 127) hx hb d_FaultFinder_breaksAlone_120 (by decide) (fun c18 => ?_) (fun c18 => ?_)
      · replace hm := ifT hm c18
        refine lv_iconst (v := 0) hx hb d_FaultFinder_breaksAlone_127 (by decide) ?_
        replace hm := Option.some.inj hm; subst hm
        exact zret_z (v := 0) C hP hD hS (by rfl) d_FaultFinder_breaksAlone_128
      · replace hm := ifF hm c18
        refine lv_iconst (v := 1) hx hb d_FaultFinder_breaksAlone_123 (by decide) ?_
        refine lv_goto (tgt := 128) hx hb d_FaultFinder_breaksAlone_124 (by decide) ?_
        replace hm := Option.some.inj hm; subst hm
        exact zret_z (v := 1) C hP hD hS (by rfl) d_FaultFinder_breaksAlone_128
  replace hm := ifF hm c13
  by_cases c19 : a1 = (6 : Int32)
  · replace hm := ifT hm c19
    refine lv_tableIn (off := 120) (tgt := 129) hx hb d_FaultFinder_breaksAlone_9 (by rw [c19]; decide) (by rw [c19]; decide) (by rw [c19]; rfl) (by decide) ?_
    refine lv_iload_n hx hb d_FaultFinder_breaksAlone_129 rfl (lv_at hl 4 rfl) ?_
    refine lv_iconst (v := 2) hx hb d_FaultFinder_breaksAlone_130 (by decide) ?_
    refine lv_icmp_lt (tgt := 166) hx hb d_FaultFinder_breaksAlone_131 (by decide) (fun c20 => ?_) (fun c20 => ?_)
    · replace hm := ifT hm c20
      refine lv_iconst (v := 0) hx hb d_FaultFinder_breaksAlone_166 (by decide) ?_
      replace hm := Option.some.inj hm; subst hm
      exact zret_z (v := 0) C hP hD hS (by rfl) d_FaultFinder_breaksAlone_167
    · replace hm := ifF hm c20
      refine lv_aload_n hx hb d_FaultFinder_breaksAlone_134 rfl (lv_at hl 1 rfl) ?_
      refine va_get (D := D) (ci := 2) (v := .ref (ad 8)) (C := R_FaultFinder) (T := T_FaultFinder) (N := 8) hx hb hts inG_FaultFinder hown hK hP 9 rfl rfl 1 (by decide) (hts _ gw_218) (fun _ h9 => h9) rfl d_FaultFinder_breaksAlone_135 ?_
      refine lv_aload_n hx hb d_FaultFinder_breaksAlone_138 rfl (lv_at hl 3 rfl) ?_
      refine va_getN (D := D) (ci := 3) (v := .ref xb) (C := R_Line) (T := T_Line) (N := 2) hx hb hts inG_Line hown hK hP 0 rfl rfl 0 (by decide) (va_Nw.use rfl (hN _ nw_134)) (fun _ h9 => h9) rfl d_FaultFinder_breaksAlone_139 ?_
      refine lv_iload_n hx hb d_FaultFinder_breaksAlone_142 rfl (lv_at hl 4 rfl) ?_
      refine lv_iconst (v := 2) hx hb d_FaultFinder_breaksAlone_143 (by decide) ?_
      refine lv_isub hx hb d_FaultFinder_breaksAlone_144 ?_
      obtain ⟨hi21, hm⟩ := gd_some hm
      refine va_iald hx hb hK hP 1 0 rfl rfl hi21 d_FaultFinder_breaksAlone_145 ?_
      refine lv_aload_n hx hb d_FaultFinder_breaksAlone_146 rfl (lv_at hl 3 rfl) ?_
      refine va_getN (D := D) (ci := 3) (v := .ref xb) (C := R_Line) (T := T_Line) (N := 2) hx hb hts inG_Line hown hK hP 0 rfl rfl 0 (by decide) (va_Nw.use rfl (hN _ nw_134)) (fun _ h9 => h9) rfl d_FaultFinder_breaksAlone_147 ?_
      refine lv_iload_n hx hb d_FaultFinder_breaksAlone_150 rfl (lv_at hl 4 rfl) ?_
      refine lv_iconst (v := 1) hx hb d_FaultFinder_breaksAlone_151 (by decide) ?_
      refine lv_isub hx hb d_FaultFinder_breaksAlone_152 ?_
      obtain ⟨hi22, hm⟩ := gd_some hm
      refine va_iald hx hb hK hP 1 0 rfl rfl hi22 d_FaultFinder_breaksAlone_153 ?_
      refine lv_iload hx hb d_FaultFinder_breaksAlone_154 (lv_at hl 0 rfl) ?_
      obtain ⟨u23, hc24, hm⟩ := bd_some hm
      refine zVN_i (n := 3) (wr := [(xa, .inr (3, [.ref xb, .int X_size])), (xb, .inl (kc 0, 45, .inl X_notes)), ((ad 4), .inl (kc 3, 3, .inr (.inr (.inr (.inr (fun i => if i < 3 then some (ad (5 + i)) else none)))))), ((ad 5), .inl (kc 0, 12, .inl (su_given 0))), ((ad 6), .inl (kc 0, 12, .inl (su_given 1))), ((ad 7), .inl (kc 0, 12, .inl (su_given 2))), ((ad 9), .inr (2, [.ref (ad 1), .ref (ad 8), .ref (ad 10), .ref (ad 11), .ref (ad 12), .int fi_faults, .int fi_highest, .int fi_firstHighest]))]) (w1 := (wd_Rules_isNotTurned kc ad su_lines su_length su_perNote su_above su_numbers)) (ws1 := (wd_FaultFinder_breaksAlone kc ad xa xb X_size X_notes su_lines su_length su_perNote su_above su_numbers su_given fi_faults fi_highest fi_firstHighest)) (As := [.int (X_notes (Int32.toNatClampNeg (a3 - (2 : Int32)))), .int (X_notes (Int32.toNatClampNeg (a3 - (1 : Int32)))), .int (X_notes (Int32.toNatClampNeg a3))]) (rest := []) (ci := 5) (q0 := 2) (y := y_Rules_isNotTurned) (host := "SpeciesSolver") ⟨hx, hb, hml, hown, hts⟩ (fun sz => c_Rules_isNotTurned hc24 sz) gw_574 (hN _ nw_782) gw_573 gw_29 gw_114 hd_Rules_isNotTurned ⟨Nat.le_of_ble_eq_true rfl, Nat.le_of_ble_eq_true rfl⟩ ⟨rfl, rfl⟩ ⟨Nat.zero_le _, Nat.zero_le _⟩ hK hN hP hD hS hA hX [2, 3, 8] [0, 1, 4, 5, 6, 7, 9] [0, 1, 7, 8, 2, 3, 4, 5, 9, 6] rfl rfl (by decide) (by decide) (by decide) rfl (by decide) rfl rfl rfl hl.1 rfl (Nat.le_of_ble_eq_true rfl) d_FaultFinder_breaksAlone_156 (fun H locs hP hD hS => ?_)
      refine lv_if_eq (tgt := 166) hx hb d_FaultFinder_breaksAlone_159 (by decide) (fun c25 => ?_) (fun c25 => ?_)
      · replace hm := ifT hm c25
        refine lv_iconst (v := 0) hx hb d_FaultFinder_breaksAlone_166 (by decide) ?_
        replace hm := Option.some.inj hm; subst hm
        exact zret_z (v := 0) C hP hD hS (by rfl) d_FaultFinder_breaksAlone_167
      · replace hm := ifF hm c25
        refine lv_iconst (v := 1) hx hb d_FaultFinder_breaksAlone_162 (by decide) ?_
        refine lv_goto (tgt := 167) hx hb d_FaultFinder_breaksAlone_163 (by decide) ?_
        replace hm := Option.some.inj hm; subst hm
        exact zret_z (v := 1) C hP hD hS (by rfl) d_FaultFinder_breaksAlone_167
  replace hm := ifF hm c19
  by_cases c26 : a1 = (7 : Int32)
  · replace hm := ifT hm c26
    refine lv_tableIn (off := 159) (tgt := 168) hx hb d_FaultFinder_breaksAlone_9 (by rw [c26]; decide) (by rw [c26]; decide) (by rw [c26]; rfl) (by decide) ?_
    refine lv_aload_n hx hb d_FaultFinder_breaksAlone_168 rfl (lv_at hl 1 rfl) ?_
    refine lv_aload_n hx hb d_FaultFinder_breaksAlone_169 rfl (lv_at hl 3 rfl) ?_
    refine lv_iload_n hx hb d_FaultFinder_breaksAlone_170 rfl (lv_at hl 4 rfl) ?_
    obtain ⟨u27, hc28, hm⟩ := bd_some hm
    refine zV_i (n := 2) (wr := [((ad 4), .inl (kc 3, 3, .inr (.inr (.inr (.inr (fun i => if i < 3 then some (ad (5 + i)) else none)))))), ((ad 5), .inl (kc 0, 12, .inl (su_given 0))), ((ad 6), .inl (kc 0, 12, .inl (su_given 1))), ((ad 7), .inl (kc 0, 12, .inl (su_given 2))), ((ad 8), .inr (5, [.ref (ad 1)]))]) (w1 := (wd_FaultFinder_isRepeated kc ad xa xb X_size X_notes su_lines su_length su_perNote su_above su_numbers fi_faults fi_highest fi_firstHighest)) (ws1 := (wd_FaultFinder_breaksAlone kc ad xa xb X_size X_notes su_lines su_length su_perNote su_above su_numbers su_given fi_faults fi_highest fi_firstHighest)) (As := [.ref xa, .int a3]) (rest := []) (ci := 2) (q0 := 4) (y := y_FaultFinder_isRepeated) ⟨hx, hb, hml, hown, hts⟩ (fun sz => c_FaultFinder_isRepeated hc28 sz) gw_786 gw_783 gw_785 gw_71 gw_115 hd_FaultFinder_isRepeated ⟨Nat.le_of_ble_eq_true rfl, Nat.le_of_ble_eq_true rfl⟩ ⟨rfl, rfl⟩ ⟨Nat.zero_le _, Nat.zero_le _⟩ hK hN hP hD hS hA hX [0, 1, 2, 3, 9] [4, 5, 6, 7, 8] [5, 6, 7, 8, 0, 1, 2, 3, 4, 9] rfl rfl (by decide) (by decide) (by decide) rfl (by decide) rfl rfl rfl hl.1 rfl (Nat.le_of_ble_eq_true rfl) d_FaultFinder_breaksAlone_171 (fun H locs hP hD hS => ?_)
    obtain ⟨hz29, hm⟩ := gb_some hm
    replace hm := Option.some.inj hm; subst hm
    exact zret_z (v := u27) C hP hD hS (gb_nar hz29) d_FaultFinder_breaksAlone_174
  replace hm := ifF hm c26
  by_cases c30 : a1 = (8 : Int32)
  · replace hm := ifT hm c30
    refine lv_tableIn (off := 166) (tgt := 175) hx hb d_FaultFinder_breaksAlone_9 (by rw [c30]; decide) (by rw [c30]; decide) (by rw [c30]; rfl) (by decide) ?_
    refine lv_iload_n hx hb d_FaultFinder_breaksAlone_175 rfl (lv_at hl 4 rfl) ?_
    refine lv_if_ne (tgt := 195) hx hb d_FaultFinder_breaksAlone_176 (by decide) (fun c31 => ?_) (fun c31 => ?_)
    · replace hm := ifF hm c31
      refine lv_iconst (v := 0) hx hb d_FaultFinder_breaksAlone_195 (by decide) ?_
      replace hm := Option.some.inj hm; subst hm
      exact zret_z (v := 0) C hP hD hS (by rfl) d_FaultFinder_breaksAlone_196
    · replace hm := ifT hm c31
      refine lv_aload_n hx hb d_FaultFinder_breaksAlone_179 rfl (lv_at hl 1 rfl) ?_
      refine va_get (D := D) (ci := 2) (v := .ref (ad 8)) (C := R_FaultFinder) (T := T_FaultFinder) (N := 8) hx hb hts inG_FaultFinder hown hK hP 9 rfl rfl 1 (by decide) (hts _ gw_218) (fun _ h9 => h9) rfl d_FaultFinder_breaksAlone_180 ?_
      refine lv_iload hx hb d_FaultFinder_breaksAlone_183 (lv_at hl 0 rfl) ?_
      obtain ⟨u32, hc33, hm⟩ := bd_some hm
      refine zVN_i (n := 1) (wr := [(xa, .inr (3, [.ref xb, .int X_size])), (xb, .inl (kc 0, 45, .inl X_notes)), ((ad 9), .inr (2, [.ref (ad 1), .ref (ad 8), .ref (ad 10), .ref (ad 11), .ref (ad 12), .int fi_faults, .int fi_highest, .int fi_firstHighest]))]) (w1 := (wd_Rules_isBadOpening kc ad su_lines su_length su_perNote su_above su_numbers su_given)) (ws1 := (wd_FaultFinder_breaksAlone kc ad xa xb X_size X_notes su_lines su_length su_perNote su_above su_numbers su_given fi_faults fi_highest fi_firstHighest)) (As := [.int (X_notes (Int32.toNatClampNeg a3))]) (rest := []) (ci := 5) (q0 := 6) (y := y_Rules_isBadOpening) (host := "SpeciesSolver") ⟨hx, hb, hml, hown, hts⟩ (fun sz => c_Rules_isBadOpening hc33 sz) gw_528 (hN _ nw_787) gw_527 gw_19 gw_114 hd_Rules_isBadOpening ⟨Nat.le_of_ble_eq_true rfl, Nat.le_of_ble_eq_true rfl⟩ ⟨rfl, rfl⟩ ⟨Nat.zero_le _, Nat.zero_le _⟩ hK hN hP hD hS hA hX [2, 3, 4, 5, 6, 7, 8] [0, 1, 9] [0, 1, 3, 4, 5, 6, 7, 8, 9, 2] rfl rfl (by decide) (by decide) (by decide) rfl (by decide) rfl rfl rfl hl.1 rfl (Nat.le_of_ble_eq_true rfl) d_FaultFinder_breaksAlone_185 (fun H locs hP hD hS => ?_)
      refine lv_if_eq (tgt := 195) hx hb d_FaultFinder_breaksAlone_188 (by decide) (fun c34 => ?_) (fun c34 => ?_)
      · replace hm := ifT hm c34
        refine lv_iconst (v := 0) hx hb d_FaultFinder_breaksAlone_195 (by decide) ?_
        replace hm := Option.some.inj hm; subst hm
        exact zret_z (v := 0) C hP hD hS (by rfl) d_FaultFinder_breaksAlone_196
      · replace hm := ifF hm c34
        refine lv_iconst (v := 1) hx hb d_FaultFinder_breaksAlone_191 (by decide) ?_
        refine lv_goto (tgt := 196) hx hb d_FaultFinder_breaksAlone_192 (by decide) ?_
        replace hm := Option.some.inj hm; subst hm
        exact zret_z (v := 1) C hP hD hS (by rfl) d_FaultFinder_breaksAlone_196
  replace hm := ifF hm c30
  by_cases c35 : a1 = (9 : Int32)
  · replace hm := ifT hm c35
    refine lv_tableIn (off := 188) (tgt := 197) hx hb d_FaultFinder_breaksAlone_9 (by rw [c35]; decide) (by rw [c35]; decide) (by rw [c35]; rfl) (by decide) ?_
    refine lv_iload_n hx hb d_FaultFinder_breaksAlone_197 rfl (lv_at hl 4 rfl) ?_
    refine lv_iconst (v := 1) hx hb d_FaultFinder_breaksAlone_198 (by decide) ?_
    refine lv_icmp_lt (tgt := 237) hx hb d_FaultFinder_breaksAlone_199 (by decide) (fun c36 => ?_) (fun c36 => ?_)
    · replace hm := ifT hm c36
      refine lv_iconst (v := 0) hx hb d_FaultFinder_breaksAlone_237 (by decide) ?_
      replace hm := Option.some.inj hm; subst hm
      exact zret_z (v := 0) C hP hD hS (by rfl) d_FaultFinder_breaksAlone_238
    · replace hm := ifF hm c36
      refine lv_iload_n hx hb d_FaultFinder_breaksAlone_202 rfl (lv_at hl 4 rfl) ?_
      refine lv_aload_n hx hb d_FaultFinder_breaksAlone_203 rfl (lv_at hl 3 rfl) ?_
      refine va_getN (D := D) (ci := 3) (v := .int X_size) (C := R_Line) (T := T_Line) (N := 2) hx hb hts inG_Line hown hK hP 0 rfl rfl 1 (by decide) (va_Nw.use rfl (hN _ nw_138)) (fun _ h9 => h9) rfl d_FaultFinder_breaksAlone_204 ?_
      refine lv_iconst (v := 1) hx hb d_FaultFinder_breaksAlone_207 (by decide) ?_
      refine lv_isub hx hb d_FaultFinder_breaksAlone_208 ?_
      refine lv_icmp_ne (tgt := 237) hx hb d_FaultFinder_breaksAlone_209 (by decide) (fun c37 => ?_) (fun c37 => ?_)
      · replace hm := ifF hm c37
        refine lv_iconst (v := 0) hx hb d_FaultFinder_breaksAlone_237 (by decide) ?_
        replace hm := Option.some.inj hm; subst hm
        exact zret_z (v := 0) C hP hD hS (by rfl) d_FaultFinder_breaksAlone_238
      · replace hm := ifT hm c37
        refine lv_aload_n hx hb d_FaultFinder_breaksAlone_212 rfl (lv_at hl 1 rfl) ?_
        refine va_get (D := D) (ci := 2) (v := .ref (ad 8)) (C := R_FaultFinder) (T := T_FaultFinder) (N := 8) hx hb hts inG_FaultFinder hown hK hP 9 rfl rfl 1 (by decide) (hts _ gw_218) (fun _ h9 => h9) rfl d_FaultFinder_breaksAlone_213 ?_
        refine lv_iload_n hx hb d_FaultFinder_breaksAlone_216 rfl (lv_at hl 4 rfl) ?_
        refine lv_aload_n hx hb d_FaultFinder_breaksAlone_217 rfl (lv_at hl 3 rfl) ?_
        refine va_getN (D := D) (ci := 3) (v := .ref xb) (C := R_Line) (T := T_Line) (N := 2) hx hb hts inG_Line hown hK hP 0 rfl rfl 0 (by decide) (va_Nw.use rfl (hN _ nw_134)) (fun _ h9 => h9) rfl d_FaultFinder_breaksAlone_218 ?_
        refine lv_iload_n hx hb d_FaultFinder_breaksAlone_221 rfl (lv_at hl 4 rfl) ?_
        refine lv_iconst (v := 1) hx hb d_FaultFinder_breaksAlone_222 (by decide) ?_
        refine lv_isub hx hb d_FaultFinder_breaksAlone_223 ?_
        obtain ⟨hi38, hm⟩ := gd_some hm
        refine va_iald hx hb hK hP 1 0 rfl rfl hi38 d_FaultFinder_breaksAlone_224 ?_
        refine lv_iload hx hb d_FaultFinder_breaksAlone_225 (lv_at hl 0 rfl) ?_
        obtain ⟨u39, hc40, hm⟩ := bd_some hm
        refine zVN_i (n := 3) (wr := [(xa, .inr (3, [.ref xb, .int X_size])), (xb, .inl (kc 0, 45, .inl X_notes)), ((ad 9), .inr (2, [.ref (ad 1), .ref (ad 8), .ref (ad 10), .ref (ad 11), .ref (ad 12), .int fi_faults, .int fi_highest, .int fi_firstHighest]))]) (w1 := (wd_Rules_isBadClosing kc ad su_lines su_length su_perNote su_above su_numbers su_given)) (ws1 := (wd_FaultFinder_breaksAlone kc ad xa xb X_size X_notes su_lines su_length su_perNote su_above su_numbers su_given fi_faults fi_highest fi_firstHighest)) (As := [.int a3, .int (X_notes (Int32.toNatClampNeg (a3 - (1 : Int32)))), .int (X_notes (Int32.toNatClampNeg a3))]) (rest := []) (ci := 5) (q0 := 6) (y := y_Rules_isBadClosing) (host := "SpeciesSolver") ⟨hx, hb, hml, hown, hts⟩ (fun sz => c_Rules_isBadClosing hc40 sz) gw_562 (hN _ nw_788) gw_561 gw_26 gw_114 hd_Rules_isBadClosing ⟨Nat.le_of_ble_eq_true rfl, Nat.le_of_ble_eq_true rfl⟩ ⟨rfl, rfl⟩ ⟨Nat.zero_le _, Nat.zero_le _⟩ hK hN hP hD hS hA hX [2, 3, 4, 5, 6, 7, 8] [0, 1, 9] [0, 1, 3, 4, 5, 6, 7, 8, 9, 2] rfl rfl (by decide) (by decide) (by decide) rfl (by decide) rfl rfl rfl hl.1 rfl (Nat.le_of_ble_eq_true rfl) d_FaultFinder_breaksAlone_227 (fun H locs hP hD hS => ?_)
        refine lv_if_eq (tgt := 237) hx hb d_FaultFinder_breaksAlone_230 (by decide) (fun c41 => ?_) (fun c41 => ?_)
        · replace hm := ifT hm c41
          refine lv_iconst (v := 0) hx hb d_FaultFinder_breaksAlone_237 (by decide) ?_
          replace hm := Option.some.inj hm; subst hm
          exact zret_z (v := 0) C hP hD hS (by rfl) d_FaultFinder_breaksAlone_238
        · replace hm := ifF hm c41
          refine lv_iconst (v := 1) hx hb d_FaultFinder_breaksAlone_233 (by decide) ?_
          refine lv_goto (tgt := 238) hx hb d_FaultFinder_breaksAlone_234 (by decide) ?_
          replace hm := Option.some.inj hm; subst hm
          exact zret_z (v := 1) C hP hD hS (by rfl) d_FaultFinder_breaksAlone_238
  replace hm := ifF hm c35
  by_cases c42 : a1 = (10 : Int32)
  · replace hm := ifT hm c42
    refine lv_tableIn (off := 230) (tgt := 239) hx hb d_FaultFinder_breaksAlone_9 (by rw [c42]; decide) (by rw [c42]; decide) (by rw [c42]; rfl) (by decide) ?_
    refine lv_iload hx hb d_FaultFinder_breaksAlone_239 (lv_at hl 0 rfl) ?_
    refine lv_aload_n hx hb d_FaultFinder_breaksAlone_241 rfl (lv_at hl 1 rfl) ?_
    refine va_get (D := D) (ci := 2) (v := .int fi_highest) (C := R_FaultFinder) (T := T_FaultFinder) (N := 8) hx hb hts inG_FaultFinder hown hK hP 9 rfl rfl 6 (by decide) (hts _ gw_223) (fun _ h9 => h9) rfl d_FaultFinder_breaksAlone_242 ?_
    refine lv_icmp_ne (tgt := 260) hx hb d_FaultFinder_breaksAlone_245 (by decide) (fun c43 => ?_) (fun c43 => ?_)
    · replace hm := ifF hm c43
      refine lv_iconst (v := 0) hx hb d_FaultFinder_breaksAlone_260 (by decide) ?_
      replace hm := Option.some.inj hm; subst hm
      exact zret_z (v := 0) C hP hD hS (by rfl) d_FaultFinder_breaksAlone_261
    · replace hm := ifT hm c43
      refine lv_iload_n hx hb d_FaultFinder_breaksAlone_248 rfl (lv_at hl 4 rfl) ?_
      refine lv_aload_n hx hb d_FaultFinder_breaksAlone_249 rfl (lv_at hl 1 rfl) ?_
      refine va_get (D := D) (ci := 2) (v := .int fi_firstHighest) (C := R_FaultFinder) (T := T_FaultFinder) (N := 8) hx hb hts inG_FaultFinder hown hK hP 9 rfl rfl 7 (by decide) (hts _ gw_224) (fun _ h9 => h9) rfl d_FaultFinder_breaksAlone_250 ?_
      refine lv_icmp_eq (tgt := 260) hx hb d_FaultFinder_breaksAlone_253 (by decide) (fun c44 => ?_) (fun c44 => ?_)
      · replace hm := ifT hm c44
        refine lv_iconst (v := 0) hx hb d_FaultFinder_breaksAlone_260 (by decide) ?_
        replace hm := Option.some.inj hm; subst hm
        exact zret_z (v := 0) C hP hD hS (by rfl) d_FaultFinder_breaksAlone_261
      · replace hm := ifF hm c44
        refine lv_iconst (v := 1) hx hb d_FaultFinder_breaksAlone_256 (by decide) ?_
        refine lv_goto (tgt := 261) hx hb d_FaultFinder_breaksAlone_257 (by decide) ?_
        replace hm := Option.some.inj hm; subst hm
        exact zret_z (v := 1) C hP hD hS (by rfl) d_FaultFinder_breaksAlone_261
  replace hm := ifF hm c42
  refine lv_tableOut (tgt := 262) hx hb d_FaultFinder_breaksAlone_9 (by have := ti_ne (k := 0) (y := (0 : Int32)) rfl c2; have := ti_ne (k := 1) (y := (1 : Int32)) rfl c9; have := ti_ne (k := 2) (y := (2 : Int32)) rfl c10; have := ti_ne (k := 3) (y := (3 : Int32)) rfl c11; have := ti_ne (k := 4) (y := (4 : Int32)) rfl c12; have := ti_ne (k := 5) (y := (5 : Int32)) rfl c13; have := ti_ne (k := 6) (y := (6 : Int32)) rfl c19; have := ti_ne (k := 7) (y := (7 : Int32)) rfl c26; have := ti_ne (k := 8) (y := (8 : Int32)) rfl c30; have := ti_ne (k := 9) (y := (9 : Int32)) rfl c35; have := ti_ne (k := 10) (y := (10 : Int32)) rfl c42; omega) (by decide) ?_
  refine lv_iconst (v := 0) hx hb d_FaultFinder_breaksAlone_262 (by decide) ?_
  replace hm := Option.some.inj hm; subst hm
  exact zret_z (v := 0) C hP hD hS (by rfl) d_FaultFinder_breaksAlone_263
set_option maxHeartbeats 4000000 in
set_option maxRecDepth 100000 in
theorem c_FaultFinder_breaksAlone {l : Launch} {D : va_G} {kc : Nat → ClassId} {r : Int32} {F : Nat} {ad : Nat → Nat} {xa : Nat} {xb : Nat} {X_size : Int32} {X_notes : Nat → Int32} {su_lines : Int32} {su_length : Int32} {su_perNote : Int32} {su_above : Int32} {su_numbers : Nat → Int32} {su_given : Nat → Nat → Int32} {fi_faults : Int32} {fi_highest : Int32} {fi_firstHighest : Int32} {a1 : Int32} {a3 : Int32} (hm : m_FaultFinder_breaksAlone F X_size X_notes su_lines su_perNote su_numbers su_given fi_highest fi_firstHighest a1 a3 = some r) (sz : Nat) : Ci l y_FaultFinder_breaksAlone ws_FaultFinder_breaksAlone rm_FaultFinder_breaksAlone D kc sz [.ref (ad 9), .int a1, .ref xa, .int a3] (wd_FaultFinder_breaksAlone kc ad xa xb X_size X_notes su_lines su_length su_perNote su_above su_numbers su_given fi_faults fi_highest fi_firstHighest) (wd_FaultFinder_breaksAlone kc ad xa xb X_size X_notes su_lines su_length su_perNote su_above su_numbers su_given fi_faults fi_highest fi_firstHighest) r :=
  Cz_of (Qf := fun A => (Qi D A (wd_FaultFinder_breaksAlone kc ad xa xb X_size X_notes su_lines su_length su_perNote su_above su_numbers su_given fi_faults fi_highest fi_firstHighest) r)) (cc := b_FaultFinder_breaksAlone) (maxL := 5) (ret := (some .boolean)) (by decide) rfl rfl (fun C hZ hl => e_FaultFinder_breaksAlone C hm hZ hl)
abbrev b_FaultFinder_ask : ByteArray := prog_2_method_5_code
abbrev y_FaultFinder_ask : MethodName := ⟨"SpeciesSolver$FaultFinder", "ask", "(ILSpeciesSolver$Line;I)V"⟩
theorem d_FaultFinder_ask_0 : decode b_FaultFinder_ask 0 = .ok (.iload_n 1, 1) := by decide +kernel
theorem d_FaultFinder_ask_1 : decode b_FaultFinder_ask 1 = .ok (.iconst 1, 1) := by decide +kernel
theorem d_FaultFinder_ask_2 : decode b_FaultFinder_ask 2 = .ok (.if_icmp .lt 52, 3) := by decide +kernel
theorem d_FaultFinder_ask_5 : decode b_FaultFinder_ask 5 = .ok (.iload_n 1, 1) := by decide +kernel
theorem d_FaultFinder_ask_6 : decode b_FaultFinder_ask 6 = .ok (.iconst 4, 1) := by decide +kernel
theorem d_FaultFinder_ask_7 : decode b_FaultFinder_ask 7 = .ok (.if_icmp .gt 47, 3) := by decide +kernel
theorem d_FaultFinder_ask_10 : decode b_FaultFinder_ask 10 = .ok (.iconst 0, 1) := by decide +kernel
theorem d_FaultFinder_ask_11 : decode b_FaultFinder_ask 11 = .ok (.istore 4, 2) := by decide +kernel
theorem d_FaultFinder_ask_13 : decode b_FaultFinder_ask 13 = .ok (.iload 4, 2) := by decide +kernel
theorem d_FaultFinder_ask_15 : decode b_FaultFinder_ask 15 = .ok (.aload_n 0, 1) := by decide +kernel
theorem d_FaultFinder_ask_16 : decode b_FaultFinder_ask 16 = .ok (.getfield 31, 3) := by decide +kernel
theorem d_FaultFinder_ask_19 : decode b_FaultFinder_ask 19 = .ok (.getfield 61, 3) := by decide +kernel
theorem d_FaultFinder_ask_22 : decode b_FaultFinder_ask 22 = .ok (.if_icmp .ge 29, 3) := by decide +kernel
theorem d_FaultFinder_ask_25 : decode b_FaultFinder_ask 25 = .ok (.aload_n 0, 1) := by decide +kernel
theorem d_FaultFinder_ask_26 : decode b_FaultFinder_ask 26 = .ok (.iload 4, 2) := by decide +kernel
theorem d_FaultFinder_ask_28 : decode b_FaultFinder_ask 28 = .ok (.iload_n 1, 1) := by decide +kernel
theorem d_FaultFinder_ask_29 : decode b_FaultFinder_ask 29 = .ok (.aload_n 2, 1) := by decide +kernel
theorem d_FaultFinder_ask_30 : decode b_FaultFinder_ask 30 = .ok (.iload_n 3, 1) := by decide +kernel
theorem d_FaultFinder_ask_31 : decode b_FaultFinder_ask 31 = .ok (.invokevirtual 64, 3) := by decide +kernel
theorem d_FaultFinder_ask_34 : decode b_FaultFinder_ask 34 = .ok (.ifCond .eq 11, 3) := by decide +kernel
theorem d_FaultFinder_ask_37 : decode b_FaultFinder_ask 37 = .ok (.aload_n 0, 1) := by decide +kernel
theorem d_FaultFinder_ask_38 : decode b_FaultFinder_ask 38 = .ok (.iload_n 1, 1) := by decide +kernel
theorem d_FaultFinder_ask_39 : decode b_FaultFinder_ask 39 = .ok (.iload_n 3, 1) := by decide +kernel
theorem d_FaultFinder_ask_40 : decode b_FaultFinder_ask 40 = .ok (.iload 4, 2) := by decide +kernel
theorem d_FaultFinder_ask_42 : decode b_FaultFinder_ask 42 = .ok (.invokevirtual 68, 3) := by decide +kernel
theorem d_FaultFinder_ask_45 : decode b_FaultFinder_ask 45 = .ok (.iinc 4 1, 3) := by decide +kernel
theorem d_FaultFinder_ask_48 : decode b_FaultFinder_ask 48 = .ok (.goto (-35), 3) := by decide +kernel
theorem d_FaultFinder_ask_51 : decode b_FaultFinder_ask 51 = .ok (.goto 20, 3) := by decide +kernel
theorem d_FaultFinder_ask_54 : decode b_FaultFinder_ask 54 = .ok (.aload_n 0, 1) := by decide +kernel
theorem d_FaultFinder_ask_55 : decode b_FaultFinder_ask 55 = .ok (.iload_n 1, 1) := by decide +kernel
theorem d_FaultFinder_ask_56 : decode b_FaultFinder_ask 56 = .ok (.aload_n 2, 1) := by decide +kernel
theorem d_FaultFinder_ask_57 : decode b_FaultFinder_ask 57 = .ok (.iload_n 3, 1) := by decide +kernel
theorem d_FaultFinder_ask_58 : decode b_FaultFinder_ask 58 = .ok (.invokevirtual 72, 3) := by decide +kernel
theorem d_FaultFinder_ask_61 : decode b_FaultFinder_ask 61 = .ok (.ifCond .eq 10, 3) := by decide +kernel
theorem d_FaultFinder_ask_64 : decode b_FaultFinder_ask 64 = .ok (.aload_n 0, 1) := by decide +kernel
theorem d_FaultFinder_ask_65 : decode b_FaultFinder_ask 65 = .ok (.iload_n 1, 1) := by decide +kernel
theorem d_FaultFinder_ask_66 : decode b_FaultFinder_ask 66 = .ok (.iload_n 3, 1) := by decide +kernel
theorem d_FaultFinder_ask_67 : decode b_FaultFinder_ask 67 = .ok (.iconst (-1), 1) := by decide +kernel
theorem d_FaultFinder_ask_68 : decode b_FaultFinder_ask 68 = .ok (.invokevirtual 68, 3) := by decide +kernel
theorem d_FaultFinder_ask_71 : decode b_FaultFinder_ask 71 = .ok (.return_, 1) := by decide +kernel
abbrev wd_FaultFinder_ask (kc : Nat → ClassId) (ad : Nat → Nat) (xa : Nat) (xb : Nat) (X_size : Int32) (X_notes : Nat → Int32) (su_lines : Int32) (su_length : Int32) (su_perNote : Int32) (su_above : Int32) (su_numbers : Nat → Int32) (su_given : Nat → Nat → Int32) (fi_faults : Int32) (fi_highest : Int32) (fi_firstHighest : Int32) (fi_faultRules : Nat → Int32) (fi_faultNotes : Nat → Int32) (fi_faultLines : Nat → Int32) : va_W := [(xa, .inr (3, [.ref xb, .int X_size])), (xb, .inl (kc 0, 45, .inl X_notes)), ((ad 1), .inr (7, [.ref (ad 2), .ref (ad 3), .ref (ad 4), .int su_lines, .int su_length, .int su_perNote, .int su_above])), ((ad 2), .inl (kc 0, 18, .inl su_numbers)), ((ad 4), .inl (kc 3, 3, .inr (.inr (.inr (.inr (fun i => if i < 3 then some (ad (5 + i)) else none)))))), ((ad 5), .inl (kc 0, 12, .inl (su_given 0))), ((ad 6), .inl (kc 0, 12, .inl (su_given 1))), ((ad 7), .inl (kc 0, 12, .inl (su_given 2))), ((ad 8), .inr (5, [.ref (ad 1)])), ((ad 9), .inr (2, [.ref (ad 1), .ref (ad 8), .ref (ad 10), .ref (ad 11), .ref (ad 12), .int fi_faults, .int fi_highest, .int fi_firstHighest])), ((ad 10), .inl (kc 0, 200, .inl fi_faultRules)), ((ad 11), .inl (kc 0, 200, .inl fi_faultNotes)), ((ad 12), .inl (kc 0, 200, .inl fi_faultLines))]
abbrev rm_FaultFinder_ask : Room := { frames := 4, cells := 0, slots := 0, locals := 92 }
abbrev cw_FaultFinder_ask : Cond := .code y_FaultFinder_ask b_FaultFinder_ask 5 none
abbrev ws_FaultFinder_ask : List Cond := cw_FaultFinder_ask :: GW
theorem hd_FaultFinder_ask : y_FaultFinder_ask.cls ≠ "java/lang/invoke/MethodHandle" ∧ y_FaultFinder_ask.cls ≠ "java/lang/invoke/VarHandle" ∧ (parseMethodDescriptor y_FaultFinder_ask.desc).map (fun d => d.parameters.length) = some 3 := by decide +kernel
def m_FaultFinder_ask_45 (F : Nat) (X_size : Int32) (X_notes : Nat → Int32) (su_lines : Int32) (su_perNote : Int32) (su_above : Int32) (su_numbers : Nat → Int32) (su_given : Nat → Nat → Int32) (fi_highest : Int32) (fi_firstHighest : Int32) (k13 : Int32 → (Nat → Int32) → (Nat → Int32) → (Nat → Int32) → Int32 → Int32 → Int32 → Option (Int32 × (Nat → Int32) × (Nat → Int32) × (Nat → Int32))) (fi_faults : Int32) (fi_faultRules : Nat → Int32) (fi_faultNotes : Nat → Int32) (fi_faultLines : Nat → Int32) (x1 : Int32) (x3 : Int32) (x4 : Int32) : Option (Int32 × (Nat → Int32) × (Nat → Int32) × (Nat → Int32)) :=
  k13 fi_faults fi_faultRules fi_faultNotes fi_faultLines x1 x3 (x4 + 1)
set_option maxHeartbeats 4000000 in
set_option maxRecDepth 100000 in
theorem l_FaultFinder_ask_45 {r : Int32 × (Nat → Int32) × (Nat → Int32) × (Nat → Int32)} {F : Nat} {ad : Nat → Nat} {xa : Nat} {xb : Nat} {X_size : Int32} {X_notes : Nat → Int32} {su_lines : Int32} {su_length : Int32} {su_perNote : Int32} {su_above : Int32} {su_numbers : Nat → Int32} {su_given : Nat → Nat → Int32} {fi_faults : Int32} {fi_highest : Int32} {fi_firstHighest : Int32} {fi_faultRules : Nat → Int32} {fi_faultNotes : Nat → Int32} {fi_faultLines : Nat → Int32} {k13 : Int32 → (Nat → Int32) → (Nat → Int32) → (Nat → Int32) → Int32 → Int32 → Int32 → Option (Int32 × (Nat → Int32) × (Nat → Int32) × (Nat → Int32))} {x1 : Int32} {x3 : Int32} {x4 : Int32} {H : Heap} {locs : List Loc} {ls : Array Slot} (C : Cx p s m meth c args A D kc R_FaultFinder b_FaultFinder_ask 5 none) (hk13 : (∀ (fi_faults : Int32) (fi_faultRules : Nat → Int32) (fi_faultNotes : Nat → Int32) (fi_faultLines : Nat → Int32) (x1 : Int32) (x3 : Int32) (x4 : Int32) (H : Heap) (locs : List Loc) (ls : Array Slot), k13 fi_faults fi_faultRules fi_faultNotes fi_faultLines x1 x3 x4 = some r → St D A s (wd_FaultFinder_ask kc ad xa xb X_size X_notes su_lines su_length su_perNote su_above su_numbers su_given fi_faults fi_highest fi_firstHighest fi_faultRules fi_faultNotes fi_faultLines) H locs → lv_has ls 5 [(0, .ref (ad 9)), (1, .int x1), (2, .ref xa), (3, .int x3), (4, .int x4)] → W p l e rm_FaultFinder_ask s m args below meth c H locs 0 0 (MQ below (Qv D A (wd_FaultFinder_ask kc ad xa xb X_size X_notes su_lines su_length su_perNote su_above su_numbers su_given r.1 fi_highest fi_firstHighest r.2.1 r.2.2.1 r.2.2.2)) args s 0 0 A) (F0 m 13 ls []))) (hm : m_FaultFinder_ask_45 F X_size X_notes su_lines su_perNote su_above su_numbers su_given fi_highest fi_firstHighest k13 fi_faults fi_faultRules fi_faultNotes fi_faultLines x1 x3 x4 = some r) (hZ : St D A s (wd_FaultFinder_ask kc ad xa xb X_size X_notes su_lines su_length su_perNote su_above su_numbers su_given fi_faults fi_highest fi_firstHighest fi_faultRules fi_faultNotes fi_faultLines) H locs) (hl : lv_has ls 5 [(0, .ref (ad 9)), (1, .int x1), (2, .ref xa), (3, .int x3), (4, .int x4)]) : W p l e rm_FaultFinder_ask s m args below meth c H locs 0 0 (MQ below (Qv D A (wd_FaultFinder_ask kc ad xa xb X_size X_notes su_lines su_length su_perNote su_above su_numbers su_given r.1 fi_highest fi_firstHighest r.2.1 r.2.2.1 r.2.2.2)) args s 0 0 A) (F0 m 45 ls []) := by
  obtain ⟨hx, hb, hr, hts, hown, hml, hlocks, hK, hN, hA, hX⟩ := id C
  obtain ⟨hP, hD, hS⟩ := hZ
  unfold m_FaultFinder_ask_45 at hm
  refine lv_iinc (v := (x4 + 1)) (lv' := [(4, .int (x4 + 1)), (0, .ref (ad 9)), (1, .int x1), (2, .ref xa), (3, .int x3)]) hx hb d_FaultFinder_ask_45 hl (k := 4) rfl rfl (by decide) rfl (fun ls hl => ?_)
  refine lv_goto (tgt := 13) hx hb d_FaultFinder_ask_48 (by decide) ?_
  exact hk13 fi_faults fi_faultRules fi_faultNotes fi_faultLines x1 x3 (x4 + 1) _ _ _ hm ⟨hP, hD, hS⟩ (lv_sub hl [1, 2, 3, 4, 0] rfl)
def m_FaultFinder_ask_13b (F : Nat) (X_size : Int32) (X_notes : Nat → Int32) (su_lines : Int32) (su_perNote : Int32) (su_above : Int32) (su_numbers : Nat → Int32) (su_given : Nat → Nat → Int32) (fi_highest : Int32) (fi_firstHighest : Int32) (k13 : Int32 → (Nat → Int32) → (Nat → Int32) → (Nat → Int32) → Int32 → Int32 → Int32 → Option (Int32 × (Nat → Int32) × (Nat → Int32) × (Nat → Int32))) (fi_faults : Int32) (fi_faultRules : Nat → Int32) (fi_faultNotes : Nat → Int32) (fi_faultLines : Nat → Int32) (x1 : Int32) (x3 : Int32) (x4 : Int32) : Option (Int32 × (Nat → Int32) × (Nat → Int32) × (Nat → Int32)) :=
  (if su_lines ≤ x4 then
    (some (fi_faults, fi_faultRules, fi_faultNotes, fi_faultLines))
  else
    (bd (m_FaultFinder_breaksWith X_size X_notes su_perNote su_above su_numbers su_given x4 x1 x3) (fun u2 => (if u2 = (0 : Int32) then
      m_FaultFinder_ask_45 F X_size X_notes su_lines su_perNote su_above su_numbers su_given fi_highest fi_firstHighest k13 fi_faults fi_faultRules fi_faultNotes fi_faultLines x1 x3 x4
    else
      (bd (m_FaultFinder_addFault fi_faults fi_faultRules fi_faultNotes fi_faultLines x1 x3 x4) (fun u5 => m_FaultFinder_ask_45 F X_size X_notes su_lines su_perNote su_above su_numbers su_given fi_highest fi_firstHighest k13 u5.1 u5.2.1 u5.2.2.1 u5.2.2.2 x1 x3 x4))))))
set_option maxHeartbeats 4000000 in
set_option maxRecDepth 100000 in
theorem l_FaultFinder_ask_13 {r : Int32 × (Nat → Int32) × (Nat → Int32) × (Nat → Int32)} {F : Nat} {ad : Nat → Nat} {xa : Nat} {xb : Nat} {X_size : Int32} {X_notes : Nat → Int32} {su_lines : Int32} {su_length : Int32} {su_perNote : Int32} {su_above : Int32} {su_numbers : Nat → Int32} {su_given : Nat → Nat → Int32} {fi_faults : Int32} {fi_highest : Int32} {fi_firstHighest : Int32} {fi_faultRules : Nat → Int32} {fi_faultNotes : Nat → Int32} {fi_faultLines : Nat → Int32} {k13 : Int32 → (Nat → Int32) → (Nat → Int32) → (Nat → Int32) → Int32 → Int32 → Int32 → Option (Int32 × (Nat → Int32) × (Nat → Int32) × (Nat → Int32))} {x1 : Int32} {x3 : Int32} {x4 : Int32} {H : Heap} {locs : List Loc} {ls : Array Slot} (C : Cx p s m meth c args A D kc R_FaultFinder b_FaultFinder_ask 5 none) (hk13 : (∀ (fi_faults : Int32) (fi_faultRules : Nat → Int32) (fi_faultNotes : Nat → Int32) (fi_faultLines : Nat → Int32) (x1 : Int32) (x3 : Int32) (x4 : Int32) (H : Heap) (locs : List Loc) (ls : Array Slot), k13 fi_faults fi_faultRules fi_faultNotes fi_faultLines x1 x3 x4 = some r → St D A s (wd_FaultFinder_ask kc ad xa xb X_size X_notes su_lines su_length su_perNote su_above su_numbers su_given fi_faults fi_highest fi_firstHighest fi_faultRules fi_faultNotes fi_faultLines) H locs → lv_has ls 5 [(0, .ref (ad 9)), (1, .int x1), (2, .ref xa), (3, .int x3), (4, .int x4)] → W p l e rm_FaultFinder_ask s m args below meth c H locs 0 0 (MQ below (Qv D A (wd_FaultFinder_ask kc ad xa xb X_size X_notes su_lines su_length su_perNote su_above su_numbers su_given r.1 fi_highest fi_firstHighest r.2.1 r.2.2.1 r.2.2.2)) args s 0 0 A) (F0 m 13 ls []))) (hm : m_FaultFinder_ask_13b F X_size X_notes su_lines su_perNote su_above su_numbers su_given fi_highest fi_firstHighest k13 fi_faults fi_faultRules fi_faultNotes fi_faultLines x1 x3 x4 = some r) (hZ : St D A s (wd_FaultFinder_ask kc ad xa xb X_size X_notes su_lines su_length su_perNote su_above su_numbers su_given fi_faults fi_highest fi_firstHighest fi_faultRules fi_faultNotes fi_faultLines) H locs) (hl : lv_has ls 5 [(0, .ref (ad 9)), (1, .int x1), (2, .ref xa), (3, .int x3), (4, .int x4)]) : W p l e rm_FaultFinder_ask s m args below meth c H locs 0 0 (MQ below (Qv D A (wd_FaultFinder_ask kc ad xa xb X_size X_notes su_lines su_length su_perNote su_above su_numbers su_given r.1 fi_highest fi_firstHighest r.2.1 r.2.2.1 r.2.2.2)) args s 0 0 A) (F0 m 13 ls []) := by
  obtain ⟨hx, hb, hr, hts, hown, hml, hlocks, hK, hN, hA, hX⟩ := id C
  obtain ⟨hP, hD, hS⟩ := hZ
  unfold m_FaultFinder_ask_13b at hm
  refine lv_iload hx hb d_FaultFinder_ask_13 (lv_at hl 4 rfl) ?_
  refine lv_aload_n hx hb d_FaultFinder_ask_15 rfl (lv_at hl 0 rfl) ?_
  refine va_get (D := D) (ci := 2) (v := .ref (ad 1)) (C := R_FaultFinder) (T := T_FaultFinder) (N := 8) hx hb hts inG_FaultFinder hown hK hP 9 rfl rfl 0 (by decide) (hts _ gw_217) (fun _ h9 => h9) rfl d_FaultFinder_ask_16 ?_
  refine va_getN (D := D) (ci := 7) (v := .int su_lines) (C := R_Setup) (T := T_Setup) (N := 7) hx hb hts inG_Setup hown hK hP 2 rfl rfl 3 (by decide) (va_Nw.use rfl (hN _ nw_172)) (fun _ h9 => h9) rfl d_FaultFinder_ask_19 ?_
  refine lv_icmp_ge (tgt := 51) hx hb d_FaultFinder_ask_22 (by decide) (fun c1 => ?_) (fun c1 => ?_)
  · replace hm := ifT hm c1
    refine lv_goto (tgt := 71) hx hb d_FaultFinder_ask_51 (by decide) ?_
    replace hm := Option.some.inj hm; subst hm
    exact zret_v C hP hD hS d_FaultFinder_ask_71
  · replace hm := ifF hm c1
    refine lv_aload_n hx hb d_FaultFinder_ask_25 rfl (lv_at hl 0 rfl) ?_
    refine lv_iload hx hb d_FaultFinder_ask_26 (lv_at hl 4 rfl) ?_
    refine lv_iload_n hx hb d_FaultFinder_ask_28 rfl (lv_at hl 1 rfl) ?_
    refine lv_aload_n hx hb d_FaultFinder_ask_29 rfl (lv_at hl 2 rfl) ?_
    refine lv_iload_n hx hb d_FaultFinder_ask_30 rfl (lv_at hl 3 rfl) ?_
    obtain ⟨u2, hc3, hm⟩ := bd_some hm
    refine zV_i (n := 4) (wr := [((ad 10), .inl (kc 0, 200, .inl fi_faultRules)), ((ad 11), .inl (kc 0, 200, .inl fi_faultNotes)), ((ad 12), .inl (kc 0, 200, .inl fi_faultLines))]) (w1 := (wd_FaultFinder_breaksWith kc ad xa xb X_size X_notes su_lines su_length su_perNote su_above su_numbers su_given fi_faults fi_highest fi_firstHighest)) (ws1 := (wd_FaultFinder_ask kc ad xa xb X_size X_notes su_lines su_length su_perNote su_above su_numbers su_given fi_faults fi_highest fi_firstHighest fi_faultRules fi_faultNotes fi_faultLines)) (As := [.int x4, .int x1, .ref xa, .int x3]) (rest := []) (ci := 2) (q0 := 9) (y := y_FaultFinder_breaksWith) ⟨hx, hb, hml, hown, hts⟩ (fun sz => c_FaultFinder_breaksWith hc3 sz) gw_762 gw_759 gw_761 gw_67 gw_115 hd_FaultFinder_breaksWith ⟨Nat.le_of_ble_eq_true rfl, Nat.le_of_ble_eq_true rfl⟩ ⟨rfl, rfl⟩ ⟨Nat.zero_le _, Nat.zero_le _⟩ hK hN hP hD hS hA hX [0, 1, 2, 3, 4, 5, 6, 7, 8, 9] [10, 11, 12] [3, 4, 5, 6, 7, 8, 9, 10, 11, 12, 0, 1, 2] rfl rfl (by decide) (by decide) (by decide) rfl (by decide) rfl rfl rfl hl.1 rfl (Nat.le_of_ble_eq_true rfl) d_FaultFinder_ask_31 (fun H locs hP hD hS => ?_)
    refine lv_if_eq (tgt := 45) hx hb d_FaultFinder_ask_34 (by decide) (fun c4 => ?_) (fun c4 => ?_)
    · replace hm := ifT hm c4
      exact l_FaultFinder_ask_45 C hk13 hm ⟨hP, hD, hS⟩ (lv_sub hl [0, 1, 2, 3, 4] rfl)
    · replace hm := ifF hm c4
      refine lv_aload_n hx hb d_FaultFinder_ask_37 rfl (lv_at hl 0 rfl) ?_
      refine lv_iload_n hx hb d_FaultFinder_ask_38 rfl (lv_at hl 1 rfl) ?_
      refine lv_iload_n hx hb d_FaultFinder_ask_39 rfl (lv_at hl 3 rfl) ?_
      refine lv_iload hx hb d_FaultFinder_ask_40 (lv_at hl 4 rfl) ?_
      obtain ⟨u5, hc6, hm⟩ := bd_some hm
      refine zV_v (n := 3) (wr := [(xa, .inr (3, [.ref xb, .int X_size])), (xb, .inl (kc 0, 45, .inl X_notes)), ((ad 1), .inr (7, [.ref (ad 2), .ref (ad 3), .ref (ad 4), .int su_lines, .int su_length, .int su_perNote, .int su_above])), ((ad 2), .inl (kc 0, 18, .inl su_numbers)), ((ad 4), .inl (kc 3, 3, .inr (.inr (.inr (.inr (fun i => if i < 3 then some (ad (5 + i)) else none)))))), ((ad 5), .inl (kc 0, 12, .inl (su_given 0))), ((ad 6), .inl (kc 0, 12, .inl (su_given 1))), ((ad 7), .inl (kc 0, 12, .inl (su_given 2))), ((ad 8), .inr (5, [.ref (ad 1)]))]) (w1 := (wd_FaultFinder_addFault kc ad u5.1 fi_highest fi_firstHighest u5.2.1 u5.2.2.1 u5.2.2.2)) (ws1 := (wd_FaultFinder_ask kc ad xa xb X_size X_notes su_lines su_length su_perNote su_above su_numbers su_given u5.1 fi_highest fi_firstHighest u5.2.1 u5.2.2.1 u5.2.2.2)) (As := [.int x1, .int x3, .int x4]) (rest := []) (ci := 2) (q0 := 0) (y := y_FaultFinder_addFault) ⟨hx, hb, hml, hown, hts⟩ (fun sz => c_FaultFinder_addFault hc6 sz) gw_775 gw_772 gw_774 gw_69 gw_115 hd_FaultFinder_addFault ⟨Nat.le_of_ble_eq_true rfl, Nat.le_of_ble_eq_true rfl⟩ ⟨rfl, rfl⟩ ⟨Nat.zero_le _, Nat.zero_le _⟩ hK hN hP hD hS hA hX [9, 10, 11, 12] [0, 1, 2, 3, 4, 5, 6, 7, 8] [0, 1, 2, 3, 4, 5, 6, 7, 8, 9, 10, 11, 12] rfl rfl (by decide) (by decide) (by decide) rfl (by decide) rfl rfl rfl hl.1 rfl (Nat.le_of_ble_eq_true rfl) d_FaultFinder_ask_42 (fun H locs hP hD hS => ?_)
      exact l_FaultFinder_ask_45 C hk13 hm ⟨hP, hD, hS⟩ (lv_sub hl [0, 1, 2, 3, 4] rfl)
def m_FaultFinder_ask_13 (F : Nat) (X_size : Int32) (X_notes : Nat → Int32) (su_lines : Int32) (su_perNote : Int32) (su_above : Int32) (su_numbers : Nat → Int32) (su_given : Nat → Nat → Int32) (fi_highest : Int32) (fi_firstHighest : Int32)  : Nat → Int32 → (Nat → Int32) → (Nat → Int32) → (Nat → Int32) → Int32 → Int32 → Int32 → Option (Int32 × (Nat → Int32) × (Nat → Int32) × (Nat → Int32))
  | 0 => fun _ _ _ _ _ _ _ => none
  | n + 1 => m_FaultFinder_ask_13b F X_size X_notes su_lines su_perNote su_above su_numbers su_given fi_highest fi_firstHighest  (m_FaultFinder_ask_13 F X_size X_notes su_lines su_perNote su_above su_numbers su_given fi_highest fi_firstHighest  n)
set_option maxHeartbeats 4000000 in
set_option maxRecDepth 100000 in
theorem lp_FaultFinder_ask_13 {r : Int32 × (Nat → Int32) × (Nat → Int32) × (Nat → Int32)} {F : Nat} {ad : Nat → Nat} {xa : Nat} {xb : Nat} {X_size : Int32} {X_notes : Nat → Int32} {su_lines : Int32} {su_length : Int32} {su_perNote : Int32} {su_above : Int32} {su_numbers : Nat → Int32} {su_given : Nat → Nat → Int32} {fi_highest : Int32} {fi_firstHighest : Int32}  (C : Cx p s m meth c args A D kc R_FaultFinder b_FaultFinder_ask 5 none)  : ∀ (n : Nat) (fi_faults : Int32) (fi_faultRules : Nat → Int32) (fi_faultNotes : Nat → Int32) (fi_faultLines : Nat → Int32) (x1 : Int32) (x3 : Int32) (x4 : Int32) (H : Heap) (locs : List Loc) (ls : Array Slot), m_FaultFinder_ask_13 F X_size X_notes su_lines su_perNote su_above su_numbers su_given fi_highest fi_firstHighest  n fi_faults fi_faultRules fi_faultNotes fi_faultLines x1 x3 x4 = some r → St D A s (wd_FaultFinder_ask kc ad xa xb X_size X_notes su_lines su_length su_perNote su_above su_numbers su_given fi_faults fi_highest fi_firstHighest fi_faultRules fi_faultNotes fi_faultLines) H locs → lv_has ls 5 [(0, .ref (ad 9)), (1, .int x1), (2, .ref xa), (3, .int x3), (4, .int x4)] → W p l e rm_FaultFinder_ask s m args below meth c H locs 0 0 (MQ below (Qv D A (wd_FaultFinder_ask kc ad xa xb X_size X_notes su_lines su_length su_perNote su_above su_numbers su_given r.1 fi_highest fi_firstHighest r.2.1 r.2.2.1 r.2.2.2)) args s 0 0 A) (F0 m 13 ls []) := by
  intro n
  induction n with
  | zero => intro fi_faults fi_faultRules fi_faultNotes fi_faultLines x1 x3 x4 H locs ls hm; cases hm
  | succ n ih => intro fi_faults fi_faultRules fi_faultNotes fi_faultLines x1 x3 x4 H locs ls hm hZ hl; exact l_FaultFinder_ask_13 C  ih hm hZ hl
def m_FaultFinder_ask_54 (F : Nat) (X_size : Int32) (X_notes : Nat → Int32) (su_lines : Int32) (su_perNote : Int32) (su_above : Int32) (su_numbers : Nat → Int32) (su_given : Nat → Nat → Int32) (fi_highest : Int32) (fi_firstHighest : Int32)  (fi_faults : Int32) (fi_faultRules : Nat → Int32) (fi_faultNotes : Nat → Int32) (fi_faultLines : Nat → Int32) (x1 : Int32) (x3 : Int32) : Option (Int32 × (Nat → Int32) × (Nat → Int32) × (Nat → Int32)) :=
  (bd (m_FaultFinder_breaksAlone F X_size X_notes su_lines su_perNote su_numbers su_given fi_highest fi_firstHighest x1 x3) (fun u1 => (if u1 = (0 : Int32) then
    (some (fi_faults, fi_faultRules, fi_faultNotes, fi_faultLines))
  else
    (bd (m_FaultFinder_addFault fi_faults fi_faultRules fi_faultNotes fi_faultLines x1 x3 (-1 : Int32)) (fun u4 => (some (u4.1, u4.2.1, u4.2.2.1, u4.2.2.2)))))))
set_option maxHeartbeats 4000000 in
set_option maxRecDepth 100000 in
theorem l_FaultFinder_ask_54 {r : Int32 × (Nat → Int32) × (Nat → Int32) × (Nat → Int32)} {F : Nat} {ad : Nat → Nat} {xa : Nat} {xb : Nat} {X_size : Int32} {X_notes : Nat → Int32} {su_lines : Int32} {su_length : Int32} {su_perNote : Int32} {su_above : Int32} {su_numbers : Nat → Int32} {su_given : Nat → Nat → Int32} {fi_faults : Int32} {fi_highest : Int32} {fi_firstHighest : Int32} {fi_faultRules : Nat → Int32} {fi_faultNotes : Nat → Int32} {fi_faultLines : Nat → Int32}  {x1 : Int32} {x3 : Int32} {H : Heap} {locs : List Loc} {ls : Array Slot} (C : Cx p s m meth c args A D kc R_FaultFinder b_FaultFinder_ask 5 none)  (hm : m_FaultFinder_ask_54 F X_size X_notes su_lines su_perNote su_above su_numbers su_given fi_highest fi_firstHighest  fi_faults fi_faultRules fi_faultNotes fi_faultLines x1 x3 = some r) (hZ : St D A s (wd_FaultFinder_ask kc ad xa xb X_size X_notes su_lines su_length su_perNote su_above su_numbers su_given fi_faults fi_highest fi_firstHighest fi_faultRules fi_faultNotes fi_faultLines) H locs) (hl : lv_has ls 5 [(0, .ref (ad 9)), (1, .int x1), (2, .ref xa), (3, .int x3)]) : W p l e rm_FaultFinder_ask s m args below meth c H locs 0 0 (MQ below (Qv D A (wd_FaultFinder_ask kc ad xa xb X_size X_notes su_lines su_length su_perNote su_above su_numbers su_given r.1 fi_highest fi_firstHighest r.2.1 r.2.2.1 r.2.2.2)) args s 0 0 A) (F0 m 54 ls []) := by
  obtain ⟨hx, hb, hr, hts, hown, hml, hlocks, hK, hN, hA, hX⟩ := id C
  obtain ⟨hP, hD, hS⟩ := hZ
  unfold m_FaultFinder_ask_54 at hm
  refine lv_aload_n hx hb d_FaultFinder_ask_54 rfl (lv_at hl 0 rfl) ?_
  refine lv_iload_n hx hb d_FaultFinder_ask_55 rfl (lv_at hl 1 rfl) ?_
  refine lv_aload_n hx hb d_FaultFinder_ask_56 rfl (lv_at hl 2 rfl) ?_
  refine lv_iload_n hx hb d_FaultFinder_ask_57 rfl (lv_at hl 3 rfl) ?_
  obtain ⟨u1, hc2, hm⟩ := bd_some hm
  refine zV_i (n := 3) (wr := [((ad 10), .inl (kc 0, 200, .inl fi_faultRules)), ((ad 11), .inl (kc 0, 200, .inl fi_faultNotes)), ((ad 12), .inl (kc 0, 200, .inl fi_faultLines))]) (w1 := (wd_FaultFinder_breaksAlone kc ad xa xb X_size X_notes su_lines su_length su_perNote su_above su_numbers su_given fi_faults fi_highest fi_firstHighest)) (ws1 := (wd_FaultFinder_ask kc ad xa xb X_size X_notes su_lines su_length su_perNote su_above su_numbers su_given fi_faults fi_highest fi_firstHighest fi_faultRules fi_faultNotes fi_faultLines)) (As := [.int x1, .ref xa, .int x3]) (rest := []) (ci := 2) (q0 := 9) (y := y_FaultFinder_breaksAlone) ⟨hx, hb, hml, hown, hts⟩ (fun sz => c_FaultFinder_breaksAlone hc2 sz) gw_779 gw_776 gw_778 gw_70 gw_115 hd_FaultFinder_breaksAlone ⟨Nat.le_of_ble_eq_true rfl, Nat.le_of_ble_eq_true rfl⟩ ⟨rfl, rfl⟩ ⟨Nat.zero_le _, Nat.zero_le _⟩ hK hN hP hD hS hA hX [0, 1, 2, 3, 4, 5, 6, 7, 8, 9] [10, 11, 12] [3, 4, 5, 6, 7, 8, 9, 10, 11, 12, 0, 1, 2] rfl rfl (by decide) (by decide) (by decide) rfl (by decide) rfl rfl rfl hl.1 rfl (Nat.le_of_ble_eq_true rfl) d_FaultFinder_ask_58 (fun H locs hP hD hS => ?_)
  refine lv_if_eq (tgt := 71) hx hb d_FaultFinder_ask_61 (by decide) (fun c3 => ?_) (fun c3 => ?_)
  · replace hm := ifT hm c3
    replace hm := Option.some.inj hm; subst hm
    exact zret_v C hP hD hS d_FaultFinder_ask_71
  · replace hm := ifF hm c3
    refine lv_aload_n hx hb d_FaultFinder_ask_64 rfl (lv_at hl 0 rfl) ?_
    refine lv_iload_n hx hb d_FaultFinder_ask_65 rfl (lv_at hl 1 rfl) ?_
    refine lv_iload_n hx hb d_FaultFinder_ask_66 rfl (lv_at hl 3 rfl) ?_
    refine lv_iconst (v := -1) hx hb d_FaultFinder_ask_67 (by decide) ?_
    obtain ⟨u4, hc5, hm⟩ := bd_some hm
    refine zV_v (n := 3) (wr := [(xa, .inr (3, [.ref xb, .int X_size])), (xb, .inl (kc 0, 45, .inl X_notes)), ((ad 1), .inr (7, [.ref (ad 2), .ref (ad 3), .ref (ad 4), .int su_lines, .int su_length, .int su_perNote, .int su_above])), ((ad 2), .inl (kc 0, 18, .inl su_numbers)), ((ad 4), .inl (kc 3, 3, .inr (.inr (.inr (.inr (fun i => if i < 3 then some (ad (5 + i)) else none)))))), ((ad 5), .inl (kc 0, 12, .inl (su_given 0))), ((ad 6), .inl (kc 0, 12, .inl (su_given 1))), ((ad 7), .inl (kc 0, 12, .inl (su_given 2))), ((ad 8), .inr (5, [.ref (ad 1)]))]) (w1 := (wd_FaultFinder_addFault kc ad u4.1 fi_highest fi_firstHighest u4.2.1 u4.2.2.1 u4.2.2.2)) (ws1 := (wd_FaultFinder_ask kc ad xa xb X_size X_notes su_lines su_length su_perNote su_above su_numbers su_given u4.1 fi_highest fi_firstHighest u4.2.1 u4.2.2.1 u4.2.2.2)) (As := [.int x1, .int x3, .int (-1 : Int32)]) (rest := []) (ci := 2) (q0 := 0) (y := y_FaultFinder_addFault) ⟨hx, hb, hml, hown, hts⟩ (fun sz => c_FaultFinder_addFault hc5 sz) gw_775 gw_772 gw_774 gw_69 gw_115 hd_FaultFinder_addFault ⟨Nat.le_of_ble_eq_true rfl, Nat.le_of_ble_eq_true rfl⟩ ⟨rfl, rfl⟩ ⟨Nat.zero_le _, Nat.zero_le _⟩ hK hN hP hD hS hA hX [9, 10, 11, 12] [0, 1, 2, 3, 4, 5, 6, 7, 8] [0, 1, 2, 3, 4, 5, 6, 7, 8, 9, 10, 11, 12] rfl rfl (by decide) (by decide) (by decide) rfl (by decide) rfl rfl rfl hl.1 rfl (Nat.le_of_ble_eq_true rfl) d_FaultFinder_ask_68 (fun H locs hP hD hS => ?_)
    replace hm := Option.some.inj hm; subst hm
    exact zret_v C hP hD hS d_FaultFinder_ask_71
def m_FaultFinder_ask (F : Nat) (X_size : Int32) (X_notes : Nat → Int32) (su_lines : Int32) (su_perNote : Int32) (su_above : Int32) (su_numbers : Nat → Int32) (su_given : Nat → Nat → Int32) (fi_highest : Int32) (fi_firstHighest : Int32) (fi_faults : Int32) (fi_faultRules : Nat → Int32) (fi_faultNotes : Nat → Int32) (fi_faultLines : Nat → Int32) (a1 : Int32) (a3 : Int32) : Option (Int32 × (Nat → Int32) × (Nat → Int32) × (Nat → Int32)) :=
  (if a1 < (1 : Int32) then
    m_FaultFinder_ask_54 F X_size X_notes su_lines su_perNote su_above su_numbers su_given fi_highest fi_firstHighest  fi_faults fi_faultRules fi_faultNotes fi_faultLines a1 a3
  else
    (if (4 : Int32) < a1 then
      m_FaultFinder_ask_54 F X_size X_notes su_lines su_perNote su_above su_numbers su_given fi_highest fi_firstHighest  fi_faults fi_faultRules fi_faultNotes fi_faultLines a1 a3
    else
      m_FaultFinder_ask_13 F X_size X_notes su_lines su_perNote su_above su_numbers su_given fi_highest fi_firstHighest  F fi_faults fi_faultRules fi_faultNotes fi_faultLines a1 a3 (0 : Int32)))
set_option maxHeartbeats 4000000 in
set_option maxRecDepth 100000 in
theorem e_FaultFinder_ask {r : Int32 × (Nat → Int32) × (Nat → Int32) × (Nat → Int32)} {F : Nat} {ad : Nat → Nat} {xa : Nat} {xb : Nat} {X_size : Int32} {X_notes : Nat → Int32} {su_lines : Int32} {su_length : Int32} {su_perNote : Int32} {su_above : Int32} {su_numbers : Nat → Int32} {su_given : Nat → Nat → Int32} {fi_faults : Int32} {fi_highest : Int32} {fi_firstHighest : Int32} {fi_faultRules : Nat → Int32} {fi_faultNotes : Nat → Int32} {fi_faultLines : Nat → Int32} {a1 : Int32} {a3 : Int32} {H : Heap} {locs : List Loc} {ls : Array Slot} (C : Cx p s m meth c args A D kc R_FaultFinder b_FaultFinder_ask 5 none) (hm : m_FaultFinder_ask F X_size X_notes su_lines su_perNote su_above su_numbers su_given fi_highest fi_firstHighest fi_faults fi_faultRules fi_faultNotes fi_faultLines a1 a3 = some r) (hZ : St D A s (wd_FaultFinder_ask kc ad xa xb X_size X_notes su_lines su_length su_perNote su_above su_numbers su_given fi_faults fi_highest fi_firstHighest fi_faultRules fi_faultNotes fi_faultLines) H locs) (hl : lv_has ls 5 [(0, .ref (ad 9)), (1, .int a1), (2, .ref xa), (3, .int a3)]) : W p l e rm_FaultFinder_ask s m args below meth c H locs 0 0 (MQ below (Qv D A (wd_FaultFinder_ask kc ad xa xb X_size X_notes su_lines su_length su_perNote su_above su_numbers su_given r.1 fi_highest fi_firstHighest r.2.1 r.2.2.1 r.2.2.2)) args s 0 0 A) (F0 m 0 ls []) := by
  obtain ⟨hx, hb, hr, hts, hown, hml, hlocks, hK, hN, hA, hX⟩ := id C
  obtain ⟨hP, hD, hS⟩ := hZ
  unfold m_FaultFinder_ask at hm
  refine lv_iload_n hx hb d_FaultFinder_ask_0 rfl (lv_at hl 1 rfl) ?_
  refine lv_iconst (v := 1) hx hb d_FaultFinder_ask_1 (by decide) ?_
  refine lv_icmp_lt (tgt := 54) hx hb d_FaultFinder_ask_2 (by decide) (fun c1 => ?_) (fun c1 => ?_)
  · replace hm := ifT hm c1
    exact l_FaultFinder_ask_54 C  hm ⟨hP, hD, hS⟩ (lv_sub hl [0, 1, 2, 3] rfl)
  · replace hm := ifF hm c1
    refine lv_iload_n hx hb d_FaultFinder_ask_5 rfl (lv_at hl 1 rfl) ?_
    refine lv_iconst (v := 4) hx hb d_FaultFinder_ask_6 (by decide) ?_
    refine lv_icmp_gt (tgt := 54) hx hb d_FaultFinder_ask_7 (by decide) (fun c2 => ?_) (fun c2 => ?_)
    · replace hm := ifT hm c2
      exact l_FaultFinder_ask_54 C  hm ⟨hP, hD, hS⟩ (lv_sub hl [0, 1, 2, 3] rfl)
    · replace hm := ifF hm c2
      refine lv_iconst (v := 0) hx hb d_FaultFinder_ask_10 (by decide) ?_
      refine lv_istore (lv' := [(4, .int (0 : Int32)), (0, .ref (ad 9)), (1, .int a1), (2, .ref xa), (3, .int a3)]) hx hb d_FaultFinder_ask_11 hl (by decide) rfl (fun ls hl => ?_)
      exact lp_FaultFinder_ask_13 C  F fi_faults fi_faultRules fi_faultNotes fi_faultLines a1 a3 (0 : Int32) _ _ _ hm ⟨hP, hD, hS⟩ (lv_sub hl [1, 2, 3, 4, 0] rfl)
set_option maxHeartbeats 4000000 in
set_option maxRecDepth 100000 in
theorem c_FaultFinder_ask {l : Launch} {D : va_G} {kc : Nat → ClassId} {r : Int32 × (Nat → Int32) × (Nat → Int32) × (Nat → Int32)} {F : Nat} {ad : Nat → Nat} {xa : Nat} {xb : Nat} {X_size : Int32} {X_notes : Nat → Int32} {su_lines : Int32} {su_length : Int32} {su_perNote : Int32} {su_above : Int32} {su_numbers : Nat → Int32} {su_given : Nat → Nat → Int32} {fi_faults : Int32} {fi_highest : Int32} {fi_firstHighest : Int32} {fi_faultRules : Nat → Int32} {fi_faultNotes : Nat → Int32} {fi_faultLines : Nat → Int32} {a1 : Int32} {a3 : Int32} (hm : m_FaultFinder_ask F X_size X_notes su_lines su_perNote su_above su_numbers su_given fi_highest fi_firstHighest fi_faults fi_faultRules fi_faultNotes fi_faultLines a1 a3 = some r) (sz : Nat) : Cv l y_FaultFinder_ask ws_FaultFinder_ask rm_FaultFinder_ask D kc sz [.ref (ad 9), .int a1, .ref xa, .int a3] (wd_FaultFinder_ask kc ad xa xb X_size X_notes su_lines su_length su_perNote su_above su_numbers su_given fi_faults fi_highest fi_firstHighest fi_faultRules fi_faultNotes fi_faultLines) (wd_FaultFinder_ask kc ad xa xb X_size X_notes su_lines su_length su_perNote su_above su_numbers su_given r.1 fi_highest fi_firstHighest r.2.1 r.2.2.1 r.2.2.2) :=
  Cz_of (Qf := fun A => (Qv D A (wd_FaultFinder_ask kc ad xa xb X_size X_notes su_lines su_length su_perNote su_above su_numbers su_given r.1 fi_highest fi_firstHighest r.2.1 r.2.2.1 r.2.2.2))) (cc := b_FaultFinder_ask) (maxL := 5) (ret := none) (by decide) rfl rfl (fun C hZ hl => e_FaultFinder_ask C hm hZ hl)
abbrev b_FaultFinder_examine : ByteArray := prog_2_method_2_code
abbrev y_FaultFinder_examine : MethodName := ⟨"SpeciesSolver$FaultFinder", "examine", "(LSpeciesSolver$Line;)I"⟩
theorem d_FaultFinder_examine_0 : decode b_FaultFinder_examine 0 = .ok (.aload_n 0, 1) := by decide +kernel
theorem d_FaultFinder_examine_1 : decode b_FaultFinder_examine 1 = .ok (.iconst 0, 1) := by decide +kernel
theorem d_FaultFinder_examine_2 : decode b_FaultFinder_examine 2 = .ok (.putfield 21, 3) := by decide +kernel
theorem d_FaultFinder_examine_5 : decode b_FaultFinder_examine 5 = .ok (.aload_n 0, 1) := by decide +kernel
theorem d_FaultFinder_examine_6 : decode b_FaultFinder_examine 6 = .ok (.aload_n 1, 1) := by decide +kernel
theorem d_FaultFinder_examine_7 : decode b_FaultFinder_examine 7 = .ok (.invokevirtual 39, 3) := by decide +kernel
theorem d_FaultFinder_examine_10 : decode b_FaultFinder_examine 10 = .ok (.iconst 0, 1) := by decide +kernel
theorem d_FaultFinder_examine_11 : decode b_FaultFinder_examine 11 = .ok (.istore_n 2, 1) := by decide +kernel
theorem d_FaultFinder_examine_12 : decode b_FaultFinder_examine 12 = .ok (.iload_n 2, 1) := by decide +kernel
theorem d_FaultFinder_examine_13 : decode b_FaultFinder_examine 13 = .ok (.aload_n 1, 1) := by decide +kernel
theorem d_FaultFinder_examine_14 : decode b_FaultFinder_examine 14 = .ok (.getfield 43, 3) := by decide +kernel
theorem d_FaultFinder_examine_17 : decode b_FaultFinder_examine 17 = .ok (.if_icmp .ge 42, 3) := by decide +kernel
theorem d_FaultFinder_examine_20 : decode b_FaultFinder_examine 20 = .ok (.iconst 0, 1) := by decide +kernel
theorem d_FaultFinder_examine_21 : decode b_FaultFinder_examine 21 = .ok (.istore_n 3, 1) := by decide +kernel
theorem d_FaultFinder_examine_22 : decode b_FaultFinder_examine 22 = .ok (.iload_n 3, 1) := by decide +kernel
theorem d_FaultFinder_examine_23 : decode b_FaultFinder_examine 23 = .ok (.bipush 11, 2) := by decide +kernel
theorem d_FaultFinder_examine_25 : decode b_FaultFinder_examine 25 = .ok (.if_icmp .ge 28, 3) := by decide +kernel
theorem d_FaultFinder_examine_28 : decode b_FaultFinder_examine 28 = .ok (.aload_n 0, 1) := by decide +kernel
theorem d_FaultFinder_examine_29 : decode b_FaultFinder_examine 29 = .ok (.getfield 31, 3) := by decide +kernel
theorem d_FaultFinder_examine_32 : decode b_FaultFinder_examine 32 = .ok (.getfield 48, 3) := by decide +kernel
theorem d_FaultFinder_examine_35 : decode b_FaultFinder_examine 35 = .ok (.iload_n 3, 1) := by decide +kernel
theorem d_FaultFinder_examine_36 : decode b_FaultFinder_examine 36 = .ok (.baload, 1) := by decide +kernel
theorem d_FaultFinder_examine_37 : decode b_FaultFinder_examine 37 = .ok (.ifCond .eq 10, 3) := by decide +kernel
theorem d_FaultFinder_examine_40 : decode b_FaultFinder_examine 40 = .ok (.aload_n 0, 1) := by decide +kernel
theorem d_FaultFinder_examine_41 : decode b_FaultFinder_examine 41 = .ok (.iload_n 3, 1) := by decide +kernel
theorem d_FaultFinder_examine_42 : decode b_FaultFinder_examine 42 = .ok (.aload_n 1, 1) := by decide +kernel
theorem d_FaultFinder_examine_43 : decode b_FaultFinder_examine 43 = .ok (.iload_n 2, 1) := by decide +kernel
theorem d_FaultFinder_examine_44 : decode b_FaultFinder_examine 44 = .ok (.invokevirtual 54, 3) := by decide +kernel
theorem d_FaultFinder_examine_47 : decode b_FaultFinder_examine 47 = .ok (.iinc 3 1, 3) := by decide +kernel
theorem d_FaultFinder_examine_50 : decode b_FaultFinder_examine 50 = .ok (.goto (-28), 3) := by decide +kernel
theorem d_FaultFinder_examine_53 : decode b_FaultFinder_examine 53 = .ok (.iinc 2 1, 3) := by decide +kernel
theorem d_FaultFinder_examine_56 : decode b_FaultFinder_examine 56 = .ok (.goto (-44), 3) := by decide +kernel
theorem d_FaultFinder_examine_59 : decode b_FaultFinder_examine 59 = .ok (.aload_n 0, 1) := by decide +kernel
theorem d_FaultFinder_examine_60 : decode b_FaultFinder_examine 60 = .ok (.getfield 21, 3) := by decide +kernel
theorem d_FaultFinder_examine_63 : decode b_FaultFinder_examine 63 = .ok (.ireturn, 1) := by decide +kernel
abbrev wd_FaultFinder_examine (kc : Nat → ClassId) (ad : Nat → Nat) (xa : Nat) (xb : Nat) (X_size : Int32) (X_notes : Nat → Int32) (su_lines : Int32) (su_length : Int32) (su_perNote : Int32) (su_above : Int32) (su_numbers : Nat → Int32) (su_on : Nat → Int32) (su_given : Nat → Nat → Int32) (fi_faults : Int32) (fi_highest : Int32) (fi_firstHighest : Int32) (fi_faultRules : Nat → Int32) (fi_faultNotes : Nat → Int32) (fi_faultLines : Nat → Int32) : va_W := [(xa, .inr (3, [.ref xb, .int X_size])), (xb, .inl (kc 0, 45, .inl X_notes)), ((ad 1), .inr (7, [.ref (ad 2), .ref (ad 3), .ref (ad 4), .int su_lines, .int su_length, .int su_perNote, .int su_above])), ((ad 2), .inl (kc 0, 18, .inl su_numbers)), ((ad 3), .inl (kc 1, 11, .inl su_on)), ((ad 4), .inl (kc 3, 3, .inr (.inr (.inr (.inr (fun i => if i < 3 then some (ad (5 + i)) else none)))))), ((ad 5), .inl (kc 0, 12, .inl (su_given 0))), ((ad 6), .inl (kc 0, 12, .inl (su_given 1))), ((ad 7), .inl (kc 0, 12, .inl (su_given 2))), ((ad 8), .inr (5, [.ref (ad 1)])), ((ad 9), .inr (2, [.ref (ad 1), .ref (ad 8), .ref (ad 10), .ref (ad 11), .ref (ad 12), .int fi_faults, .int fi_highest, .int fi_firstHighest])), ((ad 10), .inl (kc 0, 200, .inl fi_faultRules)), ((ad 11), .inl (kc 0, 200, .inl fi_faultNotes)), ((ad 12), .inl (kc 0, 200, .inl fi_faultLines))]
abbrev rm_FaultFinder_examine : Room := { frames := 5, cells := 0, slots := 0, locals := 116 }
abbrev cw_FaultFinder_examine : Cond := .code y_FaultFinder_examine b_FaultFinder_examine 4 (some .int)
abbrev ws_FaultFinder_examine : List Cond := cw_FaultFinder_examine :: GW
theorem hd_FaultFinder_examine : y_FaultFinder_examine.cls ≠ "java/lang/invoke/MethodHandle" ∧ y_FaultFinder_examine.cls ≠ "java/lang/invoke/VarHandle" ∧ (parseMethodDescriptor y_FaultFinder_examine.desc).map (fun d => d.parameters.length) = some 1 := by decide +kernel
def m_FaultFinder_examine_47 (F : Nat) (X_size : Int32) (X_notes : Nat → Int32) (su_lines : Int32) (su_perNote : Int32) (su_above : Int32) (su_numbers : Nat → Int32) (su_on : Nat → Int32) (su_given : Nat → Nat → Int32) (k12 : Int32 → Int32 → Int32 → (Nat → Int32) → (Nat → Int32) → (Nat → Int32) → Int32 → Option (Int32 × Int32 × Int32 × Int32 × (Nat → Int32) × (Nat → Int32) × (Nat → Int32))) (k22 : Int32 → Int32 → Int32 → (Nat → Int32) → (Nat → Int32) → (Nat → Int32) → Int32 → Int32 → Option (Int32 × Int32 × Int32 × Int32 × (Nat → Int32) × (Nat → Int32) × (Nat → Int32))) (fi_faults : Int32) (fi_highest : Int32) (fi_firstHighest : Int32) (fi_faultRules : Nat → Int32) (fi_faultNotes : Nat → Int32) (fi_faultLines : Nat → Int32) (x2 : Int32) (x3 : Int32) : Option (Int32 × Int32 × Int32 × Int32 × (Nat → Int32) × (Nat → Int32) × (Nat → Int32)) :=
  k22 fi_faults fi_highest fi_firstHighest fi_faultRules fi_faultNotes fi_faultLines x2 (x3 + 1)
set_option maxHeartbeats 4000000 in
set_option maxRecDepth 100000 in
theorem l_FaultFinder_examine_47 {r : Int32 × Int32 × Int32 × Int32 × (Nat → Int32) × (Nat → Int32) × (Nat → Int32)} {F : Nat} {ad : Nat → Nat} {xa : Nat} {xb : Nat} {X_size : Int32} {X_notes : Nat → Int32} {su_lines : Int32} {su_length : Int32} {su_perNote : Int32} {su_above : Int32} {su_numbers : Nat → Int32} {su_on : Nat → Int32} {su_given : Nat → Nat → Int32} {fi_faults : Int32} {fi_highest : Int32} {fi_firstHighest : Int32} {fi_faultRules : Nat → Int32} {fi_faultNotes : Nat → Int32} {fi_faultLines : Nat → Int32} {k12 : Int32 → Int32 → Int32 → (Nat → Int32) → (Nat → Int32) → (Nat → Int32) → Int32 → Option (Int32 × Int32 × Int32 × Int32 × (Nat → Int32) × (Nat → Int32) × (Nat → Int32))} {k22 : Int32 → Int32 → Int32 → (Nat → Int32) → (Nat → Int32) → (Nat → Int32) → Int32 → Int32 → Option (Int32 × Int32 × Int32 × Int32 × (Nat → Int32) × (Nat → Int32) × (Nat → Int32))} {x2 : Int32} {x3 : Int32} {H : Heap} {locs : List Loc} {ls : Array Slot} (C : Cx p s m meth c args A D kc R_FaultFinder b_FaultFinder_examine 4 (some .int)) (hk12 : (∀ (fi_faults : Int32) (fi_highest : Int32) (fi_firstHighest : Int32) (fi_faultRules : Nat → Int32) (fi_faultNotes : Nat → Int32) (fi_faultLines : Nat → Int32) (x2 : Int32) (H : Heap) (locs : List Loc) (ls : Array Slot), k12 fi_faults fi_highest fi_firstHighest fi_faultRules fi_faultNotes fi_faultLines x2 = some r → St D A s (wd_FaultFinder_examine kc ad xa xb X_size X_notes su_lines su_length su_perNote su_above su_numbers su_on su_given fi_faults fi_highest fi_firstHighest fi_faultRules fi_faultNotes fi_faultLines) H locs → lv_has ls 4 [(0, .ref (ad 9)), (1, .ref xa), (2, .int x2)] → W p l e rm_FaultFinder_examine s m args below meth c H locs 0 0 (MQ below (Qi D A (wd_FaultFinder_examine kc ad xa xb X_size X_notes su_lines su_length su_perNote su_above su_numbers su_on su_given r.2.1 r.2.2.1 r.2.2.2.1 r.2.2.2.2.1 r.2.2.2.2.2.1 r.2.2.2.2.2.2) r.1) args s 0 0 A) (F0 m 12 ls []))) (hk22 : (∀ (fi_faults : Int32) (fi_highest : Int32) (fi_firstHighest : Int32) (fi_faultRules : Nat → Int32) (fi_faultNotes : Nat → Int32) (fi_faultLines : Nat → Int32) (x2 : Int32) (x3 : Int32) (H : Heap) (locs : List Loc) (ls : Array Slot), k22 fi_faults fi_highest fi_firstHighest fi_faultRules fi_faultNotes fi_faultLines x2 x3 = some r → St D A s (wd_FaultFinder_examine kc ad xa xb X_size X_notes su_lines su_length su_perNote su_above su_numbers su_on su_given fi_faults fi_highest fi_firstHighest fi_faultRules fi_faultNotes fi_faultLines) H locs → lv_has ls 4 [(0, .ref (ad 9)), (1, .ref xa), (2, .int x2), (3, .int x3)] → W p l e rm_FaultFinder_examine s m args below meth c H locs 0 0 (MQ below (Qi D A (wd_FaultFinder_examine kc ad xa xb X_size X_notes su_lines su_length su_perNote su_above su_numbers su_on su_given r.2.1 r.2.2.1 r.2.2.2.1 r.2.2.2.2.1 r.2.2.2.2.2.1 r.2.2.2.2.2.2) r.1) args s 0 0 A) (F0 m 22 ls []))) (hm : m_FaultFinder_examine_47 F X_size X_notes su_lines su_perNote su_above su_numbers su_on su_given k12 k22 fi_faults fi_highest fi_firstHighest fi_faultRules fi_faultNotes fi_faultLines x2 x3 = some r) (hZ : St D A s (wd_FaultFinder_examine kc ad xa xb X_size X_notes su_lines su_length su_perNote su_above su_numbers su_on su_given fi_faults fi_highest fi_firstHighest fi_faultRules fi_faultNotes fi_faultLines) H locs) (hl : lv_has ls 4 [(0, .ref (ad 9)), (1, .ref xa), (2, .int x2), (3, .int x3)]) : W p l e rm_FaultFinder_examine s m args below meth c H locs 0 0 (MQ below (Qi D A (wd_FaultFinder_examine kc ad xa xb X_size X_notes su_lines su_length su_perNote su_above su_numbers su_on su_given r.2.1 r.2.2.1 r.2.2.2.1 r.2.2.2.2.1 r.2.2.2.2.2.1 r.2.2.2.2.2.2) r.1) args s 0 0 A) (F0 m 47 ls []) := by
  obtain ⟨hx, hb, hr, hts, hown, hml, hlocks, hK, hN, hA, hX⟩ := id C
  obtain ⟨hP, hD, hS⟩ := hZ
  unfold m_FaultFinder_examine_47 at hm
  refine lv_iinc (v := (x3 + 1)) (lv' := [(3, .int (x3 + 1)), (0, .ref (ad 9)), (1, .ref xa), (2, .int x2)]) hx hb d_FaultFinder_examine_47 hl (k := 3) rfl rfl (by decide) rfl (fun ls hl => ?_)
  refine lv_goto (tgt := 22) hx hb d_FaultFinder_examine_50 (by decide) ?_
  exact hk22 fi_faults fi_highest fi_firstHighest fi_faultRules fi_faultNotes fi_faultLines x2 (x3 + 1) _ _ _ hm ⟨hP, hD, hS⟩ (lv_sub hl [1, 2, 3, 0] rfl)
def m_FaultFinder_examine_22b (F : Nat) (X_size : Int32) (X_notes : Nat → Int32) (su_lines : Int32) (su_perNote : Int32) (su_above : Int32) (su_numbers : Nat → Int32) (su_on : Nat → Int32) (su_given : Nat → Nat → Int32) (k12 : Int32 → Int32 → Int32 → (Nat → Int32) → (Nat → Int32) → (Nat → Int32) → Int32 → Option (Int32 × Int32 × Int32 × Int32 × (Nat → Int32) × (Nat → Int32) × (Nat → Int32))) (k22 : Int32 → Int32 → Int32 → (Nat → Int32) → (Nat → Int32) → (Nat → Int32) → Int32 → Int32 → Option (Int32 × Int32 × Int32 × Int32 × (Nat → Int32) × (Nat → Int32) × (Nat → Int32))) (fi_faults : Int32) (fi_highest : Int32) (fi_firstHighest : Int32) (fi_faultRules : Nat → Int32) (fi_faultNotes : Nat → Int32) (fi_faultLines : Nat → Int32) (x2 : Int32) (x3 : Int32) : Option (Int32 × Int32 × Int32 × Int32 × (Nat → Int32) × (Nat → Int32) × (Nat → Int32)) :=
  (if (11 : Int32) ≤ x3 then
    k12 fi_faults fi_highest fi_firstHighest fi_faultRules fi_faultNotes fi_faultLines (x2 + 1)
  else
    (gd x3 11 (if (su_on (Int32.toNatClampNeg x3)) = (0 : Int32) then
      m_FaultFinder_examine_47 F X_size X_notes su_lines su_perNote su_above su_numbers su_on su_given k12 k22 fi_faults fi_highest fi_firstHighest fi_faultRules fi_faultNotes fi_faultLines x2 x3
    else
      (bd (m_FaultFinder_ask F X_size X_notes su_lines su_perNote su_above su_numbers su_given fi_highest fi_firstHighest fi_faults fi_faultRules fi_faultNotes fi_faultLines x3 x2) (fun u4 => m_FaultFinder_examine_47 F X_size X_notes su_lines su_perNote su_above su_numbers su_on su_given k12 k22 u4.1 fi_highest fi_firstHighest u4.2.1 u4.2.2.1 u4.2.2.2 x2 x3)))))
set_option maxHeartbeats 4000000 in
set_option maxRecDepth 100000 in
theorem l_FaultFinder_examine_22 {r : Int32 × Int32 × Int32 × Int32 × (Nat → Int32) × (Nat → Int32) × (Nat → Int32)} {F : Nat} {ad : Nat → Nat} {xa : Nat} {xb : Nat} {X_size : Int32} {X_notes : Nat → Int32} {su_lines : Int32} {su_length : Int32} {su_perNote : Int32} {su_above : Int32} {su_numbers : Nat → Int32} {su_on : Nat → Int32} {su_given : Nat → Nat → Int32} {fi_faults : Int32} {fi_highest : Int32} {fi_firstHighest : Int32} {fi_faultRules : Nat → Int32} {fi_faultNotes : Nat → Int32} {fi_faultLines : Nat → Int32} {k12 : Int32 → Int32 → Int32 → (Nat → Int32) → (Nat → Int32) → (Nat → Int32) → Int32 → Option (Int32 × Int32 × Int32 × Int32 × (Nat → Int32) × (Nat → Int32) × (Nat → Int32))} {k22 : Int32 → Int32 → Int32 → (Nat → Int32) → (Nat → Int32) → (Nat → Int32) → Int32 → Int32 → Option (Int32 × Int32 × Int32 × Int32 × (Nat → Int32) × (Nat → Int32) × (Nat → Int32))} {x2 : Int32} {x3 : Int32} {H : Heap} {locs : List Loc} {ls : Array Slot} (C : Cx p s m meth c args A D kc R_FaultFinder b_FaultFinder_examine 4 (some .int)) (hk12 : (∀ (fi_faults : Int32) (fi_highest : Int32) (fi_firstHighest : Int32) (fi_faultRules : Nat → Int32) (fi_faultNotes : Nat → Int32) (fi_faultLines : Nat → Int32) (x2 : Int32) (H : Heap) (locs : List Loc) (ls : Array Slot), k12 fi_faults fi_highest fi_firstHighest fi_faultRules fi_faultNotes fi_faultLines x2 = some r → St D A s (wd_FaultFinder_examine kc ad xa xb X_size X_notes su_lines su_length su_perNote su_above su_numbers su_on su_given fi_faults fi_highest fi_firstHighest fi_faultRules fi_faultNotes fi_faultLines) H locs → lv_has ls 4 [(0, .ref (ad 9)), (1, .ref xa), (2, .int x2)] → W p l e rm_FaultFinder_examine s m args below meth c H locs 0 0 (MQ below (Qi D A (wd_FaultFinder_examine kc ad xa xb X_size X_notes su_lines su_length su_perNote su_above su_numbers su_on su_given r.2.1 r.2.2.1 r.2.2.2.1 r.2.2.2.2.1 r.2.2.2.2.2.1 r.2.2.2.2.2.2) r.1) args s 0 0 A) (F0 m 12 ls []))) (hk22 : (∀ (fi_faults : Int32) (fi_highest : Int32) (fi_firstHighest : Int32) (fi_faultRules : Nat → Int32) (fi_faultNotes : Nat → Int32) (fi_faultLines : Nat → Int32) (x2 : Int32) (x3 : Int32) (H : Heap) (locs : List Loc) (ls : Array Slot), k22 fi_faults fi_highest fi_firstHighest fi_faultRules fi_faultNotes fi_faultLines x2 x3 = some r → St D A s (wd_FaultFinder_examine kc ad xa xb X_size X_notes su_lines su_length su_perNote su_above su_numbers su_on su_given fi_faults fi_highest fi_firstHighest fi_faultRules fi_faultNotes fi_faultLines) H locs → lv_has ls 4 [(0, .ref (ad 9)), (1, .ref xa), (2, .int x2), (3, .int x3)] → W p l e rm_FaultFinder_examine s m args below meth c H locs 0 0 (MQ below (Qi D A (wd_FaultFinder_examine kc ad xa xb X_size X_notes su_lines su_length su_perNote su_above su_numbers su_on su_given r.2.1 r.2.2.1 r.2.2.2.1 r.2.2.2.2.1 r.2.2.2.2.2.1 r.2.2.2.2.2.2) r.1) args s 0 0 A) (F0 m 22 ls []))) (hm : m_FaultFinder_examine_22b F X_size X_notes su_lines su_perNote su_above su_numbers su_on su_given k12 k22 fi_faults fi_highest fi_firstHighest fi_faultRules fi_faultNotes fi_faultLines x2 x3 = some r) (hZ : St D A s (wd_FaultFinder_examine kc ad xa xb X_size X_notes su_lines su_length su_perNote su_above su_numbers su_on su_given fi_faults fi_highest fi_firstHighest fi_faultRules fi_faultNotes fi_faultLines) H locs) (hl : lv_has ls 4 [(0, .ref (ad 9)), (1, .ref xa), (2, .int x2), (3, .int x3)]) : W p l e rm_FaultFinder_examine s m args below meth c H locs 0 0 (MQ below (Qi D A (wd_FaultFinder_examine kc ad xa xb X_size X_notes su_lines su_length su_perNote su_above su_numbers su_on su_given r.2.1 r.2.2.1 r.2.2.2.1 r.2.2.2.2.1 r.2.2.2.2.2.1 r.2.2.2.2.2.2) r.1) args s 0 0 A) (F0 m 22 ls []) := by
  obtain ⟨hx, hb, hr, hts, hown, hml, hlocks, hK, hN, hA, hX⟩ := id C
  obtain ⟨hP, hD, hS⟩ := hZ
  unfold m_FaultFinder_examine_22b at hm
  refine lv_iload_n hx hb d_FaultFinder_examine_22 rfl (lv_at hl 3 rfl) ?_
  refine lv_bipush (v := 11) hx hb d_FaultFinder_examine_23 (by decide) ?_
  refine lv_icmp_ge (tgt := 53) hx hb d_FaultFinder_examine_25 (by decide) (fun c1 => ?_) (fun c1 => ?_)
  · replace hm := ifT hm c1
    refine lv_iinc (v := (x2 + 1)) (lv' := [(2, .int (x2 + 1)), (0, .ref (ad 9)), (1, .ref xa), (3, .int x3)]) hx hb d_FaultFinder_examine_53 hl (k := 2) rfl rfl (by decide) rfl (fun ls hl => ?_)
    refine lv_goto (tgt := 12) hx hb d_FaultFinder_examine_56 (by decide) ?_
    exact hk12 fi_faults fi_highest fi_firstHighest fi_faultRules fi_faultNotes fi_faultLines (x2 + 1) _ _ _ hm ⟨hP, hD, hS⟩ (lv_sub hl [1, 2, 0] rfl)
  · replace hm := ifF hm c1
    refine lv_aload_n hx hb d_FaultFinder_examine_28 rfl (lv_at hl 0 rfl) ?_
    refine va_get (D := D) (ci := 2) (v := .ref (ad 1)) (C := R_FaultFinder) (T := T_FaultFinder) (N := 8) hx hb hts inG_FaultFinder hown hK hP 10 rfl rfl 0 (by decide) (hts _ gw_217) (fun _ h9 => h9) rfl d_FaultFinder_examine_29 ?_
    refine va_getN (D := D) (ci := 7) (v := .ref (ad 3)) (C := R_Setup) (T := T_Setup) (N := 7) hx hb hts inG_Setup hown hK hP 2 rfl rfl 1 (by decide) (va_Nw.use rfl (hN _ nw_164)) (fun _ h9 => h9) rfl d_FaultFinder_examine_32 ?_
    refine lv_iload_n hx hb d_FaultFinder_examine_35 rfl (lv_at hl 3 rfl) ?_
    obtain ⟨hi2, hm⟩ := gd_some hm
    refine va_zald hx hb hK hP 4 1 rfl rfl hi2 d_FaultFinder_examine_36 ?_
    refine lv_if_eq (tgt := 47) hx hb d_FaultFinder_examine_37 (by decide) (fun c3 => ?_) (fun c3 => ?_)
    · replace hm := ifT hm c3
      exact l_FaultFinder_examine_47 C hk12 hk22 hm ⟨hP, hD, hS⟩ (lv_sub hl [0, 1, 2, 3] rfl)
    · replace hm := ifF hm c3
      refine lv_aload_n hx hb d_FaultFinder_examine_40 rfl (lv_at hl 0 rfl) ?_
      refine lv_iload_n hx hb d_FaultFinder_examine_41 rfl (lv_at hl 3 rfl) ?_
      refine lv_aload_n hx hb d_FaultFinder_examine_42 rfl (lv_at hl 1 rfl) ?_
      refine lv_iload_n hx hb d_FaultFinder_examine_43 rfl (lv_at hl 2 rfl) ?_
      obtain ⟨u4, hc5, hm⟩ := bd_some hm
      refine zV_v (n := 3) (wr := [((ad 3), .inl (kc 1, 11, .inl su_on))]) (w1 := (wd_FaultFinder_ask kc ad xa xb X_size X_notes su_lines su_length su_perNote su_above su_numbers su_given u4.1 fi_highest fi_firstHighest u4.2.1 u4.2.2.1 u4.2.2.2)) (ws1 := (wd_FaultFinder_examine kc ad xa xb X_size X_notes su_lines su_length su_perNote su_above su_numbers su_on su_given u4.1 fi_highest fi_firstHighest u4.2.1 u4.2.2.1 u4.2.2.2)) (As := [.int x3, .ref xa, .int x2]) (rest := []) (ci := 2) (q0 := 9) (y := y_FaultFinder_ask) ⟨hx, hb, hml, hown, hts⟩ (fun sz => c_FaultFinder_ask hc5 sz) gw_758 gw_755 gw_757 gw_66 gw_115 hd_FaultFinder_ask ⟨Nat.le_of_ble_eq_true rfl, Nat.le_of_ble_eq_true rfl⟩ ⟨rfl, rfl⟩ ⟨Nat.zero_le _, Nat.zero_le _⟩ hK hN hP hD hS hA hX [0, 1, 2, 3, 5, 6, 7, 8, 9, 10, 11, 12, 13] [4] [1, 2, 3, 4, 0, 5, 6, 7, 8, 9, 10, 11, 12, 13] rfl rfl (by decide) (by decide) (by decide) rfl (by decide) rfl rfl rfl hl.1 rfl (Nat.le_of_ble_eq_true rfl) d_FaultFinder_examine_44 (fun H locs hP hD hS => ?_)
      exact l_FaultFinder_examine_47 C hk12 hk22 hm ⟨hP, hD, hS⟩ (lv_sub hl [0, 1, 2, 3] rfl)
def m_FaultFinder_examine_22 (F : Nat) (X_size : Int32) (X_notes : Nat → Int32) (su_lines : Int32) (su_perNote : Int32) (su_above : Int32) (su_numbers : Nat → Int32) (su_on : Nat → Int32) (su_given : Nat → Nat → Int32) (k12 : Int32 → Int32 → Int32 → (Nat → Int32) → (Nat → Int32) → (Nat → Int32) → Int32 → Option (Int32 × Int32 × Int32 × Int32 × (Nat → Int32) × (Nat → Int32) × (Nat → Int32))) : Nat → Int32 → Int32 → Int32 → (Nat → Int32) → (Nat → Int32) → (Nat → Int32) → Int32 → Int32 → Option (Int32 × Int32 × Int32 × Int32 × (Nat → Int32) × (Nat → Int32) × (Nat → Int32))
  | 0 => fun _ _ _ _ _ _ _ _ => none
  | n + 1 => m_FaultFinder_examine_22b F X_size X_notes su_lines su_perNote su_above su_numbers su_on su_given k12 (m_FaultFinder_examine_22 F X_size X_notes su_lines su_perNote su_above su_numbers su_on su_given k12 n)
set_option maxHeartbeats 4000000 in
set_option maxRecDepth 100000 in
theorem lp_FaultFinder_examine_22 {r : Int32 × Int32 × Int32 × Int32 × (Nat → Int32) × (Nat → Int32) × (Nat → Int32)} {F : Nat} {ad : Nat → Nat} {xa : Nat} {xb : Nat} {X_size : Int32} {X_notes : Nat → Int32} {su_lines : Int32} {su_length : Int32} {su_perNote : Int32} {su_above : Int32} {su_numbers : Nat → Int32} {su_on : Nat → Int32} {su_given : Nat → Nat → Int32} {k12 : Int32 → Int32 → Int32 → (Nat → Int32) → (Nat → Int32) → (Nat → Int32) → Int32 → Option (Int32 × Int32 × Int32 × Int32 × (Nat → Int32) × (Nat → Int32) × (Nat → Int32))} (C : Cx p s m meth c args A D kc R_FaultFinder b_FaultFinder_examine 4 (some .int)) (hk12 : (∀ (fi_faults : Int32) (fi_highest : Int32) (fi_firstHighest : Int32) (fi_faultRules : Nat → Int32) (fi_faultNotes : Nat → Int32) (fi_faultLines : Nat → Int32) (x2 : Int32) (H : Heap) (locs : List Loc) (ls : Array Slot), k12 fi_faults fi_highest fi_firstHighest fi_faultRules fi_faultNotes fi_faultLines x2 = some r → St D A s (wd_FaultFinder_examine kc ad xa xb X_size X_notes su_lines su_length su_perNote su_above su_numbers su_on su_given fi_faults fi_highest fi_firstHighest fi_faultRules fi_faultNotes fi_faultLines) H locs → lv_has ls 4 [(0, .ref (ad 9)), (1, .ref xa), (2, .int x2)] → W p l e rm_FaultFinder_examine s m args below meth c H locs 0 0 (MQ below (Qi D A (wd_FaultFinder_examine kc ad xa xb X_size X_notes su_lines su_length su_perNote su_above su_numbers su_on su_given r.2.1 r.2.2.1 r.2.2.2.1 r.2.2.2.2.1 r.2.2.2.2.2.1 r.2.2.2.2.2.2) r.1) args s 0 0 A) (F0 m 12 ls []))) : ∀ (n : Nat) (fi_faults : Int32) (fi_highest : Int32) (fi_firstHighest : Int32) (fi_faultRules : Nat → Int32) (fi_faultNotes : Nat → Int32) (fi_faultLines : Nat → Int32) (x2 : Int32) (x3 : Int32) (H : Heap) (locs : List Loc) (ls : Array Slot), m_FaultFinder_examine_22 F X_size X_notes su_lines su_perNote su_above su_numbers su_on su_given k12 n fi_faults fi_highest fi_firstHighest fi_faultRules fi_faultNotes fi_faultLines x2 x3 = some r → St D A s (wd_FaultFinder_examine kc ad xa xb X_size X_notes su_lines su_length su_perNote su_above su_numbers su_on su_given fi_faults fi_highest fi_firstHighest fi_faultRules fi_faultNotes fi_faultLines) H locs → lv_has ls 4 [(0, .ref (ad 9)), (1, .ref xa), (2, .int x2), (3, .int x3)] → W p l e rm_FaultFinder_examine s m args below meth c H locs 0 0 (MQ below (Qi D A (wd_FaultFinder_examine kc ad xa xb X_size X_notes su_lines su_length su_perNote su_above su_numbers su_on su_given r.2.1 r.2.2.1 r.2.2.2.1 r.2.2.2.2.1 r.2.2.2.2.2.1 r.2.2.2.2.2.2) r.1) args s 0 0 A) (F0 m 22 ls []) := by
  intro n
  induction n with
  | zero => intro fi_faults fi_highest fi_firstHighest fi_faultRules fi_faultNotes fi_faultLines x2 x3 H locs ls hm; cases hm
  | succ n ih => intro fi_faults fi_highest fi_firstHighest fi_faultRules fi_faultNotes fi_faultLines x2 x3 H locs ls hm hZ hl; exact l_FaultFinder_examine_22 C hk12 ih hm hZ hl
def m_FaultFinder_examine_12b (F : Nat) (X_size : Int32) (X_notes : Nat → Int32) (su_lines : Int32) (su_perNote : Int32) (su_above : Int32) (su_numbers : Nat → Int32) (su_on : Nat → Int32) (su_given : Nat → Nat → Int32) (k12 : Int32 → Int32 → Int32 → (Nat → Int32) → (Nat → Int32) → (Nat → Int32) → Int32 → Option (Int32 × Int32 × Int32 × Int32 × (Nat → Int32) × (Nat → Int32) × (Nat → Int32))) (fi_faults : Int32) (fi_highest : Int32) (fi_firstHighest : Int32) (fi_faultRules : Nat → Int32) (fi_faultNotes : Nat → Int32) (fi_faultLines : Nat → Int32) (x2 : Int32) : Option (Int32 × Int32 × Int32 × Int32 × (Nat → Int32) × (Nat → Int32) × (Nat → Int32)) :=
  (if X_size ≤ x2 then
    (some (fi_faults, fi_faults, fi_highest, fi_firstHighest, fi_faultRules, fi_faultNotes, fi_faultLines))
  else
    m_FaultFinder_examine_22 F X_size X_notes su_lines su_perNote su_above su_numbers su_on su_given k12 F fi_faults fi_highest fi_firstHighest fi_faultRules fi_faultNotes fi_faultLines x2 (0 : Int32))
set_option maxHeartbeats 4000000 in
set_option maxRecDepth 100000 in
theorem l_FaultFinder_examine_12 {r : Int32 × Int32 × Int32 × Int32 × (Nat → Int32) × (Nat → Int32) × (Nat → Int32)} {F : Nat} {ad : Nat → Nat} {xa : Nat} {xb : Nat} {X_size : Int32} {X_notes : Nat → Int32} {su_lines : Int32} {su_length : Int32} {su_perNote : Int32} {su_above : Int32} {su_numbers : Nat → Int32} {su_on : Nat → Int32} {su_given : Nat → Nat → Int32} {fi_faults : Int32} {fi_highest : Int32} {fi_firstHighest : Int32} {fi_faultRules : Nat → Int32} {fi_faultNotes : Nat → Int32} {fi_faultLines : Nat → Int32} {k12 : Int32 → Int32 → Int32 → (Nat → Int32) → (Nat → Int32) → (Nat → Int32) → Int32 → Option (Int32 × Int32 × Int32 × Int32 × (Nat → Int32) × (Nat → Int32) × (Nat → Int32))} {x2 : Int32} {H : Heap} {locs : List Loc} {ls : Array Slot} (C : Cx p s m meth c args A D kc R_FaultFinder b_FaultFinder_examine 4 (some .int)) (hk12 : (∀ (fi_faults : Int32) (fi_highest : Int32) (fi_firstHighest : Int32) (fi_faultRules : Nat → Int32) (fi_faultNotes : Nat → Int32) (fi_faultLines : Nat → Int32) (x2 : Int32) (H : Heap) (locs : List Loc) (ls : Array Slot), k12 fi_faults fi_highest fi_firstHighest fi_faultRules fi_faultNotes fi_faultLines x2 = some r → St D A s (wd_FaultFinder_examine kc ad xa xb X_size X_notes su_lines su_length su_perNote su_above su_numbers su_on su_given fi_faults fi_highest fi_firstHighest fi_faultRules fi_faultNotes fi_faultLines) H locs → lv_has ls 4 [(0, .ref (ad 9)), (1, .ref xa), (2, .int x2)] → W p l e rm_FaultFinder_examine s m args below meth c H locs 0 0 (MQ below (Qi D A (wd_FaultFinder_examine kc ad xa xb X_size X_notes su_lines su_length su_perNote su_above su_numbers su_on su_given r.2.1 r.2.2.1 r.2.2.2.1 r.2.2.2.2.1 r.2.2.2.2.2.1 r.2.2.2.2.2.2) r.1) args s 0 0 A) (F0 m 12 ls []))) (hm : m_FaultFinder_examine_12b F X_size X_notes su_lines su_perNote su_above su_numbers su_on su_given k12 fi_faults fi_highest fi_firstHighest fi_faultRules fi_faultNotes fi_faultLines x2 = some r) (hZ : St D A s (wd_FaultFinder_examine kc ad xa xb X_size X_notes su_lines su_length su_perNote su_above su_numbers su_on su_given fi_faults fi_highest fi_firstHighest fi_faultRules fi_faultNotes fi_faultLines) H locs) (hl : lv_has ls 4 [(0, .ref (ad 9)), (1, .ref xa), (2, .int x2)]) : W p l e rm_FaultFinder_examine s m args below meth c H locs 0 0 (MQ below (Qi D A (wd_FaultFinder_examine kc ad xa xb X_size X_notes su_lines su_length su_perNote su_above su_numbers su_on su_given r.2.1 r.2.2.1 r.2.2.2.1 r.2.2.2.2.1 r.2.2.2.2.2.1 r.2.2.2.2.2.2) r.1) args s 0 0 A) (F0 m 12 ls []) := by
  obtain ⟨hx, hb, hr, hts, hown, hml, hlocks, hK, hN, hA, hX⟩ := id C
  obtain ⟨hP, hD, hS⟩ := hZ
  unfold m_FaultFinder_examine_12b at hm
  refine lv_iload_n hx hb d_FaultFinder_examine_12 rfl (lv_at hl 2 rfl) ?_
  refine lv_aload_n hx hb d_FaultFinder_examine_13 rfl (lv_at hl 1 rfl) ?_
  refine va_getN (D := D) (ci := 3) (v := .int X_size) (C := R_Line) (T := T_Line) (N := 2) hx hb hts inG_Line hown hK hP 0 rfl rfl 1 (by decide) (va_Nw.use rfl (hN _ nw_138)) (fun _ h9 => h9) rfl d_FaultFinder_examine_14 ?_
  refine lv_icmp_ge (tgt := 59) hx hb d_FaultFinder_examine_17 (by decide) (fun c1 => ?_) (fun c1 => ?_)
  · replace hm := ifT hm c1
    refine lv_aload_n hx hb d_FaultFinder_examine_59 rfl (lv_at hl 0 rfl) ?_
    refine va_get (D := D) (ci := 2) (v := .int fi_faults) (C := R_FaultFinder) (T := T_FaultFinder) (N := 8) hx hb hts inG_FaultFinder hown hK hP 10 rfl rfl 5 (by decide) (hts _ gw_222) (fun _ h9 => h9) rfl d_FaultFinder_examine_60 ?_
    replace hm := Option.some.inj hm; subst hm
    exact zret_i C hP hD hS d_FaultFinder_examine_63
  · replace hm := ifF hm c1
    refine lv_iconst (v := 0) hx hb d_FaultFinder_examine_20 (by decide) ?_
    refine lv_istore_n (lv' := [(3, .int (0 : Int32)), (0, .ref (ad 9)), (1, .ref xa), (2, .int x2)]) hx hb d_FaultFinder_examine_21 rfl hl (by decide) rfl (fun ls hl => ?_)
    exact lp_FaultFinder_examine_22 C hk12 F fi_faults fi_highest fi_firstHighest fi_faultRules fi_faultNotes fi_faultLines x2 (0 : Int32) _ _ _ hm ⟨hP, hD, hS⟩ (lv_sub hl [1, 2, 3, 0] rfl)
def m_FaultFinder_examine_12 (F : Nat) (X_size : Int32) (X_notes : Nat → Int32) (su_lines : Int32) (su_perNote : Int32) (su_above : Int32) (su_numbers : Nat → Int32) (su_on : Nat → Int32) (su_given : Nat → Nat → Int32)  : Nat → Int32 → Int32 → Int32 → (Nat → Int32) → (Nat → Int32) → (Nat → Int32) → Int32 → Option (Int32 × Int32 × Int32 × Int32 × (Nat → Int32) × (Nat → Int32) × (Nat → Int32))
  | 0 => fun _ _ _ _ _ _ _ => none
  | n + 1 => m_FaultFinder_examine_12b F X_size X_notes su_lines su_perNote su_above su_numbers su_on su_given  (m_FaultFinder_examine_12 F X_size X_notes su_lines su_perNote su_above su_numbers su_on su_given  n)
set_option maxHeartbeats 4000000 in
set_option maxRecDepth 100000 in
theorem lp_FaultFinder_examine_12 {r : Int32 × Int32 × Int32 × Int32 × (Nat → Int32) × (Nat → Int32) × (Nat → Int32)} {F : Nat} {ad : Nat → Nat} {xa : Nat} {xb : Nat} {X_size : Int32} {X_notes : Nat → Int32} {su_lines : Int32} {su_length : Int32} {su_perNote : Int32} {su_above : Int32} {su_numbers : Nat → Int32} {su_on : Nat → Int32} {su_given : Nat → Nat → Int32}  (C : Cx p s m meth c args A D kc R_FaultFinder b_FaultFinder_examine 4 (some .int))  : ∀ (n : Nat) (fi_faults : Int32) (fi_highest : Int32) (fi_firstHighest : Int32) (fi_faultRules : Nat → Int32) (fi_faultNotes : Nat → Int32) (fi_faultLines : Nat → Int32) (x2 : Int32) (H : Heap) (locs : List Loc) (ls : Array Slot), m_FaultFinder_examine_12 F X_size X_notes su_lines su_perNote su_above su_numbers su_on su_given  n fi_faults fi_highest fi_firstHighest fi_faultRules fi_faultNotes fi_faultLines x2 = some r → St D A s (wd_FaultFinder_examine kc ad xa xb X_size X_notes su_lines su_length su_perNote su_above su_numbers su_on su_given fi_faults fi_highest fi_firstHighest fi_faultRules fi_faultNotes fi_faultLines) H locs → lv_has ls 4 [(0, .ref (ad 9)), (1, .ref xa), (2, .int x2)] → W p l e rm_FaultFinder_examine s m args below meth c H locs 0 0 (MQ below (Qi D A (wd_FaultFinder_examine kc ad xa xb X_size X_notes su_lines su_length su_perNote su_above su_numbers su_on su_given r.2.1 r.2.2.1 r.2.2.2.1 r.2.2.2.2.1 r.2.2.2.2.2.1 r.2.2.2.2.2.2) r.1) args s 0 0 A) (F0 m 12 ls []) := by
  intro n
  induction n with
  | zero => intro fi_faults fi_highest fi_firstHighest fi_faultRules fi_faultNotes fi_faultLines x2 H locs ls hm; cases hm
  | succ n ih => intro fi_faults fi_highest fi_firstHighest fi_faultRules fi_faultNotes fi_faultLines x2 H locs ls hm hZ hl; exact l_FaultFinder_examine_12 C  ih hm hZ hl
def m_FaultFinder_examine (F : Nat) (X_size : Int32) (X_notes : Nat → Int32) (su_lines : Int32) (su_perNote : Int32) (su_above : Int32) (su_numbers : Nat → Int32) (su_on : Nat → Int32) (su_given : Nat → Nat → Int32) (fi_faults : Int32) (fi_highest : Int32) (fi_firstHighest : Int32) (fi_faultRules : Nat → Int32) (fi_faultNotes : Nat → Int32) (fi_faultLines : Nat → Int32)  : Option (Int32 × Int32 × Int32 × Int32 × (Nat → Int32) × (Nat → Int32) × (Nat → Int32)) :=
  (bd (m_FaultFinder_findHighest F X_size X_notes fi_highest fi_firstHighest) (fun u1 => m_FaultFinder_examine_12 F X_size X_notes su_lines su_perNote su_above su_numbers su_on su_given  F (0 : Int32) u1.1 u1.2 fi_faultRules fi_faultNotes fi_faultLines (0 : Int32)))
set_option maxHeartbeats 4000000 in
set_option maxRecDepth 100000 in
theorem e_FaultFinder_examine {r : Int32 × Int32 × Int32 × Int32 × (Nat → Int32) × (Nat → Int32) × (Nat → Int32)} {F : Nat} {ad : Nat → Nat} {xa : Nat} {xb : Nat} {X_size : Int32} {X_notes : Nat → Int32} {su_lines : Int32} {su_length : Int32} {su_perNote : Int32} {su_above : Int32} {su_numbers : Nat → Int32} {su_on : Nat → Int32} {su_given : Nat → Nat → Int32} {fi_faults : Int32} {fi_highest : Int32} {fi_firstHighest : Int32} {fi_faultRules : Nat → Int32} {fi_faultNotes : Nat → Int32} {fi_faultLines : Nat → Int32}  {H : Heap} {locs : List Loc} {ls : Array Slot} (C : Cx p s m meth c args A D kc R_FaultFinder b_FaultFinder_examine 4 (some .int)) (hm : m_FaultFinder_examine F X_size X_notes su_lines su_perNote su_above su_numbers su_on su_given fi_faults fi_highest fi_firstHighest fi_faultRules fi_faultNotes fi_faultLines = some r) (hZ : St D A s (wd_FaultFinder_examine kc ad xa xb X_size X_notes su_lines su_length su_perNote su_above su_numbers su_on su_given fi_faults fi_highest fi_firstHighest fi_faultRules fi_faultNotes fi_faultLines) H locs) (hl : lv_has ls 4 [(0, .ref (ad 9)), (1, .ref xa)]) : W p l e rm_FaultFinder_examine s m args below meth c H locs 0 0 (MQ below (Qi D A (wd_FaultFinder_examine kc ad xa xb X_size X_notes su_lines su_length su_perNote su_above su_numbers su_on su_given r.2.1 r.2.2.1 r.2.2.2.1 r.2.2.2.2.1 r.2.2.2.2.2.1 r.2.2.2.2.2.2) r.1) args s 0 0 A) (F0 m 0 ls []) := by
  obtain ⟨hx, hb, hr, hts, hown, hml, hlocks, hK, hN, hA, hX⟩ := id C
  obtain ⟨hP, hD, hS⟩ := hZ
  unfold m_FaultFinder_examine at hm
  refine lv_aload_n hx hb d_FaultFinder_examine_0 rfl (lv_at hl 0 rfl) ?_
  refine lv_iconst (v := 0) hx hb d_FaultFinder_examine_1 (by decide) ?_
  refine va_put (D := D) (ci := 2) (v := .int (0 : Int32)) (ty := .int) (C := R_FaultFinder) (T := T_FaultFinder) (N := 8) hx hb hts inG_FaultFinder ty_FaultFinder tok_FaultFinder nmo_FaultFinder hown hK hP hD hS 10 rfl rfl 5 (by decide) (hts _ gw_222) (fun _ h9 => h9) rfl (tok_FaultFinder 5 (by decide)) rfl rfl (Nat.le_of_ble_eq_true rfl) d_FaultFinder_examine_2 (fun H locs hP hD hS => ?_)
  replace hP : va_P D vwCl (wd_FaultFinder_examine kc ad xa xb X_size X_notes su_lines su_length su_perNote su_above su_numbers su_on su_given (0 : Int32) fi_highest fi_firstHighest fi_faultRules fi_faultNotes fi_faultLines) H := hP
  replace hD : va_D A (wd_FaultFinder_examine kc ad xa xb X_size X_notes su_lines su_length su_perNote su_above su_numbers su_on su_given (0 : Int32) fi_highest fi_firstHighest fi_faultRules fi_faultNotes fi_faultLines) := hD
  refine lv_aload_n hx hb d_FaultFinder_examine_5 rfl (lv_at hl 0 rfl) ?_
  refine lv_aload_n hx hb d_FaultFinder_examine_6 rfl (lv_at hl 1 rfl) ?_
  obtain ⟨u1, hc2, hm⟩ := bd_some hm
  refine zV_v (n := 1) (wr := [((ad 1), .inr (7, [.ref (ad 2), .ref (ad 3), .ref (ad 4), .int su_lines, .int su_length, .int su_perNote, .int su_above])), ((ad 2), .inl (kc 0, 18, .inl su_numbers)), ((ad 3), .inl (kc 1, 11, .inl su_on)), ((ad 4), .inl (kc 3, 3, .inr (.inr (.inr (.inr (fun i => if i < 3 then some (ad (5 + i)) else none)))))), ((ad 5), .inl (kc 0, 12, .inl (su_given 0))), ((ad 6), .inl (kc 0, 12, .inl (su_given 1))), ((ad 7), .inl (kc 0, 12, .inl (su_given 2))), ((ad 8), .inr (5, [.ref (ad 1)])), ((ad 10), .inl (kc 0, 200, .inl fi_faultRules)), ((ad 11), .inl (kc 0, 200, .inl fi_faultNotes)), ((ad 12), .inl (kc 0, 200, .inl fi_faultLines))]) (w1 := (wd_FaultFinder_findHighest kc ad xa xb X_size X_notes (0 : Int32) u1.1 u1.2)) (ws1 := (wd_FaultFinder_examine kc ad xa xb X_size X_notes su_lines su_length su_perNote su_above su_numbers su_on su_given (0 : Int32) u1.1 u1.2 fi_faultRules fi_faultNotes fi_faultLines)) (As := [.ref xa]) (rest := []) (ci := 2) (q0 := 2) (y := y_FaultFinder_findHighest) ⟨hx, hb, hml, hown, hts⟩ (fun sz => c_FaultFinder_findHighest hc2 sz) gw_754 gw_751 gw_753 gw_65 gw_115 hd_FaultFinder_findHighest ⟨Nat.le_of_ble_eq_true rfl, Nat.le_of_ble_eq_true rfl⟩ ⟨rfl, rfl⟩ ⟨Nat.zero_le _, Nat.zero_le _⟩ hK hN hP hD hS hA hX [0, 1, 10] [2, 3, 4, 5, 6, 7, 8, 9, 11, 12, 13] [11, 12, 0, 1, 2, 3, 4, 5, 6, 7, 13, 8, 9, 10] rfl rfl (by decide) (by decide) (by decide) rfl (by decide) rfl rfl rfl hl.1 rfl (Nat.le_of_ble_eq_true rfl) d_FaultFinder_examine_7 (fun H locs hP hD hS => ?_)
  refine lv_iconst (v := 0) hx hb d_FaultFinder_examine_10 (by decide) ?_
  refine lv_istore_n (lv' := [(2, .int (0 : Int32)), (0, .ref (ad 9)), (1, .ref xa)]) hx hb d_FaultFinder_examine_11 rfl hl (by decide) rfl (fun ls hl => ?_)
  exact lp_FaultFinder_examine_12 C  F (0 : Int32) u1.1 u1.2 fi_faultRules fi_faultNotes fi_faultLines (0 : Int32) _ _ _ hm ⟨hP, hD, hS⟩ (lv_sub hl [1, 2, 0] rfl)
set_option maxHeartbeats 4000000 in
set_option maxRecDepth 100000 in
theorem c_FaultFinder_examine {l : Launch} {D : va_G} {kc : Nat → ClassId} {r : Int32 × Int32 × Int32 × Int32 × (Nat → Int32) × (Nat → Int32) × (Nat → Int32)} {F : Nat} {ad : Nat → Nat} {xa : Nat} {xb : Nat} {X_size : Int32} {X_notes : Nat → Int32} {su_lines : Int32} {su_length : Int32} {su_perNote : Int32} {su_above : Int32} {su_numbers : Nat → Int32} {su_on : Nat → Int32} {su_given : Nat → Nat → Int32} {fi_faults : Int32} {fi_highest : Int32} {fi_firstHighest : Int32} {fi_faultRules : Nat → Int32} {fi_faultNotes : Nat → Int32} {fi_faultLines : Nat → Int32}  (hm : m_FaultFinder_examine F X_size X_notes su_lines su_perNote su_above su_numbers su_on su_given fi_faults fi_highest fi_firstHighest fi_faultRules fi_faultNotes fi_faultLines = some r) (sz : Nat) : Ci l y_FaultFinder_examine ws_FaultFinder_examine rm_FaultFinder_examine D kc sz [.ref (ad 9), .ref xa] (wd_FaultFinder_examine kc ad xa xb X_size X_notes su_lines su_length su_perNote su_above su_numbers su_on su_given fi_faults fi_highest fi_firstHighest fi_faultRules fi_faultNotes fi_faultLines) (wd_FaultFinder_examine kc ad xa xb X_size X_notes su_lines su_length su_perNote su_above su_numbers su_on su_given r.2.1 r.2.2.1 r.2.2.2.1 r.2.2.2.2.1 r.2.2.2.2.2.1 r.2.2.2.2.2.2) r.1 :=
  Cz_of (Qf := fun A => (Qi D A (wd_FaultFinder_examine kc ad xa xb X_size X_notes su_lines su_length su_perNote su_above su_numbers su_on su_given r.2.1 r.2.2.1 r.2.2.2.1 r.2.2.2.2.1 r.2.2.2.2.2.1 r.2.2.2.2.2.2) r.1)) (cc := b_FaultFinder_examine) (maxL := 4) (ret := (some .int)) (by decide) rfl rfl (fun C hZ hl => e_FaultFinder_examine C hm hZ hl)
abbrev b_SpeciesSolver_judge : ByteArray := prog_1_method_18_code
abbrev y_SpeciesSolver_judge : MethodName := ⟨"SpeciesSolver", "judge", "()I"⟩
theorem d_SpeciesSolver_judge_0 : decode b_SpeciesSolver_judge 0 = .ok (.aload_n 0, 1) := by decide +kernel
theorem d_SpeciesSolver_judge_1 : decode b_SpeciesSolver_judge 1 = .ok (.invokevirtual 161, 3) := by decide +kernel
theorem d_SpeciesSolver_judge_4 : decode b_SpeciesSolver_judge 4 = .ok (.ifCond .eq 7, 3) := by decide +kernel
theorem d_SpeciesSolver_judge_7 : decode b_SpeciesSolver_judge 7 = .ok (.iconst (-1), 1) := by decide +kernel
theorem d_SpeciesSolver_judge_8 : decode b_SpeciesSolver_judge 8 = .ok (.goto 14, 3) := by decide +kernel
theorem d_SpeciesSolver_judge_11 : decode b_SpeciesSolver_judge 11 = .ok (.aload_n 0, 1) := by decide +kernel
theorem d_SpeciesSolver_judge_12 : decode b_SpeciesSolver_judge 12 = .ok (.getfield 57, 3) := by decide +kernel
theorem d_SpeciesSolver_judge_15 : decode b_SpeciesSolver_judge 15 = .ok (.aload_n 0, 1) := by decide +kernel
theorem d_SpeciesSolver_judge_16 : decode b_SpeciesSolver_judge 16 = .ok (.getfield 16, 3) := by decide +kernel
theorem d_SpeciesSolver_judge_19 : decode b_SpeciesSolver_judge 19 = .ok (.invokevirtual 164, 3) := by decide +kernel
theorem d_SpeciesSolver_judge_22 : decode b_SpeciesSolver_judge 22 = .ok (.ireturn, 1) := by decide +kernel
abbrev wd_SpeciesSolver_judge (kc : Nat → ClassId) (ad : Nat → Nat) (mn_bestCost : Int32) (mn_bestPerNote : Int32) (mn_bestLength : Int32) (mn_searched : Int32) (su_lines : Int32) (su_length : Int32) (su_perNote : Int32) (su_above : Int32) (su_numbers : Nat → Int32) (su_on : Nat → Int32) (su_given : Nat → Nat → Int32) (fi_faults : Int32) (fi_highest : Int32) (fi_firstHighest : Int32) (fi_faultRules : Nat → Int32) (fi_faultNotes : Nat → Int32) (fi_faultLines : Nat → Int32) (tr_size : Int32) (tr_notes : Nat → Int32) : va_W := [((ad 0), .inr (0, [.ref (ad 1), .ref (ad 8), .ref (ad 9), .ref (ad 13), .ref (ad 23), .ref (ad 34), .ref (ad 36), .ref (ad 38), .int mn_bestCost, .int mn_bestPerNote, .int mn_bestLength, .int mn_searched])), ((ad 1), .inr (7, [.ref (ad 2), .ref (ad 3), .ref (ad 4), .int su_lines, .int su_length, .int su_perNote, .int su_above])), ((ad 2), .inl (kc 0, 18, .inl su_numbers)), ((ad 3), .inl (kc 1, 11, .inl su_on)), ((ad 4), .inl (kc 3, 3, .inr (.inr (.inr (.inr (fun i => if i < 3 then some (ad (5 + i)) else none)))))), ((ad 5), .inl (kc 0, 12, .inl (su_given 0))), ((ad 6), .inl (kc 0, 12, .inl (su_given 1))), ((ad 7), .inl (kc 0, 12, .inl (su_given 2))), ((ad 8), .inr (5, [.ref (ad 1)])), ((ad 9), .inr (2, [.ref (ad 1), .ref (ad 8), .ref (ad 10), .ref (ad 11), .ref (ad 12), .int fi_faults, .int fi_highest, .int fi_firstHighest])), ((ad 10), .inl (kc 0, 200, .inl fi_faultRules)), ((ad 11), .inl (kc 0, 200, .inl fi_faultNotes)), ((ad 12), .inl (kc 0, 200, .inl fi_faultLines)), ((ad 36), .inr (3, [.ref (ad 37), .int tr_size])), ((ad 37), .inl (kc 0, 45, .inl tr_notes))]
abbrev rm_SpeciesSolver_judge : Room := { frames := 6, cells := 0, slots := 0, locals := 139 }
abbrev cw_SpeciesSolver_judge : Cond := .code y_SpeciesSolver_judge b_SpeciesSolver_judge 1 (some .int)
abbrev ws_SpeciesSolver_judge : List Cond := cw_SpeciesSolver_judge :: GW
theorem hd_SpeciesSolver_judge : y_SpeciesSolver_judge.cls ≠ "java/lang/invoke/MethodHandle" ∧ y_SpeciesSolver_judge.cls ≠ "java/lang/invoke/VarHandle" ∧ (parseMethodDescriptor y_SpeciesSolver_judge.desc).map (fun d => d.parameters.length) = some 0 := by decide +kernel
def m_SpeciesSolver_judge (F : Nat) (su_lines : Int32) (su_length : Int32) (su_perNote : Int32) (su_above : Int32) (su_numbers : Nat → Int32) (su_on : Nat → Int32) (su_given : Nat → Nat → Int32) (tr_size : Int32) (tr_notes : Nat → Int32) (fi_faults : Int32) (fi_highest : Int32) (fi_firstHighest : Int32) (fi_faultRules : Nat → Int32) (fi_faultNotes : Nat → Int32) (fi_faultLines : Nat → Int32)  : Option (Int32 × Int32 × Int32 × Int32 × (Nat → Int32) × (Nat → Int32) × (Nat → Int32)) :=
  (bd (m_SpeciesSolver_cannotJudge su_lines su_length su_perNote tr_size) (fun u1 => (if u1 = (0 : Int32) then
    (bd (m_FaultFinder_examine F tr_size tr_notes su_lines su_perNote su_above su_numbers su_on su_given fi_faults fi_highest fi_firstHighest fi_faultRules fi_faultNotes fi_faultLines) (fun u4 => (some (u4.1, u4.2.1, u4.2.2.1, u4.2.2.2.1, u4.2.2.2.2.1, u4.2.2.2.2.2.1, u4.2.2.2.2.2.2))))
  else
    (some ((-1 : Int32), fi_faults, fi_highest, fi_firstHighest, fi_faultRules, fi_faultNotes, fi_faultLines)))))
set_option maxHeartbeats 4000000 in
set_option maxRecDepth 100000 in
theorem e_SpeciesSolver_judge {r : Int32 × Int32 × Int32 × Int32 × (Nat → Int32) × (Nat → Int32) × (Nat → Int32)} {F : Nat} {ad : Nat → Nat} {mn_bestCost : Int32} {mn_bestPerNote : Int32} {mn_bestLength : Int32} {mn_searched : Int32} {su_lines : Int32} {su_length : Int32} {su_perNote : Int32} {su_above : Int32} {su_numbers : Nat → Int32} {su_on : Nat → Int32} {su_given : Nat → Nat → Int32} {fi_faults : Int32} {fi_highest : Int32} {fi_firstHighest : Int32} {fi_faultRules : Nat → Int32} {fi_faultNotes : Nat → Int32} {fi_faultLines : Nat → Int32} {tr_size : Int32} {tr_notes : Nat → Int32}  {H : Heap} {locs : List Loc} {ls : Array Slot} (C : Cx p s m meth c args A D kc R_SpeciesSolver b_SpeciesSolver_judge 1 (some .int)) (hm : m_SpeciesSolver_judge F su_lines su_length su_perNote su_above su_numbers su_on su_given tr_size tr_notes fi_faults fi_highest fi_firstHighest fi_faultRules fi_faultNotes fi_faultLines = some r) (hZ : St D A s (wd_SpeciesSolver_judge kc ad mn_bestCost mn_bestPerNote mn_bestLength mn_searched su_lines su_length su_perNote su_above su_numbers su_on su_given fi_faults fi_highest fi_firstHighest fi_faultRules fi_faultNotes fi_faultLines tr_size tr_notes) H locs) (hl : lv_has ls 1 [(0, .ref (ad 0))]) : W p l e rm_SpeciesSolver_judge s m args below meth c H locs 0 0 (MQ below (Qi D A (wd_SpeciesSolver_judge kc ad mn_bestCost mn_bestPerNote mn_bestLength mn_searched su_lines su_length su_perNote su_above su_numbers su_on su_given r.2.1 r.2.2.1 r.2.2.2.1 r.2.2.2.2.1 r.2.2.2.2.2.1 r.2.2.2.2.2.2 tr_size tr_notes) r.1) args s 0 0 A) (F0 m 0 ls []) := by
  obtain ⟨hx, hb, hr, hts, hown, hml, hlocks, hK, hN, hA, hX⟩ := id C
  obtain ⟨hP, hD, hS⟩ := hZ
  unfold m_SpeciesSolver_judge at hm
  refine lv_aload_n hx hb d_SpeciesSolver_judge_0 rfl (lv_at hl 0 rfl) ?_
  obtain ⟨u1, hc2, hm⟩ := bd_some hm
  refine zV_i (n := 0) (wr := [((ad 2), .inl (kc 0, 18, .inl su_numbers)), ((ad 3), .inl (kc 1, 11, .inl su_on)), ((ad 4), .inl (kc 3, 3, .inr (.inr (.inr (.inr (fun i => if i < 3 then some (ad (5 + i)) else none)))))), ((ad 5), .inl (kc 0, 12, .inl (su_given 0))), ((ad 6), .inl (kc 0, 12, .inl (su_given 1))), ((ad 7), .inl (kc 0, 12, .inl (su_given 2))), ((ad 8), .inr (5, [.ref (ad 1)])), ((ad 9), .inr (2, [.ref (ad 1), .ref (ad 8), .ref (ad 10), .ref (ad 11), .ref (ad 12), .int fi_faults, .int fi_highest, .int fi_firstHighest])), ((ad 10), .inl (kc 0, 200, .inl fi_faultRules)), ((ad 11), .inl (kc 0, 200, .inl fi_faultNotes)), ((ad 12), .inl (kc 0, 200, .inl fi_faultLines)), ((ad 37), .inl (kc 0, 45, .inl tr_notes))]) (w1 := (wd_SpeciesSolver_cannotJudge kc ad mn_bestCost mn_bestPerNote mn_bestLength mn_searched su_lines su_length su_perNote su_above tr_size)) (ws1 := (wd_SpeciesSolver_judge kc ad mn_bestCost mn_bestPerNote mn_bestLength mn_searched su_lines su_length su_perNote su_above su_numbers su_on su_given fi_faults fi_highest fi_firstHighest fi_faultRules fi_faultNotes fi_faultLines tr_size tr_notes)) (As := []) (rest := []) (ci := 0) (q0 := 0) (y := y_SpeciesSolver_cannotJudge) ⟨hx, hb, hml, hown, hts⟩ (fun sz => c_SpeciesSolver_cannotJudge hc2 sz) gw_745 gw_742 gw_744 gw_63 gw_111 hd_SpeciesSolver_cannotJudge ⟨Nat.le_of_ble_eq_true rfl, Nat.le_of_ble_eq_true rfl⟩ ⟨rfl, rfl⟩ ⟨Nat.zero_le _, Nat.zero_le _⟩ hK hN hP hD hS hA hX [0, 1, 13] [2, 3, 4, 5, 6, 7, 8, 9, 10, 11, 12, 14] [12, 13, 0, 1, 2, 3, 4, 5, 6, 7, 8, 9, 10, 14, 11] rfl rfl (by decide) (by decide) (by decide) rfl (by decide) rfl rfl rfl hl.1 rfl (Nat.le_of_ble_eq_true rfl) d_SpeciesSolver_judge_1 (fun H locs hP hD hS => ?_)
  refine lv_if_eq (tgt := 11) hx hb d_SpeciesSolver_judge_4 (by decide) (fun c3 => ?_) (fun c3 => ?_)
  · replace hm := ifT hm c3
    refine lv_aload_n hx hb d_SpeciesSolver_judge_11 rfl (lv_at hl 0 rfl) ?_
    refine va_get (D := D) (ci := 0) (v := .ref (ad 9)) (C := R_SpeciesSolver) (T := T_SpeciesSolver) (N := 12) hx hb hts inG_SpeciesSolver hown hK hP 0 rfl rfl 2 (by decide) (hts _ gw_370) (fun _ h9 => h9) rfl d_SpeciesSolver_judge_12 ?_
    refine lv_aload_n hx hb d_SpeciesSolver_judge_15 rfl (lv_at hl 0 rfl) ?_
    refine va_get (D := D) (ci := 0) (v := .ref (ad 36)) (C := R_SpeciesSolver) (T := T_SpeciesSolver) (N := 12) hx hb hts inG_SpeciesSolver hown hK hP 0 rfl rfl 6 (by decide) (hts _ gw_374) (fun _ h9 => h9) rfl d_SpeciesSolver_judge_16 ?_
    obtain ⟨u4, hc5, hm⟩ := bd_some hm
    refine zVN_i (n := 1) (wr := [((ad 0), .inr (0, [.ref (ad 1), .ref (ad 8), .ref (ad 9), .ref (ad 13), .ref (ad 23), .ref (ad 34), .ref (ad 36), .ref (ad 38), .int mn_bestCost, .int mn_bestPerNote, .int mn_bestLength, .int mn_searched]))]) (w1 := (wd_FaultFinder_examine kc ad (ad 36) (ad 37) tr_size tr_notes su_lines su_length su_perNote su_above su_numbers su_on su_given u4.2.1 u4.2.2.1 u4.2.2.2.1 u4.2.2.2.2.1 u4.2.2.2.2.2.1 u4.2.2.2.2.2.2)) (ws1 := (wd_SpeciesSolver_judge kc ad mn_bestCost mn_bestPerNote mn_bestLength mn_searched su_lines su_length su_perNote su_above su_numbers su_on su_given u4.2.1 u4.2.2.1 u4.2.2.2.1 u4.2.2.2.2.1 u4.2.2.2.2.2.1 u4.2.2.2.2.2.2 tr_size tr_notes)) (As := [.ref (ad 36)]) (rest := []) (ci := 2) (q0 := 10) (y := y_FaultFinder_examine) (host := "SpeciesSolver") ⟨hx, hb, hml, hown, hts⟩ (fun sz => c_FaultFinder_examine hc5 sz) gw_750 (hN _ nw_747) gw_749 gw_64 gw_115 hd_FaultFinder_examine ⟨Nat.le_of_ble_eq_true rfl, Nat.le_of_ble_eq_true rfl⟩ ⟨rfl, rfl⟩ ⟨Nat.zero_le _, Nat.zero_le _⟩ hK hN hP hD hS hA hX [13, 14, 1, 2, 3, 4, 5, 6, 7, 8, 9, 10, 11, 12] [0] [0, 3, 4, 5, 6, 7, 8, 9, 10, 11, 12, 13, 14, 1, 2] rfl rfl (by decide) (by decide) (by decide) rfl (by decide) rfl rfl rfl hl.1 rfl (Nat.le_of_ble_eq_true rfl) d_SpeciesSolver_judge_19 (fun H locs hP hD hS => ?_)
    replace hm := Option.some.inj hm; subst hm
    exact zret_i C hP hD hS d_SpeciesSolver_judge_22
  · replace hm := ifF hm c3
    refine lv_iconst (v := -1) hx hb d_SpeciesSolver_judge_7 (by decide) ?_
    refine lv_goto (tgt := 22) hx hb d_SpeciesSolver_judge_8 (by decide) ?_
    replace hm := Option.some.inj hm; subst hm
    exact zret_i C hP hD hS d_SpeciesSolver_judge_22
set_option maxHeartbeats 4000000 in
set_option maxRecDepth 100000 in
theorem c_SpeciesSolver_judge {l : Launch} {D : va_G} {kc : Nat → ClassId} {r : Int32 × Int32 × Int32 × Int32 × (Nat → Int32) × (Nat → Int32) × (Nat → Int32)} {F : Nat} {ad : Nat → Nat} {mn_bestCost : Int32} {mn_bestPerNote : Int32} {mn_bestLength : Int32} {mn_searched : Int32} {su_lines : Int32} {su_length : Int32} {su_perNote : Int32} {su_above : Int32} {su_numbers : Nat → Int32} {su_on : Nat → Int32} {su_given : Nat → Nat → Int32} {fi_faults : Int32} {fi_highest : Int32} {fi_firstHighest : Int32} {fi_faultRules : Nat → Int32} {fi_faultNotes : Nat → Int32} {fi_faultLines : Nat → Int32} {tr_size : Int32} {tr_notes : Nat → Int32}  (hm : m_SpeciesSolver_judge F su_lines su_length su_perNote su_above su_numbers su_on su_given tr_size tr_notes fi_faults fi_highest fi_firstHighest fi_faultRules fi_faultNotes fi_faultLines = some r) (sz : Nat) : Ci l y_SpeciesSolver_judge ws_SpeciesSolver_judge rm_SpeciesSolver_judge D kc sz [.ref (ad 0)] (wd_SpeciesSolver_judge kc ad mn_bestCost mn_bestPerNote mn_bestLength mn_searched su_lines su_length su_perNote su_above su_numbers su_on su_given fi_faults fi_highest fi_firstHighest fi_faultRules fi_faultNotes fi_faultLines tr_size tr_notes) (wd_SpeciesSolver_judge kc ad mn_bestCost mn_bestPerNote mn_bestLength mn_searched su_lines su_length su_perNote su_above su_numbers su_on su_given r.2.1 r.2.2.1 r.2.2.2.1 r.2.2.2.2.1 r.2.2.2.2.2.1 r.2.2.2.2.2.2 tr_size tr_notes) r.1 :=
  Cz_of (Qf := fun A => (Qi D A (wd_SpeciesSolver_judge kc ad mn_bestCost mn_bestPerNote mn_bestLength mn_searched su_lines su_length su_perNote su_above su_numbers su_on su_given r.2.1 r.2.2.1 r.2.2.2.1 r.2.2.2.2.1 r.2.2.2.2.2.1 r.2.2.2.2.2.2 tr_size tr_notes) r.1)) (cc := b_SpeciesSolver_judge) (maxL := 1) (ret := (some .int)) (by decide) rfl rfl (fun C hZ hl => e_SpeciesSolver_judge C hm hZ hl)
abbrev b_FaultFinder_tell : ByteArray := prog_2_method_3_code
abbrev y_FaultFinder_tell : MethodName := ⟨"SpeciesSolver$FaultFinder", "tell", "(II)I"⟩
theorem d_FaultFinder_tell_0 : decode b_FaultFinder_tell 0 = .ok (.iload_n 1, 1) := by decide +kernel
theorem d_FaultFinder_tell_1 : decode b_FaultFinder_tell 1 = .ok (.ifCond .lt 18, 3) := by decide +kernel
theorem d_FaultFinder_tell_4 : decode b_FaultFinder_tell 4 = .ok (.iload_n 1, 1) := by decide +kernel
theorem d_FaultFinder_tell_5 : decode b_FaultFinder_tell 5 = .ok (.aload_n 0, 1) := by decide +kernel
theorem d_FaultFinder_tell_6 : decode b_FaultFinder_tell 6 = .ok (.getfield 21, 3) := by decide +kernel
theorem d_FaultFinder_tell_9 : decode b_FaultFinder_tell 9 = .ok (.if_icmp .ge 10, 3) := by decide +kernel
theorem d_FaultFinder_tell_12 : decode b_FaultFinder_tell 12 = .ok (.iload_n 1, 1) := by decide +kernel
theorem d_FaultFinder_tell_13 : decode b_FaultFinder_tell 13 = .ok (.sipush 200, 3) := by decide +kernel
theorem d_FaultFinder_tell_16 : decode b_FaultFinder_tell 16 = .ok (.if_icmp .lt 5, 3) := by decide +kernel
theorem d_FaultFinder_tell_19 : decode b_FaultFinder_tell 19 = .ok (.iconst (-1), 1) := by decide +kernel
theorem d_FaultFinder_tell_20 : decode b_FaultFinder_tell 20 = .ok (.ireturn, 1) := by decide +kernel
theorem d_FaultFinder_tell_21 : decode b_FaultFinder_tell 21 = .ok (.iload_n 2, 1) := by decide +kernel
theorem d_FaultFinder_tell_22 : decode b_FaultFinder_tell 22 = .ok (.tableswitch 47 0 2 #[26, 33, 40], 26) := by decide +kernel
theorem d_FaultFinder_tell_48 : decode b_FaultFinder_tell 48 = .ok (.aload_n 0, 1) := by decide +kernel
theorem d_FaultFinder_tell_49 : decode b_FaultFinder_tell 49 = .ok (.getfield 9, 3) := by decide +kernel
theorem d_FaultFinder_tell_52 : decode b_FaultFinder_tell 52 = .ok (.iload_n 1, 1) := by decide +kernel
theorem d_FaultFinder_tell_53 : decode b_FaultFinder_tell 53 = .ok (.iaload, 1) := by decide +kernel
theorem d_FaultFinder_tell_54 : decode b_FaultFinder_tell 54 = .ok (.ireturn, 1) := by decide +kernel
theorem d_FaultFinder_tell_55 : decode b_FaultFinder_tell 55 = .ok (.aload_n 0, 1) := by decide +kernel
theorem d_FaultFinder_tell_56 : decode b_FaultFinder_tell 56 = .ok (.getfield 15, 3) := by decide +kernel
theorem d_FaultFinder_tell_59 : decode b_FaultFinder_tell 59 = .ok (.iload_n 1, 1) := by decide +kernel
theorem d_FaultFinder_tell_60 : decode b_FaultFinder_tell 60 = .ok (.iaload, 1) := by decide +kernel
theorem d_FaultFinder_tell_61 : decode b_FaultFinder_tell 61 = .ok (.ireturn, 1) := by decide +kernel
theorem d_FaultFinder_tell_62 : decode b_FaultFinder_tell 62 = .ok (.aload_n 0, 1) := by decide +kernel
theorem d_FaultFinder_tell_63 : decode b_FaultFinder_tell 63 = .ok (.getfield 18, 3) := by decide +kernel
theorem d_FaultFinder_tell_66 : decode b_FaultFinder_tell 66 = .ok (.iload_n 1, 1) := by decide +kernel
theorem d_FaultFinder_tell_67 : decode b_FaultFinder_tell 67 = .ok (.iaload, 1) := by decide +kernel
theorem d_FaultFinder_tell_68 : decode b_FaultFinder_tell 68 = .ok (.ireturn, 1) := by decide +kernel
theorem d_FaultFinder_tell_69 : decode b_FaultFinder_tell 69 = .ok (.iconst (-1), 1) := by decide +kernel
theorem d_FaultFinder_tell_70 : decode b_FaultFinder_tell 70 = .ok (.ireturn, 1) := by decide +kernel
abbrev wd_FaultFinder_tell (kc : Nat → ClassId) (ad : Nat → Nat) (fi_faults : Int32) (fi_highest : Int32) (fi_firstHighest : Int32) (fi_faultRules : Nat → Int32) (fi_faultNotes : Nat → Int32) (fi_faultLines : Nat → Int32) : va_W := [((ad 9), .inr (2, [.ref (ad 1), .ref (ad 8), .ref (ad 10), .ref (ad 11), .ref (ad 12), .int fi_faults, .int fi_highest, .int fi_firstHighest])), ((ad 10), .inl (kc 0, 200, .inl fi_faultRules)), ((ad 11), .inl (kc 0, 200, .inl fi_faultNotes)), ((ad 12), .inl (kc 0, 200, .inl fi_faultLines))]
abbrev rm_FaultFinder_tell : Room := { frames := 0, cells := 0, slots := 0, locals := 0 }
abbrev cw_FaultFinder_tell : Cond := .code y_FaultFinder_tell b_FaultFinder_tell 3 (some .int)
abbrev ws_FaultFinder_tell : List Cond := cw_FaultFinder_tell :: GW
theorem hd_FaultFinder_tell : y_FaultFinder_tell.cls ≠ "java/lang/invoke/MethodHandle" ∧ y_FaultFinder_tell.cls ≠ "java/lang/invoke/VarHandle" ∧ (parseMethodDescriptor y_FaultFinder_tell.desc).map (fun d => d.parameters.length) = some 2 := by decide +kernel
def m_FaultFinder_tell (fi_faults : Int32) (fi_faultRules : Nat → Int32) (fi_faultNotes : Nat → Int32) (fi_faultLines : Nat → Int32)  (a1 : Int32) (a2 : Int32) : Option (Int32) :=
  (if a1 < (0 : Int32) then
    (some (-1 : Int32))
  else
    (if fi_faults ≤ a1 then
      (some (-1 : Int32))
    else
      (if a1 < (200 : Int32) then
        (if a2 = (0 : Int32) then (gd a1 200 (some (fi_faultRules (Int32.toNatClampNeg a1)))) else (if a2 = (1 : Int32) then (gd a1 200 (some (fi_faultNotes (Int32.toNatClampNeg a1)))) else (if a2 = (2 : Int32) then (gd a1 200 (some (fi_faultLines (Int32.toNatClampNeg a1)))) else (some (-1 : Int32)))))
      else
        (some (-1 : Int32)))))
set_option maxHeartbeats 4000000 in
set_option maxRecDepth 100000 in
theorem e_FaultFinder_tell {r : Int32} {ad : Nat → Nat} {fi_faults : Int32} {fi_highest : Int32} {fi_firstHighest : Int32} {fi_faultRules : Nat → Int32} {fi_faultNotes : Nat → Int32} {fi_faultLines : Nat → Int32} {a1 : Int32} {a2 : Int32} {H : Heap} {locs : List Loc} {ls : Array Slot} (C : Cx p s m meth c args A D kc R_FaultFinder b_FaultFinder_tell 3 (some .int)) (hm : m_FaultFinder_tell fi_faults fi_faultRules fi_faultNotes fi_faultLines a1 a2 = some r) (hZ : St D A s (wd_FaultFinder_tell kc ad fi_faults fi_highest fi_firstHighest fi_faultRules fi_faultNotes fi_faultLines) H locs) (hl : lv_has ls 3 [(0, .ref (ad 9)), (1, .int a1), (2, .int a2)]) : W p l e rm_FaultFinder_tell s m args below meth c H locs 0 0 (MQ below (Qi D A (wd_FaultFinder_tell kc ad fi_faults fi_highest fi_firstHighest fi_faultRules fi_faultNotes fi_faultLines) r) args s 0 0 A) (F0 m 0 ls []) := by
  obtain ⟨hx, hb, hr, hts, hown, hml, hlocks, hK, hN, hA, hX⟩ := id C
  obtain ⟨hP, hD, hS⟩ := hZ
  unfold m_FaultFinder_tell at hm
  refine lv_iload_n hx hb d_FaultFinder_tell_0 rfl (lv_at hl 1 rfl) ?_
  refine lv_if_lt (tgt := 19) hx hb d_FaultFinder_tell_1 (by decide) (fun c1 => ?_) (fun c1 => ?_)
  · replace hm := ifT hm c1
    refine lv_iconst (v := -1) hx hb d_FaultFinder_tell_19 (by decide) ?_
    replace hm := Option.some.inj hm; subst hm
    exact zret_i C hP hD hS d_FaultFinder_tell_20
  · replace hm := ifF hm c1
    refine lv_iload_n hx hb d_FaultFinder_tell_4 rfl (lv_at hl 1 rfl) ?_
    refine lv_aload_n hx hb d_FaultFinder_tell_5 rfl (lv_at hl 0 rfl) ?_
    refine va_get (D := D) (ci := 2) (v := .int fi_faults) (C := R_FaultFinder) (T := T_FaultFinder) (N := 8) hx hb hts inG_FaultFinder hown hK hP 0 rfl rfl 5 (by decide) (hts _ gw_222) (fun _ h9 => h9) rfl d_FaultFinder_tell_6 ?_
    refine lv_icmp_ge (tgt := 19) hx hb d_FaultFinder_tell_9 (by decide) (fun c2 => ?_) (fun c2 => ?_)
    · replace hm := ifT hm c2
      refine lv_iconst (v := -1) hx hb d_FaultFinder_tell_19 (by decide) ?_
      replace hm := Option.some.inj hm; subst hm
      exact zret_i C hP hD hS d_FaultFinder_tell_20
    · replace hm := ifF hm c2
      refine lv_iload_n hx hb d_FaultFinder_tell_12 rfl (lv_at hl 1 rfl) ?_
      refine lv_sipush (v := 200) hx hb d_FaultFinder_tell_13 (by decide) ?_
      refine lv_icmp_lt (tgt := 21) hx hb d_FaultFinder_tell_16 (by decide) (fun c3 => ?_) (fun c3 => ?_)
      · replace hm := ifT hm c3
        refine lv_iload_n hx hb d_FaultFinder_tell_21 rfl (lv_at hl 2 rfl) ?_
        by_cases c4 : a2 = (0 : Int32)
        · replace hm := ifT hm c4
          refine lv_tableIn (off := 26) (tgt := 48) hx hb d_FaultFinder_tell_22 (by rw [c4]; decide) (by rw [c4]; decide) (by rw [c4]; rfl) (by decide) ?_
          refine lv_aload_n hx hb d_FaultFinder_tell_48 rfl (lv_at hl 0 rfl) ?_
          refine va_get (D := D) (ci := 2) (v := .ref (ad 10)) (C := R_FaultFinder) (T := T_FaultFinder) (N := 8) hx hb hts inG_FaultFinder hown hK hP 0 rfl rfl 2 (by decide) (hts _ gw_219) (fun _ h9 => h9) rfl d_FaultFinder_tell_49 ?_
          refine lv_iload_n hx hb d_FaultFinder_tell_52 rfl (lv_at hl 1 rfl) ?_
          obtain ⟨hi5, hm⟩ := gd_some hm
          refine va_iald hx hb hK hP 1 0 rfl rfl hi5 d_FaultFinder_tell_53 ?_
          replace hm := Option.some.inj hm; subst hm
          exact zret_i C hP hD hS d_FaultFinder_tell_54
        replace hm := ifF hm c4
        by_cases c6 : a2 = (1 : Int32)
        · replace hm := ifT hm c6
          refine lv_tableIn (off := 33) (tgt := 55) hx hb d_FaultFinder_tell_22 (by rw [c6]; decide) (by rw [c6]; decide) (by rw [c6]; rfl) (by decide) ?_
          refine lv_aload_n hx hb d_FaultFinder_tell_55 rfl (lv_at hl 0 rfl) ?_
          refine va_get (D := D) (ci := 2) (v := .ref (ad 11)) (C := R_FaultFinder) (T := T_FaultFinder) (N := 8) hx hb hts inG_FaultFinder hown hK hP 0 rfl rfl 3 (by decide) (hts _ gw_220) (fun _ h9 => h9) rfl d_FaultFinder_tell_56 ?_
          refine lv_iload_n hx hb d_FaultFinder_tell_59 rfl (lv_at hl 1 rfl) ?_
          obtain ⟨hi7, hm⟩ := gd_some hm
          refine va_iald hx hb hK hP 2 0 rfl rfl hi7 d_FaultFinder_tell_60 ?_
          replace hm := Option.some.inj hm; subst hm
          exact zret_i C hP hD hS d_FaultFinder_tell_61
        replace hm := ifF hm c6
        by_cases c8 : a2 = (2 : Int32)
        · replace hm := ifT hm c8
          refine lv_tableIn (off := 40) (tgt := 62) hx hb d_FaultFinder_tell_22 (by rw [c8]; decide) (by rw [c8]; decide) (by rw [c8]; rfl) (by decide) ?_
          refine lv_aload_n hx hb d_FaultFinder_tell_62 rfl (lv_at hl 0 rfl) ?_
          refine va_get (D := D) (ci := 2) (v := .ref (ad 12)) (C := R_FaultFinder) (T := T_FaultFinder) (N := 8) hx hb hts inG_FaultFinder hown hK hP 0 rfl rfl 4 (by decide) (hts _ gw_221) (fun _ h9 => h9) rfl d_FaultFinder_tell_63 ?_
          refine lv_iload_n hx hb d_FaultFinder_tell_66 rfl (lv_at hl 1 rfl) ?_
          obtain ⟨hi9, hm⟩ := gd_some hm
          refine va_iald hx hb hK hP 3 0 rfl rfl hi9 d_FaultFinder_tell_67 ?_
          replace hm := Option.some.inj hm; subst hm
          exact zret_i C hP hD hS d_FaultFinder_tell_68
        replace hm := ifF hm c8
        refine lv_tableOut (tgt := 69) hx hb d_FaultFinder_tell_22 (by have := ti_ne (k := 0) (y := (0 : Int32)) rfl c4; have := ti_ne (k := 1) (y := (1 : Int32)) rfl c6; have := ti_ne (k := 2) (y := (2 : Int32)) rfl c8; omega) (by decide) ?_
        refine lv_iconst (v := -1) hx hb d_FaultFinder_tell_69 (by decide) ?_
        replace hm := Option.some.inj hm; subst hm
        exact zret_i C hP hD hS d_FaultFinder_tell_70
      · replace hm := ifF hm c3
        refine lv_iconst (v := -1) hx hb d_FaultFinder_tell_19 (by decide) ?_
        replace hm := Option.some.inj hm; subst hm
        exact zret_i C hP hD hS d_FaultFinder_tell_20
set_option maxHeartbeats 4000000 in
set_option maxRecDepth 100000 in
theorem c_FaultFinder_tell {l : Launch} {D : va_G} {kc : Nat → ClassId} {r : Int32} {ad : Nat → Nat} {fi_faults : Int32} {fi_highest : Int32} {fi_firstHighest : Int32} {fi_faultRules : Nat → Int32} {fi_faultNotes : Nat → Int32} {fi_faultLines : Nat → Int32} {a1 : Int32} {a2 : Int32} (hm : m_FaultFinder_tell fi_faults fi_faultRules fi_faultNotes fi_faultLines a1 a2 = some r) (sz : Nat) : Ci l y_FaultFinder_tell ws_FaultFinder_tell rm_FaultFinder_tell D kc sz [.ref (ad 9), .int a1, .int a2] (wd_FaultFinder_tell kc ad fi_faults fi_highest fi_firstHighest fi_faultRules fi_faultNotes fi_faultLines) (wd_FaultFinder_tell kc ad fi_faults fi_highest fi_firstHighest fi_faultRules fi_faultNotes fi_faultLines) r :=
  Cz_of (Qf := fun A => (Qi D A (wd_FaultFinder_tell kc ad fi_faults fi_highest fi_firstHighest fi_faultRules fi_faultNotes fi_faultLines) r)) (cc := b_FaultFinder_tell) (maxL := 3) (ret := (some .int)) (by decide) rfl rfl (fun C hZ hl => e_FaultFinder_tell C hm hZ hl)
abbrev b_SpeciesSolver_fault : ByteArray := prog_1_method_19_code
abbrev y_SpeciesSolver_fault : MethodName := ⟨"SpeciesSolver", "fault", "(II)I"⟩
theorem d_SpeciesSolver_fault_0 : decode b_SpeciesSolver_fault 0 = .ok (.aload_n 0, 1) := by decide +kernel
theorem d_SpeciesSolver_fault_1 : decode b_SpeciesSolver_fault 1 = .ok (.getfield 57, 3) := by decide +kernel
theorem d_SpeciesSolver_fault_4 : decode b_SpeciesSolver_fault 4 = .ok (.iload_n 1, 1) := by decide +kernel
theorem d_SpeciesSolver_fault_5 : decode b_SpeciesSolver_fault 5 = .ok (.iload_n 2, 1) := by decide +kernel
theorem d_SpeciesSolver_fault_6 : decode b_SpeciesSolver_fault 6 = .ok (.invokevirtual 168, 3) := by decide +kernel
theorem d_SpeciesSolver_fault_9 : decode b_SpeciesSolver_fault 9 = .ok (.ireturn, 1) := by decide +kernel
abbrev wd_SpeciesSolver_fault (kc : Nat → ClassId) (ad : Nat → Nat) (mn_bestCost : Int32) (mn_bestPerNote : Int32) (mn_bestLength : Int32) (mn_searched : Int32) (fi_faults : Int32) (fi_highest : Int32) (fi_firstHighest : Int32) (fi_faultRules : Nat → Int32) (fi_faultNotes : Nat → Int32) (fi_faultLines : Nat → Int32) : va_W := [((ad 0), .inr (0, [.ref (ad 1), .ref (ad 8), .ref (ad 9), .ref (ad 13), .ref (ad 23), .ref (ad 34), .ref (ad 36), .ref (ad 38), .int mn_bestCost, .int mn_bestPerNote, .int mn_bestLength, .int mn_searched])), ((ad 9), .inr (2, [.ref (ad 1), .ref (ad 8), .ref (ad 10), .ref (ad 11), .ref (ad 12), .int fi_faults, .int fi_highest, .int fi_firstHighest])), ((ad 10), .inl (kc 0, 200, .inl fi_faultRules)), ((ad 11), .inl (kc 0, 200, .inl fi_faultNotes)), ((ad 12), .inl (kc 0, 200, .inl fi_faultLines))]
abbrev rm_SpeciesSolver_fault : Room := { frames := 1, cells := 0, slots := 0, locals := 22 }
abbrev cw_SpeciesSolver_fault : Cond := .code y_SpeciesSolver_fault b_SpeciesSolver_fault 3 (some .int)
abbrev ws_SpeciesSolver_fault : List Cond := cw_SpeciesSolver_fault :: GW
theorem hd_SpeciesSolver_fault : y_SpeciesSolver_fault.cls ≠ "java/lang/invoke/MethodHandle" ∧ y_SpeciesSolver_fault.cls ≠ "java/lang/invoke/VarHandle" ∧ (parseMethodDescriptor y_SpeciesSolver_fault.desc).map (fun d => d.parameters.length) = some 2 := by decide +kernel
def m_SpeciesSolver_fault (fi_faults : Int32) (fi_faultRules : Nat → Int32) (fi_faultNotes : Nat → Int32) (fi_faultLines : Nat → Int32)  (a1 : Int32) (a2 : Int32) : Option (Int32) :=
  (bd (m_FaultFinder_tell fi_faults fi_faultRules fi_faultNotes fi_faultLines a1 a2) (fun u1 => (some u1)))
set_option maxHeartbeats 4000000 in
set_option maxRecDepth 100000 in
theorem e_SpeciesSolver_fault {r : Int32} {ad : Nat → Nat} {mn_bestCost : Int32} {mn_bestPerNote : Int32} {mn_bestLength : Int32} {mn_searched : Int32} {fi_faults : Int32} {fi_highest : Int32} {fi_firstHighest : Int32} {fi_faultRules : Nat → Int32} {fi_faultNotes : Nat → Int32} {fi_faultLines : Nat → Int32} {a1 : Int32} {a2 : Int32} {H : Heap} {locs : List Loc} {ls : Array Slot} (C : Cx p s m meth c args A D kc R_SpeciesSolver b_SpeciesSolver_fault 3 (some .int)) (hm : m_SpeciesSolver_fault fi_faults fi_faultRules fi_faultNotes fi_faultLines a1 a2 = some r) (hZ : St D A s (wd_SpeciesSolver_fault kc ad mn_bestCost mn_bestPerNote mn_bestLength mn_searched fi_faults fi_highest fi_firstHighest fi_faultRules fi_faultNotes fi_faultLines) H locs) (hl : lv_has ls 3 [(0, .ref (ad 0)), (1, .int a1), (2, .int a2)]) : W p l e rm_SpeciesSolver_fault s m args below meth c H locs 0 0 (MQ below (Qi D A (wd_SpeciesSolver_fault kc ad mn_bestCost mn_bestPerNote mn_bestLength mn_searched fi_faults fi_highest fi_firstHighest fi_faultRules fi_faultNotes fi_faultLines) r) args s 0 0 A) (F0 m 0 ls []) := by
  obtain ⟨hx, hb, hr, hts, hown, hml, hlocks, hK, hN, hA, hX⟩ := id C
  obtain ⟨hP, hD, hS⟩ := hZ
  unfold m_SpeciesSolver_fault at hm
  refine lv_aload_n hx hb d_SpeciesSolver_fault_0 rfl (lv_at hl 0 rfl) ?_
  refine va_get (D := D) (ci := 0) (v := .ref (ad 9)) (C := R_SpeciesSolver) (T := T_SpeciesSolver) (N := 12) hx hb hts inG_SpeciesSolver hown hK hP 0 rfl rfl 2 (by decide) (hts _ gw_370) (fun _ h9 => h9) rfl d_SpeciesSolver_fault_1 ?_
  refine lv_iload_n hx hb d_SpeciesSolver_fault_4 rfl (lv_at hl 1 rfl) ?_
  refine lv_iload_n hx hb d_SpeciesSolver_fault_5 rfl (lv_at hl 2 rfl) ?_
  obtain ⟨u1, hc2, hm⟩ := bd_some hm
  refine zVN_i (n := 2) (wr := [((ad 0), .inr (0, [.ref (ad 1), .ref (ad 8), .ref (ad 9), .ref (ad 13), .ref (ad 23), .ref (ad 34), .ref (ad 36), .ref (ad 38), .int mn_bestCost, .int mn_bestPerNote, .int mn_bestLength, .int mn_searched]))]) (w1 := (wd_FaultFinder_tell kc ad fi_faults fi_highest fi_firstHighest fi_faultRules fi_faultNotes fi_faultLines)) (ws1 := (wd_SpeciesSolver_fault kc ad mn_bestCost mn_bestPerNote mn_bestLength mn_searched fi_faults fi_highest fi_firstHighest fi_faultRules fi_faultNotes fi_faultLines)) (As := [.int a1, .int a2]) (rest := []) (ci := 2) (q0 := 0) (y := y_FaultFinder_tell) (host := "SpeciesSolver") ⟨hx, hb, hml, hown, hts⟩ (fun sz => c_FaultFinder_tell hc2 sz) gw_796 (hN _ nw_793) gw_795 gw_72 gw_115 hd_FaultFinder_tell ⟨Nat.le_of_ble_eq_true rfl, Nat.le_of_ble_eq_true rfl⟩ ⟨rfl, rfl⟩ ⟨Nat.zero_le _, Nat.zero_le _⟩ hK hN hP hD hS hA hX [1, 2, 3, 4] [0] [0, 1, 2, 3, 4] rfl rfl (by decide) (by decide) (by decide) rfl (by decide) rfl rfl rfl hl.1 rfl (Nat.le_of_ble_eq_true rfl) d_SpeciesSolver_fault_6 (fun H locs hP hD hS => ?_)
  replace hm := Option.some.inj hm; subst hm
  exact zret_i C hP hD hS d_SpeciesSolver_fault_9
set_option maxHeartbeats 4000000 in
set_option maxRecDepth 100000 in
theorem c_SpeciesSolver_fault {l : Launch} {D : va_G} {kc : Nat → ClassId} {r : Int32} {ad : Nat → Nat} {mn_bestCost : Int32} {mn_bestPerNote : Int32} {mn_bestLength : Int32} {mn_searched : Int32} {fi_faults : Int32} {fi_highest : Int32} {fi_firstHighest : Int32} {fi_faultRules : Nat → Int32} {fi_faultNotes : Nat → Int32} {fi_faultLines : Nat → Int32} {a1 : Int32} {a2 : Int32} (hm : m_SpeciesSolver_fault fi_faults fi_faultRules fi_faultNotes fi_faultLines a1 a2 = some r) (sz : Nat) : Ci l y_SpeciesSolver_fault ws_SpeciesSolver_fault rm_SpeciesSolver_fault D kc sz [.ref (ad 0), .int a1, .int a2] (wd_SpeciesSolver_fault kc ad mn_bestCost mn_bestPerNote mn_bestLength mn_searched fi_faults fi_highest fi_firstHighest fi_faultRules fi_faultNotes fi_faultLines) (wd_SpeciesSolver_fault kc ad mn_bestCost mn_bestPerNote mn_bestLength mn_searched fi_faults fi_highest fi_firstHighest fi_faultRules fi_faultNotes fi_faultLines) r :=
  Cz_of (Qf := fun A => (Qi D A (wd_SpeciesSolver_fault kc ad mn_bestCost mn_bestPerNote mn_bestLength mn_searched fi_faults fi_highest fi_firstHighest fi_faultRules fi_faultNotes fi_faultLines) r)) (cc := b_SpeciesSolver_fault) (maxL := 3) (ret := (some .int)) (by decide) rfl rfl (fun C hZ hl => e_SpeciesSolver_fault C hm hZ hl)
end
