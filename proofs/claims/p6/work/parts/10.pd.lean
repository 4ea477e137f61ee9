
def stab : Nat → Nat → Int32 := fun k j => match k with
  | 0 => ([2741, 60, 72, 921, 129, 129, 1, 3136, 2, 12, 4, 1, 5, 3, 1, 2, 1, 1] : List Int32).getD j 0
  | 1 => ([0, 0, 0, 0, 0, 0, 0, 0, 1, 1, 1, 1, 0, 0, 0, 0, 0, 0] : List Int32).getD j 0
  | _ => ([4095, 127, 127, 4095, 4095, 4095, 4095, 33554431, 12, 24, 24, 3, 1000, 1000, 1000, 1000, 1000, 1000] : List Int32).getD j 0
def gd {α : Type} (i : Int32) (n : Nat) (x : Option α) : Option α := if i < 0 ∨ n ≤ i.toNatClampNeg then none else x
theorem gd_some {α : Type} {i : Int32} {n : Nat} {x : Option α} {r : α} (h : gd i n x = some r) : vp_in i n ∧ x = some r := by
  unfold gd at h
  by_cases c : i < 0 ∨ n ≤ i.toNatClampNeg
  · rw [if_pos c] at h; cases h
  · rw [if_neg c] at h; exact ⟨c, h⟩
def nz {α : Type} (i : Int32) (x : Option α) : Option α := if i = 0 then none else x
theorem nz_some {α : Type} {i : Int32} {x : Option α} {r : α} (h : nz i x = some r) : (¬ i = 0) ∧ x = some r := by
  unfold nz at h
  by_cases c : i = 0
  · rw [if_pos c] at h; cases h
  · rw [if_neg c] at h; exact ⟨c, h⟩
def gb {α : Type} (i : Int32) (x : Option α) : Option α := if i = 0 ∨ i = 1 then x else none
theorem gb_some {α : Type} {i : Int32} {x : Option α} {r : α} (h : gb i x = some r) : (i = 0 ∨ i = 1) ∧ x = some r := by
  unfold gb at h
  by_cases c : i = 0 ∨ i = 1
  · rw [if_pos c] at h; exact ⟨c, h⟩
  · rw [if_neg c] at h; cases h
def bd {α β : Type} (x : Option α) (f : α → Option β) : Option β := match x with
  | none => none
  | some a => f a
theorem bd_some {α β : Type} {x : Option α} {f : α → Option β} {r : β} (h : bd x f = some r) : ∃ a, x = some a ∧ f a = some r := by
  cases x with
  | none => cases h
  | some a => exact ⟨a, rfl, h⟩
theorem ifT {α : Type} {c : Prop} [Decidable c] {a b o : α} (h : (if c then a else b) = o) (hc : c) : a = o := by rw [if_pos hc] at h; exact h
theorem ifF {α : Type} {c : Prop} [Decidable c] {a b o : α} (h : (if c then a else b) = o) (hc : ¬ c) : b = o := by rw [if_neg hc] at h; exact h
def upd2 (f : Nat → Nat → Int32) (i j : Nat) (x : Int32) : Nat → Nat → Int32 := fun a => if a = i then upd (f i) j x else f a
def m_Line_append  (X_size : Int32) (X_notes : Nat → Int32) (a1 : Int32) : Option (Int32 × (Nat → Int32)) :=
  (if (45 : Int32) ≤ X_size then
    (some (X_size, X_notes))
  else
    (gd X_size 45 (some ((X_size + (1 : Int32)), (upd X_notes (Int32.toNatClampNeg X_size) a1)))))
def m_SpeciesSolver_note  (dr_size : Int32) (dr_notes : Nat → Int32) (a1 : Int32) : Option (Int32 × Int32 × (Nat → Int32)) :=
  (if a1 < (0 : Int32) then
    (some ((-1 : Int32), dr_size, dr_notes))
  else
    (if (127 : Int32) < a1 then
      (some ((-1 : Int32), dr_size, dr_notes))
    else
      (if dr_size < (45 : Int32) then
        (bd (m_Line_append dr_size dr_notes a1) (fun u4 => (some (u4.1, u4.1, u4.2))))
      else
        (some ((-1 : Int32), dr_size, dr_notes)))))
def m_Setup_hasPlaceFor (su_lines : Int32) (su_length : Int32)  (a1 : Int32) : Option (Int32) :=
  (if (3 : Int32) ≤ su_lines then
    (some (0 : Int32))
  else
    (if a1 < (2 : Int32) then
      (some (0 : Int32))
    else
      (if (12 : Int32) < a1 then
        (some (0 : Int32))
      else
        (if su_lines = (0 : Int32) then
          (some (1 : Int32))
        else
          (if a1 = su_length then
            (some (1 : Int32))
          else
            (some (0 : Int32)))))))
def m_Line_at (X_size : Int32) (X_notes : Nat → Int32)  (a1 : Int32) : Option (Int32) :=
  (if a1 < (0 : Int32) then
    (some (-1 : Int32))
  else
    (if X_size ≤ a1 then
      (some (-1 : Int32))
    else
      (gd a1 45 (some (X_notes (Int32.toNatClampNeg a1))))))
def m_Setup_addLine_3b (F : Nat) (X_size : Int32) (X_notes : Nat → Int32) (k3 : Int32 → Int32 → (Nat → Nat → Int32) → Int32 → Int32 → Int32 → Option (Int32 × Int32 × (Nat → Nat → Int32))) (su_lines : Int32) (su_length : Int32) (su_given : Nat → Nat → Int32) (x2 : Int32) (x3 : Int32) (x4 : Int32) : Option (Int32 × Int32 × (Nat → Nat → Int32)) :=
  (if x3 ≤ x4 then
    (some ((su_lines + (1 : Int32)), x3, su_given))
  else
    (gd su_lines 3 (bd (m_Line_at X_size X_notes (x4 * x2)) (fun u3 => (gd x4 12 (k3 su_lines su_length (upd2 su_given (Int32.toNatClampNeg su_lines) (Int32.toNatClampNeg x4) u3) x2 x3 (x4 + 1)))))))
def m_Setup_addLine_3 (F : Nat) (X_size : Int32) (X_notes : Nat → Int32)  : Nat → Int32 → Int32 → (Nat → Nat → Int32) → Int32 → Int32 → Int32 → Option (Int32 × Int32 × (Nat → Nat → Int32))
  | 0 => fun _ _ _ _ _ _ => none
  | n + 1 => m_Setup_addLine_3b F X_size X_notes  (m_Setup_addLine_3 F X_size X_notes  n)
def m_Setup_addLine (F : Nat) (X_size : Int32) (X_notes : Nat → Int32) (su_lines : Int32) (su_length : Int32) (su_given : Nat → Nat → Int32) (a2 : Int32) (a3 : Int32) : Option (Int32 × Int32 × (Nat → Nat → Int32)) :=
  m_Setup_addLine_3 F X_size X_notes  F su_lines su_length su_given a2 a3 (0 : Int32)
def m_SpeciesSolver_give (F : Nat) (dr_notes : Nat → Int32) (mn_searched : Int32) (su_lines : Int32) (su_length : Int32) (su_given : Nat → Nat → Int32) (dr_size : Int32)  : Option (Int32 × Int32 × Int32 × Int32 × (Nat → Nat → Int32) × Int32) :=
  (bd (m_Setup_hasPlaceFor su_lines su_length dr_size) (fun u1 => (if u1 = (0 : Int32) then
    (some ((-1 : Int32), mn_searched, su_lines, su_length, su_given, dr_size))
  else
    (bd (m_Setup_addLine F dr_size dr_notes su_lines su_length su_given (1 : Int32) dr_size) (fun u4 => (some ((u4.1 - (1 : Int32)), (0 : Int32), u4.1, u4.2.1, u4.2.2, (0 : Int32))))))))
def m_Line_copyOf_2b (F : Nat) (Y_size : Int32) (Y_notes : Nat → Int32) (k2 : Int32 → (Nat → Int32) → Int32 → Option (Int32 × (Nat → Int32))) (X_size : Int32) (X_notes : Nat → Int32) (x2 : Int32) : Option (Int32 × (Nat → Int32)) :=
  (if Y_size ≤ x2 then
    (some (Y_size, X_notes))
  else
    (gd x2 45 (gd x2 45 (k2 X_size (upd X_notes (Int32.toNatClampNeg x2) (Y_notes (Int32.toNatClampNeg x2))) (x2 + 1)))))
def m_Line_copyOf_2 (F : Nat) (Y_size : Int32) (Y_notes : Nat → Int32)  : Nat → Int32 → (Nat → Int32) → Int32 → Option (Int32 × (Nat → Int32))
  | 0 => fun _ _ _ => none
  | n + 1 => m_Line_copyOf_2b F Y_size Y_notes  (m_Line_copyOf_2 F Y_size Y_notes  n)
def m_Line_copyOf (F : Nat) (Y_size : Int32) (Y_notes : Nat → Int32) (X_size : Int32) (X_notes : Nat → Int32)  : Option (Int32 × (Nat → Int32)) :=
  m_Line_copyOf_2 F Y_size Y_notes  F X_size X_notes (0 : Int32)
def m_SpeciesSolver_attempt (F : Nat) (dr_notes : Nat → Int32) (dr_size : Int32) (tr_size : Int32) (tr_notes : Nat → Int32)  : Option (Int32 × Int32 × Int32 × (Nat → Int32)) :=
  (bd (m_Line_copyOf F dr_size dr_notes tr_size tr_notes) (fun u1 => (some (u1.1, (0 : Int32), u1.1, u1.2))))
def m_Setup_removeLine  (su_lines : Int32) (su_length : Int32)  : Option (Int32 × Int32) :=
  (if (su_lines - (1 : Int32)) = (0 : Int32) then
    (some ((su_lines - (1 : Int32)), (0 : Int32)))
  else
    (some ((su_lines - (1 : Int32)), su_length)))
def m_SpeciesSolver_drop  (mn_searched : Int32) (su_lines : Int32) (su_length : Int32)  : Option (Int32 × Int32 × Int32 × Int32) :=
  (if su_lines = (0 : Int32) then
    (some ((0 : Int32), mn_searched, su_lines, su_length))
  else
    (bd (m_Setup_removeLine su_lines su_length) (fun u2 => (some ((1 : Int32), (0 : Int32), u2.1, u2.2)))))
def m_SpeciesSolver_species_17   (mn_searched : Int32) (su_perNote : Int32) (su_above : Int32) (x1 : Int32) (x2 : Int32) : Option (Int32 × Int32 × Int32 × Int32) :=
  (gb x2 (some ((1 : Int32), (0 : Int32), x1, x2)))
def m_SpeciesSolver_species  (mn_searched : Int32) (su_perNote : Int32) (su_above : Int32) (a1 : Int32) (a2 : Int32) : Option (Int32 × Int32 × Int32 × Int32) :=
  (if a1 = (1 : Int32) then
    m_SpeciesSolver_species_17   mn_searched su_perNote su_above a1 a2
  else
    (if a1 = (2 : Int32) then
      m_SpeciesSolver_species_17   mn_searched su_perNote su_above a1 a2
    else
      (if a1 = (4 : Int32) then
        m_SpeciesSolver_species_17   mn_searched su_perNote su_above a1 a2
      else
        (some ((0 : Int32), mn_searched, su_perNote, su_above)))))
def m_SpeciesSolver_rule  (mn_searched : Int32) (su_on : Nat → Int32) (a1 : Int32) (a2 : Int32) : Option (Int32 × Int32 × (Nat → Int32)) :=
  (if a1 < (0 : Int32) then
    (some ((0 : Int32), mn_searched, su_on))
  else
    (if a1 < (11 : Int32) then
      (gd a1 11 (some ((1 : Int32), (0 : Int32), (upd su_on (Int32.toNatClampNeg a1) (vp_nar .boolean a2)))))
    else
      (some ((0 : Int32), mn_searched, su_on))))
def m_SpeciesSolver_number  (mn_searched : Int32) (su_numbers : Nat → Int32) (a1 : Int32) (a2 : Int32) : Option (Int32 × Int32 × (Nat → Int32)) :=
  (if a1 < (0 : Int32) then
    (some ((0 : Int32), mn_searched, su_numbers))
  else
    (if (18 : Int32) ≤ a1 then
      (some ((0 : Int32), mn_searched, su_numbers))
    else
      (gd a1 18 (if a2 < (stab 1 (Int32.toNatClampNeg a1)) then
        (some ((0 : Int32), mn_searched, su_numbers))
      else
        (gd a1 18 (if a2 ≤ (stab 2 (Int32.toNatClampNeg a1)) then
          (gd a1 18 (some ((1 : Int32), (0 : Int32), (upd su_numbers (Int32.toNatClampNeg a1) a2))))
        else
          (some ((0 : Int32), mn_searched, su_numbers))))))))
def m_SpeciesSolver_setting (su_numbers : Nat → Int32)  (a1 : Int32) : Option (Int32) :=
  (if a1 < (0 : Int32) then
    (some (-1 : Int32))
  else
    (if a1 < (18 : Int32) then
      (gd a1 18 (some (su_numbers (Int32.toNatClampNeg a1))))
    else
      (some (-1 : Int32))))
def m_Setup_isChosen (su_numbers : Nat → Int32)  (a1 : Int32) : Option (Int32) :=
  (if (((su_numbers (Int32.toNatClampNeg (0 : Int32))) >>> ((a1 - a1 / (12 : Int32) * (12 : Int32)) &&& 31)) &&& (1 : Int32)) = (1 : Int32) then
    (some (1 : Int32))
  else
    (some (0 : Int32)))
def m_Setup_choiceSize_30 (F : Nat) (su_numbers : Nat → Int32) (k9 : Int32 → Int32 → Option (Int32))  (x1 : Int32) (x2 : Int32) : Option (Int32) :=
  k9 x1 (x2 + 1)
def m_Setup_choiceSize_9b (F : Nat) (su_numbers : Nat → Int32) (k9 : Int32 → Int32 → Option (Int32))  (x1 : Int32) (x2 : Int32) : Option (Int32) :=
  (if (su_numbers (Int32.toNatClampNeg (2 : Int32))) < x2 then
    (if x1 ≤ (8 : Int32) then
      (some x1)
    else
      (some (-1 : Int32)))
  else
    (bd (m_Setup_isChosen su_numbers x2) (fun u3 => (if u3 = (0 : Int32) then
      m_Setup_choiceSize_30 F su_numbers k9 x1 x2
    else
      m_Setup_choiceSize_30 F su_numbers k9 (x1 + 1) x2))))
def m_Setup_choiceSize_9 (F : Nat) (su_numbers : Nat → Int32)  : Nat → Int32 → Int32 → Option (Int32)
  | 0 => fun _ _ => none
  | n + 1 => m_Setup_choiceSize_9b F su_numbers  (m_Setup_choiceSize_9 F su_numbers  n)
def m_Setup_choiceSize (F : Nat) (su_numbers : Nat → Int32)   : Option (Int32) :=
  m_Setup_choiceSize_9 F su_numbers  F (0 : Int32) (su_numbers (Int32.toNatClampNeg (1 : Int32)))
def m_SpeciesSolver_choice (F : Nat) (su_numbers : Nat → Int32)   : Option (Int32) :=
  (bd (m_Setup_choiceSize F su_numbers) (fun u1 => (some u1)))
def m_SpeciesSolver_cannotSearch (F : Nat) (su_lines : Int32) (su_numbers : Nat → Int32)   : Option (Int32) :=
  (if su_lines = (0 : Int32) then
    (some (1 : Int32))
  else
    (bd (m_Setup_choiceSize F su_numbers) (fun u2 => (if u2 = (-1 : Int32) then
      (some (1 : Int32))
    else
      (some (0 : Int32))))))
def m_Setup_writeChoice_40 (F : Nat) (su_numbers : Nat → Int32) (k9 : (Nat → Int32) → Int32 → Int32 → Option (Int32 × (Nat → Int32))) (P : Nat → Int32) (x2 : Int32) (x3 : Int32) : Option (Int32 × (Nat → Int32)) :=
  k9 P x2 (x3 + 1)
def m_Setup_writeChoice_9b (F : Nat) (su_numbers : Nat → Int32) (k9 : (Nat → Int32) → Int32 → Int32 → Option (Int32 × (Nat → Int32))) (P : Nat → Int32) (x2 : Int32) (x3 : Int32) : Option (Int32 × (Nat → Int32)) :=
  (if (su_numbers (Int32.toNatClampNeg (2 : Int32))) < x3 then
    (some (x2, P))
  else
    (if (8 : Int32) ≤ x2 then
      (some (x2, P))
    else
      (bd (m_Setup_isChosen su_numbers x3) (fun u3 => (if u3 = (0 : Int32) then
        m_Setup_writeChoice_40 F su_numbers k9 P x2 x3
      else
        (gd x2 8 (m_Setup_writeChoice_40 F su_numbers k9 (upd P (Int32.toNatClampNeg x2) x3) (x2 + 1) x3)))))))
def m_Setup_writeChoice_9 (F : Nat) (su_numbers : Nat → Int32)  : Nat → (Nat → Int32) → Int32 → Int32 → Option (Int32 × (Nat → Int32))
  | 0 => fun _ _ _ => none
  | n + 1 => m_Setup_writeChoice_9b F su_numbers  (m_Setup_writeChoice_9 F su_numbers  n)
def m_Setup_writeChoice (F : Nat) (su_numbers : Nat → Int32) (P : Nat → Int32)  : Option (Int32 × (Nat → Int32)) :=
  m_Setup_writeChoice_9 F su_numbers  F P (0 : Int32) (su_numbers (Int32.toNatClampNeg (1 : Int32)))
def m_Setup_total (su_lines : Int32) (su_length : Int32) (su_perNote : Int32)   : Option (Int32) :=
  (if su_lines = (0 : Int32) then
    (some (0 : Int32))
  else
    (some ((su_perNote * (su_length - (1 : Int32))) + (1 : Int32))))
def m_Rules_isStrong (su_perNote : Int32)  (a1 : Int32) : Option (Int32) :=
  (nz su_perNote (if (a1 - a1 / su_perNote * su_perNote) = (0 : Int32) then
    (some (1 : Int32))
  else
    (some (0 : Int32))))
def m_Rules_classWith (su_perNote : Int32) (su_given : Nat → Nat → Int32)  (a1 : Int32) (a2 : Int32) (a3 : Int32) : Option (Int32) :=
  (gd a1 3 (nz su_perNote (gd (a2 / su_perNote) 12 (if (0 : Int32) ≤ (a3 - (su_given (Int32.toNatClampNeg a1) (Int32.toNatClampNeg (a2 / su_perNote)))) then
    (some ((a3 - (su_given (Int32.toNatClampNeg a1) (Int32.toNatClampNeg (a2 / su_perNote)))) - (a3 - (su_given (Int32.toNatClampNeg a1) (Int32.toNatClampNeg (a2 / su_perNote)))) / (12 : Int32) * (12 : Int32)))
  else
    (some ((-(a3 - (su_given (Int32.toNatClampNeg a1) (Int32.toNatClampNeg (a2 / su_perNote))))) - (-(a3 - (su_given (Int32.toNatClampNeg a1) (Int32.toNatClampNeg (a2 / su_perNote))))) / (12 : Int32) * (12 : Int32)))))))
def m_Rules_isIn (su_numbers : Nat → Int32)  (a1 : Int32) (a2 : Int32) : Option (Int32) :=
  (gd a1 18 (if (((su_numbers (Int32.toNatClampNeg a1)) >>> (a2 &&& 31)) &&& (1 : Int32)) = (1 : Int32) then
    (some (1 : Int32))
  else
    (some (0 : Int32))))
def m_Rules_isHard_2b (F : Nat) (su_lines : Int32) (su_perNote : Int32) (su_numbers : Nat → Int32) (su_given : Nat → Nat → Int32) (k2 : Int32 → Int32 → Int32 → Option (Int32))  (x1 : Int32) (x2 : Int32) (x3 : Int32) : Option (Int32) :=
  (if su_lines ≤ x3 then
    (some (0 : Int32))
  else
    (bd (m_Rules_classWith su_perNote su_given x3 x1 x2) (fun u2 => (bd (m_Rules_isIn su_numbers (3 : Int32) u2) (fun u4 => (if u4 = (0 : Int32) then
      (some (1 : Int32))
    else
      k2 x1 x2 (x3 + 1)))))))
def m_Rules_isHard_2 (F : Nat) (su_lines : Int32) (su_perNote : Int32) (su_numbers : Nat → Int32) (su_given : Nat → Nat → Int32)  : Nat → Int32 → Int32 → Int32 → Option (Int32)
  | 0 => fun _ _ _ => none
  | n + 1 => m_Rules_isHard_2b F su_lines su_perNote su_numbers su_given  (m_Rules_isHard_2 F su_lines su_perNote su_numbers su_given  n)
def m_Rules_isHard (F : Nat) (su_lines : Int32) (su_perNote : Int32) (su_numbers : Nat → Int32) (su_given : Nat → Nat → Int32)  (a1 : Int32) (a2 : Int32) : Option (Int32) :=
  m_Rules_isHard_2 F su_lines su_perNote su_numbers su_given  F a1 a2 (0 : Int32)
def m_Rules_isBadOpening (su_perNote : Int32) (su_numbers : Nat → Int32) (su_given : Nat → Nat → Int32)  (a1 : Int32) : Option (Int32) :=
  (bd (m_Rules_classWith su_perNote su_given (0 : Int32) (0 : Int32) a1) (fun u1 => (bd (m_Rules_isIn su_numbers (5 : Int32) u1) (fun u3 => (if u3 = (0 : Int32) then
    (some (1 : Int32))
  else
    (some (0 : Int32)))))))
def m_Rules_isCrossing (su_perNote : Int32) (su_above : Int32) (su_given : Nat → Nat → Int32)  (a1 : Int32) (a2 : Int32) (a3 : Int32) : Option (Int32) :=
  (gd a1 3 (nz su_perNote (gd (a2 / su_perNote) 12 (if su_above = (0 : Int32) then
    (if a3 ≤ (su_given (Int32.toNatClampNeg a1) (Int32.toNatClampNeg (a2 / su_perNote))) then
      (some (0 : Int32))
    else
      (some (1 : Int32)))
  else
    (if (su_given (Int32.toNatClampNeg a1) (Int32.toNatClampNeg (a2 / su_perNote))) ≤ a3 then
      (some (0 : Int32))
    else
      (some (1 : Int32)))))))
def m_Prices_isBadNote_69b (F : Nat) (su_lines : Int32) (su_perNote : Int32) (su_above : Int32) (su_numbers : Nat → Int32) (su_on : Nat → Int32) (su_given : Nat → Nat → Int32) (k69 : Int32 → Int32 → Int32 → Option (Int32))  (x1 : Int32) (x2 : Int32) (x3 : Int32) : Option (Int32) :=
  (if (su_on (Int32.toNatClampNeg (3 : Int32))) = (0 : Int32) then
    (some (0 : Int32))
  else
    (if su_lines ≤ x3 then
      (some (0 : Int32))
    else
      (bd (m_Rules_isCrossing su_perNote su_above su_given x3 x1 x2) (fun u3 => (if u3 = (0 : Int32) then
        k69 x1 x2 (x3 + 1)
      else
        (some (1 : Int32)))))))
def m_Prices_isBadNote_69 (F : Nat) (su_lines : Int32) (su_perNote : Int32) (su_above : Int32) (su_numbers : Nat → Int32) (su_on : Nat → Int32) (su_given : Nat → Nat → Int32)  : Nat → Int32 → Int32 → Int32 → Option (Int32)
  | 0 => fun _ _ _ => none
  | n + 1 => m_Prices_isBadNote_69b F su_lines su_perNote su_above su_numbers su_on su_given  (m_Prices_isBadNote_69 F su_lines su_perNote su_above su_numbers su_on su_given  n)
def m_Prices_isBadNote_67 (F : Nat) (su_lines : Int32) (su_perNote : Int32) (su_above : Int32) (su_numbers : Nat → Int32) (su_on : Nat → Int32) (su_given : Nat → Nat → Int32)   (x1 : Int32) (x2 : Int32) : Option (Int32) :=
  m_Prices_isBadNote_69 F su_lines su_perNote su_above su_numbers su_on su_given  F x1 x2 (0 : Int32)
def m_Prices_isBadNote_37 (F : Nat) (su_lines : Int32) (su_perNote : Int32) (su_above : Int32) (su_numbers : Nat → Int32) (su_on : Nat → Int32) (su_given : Nat → Nat → Int32)   (x1 : Int32) (x2 : Int32) : Option (Int32) :=
  (if (su_on (Int32.toNatClampNeg (8 : Int32))) = (0 : Int32) then
    m_Prices_isBadNote_67 F su_lines su_perNote su_above su_numbers su_on su_given  x1 x2
  else
    (if x1 = (0 : Int32) then
      (bd (m_Rules_isBadOpening su_perNote su_numbers su_given x2) (fun u3 => (if u3 = (0 : Int32) then
        m_Prices_isBadNote_67 F su_lines su_perNote su_above su_numbers su_on su_given  x1 x2
      else
        (some (1 : Int32)))))
    else
      m_Prices_isBadNote_67 F su_lines su_perNote su_above su_numbers su_on su_given  x1 x2))
def m_Prices_isBadNote (F : Nat) (su_lines : Int32) (su_perNote : Int32) (su_above : Int32) (su_numbers : Nat → Int32) (su_on : Nat → Int32) (su_given : Nat → Nat → Int32)  (a1 : Int32) (a2 : Int32) : Option (Int32) :=
  (if (su_on (Int32.toNatClampNeg (0 : Int32))) = (0 : Int32) then
    m_Prices_isBadNote_37 F su_lines su_perNote su_above su_numbers su_on su_given  a1 a2
  else
    (bd (m_Rules_isStrong su_perNote a1) (fun u2 => (if u2 = (0 : Int32) then
      m_Prices_isBadNote_37 F su_lines su_perNote su_above su_numbers su_on su_given  a1 a2
    else
      (bd (m_Rules_isHard F su_lines su_perNote su_numbers su_given a1 a2) (fun u5 => (if u5 = (0 : Int32) then
        m_Prices_isBadNote_37 F su_lines su_perNote su_above su_numbers su_on su_given  a1 a2
      else
        (some (1 : Int32)))))))))
def m_Rules_noteCost_97 (F : Nat) (su_lines : Int32) (su_length : Int32) (su_perNote : Int32) (su_numbers : Nat → Int32) (su_given : Nat → Nat → Int32) (k56 : Int32 → Int32 → Int32 → Int32 → Option (Int32))  (x1 : Int32) (x2 : Int32) (x3 : Int32) (x4 : Int32) : Option (Int32) :=
  k56 x1 x2 x3 (x4 + 1)
def m_Rules_noteCost_56b (F : Nat) (su_lines : Int32) (su_length : Int32) (su_perNote : Int32) (su_numbers : Nat → Int32) (su_given : Nat → Nat → Int32) (k56 : Int32 → Int32 → Int32 → Int32 → Option (Int32))  (x1 : Int32) (x2 : Int32) (x3 : Int32) (x4 : Int32) : Option (Int32) :=
  (if su_lines ≤ x4 then
    (some x3)
  else
    (bd (m_Rules_classWith su_perNote su_given x4 x1 x2) (fun u2 => (bd (m_Rules_isIn su_numbers (4 : Int32) u2) (fun u4 => (if u4 = (0 : Int32) then
      m_Rules_noteCost_97 F su_lines su_length su_perNote su_numbers su_given k56 x1 x2 x3 x4
    else
      m_Rules_noteCost_97 F su_lines su_length su_perNote su_numbers su_given k56 x1 x2 (x3 + (su_numbers (Int32.toNatClampNeg (16 : Int32)))) x4))))))
def m_Rules_noteCost_56 (F : Nat) (su_lines : Int32) (su_length : Int32) (su_perNote : Int32) (su_numbers : Nat → Int32) (su_given : Nat → Nat → Int32)  : Nat → Int32 → Int32 → Int32 → Int32 → Option (Int32)
  | 0 => fun _ _ _ _ => none
  | n + 1 => m_Rules_noteCost_56b F su_lines su_length su_perNote su_numbers su_given  (m_Rules_noteCost_56 F su_lines su_length su_perNote su_numbers su_given  n)
def m_Rules_noteCost (F : Nat) (su_lines : Int32) (su_length : Int32) (su_perNote : Int32) (su_numbers : Nat → Int32) (su_given : Nat → Nat → Int32)  (a1 : Int32) (a2 : Int32) : Option (Int32) :=
  (bd (m_Rules_isStrong su_perNote a1) (fun u1 => (if u1 = (0 : Int32) then
    (bd (m_Rules_isHard F su_lines su_perNote su_numbers su_given a1 a2) (fun u8 => (if u8 = (0 : Int32) then
      (some (0 : Int32))
    else
      (some (su_numbers (Int32.toNatClampNeg (17 : Int32)))))))
  else
    (if a1 = (0 : Int32) then
      (some (0 : Int32))
    else
      (bd (m_Setup_total su_lines su_length su_perNote) (fun u5 => (if a1 = (u5 - (1 : Int32)) then
        (some (0 : Int32))
      else
        m_Rules_noteCost_56 F su_lines su_length su_perNote su_numbers su_given  F a1 a2 (0 : Int32) (0 : Int32))))))))
def m_Prices_fillNotes_120 (F : Nat) (su_lines : Int32) (su_length : Int32) (su_perNote : Int32) (su_above : Int32) (su_numbers : Nat → Int32) (su_on : Nat → Int32) (su_given : Nat → Nat → Int32) (pr_size : Int32) (pr_total : Int32) (pr_pitches : Nat → Int32) (k2 : (Nat → Int32) → (Nat → Int32) → Int32 → Option ((Nat → Int32) × (Nat → Int32))) (k12 : (Nat → Int32) → (Nat → Int32) → Int32 → Int32 → Option ((Nat → Int32) × (Nat → Int32))) (pr_notePrices : Nat → Int32) (pr_mustPass : Nat → Int32) (x1 : Int32) (x2 : Int32) (t1 : Int32) (t2 : Int32) : Option ((Nat → Int32) × (Nat → Int32)) :=
  (gd t1 360 (k12 pr_notePrices (upd pr_mustPass (Int32.toNatClampNeg t1) (vp_nar .boolean t2)) x1 (x2 + 1)))
def m_Prices_fillNotes_119 (F : Nat) (su_lines : Int32) (su_length : Int32) (su_perNote : Int32) (su_above : Int32) (su_numbers : Nat → Int32) (su_on : Nat → Int32) (su_given : Nat → Nat → Int32) (pr_size : Int32) (pr_total : Int32) (pr_pitches : Nat → Int32) (k2 : (Nat → Int32) → (Nat → Int32) → Int32 → Option ((Nat → Int32) × (Nat → Int32))) (k12 : (Nat → Int32) → (Nat → Int32) → Int32 → Int32 → Option ((Nat → Int32) × (Nat → Int32))) (pr_notePrices : Nat → Int32) (pr_mustPass : Nat → Int32) (x1 : Int32) (x2 : Int32) (t1 : Int32) : Option ((Nat → Int32) × (Nat → Int32)) :=
  m_Prices_fillNotes_120 F su_lines su_length su_perNote su_above su_numbers su_on su_given pr_size pr_total pr_pitches k2 k12 pr_notePrices pr_mustPass x1 x2 t1 (0 : Int32)
def m_Prices_fillNotes_64 (F : Nat) (su_lines : Int32) (su_length : Int32) (su_perNote : Int32) (su_above : Int32) (su_numbers : Nat → Int32) (su_on : Nat → Int32) (su_given : Nat → Nat → Int32) (pr_size : Int32) (pr_total : Int32) (pr_pitches : Nat → Int32) (k2 : (Nat → Int32) → (Nat → Int32) → Int32 → Option ((Nat → Int32) × (Nat → Int32))) (k12 : (Nat → Int32) → (Nat → Int32) → Int32 → Int32 → Option ((Nat → Int32) × (Nat → Int32))) (pr_notePrices : Nat → Int32) (pr_mustPass : Nat → Int32) (x1 : Int32) (x2 : Int32) (t1 : Int32) (t2 : Int32) : Option ((Nat → Int32) × (Nat → Int32)) :=
  (gd t1 360 (if (su_on (Int32.toNatClampNeg (4 : Int32))) = (0 : Int32) then
    m_Prices_fillNotes_119 F su_lines su_length su_perNote su_above su_numbers su_on su_given pr_size pr_total pr_pitches k2 k12 (upd pr_notePrices (Int32.toNatClampNeg t1) t2) pr_mustPass x1 x2 ((x1 * (8 : Int32)) + x2)
  else
    (bd (m_Rules_isStrong su_perNote x1) (fun u3 => (if u3 = (0 : Int32) then
      (gd x2 8 (bd (m_Rules_isHard F su_lines su_perNote su_numbers su_given x1 (pr_pitches (Int32.toNatClampNeg x2))) (fun u7 => (if u7 = (0 : Int32) then
        m_Prices_fillNotes_119 F su_lines su_length su_perNote su_above su_numbers su_on su_given pr_size pr_total pr_pitches k2 k12 (upd pr_notePrices (Int32.toNatClampNeg t1) t2) pr_mustPass x1 x2 ((x1 * (8 : Int32)) + x2)
      else
        m_Prices_fillNotes_120 F su_lines su_length su_perNote su_above su_numbers su_on su_given pr_size pr_total pr_pitches k2 k12 (upd pr_notePrices (Int32.toNatClampNeg t1) t2) pr_mustPass x1 x2 ((x1 * (8 : Int32)) + x2) (1 : Int32)))))
    else
      m_Prices_fillNotes_119 F su_lines su_length su_perNote su_above su_numbers su_on su_given pr_size pr_total pr_pitches k2 k12 (upd pr_notePrices (Int32.toNatClampNeg t1) t2) pr_mustPass x1 x2 ((x1 * (8 : Int32)) + x2))))))
def m_Prices_fillNotes_12b (F : Nat) (su_lines : Int32) (su_length : Int32) (su_perNote : Int32) (su_above : Int32) (su_numbers : Nat → Int32) (su_on : Nat → Int32) (su_given : Nat → Nat → Int32) (pr_size : Int32) (pr_total : Int32) (pr_pitches : Nat → Int32) (k2 : (Nat → Int32) → (Nat → Int32) → Int32 → Option ((Nat → Int32) × (Nat → Int32))) (k12 : (Nat → Int32) → (Nat → Int32) → Int32 → Int32 → Option ((Nat → Int32) × (Nat → Int32))) (pr_notePrices : Nat → Int32) (pr_mustPass : Nat → Int32) (x1 : Int32) (x2 : Int32) : Option ((Nat → Int32) × (Nat → Int32)) :=
  (if pr_size ≤ x2 then
    k2 pr_notePrices pr_mustPass (x1 + 1)
  else
    (gd x2 8 (bd (m_Prices_isBadNote F su_lines su_perNote su_above su_numbers su_on su_given x1 (pr_pitches (Int32.toNatClampNeg x2))) (fun u3 => (if u3 = (0 : Int32) then
      (gd x2 8 (bd (m_Rules_noteCost F su_lines su_length su_perNote su_numbers su_given x1 (pr_pitches (Int32.toNatClampNeg x2))) (fun u7 => m_Prices_fillNotes_64 F su_lines su_length su_perNote su_above su_numbers su_on su_given pr_size pr_total pr_pitches k2 k12 pr_notePrices pr_mustPass x1 x2 ((x1 * (8 : Int32)) + x2) u7)))
    else
      m_Prices_fillNotes_64 F su_lines su_length su_perNote su_above su_numbers su_on su_given pr_size pr_total pr_pitches k2 k12 pr_notePrices pr_mustPass x1 x2 ((x1 * (8 : Int32)) + x2) (-1 : Int32))))))
def m_Prices_fillNotes_12 (F : Nat) (su_lines : Int32) (su_length : Int32) (su_perNote : Int32) (su_above : Int32) (su_numbers : Nat → Int32) (su_on : Nat → Int32) (su_given : Nat → Nat → Int32) (pr_size : Int32) (pr_total : Int32) (pr_pitches : Nat → Int32) (k2 : (Nat → Int32) → (Nat → Int32) → Int32 → Option ((Nat → Int32) × (Nat → Int32))) : Nat → (Nat → Int32) → (Nat → Int32) → Int32 → Int32 → Option ((Nat → Int32) × (Nat → Int32))
  | 0 => fun _ _ _ _ => none
  | n + 1 => m_Prices_fillNotes_12b F su_lines su_length su_perNote su_above su_numbers su_on su_given pr_size pr_total pr_pitches k2 (m_Prices_fillNotes_12 F su_lines su_length su_perNote su_above su_numbers su_on su_given pr_size pr_total pr_pitches k2 n)
def m_Prices_fillNotes_2b (F : Nat) (su_lines : Int32) (su_length : Int32) (su_perNote : Int32) (su_above : Int32) (su_numbers : Nat → Int32) (su_on : Nat → Int32) (su_given : Nat → Nat → Int32) (pr_size : Int32) (pr_total : Int32) (pr_pitches : Nat → Int32) (k2 : (Nat → Int32) → (Nat → Int32) → Int32 → Option ((Nat → Int32) × (Nat → Int32))) (pr_notePrices : Nat → Int32) (pr_mustPass : Nat → Int32) (x1 : Int32) : Option ((Nat → Int32) × (Nat → Int32)) :=
  (if pr_total ≤ x1 then
    (some (pr_notePrices, pr_mustPass))
  else
    m_Prices_fillNotes_12 F su_lines su_length su_perNote su_above su_numbers su_on su_given pr_size pr_total pr_pitches k2 F pr_notePrices pr_mustPass x1 (0 : Int32))
def m_Prices_fillNotes_2 (F : Nat) (su_lines : Int32) (su_length : Int32) (su_perNote : Int32) (su_above : Int32) (su_numbers : Nat → Int32) (su_on : Nat → Int32) (su_given : Nat → Nat → Int32) (pr_size : Int32) (pr_total : Int32) (pr_pitches : Nat → Int32)  : Nat → (Nat → Int32) → (Nat → Int32) → Int32 → Option ((Nat → Int32) × (Nat → Int32))
  | 0 => fun _ _ _ => none
  | n + 1 => m_Prices_fillNotes_2b F su_lines su_length su_perNote su_above su_numbers su_on su_given pr_size pr_total pr_pitches  (m_Prices_fillNotes_2 F su_lines su_length su_perNote su_above su_numbers su_on su_given pr_size pr_total pr_pitches  n)
def m_Prices_fillNotes (F : Nat) (su_lines : Int32) (su_length : Int32) (su_perNote : Int32) (su_above : Int32) (su_numbers : Nat → Int32) (su_on : Nat → Int32) (su_given : Nat → Nat → Int32) (pr_size : Int32) (pr_total : Int32) (pr_pitches : Nat → Int32) (pr_notePrices : Nat → Int32) (pr_mustPass : Nat → Int32)  : Option ((Nat → Int32) × (Nat → Int32)) :=
  m_Prices_fillNotes_2 F su_lines su_length su_perNote su_above su_numbers su_on su_given pr_size pr_total pr_pitches  F pr_notePrices pr_mustPass (0 : Int32)
def m_SpeciesSolver_distance   (a0 : Int32) (a1 : Int32) : Option (Int32) :=
  (if a1 ≤ a0 then
    (some (a0 - a1))
  else
    (some (a1 - a0)))
def m_Rules_isLeaping (su_numbers : Nat → Int32)  (a1 : Int32) (a2 : Int32) : Option (Int32) :=
  (bd (m_SpeciesSolver_distance a1 a2) (fun u1 => (if (su_numbers (Int32.toNatClampNeg (9 : Int32))) < u1 then
    (some (1 : Int32))
  else
    (if (24 : Int32) < u1 then
      (some (0 : Int32))
    else
      (bd (m_Rules_isIn su_numbers (7 : Int32) u1) (fun u5 => (if u5 = (0 : Int32) then
        (some (0 : Int32))
      else
        (some (1 : Int32)))))))))
def m_Rules_mustTurn (su_numbers : Nat → Int32)  (a1 : Int32) (a2 : Int32) : Option (Int32) :=
  (bd (m_SpeciesSolver_distance a1 a2) (fun u1 => (if u1 ≤ (su_numbers (Int32.toNatClampNeg (10 : Int32))) then
    (some (0 : Int32))
  else
    (some (1 : Int32)))))
def m_Rules_isStepwise (su_numbers : Nat → Int32)  (a1 : Int32) (a2 : Int32) : Option (Int32) :=
  (if a1 = a2 then
    (some (0 : Int32))
  else
    (bd (m_SpeciesSolver_distance a1 a2) (fun u2 => (if (su_numbers (Int32.toNatClampNeg (8 : Int32))) < u2 then
      (some (0 : Int32))
    else
      (some (1 : Int32))))))
def m_Rules_isBadClosing (su_perNote : Int32) (su_numbers : Nat → Int32) (su_given : Nat → Nat → Int32)  (a1 : Int32) (a2 : Int32) (a3 : Int32) : Option (Int32) :=
  (bd (m_Rules_classWith su_perNote su_given (0 : Int32) a1 a3) (fun u1 => (bd (m_Rules_isIn su_numbers (6 : Int32) u1) (fun u3 => (if u3 = (0 : Int32) then
    (some (1 : Int32))
  else
    (bd (m_Rules_isStepwise su_numbers a2 a3) (fun u6 => (if u6 = (0 : Int32) then
      (some (1 : Int32))
    else
      (some (0 : Int32))))))))))
def m_Rules_moveCost_39 (su_numbers : Nat → Int32)   (x3 : Int32) (x4 : Int32) : Option (Int32) :=
  (if x3 ≤ (su_numbers (Int32.toNatClampNeg (8 : Int32))) then
    (some x4)
  else
    (some (x4 + (su_numbers (Int32.toNatClampNeg (13 : Int32))))))
def m_Rules_moveCost (su_numbers : Nat → Int32)  (a1 : Int32) (a2 : Int32) : Option (Int32) :=
  (bd (m_SpeciesSolver_distance a1 a2) (fun u1 => (if u1 = (0 : Int32) then
    m_Rules_moveCost_39 su_numbers  u1 ((u1 * (su_numbers (Int32.toNatClampNeg (14 : Int32)))) + (su_numbers (Int32.toNatClampNeg (12 : Int32))))
  else
    m_Rules_moveCost_39 su_numbers  u1 (u1 * (su_numbers (Int32.toNatClampNeg (14 : Int32)))))))
def m_Prices_fillMoves_199 (F : Nat) (su_perNote : Int32) (su_numbers : Nat → Int32) (su_on : Nat → Int32) (su_given : Nat → Nat → Int32) (pr_size : Int32) (pr_total : Int32) (pr_pitches : Nat → Int32) (k2 : (Nat → Int32) → (Nat → Int32) → (Nat → Int32) → Int32 → Option ((Nat → Int32) × (Nat → Int32) × (Nat → Int32))) (k12 : (Nat → Int32) → (Nat → Int32) → (Nat → Int32) → Int32 → Int32 → Option ((Nat → Int32) × (Nat → Int32) × (Nat → Int32))) (pr_movePrices : Nat → Int32) (pr_mustTurn : Nat → Int32) (pr_badClosings : Nat → Int32) (x1 : Int32) (x2 : Int32) (t1 : Int32) (t2 : Int32) : Option ((Nat → Int32) × (Nat → Int32) × (Nat → Int32)) :=
  (gd t1 64 (k12 pr_movePrices pr_mustTurn (upd pr_badClosings (Int32.toNatClampNeg t1) (vp_nar .boolean t2)) x1 (x2 + 1)))
def m_Prices_fillMoves_198 (F : Nat) (su_perNote : Int32) (su_numbers : Nat → Int32) (su_on : Nat → Int32) (su_given : Nat → Nat → Int32) (pr_size : Int32) (pr_total : Int32) (pr_pitches : Nat → Int32) (k2 : (Nat → Int32) → (Nat → Int32) → (Nat → Int32) → Int32 → Option ((Nat → Int32) × (Nat → Int32) × (Nat → Int32))) (k12 : (Nat → Int32) → (Nat → Int32) → (Nat → Int32) → Int32 → Int32 → Option ((Nat → Int32) × (Nat → Int32) × (Nat → Int32))) (pr_movePrices : Nat → Int32) (pr_mustTurn : Nat → Int32) (pr_badClosings : Nat → Int32) (x1 : Int32) (x2 : Int32) (t1 : Int32) : Option ((Nat → Int32) × (Nat → Int32) × (Nat → Int32)) :=
  m_Prices_fillMoves_199 F su_perNote su_numbers su_on su_given pr_size pr_total pr_pitches k2 k12 pr_movePrices pr_mustTurn pr_badClosings x1 x2 t1 (0 : Int32)
def m_Prices_fillMoves_147 (F : Nat) (su_perNote : Int32) (su_numbers : Nat → Int32) (su_on : Nat → Int32) (su_given : Nat → Nat → Int32) (pr_size : Int32) (pr_total : Int32) (pr_pitches : Nat → Int32) (k2 : (Nat → Int32) → (Nat → Int32) → (Nat → Int32) → Int32 → Option ((Nat → Int32) × (Nat → Int32) × (Nat → Int32))) (k12 : (Nat → Int32) → (Nat → Int32) → (Nat → Int32) → Int32 → Int32 → Option ((Nat → Int32) × (Nat → Int32) × (Nat → Int32))) (pr_movePrices : Nat → Int32) (pr_mustTurn : Nat → Int32) (pr_badClosings : Nat → Int32) (x1 : Int32) (x2 : Int32) (x3 : Int32) (t1 : Int32) (t2 : Int32) : Option ((Nat → Int32) × (Nat → Int32) × (Nat → Int32)) :=
  (gd t1 64 (if (su_on (Int32.toNatClampNeg (9 : Int32))) = (0 : Int32) then
    m_Prices_fillMoves_198 F su_perNote su_numbers su_on su_given pr_size pr_total pr_pitches k2 k12 pr_movePrices (upd pr_mustTurn (Int32.toNatClampNeg t1) (vp_nar .boolean t2)) pr_badClosings x1 x2 x3
  else
    (gd x1 8 (gd x2 8 (bd (m_Rules_isBadClosing su_perNote su_numbers su_given (pr_total - (1 : Int32)) (pr_pitches (Int32.toNatClampNeg x1)) (pr_pitches (Int32.toNatClampNeg x2))) (fun u5 => (if u5 = (0 : Int32) then
      m_Prices_fillMoves_198 F su_perNote su_numbers su_on su_given pr_size pr_total pr_pitches k2 k12 pr_movePrices (upd pr_mustTurn (Int32.toNatClampNeg t1) (vp_nar .boolean t2)) pr_badClosings x1 x2 x3
    else
      m_Prices_fillMoves_199 F su_perNote su_numbers su_on su_given pr_size pr_total pr_pitches k2 k12 pr_movePrices (upd pr_mustTurn (Int32.toNatClampNeg t1) (vp_nar .boolean t2)) pr_badClosings x1 x2 x3 (1 : Int32))))))))
def m_Prices_fillMoves_146 (F : Nat) (su_perNote : Int32) (su_numbers : Nat → Int32) (su_on : Nat → Int32) (su_given : Nat → Nat → Int32) (pr_size : Int32) (pr_total : Int32) (pr_pitches : Nat → Int32) (k2 : (Nat → Int32) → (Nat → Int32) → (Nat → Int32) → Int32 → Option ((Nat → Int32) × (Nat → Int32) × (Nat → Int32))) (k12 : (Nat → Int32) → (Nat → Int32) → (Nat → Int32) → Int32 → Int32 → Option ((Nat → Int32) × (Nat → Int32) × (Nat → Int32))) (pr_movePrices : Nat → Int32) (pr_mustTurn : Nat → Int32) (pr_badClosings : Nat → Int32) (x1 : Int32) (x2 : Int32) (x3 : Int32) (t1 : Int32) : Option ((Nat → Int32) × (Nat → Int32) × (Nat → Int32)) :=
  m_Prices_fillMoves_147 F su_perNote su_numbers su_on su_given pr_size pr_total pr_pitches k2 k12 pr_movePrices pr_mustTurn pr_badClosings x1 x2 x3 t1 (0 : Int32)
def m_Prices_fillMoves_101 (F : Nat) (su_perNote : Int32) (su_numbers : Nat → Int32) (su_on : Nat → Int32) (su_given : Nat → Nat → Int32) (pr_size : Int32) (pr_total : Int32) (pr_pitches : Nat → Int32) (k2 : (Nat → Int32) → (Nat → Int32) → (Nat → Int32) → Int32 → Option ((Nat → Int32) × (Nat → Int32) × (Nat → Int32))) (k12 : (Nat → Int32) → (Nat → Int32) → (Nat → Int32) → Int32 → Int32 → Option ((Nat → Int32) × (Nat → Int32) × (Nat → Int32))) (pr_movePrices : Nat → Int32) (pr_mustTurn : Nat → Int32) (pr_badClosings : Nat → Int32) (x1 : Int32) (x2 : Int32) (x3 : Int32) (t1 : Int32) (t2 : Int32) : Option ((Nat → Int32) × (Nat → Int32) × (Nat → Int32)) :=
  (gd t1 64 (if (su_on (Int32.toNatClampNeg (6 : Int32))) = (0 : Int32) then
    m_Prices_fillMoves_146 F su_perNote su_numbers su_on su_given pr_size pr_total pr_pitches k2 k12 (upd pr_movePrices (Int32.toNatClampNeg t1) t2) pr_mustTurn pr_badClosings x1 x2 x3 x3
  else
    (gd x1 8 (gd x2 8 (bd (m_Rules_mustTurn su_numbers (pr_pitches (Int32.toNatClampNeg x1)) (pr_pitches (Int32.toNatClampNeg x2))) (fun u5 => (if u5 = (0 : Int32) then
      m_Prices_fillMoves_146 F su_perNote su_numbers su_on su_given pr_size pr_total pr_pitches k2 k12 (upd pr_movePrices (Int32.toNatClampNeg t1) t2) pr_mustTurn pr_badClosings x1 x2 x3 x3
    else
      m_Prices_fillMoves_147 F su_perNote su_numbers su_on su_given pr_size pr_total pr_pitches k2 k12 (upd pr_movePrices (Int32.toNatClampNeg t1) t2) pr_mustTurn pr_badClosings x1 x2 x3 x3 (1 : Int32))))))))
def m_Prices_fillMoves_66 (F : Nat) (su_perNote : Int32) (su_numbers : Nat → Int32) (su_on : Nat → Int32) (su_given : Nat → Nat → Int32) (pr_size : Int32) (pr_total : Int32) (pr_pitches : Nat → Int32) (k2 : (Nat → Int32) → (Nat → Int32) → (Nat → Int32) → Int32 → Option ((Nat → Int32) × (Nat → Int32) × (Nat → Int32))) (k12 : (Nat → Int32) → (Nat → Int32) → (Nat → Int32) → Int32 → Int32 → Option ((Nat → Int32) × (Nat → Int32) × (Nat → Int32))) (pr_movePrices : Nat → Int32) (pr_mustTurn : Nat → Int32) (pr_badClosings : Nat → Int32) (x1 : Int32) (x2 : Int32) (x3 : Int32) (t0 : Int32) : Option ((Nat → Int32) × (Nat → Int32) × (Nat → Int32)) :=
  (if t0 = (0 : Int32) then
    (gd x1 8 (gd x2 8 (bd (m_Rules_moveCost su_numbers (pr_pitches (Int32.toNatClampNeg x1)) (pr_pitches (Int32.toNatClampNeg x2))) (fun u4 => m_Prices_fillMoves_101 F su_perNote su_numbers su_on su_given pr_size pr_total pr_pitches k2 k12 pr_movePrices pr_mustTurn pr_badClosings x1 x2 x3 x3 u4))))
  else
    m_Prices_fillMoves_101 F su_perNote su_numbers su_on su_given pr_size pr_total pr_pitches k2 k12 pr_movePrices pr_mustTurn pr_badClosings x1 x2 x3 x3 (-1 : Int32))
def m_Prices_fillMoves_65 (F : Nat) (su_perNote : Int32) (su_numbers : Nat → Int32) (su_on : Nat → Int32) (su_given : Nat → Nat → Int32) (pr_size : Int32) (pr_total : Int32) (pr_pitches : Nat → Int32) (k2 : (Nat → Int32) → (Nat → Int32) → (Nat → Int32) → Int32 → Option ((Nat → Int32) × (Nat → Int32) × (Nat → Int32))) (k12 : (Nat → Int32) → (Nat → Int32) → (Nat → Int32) → Int32 → Int32 → Option ((Nat → Int32) × (Nat → Int32) × (Nat → Int32))) (pr_movePrices : Nat → Int32) (pr_mustTurn : Nat → Int32) (pr_badClosings : Nat → Int32) (x1 : Int32) (x2 : Int32) (x3 : Int32) : Option ((Nat → Int32) × (Nat → Int32) × (Nat → Int32)) :=
  m_Prices_fillMoves_66 F su_perNote su_numbers su_on su_given pr_size pr_total pr_pitches k2 k12 pr_movePrices pr_mustTurn pr_badClosings x1 x2 x3 (0 : Int32)
def m_Prices_fillMoves_12b (F : Nat) (su_perNote : Int32) (su_numbers : Nat → Int32) (su_on : Nat → Int32) (su_given : Nat → Nat → Int32) (pr_size : Int32) (pr_total : Int32) (pr_pitches : Nat → Int32) (k2 : (Nat → Int32) → (Nat → Int32) → (Nat → Int32) → Int32 → Option ((Nat → Int32) × (Nat → Int32) × (Nat → Int32))) (k12 : (Nat → Int32) → (Nat → Int32) → (Nat → Int32) → Int32 → Int32 → Option ((Nat → Int32) × (Nat → Int32) × (Nat → Int32))) (pr_movePrices : Nat → Int32) (pr_mustTurn : Nat → Int32) (pr_badClosings : Nat → Int32) (x1 : Int32) (x2 : Int32) : Option ((Nat → Int32) × (Nat → Int32) × (Nat → Int32)) :=
  (if pr_size ≤ x2 then
    k2 pr_movePrices pr_mustTurn pr_badClosings (x1 + 1)
  else
    (if (su_on (Int32.toNatClampNeg (5 : Int32))) = (0 : Int32) then
      m_Prices_fillMoves_65 F su_perNote su_numbers su_on su_given pr_size pr_total pr_pitches k2 k12 pr_movePrices pr_mustTurn pr_badClosings x1 x2 ((x1 * (8 : Int32)) + x2)
    else
      (gd x1 8 (gd x2 8 (bd (m_Rules_isLeaping su_numbers (pr_pitches (Int32.toNatClampNeg x1)) (pr_pitches (Int32.toNatClampNeg x2))) (fun u5 => (if u5 = (0 : Int32) then
        m_Prices_fillMoves_65 F su_perNote su_numbers su_on su_given pr_size pr_total pr_pitches k2 k12 pr_movePrices pr_mustTurn pr_badClosings x1 x2 ((x1 * (8 : Int32)) + x2)
      else
        m_Prices_fillMoves_66 F su_perNote su_numbers su_on su_given pr_size pr_total pr_pitches k2 k12 pr_movePrices pr_mustTurn pr_badClosings x1 x2 ((x1 * (8 : Int32)) + x2) (1 : Int32))))))))
def m_Prices_fillMoves_12 (F : Nat) (su_perNote : Int32) (su_numbers : Nat → Int32) (su_on : Nat → Int32) (su_given : Nat → Nat → Int32) (pr_size : Int32) (pr_total : Int32) (pr_pitches : Nat → Int32) (k2 : (Nat → Int32) → (Nat → Int32) → (Nat → Int32) → Int32 → Option ((Nat → Int32) × (Nat → Int32) × (Nat → Int32))) : Nat → (Nat → Int32) → (Nat → Int32) → (Nat → Int32) → Int32 → Int32 → Option ((Nat → Int32) × (Nat → Int32) × (Nat → Int32))
  | 0 => fun _ _ _ _ _ => none
  | n + 1 => m_Prices_fillMoves_12b F su_perNote su_numbers su_on su_given pr_size pr_total pr_pitches k2 (m_Prices_fillMoves_12 F su_perNote su_numbers su_on su_given pr_size pr_total pr_pitches k2 n)
def m_Prices_fillMoves_2b (F : Nat) (su_perNote : Int32) (su_numbers : Nat → Int32) (su_on : Nat → Int32) (su_given : Nat → Nat → Int32) (pr_size : Int32) (pr_total : Int32) (pr_pitches : Nat → Int32) (k2 : (Nat → Int32) → (Nat → Int32) → (Nat → Int32) → Int32 → Option ((Nat → Int32) × (Nat → Int32) × (Nat → Int32))) (pr_movePrices : Nat → Int32) (pr_mustTurn : Nat → Int32) (pr_badClosings : Nat → Int32) (x1 : Int32) : Option ((Nat → Int32) × (Nat → Int32) × (Nat → Int32)) :=
  (if pr_size ≤ x1 then
    (some (pr_movePrices, pr_mustTurn, pr_badClosings))
  else
    m_Prices_fillMoves_12 F su_perNote su_numbers su_on su_given pr_size pr_total pr_pitches k2 F pr_movePrices pr_mustTurn pr_badClosings x1 (0 : Int32))
def m_Prices_fillMoves_2 (F : Nat) (su_perNote : Int32) (su_numbers : Nat → Int32) (su_on : Nat → Int32) (su_given : Nat → Nat → Int32) (pr_size : Int32) (pr_total : Int32) (pr_pitches : Nat → Int32)  : Nat → (Nat → Int32) → (Nat → Int32) → (Nat → Int32) → Int32 → Option ((Nat → Int32) × (Nat → Int32) × (Nat → Int32))
  | 0 => fun _ _ _ _ => none
  | n + 1 => m_Prices_fillMoves_2b F su_perNote su_numbers su_on su_given pr_size pr_total pr_pitches  (m_Prices_fillMoves_2 F su_perNote su_numbers su_on su_given pr_size pr_total pr_pitches  n)
def m_Prices_fillMoves (F : Nat) (su_perNote : Int32) (su_numbers : Nat → Int32) (su_on : Nat → Int32) (su_given : Nat → Nat → Int32) (pr_size : Int32) (pr_total : Int32) (pr_pitches : Nat → Int32) (pr_movePrices : Nat → Int32) (pr_mustTurn : Nat → Int32) (pr_badClosings : Nat → Int32)  : Option ((Nat → Int32) × (Nat → Int32) × (Nat → Int32)) :=
  m_Prices_fillMoves_2 F su_perNote su_numbers su_on su_given pr_size pr_total pr_pitches  F pr_movePrices pr_mustTurn pr_badClosings (0 : Int32)
def m_Rules_isNotTurned_37 (su_numbers : Nat → Int32)   (x1 : Int32) (x2 : Int32) (t0 : Int32) : Option (Int32) :=
  (bd (m_Rules_mustTurn su_numbers x1 x2) (fun u1 => (if u1 = (0 : Int32) then
    (some (0 : Int32))
  else
    (if t0 = (0 : Int32) then
      (some (1 : Int32))
    else
      (some (0 : Int32))))))
def m_Rules_isNotTurned_36 (su_numbers : Nat → Int32)   (x1 : Int32) (x2 : Int32) : Option (Int32) :=
  m_Rules_isNotTurned_37 su_numbers  x1 x2 (0 : Int32)
def m_Rules_isNotTurned_20 (su_numbers : Nat → Int32)   (x1 : Int32) (x2 : Int32) (x3 : Int32) (t0 : Int32) (t1 : Int32) : Option (Int32) :=
  (if t0 = t1 then
    (bd (m_Rules_isStepwise su_numbers x2 x3) (fun u2 => (if u2 = (0 : Int32) then
      m_Rules_isNotTurned_36 su_numbers  x1 x2
    else
      m_Rules_isNotTurned_37 su_numbers  x1 x2 (1 : Int32))))
  else
    m_Rules_isNotTurned_36 su_numbers  x1 x2)
def m_Rules_isNotTurned_10 (su_numbers : Nat → Int32)   (x1 : Int32) (x2 : Int32) (x3 : Int32) (t0 : Int32) : Option (Int32) :=
  (if x2 ≤ x3 then
    m_Rules_isNotTurned_20 su_numbers  x1 x2 x3 t0 (0 : Int32)
  else
    m_Rules_isNotTurned_20 su_numbers  x1 x2 x3 t0 (1 : Int32))
def m_Rules_isNotTurned (su_numbers : Nat → Int32)  (a1 : Int32) (a2 : Int32) (a3 : Int32) : Option (Int32) :=
  (if a2 ≤ a1 then
    m_Rules_isNotTurned_10 su_numbers  a1 a2 a3 (0 : Int32)
  else
    m_Rules_isNotTurned_10 su_numbers  a1 a2 a3 (1 : Int32))
def m_Rules_isPassing_20 (su_numbers : Nat → Int32)   (x1 : Int32) (x2 : Int32) (x3 : Int32) (t0 : Int32) (t1 : Int32) : Option (Int32) :=
  (if t0 = t1 then
    (bd (m_Rules_isStepwise su_numbers x1 x2) (fun u2 => (if u2 = (0 : Int32) then
      (some (0 : Int32))
    else
      (bd (m_Rules_isStepwise su_numbers x2 x3) (fun u5 => (if u5 = (0 : Int32) then
        (some (0 : Int32))
      else
        (some (1 : Int32))))))))
  else
    (some (0 : Int32)))
def m_Rules_isPassing_10 (su_numbers : Nat → Int32)   (x1 : Int32) (x2 : Int32) (x3 : Int32) (t0 : Int32) : Option (Int32) :=
  (if x3 ≤ x2 then
    m_Rules_isPassing_20 su_numbers  x1 x2 x3 t0 (0 : Int32)
  else
    m_Rules_isPassing_20 su_numbers  x1 x2 x3 t0 (1 : Int32))
def m_Rules_isPassing (su_numbers : Nat → Int32)  (a1 : Int32) (a2 : Int32) (a3 : Int32) : Option (Int32) :=
  (if a2 ≤ a1 then
    m_Rules_isPassing_10 su_numbers  a1 a2 a3 (0 : Int32)
  else
    m_Rules_isPassing_10 su_numbers  a1 a2 a3 (1 : Int32))
def m_Prices_fillTurns_95 (F : Nat) (su_numbers : Nat → Int32) (su_on : Nat → Int32) (pr_size : Int32) (pr_pitches : Nat → Int32) (k2 : (Nat → Int32) → (Nat → Int32) → Int32 → Option ((Nat → Int32) × (Nat → Int32))) (k12 : (Nat → Int32) → (Nat → Int32) → Int32 → Int32 → Option ((Nat → Int32) × (Nat → Int32))) (k22 : (Nat → Int32) → (Nat → Int32) → Int32 → Int32 → Int32 → Option ((Nat → Int32) × (Nat → Int32))) (pr_badTurns : Nat → Int32) (pr_passings : Nat → Int32) (x1 : Int32) (x2 : Int32) (x3 : Int32) (x4 : Int32) (t1 : Int32) (t2 : Int32) : Option ((Nat → Int32) × (Nat → Int32)) :=
  (gd t1 512 (gd x1 8 (gd x2 8 (gd x3 8 (bd (m_Rules_isPassing su_numbers (pr_pitches (Int32.toNatClampNeg x1)) (pr_pitches (Int32.toNatClampNeg x2)) (pr_pitches (Int32.toNatClampNeg x3))) (fun u5 => (gd x4 512 (k22 (upd pr_badTurns (Int32.toNatClampNeg t1) (vp_nar .boolean t2)) (upd pr_passings (Int32.toNatClampNeg x4) (vp_nar .boolean u5)) x1 x2 (x3 + 1)))))))))
def m_Prices_fillTurns_94 (F : Nat) (su_numbers : Nat → Int32) (su_on : Nat → Int32) (pr_size : Int32) (pr_pitches : Nat → Int32) (k2 : (Nat → Int32) → (Nat → Int32) → Int32 → Option ((Nat → Int32) × (Nat → Int32))) (k12 : (Nat → Int32) → (Nat → Int32) → Int32 → Int32 → Option ((Nat → Int32) × (Nat → Int32))) (k22 : (Nat → Int32) → (Nat → Int32) → Int32 → Int32 → Int32 → Option ((Nat → Int32) × (Nat → Int32))) (pr_badTurns : Nat → Int32) (pr_passings : Nat → Int32) (x1 : Int32) (x2 : Int32) (x3 : Int32) (x4 : Int32) (t1 : Int32) : Option ((Nat → Int32) × (Nat → Int32)) :=
  m_Prices_fillTurns_95 F su_numbers su_on pr_size pr_pitches k2 k12 k22 pr_badTurns pr_passings x1 x2 x3 x4 t1 (0 : Int32)
def m_Prices_fillTurns_22b (F : Nat) (su_numbers : Nat → Int32) (su_on : Nat → Int32) (pr_size : Int32) (pr_pitches : Nat → Int32) (k2 : (Nat → Int32) → (Nat → Int32) → Int32 → Option ((Nat → Int32) × (Nat → Int32))) (k12 : (Nat → Int32) → (Nat → Int32) → Int32 → Int32 → Option ((Nat → Int32) × (Nat → Int32))) (k22 : (Nat → Int32) → (Nat → Int32) → Int32 → Int32 → Int32 → Option ((Nat → Int32) × (Nat → Int32))) (pr_badTurns : Nat → Int32) (pr_passings : Nat → Int32) (x1 : Int32) (x2 : Int32) (x3 : Int32) : Option ((Nat → Int32) × (Nat → Int32)) :=
  (if pr_size ≤ x3 then
    k12 pr_badTurns pr_passings x1 (x2 + 1)
  else
    (if (su_on (Int32.toNatClampNeg (6 : Int32))) = (0 : Int32) then
      m_Prices_fillTurns_94 F su_numbers su_on pr_size pr_pitches k2 k12 k22 pr_badTurns pr_passings x1 x2 x3 ((((x1 * (8 : Int32)) + x2) * (8 : Int32)) + x3) ((((x1 * (8 : Int32)) + x2) * (8 : Int32)) + x3)
    else
      (gd x1 8 (gd x2 8 (gd x3 8 (bd (m_Rules_isNotTurned su_numbers (pr_pitches (Int32.toNatClampNeg x1)) (pr_pitches (Int32.toNatClampNeg x2)) (pr_pitches (Int32.toNatClampNeg x3))) (fun u6 => (if u6 = (0 : Int32) then
        m_Prices_fillTurns_94 F su_numbers su_on pr_size pr_pitches k2 k12 k22 pr_badTurns pr_passings x1 x2 x3 ((((x1 * (8 : Int32)) + x2) * (8 : Int32)) + x3) ((((x1 * (8 : Int32)) + x2) * (8 : Int32)) + x3)
      else
        m_Prices_fillTurns_95 F su_numbers su_on pr_size pr_pitches k2 k12 k22 pr_badTurns pr_passings x1 x2 x3 ((((x1 * (8 : Int32)) + x2) * (8 : Int32)) + x3) ((((x1 * (8 : Int32)) + x2) * (8 : Int32)) + x3) (1 : Int32)))))))))
def m_Prices_fillTurns_22 (F : Nat) (su_numbers : Nat → Int32) (su_on : Nat → Int32) (pr_size : Int32) (pr_pitches : Nat → Int32) (k2 : (Nat → Int32) → (Nat → Int32) → Int32 → Option ((Nat → Int32) × (Nat → Int32))) (k12 : (Nat → Int32) → (Nat → Int32) → Int32 → Int32 → Option ((Nat → Int32) × (Nat → Int32))) : Nat → (Nat → Int32) → (Nat → Int32) → Int32 → Int32 → Int32 → Option ((Nat → Int32) × (Nat → Int32))
  | 0 => fun _ _ _ _ _ => none
  | n + 1 => m_Prices_fillTurns_22b F su_numbers su_on pr_size pr_pitches k2 k12 (m_Prices_fillTurns_22 F su_numbers su_on pr_size pr_pitches k2 k12 n)
def m_Prices_fillTurns_12b (F : Nat) (su_numbers : Nat → Int32) (su_on : Nat → Int32) (pr_size : Int32) (pr_pitches : Nat → Int32) (k2 : (Nat → Int32) → (Nat → Int32) → Int32 → Option ((Nat → Int32) × (Nat → Int32))) (k12 : (Nat → Int32) → (Nat → Int32) → Int32 → Int32 → Option ((Nat → Int32) × (Nat → Int32))) (pr_badTurns : Nat → Int32) (pr_passings : Nat → Int32) (x1 : Int32) (x2 : Int32) : Option ((Nat → Int32) × (Nat → Int32)) :=
  (if pr_size ≤ x2 then
    k2 pr_badTurns pr_passings (x1 + 1)
  else
    m_Prices_fillTurns_22 F su_numbers su_on pr_size pr_pitches k2 k12 F pr_badTurns pr_passings x1 x2 (0 : Int32))
def m_Prices_fillTurns_12 (F : Nat) (su_numbers : Nat → Int32) (su_on : Nat → Int32) (pr_size : Int32) (pr_pitches : Nat → Int32) (k2 : (Nat → Int32) → (Nat → Int32) → Int32 → Option ((Nat → Int32) × (Nat → Int32))) : Nat → (Nat → Int32) → (Nat → Int32) → Int32 → Int32 → Option ((Nat → Int32) × (Nat → Int32))
  | 0 => fun _ _ _ _ => none
  | n + 1 => m_Prices_fillTurns_12b F su_numbers su_on pr_size pr_pitches k2 (m_Prices_fillTurns_12 F su_numbers su_on pr_size pr_pitches k2 n)
def m_Prices_fillTurns_2b (F : Nat) (su_numbers : Nat → Int32) (su_on : Nat → Int32) (pr_size : Int32) (pr_pitches : Nat → Int32) (k2 : (Nat → Int32) → (Nat → Int32) → Int32 → Option ((Nat → Int32) × (Nat → Int32))) (pr_badTurns : Nat → Int32) (pr_passings : Nat → Int32) (x1 : Int32) : Option ((Nat → Int32) × (Nat → Int32)) :=
  (if pr_size ≤ x1 then
    (some (pr_badTurns, pr_passings))
  else
    m_Prices_fillTurns_12 F su_numbers su_on pr_size pr_pitches k2 F pr_badTurns pr_passings x1 (0 : Int32))
def m_Prices_fillTurns_2 (F : Nat) (su_numbers : Nat → Int32) (su_on : Nat → Int32) (pr_size : Int32) (pr_pitches : Nat → Int32)  : Nat → (Nat → Int32) → (Nat → Int32) → Int32 → Option ((Nat → Int32) × (Nat → Int32))
  | 0 => fun _ _ _ => none
  | n + 1 => m_Prices_fillTurns_2b F su_numbers su_on pr_size pr_pitches  (m_Prices_fillTurns_2 F su_numbers su_on pr_size pr_pitches  n)
def m_Prices_fillTurns (F : Nat) (su_numbers : Nat → Int32) (su_on : Nat → Int32) (pr_size : Int32) (pr_pitches : Nat → Int32) (pr_badTurns : Nat → Int32) (pr_passings : Nat → Int32)  : Option ((Nat → Int32) × (Nat → Int32)) :=
  m_Prices_fillTurns_2 F su_numbers su_on pr_size pr_pitches  F pr_badTurns pr_passings (0 : Int32)
def m_Rules_isAlike_62 (su_perNote : Int32) (su_given : Nat → Nat → Int32)   (x3 : Int32) (x4 : Int32) (x6 : Int32) (x7 : Int32) : Option (Int32) :=
  (if x3 ≤ x4 then
    (some (0 : Int32))
  else
    (if x6 ≤ x7 then
      (some (0 : Int32))
    else
      (some (1 : Int32))))
def m_Rules_isAlike (su_perNote : Int32) (su_given : Nat → Nat → Int32)  (a1 : Int32) (a2 : Int32) (a3 : Int32) (a4 : Int32) : Option (Int32) :=
  (nz su_perNote (if (1 : Int32) ≤ (a2 / su_perNote) then
    (gd a1 3 (gd ((a2 / su_perNote) - (1 : Int32)) 12 (gd a1 3 (gd (a2 / su_perNote) 12 (if a4 ≤ a3 then
      m_Rules_isAlike_62 su_perNote su_given  a3 a4 (su_given (Int32.toNatClampNeg a1) (Int32.toNatClampNeg ((a2 / su_perNote) - (1 : Int32)))) (su_given (Int32.toNatClampNeg a1) (Int32.toNatClampNeg (a2 / su_perNote)))
    else
      (if (su_given (Int32.toNatClampNeg a1) (Int32.toNatClampNeg ((a2 / su_perNote) - (1 : Int32)))) < (su_given (Int32.toNatClampNeg a1) (Int32.toNatClampNeg (a2 / su_perNote))) then
        (some (1 : Int32))
      else
        m_Rules_isAlike_62 su_perNote su_given  a3 a4 (su_given (Int32.toNatClampNeg a1) (Int32.toNatClampNeg ((a2 / su_perNote) - (1 : Int32)))) (su_given (Int32.toNatClampNeg a1) (Int32.toNatClampNeg (a2 / su_perNote)))))))))
  else
    (some (0 : Int32))))
def m_Rules_isParallel (su_perNote : Int32) (su_numbers : Nat → Int32) (su_given : Nat → Nat → Int32)  (a1 : Int32) (a2 : Int32) (a3 : Int32) (a4 : Int32) : Option (Int32) :=
  (bd (m_Rules_classWith su_perNote su_given a1 a2 a4) (fun u1 => (bd (m_Rules_isAlike su_perNote su_given a1 a2 a3 a4) (fun u3 => (if u3 = (0 : Int32) then
    (some (0 : Int32))
  else
    (bd (m_Rules_isIn su_numbers (4 : Int32) u1) (fun u6 => (if u6 = (0 : Int32) then
      (some (0 : Int32))
    else
      (bd (m_Rules_classWith su_perNote su_given a1 (a2 - su_perNote) a3) (fun u9 => (if u1 = u9 then
        (some (1 : Int32))
      else
        (some (0 : Int32)))))))))))))
def m_Rules_isHidden (su_perNote : Int32) (su_numbers : Nat → Int32) (su_given : Nat → Nat → Int32)  (a1 : Int32) (a2 : Int32) (a3 : Int32) (a4 : Int32) : Option (Int32) :=
  (bd (m_Rules_isAlike su_perNote su_given a1 a2 a3 a4) (fun u1 => (if u1 = (0 : Int32) then
    (some (0 : Int32))
  else
    (bd (m_Rules_classWith su_perNote su_given a1 a2 a4) (fun u4 => (bd (m_Rules_isIn su_numbers (4 : Int32) u4) (fun u6 => (if u6 = (0 : Int32) then
      (some (0 : Int32))
    else
      (bd (m_SpeciesSolver_distance a3 a4) (fun u9 => (if u9 ≤ (su_numbers (Int32.toNatClampNeg (8 : Int32))) then
        (some (0 : Int32))
      else
        (some (1 : Int32)))))))))))))
def m_Prices_isBadStrongMove_71 (F : Nat) (su_lines : Int32) (su_perNote : Int32) (su_numbers : Nat → Int32) (su_on : Nat → Int32) (su_given : Nat → Nat → Int32) (k3 : Int32 → Int32 → Int32 → Int32 → Option (Int32))  (x1 : Int32) (x2 : Int32) (x3 : Int32) (x4 : Int32) : Option (Int32) :=
  k3 x1 x2 x3 (x4 + 1)
def m_Prices_isBadStrongMove_42 (F : Nat) (su_lines : Int32) (su_perNote : Int32) (su_numbers : Nat → Int32) (su_on : Nat → Int32) (su_given : Nat → Nat → Int32) (k3 : Int32 → Int32 → Int32 → Int32 → Option (Int32))  (x1 : Int32) (x2 : Int32) (x3 : Int32) (x4 : Int32) : Option (Int32) :=
  (if (su_on (Int32.toNatClampNeg (2 : Int32))) = (0 : Int32) then
    m_Prices_isBadStrongMove_71 F su_lines su_perNote su_numbers su_on su_given k3 x1 x2 x3 x4
  else
    (bd (m_Rules_isHidden su_perNote su_numbers su_given x4 x1 x2 x3) (fun u2 => (if u2 = (0 : Int32) then
      m_Prices_isBadStrongMove_71 F su_lines su_perNote su_numbers su_on su_given k3 x1 x2 x3 x4
    else
      (some (1 : Int32))))))
def m_Prices_isBadStrongMove_3b (F : Nat) (su_lines : Int32) (su_perNote : Int32) (su_numbers : Nat → Int32) (su_on : Nat → Int32) (su_given : Nat → Nat → Int32) (k3 : Int32 → Int32 → Int32 → Int32 → Option (Int32))  (x1 : Int32) (x2 : Int32) (x3 : Int32) (x4 : Int32) : Option (Int32) :=
  (if su_lines ≤ x4 then
    (some (0 : Int32))
  else
    (if (su_on (Int32.toNatClampNeg (1 : Int32))) = (0 : Int32) then
      m_Prices_isBadStrongMove_42 F su_lines su_perNote su_numbers su_on su_given k3 x1 x2 x3 x4
    else
      (bd (m_Rules_isParallel su_perNote su_numbers su_given x4 x1 x2 x3) (fun u3 => (if u3 = (0 : Int32) then
        m_Prices_isBadStrongMove_42 F su_lines su_perNote su_numbers su_on su_given k3 x1 x2 x3 x4
      else
        (some (1 : Int32)))))))
def m_Prices_isBadStrongMove_3 (F : Nat) (su_lines : Int32) (su_perNote : Int32) (su_numbers : Nat → Int32) (su_on : Nat → Int32) (su_given : Nat → Nat → Int32)  : Nat → Int32 → Int32 → Int32 → Int32 → Option (Int32)
  | 0 => fun _ _ _ _ => none
  | n + 1 => m_Prices_isBadStrongMove_3b F su_lines su_perNote su_numbers su_on su_given  (m_Prices_isBadStrongMove_3 F su_lines su_perNote su_numbers su_on su_given  n)
def m_Prices_isBadStrongMove (F : Nat) (su_lines : Int32) (su_perNote : Int32) (su_numbers : Nat → Int32) (su_on : Nat → Int32) (su_given : Nat → Nat → Int32)  (a1 : Int32) (a2 : Int32) (a3 : Int32) : Option (Int32) :=
  m_Prices_isBadStrongMove_3 F su_lines su_perNote su_numbers su_on su_given  F a1 a2 a3 (0 : Int32)
def m_Rules_strongMoveCost_45 (F : Nat) (su_lines : Int32) (su_perNote : Int32) (su_numbers : Nat → Int32) (su_given : Nat → Nat → Int32) (k6 : Int32 → Int32 → Int32 → Int32 → Int32 → Option (Int32))  (x1 : Int32) (x2 : Int32) (x3 : Int32) (x4 : Int32) (x5 : Int32) : Option (Int32) :=
  k6 x1 x2 x3 x4 (x5 + 1)
def m_Rules_strongMoveCost_6b (F : Nat) (su_lines : Int32) (su_perNote : Int32) (su_numbers : Nat → Int32) (su_given : Nat → Nat → Int32) (k6 : Int32 → Int32 → Int32 → Int32 → Int32 → Option (Int32))  (x1 : Int32) (x2 : Int32) (x3 : Int32) (x4 : Int32) (x5 : Int32) : Option (Int32) :=
  (if su_lines ≤ x5 then
    (some x4)
  else
    (bd (m_Rules_isAlike su_perNote su_given x5 x1 x2 x3) (fun u2 => (if u2 = (0 : Int32) then
      m_Rules_strongMoveCost_45 F su_lines su_perNote su_numbers su_given k6 x1 x2 x3 x4 x5
    else
      m_Rules_strongMoveCost_45 F su_lines su_perNote su_numbers su_given k6 x1 x2 x3 (x4 + (su_numbers (Int32.toNatClampNeg (15 : Int32)))) x5))))
def m_Rules_strongMoveCost_6 (F : Nat) (su_lines : Int32) (su_perNote : Int32) (su_numbers : Nat → Int32) (su_given : Nat → Nat → Int32)  : Nat → Int32 → Int32 → Int32 → Int32 → Int32 → Option (Int32)
  | 0 => fun _ _ _ _ _ => none
  | n + 1 => m_Rules_strongMoveCost_6b F su_lines su_perNote su_numbers su_given  (m_Rules_strongMoveCost_6 F su_lines su_perNote su_numbers su_given  n)
def m_Rules_strongMoveCost (F : Nat) (su_lines : Int32) (su_perNote : Int32) (su_numbers : Nat → Int32) (su_given : Nat → Nat → Int32)  (a1 : Int32) (a2 : Int32) (a3 : Int32) : Option (Int32) :=
  m_Rules_strongMoveCost_6 F su_lines su_perNote su_numbers su_given  F a1 a2 a3 (0 : Int32) (0 : Int32)
def m_Prices_fillStrongMoves_108 (F : Nat) (su_lines : Int32) (su_length : Int32) (su_perNote : Int32) (su_numbers : Nat → Int32) (su_on : Nat → Int32) (su_given : Nat → Nat → Int32) (pr_size : Int32) (pr_perNote : Int32) (pr_pitches : Nat → Int32) (k2 : (Nat → Int32) → Int32 → Option ((Nat → Int32))) (k22 : (Nat → Int32) → Int32 → Int32 → Int32 → Option ((Nat → Int32))) (k33 : (Nat → Int32) → Int32 → Int32 → Int32 → Int32 → Option ((Nat → Int32))) (pr_strongPrices : Nat → Int32) (x1 : Int32) (x2 : Int32) (x3 : Int32) (x4 : Int32) (t1 : Int32) (t2 : Int32) : Option ((Nat → Int32)) :=
  (gd t1 768 (k33 (upd pr_strongPrices (Int32.toNatClampNeg t1) t2) x1 x2 x3 (x4 + 1)))
def m_Prices_fillStrongMoves_33b (F : Nat) (su_lines : Int32) (su_length : Int32) (su_perNote : Int32) (su_numbers : Nat → Int32) (su_on : Nat → Int32) (su_given : Nat → Nat → Int32) (pr_size : Int32) (pr_perNote : Int32) (pr_pitches : Nat → Int32) (k2 : (Nat → Int32) → Int32 → Option ((Nat → Int32))) (k22 : (Nat → Int32) → Int32 → Int32 → Int32 → Option ((Nat → Int32))) (k33 : (Nat → Int32) → Int32 → Int32 → Int32 → Int32 → Option ((Nat → Int32))) (pr_strongPrices : Nat → Int32) (x1 : Int32) (x2 : Int32) (x3 : Int32) (x4 : Int32) : Option ((Nat → Int32)) :=
  (if pr_size ≤ x4 then
    k22 pr_strongPrices x1 x2 (x3 + 1)
  else
    (gd x3 8 (gd x4 8 (bd (m_Prices_isBadStrongMove F su_lines su_perNote su_numbers su_on su_given x2 (pr_pitches (Int32.toNatClampNeg x3)) (pr_pitches (Int32.toNatClampNeg x4))) (fun u4 => (if u4 = (0 : Int32) then
      (gd x3 8 (gd x4 8 (bd (m_Rules_strongMoveCost F su_lines su_perNote su_numbers su_given x2 (pr_pitches (Int32.toNatClampNeg x3)) (pr_pitches (Int32.toNatClampNeg x4))) (fun u9 => m_Prices_fillStrongMoves_108 F su_lines su_length su_perNote su_numbers su_on su_given pr_size pr_perNote pr_pitches k2 k22 k33 pr_strongPrices x1 x2 x3 x4 ((((x1 * (8 : Int32)) + x3) * (8 : Int32)) + x4) u9))))
    else
      m_Prices_fillStrongMoves_108 F su_lines su_length su_perNote su_numbers su_on su_given pr_size pr_perNote pr_pitches k2 k22 k33 pr_strongPrices x1 x2 x3 x4 ((((x1 * (8 : Int32)) + x3) * (8 : Int32)) + x4) (-1 : Int32)))))))
def m_Prices_fillStrongMoves_33 (F : Nat) (su_lines : Int32) (su_length : Int32) (su_perNote : Int32) (su_numbers : Nat → Int32) (su_on : Nat → Int32) (su_given : Nat → Nat → Int32) (pr_size : Int32) (pr_perNote : Int32) (pr_pitches : Nat → Int32) (k2 : (Nat → Int32) → Int32 → Option ((Nat → Int32))) (k22 : (Nat → Int32) → Int32 → Int32 → Int32 → Option ((Nat → Int32))) : Nat → (Nat → Int32) → Int32 → Int32 → Int32 → Int32 → Option ((Nat → Int32))
  | 0 => fun _ _ _ _ _ => none
  | n + 1 => m_Prices_fillStrongMoves_33b F su_lines su_length su_perNote su_numbers su_on su_given pr_size pr_perNote pr_pitches k2 k22 (m_Prices_fillStrongMoves_33 F su_lines su_length su_perNote su_numbers su_on su_given pr_size pr_perNote pr_pitches k2 k22 n)
def m_Prices_fillStrongMoves_22b (F : Nat) (su_lines : Int32) (su_length : Int32) (su_perNote : Int32) (su_numbers : Nat → Int32) (su_on : Nat → Int32) (su_given : Nat → Nat → Int32) (pr_size : Int32) (pr_perNote : Int32) (pr_pitches : Nat → Int32) (k2 : (Nat → Int32) → Int32 → Option ((Nat → Int32))) (k22 : (Nat → Int32) → Int32 → Int32 → Int32 → Option ((Nat → Int32))) (pr_strongPrices : Nat → Int32) (x1 : Int32) (x2 : Int32) (x3 : Int32) : Option ((Nat → Int32)) :=
  (if pr_size ≤ x3 then
    k2 pr_strongPrices (x1 + 1)
  else
    m_Prices_fillStrongMoves_33 F su_lines su_length su_perNote su_numbers su_on su_given pr_size pr_perNote pr_pitches k2 k22 F pr_strongPrices x1 x2 x3 (0 : Int32))
def m_Prices_fillStrongMoves_22 (F : Nat) (su_lines : Int32) (su_length : Int32) (su_perNote : Int32) (su_numbers : Nat → Int32) (su_on : Nat → Int32) (su_given : Nat → Nat → Int32) (pr_size : Int32) (pr_perNote : Int32) (pr_pitches : Nat → Int32) (k2 : (Nat → Int32) → Int32 → Option ((Nat → Int32))) : Nat → (Nat → Int32) → Int32 → Int32 → Int32 → Option ((Nat → Int32))
  | 0 => fun _ _ _ _ => none
  | n + 1 => m_Prices_fillStrongMoves_22b F su_lines su_length su_perNote su_numbers su_on su_given pr_size pr_perNote pr_pitches k2 (m_Prices_fillStrongMoves_22 F su_lines su_length su_perNote su_numbers su_on su_given pr_size pr_perNote pr_pitches k2 n)
def m_Prices_fillStrongMoves_2b (F : Nat) (su_lines : Int32) (su_length : Int32) (su_perNote : Int32) (su_numbers : Nat → Int32) (su_on : Nat → Int32) (su_given : Nat → Nat → Int32) (pr_size : Int32) (pr_perNote : Int32) (pr_pitches : Nat → Int32) (k2 : (Nat → Int32) → Int32 → Option ((Nat → Int32))) (pr_strongPrices : Nat → Int32) (x1 : Int32) : Option ((Nat → Int32)) :=
  (if su_length ≤ x1 then
    (some pr_strongPrices)
  else
    m_Prices_fillStrongMoves_22 F su_lines su_length su_perNote su_numbers su_on su_given pr_size pr_perNote pr_pitches k2 F pr_strongPrices x1 (x1 * pr_perNote) (0 : Int32))
def m_Prices_fillStrongMoves_2 (F : Nat) (su_lines : Int32) (su_length : Int32) (su_perNote : Int32) (su_numbers : Nat → Int32) (su_on : Nat → Int32) (su_given : Nat → Nat → Int32) (pr_size : Int32) (pr_perNote : Int32) (pr_pitches : Nat → Int32)  : Nat → (Nat → Int32) → Int32 → Option ((Nat → Int32))
  | 0 => fun _ _ => none
  | n + 1 => m_Prices_fillStrongMoves_2b F su_lines su_length su_perNote su_numbers su_on su_given pr_size pr_perNote pr_pitches  (m_Prices_fillStrongMoves_2 F su_lines su_length su_perNote su_numbers su_on su_given pr_size pr_perNote pr_pitches  n)
def m_Prices_fillStrongMoves (F : Nat) (su_lines : Int32) (su_length : Int32) (su_perNote : Int32) (su_numbers : Nat → Int32) (su_on : Nat → Int32) (su_given : Nat → Nat → Int32) (pr_size : Int32) (pr_perNote : Int32) (pr_pitches : Nat → Int32) (pr_strongPrices : Nat → Int32)  : Option ((Nat → Int32)) :=
  m_Prices_fillStrongMoves_2 F su_lines su_length su_perNote su_numbers su_on su_given pr_size pr_perNote pr_pitches  F pr_strongPrices (1 : Int32)
def m_Prices_fill_65 (F : Nat) (su_lines : Int32) (su_length : Int32) (su_perNote : Int32) (su_above : Int32) (su_numbers : Nat → Int32) (su_on : Nat → Int32) (su_given : Nat → Nat → Int32)  (pr_size : Int32) (pr_total : Int32) (pr_perNote : Int32) (pr_mostAlike : Int32) (pr_pitches : Nat → Int32) (pr_notePrices : Nat → Int32) (pr_mustPass : Nat → Int32) (pr_movePrices : Nat → Int32) (pr_mustTurn : Nat → Int32) (pr_badClosings : Nat → Int32) (pr_badTurns : Nat → Int32) (pr_passings : Nat → Int32) (pr_strongPrices : Nat → Int32) (t1 : Int32) : Option (Int32 × Int32 × Int32 × Int32 × (Nat → Int32) × (Nat → Int32) × (Nat → Int32) × (Nat → Int32) × (Nat → Int32) × (Nat → Int32) × (Nat → Int32) × (Nat → Int32) × (Nat → Int32)) :=
  (bd (m_Prices_fillNotes F su_lines su_length su_perNote su_above su_numbers su_on su_given pr_size pr_total pr_pitches pr_notePrices pr_mustPass) (fun u1 => (bd (m_Prices_fillMoves F su_perNote su_numbers su_on su_given pr_size pr_total pr_pitches pr_movePrices pr_mustTurn pr_badClosings) (fun u3 => (bd (m_Prices_fillTurns F su_numbers su_on pr_size pr_pitches pr_badTurns pr_passings) (fun u5 => (bd (m_Prices_fillStrongMoves F su_lines su_length su_perNote su_numbers su_on su_given pr_size pr_perNote pr_pitches pr_strongPrices) (fun u7 => (some (pr_size, pr_total, pr_perNote, t1, pr_pitches, u1.1, u1.2, u3.1, u3.2.1, u3.2.2, u5.1, u5.2, u7))))))))))
def m_Prices_fill (F : Nat) (su_lines : Int32) (su_length : Int32) (su_perNote : Int32) (su_above : Int32) (su_numbers : Nat → Int32) (su_on : Nat → Int32) (su_given : Nat → Nat → Int32) (pr_size : Int32) (pr_total : Int32) (pr_perNote : Int32) (pr_mostAlike : Int32) (pr_pitches : Nat → Int32) (pr_notePrices : Nat → Int32) (pr_mustPass : Nat → Int32) (pr_movePrices : Nat → Int32) (pr_mustTurn : Nat → Int32) (pr_badClosings : Nat → Int32) (pr_badTurns : Nat → Int32) (pr_passings : Nat → Int32) (pr_strongPrices : Nat → Int32)  : Option (Int32 × Int32 × Int32 × Int32 × (Nat → Int32) × (Nat → Int32) × (Nat → Int32) × (Nat → Int32) × (Nat → Int32) × (Nat → Int32) × (Nat → Int32) × (Nat → Int32) × (Nat → Int32)) :=
  (bd (m_Setup_writeChoice F su_numbers pr_pitches) (fun u1 => (bd (m_Setup_total su_lines su_length su_perNote) (fun u3 => (if (su_on (Int32.toNatClampNeg (7 : Int32))) = (0 : Int32) then
    m_Prices_fill_65 F su_lines su_length su_perNote su_above su_numbers su_on su_given  u1.1 u3 su_perNote pr_mostAlike u1.2 pr_notePrices pr_mustPass pr_movePrices pr_mustTurn pr_badClosings pr_badTurns pr_passings pr_strongPrices (0 : Int32)
  else
    m_Prices_fill_65 F su_lines su_length su_perNote su_above su_numbers su_on su_given  u1.1 u3 su_perNote pr_mostAlike u1.2 pr_notePrices pr_mustPass pr_movePrices pr_mustTurn pr_badClosings pr_badTurns pr_passings pr_strongPrices (su_numbers (Int32.toNatClampNeg (11 : Int32))))))))
def m_Search_beginLayer  (se_mark : Int32) (se_layerSizes : Nat → Int32) (a1 : Int32) : Option (Int32 × (Nat → Int32)) :=
  (gd a1 45 (some ((se_mark + (1 : Int32)), (upd se_layerSizes (Int32.toNatClampNeg a1) (0 : Int32)))))
def m_Search_firstState_13 (se_top : Int32)   (x1 : Int32) (t0 : Int32) : Option (Int32) :=
  (some (((x1 ||| (x1 <<< ((3 : Int32) &&& 31))) ||| (x1 <<< ((6 : Int32) &&& 31))) ||| (t0 <<< ((9 : Int32) &&& 31))))
def m_Search_firstState (se_top : Int32)  (a1 : Int32) : Option (Int32) :=
  (if a1 = se_top then
    m_Search_firstState_13 se_top  a1 (1 : Int32)
  else
    m_Search_firstState_13 se_top  a1 (0 : Int32))
def m_Search_enter (se_mark : Int32) (se_layers : Nat → Int32) (se_layerSizes : Nat → Int32) (se_marks : Nat → Int32) (a1 : Int32) (a2 : Int32) : Option ((Nat → Int32) × (Nat → Int32) × (Nat → Int32)) :=
  (gd a2 3072 (if (se_marks (Int32.toNatClampNeg a2)) = se_mark then
    (some (se_layers, se_layerSizes, se_marks))
  else
    (gd a1 45 (if (1280 : Int32) ≤ (se_layerSizes (Int32.toNatClampNeg a1)) then
      (some (se_layers, se_layerSizes, se_marks))
    else
      (gd a2 3072 (gd a1 45 (gd ((a1 * (1280 : Int32)) + (se_layerSizes (Int32.toNatClampNeg a1))) 57600 (gd a1 45 (gd a1 45 (some ((upd se_layers (Int32.toNatClampNeg ((a1 * (1280 : Int32)) + (se_layerSizes (Int32.toNatClampNeg a1)))) a2), (upd se_layerSizes (Int32.toNatClampNeg a1) ((se_layerSizes (Int32.toNatClampNeg a1)) + (1 : Int32))), (upd se_marks (Int32.toNatClampNeg a2) se_mark))))))))))))
def m_Search_isOverTop (se_top : Int32)  (a1 : Int32) (a2 : Int32) : Option (Int32) :=
  (if se_top < a2 then
    (some (1 : Int32))
  else
    (if a2 = se_top then
      (if ((a1 >>> ((9 : Int32) &&& 31)) &&& (1 : Int32)) = (1 : Int32) then
        (some (1 : Int32))
      else
        (some (0 : Int32)))
    else
      (some (0 : Int32))))
def m_Search_isOnceTooOften (pr_mostAlike : Int32)  (a1 : Int32) (a2 : Int32) : Option (Int32) :=
  (if pr_mostAlike ≤ (0 : Int32) then
    (some (0 : Int32))
  else
    (if a2 = (a1 &&& (7 : Int32)) then
      (if ((a1 >>> ((10 : Int32) &&& 31)) + (1 : Int32)) < pr_mostAlike then
        (some (0 : Int32))
      else
        (some (1 : Int32)))
    else
      (some (0 : Int32))))
def m_Prices_isBadTurn (pr_mustPass : Nat → Int32) (pr_badTurns : Nat → Int32) (pr_passings : Nat → Int32)  (a1 : Int32) (a2 : Int32) (a3 : Int32) (a4 : Int32) : Option (Int32) :=
  (if a1 < (2 : Int32) then
    (some (0 : Int32))
  else
    (gd ((((a2 * (8 : Int32)) + a3) * (8 : Int32)) + a4) 512 (if (pr_badTurns (Int32.toNatClampNeg ((((a2 * (8 : Int32)) + a3) * (8 : Int32)) + a4))) = (0 : Int32) then
      (gd (((a1 - (1 : Int32)) * (8 : Int32)) + a3) 360 (if (pr_mustPass (Int32.toNatClampNeg (((a1 - (1 : Int32)) * (8 : Int32)) + a3))) = (0 : Int32) then
        (some (0 : Int32))
      else
        (gd ((((a2 * (8 : Int32)) + a3) * (8 : Int32)) + a4) 512 (if (pr_passings (Int32.toNatClampNeg ((((a2 * (8 : Int32)) + a3) * (8 : Int32)) + a4))) = (0 : Int32) then
          (some (1 : Int32))
        else
          (some (0 : Int32))))))
    else
      (some (1 : Int32)))))
def m_Search_isBadEnd_36 (pr_size : Int32) (pr_badClosings : Nat → Int32) (se_top : Int32)   (x1 : Int32) (x2 : Int32) (t0 : Int32) : Option (Int32) :=
  (if t0 = (0 : Int32) then
    (gd (((x1 &&& (7 : Int32)) * (8 : Int32)) + x2) 64 (if (pr_badClosings (Int32.toNatClampNeg (((x1 &&& (7 : Int32)) * (8 : Int32)) + x2))) = (0 : Int32) then
      (some (0 : Int32))
    else
      (some (1 : Int32))))
  else
    (some (1 : Int32)))
def m_Search_isBadEnd_35 (pr_size : Int32) (pr_badClosings : Nat → Int32) (se_top : Int32)   (x1 : Int32) (x2 : Int32) : Option (Int32) :=
  m_Search_isBadEnd_36 pr_size pr_badClosings se_top  x1 x2 (0 : Int32)
def m_Search_isBadEnd (pr_size : Int32) (pr_badClosings : Nat → Int32) (se_top : Int32)  (a1 : Int32) (a2 : Int32) : Option (Int32) :=
  (if pr_size ≤ se_top then
    m_Search_isBadEnd_35 pr_size pr_badClosings se_top  a1 a2
  else
    (if a2 = se_top then
      m_Search_isBadEnd_35 pr_size pr_badClosings se_top  a1 a2
    else
      (if ((a1 >>> ((9 : Int32) &&& 31)) &&& (1 : Int32)) = (0 : Int32) then
        m_Search_isBadEnd_36 pr_size pr_badClosings se_top  a1 a2 (1 : Int32)
      else
        m_Search_isBadEnd_35 pr_size pr_badClosings se_top  a1 a2)))
def m_Prices_endsStrongMove (pr_perNote : Int32)  (a1 : Int32) : Option (Int32) :=
  (if a1 < pr_perNote then
    (some (0 : Int32))
  else
    (nz pr_perNote (if (a1 - a1 / pr_perNote * pr_perNote) = (0 : Int32) then
      (some (1 : Int32))
    else
      (some (0 : Int32)))))
def m_Prices_strongPrice (pr_perNote : Int32) (pr_strongPrices : Nat → Int32)  (a1 : Int32) (a2 : Int32) (a3 : Int32) : Option (Int32) :=
  (nz pr_perNote (gd (((((a1 / pr_perNote) * (8 : Int32)) + a2) * (8 : Int32)) + a3) 768 (some (pr_strongPrices (Int32.toNatClampNeg (((((a1 / pr_perNote) * (8 : Int32)) + a2) * (8 : Int32)) + a3))))))
def m_Search_priceOf_122 (pr_size : Int32) (pr_total : Int32) (pr_perNote : Int32) (pr_mostAlike : Int32) (pr_notePrices : Nat → Int32) (pr_mustPass : Nat → Int32) (pr_movePrices : Nat → Int32) (pr_badClosings : Nat → Int32) (pr_badTurns : Nat → Int32) (pr_passings : Nat → Int32) (pr_strongPrices : Nat → Int32) (se_top : Int32) (se_closes : Int32)   (x1 : Int32) (x2 : Int32) (x3 : Int32) (x5 : Int32) (x6 : Int32) : Option (Int32) :=
  (bd (m_Prices_endsStrongMove pr_perNote x1) (fun u1 => (if u1 = (0 : Int32) then
    (some (x5 + x6))
  else
    (bd (m_Prices_strongPrice pr_perNote pr_strongPrices x1 ((x2 >>> ((6 : Int32) &&& 31)) &&& (7 : Int32)) x3) (fun u4 => (if u4 = (-1 : Int32) then
      (some (-1 : Int32))
    else
      (some ((x5 + x6) + u4))))))))
def m_Search_priceOf (pr_size : Int32) (pr_total : Int32) (pr_perNote : Int32) (pr_mostAlike : Int32) (pr_notePrices : Nat → Int32) (pr_mustPass : Nat → Int32) (pr_movePrices : Nat → Int32) (pr_badClosings : Nat → Int32) (pr_badTurns : Nat → Int32) (pr_passings : Nat → Int32) (pr_strongPrices : Nat → Int32) (se_top : Int32) (se_closes : Int32)  (a1 : Int32) (a2 : Int32) (a3 : Int32) : Option (Int32) :=
  (gd ((a1 * (8 : Int32)) + a3) 360 (gd (((a2 &&& (7 : Int32)) * (8 : Int32)) + a3) 64 (if (pr_notePrices (Int32.toNatClampNeg ((a1 * (8 : Int32)) + a3))) = (-1 : Int32) then
    (some (-1 : Int32))
  else
    (if (pr_movePrices (Int32.toNatClampNeg (((a2 &&& (7 : Int32)) * (8 : Int32)) + a3))) = (-1 : Int32) then
      (some (-1 : Int32))
    else
      (bd (m_Search_isOverTop se_top a2 a3) (fun u5 => (if u5 = (0 : Int32) then
        (bd (m_Search_isOnceTooOften pr_mostAlike a2 a3) (fun u8 => (if u8 = (0 : Int32) then
          (bd (m_Prices_isBadTurn pr_mustPass pr_badTurns pr_passings a1 ((a2 >>> ((3 : Int32) &&& 31)) &&& (7 : Int32)) (a2 &&& (7 : Int32)) a3) (fun u11 => (if u11 = (0 : Int32) then
            (if se_closes = (0 : Int32) then
              m_Search_priceOf_122 pr_size pr_total pr_perNote pr_mostAlike pr_notePrices pr_mustPass pr_movePrices pr_badClosings pr_badTurns pr_passings pr_strongPrices se_top se_closes  a1 a2 a3 (pr_notePrices (Int32.toNatClampNeg ((a1 * (8 : Int32)) + a3))) (pr_movePrices (Int32.toNatClampNeg (((a2 &&& (7 : Int32)) * (8 : Int32)) + a3)))
            else
              (if a1 = (pr_total - (1 : Int32)) then
                (bd (m_Search_isBadEnd pr_size pr_badClosings se_top a2 a3) (fun u16 => (if u16 = (0 : Int32) then
                  m_Search_priceOf_122 pr_size pr_total pr_perNote pr_mostAlike pr_notePrices pr_mustPass pr_movePrices pr_badClosings pr_badTurns pr_passings pr_strongPrices se_top se_closes  a1 a2 a3 (pr_notePrices (Int32.toNatClampNeg ((a1 * (8 : Int32)) + a3))) (pr_movePrices (Int32.toNatClampNeg (((a2 &&& (7 : Int32)) * (8 : Int32)) + a3)))
                else
                  (some (-1 : Int32)))))
              else
                m_Search_priceOf_122 pr_size pr_total pr_perNote pr_mostAlike pr_notePrices pr_mustPass pr_movePrices pr_badClosings pr_badTurns pr_passings pr_strongPrices se_top se_closes  a1 a2 a3 (pr_notePrices (Int32.toNatClampNeg ((a1 * (8 : Int32)) + a3))) (pr_movePrices (Int32.toNatClampNeg (((a2 &&& (7 : Int32)) * (8 : Int32)) + a3)))))
          else
            (some (-1 : Int32)))))
        else
          (some (-1 : Int32)))))
      else
        (some (-1 : Int32)))))))))
def m_Prices_looksBack (pr_mustPass : Nat → Int32) (pr_mustTurn : Nat → Int32)  (a1 : Int32) (a2 : Int32) (a3 : Int32) : Option (Int32) :=
  (gd ((a1 * (8 : Int32)) + a3) 360 (if (pr_mustPass (Int32.toNatClampNeg ((a1 * (8 : Int32)) + a3))) = (0 : Int32) then
    (gd ((a2 * (8 : Int32)) + a3) 64 (if (pr_mustTurn (Int32.toNatClampNeg ((a2 * (8 : Int32)) + a3))) = (0 : Int32) then
      (some (0 : Int32))
    else
      (some (1 : Int32))))
  else
    (some (1 : Int32))))
def m_Search_stateAfter_99 (pr_perNote : Int32) (pr_mostAlike : Int32) (pr_mustPass : Nat → Int32) (pr_mustTurn : Nat → Int32) (se_top : Int32)   (x3 : Int32) (x5 : Int32) (x6 : Int32) (x7 : Int32) (t0 : Int32) : Option (Int32) :=
  (some ((((x3 ||| (x5 <<< ((3 : Int32) &&& 31))) ||| (x6 <<< ((6 : Int32) &&& 31))) ||| (x7 <<< ((9 : Int32) &&& 31))) ||| (t0 <<< ((10 : Int32) &&& 31))))
def m_Search_stateAfter_98 (pr_perNote : Int32) (pr_mostAlike : Int32) (pr_mustPass : Nat → Int32) (pr_mustTurn : Nat → Int32) (se_top : Int32)   (x3 : Int32) (x5 : Int32) (x6 : Int32) (x7 : Int32) : Option (Int32) :=
  m_Search_stateAfter_99 pr_perNote pr_mostAlike pr_mustPass pr_mustTurn se_top  x3 x5 x6 x7 (0 : Int32)
def m_Search_stateAfter_71 (pr_perNote : Int32) (pr_mostAlike : Int32) (pr_mustPass : Nat → Int32) (pr_mustTurn : Nat → Int32) (se_top : Int32)   (x2 : Int32) (x3 : Int32) (x4 : Int32) (x5 : Int32) (x6 : Int32) (t0 : Int32) : Option (Int32) :=
  (if x3 = x4 then
    (if pr_mostAlike ≤ (0 : Int32) then
      m_Search_stateAfter_98 pr_perNote pr_mostAlike pr_mustPass pr_mustTurn se_top  x3 x5 x6 t0
    else
      m_Search_stateAfter_99 pr_perNote pr_mostAlike pr_mustPass pr_mustTurn se_top  x3 x5 x6 t0 ((x2 >>> ((10 : Int32) &&& 31)) + (1 : Int32)))
  else
    m_Search_stateAfter_98 pr_perNote pr_mostAlike pr_mustPass pr_mustTurn se_top  x3 x5 x6 t0)
def m_Search_stateAfter_51 (pr_perNote : Int32) (pr_mostAlike : Int32) (pr_mustPass : Nat → Int32) (pr_mustTurn : Nat → Int32) (se_top : Int32)   (x2 : Int32) (x3 : Int32) (x4 : Int32) (x5 : Int32) (t0 : Int32) : Option (Int32) :=
  (if x3 = se_top then
    m_Search_stateAfter_71 pr_perNote pr_mostAlike pr_mustPass pr_mustTurn se_top  x2 x3 x4 x5 t0 (1 : Int32)
  else
    m_Search_stateAfter_71 pr_perNote pr_mostAlike pr_mustPass pr_mustTurn se_top  x2 x3 x4 x5 t0 ((x2 >>> ((9 : Int32) &&& 31)) &&& (1 : Int32)))
def m_Search_stateAfter_26 (pr_perNote : Int32) (pr_mostAlike : Int32) (pr_mustPass : Nat → Int32) (pr_mustTurn : Nat → Int32) (se_top : Int32)   (x1 : Int32) (x2 : Int32) (x3 : Int32) (x4 : Int32) (t0 : Int32) : Option (Int32) :=
  (nz pr_perNote (if (x1 - x1 / pr_perNote * pr_perNote) = (0 : Int32) then
    m_Search_stateAfter_51 pr_perNote pr_mostAlike pr_mustPass pr_mustTurn se_top  x2 x3 x4 t0 x3
  else
    m_Search_stateAfter_51 pr_perNote pr_mostAlike pr_mustPass pr_mustTurn se_top  x2 x3 x4 t0 ((x2 >>> ((6 : Int32) &&& 31)) &&& (7 : Int32))))
def m_Search_stateAfter (pr_perNote : Int32) (pr_mostAlike : Int32) (pr_mustPass : Nat → Int32) (pr_mustTurn : Nat → Int32) (se_top : Int32)  (a1 : Int32) (a2 : Int32) (a3 : Int32) : Option (Int32) :=
  (bd (m_Prices_looksBack pr_mustPass pr_mustTurn a1 (a2 &&& (7 : Int32)) a3) (fun u1 => (if u1 = (0 : Int32) then
    m_Search_stateAfter_26 pr_perNote pr_mostAlike pr_mustPass pr_mustTurn se_top  a1 a2 a3 (a2 &&& (7 : Int32)) a3
  else
    m_Search_stateAfter_26 pr_perNote pr_mostAlike pr_mustPass pr_mustTurn se_top  a1 a2 a3 (a2 &&& (7 : Int32)) (a2 &&& (7 : Int32)))))
def m_Search_extendTo_74 (F : Nat) (pr_size : Int32) (pr_total : Int32) (pr_perNote : Int32) (pr_mostAlike : Int32) (pr_notePrices : Nat → Int32) (pr_mustPass : Nat → Int32) (pr_movePrices : Nat → Int32) (pr_mustTurn : Nat → Int32) (pr_badClosings : Nat → Int32) (pr_badTurns : Nat → Int32) (pr_passings : Nat → Int32) (pr_strongPrices : Nat → Int32) (se_top : Int32) (se_closes : Int32) (k7 : Int32 → (Nat → Int32) → (Nat → Int32) → (Nat → Int32) → Int32 → Int32 → Option (Int32 × (Nat → Int32) × (Nat → Int32) × (Nat → Int32))) (k37 : Int32 → (Nat → Int32) → (Nat → Int32) → (Nat → Int32) → Int32 → Int32 → Int32 → Int32 → Option (Int32 × (Nat → Int32) × (Nat → Int32) × (Nat → Int32))) (se_mark : Int32) (se_layers : Nat → Int32) (se_layerSizes : Nat → Int32) (se_marks : Nat → Int32) (x1 : Int32) (x2 : Int32) (x3 : Int32) (x4 : Int32) : Option (Int32 × (Nat → Int32) × (Nat → Int32) × (Nat → Int32)) :=
  k37 se_mark se_layers se_layerSizes se_marks x1 x2 x3 (x4 + 1)
def m_Search_extendTo_37b (F : Nat) (pr_size : Int32) (pr_total : Int32) (pr_perNote : Int32) (pr_mostAlike : Int32) (pr_notePrices : Nat → Int32) (pr_mustPass : Nat → Int32) (pr_movePrices : Nat → Int32) (pr_mustTurn : Nat → Int32) (pr_badClosings : Nat → Int32) (pr_badTurns : Nat → Int32) (pr_passings : Nat → Int32) (pr_strongPrices : Nat → Int32) (se_top : Int32) (se_closes : Int32) (k7 : Int32 → (Nat → Int32) → (Nat → Int32) → (Nat → Int32) → Int32 → Int32 → Option (Int32 × (Nat → Int32) × (Nat → Int32) × (Nat → Int32))) (k37 : Int32 → (Nat → Int32) → (Nat → Int32) → (Nat → Int32) → Int32 → Int32 → Int32 → Int32 → Option (Int32 × (Nat → Int32) × (Nat → Int32) × (Nat → Int32))) (se_mark : Int32) (se_layers : Nat → Int32) (se_layerSizes : Nat → Int32) (se_marks : Nat → Int32) (x1 : Int32) (x2 : Int32) (x3 : Int32) (x4 : Int32) : Option (Int32 × (Nat → Int32) × (Nat → Int32) × (Nat → Int32)) :=
  (if pr_size ≤ x4 then
    k7 se_mark se_layers se_layerSizes se_marks x1 (x2 + 1)
  else
    (bd (m_Search_priceOf pr_size pr_total pr_perNote pr_mostAlike pr_notePrices pr_mustPass pr_movePrices pr_badClosings pr_badTurns pr_passings pr_strongPrices se_top se_closes x1 x3 x4) (fun u2 => (if u2 = (-1 : Int32) then
      m_Search_extendTo_74 F pr_size pr_total pr_perNote pr_mostAlike pr_notePrices pr_mustPass pr_movePrices pr_mustTurn pr_badClosings pr_badTurns pr_passings pr_strongPrices se_top se_closes k7 k37 se_mark se_layers se_layerSizes se_marks x1 x2 x3 x4
    else
      (bd (m_Search_stateAfter pr_perNote pr_mostAlike pr_mustPass pr_mustTurn se_top x1 x3 x4) (fun u5 => (bd (m_Search_enter se_mark se_layers se_layerSizes se_marks x1 u5) (fun u7 => m_Search_extendTo_74 F pr_size pr_total pr_perNote pr_mostAlike pr_notePrices pr_mustPass pr_movePrices pr_mustTurn pr_badClosings pr_badTurns pr_passings pr_strongPrices se_top se_closes k7 k37 se_mark u7.1 u7.2.1 u7.2.2 x1 x2 x3 x4))))))))
def m_Search_extendTo_37 (F : Nat) (pr_size : Int32) (pr_total : Int32) (pr_perNote : Int32) (pr_mostAlike : Int32) (pr_notePrices : Nat → Int32) (pr_mustPass : Nat → Int32) (pr_movePrices : Nat → Int32) (pr_mustTurn : Nat → Int32) (pr_badClosings : Nat → Int32) (pr_badTurns : Nat → Int32) (pr_passings : Nat → Int32) (pr_strongPrices : Nat → Int32) (se_top : Int32) (se_closes : Int32) (k7 : Int32 → (Nat → Int32) → (Nat → Int32) → (Nat → Int32) → Int32 → Int32 → Option (Int32 × (Nat → Int32) × (Nat → Int32) × (Nat → Int32))) : Nat → Int32 → (Nat → Int32) → (Nat → Int32) → (Nat → Int32) → Int32 → Int32 → Int32 → Int32 → Option (Int32 × (Nat → Int32) × (Nat → Int32) × (Nat → Int32))
  | 0 => fun _ _ _ _ _ _ _ _ => none
  | n + 1 => m_Search_extendTo_37b F pr_size pr_total pr_perNote pr_mostAlike pr_notePrices pr_mustPass pr_movePrices pr_mustTurn pr_badClosings pr_badTurns pr_passings pr_strongPrices se_top se_closes k7 (m_Search_extendTo_37 F pr_size pr_total pr_perNote pr_mostAlike pr_notePrices pr_mustPass pr_movePrices pr_mustTurn pr_badClosings pr_badTurns pr_passings pr_strongPrices se_top se_closes k7 n)
def m_Search_extendTo_7b (F : Nat) (pr_size : Int32) (pr_total : Int32) (pr_perNote : Int32) (pr_mostAlike : Int32) (pr_notePrices : Nat → Int32) (pr_mustPass : Nat → Int32) (pr_movePrices : Nat → Int32) (pr_mustTurn : Nat → Int32) (pr_badClosings : Nat → Int32) (pr_badTurns : Nat → Int32) (pr_passings : Nat → Int32) (pr_strongPrices : Nat → Int32) (se_top : Int32) (se_closes : Int32) (k7 : Int32 → (Nat → Int32) → (Nat → Int32) → (Nat → Int32) → Int32 → Int32 → Option (Int32 × (Nat → Int32) × (Nat → Int32) × (Nat → Int32))) (se_mark : Int32) (se_layers : Nat → Int32) (se_layerSizes : Nat → Int32) (se_marks : Nat → Int32) (x1 : Int32) (x2 : Int32) : Option (Int32 × (Nat → Int32) × (Nat → Int32) × (Nat → Int32)) :=
  (gd (x1 - (1 : Int32)) 45 (if (se_layerSizes (Int32.toNatClampNeg (x1 - (1 : Int32)))) ≤ x2 then
    (some (se_mark, se_layers, se_layerSizes, se_marks))
  else
    (gd (((x1 - (1 : Int32)) * (1280 : Int32)) + x2) 57600 (m_Search_extendTo_37 F pr_size pr_total pr_perNote pr_mostAlike pr_notePrices pr_mustPass pr_movePrices pr_mustTurn pr_badClosings pr_badTurns pr_passings pr_strongPrices se_top se_closes k7 F se_mark se_layers se_layerSizes se_marks x1 x2 (se_layers (Int32.toNatClampNeg (((x1 - (1 : Int32)) * (1280 : Int32)) + x2))) (0 : Int32)))))
def m_Search_extendTo_7 (F : Nat) (pr_size : Int32) (pr_total : Int32) (pr_perNote : Int32) (pr_mostAlike : Int32) (pr_notePrices : Nat → Int32) (pr_mustPass : Nat → Int32) (pr_movePrices : Nat → Int32) (pr_mustTurn : Nat → Int32) (pr_badClosings : Nat → Int32) (pr_badTurns : Nat → Int32) (pr_passings : Nat → Int32) (pr_strongPrices : Nat → Int32) (se_top : Int32) (se_closes : Int32)  : Nat → Int32 → (Nat → Int32) → (Nat → Int32) → (Nat → Int32) → Int32 → Int32 → Option (Int32 × (Nat → Int32) × (Nat → Int32) × (Nat → Int32))
  | 0 => fun _ _ _ _ _ _ => none
  | n + 1 => m_Search_extendTo_7b F pr_size pr_total pr_perNote pr_mostAlike pr_notePrices pr_mustPass pr_movePrices pr_mustTurn pr_badClosings pr_badTurns pr_passings pr_strongPrices se_top se_closes  (m_Search_extendTo_7 F pr_size pr_total pr_perNote pr_mostAlike pr_notePrices pr_mustPass pr_movePrices pr_mustTurn pr_badClosings pr_badTurns pr_passings pr_strongPrices se_top se_closes  n)
def m_Search_extendTo (F : Nat) (pr_size : Int32) (pr_total : Int32) (pr_perNote : Int32) (pr_mostAlike : Int32) (pr_notePrices : Nat → Int32) (pr_mustPass : Nat → Int32) (pr_movePrices : Nat → Int32) (pr_mustTurn : Nat → Int32) (pr_badClosings : Nat → Int32) (pr_badTurns : Nat → Int32) (pr_passings : Nat → Int32) (pr_strongPrices : Nat → Int32) (se_top : Int32) (se_closes : Int32) (se_mark : Int32) (se_layers : Nat → Int32) (se_layerSizes : Nat → Int32) (se_marks : Nat → Int32) (a1 : Int32) : Option (Int32 × (Nat → Int32) × (Nat → Int32) × (Nat → Int32)) :=
  (bd (m_Search_beginLayer se_mark se_layerSizes a1) (fun u1 => m_Search_extendTo_7 F pr_size pr_total pr_perNote pr_mostAlike pr_notePrices pr_mustPass pr_movePrices pr_mustTurn pr_badClosings pr_badTurns pr_passings pr_strongPrices se_top se_closes  F u1.1 se_layers u1.2 se_marks a1 (0 : Int32)))
def m_Search_spread_105 (F : Nat) (pr_size : Int32) (pr_total : Int32) (pr_perNote : Int32) (pr_mostAlike : Int32) (pr_notePrices : Nat → Int32) (pr_mustPass : Nat → Int32) (pr_movePrices : Nat → Int32) (pr_mustTurn : Nat → Int32) (pr_badClosings : Nat → Int32) (pr_badTurns : Nat → Int32) (pr_passings : Nat → Int32) (pr_strongPrices : Nat → Int32) (se_top : Int32) (se_closes : Int32) (k72 : Int32 → (Nat → Int32) → (Nat → Int32) → (Nat → Int32) → Int32 → Int32 → Option (Int32 × Int32 × (Nat → Int32) × (Nat → Int32) × (Nat → Int32))) (se_mark : Int32) (se_layers : Nat → Int32) (se_layerSizes : Nat → Int32) (se_marks : Nat → Int32) (x1 : Int32) (x2 : Int32) : Option (Int32 × Int32 × (Nat → Int32) × (Nat → Int32) × (Nat → Int32)) :=
  k72 se_mark se_layers se_layerSizes se_marks x1 (x2 + 1)
def m_Search_spread_72b (F : Nat) (pr_size : Int32) (pr_total : Int32) (pr_perNote : Int32) (pr_mostAlike : Int32) (pr_notePrices : Nat → Int32) (pr_mustPass : Nat → Int32) (pr_movePrices : Nat → Int32) (pr_mustTurn : Nat → Int32) (pr_badClosings : Nat → Int32) (pr_badTurns : Nat → Int32) (pr_passings : Nat → Int32) (pr_strongPrices : Nat → Int32) (se_top : Int32) (se_closes : Int32) (k72 : Int32 → (Nat → Int32) → (Nat → Int32) → (Nat → Int32) → Int32 → Int32 → Option (Int32 × Int32 × (Nat → Int32) × (Nat → Int32) × (Nat → Int32))) (se_mark : Int32) (se_layers : Nat → Int32) (se_layerSizes : Nat → Int32) (se_marks : Nat → Int32) (x1 : Int32) (x2 : Int32) : Option (Int32 × Int32 × (Nat → Int32) × (Nat → Int32) × (Nat → Int32)) :=
  (if pr_total ≤ x2 then
    (some (x1, se_mark, se_layers, se_layerSizes, se_marks))
  else
    (if x1 = x2 then
      (bd (m_Search_extendTo F pr_size pr_total pr_perNote pr_mostAlike pr_notePrices pr_mustPass pr_movePrices pr_mustTurn pr_badClosings pr_badTurns pr_passings pr_strongPrices se_top se_closes se_mark se_layers se_layerSizes se_marks x2) (fun u3 => (gd x2 45 (if (u3.2.2.1 (Int32.toNatClampNeg x2)) ≤ (0 : Int32) then
        m_Search_spread_105 F pr_size pr_total pr_perNote pr_mostAlike pr_notePrices pr_mustPass pr_movePrices pr_mustTurn pr_badClosings pr_badTurns pr_passings pr_strongPrices se_top se_closes k72 u3.1 u3.2.1 u3.2.2.1 u3.2.2.2 x1 x2
      else
        m_Search_spread_105 F pr_size pr_total pr_perNote pr_mostAlike pr_notePrices pr_mustPass pr_movePrices pr_mustTurn pr_badClosings pr_badTurns pr_passings pr_strongPrices se_top se_closes k72 u3.1 u3.2.1 u3.2.2.1 u3.2.2.2 (x1 + 1) x2))))
    else
      (some (x1, se_mark, se_layers, se_layerSizes, se_marks))))
def m_Search_spread_72 (F : Nat) (pr_size : Int32) (pr_total : Int32) (pr_perNote : Int32) (pr_mostAlike : Int32) (pr_notePrices : Nat → Int32) (pr_mustPass : Nat → Int32) (pr_movePrices : Nat → Int32) (pr_mustTurn : Nat → Int32) (pr_badClosings : Nat → Int32) (pr_badTurns : Nat → Int32) (pr_passings : Nat → Int32) (pr_strongPrices : Nat → Int32) (se_top : Int32) (se_closes : Int32)  : Nat → Int32 → (Nat → Int32) → (Nat → Int32) → (Nat → Int32) → Int32 → Int32 → Option (Int32 × Int32 × (Nat → Int32) × (Nat → Int32) × (Nat → Int32))
  | 0 => fun _ _ _ _ _ _ => none
  | n + 1 => m_Search_spread_72b F pr_size pr_total pr_perNote pr_mostAlike pr_notePrices pr_mustPass pr_movePrices pr_mustTurn pr_badClosings pr_badTurns pr_passings pr_strongPrices se_top se_closes  (m_Search_spread_72 F pr_size pr_total pr_perNote pr_mostAlike pr_notePrices pr_mustPass pr_movePrices pr_mustTurn pr_badClosings pr_badTurns pr_passings pr_strongPrices se_top se_closes  n)
def m_Search_spread_69 (F : Nat) (pr_size : Int32) (pr_total : Int32) (pr_perNote : Int32) (pr_mostAlike : Int32) (pr_notePrices : Nat → Int32) (pr_mustPass : Nat → Int32) (pr_movePrices : Nat → Int32) (pr_mustTurn : Nat → Int32) (pr_badClosings : Nat → Int32) (pr_badTurns : Nat → Int32) (pr_passings : Nat → Int32) (pr_strongPrices : Nat → Int32) (se_top : Int32) (se_closes : Int32)  (se_mark : Int32) (se_layers : Nat → Int32) (se_layerSizes : Nat → Int32) (se_marks : Nat → Int32) (t0 : Int32) : Option (Int32 × Int32 × (Nat → Int32) × (Nat → Int32) × (Nat → Int32)) :=
  m_Search_spread_72 F pr_size pr_total pr_perNote pr_mostAlike pr_notePrices pr_mustPass pr_movePrices pr_mustTurn pr_badClosings pr_badTurns pr_passings pr_strongPrices se_top se_closes  F se_mark se_layers se_layerSizes se_marks t0 (1 : Int32)
def m_Search_spread_55 (F : Nat) (pr_size : Int32) (pr_total : Int32) (pr_perNote : Int32) (pr_mostAlike : Int32) (pr_notePrices : Nat → Int32) (pr_mustPass : Nat → Int32) (pr_movePrices : Nat → Int32) (pr_mustTurn : Nat → Int32) (pr_badClosings : Nat → Int32) (pr_badTurns : Nat → Int32) (pr_passings : Nat → Int32) (pr_strongPrices : Nat → Int32) (se_top : Int32) (se_closes : Int32)  (se_mark : Int32) (se_layers : Nat → Int32) (se_layerSizes : Nat → Int32) (se_marks : Nat → Int32)  : Option (Int32 × Int32 × (Nat → Int32) × (Nat → Int32) × (Nat → Int32)) :=
  (if (se_layerSizes (Int32.toNatClampNeg (0 : Int32))) ≤ (0 : Int32) then
    m_Search_spread_69 F pr_size pr_total pr_perNote pr_mostAlike pr_notePrices pr_mustPass pr_movePrices pr_mustTurn pr_badClosings pr_badTurns pr_passings pr_strongPrices se_top se_closes  se_mark se_layers se_layerSizes se_marks (0 : Int32)
  else
    m_Search_spread_69 F pr_size pr_total pr_perNote pr_mostAlike pr_notePrices pr_mustPass pr_movePrices pr_mustTurn pr_badClosings pr_badTurns pr_passings pr_strongPrices se_top se_closes  se_mark se_layers se_layerSizes se_marks (1 : Int32))
def m_Search_spread_49 (F : Nat) (pr_size : Int32) (pr_total : Int32) (pr_perNote : Int32) (pr_mostAlike : Int32) (pr_notePrices : Nat → Int32) (pr_mustPass : Nat → Int32) (pr_movePrices : Nat → Int32) (pr_mustTurn : Nat → Int32) (pr_badClosings : Nat → Int32) (pr_badTurns : Nat → Int32) (pr_passings : Nat → Int32) (pr_strongPrices : Nat → Int32) (se_top : Int32) (se_closes : Int32) (k7 : Int32 → (Nat → Int32) → (Nat → Int32) → (Nat → Int32) → Int32 → Option (Int32 × Int32 × (Nat → Int32) × (Nat → Int32) × (Nat → Int32))) (se_mark : Int32) (se_layers : Nat → Int32) (se_layerSizes : Nat → Int32) (se_marks : Nat → Int32) (x1 : Int32) : Option (Int32 × Int32 × (Nat → Int32) × (Nat → Int32) × (Nat → Int32)) :=
  k7 se_mark se_layers se_layerSizes se_marks (x1 + 1)
def m_Search_spread_7b (F : Nat) (pr_size : Int32) (pr_total : Int32) (pr_perNote : Int32) (pr_mostAlike : Int32) (pr_notePrices : Nat → Int32) (pr_mustPass : Nat → Int32) (pr_movePrices : Nat → Int32) (pr_mustTurn : Nat → Int32) (pr_badClosings : Nat → Int32) (pr_badTurns : Nat → Int32) (pr_passings : Nat → Int32) (pr_strongPrices : Nat → Int32) (se_top : Int32) (se_closes : Int32) (k7 : Int32 → (Nat → Int32) → (Nat → Int32) → (Nat → Int32) → Int32 → Option (Int32 × Int32 × (Nat → Int32) × (Nat → Int32) × (Nat → Int32))) (se_mark : Int32) (se_layers : Nat → Int32) (se_layerSizes : Nat → Int32) (se_marks : Nat → Int32) (x1 : Int32) : Option (Int32 × Int32 × (Nat → Int32) × (Nat → Int32) × (Nat → Int32)) :=
  (if pr_size ≤ x1 then
    m_Search_spread_55 F pr_size pr_total pr_perNote pr_mostAlike pr_notePrices pr_mustPass pr_movePrices pr_mustTurn pr_badClosings pr_badTurns pr_passings pr_strongPrices se_top se_closes  se_mark se_layers se_layerSizes se_marks
  else
    (if se_top < x1 then
      m_Search_spread_55 F pr_size pr_total pr_perNote pr_mostAlike pr_notePrices pr_mustPass pr_movePrices pr_mustTurn pr_badClosings pr_badTurns pr_passings pr_strongPrices se_top se_closes  se_mark se_layers se_layerSizes se_marks
    else
      (gd x1 360 (if (pr_notePrices (Int32.toNatClampNeg x1)) = (-1 : Int32) then
        m_Search_spread_49 F pr_size pr_total pr_perNote pr_mostAlike pr_notePrices pr_mustPass pr_movePrices pr_mustTurn pr_badClosings pr_badTurns pr_passings pr_strongPrices se_top se_closes k7 se_mark se_layers se_layerSizes se_marks x1
      else
        (bd (m_Search_firstState se_top x1) (fun u5 => (bd (m_Search_enter se_mark se_layers se_layerSizes se_marks (0 : Int32) u5) (fun u7 => m_Search_spread_49 F pr_size pr_total pr_perNote pr_mostAlike pr_notePrices pr_mustPass pr_movePrices pr_mustTurn pr_badClosings pr_badTurns pr_passings pr_strongPrices se_top se_closes k7 se_mark u7.1 u7.2.1 u7.2.2 x1))))))))
def m_Search_spread_7 (F : Nat) (pr_size : Int32) (pr_total : Int32) (pr_perNote : Int32) (pr_mostAlike : Int32) (pr_notePrices : Nat → Int32) (pr_mustPass : Nat → Int32) (pr_movePrices : Nat → Int32) (pr_mustTurn : Nat → Int32) (pr_badClosings : Nat → Int32) (pr_badTurns : Nat → Int32) (pr_passings : Nat → Int32) (pr_strongPrices : Nat → Int32) (se_top : Int32) (se_closes : Int32)  : Nat → Int32 → (Nat → Int32) → (Nat → Int32) → (Nat → Int32) → Int32 → Option (Int32 × Int32 × (Nat → Int32) × (Nat → Int32) × (Nat → Int32))
  | 0 => fun _ _ _ _ _ => none
  | n + 1 => m_Search_spread_7b F pr_size pr_total pr_perNote pr_mostAlike pr_notePrices pr_mustPass pr_movePrices pr_mustTurn pr_badClosings pr_badTurns pr_passings pr_strongPrices se_top se_closes  (m_Search_spread_7 F pr_size pr_total pr_perNote pr_mostAlike pr_notePrices pr_mustPass pr_movePrices pr_mustTurn pr_badClosings pr_badTurns pr_passings pr_strongPrices se_top se_closes  n)
def m_Search_spread (F : Nat) (pr_size : Int32) (pr_total : Int32) (pr_perNote : Int32) (pr_mostAlike : Int32) (pr_notePrices : Nat → Int32) (pr_mustPass : Nat → Int32) (pr_movePrices : Nat → Int32) (pr_mustTurn : Nat → Int32) (pr_badClosings : Nat → Int32) (pr_badTurns : Nat → Int32) (pr_passings : Nat → Int32) (pr_strongPrices : Nat → Int32) (se_top : Int32) (se_closes : Int32) (se_mark : Int32) (se_layers : Nat → Int32) (se_layerSizes : Nat → Int32) (se_marks : Nat → Int32)  : Option (Int32 × Int32 × (Nat → Int32) × (Nat → Int32) × (Nat → Int32)) :=
  (bd (m_Search_beginLayer se_mark se_layerSizes (0 : Int32)) (fun u1 => m_Search_spread_7 F pr_size pr_total pr_perNote pr_mostAlike pr_notePrices pr_mustPass pr_movePrices pr_mustTurn pr_badClosings pr_badTurns pr_passings pr_strongPrices se_top se_closes  F u1.1 se_layers u1.2 se_marks (0 : Int32)))
def m_Search_restAt   (a0 : Int32) (a1 : Int32) : Option (Int32) :=
  (some (((a0 &&& (1 : Int32)) * (1280 : Int32)) + a1))
def m_Search_writePlaces_2b (F : Nat) (se_layers : Nat → Int32) (se_layerSizes : Nat → Int32) (k2 : (Nat → Int32) → Int32 → Int32 → Option ((Nat → Int32))) (se_places : Nat → Int32) (x1 : Int32) (x2 : Int32) : Option ((Nat → Int32)) :=
  (gd x1 45 (if (se_layerSizes (Int32.toNatClampNeg x1)) ≤ x2 then
    (some se_places)
  else
    (gd ((x1 * (1280 : Int32)) + x2) 57600 (gd (se_layers (Int32.toNatClampNeg ((x1 * (1280 : Int32)) + x2))) 3072 (k2 (upd se_places (Int32.toNatClampNeg (se_layers (Int32.toNatClampNeg ((x1 * (1280 : Int32)) + x2)))) x2) x1 (x2 + 1))))))
def m_Search_writePlaces_2 (F : Nat) (se_layers : Nat → Int32) (se_layerSizes : Nat → Int32)  : Nat → (Nat → Int32) → Int32 → Int32 → Option ((Nat → Int32))
  | 0 => fun _ _ _ => none
  | n + 1 => m_Search_writePlaces_2b F se_layers se_layerSizes  (m_Search_writePlaces_2 F se_layers se_layerSizes  n)
def m_Search_writePlaces (F : Nat) (se_layers : Nat → Int32) (se_layerSizes : Nat → Int32) (se_places : Nat → Int32) (a1 : Int32) : Option ((Nat → Int32)) :=
  m_Search_writePlaces_2 F se_layers se_layerSizes  F se_places a1 (0 : Int32)
def m_Search_addWay_58   (se_restCosts : Nat → Int32) (se_restLines : Nat → Int64) (se_restLeastLines : Nat → Int64) (x1 : Int32) (x2 : Int32) (x4 : Int32) : Option (Int32 × (Nat → Int32) × (Nat → Int64) × (Nat → Int64)) :=
  (gd x1 2560 (gd x2 2560 (gd x1 2560 (some ((1 : Int32), (upd se_restCosts (Int32.toNatClampNeg x1) x4), se_restLines, (vp_updL se_restLeastLines (Int32.toNatClampNeg x1) (se_restLeastLines (Int32.toNatClampNeg x2))))))))
def m_Search_addWay  (se_restCosts : Nat → Int32) (se_restLines : Nat → Int64) (se_restLeastLines : Nat → Int64) (a1 : Int32) (a2 : Int32) (a3 : Int32) : Option (Int32 × (Nat → Int32) × (Nat → Int64) × (Nat → Int64)) :=
  (gd a2 2560 (if (se_restCosts (Int32.toNatClampNeg a2)) = (-1 : Int32) then
    (some ((0 : Int32), se_restCosts, se_restLines, se_restLeastLines))
  else
    (gd a2 2560 (gd a1 2560 (gd a2 2560 (gd a1 2560 (gd a1 2560 (if (se_restCosts (Int32.toNatClampNeg a1)) = (-1 : Int32) then
      m_Search_addWay_58   se_restCosts (vp_updL se_restLines (Int32.toNatClampNeg a1) ((se_restLines (Int32.toNatClampNeg a1)) + (se_restLines (Int32.toNatClampNeg a2)))) se_restLeastLines a1 a2 (a3 + (se_restCosts (Int32.toNatClampNeg a2)))
    else
      (gd a1 2560 (if (se_restCosts (Int32.toNatClampNeg a1)) ≤ (a3 + (se_restCosts (Int32.toNatClampNeg a2))) then
        (gd a1 2560 (if (a3 + (se_restCosts (Int32.toNatClampNeg a2))) = (se_restCosts (Int32.toNatClampNeg a1)) then
          (gd a1 2560 (gd a2 2560 (gd a1 2560 (some ((0 : Int32), se_restCosts, (vp_updL se_restLines (Int32.toNatClampNeg a1) ((se_restLines (Int32.toNatClampNeg a1)) + (se_restLines (Int32.toNatClampNeg a2)))), (vp_updL se_restLeastLines (Int32.toNatClampNeg a1) ((se_restLeastLines (Int32.toNatClampNeg a1)) + (se_restLeastLines (Int32.toNatClampNeg a2)))))))))
        else
          (some ((0 : Int32), se_restCosts, (vp_updL se_restLines (Int32.toNatClampNeg a1) ((se_restLines (Int32.toNatClampNeg a1)) + (se_restLines (Int32.toNatClampNeg a2)))), se_restLeastLines))))
      else
        m_Search_addWay_58   se_restCosts (vp_updL se_restLines (Int32.toNatClampNeg a1) ((se_restLines (Int32.toNatClampNeg a1)) + (se_restLines (Int32.toNatClampNeg a2)))) se_restLeastLines a1 a2 (a3 + (se_restCosts (Int32.toNatClampNeg a2)))))))))))))
def m_Search_weighState_127 (F : Nat) (pr_size : Int32) (pr_total : Int32) (pr_perNote : Int32) (pr_mostAlike : Int32) (pr_notePrices : Nat → Int32) (pr_mustPass : Nat → Int32) (pr_movePrices : Nat → Int32) (pr_mustTurn : Nat → Int32) (pr_badClosings : Nat → Int32) (pr_badTurns : Nat → Int32) (pr_passings : Nat → Int32) (pr_strongPrices : Nat → Int32) (se_top : Int32) (se_closes : Int32) (se_layers : Nat → Int32) (se_places : Nat → Int32) (k47 : (Nat → Int32) → (Nat → Int32) → (Nat → Int64) → (Nat → Int64) → Int32 → Int32 → Int32 → Int32 → Int32 → Option ((Nat → Int32) × (Nat → Int32) × (Nat → Int64) × (Nat → Int64))) (se_nexts : Nat → Int32) (se_restCosts : Nat → Int32) (se_restLines : Nat → Int64) (se_restLeastLines : Nat → Int64) (x1 : Int32) (x2 : Int32) (x3 : Int32) (x4 : Int32) (x5 : Int32) : Option ((Nat → Int32) × (Nat → Int32) × (Nat → Int64) × (Nat → Int64)) :=
  k47 se_nexts se_restCosts se_restLines se_restLeastLines x1 x2 x3 x4 (x5 + 1)
def m_Search_weighState_47b (F : Nat) (pr_size : Int32) (pr_total : Int32) (pr_perNote : Int32) (pr_mostAlike : Int32) (pr_notePrices : Nat → Int32) (pr_mustPass : Nat → Int32) (pr_movePrices : Nat → Int32) (pr_mustTurn : Nat → Int32) (pr_badClosings : Nat → Int32) (pr_badTurns : Nat → Int32) (pr_passings : Nat → Int32) (pr_strongPrices : Nat → Int32) (se_top : Int32) (se_closes : Int32) (se_layers : Nat → Int32) (se_places : Nat → Int32) (k47 : (Nat → Int32) → (Nat → Int32) → (Nat → Int64) → (Nat → Int64) → Int32 → Int32 → Int32 → Int32 → Int32 → Option ((Nat → Int32) × (Nat → Int32) × (Nat → Int64) × (Nat → Int64))) (se_nexts : Nat → Int32) (se_restCosts : Nat → Int32) (se_restLines : Nat → Int64) (se_restLeastLines : Nat → Int64) (x1 : Int32) (x2 : Int32) (x3 : Int32) (x4 : Int32) (x5 : Int32) : Option ((Nat → Int32) × (Nat → Int32) × (Nat → Int64) × (Nat → Int64)) :=
  (if pr_size ≤ x5 then
    (some (se_nexts, se_restCosts, se_restLines, se_restLeastLines))
  else
    (bd (m_Search_priceOf pr_size pr_total pr_perNote pr_mostAlike pr_notePrices pr_mustPass pr_movePrices pr_badClosings pr_badTurns pr_passings pr_strongPrices se_top se_closes (x1 + (1 : Int32)) x3 x5) (fun u2 => (if u2 = (-1 : Int32) then
      m_Search_weighState_127 F pr_size pr_total pr_perNote pr_mostAlike pr_notePrices pr_mustPass pr_movePrices pr_mustTurn pr_badClosings pr_badTurns pr_passings pr_strongPrices se_top se_closes se_layers se_places k47 se_nexts se_restCosts se_restLines se_restLeastLines x1 x2 x3 x4 x5
    else
      (bd (m_Search_stateAfter pr_perNote pr_mostAlike pr_mustPass pr_mustTurn se_top (x1 + (1 : Int32)) x3 x5) (fun u5 => (gd u5 3072 (bd (m_Search_restAt (x1 + (1 : Int32)) (se_places (Int32.toNatClampNeg u5))) (fun u8 => (bd (m_Search_addWay se_restCosts se_restLines se_restLeastLines x4 u8 u2) (fun u10 => (if u10.1 = (0 : Int32) then
        m_Search_weighState_127 F pr_size pr_total pr_perNote pr_mostAlike pr_notePrices pr_mustPass pr_movePrices pr_mustTurn pr_badClosings pr_badTurns pr_passings pr_strongPrices se_top se_closes se_layers se_places k47 se_nexts u10.2.1 u10.2.2.1 u10.2.2.2 x1 x2 x3 x4 x5
      else
        (gd ((x1 * (1280 : Int32)) + x2) 57600 (m_Search_weighState_127 F pr_size pr_total pr_perNote pr_mostAlike pr_notePrices pr_mustPass pr_movePrices pr_mustTurn pr_badClosings pr_badTurns pr_passings pr_strongPrices se_top se_closes se_layers se_places k47 (upd se_nexts (Int32.toNatClampNeg ((x1 * (1280 : Int32)) + x2)) (se_places (Int32.toNatClampNeg u5))) u10.2.1 u10.2.2.1 u10.2.2.2 x1 x2 x3 x4 x5))))))))))))))
def m_Search_weighState_47 (F : Nat) (pr_size : Int32) (pr_total : Int32) (pr_perNote : Int32) (pr_mostAlike : Int32) (pr_notePrices : Nat → Int32) (pr_mustPass : Nat → Int32) (pr_movePrices : Nat → Int32) (pr_mustTurn : Nat → Int32) (pr_badClosings : Nat → Int32) (pr_badTurns : Nat → Int32) (pr_passings : Nat → Int32) (pr_strongPrices : Nat → Int32) (se_top : Int32) (se_closes : Int32) (se_layers : Nat → Int32) (se_places : Nat → Int32)  : Nat → (Nat → Int32) → (Nat → Int32) → (Nat → Int64) → (Nat → Int64) → Int32 → Int32 → Int32 → Int32 → Int32 → Option ((Nat → Int32) × (Nat → Int32) × (Nat → Int64) × (Nat → Int64))
  | 0 => fun _ _ _ _ _ _ _ _ _ => none
  | n + 1 => m_Search_weighState_47b F pr_size pr_total pr_perNote pr_mostAlike pr_notePrices pr_mustPass pr_movePrices pr_mustTurn pr_badClosings pr_badTurns pr_passings pr_strongPrices se_top se_closes se_layers se_places  (m_Search_weighState_47 F pr_size pr_total pr_perNote pr_mostAlike pr_notePrices pr_mustPass pr_movePrices pr_mustTurn pr_badClosings pr_badTurns pr_passings pr_strongPrices se_top se_closes se_layers se_places  n)
def m_Search_weighState (F : Nat) (pr_size : Int32) (pr_total : Int32) (pr_perNote : Int32) (pr_mostAlike : Int32) (pr_notePrices : Nat → Int32) (pr_mustPass : Nat → Int32) (pr_movePrices : Nat → Int32) (pr_mustTurn : Nat → Int32) (pr_badClosings : Nat → Int32) (pr_badTurns : Nat → Int32) (pr_passings : Nat → Int32) (pr_strongPrices : Nat → Int32) (se_top : Int32) (se_closes : Int32) (se_layers : Nat → Int32) (se_places : Nat → Int32) (se_nexts : Nat → Int32) (se_restCosts : Nat → Int32) (se_restLines : Nat → Int64) (se_restLeastLines : Nat → Int64) (a1 : Int32) (a2 : Int32) : Option ((Nat → Int32) × (Nat → Int32) × (Nat → Int64) × (Nat → Int64)) :=
  (gd ((a1 * (1280 : Int32)) + a2) 57600 (bd (m_Search_restAt a1 a2) (fun u2 => (gd u2 2560 (gd u2 2560 (gd u2 2560 (m_Search_weighState_47 F pr_size pr_total pr_perNote pr_mostAlike pr_notePrices pr_mustPass pr_movePrices pr_mustTurn pr_badClosings pr_badTurns pr_passings pr_strongPrices se_top se_closes se_layers se_places  F se_nexts (upd se_restCosts (Int32.toNatClampNeg u2) (-1 : Int32)) (vp_updL se_restLines (Int32.toNatClampNeg u2) (0 : Int64)) (vp_updL se_restLeastLines (Int32.toNatClampNeg u2) (0 : Int64)) a1 a2 (se_layers (Int32.toNatClampNeg ((a1 * (1280 : Int32)) + a2))) u2 (0 : Int32))))))))
def m_Search_weigh_72b (F : Nat) (pr_size : Int32) (pr_total : Int32) (pr_perNote : Int32) (pr_mostAlike : Int32) (pr_notePrices : Nat → Int32) (pr_mustPass : Nat → Int32) (pr_movePrices : Nat → Int32) (pr_mustTurn : Nat → Int32) (pr_badClosings : Nat → Int32) (pr_badTurns : Nat → Int32) (pr_passings : Nat → Int32) (pr_strongPrices : Nat → Int32) (se_top : Int32) (se_closes : Int32) (se_layers : Nat → Int32) (se_layerSizes : Nat → Int32) (k59 : (Nat → Int32) → (Nat → Int32) → (Nat → Int32) → (Nat → Int64) → (Nat → Int64) → Int32 → Option ((Nat → Int32) × (Nat → Int32) × (Nat → Int32) × (Nat → Int64) × (Nat → Int64))) (k72 : (Nat → Int32) → (Nat → Int32) → (Nat → Int32) → (Nat → Int64) → (Nat → Int64) → Int32 → Int32 → Option ((Nat → Int32) × (Nat → Int32) × (Nat → Int32) × (Nat → Int64) × (Nat → Int64))) (se_nexts : Nat → Int32) (se_places : Nat → Int32) (se_restCosts : Nat → Int32) (se_restLines : Nat → Int64) (se_restLeastLines : Nat → Int64) (x2 : Int32) (x3 : Int32) : Option ((Nat → Int32) × (Nat → Int32) × (Nat → Int32) × (Nat → Int64) × (Nat → Int64)) :=
  (gd x2 45 (if (se_layerSizes (Int32.toNatClampNeg x2)) ≤ x3 then
    k59 se_nexts se_places se_restCosts se_restLines se_restLeastLines (x2 + (-1))
  else
    (bd (m_Search_weighState F pr_size pr_total pr_perNote pr_mostAlike pr_notePrices pr_mustPass pr_movePrices pr_mustTurn pr_badClosings pr_badTurns pr_passings pr_strongPrices se_top se_closes se_layers se_places se_nexts se_restCosts se_restLines se_restLeastLines x2 x3) (fun u3 => k72 u3.1 se_places u3.2.1 u3.2.2.1 u3.2.2.2 x2 (x3 + 1)))))
def m_Search_weigh_72 (F : Nat) (pr_size : Int32) (pr_total : Int32) (pr_perNote : Int32) (pr_mostAlike : Int32) (pr_notePrices : Nat → Int32) (pr_mustPass : Nat → Int32) (pr_movePrices : Nat → Int32) (pr_mustTurn : Nat → Int32) (pr_badClosings : Nat → Int32) (pr_badTurns : Nat → Int32) (pr_passings : Nat → Int32) (pr_strongPrices : Nat → Int32) (se_top : Int32) (se_closes : Int32) (se_layers : Nat → Int32) (se_layerSizes : Nat → Int32) (k59 : (Nat → Int32) → (Nat → Int32) → (Nat → Int32) → (Nat → Int64) → (Nat → Int64) → Int32 → Option ((Nat → Int32) × (Nat → Int32) × (Nat → Int32) × (Nat → Int64) × (Nat → Int64))) : Nat → (Nat → Int32) → (Nat → Int32) → (Nat → Int32) → (Nat → Int64) → (Nat → Int64) → Int32 → Int32 → Option ((Nat → Int32) × (Nat → Int32) × (Nat → Int32) × (Nat → Int64) × (Nat → Int64))
  | 0 => fun _ _ _ _ _ _ _ => none
  | n + 1 => m_Search_weigh_72b F pr_size pr_total pr_perNote pr_mostAlike pr_notePrices pr_mustPass pr_movePrices pr_mustTurn pr_badClosings pr_badTurns pr_passings pr_strongPrices se_top se_closes se_layers se_layerSizes k59 (m_Search_weigh_72 F pr_size pr_total pr_perNote pr_mostAlike pr_notePrices pr_mustPass pr_movePrices pr_mustTurn pr_badClosings pr_badTurns pr_passings pr_strongPrices se_top se_closes se_layers se_layerSizes k59 n)
def m_Search_weigh_59b (F : Nat) (pr_size : Int32) (pr_total : Int32) (pr_perNote : Int32) (pr_mostAlike : Int32) (pr_notePrices : Nat → Int32) (pr_mustPass : Nat → Int32) (pr_movePrices : Nat → Int32) (pr_mustTurn : Nat → Int32) (pr_badClosings : Nat → Int32) (pr_badTurns : Nat → Int32) (pr_passings : Nat → Int32) (pr_strongPrices : Nat → Int32) (se_top : Int32) (se_closes : Int32) (se_layers : Nat → Int32) (se_layerSizes : Nat → Int32) (k59 : (Nat → Int32) → (Nat → Int32) → (Nat → Int32) → (Nat → Int64) → (Nat → Int64) → Int32 → Option ((Nat → Int32) × (Nat → Int32) × (Nat → Int32) × (Nat → Int64) × (Nat → Int64))) (se_nexts : Nat → Int32) (se_places : Nat → Int32) (se_restCosts : Nat → Int32) (se_restLines : Nat → Int64) (se_restLeastLines : Nat → Int64) (x2 : Int32) : Option ((Nat → Int32) × (Nat → Int32) × (Nat → Int32) × (Nat → Int64) × (Nat → Int64)) :=
  (if x2 < (0 : Int32) then
    (some (se_nexts, se_places, se_restCosts, se_restLines, se_restLeastLines))
  else
    (bd (m_Search_writePlaces F se_layers se_layerSizes se_places (x2 + (1 : Int32))) (fun u2 => m_Search_weigh_72 F pr_size pr_total pr_perNote pr_mostAlike pr_notePrices pr_mustPass pr_movePrices pr_mustTurn pr_badClosings pr_badTurns pr_passings pr_strongPrices se_top se_closes se_layers se_layerSizes k59 F se_nexts u2 se_restCosts se_restLines se_restLeastLines x2 (0 : Int32))))
def m_Search_weigh_59 (F : Nat) (pr_size : Int32) (pr_total : Int32) (pr_perNote : Int32) (pr_mostAlike : Int32) (pr_notePrices : Nat → Int32) (pr_mustPass : Nat → Int32) (pr_movePrices : Nat → Int32) (pr_mustTurn : Nat → Int32) (pr_badClosings : Nat → Int32) (pr_badTurns : Nat → Int32) (pr_passings : Nat → Int32) (pr_strongPrices : Nat → Int32) (se_top : Int32) (se_closes : Int32) (se_layers : Nat → Int32) (se_layerSizes : Nat → Int32)  : Nat → (Nat → Int32) → (Nat → Int32) → (Nat → Int32) → (Nat → Int64) → (Nat → Int64) → Int32 → Option ((Nat → Int32) × (Nat → Int32) × (Nat → Int32) × (Nat → Int64) × (Nat → Int64))
  | 0 => fun _ _ _ _ _ _ => none
  | n + 1 => m_Search_weigh_59b F pr_size pr_total pr_perNote pr_mostAlike pr_notePrices pr_mustPass pr_movePrices pr_mustTurn pr_badClosings pr_badTurns pr_passings pr_strongPrices se_top se_closes se_layers se_layerSizes  (m_Search_weigh_59 F pr_size pr_total pr_perNote pr_mostAlike pr_notePrices pr_mustPass pr_movePrices pr_mustTurn pr_badClosings pr_badTurns pr_passings pr_strongPrices se_top se_closes se_layers se_layerSizes  n)
def m_Search_weigh_12b (F : Nat) (pr_size : Int32) (pr_total : Int32) (pr_perNote : Int32) (pr_mostAlike : Int32) (pr_notePrices : Nat → Int32) (pr_mustPass : Nat → Int32) (pr_movePrices : Nat → Int32) (pr_mustTurn : Nat → Int32) (pr_badClosings : Nat → Int32) (pr_badTurns : Nat → Int32) (pr_passings : Nat → Int32) (pr_strongPrices : Nat → Int32) (se_top : Int32) (se_closes : Int32) (se_layers : Nat → Int32) (se_layerSizes : Nat → Int32) (k12 : (Nat → Int32) → (Nat → Int32) → (Nat → Int32) → (Nat → Int64) → (Nat → Int64) → Int32 → Int32 → Option ((Nat → Int32) × (Nat → Int32) × (Nat → Int32) × (Nat → Int64) × (Nat → Int64))) (se_nexts : Nat → Int32) (se_places : Nat → Int32) (se_restCosts : Nat → Int32) (se_restLines : Nat → Int64) (se_restLeastLines : Nat → Int64) (x1 : Int32) (x2 : Int32) : Option ((Nat → Int32) × (Nat → Int32) × (Nat → Int32) × (Nat → Int64) × (Nat → Int64)) :=
  (gd x1 45 (if (se_layerSizes (Int32.toNatClampNeg x1)) ≤ x2 then
    m_Search_weigh_59 F pr_size pr_total pr_perNote pr_mostAlike pr_notePrices pr_mustPass pr_movePrices pr_mustTurn pr_badClosings pr_badTurns pr_passings pr_strongPrices se_top se_closes se_layers se_layerSizes  F se_nexts se_places se_restCosts se_restLines se_restLeastLines (x1 - (1 : Int32))
  else
    (bd (m_Search_restAt x1 x2) (fun u3 => (gd u3 2560 (gd u3 2560 (gd u3 2560 (k12 se_nexts se_places (upd se_restCosts (Int32.toNatClampNeg u3) (0 : Int32)) (vp_updL se_restLines (Int32.toNatClampNeg u3) (1 : Int64)) (vp_updL se_restLeastLines (Int32.toNatClampNeg u3) (1 : Int64)) x1 (x2 + 1)))))))))
def m_Search_weigh_12 (F : Nat) (pr_size : Int32) (pr_total : Int32) (pr_perNote : Int32) (pr_mostAlike : Int32) (pr_notePrices : Nat → Int32) (pr_mustPass : Nat → Int32) (pr_movePrices : Nat → Int32) (pr_mustTurn : Nat → Int32) (pr_badClosings : Nat → Int32) (pr_badTurns : Nat → Int32) (pr_passings : Nat → Int32) (pr_strongPrices : Nat → Int32) (se_top : Int32) (se_closes : Int32) (se_layers : Nat → Int32) (se_layerSizes : Nat → Int32)  : Nat → (Nat → Int32) → (Nat → Int32) → (Nat → Int32) → (Nat → Int64) → (Nat → Int64) → Int32 → Int32 → Option ((Nat → Int32) × (Nat → Int32) × (Nat → Int32) × (Nat → Int64) × (Nat → Int64))
  | 0 => fun _ _ _ _ _ _ _ => none
  | n + 1 => m_Search_weigh_12b F pr_size pr_total pr_perNote pr_mostAlike pr_notePrices pr_mustPass pr_movePrices pr_mustTurn pr_badClosings pr_badTurns pr_passings pr_strongPrices se_top se_closes se_layers se_layerSizes  (m_Search_weigh_12 F pr_size pr_total pr_perNote pr_mostAlike pr_notePrices pr_mustPass pr_movePrices pr_mustTurn pr_badClosings pr_badTurns pr_passings pr_strongPrices se_top se_closes se_layers se_layerSizes  n)
def m_Search_weigh (F : Nat) (pr_size : Int32) (pr_total : Int32) (pr_perNote : Int32) (pr_mostAlike : Int32) (pr_notePrices : Nat → Int32) (pr_mustPass : Nat → Int32) (pr_movePrices : Nat → Int32) (pr_mustTurn : Nat → Int32) (pr_badClosings : Nat → Int32) (pr_badTurns : Nat → Int32) (pr_passings : Nat → Int32) (pr_strongPrices : Nat → Int32) (se_top : Int32) (se_closes : Int32) (se_layers : Nat → Int32) (se_layerSizes : Nat → Int32) (se_nexts : Nat → Int32) (se_places : Nat → Int32) (se_restCosts : Nat → Int32) (se_restLines : Nat → Int64) (se_restLeastLines : Nat → Int64)  : Option ((Nat → Int32) × (Nat → Int32) × (Nat → Int32) × (Nat → Int64) × (Nat → Int64)) :=
  m_Search_weigh_12 F pr_size pr_total pr_perNote pr_mostAlike pr_notePrices pr_mustPass pr_movePrices pr_mustTurn pr_badClosings pr_badTurns pr_passings pr_strongPrices se_top se_closes se_layers se_layerSizes  F se_nexts se_places se_restCosts se_restLines se_restLeastLines (pr_total - (1 : Int32)) (0 : Int32)
def m_Search_trace_4b (F : Nat) (pr_total : Int32) (se_layers : Nat → Int32) (se_nexts : Nat → Int32) (k4 : (Nat → Int32) → Int32 → Int32 → Option ((Nat → Int32))) (se_traced : Nat → Int32) (x2 : Int32) (x3 : Int32) : Option ((Nat → Int32)) :=
  (if pr_total ≤ x3 then
    (some se_traced)
  else
    (gd ((x3 * (1280 : Int32)) + x2) 57600 (gd x3 45 (gd ((x3 * (1280 : Int32)) + x2) 57600 (k4 (upd se_traced (Int32.toNatClampNeg x3) ((se_layers (Int32.toNatClampNeg ((x3 * (1280 : Int32)) + x2))) &&& (7 : Int32))) (se_nexts (Int32.toNatClampNeg ((x3 * (1280 : Int32)) + x2))) (x3 + 1))))))
def m_Search_trace_4 (F : Nat) (pr_total : Int32) (se_layers : Nat → Int32) (se_nexts : Nat → Int32)  : Nat → (Nat → Int32) → Int32 → Int32 → Option ((Nat → Int32))
  | 0 => fun _ _ _ => none
  | n + 1 => m_Search_trace_4b F pr_total se_layers se_nexts  (m_Search_trace_4 F pr_total se_layers se_nexts  n)
def m_Search_trace (F : Nat) (pr_total : Int32) (se_layers : Nat → Int32) (se_nexts : Nat → Int32) (se_traced : Nat → Int32) (a1 : Int32) : Option ((Nat → Int32)) :=
  m_Search_trace_4 F pr_total se_layers se_nexts  F se_traced a1 (0 : Int32)
def m_Search_isTracedLower_2b (F : Nat) (pr_total : Int32) (se_lowest : Nat → Int32) (se_traced : Nat → Int32) (k2 : Int32 → Option (Int32))  (x1 : Int32) : Option (Int32) :=
  (if pr_total ≤ x1 then
    (some (0 : Int32))
  else
    (gd x1 45 (gd x1 45 (if (se_traced (Int32.toNatClampNeg x1)) = (se_lowest (Int32.toNatClampNeg x1)) then
      k2 (x1 + 1)
    else
      (gd x1 45 (gd x1 45 (if (se_lowest (Int32.toNatClampNeg x1)) ≤ (se_traced (Int32.toNatClampNeg x1)) then
        (some (0 : Int32))
      else
        (some (1 : Int32)))))))))
def m_Search_isTracedLower_2 (F : Nat) (pr_total : Int32) (se_lowest : Nat → Int32) (se_traced : Nat → Int32)  : Nat → Int32 → Option (Int32)
  | 0 => fun _ => none
  | n + 1 => m_Search_isTracedLower_2b F pr_total se_lowest se_traced  (m_Search_isTracedLower_2 F pr_total se_lowest se_traced  n)
def m_Search_isTracedLower (F : Nat) (pr_total : Int32) (se_lowest : Nat → Int32) (se_traced : Nat → Int32)   : Option (Int32) :=
  m_Search_isTracedLower_2 F pr_total se_lowest se_traced  F (0 : Int32)
def m_Search_keepTraced_2b (F : Nat) (pr_total : Int32) (se_traced : Nat → Int32) (k2 : (Nat → Int32) → Int32 → Option ((Nat → Int32))) (se_lowest : Nat → Int32) (x1 : Int32) : Option ((Nat → Int32)) :=
  (if pr_total ≤ x1 then
    (some se_lowest)
  else
    (gd x1 45 (gd x1 45 (k2 (upd se_lowest (Int32.toNatClampNeg x1) (se_traced (Int32.toNatClampNeg x1))) (x1 + 1)))))
def m_Search_keepTraced_2 (F : Nat) (pr_total : Int32) (se_traced : Nat → Int32)  : Nat → (Nat → Int32) → Int32 → Option ((Nat → Int32))
  | 0 => fun _ _ => none
  | n + 1 => m_Search_keepTraced_2b F pr_total se_traced  (m_Search_keepTraced_2 F pr_total se_traced  n)
def m_Search_keepTraced (F : Nat) (pr_total : Int32) (se_traced : Nat → Int32) (se_lowest : Nat → Int32)  : Option ((Nat → Int32)) :=
  m_Search_keepTraced_2 F pr_total se_traced  F se_lowest (0 : Int32)
def m_Search_gatherLeast_81 (F : Nat) (pr_total : Int32) (se_layers : Nat → Int32) (se_nexts : Nat → Int32)  (se_leastCost : Int32) (se_leastLines : Int64) (se_lowest : Nat → Int32) (se_traced : Nat → Int32)  : Option (Int32 × Int64 × (Nat → Int32) × (Nat → Int32)) :=
  (bd (m_Search_keepTraced F pr_total se_traced se_lowest) (fun u1 => (some (se_leastCost, se_leastLines, u1, se_traced))))
def m_Search_gatherLeast_56 (F : Nat) (pr_total : Int32) (se_layers : Nat → Int32) (se_nexts : Nat → Int32)  (se_leastCost : Int32) (se_leastLines : Int64) (se_lowest : Nat → Int32) (se_traced : Nat → Int32) (x1 : Int32) (x2 : Int32) (x5 : Int32) (t1 : Int64) : Option (Int32 × Int64 × (Nat → Int32) × (Nat → Int32)) :=
  (bd (m_Search_trace F pr_total se_layers se_nexts se_traced x1) (fun u1 => (if x5 = (0 : Int32) then
    (bd (m_Search_isTracedLower F pr_total se_lowest u1) (fun u4 => (if u4 = (0 : Int32) then
      (some (x2, t1, se_lowest, u1))
    else
      m_Search_gatherLeast_81 F pr_total se_layers se_nexts  x2 t1 se_lowest u1)))
  else
    m_Search_gatherLeast_81 F pr_total se_layers se_nexts  x2 t1 se_lowest u1)))
def m_Search_gatherLeast_38 (F : Nat) (pr_total : Int32) (se_layers : Nat → Int32) (se_nexts : Nat → Int32)  (se_leastCost : Int32) (se_leastLines : Int64) (se_lowest : Nat → Int32) (se_traced : Nat → Int32) (x1 : Int32) (x2 : Int32) (x3 : Int64) (t0 : Int32) : Option (Int32 × Int64 × (Nat → Int32) × (Nat → Int32)) :=
  (if t0 = (0 : Int32) then
    m_Search_gatherLeast_56 F pr_total se_layers se_nexts  se_leastCost se_leastLines se_lowest se_traced x1 x2 t0 (se_leastLines + x3)
  else
    m_Search_gatherLeast_56 F pr_total se_layers se_nexts  se_leastCost se_leastLines se_lowest se_traced x1 x2 t0 x3)
def m_Search_gatherLeast_33 (F : Nat) (pr_total : Int32) (se_layers : Nat → Int32) (se_nexts : Nat → Int32)  (se_leastCost : Int32) (se_leastLines : Int64) (se_lowest : Nat → Int32) (se_traced : Nat → Int32) (x1 : Int32) (x2 : Int32) (x3 : Int64) : Option (Int32 × Int64 × (Nat → Int32) × (Nat → Int32)) :=
  m_Search_gatherLeast_38 F pr_total se_layers se_nexts  se_leastCost se_leastLines se_lowest se_traced x1 x2 x3 (1 : Int32)
def m_Search_gatherLeast_17 (F : Nat) (pr_total : Int32) (se_layers : Nat → Int32) (se_nexts : Nat → Int32)  (se_leastCost : Int32) (se_leastLines : Int64) (se_lowest : Nat → Int32) (se_traced : Nat → Int32) (x1 : Int32) (x2 : Int32) (x3 : Int64) : Option (Int32 × Int64 × (Nat → Int32) × (Nat → Int32)) :=
  (if se_leastCost = (-1 : Int32) then
    m_Search_gatherLeast_33 F pr_total se_layers se_nexts  se_leastCost se_leastLines se_lowest se_traced x1 x2 x3
  else
    (if se_leastCost ≤ x2 then
      m_Search_gatherLeast_38 F pr_total se_layers se_nexts  se_leastCost se_leastLines se_lowest se_traced x1 x2 x3 (0 : Int32)
    else
      m_Search_gatherLeast_33 F pr_total se_layers se_nexts  se_leastCost se_leastLines se_lowest se_traced x1 x2 x3))
def m_Search_gatherLeast (F : Nat) (pr_total : Int32) (se_layers : Nat → Int32) (se_nexts : Nat → Int32) (se_leastCost : Int32) (se_leastLines : Int64) (se_lowest : Nat → Int32) (se_traced : Nat → Int32) (a1 : Int32) (a2 : Int32) (a3 : Int64) : Option (Int32 × Int64 × (Nat → Int32) × (Nat → Int32)) :=
  (if se_leastCost = (-1 : Int32) then
    m_Search_gatherLeast_17 F pr_total se_layers se_nexts  se_leastCost se_leastLines se_lowest se_traced a1 a2 a3
  else
    (if a2 ≤ se_leastCost then
      m_Search_gatherLeast_17 F pr_total se_layers se_nexts  se_leastCost se_leastLines se_lowest se_traced a1 a2 a3
    else
      (some (se_leastCost, se_leastLines, se_lowest, se_traced))))
def m_Search_gather_78 (F : Nat) (pr_total : Int32) (pr_notePrices : Nat → Int32) (se_layers : Nat → Int32) (se_layerSizes : Nat → Int32) (se_nexts : Nat → Int32) (se_restCosts : Nat → Int32) (se_restLines : Nat → Int64) (se_restLeastLines : Nat → Int64) (k2 : Int32 → Int64 → Int64 → (Nat → Int32) → (Nat → Int32) → Int32 → Option (Int32 × Int64 × Int64 × (Nat → Int32) × (Nat → Int32))) (se_leastCost : Int32) (se_allLines : Int64) (se_leastLines : Int64) (se_lowest : Nat → Int32) (se_traced : Nat → Int32) (x1 : Int32) : Option (Int32 × Int64 × Int64 × (Nat → Int32) × (Nat → Int32)) :=
  k2 se_leastCost se_allLines se_leastLines se_lowest se_traced (x1 + 1)
def m_Search_gather_2b (F : Nat) (pr_total : Int32) (pr_notePrices : Nat → Int32) (se_layers : Nat → Int32) (se_layerSizes : Nat → Int32) (se_nexts : Nat → Int32) (se_restCosts : Nat → Int32) (se_restLines : Nat → Int64) (se_restLeastLines : Nat → Int64) (k2 : Int32 → Int64 → Int64 → (Nat → Int32) → (Nat → Int32) → Int32 → Option (Int32 × Int64 × Int64 × (Nat → Int32) × (Nat → Int32))) (se_leastCost : Int32) (se_allLines : Int64) (se_leastLines : Int64) (se_lowest : Nat → Int32) (se_traced : Nat → Int32) (x1 : Int32) : Option (Int32 × Int64 × Int64 × (Nat → Int32) × (Nat → Int32)) :=
  (if (se_layerSizes (Int32.toNatClampNeg (0 : Int32))) ≤ x1 then
    (some (se_leastCost, se_allLines, se_leastLines, se_lowest, se_traced))
  else
    (bd (m_Search_restAt (0 : Int32) x1) (fun u2 => (gd u2 2560 (if (se_restCosts (Int32.toNatClampNeg u2)) = (-1 : Int32) then
      m_Search_gather_78 F pr_total pr_notePrices se_layers se_layerSizes se_nexts se_restCosts se_restLines se_restLeastLines k2 se_leastCost se_allLines se_leastLines se_lowest se_traced x1
    else
      (gd u2 2560 (gd x1 57600 (gd ((se_layers (Int32.toNatClampNeg x1)) &&& (7 : Int32)) 360 (gd u2 2560 (gd u2 2560 (bd (m_Search_gatherLeast F pr_total se_layers se_nexts se_leastCost se_leastLines se_lowest se_traced x1 ((pr_notePrices (Int32.toNatClampNeg ((se_layers (Int32.toNatClampNeg x1)) &&& (7 : Int32)))) + (se_restCosts (Int32.toNatClampNeg u2))) (se_restLeastLines (Int32.toNatClampNeg u2))) (fun u11 => m_Search_gather_78 F pr_total pr_notePrices se_layers se_layerSizes se_nexts se_restCosts se_restLines se_restLeastLines k2 u11.1 (se_allLines + (se_restLines (Int32.toNatClampNeg u2))) u11.2.1 u11.2.2.1 u11.2.2.2 x1))))))))))))
def m_Search_gather_2 (F : Nat) (pr_total : Int32) (pr_notePrices : Nat → Int32) (se_layers : Nat → Int32) (se_layerSizes : Nat → Int32) (se_nexts : Nat → Int32) (se_restCosts : Nat → Int32) (se_restLines : Nat → Int64) (se_restLeastLines : Nat → Int64)  : Nat → Int32 → Int64 → Int64 → (Nat → Int32) → (Nat → Int32) → Int32 → Option (Int32 × Int64 × Int64 × (Nat → Int32) × (Nat → Int32))
  | 0 => fun _ _ _ _ _ _ => none
  | n + 1 => m_Search_gather_2b F pr_total pr_notePrices se_layers se_layerSizes se_nexts se_restCosts se_restLines se_restLeastLines  (m_Search_gather_2 F pr_total pr_notePrices se_layers se_layerSizes se_nexts se_restCosts se_restLines se_restLeastLines  n)
def m_Search_gather (F : Nat) (pr_total : Int32) (pr_notePrices : Nat → Int32) (se_layers : Nat → Int32) (se_layerSizes : Nat → Int32) (se_nexts : Nat → Int32) (se_restCosts : Nat → Int32) (se_restLines : Nat → Int64) (se_restLeastLines : Nat → Int64) (se_leastCost : Int32) (se_allLines : Int64) (se_leastLines : Int64) (se_lowest : Nat → Int32) (se_traced : Nat → Int32)  : Option (Int32 × Int64 × Int64 × (Nat → Int32) × (Nat → Int32)) :=
  m_Search_gather_2 F pr_total pr_notePrices se_layers se_layerSizes se_nexts se_restCosts se_restLines se_restLeastLines  F se_leastCost se_allLines se_leastLines se_lowest se_traced (0 : Int32)
def m_Search_run_112 (F : Nat) (su_on : Nat → Int32) (pr_size : Int32) (pr_total : Int32) (pr_perNote : Int32) (pr_mostAlike : Int32) (pr_notePrices : Nat → Int32) (pr_mustPass : Nat → Int32) (pr_movePrices : Nat → Int32) (pr_mustTurn : Nat → Int32) (pr_badClosings : Nat → Int32) (pr_badTurns : Nat → Int32) (pr_passings : Nat → Int32) (pr_strongPrices : Nat → Int32) (k80 : Int32 → Int32 → Int32 → Int32 → Int64 → Int64 → (Nat → Int32) → (Nat → Int32) → (Nat → Int32) → (Nat → Int32) → (Nat → Int32) → (Nat → Int32) → (Nat → Int64) → (Nat → Int64) → (Nat → Int32) → (Nat → Int32) → Int32 → Int32 → Option (Int32 × Int32 × Int32 × Int32 × Int64 × Int64 × (Nat → Int32) × (Nat → Int32) × (Nat → Int32) × (Nat → Int32) × (Nat → Int32) × (Nat → Int32) × (Nat → Int64) × (Nat → Int64) × (Nat → Int32) × (Nat → Int32))) (se_mark : Int32) (se_top : Int32) (se_closes : Int32) (se_leastCost : Int32) (se_allLines : Int64) (se_leastLines : Int64) (se_layers : Nat → Int32) (se_layerSizes : Nat → Int32) (se_nexts : Nat → Int32) (se_places : Nat → Int32) (se_marks : Nat → Int32) (se_restCosts : Nat → Int32) (se_restLines : Nat → Int64) (se_restLeastLines : Nat → Int64) (se_lowest : Nat → Int32) (se_traced : Nat → Int32) (x2 : Int32) (x3 : Int32) : Option (Int32 × Int32 × Int32 × Int32 × Int64 × Int64 × (Nat → Int32) × (Nat → Int32) × (Nat → Int32) × (Nat → Int32) × (Nat → Int32) × (Nat → Int32) × (Nat → Int64) × (Nat → Int64) × (Nat → Int32) × (Nat → Int32)) :=
  k80 se_mark se_top se_closes se_leastCost se_allLines se_leastLines se_layers se_layerSizes se_nexts se_places se_marks se_restCosts se_restLines se_restLeastLines se_lowest se_traced x2 (x3 + 1)
def m_Search_run_80b (F : Nat) (su_on : Nat → Int32) (pr_size : Int32) (pr_total : Int32) (pr_perNote : Int32) (pr_mostAlike : Int32) (pr_notePrices : Nat → Int32) (pr_mustPass : Nat → Int32) (pr_movePrices : Nat → Int32) (pr_mustTurn : Nat → Int32) (pr_badClosings : Nat → Int32) (pr_badTurns : Nat → Int32) (pr_passings : Nat → Int32) (pr_strongPrices : Nat → Int32) (k80 : Int32 → Int32 → Int32 → Int32 → Int64 → Int64 → (Nat → Int32) → (Nat → Int32) → (Nat → Int32) → (Nat → Int32) → (Nat → Int32) → (Nat → Int32) → (Nat → Int64) → (Nat → Int64) → (Nat → Int32) → (Nat → Int32) → Int32 → Int32 → Option (Int32 × Int32 × Int32 × Int32 × Int64 × Int64 × (Nat → Int32) × (Nat → Int32) × (Nat → Int32) × (Nat → Int32) × (Nat → Int32) × (Nat → Int32) × (Nat → Int64) × (Nat → Int64) × (Nat → Int32) × (Nat → Int32))) (se_mark : Int32) (se_top : Int32) (se_closes : Int32) (se_leastCost : Int32) (se_allLines : Int64) (se_leastLines : Int64) (se_layers : Nat → Int32) (se_layerSizes : Nat → Int32) (se_nexts : Nat → Int32) (se_places : Nat → Int32) (se_marks : Nat → Int32) (se_restCosts : Nat → Int32) (se_restLines : Nat → Int64) (se_restLeastLines : Nat → Int64) (se_lowest : Nat → Int32) (se_traced : Nat → Int32) (x2 : Int32) (x3 : Int32) : Option (Int32 × Int32 × Int32 × Int32 × Int64 × Int64 × (Nat → Int32) × (Nat → Int32) × (Nat → Int32) × (Nat → Int32) × (Nat → Int32) × (Nat → Int32) × (Nat → Int64) × (Nat → Int64) × (Nat → Int32) × (Nat → Int32)) :=
  (if x2 < x3 then
    (some (se_mark, se_top, se_closes, se_leastCost, se_allLines, se_leastLines, se_layers, se_layerSizes, se_nexts, se_places, se_marks, se_restCosts, se_restLines, se_restLeastLines, se_lowest, se_traced))
  else
    (bd (m_Search_spread F pr_size pr_total pr_perNote pr_mostAlike pr_notePrices pr_mustPass pr_movePrices pr_mustTurn pr_badClosings pr_badTurns pr_passings pr_strongPrices x3 se_closes se_mark se_layers se_layerSizes se_marks) (fun u2 => (if u2.1 = pr_total then
      (bd (m_Search_weigh F pr_size pr_total pr_perNote pr_mostAlike pr_notePrices pr_mustPass pr_movePrices pr_mustTurn pr_badClosings pr_badTurns pr_passings pr_strongPrices x3 se_closes u2.2.2.1 u2.2.2.2.1 se_nexts se_places se_restCosts se_restLines se_restLeastLines) (fun u5 => (bd (m_Search_gather F pr_total pr_notePrices u2.2.2.1 u2.2.2.2.1 u5.1 u5.2.2.1 u5.2.2.2.1 u5.2.2.2.2 se_leastCost se_allLines se_leastLines se_lowest se_traced) (fun u7 => m_Search_run_112 F su_on pr_size pr_total pr_perNote pr_mostAlike pr_notePrices pr_mustPass pr_movePrices pr_mustTurn pr_badClosings pr_badTurns pr_passings pr_strongPrices k80 u2.2.1 x3 se_closes u7.1 u7.2.1 u7.2.2.1 u2.2.2.1 u2.2.2.2.1 u5.1 u5.2.1 u2.2.2.2.2 u5.2.2.1 u5.2.2.2.1 u5.2.2.2.2 u7.2.2.2.1 u7.2.2.2.2 x2 x3))))
    else
      m_Search_run_112 F su_on pr_size pr_total pr_perNote pr_mostAlike pr_notePrices pr_mustPass pr_movePrices pr_mustTurn pr_badClosings pr_badTurns pr_passings pr_strongPrices k80 u2.2.1 x3 se_closes se_leastCost se_allLines se_leastLines u2.2.2.1 u2.2.2.2.1 se_nexts se_places u2.2.2.2.2 se_restCosts se_restLines se_restLeastLines se_lowest se_traced x2 x3))))
def m_Search_run_80 (F : Nat) (su_on : Nat → Int32) (pr_size : Int32) (pr_total : Int32) (pr_perNote : Int32) (pr_mostAlike : Int32) (pr_notePrices : Nat → Int32) (pr_mustPass : Nat → Int32) (pr_movePrices : Nat → Int32) (pr_mustTurn : Nat → Int32) (pr_badClosings : Nat → Int32) (pr_badTurns : Nat → Int32) (pr_passings : Nat → Int32) (pr_strongPrices : Nat → Int32)  : Nat → Int32 → Int32 → Int32 → Int32 → Int64 → Int64 → (Nat → Int32) → (Nat → Int32) → (Nat → Int32) → (Nat → Int32) → (Nat → Int32) → (Nat → Int32) → (Nat → Int64) → (Nat → Int64) → (Nat → Int32) → (Nat → Int32) → Int32 → Int32 → Option (Int32 × Int32 × Int32 × Int32 × Int64 × Int64 × (Nat → Int32) × (Nat → Int32) × (Nat → Int32) × (Nat → Int32) × (Nat → Int32) × (Nat → Int32) × (Nat → Int64) × (Nat → Int64) × (Nat → Int32) × (Nat → Int32))
  | 0 => fun _ _ _ _ _ _ _ _ _ _ _ _ _ _ _ _ _ _ => none
  | n + 1 => m_Search_run_80b F su_on pr_size pr_total pr_perNote pr_mostAlike pr_notePrices pr_mustPass pr_movePrices pr_mustTurn pr_badClosings pr_badTurns pr_passings pr_strongPrices  (m_Search_run_80 F su_on pr_size pr_total pr_perNote pr_mostAlike pr_notePrices pr_mustPass pr_movePrices pr_mustTurn pr_badClosings pr_badTurns pr_passings pr_strongPrices  n)
def m_Search_run_77 (F : Nat) (su_on : Nat → Int32) (pr_size : Int32) (pr_total : Int32) (pr_perNote : Int32) (pr_mostAlike : Int32) (pr_notePrices : Nat → Int32) (pr_mustPass : Nat → Int32) (pr_movePrices : Nat → Int32) (pr_mustTurn : Nat → Int32) (pr_badClosings : Nat → Int32) (pr_badTurns : Nat → Int32) (pr_passings : Nat → Int32) (pr_strongPrices : Nat → Int32)  (se_mark : Int32) (se_top : Int32) (se_closes : Int32) (se_leastCost : Int32) (se_allLines : Int64) (se_leastLines : Int64) (se_layers : Nat → Int32) (se_layerSizes : Nat → Int32) (se_nexts : Nat → Int32) (se_places : Nat → Int32) (se_marks : Nat → Int32) (se_restCosts : Nat → Int32) (se_restLines : Nat → Int64) (se_restLeastLines : Nat → Int64) (se_lowest : Nat → Int32) (se_traced : Nat → Int32) (x1 : Int32) (t0 : Int32) : Option (Int32 × Int32 × Int32 × Int32 × Int64 × Int64 × (Nat → Int32) × (Nat → Int32) × (Nat → Int32) × (Nat → Int32) × (Nat → Int32) × (Nat → Int32) × (Nat → Int64) × (Nat → Int64) × (Nat → Int32) × (Nat → Int32)) :=
  m_Search_run_80 F su_on pr_size pr_total pr_perNote pr_mostAlike pr_notePrices pr_mustPass pr_movePrices pr_mustTurn pr_badClosings pr_badTurns pr_passings pr_strongPrices  F se_mark se_top se_closes se_leastCost se_allLines se_leastLines se_layers se_layerSizes se_nexts se_places se_marks se_restCosts se_restLines se_restLeastLines se_lowest se_traced t0 x1
def m_Search_run_44 (F : Nat) (su_on : Nat → Int32) (pr_size : Int32) (pr_total : Int32) (pr_perNote : Int32) (pr_mostAlike : Int32) (pr_notePrices : Nat → Int32) (pr_mustPass : Nat → Int32) (pr_movePrices : Nat → Int32) (pr_mustTurn : Nat → Int32) (pr_badClosings : Nat → Int32) (pr_badTurns : Nat → Int32) (pr_passings : Nat → Int32) (pr_strongPrices : Nat → Int32)  (se_mark : Int32) (se_top : Int32) (se_closes : Int32) (se_leastCost : Int32) (se_allLines : Int64) (se_leastLines : Int64) (se_layers : Nat → Int32) (se_layerSizes : Nat → Int32) (se_nexts : Nat → Int32) (se_places : Nat → Int32) (se_marks : Nat → Int32) (se_restCosts : Nat → Int32) (se_restLines : Nat → Int64) (se_restLeastLines : Nat → Int64) (se_lowest : Nat → Int32) (se_traced : Nat → Int32) (t0 : Int32) : Option (Int32 × Int32 × Int32 × Int32 × Int64 × Int64 × (Nat → Int32) × (Nat → Int32) × (Nat → Int32) × (Nat → Int32) × (Nat → Int32) × (Nat → Int32) × (Nat → Int64) × (Nat → Int64) × (Nat → Int32) × (Nat → Int32)) :=
  (if (su_on (Int32.toNatClampNeg (10 : Int32))) = (0 : Int32) then
    m_Search_run_77 F su_on pr_size pr_total pr_perNote pr_mostAlike pr_notePrices pr_mustPass pr_movePrices pr_mustTurn pr_badClosings pr_badTurns pr_passings pr_strongPrices  se_mark se_top se_closes se_leastCost se_allLines se_leastLines se_layers se_layerSizes se_nexts se_places se_marks se_restCosts se_restLines se_restLeastLines se_lowest se_traced t0 pr_size
  else
    m_Search_run_77 F su_on pr_size pr_total pr_perNote pr_mostAlike pr_notePrices pr_mustPass pr_movePrices pr_mustTurn pr_badClosings pr_badTurns pr_passings pr_strongPrices  se_mark se_top se_closes se_leastCost se_allLines se_leastLines se_layers se_layerSizes se_nexts se_places se_marks se_restCosts se_restLines se_restLeastLines se_lowest se_traced t0 (pr_size - (1 : Int32)))
def m_Search_run (F : Nat) (su_on : Nat → Int32) (pr_size : Int32) (pr_total : Int32) (pr_perNote : Int32) (pr_mostAlike : Int32) (pr_notePrices : Nat → Int32) (pr_mustPass : Nat → Int32) (pr_movePrices : Nat → Int32) (pr_mustTurn : Nat → Int32) (pr_badClosings : Nat → Int32) (pr_badTurns : Nat → Int32) (pr_passings : Nat → Int32) (pr_strongPrices : Nat → Int32) (se_mark : Int32) (se_top : Int32) (se_closes : Int32) (se_leastCost : Int32) (se_allLines : Int64) (se_leastLines : Int64) (se_layers : Nat → Int32) (se_layerSizes : Nat → Int32) (se_nexts : Nat → Int32) (se_places : Nat → Int32) (se_marks : Nat → Int32) (se_restCosts : Nat → Int32) (se_restLines : Nat → Int64) (se_restLeastLines : Nat → Int64) (se_lowest : Nat → Int32) (se_traced : Nat → Int32)  : Option (Int32 × Int32 × Int32 × Int32 × Int64 × Int64 × (Nat → Int32) × (Nat → Int32) × (Nat → Int32) × (Nat → Int32) × (Nat → Int32) × (Nat → Int32) × (Nat → Int64) × (Nat → Int64) × (Nat → Int32) × (Nat → Int32)) :=
  (if (su_on (Int32.toNatClampNeg (10 : Int32))) = (0 : Int32) then
    m_Search_run_44 F su_on pr_size pr_total pr_perNote pr_mostAlike pr_notePrices pr_mustPass pr_movePrices pr_mustTurn pr_badClosings pr_badTurns pr_passings pr_strongPrices  se_mark se_top (1 : Int32) (-1 : Int32) (0 : Int64) (0 : Int64) se_layers se_layerSizes se_nexts se_places se_marks se_restCosts se_restLines se_restLeastLines se_lowest se_traced pr_size
  else
    m_Search_run_44 F su_on pr_size pr_total pr_perNote pr_mostAlike pr_notePrices pr_mustPass pr_movePrices pr_mustTurn pr_badClosings pr_badTurns pr_passings pr_strongPrices  se_mark se_top (1 : Int32) (-1 : Int32) (0 : Int64) (0 : Int64) se_layers se_layerSizes se_nexts se_places se_marks se_restCosts se_restLines se_restLeastLines se_lowest se_traced (0 : Int32))
def m_SpeciesSolver_searchOnce (F : Nat) (su_lines : Int32) (su_length : Int32) (su_perNote : Int32) (su_above : Int32) (su_numbers : Nat → Int32) (su_on : Nat → Int32) (su_given : Nat → Nat → Int32) (mn_searched : Int32) (pr_size : Int32) (pr_total : Int32) (pr_perNote : Int32) (pr_mostAlike : Int32) (pr_pitches : Nat → Int32) (pr_notePrices : Nat → Int32) (pr_mustPass : Nat → Int32) (pr_movePrices : Nat → Int32) (pr_mustTurn : Nat → Int32) (pr_badClosings : Nat → Int32) (pr_badTurns : Nat → Int32) (pr_passings : Nat → Int32) (pr_strongPrices : Nat → Int32) (se_mark : Int32) (se_top : Int32) (se_closes : Int32) (se_leastCost : Int32) (se_allLines : Int64) (se_leastLines : Int64) (se_layers : Nat → Int32) (se_layerSizes : Nat → Int32) (se_nexts : Nat → Int32) (se_places : Nat → Int32) (se_marks : Nat → Int32) (se_restCosts : Nat → Int32) (se_restLines : Nat → Int64) (se_restLeastLines : Nat → Int64) (se_lowest : Nat → Int32) (se_traced : Nat → Int32)  : Option (Int32 × Int32 × Int32 × Int32 × Int32 × (Nat → Int32) × (Nat → Int32) × (Nat → Int32) × (Nat → Int32) × (Nat → Int32) × (Nat → Int32) × (Nat → Int32) × (Nat → Int32) × (Nat → Int32) × Int32 × Int32 × Int32 × Int32 × Int64 × Int64 × (Nat → Int32) × (Nat → Int32) × (Nat → Int32) × (Nat → Int32) × (Nat → Int32) × (Nat → Int32) × (Nat → Int64) × (Nat → Int64) × (Nat → Int32) × (Nat → Int32)) :=
  (if mn_searched = (0 : Int32) then
    (bd (m_Prices_fill F su_lines su_length su_perNote su_above su_numbers su_on su_given pr_size pr_total pr_perNote pr_mostAlike pr_pitches pr_notePrices pr_mustPass pr_movePrices pr_mustTurn pr_badClosings pr_badTurns pr_passings pr_strongPrices) (fun u2 => (bd (m_Search_run F su_on u2.1 u2.2.1 u2.2.2.1 u2.2.2.2.1 u2.2.2.2.2.2.1 u2.2.2.2.2.2.2.1 u2.2.2.2.2.2.2.2.1 u2.2.2.2.2.2.2.2.2.1 u2.2.2.2.2.2.2.2.2.2.1 u2.2.2.2.2.2.2.2.2.2.2.1 u2.2.2.2.2.2.2.2.2.2.2.2.1 u2.2.2.2.2.2.2.2.2.2.2.2.2 se_mark se_top se_closes se_leastCost se_allLines se_leastLines se_layers se_layerSizes se_nexts se_places se_marks se_restCosts se_restLines se_restLeastLines se_lowest se_traced) (fun u4 => (some ((1 : Int32), u2.1, u2.2.1, u2.2.2.1, u2.2.2.2.1, u2.2.2.2.2.1, u2.2.2.2.2.2.1, u2.2.2.2.2.2.2.1, u2.2.2.2.2.2.2.2.1, u2.2.2.2.2.2.2.2.2.1, u2.2.2.2.2.2.2.2.2.2.1, u2.2.2.2.2.2.2.2.2.2.2.1, u2.2.2.2.2.2.2.2.2.2.2.2.1, u2.2.2.2.2.2.2.2.2.2.2.2.2, u4.1, u4.2.1, u4.2.2.1, u4.2.2.2.1, u4.2.2.2.2.1, u4.2.2.2.2.2.1, u4.2.2.2.2.2.2.1, u4.2.2.2.2.2.2.2.1, u4.2.2.2.2.2.2.2.2.1, u4.2.2.2.2.2.2.2.2.2.1, u4.2.2.2.2.2.2.2.2.2.2.1, u4.2.2.2.2.2.2.2.2.2.2.2.1, u4.2.2.2.2.2.2.2.2.2.2.2.2.1, u4.2.2.2.2.2.2.2.2.2.2.2.2.2.1, u4.2.2.2.2.2.2.2.2.2.2.2.2.2.2.1, u4.2.2.2.2.2.2.2.2.2.2.2.2.2.2.2))))))
  else
    (some (mn_searched, pr_size, pr_total, pr_perNote, pr_mostAlike, pr_pitches, pr_notePrices, pr_mustPass, pr_movePrices, pr_mustTurn, pr_badClosings, pr_badTurns, pr_passings, pr_strongPrices, se_mark, se_top, se_closes, se_leastCost, se_allLines, se_leastLines, se_layers, se_layerSizes, se_nexts, se_places, se_marks, se_restCosts, se_restLines, se_restLeastLines, se_lowest, se_traced)))
def m_Search_writeLine_7b (F : Nat) (pr_total : Int32) (pr_pitches : Nat → Int32) (se_lowest : Nat → Int32) (k7 : Int32 → (Nat → Int32) → Int32 → Option (Int32 × (Nat → Int32))) (X_size : Int32) (X_notes : Nat → Int32) (x2 : Int32) : Option (Int32 × (Nat → Int32)) :=
  (if pr_total ≤ x2 then
    (some (X_size, X_notes))
  else
    (gd x2 45 (gd (se_lowest (Int32.toNatClampNeg x2)) 8 (bd (m_Line_append X_size X_notes (pr_pitches (Int32.toNatClampNeg (se_lowest (Int32.toNatClampNeg x2))))) (fun u4 => k7 u4.1 u4.2 (x2 + 1))))))
def m_Search_writeLine_7 (F : Nat) (pr_total : Int32) (pr_pitches : Nat → Int32) (se_lowest : Nat → Int32)  : Nat → Int32 → (Nat → Int32) → Int32 → Option (Int32 × (Nat → Int32))
  | 0 => fun _ _ _ => none
  | n + 1 => m_Search_writeLine_7b F pr_total pr_pitches se_lowest  (m_Search_writeLine_7 F pr_total pr_pitches se_lowest  n)
def m_Search_writeLine (F : Nat) (pr_total : Int32) (pr_pitches : Nat → Int32) (se_lowest : Nat → Int32) (X_size : Int32) (X_notes : Nat → Int32)  : Option (Int32 × (Nat → Int32)) :=
  m_Search_writeLine_7 F pr_total pr_pitches se_lowest  F (0 : Int32) X_notes (0 : Int32)
def m_SpeciesSolver_solve (F : Nat) (su_lines : Int32) (su_length : Int32) (su_perNote : Int32) (su_above : Int32) (su_numbers : Nat → Int32) (su_on : Nat → Int32) (su_given : Nat → Nat → Int32) (mn_bestCost : Int32) (mn_bestPerNote : Int32) (mn_bestLength : Int32) (mn_searched : Int32) (pr_size : Int32) (pr_total : Int32) (pr_perNote : Int32) (pr_mostAlike : Int32) (pr_pitches : Nat → Int32) (pr_notePrices : Nat → Int32) (pr_mustPass : Nat → Int32) (pr_movePrices : Nat → Int32) (pr_mustTurn : Nat → Int32) (pr_badClosings : Nat → Int32) (pr_badTurns : Nat → Int32) (pr_passings : Nat → Int32) (pr_strongPrices : Nat → Int32) (se_mark : Int32) (se_top : Int32) (se_closes : Int32) (se_leastCost : Int32) (se_allLines : Int64) (se_leastLines : Int64) (se_layers : Nat → Int32) (se_layerSizes : Nat → Int32) (se_nexts : Nat → Int32) (se_places : Nat → Int32) (se_marks : Nat → Int32) (se_restCosts : Nat → Int32) (se_restLines : Nat → Int64) (se_restLeastLines : Nat → Int64) (se_lowest : Nat → Int32) (se_traced : Nat → Int32) (be_size : Int32) (be_notes : Nat → Int32)  : Option (Int32 × Int32 × Int32 × Int32 × Int32 × Int32 × Int32 × Int32 × Int32 × (Nat → Int32) × (Nat → Int32) × (Nat → Int32) × (Nat → Int32) × (Nat → Int32) × (Nat → Int32) × (Nat → Int32) × (Nat → Int32) × (Nat → Int32) × Int32 × Int32 × Int32 × Int32 × Int64 × Int64 × (Nat → Int32) × (Nat → Int32) × (Nat → Int32) × (Nat → Int32) × (Nat → Int32) × (Nat → Int32) × (Nat → Int64) × (Nat → Int64) × (Nat → Int32) × (Nat → Int32) × Int32 × (Nat → Int32)) :=
  (bd (m_SpeciesSolver_cannotSearch F su_lines su_numbers) (fun u1 => (if u1 = (0 : Int32) then
    (bd (m_SpeciesSolver_searchOnce F su_lines su_length su_perNote su_above su_numbers su_on su_given mn_searched pr_size pr_total pr_perNote pr_mostAlike pr_pitches pr_notePrices pr_mustPass pr_movePrices pr_mustTurn pr_badClosings pr_badTurns pr_passings pr_strongPrices se_mark se_top se_closes se_leastCost se_allLines se_leastLines se_layers se_layerSizes se_nexts se_places se_marks se_restCosts se_restLines se_restLeastLines se_lowest se_traced) (fun u4 => (if u4.2.2.2.2.2.2.2.2.2.2.2.2.2.2.2.2.2.1 = (-1 : Int32) then
      (some ((0 : Int32), (-1 : Int32), mn_bestPerNote, mn_bestLength, u4.1, u4.2.1, u4.2.2.1, u4.2.2.2.1, u4.2.2.2.2.1, u4.2.2.2.2.2.1, u4.2.2.2.2.2.2.1, u4.2.2.2.2.2.2.2.1, u4.2.2.2.2.2.2.2.2.1, u4.2.2.2.2.2.2.2.2.2.1, u4.2.2.2.2.2.2.2.2.2.2.1, u4.2.2.2.2.2.2.2.2.2.2.2.1, u4.2.2.2.2.2.2.2.2.2.2.2.2.1, u4.2.2.2.2.2.2.2.2.2.2.2.2.2.1, u4.2.2.2.2.2.2.2.2.2.2.2.2.2.2.1, u4.2.2.2.2.2.2.2.2.2.2.2.2.2.2.2.1, u4.2.2.2.2.2.2.2.2.2.2.2.2.2.2.2.2.1, u4.2.2.2.2.2.2.2.2.2.2.2.2.2.2.2.2.2.1, u4.2.2.2.2.2.2.2.2.2.2.2.2.2.2.2.2.2.2.1, u4.2.2.2.2.2.2.2.2.2.2.2.2.2.2.2.2.2.2.2.1, u4.2.2.2.2.2.2.2.2.2.2.2.2.2.2.2.2.2.2.2.2.1, u4.2.2.2.2.2.2.2.2.2.2.2.2.2.2.2.2.2.2.2.2.2.1, u4.2.2.2.2.2.2.2.2.2.2.2.2.2.2.2.2.2.2.2.2.2.2.1, u4.2.2.2.2.2.2.2.2.2.2.2.2.2.2.2.2.2.2.2.2.2.2.2.1, u4.2.2.2.2.2.2.2.2.2.2.2.2.2.2.2.2.2.2.2.2.2.2.2.2.1, u4.2.2.2.2.2.2.2.2.2.2.2.2.2.2.2.2.2.2.2.2.2.2.2.2.2.1, u4.2.2.2.2.2.2.2.2.2.2.2.2.2.2.2.2.2.2.2.2.2.2.2.2.2.2.1, u4.2.2.2.2.2.2.2.2.2.2.2.2.2.2.2.2.2.2.2.2.2.2.2.2.2.2.2.1, u4.2.2.2.2.2.2.2.2.2.2.2.2.2.2.2.2.2.2.2.2.2.2.2.2.2.2.2.2.1, u4.2.2.2.2.2.2.2.2.2.2.2.2.2.2.2.2.2.2.2.2.2.2.2.2.2.2.2.2.2, (0 : Int32), be_notes))
    else
      (bd (m_Search_writeLine F u4.2.2.1 u4.2.2.2.2.2.1 u4.2.2.2.2.2.2.2.2.2.2.2.2.2.2.2.2.2.2.2.2.2.2.2.2.2.2.2.2.1 be_size be_notes) (fun u7 => (some ((1 : Int32), u4.2.2.2.2.2.2.2.2.2.2.2.2.2.2.2.2.2.1, su_perNote, su_length, u4.1, u4.2.1, u4.2.2.1, u4.2.2.2.1, u4.2.2.2.2.1, u4.2.2.2.2.2.1, u4.2.2.2.2.2.2.1, u4.2.2.2.2.2.2.2.1, u4.2.2.2.2.2.2.2.2.1, u4.2.2.2.2.2.2.2.2.2.1, u4.2.2.2.2.2.2.2.2.2.2.1, u4.2.2.2.2.2.2.2.2.2.2.2.1, u4.2.2.2.2.2.2.2.2.2.2.2.2.1, u4.2.2.2.2.2.2.2.2.2.2.2.2.2.1, u4.2.2.2.2.2.2.2.2.2.2.2.2.2.2.1, u4.2.2.2.2.2.2.2.2.2.2.2.2.2.2.2.1, u4.2.2.2.2.2.2.2.2.2.2.2.2.2.2.2.2.1, u4.2.2.2.2.2.2.2.2.2.2.2.2.2.2.2.2.2.1, u4.2.2.2.2.2.2.2.2.2.2.2.2.2.2.2.2.2.2.1, u4.2.2.2.2.2.2.2.2.2.2.2.2.2.2.2.2.2.2.2.1, u4.2.2.2.2.2.2.2.2.2.2.2.2.2.2.2.2.2.2.2.2.1, u4.2.2.2.2.2.2.2.2.2.2.2.2.2.2.2.2.2.2.2.2.2.1, u4.2.2.2.2.2.2.2.2.2.2.2.2.2.2.2.2.2.2.2.2.2.2.1, u4.2.2.2.2.2.2.2.2.2.2.2.2.2.2.2.2.2.2.2.2.2.2.2.1, u4.2.2.2.2.2.2.2.2.2.2.2.2.2.2.2.2.2.2.2.2.2.2.2.2.1, u4.2.2.2.2.2.2.2.2.2.2.2.2.2.2.2.2.2.2.2.2.2.2.2.2.2.1, u4.2.2.2.2.2.2.2.2.2.2.2.2.2.2.2.2.2.2.2.2.2.2.2.2.2.2.1, u4.2.2.2.2.2.2.2.2.2.2.2.2.2.2.2.2.2.2.2.2.2.2.2.2.2.2.2.1, u4.2.2.2.2.2.2.2.2.2.2.2.2.2.2.2.2.2.2.2.2.2.2.2.2.2.2.2.2.1, u4.2.2.2.2.2.2.2.2.2.2.2.2.2.2.2.2.2.2.2.2.2.2.2.2.2.2.2.2.2, u7.1, u7.2)))))))
  else
    (some ((-1 : Int32), mn_bestCost, mn_bestPerNote, mn_bestLength, mn_searched, pr_size, pr_total, pr_perNote, pr_mostAlike, pr_pitches, pr_notePrices, pr_mustPass, pr_movePrices, pr_mustTurn, pr_badClosings, pr_badTurns, pr_passings, pr_strongPrices, se_mark, se_top, se_closes, se_leastCost, se_allLines, se_leastLines, se_layers, se_layerSizes, se_nexts, se_places, se_marks, se_restCosts, se_restLines, se_restLeastLines, se_lowest, se_traced, be_size, be_notes)))))
def m_SpeciesSolver_found (be_size : Int32) (be_notes : Nat → Int32)  (a1 : Int32) : Option (Int32) :=
  (bd (m_Line_at be_size be_notes a1) (fun u1 => (some u1)))
def m_SpeciesSolver_cost (mn_bestCost : Int32)   : Option (Int32) :=
  (some mn_bestCost)
def m_SpeciesSolver_count (F : Nat) (su_lines : Int32) (su_length : Int32) (su_perNote : Int32) (su_above : Int32) (su_numbers : Nat → Int32) (su_on : Nat → Int32) (su_given : Nat → Nat → Int32) (mn_searched : Int32) (pr_size : Int32) (pr_total : Int32) (pr_perNote : Int32) (pr_mostAlike : Int32) (pr_pitches : Nat → Int32) (pr_notePrices : Nat → Int32) (pr_mustPass : Nat → Int32) (pr_movePrices : Nat → Int32) (pr_mustTurn : Nat → Int32) (pr_badClosings : Nat → Int32) (pr_badTurns : Nat → Int32) (pr_passings : Nat → Int32) (pr_strongPrices : Nat → Int32) (se_mark : Int32) (se_top : Int32) (se_closes : Int32) (se_leastCost : Int32) (se_allLines : Int64) (se_leastLines : Int64) (se_layers : Nat → Int32) (se_layerSizes : Nat → Int32) (se_nexts : Nat → Int32) (se_places : Nat → Int32) (se_marks : Nat → Int32) (se_restCosts : Nat → Int32) (se_restLines : Nat → Int64) (se_restLeastLines : Nat → Int64) (se_lowest : Nat → Int32) (se_traced : Nat → Int32)  : Option (Int64 × Int32 × Int32 × Int32 × Int32 × Int32 × (Nat → Int32) × (Nat → Int32) × (Nat → Int32) × (Nat → Int32) × (Nat → Int32) × (Nat → Int32) × (Nat → Int32) × (Nat → Int32) × (Nat → Int32) × Int32 × Int32 × Int32 × Int32 × Int64 × Int64 × (Nat → Int32) × (Nat → Int32) × (Nat → Int32) × (Nat → Int32) × (Nat → Int32) × (Nat → Int32) × (Nat → Int64) × (Nat → Int64) × (Nat → Int32) × (Nat → Int32)) :=
  (bd (m_SpeciesSolver_cannotSearch F su_lines su_numbers) (fun u1 => (if u1 = (0 : Int32) then
    (bd (m_SpeciesSolver_searchOnce F su_lines su_length su_perNote su_above su_numbers su_on su_given mn_searched pr_size pr_total pr_perNote pr_mostAlike pr_pitches pr_notePrices pr_mustPass pr_movePrices pr_mustTurn pr_badClosings pr_badTurns pr_passings pr_strongPrices se_mark se_top se_closes se_leastCost se_allLines se_leastLines se_layers se_layerSizes se_nexts se_places se_marks se_restCosts se_restLines se_restLeastLines se_lowest se_traced) (fun u4 => (some (u4.2.2.2.2.2.2.2.2.2.2.2.2.2.2.2.2.2.2.1, u4.1, u4.2.1, u4.2.2.1, u4.2.2.2.1, u4.2.2.2.2.1, u4.2.2.2.2.2.1, u4.2.2.2.2.2.2.1, u4.2.2.2.2.2.2.2.1, u4.2.2.2.2.2.2.2.2.1, u4.2.2.2.2.2.2.2.2.2.1, u4.2.2.2.2.2.2.2.2.2.2.1, u4.2.2.2.2.2.2.2.2.2.2.2.1, u4.2.2.2.2.2.2.2.2.2.2.2.2.1, u4.2.2.2.2.2.2.2.2.2.2.2.2.2.1, u4.2.2.2.2.2.2.2.2.2.2.2.2.2.2.1, u4.2.2.2.2.2.2.2.2.2.2.2.2.2.2.2.1, u4.2.2.2.2.2.2.2.2.2.2.2.2.2.2.2.2.1, u4.2.2.2.2.2.2.2.2.2.2.2.2.2.2.2.2.2.1, u4.2.2.2.2.2.2.2.2.2.2.2.2.2.2.2.2.2.2.1, u4.2.2.2.2.2.2.2.2.2.2.2.2.2.2.2.2.2.2.2.1, u4.2.2.2.2.2.2.2.2.2.2.2.2.2.2.2.2.2.2.2.2.1, u4.2.2.2.2.2.2.2.2.2.2.2.2.2.2.2.2.2.2.2.2.2.1, u4.2.2.2.2.2.2.2.2.2.2.2.2.2.2.2.2.2.2.2.2.2.2.1, u4.2.2.2.2.2.2.2.2.2.2.2.2.2.2.2.2.2.2.2.2.2.2.2.1, u4.2.2.2.2.2.2.2.2.2.2.2.2.2.2.2.2.2.2.2.2.2.2.2.2.1, u4.2.2.2.2.2.2.2.2.2.2.2.2.2.2.2.2.2.2.2.2.2.2.2.2.2.1, u4.2.2.2.2.2.2.2.2.2.2.2.2.2.2.2.2.2.2.2.2.2.2.2.2.2.2.1, u4.2.2.2.2.2.2.2.2.2.2.2.2.2.2.2.2.2.2.2.2.2.2.2.2.2.2.2.1, u4.2.2.2.2.2.2.2.2.2.2.2.2.2.2.2.2.2.2.2.2.2.2.2.2.2.2.2.2.1, u4.2.2.2.2.2.2.2.2.2.2.2.2.2.2.2.2.2.2.2.2.2.2.2.2.2.2.2.2.2))))
  else
    (some ((-1 : Int64), mn_searched, pr_size, pr_total, pr_perNote, pr_mostAlike, pr_pitches, pr_notePrices, pr_mustPass, pr_movePrices, pr_mustTurn, pr_badClosings, pr_badTurns, pr_passings, pr_strongPrices, se_mark, se_top, se_closes, se_leastCost, se_allLines, se_leastLines, se_layers, se_layerSizes, se_nexts, se_places, se_marks, se_restCosts, se_restLines, se_restLeastLines, se_lowest, se_traced)))))
def m_SpeciesSolver_ties (F : Nat) (su_lines : Int32) (su_length : Int32) (su_perNote : Int32) (su_above : Int32) (su_numbers : Nat → Int32) (su_on : Nat → Int32) (su_given : Nat → Nat → Int32) (mn_searched : Int32) (pr_size : Int32) (pr_total : Int32) (pr_perNote : Int32) (pr_mostAlike : Int32) (pr_pitches : Nat → Int32) (pr_notePrices : Nat → Int32) (pr_mustPass : Nat → Int32) (pr_movePrices : Nat → Int32) (pr_mustTurn : Nat → Int32) (pr_badClosings : Nat → Int32) (pr_badTurns : Nat → Int32) (pr_passings : Nat → Int32) (pr_strongPrices : Nat → Int32) (se_mark : Int32) (se_top : Int32) (se_closes : Int32) (se_leastCost : Int32) (se_allLines : Int64) (se_leastLines : Int64) (se_layers : Nat → Int32) (se_layerSizes : Nat → Int32) (se_nexts : Nat → Int32) (se_places : Nat → Int32) (se_marks : Nat → Int32) (se_restCosts : Nat → Int32) (se_restLines : Nat → Int64) (se_restLeastLines : Nat → Int64) (se_lowest : Nat → Int32) (se_traced : Nat → Int32)  : Option (Int64 × Int32 × Int32 × Int32 × Int32 × Int32 × (Nat → Int32) × (Nat → Int32) × (Nat → Int32) × (Nat → Int32) × (Nat → Int32) × (Nat → Int32) × (Nat → Int32) × (Nat → Int32) × (Nat → Int32) × Int32 × Int32 × Int32 × Int32 × Int64 × Int64 × (Nat → Int32) × (Nat → Int32) × (Nat → Int32) × (Nat → Int32) × (Nat → Int32) × (Nat → Int32) × (Nat → Int64) × (Nat → Int64) × (Nat → Int32) × (Nat → Int32)) :=
  (bd (m_SpeciesSolver_cannotSearch F su_lines su_numbers) (fun u1 => (if u1 = (0 : Int32) then
    (bd (m_SpeciesSolver_searchOnce F su_lines su_length su_perNote su_above su_numbers su_on su_given mn_searched pr_size pr_total pr_perNote pr_mostAlike pr_pitches pr_notePrices pr_mustPass pr_movePrices pr_mustTurn pr_badClosings pr_badTurns pr_passings pr_strongPrices se_mark se_top se_closes se_leastCost se_allLines se_leastLines se_layers se_layerSizes se_nexts se_places se_marks se_restCosts se_restLines se_restLeastLines se_lowest se_traced) (fun u4 => (some (u4.2.2.2.2.2.2.2.2.2.2.2.2.2.2.2.2.2.2.2.1, u4.1, u4.2.1, u4.2.2.1, u4.2.2.2.1, u4.2.2.2.2.1, u4.2.2.2.2.2.1, u4.2.2.2.2.2.2.1, u4.2.2.2.2.2.2.2.1, u4.2.2.2.2.2.2.2.2.1, u4.2.2.2.2.2.2.2.2.2.1, u4.2.2.2.2.2.2.2.2.2.2.1, u4.2.2.2.2.2.2.2.2.2.2.2.1, u4.2.2.2.2.2.2.2.2.2.2.2.2.1, u4.2.2.2.2.2.2.2.2.2.2.2.2.2.1, u4.2.2.2.2.2.2.2.2.2.2.2.2.2.2.1, u4.2.2.2.2.2.2.2.2.2.2.2.2.2.2.2.1, u4.2.2.2.2.2.2.2.2.2.2.2.2.2.2.2.2.1, u4.2.2.2.2.2.2.2.2.2.2.2.2.2.2.2.2.2.1, u4.2.2.2.2.2.2.2.2.2.2.2.2.2.2.2.2.2.2.1, u4.2.2.2.2.2.2.2.2.2.2.2.2.2.2.2.2.2.2.2.1, u4.2.2.2.2.2.2.2.2.2.2.2.2.2.2.2.2.2.2.2.2.1, u4.2.2.2.2.2.2.2.2.2.2.2.2.2.2.2.2.2.2.2.2.2.1, u4.2.2.2.2.2.2.2.2.2.2.2.2.2.2.2.2.2.2.2.2.2.2.1, u4.2.2.2.2.2.2.2.2.2.2.2.2.2.2.2.2.2.2.2.2.2.2.2.1, u4.2.2.2.2.2.2.2.2.2.2.2.2.2.2.2.2.2.2.2.2.2.2.2.2.1, u4.2.2.2.2.2.2.2.2.2.2.2.2.2.2.2.2.2.2.2.2.2.2.2.2.2.1, u4.2.2.2.2.2.2.2.2.2.2.2.2.2.2.2.2.2.2.2.2.2.2.2.2.2.2.1, u4.2.2.2.2.2.2.2.2.2.2.2.2.2.2.2.2.2.2.2.2.2.2.2.2.2.2.2.1, u4.2.2.2.2.2.2.2.2.2.2.2.2.2.2.2.2.2.2.2.2.2.2.2.2.2.2.2.2.1, u4.2.2.2.2.2.2.2.2.2.2.2.2.2.2.2.2.2.2.2.2.2.2.2.2.2.2.2.2.2))))
  else
    (some ((-1 : Int64), mn_searched, pr_size, pr_total, pr_perNote, pr_mostAlike, pr_pitches, pr_notePrices, pr_mustPass, pr_movePrices, pr_mustTurn, pr_badClosings, pr_badTurns, pr_passings, pr_strongPrices, se_mark, se_top, se_closes, se_leastCost, se_allLines, se_leastLines, se_layers, se_layerSizes, se_nexts, se_places, se_marks, se_restCosts, se_restLines, se_restLeastLines, se_lowest, se_traced)))))
def m_Search_longestBeginning (F : Nat) (pr_size : Int32) (pr_total : Int32) (pr_perNote : Int32) (pr_mostAlike : Int32) (pr_notePrices : Nat → Int32) (pr_mustPass : Nat → Int32) (pr_movePrices : Nat → Int32) (pr_mustTurn : Nat → Int32) (pr_badClosings : Nat → Int32) (pr_badTurns : Nat → Int32) (pr_passings : Nat → Int32) (pr_strongPrices : Nat → Int32) (se_mark : Int32) (se_top : Int32) (se_closes : Int32) (se_layers : Nat → Int32) (se_layerSizes : Nat → Int32) (se_marks : Nat → Int32)  : Option (Int32 × Int32 × Int32 × Int32 × (Nat → Int32) × (Nat → Int32) × (Nat → Int32)) :=
  (bd (m_Search_spread F pr_size pr_total pr_perNote pr_mostAlike pr_notePrices pr_mustPass pr_movePrices pr_mustTurn pr_badClosings pr_badTurns pr_passings pr_strongPrices pr_size (0 : Int32) se_mark se_layers se_layerSizes se_marks) (fun u1 => (some (u1.1, u1.2.1, pr_size, (0 : Int32), u1.2.2.1, u1.2.2.2.1, u1.2.2.2.2))))
def m_SpeciesSolver_reach (F : Nat) (su_lines : Int32) (su_length : Int32) (su_perNote : Int32) (su_above : Int32) (su_numbers : Nat → Int32) (su_on : Nat → Int32) (su_given : Nat → Nat → Int32) (pr_size : Int32) (pr_total : Int32) (pr_perNote : Int32) (pr_mostAlike : Int32) (pr_pitches : Nat → Int32) (pr_notePrices : Nat → Int32) (pr_mustPass : Nat → Int32) (pr_movePrices : Nat → Int32) (pr_mustTurn : Nat → Int32) (pr_badClosings : Nat → Int32) (pr_badTurns : Nat → Int32) (pr_passings : Nat → Int32) (pr_strongPrices : Nat → Int32) (se_mark : Int32) (se_top : Int32) (se_closes : Int32) (se_layers : Nat → Int32) (se_layerSizes : Nat → Int32) (se_marks : Nat → Int32)  : Option (Int32 × Int32 × Int32 × Int32 × Int32 × (Nat → Int32) × (Nat → Int32) × (Nat → Int32) × (Nat → Int32) × (Nat → Int32) × (Nat → Int32) × (Nat → Int32) × (Nat → Int32) × (Nat → Int32) × Int32 × Int32 × Int32 × (Nat → Int32) × (Nat → Int32) × (Nat → Int32)) :=
  (bd (m_SpeciesSolver_cannotSearch F su_lines su_numbers) (fun u1 => (if u1 = (0 : Int32) then
    (bd (m_Prices_fill F su_lines su_length su_perNote su_above su_numbers su_on su_given pr_size pr_total pr_perNote pr_mostAlike pr_pitches pr_notePrices pr_mustPass pr_movePrices pr_mustTurn pr_badClosings pr_badTurns pr_passings pr_strongPrices) (fun u4 => (bd (m_Search_longestBeginning F u4.1 u4.2.1 u4.2.2.1 u4.2.2.2.1 u4.2.2.2.2.2.1 u4.2.2.2.2.2.2.1 u4.2.2.2.2.2.2.2.1 u4.2.2.2.2.2.2.2.2.1 u4.2.2.2.2.2.2.2.2.2.1 u4.2.2.2.2.2.2.2.2.2.2.1 u4.2.2.2.2.2.2.2.2.2.2.2.1 u4.2.2.2.2.2.2.2.2.2.2.2.2 se_mark se_top se_closes se_layers se_layerSizes se_marks) (fun u6 => (some (u6.1, u4.1, u4.2.1, u4.2.2.1, u4.2.2.2.1, u4.2.2.2.2.1, u4.2.2.2.2.2.1, u4.2.2.2.2.2.2.1, u4.2.2.2.2.2.2.2.1, u4.2.2.2.2.2.2.2.2.1, u4.2.2.2.2.2.2.2.2.2.1, u4.2.2.2.2.2.2.2.2.2.2.1, u4.2.2.2.2.2.2.2.2.2.2.2.1, u4.2.2.2.2.2.2.2.2.2.2.2.2, u6.2.1, u6.2.2.1, u6.2.2.2.1, u6.2.2.2.2.1, u6.2.2.2.2.2.1, u6.2.2.2.2.2.2))))))
  else
    (some ((-1 : Int32), pr_size, pr_total, pr_perNote, pr_mostAlike, pr_pitches, pr_notePrices, pr_mustPass, pr_movePrices, pr_mustTurn, pr_badClosings, pr_badTurns, pr_passings, pr_strongPrices, se_mark, se_top, se_closes, se_layers, se_layerSizes, se_marks)))))
def m_SpeciesSolver_keep (F : Nat) (mn_bestPerNote : Int32) (mn_bestLength : Int32) (be_size : Int32) (be_notes : Nat → Int32) (mn_searched : Int32) (su_lines : Int32) (su_length : Int32) (su_given : Nat → Nat → Int32)  : Option (Int32 × Int32 × Int32 × Int32 × (Nat → Nat → Int32)) :=
  (if be_size = (0 : Int32) then
    (some ((-1 : Int32), mn_searched, su_lines, su_length, su_given))
  else
    (if su_lines = (0 : Int32) then
      (some ((-1 : Int32), mn_searched, su_lines, su_length, su_given))
    else
      (bd (m_Setup_hasPlaceFor su_lines su_length mn_bestLength) (fun u3 => (if u3 = (0 : Int32) then
        (some ((-1 : Int32), mn_searched, su_lines, su_length, su_given))
      else
        (bd (m_Setup_addLine F be_size be_notes su_lines su_length su_given mn_bestPerNote mn_bestLength) (fun u6 => (some ((u6.1 - (1 : Int32)), (0 : Int32), u6.1, u6.2.1, u6.2.2)))))))))
def m_SpeciesSolver_cannotJudge (su_lines : Int32) (su_length : Int32) (su_perNote : Int32) (tr_size : Int32)   : Option (Int32) :=
  (if su_lines = (0 : Int32) then
    (some (1 : Int32))
  else
    (bd (m_Setup_total su_lines su_length su_perNote) (fun u2 => (if tr_size = u2 then
      (some (0 : Int32))
    else
      (some (1 : Int32))))))
def m_FaultFinder_findHighest_48 (F : Nat) (X_size : Int32) (X_notes : Nat → Int32) (k12 : Int32 → Int32 → Int32 → Option (Int32 × Int32)) (fi_highest : Int32) (fi_firstHighest : Int32) (x2 : Int32) : Option (Int32 × Int32) :=
  k12 fi_highest fi_firstHighest (x2 + 1)
def m_FaultFinder_findHighest_12b (F : Nat) (X_size : Int32) (X_notes : Nat → Int32) (k12 : Int32 → Int32 → Int32 → Option (Int32 × Int32)) (fi_highest : Int32) (fi_firstHighest : Int32) (x2 : Int32) : Option (Int32 × Int32) :=
  (if X_size ≤ x2 then
    (some (fi_highest, fi_firstHighest))
  else
    (gd x2 45 (if (X_notes (Int32.toNatClampNeg x2)) ≤ fi_highest then
      m_FaultFinder_findHighest_48 F X_size X_notes k12 fi_highest fi_firstHighest x2
    else
      (gd x2 45 (m_FaultFinder_findHighest_48 F X_size X_notes k12 (X_notes (Int32.toNatClampNeg x2)) x2 x2)))))
def m_FaultFinder_findHighest_12 (F : Nat) (X_size : Int32) (X_notes : Nat → Int32)  : Nat → Int32 → Int32 → Int32 → Option (Int32 × Int32)
  | 0 => fun _ _ _ => none
  | n + 1 => m_FaultFinder_findHighest_12b F X_size X_notes  (m_FaultFinder_findHighest_12 F X_size X_notes  n)
def m_FaultFinder_findHighest (F : Nat) (X_size : Int32) (X_notes : Nat → Int32) (fi_highest : Int32) (fi_firstHighest : Int32)  : Option (Int32 × Int32) :=
  m_FaultFinder_findHighest_12 F X_size X_notes  F (-1 : Int32) (0 : Int32) (0 : Int32)
def m_Rules_isHardWith (su_perNote : Int32) (su_numbers : Nat → Int32) (su_given : Nat → Nat → Int32)  (a1 : Int32) (a2 : Int32) (a3 : Int32) : Option (Int32) :=
  (bd (m_Rules_classWith su_perNote su_given a1 a2 a3) (fun u1 => (bd (m_Rules_isIn su_numbers (3 : Int32) u1) (fun u3 => (if u3 = (0 : Int32) then
    (some (1 : Int32))
  else
    (some (0 : Int32)))))))
def m_FaultFinder_breaksWith_38 (X_size : Int32) (X_notes : Nat → Int32) (su_perNote : Int32) (su_above : Int32) (su_numbers : Nat → Int32) (su_given : Nat → Nat → Int32)   (x1 : Int32) (x2 : Int32) (x4 : Int32) (x5 : Int32) (t0 : Int32) : Option (Int32) :=
  (if x2 = (1 : Int32) then (if t0 = (0 : Int32) then
      (some (0 : Int32))
    else
      (gd (x4 - su_perNote) 45 (bd (m_Rules_isParallel su_perNote su_numbers su_given x1 x4 (X_notes (Int32.toNatClampNeg (x4 - su_perNote))) x5) (fun u4 => (if u4 = (0 : Int32) then
        (some (0 : Int32))
      else
        (some (1 : Int32))))))) else (if x2 = (2 : Int32) then (if t0 = (0 : Int32) then
      (some (0 : Int32))
    else
      (gd (x4 - su_perNote) 45 (bd (m_Rules_isHidden su_perNote su_numbers su_given x1 x4 (X_notes (Int32.toNatClampNeg (x4 - su_perNote))) x5) (fun u10 => (if u10 = (0 : Int32) then
        (some (0 : Int32))
      else
        (some (1 : Int32))))))) else (if x2 = (3 : Int32) then (bd (m_Rules_isCrossing su_perNote su_above su_given x1 x4 x5) (fun u14 => (gb u14 (some u14)))) else (if x2 = (4 : Int32) then (bd (m_Rules_isStrong su_perNote x4) (fun u18 => (if u18 = (0 : Int32) then
      (if x4 < (1 : Int32) then
        (some (0 : Int32))
      else
        (if X_size ≤ (x4 + (1 : Int32)) then
          (some (0 : Int32))
        else
          (bd (m_Rules_isHardWith su_perNote su_numbers su_given x1 x4 x5) (fun u23 => (if u23 = (0 : Int32) then
            (some (0 : Int32))
          else
            (gd (x4 - (1 : Int32)) 45 (gd (x4 + (1 : Int32)) 45 (bd (m_Rules_isPassing su_numbers (X_notes (Int32.toNatClampNeg (x4 - (1 : Int32)))) x5 (X_notes (Int32.toNatClampNeg (x4 + (1 : Int32))))) (fun u28 => (if u28 = (0 : Int32) then
              (some (1 : Int32))
            else
              (some (0 : Int32))))))))))))
    else
      (some (0 : Int32))))) else (some (0 : Int32))))))
def m_FaultFinder_breaksWith_37 (X_size : Int32) (X_notes : Nat → Int32) (su_perNote : Int32) (su_above : Int32) (su_numbers : Nat → Int32) (su_given : Nat → Nat → Int32)   (x1 : Int32) (x2 : Int32) (x4 : Int32) (x5 : Int32) : Option (Int32) :=
  m_FaultFinder_breaksWith_38 X_size X_notes su_perNote su_above su_numbers su_given  x1 x2 x4 x5 (0 : Int32)
def m_FaultFinder_breaksWith (X_size : Int32) (X_notes : Nat → Int32) (su_perNote : Int32) (su_above : Int32) (su_numbers : Nat → Int32) (su_given : Nat → Nat → Int32)  (a1 : Int32) (a2 : Int32) (a4 : Int32) : Option (Int32) :=
  (gd a4 45 (if a4 < su_perNote then
    m_FaultFinder_breaksWith_37 X_size X_notes su_perNote su_above su_numbers su_given  a1 a2 a4 (X_notes (Int32.toNatClampNeg a4))
  else
    (bd (m_Rules_isStrong su_perNote a4) (fun u3 => (if u3 = (0 : Int32) then
      m_FaultFinder_breaksWith_37 X_size X_notes su_perNote su_above su_numbers su_given  a1 a2 a4 (X_notes (Int32.toNatClampNeg a4))
    else
      m_FaultFinder_breaksWith_38 X_size X_notes su_perNote su_above su_numbers su_given  a1 a2 a4 (X_notes (Int32.toNatClampNeg a4)) (1 : Int32))))))
def m_FaultFinder_addFault_40   (fi_faults : Int32) (fi_faultRules : Nat → Int32) (fi_faultNotes : Nat → Int32) (fi_faultLines : Nat → Int32)  : Option (Int32 × (Nat → Int32) × (Nat → Int32) × (Nat → Int32)) :=
  (some ((fi_faults + (1 : Int32)), fi_faultRules, fi_faultNotes, fi_faultLines))
def m_FaultFinder_addFault  (fi_faults : Int32) (fi_faultRules : Nat → Int32) (fi_faultNotes : Nat → Int32) (fi_faultLines : Nat → Int32) (a1 : Int32) (a2 : Int32) (a3 : Int32) : Option (Int32 × (Nat → Int32) × (Nat → Int32) × (Nat → Int32)) :=
  (if (200 : Int32) ≤ fi_faults then
    m_FaultFinder_addFault_40   fi_faults fi_faultRules fi_faultNotes fi_faultLines
  else
    (gd fi_faults 200 (gd fi_faults 200 (gd fi_faults 200 (m_FaultFinder_addFault_40   fi_faults (upd fi_faultRules (Int32.toNatClampNeg fi_faults) a1) (upd fi_faultNotes (Int32.toNatClampNeg fi_faults) a2) (upd fi_faultLines (Int32.toNatClampNeg fi_faults) a3))))))
def m_FaultFinder_isRepeated_23b (F : Nat) (X_notes : Nat → Int32) (su_numbers : Nat → Int32) (k23 : Int32 → Int32 → Option (Int32))  (x2 : Int32) (x4 : Int32) : Option (Int32) :=
  (if x2 ≤ x4 then
    (some (1 : Int32))
  else
    (gd x4 45 (gd x2 45 (if (X_notes (Int32.toNatClampNeg x4)) = (X_notes (Int32.toNatClampNeg x2)) then
      k23 x2 (x4 + 1)
    else
      (some (0 : Int32))))))
def m_FaultFinder_isRepeated_23 (F : Nat) (X_notes : Nat → Int32) (su_numbers : Nat → Int32)  : Nat → Int32 → Int32 → Option (Int32)
  | 0 => fun _ _ => none
  | n + 1 => m_FaultFinder_isRepeated_23b F X_notes su_numbers  (m_FaultFinder_isRepeated_23 F X_notes su_numbers  n)
def m_FaultFinder_isRepeated (F : Nat) (X_notes : Nat → Int32) (su_numbers : Nat → Int32)  (a2 : Int32) : Option (Int32) :=
  (if (su_numbers (Int32.toNatClampNeg (11 : Int32))) ≤ a2 then
    m_FaultFinder_isRepeated_23 F X_notes su_numbers  F a2 (a2 - (su_numbers (Int32.toNatClampNeg (11 : Int32))))
  else
    (some (0 : Int32)))
def m_FaultFinder_breaksAlone (F : Nat) (X_size : Int32) (X_notes : Nat → Int32) (su_lines : Int32) (su_perNote : Int32) (su_numbers : Nat → Int32) (su_given : Nat → Nat → Int32) (fi_highest : Int32) (fi_firstHighest : Int32)  (a1 : Int32) (a3 : Int32) : Option (Int32) :=
  (gd a3 45 (if a1 = (0 : Int32) then (bd (m_Rules_isStrong su_perNote a3) (fun u3 => (if u3 = (0 : Int32) then
      (some (0 : Int32))
    else
      (bd (m_Rules_isHard F su_lines su_perNote su_numbers su_given a3 (X_notes (Int32.toNatClampNeg a3))) (fun u6 => (if u6 = (0 : Int32) then
        (some (0 : Int32))
      else
        (some (1 : Int32)))))))) else (if a1 = (1 : Int32) then (some (0 : Int32)) else (if a1 = (2 : Int32) then (some (0 : Int32)) else (if a1 = (3 : Int32) then (some (0 : Int32)) else (if a1 = (4 : Int32) then (some (0 : Int32)) else (if a1 = (5 : Int32) then (if a3 < (1 : Int32) then
      (some (0 : Int32))
    else
      (gd (a3 - (1 : Int32)) 45 (bd (m_Rules_isLeaping su_numbers (X_notes (Int32.toNatClampNeg (a3 - (1 : Int32)))) (X_notes (Int32.toNatClampNeg a3))) (fun u16 => (if u16 = (0 : Int32) then
        (some (0 : Int32))
      else
        (some (1 : Int32))))))) else (if a1 = (6 : Int32) then (if a3 < (2 : Int32) then
      (some (0 : Int32))
    else
      (gd (a3 - (2 : Int32)) 45 (gd (a3 - (1 : Int32)) 45 (bd (m_Rules_isNotTurned su_numbers (X_notes (Int32.toNatClampNeg (a3 - (2 : Int32)))) (X_notes (Int32.toNatClampNeg (a3 - (1 : Int32)))) (X_notes (Int32.toNatClampNeg a3))) (fun u23 => (if u23 = (0 : Int32) then
        (some (0 : Int32))
      else
        (some (1 : Int32)))))))) else (if a1 = (7 : Int32) then (bd (m_FaultFinder_isRepeated F X_notes su_numbers a3) (fun u27 => (gb u27 (some u27)))) else (if a1 = (8 : Int32) then (if a3 = (0 : Int32) then
      (bd (m_Rules_isBadOpening su_perNote su_numbers su_given (X_notes (Int32.toNatClampNeg a3))) (fun u32 => (if u32 = (0 : Int32) then
        (some (0 : Int32))
      else
        (some (1 : Int32)))))
    else
      (some (0 : Int32))) else (if a1 = (9 : Int32) then (if a3 < (1 : Int32) then
      (some (0 : Int32))
    else
      (if a3 = (X_size - (1 : Int32)) then
        (gd (a3 - (1 : Int32)) 45 (bd (m_Rules_isBadClosing su_perNote su_numbers su_given a3 (X_notes (Int32.toNatClampNeg (a3 - (1 : Int32)))) (X_notes (Int32.toNatClampNeg a3))) (fun u39 => (if u39 = (0 : Int32) then
          (some (0 : Int32))
        else
          (some (1 : Int32))))))
      else
        (some (0 : Int32)))) else (if a1 = (10 : Int32) then (if (X_notes (Int32.toNatClampNeg a3)) = fi_highest then
      (if a3 = fi_firstHighest then
        (some (0 : Int32))
      else
        (some (1 : Int32)))
    else
      (some (0 : Int32))) else (some (0 : Int32))))))))))))))
def m_FaultFinder_ask_45 (F : Nat) (X_size : Int32) (X_notes : Nat → Int32) (su_lines : Int32) (su_perNote : Int32) (su_above : Int32) (su_numbers : Nat → Int32) (su_given : Nat → Nat → Int32) (fi_highest : Int32) (fi_firstHighest : Int32) (k13 : Int32 → (Nat → Int32) → (Nat → Int32) → (Nat → Int32) → Int32 → Int32 → Int32 → Option (Int32 × (Nat → Int32) × (Nat → Int32) × (Nat → Int32))) (fi_faults : Int32) (fi_faultRules : Nat → Int32) (fi_faultNotes : Nat → Int32) (fi_faultLines : Nat → Int32) (x1 : Int32) (x3 : Int32) (x4 : Int32) : Option (Int32 × (Nat → Int32) × (Nat → Int32) × (Nat → Int32)) :=
  k13 fi_faults fi_faultRules fi_faultNotes fi_faultLines x1 x3 (x4 + 1)
def m_FaultFinder_ask_13b (F : Nat) (X_size : Int32) (X_notes : Nat → Int32) (su_lines : Int32) (su_perNote : Int32) (su_above : Int32) (su_numbers : Nat → Int32) (su_given : Nat → Nat → Int32) (fi_highest : Int32) (fi_firstHighest : Int32) (k13 : Int32 → (Nat → Int32) → (Nat → Int32) → (Nat → Int32) → Int32 → Int32 → Int32 → Option (Int32 × (Nat → Int32) × (Nat → Int32) × (Nat → Int32))) (fi_faults : Int32) (fi_faultRules : Nat → Int32) (fi_faultNotes : Nat → Int32) (fi_faultLines : Nat → Int32) (x1 : Int32) (x3 : Int32) (x4 : Int32) : Option (Int32 × (Nat → Int32) × (Nat → Int32) × (Nat → Int32)) :=
  (if su_lines ≤ x4 then
    (some (fi_faults, fi_faultRules, fi_faultNotes, fi_faultLines))
  else
    (bd (m_FaultFinder_breaksWith X_size X_notes su_perNote su_above su_numbers su_given x4 x1 x3) (fun u2 => (if u2 = (0 : Int32) then
      m_FaultFinder_ask_45 F X_size X_notes su_lines su_perNote su_above su_numbers su_given fi_highest fi_firstHighest k13 fi_faults fi_faultRules fi_faultNotes fi_faultLines x1 x3 x4
    else
      (bd (m_FaultFinder_addFault fi_faults fi_faultRules fi_faultNotes fi_faultLines x1 x3 x4) (fun u5 => m_FaultFinder_ask_45 F X_size X_notes su_lines su_perNote su_above su_numbers su_given fi_highest fi_firstHighest k13 u5.1 u5.2.1 u5.2.2.1 u5.2.2.2 x1 x3 x4))))))
def m_FaultFinder_ask_13 (F : Nat) (X_size : Int32) (X_notes : Nat → Int32) (su_lines : Int32) (su_perNote : Int32) (su_above : Int32) (su_numbers : Nat → Int32) (su_given : Nat → Nat → Int32) (fi_highest : Int32) (fi_firstHighest : Int32)  : Nat → Int32 → (Nat → Int32) → (Nat → Int32) → (Nat → Int32) → Int32 → Int32 → Int32 → Option (Int32 × (Nat → Int32) × (Nat → Int32) × (Nat → Int32))
  | 0 => fun _ _ _ _ _ _ _ => none
  | n + 1 => m_FaultFinder_ask_13b F X_size X_notes su_lines su_perNote su_above su_numbers su_given fi_highest fi_firstHighest  (m_FaultFinder_ask_13 F X_size X_notes su_lines su_perNote su_above su_numbers su_given fi_highest fi_firstHighest  n)
def m_FaultFinder_ask_54 (F : Nat) (X_size : Int32) (X_notes : Nat → Int32) (su_lines : Int32) (su_perNote : Int32) (su_above : Int32) (su_numbers : Nat → Int32) (su_given : Nat → Nat → Int32) (fi_highest : Int32) (fi_firstHighest : Int32)  (fi_faults : Int32) (fi_faultRules : Nat → Int32) (fi_faultNotes : Nat → Int32) (fi_faultLines : Nat → Int32) (x1 : Int32) (x3 : Int32) : Option (Int32 × (Nat → Int32) × (Nat → Int32) × (Nat → Int32)) :=
  (bd (m_FaultFinder_breaksAlone F X_size X_notes su_lines su_perNote su_numbers su_given fi_highest fi_firstHighest x1 x3) (fun u1 => (if u1 = (0 : Int32) then
    (some (fi_faults, fi_faultRules, fi_faultNotes, fi_faultLines))
  else
    (bd (m_FaultFinder_addFault fi_faults fi_faultRules fi_faultNotes fi_faultLines x1 x3 (-1 : Int32)) (fun u4 => (some (u4.1, u4.2.1, u4.2.2.1, u4.2.2.2)))))))
def m_FaultFinder_ask (F : Nat) (X_size : Int32) (X_notes : Nat → Int32) (su_lines : Int32) (su_perNote : Int32) (su_above : Int32) (su_numbers : Nat → Int32) (su_given : Nat → Nat → Int32) (fi_highest : Int32) (fi_firstHighest : Int32) (fi_faults : Int32) (fi_faultRules : Nat → Int32) (fi_faultNotes : Nat → Int32) (fi_faultLines : Nat → Int32) (a1 : Int32) (a3 : Int32) : Option (Int32 × (Nat → Int32) × (Nat → Int32) × (Nat → Int32)) :=
  (if a1 < (1 : Int32) then
    m_FaultFinder_ask_54 F X_size X_notes su_lines su_perNote su_above su_numbers su_given fi_highest fi_firstHighest  fi_faults fi_faultRules fi_faultNotes fi_faultLines a1 a3
  else
    (if (4 : Int32) < a1 then
      m_FaultFinder_ask_54 F X_size X_notes su_lines su_perNote su_above su_numbers su_given fi_highest fi_firstHighest  fi_faults fi_faultRules fi_faultNotes fi_faultLines a1 a3
    else
      m_FaultFinder_ask_13 F X_size X_notes su_lines su_perNote su_above su_numbers su_given fi_highest fi_firstHighest  F fi_faults fi_faultRules fi_faultNotes fi_faultLines a1 a3 (0 : Int32)))
def m_FaultFinder_examine_47 (F : Nat) (X_size : Int32) (X_notes : Nat → Int32) (su_lines : Int32) (su_perNote : Int32) (su_above : Int32) (su_numbers : Nat → Int32) (su_on : Nat → Int32) (su_given : Nat → Nat → Int32) (k12 : Int32 → Int32 → Int32 → (Nat → Int32) → (Nat → Int32) → (Nat → Int32) → Int32 → Option (Int32 × Int32 × Int32 × Int32 × (Nat → Int32) × (Nat → Int32) × (Nat → Int32))) (k22 : Int32 → Int32 → Int32 → (Nat → Int32) → (Nat → Int32) → (Nat → Int32) → Int32 → Int32 → Option (Int32 × Int32 × Int32 × Int32 × (Nat → Int32) × (Nat → Int32) × (Nat → Int32))) (fi_faults : Int32) (fi_highest : Int32) (fi_firstHighest : Int32) (fi_faultRules : Nat → Int32) (fi_faultNotes : Nat → Int32) (fi_faultLines : Nat → Int32) (x2 : Int32) (x3 : Int32) : Option (Int32 × Int32 × Int32 × Int32 × (Nat → Int32) × (Nat → Int32) × (Nat → Int32)) :=
  k22 fi_faults fi_highest fi_firstHighest fi_faultRules fi_faultNotes fi_faultLines x2 (x3 + 1)
def m_FaultFinder_examine_22b (F : Nat) (X_size : Int32) (X_notes : Nat → Int32) (su_lines : Int32) (su_perNote : Int32) (su_above : Int32) (su_numbers : Nat → Int32) (su_on : Nat → Int32) (su_given : Nat → Nat → Int32) (k12 : Int32 → Int32 → Int32 → (Nat → Int32) → (Nat → Int32) → (Nat → Int32) → Int32 → Option (Int32 × Int32 × Int32 × Int32 × (Nat → Int32) × (Nat → Int32) × (Nat → Int32))) (k22 : Int32 → Int32 → Int32 → (Nat → Int32) → (Nat → Int32) → (Nat → Int32) → Int32 → Int32 → Option (Int32 × Int32 × Int32 × Int32 × (Nat → Int32) × (Nat → Int32) × (Nat → Int32))) (fi_faults : Int32) (fi_highest : Int32) (fi_firstHighest : Int32) (fi_faultRules : Nat → Int32) (fi_faultNotes : Nat → Int32) (fi_faultLines : Nat → Int32) (x2 : Int32) (x3 : Int32) : Option (Int32 × Int32 × Int32 × Int32 × (Nat → Int32) × (Nat → Int32) × (Nat → Int32)) :=
  (if (11 : Int32) ≤ x3 then
    k12 fi_faults fi_highest fi_firstHighest fi_faultRules fi_faultNotes fi_faultLines (x2 + 1)
  else
    (gd x3 11 (if (su_on (Int32.toNatClampNeg x3)) = (0 : Int32) then
      m_FaultFinder_examine_47 F X_size X_notes su_lines su_perNote su_above su_numbers su_on su_given k12 k22 fi_faults fi_highest fi_firstHighest fi_faultRules fi_faultNotes fi_faultLines x2 x3
    else
      (bd (m_FaultFinder_ask F X_size X_notes su_lines su_perNote su_above su_numbers su_given fi_highest fi_firstHighest fi_faults fi_faultRules fi_faultNotes fi_faultLines x3 x2) (fun u4 => m_FaultFinder_examine_47 F X_size X_notes su_lines su_perNote su_above su_numbers su_on su_given k12 k22 u4.1 fi_highest fi_firstHighest u4.2.1 u4.2.2.1 u4.2.2.2 x2 x3)))))
def m_FaultFinder_examine_22 (F : Nat) (X_size : Int32) (X_notes : Nat → Int32) (su_lines : Int32) (su_perNote : Int32) (su_above : Int32) (su_numbers : Nat → Int32) (su_on : Nat → Int32) (su_given : Nat → Nat → Int32) (k12 : Int32 → Int32 → Int32 → (Nat → Int32) → (Nat → Int32) → (Nat → Int32) → Int32 → Option (Int32 × Int32 × Int32 × Int32 × (Nat → Int32) × (Nat → Int32) × (Nat → Int32))) : Nat → Int32 → Int32 → Int32 → (Nat → Int32) → (Nat → Int32) → (Nat → Int32) → Int32 → Int32 → Option (Int32 × Int32 × Int32 × Int32 × (Nat → Int32) × (Nat → Int32) × (Nat → Int32))
  | 0 => fun _ _ _ _ _ _ _ _ => none
  | n + 1 => m_FaultFinder_examine_22b F X_size X_notes su_lines su_perNote su_above su_numbers su_on su_given k12 (m_FaultFinder_examine_22 F X_size X_notes su_lines su_perNote su_above su_numbers su_on su_given k12 n)
def m_FaultFinder_examine_12b (F : Nat) (X_size : Int32) (X_notes : Nat → Int32) (su_lines : Int32) (su_perNote : Int32) (su_above : Int32) (su_numbers : Nat → Int32) (su_on : Nat → Int32) (su_given : Nat → Nat → Int32) (k12 : Int32 → Int32 → Int32 → (Nat → Int32) → (Nat → Int32) → (Nat → Int32) → Int32 → Option (Int32 × Int32 × Int32 × Int32 × (Nat → Int32) × (Nat → Int32) × (Nat → Int32))) (fi_faults : Int32) (fi_highest : Int32) (fi_firstHighest : Int32) (fi_faultRules : Nat → Int32) (fi_faultNotes : Nat → Int32) (fi_faultLines : Nat → Int32) (x2 : Int32) : Option (Int32 × Int32 × Int32 × Int32 × (Nat → Int32) × (Nat → Int32) × (Nat → Int32)) :=
  (if X_size ≤ x2 then
    (some (fi_faults, fi_faults, fi_highest, fi_firstHighest, fi_faultRules, fi_faultNotes, fi_faultLines))
  else
    m_FaultFinder_examine_22 F X_size X_notes su_lines su_perNote su_above su_numbers su_on su_given k12 F fi_faults fi_highest fi_firstHighest fi_faultRules fi_faultNotes fi_faultLines x2 (0 : Int32))
def m_FaultFinder_examine_12 (F : Nat) (X_size : Int32) (X_notes : Nat → Int32) (su_lines : Int32) (su_perNote : Int32) (su_above : Int32) (su_numbers : Nat → Int32) (su_on : Nat → Int32) (su_given : Nat → Nat → Int32)  : Nat → Int32 → Int32 → Int32 → (Nat → Int32) → (Nat → Int32) → (Nat → Int32) → Int32 → Option (Int32 × Int32 × Int32 × Int32 × (Nat → Int32) × (Nat → Int32) × (Nat → Int32))
  | 0 => fun _ _ _ _ _ _ _ => none
  | n + 1 => m_FaultFinder_examine_12b F X_size X_notes su_lines su_perNote su_above su_numbers su_on su_given  (m_FaultFinder_examine_12 F X_size X_notes su_lines su_perNote su_above su_numbers su_on su_given  n)
def m_FaultFinder_examine (F : Nat) (X_size : Int32) (X_notes : Nat → Int32) (su_lines : Int32) (su_perNote : Int32) (su_above : Int32) (su_numbers : Nat → Int32) (su_on : Nat → Int32) (su_given : Nat → Nat → Int32) (fi_faults : Int32) (fi_highest : Int32) (fi_firstHighest : Int32) (fi_faultRules : Nat → Int32) (fi_faultNotes : Nat → Int32) (fi_faultLines : Nat → Int32)  : Option (Int32 × Int32 × Int32 × Int32 × (Nat → Int32) × (Nat → Int32) × (Nat → Int32)) :=
  (bd (m_FaultFinder_findHighest F X_size X_notes fi_highest fi_firstHighest) (fun u1 => m_FaultFinder_examine_12 F X_size X_notes su_lines su_perNote su_above su_numbers su_on su_given  F (0 : Int32) u1.1 u1.2 fi_faultRules fi_faultNotes fi_faultLines (0 : Int32)))
def m_SpeciesSolver_judge (F : Nat) (su_lines : Int32) (su_length : Int32) (su_perNote : Int32) (su_above : Int32) (su_numbers : Nat → Int32) (su_on : Nat → Int32) (su_given : Nat → Nat → Int32) (tr_size : Int32) (tr_notes : Nat → Int32) (fi_faults : Int32) (fi_highest : Int32) (fi_firstHighest : Int32) (fi_faultRules : Nat → Int32) (fi_faultNotes : Nat → Int32) (fi_faultLines : Nat → Int32)  : Option (Int32 × Int32 × Int32 × Int32 × (Nat → Int32) × (Nat → Int32) × (Nat → Int32)) :=
  (bd (m_SpeciesSolver_cannotJudge su_lines su_length su_perNote tr_size) (fun u1 => (if u1 = (0 : Int32) then
    (bd (m_FaultFinder_examine F tr_size tr_notes su_lines su_perNote su_above su_numbers su_on su_given fi_faults fi_highest fi_firstHighest fi_faultRules fi_faultNotes fi_faultLines) (fun u4 => (some (u4.1, u4.2.1, u4.2.2.1, u4.2.2.2.1, u4.2.2.2.2.1, u4.2.2.2.2.2.1, u4.2.2.2.2.2.2))))
  else
    (some ((-1 : Int32), fi_faults, fi_highest, fi_firstHighest, fi_faultRules, fi_faultNotes, fi_faultLines)))))
def m_FaultFinder_tell (fi_faults : Int32) (fi_faultRules : Nat → Int32) (fi_faultNotes : Nat → Int32) (fi_faultLines : Nat → Int32)  (a1 : Int32) (a2 : Int32) : Option (Int32) :=
  (if a1 < (0 : Int32) then
    (some (-1 : Int32))
  else
    (if fi_faults ≤ a1 then
      (some (-1 : Int32))
    else
      (if a1 < (200 : Int32) then
        (if a2 = (0 : Int32) then (gd a1 200 (some (fi_faultRules (Int32.toNatClampNeg a1)))) else (if a2 = (1 : Int32) then (gd a1 200 (some (fi_faultNotes (Int32.toNatClampNeg a1)))) else (if a2 = (2 : Int32) then (gd a1 200 (some (fi_faultLines (Int32.toNatClampNeg a1)))) else (some (-1 : Int32)))))
      else
        (some (-1 : Int32)))))
def m_SpeciesSolver_fault (fi_faults : Int32) (fi_faultRules : Nat → Int32) (fi_faultNotes : Nat → Int32) (fi_faultLines : Nat → Int32)  (a1 : Int32) (a2 : Int32) : Option (Int32) :=
  (bd (m_FaultFinder_tell fi_faults fi_faultRules fi_faultNotes fi_faultLines a1 a2) (fun u1 => (some u1)))
def m_Rules_costOf_99 (F : Nat) (X_size : Int32) (X_notes : Nat → Int32) (su_lines : Int32) (su_length : Int32) (su_perNote : Int32) (su_numbers : Nat → Int32) (su_given : Nat → Nat → Int32) (k4 : Int32 → Int32 → Option (Int32))  (x2 : Int32) (x3 : Int32) : Option (Int32) :=
  k4 x2 (x3 + 1)
def m_Rules_costOf_52 (F : Nat) (X_size : Int32) (X_notes : Nat → Int32) (su_lines : Int32) (su_length : Int32) (su_perNote : Int32) (su_numbers : Nat → Int32) (su_given : Nat → Nat → Int32) (k4 : Int32 → Int32 → Option (Int32))  (x2 : Int32) (x3 : Int32) : Option (Int32) :=
  (if x3 < su_perNote then
    m_Rules_costOf_99 F X_size X_notes su_lines su_length su_perNote su_numbers su_given k4 x2 x3
  else
    (bd (m_Rules_isStrong su_perNote x3) (fun u2 => (if u2 = (0 : Int32) then
      m_Rules_costOf_99 F X_size X_notes su_lines su_length su_perNote su_numbers su_given k4 x2 x3
    else
      (gd (x3 - su_perNote) 45 (gd x3 45 (bd (m_Rules_strongMoveCost F su_lines su_perNote su_numbers su_given x3 (X_notes (Int32.toNatClampNeg (x3 - su_perNote))) (X_notes (Int32.toNatClampNeg x3))) (fun u7 => m_Rules_costOf_99 F X_size X_notes su_lines su_length su_perNote su_numbers su_given k4 (x2 + u7) x3))))))))
def m_Rules_costOf_4b (F : Nat) (X_size : Int32) (X_notes : Nat → Int32) (su_lines : Int32) (su_length : Int32) (su_perNote : Int32) (su_numbers : Nat → Int32) (su_given : Nat → Nat → Int32) (k4 : Int32 → Int32 → Option (Int32))  (x2 : Int32) (x3 : Int32) : Option (Int32) :=
  (if X_size ≤ x3 then
    (some x2)
  else
    (gd x3 45 (bd (m_Rules_noteCost F su_lines su_length su_perNote su_numbers su_given x3 (X_notes (Int32.toNatClampNeg x3))) (fun u3 => (if x3 < (1 : Int32) then
      m_Rules_costOf_52 F X_size X_notes su_lines su_length su_perNote su_numbers su_given k4 (x2 + u3) x3
    else
      (gd (x3 - (1 : Int32)) 45 (gd x3 45 (bd (m_Rules_moveCost su_numbers (X_notes (Int32.toNatClampNeg (x3 - (1 : Int32)))) (X_notes (Int32.toNatClampNeg x3))) (fun u8 => m_Rules_costOf_52 F X_size X_notes su_lines su_length su_perNote su_numbers su_given k4 ((x2 + u3) + u8) x3)))))))))
def m_Rules_costOf_4 (F : Nat) (X_size : Int32) (X_notes : Nat → Int32) (su_lines : Int32) (su_length : Int32) (su_perNote : Int32) (su_numbers : Nat → Int32) (su_given : Nat → Nat → Int32)  : Nat → Int32 → Int32 → Option (Int32)
  | 0 => fun _ _ => none
  | n + 1 => m_Rules_costOf_4b F X_size X_notes su_lines su_length su_perNote su_numbers su_given  (m_Rules_costOf_4 F X_size X_notes su_lines su_length su_perNote su_numbers su_given  n)
def m_Rules_costOf (F : Nat) (X_size : Int32) (X_notes : Nat → Int32) (su_lines : Int32) (su_length : Int32) (su_perNote : Int32) (su_numbers : Nat → Int32) (su_given : Nat → Nat → Int32)   : Option (Int32) :=
  m_Rules_costOf_4 F X_size X_notes su_lines su_length su_perNote su_numbers su_given  F (0 : Int32) (0 : Int32)
def m_SpeciesSolver_tried (F : Nat) (su_lines : Int32) (su_length : Int32) (su_perNote : Int32) (su_numbers : Nat → Int32) (su_given : Nat → Nat → Int32) (tr_size : Int32) (tr_notes : Nat → Int32)   : Option (Int32) :=
  (bd (m_SpeciesSolver_cannotJudge su_lines su_length su_perNote tr_size) (fun u1 => (if u1 = (0 : Int32) then
    (bd (m_Rules_costOf F tr_size tr_notes su_lines su_length su_perNote su_numbers su_given) (fun u4 => (some u4)))
  else
    (some (-1 : Int32)))))
def m_SpeciesSolver_told (su_lines : Int32) (su_length : Int32) (su_perNote : Int32) (dr_size : Int32) (tr_size : Int32) (be_size : Int32)  (a1 : Int32) : Option (Int32) :=
  (if a1 = (0 : Int32) then (some su_lines) else (if a1 = (1 : Int32) then (some su_length) else (if a1 = (2 : Int32) then (bd (m_Setup_total su_lines su_length su_perNote) (fun u4 => (some u4))) else (if a1 = (3 : Int32) then (some dr_size) else (if a1 = (4 : Int32) then (some tr_size) else (if a1 = (5 : Int32) then (some be_size) else (some (-1 : Int32))))))))
def m_SpeciesSolverModel_note  (md_drafted : Int32) (md_draft : Nat → Int32) (a1 : Int32) : Option (Int32 × Int32 × (Nat → Int32)) :=
  (if a1 < (0 : Int32) then
    (some ((-1 : Int32), md_drafted, md_draft))
  else
    (if (127 : Int32) < a1 then
      (some ((-1 : Int32), md_drafted, md_draft))
    else
      (if md_drafted = (45 : Int32) then
        (some ((-1 : Int32), md_drafted, md_draft))
      else
        (gd md_drafted 45 (some ((md_drafted + (1 : Int32)), (md_drafted + (1 : Int32)), (upd md_draft (Int32.toNatClampNeg md_drafted) a1)))))))
def m_SpeciesSolverModel_give_55b (F : Nat) (md_draft : Nat → Int32) (k55 : Int32 → Int32 → Int32 → (Nat → Int32) → Int32 → Option (Int32 × Int32 × Int32 × Int32 × (Nat → Int32))) (md_drafted : Int32) (md_lines : Int32) (md_n : Int32) (md_given : Nat → Int32) (x1 : Int32) : Option (Int32 × Int32 × Int32 × Int32 × (Nat → Int32)) :=
  (if md_n ≤ x1 then
    (some (((md_lines + (1 : Int32)) - (1 : Int32)), (0 : Int32), (md_lines + (1 : Int32)), md_n, md_given))
  else
    (gd x1 45 (gd (((12 : Int32) * md_lines) + x1) 36 (k55 md_drafted md_lines md_n (upd md_given (Int32.toNatClampNeg (((12 : Int32) * md_lines) + x1)) (md_draft (Int32.toNatClampNeg x1))) (x1 + 1)))))
def m_SpeciesSolverModel_give_55 (F : Nat) (md_draft : Nat → Int32)  : Nat → Int32 → Int32 → Int32 → (Nat → Int32) → Int32 → Option (Int32 × Int32 × Int32 × Int32 × (Nat → Int32))
  | 0 => fun _ _ _ _ _ => none
  | n + 1 => m_SpeciesSolverModel_give_55b F md_draft  (m_SpeciesSolverModel_give_55 F md_draft  n)
def m_SpeciesSolverModel_give_45 (F : Nat) (md_draft : Nat → Int32)  (md_drafted : Int32) (md_lines : Int32) (md_n : Int32) (md_given : Nat → Int32)  : Option (Int32 × Int32 × Int32 × Int32 × (Nat → Int32)) :=
  m_SpeciesSolverModel_give_55 F md_draft  F md_drafted md_lines md_drafted md_given (0 : Int32)
def m_SpeciesSolverModel_give (F : Nat) (md_draft : Nat → Int32) (md_drafted : Int32) (md_lines : Int32) (md_n : Int32) (md_given : Nat → Int32)  : Option (Int32 × Int32 × Int32 × Int32 × (Nat → Int32)) :=
  (if md_lines = (3 : Int32) then
    (some ((-1 : Int32), md_drafted, md_lines, md_n, md_given))
  else
    (if md_drafted < (2 : Int32) then
      (some ((-1 : Int32), md_drafted, md_lines, md_n, md_given))
    else
      (if (12 : Int32) < md_drafted then
        (some ((-1 : Int32), md_drafted, md_lines, md_n, md_given))
      else
        (if md_lines ≤ (0 : Int32) then
          m_SpeciesSolverModel_give_45 F md_draft  md_drafted md_lines md_n md_given
        else
          (if md_drafted = md_n then
            m_SpeciesSolverModel_give_45 F md_draft  md_drafted md_lines md_n md_given
          else
            (some ((-1 : Int32), md_drafted, md_lines, md_n, md_given)))))))
def m_SpeciesSolverModel_attempt_10b (F : Nat) (md_draft : Nat → Int32) (k10 : Int32 → Int32 → (Nat → Int32) → Int32 → Option (Int32 × Int32 × Int32 × (Nat → Int32))) (md_drafted : Int32) (md_trialSize : Int32) (md_trial : Nat → Int32) (x1 : Int32) : Option (Int32 × Int32 × Int32 × (Nat → Int32)) :=
  (if md_drafted ≤ x1 then
    (some (md_trialSize, (0 : Int32), md_trialSize, md_trial))
  else
    (gd x1 45 (gd x1 45 (k10 md_drafted md_trialSize (upd md_trial (Int32.toNatClampNeg x1) (md_draft (Int32.toNatClampNeg x1))) (x1 + 1)))))
def m_SpeciesSolverModel_attempt_10 (F : Nat) (md_draft : Nat → Int32)  : Nat → Int32 → Int32 → (Nat → Int32) → Int32 → Option (Int32 × Int32 × Int32 × (Nat → Int32))
  | 0 => fun _ _ _ _ => none
  | n + 1 => m_SpeciesSolverModel_attempt_10b F md_draft  (m_SpeciesSolverModel_attempt_10 F md_draft  n)
def m_SpeciesSolverModel_attempt (F : Nat) (md_draft : Nat → Int32) (md_drafted : Int32) (md_trialSize : Int32) (md_trial : Nat → Int32)  : Option (Int32 × Int32 × Int32 × (Nat → Int32)) :=
  m_SpeciesSolverModel_attempt_10 F md_draft  F md_drafted md_drafted md_trial (0 : Int32)
def m_SpeciesSolverModel_drop_27   (md_lines : Int32) (md_n : Int32) (x1 : Int32) (t1 : Int32) (t2 : Int32) : Option (Int32 × Int32 × Int32) :=
  (if (t1 - t2) = (0 : Int32) then
    (gb x1 (some (x1, (t1 - t2), (0 : Int32))))
  else
    (gb x1 (some (x1, (t1 - t2), md_n))))
def m_SpeciesSolverModel_drop_12   (md_lines : Int32) (md_n : Int32) (t0 : Int32) : Option (Int32 × Int32 × Int32) :=
  (if t0 = (0 : Int32) then
    m_SpeciesSolverModel_drop_27   md_lines md_n t0 md_lines (0 : Int32)
  else
    m_SpeciesSolverModel_drop_27   md_lines md_n t0 md_lines (1 : Int32))
def m_SpeciesSolverModel_drop  (md_lines : Int32) (md_n : Int32)  : Option (Int32 × Int32 × Int32) :=
  (if md_lines ≤ (0 : Int32) then
    m_SpeciesSolverModel_drop_12   md_lines md_n (0 : Int32)
  else
    m_SpeciesSolverModel_drop_12   md_lines md_n (1 : Int32))
def m_SpeciesSolverModel_species_20   (md_species : Int32) (md_above : Int32) (x1 : Int32) (x2 : Int32) (t0 : Int32) : Option (Int32 × Int32 × Int32) :=
  (if t0 = (0 : Int32) then
    (gb t0 (some (t0, md_species, md_above)))
  else
    (gb x2 (gb t0 (some (t0, x1, x2)))))
def m_SpeciesSolverModel_species_15   (md_species : Int32) (md_above : Int32) (x1 : Int32) (x2 : Int32) : Option (Int32 × Int32 × Int32) :=
  m_SpeciesSolverModel_species_20   md_species md_above x1 x2 (1 : Int32)
def m_SpeciesSolverModel_species  (md_species : Int32) (md_above : Int32) (a1 : Int32) (a2 : Int32) : Option (Int32 × Int32 × Int32) :=
  (if a1 = (1 : Int32) then
    m_SpeciesSolverModel_species_15   md_species md_above a1 a2
  else
    (if a1 = (2 : Int32) then
      m_SpeciesSolverModel_species_15   md_species md_above a1 a2
    else
      (if a1 = (4 : Int32) then
        m_SpeciesSolverModel_species_15   md_species md_above a1 a2
      else
        m_SpeciesSolverModel_species_20   md_species md_above a1 a2 (0 : Int32))))
def m_SpeciesSolverModel_rule_15   (md_on : Nat → Int32) (x1 : Int32) (x2 : Int32) (t0 : Int32) : Option (Int32 × (Nat → Int32)) :=
  (if t0 = (0 : Int32) then
    (gb t0 (some (t0, md_on)))
  else
    (gd x1 11 (gb t0 (some (t0, (upd md_on (Int32.toNatClampNeg x1) (vp_nar .boolean x2)))))))
def m_SpeciesSolverModel_rule_14   (md_on : Nat → Int32) (x1 : Int32) (x2 : Int32) : Option (Int32 × (Nat → Int32)) :=
  m_SpeciesSolverModel_rule_15   md_on x1 x2 (0 : Int32)
def m_SpeciesSolverModel_rule  (md_on : Nat → Int32) (a1 : Int32) (a2 : Int32) : Option (Int32 × (Nat → Int32)) :=
  (if a1 < (0 : Int32) then
    m_SpeciesSolverModel_rule_14   md_on a1 a2
  else
    (if (11 : Int32) ≤ a1 then
      m_SpeciesSolverModel_rule_14   md_on a1 a2
    else
      m_SpeciesSolverModel_rule_15   md_on a1 a2 (1 : Int32)))
def m_SpeciesSolverModel_leastOf   (a0 : Int32) : Option (Int32) :=
  (if a0 < (8 : Int32) then
    (some (0 : Int32))
  else
    (if (11 : Int32) < a0 then
      (some (0 : Int32))
    else
      (some (1 : Int32))))
def m_SpeciesSolverModel_mostOf   (a0 : Int32) : Option (Int32) :=
  (if a0 = (1 : Int32) then (some (127 : Int32)) else (if a0 = (2 : Int32) then (some (127 : Int32)) else (if a0 = (3 : Int32) then (if a0 ≤ (11 : Int32) then
      (some (4095 : Int32))
    else
      (some (1000 : Int32))) else (if a0 = (4 : Int32) then (if a0 ≤ (11 : Int32) then
      (some (4095 : Int32))
    else
      (some (1000 : Int32))) else (if a0 = (5 : Int32) then (if a0 ≤ (11 : Int32) then
      (some (4095 : Int32))
    else
      (some (1000 : Int32))) else (if a0 = (6 : Int32) then (if a0 ≤ (11 : Int32) then
      (some (4095 : Int32))
    else
      (some (1000 : Int32))) else (if a0 = (7 : Int32) then (some (33554431 : Int32)) else (if a0 = (8 : Int32) then (some (12 : Int32)) else (if a0 = (9 : Int32) then (some (24 : Int32)) else (if a0 = (10 : Int32) then (some (24 : Int32)) else (if a0 = (11 : Int32) then (some (3 : Int32)) else (if a0 ≤ (11 : Int32) then
    (some (4095 : Int32))
  else
    (some (1000 : Int32))))))))))))))
def m_SpeciesSolverModel_number_31   (md_numbers : Nat → Int32) (x1 : Int32) (x2 : Int32) (t0 : Int32) : Option (Int32 × (Nat → Int32)) :=
  (if t0 = (0 : Int32) then
    (gb t0 (some (t0, md_numbers)))
  else
    (gd x1 18 (gb t0 (some (t0, (upd md_numbers (Int32.toNatClampNeg x1) x2))))))
def m_SpeciesSolverModel_number_30   (md_numbers : Nat → Int32) (x1 : Int32) (x2 : Int32) : Option (Int32 × (Nat → Int32)) :=
  m_SpeciesSolverModel_number_31   md_numbers x1 x2 (0 : Int32)
def m_SpeciesSolverModel_number  (md_numbers : Nat → Int32) (a1 : Int32) (a2 : Int32) : Option (Int32 × (Nat → Int32)) :=
  (if a1 < (0 : Int32) then
    m_SpeciesSolverModel_number_30   md_numbers a1 a2
  else
    (if (18 : Int32) ≤ a1 then
      m_SpeciesSolverModel_number_30   md_numbers a1 a2
    else
      (bd (m_SpeciesSolverModel_leastOf a1) (fun u3 => (if a2 < u3 then
        m_SpeciesSolverModel_number_30   md_numbers a1 a2
      else
        (bd (m_SpeciesSolverModel_mostOf a1) (fun u6 => (if u6 < a2 then
          m_SpeciesSolverModel_number_30   md_numbers a1 a2
        else
          m_SpeciesSolverModel_number_31   md_numbers a1 a2 (1 : Int32)))))))))
def m_SpeciesSolverModel_setting (md_numbers : Nat → Int32)  (a1 : Int32) : Option (Int32) :=
  (if a1 < (0 : Int32) then
    (some (-1 : Int32))
  else
    (if a1 ≤ (17 : Int32) then
      (gd a1 18 (some (md_numbers (Int32.toNatClampNeg a1))))
    else
      (some (-1 : Int32))))
def m_SpeciesSolverModel_choose_77 (F : Nat) (md_numbers : Nat → Int32) (k12 : Int32 → (Nat → Int32) → Int32 → Option (Int32 × (Nat → Int32))) (md_chosen : Int32) (md_pitches : Nat → Int32) (x1 : Int32) : Option (Int32 × (Nat → Int32)) :=
  k12 md_chosen md_pitches (x1 + 1)
def m_SpeciesSolverModel_choose_67 (F : Nat) (md_numbers : Nat → Int32) (k12 : Int32 → (Nat → Int32) → Int32 → Option (Int32 × (Nat → Int32))) (md_chosen : Int32) (md_pitches : Nat → Int32) (x1 : Int32) : Option (Int32 × (Nat → Int32)) :=
  m_SpeciesSolverModel_choose_77 F md_numbers k12 (md_chosen + (1 : Int32)) md_pitches x1
def m_SpeciesSolverModel_choose_12b (F : Nat) (md_numbers : Nat → Int32) (k12 : Int32 → (Nat → Int32) → Int32 → Option (Int32 × (Nat → Int32))) (md_chosen : Int32) (md_pitches : Nat → Int32) (x1 : Int32) : Option (Int32 × (Nat → Int32)) :=
  (if (md_numbers (Int32.toNatClampNeg (2 : Int32))) < x1 then
    (some (md_chosen, md_pitches))
  else
    (if (9 : Int32) ≤ md_chosen then
      (some (md_chosen, md_pitches))
    else
      (if (((md_numbers (Int32.toNatClampNeg (0 : Int32))) >>> ((x1 - x1 / (12 : Int32) * (12 : Int32)) &&& 31)) &&& (1 : Int32)) = (1 : Int32) then
        (if (8 : Int32) ≤ md_chosen then
          m_SpeciesSolverModel_choose_67 F md_numbers k12 md_chosen md_pitches x1
        else
          (gd md_chosen 8 (m_SpeciesSolverModel_choose_67 F md_numbers k12 md_chosen (upd md_pitches (Int32.toNatClampNeg md_chosen) x1) x1)))
      else
        m_SpeciesSolverModel_choose_77 F md_numbers k12 md_chosen md_pitches x1)))
def m_SpeciesSolverModel_choose_12 (F : Nat) (md_numbers : Nat → Int32)  : Nat → Int32 → (Nat → Int32) → Int32 → Option (Int32 × (Nat → Int32))
  | 0 => fun _ _ _ => none
  | n + 1 => m_SpeciesSolverModel_choose_12b F md_numbers  (m_SpeciesSolverModel_choose_12 F md_numbers  n)
def m_SpeciesSolverModel_choose (F : Nat) (md_numbers : Nat → Int32) (md_chosen : Int32) (md_pitches : Nat → Int32)  : Option (Int32 × (Nat → Int32)) :=
  m_SpeciesSolverModel_choose_12 F md_numbers  F (0 : Int32) md_pitches (md_numbers (Int32.toNatClampNeg (1 : Int32)))
def m_SpeciesSolverModel_choice (F : Nat) (md_numbers : Nat → Int32) (md_chosen : Int32) (md_pitches : Nat → Int32)  : Option (Int32 × Int32 × (Nat → Int32)) :=
  (bd (m_SpeciesSolverModel_choose F md_numbers md_chosen md_pitches) (fun u1 => (if u1.1 ≤ (8 : Int32) then
    (some (u1.1, u1.1, u1.2))
  else
    (some ((-1 : Int32), u1.1, u1.2)))))
def m_SpeciesSolverModel_size (md_n : Int32) (md_species : Int32)   : Option (Int32) :=
  (some ((md_species * (md_n - (1 : Int32))) + (1 : Int32)))
def m_SpeciesSolverModel_far   (a0 : Int32) (a1 : Int32) : Option (Int32) :=
  (if a1 ≤ a0 then
    (some (a0 - a1))
  else
    (some (a1 - a0)))
def m_SpeciesSolverModel_isIn (md_numbers : Nat → Int32)  (a1 : Int32) (a2 : Int32) (a3 : Int32) : Option (Int32) :=
  (gd a1 18 (bd (m_SpeciesSolverModel_far a2 a3) (fun u2 => (if (((md_numbers (Int32.toNatClampNeg a1)) >>> ((u2 - u2 / (12 : Int32) * (12 : Int32)) &&& 31)) &&& (1 : Int32)) = (1 : Int32) then
    (some (1 : Int32))
  else
    (some (0 : Int32))))))
def m_SpeciesSolverModel_at (md_species : Int32) (md_given : Nat → Int32)  (a1 : Int32) (a2 : Int32) : Option (Int32) :=
  (nz md_species (gd (((12 : Int32) * a1) + (a2 / md_species)) 36 (some (md_given (Int32.toNatClampNeg (((12 : Int32) * a1) + (a2 / md_species)))))))
def m_SpeciesSolverModel_isStrong (md_species : Int32)  (a1 : Int32) : Option (Int32) :=
  (nz md_species (if (a1 - a1 / md_species * md_species) = (0 : Int32) then
    (some (1 : Int32))
  else
    (some (0 : Int32))))
def m_SpeciesSolverModel_way   (a0 : Int32) (a1 : Int32) : Option (Int32) :=
  (if a1 ≤ a0 then
    (if a0 ≤ a1 then
      (some (0 : Int32))
    else
      (some (-1 : Int32)))
  else
    (some (1 : Int32)))
def m_SpeciesSolverModel_isStep (md_numbers : Nat → Int32)  (a1 : Int32) (a2 : Int32) : Option (Int32) :=
  (bd (m_SpeciesSolverModel_far a1 a2) (fun u1 => (if u1 < (1 : Int32) then
    (some (0 : Int32))
  else
    (if (md_numbers (Int32.toNatClampNeg (8 : Int32))) < u1 then
      (some (0 : Int32))
    else
      (some (1 : Int32))))))
def m_SpeciesSolverModel_isAlike (md_species : Int32) (md_given : Nat → Int32)  (a1 : Int32) (a2 : Int32) (a3 : Int32) (a4 : Int32) : Option (Int32) :=
  (bd (m_SpeciesSolverModel_way a3 a4) (fun u1 => (if u1 = (0 : Int32) then
    (some (0 : Int32))
  else
    (nz md_species (gd ((((12 : Int32) * a1) + (a2 / md_species)) - (1 : Int32)) 36 (bd (m_SpeciesSolverModel_at md_species md_given a1 a2) (fun u6 => (bd (m_SpeciesSolverModel_way (md_given (Int32.toNatClampNeg ((((12 : Int32) * a1) + (a2 / md_species)) - (1 : Int32)))) u6) (fun u8 => (if u1 = u8 then
      (some (1 : Int32))
    else
      (some (0 : Int32))))))))))))
def m_SpeciesSolverModel_rule0 (md_species : Int32) (md_given : Nat → Int32) (md_numbers : Nat → Int32)  (a1 : Int32) (a2 : Int32) (a3 : Int32) : Option (Int32) :=
  (bd (m_SpeciesSolverModel_isStrong md_species a2) (fun u1 => (if u1 = (0 : Int32) then
    (some (0 : Int32))
  else
    (bd (m_SpeciesSolverModel_at md_species md_given a1 a2) (fun u4 => (bd (m_SpeciesSolverModel_isIn md_numbers (3 : Int32) a3 u4) (fun u6 => (if u6 = (0 : Int32) then
      (some (1 : Int32))
    else
      (some (0 : Int32))))))))))
def m_SpeciesSolverModel_rule1 (md_species : Int32) (md_given : Nat → Int32) (md_numbers : Nat → Int32)  (a1 : Int32) (a2 : Int32) (a3 : Int32) (a4 : Int32) : Option (Int32) :=
  (if a2 ≤ (0 : Int32) then
    (some (0 : Int32))
  else
    (bd (m_SpeciesSolverModel_isStrong md_species a2) (fun u2 => (if u2 = (0 : Int32) then
      (some (0 : Int32))
    else
      (bd (m_SpeciesSolverModel_at md_species md_given a1 a2) (fun u5 => (bd (m_SpeciesSolverModel_isIn md_numbers (4 : Int32) a4 u5) (fun u7 => (if u7 = (0 : Int32) then
        (some (0 : Int32))
      else
        (bd (m_SpeciesSolverModel_at md_species md_given a1 a2) (fun u10 => (bd (m_SpeciesSolverModel_far a4 u10) (fun u12 => (nz md_species (gd ((((12 : Int32) * a1) + (a2 / md_species)) - (1 : Int32)) 36 (bd (m_SpeciesSolverModel_far a3 (md_given (Int32.toNatClampNeg ((((12 : Int32) * a1) + (a2 / md_species)) - (1 : Int32))))) (fun u16 => (if (u12 - u12 / (12 : Int32) * (12 : Int32)) = (u16 - u16 / (12 : Int32) * (12 : Int32)) then
          (bd (m_SpeciesSolverModel_isAlike md_species md_given a1 a2 a3 a4) (fun u19 => (if u19 = (0 : Int32) then
            (some (0 : Int32))
          else
            (some (1 : Int32)))))
        else
          (some (0 : Int32))))))))))))))))))))
def m_SpeciesSolverModel_rule2 (md_species : Int32) (md_given : Nat → Int32) (md_numbers : Nat → Int32)  (a1 : Int32) (a2 : Int32) (a3 : Int32) (a4 : Int32) : Option (Int32) :=
  (if a2 ≤ (0 : Int32) then
    (some (0 : Int32))
  else
    (bd (m_SpeciesSolverModel_isStrong md_species a2) (fun u2 => (if u2 = (0 : Int32) then
      (some (0 : Int32))
    else
      (bd (m_SpeciesSolverModel_at md_species md_given a1 a2) (fun u5 => (bd (m_SpeciesSolverModel_isIn md_numbers (4 : Int32) a4 u5) (fun u7 => (if u7 = (0 : Int32) then
        (some (0 : Int32))
      else
        (bd (m_SpeciesSolverModel_isAlike md_species md_given a1 a2 a3 a4) (fun u10 => (if u10 = (0 : Int32) then
          (some (0 : Int32))
        else
          (bd (m_SpeciesSolverModel_far a3 a4) (fun u13 => (if u13 ≤ (md_numbers (Int32.toNatClampNeg (8 : Int32))) then
            (some (0 : Int32))
          else
            (some (1 : Int32)))))))))))))))))
def m_SpeciesSolverModel_rule3 (md_species : Int32) (md_above : Int32) (md_given : Nat → Int32)  (a1 : Int32) (a2 : Int32) (a3 : Int32) : Option (Int32) :=
  (if md_above = (0 : Int32) then
    (bd (m_SpeciesSolverModel_at md_species md_given a1 a2) (fun u2 => (if a3 ≤ u2 then
      (some (0 : Int32))
    else
      (some (1 : Int32)))))
  else
    (bd (m_SpeciesSolverModel_at md_species md_given a1 a2) (fun u5 => (if u5 ≤ a3 then
      (some (0 : Int32))
    else
      (some (1 : Int32))))))
def m_SpeciesSolverModel_isPassing (md_numbers : Nat → Int32)  (a1 : Int32) (a2 : Int32) (a3 : Int32) : Option (Int32) :=
  (bd (m_SpeciesSolverModel_way a1 a2) (fun u1 => (bd (m_SpeciesSolverModel_way a2 a3) (fun u3 => (if u1 = u3 then
    (bd (m_SpeciesSolverModel_isStep md_numbers a1 a2) (fun u6 => (if u6 = (0 : Int32) then
      (some (0 : Int32))
    else
      (bd (m_SpeciesSolverModel_isStep md_numbers a2 a3) (fun u9 => (if u9 = (0 : Int32) then
        (some (0 : Int32))
      else
        (some (1 : Int32))))))))
  else
    (some (0 : Int32)))))))
def m_SpeciesSolverModel_rule4 (md_species : Int32) (md_given : Nat → Int32) (md_numbers : Nat → Int32)  (a1 : Int32) (a2 : Int32) (a3 : Int32) (a4 : Int32) (a5 : Int32) : Option (Int32) :=
  (bd (m_SpeciesSolverModel_isStrong md_species a2) (fun u1 => (if u1 = (0 : Int32) then
    (bd (m_SpeciesSolverModel_at md_species md_given a1 a2) (fun u4 => (bd (m_SpeciesSolverModel_isIn md_numbers (3 : Int32) a4 u4) (fun u6 => (if u6 = (0 : Int32) then
      (bd (m_SpeciesSolverModel_isPassing md_numbers a3 a4 a5) (fun u9 => (if u9 = (0 : Int32) then
        (some (1 : Int32))
      else
        (some (0 : Int32)))))
    else
      (some (0 : Int32)))))))
  else
    (some (0 : Int32)))))
def m_SpeciesSolverModel_rule5 (md_numbers : Nat → Int32)  (a1 : Int32) (a2 : Int32) : Option (Int32) :=
  (bd (m_SpeciesSolverModel_far a1 a2) (fun u1 => (if (md_numbers (Int32.toNatClampNeg (9 : Int32))) < u1 then
    (some (1 : Int32))
  else
    (if (24 : Int32) < u1 then
      (some (0 : Int32))
    else
      (if (((md_numbers (Int32.toNatClampNeg (7 : Int32))) >>> (u1 &&& 31)) &&& (1 : Int32)) = (1 : Int32) then
        (some (1 : Int32))
      else
        (some (0 : Int32)))))))
def m_SpeciesSolverModel_rule6 (md_numbers : Nat → Int32)  (a1 : Int32) (a2 : Int32) (a3 : Int32) : Option (Int32) :=
  (bd (m_SpeciesSolverModel_far a1 a2) (fun u1 => (if u1 ≤ (md_numbers (Int32.toNatClampNeg (10 : Int32))) then
    (some (0 : Int32))
  else
    (bd (m_SpeciesSolverModel_way a2 a3) (fun u4 => (bd (m_SpeciesSolverModel_way a1 a2) (fun u6 => (if u4 = (-u6) then
      (bd (m_SpeciesSolverModel_isStep md_numbers a2 a3) (fun u9 => (if u9 = (0 : Int32) then
        (some (1 : Int32))
      else
        (some (0 : Int32)))))
    else
      (some (1 : Int32))))))))))
def m_SpeciesSolverModel_isHard_36 (F : Nat) (md_lines : Int32) (md_species : Int32) (md_given : Nat → Int32) (md_numbers : Nat → Int32) (k5 : Int32 → Int32 → Int32 → Int32 → Option (Int32))  (x1 : Int32) (x2 : Int32) (x4 : Int32) (t0 : Int32) (t1 : Int32) : Option (Int32) :=
  k5 x1 x2 (t0 ||| t1) (x4 + 1)
def m_SpeciesSolverModel_isHard_5b (F : Nat) (md_lines : Int32) (md_species : Int32) (md_given : Nat → Int32) (md_numbers : Nat → Int32) (k5 : Int32 → Int32 → Int32 → Int32 → Option (Int32))  (x1 : Int32) (x2 : Int32) (x3 : Int32) (x4 : Int32) : Option (Int32) :=
  (if md_lines ≤ x4 then
    (gb x3 (some x3))
  else
    (bd (m_SpeciesSolverModel_at md_species md_given x4 x1) (fun u3 => (bd (m_SpeciesSolverModel_isIn md_numbers (3 : Int32) x2 u3) (fun u5 => (if u5 = (0 : Int32) then
      m_SpeciesSolverModel_isHard_36 F md_lines md_species md_given md_numbers k5 x1 x2 x4 x3 (1 : Int32)
    else
      m_SpeciesSolverModel_isHard_36 F md_lines md_species md_given md_numbers k5 x1 x2 x4 x3 (0 : Int32)))))))
def m_SpeciesSolverModel_isHard_5 (F : Nat) (md_lines : Int32) (md_species : Int32) (md_given : Nat → Int32) (md_numbers : Nat → Int32)  : Nat → Int32 → Int32 → Int32 → Int32 → Option (Int32)
  | 0 => fun _ _ _ _ => none
  | n + 1 => m_SpeciesSolverModel_isHard_5b F md_lines md_species md_given md_numbers  (m_SpeciesSolverModel_isHard_5 F md_lines md_species md_given md_numbers  n)
def m_SpeciesSolverModel_isHard (F : Nat) (md_lines : Int32) (md_species : Int32) (md_given : Nat → Int32) (md_numbers : Nat → Int32)  (a1 : Int32) (a2 : Int32) : Option (Int32) :=
  m_SpeciesSolverModel_isHard_5 F md_lines md_species md_given md_numbers  F a1 a2 (0 : Int32) (0 : Int32)
def m_SpeciesSolverModel_moveCost_43 (md_numbers : Nat → Int32)   (x3 : Int32) (t0 : Int32) (t1 : Int32) : Option (Int32) :=
  (some ((t0 + t1) + (x3 * (md_numbers (Int32.toNatClampNeg (14 : Int32))))))
def m_SpeciesSolverModel_moveCost_21 (md_numbers : Nat → Int32)   (x3 : Int32) (t0 : Int32) : Option (Int32) :=
  (if x3 ≤ (md_numbers (Int32.toNatClampNeg (8 : Int32))) then
    m_SpeciesSolverModel_moveCost_43 md_numbers  x3 t0 (0 : Int32)
  else
    m_SpeciesSolverModel_moveCost_43 md_numbers  x3 t0 (md_numbers (Int32.toNatClampNeg (13 : Int32))))
def m_SpeciesSolverModel_moveCost (md_numbers : Nat → Int32)  (a1 : Int32) (a2 : Int32) : Option (Int32) :=
  (bd (m_SpeciesSolverModel_far a1 a2) (fun u1 => (if u1 = (0 : Int32) then
    m_SpeciesSolverModel_moveCost_21 md_numbers  u1 (md_numbers (Int32.toNatClampNeg (12 : Int32)))
  else
    m_SpeciesSolverModel_moveCost_21 md_numbers  u1 (0 : Int32))))
def m_SpeciesSolverModel_noteCost_98 (F : Nat) (md_lines : Int32) (md_n : Int32) (md_species : Int32) (md_given : Nat → Int32) (md_numbers : Nat → Int32) (k14 : Int32 → Int32 → Int32 → Int32 → Int32 → Option (Int32))  (x1 : Int32) (x2 : Int32) (x3 : Int32) (x5 : Int32) (t0 : Int32) (t1 : Int32) : Option (Int32) :=
  k14 x1 x2 x3 (t0 + t1) (x5 + 1)
def m_SpeciesSolverModel_noteCost_97 (F : Nat) (md_lines : Int32) (md_n : Int32) (md_species : Int32) (md_given : Nat → Int32) (md_numbers : Nat → Int32) (k14 : Int32 → Int32 → Int32 → Int32 → Int32 → Option (Int32))  (x1 : Int32) (x2 : Int32) (x3 : Int32) (x5 : Int32) (t0 : Int32) : Option (Int32) :=
  m_SpeciesSolverModel_noteCost_98 F md_lines md_n md_species md_given md_numbers k14 x1 x2 x3 x5 t0 (0 : Int32)
def m_SpeciesSolverModel_noteCost_52 (F : Nat) (md_lines : Int32) (md_n : Int32) (md_species : Int32) (md_given : Nat → Int32) (md_numbers : Nat → Int32) (k14 : Int32 → Int32 → Int32 → Int32 → Int32 → Option (Int32))  (x1 : Int32) (x2 : Int32) (x3 : Int32) (x5 : Int32) (t0 : Int32) (t1 : Int32) : Option (Int32) :=
  (if x1 ≤ (0 : Int32) then
    m_SpeciesSolverModel_noteCost_97 F md_lines md_n md_species md_given md_numbers k14 x1 x2 x3 x5 (t0 + t1)
  else
    (bd (m_SpeciesSolverModel_size md_n md_species) (fun u2 => (if (u2 - (1 : Int32)) ≤ x1 then
      m_SpeciesSolverModel_noteCost_97 F md_lines md_n md_species md_given md_numbers k14 x1 x2 x3 x5 (t0 + t1)
    else
      (bd (m_SpeciesSolverModel_at md_species md_given x5 x1) (fun u5 => (bd (m_SpeciesSolverModel_isIn md_numbers (4 : Int32) x3 u5) (fun u7 => (if u7 = (0 : Int32) then
        m_SpeciesSolverModel_noteCost_97 F md_lines md_n md_species md_given md_numbers k14 x1 x2 x3 x5 (t0 + t1)
      else
        m_SpeciesSolverModel_noteCost_98 F md_lines md_n md_species md_given md_numbers k14 x1 x2 x3 x5 (t0 + t1) (md_numbers (Int32.toNatClampNeg (16 : Int32))))))))))))
def m_SpeciesSolverModel_noteCost_51 (F : Nat) (md_lines : Int32) (md_n : Int32) (md_species : Int32) (md_given : Nat → Int32) (md_numbers : Nat → Int32) (k14 : Int32 → Int32 → Int32 → Int32 → Int32 → Option (Int32))  (x1 : Int32) (x2 : Int32) (x3 : Int32) (x5 : Int32) (t0 : Int32) : Option (Int32) :=
  m_SpeciesSolverModel_noteCost_52 F md_lines md_n md_species md_given md_numbers k14 x1 x2 x3 x5 t0 (0 : Int32)
def m_SpeciesSolverModel_noteCost_14b (F : Nat) (md_lines : Int32) (md_n : Int32) (md_species : Int32) (md_given : Nat → Int32) (md_numbers : Nat → Int32) (k14 : Int32 → Int32 → Int32 → Int32 → Int32 → Option (Int32))  (x1 : Int32) (x2 : Int32) (x3 : Int32) (x4 : Int32) (x5 : Int32) : Option (Int32) :=
  (if md_lines ≤ x5 then
    (some x4)
  else
    (if x1 ≤ (0 : Int32) then
      m_SpeciesSolverModel_noteCost_51 F md_lines md_n md_species md_given md_numbers k14 x1 x2 x3 x5 x4
    else
      (bd (m_SpeciesSolverModel_isAlike md_species md_given x5 x1 x2 x3) (fun u3 => (if u3 = (0 : Int32) then
        m_SpeciesSolverModel_noteCost_51 F md_lines md_n md_species md_given md_numbers k14 x1 x2 x3 x5 x4
      else
        m_SpeciesSolverModel_noteCost_52 F md_lines md_n md_species md_given md_numbers k14 x1 x2 x3 x5 x4 (md_numbers (Int32.toNatClampNeg (15 : Int32))))))))
def m_SpeciesSolverModel_noteCost_14 (F : Nat) (md_lines : Int32) (md_n : Int32) (md_species : Int32) (md_given : Nat → Int32) (md_numbers : Nat → Int32)  : Nat → Int32 → Int32 → Int32 → Int32 → Int32 → Option (Int32)
  | 0 => fun _ _ _ _ _ => none
  | n + 1 => m_SpeciesSolverModel_noteCost_14b F md_lines md_n md_species md_given md_numbers  (m_SpeciesSolverModel_noteCost_14 F md_lines md_n md_species md_given md_numbers  n)
def m_SpeciesSolverModel_noteCost (F : Nat) (md_lines : Int32) (md_n : Int32) (md_species : Int32) (md_given : Nat → Int32) (md_numbers : Nat → Int32)  (a1 : Int32) (a2 : Int32) (a3 : Int32) : Option (Int32) :=
  (bd (m_SpeciesSolverModel_isStrong md_species a1) (fun u1 => (if u1 = (0 : Int32) then
    (bd (m_SpeciesSolverModel_isHard F md_lines md_species md_given md_numbers a1 a3) (fun u4 => (if u4 = (0 : Int32) then
      (some ((0 : Int32) + (0 : Int32)))
    else
      (some ((0 : Int32) + (md_numbers (Int32.toNatClampNeg (17 : Int32))))))))
  else
    m_SpeciesSolverModel_noteCost_14 F md_lines md_n md_species md_given md_numbers  F a1 a2 a3 (0 : Int32) (0 : Int32))))
def m_SpeciesSolverModel_state   (a0 : Int32) (a1 : Int32) (a2 : Int32) (a3 : Int32) : Option (Int32) :=
  (some ((((((a0 * (10 : Int32)) + a1) * (8 : Int32)) + a2) * (2 : Int32)) + a3))
def m_SpeciesSolverModel_before   (a0 : Int32) (a1 : Int32) : Option (Int32) :=
  (if a1 = (9 : Int32) then
    (some a0)
  else
    (some (a1 - (1 : Int32))))
def m_SpeciesSolverModel_runOf   (a0 : Int32) (a1 : Int32) : Option (Int32) :=
  (if a1 = (9 : Int32) then
    (some (3 : Int32))
  else
    (if a1 ≤ (0 : Int32) then
      (some (1 : Int32))
    else
      (if (a1 - (1 : Int32)) = a0 then
        (some (2 : Int32))
      else
        (some (1 : Int32)))))
def m_SpeciesSolverModel_nextHow   (a0 : Int32) (a1 : Int32) (a2 : Int32) : Option (Int32) :=
  (if a2 = a0 then
    (bd (m_SpeciesSolverModel_runOf a0 a1) (fun u2 => (if u2 < (2 : Int32) then
      (some (a0 + (1 : Int32)))
    else
      (some (9 : Int32)))))
  else
    (some (a0 + (1 : Int32))))
def m_SpeciesSolverModel_mayFollow_299 (F : Nat) (md_lines : Int32) (md_n : Int32) (md_species : Int32) (md_above : Int32) (md_given : Nat → Int32) (md_on : Nat → Int32) (md_numbers : Nat → Int32) (md_pitches : Nat → Int32)   (x1 : Int32) (x6 : Int32) (x7 : Int32) (x8 : Int32) (t0 : Int32) (t1 : Int32) : Option (Int32) :=
  (if x6 = (0 : Int32) then
    (gb (t0 &&& t1) (some (t0 &&& t1)))
  else
    (bd (m_SpeciesSolverModel_size md_n md_species) (fun u3 => (if x1 = (u3 - (1 : Int32)) then
      (if (md_on (Int32.toNatClampNeg (9 : Int32))) = (0 : Int32) then
        (gb (t0 &&& t1) (some (t0 &&& t1)))
      else
        (bd (m_SpeciesSolverModel_at md_species md_given (0 : Int32) x1) (fun u9 => (bd (m_SpeciesSolverModel_isIn md_numbers (6 : Int32) x8 u9) (fun u11 => (if u11 = (0 : Int32) then
          (gb ((t0 &&& t1) &&& (0 : Int32)) (some ((t0 &&& t1) &&& (0 : Int32))))
        else
          (bd (m_SpeciesSolverModel_isStep md_numbers x7 x8) (fun u15 => (if u15 = (0 : Int32) then
            (gb ((t0 &&& t1) &&& (0 : Int32)) (some ((t0 &&& t1) &&& (0 : Int32))))
          else
            (gb ((t0 &&& t1) &&& (1 : Int32)) (some ((t0 &&& t1) &&& (1 : Int32)))))))))))))
    else
      (gb (t0 &&& t1) (some (t0 &&& t1)))))))
def m_SpeciesSolverModel_mayFollow_294 (F : Nat) (md_lines : Int32) (md_n : Int32) (md_species : Int32) (md_above : Int32) (md_given : Nat → Int32) (md_on : Nat → Int32) (md_numbers : Nat → Int32) (md_pitches : Nat → Int32)   (x1 : Int32) (x6 : Int32) (x7 : Int32) (x8 : Int32) (t0 : Int32) : Option (Int32) :=
  m_SpeciesSolverModel_mayFollow_299 F md_lines md_n md_species md_above md_given md_on md_numbers md_pitches  x1 x6 x7 x8 t0 (1 : Int32)
def m_SpeciesSolverModel_mayFollow_258 (F : Nat) (md_lines : Int32) (md_n : Int32) (md_species : Int32) (md_above : Int32) (md_given : Nat → Int32) (md_on : Nat → Int32) (md_numbers : Nat → Int32) (md_pitches : Nat → Int32)   (x1 : Int32) (x2 : Int32) (x3 : Int32) (x5 : Int32) (x6 : Int32) (x7 : Int32) (x8 : Int32) (t0 : Int32) (t1 : Int32) : Option (Int32) :=
  (if (md_on (Int32.toNatClampNeg (7 : Int32))) = (0 : Int32) then
    m_SpeciesSolverModel_mayFollow_294 F md_lines md_n md_species md_above md_given md_on md_numbers md_pitches  x1 x6 x7 x8 (t0 &&& t1)
  else
    (if x5 = x2 then
      (bd (m_SpeciesSolverModel_runOf x2 x3) (fun u3 => (if (md_numbers (Int32.toNatClampNeg (11 : Int32))) ≤ u3 then
        m_SpeciesSolverModel_mayFollow_299 F md_lines md_n md_species md_above md_given md_on md_numbers md_pitches  x1 x6 x7 x8 (t0 &&& t1) (0 : Int32)
      else
        m_SpeciesSolverModel_mayFollow_294 F md_lines md_n md_species md_above md_given md_on md_numbers md_pitches  x1 x6 x7 x8 (t0 &&& t1))))
    else
      m_SpeciesSolverModel_mayFollow_294 F md_lines md_n md_species md_above md_given md_on md_numbers md_pitches  x1 x6 x7 x8 (t0 &&& t1)))
def m_SpeciesSolverModel_mayFollow_257 (F : Nat) (md_lines : Int32) (md_n : Int32) (md_species : Int32) (md_above : Int32) (md_given : Nat → Int32) (md_on : Nat → Int32) (md_numbers : Nat → Int32) (md_pitches : Nat → Int32)   (x1 : Int32) (x2 : Int32) (x3 : Int32) (x5 : Int32) (x6 : Int32) (x7 : Int32) (x8 : Int32) (t0 : Int32) : Option (Int32) :=
  m_SpeciesSolverModel_mayFollow_258 F md_lines md_n md_species md_above md_given md_on md_numbers md_pitches  x1 x2 x3 x5 x6 x7 x8 t0 (0 : Int32)
def m_SpeciesSolverModel_mayFollow_253 (F : Nat) (md_lines : Int32) (md_n : Int32) (md_species : Int32) (md_above : Int32) (md_given : Nat → Int32) (md_on : Nat → Int32) (md_numbers : Nat → Int32) (md_pitches : Nat → Int32)   (x1 : Int32) (x2 : Int32) (x3 : Int32) (x5 : Int32) (x6 : Int32) (x7 : Int32) (x8 : Int32) (t0 : Int32) : Option (Int32) :=
  m_SpeciesSolverModel_mayFollow_258 F md_lines md_n md_species md_above md_given md_on md_numbers md_pitches  x1 x2 x3 x5 x6 x7 x8 t0 (1 : Int32)
def m_SpeciesSolverModel_mayFollow_218 (F : Nat) (md_lines : Int32) (md_n : Int32) (md_species : Int32) (md_above : Int32) (md_given : Nat → Int32) (md_on : Nat → Int32) (md_numbers : Nat → Int32) (md_pitches : Nat → Int32)   (x1 : Int32) (x2 : Int32) (x3 : Int32) (x5 : Int32) (x6 : Int32) (x7 : Int32) (x8 : Int32) (t0 : Int32) : Option (Int32) :=
  (if (md_on (Int32.toNatClampNeg (6 : Int32))) = (0 : Int32) then
    m_SpeciesSolverModel_mayFollow_253 F md_lines md_n md_species md_above md_given md_on md_numbers md_pitches  x1 x2 x3 x5 x6 x7 x8 t0
  else
    (if x3 ≤ (0 : Int32) then
      m_SpeciesSolverModel_mayFollow_253 F md_lines md_n md_species md_above md_given md_on md_numbers md_pitches  x1 x2 x3 x5 x6 x7 x8 t0
    else
      (bd (m_SpeciesSolverModel_before x2 x3) (fun u3 => (gd u3 8 (bd (m_SpeciesSolverModel_rule6 md_numbers (md_pitches (Int32.toNatClampNeg u3)) x7 x8) (fun u6 => (if u6 = (0 : Int32) then
        m_SpeciesSolverModel_mayFollow_253 F md_lines md_n md_species md_above md_given md_on md_numbers md_pitches  x1 x2 x3 x5 x6 x7 x8 t0
      else
        m_SpeciesSolverModel_mayFollow_257 F md_lines md_n md_species md_above md_given md_on md_numbers md_pitches  x1 x2 x3 x5 x6 x7 x8 t0))))))))
def m_SpeciesSolverModel_mayFollow_196 (F : Nat) (md_lines : Int32) (md_n : Int32) (md_species : Int32) (md_above : Int32) (md_given : Nat → Int32) (md_on : Nat → Int32) (md_numbers : Nat → Int32) (md_pitches : Nat → Int32)   (x1 : Int32) (x2 : Int32) (x3 : Int32) (x5 : Int32) (x6 : Int32) (x7 : Int32) (x8 : Int32) (x10 : Int32) : Option (Int32) :=
  (if (md_on (Int32.toNatClampNeg (5 : Int32))) = (0 : Int32) then
    m_SpeciesSolverModel_mayFollow_218 F md_lines md_n md_species md_above md_given md_on md_numbers md_pitches  x1 x2 x3 x5 x6 x7 x8 x10
  else
    (bd (m_SpeciesSolverModel_rule5 md_numbers x7 x8) (fun u2 => (if u2 = (0 : Int32) then
      m_SpeciesSolverModel_mayFollow_218 F md_lines md_n md_species md_above md_given md_on md_numbers md_pitches  x1 x2 x3 x5 x6 x7 x8 x10
    else
      m_SpeciesSolverModel_mayFollow_257 F md_lines md_n md_species md_above md_given md_on md_numbers md_pitches  x1 x2 x3 x5 x6 x7 x8 x10))))
def m_SpeciesSolverModel_mayFollow_187 (F : Nat) (md_lines : Int32) (md_n : Int32) (md_species : Int32) (md_above : Int32) (md_given : Nat → Int32) (md_on : Nat → Int32) (md_numbers : Nat → Int32) (md_pitches : Nat → Int32) (k32 : Int32 → Int32 → Int32 → Int32 → Int32 → Int32 → Int32 → Int32 → Int32 → Int32 → Option (Int32))  (x1 : Int32) (x2 : Int32) (x3 : Int32) (x5 : Int32) (x6 : Int32) (x7 : Int32) (x8 : Int32) (x9 : Int32) (x11 : Int32) (t0 : Int32) (t1 : Int32) : Option (Int32) :=
  k32 x1 x2 x3 x5 x6 x7 x8 x9 (t0 &&& t1) (x11 + 1)
def m_SpeciesSolverModel_mayFollow_182 (F : Nat) (md_lines : Int32) (md_n : Int32) (md_species : Int32) (md_above : Int32) (md_given : Nat → Int32) (md_on : Nat → Int32) (md_numbers : Nat → Int32) (md_pitches : Nat → Int32) (k32 : Int32 → Int32 → Int32 → Int32 → Int32 → Int32 → Int32 → Int32 → Int32 → Int32 → Option (Int32))  (x1 : Int32) (x2 : Int32) (x3 : Int32) (x5 : Int32) (x6 : Int32) (x7 : Int32) (x8 : Int32) (x9 : Int32) (x11 : Int32) (t0 : Int32) : Option (Int32) :=
  m_SpeciesSolverModel_mayFollow_187 F md_lines md_n md_species md_above md_given md_on md_numbers md_pitches k32 x1 x2 x3 x5 x6 x7 x8 x9 x11 t0 (1 : Int32)
def m_SpeciesSolverModel_mayFollow_139 (F : Nat) (md_lines : Int32) (md_n : Int32) (md_species : Int32) (md_above : Int32) (md_given : Nat → Int32) (md_on : Nat → Int32) (md_numbers : Nat → Int32) (md_pitches : Nat → Int32) (k32 : Int32 → Int32 → Int32 → Int32 → Int32 → Int32 → Int32 → Int32 → Int32 → Int32 → Option (Int32))  (x1 : Int32) (x2 : Int32) (x3 : Int32) (x5 : Int32) (x6 : Int32) (x7 : Int32) (x8 : Int32) (x9 : Int32) (x11 : Int32) (t0 : Int32) : Option (Int32) :=
  (if (md_on (Int32.toNatClampNeg (4 : Int32))) = (0 : Int32) then
    m_SpeciesSolverModel_mayFollow_182 F md_lines md_n md_species md_above md_given md_on md_numbers md_pitches k32 x1 x2 x3 x5 x6 x7 x8 x9 x11 t0
  else
    (if x3 ≤ (0 : Int32) then
      m_SpeciesSolverModel_mayFollow_182 F md_lines md_n md_species md_above md_given md_on md_numbers md_pitches k32 x1 x2 x3 x5 x6 x7 x8 x9 x11 t0
    else
      (bd (m_SpeciesSolverModel_before x2 x3) (fun u3 => (gd u3 8 (bd (m_SpeciesSolverModel_rule4 md_species md_given md_numbers x11 (x1 - (1 : Int32)) (md_pitches (Int32.toNatClampNeg u3)) x7 x8) (fun u6 => (if u6 = (0 : Int32) then
        m_SpeciesSolverModel_mayFollow_182 F md_lines md_n md_species md_above md_given md_on md_numbers md_pitches k32 x1 x2 x3 x5 x6 x7 x8 x9 x11 t0
      else
        m_SpeciesSolverModel_mayFollow_187 F md_lines md_n md_species md_above md_given md_on md_numbers md_pitches k32 x1 x2 x3 x5 x6 x7 x8 x9 x11 t0 (0 : Int32)))))))))
def m_SpeciesSolverModel_mayFollow_138 (F : Nat) (md_lines : Int32) (md_n : Int32) (md_species : Int32) (md_above : Int32) (md_given : Nat → Int32) (md_on : Nat → Int32) (md_numbers : Nat → Int32) (md_pitches : Nat → Int32) (k32 : Int32 → Int32 → Int32 → Int32 → Int32 → Int32 → Int32 → Int32 → Int32 → Int32 → Option (Int32))  (x1 : Int32) (x2 : Int32) (x3 : Int32) (x5 : Int32) (x6 : Int32) (x7 : Int32) (x8 : Int32) (x9 : Int32) (x11 : Int32) : Option (Int32) :=
  m_SpeciesSolverModel_mayFollow_139 F md_lines md_n md_species md_above md_given md_on md_numbers md_pitches k32 x1 x2 x3 x5 x6 x7 x8 x9 x11 (0 : Int32)
def m_SpeciesSolverModel_mayFollow_134 (F : Nat) (md_lines : Int32) (md_n : Int32) (md_species : Int32) (md_above : Int32) (md_given : Nat → Int32) (md_on : Nat → Int32) (md_numbers : Nat → Int32) (md_pitches : Nat → Int32) (k32 : Int32 → Int32 → Int32 → Int32 → Int32 → Int32 → Int32 → Int32 → Int32 → Int32 → Option (Int32))  (x1 : Int32) (x2 : Int32) (x3 : Int32) (x5 : Int32) (x6 : Int32) (x7 : Int32) (x8 : Int32) (x9 : Int32) (x11 : Int32) : Option (Int32) :=
  m_SpeciesSolverModel_mayFollow_139 F md_lines md_n md_species md_above md_given md_on md_numbers md_pitches k32 x1 x2 x3 x5 x6 x7 x8 x9 x11 (1 : Int32)
def m_SpeciesSolverModel_mayFollow_113 (F : Nat) (md_lines : Int32) (md_n : Int32) (md_species : Int32) (md_above : Int32) (md_given : Nat → Int32) (md_on : Nat → Int32) (md_numbers : Nat → Int32) (md_pitches : Nat → Int32) (k32 : Int32 → Int32 → Int32 → Int32 → Int32 → Int32 → Int32 → Int32 → Int32 → Int32 → Option (Int32))  (x1 : Int32) (x2 : Int32) (x3 : Int32) (x5 : Int32) (x6 : Int32) (x7 : Int32) (x8 : Int32) (x9 : Int32) (x11 : Int32) : Option (Int32) :=
  (if (md_on (Int32.toNatClampNeg (3 : Int32))) = (0 : Int32) then
    m_SpeciesSolverModel_mayFollow_134 F md_lines md_n md_species md_above md_given md_on md_numbers md_pitches k32 x1 x2 x3 x5 x6 x7 x8 x9 x11
  else
    (bd (m_SpeciesSolverModel_rule3 md_species md_above md_given x11 x1 x8) (fun u2 => (if u2 = (0 : Int32) then
      m_SpeciesSolverModel_mayFollow_134 F md_lines md_n md_species md_above md_given md_on md_numbers md_pitches k32 x1 x2 x3 x5 x6 x7 x8 x9 x11
    else
      m_SpeciesSolverModel_mayFollow_138 F md_lines md_n md_species md_above md_given md_on md_numbers md_pitches k32 x1 x2 x3 x5 x6 x7 x8 x9 x11))))
def m_SpeciesSolverModel_mayFollow_90 (F : Nat) (md_lines : Int32) (md_n : Int32) (md_species : Int32) (md_above : Int32) (md_given : Nat → Int32) (md_on : Nat → Int32) (md_numbers : Nat → Int32) (md_pitches : Nat → Int32) (k32 : Int32 → Int32 → Int32 → Int32 → Int32 → Int32 → Int32 → Int32 → Int32 → Int32 → Option (Int32))  (x1 : Int32) (x2 : Int32) (x3 : Int32) (x5 : Int32) (x6 : Int32) (x7 : Int32) (x8 : Int32) (x9 : Int32) (x11 : Int32) : Option (Int32) :=
  (if (md_on (Int32.toNatClampNeg (2 : Int32))) = (0 : Int32) then
    m_SpeciesSolverModel_mayFollow_113 F md_lines md_n md_species md_above md_given md_on md_numbers md_pitches k32 x1 x2 x3 x5 x6 x7 x8 x9 x11
  else
    (bd (m_SpeciesSolverModel_rule2 md_species md_given md_numbers x11 x1 x9 x8) (fun u2 => (if u2 = (0 : Int32) then
      m_SpeciesSolverModel_mayFollow_113 F md_lines md_n md_species md_above md_given md_on md_numbers md_pitches k32 x1 x2 x3 x5 x6 x7 x8 x9 x11
    else
      m_SpeciesSolverModel_mayFollow_138 F md_lines md_n md_species md_above md_given md_on md_numbers md_pitches k32 x1 x2 x3 x5 x6 x7 x8 x9 x11))))
def m_SpeciesSolverModel_mayFollow_67 (F : Nat) (md_lines : Int32) (md_n : Int32) (md_species : Int32) (md_above : Int32) (md_given : Nat → Int32) (md_on : Nat → Int32) (md_numbers : Nat → Int32) (md_pitches : Nat → Int32) (k32 : Int32 → Int32 → Int32 → Int32 → Int32 → Int32 → Int32 → Int32 → Int32 → Int32 → Option (Int32))  (x1 : Int32) (x2 : Int32) (x3 : Int32) (x5 : Int32) (x6 : Int32) (x7 : Int32) (x8 : Int32) (x9 : Int32) (x11 : Int32) : Option (Int32) :=
  (if (md_on (Int32.toNatClampNeg (1 : Int32))) = (0 : Int32) then
    m_SpeciesSolverModel_mayFollow_90 F md_lines md_n md_species md_above md_given md_on md_numbers md_pitches k32 x1 x2 x3 x5 x6 x7 x8 x9 x11
  else
    (bd (m_SpeciesSolverModel_rule1 md_species md_given md_numbers x11 x1 x9 x8) (fun u2 => (if u2 = (0 : Int32) then
      m_SpeciesSolverModel_mayFollow_90 F md_lines md_n md_species md_above md_given md_on md_numbers md_pitches k32 x1 x2 x3 x5 x6 x7 x8 x9 x11
    else
      m_SpeciesSolverModel_mayFollow_138 F md_lines md_n md_species md_above md_given md_on md_numbers md_pitches k32 x1 x2 x3 x5 x6 x7 x8 x9 x11))))
def m_SpeciesSolverModel_mayFollow_32b (F : Nat) (md_lines : Int32) (md_n : Int32) (md_species : Int32) (md_above : Int32) (md_given : Nat → Int32) (md_on : Nat → Int32) (md_numbers : Nat → Int32) (md_pitches : Nat → Int32) (k32 : Int32 → Int32 → Int32 → Int32 → Int32 → Int32 → Int32 → Int32 → Int32 → Int32 → Option (Int32))  (x1 : Int32) (x2 : Int32) (x3 : Int32) (x5 : Int32) (x6 : Int32) (x7 : Int32) (x8 : Int32) (x9 : Int32) (x10 : Int32) (x11 : Int32) : Option (Int32) :=
  (if md_lines ≤ x11 then
    m_SpeciesSolverModel_mayFollow_196 F md_lines md_n md_species md_above md_given md_on md_numbers md_pitches  x1 x2 x3 x5 x6 x7 x8 x10
  else
    (if x10 = (0 : Int32) then
      m_SpeciesSolverModel_mayFollow_196 F md_lines md_n md_species md_above md_given md_on md_numbers md_pitches  x1 x2 x3 x5 x6 x7 x8 x10
    else
      (if (md_on (Int32.toNatClampNeg (0 : Int32))) = (0 : Int32) then
        m_SpeciesSolverModel_mayFollow_67 F md_lines md_n md_species md_above md_given md_on md_numbers md_pitches k32 x1 x2 x3 x5 x6 x7 x8 x9 x11
      else
        (bd (m_SpeciesSolverModel_rule0 md_species md_given md_numbers x11 x1 x8) (fun u4 => (if u4 = (0 : Int32) then
          m_SpeciesSolverModel_mayFollow_67 F md_lines md_n md_species md_above md_given md_on md_numbers md_pitches k32 x1 x2 x3 x5 x6 x7 x8 x9 x11
        else
          m_SpeciesSolverModel_mayFollow_138 F md_lines md_n md_species md_above md_given md_on md_numbers md_pitches k32 x1 x2 x3 x5 x6 x7 x8 x9 x11))))))
def m_SpeciesSolverModel_mayFollow_32 (F : Nat) (md_lines : Int32) (md_n : Int32) (md_species : Int32) (md_above : Int32) (md_given : Nat → Int32) (md_on : Nat → Int32) (md_numbers : Nat → Int32) (md_pitches : Nat → Int32)  : Nat → Int32 → Int32 → Int32 → Int32 → Int32 → Int32 → Int32 → Int32 → Int32 → Int32 → Option (Int32)
  | 0 => fun _ _ _ _ _ _ _ _ _ _ => none
  | n + 1 => m_SpeciesSolverModel_mayFollow_32b F md_lines md_n md_species md_above md_given md_on md_numbers md_pitches  (m_SpeciesSolverModel_mayFollow_32 F md_lines md_n md_species md_above md_given md_on md_numbers md_pitches  n)
def m_SpeciesSolverModel_mayFollow (F : Nat) (md_lines : Int32) (md_n : Int32) (md_species : Int32) (md_above : Int32) (md_given : Nat → Int32) (md_on : Nat → Int32) (md_numbers : Nat → Int32) (md_pitches : Nat → Int32)  (a1 : Int32) (a2 : Int32) (a3 : Int32) (a4 : Int32) (a5 : Int32) (a6 : Int32) : Option (Int32) :=
  (gd a2 8 (gd a5 8 (gd a4 8 (m_SpeciesSolverModel_mayFollow_32 F md_lines md_n md_species md_above md_given md_on md_numbers md_pitches  F a1 a2 a3 a5 a6 (md_pitches (Int32.toNatClampNeg a2)) (md_pitches (Int32.toNatClampNeg a5)) (md_pitches (Int32.toNatClampNeg a4)) (1 : Int32) (0 : Int32)))))
def m_SpeciesSolverModel_mayBegin_103 (F : Nat) (md_lines : Int32) (md_species : Int32) (md_above : Int32) (md_given : Nat → Int32) (md_on : Nat → Int32) (md_numbers : Nat → Int32) (md_pitches : Nat → Int32) (k38 : Int32 → Int32 → Int32 → Option (Int32))  (x1 : Int32) (x3 : Int32) (t0 : Int32) : Option (Int32) :=
  k38 x1 t0 (x3 + 1)
def m_SpeciesSolverModel_mayBegin_102 (F : Nat) (md_lines : Int32) (md_species : Int32) (md_above : Int32) (md_given : Nat → Int32) (md_on : Nat → Int32) (md_numbers : Nat → Int32) (md_pitches : Nat → Int32) (k38 : Int32 → Int32 → Int32 → Option (Int32))  (x1 : Int32) (x3 : Int32) : Option (Int32) :=
  m_SpeciesSolverModel_mayBegin_103 F md_lines md_species md_above md_given md_on md_numbers md_pitches k38 x1 x3 (0 : Int32)
def m_SpeciesSolverModel_mayBegin_98 (F : Nat) (md_lines : Int32) (md_species : Int32) (md_above : Int32) (md_given : Nat → Int32) (md_on : Nat → Int32) (md_numbers : Nat → Int32) (md_pitches : Nat → Int32) (k38 : Int32 → Int32 → Int32 → Option (Int32))  (x1 : Int32) (x3 : Int32) : Option (Int32) :=
  m_SpeciesSolverModel_mayBegin_103 F md_lines md_species md_above md_given md_on md_numbers md_pitches k38 x1 x3 (1 : Int32)
def m_SpeciesSolverModel_mayBegin_74 (F : Nat) (md_lines : Int32) (md_species : Int32) (md_above : Int32) (md_given : Nat → Int32) (md_on : Nat → Int32) (md_numbers : Nat → Int32) (md_pitches : Nat → Int32) (k38 : Int32 → Int32 → Int32 → Option (Int32))  (x1 : Int32) (x3 : Int32) : Option (Int32) :=
  (if (md_on (Int32.toNatClampNeg (3 : Int32))) = (0 : Int32) then
    m_SpeciesSolverModel_mayBegin_98 F md_lines md_species md_above md_given md_on md_numbers md_pitches k38 x1 x3
  else
    (gd x1 8 (bd (m_SpeciesSolverModel_rule3 md_species md_above md_given x3 (0 : Int32) (md_pitches (Int32.toNatClampNeg x1))) (fun u3 => (if u3 = (0 : Int32) then
      m_SpeciesSolverModel_mayBegin_98 F md_lines md_species md_above md_given md_on md_numbers md_pitches k38 x1 x3
    else
      m_SpeciesSolverModel_mayBegin_102 F md_lines md_species md_above md_given md_on md_numbers md_pitches k38 x1 x3)))))
def m_SpeciesSolverModel_mayBegin_38b (F : Nat) (md_lines : Int32) (md_species : Int32) (md_above : Int32) (md_given : Nat → Int32) (md_on : Nat → Int32) (md_numbers : Nat → Int32) (md_pitches : Nat → Int32) (k38 : Int32 → Int32 → Int32 → Option (Int32))  (x1 : Int32) (x2 : Int32) (x3 : Int32) : Option (Int32) :=
  (if md_lines ≤ x3 then
    (gb x2 (some x2))
  else
    (if x2 = (0 : Int32) then
      (gb x2 (some x2))
    else
      (if (md_on (Int32.toNatClampNeg (0 : Int32))) = (0 : Int32) then
        m_SpeciesSolverModel_mayBegin_74 F md_lines md_species md_above md_given md_on md_numbers md_pitches k38 x1 x3
      else
        (gd x1 8 (bd (m_SpeciesSolverModel_rule0 md_species md_given md_numbers x3 (0 : Int32) (md_pitches (Int32.toNatClampNeg x1))) (fun u7 => (if u7 = (0 : Int32) then
          m_SpeciesSolverModel_mayBegin_74 F md_lines md_species md_above md_given md_on md_numbers md_pitches k38 x1 x3
        else
          m_SpeciesSolverModel_mayBegin_102 F md_lines md_species md_above md_given md_on md_numbers md_pitches k38 x1 x3)))))))
def m_SpeciesSolverModel_mayBegin_38 (F : Nat) (md_lines : Int32) (md_species : Int32) (md_above : Int32) (md_given : Nat → Int32) (md_on : Nat → Int32) (md_numbers : Nat → Int32) (md_pitches : Nat → Int32)  : Nat → Int32 → Int32 → Int32 → Option (Int32)
  | 0 => fun _ _ _ => none
  | n + 1 => m_SpeciesSolverModel_mayBegin_38b F md_lines md_species md_above md_given md_on md_numbers md_pitches  (m_SpeciesSolverModel_mayBegin_38 F md_lines md_species md_above md_given md_on md_numbers md_pitches  n)
def m_SpeciesSolverModel_mayBegin_35 (F : Nat) (md_lines : Int32) (md_species : Int32) (md_above : Int32) (md_given : Nat → Int32) (md_on : Nat → Int32) (md_numbers : Nat → Int32) (md_pitches : Nat → Int32)   (x1 : Int32) (t0 : Int32) : Option (Int32) :=
  m_SpeciesSolverModel_mayBegin_38 F md_lines md_species md_above md_given md_on md_numbers md_pitches  F x1 t0 (0 : Int32)
def m_SpeciesSolverModel_mayBegin_30 (F : Nat) (md_lines : Int32) (md_species : Int32) (md_above : Int32) (md_given : Nat → Int32) (md_on : Nat → Int32) (md_numbers : Nat → Int32) (md_pitches : Nat → Int32)   (x1 : Int32) : Option (Int32) :=
  m_SpeciesSolverModel_mayBegin_35 F md_lines md_species md_above md_given md_on md_numbers md_pitches  x1 (1 : Int32)
def m_SpeciesSolverModel_mayBegin (F : Nat) (md_lines : Int32) (md_species : Int32) (md_above : Int32) (md_given : Nat → Int32) (md_on : Nat → Int32) (md_numbers : Nat → Int32) (md_pitches : Nat → Int32)  (a1 : Int32) : Option (Int32) :=
  (if (md_on (Int32.toNatClampNeg (8 : Int32))) = (0 : Int32) then
    m_SpeciesSolverModel_mayBegin_30 F md_lines md_species md_above md_given md_on md_numbers md_pitches  a1
  else
    (gd a1 8 (bd (m_SpeciesSolverModel_at md_species md_given (0 : Int32) (0 : Int32)) (fun u3 => (bd (m_SpeciesSolverModel_isIn md_numbers (5 : Int32) (md_pitches (Int32.toNatClampNeg a1)) u3) (fun u5 => (if u5 = (0 : Int32) then
      m_SpeciesSolverModel_mayBegin_35 F md_lines md_species md_above md_given md_on md_numbers md_pitches  a1 (0 : Int32)
    else
      m_SpeciesSolverModel_mayBegin_30 F md_lines md_species md_above md_given md_on md_numbers md_pitches  a1)))))))
def m_SpeciesSolverModel_usedBy   (a1 : Int32) (a2 : Int32) (a3 : Int32) : Option (Int32) :=
  (if (0 : Int32) ≤ a1 then
    (if a3 ≤ a1 then
      (if a3 = a1 then
        (some (a2 + (1 : Int32)))
      else
        (some a2))
    else
      (some (2 : Int32)))
  else
    (some a2))
def m_SpeciesSolverModel_fillLast_108 (F : Nat) (md_n : Int32) (md_species : Int32) (k9 : (Nat → Int32) → (Nat → Int64) → (Nat → Int64) → Int32 → Int32 → Int32 → Option ((Nat → Int32) × (Nat → Int64) × (Nat → Int64))) (md_least : Nat → Int32) (md_all : Nat → Int64) (md_best : Nat → Int64) (x1 : Int32) (x2 : Int32) (x3 : Int32) (t1 : Int32) (t2 : Int64) : Option ((Nat → Int32) × (Nat → Int64) × (Nat → Int64)) :=
  (gd t1 2560 (k9 md_least md_all (vp_updL md_best (Int32.toNatClampNeg t1) t2) x1 x2 (x3 + 1)))
def m_SpeciesSolverModel_fillLast_84 (F : Nat) (md_n : Int32) (md_species : Int32) (k9 : (Nat → Int32) → (Nat → Int64) → (Nat → Int64) → Int32 → Int32 → Int32 → Option ((Nat → Int32) × (Nat → Int64) × (Nat → Int64))) (md_least : Nat → Int32) (md_all : Nat → Int64) (md_best : Nat → Int64) (x1 : Int32) (x2 : Int32) (x3 : Int32) (x5 : Int32) (t1 : Int32) (t2 : Int64) : Option ((Nat → Int32) × (Nat → Int64) × (Nat → Int64)) :=
  (gd t1 2560 (if x5 = (0 : Int32) then
    m_SpeciesSolverModel_fillLast_108 F md_n md_species k9 md_least (vp_updL md_all (Int32.toNatClampNeg t1) t2) md_best x1 x2 x3 (((x2 - x2 / (2 : Int32) * (2 : Int32)) * (1280 : Int32)) + x3) (0 : Int64)
  else
    m_SpeciesSolverModel_fillLast_108 F md_n md_species k9 md_least (vp_updL md_all (Int32.toNatClampNeg t1) t2) md_best x1 x2 x3 (((x2 - x2 / (2 : Int32) * (2 : Int32)) * (1280 : Int32)) + x3) (1 : Int64)))
def m_SpeciesSolverModel_fillLast_60 (F : Nat) (md_n : Int32) (md_species : Int32) (k9 : (Nat → Int32) → (Nat → Int64) → (Nat → Int64) → Int32 → Int32 → Int32 → Option ((Nat → Int32) × (Nat → Int64) × (Nat → Int64))) (md_least : Nat → Int32) (md_all : Nat → Int64) (md_best : Nat → Int64) (x1 : Int32) (x2 : Int32) (x3 : Int32) (x5 : Int32) (t1 : Int32) (t2 : Int32) : Option ((Nat → Int32) × (Nat → Int64) × (Nat → Int64)) :=
  (gd t1 57600 (if x5 = (0 : Int32) then
    m_SpeciesSolverModel_fillLast_84 F md_n md_species k9 (upd md_least (Int32.toNatClampNeg t1) t2) md_all md_best x1 x2 x3 x5 (((x2 - x2 / (2 : Int32) * (2 : Int32)) * (1280 : Int32)) + x3) (0 : Int64)
  else
    m_SpeciesSolverModel_fillLast_84 F md_n md_species k9 (upd md_least (Int32.toNatClampNeg t1) t2) md_all md_best x1 x2 x3 x5 (((x2 - x2 / (2 : Int32) * (2 : Int32)) * (1280 : Int32)) + x3) (1 : Int64)))
def m_SpeciesSolverModel_fillLast_36 (F : Nat) (md_n : Int32) (md_species : Int32) (k9 : (Nat → Int32) → (Nat → Int64) → (Nat → Int64) → Int32 → Int32 → Int32 → Option ((Nat → Int32) × (Nat → Int64) × (Nat → Int64))) (md_least : Nat → Int32) (md_all : Nat → Int64) (md_best : Nat → Int64) (x1 : Int32) (x2 : Int32) (x3 : Int32) (t0 : Int32) : Option ((Nat → Int32) × (Nat → Int64) × (Nat → Int64)) :=
  (if t0 = (0 : Int32) then
    m_SpeciesSolverModel_fillLast_60 F md_n md_species k9 md_least md_all md_best x1 x2 x3 t0 (((1280 : Int32) * x2) + x3) (1000000000 : Int32)
  else
    m_SpeciesSolverModel_fillLast_60 F md_n md_species k9 md_least md_all md_best x1 x2 x3 t0 (((1280 : Int32) * x2) + x3) (0 : Int32))
def m_SpeciesSolverModel_fillLast_31 (F : Nat) (md_n : Int32) (md_species : Int32) (k9 : (Nat → Int32) → (Nat → Int64) → (Nat → Int64) → Int32 → Int32 → Int32 → Option ((Nat → Int32) × (Nat → Int64) × (Nat → Int64))) (md_least : Nat → Int32) (md_all : Nat → Int64) (md_best : Nat → Int64) (x1 : Int32) (x2 : Int32) (x3 : Int32) : Option ((Nat → Int32) × (Nat → Int64) × (Nat → Int64)) :=
  m_SpeciesSolverModel_fillLast_36 F md_n md_species k9 md_least md_all md_best x1 x2 x3 (1 : Int32)
def m_SpeciesSolverModel_fillLast_9b (F : Nat) (md_n : Int32) (md_species : Int32) (k9 : (Nat → Int32) → (Nat → Int64) → (Nat → Int64) → Int32 → Int32 → Int32 → Option ((Nat → Int32) × (Nat → Int64) × (Nat → Int64))) (md_least : Nat → Int32) (md_all : Nat → Int64) (md_best : Nat → Int64) (x1 : Int32) (x2 : Int32) (x3 : Int32) : Option ((Nat → Int32) × (Nat → Int64) × (Nat → Int64)) :=
  (if (1280 : Int32) ≤ x3 then
    (some (md_least, md_all, md_best))
  else
    (if x1 < (0 : Int32) then
      m_SpeciesSolverModel_fillLast_31 F md_n md_species k9 md_least md_all md_best x1 x2 x3
    else
      (if (x3 - x3 / (2 : Int32) * (2 : Int32)) = (1 : Int32) then
        m_SpeciesSolverModel_fillLast_31 F md_n md_species k9 md_least md_all md_best x1 x2 x3
      else
        m_SpeciesSolverModel_fillLast_36 F md_n md_species k9 md_least md_all md_best x1 x2 x3 (0 : Int32))))
def m_SpeciesSolverModel_fillLast_9 (F : Nat) (md_n : Int32) (md_species : Int32)  : Nat → (Nat → Int32) → (Nat → Int64) → (Nat → Int64) → Int32 → Int32 → Int32 → Option ((Nat → Int32) × (Nat → Int64) × (Nat → Int64))
  | 0 => fun _ _ _ _ _ _ => none
  | n + 1 => m_SpeciesSolverModel_fillLast_9b F md_n md_species  (m_SpeciesSolverModel_fillLast_9 F md_n md_species  n)
def m_SpeciesSolverModel_fillLast (F : Nat) (md_n : Int32) (md_species : Int32) (md_least : Nat → Int32) (md_all : Nat → Int64) (md_best : Nat → Int64) (a1 : Int32) : Option ((Nat → Int32) × (Nat → Int64) × (Nat → Int64)) :=
  (bd (m_SpeciesSolverModel_size md_n md_species) (fun u1 => m_SpeciesSolverModel_fillLast_9 F md_n md_species  F md_least md_all md_best a1 (u1 - (1 : Int32)) (0 : Int32)))
def m_SpeciesSolverModel_fillState_254 (F : Nat) (md_lines : Int32) (md_n : Int32) (md_species : Int32) (md_above : Int32) (md_chosen : Int32) (md_given : Nat → Int32) (md_on : Nat → Int32) (md_numbers : Nat → Int32) (md_pitches : Nat → Int32) (k45 : (Nat → Int32) → (Nat → Int64) → (Nat → Int64) → Int32 → Int32 → Int32 → Int32 → Int32 → Int32 → Int32 → Int32 → Int32 → Int32 → Int64 → Int64 → Int32 → Option ((Nat → Int32) × (Nat → Int64) × (Nat → Int64))) (md_least : Nat → Int32) (md_all : Nat → Int64) (md_best : Nat → Int64) (x1 : Int32) (x2 : Int32) (x3 : Int32) (x4 : Int32) (x5 : Int32) (x6 : Int32) (x7 : Int32) (x8 : Int32) (x9 : Int32) (x10 : Int32) (x11 : Int64) (x13 : Int64) (x15 : Int32) : Option ((Nat → Int32) × (Nat → Int64) × (Nat → Int64)) :=
  k45 md_least md_all md_best x1 x2 x3 x4 x5 x6 x7 x8 x9 x10 x11 x13 (x15 + 1)
def m_SpeciesSolverModel_fillState_116 (F : Nat) (md_lines : Int32) (md_n : Int32) (md_species : Int32) (md_above : Int32) (md_chosen : Int32) (md_given : Nat → Int32) (md_on : Nat → Int32) (md_numbers : Nat → Int32) (md_pitches : Nat → Int32) (k45 : (Nat → Int32) → (Nat → Int64) → (Nat → Int64) → Int32 → Int32 → Int32 → Int32 → Int32 → Int32 → Int32 → Int32 → Int32 → Int32 → Int64 → Int64 → Int32 → Option ((Nat → Int32) × (Nat → Int64) × (Nat → Int64))) (md_least : Nat → Int32) (md_all : Nat → Int64) (md_best : Nat → Int64) (x1 : Int32) (x2 : Int32) (x3 : Int32) (x4 : Int32) (x5 : Int32) (x6 : Int32) (x7 : Int32) (x8 : Int32) (x9 : Int32) (x10 : Int32) (x11 : Int64) (x13 : Int64) (x15 : Int32) (x16 : Int32) (t0 : Int32) (t1 : Int32) (t2 : Int32) : Option ((Nat → Int32) × (Nat → Int64) × (Nat → Int64)) :=
  (bd (m_SpeciesSolverModel_state t0 t1 t2 x16) (fun u1 => (gd (((1280 : Int32) * (x2 + (1 : Int32))) + u1) 57600 (gd (x9 + u1) 2560 (if (1000000000 : Int32) ≤ (md_least (Int32.toNatClampNeg (((1280 : Int32) * (x2 + (1 : Int32))) + u1))) then
    m_SpeciesSolverModel_fillState_254 F md_lines md_n md_species md_above md_chosen md_given md_on md_numbers md_pitches k45 md_least md_all md_best x1 x2 x3 x4 x5 x6 x7 x8 x9 x10 (x11 + (md_all (Int32.toNatClampNeg (x9 + u1)))) x13 x15
  else
    (gd x3 8 (gd x15 8 (bd (m_SpeciesSolverModel_moveCost md_numbers (md_pitches (Int32.toNatClampNeg x3)) (md_pitches (Int32.toNatClampNeg x15))) (fun u8 => (gd x5 8 (gd x15 8 (bd (m_SpeciesSolverModel_noteCost F md_lines md_n md_species md_given md_numbers (x2 + (1 : Int32)) (md_pitches (Int32.toNatClampNeg x5)) (md_pitches (Int32.toNatClampNeg x15))) (fun u12 => (if x10 ≤ (((md_least (Int32.toNatClampNeg (((1280 : Int32) * (x2 + (1 : Int32))) + u1))) + u8) + u12) then
      (if (((md_least (Int32.toNatClampNeg (((1280 : Int32) * (x2 + (1 : Int32))) + u1))) + u8) + u12) = x10 then
        (gd (x9 + u1) 2560 (m_SpeciesSolverModel_fillState_254 F md_lines md_n md_species md_above md_chosen md_given md_on md_numbers md_pitches k45 md_least md_all md_best x1 x2 x3 x4 x5 x6 x7 x8 x9 x10 (x11 + (md_all (Int32.toNatClampNeg (x9 + u1)))) (x13 + (md_best (Int32.toNatClampNeg (x9 + u1)))) x15))
      else
        m_SpeciesSolverModel_fillState_254 F md_lines md_n md_species md_above md_chosen md_given md_on md_numbers md_pitches k45 md_least md_all md_best x1 x2 x3 x4 x5 x6 x7 x8 x9 x10 (x11 + (md_all (Int32.toNatClampNeg (x9 + u1)))) x13 x15)
    else
      (gd (x9 + u1) 2560 (m_SpeciesSolverModel_fillState_254 F md_lines md_n md_species md_above md_chosen md_given md_on md_numbers md_pitches k45 md_least md_all md_best x1 x2 x3 x4 x5 x6 x7 x8 x9 (((md_least (Int32.toNatClampNeg (((1280 : Int32) * (x2 + (1 : Int32))) + u1))) + u8) + u12) (x11 + (md_all (Int32.toNatClampNeg (x9 + u1)))) (md_best (Int32.toNatClampNeg (x9 + u1))) x15))))))))))))))))
def m_SpeciesSolverModel_fillState_45b (F : Nat) (md_lines : Int32) (md_n : Int32) (md_species : Int32) (md_above : Int32) (md_chosen : Int32) (md_given : Nat → Int32) (md_on : Nat → Int32) (md_numbers : Nat → Int32) (md_pitches : Nat → Int32) (k45 : (Nat → Int32) → (Nat → Int64) → (Nat → Int64) → Int32 → Int32 → Int32 → Int32 → Int32 → Int32 → Int32 → Int32 → Int32 → Int32 → Int64 → Int64 → Int32 → Option ((Nat → Int32) × (Nat → Int64) × (Nat → Int64))) (md_least : Nat → Int32) (md_all : Nat → Int64) (md_best : Nat → Int64) (x1 : Int32) (x2 : Int32) (x3 : Int32) (x4 : Int32) (x5 : Int32) (x6 : Int32) (x7 : Int32) (x8 : Int32) (x9 : Int32) (x10 : Int32) (x11 : Int64) (x13 : Int64) (x15 : Int32) : Option ((Nat → Int32) × (Nat → Int64) × (Nat → Int64)) :=
  (if md_chosen ≤ x15 then
    (gd (((1280 : Int32) * x2) + x7) 57600 (gd (x8 + x7) 2560 (gd (x8 + x7) 2560 (some ((upd md_least (Int32.toNatClampNeg (((1280 : Int32) * x2) + x7)) x10), (vp_updL md_all (Int32.toNatClampNeg (x8 + x7)) x11), (vp_updL md_best (Int32.toNatClampNeg (x8 + x7)) x13))))))
  else
    (bd (m_SpeciesSolverModel_usedBy x1 x6 x15) (fun u5 => (if (2 : Int32) ≤ u5 then
      m_SpeciesSolverModel_fillState_254 F md_lines md_n md_species md_above md_chosen md_given md_on md_numbers md_pitches k45 md_least md_all md_best x1 x2 x3 x4 x5 x6 x7 x8 x9 x10 x11 x13 x15
    else
      (bd (m_SpeciesSolverModel_mayFollow F md_lines md_n md_species md_above md_given md_on md_numbers md_pitches (x2 + (1 : Int32)) x3 x4 x5 x15 (1 : Int32)) (fun u8 => (if u8 = (0 : Int32) then
        m_SpeciesSolverModel_fillState_254 F md_lines md_n md_species md_above md_chosen md_given md_on md_numbers md_pitches k45 md_least md_all md_best x1 x2 x3 x4 x5 x6 x7 x8 x9 x10 x11 x13 x15
      else
        (bd (m_SpeciesSolverModel_nextHow x3 x4 x15) (fun u11 => (bd (m_SpeciesSolverModel_isStrong md_species (x2 + (1 : Int32))) (fun u13 => (if u13 = (0 : Int32) then
          m_SpeciesSolverModel_fillState_116 F md_lines md_n md_species md_above md_chosen md_given md_on md_numbers md_pitches k45 md_least md_all md_best x1 x2 x3 x4 x5 x6 x7 x8 x9 x10 x11 x13 x15 u5 x15 u11 x5
        else
          m_SpeciesSolverModel_fillState_116 F md_lines md_n md_species md_above md_chosen md_given md_on md_numbers md_pitches k45 md_least md_all md_best x1 x2 x3 x4 x5 x6 x7 x8 x9 x10 x11 x13 x15 u5 x15 u11 x15))))))))))))
def m_SpeciesSolverModel_fillState_45 (F : Nat) (md_lines : Int32) (md_n : Int32) (md_species : Int32) (md_above : Int32) (md_chosen : Int32) (md_given : Nat → Int32) (md_on : Nat → Int32) (md_numbers : Nat → Int32) (md_pitches : Nat → Int32)  : Nat → (Nat → Int32) → (Nat → Int64) → (Nat → Int64) → Int32 → Int32 → Int32 → Int32 → Int32 → Int32 → Int32 → Int32 → Int32 → Int32 → Int64 → Int64 → Int32 → Option ((Nat → Int32) × (Nat → Int64) × (Nat → Int64))
  | 0 => fun _ _ _ _ _ _ _ _ _ _ _ _ _ _ _ _ => none
  | n + 1 => m_SpeciesSolverModel_fillState_45b F md_lines md_n md_species md_above md_chosen md_given md_on md_numbers md_pitches  (m_SpeciesSolverModel_fillState_45 F md_lines md_n md_species md_above md_chosen md_given md_on md_numbers md_pitches  n)
def m_SpeciesSolverModel_fillState (F : Nat) (md_lines : Int32) (md_n : Int32) (md_species : Int32) (md_above : Int32) (md_chosen : Int32) (md_given : Nat → Int32) (md_on : Nat → Int32) (md_numbers : Nat → Int32) (md_pitches : Nat → Int32) (md_least : Nat → Int32) (md_all : Nat → Int64) (md_best : Nat → Int64) (a1 : Int32) (a2 : Int32) (a3 : Int32) (a4 : Int32) (a5 : Int32) (a6 : Int32) : Option ((Nat → Int32) × (Nat → Int64) × (Nat → Int64)) :=
  (bd (m_SpeciesSolverModel_state a3 a4 a5 a6) (fun u1 => m_SpeciesSolverModel_fillState_45 F md_lines md_n md_species md_above md_chosen md_given md_on md_numbers md_pitches  F md_least md_all md_best a1 a2 a3 a4 a5 a6 u1 ((a2 - a2 / (2 : Int32) * (2 : Int32)) * (1280 : Int32)) (((a2 + (1 : Int32)) - (a2 + (1 : Int32)) / (2 : Int32) * (2 : Int32)) * (1280 : Int32)) (1000000000 : Int32) (0 : Int64) (0 : Int64) (0 : Int32)))
def m_SpeciesSolverModel_fill_142 (F : Nat) (md_lines : Int32) (md_n : Int32) (md_species : Int32) (md_above : Int32) (md_chosen : Int32) (md_given : Nat → Int32) (md_on : Nat → Int32) (md_numbers : Nat → Int32) (md_pitches : Nat → Int32) (k12 : (Nat → Int32) → (Nat → Int64) → (Nat → Int64) → Int32 → Int32 → Option ((Nat → Int32) × (Nat → Int64) × (Nat → Int64))) (k18 : (Nat → Int32) → (Nat → Int64) → (Nat → Int64) → Int32 → Int32 → Int32 → Option ((Nat → Int32) × (Nat → Int64) × (Nat → Int64))) (k29 : (Nat → Int32) → (Nat → Int64) → (Nat → Int64) → Int32 → Int32 → Int32 → Int32 → Option ((Nat → Int32) × (Nat → Int64) × (Nat → Int64))) (md_least : Nat → Int32) (md_all : Nat → Int64) (md_best : Nat → Int64) (x1 : Int32) (x2 : Int32) (x3 : Int32) (x4 : Int32) : Option ((Nat → Int32) × (Nat → Int64) × (Nat → Int64)) :=
  k29 md_least md_all md_best x1 x2 x3 (x4 + 1)
def m_SpeciesSolverModel_fill_136 (F : Nat) (md_lines : Int32) (md_n : Int32) (md_species : Int32) (md_above : Int32) (md_chosen : Int32) (md_given : Nat → Int32) (md_on : Nat → Int32) (md_numbers : Nat → Int32) (md_pitches : Nat → Int32) (k12 : (Nat → Int32) → (Nat → Int64) → (Nat → Int64) → Int32 → Int32 → Option ((Nat → Int32) × (Nat → Int64) × (Nat → Int64))) (k18 : (Nat → Int32) → (Nat → Int64) → (Nat → Int64) → Int32 → Int32 → Int32 → Option ((Nat → Int32) × (Nat → Int64) × (Nat → Int64))) (k29 : (Nat → Int32) → (Nat → Int64) → (Nat → Int64) → Int32 → Int32 → Int32 → Int32 → Option ((Nat → Int32) × (Nat → Int64) × (Nat → Int64))) (k84 : (Nat → Int32) → (Nat → Int64) → (Nat → Int64) → Int32 → Int32 → Int32 → Int32 → Int32 → Int32 → Option ((Nat → Int32) × (Nat → Int64) × (Nat → Int64))) (md_least : Nat → Int32) (md_all : Nat → Int64) (md_best : Nat → Int64) (x1 : Int32) (x2 : Int32) (x3 : Int32) (x4 : Int32) (x5 : Int32) (x6 : Int32) : Option ((Nat → Int32) × (Nat → Int64) × (Nat → Int64)) :=
  k84 md_least md_all md_best x1 x2 x3 x4 x5 (x6 + 1)
def m_SpeciesSolverModel_fill_112 (F : Nat) (md_lines : Int32) (md_n : Int32) (md_species : Int32) (md_above : Int32) (md_chosen : Int32) (md_given : Nat → Int32) (md_on : Nat → Int32) (md_numbers : Nat → Int32) (md_pitches : Nat → Int32) (k12 : (Nat → Int32) → (Nat → Int64) → (Nat → Int64) → Int32 → Int32 → Option ((Nat → Int32) × (Nat → Int64) × (Nat → Int64))) (k18 : (Nat → Int32) → (Nat → Int64) → (Nat → Int64) → Int32 → Int32 → Int32 → Option ((Nat → Int32) × (Nat → Int64) × (Nat → Int64))) (k29 : (Nat → Int32) → (Nat → Int64) → (Nat → Int64) → Int32 → Int32 → Int32 → Int32 → Option ((Nat → Int32) × (Nat → Int64) × (Nat → Int64))) (k84 : (Nat → Int32) → (Nat → Int64) → (Nat → Int64) → Int32 → Int32 → Int32 → Int32 → Int32 → Int32 → Option ((Nat → Int32) × (Nat → Int64) × (Nat → Int64))) (md_least : Nat → Int32) (md_all : Nat → Int64) (md_best : Nat → Int64) (x1 : Int32) (x2 : Int32) (x3 : Int32) (x4 : Int32) (x5 : Int32) (x6 : Int32) : Option ((Nat → Int32) × (Nat → Int64) × (Nat → Int64)) :=
  (bd (m_SpeciesSolverModel_fillState F md_lines md_n md_species md_above md_chosen md_given md_on md_numbers md_pitches md_least md_all md_best x1 x2 x3 x4 x6 (0 : Int32)) (fun u1 => (bd (m_SpeciesSolverModel_fillState F md_lines md_n md_species md_above md_chosen md_given md_on md_numbers md_pitches u1.1 u1.2.1 u1.2.2 x1 x2 x3 x4 x6 (1 : Int32)) (fun u3 => m_SpeciesSolverModel_fill_136 F md_lines md_n md_species md_above md_chosen md_given md_on md_numbers md_pitches k12 k18 k29 k84 u3.1 u3.2.1 u3.2.2 x1 x2 x3 x4 x5 x6))))
def m_SpeciesSolverModel_fill_84b (F : Nat) (md_lines : Int32) (md_n : Int32) (md_species : Int32) (md_above : Int32) (md_chosen : Int32) (md_given : Nat → Int32) (md_on : Nat → Int32) (md_numbers : Nat → Int32) (md_pitches : Nat → Int32) (k12 : (Nat → Int32) → (Nat → Int64) → (Nat → Int64) → Int32 → Int32 → Option ((Nat → Int32) × (Nat → Int64) × (Nat → Int64))) (k18 : (Nat → Int32) → (Nat → Int64) → (Nat → Int64) → Int32 → Int32 → Int32 → Option ((Nat → Int32) × (Nat → Int64) × (Nat → Int64))) (k29 : (Nat → Int32) → (Nat → Int64) → (Nat → Int64) → Int32 → Int32 → Int32 → Int32 → Option ((Nat → Int32) × (Nat → Int64) × (Nat → Int64))) (k84 : (Nat → Int32) → (Nat → Int64) → (Nat → Int64) → Int32 → Int32 → Int32 → Int32 → Int32 → Int32 → Option ((Nat → Int32) × (Nat → Int64) × (Nat → Int64))) (md_least : Nat → Int32) (md_all : Nat → Int64) (md_best : Nat → Int64) (x1 : Int32) (x2 : Int32) (x3 : Int32) (x4 : Int32) (x5 : Int32) (x6 : Int32) : Option ((Nat → Int32) × (Nat → Int64) × (Nat → Int64)) :=
  (if md_chosen ≤ x6 then
    m_SpeciesSolverModel_fill_142 F md_lines md_n md_species md_above md_chosen md_given md_on md_numbers md_pitches k12 k18 k29 md_least md_all md_best x1 x2 x3 x4
  else
    (if x5 = (0 : Int32) then
      m_SpeciesSolverModel_fill_142 F md_lines md_n md_species md_above md_chosen md_given md_on md_numbers md_pitches k12 k18 k29 md_least md_all md_best x1 x2 x3 x4
    else
      (bd (m_SpeciesSolverModel_isStrong md_species x2) (fun u3 => (if u3 = (0 : Int32) then
        m_SpeciesSolverModel_fill_112 F md_lines md_n md_species md_above md_chosen md_given md_on md_numbers md_pitches k12 k18 k29 k84 md_least md_all md_best x1 x2 x3 x4 x5 x6
      else
        (if x6 = x3 then
          m_SpeciesSolverModel_fill_112 F md_lines md_n md_species md_above md_chosen md_given md_on md_numbers md_pitches k12 k18 k29 k84 md_least md_all md_best x1 x2 x3 x4 x5 x6
        else
          m_SpeciesSolverModel_fill_136 F md_lines md_n md_species md_above md_chosen md_given md_on md_numbers md_pitches k12 k18 k29 k84 md_least md_all md_best x1 x2 x3 x4 x5 x6))))))
def m_SpeciesSolverModel_fill_84 (F : Nat) (md_lines : Int32) (md_n : Int32) (md_species : Int32) (md_above : Int32) (md_chosen : Int32) (md_given : Nat → Int32) (md_on : Nat → Int32) (md_numbers : Nat → Int32) (md_pitches : Nat → Int32) (k12 : (Nat → Int32) → (Nat → Int64) → (Nat → Int64) → Int32 → Int32 → Option ((Nat → Int32) × (Nat → Int64) × (Nat → Int64))) (k18 : (Nat → Int32) → (Nat → Int64) → (Nat → Int64) → Int32 → Int32 → Int32 → Option ((Nat → Int32) × (Nat → Int64) × (Nat → Int64))) (k29 : (Nat → Int32) → (Nat → Int64) → (Nat → Int64) → Int32 → Int32 → Int32 → Int32 → Option ((Nat → Int32) × (Nat → Int64) × (Nat → Int64))) : Nat → (Nat → Int32) → (Nat → Int64) → (Nat → Int64) → Int32 → Int32 → Int32 → Int32 → Int32 → Int32 → Option ((Nat → Int32) × (Nat → Int64) × (Nat → Int64))
  | 0 => fun _ _ _ _ _ _ _ _ _ => none
  | n + 1 => m_SpeciesSolverModel_fill_84b F md_lines md_n md_species md_above md_chosen md_given md_on md_numbers md_pitches k12 k18 k29 (m_SpeciesSolverModel_fill_84 F md_lines md_n md_species md_above md_chosen md_given md_on md_numbers md_pitches k12 k18 k29 n)
def m_SpeciesSolverModel_fill_79 (F : Nat) (md_lines : Int32) (md_n : Int32) (md_species : Int32) (md_above : Int32) (md_chosen : Int32) (md_given : Nat → Int32) (md_on : Nat → Int32) (md_numbers : Nat → Int32) (md_pitches : Nat → Int32) (k12 : (Nat → Int32) → (Nat → Int64) → (Nat → Int64) → Int32 → Int32 → Option ((Nat → Int32) × (Nat → Int64) × (Nat → Int64))) (k18 : (Nat → Int32) → (Nat → Int64) → (Nat → Int64) → Int32 → Int32 → Int32 → Option ((Nat → Int32) × (Nat → Int64) × (Nat → Int64))) (k29 : (Nat → Int32) → (Nat → Int64) → (Nat → Int64) → Int32 → Int32 → Int32 → Int32 → Option ((Nat → Int32) × (Nat → Int64) × (Nat → Int64))) (md_least : Nat → Int32) (md_all : Nat → Int64) (md_best : Nat → Int64) (x1 : Int32) (x2 : Int32) (x3 : Int32) (x4 : Int32) (t0 : Int32) : Option ((Nat → Int32) × (Nat → Int64) × (Nat → Int64)) :=
  m_SpeciesSolverModel_fill_84 F md_lines md_n md_species md_above md_chosen md_given md_on md_numbers md_pitches k12 k18 k29 F md_least md_all md_best x1 x2 x3 x4 t0 (0 : Int32)
def m_SpeciesSolverModel_fill_78 (F : Nat) (md_lines : Int32) (md_n : Int32) (md_species : Int32) (md_above : Int32) (md_chosen : Int32) (md_given : Nat → Int32) (md_on : Nat → Int32) (md_numbers : Nat → Int32) (md_pitches : Nat → Int32) (k12 : (Nat → Int32) → (Nat → Int64) → (Nat → Int64) → Int32 → Int32 → Option ((Nat → Int32) × (Nat → Int64) × (Nat → Int64))) (k18 : (Nat → Int32) → (Nat → Int64) → (Nat → Int64) → Int32 → Int32 → Int32 → Option ((Nat → Int32) × (Nat → Int64) × (Nat → Int64))) (k29 : (Nat → Int32) → (Nat → Int64) → (Nat → Int64) → Int32 → Int32 → Int32 → Int32 → Option ((Nat → Int32) × (Nat → Int64) × (Nat → Int64))) (md_least : Nat → Int32) (md_all : Nat → Int64) (md_best : Nat → Int64) (x1 : Int32) (x2 : Int32) (x3 : Int32) (x4 : Int32) : Option ((Nat → Int32) × (Nat → Int64) × (Nat → Int64)) :=
  m_SpeciesSolverModel_fill_79 F md_lines md_n md_species md_above md_chosen md_given md_on md_numbers md_pitches k12 k18 k29 md_least md_all md_best x1 x2 x3 x4 (0 : Int32)
def m_SpeciesSolverModel_fill_74 (F : Nat) (md_lines : Int32) (md_n : Int32) (md_species : Int32) (md_above : Int32) (md_chosen : Int32) (md_given : Nat → Int32) (md_on : Nat → Int32) (md_numbers : Nat → Int32) (md_pitches : Nat → Int32) (k12 : (Nat → Int32) → (Nat → Int64) → (Nat → Int64) → Int32 → Int32 → Option ((Nat → Int32) × (Nat → Int64) × (Nat → Int64))) (k18 : (Nat → Int32) → (Nat → Int64) → (Nat → Int64) → Int32 → Int32 → Int32 → Option ((Nat → Int32) × (Nat → Int64) × (Nat → Int64))) (k29 : (Nat → Int32) → (Nat → Int64) → (Nat → Int64) → Int32 → Int32 → Int32 → Int32 → Option ((Nat → Int32) × (Nat → Int64) × (Nat → Int64))) (md_least : Nat → Int32) (md_all : Nat → Int64) (md_best : Nat → Int64) (x1 : Int32) (x2 : Int32) (x3 : Int32) (x4 : Int32) : Option ((Nat → Int32) × (Nat → Int64) × (Nat → Int64)) :=
  m_SpeciesSolverModel_fill_79 F md_lines md_n md_species md_above md_chosen md_given md_on md_numbers md_pitches k12 k18 k29 md_least md_all md_best x1 x2 x3 x4 (1 : Int32)
def m_SpeciesSolverModel_fill_29b (F : Nat) (md_lines : Int32) (md_n : Int32) (md_species : Int32) (md_above : Int32) (md_chosen : Int32) (md_given : Nat → Int32) (md_on : Nat → Int32) (md_numbers : Nat → Int32) (md_pitches : Nat → Int32) (k12 : (Nat → Int32) → (Nat → Int64) → (Nat → Int64) → Int32 → Int32 → Option ((Nat → Int32) × (Nat → Int64) × (Nat → Int64))) (k18 : (Nat → Int32) → (Nat → Int64) → (Nat → Int64) → Int32 → Int32 → Int32 → Option ((Nat → Int32) × (Nat → Int64) × (Nat → Int64))) (k29 : (Nat → Int32) → (Nat → Int64) → (Nat → Int64) → Int32 → Int32 → Int32 → Int32 → Option ((Nat → Int32) × (Nat → Int64) × (Nat → Int64))) (md_least : Nat → Int32) (md_all : Nat → Int64) (md_best : Nat → Int64) (x1 : Int32) (x2 : Int32) (x3 : Int32) (x4 : Int32) : Option ((Nat → Int32) × (Nat → Int64) × (Nat → Int64)) :=
  (if (10 : Int32) ≤ x4 then
    k18 md_least md_all md_best x1 x2 (x3 + 1)
  else
    (if x2 = (0 : Int32) then
      (if x4 = (0 : Int32) then
        m_SpeciesSolverModel_fill_79 F md_lines md_n md_species md_above md_chosen md_given md_on md_numbers md_pitches k12 k18 k29 md_least md_all md_best x1 x2 x3 x4 (1 : Int32)
      else
        m_SpeciesSolverModel_fill_79 F md_lines md_n md_species md_above md_chosen md_given md_on md_numbers md_pitches k12 k18 k29 md_least md_all md_best x1 x2 x3 x4 (0 : Int32))
    else
      (if x4 ≤ (0 : Int32) then
        m_SpeciesSolverModel_fill_78 F md_lines md_n md_species md_above md_chosen md_given md_on md_numbers md_pitches k12 k18 k29 md_least md_all md_best x1 x2 x3 x4
      else
        (if x4 = (9 : Int32) then
          m_SpeciesSolverModel_fill_74 F md_lines md_n md_species md_above md_chosen md_given md_on md_numbers md_pitches k12 k18 k29 md_least md_all md_best x1 x2 x3 x4
        else
          (if md_chosen < x4 then
            m_SpeciesSolverModel_fill_78 F md_lines md_n md_species md_above md_chosen md_given md_on md_numbers md_pitches k12 k18 k29 md_least md_all md_best x1 x2 x3 x4
          else
            m_SpeciesSolverModel_fill_74 F md_lines md_n md_species md_above md_chosen md_given md_on md_numbers md_pitches k12 k18 k29 md_least md_all md_best x1 x2 x3 x4)))))
def m_SpeciesSolverModel_fill_29 (F : Nat) (md_lines : Int32) (md_n : Int32) (md_species : Int32) (md_above : Int32) (md_chosen : Int32) (md_given : Nat → Int32) (md_on : Nat → Int32) (md_numbers : Nat → Int32) (md_pitches : Nat → Int32) (k12 : (Nat → Int32) → (Nat → Int64) → (Nat → Int64) → Int32 → Int32 → Option ((Nat → Int32) × (Nat → Int64) × (Nat → Int64))) (k18 : (Nat → Int32) → (Nat → Int64) → (Nat → Int64) → Int32 → Int32 → Int32 → Option ((Nat → Int32) × (Nat → Int64) × (Nat → Int64))) : Nat → (Nat → Int32) → (Nat → Int64) → (Nat → Int64) → Int32 → Int32 → Int32 → Int32 → Option ((Nat → Int32) × (Nat → Int64) × (Nat → Int64))
  | 0 => fun _ _ _ _ _ _ _ => none
  | n + 1 => m_SpeciesSolverModel_fill_29b F md_lines md_n md_species md_above md_chosen md_given md_on md_numbers md_pitches k12 k18 (m_SpeciesSolverModel_fill_29 F md_lines md_n md_species md_above md_chosen md_given md_on md_numbers md_pitches k12 k18 n)
def m_SpeciesSolverModel_fill_18b (F : Nat) (md_lines : Int32) (md_n : Int32) (md_species : Int32) (md_above : Int32) (md_chosen : Int32) (md_given : Nat → Int32) (md_on : Nat → Int32) (md_numbers : Nat → Int32) (md_pitches : Nat → Int32) (k12 : (Nat → Int32) → (Nat → Int64) → (Nat → Int64) → Int32 → Int32 → Option ((Nat → Int32) × (Nat → Int64) × (Nat → Int64))) (k18 : (Nat → Int32) → (Nat → Int64) → (Nat → Int64) → Int32 → Int32 → Int32 → Option ((Nat → Int32) × (Nat → Int64) × (Nat → Int64))) (md_least : Nat → Int32) (md_all : Nat → Int64) (md_best : Nat → Int64) (x1 : Int32) (x2 : Int32) (x3 : Int32) : Option ((Nat → Int32) × (Nat → Int64) × (Nat → Int64)) :=
  (if md_chosen ≤ x3 then
    k12 md_least md_all md_best x1 (x2 + (-1))
  else
    m_SpeciesSolverModel_fill_29 F md_lines md_n md_species md_above md_chosen md_given md_on md_numbers md_pitches k12 k18 F md_least md_all md_best x1 x2 x3 (0 : Int32))
def m_SpeciesSolverModel_fill_18 (F : Nat) (md_lines : Int32) (md_n : Int32) (md_species : Int32) (md_above : Int32) (md_chosen : Int32) (md_given : Nat → Int32) (md_on : Nat → Int32) (md_numbers : Nat → Int32) (md_pitches : Nat → Int32) (k12 : (Nat → Int32) → (Nat → Int64) → (Nat → Int64) → Int32 → Int32 → Option ((Nat → Int32) × (Nat → Int64) × (Nat → Int64))) : Nat → (Nat → Int32) → (Nat → Int64) → (Nat → Int64) → Int32 → Int32 → Int32 → Option ((Nat → Int32) × (Nat → Int64) × (Nat → Int64))
  | 0 => fun _ _ _ _ _ _ => none
  | n + 1 => m_SpeciesSolverModel_fill_18b F md_lines md_n md_species md_above md_chosen md_given md_on md_numbers md_pitches k12 (m_SpeciesSolverModel_fill_18 F md_lines md_n md_species md_above md_chosen md_given md_on md_numbers md_pitches k12 n)
def m_SpeciesSolverModel_fill_12b (F : Nat) (md_lines : Int32) (md_n : Int32) (md_species : Int32) (md_above : Int32) (md_chosen : Int32) (md_given : Nat → Int32) (md_on : Nat → Int32) (md_numbers : Nat → Int32) (md_pitches : Nat → Int32) (k12 : (Nat → Int32) → (Nat → Int64) → (Nat → Int64) → Int32 → Int32 → Option ((Nat → Int32) × (Nat → Int64) × (Nat → Int64))) (md_least : Nat → Int32) (md_all : Nat → Int64) (md_best : Nat → Int64) (x1 : Int32) (x2 : Int32) : Option ((Nat → Int32) × (Nat → Int64) × (Nat → Int64)) :=
  (if x2 < (0 : Int32) then
    (some (md_least, md_all, md_best))
  else
    m_SpeciesSolverModel_fill_18 F md_lines md_n md_species md_above md_chosen md_given md_on md_numbers md_pitches k12 F md_least md_all md_best x1 x2 (0 : Int32))
def m_SpeciesSolverModel_fill_12 (F : Nat) (md_lines : Int32) (md_n : Int32) (md_species : Int32) (md_above : Int32) (md_chosen : Int32) (md_given : Nat → Int32) (md_on : Nat → Int32) (md_numbers : Nat → Int32) (md_pitches : Nat → Int32)  : Nat → (Nat → Int32) → (Nat → Int64) → (Nat → Int64) → Int32 → Int32 → Option ((Nat → Int32) × (Nat → Int64) × (Nat → Int64))
  | 0 => fun _ _ _ _ _ => none
  | n + 1 => m_SpeciesSolverModel_fill_12b F md_lines md_n md_species md_above md_chosen md_given md_on md_numbers md_pitches  (m_SpeciesSolverModel_fill_12 F md_lines md_n md_species md_above md_chosen md_given md_on md_numbers md_pitches  n)
def m_SpeciesSolverModel_fill (F : Nat) (md_lines : Int32) (md_n : Int32) (md_species : Int32) (md_above : Int32) (md_chosen : Int32) (md_given : Nat → Int32) (md_on : Nat → Int32) (md_numbers : Nat → Int32) (md_pitches : Nat → Int32) (md_least : Nat → Int32) (md_all : Nat → Int64) (md_best : Nat → Int64) (a1 : Int32) : Option ((Nat → Int32) × (Nat → Int64) × (Nat → Int64)) :=
  (bd (m_SpeciesSolverModel_fillLast F md_n md_species md_least md_all md_best a1) (fun u1 => (bd (m_SpeciesSolverModel_size md_n md_species) (fun u3 => m_SpeciesSolverModel_fill_12 F md_lines md_n md_species md_above md_chosen md_given md_on md_numbers md_pitches  F u1.1 u1.2.1 u1.2.2 a1 (u3 - (2 : Int32))))))
def m_SpeciesSolverModel_follow_286 (F : Nat) (md_lines : Int32) (md_n : Int32) (md_species : Int32) (md_above : Int32) (md_given : Nat → Int32) (md_on : Nat → Int32) (md_numbers : Nat → Int32) (md_pitches : Nat → Int32) (md_least : Nat → Int32) (k32 : (Nat → Int32) → Int32 → Int32 → Int32 → Int32 → Int32 → Int32 → Option ((Nat → Int32))) (md_line : Nat → Int32) (x1 : Int32) (x6 : Int32) (x7 : Int32) (x9 : Int32) (x11 : Int32) (t0 : Int32) : Option ((Nat → Int32)) :=
  (gd x9 8 (gd (x7 + (1 : Int32)) 45 (k32 (upd md_line (Int32.toNatClampNeg (x7 + (1 : Int32))) (md_pitches (Int32.toNatClampNeg x9))) x1 x9 x11 t0 x6 (x7 + 1))))
def m_SpeciesSolverModel_follow_241 (F : Nat) (md_lines : Int32) (md_n : Int32) (md_species : Int32) (md_above : Int32) (md_given : Nat → Int32) (md_on : Nat → Int32) (md_numbers : Nat → Int32) (md_pitches : Nat → Int32) (md_least : Nat → Int32) (k32 : (Nat → Int32) → Int32 → Int32 → Int32 → Int32 → Int32 → Int32 → Option ((Nat → Int32))) (k73 : (Nat → Int32) → Int32 → Int32 → Int32 → Int32 → Int32 → Int32 → Int32 → Int32 → Int32 → Option ((Nat → Int32))) (md_line : Nat → Int32) (x1 : Int32) (x3 : Int32) (x4 : Int32) (x5 : Int32) (x6 : Int32) (x7 : Int32) (x8 : Int32) (x10 : Int32) (t0 : Int32) (t1 : Int32) : Option ((Nat → Int32)) :=
  k73 md_line x1 x3 x4 x5 x6 x7 x8 (t0 + t1) x10
def m_SpeciesSolverModel_follow_229 (F : Nat) (md_lines : Int32) (md_n : Int32) (md_species : Int32) (md_above : Int32) (md_given : Nat → Int32) (md_on : Nat → Int32) (md_numbers : Nat → Int32) (md_pitches : Nat → Int32) (md_least : Nat → Int32) (k32 : (Nat → Int32) → Int32 → Int32 → Int32 → Int32 → Int32 → Int32 → Option ((Nat → Int32))) (k73 : (Nat → Int32) → Int32 → Int32 → Int32 → Int32 → Int32 → Int32 → Int32 → Int32 → Int32 → Option ((Nat → Int32))) (md_line : Nat → Int32) (x1 : Int32) (x3 : Int32) (x4 : Int32) (x5 : Int32) (x6 : Int32) (x7 : Int32) (x8 : Int32) (x9 : Int32) (x10 : Int32) : Option ((Nat → Int32)) :=
  (if x10 = (0 : Int32) then
    m_SpeciesSolverModel_follow_241 F md_lines md_n md_species md_above md_given md_on md_numbers md_pitches md_least k32 k73 md_line x1 x3 x4 x5 x6 x7 x8 x10 x9 (1 : Int32)
  else
    m_SpeciesSolverModel_follow_241 F md_lines md_n md_species md_above md_given md_on md_numbers md_pitches md_least k32 k73 md_line x1 x3 x4 x5 x6 x7 x8 x10 x9 (0 : Int32))
def m_SpeciesSolverModel_follow_227 (F : Nat) (md_lines : Int32) (md_n : Int32) (md_species : Int32) (md_above : Int32) (md_given : Nat → Int32) (md_on : Nat → Int32) (md_numbers : Nat → Int32) (md_pitches : Nat → Int32) (md_least : Nat → Int32) (k32 : (Nat → Int32) → Int32 → Int32 → Int32 → Int32 → Int32 → Int32 → Option ((Nat → Int32))) (k73 : (Nat → Int32) → Int32 → Int32 → Int32 → Int32 → Int32 → Int32 → Int32 → Int32 → Int32 → Option ((Nat → Int32))) (md_line : Nat → Int32) (x1 : Int32) (x3 : Int32) (x4 : Int32) (x5 : Int32) (x6 : Int32) (x7 : Int32) (x8 : Int32) (x9 : Int32) (t0 : Int32) : Option ((Nat → Int32)) :=
  m_SpeciesSolverModel_follow_229 F md_lines md_n md_species md_above md_given md_on md_numbers md_pitches md_least k32 k73 md_line x1 x3 x4 x5 x6 x7 x8 x9 t0
def m_SpeciesSolverModel_follow_226 (F : Nat) (md_lines : Int32) (md_n : Int32) (md_species : Int32) (md_above : Int32) (md_given : Nat → Int32) (md_on : Nat → Int32) (md_numbers : Nat → Int32) (md_pitches : Nat → Int32) (md_least : Nat → Int32) (k32 : (Nat → Int32) → Int32 → Int32 → Int32 → Int32 → Int32 → Int32 → Option ((Nat → Int32))) (k73 : (Nat → Int32) → Int32 → Int32 → Int32 → Int32 → Int32 → Int32 → Int32 → Int32 → Int32 → Option ((Nat → Int32))) (md_line : Nat → Int32) (x1 : Int32) (x3 : Int32) (x4 : Int32) (x5 : Int32) (x6 : Int32) (x7 : Int32) (x8 : Int32) (x9 : Int32) : Option ((Nat → Int32)) :=
  m_SpeciesSolverModel_follow_227 F md_lines md_n md_species md_above md_given md_on md_numbers md_pitches md_least k32 k73 md_line x1 x3 x4 x5 x6 x7 x8 x9 (0 : Int32)
def m_SpeciesSolverModel_follow_142 (F : Nat) (md_lines : Int32) (md_n : Int32) (md_species : Int32) (md_above : Int32) (md_given : Nat → Int32) (md_on : Nat → Int32) (md_numbers : Nat → Int32) (md_pitches : Nat → Int32) (md_least : Nat → Int32) (k32 : (Nat → Int32) → Int32 → Int32 → Int32 → Int32 → Int32 → Int32 → Option ((Nat → Int32))) (k73 : (Nat → Int32) → Int32 → Int32 → Int32 → Int32 → Int32 → Int32 → Int32 → Int32 → Int32 → Option ((Nat → Int32))) (md_line : Nat → Int32) (x1 : Int32) (x3 : Int32) (x4 : Int32) (x5 : Int32) (x6 : Int32) (x7 : Int32) (x8 : Int32) (x9 : Int32) (x11 : Int32) (t0 : Int32) (t1 : Int32) (t2 : Int32) : Option ((Nat → Int32)) :=
  (bd (m_SpeciesSolverModel_state t0 t1 t2 x11) (fun u1 => (gd (((1280 : Int32) * (x7 + (1 : Int32))) + u1) 57600 (if (1000000000 : Int32) ≤ (md_least (Int32.toNatClampNeg (((1280 : Int32) * (x7 + (1 : Int32))) + u1))) then
    m_SpeciesSolverModel_follow_226 F md_lines md_n md_species md_above md_given md_on md_numbers md_pitches md_least k32 k73 md_line x1 x3 x4 x5 x6 x7 x8 x9
  else
    (gd x3 8 (gd x9 8 (bd (m_SpeciesSolverModel_moveCost md_numbers (md_pitches (Int32.toNatClampNeg x3)) (md_pitches (Int32.toNatClampNeg x9))) (fun u7 => (gd x5 8 (gd x9 8 (bd (m_SpeciesSolverModel_noteCost F md_lines md_n md_species md_given md_numbers (x7 + (1 : Int32)) (md_pitches (Int32.toNatClampNeg x5)) (md_pitches (Int32.toNatClampNeg x9))) (fun u11 => (if (((md_least (Int32.toNatClampNeg (((1280 : Int32) * (x7 + (1 : Int32))) + u1))) + u7) + u11) = x8 then
      m_SpeciesSolverModel_follow_227 F md_lines md_n md_species md_above md_given md_on md_numbers md_pitches md_least k32 k73 md_line x1 x3 x4 x5 x6 x7 x8 x9 (1 : Int32)
    else
      m_SpeciesSolverModel_follow_226 F md_lines md_n md_species md_above md_given md_on md_numbers md_pitches md_least k32 k73 md_line x1 x3 x4 x5 x6 x7 x8 x9)))))))))))))
def m_SpeciesSolverModel_follow_73b (F : Nat) (md_lines : Int32) (md_n : Int32) (md_species : Int32) (md_above : Int32) (md_given : Nat → Int32) (md_on : Nat → Int32) (md_numbers : Nat → Int32) (md_pitches : Nat → Int32) (md_least : Nat → Int32) (k32 : (Nat → Int32) → Int32 → Int32 → Int32 → Int32 → Int32 → Int32 → Option ((Nat → Int32))) (k73 : (Nat → Int32) → Int32 → Int32 → Int32 → Int32 → Int32 → Int32 → Int32 → Int32 → Int32 → Option ((Nat → Int32))) (md_line : Nat → Int32) (x1 : Int32) (x3 : Int32) (x4 : Int32) (x5 : Int32) (x6 : Int32) (x7 : Int32) (x8 : Int32) (x9 : Int32) (x10 : Int32) : Option ((Nat → Int32)) :=
  (if x10 = (0 : Int32) then
    (bd (m_SpeciesSolverModel_usedBy x1 x6 x9) (fun u9 => (if (2 : Int32) ≤ u9 then
      m_SpeciesSolverModel_follow_229 F md_lines md_n md_species md_above md_given md_on md_numbers md_pitches md_least k32 k73 md_line x1 x3 x4 x5 x6 x7 x8 x9 x10
    else
      (bd (m_SpeciesSolverModel_mayFollow F md_lines md_n md_species md_above md_given md_on md_numbers md_pitches (x7 + (1 : Int32)) x3 x4 x5 x9 (1 : Int32)) (fun u12 => (if u12 = (0 : Int32) then
        m_SpeciesSolverModel_follow_229 F md_lines md_n md_species md_above md_given md_on md_numbers md_pitches md_least k32 k73 md_line x1 x3 x4 x5 x6 x7 x8 x9 x10
      else
        (bd (m_SpeciesSolverModel_nextHow x3 x4 x9) (fun u15 => (bd (m_SpeciesSolverModel_isStrong md_species (x7 + (1 : Int32))) (fun u17 => (if u17 = (0 : Int32) then
          m_SpeciesSolverModel_follow_142 F md_lines md_n md_species md_above md_given md_on md_numbers md_pitches md_least k32 k73 md_line x1 x3 x4 x5 x6 x7 x8 x9 u9 x9 u15 x5
        else
          m_SpeciesSolverModel_follow_142 F md_lines md_n md_species md_above md_given md_on md_numbers md_pitches md_least k32 k73 md_line x1 x3 x4 x5 x6 x7 x8 x9 u9 x9 u15 x9)))))))))))
  else
    (bd (m_SpeciesSolverModel_nextHow x3 x4 x9) (fun u2 => (bd (m_SpeciesSolverModel_usedBy x1 x6 x9) (fun u4 => (bd (m_SpeciesSolverModel_isStrong md_species (x7 + (1 : Int32))) (fun u6 => (if u6 = (0 : Int32) then
      m_SpeciesSolverModel_follow_286 F md_lines md_n md_species md_above md_given md_on md_numbers md_pitches md_least k32 md_line x1 u4 x7 x9 u2 x5
    else
      m_SpeciesSolverModel_follow_286 F md_lines md_n md_species md_above md_given md_on md_numbers md_pitches md_least k32 md_line x1 u4 x7 x9 u2 x9))))))))
def m_SpeciesSolverModel_follow_73 (F : Nat) (md_lines : Int32) (md_n : Int32) (md_species : Int32) (md_above : Int32) (md_given : Nat → Int32) (md_on : Nat → Int32) (md_numbers : Nat → Int32) (md_pitches : Nat → Int32) (md_least : Nat → Int32) (k32 : (Nat → Int32) → Int32 → Int32 → Int32 → Int32 → Int32 → Int32 → Option ((Nat → Int32))) : Nat → (Nat → Int32) → Int32 → Int32 → Int32 → Int32 → Int32 → Int32 → Int32 → Int32 → Int32 → Option ((Nat → Int32))
  | 0 => fun _ _ _ _ _ _ _ _ _ _ => none
  | n + 1 => m_SpeciesSolverModel_follow_73b F md_lines md_n md_species md_above md_given md_on md_numbers md_pitches md_least k32 (m_SpeciesSolverModel_follow_73 F md_lines md_n md_species md_above md_given md_on md_numbers md_pitches md_least k32 n)
def m_SpeciesSolverModel_follow_32b (F : Nat) (md_lines : Int32) (md_n : Int32) (md_species : Int32) (md_above : Int32) (md_given : Nat → Int32) (md_on : Nat → Int32) (md_numbers : Nat → Int32) (md_pitches : Nat → Int32) (md_least : Nat → Int32) (k32 : (Nat → Int32) → Int32 → Int32 → Int32 → Int32 → Int32 → Int32 → Option ((Nat → Int32))) (md_line : Nat → Int32) (x1 : Int32) (x3 : Int32) (x4 : Int32) (x5 : Int32) (x6 : Int32) (x7 : Int32) : Option ((Nat → Int32)) :=
  (bd (m_SpeciesSolverModel_size md_n md_species) (fun u1 => (if u1 ≤ (x7 + (1 : Int32)) then
    (some md_line)
  else
    (bd (m_SpeciesSolverModel_state x3 x4 x5 x6) (fun u4 => (gd (((1280 : Int32) * x7) + u4) 57600 (m_SpeciesSolverModel_follow_73 F md_lines md_n md_species md_above md_given md_on md_numbers md_pitches md_least k32 F md_line x1 x3 x4 x5 x6 x7 (md_least (Int32.toNatClampNeg (((1280 : Int32) * x7) + u4))) (0 : Int32) (0 : Int32))))))))
def m_SpeciesSolverModel_follow_32 (F : Nat) (md_lines : Int32) (md_n : Int32) (md_species : Int32) (md_above : Int32) (md_given : Nat → Int32) (md_on : Nat → Int32) (md_numbers : Nat → Int32) (md_pitches : Nat → Int32) (md_least : Nat → Int32)  : Nat → (Nat → Int32) → Int32 → Int32 → Int32 → Int32 → Int32 → Int32 → Option ((Nat → Int32))
  | 0 => fun _ _ _ _ _ _ _ => none
  | n + 1 => m_SpeciesSolverModel_follow_32b F md_lines md_n md_species md_above md_given md_on md_numbers md_pitches md_least  (m_SpeciesSolverModel_follow_32 F md_lines md_n md_species md_above md_given md_on md_numbers md_pitches md_least  n)
def m_SpeciesSolverModel_follow (F : Nat) (md_lines : Int32) (md_n : Int32) (md_species : Int32) (md_above : Int32) (md_given : Nat → Int32) (md_on : Nat → Int32) (md_numbers : Nat → Int32) (md_pitches : Nat → Int32) (md_least : Nat → Int32) (md_line : Nat → Int32) (a1 : Int32) (a2 : Int32) : Option ((Nat → Int32)) :=
  (bd (m_SpeciesSolverModel_usedBy a1 (0 : Int32) a2) (fun u1 => (gd a2 8 (m_SpeciesSolverModel_follow_32 F md_lines md_n md_species md_above md_given md_on md_numbers md_pitches md_least  F (upd md_line (Int32.toNatClampNeg (0 : Int32)) (md_pitches (Int32.toNatClampNeg a2))) a1 a2 (0 : Int32) a2 u1 (0 : Int32)))))
def m_SpeciesSolverModel_readOff_166 (F : Nat) (md_lines : Int32) (md_n : Int32) (md_species : Int32) (md_above : Int32) (md_chosen : Int32) (md_given : Nat → Int32) (md_on : Nat → Int32) (md_numbers : Nat → Int32) (md_pitches : Nat → Int32) (md_least : Nat → Int32) (md_all : Nat → Int64) (md_best : Nat → Int64) (k20 : Int32 → Int64 → Int64 → (Nat → Int32) → Int32 → Int32 → Int32 → Option (Int32 × Int64 × Int64 × (Nat → Int32))) (md_low : Int32) (md_many : Int64) (md_ties : Int64) (md_line : Nat → Int32) (x1 : Int32) (x2 : Int32) (x3 : Int32) : Option (Int32 × Int64 × Int64 × (Nat → Int32)) :=
  k20 md_low md_many md_ties md_line x1 x2 (x3 + 1)
def m_SpeciesSolverModel_readOff_20b (F : Nat) (md_lines : Int32) (md_n : Int32) (md_species : Int32) (md_above : Int32) (md_chosen : Int32) (md_given : Nat → Int32) (md_on : Nat → Int32) (md_numbers : Nat → Int32) (md_pitches : Nat → Int32) (md_least : Nat → Int32) (md_all : Nat → Int64) (md_best : Nat → Int64) (k20 : Int32 → Int64 → Int64 → (Nat → Int32) → Int32 → Int32 → Int32 → Option (Int32 × Int64 × Int64 × (Nat → Int32))) (md_low : Int32) (md_many : Int64) (md_ties : Int64) (md_line : Nat → Int32) (x1 : Int32) (x2 : Int32) (x3 : Int32) : Option (Int32 × Int64 × Int64 × (Nat → Int32)) :=
  (if md_chosen ≤ x3 then
    (if x2 < (0 : Int32) then
      (some (md_low, md_many, md_ties, md_line))
    else
      (bd (m_SpeciesSolverModel_follow F md_lines md_n md_species md_above md_given md_on md_numbers md_pitches md_least md_line x1 x2) (fun u3 => (some (md_low, md_many, md_ties, u3)))))
  else
    (bd (m_SpeciesSolverModel_usedBy x1 (0 : Int32) x3) (fun u5 => (if (2 : Int32) ≤ u5 then
      m_SpeciesSolverModel_readOff_166 F md_lines md_n md_species md_above md_chosen md_given md_on md_numbers md_pitches md_least md_all md_best k20 md_low md_many md_ties md_line x1 x2 x3
    else
      (bd (m_SpeciesSolverModel_mayBegin F md_lines md_species md_above md_given md_on md_numbers md_pitches x3) (fun u8 => (if u8 = (0 : Int32) then
        m_SpeciesSolverModel_readOff_166 F md_lines md_n md_species md_above md_chosen md_given md_on md_numbers md_pitches md_least md_all md_best k20 md_low md_many md_ties md_line x1 x2 x3
      else
        (bd (m_SpeciesSolverModel_state x3 (0 : Int32) x3 u5) (fun u11 => (gd u11 57600 (gd u11 2560 (if (1000000000 : Int32) ≤ (md_least (Int32.toNatClampNeg u11)) then
          m_SpeciesSolverModel_readOff_166 F md_lines md_n md_species md_above md_chosen md_given md_on md_numbers md_pitches md_least md_all md_best k20 md_low (md_many + (md_all (Int32.toNatClampNeg u11))) md_ties md_line x1 x2 x3
        else
          (gd x3 8 (bd (m_SpeciesSolverModel_noteCost F md_lines md_n md_species md_given md_numbers (0 : Int32) (0 : Int32) (md_pitches (Int32.toNatClampNeg x3))) (fun u17 => (if md_low ≤ ((md_least (Int32.toNatClampNeg u11)) + u17) then
            (if ((md_least (Int32.toNatClampNeg u11)) + u17) = md_low then
              (gd u11 2560 (m_SpeciesSolverModel_readOff_166 F md_lines md_n md_species md_above md_chosen md_given md_on md_numbers md_pitches md_least md_all md_best k20 md_low (md_many + (md_all (Int32.toNatClampNeg u11))) (md_ties + (md_best (Int32.toNatClampNeg u11))) md_line x1 x2 x3))
            else
              m_SpeciesSolverModel_readOff_166 F md_lines md_n md_species md_above md_chosen md_given md_on md_numbers md_pitches md_least md_all md_best k20 md_low (md_many + (md_all (Int32.toNatClampNeg u11))) md_ties md_line x1 x2 x3)
          else
            (gd u11 2560 (m_SpeciesSolverModel_readOff_166 F md_lines md_n md_species md_above md_chosen md_given md_on md_numbers md_pitches md_least md_all md_best k20 ((md_least (Int32.toNatClampNeg u11)) + u17) (md_many + (md_all (Int32.toNatClampNeg u11))) (md_best (Int32.toNatClampNeg u11)) md_line x1 x3 x3))))))))))))))))))
def m_SpeciesSolverModel_readOff_20 (F : Nat) (md_lines : Int32) (md_n : Int32) (md_species : Int32) (md_above : Int32) (md_chosen : Int32) (md_given : Nat → Int32) (md_on : Nat → Int32) (md_numbers : Nat → Int32) (md_pitches : Nat → Int32) (md_least : Nat → Int32) (md_all : Nat → Int64) (md_best : Nat → Int64)  : Nat → Int32 → Int64 → Int64 → (Nat → Int32) → Int32 → Int32 → Int32 → Option (Int32 × Int64 × Int64 × (Nat → Int32))
  | 0 => fun _ _ _ _ _ _ _ => none
  | n + 1 => m_SpeciesSolverModel_readOff_20b F md_lines md_n md_species md_above md_chosen md_given md_on md_numbers md_pitches md_least md_all md_best  (m_SpeciesSolverModel_readOff_20 F md_lines md_n md_species md_above md_chosen md_given md_on md_numbers md_pitches md_least md_all md_best  n)
def m_SpeciesSolverModel_readOff (F : Nat) (md_lines : Int32) (md_n : Int32) (md_species : Int32) (md_above : Int32) (md_chosen : Int32) (md_given : Nat → Int32) (md_on : Nat → Int32) (md_numbers : Nat → Int32) (md_pitches : Nat → Int32) (md_least : Nat → Int32) (md_all : Nat → Int64) (md_best : Nat → Int64) (md_low : Int32) (md_many : Int64) (md_ties : Int64) (md_line : Nat → Int32) (a1 : Int32) : Option (Int32 × Int64 × Int64 × (Nat → Int32)) :=
  m_SpeciesSolverModel_readOff_20 F md_lines md_n md_species md_above md_chosen md_given md_on md_numbers md_pitches md_least md_all md_best  F (1000000000 : Int32) (0 : Int64) (0 : Int64) md_line a1 (-1 : Int32) (0 : Int32)
def m_SpeciesSolverModel_isLower_2b (F : Nat) (md_n : Int32) (md_species : Int32) (md_line : Nat → Int32) (md_winner : Nat → Int32) (k2 : Int32 → Option (Int32))  (x1 : Int32) : Option (Int32) :=
  (bd (m_SpeciesSolverModel_size md_n md_species) (fun u1 => (if u1 ≤ x1 then
    (some (0 : Int32))
  else
    (gd x1 45 (gd x1 45 (if (md_line (Int32.toNatClampNeg x1)) = (md_winner (Int32.toNatClampNeg x1)) then
      k2 (x1 + 1)
    else
      (gd x1 45 (gd x1 45 (if (md_winner (Int32.toNatClampNeg x1)) ≤ (md_line (Int32.toNatClampNeg x1)) then
        (some (0 : Int32))
      else
        (some (1 : Int32)))))))))))
def m_SpeciesSolverModel_isLower_2 (F : Nat) (md_n : Int32) (md_species : Int32) (md_line : Nat → Int32) (md_winner : Nat → Int32)  : Nat → Int32 → Option (Int32)
  | 0 => fun _ => none
  | n + 1 => m_SpeciesSolverModel_isLower_2b F md_n md_species md_line md_winner  (m_SpeciesSolverModel_isLower_2 F md_n md_species md_line md_winner  n)
def m_SpeciesSolverModel_isLower (F : Nat) (md_n : Int32) (md_species : Int32) (md_line : Nat → Int32) (md_winner : Nat → Int32)   : Option (Int32) :=
  m_SpeciesSolverModel_isLower_2 F md_n md_species md_line md_winner  F (0 : Int32)
def m_SpeciesSolverModel_work_180 (F : Nat) (md_lines : Int32) (md_n : Int32) (md_species : Int32) (md_above : Int32) (md_chosen : Int32) (md_given : Nat → Int32) (md_on : Nat → Int32) (md_numbers : Nat → Int32) (md_pitches : Nat → Int32) (k32 : Int32 → Int64 → Int64 → Int32 → Int64 → Int64 → (Nat → Int32) → (Nat → Int64) → (Nat → Int64) → (Nat → Int32) → (Nat → Int32) → Int32 → Option (Int32 × Int64 × Int64 × Int32 × Int64 × Int64 × (Nat → Int32) × (Nat → Int64) × (Nat → Int64) × (Nat → Int32) × (Nat → Int32))) (md_low : Int32) (md_many : Int64) (md_ties : Int64) (md_winnerCost : Int32) (md_allMany : Int64) (md_allTies : Int64) (md_least : Nat → Int32) (md_all : Nat → Int64) (md_best : Nat → Int64) (md_line : Nat → Int32) (md_winner : Nat → Int32) (x1 : Int32) : Option (Int32 × Int64 × Int64 × Int32 × Int64 × Int64 × (Nat → Int32) × (Nat → Int64) × (Nat → Int64) × (Nat → Int32) × (Nat → Int32)) :=
  k32 md_low md_many md_ties md_winnerCost md_allMany md_allTies md_least md_all md_best md_line md_winner (x1 + 1)
def m_SpeciesSolverModel_work_172 (F : Nat) (md_lines : Int32) (md_n : Int32) (md_species : Int32) (md_above : Int32) (md_chosen : Int32) (md_given : Nat → Int32) (md_on : Nat → Int32) (md_numbers : Nat → Int32) (md_pitches : Nat → Int32) (k32 : Int32 → Int64 → Int64 → Int32 → Int64 → Int64 → (Nat → Int32) → (Nat → Int64) → (Nat → Int64) → (Nat → Int32) → (Nat → Int32) → Int32 → Option (Int32 × Int64 × Int64 × Int32 × Int64 × Int64 × (Nat → Int32) × (Nat → Int64) × (Nat → Int64) × (Nat → Int32) × (Nat → Int32))) (md_low : Int32) (md_many : Int64) (md_ties : Int64) (md_winnerCost : Int32) (md_allMany : Int64) (md_allTies : Int64) (md_least : Nat → Int32) (md_all : Nat → Int64) (md_best : Nat → Int64) (md_line : Nat → Int32) (md_winner : Nat → Int32) (x1 : Int32) : Option (Int32 × Int64 × Int64 × Int32 × Int64 × Int64 × (Nat → Int32) × (Nat → Int64) × (Nat → Int64) × (Nat → Int32) × (Nat → Int32)) :=
  m_SpeciesSolverModel_work_180 F md_lines md_n md_species md_above md_chosen md_given md_on md_numbers md_pitches k32 md_low md_many md_ties md_low md_allMany md_allTies md_least md_all md_best md_line md_winner x1
def m_SpeciesSolverModel_work_146b (F : Nat) (md_lines : Int32) (md_n : Int32) (md_species : Int32) (md_above : Int32) (md_chosen : Int32) (md_given : Nat → Int32) (md_on : Nat → Int32) (md_numbers : Nat → Int32) (md_pitches : Nat → Int32) (k32 : Int32 → Int64 → Int64 → Int32 → Int64 → Int64 → (Nat → Int32) → (Nat → Int64) → (Nat → Int64) → (Nat → Int32) → (Nat → Int32) → Int32 → Option (Int32 × Int64 × Int64 × Int32 × Int64 × Int64 × (Nat → Int32) × (Nat → Int64) × (Nat → Int64) × (Nat → Int32) × (Nat → Int32))) (k146 : Int32 → Int64 → Int64 → Int32 → Int64 → Int64 → (Nat → Int32) → (Nat → Int64) → (Nat → Int64) → (Nat → Int32) → (Nat → Int32) → Int32 → Int32 → Option (Int32 × Int64 × Int64 × Int32 × Int64 × Int64 × (Nat → Int32) × (Nat → Int64) × (Nat → Int64) × (Nat → Int32) × (Nat → Int32))) (md_low : Int32) (md_many : Int64) (md_ties : Int64) (md_winnerCost : Int32) (md_allMany : Int64) (md_allTies : Int64) (md_least : Nat → Int32) (md_all : Nat → Int64) (md_best : Nat → Int64) (md_line : Nat → Int32) (md_winner : Nat → Int32) (x1 : Int32) (x2 : Int32) : Option (Int32 × Int64 × Int64 × Int32 × Int64 × Int64 × (Nat → Int32) × (Nat → Int64) × (Nat → Int64) × (Nat → Int32) × (Nat → Int32)) :=
  (bd (m_SpeciesSolverModel_size md_n md_species) (fun u1 => (if u1 ≤ x2 then
    m_SpeciesSolverModel_work_172 F md_lines md_n md_species md_above md_chosen md_given md_on md_numbers md_pitches k32 md_low md_many md_ties md_winnerCost md_allMany md_allTies md_least md_all md_best md_line md_winner x1
  else
    (gd x2 45 (gd x2 45 (k146 md_low md_many md_ties md_winnerCost md_allMany md_allTies md_least md_all md_best md_line (upd md_winner (Int32.toNatClampNeg x2) (md_line (Int32.toNatClampNeg x2))) x1 (x2 + 1)))))))
def m_SpeciesSolverModel_work_146 (F : Nat) (md_lines : Int32) (md_n : Int32) (md_species : Int32) (md_above : Int32) (md_chosen : Int32) (md_given : Nat → Int32) (md_on : Nat → Int32) (md_numbers : Nat → Int32) (md_pitches : Nat → Int32) (k32 : Int32 → Int64 → Int64 → Int32 → Int64 → Int64 → (Nat → Int32) → (Nat → Int64) → (Nat → Int64) → (Nat → Int32) → (Nat → Int32) → Int32 → Option (Int32 × Int64 × Int64 × Int32 × Int64 × Int64 × (Nat → Int32) × (Nat → Int64) × (Nat → Int64) × (Nat → Int32) × (Nat → Int32))) : Nat → Int32 → Int64 → Int64 → Int32 → Int64 → Int64 → (Nat → Int32) → (Nat → Int64) → (Nat → Int64) → (Nat → Int32) → (Nat → Int32) → Int32 → Int32 → Option (Int32 × Int64 × Int64 × Int32 × Int64 × Int64 × (Nat → Int32) × (Nat → Int64) × (Nat → Int64) × (Nat → Int32) × (Nat → Int32))
  | 0 => fun _ _ _ _ _ _ _ _ _ _ _ _ _ => none
  | n + 1 => m_SpeciesSolverModel_work_146b F md_lines md_n md_species md_above md_chosen md_given md_on md_numbers md_pitches k32 (m_SpeciesSolverModel_work_146 F md_lines md_n md_species md_above md_chosen md_given md_on md_numbers md_pitches k32 n)
def m_SpeciesSolverModel_work_144 (F : Nat) (md_lines : Int32) (md_n : Int32) (md_species : Int32) (md_above : Int32) (md_chosen : Int32) (md_given : Nat → Int32) (md_on : Nat → Int32) (md_numbers : Nat → Int32) (md_pitches : Nat → Int32) (k32 : Int32 → Int64 → Int64 → Int32 → Int64 → Int64 → (Nat → Int32) → (Nat → Int64) → (Nat → Int64) → (Nat → Int32) → (Nat → Int32) → Int32 → Option (Int32 × Int64 × Int64 × Int32 × Int64 × Int64 × (Nat → Int32) × (Nat → Int64) × (Nat → Int64) × (Nat → Int32) × (Nat → Int32))) (md_low : Int32) (md_many : Int64) (md_ties : Int64) (md_winnerCost : Int32) (md_allMany : Int64) (md_allTies : Int64) (md_least : Nat → Int32) (md_all : Nat → Int64) (md_best : Nat → Int64) (md_line : Nat → Int32) (md_winner : Nat → Int32) (x1 : Int32) : Option (Int32 × Int64 × Int64 × Int32 × Int64 × Int64 × (Nat → Int32) × (Nat → Int64) × (Nat → Int64) × (Nat → Int32) × (Nat → Int32)) :=
  m_SpeciesSolverModel_work_146 F md_lines md_n md_species md_above md_chosen md_given md_on md_numbers md_pitches k32 F md_low md_many md_ties md_winnerCost md_allMany md_allTies md_least md_all md_best md_line md_winner x1 (0 : Int32)
def m_SpeciesSolverModel_work_93 (F : Nat) (md_lines : Int32) (md_n : Int32) (md_species : Int32) (md_above : Int32) (md_chosen : Int32) (md_given : Nat → Int32) (md_on : Nat → Int32) (md_numbers : Nat → Int32) (md_pitches : Nat → Int32) (k32 : Int32 → Int64 → Int64 → Int32 → Int64 → Int64 → (Nat → Int32) → (Nat → Int64) → (Nat → Int64) → (Nat → Int32) → (Nat → Int32) → Int32 → Option (Int32 × Int64 × Int64 × Int32 × Int64 × Int64 × (Nat → Int32) × (Nat → Int64) × (Nat → Int64) × (Nat → Int32) × (Nat → Int32))) (md_low : Int32) (md_many : Int64) (md_ties : Int64) (md_winnerCost : Int32) (md_allMany : Int64) (md_allTies : Int64) (md_least : Nat → Int32) (md_all : Nat → Int64) (md_best : Nat → Int64) (md_line : Nat → Int32) (md_winner : Nat → Int32) (x1 : Int32) : Option (Int32 × Int64 × Int64 × Int32 × Int64 × Int64 × (Nat → Int32) × (Nat → Int64) × (Nat → Int64) × (Nat → Int32) × (Nat → Int32)) :=
  (if md_winnerCost < md_low then
    m_SpeciesSolverModel_work_180 F md_lines md_n md_species md_above md_chosen md_given md_on md_numbers md_pitches k32 md_low md_many md_ties md_winnerCost md_allMany md_allTies md_least md_all md_best md_line md_winner x1
  else
    (if (1000000000 : Int32) ≤ md_low then
      m_SpeciesSolverModel_work_180 F md_lines md_n md_species md_above md_chosen md_given md_on md_numbers md_pitches k32 md_low md_many md_ties md_winnerCost md_allMany md_allTies md_least md_all md_best md_line md_winner x1
    else
      (if md_low < md_winnerCost then
        m_SpeciesSolverModel_work_144 F md_lines md_n md_species md_above md_chosen md_given md_on md_numbers md_pitches k32 md_low md_many md_ties md_winnerCost md_allMany (md_allTies + md_ties) md_least md_all md_best md_line md_winner x1
      else
        (bd (m_SpeciesSolverModel_isLower F md_n md_species md_line md_winner) (fun u4 => (if u4 = (0 : Int32) then
          m_SpeciesSolverModel_work_172 F md_lines md_n md_species md_above md_chosen md_given md_on md_numbers md_pitches k32 md_low md_many md_ties md_winnerCost md_allMany (md_allTies + md_ties) md_least md_all md_best md_line md_winner x1
        else
          m_SpeciesSolverModel_work_144 F md_lines md_n md_species md_above md_chosen md_given md_on md_numbers md_pitches k32 md_low md_many md_ties md_winnerCost md_allMany (md_allTies + md_ties) md_least md_all md_best md_line md_winner x1))))))
def m_SpeciesSolverModel_work_51 (F : Nat) (md_lines : Int32) (md_n : Int32) (md_species : Int32) (md_above : Int32) (md_chosen : Int32) (md_given : Nat → Int32) (md_on : Nat → Int32) (md_numbers : Nat → Int32) (md_pitches : Nat → Int32) (k32 : Int32 → Int64 → Int64 → Int32 → Int64 → Int64 → (Nat → Int32) → (Nat → Int64) → (Nat → Int64) → (Nat → Int32) → (Nat → Int32) → Int32 → Option (Int32 × Int64 × Int64 × Int32 × Int64 × Int64 × (Nat → Int32) × (Nat → Int64) × (Nat → Int64) × (Nat → Int32) × (Nat → Int32))) (md_low : Int32) (md_many : Int64) (md_ties : Int64) (md_winnerCost : Int32) (md_allMany : Int64) (md_allTies : Int64) (md_least : Nat → Int32) (md_all : Nat → Int64) (md_best : Nat → Int64) (md_line : Nat → Int32) (md_winner : Nat → Int32) (x1 : Int32) (t0 : Int32) (t1 : Int32) : Option (Int32 × Int64 × Int64 × Int32 × Int64 × Int64 × (Nat → Int32) × (Nat → Int64) × (Nat → Int64) × (Nat → Int32) × (Nat → Int32)) :=
  (if t1 ≤ t0 then
    (some (md_low, md_many, md_ties, md_winnerCost, md_allMany, md_allTies, md_least, md_all, md_best, md_line, md_winner))
  else
    (bd (m_SpeciesSolverModel_fill F md_lines md_n md_species md_above md_chosen md_given md_on md_numbers md_pitches md_least md_all md_best x1) (fun u2 => (bd (m_SpeciesSolverModel_readOff F md_lines md_n md_species md_above md_chosen md_given md_on md_numbers md_pitches u2.1 u2.2.1 u2.2.2 md_low md_many md_ties md_line x1) (fun u4 => (if md_winnerCost ≤ u4.1 then
      m_SpeciesSolverModel_work_93 F md_lines md_n md_species md_above md_chosen md_given md_on md_numbers md_pitches k32 u4.1 u4.2.1 u4.2.2.1 md_winnerCost (md_allMany + u4.2.1) md_allTies u2.1 u2.2.1 u2.2.2 u4.2.2.2 md_winner x1
    else
      m_SpeciesSolverModel_work_93 F md_lines md_n md_species md_above md_chosen md_given md_on md_numbers md_pitches k32 u4.1 u4.2.1 u4.2.2.1 md_winnerCost (md_allMany + u4.2.1) (0 : Int64) u2.1 u2.2.1 u2.2.2 u4.2.2.2 md_winner x1))))))
def m_SpeciesSolverModel_work_32b (F : Nat) (md_lines : Int32) (md_n : Int32) (md_species : Int32) (md_above : Int32) (md_chosen : Int32) (md_given : Nat → Int32) (md_on : Nat → Int32) (md_numbers : Nat → Int32) (md_pitches : Nat → Int32) (k32 : Int32 → Int64 → Int64 → Int32 → Int64 → Int64 → (Nat → Int32) → (Nat → Int64) → (Nat → Int64) → (Nat → Int32) → (Nat → Int32) → Int32 → Option (Int32 × Int64 × Int64 × Int32 × Int64 × Int64 × (Nat → Int32) × (Nat → Int64) × (Nat → Int64) × (Nat → Int32) × (Nat → Int32))) (md_low : Int32) (md_many : Int64) (md_ties : Int64) (md_winnerCost : Int32) (md_allMany : Int64) (md_allTies : Int64) (md_least : Nat → Int32) (md_all : Nat → Int64) (md_best : Nat → Int64) (md_line : Nat → Int32) (md_winner : Nat → Int32) (x1 : Int32) : Option (Int32 × Int64 × Int64 × Int32 × Int64 × Int64 × (Nat → Int32) × (Nat → Int64) × (Nat → Int64) × (Nat → Int32) × (Nat → Int32)) :=
  (if (md_on (Int32.toNatClampNeg (10 : Int32))) = (0 : Int32) then
    m_SpeciesSolverModel_work_51 F md_lines md_n md_species md_above md_chosen md_given md_on md_numbers md_pitches k32 md_low md_many md_ties md_winnerCost md_allMany md_allTies md_least md_all md_best md_line md_winner x1 x1 (0 : Int32)
  else
    m_SpeciesSolverModel_work_51 F md_lines md_n md_species md_above md_chosen md_given md_on md_numbers md_pitches k32 md_low md_many md_ties md_winnerCost md_allMany md_allTies md_least md_all md_best md_line md_winner x1 x1 md_chosen)
def m_SpeciesSolverModel_work_32 (F : Nat) (md_lines : Int32) (md_n : Int32) (md_species : Int32) (md_above : Int32) (md_chosen : Int32) (md_given : Nat → Int32) (md_on : Nat → Int32) (md_numbers : Nat → Int32) (md_pitches : Nat → Int32)  : Nat → Int32 → Int64 → Int64 → Int32 → Int64 → Int64 → (Nat → Int32) → (Nat → Int64) → (Nat → Int64) → (Nat → Int32) → (Nat → Int32) → Int32 → Option (Int32 × Int64 × Int64 × Int32 × Int64 × Int64 × (Nat → Int32) × (Nat → Int64) × (Nat → Int64) × (Nat → Int32) × (Nat → Int32))
  | 0 => fun _ _ _ _ _ _ _ _ _ _ _ _ => none
  | n + 1 => m_SpeciesSolverModel_work_32b F md_lines md_n md_species md_above md_chosen md_given md_on md_numbers md_pitches  (m_SpeciesSolverModel_work_32 F md_lines md_n md_species md_above md_chosen md_given md_on md_numbers md_pitches  n)
def m_SpeciesSolverModel_work_31 (F : Nat) (md_lines : Int32) (md_n : Int32) (md_species : Int32) (md_above : Int32) (md_chosen : Int32) (md_given : Nat → Int32) (md_on : Nat → Int32) (md_numbers : Nat → Int32) (md_pitches : Nat → Int32)  (md_low : Int32) (md_many : Int64) (md_ties : Int64) (md_winnerCost : Int32) (md_allMany : Int64) (md_allTies : Int64) (md_least : Nat → Int32) (md_all : Nat → Int64) (md_best : Nat → Int64) (md_line : Nat → Int32) (md_winner : Nat → Int32) (t0 : Int32) : Option (Int32 × Int64 × Int64 × Int32 × Int64 × Int64 × (Nat → Int32) × (Nat → Int64) × (Nat → Int64) × (Nat → Int32) × (Nat → Int32)) :=
  m_SpeciesSolverModel_work_32 F md_lines md_n md_species md_above md_chosen md_given md_on md_numbers md_pitches  F md_low md_many md_ties md_winnerCost md_allMany md_allTies md_least md_all md_best md_line md_winner t0
def m_SpeciesSolverModel_work (F : Nat) (md_lines : Int32) (md_n : Int32) (md_species : Int32) (md_above : Int32) (md_chosen : Int32) (md_given : Nat → Int32) (md_on : Nat → Int32) (md_numbers : Nat → Int32) (md_pitches : Nat → Int32) (md_low : Int32) (md_many : Int64) (md_ties : Int64) (md_winnerCost : Int32) (md_allMany : Int64) (md_allTies : Int64) (md_least : Nat → Int32) (md_all : Nat → Int64) (md_best : Nat → Int64) (md_line : Nat → Int32) (md_winner : Nat → Int32)  : Option (Int32 × Int64 × Int64 × Int32 × Int64 × Int64 × (Nat → Int32) × (Nat → Int64) × (Nat → Int64) × (Nat → Int32) × (Nat → Int32)) :=
  (if (md_on (Int32.toNatClampNeg (10 : Int32))) = (0 : Int32) then
    m_SpeciesSolverModel_work_31 F md_lines md_n md_species md_above md_chosen md_given md_on md_numbers md_pitches  md_low md_many md_ties (1000000000 : Int32) (0 : Int64) (0 : Int64) md_least md_all md_best md_line md_winner (-1 : Int32)
  else
    m_SpeciesSolverModel_work_31 F md_lines md_n md_species md_above md_chosen md_given md_on md_numbers md_pitches  md_low md_many md_ties (1000000000 : Int32) (0 : Int64) (0 : Int64) md_least md_all md_best md_line md_winner (0 : Int32))
def m_SpeciesSolverModel_cannot (F : Nat) (md_lines : Int32) (md_numbers : Nat → Int32) (md_chosen : Int32) (md_pitches : Nat → Int32)  : Option (Int32 × Int32 × (Nat → Int32)) :=
  (bd (m_SpeciesSolverModel_choose F md_numbers md_chosen md_pitches) (fun u1 => (if md_lines = (0 : Int32) then
    (some ((1 : Int32), u1.1, u1.2))
  else
    (if u1.1 ≤ (8 : Int32) then
      (some ((0 : Int32), u1.1, u1.2))
    else
      (some ((1 : Int32), u1.1, u1.2))))))
def m_SpeciesSolverModel_solve_78b (F : Nat) (md_lines : Int32) (md_n : Int32) (md_species : Int32) (md_above : Int32) (md_given : Nat → Int32) (md_on : Nat → Int32) (md_numbers : Nat → Int32) (k78 : Int32 → Int32 → Int32 → Int32 → Int32 → Int32 → Int64 → Int64 → Int32 → Int64 → Int64 → (Nat → Int32) → (Nat → Int32) → (Nat → Int32) → (Nat → Int64) → (Nat → Int64) → (Nat → Int32) → (Nat → Int32) → Int32 → Int32 → Option (Int32 × Int32 × Int32 × Int32 × Int32 × Int32 × Int32 × Int64 × Int64 × Int32 × Int64 × Int64 × (Nat → Int32) × (Nat → Int32) × (Nat → Int32) × (Nat → Int64) × (Nat → Int64) × (Nat → Int32) × (Nat → Int32))) (md_foundSize : Int32) (md_foundSpecies : Int32) (md_foundN : Int32) (md_foundCost : Int32) (md_chosen : Int32) (md_low : Int32) (md_many : Int64) (md_ties : Int64) (md_winnerCost : Int32) (md_allMany : Int64) (md_allTies : Int64) (md_found : Nat → Int32) (md_pitches : Nat → Int32) (md_least : Nat → Int32) (md_all : Nat → Int64) (md_best : Nat → Int64) (md_line : Nat → Int32) (md_winner : Nat → Int32) (x1 : Int32) (x2 : Int32) : Option (Int32 × Int32 × Int32 × Int32 × Int32 × Int32 × Int32 × Int64 × Int64 × Int32 × Int64 × Int64 × (Nat → Int32) × (Nat → Int32) × (Nat → Int32) × (Nat → Int64) × (Nat → Int64) × (Nat → Int32) × (Nat → Int32)) :=
  (if md_foundSize ≤ x2 then
    (if x1 = (0 : Int32) then
      (some ((0 : Int32), md_foundSize, md_foundSpecies, md_foundN, md_foundCost, md_chosen, md_low, md_many, md_ties, md_winnerCost, md_allMany, md_allTies, md_found, md_pitches, md_least, md_all, md_best, md_line, md_winner))
    else
      (some ((1 : Int32), md_foundSize, md_foundSpecies, md_foundN, md_foundCost, md_chosen, md_low, md_many, md_ties, md_winnerCost, md_allMany, md_allTies, md_found, md_pitches, md_least, md_all, md_best, md_line, md_winner)))
  else
    (gd x2 45 (gd x2 45 (k78 md_foundSize md_foundSpecies md_foundN md_foundCost md_chosen md_low md_many md_ties md_winnerCost md_allMany md_allTies (upd md_found (Int32.toNatClampNeg x2) (md_winner (Int32.toNatClampNeg x2))) md_pitches md_least md_all md_best md_line md_winner x1 (x2 + 1)))))
def m_SpeciesSolverModel_solve_78 (F : Nat) (md_lines : Int32) (md_n : Int32) (md_species : Int32) (md_above : Int32) (md_given : Nat → Int32) (md_on : Nat → Int32) (md_numbers : Nat → Int32)  : Nat → Int32 → Int32 → Int32 → Int32 → Int32 → Int32 → Int64 → Int64 → Int32 → Int64 → Int64 → (Nat → Int32) → (Nat → Int32) → (Nat → Int32) → (Nat → Int64) → (Nat → Int64) → (Nat → Int32) → (Nat → Int32) → Int32 → Int32 → Option (Int32 × Int32 × Int32 × Int32 × Int32 × Int32 × Int32 × Int64 × Int64 × Int32 × Int64 × Int64 × (Nat → Int32) × (Nat → Int32) × (Nat → Int32) × (Nat → Int64) × (Nat → Int64) × (Nat → Int32) × (Nat → Int32))
  | 0 => fun _ _ _ _ _ _ _ _ _ _ _ _ _ _ _ _ _ _ _ _ => none
  | n + 1 => m_SpeciesSolverModel_solve_78b F md_lines md_n md_species md_above md_given md_on md_numbers  (m_SpeciesSolverModel_solve_78 F md_lines md_n md_species md_above md_given md_on md_numbers  n)
def m_SpeciesSolverModel_solve_57 (F : Nat) (md_lines : Int32) (md_n : Int32) (md_species : Int32) (md_above : Int32) (md_given : Nat → Int32) (md_on : Nat → Int32) (md_numbers : Nat → Int32)  (md_foundSize : Int32) (md_foundSpecies : Int32) (md_foundN : Int32) (md_foundCost : Int32) (md_chosen : Int32) (md_low : Int32) (md_many : Int64) (md_ties : Int64) (md_winnerCost : Int32) (md_allMany : Int64) (md_allTies : Int64) (md_found : Nat → Int32) (md_pitches : Nat → Int32) (md_least : Nat → Int32) (md_all : Nat → Int64) (md_best : Nat → Int64) (md_line : Nat → Int32) (md_winner : Nat → Int32) (x1 : Int32) (t1 : Int32) : Option (Int32 × Int32 × Int32 × Int32 × Int32 × Int32 × Int32 × Int64 × Int64 × Int32 × Int64 × Int64 × (Nat → Int32) × (Nat → Int32) × (Nat → Int32) × (Nat → Int64) × (Nat → Int64) × (Nat → Int32) × (Nat → Int32)) :=
  m_SpeciesSolverModel_solve_78 F md_lines md_n md_species md_above md_given md_on md_numbers  F t1 md_species md_n md_foundCost md_chosen md_low md_many md_ties md_winnerCost md_allMany md_allTies md_found md_pitches md_least md_all md_best md_line md_winner x1 (0 : Int32)
def m_SpeciesSolverModel_solve_41 (F : Nat) (md_lines : Int32) (md_n : Int32) (md_species : Int32) (md_above : Int32) (md_given : Nat → Int32) (md_on : Nat → Int32) (md_numbers : Nat → Int32)  (md_foundSize : Int32) (md_foundSpecies : Int32) (md_foundN : Int32) (md_foundCost : Int32) (md_chosen : Int32) (md_low : Int32) (md_many : Int64) (md_ties : Int64) (md_winnerCost : Int32) (md_allMany : Int64) (md_allTies : Int64) (md_found : Nat → Int32) (md_pitches : Nat → Int32) (md_least : Nat → Int32) (md_all : Nat → Int64) (md_best : Nat → Int64) (md_line : Nat → Int32) (md_winner : Nat → Int32) (x1 : Int32) (t1 : Int32) : Option (Int32 × Int32 × Int32 × Int32 × Int32 × Int32 × Int32 × Int64 × Int64 × Int32 × Int64 × Int64 × (Nat → Int32) × (Nat → Int32) × (Nat → Int32) × (Nat → Int64) × (Nat → Int64) × (Nat → Int32) × (Nat → Int32)) :=
  (if x1 = (0 : Int32) then
    m_SpeciesSolverModel_solve_57 F md_lines md_n md_species md_above md_given md_on md_numbers  md_foundSize md_foundSpecies md_foundN t1 md_chosen md_low md_many md_ties md_winnerCost md_allMany md_allTies md_found md_pitches md_least md_all md_best md_line md_winner x1 (0 : Int32)
  else
    (bd (m_SpeciesSolverModel_size md_n md_species) (fun u2 => m_SpeciesSolverModel_solve_57 F md_lines md_n md_species md_above md_given md_on md_numbers  md_foundSize md_foundSpecies md_foundN t1 md_chosen md_low md_many md_ties md_winnerCost md_allMany md_allTies md_found md_pitches md_least md_all md_best md_line md_winner x1 u2)))
def m_SpeciesSolverModel_solve_27 (F : Nat) (md_lines : Int32) (md_n : Int32) (md_species : Int32) (md_above : Int32) (md_given : Nat → Int32) (md_on : Nat → Int32) (md_numbers : Nat → Int32)  (md_foundSize : Int32) (md_foundSpecies : Int32) (md_foundN : Int32) (md_foundCost : Int32) (md_chosen : Int32) (md_low : Int32) (md_many : Int64) (md_ties : Int64) (md_winnerCost : Int32) (md_allMany : Int64) (md_allTies : Int64) (md_found : Nat → Int32) (md_pitches : Nat → Int32) (md_least : Nat → Int32) (md_all : Nat → Int64) (md_best : Nat → Int64) (md_line : Nat → Int32) (md_winner : Nat → Int32) (t0 : Int32) : Option (Int32 × Int32 × Int32 × Int32 × Int32 × Int32 × Int32 × Int64 × Int64 × Int32 × Int64 × Int64 × (Nat → Int32) × (Nat → Int32) × (Nat → Int32) × (Nat → Int64) × (Nat → Int64) × (Nat → Int32) × (Nat → Int32)) :=
  (if t0 = (0 : Int32) then
    m_SpeciesSolverModel_solve_41 F md_lines md_n md_species md_above md_given md_on md_numbers  md_foundSize md_foundSpecies md_foundN md_foundCost md_chosen md_low md_many md_ties md_winnerCost md_allMany md_allTies md_found md_pitches md_least md_all md_best md_line md_winner t0 (-1 : Int32)
  else
    m_SpeciesSolverModel_solve_41 F md_lines md_n md_species md_above md_given md_on md_numbers  md_foundSize md_foundSpecies md_foundN md_foundCost md_chosen md_low md_many md_ties md_winnerCost md_allMany md_allTies md_found md_pitches md_least md_all md_best md_line md_winner t0 md_winnerCost)
def m_SpeciesSolverModel_solve (F : Nat) (md_lines : Int32) (md_n : Int32) (md_species : Int32) (md_above : Int32) (md_given : Nat → Int32) (md_on : Nat → Int32) (md_numbers : Nat → Int32) (md_foundSize : Int32) (md_foundSpecies : Int32) (md_foundN : Int32) (md_foundCost : Int32) (md_chosen : Int32) (md_low : Int32) (md_many : Int64) (md_ties : Int64) (md_winnerCost : Int32) (md_allMany : Int64) (md_allTies : Int64) (md_found : Nat → Int32) (md_pitches : Nat → Int32) (md_least : Nat → Int32) (md_all : Nat → Int64) (md_best : Nat → Int64) (md_line : Nat → Int32) (md_winner : Nat → Int32)  : Option (Int32 × Int32 × Int32 × Int32 × Int32 × Int32 × Int32 × Int64 × Int64 × Int32 × Int64 × Int64 × (Nat → Int32) × (Nat → Int32) × (Nat → Int32) × (Nat → Int64) × (Nat → Int64) × (Nat → Int32) × (Nat → Int32)) :=
  (bd (m_SpeciesSolverModel_cannot F md_lines md_numbers md_chosen md_pitches) (fun u1 => (if u1.1 = (0 : Int32) then
    (bd (m_SpeciesSolverModel_work F md_lines md_n md_species md_above u1.2.1 md_given md_on md_numbers u1.2.2 md_low md_many md_ties md_winnerCost md_allMany md_allTies md_least md_all md_best md_line md_winner) (fun u4 => (if (1000000000 : Int32) ≤ u4.2.2.2.1 then
      m_SpeciesSolverModel_solve_27 F md_lines md_n md_species md_above md_given md_on md_numbers  md_foundSize md_foundSpecies md_foundN md_foundCost u1.2.1 u4.1 u4.2.1 u4.2.2.1 u4.2.2.2.1 u4.2.2.2.2.1 u4.2.2.2.2.2.1 md_found u1.2.2 u4.2.2.2.2.2.2.1 u4.2.2.2.2.2.2.2.1 u4.2.2.2.2.2.2.2.2.1 u4.2.2.2.2.2.2.2.2.2.1 u4.2.2.2.2.2.2.2.2.2.2 (0 : Int32)
    else
      m_SpeciesSolverModel_solve_27 F md_lines md_n md_species md_above md_given md_on md_numbers  md_foundSize md_foundSpecies md_foundN md_foundCost u1.2.1 u4.1 u4.2.1 u4.2.2.1 u4.2.2.2.1 u4.2.2.2.2.1 u4.2.2.2.2.2.1 md_found u1.2.2 u4.2.2.2.2.2.2.1 u4.2.2.2.2.2.2.2.1 u4.2.2.2.2.2.2.2.2.1 u4.2.2.2.2.2.2.2.2.2.1 u4.2.2.2.2.2.2.2.2.2.2 (1 : Int32))))
  else
    (some ((-1 : Int32), md_foundSize, md_foundSpecies, md_foundN, md_foundCost, u1.2.1, md_low, md_many, md_ties, md_winnerCost, md_allMany, md_allTies, md_found, u1.2.2, md_least, md_all, md_best, md_line, md_winner)))))
def m_SpeciesSolverModel_found (md_foundSize : Int32) (md_found : Nat → Int32)  (a1 : Int32) : Option (Int32) :=
  (if a1 < (0 : Int32) then
    (some (-1 : Int32))
  else
    (if a1 < md_foundSize then
      (gd a1 45 (some (md_found (Int32.toNatClampNeg a1))))
    else
      (some (-1 : Int32))))
def m_SpeciesSolverModel_cost (md_foundCost : Int32)   : Option (Int32) :=
  (some md_foundCost)
def m_SpeciesSolverModel_count (F : Nat) (md_lines : Int32) (md_n : Int32) (md_species : Int32) (md_above : Int32) (md_given : Nat → Int32) (md_on : Nat → Int32) (md_numbers : Nat → Int32) (md_chosen : Int32) (md_low : Int32) (md_many : Int64) (md_ties : Int64) (md_winnerCost : Int32) (md_allMany : Int64) (md_allTies : Int64) (md_pitches : Nat → Int32) (md_least : Nat → Int32) (md_all : Nat → Int64) (md_best : Nat → Int64) (md_line : Nat → Int32) (md_winner : Nat → Int32)  : Option (Int64 × Int32 × Int32 × Int64 × Int64 × Int32 × Int64 × Int64 × (Nat → Int32) × (Nat → Int32) × (Nat → Int64) × (Nat → Int64) × (Nat → Int32) × (Nat → Int32)) :=
  (bd (m_SpeciesSolverModel_cannot F md_lines md_numbers md_chosen md_pitches) (fun u1 => (if u1.1 = (0 : Int32) then
    (bd (m_SpeciesSolverModel_work F md_lines md_n md_species md_above u1.2.1 md_given md_on md_numbers u1.2.2 md_low md_many md_ties md_winnerCost md_allMany md_allTies md_least md_all md_best md_line md_winner) (fun u4 => (some (u4.2.2.2.2.1, u1.2.1, u4.1, u4.2.1, u4.2.2.1, u4.2.2.2.1, u4.2.2.2.2.1, u4.2.2.2.2.2.1, u1.2.2, u4.2.2.2.2.2.2.1, u4.2.2.2.2.2.2.2.1, u4.2.2.2.2.2.2.2.2.1, u4.2.2.2.2.2.2.2.2.2.1, u4.2.2.2.2.2.2.2.2.2.2))))
  else
    (some ((-1 : Int64), u1.2.1, md_low, md_many, md_ties, md_winnerCost, md_allMany, md_allTies, u1.2.2, md_least, md_all, md_best, md_line, md_winner)))))
def m_SpeciesSolverModel_ties (F : Nat) (md_lines : Int32) (md_n : Int32) (md_species : Int32) (md_above : Int32) (md_given : Nat → Int32) (md_on : Nat → Int32) (md_numbers : Nat → Int32) (md_chosen : Int32) (md_low : Int32) (md_many : Int64) (md_ties : Int64) (md_winnerCost : Int32) (md_allMany : Int64) (md_allTies : Int64) (md_pitches : Nat → Int32) (md_least : Nat → Int32) (md_all : Nat → Int64) (md_best : Nat → Int64) (md_line : Nat → Int32) (md_winner : Nat → Int32)  : Option (Int64 × Int32 × Int32 × Int64 × Int64 × Int32 × Int64 × Int64 × (Nat → Int32) × (Nat → Int32) × (Nat → Int64) × (Nat → Int64) × (Nat → Int32) × (Nat → Int32)) :=
  (bd (m_SpeciesSolverModel_cannot F md_lines md_numbers md_chosen md_pitches) (fun u1 => (if u1.1 = (0 : Int32) then
    (bd (m_SpeciesSolverModel_work F md_lines md_n md_species md_above u1.2.1 md_given md_on md_numbers u1.2.2 md_low md_many md_ties md_winnerCost md_allMany md_allTies md_least md_all md_best md_line md_winner) (fun u4 => (if (1000000000 : Int32) ≤ u4.2.2.2.1 then
      (some ((0 : Int64), u1.2.1, u4.1, u4.2.1, u4.2.2.1, u4.2.2.2.1, u4.2.2.2.2.1, u4.2.2.2.2.2.1, u1.2.2, u4.2.2.2.2.2.2.1, u4.2.2.2.2.2.2.2.1, u4.2.2.2.2.2.2.2.2.1, u4.2.2.2.2.2.2.2.2.2.1, u4.2.2.2.2.2.2.2.2.2.2))
    else
      (some (u4.2.2.2.2.2.1, u1.2.1, u4.1, u4.2.1, u4.2.2.1, u4.2.2.2.1, u4.2.2.2.2.1, u4.2.2.2.2.2.1, u1.2.2, u4.2.2.2.2.2.2.1, u4.2.2.2.2.2.2.2.1, u4.2.2.2.2.2.2.2.2.1, u4.2.2.2.2.2.2.2.2.2.1, u4.2.2.2.2.2.2.2.2.2.2)))))
  else
    (some ((-1 : Int64), u1.2.1, md_low, md_many, md_ties, md_winnerCost, md_allMany, md_allTies, u1.2.2, md_least, md_all, md_best, md_line, md_winner)))))
def m_SpeciesSolverModel_halfState   (a1 : Int32) (a2 : Int32) (a3 : Int32) : Option (Int32) :=
  (some ((((a1 * (10 : Int32)) + a2) * (8 : Int32)) + a3))
def m_SpeciesSolverModel_goOn_175 (F : Nat) (md_lines : Int32) (md_n : Int32) (md_species : Int32) (md_above : Int32) (md_chosen : Int32) (md_given : Nat → Int32) (md_on : Nat → Int32) (md_numbers : Nat → Int32) (md_pitches : Nat → Int32) (k51 : (Nat → Int32) → Int32 → Int32 → Int32 → Int32 → Int32 → Option (Int32 × (Nat → Int32))) (md_reached : Nat → Int32) (x1 : Int32) (x2 : Int32) (x3 : Int32) (x4 : Int32) (x5 : Int32) : Option (Int32 × (Nat → Int32)) :=
  k51 md_reached x1 x2 x3 x4 (x5 + 1)
def m_SpeciesSolverModel_goOn_169 (F : Nat) (md_lines : Int32) (md_n : Int32) (md_species : Int32) (md_above : Int32) (md_chosen : Int32) (md_given : Nat → Int32) (md_on : Nat → Int32) (md_numbers : Nat → Int32) (md_pitches : Nat → Int32) (k51 : (Nat → Int32) → Int32 → Int32 → Int32 → Int32 → Int32 → Option (Int32 × (Nat → Int32))) (k98 : (Nat → Int32) → Int32 → Int32 → Int32 → Int32 → Int32 → Int32 → Int32 → Int32 → Int32 → Option (Int32 × (Nat → Int32))) (md_reached : Nat → Int32) (x1 : Int32) (x2 : Int32) (x3 : Int32) (x4 : Int32) (x5 : Int32) (x6 : Int32) (x7 : Int32) (x8 : Int32) (x9 : Int32) : Option (Int32 × (Nat → Int32)) :=
  k98 md_reached x1 x2 x3 x4 x5 x6 x7 x8 (x9 + 1)
def m_SpeciesSolverModel_goOn_160 (F : Nat) (md_lines : Int32) (md_n : Int32) (md_species : Int32) (md_above : Int32) (md_chosen : Int32) (md_given : Nat → Int32) (md_on : Nat → Int32) (md_numbers : Nat → Int32) (md_pitches : Nat → Int32) (k51 : (Nat → Int32) → Int32 → Int32 → Int32 → Int32 → Int32 → Option (Int32 × (Nat → Int32))) (k98 : (Nat → Int32) → Int32 → Int32 → Int32 → Int32 → Int32 → Int32 → Int32 → Int32 → Int32 → Option (Int32 × (Nat → Int32))) (md_reached : Nat → Int32) (x1 : Int32) (x2 : Int32) (x3 : Int32) (x5 : Int32) (x6 : Int32) (x7 : Int32) (x8 : Int32) (x9 : Int32) (t1 : Int32) (t3 : Int32) (t4 : Int32) (t5 : Int32) : Option (Int32 × (Nat → Int32)) :=
  (bd (m_SpeciesSolverModel_halfState t3 t4 t5) (fun u1 => (gd (t1 + u1) 1280 (m_SpeciesSolverModel_goOn_169 F md_lines md_n md_species md_above md_chosen md_given md_on md_numbers md_pitches k51 k98 (upd md_reached (Int32.toNatClampNeg (t1 + u1)) (vp_nar .boolean (1 : Int32))) x1 x2 x3 (1 : Int32) x5 x6 x7 x8 x9))))
def m_SpeciesSolverModel_goOn_98b (F : Nat) (md_lines : Int32) (md_n : Int32) (md_species : Int32) (md_above : Int32) (md_chosen : Int32) (md_given : Nat → Int32) (md_on : Nat → Int32) (md_numbers : Nat → Int32) (md_pitches : Nat → Int32) (k51 : (Nat → Int32) → Int32 → Int32 → Int32 → Int32 → Int32 → Option (Int32 × (Nat → Int32))) (k98 : (Nat → Int32) → Int32 → Int32 → Int32 → Int32 → Int32 → Int32 → Int32 → Int32 → Int32 → Option (Int32 × (Nat → Int32))) (md_reached : Nat → Int32) (x1 : Int32) (x2 : Int32) (x3 : Int32) (x4 : Int32) (x5 : Int32) (x6 : Int32) (x7 : Int32) (x8 : Int32) (x9 : Int32) : Option (Int32 × (Nat → Int32)) :=
  (if md_chosen ≤ x9 then
    m_SpeciesSolverModel_goOn_175 F md_lines md_n md_species md_above md_chosen md_given md_on md_numbers md_pitches k51 md_reached x1 x2 x3 x4 x5
  else
    (bd (m_SpeciesSolverModel_mayFollow F md_lines md_n md_species md_above md_given md_on md_numbers md_pitches (x1 + (1 : Int32)) x6 x7 x8 x9 (0 : Int32)) (fun u2 => (if u2 = (0 : Int32) then
      m_SpeciesSolverModel_goOn_169 F md_lines md_n md_species md_above md_chosen md_given md_on md_numbers md_pitches k51 k98 md_reached x1 x2 x3 x4 x5 x6 x7 x8 x9
    else
      (bd (m_SpeciesSolverModel_nextHow x6 x7 x9) (fun u5 => (bd (m_SpeciesSolverModel_isStrong md_species (x1 + (1 : Int32))) (fun u7 => (if u7 = (0 : Int32) then
        m_SpeciesSolverModel_goOn_160 F md_lines md_n md_species md_above md_chosen md_given md_on md_numbers md_pitches k51 k98 md_reached x1 x2 x3 x5 x6 x7 x8 x9 x3 x9 u5 x8
      else
        m_SpeciesSolverModel_goOn_160 F md_lines md_n md_species md_above md_chosen md_given md_on md_numbers md_pitches k51 k98 md_reached x1 x2 x3 x5 x6 x7 x8 x9 x3 x9 u5 x9)))))))))
def m_SpeciesSolverModel_goOn_98 (F : Nat) (md_lines : Int32) (md_n : Int32) (md_species : Int32) (md_above : Int32) (md_chosen : Int32) (md_given : Nat → Int32) (md_on : Nat → Int32) (md_numbers : Nat → Int32) (md_pitches : Nat → Int32) (k51 : (Nat → Int32) → Int32 → Int32 → Int32 → Int32 → Int32 → Option (Int32 × (Nat → Int32))) : Nat → (Nat → Int32) → Int32 → Int32 → Int32 → Int32 → Int32 → Int32 → Int32 → Int32 → Int32 → Option (Int32 × (Nat → Int32))
  | 0 => fun _ _ _ _ _ _ _ _ _ _ => none
  | n + 1 => m_SpeciesSolverModel_goOn_98b F md_lines md_n md_species md_above md_chosen md_given md_on md_numbers md_pitches k51 (m_SpeciesSolverModel_goOn_98 F md_lines md_n md_species md_above md_chosen md_given md_on md_numbers md_pitches k51 n)
def m_SpeciesSolverModel_goOn_51b (F : Nat) (md_lines : Int32) (md_n : Int32) (md_species : Int32) (md_above : Int32) (md_chosen : Int32) (md_given : Nat → Int32) (md_on : Nat → Int32) (md_numbers : Nat → Int32) (md_pitches : Nat → Int32) (k51 : (Nat → Int32) → Int32 → Int32 → Int32 → Int32 → Int32 → Option (Int32 × (Nat → Int32))) (md_reached : Nat → Int32) (x1 : Int32) (x2 : Int32) (x3 : Int32) (x4 : Int32) (x5 : Int32) : Option (Int32 × (Nat → Int32)) :=
  (if (640 : Int32) ≤ x5 then
    (gb x4 (some (x4, md_reached)))
  else
    (gd (x2 + x5) 1280 (if (md_reached (Int32.toNatClampNeg (x2 + x5))) = (0 : Int32) then
      m_SpeciesSolverModel_goOn_175 F md_lines md_n md_species md_above md_chosen md_given md_on md_numbers md_pitches k51 md_reached x1 x2 x3 x4 x5
    else
      m_SpeciesSolverModel_goOn_98 F md_lines md_n md_species md_above md_chosen md_given md_on md_numbers md_pitches k51 F md_reached x1 x2 x3 x4 x5 (x5 / (80 : Int32)) ((x5 / (8 : Int32)) - (x5 / (8 : Int32)) / (10 : Int32) * (10 : Int32)) (x5 - x5 / (8 : Int32) * (8 : Int32)) (0 : Int32))))
def m_SpeciesSolverModel_goOn_51 (F : Nat) (md_lines : Int32) (md_n : Int32) (md_species : Int32) (md_above : Int32) (md_chosen : Int32) (md_given : Nat → Int32) (md_on : Nat → Int32) (md_numbers : Nat → Int32) (md_pitches : Nat → Int32)  : Nat → (Nat → Int32) → Int32 → Int32 → Int32 → Int32 → Int32 → Option (Int32 × (Nat → Int32))
  | 0 => fun _ _ _ _ _ _ => none
  | n + 1 => m_SpeciesSolverModel_goOn_51b F md_lines md_n md_species md_above md_chosen md_given md_on md_numbers md_pitches  (m_SpeciesSolverModel_goOn_51 F md_lines md_n md_species md_above md_chosen md_given md_on md_numbers md_pitches  n)
def m_SpeciesSolverModel_goOn_24b (F : Nat) (md_lines : Int32) (md_n : Int32) (md_species : Int32) (md_above : Int32) (md_chosen : Int32) (md_given : Nat → Int32) (md_on : Nat → Int32) (md_numbers : Nat → Int32) (md_pitches : Nat → Int32) (k24 : (Nat → Int32) → Int32 → Int32 → Int32 → Int32 → Int32 → Option (Int32 × (Nat → Int32))) (md_reached : Nat → Int32) (x1 : Int32) (x2 : Int32) (x3 : Int32) (x4 : Int32) (x5 : Int32) : Option (Int32 × (Nat → Int32)) :=
  (if (640 : Int32) ≤ x5 then
    m_SpeciesSolverModel_goOn_51 F md_lines md_n md_species md_above md_chosen md_given md_on md_numbers md_pitches  F md_reached x1 x2 x3 x4 (0 : Int32)
  else
    (gd (x3 + x5) 1280 (k24 (upd md_reached (Int32.toNatClampNeg (x3 + x5)) (vp_nar .boolean (0 : Int32))) x1 x2 x3 x4 (x5 + 1))))
def m_SpeciesSolverModel_goOn_24 (F : Nat) (md_lines : Int32) (md_n : Int32) (md_species : Int32) (md_above : Int32) (md_chosen : Int32) (md_given : Nat → Int32) (md_on : Nat → Int32) (md_numbers : Nat → Int32) (md_pitches : Nat → Int32)  : Nat → (Nat → Int32) → Int32 → Int32 → Int32 → Int32 → Int32 → Option (Int32 × (Nat → Int32))
  | 0 => fun _ _ _ _ _ _ => none
  | n + 1 => m_SpeciesSolverModel_goOn_24b F md_lines md_n md_species md_above md_chosen md_given md_on md_numbers md_pitches  (m_SpeciesSolverModel_goOn_24 F md_lines md_n md_species md_above md_chosen md_given md_on md_numbers md_pitches  n)
def m_SpeciesSolverModel_goOn (F : Nat) (md_lines : Int32) (md_n : Int32) (md_species : Int32) (md_above : Int32) (md_chosen : Int32) (md_given : Nat → Int32) (md_on : Nat → Int32) (md_numbers : Nat → Int32) (md_pitches : Nat → Int32) (md_reached : Nat → Int32) (a1 : Int32) : Option (Int32 × (Nat → Int32)) :=
  m_SpeciesSolverModel_goOn_24 F md_lines md_n md_species md_above md_chosen md_given md_on md_numbers md_pitches  F md_reached a1 ((a1 - a1 / (2 : Int32) * (2 : Int32)) * (640 : Int32)) (((a1 + (1 : Int32)) - (a1 + (1 : Int32)) / (2 : Int32) * (2 : Int32)) * (640 : Int32)) (0 : Int32) (0 : Int32)
def m_SpeciesSolverModel_reach_112 (F : Nat) (md_lines : Int32) (md_n : Int32) (md_species : Int32) (md_above : Int32) (md_given : Nat → Int32) (md_on : Nat → Int32) (md_numbers : Nat → Int32) (k82 : Int32 → (Nat → Int32) → (Nat → Int32) → Int32 → Int32 → Option (Int32 × Int32 × (Nat → Int32) × (Nat → Int32))) (md_chosen : Int32) (md_pitches : Nat → Int32) (md_reached : Nat → Int32) (x1 : Int32) (t0 : Int32) (t1 : Int32) : Option (Int32 × Int32 × (Nat → Int32) × (Nat → Int32)) :=
  k82 md_chosen md_pitches md_reached x1 (t0 + t1)
def m_SpeciesSolverModel_reach_82b (F : Nat) (md_lines : Int32) (md_n : Int32) (md_species : Int32) (md_above : Int32) (md_given : Nat → Int32) (md_on : Nat → Int32) (md_numbers : Nat → Int32) (k82 : Int32 → (Nat → Int32) → (Nat → Int32) → Int32 → Int32 → Option (Int32 × Int32 × (Nat → Int32) × (Nat → Int32))) (md_chosen : Int32) (md_pitches : Nat → Int32) (md_reached : Nat → Int32) (x1 : Int32) (x2 : Int32) : Option (Int32 × Int32 × (Nat → Int32) × (Nat → Int32)) :=
  (if x1 = (0 : Int32) then
    (some (x2, md_chosen, md_pitches, md_reached))
  else
    (bd (m_SpeciesSolverModel_size md_n md_species) (fun u2 => (if u2 ≤ x2 then
      (some (x2, md_chosen, md_pitches, md_reached))
    else
      (bd (m_SpeciesSolverModel_goOn F md_lines md_n md_species md_above md_chosen md_given md_on md_numbers md_pitches md_reached (x2 - (1 : Int32))) (fun u5 => (if u5.1 = (0 : Int32) then
        m_SpeciesSolverModel_reach_112 F md_lines md_n md_species md_above md_given md_on md_numbers k82 md_chosen md_pitches u5.2 u5.1 x2 (0 : Int32)
      else
        m_SpeciesSolverModel_reach_112 F md_lines md_n md_species md_above md_given md_on md_numbers k82 md_chosen md_pitches u5.2 u5.1 x2 (1 : Int32))))))))
def m_SpeciesSolverModel_reach_82 (F : Nat) (md_lines : Int32) (md_n : Int32) (md_species : Int32) (md_above : Int32) (md_given : Nat → Int32) (md_on : Nat → Int32) (md_numbers : Nat → Int32)  : Nat → Int32 → (Nat → Int32) → (Nat → Int32) → Int32 → Int32 → Option (Int32 × Int32 × (Nat → Int32) × (Nat → Int32))
  | 0 => fun _ _ _ _ _ => none
  | n + 1 => m_SpeciesSolverModel_reach_82b F md_lines md_n md_species md_above md_given md_on md_numbers  (m_SpeciesSolverModel_reach_82 F md_lines md_n md_species md_above md_given md_on md_numbers  n)
def m_SpeciesSolverModel_reach_81 (F : Nat) (md_lines : Int32) (md_n : Int32) (md_species : Int32) (md_above : Int32) (md_given : Nat → Int32) (md_on : Nat → Int32) (md_numbers : Nat → Int32)  (md_chosen : Int32) (md_pitches : Nat → Int32) (md_reached : Nat → Int32) (x1 : Int32) (t0 : Int32) : Option (Int32 × Int32 × (Nat → Int32) × (Nat → Int32)) :=
  m_SpeciesSolverModel_reach_82 F md_lines md_n md_species md_above md_given md_on md_numbers  F md_chosen md_pitches md_reached x1 t0
def m_SpeciesSolverModel_reach_66 (F : Nat) (md_lines : Int32) (md_n : Int32) (md_species : Int32) (md_above : Int32) (md_given : Nat → Int32) (md_on : Nat → Int32) (md_numbers : Nat → Int32) (k35 : Int32 → (Nat → Int32) → (Nat → Int32) → Int32 → Int32 → Option (Int32 × Int32 × (Nat → Int32) × (Nat → Int32))) (md_chosen : Int32) (md_pitches : Nat → Int32) (md_reached : Nat → Int32) (x1 : Int32) (x2 : Int32) : Option (Int32 × Int32 × (Nat → Int32) × (Nat → Int32)) :=
  k35 md_chosen md_pitches md_reached x1 (x2 + 1)
def m_SpeciesSolverModel_reach_35b (F : Nat) (md_lines : Int32) (md_n : Int32) (md_species : Int32) (md_above : Int32) (md_given : Nat → Int32) (md_on : Nat → Int32) (md_numbers : Nat → Int32) (k35 : Int32 → (Nat → Int32) → (Nat → Int32) → Int32 → Int32 → Option (Int32 × Int32 × (Nat → Int32) × (Nat → Int32))) (md_chosen : Int32) (md_pitches : Nat → Int32) (md_reached : Nat → Int32) (x1 : Int32) (x2 : Int32) : Option (Int32 × Int32 × (Nat → Int32) × (Nat → Int32)) :=
  (if md_chosen ≤ x2 then
    (if x1 = (0 : Int32) then
      m_SpeciesSolverModel_reach_81 F md_lines md_n md_species md_above md_given md_on md_numbers  md_chosen md_pitches md_reached x1 (0 : Int32)
    else
      m_SpeciesSolverModel_reach_81 F md_lines md_n md_species md_above md_given md_on md_numbers  md_chosen md_pitches md_reached x1 (1 : Int32))
  else
    (bd (m_SpeciesSolverModel_mayBegin F md_lines md_species md_above md_given md_on md_numbers md_pitches x2) (fun u3 => (if u3 = (0 : Int32) then
      m_SpeciesSolverModel_reach_66 F md_lines md_n md_species md_above md_given md_on md_numbers k35 md_chosen md_pitches md_reached x1 x2
    else
      (bd (m_SpeciesSolverModel_halfState x2 (0 : Int32) x2) (fun u6 => (gd u6 1280 (m_SpeciesSolverModel_reach_66 F md_lines md_n md_species md_above md_given md_on md_numbers k35 md_chosen md_pitches (upd md_reached (Int32.toNatClampNeg u6) (vp_nar .boolean (1 : Int32))) (1 : Int32) x2))))))))
def m_SpeciesSolverModel_reach_35 (F : Nat) (md_lines : Int32) (md_n : Int32) (md_species : Int32) (md_above : Int32) (md_given : Nat → Int32) (md_on : Nat → Int32) (md_numbers : Nat → Int32)  : Nat → Int32 → (Nat → Int32) → (Nat → Int32) → Int32 → Int32 → Option (Int32 × Int32 × (Nat → Int32) × (Nat → Int32))
  | 0 => fun _ _ _ _ _ => none
  | n + 1 => m_SpeciesSolverModel_reach_35b F md_lines md_n md_species md_above md_given md_on md_numbers  (m_SpeciesSolverModel_reach_35 F md_lines md_n md_species md_above md_given md_on md_numbers  n)
def m_SpeciesSolverModel_reach_13b (F : Nat) (md_lines : Int32) (md_n : Int32) (md_species : Int32) (md_above : Int32) (md_given : Nat → Int32) (md_on : Nat → Int32) (md_numbers : Nat → Int32) (k13 : Int32 → (Nat → Int32) → (Nat → Int32) → Int32 → Int32 → Option (Int32 × Int32 × (Nat → Int32) × (Nat → Int32))) (md_chosen : Int32) (md_pitches : Nat → Int32) (md_reached : Nat → Int32) (x1 : Int32) (x2 : Int32) : Option (Int32 × Int32 × (Nat → Int32) × (Nat → Int32)) :=
  (if (640 : Int32) ≤ x2 then
    m_SpeciesSolverModel_reach_35 F md_lines md_n md_species md_above md_given md_on md_numbers  F md_chosen md_pitches md_reached x1 (0 : Int32)
  else
    (gd x2 1280 (k13 md_chosen md_pitches (upd md_reached (Int32.toNatClampNeg x2) (vp_nar .boolean (0 : Int32))) x1 (x2 + 1))))
def m_SpeciesSolverModel_reach_13 (F : Nat) (md_lines : Int32) (md_n : Int32) (md_species : Int32) (md_above : Int32) (md_given : Nat → Int32) (md_on : Nat → Int32) (md_numbers : Nat → Int32)  : Nat → Int32 → (Nat → Int32) → (Nat → Int32) → Int32 → Int32 → Option (Int32 × Int32 × (Nat → Int32) × (Nat → Int32))
  | 0 => fun _ _ _ _ _ => none
  | n + 1 => m_SpeciesSolverModel_reach_13b F md_lines md_n md_species md_above md_given md_on md_numbers  (m_SpeciesSolverModel_reach_13 F md_lines md_n md_species md_above md_given md_on md_numbers  n)
def m_SpeciesSolverModel_reach (F : Nat) (md_lines : Int32) (md_n : Int32) (md_species : Int32) (md_above : Int32) (md_given : Nat → Int32) (md_on : Nat → Int32) (md_numbers : Nat → Int32) (md_chosen : Int32) (md_pitches : Nat → Int32) (md_reached : Nat → Int32)  : Option (Int32 × Int32 × (Nat → Int32) × (Nat → Int32)) :=
  (bd (m_SpeciesSolverModel_cannot F md_lines md_numbers md_chosen md_pitches) (fun u1 => (if u1.1 = (0 : Int32) then
    m_SpeciesSolverModel_reach_13 F md_lines md_n md_species md_above md_given md_on md_numbers  F u1.2.1 u1.2.2 md_reached (0 : Int32) (0 : Int32)
  else
    (some ((-1 : Int32), u1.2.1, u1.2.2, md_reached)))))
def m_SpeciesSolverModel_keep_38b (F : Nat) (md_foundSize : Int32) (md_foundSpecies : Int32) (md_foundN : Int32) (md_found : Nat → Int32) (k38 : Int32 → Int32 → (Nat → Int32) → Int32 → Option (Int32 × Int32 × Int32 × (Nat → Int32))) (md_lines : Int32) (md_n : Int32) (md_given : Nat → Int32) (x1 : Int32) : Option (Int32 × Int32 × Int32 × (Nat → Int32)) :=
  (if md_foundN ≤ x1 then
    (some (((md_lines + (1 : Int32)) - (1 : Int32)), (md_lines + (1 : Int32)), md_n, md_given))
  else
    (gd (x1 * md_foundSpecies) 45 (gd (((12 : Int32) * md_lines) + x1) 36 (k38 md_lines md_n (upd md_given (Int32.toNatClampNeg (((12 : Int32) * md_lines) + x1)) (md_found (Int32.toNatClampNeg (x1 * md_foundSpecies)))) (x1 + 1)))))
def m_SpeciesSolverModel_keep_38 (F : Nat) (md_foundSize : Int32) (md_foundSpecies : Int32) (md_foundN : Int32) (md_found : Nat → Int32)  : Nat → Int32 → Int32 → (Nat → Int32) → Int32 → Option (Int32 × Int32 × Int32 × (Nat → Int32))
  | 0 => fun _ _ _ _ => none
  | n + 1 => m_SpeciesSolverModel_keep_38b F md_foundSize md_foundSpecies md_foundN md_found  (m_SpeciesSolverModel_keep_38 F md_foundSize md_foundSpecies md_foundN md_found  n)
def m_SpeciesSolverModel_keep (F : Nat) (md_foundSize : Int32) (md_foundSpecies : Int32) (md_foundN : Int32) (md_found : Nat → Int32) (md_lines : Int32) (md_n : Int32) (md_given : Nat → Int32)  : Option (Int32 × Int32 × Int32 × (Nat → Int32)) :=
  (if md_foundSize = (0 : Int32) then
    (some ((-1 : Int32), md_lines, md_n, md_given))
  else
    (if md_lines = (3 : Int32) then
      (some ((-1 : Int32), md_lines, md_n, md_given))
    else
      (if md_foundN = md_n then
        m_SpeciesSolverModel_keep_38 F md_foundSize md_foundSpecies md_foundN md_found  F md_lines md_foundN md_given (0 : Int32)
      else
        (some ((-1 : Int32), md_lines, md_n, md_given)))))
def m_SpeciesSolverModel_blame_54 (md_on : Nat → Int32)  (md_faults : Int32) (md_faultRule : Nat → Int32) (md_faultNote : Nat → Int32) (md_faultLine : Nat → Int32)  : Option (Int32 × (Nat → Int32) × (Nat → Int32) × (Nat → Int32)) :=
  (some ((md_faults + (1 : Int32)), md_faultRule, md_faultNote, md_faultLine))
def m_SpeciesSolverModel_blame (md_on : Nat → Int32) (md_faults : Int32) (md_faultRule : Nat → Int32) (md_faultNote : Nat → Int32) (md_faultLine : Nat → Int32) (a1 : Int32) (a2 : Int32) (a3 : Int32) (a4 : Int32) : Option (Int32 × (Nat → Int32) × (Nat → Int32) × (Nat → Int32)) :=
  (if a1 = (0 : Int32) then
    (some (md_faults, md_faultRule, md_faultNote, md_faultLine))
  else
    (gd a2 11 (if (md_on (Int32.toNatClampNeg a2)) = (0 : Int32) then
      (some (md_faults, md_faultRule, md_faultNote, md_faultLine))
    else
      (if (200 : Int32) ≤ md_faults then
        m_SpeciesSolverModel_blame_54 md_on  md_faults md_faultRule md_faultNote md_faultLine
      else
        (gd md_faults 200 (gd md_faults 200 (gd md_faults 200 (m_SpeciesSolverModel_blame_54 md_on  md_faults (upd md_faultRule (Int32.toNatClampNeg md_faults) a2) (upd md_faultNote (Int32.toNatClampNeg md_faults) a3) (upd md_faultLine (Int32.toNatClampNeg md_faults) a4)))))))))
def m_SpeciesSolverModel_strongBefore (md_species : Int32) (md_trial : Nat → Int32)  (a1 : Int32) : Option (Int32) :=
  (if md_species ≤ a1 then
    (gd (a1 - md_species) 45 (some (md_trial (Int32.toNatClampNeg (a1 - md_species)))))
  else
    (some (md_trial (Int32.toNatClampNeg (0 : Int32)))))
def m_SpeciesSolverModel_isRepeated_56 (F : Nat) (md_numbers : Nat → Int32) (md_trial : Nat → Int32) (k19 : Int32 → Int32 → Int32 → Option (Int32))  (x1 : Int32) (x3 : Int32) (t0 : Int32) : Option (Int32) :=
  k19 x1 t0 (x3 + 1)
def m_SpeciesSolverModel_isRepeated_19b (F : Nat) (md_numbers : Nat → Int32) (md_trial : Nat → Int32) (k19 : Int32 → Int32 → Int32 → Option (Int32))  (x1 : Int32) (x2 : Int32) (x3 : Int32) : Option (Int32) :=
  (if (md_numbers (Int32.toNatClampNeg (11 : Int32))) < x3 then
    (gb x2 (some x2))
  else
    (if x2 = (0 : Int32) then
      (gb x2 (some x2))
    else
      (gd (x1 - x3) 45 (gd x1 45 (if (md_trial (Int32.toNatClampNeg (x1 - x3))) = (md_trial (Int32.toNatClampNeg x1)) then
        m_SpeciesSolverModel_isRepeated_56 F md_numbers md_trial k19 x1 x3 (1 : Int32)
      else
        m_SpeciesSolverModel_isRepeated_56 F md_numbers md_trial k19 x1 x3 (0 : Int32))))))
def m_SpeciesSolverModel_isRepeated_19 (F : Nat) (md_numbers : Nat → Int32) (md_trial : Nat → Int32)  : Nat → Int32 → Int32 → Int32 → Option (Int32)
  | 0 => fun _ _ _ => none
  | n + 1 => m_SpeciesSolverModel_isRepeated_19b F md_numbers md_trial  (m_SpeciesSolverModel_isRepeated_19 F md_numbers md_trial  n)
def m_SpeciesSolverModel_isRepeated_16 (F : Nat) (md_numbers : Nat → Int32) (md_trial : Nat → Int32)   (x1 : Int32) (t0 : Int32) : Option (Int32) :=
  m_SpeciesSolverModel_isRepeated_19 F md_numbers md_trial  F x1 t0 (1 : Int32)
def m_SpeciesSolverModel_isRepeated (F : Nat) (md_numbers : Nat → Int32) (md_trial : Nat → Int32)  (a1 : Int32) : Option (Int32) :=
  (if a1 < (md_numbers (Int32.toNatClampNeg (11 : Int32))) then
    m_SpeciesSolverModel_isRepeated_16 F md_numbers md_trial  a1 (0 : Int32)
  else
    m_SpeciesSolverModel_isRepeated_16 F md_numbers md_trial  a1 (1 : Int32))
def m_SpeciesSolverModel_isHighestAgain_68 (F : Nat) (md_trialSize : Int32) (md_trial : Nat → Int32) (k7 : Int32 → Int32 → Int32 → Int32 → Option (Int32))  (x1 : Int32) (x2 : Int32) (x4 : Int32) (t0 : Int32) (t1 : Int32) : Option (Int32) :=
  k7 x1 x2 (t0 ||| t1) (x4 + 1)
def m_SpeciesSolverModel_isHighestAgain_67 (F : Nat) (md_trialSize : Int32) (md_trial : Nat → Int32) (k7 : Int32 → Int32 → Int32 → Int32 → Option (Int32))  (x1 : Int32) (x2 : Int32) (x4 : Int32) (t0 : Int32) : Option (Int32) :=
  m_SpeciesSolverModel_isHighestAgain_68 F md_trialSize md_trial k7 x1 x2 x4 t0 (0 : Int32)
def m_SpeciesSolverModel_isHighestAgain_38 (F : Nat) (md_trialSize : Int32) (md_trial : Nat → Int32) (k7 : Int32 → Int32 → Int32 → Int32 → Option (Int32))  (x1 : Int32) (x3 : Int32) (x4 : Int32) (t0 : Int32) (t1 : Int32) : Option (Int32) :=
  (if x1 ≤ x4 then
    m_SpeciesSolverModel_isHighestAgain_67 F md_trialSize md_trial k7 x1 (t0 &&& t1) x4 x3
  else
    (gd x4 45 (gd x1 45 (if (md_trial (Int32.toNatClampNeg x4)) = (md_trial (Int32.toNatClampNeg x1)) then
      m_SpeciesSolverModel_isHighestAgain_68 F md_trialSize md_trial k7 x1 (t0 &&& t1) x4 x3 (1 : Int32)
    else
      m_SpeciesSolverModel_isHighestAgain_67 F md_trialSize md_trial k7 x1 (t0 &&& t1) x4 x3))))
def m_SpeciesSolverModel_isHighestAgain_7b (F : Nat) (md_trialSize : Int32) (md_trial : Nat → Int32) (k7 : Int32 → Int32 → Int32 → Int32 → Option (Int32))  (x1 : Int32) (x2 : Int32) (x3 : Int32) (x4 : Int32) : Option (Int32) :=
  (if md_trialSize ≤ x4 then
    (if x2 = (0 : Int32) then
      (some (0 : Int32))
    else
      (if x3 = (0 : Int32) then
        (some (0 : Int32))
      else
        (some (1 : Int32))))
  else
    (gd x4 45 (gd x1 45 (if (md_trial (Int32.toNatClampNeg x1)) < (md_trial (Int32.toNatClampNeg x4)) then
      m_SpeciesSolverModel_isHighestAgain_38 F md_trialSize md_trial k7 x1 x3 x4 x2 (0 : Int32)
    else
      m_SpeciesSolverModel_isHighestAgain_38 F md_trialSize md_trial k7 x1 x3 x4 x2 (1 : Int32)))))
def m_SpeciesSolverModel_isHighestAgain_7 (F : Nat) (md_trialSize : Int32) (md_trial : Nat → Int32)  : Nat → Int32 → Int32 → Int32 → Int32 → Option (Int32)
  | 0 => fun _ _ _ _ => none
  | n + 1 => m_SpeciesSolverModel_isHighestAgain_7b F md_trialSize md_trial  (m_SpeciesSolverModel_isHighestAgain_7 F md_trialSize md_trial  n)
def m_SpeciesSolverModel_isHighestAgain (F : Nat) (md_trialSize : Int32) (md_trial : Nat → Int32)  (a1 : Int32) : Option (Int32) :=
  m_SpeciesSolverModel_isHighestAgain_7 F md_trialSize md_trial  F a1 (1 : Int32) (0 : Int32) (0 : Int32)
def m_SpeciesSolverModel_judgeNote_422 (F : Nat) (md_lines : Int32) (md_n : Int32) (md_species : Int32) (md_above : Int32) (md_trialSize : Int32) (md_given : Nat → Int32) (md_on : Nat → Int32) (md_numbers : Nat → Int32) (md_trial : Nat → Int32)  (md_faults : Int32) (md_faultRule : Nat → Int32) (md_faultNote : Nat → Int32) (md_faultLine : Nat → Int32) (x1 : Int32) (t1 : Int32) : Option (Int32 × (Nat → Int32) × (Nat → Int32) × (Nat → Int32)) :=
  (bd (m_SpeciesSolverModel_blame md_on md_faults md_faultRule md_faultNote md_faultLine t1 (9 : Int32) x1 (-1 : Int32)) (fun u1 => (bd (m_SpeciesSolverModel_isHighestAgain F md_trialSize md_trial x1) (fun u3 => (bd (m_SpeciesSolverModel_blame md_on u1.1 u1.2.1 u1.2.2.1 u1.2.2.2 u3 (10 : Int32) x1 (-1 : Int32)) (fun u5 => (some (u5.1, u5.2.1, u5.2.2.1, u5.2.2.2))))))))
def m_SpeciesSolverModel_judgeNote_421 (F : Nat) (md_lines : Int32) (md_n : Int32) (md_species : Int32) (md_above : Int32) (md_trialSize : Int32) (md_given : Nat → Int32) (md_on : Nat → Int32) (md_numbers : Nat → Int32) (md_trial : Nat → Int32)  (md_faults : Int32) (md_faultRule : Nat → Int32) (md_faultNote : Nat → Int32) (md_faultLine : Nat → Int32) (x1 : Int32) : Option (Int32 × (Nat → Int32) × (Nat → Int32) × (Nat → Int32)) :=
  m_SpeciesSolverModel_judgeNote_422 F md_lines md_n md_species md_above md_trialSize md_given md_on md_numbers md_trial  md_faults md_faultRule md_faultNote md_faultLine x1 (0 : Int32)
def m_SpeciesSolverModel_judgeNote_417 (F : Nat) (md_lines : Int32) (md_n : Int32) (md_species : Int32) (md_above : Int32) (md_trialSize : Int32) (md_given : Nat → Int32) (md_on : Nat → Int32) (md_numbers : Nat → Int32) (md_trial : Nat → Int32)  (md_faults : Int32) (md_faultRule : Nat → Int32) (md_faultNote : Nat → Int32) (md_faultLine : Nat → Int32) (x1 : Int32) : Option (Int32 × (Nat → Int32) × (Nat → Int32) × (Nat → Int32)) :=
  m_SpeciesSolverModel_judgeNote_422 F md_lines md_n md_species md_above md_trialSize md_given md_on md_numbers md_trial  md_faults md_faultRule md_faultNote md_faultLine x1 (1 : Int32)
def m_SpeciesSolverModel_judgeNote_409 (F : Nat) (md_lines : Int32) (md_n : Int32) (md_species : Int32) (md_above : Int32) (md_trialSize : Int32) (md_given : Nat → Int32) (md_on : Nat → Int32) (md_numbers : Nat → Int32) (md_trial : Nat → Int32)  (md_faults : Int32) (md_faultRule : Nat → Int32) (md_faultNote : Nat → Int32) (md_faultLine : Nat → Int32) (x1 : Int32) (x2 : Int32) (t3 : Int32) : Option (Int32 × (Nat → Int32) × (Nat → Int32) × (Nat → Int32)) :=
  (gd t3 45 (bd (m_SpeciesSolverModel_isStep md_numbers (md_trial (Int32.toNatClampNeg t3)) x2) (fun u2 => (if u2 = (0 : Int32) then
    m_SpeciesSolverModel_judgeNote_417 F md_lines md_n md_species md_above md_trialSize md_given md_on md_numbers md_trial  md_faults md_faultRule md_faultNote md_faultLine x1
  else
    m_SpeciesSolverModel_judgeNote_421 F md_lines md_n md_species md_above md_trialSize md_given md_on md_numbers md_trial  md_faults md_faultRule md_faultNote md_faultLine x1))))
def m_SpeciesSolverModel_judgeNote_364 (F : Nat) (md_lines : Int32) (md_n : Int32) (md_species : Int32) (md_above : Int32) (md_trialSize : Int32) (md_given : Nat → Int32) (md_on : Nat → Int32) (md_numbers : Nat → Int32) (md_trial : Nat → Int32)  (md_faults : Int32) (md_faultRule : Nat → Int32) (md_faultNote : Nat → Int32) (md_faultLine : Nat → Int32) (x1 : Int32) (x2 : Int32) (x3 : Int32) (t1 : Int32) : Option (Int32 × (Nat → Int32) × (Nat → Int32) × (Nat → Int32)) :=
  (bd (m_SpeciesSolverModel_blame md_on md_faults md_faultRule md_faultNote md_faultLine t1 (8 : Int32) x1 (-1 : Int32)) (fun u1 => (if x1 = x3 then
    (bd (m_SpeciesSolverModel_at md_species md_given (0 : Int32) x1) (fun u4 => (bd (m_SpeciesSolverModel_isIn md_numbers (6 : Int32) x2 u4) (fun u6 => (if u6 = (0 : Int32) then
      m_SpeciesSolverModel_judgeNote_417 F md_lines md_n md_species md_above md_trialSize md_given md_on md_numbers md_trial  u1.1 u1.2.1 u1.2.2.1 u1.2.2.2 x1
    else
      (if x1 ≤ (0 : Int32) then
        m_SpeciesSolverModel_judgeNote_409 F md_lines md_n md_species md_above md_trialSize md_given md_on md_numbers md_trial  u1.1 u1.2.1 u1.2.2.1 u1.2.2.2 x1 x2 (0 : Int32)
      else
        m_SpeciesSolverModel_judgeNote_409 F md_lines md_n md_species md_above md_trialSize md_given md_on md_numbers md_trial  u1.1 u1.2.1 u1.2.2.1 u1.2.2.2 x1 x2 (x1 - (1 : Int32))))))))
  else
    m_SpeciesSolverModel_judgeNote_421 F md_lines md_n md_species md_above md_trialSize md_given md_on md_numbers md_trial  u1.1 u1.2.1 u1.2.2.1 u1.2.2.2 x1)))
def m_SpeciesSolverModel_judgeNote_363 (F : Nat) (md_lines : Int32) (md_n : Int32) (md_species : Int32) (md_above : Int32) (md_trialSize : Int32) (md_given : Nat → Int32) (md_on : Nat → Int32) (md_numbers : Nat → Int32) (md_trial : Nat → Int32)  (md_faults : Int32) (md_faultRule : Nat → Int32) (md_faultNote : Nat → Int32) (md_faultLine : Nat → Int32) (x1 : Int32) (x2 : Int32) (x3 : Int32) : Option (Int32 × (Nat → Int32) × (Nat → Int32) × (Nat → Int32)) :=
  m_SpeciesSolverModel_judgeNote_364 F md_lines md_n md_species md_above md_trialSize md_given md_on md_numbers md_trial  md_faults md_faultRule md_faultNote md_faultLine x1 x2 x3 (0 : Int32)
def m_SpeciesSolverModel_judgeNote_319 (F : Nat) (md_lines : Int32) (md_n : Int32) (md_species : Int32) (md_above : Int32) (md_trialSize : Int32) (md_given : Nat → Int32) (md_on : Nat → Int32) (md_numbers : Nat → Int32) (md_trial : Nat → Int32)  (md_faults : Int32) (md_faultRule : Nat → Int32) (md_faultNote : Nat → Int32) (md_faultLine : Nat → Int32) (x1 : Int32) (x2 : Int32) (x3 : Int32) (t1 : Int32) : Option (Int32 × (Nat → Int32) × (Nat → Int32) × (Nat → Int32)) :=
  (bd (m_SpeciesSolverModel_blame md_on md_faults md_faultRule md_faultNote md_faultLine t1 (6 : Int32) x1 (-1 : Int32)) (fun u1 => (bd (m_SpeciesSolverModel_isRepeated F md_numbers md_trial x1) (fun u3 => (bd (m_SpeciesSolverModel_blame md_on u1.1 u1.2.1 u1.2.2.1 u1.2.2.2 u3 (7 : Int32) x1 (-1 : Int32)) (fun u5 => (if x1 = (0 : Int32) then
    (bd (m_SpeciesSolverModel_at md_species md_given (0 : Int32) (0 : Int32)) (fun u8 => (bd (m_SpeciesSolverModel_isIn md_numbers (5 : Int32) x2 u8) (fun u10 => (if u10 = (0 : Int32) then
      m_SpeciesSolverModel_judgeNote_364 F md_lines md_n md_species md_above md_trialSize md_given md_on md_numbers md_trial  u5.1 u5.2.1 u5.2.2.1 u5.2.2.2 x1 x2 x3 (1 : Int32)
    else
      m_SpeciesSolverModel_judgeNote_363 F md_lines md_n md_species md_above md_trialSize md_given md_on md_numbers md_trial  u5.1 u5.2.1 u5.2.2.1 u5.2.2.2 x1 x2 x3)))))
  else
    m_SpeciesSolverModel_judgeNote_363 F md_lines md_n md_species md_above md_trialSize md_given md_on md_numbers md_trial  u5.1 u5.2.1 u5.2.2.1 u5.2.2.2 x1 x2 x3)))))))
def m_SpeciesSolverModel_judgeNote_318 (F : Nat) (md_lines : Int32) (md_n : Int32) (md_species : Int32) (md_above : Int32) (md_trialSize : Int32) (md_given : Nat → Int32) (md_on : Nat → Int32) (md_numbers : Nat → Int32) (md_trial : Nat → Int32)  (md_faults : Int32) (md_faultRule : Nat → Int32) (md_faultNote : Nat → Int32) (md_faultLine : Nat → Int32) (x1 : Int32) (x2 : Int32) (x3 : Int32) : Option (Int32 × (Nat → Int32) × (Nat → Int32) × (Nat → Int32)) :=
  m_SpeciesSolverModel_judgeNote_319 F md_lines md_n md_species md_above md_trialSize md_given md_on md_numbers md_trial  md_faults md_faultRule md_faultNote md_faultLine x1 x2 x3 (0 : Int32)
def m_SpeciesSolverModel_judgeNote_306 (F : Nat) (md_lines : Int32) (md_n : Int32) (md_species : Int32) (md_above : Int32) (md_trialSize : Int32) (md_given : Nat → Int32) (md_on : Nat → Int32) (md_numbers : Nat → Int32) (md_trial : Nat → Int32)  (md_faults : Int32) (md_faultRule : Nat → Int32) (md_faultNote : Nat → Int32) (md_faultLine : Nat → Int32) (x1 : Int32) (x2 : Int32) (x3 : Int32) (t2 : Int32) (t4 : Int32) : Option (Int32 × (Nat → Int32) × (Nat → Int32) × (Nat → Int32)) :=
  (gd t4 45 (bd (m_SpeciesSolverModel_rule6 md_numbers t2 (md_trial (Int32.toNatClampNeg t4)) x2) (fun u2 => (if u2 = (0 : Int32) then
    m_SpeciesSolverModel_judgeNote_318 F md_lines md_n md_species md_above md_trialSize md_given md_on md_numbers md_trial  md_faults md_faultRule md_faultNote md_faultLine x1 x2 x3
  else
    m_SpeciesSolverModel_judgeNote_319 F md_lines md_n md_species md_above md_trialSize md_given md_on md_numbers md_trial  md_faults md_faultRule md_faultNote md_faultLine x1 x2 x3 (1 : Int32)))))
def m_SpeciesSolverModel_judgeNote_289 (F : Nat) (md_lines : Int32) (md_n : Int32) (md_species : Int32) (md_above : Int32) (md_trialSize : Int32) (md_given : Nat → Int32) (md_on : Nat → Int32) (md_numbers : Nat → Int32) (md_trial : Nat → Int32)  (md_faults : Int32) (md_faultRule : Nat → Int32) (md_faultNote : Nat → Int32) (md_faultLine : Nat → Int32) (x1 : Int32) (x2 : Int32) (x3 : Int32) (t3 : Int32) : Option (Int32 × (Nat → Int32) × (Nat → Int32) × (Nat → Int32)) :=
  (gd t3 45 (if x1 ≤ (1 : Int32) then
    m_SpeciesSolverModel_judgeNote_306 F md_lines md_n md_species md_above md_trialSize md_given md_on md_numbers md_trial  md_faults md_faultRule md_faultNote md_faultLine x1 x2 x3 (md_trial (Int32.toNatClampNeg t3)) (0 : Int32)
  else
    m_SpeciesSolverModel_judgeNote_306 F md_lines md_n md_species md_above md_trialSize md_given md_on md_numbers md_trial  md_faults md_faultRule md_faultNote md_faultLine x1 x2 x3 (md_trial (Int32.toNatClampNeg t3)) (x1 - (1 : Int32))))
def m_SpeciesSolverModel_judgeNote_260 (F : Nat) (md_lines : Int32) (md_n : Int32) (md_species : Int32) (md_above : Int32) (md_trialSize : Int32) (md_given : Nat → Int32) (md_on : Nat → Int32) (md_numbers : Nat → Int32) (md_trial : Nat → Int32)  (md_faults : Int32) (md_faultRule : Nat → Int32) (md_faultNote : Nat → Int32) (md_faultLine : Nat → Int32) (x1 : Int32) (x2 : Int32) (x3 : Int32) (t1 : Int32) : Option (Int32 × (Nat → Int32) × (Nat → Int32) × (Nat → Int32)) :=
  (bd (m_SpeciesSolverModel_blame md_on md_faults md_faultRule md_faultNote md_faultLine t1 (5 : Int32) x1 (-1 : Int32)) (fun u1 => (if x1 ≤ (1 : Int32) then
    m_SpeciesSolverModel_judgeNote_318 F md_lines md_n md_species md_above md_trialSize md_given md_on md_numbers md_trial  u1.1 u1.2.1 u1.2.2.1 u1.2.2.2 x1 x2 x3
  else
    (if x1 ≤ (1 : Int32) then
      m_SpeciesSolverModel_judgeNote_289 F md_lines md_n md_species md_above md_trialSize md_given md_on md_numbers md_trial  u1.1 u1.2.1 u1.2.2.1 u1.2.2.2 x1 x2 x3 (0 : Int32)
    else
      m_SpeciesSolverModel_judgeNote_289 F md_lines md_n md_species md_above md_trialSize md_given md_on md_numbers md_trial  u1.1 u1.2.1 u1.2.2.1 u1.2.2.2 x1 x2 x3 (x1 - (2 : Int32))))))
def m_SpeciesSolverModel_judgeNote_259 (F : Nat) (md_lines : Int32) (md_n : Int32) (md_species : Int32) (md_above : Int32) (md_trialSize : Int32) (md_given : Nat → Int32) (md_on : Nat → Int32) (md_numbers : Nat → Int32) (md_trial : Nat → Int32)  (md_faults : Int32) (md_faultRule : Nat → Int32) (md_faultNote : Nat → Int32) (md_faultLine : Nat → Int32) (x1 : Int32) (x2 : Int32) (x3 : Int32) : Option (Int32 × (Nat → Int32) × (Nat → Int32) × (Nat → Int32)) :=
  m_SpeciesSolverModel_judgeNote_260 F md_lines md_n md_species md_above md_trialSize md_given md_on md_numbers md_trial  md_faults md_faultRule md_faultNote md_faultLine x1 x2 x3 (0 : Int32)
def m_SpeciesSolverModel_judgeNote_247 (F : Nat) (md_lines : Int32) (md_n : Int32) (md_species : Int32) (md_above : Int32) (md_trialSize : Int32) (md_given : Nat → Int32) (md_on : Nat → Int32) (md_numbers : Nat → Int32) (md_trial : Nat → Int32)  (md_faults : Int32) (md_faultRule : Nat → Int32) (md_faultNote : Nat → Int32) (md_faultLine : Nat → Int32) (x1 : Int32) (x2 : Int32) (x3 : Int32) (t3 : Int32) : Option (Int32 × (Nat → Int32) × (Nat → Int32) × (Nat → Int32)) :=
  (gd t3 45 (bd (m_SpeciesSolverModel_rule5 md_numbers (md_trial (Int32.toNatClampNeg t3)) x2) (fun u2 => (if u2 = (0 : Int32) then
    m_SpeciesSolverModel_judgeNote_259 F md_lines md_n md_species md_above md_trialSize md_given md_on md_numbers md_trial  md_faults md_faultRule md_faultNote md_faultLine x1 x2 x3
  else
    m_SpeciesSolverModel_judgeNote_260 F md_lines md_n md_species md_above md_trialSize md_given md_on md_numbers md_trial  md_faults md_faultRule md_faultNote md_faultLine x1 x2 x3 (1 : Int32)))))
def m_SpeciesSolverModel_judgeNote_213 (F : Nat) (md_lines : Int32) (md_n : Int32) (md_species : Int32) (md_above : Int32) (md_trialSize : Int32) (md_given : Nat → Int32) (md_on : Nat → Int32) (md_numbers : Nat → Int32) (md_trial : Nat → Int32) (k163 : Int32 → (Nat → Int32) → (Nat → Int32) → (Nat → Int32) → Int32 → Int32 → Int32 → Int32 → Option (Int32 × (Nat → Int32) × (Nat → Int32) × (Nat → Int32))) (md_faults : Int32) (md_faultRule : Nat → Int32) (md_faultNote : Nat → Int32) (md_faultLine : Nat → Int32) (x1 : Int32) (x2 : Int32) (x3 : Int32) (x4 : Int32) (t1 : Int32) : Option (Int32 × (Nat → Int32) × (Nat → Int32) × (Nat → Int32)) :=
  (bd (m_SpeciesSolverModel_blame md_on md_faults md_faultRule md_faultNote md_faultLine t1 (4 : Int32) x1 x4) (fun u1 => k163 u1.1 u1.2.1 u1.2.2.1 u1.2.2.2 x1 x2 x3 (x4 + 1)))
def m_SpeciesSolverModel_judgeNote_212 (F : Nat) (md_lines : Int32) (md_n : Int32) (md_species : Int32) (md_above : Int32) (md_trialSize : Int32) (md_given : Nat → Int32) (md_on : Nat → Int32) (md_numbers : Nat → Int32) (md_trial : Nat → Int32) (k163 : Int32 → (Nat → Int32) → (Nat → Int32) → (Nat → Int32) → Int32 → Int32 → Int32 → Int32 → Option (Int32 × (Nat → Int32) × (Nat → Int32) × (Nat → Int32))) (md_faults : Int32) (md_faultRule : Nat → Int32) (md_faultNote : Nat → Int32) (md_faultLine : Nat → Int32) (x1 : Int32) (x2 : Int32) (x3 : Int32) (x4 : Int32) : Option (Int32 × (Nat → Int32) × (Nat → Int32) × (Nat → Int32)) :=
  m_SpeciesSolverModel_judgeNote_213 F md_lines md_n md_species md_above md_trialSize md_given md_on md_numbers md_trial k163 md_faults md_faultRule md_faultNote md_faultLine x1 x2 x3 x4 (0 : Int32)
def m_SpeciesSolverModel_judgeNote_163b (F : Nat) (md_lines : Int32) (md_n : Int32) (md_species : Int32) (md_above : Int32) (md_trialSize : Int32) (md_given : Nat → Int32) (md_on : Nat → Int32) (md_numbers : Nat → Int32) (md_trial : Nat → Int32) (k163 : Int32 → (Nat → Int32) → (Nat → Int32) → (Nat → Int32) → Int32 → Int32 → Int32 → Int32 → Option (Int32 × (Nat → Int32) × (Nat → Int32) × (Nat → Int32))) (md_faults : Int32) (md_faultRule : Nat → Int32) (md_faultNote : Nat → Int32) (md_faultLine : Nat → Int32) (x1 : Int32) (x2 : Int32) (x3 : Int32) (x4 : Int32) : Option (Int32 × (Nat → Int32) × (Nat → Int32) × (Nat → Int32)) :=
  (if md_lines ≤ x4 then
    (if x1 ≤ (0 : Int32) then
      m_SpeciesSolverModel_judgeNote_259 F md_lines md_n md_species md_above md_trialSize md_given md_on md_numbers md_trial  md_faults md_faultRule md_faultNote md_faultLine x1 x2 x3
    else
      (if x1 ≤ (0 : Int32) then
        m_SpeciesSolverModel_judgeNote_247 F md_lines md_n md_species md_above md_trialSize md_given md_on md_numbers md_trial  md_faults md_faultRule md_faultNote md_faultLine x1 x2 x3 (0 : Int32)
      else
        m_SpeciesSolverModel_judgeNote_247 F md_lines md_n md_species md_above md_trialSize md_given md_on md_numbers md_trial  md_faults md_faultRule md_faultNote md_faultLine x1 x2 x3 (x1 - (1 : Int32))))
  else
    (bd (m_SpeciesSolverModel_isStrong md_species x1) (fun u4 => (if u4 = (0 : Int32) then
      (gd (x1 - (1 : Int32)) 45 (gd (x1 + (1 : Int32)) 45 (bd (m_SpeciesSolverModel_rule4 md_species md_given md_numbers x4 x1 (md_trial (Int32.toNatClampNeg (x1 - (1 : Int32)))) x2 (md_trial (Int32.toNatClampNeg (x1 + (1 : Int32))))) (fun u9 => (if u9 = (0 : Int32) then
        m_SpeciesSolverModel_judgeNote_212 F md_lines md_n md_species md_above md_trialSize md_given md_on md_numbers md_trial k163 md_faults md_faultRule md_faultNote md_faultLine x1 x2 x3 x4
      else
        m_SpeciesSolverModel_judgeNote_213 F md_lines md_n md_species md_above md_trialSize md_given md_on md_numbers md_trial k163 md_faults md_faultRule md_faultNote md_faultLine x1 x2 x3 x4 (1 : Int32))))))
    else
      m_SpeciesSolverModel_judgeNote_212 F md_lines md_n md_species md_above md_trialSize md_given md_on md_numbers md_trial k163 md_faults md_faultRule md_faultNote md_faultLine x1 x2 x3 x4))))
def m_SpeciesSolverModel_judgeNote_163 (F : Nat) (md_lines : Int32) (md_n : Int32) (md_species : Int32) (md_above : Int32) (md_trialSize : Int32) (md_given : Nat → Int32) (md_on : Nat → Int32) (md_numbers : Nat → Int32) (md_trial : Nat → Int32)  : Nat → Int32 → (Nat → Int32) → (Nat → Int32) → (Nat → Int32) → Int32 → Int32 → Int32 → Int32 → Option (Int32 × (Nat → Int32) × (Nat → Int32) × (Nat → Int32))
  | 0 => fun _ _ _ _ _ _ _ _ => none
  | n + 1 => m_SpeciesSolverModel_judgeNote_163b F md_lines md_n md_species md_above md_trialSize md_given md_on md_numbers md_trial  (m_SpeciesSolverModel_judgeNote_163 F md_lines md_n md_species md_above md_trialSize md_given md_on md_numbers md_trial  n)
def m_SpeciesSolverModel_judgeNote_129b (F : Nat) (md_lines : Int32) (md_n : Int32) (md_species : Int32) (md_above : Int32) (md_trialSize : Int32) (md_given : Nat → Int32) (md_on : Nat → Int32) (md_numbers : Nat → Int32) (md_trial : Nat → Int32) (k129 : Int32 → (Nat → Int32) → (Nat → Int32) → (Nat → Int32) → Int32 → Int32 → Int32 → Int32 → Option (Int32 × (Nat → Int32) × (Nat → Int32) × (Nat → Int32))) (md_faults : Int32) (md_faultRule : Nat → Int32) (md_faultNote : Nat → Int32) (md_faultLine : Nat → Int32) (x1 : Int32) (x2 : Int32) (x3 : Int32) (x4 : Int32) : Option (Int32 × (Nat → Int32) × (Nat → Int32) × (Nat → Int32)) :=
  (if md_lines ≤ x4 then
    m_SpeciesSolverModel_judgeNote_163 F md_lines md_n md_species md_above md_trialSize md_given md_on md_numbers md_trial  F md_faults md_faultRule md_faultNote md_faultLine x1 x2 x3 (0 : Int32)
  else
    (bd (m_SpeciesSolverModel_rule3 md_species md_above md_given x4 x1 x2) (fun u2 => (bd (m_SpeciesSolverModel_blame md_on md_faults md_faultRule md_faultNote md_faultLine u2 (3 : Int32) x1 x4) (fun u4 => k129 u4.1 u4.2.1 u4.2.2.1 u4.2.2.2 x1 x2 x3 (x4 + 1))))))
def m_SpeciesSolverModel_judgeNote_129 (F : Nat) (md_lines : Int32) (md_n : Int32) (md_species : Int32) (md_above : Int32) (md_trialSize : Int32) (md_given : Nat → Int32) (md_on : Nat → Int32) (md_numbers : Nat → Int32) (md_trial : Nat → Int32)  : Nat → Int32 → (Nat → Int32) → (Nat → Int32) → (Nat → Int32) → Int32 → Int32 → Int32 → Int32 → Option (Int32 × (Nat → Int32) × (Nat → Int32) × (Nat → Int32))
  | 0 => fun _ _ _ _ _ _ _ _ => none
  | n + 1 => m_SpeciesSolverModel_judgeNote_129b F md_lines md_n md_species md_above md_trialSize md_given md_on md_numbers md_trial  (m_SpeciesSolverModel_judgeNote_129 F md_lines md_n md_species md_above md_trialSize md_given md_on md_numbers md_trial  n)
def m_SpeciesSolverModel_judgeNote_90b (F : Nat) (md_lines : Int32) (md_n : Int32) (md_species : Int32) (md_above : Int32) (md_trialSize : Int32) (md_given : Nat → Int32) (md_on : Nat → Int32) (md_numbers : Nat → Int32) (md_trial : Nat → Int32) (k90 : Int32 → (Nat → Int32) → (Nat → Int32) → (Nat → Int32) → Int32 → Int32 → Int32 → Int32 → Option (Int32 × (Nat → Int32) × (Nat → Int32) × (Nat → Int32))) (md_faults : Int32) (md_faultRule : Nat → Int32) (md_faultNote : Nat → Int32) (md_faultLine : Nat → Int32) (x1 : Int32) (x2 : Int32) (x3 : Int32) (x4 : Int32) : Option (Int32 × (Nat → Int32) × (Nat → Int32) × (Nat → Int32)) :=
  (if md_lines ≤ x4 then
    m_SpeciesSolverModel_judgeNote_129 F md_lines md_n md_species md_above md_trialSize md_given md_on md_numbers md_trial  F md_faults md_faultRule md_faultNote md_faultLine x1 x2 x3 (0 : Int32)
  else
    (bd (m_SpeciesSolverModel_strongBefore md_species md_trial x1) (fun u2 => (bd (m_SpeciesSolverModel_rule2 md_species md_given md_numbers x4 x1 u2 x2) (fun u4 => (bd (m_SpeciesSolverModel_blame md_on md_faults md_faultRule md_faultNote md_faultLine u4 (2 : Int32) x1 x4) (fun u6 => k90 u6.1 u6.2.1 u6.2.2.1 u6.2.2.2 x1 x2 x3 (x4 + 1))))))))
def m_SpeciesSolverModel_judgeNote_90 (F : Nat) (md_lines : Int32) (md_n : Int32) (md_species : Int32) (md_above : Int32) (md_trialSize : Int32) (md_given : Nat → Int32) (md_on : Nat → Int32) (md_numbers : Nat → Int32) (md_trial : Nat → Int32)  : Nat → Int32 → (Nat → Int32) → (Nat → Int32) → (Nat → Int32) → Int32 → Int32 → Int32 → Int32 → Option (Int32 × (Nat → Int32) × (Nat → Int32) × (Nat → Int32))
  | 0 => fun _ _ _ _ _ _ _ _ => none
  | n + 1 => m_SpeciesSolverModel_judgeNote_90b F md_lines md_n md_species md_above md_trialSize md_given md_on md_numbers md_trial  (m_SpeciesSolverModel_judgeNote_90 F md_lines md_n md_species md_above md_trialSize md_given md_on md_numbers md_trial  n)
def m_SpeciesSolverModel_judgeNote_51b (F : Nat) (md_lines : Int32) (md_n : Int32) (md_species : Int32) (md_above : Int32) (md_trialSize : Int32) (md_given : Nat → Int32) (md_on : Nat → Int32) (md_numbers : Nat → Int32) (md_trial : Nat → Int32) (k51 : Int32 → (Nat → Int32) → (Nat → Int32) → (Nat → Int32) → Int32 → Int32 → Int32 → Int32 → Option (Int32 × (Nat → Int32) × (Nat → Int32) × (Nat → Int32))) (md_faults : Int32) (md_faultRule : Nat → Int32) (md_faultNote : Nat → Int32) (md_faultLine : Nat → Int32) (x1 : Int32) (x2 : Int32) (x3 : Int32) (x4 : Int32) : Option (Int32 × (Nat → Int32) × (Nat → Int32) × (Nat → Int32)) :=
  (if md_lines ≤ x4 then
    m_SpeciesSolverModel_judgeNote_90 F md_lines md_n md_species md_above md_trialSize md_given md_on md_numbers md_trial  F md_faults md_faultRule md_faultNote md_faultLine x1 x2 x3 (0 : Int32)
  else
    (bd (m_SpeciesSolverModel_strongBefore md_species md_trial x1) (fun u2 => (bd (m_SpeciesSolverModel_rule1 md_species md_given md_numbers x4 x1 u2 x2) (fun u4 => (bd (m_SpeciesSolverModel_blame md_on md_faults md_faultRule md_faultNote md_faultLine u4 (1 : Int32) x1 x4) (fun u6 => k51 u6.1 u6.2.1 u6.2.2.1 u6.2.2.2 x1 x2 x3 (x4 + 1))))))))
def m_SpeciesSolverModel_judgeNote_51 (F : Nat) (md_lines : Int32) (md_n : Int32) (md_species : Int32) (md_above : Int32) (md_trialSize : Int32) (md_given : Nat → Int32) (md_on : Nat → Int32) (md_numbers : Nat → Int32) (md_trial : Nat → Int32)  : Nat → Int32 → (Nat → Int32) → (Nat → Int32) → (Nat → Int32) → Int32 → Int32 → Int32 → Int32 → Option (Int32 × (Nat → Int32) × (Nat → Int32) × (Nat → Int32))
  | 0 => fun _ _ _ _ _ _ _ _ => none
  | n + 1 => m_SpeciesSolverModel_judgeNote_51b F md_lines md_n md_species md_above md_trialSize md_given md_on md_numbers md_trial  (m_SpeciesSolverModel_judgeNote_51 F md_lines md_n md_species md_above md_trialSize md_given md_on md_numbers md_trial  n)
def m_SpeciesSolverModel_judgeNote_17b (F : Nat) (md_lines : Int32) (md_n : Int32) (md_species : Int32) (md_above : Int32) (md_trialSize : Int32) (md_given : Nat → Int32) (md_on : Nat → Int32) (md_numbers : Nat → Int32) (md_trial : Nat → Int32) (k17 : Int32 → (Nat → Int32) → (Nat → Int32) → (Nat → Int32) → Int32 → Int32 → Int32 → Int32 → Option (Int32 × (Nat → Int32) × (Nat → Int32) × (Nat → Int32))) (md_faults : Int32) (md_faultRule : Nat → Int32) (md_faultNote : Nat → Int32) (md_faultLine : Nat → Int32) (x1 : Int32) (x2 : Int32) (x3 : Int32) (x4 : Int32) : Option (Int32 × (Nat → Int32) × (Nat → Int32) × (Nat → Int32)) :=
  (if md_lines ≤ x4 then
    m_SpeciesSolverModel_judgeNote_51 F md_lines md_n md_species md_above md_trialSize md_given md_on md_numbers md_trial  F md_faults md_faultRule md_faultNote md_faultLine x1 x2 x3 (0 : Int32)
  else
    (bd (m_SpeciesSolverModel_rule0 md_species md_given md_numbers x4 x1 x2) (fun u2 => (bd (m_SpeciesSolverModel_blame md_on md_faults md_faultRule md_faultNote md_faultLine u2 (0 : Int32) x1 x4) (fun u4 => k17 u4.1 u4.2.1 u4.2.2.1 u4.2.2.2 x1 x2 x3 (x4 + 1))))))
def m_SpeciesSolverModel_judgeNote_17 (F : Nat) (md_lines : Int32) (md_n : Int32) (md_species : Int32) (md_above : Int32) (md_trialSize : Int32) (md_given : Nat → Int32) (md_on : Nat → Int32) (md_numbers : Nat → Int32) (md_trial : Nat → Int32)  : Nat → Int32 → (Nat → Int32) → (Nat → Int32) → (Nat → Int32) → Int32 → Int32 → Int32 → Int32 → Option (Int32 × (Nat → Int32) × (Nat → Int32) × (Nat → Int32))
  | 0 => fun _ _ _ _ _ _ _ _ => none
  | n + 1 => m_SpeciesSolverModel_judgeNote_17b F md_lines md_n md_species md_above md_trialSize md_given md_on md_numbers md_trial  (m_SpeciesSolverModel_judgeNote_17 F md_lines md_n md_species md_above md_trialSize md_given md_on md_numbers md_trial  n)
def m_SpeciesSolverModel_judgeNote (F : Nat) (md_lines : Int32) (md_n : Int32) (md_species : Int32) (md_above : Int32) (md_trialSize : Int32) (md_given : Nat → Int32) (md_on : Nat → Int32) (md_numbers : Nat → Int32) (md_trial : Nat → Int32) (md_faults : Int32) (md_faultRule : Nat → Int32) (md_faultNote : Nat → Int32) (md_faultLine : Nat → Int32) (a1 : Int32) : Option (Int32 × (Nat → Int32) × (Nat → Int32) × (Nat → Int32)) :=
  (gd a1 45 (bd (m_SpeciesSolverModel_size md_n md_species) (fun u2 => m_SpeciesSolverModel_judgeNote_17 F md_lines md_n md_species md_above md_trialSize md_given md_on md_numbers md_trial  F md_faults md_faultRule md_faultNote md_faultLine a1 (md_trial (Int32.toNatClampNeg a1)) (u2 - (1 : Int32)) (0 : Int32))))
def m_SpeciesSolverModel_judge_27b (F : Nat) (md_lines : Int32) (md_n : Int32) (md_species : Int32) (md_above : Int32) (md_trialSize : Int32) (md_given : Nat → Int32) (md_on : Nat → Int32) (md_numbers : Nat → Int32) (md_trial : Nat → Int32) (k27 : Int32 → (Nat → Int32) → (Nat → Int32) → (Nat → Int32) → Int32 → Option (Int32 × Int32 × (Nat → Int32) × (Nat → Int32) × (Nat → Int32))) (md_faults : Int32) (md_faultRule : Nat → Int32) (md_faultNote : Nat → Int32) (md_faultLine : Nat → Int32) (x1 : Int32) : Option (Int32 × Int32 × (Nat → Int32) × (Nat → Int32) × (Nat → Int32)) :=
  (if md_trialSize ≤ x1 then
    (some (md_faults, md_faults, md_faultRule, md_faultNote, md_faultLine))
  else
    (bd (m_SpeciesSolverModel_judgeNote F md_lines md_n md_species md_above md_trialSize md_given md_on md_numbers md_trial md_faults md_faultRule md_faultNote md_faultLine x1) (fun u2 => k27 u2.1 u2.2.1 u2.2.2.1 u2.2.2.2 (x1 + 1))))
def m_SpeciesSolverModel_judge_27 (F : Nat) (md_lines : Int32) (md_n : Int32) (md_species : Int32) (md_above : Int32) (md_trialSize : Int32) (md_given : Nat → Int32) (md_on : Nat → Int32) (md_numbers : Nat → Int32) (md_trial : Nat → Int32)  : Nat → Int32 → (Nat → Int32) → (Nat → Int32) → (Nat → Int32) → Int32 → Option (Int32 × Int32 × (Nat → Int32) × (Nat → Int32) × (Nat → Int32))
  | 0 => fun _ _ _ _ _ => none
  | n + 1 => m_SpeciesSolverModel_judge_27b F md_lines md_n md_species md_above md_trialSize md_given md_on md_numbers md_trial  (m_SpeciesSolverModel_judge_27 F md_lines md_n md_species md_above md_trialSize md_given md_on md_numbers md_trial  n)
def m_SpeciesSolverModel_judge (F : Nat) (md_lines : Int32) (md_n : Int32) (md_species : Int32) (md_above : Int32) (md_trialSize : Int32) (md_given : Nat → Int32) (md_on : Nat → Int32) (md_numbers : Nat → Int32) (md_trial : Nat → Int32) (md_faults : Int32) (md_faultRule : Nat → Int32) (md_faultNote : Nat → Int32) (md_faultLine : Nat → Int32)  : Option (Int32 × Int32 × (Nat → Int32) × (Nat → Int32) × (Nat → Int32)) :=
  (if md_lines = (0 : Int32) then
    (some ((-1 : Int32), md_faults, md_faultRule, md_faultNote, md_faultLine))
  else
    (bd (m_SpeciesSolverModel_size md_n md_species) (fun u2 => (if md_trialSize = u2 then
      m_SpeciesSolverModel_judge_27 F md_lines md_n md_species md_above md_trialSize md_given md_on md_numbers md_trial  F (0 : Int32) md_faultRule md_faultNote md_faultLine (0 : Int32)
    else
      (some ((-1 : Int32), md_faults, md_faultRule, md_faultNote, md_faultLine))))))
def m_SpeciesSolverModel_fault (md_faults : Int32) (md_faultRule : Nat → Int32) (md_faultNote : Nat → Int32) (md_faultLine : Nat → Int32)  (a1 : Int32) (a2 : Int32) : Option (Int32) :=
  (if a1 < (0 : Int32) then
    (some (-1 : Int32))
  else
    (if md_faults ≤ a1 then
      (some (-1 : Int32))
    else
      (if (200 : Int32) ≤ a1 then
        (some (-1 : Int32))
      else
        (if a2 < (0 : Int32) then
          (some (-1 : Int32))
        else
          (if a2 ≤ (2 : Int32) then
            (if a2 = (0 : Int32) then
              (gd a1 200 (some (md_faultRule (Int32.toNatClampNeg a1))))
            else
              (if a2 = (1 : Int32) then
                (gd a1 200 (some (md_faultNote (Int32.toNatClampNeg a1))))
              else
                (gd a1 200 (some (md_faultLine (Int32.toNatClampNeg a1))))))
          else
            (some (-1 : Int32)))))))
def m_SpeciesSolverModel_tried_59 (F : Nat) (md_lines : Int32) (md_n : Int32) (md_species : Int32) (md_trialSize : Int32) (md_given : Nat → Int32) (md_numbers : Nat → Int32) (md_trial : Nat → Int32) (k24 : Int32 → Int32 → Option (Int32))  (x2 : Int32) (t0 : Int32) (t1 : Int32) : Option (Int32) :=
  (bd (m_SpeciesSolverModel_strongBefore md_species md_trial x2) (fun u1 => (gd x2 45 (bd (m_SpeciesSolverModel_noteCost F md_lines md_n md_species md_given md_numbers x2 u1 (md_trial (Int32.toNatClampNeg x2))) (fun u4 => k24 (t0 + (t1 + u4)) (x2 + 1))))))
def m_SpeciesSolverModel_tried_24b (F : Nat) (md_lines : Int32) (md_n : Int32) (md_species : Int32) (md_trialSize : Int32) (md_given : Nat → Int32) (md_numbers : Nat → Int32) (md_trial : Nat → Int32) (k24 : Int32 → Int32 → Option (Int32))  (x1 : Int32) (x2 : Int32) : Option (Int32) :=
  (if md_trialSize ≤ x2 then
    (some x1)
  else
    (if x2 ≤ (0 : Int32) then
      m_SpeciesSolverModel_tried_59 F md_lines md_n md_species md_trialSize md_given md_numbers md_trial k24 x2 x1 (0 : Int32)
    else
      (gd (x2 - (1 : Int32)) 45 (gd x2 45 (bd (m_SpeciesSolverModel_moveCost md_numbers (md_trial (Int32.toNatClampNeg (x2 - (1 : Int32)))) (md_trial (Int32.toNatClampNeg x2))) (fun u5 => m_SpeciesSolverModel_tried_59 F md_lines md_n md_species md_trialSize md_given md_numbers md_trial k24 x2 x1 u5))))))
def m_SpeciesSolverModel_tried_24 (F : Nat) (md_lines : Int32) (md_n : Int32) (md_species : Int32) (md_trialSize : Int32) (md_given : Nat → Int32) (md_numbers : Nat → Int32) (md_trial : Nat → Int32)  : Nat → Int32 → Int32 → Option (Int32)
  | 0 => fun _ _ => none
  | n + 1 => m_SpeciesSolverModel_tried_24b F md_lines md_n md_species md_trialSize md_given md_numbers md_trial  (m_SpeciesSolverModel_tried_24 F md_lines md_n md_species md_trialSize md_given md_numbers md_trial  n)
def m_SpeciesSolverModel_tried (F : Nat) (md_lines : Int32) (md_n : Int32) (md_species : Int32) (md_trialSize : Int32) (md_given : Nat → Int32) (md_numbers : Nat → Int32) (md_trial : Nat → Int32)   : Option (Int32) :=
  (if md_lines = (0 : Int32) then
    (some (-1 : Int32))
  else
    (bd (m_SpeciesSolverModel_size md_n md_species) (fun u2 => (if md_trialSize = u2 then
      m_SpeciesSolverModel_tried_24 F md_lines md_n md_species md_trialSize md_given md_numbers md_trial  F (0 : Int32) (0 : Int32)
    else
      (some (-1 : Int32))))))
def m_SpeciesSolverModel_told (md_drafted : Int32) (md_lines : Int32) (md_n : Int32) (md_species : Int32) (md_trialSize : Int32) (md_foundSize : Int32)  (a1 : Int32) : Option (Int32) :=
  (if a1 = (0 : Int32) then (some md_lines) else (if a1 = (1 : Int32) then (some md_n) else (if a1 = (2 : Int32) then (if md_lines = (0 : Int32) then
      (some (0 : Int32))
    else
      (bd (m_SpeciesSolverModel_size md_n md_species) (fun u5 => (some u5)))) else (if a1 = (3 : Int32) then (some md_drafted) else (if a1 = (4 : Int32) then (some md_trialSize) else (if a1 = (5 : Int32) then (some md_foundSize) else (some (-1 : Int32))))))))
def m_Line_init : Option (Unit) :=
  (some ())
def m_Setup_init_78b (F : Nat) (k78 : (Nat → Int32) → (Nat → Int32) → Int32 → Option ((Nat → Int32) × (Nat → Int32))) (su_numbers : Nat → Int32) (su_on : Nat → Int32) (x1 : Int32) : Option ((Nat → Int32) × (Nat → Int32)) :=
  (if (11 : Int32) ≤ x1 then (some (su_numbers, su_on)) else (gd x1 11 (k78 su_numbers (upd su_on (Int32.toNatClampNeg x1) (vp_nar .boolean (1 : Int32))) (x1 + 1))))
def m_Setup_init_78 (F : Nat) : Nat → (Nat → Int32) → (Nat → Int32) → Int32 → Option ((Nat → Int32) × (Nat → Int32))
  | 0 => fun _ _ _ => none
  | n + 1 => m_Setup_init_78b F (m_Setup_init_78 F n)
def m_Setup_init_53b (F : Nat) (k53 : (Nat → Int32) → (Nat → Int32) → Int32 → Option ((Nat → Int32) × (Nat → Int32))) (su_numbers : Nat → Int32) (su_on : Nat → Int32) (x1 : Int32) : Option ((Nat → Int32) × (Nat → Int32)) :=
  (if (18 : Int32) ≤ x1 then m_Setup_init_78 F F su_numbers su_on (0 : Int32) else (gd x1 18 (gd x1 18 (k53 (upd su_numbers (Int32.toNatClampNeg x1) (stab 0 (Int32.toNatClampNeg x1))) su_on (x1 + 1)))))
def m_Setup_init_53 (F : Nat) : Nat → (Nat → Int32) → (Nat → Int32) → Int32 → Option ((Nat → Int32) × (Nat → Int32))
  | 0 => fun _ _ _ => none
  | n + 1 => m_Setup_init_53b F (m_Setup_init_53 F n)
def m_Setup_init (F : Nat) : Option ((Nat → Int32) × (Nat → Int32)) :=
  m_Setup_init_53 F F (fun _ => 0) (fun _ => 0) (0 : Int32)
def m_Rules_init : Option (Unit) :=
  (some ())
def m_FaultFinder_init : Option (Unit) :=
  (some ())
def m_Prices_init : Option (Unit) :=
  (some ())
def m_Search_init : Option (Unit) :=
  (some ())
def m_SpeciesSolver_init (F : Nat) : Option ((Nat → Int32) × (Nat → Int32)) :=
  (bd (m_Line_init ) (fun u1 => (bd (m_Line_init ) (fun u3 => (bd (m_Line_init ) (fun u5 => (bd (m_Setup_init F) (fun u7 => (bd (m_Rules_init ) (fun u9 => (bd (m_FaultFinder_init ) (fun u11 => (bd (m_Prices_init ) (fun u13 => (bd (m_Search_init ) (fun u15 => (some (u7.1, u7.2))))))))))))))))))
def m_SpeciesSolverModel_init_150b (F : Nat) (k150 : (Nat → Int32) → (Nat → Int32) → Int32 → Option ((Nat → Int32) × (Nat → Int32))) (md_on : Nat → Int32) (md_numbers : Nat → Int32) (x1 : Int32) : Option ((Nat → Int32) × (Nat → Int32)) :=
  (if (11 : Int32) ≤ x1 then (some (md_on, (upd (upd (upd (upd (upd (upd (upd (upd (upd (upd (upd (upd (upd (upd (upd (upd (upd (upd md_numbers (Int32.toNatClampNeg (0 : Int32)) (2741 : Int32)) (Int32.toNatClampNeg (1 : Int32)) (60 : Int32)) (Int32.toNatClampNeg (2 : Int32)) (72 : Int32)) (Int32.toNatClampNeg (3 : Int32)) (921 : Int32)) (Int32.toNatClampNeg (4 : Int32)) (129 : Int32)) (Int32.toNatClampNeg (5 : Int32)) (129 : Int32)) (Int32.toNatClampNeg (6 : Int32)) (1 : Int32)) (Int32.toNatClampNeg (7 : Int32)) (3136 : Int32)) (Int32.toNatClampNeg (8 : Int32)) (2 : Int32)) (Int32.toNatClampNeg (9 : Int32)) (12 : Int32)) (Int32.toNatClampNeg (10 : Int32)) (4 : Int32)) (Int32.toNatClampNeg (11 : Int32)) (1 : Int32)) (Int32.toNatClampNeg (12 : Int32)) (5 : Int32)) (Int32.toNatClampNeg (13 : Int32)) (3 : Int32)) (Int32.toNatClampNeg (14 : Int32)) (1 : Int32)) (Int32.toNatClampNeg (15 : Int32)) (2 : Int32)) (Int32.toNatClampNeg (16 : Int32)) (1 : Int32)) (Int32.toNatClampNeg (17 : Int32)) (1 : Int32)))) else (gd x1 11 (k150 (upd md_on (Int32.toNatClampNeg x1) (vp_nar .boolean (1 : Int32))) md_numbers (x1 + 1))))
def m_SpeciesSolverModel_init_150 (F : Nat) : Nat → (Nat → Int32) → (Nat → Int32) → Int32 → Option ((Nat → Int32) × (Nat → Int32))
  | 0 => fun _ _ _ => none
  | n + 1 => m_SpeciesSolverModel_init_150b F (m_SpeciesSolverModel_init_150 F n)
def m_SpeciesSolverModel_init (F : Nat) : Option ((Nat → Int32) × (Nat → Int32)) :=
  m_SpeciesSolverModel_init_150 F F (fun _ => 0) (fun _ => 0) (0 : Int32)
abbrev SC : Type := Int32 × Int32 × Int32 × Int32 × Int32 × Int32 × Int32 × Int32 × (Nat → Int32) × (Nat → Int32) × (Nat → Nat → Int32) × Int32 × Int32 × Int32 × (Nat → Int32) × (Nat → Int32) × (Nat → Int32) × Int32 × Int32 × Int32 × Int32 × (Nat → Int32) × (Nat → Int32) × (Nat → Int32) × (Nat → Int32) × (Nat → Int32) × (Nat → Int32) × (Nat → Int32) × (Nat → Int32) × (Nat → Int32) × Int32 × Int32 × Int32 × Int32 × Int64 × Int64 × (Nat → Int32) × (Nat → Int32) × (Nat → Int32) × (Nat → Int32) × (Nat → Int32) × (Nat → Int32) × (Nat → Int64) × (Nat → Int64) × (Nat → Int32) × (Nat → Int32) × Int32 × (Nat → Int32) × Int32 × (Nat → Int32) × Int32 × (Nat → Int32)
abbrev SM : Type := Int32 × Int32 × Int32 × Int32 × Int32 × Int32 × Int32 × Int32 × Int32 × Int32 × Int32 × Int32 × Int32 × Int64 × Int64 × Int32 × Int64 × Int64 × Int32 × (Nat → Int32) × (Nat → Int32) × (Nat → Int32) × (Nat → Int32) × (Nat → Int32) × (Nat → Int32) × (Nat → Int32) × (Nat → Int32) × (Nat → Int64) × (Nat → Int64) × (Nat → Int32) × (Nat → Int32) × (Nat → Int32) × (Nat → Int32) × (Nat → Int32) × (Nat → Int32)
def sc_note (F : Nat) (σ : SC) (a1 : Int32) : Option (Int32 × SC) := bd (m_SpeciesSolver_note  σ.2.2.2.2.2.2.2.2.2.2.2.2.2.2.2.2.2.2.2.2.2.2.2.2.2.2.2.2.2.2.2.2.2.2.2.2.2.2.2.2.2.2.2.2.2.2.1 σ.2.2.2.2.2.2.2.2.2.2.2.2.2.2.2.2.2.2.2.2.2.2.2.2.2.2.2.2.2.2.2.2.2.2.2.2.2.2.2.2.2.2.2.2.2.2.2.1 a1) (fun r => some (r.1, (σ.1, σ.2.1, σ.2.2.1, σ.2.2.2.1, σ.2.2.2.2.1, σ.2.2.2.2.2.1, σ.2.2.2.2.2.2.1, σ.2.2.2.2.2.2.2.1, σ.2.2.2.2.2.2.2.2.1, σ.2.2.2.2.2.2.2.2.2.1, σ.2.2.2.2.2.2.2.2.2.2.1, σ.2.2.2.2.2.2.2.2.2.2.2.1, σ.2.2.2.2.2.2.2.2.2.2.2.2.1, σ.2.2.2.2.2.2.2.2.2.2.2.2.2.1, σ.2.2.2.2.2.2.2.2.2.2.2.2.2.2.1, σ.2.2.2.2.2.2.2.2.2.2.2.2.2.2.2.1, σ.2.2.2.2.2.2.2.2.2.2.2.2.2.2.2.2.1, σ.2.2.2.2.2.2.2.2.2.2.2.2.2.2.2.2.2.1, σ.2.2.2.2.2.2.2.2.2.2.2.2.2.2.2.2.2.2.1, σ.2.2.2.2.2.2.2.2.2.2.2.2.2.2.2.2.2.2.2.1, σ.2.2.2.2.2.2.2.2.2.2.2.2.2.2.2.2.2.2.2.2.1, σ.2.2.2.2.2.2.2.2.2.2.2.2.2.2.2.2.2.2.2.2.2.1, σ.2.2.2.2.2.2.2.2.2.2.2.2.2.2.2.2.2.2.2.2.2.2.1, σ.2.2.2.2.2.2.2.2.2.2.2.2.2.2.2.2.2.2.2.2.2.2.2.1, σ.2.2.2.2.2.2.2.2.2.2.2.2.2.2.2.2.2.2.2.2.2.2.2.2.1, σ.2.2.2.2.2.2.2.2.2.2.2.2.2.2.2.2.2.2.2.2.2.2.2.2.2.1, σ.2.2.2.2.2.2.2.2.2.2.2.2.2.2.2.2.2.2.2.2.2.2.2.2.2.2.1, σ.2.2.2.2.2.2.2.2.2.2.2.2.2.2.2.2.2.2.2.2.2.2.2.2.2.2.2.1, σ.2.2.2.2.2.2.2.2.2.2.2.2.2.2.2.2.2.2.2.2.2.2.2.2.2.2.2.2.1, σ.2.2.2.2.2.2.2.2.2.2.2.2.2.2.2.2.2.2.2.2.2.2.2.2.2.2.2.2.2.1, σ.2.2.2.2.2.2.2.2.2.2.2.2.2.2.2.2.2.2.2.2.2.2.2.2.2.2.2.2.2.2.1, σ.2.2.2.2.2.2.2.2.2.2.2.2.2.2.2.2.2.2.2.2.2.2.2.2.2.2.2.2.2.2.2.1, σ.2.2.2.2.2.2.2.2.2.2.2.2.2.2.2.2.2.2.2.2.2.2.2.2.2.2.2.2.2.2.2.2.1, σ.2.2.2.2.2.2.2.2.2.2.2.2.2.2.2.2.2.2.2.2.2.2.2.2.2.2.2.2.2.2.2.2.2.1, σ.2.2.2.2.2.2.2.2.2.2.2.2.2.2.2.2.2.2.2.2.2.2.2.2.2.2.2.2.2.2.2.2.2.2.1, σ.2.2.2.2.2.2.2.2.2.2.2.2.2.2.2.2.2.2.2.2.2.2.2.2.2.2.2.2.2.2.2.2.2.2.2.1, σ.2.2.2.2.2.2.2.2.2.2.2.2.2.2.2.2.2.2.2.2.2.2.2.2.2.2.2.2.2.2.2.2.2.2.2.2.1, σ.2.2.2.2.2.2.2.2.2.2.2.2.2.2.2.2.2.2.2.2.2.2.2.2.2.2.2.2.2.2.2.2.2.2.2.2.2.1, σ.2.2.2.2.2.2.2.2.2.2.2.2.2.2.2.2.2.2.2.2.2.2.2.2.2.2.2.2.2.2.2.2.2.2.2.2.2.2.1, σ.2.2.2.2.2.2.2.2.2.2.2.2.2.2.2.2.2.2.2.2.2.2.2.2.2.2.2.2.2.2.2.2.2.2.2.2.2.2.2.1, σ.2.2.2.2.2.2.2.2.2.2.2.2.2.2.2.2.2.2.2.2.2.2.2.2.2.2.2.2.2.2.2.2.2.2.2.2.2.2.2.2.1, σ.2.2.2.2.2.2.2.2.2.2.2.2.2.2.2.2.2.2.2.2.2.2.2.2.2.2.2.2.2.2.2.2.2.2.2.2.2.2.2.2.2.1, σ.2.2.2.2.2.2.2.2.2.2.2.2.2.2.2.2.2.2.2.2.2.2.2.2.2.2.2.2.2.2.2.2.2.2.2.2.2.2.2.2.2.2.1, σ.2.2.2.2.2.2.2.2.2.2.2.2.2.2.2.2.2.2.2.2.2.2.2.2.2.2.2.2.2.2.2.2.2.2.2.2.2.2.2.2.2.2.2.1, σ.2.2.2.2.2.2.2.2.2.2.2.2.2.2.2.2.2.2.2.2.2.2.2.2.2.2.2.2.2.2.2.2.2.2.2.2.2.2.2.2.2.2.2.2.1, σ.2.2.2.2.2.2.2.2.2.2.2.2.2.2.2.2.2.2.2.2.2.2.2.2.2.2.2.2.2.2.2.2.2.2.2.2.2.2.2.2.2.2.2.2.2.1, r.2.1, r.2.2, σ.2.2.2.2.2.2.2.2.2.2.2.2.2.2.2.2.2.2.2.2.2.2.2.2.2.2.2.2.2.2.2.2.2.2.2.2.2.2.2.2.2.2.2.2.2.2.2.2.1, σ.2.2.2.2.2.2.2.2.2.2.2.2.2.2.2.2.2.2.2.2.2.2.2.2.2.2.2.2.2.2.2.2.2.2.2.2.2.2.2.2.2.2.2.2.2.2.2.2.2.1, σ.2.2.2.2.2.2.2.2.2.2.2.2.2.2.2.2.2.2.2.2.2.2.2.2.2.2.2.2.2.2.2.2.2.2.2.2.2.2.2.2.2.2.2.2.2.2.2.2.2.2.1, σ.2.2.2.2.2.2.2.2.2.2.2.2.2.2.2.2.2.2.2.2.2.2.2.2.2.2.2.2.2.2.2.2.2.2.2.2.2.2.2.2.2.2.2.2.2.2.2.2.2.2.2)))
def sc_give (F : Nat) (σ : SC)  : Option (Int32 × SC) := bd (m_SpeciesSolver_give F σ.2.2.2.2.2.2.2.2.2.2.2.2.2.2.2.2.2.2.2.2.2.2.2.2.2.2.2.2.2.2.2.2.2.2.2.2.2.2.2.2.2.2.2.2.2.2.2.1 σ.2.2.2.1 σ.2.2.2.2.1 σ.2.2.2.2.2.1 σ.2.2.2.2.2.2.2.2.2.2.1 σ.2.2.2.2.2.2.2.2.2.2.2.2.2.2.2.2.2.2.2.2.2.2.2.2.2.2.2.2.2.2.2.2.2.2.2.2.2.2.2.2.2.2.2.2.2.2.1 ) (fun r => some (r.1, (σ.1, σ.2.1, σ.2.2.1, r.2.1, r.2.2.1, r.2.2.2.1, σ.2.2.2.2.2.2.1, σ.2.2.2.2.2.2.2.1, σ.2.2.2.2.2.2.2.2.1, σ.2.2.2.2.2.2.2.2.2.1, r.2.2.2.2.1, σ.2.2.2.2.2.2.2.2.2.2.2.1, σ.2.2.2.2.2.2.2.2.2.2.2.2.1, σ.2.2.2.2.2.2.2.2.2.2.2.2.2.1, σ.2.2.2.2.2.2.2.2.2.2.2.2.2.2.1, σ.2.2.2.2.2.2.2.2.2.2.2.2.2.2.2.1, σ.2.2.2.2.2.2.2.2.2.2.2.2.2.2.2.2.1, σ.2.2.2.2.2.2.2.2.2.2.2.2.2.2.2.2.2.1, σ.2.2.2.2.2.2.2.2.2.2.2.2.2.2.2.2.2.2.1, σ.2.2.2.2.2.2.2.2.2.2.2.2.2.2.2.2.2.2.2.1, σ.2.2.2.2.2.2.2.2.2.2.2.2.2.2.2.2.2.2.2.2.1, σ.2.2.2.2.2.2.2.2.2.2.2.2.2.2.2.2.2.2.2.2.2.1, σ.2.2.2.2.2.2.2.2.2.2.2.2.2.2.2.2.2.2.2.2.2.2.1, σ.2.2.2.2.2.2.2.2.2.2.2.2.2.2.2.2.2.2.2.2.2.2.2.1, σ.2.2.2.2.2.2.2.2.2.2.2.2.2.2.2.2.2.2.2.2.2.2.2.2.1, σ.2.2.2.2.2.2.2.2.2.2.2.2.2.2.2.2.2.2.2.2.2.2.2.2.2.1, σ.2.2.2.2.2.2.2.2.2.2.2.2.2.2.2.2.2.2.2.2.2.2.2.2.2.2.1, σ.2.2.2.2.2.2.2.2.2.2.2.2.2.2.2.2.2.2.2.2.2.2.2.2.2.2.2.1, σ.2.2.2.2.2.2.2.2.2.2.2.2.2.2.2.2.2.2.2.2.2.2.2.2.2.2.2.2.1, σ.2.2.2.2.2.2.2.2.2.2.2.2.2.2.2.2.2.2.2.2.2.2.2.2.2.2.2.2.2.1, σ.2.2.2.2.2.2.2.2.2.2.2.2.2.2.2.2.2.2.2.2.2.2.2.2.2.2.2.2.2.2.1, σ.2.2.2.2.2.2.2.2.2.2.2.2.2.2.2.2.2.2.2.2.2.2.2.2.2.2.2.2.2.2.2.1, σ.2.2.2.2.2.2.2.2.2.2.2.2.2.2.2.2.2.2.2.2.2.2.2.2.2.2.2.2.2.2.2.2.1, σ.2.2.2.2.2.2.2.2.2.2.2.2.2.2.2.2.2.2.2.2.2.2.2.2.2.2.2.2.2.2.2.2.2.1, σ.2.2.2.2.2.2.2.2.2.2.2.2.2.2.2.2.2.2.2.2.2.2.2.2.2.2.2.2.2.2.2.2.2.2.1, σ.2.2.2.2.2.2.2.2.2.2.2.2.2.2.2.2.2.2.2.2.2.2.2.2.2.2.2.2.2.2.2.2.2.2.2.1, σ.2.2.2.2.2.2.2.2.2.2.2.2.2.2.2.2.2.2.2.2.2.2.2.2.2.2.2.2.2.2.2.2.2.2.2.2.1, σ.2.2.2.2.2.2.2.2.2.2.2.2.2.2.2.2.2.2.2.2.2.2.2.2.2.2.2.2.2.2.2.2.2.2.2.2.2.1, σ.2.2.2.2.2.2.2.2.2.2.2.2.2.2.2.2.2.2.2.2.2.2.2.2.2.2.2.2.2.2.2.2.2.2.2.2.2.2.1, σ.2.2.2.2.2.2.2.2.2.2.2.2.2.2.2.2.2.2.2.2.2.2.2.2.2.2.2.2.2.2.2.2.2.2.2.2.2.2.2.1, σ.2.2.2.2.2.2.2.2.2.2.2.2.2.2.2.2.2.2.2.2.2.2.2.2.2.2.2.2.2.2.2.2.2.2.2.2.2.2.2.2.1, σ.2.2.2.2.2.2.2.2.2.2.2.2.2.2.2.2.2.2.2.2.2.2.2.2.2.2.2.2.2.2.2.2.2.2.2.2.2.2.2.2.2.1, σ.2.2.2.2.2.2.2.2.2.2.2.2.2.2.2.2.2.2.2.2.2.2.2.2.2.2.2.2.2.2.2.2.2.2.2.2.2.2.2.2.2.2.1, σ.2.2.2.2.2.2.2.2.2.2.2.2.2.2.2.2.2.2.2.2.2.2.2.2.2.2.2.2.2.2.2.2.2.2.2.2.2.2.2.2.2.2.2.1, σ.2.2.2.2.2.2.2.2.2.2.2.2.2.2.2.2.2.2.2.2.2.2.2.2.2.2.2.2.2.2.2.2.2.2.2.2.2.2.2.2.2.2.2.2.1, σ.2.2.2.2.2.2.2.2.2.2.2.2.2.2.2.2.2.2.2.2.2.2.2.2.2.2.2.2.2.2.2.2.2.2.2.2.2.2.2.2.2.2.2.2.2.1, r.2.2.2.2.2, σ.2.2.2.2.2.2.2.2.2.2.2.2.2.2.2.2.2.2.2.2.2.2.2.2.2.2.2.2.2.2.2.2.2.2.2.2.2.2.2.2.2.2.2.2.2.2.2.1, σ.2.2.2.2.2.2.2.2.2.2.2.2.2.2.2.2.2.2.2.2.2.2.2.2.2.2.2.2.2.2.2.2.2.2.2.2.2.2.2.2.2.2.2.2.2.2.2.2.1, σ.2.2.2.2.2.2.2.2.2.2.2.2.2.2.2.2.2.2.2.2.2.2.2.2.2.2.2.2.2.2.2.2.2.2.2.2.2.2.2.2.2.2.2.2.2.2.2.2.2.1, σ.2.2.2.2.2.2.2.2.2.2.2.2.2.2.2.2.2.2.2.2.2.2.2.2.2.2.2.2.2.2.2.2.2.2.2.2.2.2.2.2.2.2.2.2.2.2.2.2.2.2.1, σ.2.2.2.2.2.2.2.2.2.2.2.2.2.2.2.2.2.2.2.2.2.2.2.2.2.2.2.2.2.2.2.2.2.2.2.2.2.2.2.2.2.2.2.2.2.2.2.2.2.2.2)))
def sc_attempt (F : Nat) (σ : SC)  : Option (Int32 × SC) := bd (m_SpeciesSolver_attempt F σ.2.2.2.2.2.2.2.2.2.2.2.2.2.2.2.2.2.2.2.2.2.2.2.2.2.2.2.2.2.2.2.2.2.2.2.2.2.2.2.2.2.2.2.2.2.2.2.1 σ.2.2.2.2.2.2.2.2.2.2.2.2.2.2.2.2.2.2.2.2.2.2.2.2.2.2.2.2.2.2.2.2.2.2.2.2.2.2.2.2.2.2.2.2.2.2.1 σ.2.2.2.2.2.2.2.2.2.2.2.2.2.2.2.2.2.2.2.2.2.2.2.2.2.2.2.2.2.2.2.2.2.2.2.2.2.2.2.2.2.2.2.2.2.2.2.2.1 σ.2.2.2.2.2.2.2.2.2.2.2.2.2.2.2.2.2.2.2.2.2.2.2.2.2.2.2.2.2.2.2.2.2.2.2.2.2.2.2.2.2.2.2.2.2.2.2.2.2.1 ) (fun r => some (r.1, (σ.1, σ.2.1, σ.2.2.1, σ.2.2.2.1, σ.2.2.2.2.1, σ.2.2.2.2.2.1, σ.2.2.2.2.2.2.1, σ.2.2.2.2.2.2.2.1, σ.2.2.2.2.2.2.2.2.1, σ.2.2.2.2.2.2.2.2.2.1, σ.2.2.2.2.2.2.2.2.2.2.1, σ.2.2.2.2.2.2.2.2.2.2.2.1, σ.2.2.2.2.2.2.2.2.2.2.2.2.1, σ.2.2.2.2.2.2.2.2.2.2.2.2.2.1, σ.2.2.2.2.2.2.2.2.2.2.2.2.2.2.1, σ.2.2.2.2.2.2.2.2.2.2.2.2.2.2.2.1, σ.2.2.2.2.2.2.2.2.2.2.2.2.2.2.2.2.1, σ.2.2.2.2.2.2.2.2.2.2.2.2.2.2.2.2.2.1, σ.2.2.2.2.2.2.2.2.2.2.2.2.2.2.2.2.2.2.1, σ.2.2.2.2.2.2.2.2.2.2.2.2.2.2.2.2.2.2.2.1, σ.2.2.2.2.2.2.2.2.2.2.2.2.2.2.2.2.2.2.2.2.1, σ.2.2.2.2.2.2.2.2.2.2.2.2.2.2.2.2.2.2.2.2.2.1, σ.2.2.2.2.2.2.2.2.2.2.2.2.2.2.2.2.2.2.2.2.2.2.1, σ.2.2.2.2.2.2.2.2.2.2.2.2.2.2.2.2.2.2.2.2.2.2.2.1, σ.2.2.2.2.2.2.2.2.2.2.2.2.2.2.2.2.2.2.2.2.2.2.2.2.1, σ.2.2.2.2.2.2.2.2.2.2.2.2.2.2.2.2.2.2.2.2.2.2.2.2.2.1, σ.2.2.2.2.2.2.2.2.2.2.2.2.2.2.2.2.2.2.2.2.2.2.2.2.2.2.1, σ.2.2.2.2.2.2.2.2.2.2.2.2.2.2.2.2.2.2.2.2.2.2.2.2.2.2.2.1, σ.2.2.2.2.2.2.2.2.2.2.2.2.2.2.2.2.2.2.2.2.2.2.2.2.2.2.2.2.1, σ.2.2.2.2.2.2.2.2.2.2.2.2.2.2.2.2.2.2.2.2.2.2.2.2.2.2.2.2.2.1, σ.2.2.2.2.2.2.2.2.2.2.2.2.2.2.2.2.2.2.2.2.2.2.2.2.2.2.2.2.2.2.1, σ.2.2.2.2.2.2.2.2.2.2.2.2.2.2.2.2.2.2.2.2.2.2.2.2.2.2.2.2.2.2.2.1, σ.2.2.2.2.2.2.2.2.2.2.2.2.2.2.2.2.2.2.2.2.2.2.2.2.2.2.2.2.2.2.2.2.1, σ.2.2.2.2.2.2.2.2.2.2.2.2.2.2.2.2.2.2.2.2.2.2.2.2.2.2.2.2.2.2.2.2.2.1, σ.2.2.2.2.2.2.2.2.2.2.2.2.2.2.2.2.2.2.2.2.2.2.2.2.2.2.2.2.2.2.2.2.2.2.1, σ.2.2.2.2.2.2.2.2.2.2.2.2.2.2.2.2.2.2.2.2.2.2.2.2.2.2.2.2.2.2.2.2.2.2.2.1, σ.2.2.2.2.2.2.2.2.2.2.2.2.2.2.2.2.2.2.2.2.2.2.2.2.2.2.2.2.2.2.2.2.2.2.2.2.1, σ.2.2.2.2.2.2.2.2.2.2.2.2.2.2.2.2.2.2.2.2.2.2.2.2.2.2.2.2.2.2.2.2.2.2.2.2.2.1, σ.2.2.2.2.2.2.2.2.2.2.2.2.2.2.2.2.2.2.2.2.2.2.2.2.2.2.2.2.2.2.2.2.2.2.2.2.2.2.1, σ.2.2.2.2.2.2.2.2.2.2.2.2.2.2.2.2.2.2.2.2.2.2.2.2.2.2.2.2.2.2.2.2.2.2.2.2.2.2.2.1, σ.2.2.2.2.2.2.2.2.2.2.2.2.2.2.2.2.2.2.2.2.2.2.2.2.2.2.2.2.2.2.2.2.2.2.2.2.2.2.2.2.1, σ.2.2.2.2.2.2.2.2.2.2.2.2.2.2.2.2.2.2.2.2.2.2.2.2.2.2.2.2.2.2.2.2.2.2.2.2.2.2.2.2.2.1, σ.2.2.2.2.2.2.2.2.2.2.2.2.2.2.2.2.2.2.2.2.2.2.2.2.2.2.2.2.2.2.2.2.2.2.2.2.2.2.2.2.2.2.1, σ.2.2.2.2.2.2.2.2.2.2.2.2.2.2.2.2.2.2.2.2.2.2.2.2.2.2.2.2.2.2.2.2.2.2.2.2.2.2.2.2.2.2.2.1, σ.2.2.2.2.2.2.2.2.2.2.2.2.2.2.2.2.2.2.2.2.2.2.2.2.2.2.2.2.2.2.2.2.2.2.2.2.2.2.2.2.2.2.2.2.1, σ.2.2.2.2.2.2.2.2.2.2.2.2.2.2.2.2.2.2.2.2.2.2.2.2.2.2.2.2.2.2.2.2.2.2.2.2.2.2.2.2.2.2.2.2.2.1, r.2.1, σ.2.2.2.2.2.2.2.2.2.2.2.2.2.2.2.2.2.2.2.2.2.2.2.2.2.2.2.2.2.2.2.2.2.2.2.2.2.2.2.2.2.2.2.2.2.2.2.1, r.2.2.1, r.2.2.2, σ.2.2.2.2.2.2.2.2.2.2.2.2.2.2.2.2.2.2.2.2.2.2.2.2.2.2.2.2.2.2.2.2.2.2.2.2.2.2.2.2.2.2.2.2.2.2.2.2.2.2.1, σ.2.2.2.2.2.2.2.2.2.2.2.2.2.2.2.2.2.2.2.2.2.2.2.2.2.2.2.2.2.2.2.2.2.2.2.2.2.2.2.2.2.2.2.2.2.2.2.2.2.2.2)))
def sc_drop (F : Nat) (σ : SC)  : Option (Int32 × SC) := bd (m_SpeciesSolver_drop  σ.2.2.2.1 σ.2.2.2.2.1 σ.2.2.2.2.2.1 ) (fun r => some (r.1, (σ.1, σ.2.1, σ.2.2.1, r.2.1, r.2.2.1, r.2.2.2, σ.2.2.2.2.2.2.1, σ.2.2.2.2.2.2.2.1, σ.2.2.2.2.2.2.2.2.1, σ.2.2.2.2.2.2.2.2.2.1, σ.2.2.2.2.2.2.2.2.2.2.1, σ.2.2.2.2.2.2.2.2.2.2.2.1, σ.2.2.2.2.2.2.2.2.2.2.2.2.1, σ.2.2.2.2.2.2.2.2.2.2.2.2.2.1, σ.2.2.2.2.2.2.2.2.2.2.2.2.2.2.1, σ.2.2.2.2.2.2.2.2.2.2.2.2.2.2.2.1, σ.2.2.2.2.2.2.2.2.2.2.2.2.2.2.2.2.1, σ.2.2.2.2.2.2.2.2.2.2.2.2.2.2.2.2.2.1, σ.2.2.2.2.2.2.2.2.2.2.2.2.2.2.2.2.2.2.1, σ.2.2.2.2.2.2.2.2.2.2.2.2.2.2.2.2.2.2.2.1, σ.2.2.2.2.2.2.2.2.2.2.2.2.2.2.2.2.2.2.2.2.1, σ.2.2.2.2.2.2.2.2.2.2.2.2.2.2.2.2.2.2.2.2.2.1, σ.2.2.2.2.2.2.2.2.2.2.2.2.2.2.2.2.2.2.2.2.2.2.1, σ.2.2.2.2.2.2.2.2.2.2.2.2.2.2.2.2.2.2.2.2.2.2.2.1, σ.2.2.2.2.2.2.2.2.2.2.2.2.2.2.2.2.2.2.2.2.2.2.2.2.1, σ.2.2.2.2.2.2.2.2.2.2.2.2.2.2.2.2.2.2.2.2.2.2.2.2.2.1, σ.2.2.2.2.2.2.2.2.2.2.2.2.2.2.2.2.2.2.2.2.2.2.2.2.2.2.1, σ.2.2.2.2.2.2.2.2.2.2.2.2.2.2.2.2.2.2.2.2.2.2.2.2.2.2.2.1, σ.2.2.2.2.2.2.2.2.2.2.2.2.2.2.2.2.2.2.2.2.2.2.2.2.2.2.2.2.1, σ.2.2.2.2.2.2.2.2.2.2.2.2.2.2.2.2.2.2.2.2.2.2.2.2.2.2.2.2.2.1, σ.2.2.2.2.2.2.2.2.2.2.2.2.2.2.2.2.2.2.2.2.2.2.2.2.2.2.2.2.2.2.1, σ.2.2.2.2.2.2.2.2.2.2.2.2.2.2.2.2.2.2.2.2.2.2.2.2.2.2.2.2.2.2.2.1, σ.2.2.2.2.2.2.2.2.2.2.2.2.2.2.2.2.2.2.2.2.2.2.2.2.2.2.2.2.2.2.2.2.1, σ.2.2.2.2.2.2.2.2.2.2.2.2.2.2.2.2.2.2.2.2.2.2.2.2.2.2.2.2.2.2.2.2.2.1, σ.2.2.2.2.2.2.2.2.2.2.2.2.2.2.2.2.2.2.2.2.2.2.2.2.2.2.2.2.2.2.2.2.2.2.1, σ.2.2.2.2.2.2.2.2.2.2.2.2.2.2.2.2.2.2.2.2.2.2.2.2.2.2.2.2.2.2.2.2.2.2.2.1, σ.2.2.2.2.2.2.2.2.2.2.2.2.2.2.2.2.2.2.2.2.2.2.2.2.2.2.2.2.2.2.2.2.2.2.2.2.1, σ.2.2.2.2.2.2.2.2.2.2.2.2.2.2.2.2.2.2.2.2.2.2.2.2.2.2.2.2.2.2.2.2.2.2.2.2.2.1, σ.2.2.2.2.2.2.2.2.2.2.2.2.2.2.2.2.2.2.2.2.2.2.2.2.2.2.2.2.2.2.2.2.2.2.2.2.2.2.1, σ.2.2.2.2.2.2.2.2.2.2.2.2.2.2.2.2.2.2.2.2.2.2.2.2.2.2.2.2.2.2.2.2.2.2.2.2.2.2.2.1, σ.2.2.2.2.2.2.2.2.2.2.2.2.2.2.2.2.2.2.2.2.2.2.2.2.2.2.2.2.2.2.2.2.2.2.2.2.2.2.2.2.1, σ.2.2.2.2.2.2.2.2.2.2.2.2.2.2.2.2.2.2.2.2.2.2.2.2.2.2.2.2.2.2.2.2.2.2.2.2.2.2.2.2.2.1, σ.2.2.2.2.2.2.2.2.2.2.2.2.2.2.2.2.2.2.2.2.2.2.2.2.2.2.2.2.2.2.2.2.2.2.2.2.2.2.2.2.2.2.1, σ.2.2.2.2.2.2.2.2.2.2.2.2.2.2.2.2.2.2.2.2.2.2.2.2.2.2.2.2.2.2.2.2.2.2.2.2.2.2.2.2.2.2.2.1, σ.2.2.2.2.2.2.2.2.2.2.2.2.2.2.2.2.2.2.2.2.2.2.2.2.2.2.2.2.2.2.2.2.2.2.2.2.2.2.2.2.2.2.2.2.1, σ.2.2.2.2.2.2.2.2.2.2.2.2.2.2.2.2.2.2.2.2.2.2.2.2.2.2.2.2.2.2.2.2.2.2.2.2.2.2.2.2.2.2.2.2.2.1, σ.2.2.2.2.2.2.2.2.2.2.2.2.2.2.2.2.2.2.2.2.2.2.2.2.2.2.2.2.2.2.2.2.2.2.2.2.2.2.2.2.2.2.2.2.2.2.1, σ.2.2.2.2.2.2.2.2.2.2.2.2.2.2.2.2.2.2.2.2.2.2.2.2.2.2.2.2.2.2.2.2.2.2.2.2.2.2.2.2.2.2.2.2.2.2.2.1, σ.2.2.2.2.2.2.2.2.2.2.2.2.2.2.2.2.2.2.2.2.2.2.2.2.2.2.2.2.2.2.2.2.2.2.2.2.2.2.2.2.2.2.2.2.2.2.2.2.1, σ.2.2.2.2.2.2.2.2.2.2.2.2.2.2.2.2.2.2.2.2.2.2.2.2.2.2.2.2.2.2.2.2.2.2.2.2.2.2.2.2.2.2.2.2.2.2.2.2.2.1, σ.2.2.2.2.2.2.2.2.2.2.2.2.2.2.2.2.2.2.2.2.2.2.2.2.2.2.2.2.2.2.2.2.2.2.2.2.2.2.2.2.2.2.2.2.2.2.2.2.2.2.1, σ.2.2.2.2.2.2.2.2.2.2.2.2.2.2.2.2.2.2.2.2.2.2.2.2.2.2.2.2.2.2.2.2.2.2.2.2.2.2.2.2.2.2.2.2.2.2.2.2.2.2.2)))
def sc_species (F : Nat) (σ : SC) (a1 : Int32) (a2 : Int32) : Option (Int32 × SC) := bd (m_SpeciesSolver_species  σ.2.2.2.1 σ.2.2.2.2.2.2.1 σ.2.2.2.2.2.2.2.1 a1 a2) (fun r => some (r.1, (σ.1, σ.2.1, σ.2.2.1, r.2.1, σ.2.2.2.2.1, σ.2.2.2.2.2.1, r.2.2.1, r.2.2.2, σ.2.2.2.2.2.2.2.2.1, σ.2.2.2.2.2.2.2.2.2.1, σ.2.2.2.2.2.2.2.2.2.2.1, σ.2.2.2.2.2.2.2.2.2.2.2.1, σ.2.2.2.2.2.2.2.2.2.2.2.2.1, σ.2.2.2.2.2.2.2.2.2.2.2.2.2.1, σ.2.2.2.2.2.2.2.2.2.2.2.2.2.2.1, σ.2.2.2.2.2.2.2.2.2.2.2.2.2.2.2.1, σ.2.2.2.2.2.2.2.2.2.2.2.2.2.2.2.2.1, σ.2.2.2.2.2.2.2.2.2.2.2.2.2.2.2.2.2.1, σ.2.2.2.2.2.2.2.2.2.2.2.2.2.2.2.2.2.2.1, σ.2.2.2.2.2.2.2.2.2.2.2.2.2.2.2.2.2.2.2.1, σ.2.2.2.2.2.2.2.2.2.2.2.2.2.2.2.2.2.2.2.2.1, σ.2.2.2.2.2.2.2.2.2.2.2.2.2.2.2.2.2.2.2.2.2.1, σ.2.2.2.2.2.2.2.2.2.2.2.2.2.2.2.2.2.2.2.2.2.2.1, σ.2.2.2.2.2.2.2.2.2.2.2.2.2.2.2.2.2.2.2.2.2.2.2.1, σ.2.2.2.2.2.2.2.2.2.2.2.2.2.2.2.2.2.2.2.2.2.2.2.2.1, σ.2.2.2.2.2.2.2.2.2.2.2.2.2.2.2.2.2.2.2.2.2.2.2.2.2.1, σ.2.2.2.2.2.2.2.2.2.2.2.2.2.2.2.2.2.2.2.2.2.2.2.2.2.2.1, σ.2.2.2.2.2.2.2.2.2.2.2.2.2.2.2.2.2.2.2.2.2.2.2.2.2.2.2.1, σ.2.2.2.2.2.2.2.2.2.2.2.2.2.2.2.2.2.2.2.2.2.2.2.2.2.2.2.2.1, σ.2.2.2.2.2.2.2.2.2.2.2.2.2.2.2.2.2.2.2.2.2.2.2.2.2.2.2.2.2.1, σ.2.2.2.2.2.2.2.2.2.2.2.2.2.2.2.2.2.2.2.2.2.2.2.2.2.2.2.2.2.2.1, σ.2.2.2.2.2.2.2.2.2.2.2.2.2.2.2.2.2.2.2.2.2.2.2.2.2.2.2.2.2.2.2.1, σ.2.2.2.2.2.2.2.2.2.2.2.2.2.2.2.2.2.2.2.2.2.2.2.2.2.2.2.2.2.2.2.2.1, σ.2.2.2.2.2.2.2.2.2.2.2.2.2.2.2.2.2.2.2.2.2.2.2.2.2.2.2.2.2.2.2.2.2.1, σ.2.2.2.2.2.2.2.2.2.2.2.2.2.2.2.2.2.2.2.2.2.2.2.2.2.2.2.2.2.2.2.2.2.2.1, σ.2.2.2.2.2.2.2.2.2.2.2.2.2.2.2.2.2.2.2.2.2.2.2.2.2.2.2.2.2.2.2.2.2.2.2.1, σ.2.2.2.2.2.2.2.2.2.2.2.2.2.2.2.2.2.2.2.2.2.2.2.2.2.2.2.2.2.2.2.2.2.2.2.2.1, σ.2.2.2.2.2.2.2.2.2.2.2.2.2.2.2.2.2.2.2.2.2.2.2.2.2.2.2.2.2.2.2.2.2.2.2.2.2.1, σ.2.2.2.2.2.2.2.2.2.2.2.2.2.2.2.2.2.2.2.2.2.2.2.2.2.2.2.2.2.2.2.2.2.2.2.2.2.2.1, σ.2.2.2.2.2.2.2.2.2.2.2.2.2.2.2.2.2.2.2.2.2.2.2.2.2.2.2.2.2.2.2.2.2.2.2.2.2.2.2.1, σ.2.2.2.2.2.2.2.2.2.2.2.2.2.2.2.2.2.2.2.2.2.2.2.2.2.2.2.2.2.2.2.2.2.2.2.2.2.2.2.2.1, σ.2.2.2.2.2.2.2.2.2.2.2.2.2.2.2.2.2.2.2.2.2.2.2.2.2.2.2.2.2.2.2.2.2.2.2.2.2.2.2.2.2.1, σ.2.2.2.2.2.2.2.2.2.2.2.2.2.2.2.2.2.2.2.2.2.2.2.2.2.2.2.2.2.2.2.2.2.2.2.2.2.2.2.2.2.2.1, σ.2.2.2.2.2.2.2.2.2.2.2.2.2.2.2.2.2.2.2.2.2.2.2.2.2.2.2.2.2.2.2.2.2.2.2.2.2.2.2.2.2.2.2.1, σ.2.2.2.2.2.2.2.2.2.2.2.2.2.2.2.2.2.2.2.2.2.2.2.2.2.2.2.2.2.2.2.2.2.2.2.2.2.2.2.2.2.2.2.2.1, σ.2.2.2.2.2.2.2.2.2.2.2.2.2.2.2.2.2.2.2.2.2.2.2.2.2.2.2.2.2.2.2.2.2.2.2.2.2.2.2.2.2.2.2.2.2.1, σ.2.2.2.2.2.2.2.2.2.2.2.2.2.2.2.2.2.2.2.2.2.2.2.2.2.2.2.2.2.2.2.2.2.2.2.2.2.2.2.2.2.2.2.2.2.2.1, σ.2.2.2.2.2.2.2.2.2.2.2.2.2.2.2.2.2.2.2.2.2.2.2.2.2.2.2.2.2.2.2.2.2.2.2.2.2.2.2.2.2.2.2.2.2.2.2.1, σ.2.2.2.2.2.2.2.2.2.2.2.2.2.2.2.2.2.2.2.2.2.2.2.2.2.2.2.2.2.2.2.2.2.2.2.2.2.2.2.2.2.2.2.2.2.2.2.2.1, σ.2.2.2.2.2.2.2.2.2.2.2.2.2.2.2.2.2.2.2.2.2.2.2.2.2.2.2.2.2.2.2.2.2.2.2.2.2.2.2.2.2.2.2.2.2.2.2.2.2.1, σ.2.2.2.2.2.2.2.2.2.2.2.2.2.2.2.2.2.2.2.2.2.2.2.2.2.2.2.2.2.2.2.2.2.2.2.2.2.2.2.2.2.2.2.2.2.2.2.2.2.2.1, σ.2.2.2.2.2.2.2.2.2.2.2.2.2.2.2.2.2.2.2.2.2.2.2.2.2.2.2.2.2.2.2.2.2.2.2.2.2.2.2.2.2.2.2.2.2.2.2.2.2.2.2)))
def sc_rule (F : Nat) (σ : SC) (a1 : Int32) (a2 : Int32) : Option (Int32 × SC) := bd (m_SpeciesSolver_rule  σ.2.2.2.1 σ.2.2.2.2.2.2.2.2.2.1 a1 a2) (fun r => some (r.1, (σ.1, σ.2.1, σ.2.2.1, r.2.1, σ.2.2.2.2.1, σ.2.2.2.2.2.1, σ.2.2.2.2.2.2.1, σ.2.2.2.2.2.2.2.1, σ.2.2.2.2.2.2.2.2.1, r.2.2, σ.2.2.2.2.2.2.2.2.2.2.1, σ.2.2.2.2.2.2.2.2.2.2.2.1, σ.2.2.2.2.2.2.2.2.2.2.2.2.1, σ.2.2.2.2.2.2.2.2.2.2.2.2.2.1, σ.2.2.2.2.2.2.2.2.2.2.2.2.2.2.1, σ.2.2.2.2.2.2.2.2.2.2.2.2.2.2.2.1, σ.2.2.2.2.2.2.2.2.2.2.2.2.2.2.2.2.1, σ.2.2.2.2.2.2.2.2.2.2.2.2.2.2.2.2.2.1, σ.2.2.2.2.2.2.2.2.2.2.2.2.2.2.2.2.2.2.1, σ.2.2.2.2.2.2.2.2.2.2.2.2.2.2.2.2.2.2.2.1, σ.2.2.2.2.2.2.2.2.2.2.2.2.2.2.2.2.2.2.2.2.1, σ.2.2.2.2.2.2.2.2.2.2.2.2.2.2.2.2.2.2.2.2.2.1, σ.2.2.2.2.2.2.2.2.2.2.2.2.2.2.2.2.2.2.2.2.2.2.1, σ.2.2.2.2.2.2.2.2.2.2.2.2.2.2.2.2.2.2.2.2.2.2.2.1, σ.2.2.2.2.2.2.2.2.2.2.2.2.2.2.2.2.2.2.2.2.2.2.2.2.1, σ.2.2.2.2.2.2.2.2.2.2.2.2.2.2.2.2.2.2.2.2.2.2.2.2.2.1, σ.2.2.2.2.2.2.2.2.2.2.2.2.2.2.2.2.2.2.2.2.2.2.2.2.2.2.1, σ.2.2.2.2.2.2.2.2.2.2.2.2.2.2.2.2.2.2.2.2.2.2.2.2.2.2.2.1, σ.2.2.2.2.2.2.2.2.2.2.2.2.2.2.2.2.2.2.2.2.2.2.2.2.2.2.2.2.1, σ.2.2.2.2.2.2.2.2.2.2.2.2.2.2.2.2.2.2.2.2.2.2.2.2.2.2.2.2.2.1, σ.2.2.2.2.2.2.2.2.2.2.2.2.2.2.2.2.2.2.2.2.2.2.2.2.2.2.2.2.2.2.1, σ.2.2.2.2.2.2.2.2.2.2.2.2.2.2.2.2.2.2.2.2.2.2.2.2.2.2.2.2.2.2.2.1, σ.2.2.2.2.2.2.2.2.2.2.2.2.2.2.2.2.2.2.2.2.2.2.2.2.2.2.2.2.2.2.2.2.1, σ.2.2.2.2.2.2.2.2.2.2.2.2.2.2.2.2.2.2.2.2.2.2.2.2.2.2.2.2.2.2.2.2.2.1, σ.2.2.2.2.2.2.2.2.2.2.2.2.2.2.2.2.2.2.2.2.2.2.2.2.2.2.2.2.2.2.2.2.2.2.1, σ.2.2.2.2.2.2.2.2.2.2.2.2.2.2.2.2.2.2.2.2.2.2.2.2.2.2.2.2.2.2.2.2.2.2.2.1, σ.2.2.2.2.2.2.2.2.2.2.2.2.2.2.2.2.2.2.2.2.2.2.2.2.2.2.2.2.2.2.2.2.2.2.2.2.1, σ.2.2.2.2.2.2.2.2.2.2.2.2.2.2.2.2.2.2.2.2.2.2.2.2.2.2.2.2.2.2.2.2.2.2.2.2.2.1, σ.2.2.2.2.2.2.2.2.2.2.2.2.2.2.2.2.2.2.2.2.2.2.2.2.2.2.2.2.2.2.2.2.2.2.2.2.2.2.1, σ.2.2.2.2.2.2.2.2.2.2.2.2.2.2.2.2.2.2.2.2.2.2.2.2.2.2.2.2.2.2.2.2.2.2.2.2.2.2.2.1, σ.2.2.2.2.2.2.2.2.2.2.2.2.2.2.2.2.2.2.2.2.2.2.2.2.2.2.2.2.2.2.2.2.2.2.2.2.2.2.2.2.1, σ.2.2.2.2.2.2.2.2.2.2.2.2.2.2.2.2.2.2.2.2.2.2.2.2.2.2.2.2.2.2.2.2.2.2.2.2.2.2.2.2.2.1, σ.2.2.2.2.2.2.2.2.2.2.2.2.2.2.2.2.2.2.2.2.2.2.2.2.2.2.2.2.2.2.2.2.2.2.2.2.2.2.2.2.2.2.1, σ.2.2.2.2.2.2.2.2.2.2.2.2.2.2.2.2.2.2.2.2.2.2.2.2.2.2.2.2.2.2.2.2.2.2.2.2.2.2.2.2.2.2.2.1, σ.2.2.2.2.2.2.2.2.2.2.2.2.2.2.2.2.2.2.2.2.2.2.2.2.2.2.2.2.2.2.2.2.2.2.2.2.2.2.2.2.2.2.2.2.1, σ.2.2.2.2.2.2.2.2.2.2.2.2.2.2.2.2.2.2.2.2.2.2.2.2.2.2.2.2.2.2.2.2.2.2.2.2.2.2.2.2.2.2.2.2.2.1, σ.2.2.2.2.2.2.2.2.2.2.2.2.2.2.2.2.2.2.2.2.2.2.2.2.2.2.2.2.2.2.2.2.2.2.2.2.2.2.2.2.2.2.2.2.2.2.1, σ.2.2.2.2.2.2.2.2.2.2.2.2.2.2.2.2.2.2.2.2.2.2.2.2.2.2.2.2.2.2.2.2.2.2.2.2.2.2.2.2.2.2.2.2.2.2.2.1, σ.2.2.2.2.2.2.2.2.2.2.2.2.2.2.2.2.2.2.2.2.2.2.2.2.2.2.2.2.2.2.2.2.2.2.2.2.2.2.2.2.2.2.2.2.2.2.2.2.1, σ.2.2.2.2.2.2.2.2.2.2.2.2.2.2.2.2.2.2.2.2.2.2.2.2.2.2.2.2.2.2.2.2.2.2.2.2.2.2.2.2.2.2.2.2.2.2.2.2.2.1, σ.2.2.2.2.2.2.2.2.2.2.2.2.2.2.2.2.2.2.2.2.2.2.2.2.2.2.2.2.2.2.2.2.2.2.2.2.2.2.2.2.2.2.2.2.2.2.2.2.2.2.1, σ.2.2.2.2.2.2.2.2.2.2.2.2.2.2.2.2.2.2.2.2.2.2.2.2.2.2.2.2.2.2.2.2.2.2.2.2.2.2.2.2.2.2.2.2.2.2.2.2.2.2.2)))
def sc_number (F : Nat) (σ : SC) (a1 : Int32) (a2 : Int32) : Option (Int32 × SC) := bd (m_SpeciesSolver_number  σ.2.2.2.1 σ.2.2.2.2.2.2.2.2.1 a1 a2) (fun r => some (r.1, (σ.1, σ.2.1, σ.2.2.1, r.2.1, σ.2.2.2.2.1, σ.2.2.2.2.2.1, σ.2.2.2.2.2.2.1, σ.2.2.2.2.2.2.2.1, r.2.2, σ.2.2.2.2.2.2.2.2.2.1, σ.2.2.2.2.2.2.2.2.2.2.1, σ.2.2.2.2.2.2.2.2.2.2.2.1, σ.2.2.2.2.2.2.2.2.2.2.2.2.1, σ.2.2.2.2.2.2.2.2.2.2.2.2.2.1, σ.2.2.2.2.2.2.2.2.2.2.2.2.2.2.1, σ.2.2.2.2.2.2.2.2.2.2.2.2.2.2.2.1, σ.2.2.2.2.2.2.2.2.2.2.2.2.2.2.2.2.1, σ.2.2.2.2.2.2.2.2.2.2.2.2.2.2.2.2.2.1, σ.2.2.2.2.2.2.2.2.2.2.2.2.2.2.2.2.2.2.1, σ.2.2.2.2.2.2.2.2.2.2.2.2.2.2.2.2.2.2.2.1, σ.2.2.2.2.2.2.2.2.2.2.2.2.2.2.2.2.2.2.2.2.1, σ.2.2.2.2.2.2.2.2.2.2.2.2.2.2.2.2.2.2.2.2.2.1, σ.2.2.2.2.2.2.2.2.2.2.2.2.2.2.2.2.2.2.2.2.2.2.1, σ.2.2.2.2.2.2.2.2.2.2.2.2.2.2.2.2.2.2.2.2.2.2.2.1, σ.2.2.2.2.2.2.2.2.2.2.2.2.2.2.2.2.2.2.2.2.2.2.2.2.1, σ.2.2.2.2.2.2.2.2.2.2.2.2.2.2.2.2.2.2.2.2.2.2.2.2.2.1, σ.2.2.2.2.2.2.2.2.2.2.2.2.2.2.2.2.2.2.2.2.2.2.2.2.2.2.1, σ.2.2.2.2.2.2.2.2.2.2.2.2.2.2.2.2.2.2.2.2.2.2.2.2.2.2.2.1, σ.2.2.2.2.2.2.2.2.2.2.2.2.2.2.2.2.2.2.2.2.2.2.2.2.2.2.2.2.1, σ.2.2.2.2.2.2.2.2.2.2.2.2.2.2.2.2.2.2.2.2.2.2.2.2.2.2.2.2.2.1, σ.2.2.2.2.2.2.2.2.2.2.2.2.2.2.2.2.2.2.2.2.2.2.2.2.2.2.2.2.2.2.1, σ.2.2.2.2.2.2.2.2.2.2.2.2.2.2.2.2.2.2.2.2.2.2.2.2.2.2.2.2.2.2.2.1, σ.2.2.2.2.2.2.2.2.2.2.2.2.2.2.2.2.2.2.2.2.2.2.2.2.2.2.2.2.2.2.2.2.1, σ.2.2.2.2.2.2.2.2.2.2.2.2.2.2.2.2.2.2.2.2.2.2.2.2.2.2.2.2.2.2.2.2.2.1, σ.2.2.2.2.2.2.2.2.2.2.2.2.2.2.2.2.2.2.2.2.2.2.2.2.2.2.2.2.2.2.2.2.2.2.1, σ.2.2.2.2.2.2.2.2.2.2.2.2.2.2.2.2.2.2.2.2.2.2.2.2.2.2.2.2.2.2.2.2.2.2.2.1, σ.2.2.2.2.2.2.2.2.2.2.2.2.2.2.2.2.2.2.2.2.2.2.2.2.2.2.2.2.2.2.2.2.2.2.2.2.1, σ.2.2.2.2.2.2.2.2.2.2.2.2.2.2.2.2.2.2.2.2.2.2.2.2.2.2.2.2.2.2.2.2.2.2.2.2.2.1, σ.2.2.2.2.2.2.2.2.2.2.2.2.2.2.2.2.2.2.2.2.2.2.2.2.2.2.2.2.2.2.2.2.2.2.2.2.2.2.1, σ.2.2.2.2.2.2.2.2.2.2.2.2.2.2.2.2.2.2.2.2.2.2.2.2.2.2.2.2.2.2.2.2.2.2.2.2.2.2.2.1, σ.2.2.2.2.2.2.2.2.2.2.2.2.2.2.2.2.2.2.2.2.2.2.2.2.2.2.2.2.2.2.2.2.2.2.2.2.2.2.2.2.1, σ.2.2.2.2.2.2.2.2.2.2.2.2.2.2.2.2.2.2.2.2.2.2.2.2.2.2.2.2.2.2.2.2.2.2.2.2.2.2.2.2.2.1, σ.2.2.2.2.2.2.2.2.2.2.2.2.2.2.2.2.2.2.2.2.2.2.2.2.2.2.2.2.2.2.2.2.2.2.2.2.2.2.2.2.2.2.1, σ.2.2.2.2.2.2.2.2.2.2.2.2.2.2.2.2.2.2.2.2.2.2.2.2.2.2.2.2.2.2.2.2.2.2.2.2.2.2.2.2.2.2.2.1, σ.2.2.2.2.2.2.2.2.2.2.2.2.2.2.2.2.2.2.2.2.2.2.2.2.2.2.2.2.2.2.2.2.2.2.2.2.2.2.2.2.2.2.2.2.1, σ.2.2.2.2.2.2.2.2.2.2.2.2.2.2.2.2.2.2.2.2.2.2.2.2.2.2.2.2.2.2.2.2.2.2.2.2.2.2.2.2.2.2.2.2.2.1, σ.2.2.2.2.2.2.2.2.2.2.2.2.2.2.2.2.2.2.2.2.2.2.2.2.2.2.2.2.2.2.2.2.2.2.2.2.2.2.2.2.2.2.2.2.2.2.1, σ.2.2.2.2.2.2.2.2.2.2.2.2.2.2.2.2.2.2.2.2.2.2.2.2.2.2.2.2.2.2.2.2.2.2.2.2.2.2.2.2.2.2.2.2.2.2.2.1, σ.2.2.2.2.2.2.2.2.2.2.2.2.2.2.2.2.2.2.2.2.2.2.2.2.2.2.2.2.2.2.2.2.2.2.2.2.2.2.2.2.2.2.2.2.2.2.2.2.1, σ.2.2.2.2.2.2.2.2.2.2.2.2.2.2.2.2.2.2.2.2.2.2.2.2.2.2.2.2.2.2.2.2.2.2.2.2.2.2.2.2.2.2.2.2.2.2.2.2.2.1, σ.2.2.2.2.2.2.2.2.2.2.2.2.2.2.2.2.2.2.2.2.2.2.2.2.2.2.2.2.2.2.2.2.2.2.2.2.2.2.2.2.2.2.2.2.2.2.2.2.2.2.1, σ.2.2.2.2.2.2.2.2.2.2.2.2.2.2.2.2.2.2.2.2.2.2.2.2.2.2.2.2.2.2.2.2.2.2.2.2.2.2.2.2.2.2.2.2.2.2.2.2.2.2.2)))
def sc_setting (F : Nat) (σ : SC) (a1 : Int32) : Option (Int32 × SC) := bd (m_SpeciesSolver_setting  σ.2.2.2.2.2.2.2.2.1 a1) (fun r => some (r, σ))
def sc_choice (F : Nat) (σ : SC)  : Option (Int32 × SC) := bd (m_SpeciesSolver_choice F σ.2.2.2.2.2.2.2.2.1 ) (fun r => some (r, σ))
def sc_solve (F : Nat) (σ : SC)  : Option (Int32 × SC) := bd (m_SpeciesSolver_solve F σ.2.2.2.2.1 σ.2.2.2.2.2.1 σ.2.2.2.2.2.2.1 σ.2.2.2.2.2.2.2.1 σ.2.2.2.2.2.2.2.2.1 σ.2.2.2.2.2.2.2.2.2.1 σ.2.2.2.2.2.2.2.2.2.2.1 σ.1 σ.2.1 σ.2.2.1 σ.2.2.2.1 σ.2.2.2.2.2.2.2.2.2.2.2.2.2.2.2.2.2.1 σ.2.2.2.2.2.2.2.2.2.2.2.2.2.2.2.2.2.2.1 σ.2.2.2.2.2.2.2.2.2.2.2.2.2.2.2.2.2.2.2.1 σ.2.2.2.2.2.2.2.2.2.2.2.2.2.2.2.2.2.2.2.2.1 σ.2.2.2.2.2.2.2.2.2.2.2.2.2.2.2.2.2.2.2.2.2.1 σ.2.2.2.2.2.2.2.2.2.2.2.2.2.2.2.2.2.2.2.2.2.2.1 σ.2.2.2.2.2.2.2.2.2.2.2.2.2.2.2.2.2.2.2.2.2.2.2.1 σ.2.2.2.2.2.2.2.2.2.2.2.2.2.2.2.2.2.2.2.2.2.2.2.2.1 σ.2.2.2.2.2.2.2.2.2.2.2.2.2.2.2.2.2.2.2.2.2.2.2.2.2.1 σ.2.2.2.2.2.2.2.2.2.2.2.2.2.2.2.2.2.2.2.2.2.2.2.2.2.2.1 σ.2.2.2.2.2.2.2.2.2.2.2.2.2.2.2.2.2.2.2.2.2.2.2.2.2.2.2.1 σ.2.2.2.2.2.2.2.2.2.2.2.2.2.2.2.2.2.2.2.2.2.2.2.2.2.2.2.2.1 σ.2.2.2.2.2.2.2.2.2.2.2.2.2.2.2.2.2.2.2.2.2.2.2.2.2.2.2.2.2.1 σ.2.2.2.2.2.2.2.2.2.2.2.2.2.2.2.2.2.2.2.2.2.2.2.2.2.2.2.2.2.2.1 σ.2.2.2.2.2.2.2.2.2.2.2.2.2.2.2.2.2.2.2.2.2.2.2.2.2.2.2.2.2.2.2.1 σ.2.2.2.2.2.2.2.2.2.2.2.2.2.2.2.2.2.2.2.2.2.2.2.2.2.2.2.2.2.2.2.2.1 σ.2.2.2.2.2.2.2.2.2.2.2.2.2.2.2.2.2.2.2.2.2.2.2.2.2.2.2.2.2.2.2.2.2.1 σ.2.2.2.2.2.2.2.2.2.2.2.2.2.2.2.2.2.2.2.2.2.2.2.2.2.2.2.2.2.2.2.2.2.2.1 σ.2.2.2.2.2.2.2.2.2.2.2.2.2.2.2.2.2.2.2.2.2.2.2.2.2.2.2.2.2.2.2.2.2.2.2.1 σ.2.2.2.2.2.2.2.2.2.2.2.2.2.2.2.2.2.2.2.2.2.2.2.2.2.2.2.2.2.2.2.2.2.2.2.2.1 σ.2.2.2.2.2.2.2.2.2.2.2.2.2.2.2.2.2.2.2.2.2.2.2.2.2.2.2.2.2.2.2.2.2.2.2.2.2.1 σ.2.2.2.2.2.2.2.2.2.2.2.2.2.2.2.2.2.2.2.2.2.2.2.2.2.2.2.2.2.2.2.2.2.2.2.2.2.2.1 σ.2.2.2.2.2.2.2.2.2.2.2.2.2.2.2.2.2.2.2.2.2.2.2.2.2.2.2.2.2.2.2.2.2.2.2.2.2.2.2.1 σ.2.2.2.2.2.2.2.2.2.2.2.2.2.2.2.2.2.2.2.2.2.2.2.2.2.2.2.2.2.2.2.2.2.2.2.2.2.2.2.2.1 σ.2.2.2.2.2.2.2.2.2.2.2.2.2.2.2.2.2.2.2.2.2.2.2.2.2.2.2.2.2.2.2.2.2.2.2.2.2.2.2.2.2.1 σ.2.2.2.2.2.2.2.2.2.2.2.2.2.2.2.2.2.2.2.2.2.2.2.2.2.2.2.2.2.2.2.2.2.2.2.2.2.2.2.2.2.2.1 σ.2.2.2.2.2.2.2.2.2.2.2.2.2.2.2.2.2.2.2.2.2.2.2.2.2.2.2.2.2.2.2.2.2.2.2.2.2.2.2.2.2.2.2.1 σ.2.2.2.2.2.2.2.2.2.2.2.2.2.2.2.2.2.2.2.2.2.2.2.2.2.2.2.2.2.2.2.2.2.2.2.2.2.2.2.2.2.2.2.2.1 σ.2.2.2.2.2.2.2.2.2.2.2.2.2.2.2.2.2.2.2.2.2.2.2.2.2.2.2.2.2.2.2.2.2.2.2.2.2.2.2.2.2.2.2.2.2.1 σ.2.2.2.2.2.2.2.2.2.2.2.2.2.2.2.2.2.2.2.2.2.2.2.2.2.2.2.2.2.2.2.2.2.2.2.2.2.2.2.2.2.2.2.2.2.2.2.2.2.2.1 σ.2.2.2.2.2.2.2.2.2.2.2.2.2.2.2.2.2.2.2.2.2.2.2.2.2.2.2.2.2.2.2.2.2.2.2.2.2.2.2.2.2.2.2.2.2.2.2.2.2.2.2 ) (fun r => some (r.1, (r.2.1, r.2.2.1, r.2.2.2.1, r.2.2.2.2.1, σ.2.2.2.2.1, σ.2.2.2.2.2.1, σ.2.2.2.2.2.2.1, σ.2.2.2.2.2.2.2.1, σ.2.2.2.2.2.2.2.2.1, σ.2.2.2.2.2.2.2.2.2.1, σ.2.2.2.2.2.2.2.2.2.2.1, σ.2.2.2.2.2.2.2.2.2.2.2.1, σ.2.2.2.2.2.2.2.2.2.2.2.2.1, σ.2.2.2.2.2.2.2.2.2.2.2.2.2.1, σ.2.2.2.2.2.2.2.2.2.2.2.2.2.2.1, σ.2.2.2.2.2.2.2.2.2.2.2.2.2.2.2.1, σ.2.2.2.2.2.2.2.2.2.2.2.2.2.2.2.2.1, r.2.2.2.2.2.1, r.2.2.2.2.2.2.1, r.2.2.2.2.2.2.2.1, r.2.2.2.2.2.2.2.2.1, r.2.2.2.2.2.2.2.2.2.1, r.2.2.2.2.2.2.2.2.2.2.1, r.2.2.2.2.2.2.2.2.2.2.2.1, r.2.2.2.2.2.2.2.2.2.2.2.2.1, r.2.2.2.2.2.2.2.2.2.2.2.2.2.1, r.2.2.2.2.2.2.2.2.2.2.2.2.2.2.1, r.2.2.2.2.2.2.2.2.2.2.2.2.2.2.2.1, r.2.2.2.2.2.2.2.2.2.2.2.2.2.2.2.2.1, r.2.2.2.2.2.2.2.2.2.2.2.2.2.2.2.2.2.1, r.2.2.2.2.2.2.2.2.2.2.2.2.2.2.2.2.2.2.1, r.2.2.2.2.2.2.2.2.2.2.2.2.2.2.2.2.2.2.2.1, r.2.2.2.2.2.2.2.2.2.2.2.2.2.2.2.2.2.2.2.2.1, r.2.2.2.2.2.2.2.2.2.2.2.2.2.2.2.2.2.2.2.2.2.1, r.2.2.2.2.2.2.2.2.2.2.2.2.2.2.2.2.2.2.2.2.2.2.1, r.2.2.2.2.2.2.2.2.2.2.2.2.2.2.2.2.2.2.2.2.2.2.2.1, r.2.2.2.2.2.2.2.2.2.2.2.2.2.2.2.2.2.2.2.2.2.2.2.2.1, r.2.2.2.2.2.2.2.2.2.2.2.2.2.2.2.2.2.2.2.2.2.2.2.2.2.1, r.2.2.2.2.2.2.2.2.2.2.2.2.2.2.2.2.2.2.2.2.2.2.2.2.2.2.1, r.2.2.2.2.2.2.2.2.2.2.2.2.2.2.2.2.2.2.2.2.2.2.2.2.2.2.2.1, r.2.2.2.2.2.2.2.2.2.2.2.2.2.2.2.2.2.2.2.2.2.2.2.2.2.2.2.2.1, r.2.2.2.2.2.2.2.2.2.2.2.2.2.2.2.2.2.2.2.2.2.2.2.2.2.2.2.2.2.1, r.2.2.2.2.2.2.2.2.2.2.2.2.2.2.2.2.2.2.2.2.2.2.2.2.2.2.2.2.2.2.1, r.2.2.2.2.2.2.2.2.2.2.2.2.2.2.2.2.2.2.2.2.2.2.2.2.2.2.2.2.2.2.2.1, r.2.2.2.2.2.2.2.2.2.2.2.2.2.2.2.2.2.2.2.2.2.2.2.2.2.2.2.2.2.2.2.2.1, r.2.2.2.2.2.2.2.2.2.2.2.2.2.2.2.2.2.2.2.2.2.2.2.2.2.2.2.2.2.2.2.2.2.1, σ.2.2.2.2.2.2.2.2.2.2.2.2.2.2.2.2.2.2.2.2.2.2.2.2.2.2.2.2.2.2.2.2.2.2.2.2.2.2.2.2.2.2.2.2.2.2.1, σ.2.2.2.2.2.2.2.2.2.2.2.2.2.2.2.2.2.2.2.2.2.2.2.2.2.2.2.2.2.2.2.2.2.2.2.2.2.2.2.2.2.2.2.2.2.2.2.1, σ.2.2.2.2.2.2.2.2.2.2.2.2.2.2.2.2.2.2.2.2.2.2.2.2.2.2.2.2.2.2.2.2.2.2.2.2.2.2.2.2.2.2.2.2.2.2.2.2.1, σ.2.2.2.2.2.2.2.2.2.2.2.2.2.2.2.2.2.2.2.2.2.2.2.2.2.2.2.2.2.2.2.2.2.2.2.2.2.2.2.2.2.2.2.2.2.2.2.2.2.1, r.2.2.2.2.2.2.2.2.2.2.2.2.2.2.2.2.2.2.2.2.2.2.2.2.2.2.2.2.2.2.2.2.2.2.1, r.2.2.2.2.2.2.2.2.2.2.2.2.2.2.2.2.2.2.2.2.2.2.2.2.2.2.2.2.2.2.2.2.2.2.2)))
def sc_found (F : Nat) (σ : SC) (a1 : Int32) : Option (Int32 × SC) := bd (m_SpeciesSolver_found  σ.2.2.2.2.2.2.2.2.2.2.2.2.2.2.2.2.2.2.2.2.2.2.2.2.2.2.2.2.2.2.2.2.2.2.2.2.2.2.2.2.2.2.2.2.2.2.2.2.2.2.1 σ.2.2.2.2.2.2.2.2.2.2.2.2.2.2.2.2.2.2.2.2.2.2.2.2.2.2.2.2.2.2.2.2.2.2.2.2.2.2.2.2.2.2.2.2.2.2.2.2.2.2.2 a1) (fun r => some (r, σ))
def sc_cost (F : Nat) (σ : SC)  : Option (Int32 × SC) := bd (m_SpeciesSolver_cost  σ.1 ) (fun r => some (r, σ))
def sc_count (F : Nat) (σ : SC)  : Option (Int64 × SC) := bd (m_SpeciesSolver_count F σ.2.2.2.2.1 σ.2.2.2.2.2.1 σ.2.2.2.2.2.2.1 σ.2.2.2.2.2.2.2.1 σ.2.2.2.2.2.2.2.2.1 σ.2.2.2.2.2.2.2.2.2.1 σ.2.2.2.2.2.2.2.2.2.2.1 σ.2.2.2.1 σ.2.2.2.2.2.2.2.2.2.2.2.2.2.2.2.2.2.1 σ.2.2.2.2.2.2.2.2.2.2.2.2.2.2.2.2.2.2.1 σ.2.2.2.2.2.2.2.2.2.2.2.2.2.2.2.2.2.2.2.1 σ.2.2.2.2.2.2.2.2.2.2.2.2.2.2.2.2.2.2.2.2.1 σ.2.2.2.2.2.2.2.2.2.2.2.2.2.2.2.2.2.2.2.2.2.1 σ.2.2.2.2.2.2.2.2.2.2.2.2.2.2.2.2.2.2.2.2.2.2.1 σ.2.2.2.2.2.2.2.2.2.2.2.2.2.2.2.2.2.2.2.2.2.2.2.1 σ.2.2.2.2.2.2.2.2.2.2.2.2.2.2.2.2.2.2.2.2.2.2.2.2.1 σ.2.2.2.2.2.2.2.2.2.2.2.2.2.2.2.2.2.2.2.2.2.2.2.2.2.1 σ.2.2.2.2.2.2.2.2.2.2.2.2.2.2.2.2.2.2.2.2.2.2.2.2.2.2.1 σ.2.2.2.2.2.2.2.2.2.2.2.2.2.2.2.2.2.2.2.2.2.2.2.2.2.2.2.1 σ.2.2.2.2.2.2.2.2.2.2.2.2.2.2.2.2.2.2.2.2.2.2.2.2.2.2.2.2.1 σ.2.2.2.2.2.2.2.2.2.2.2.2.2.2.2.2.2.2.2.2.2.2.2.2.2.2.2.2.2.1 σ.2.2.2.2.2.2.2.2.2.2.2.2.2.2.2.2.2.2.2.2.2.2.2.2.2.2.2.2.2.2.1 σ.2.2.2.2.2.2.2.2.2.2.2.2.2.2.2.2.2.2.2.2.2.2.2.2.2.2.2.2.2.2.2.1 σ.2.2.2.2.2.2.2.2.2.2.2.2.2.2.2.2.2.2.2.2.2.2.2.2.2.2.2.2.2.2.2.2.1 σ.2.2.2.2.2.2.2.2.2.2.2.2.2.2.2.2.2.2.2.2.2.2.2.2.2.2.2.2.2.2.2.2.2.1 σ.2.2.2.2.2.2.2.2.2.2.2.2.2.2.2.2.2.2.2.2.2.2.2.2.2.2.2.2.2.2.2.2.2.2.1 σ.2.2.2.2.2.2.2.2.2.2.2.2.2.2.2.2.2.2.2.2.2.2.2.2.2.2.2.2.2.2.2.2.2.2.2.1 σ.2.2.2.2.2.2.2.2.2.2.2.2.2.2.2.2.2.2.2.2.2.2.2.2.2.2.2.2.2.2.2.2.2.2.2.2.1 σ.2.2.2.2.2.2.2.2.2.2.2.2.2.2.2.2.2.2.2.2.2.2.2.2.2.2.2.2.2.2.2.2.2.2.2.2.2.1 σ.2.2.2.2.2.2.2.2.2.2.2.2.2.2.2.2.2.2.2.2.2.2.2.2.2.2.2.2.2.2.2.2.2.2.2.2.2.2.1 σ.2.2.2.2.2.2.2.2.2.2.2.2.2.2.2.2.2.2.2.2.2.2.2.2.2.2.2.2.2.2.2.2.2.2.2.2.2.2.2.1 σ.2.2.2.2.2.2.2.2.2.2.2.2.2.2.2.2.2.2.2.2.2.2.2.2.2.2.2.2.2.2.2.2.2.2.2.2.2.2.2.2.1 σ.2.2.2.2.2.2.2.2.2.2.2.2.2.2.2.2.2.2.2.2.2.2.2.2.2.2.2.2.2.2.2.2.2.2.2.2.2.2.2.2.2.1 σ.2.2.2.2.2.2.2.2.2.2.2.2.2.2.2.2.2.2.2.2.2.2.2.2.2.2.2.2.2.2.2.2.2.2.2.2.2.2.2.2.2.2.1 σ.2.2.2.2.2.2.2.2.2.2.2.2.2.2.2.2.2.2.2.2.2.2.2.2.2.2.2.2.2.2.2.2.2.2.2.2.2.2.2.2.2.2.2.1 σ.2.2.2.2.2.2.2.2.2.2.2.2.2.2.2.2.2.2.2.2.2.2.2.2.2.2.2.2.2.2.2.2.2.2.2.2.2.2.2.2.2.2.2.2.1 σ.2.2.2.2.2.2.2.2.2.2.2.2.2.2.2.2.2.2.2.2.2.2.2.2.2.2.2.2.2.2.2.2.2.2.2.2.2.2.2.2.2.2.2.2.2.1 ) (fun r => some (r.1, (σ.1, σ.2.1, σ.2.2.1, r.2.1, σ.2.2.2.2.1, σ.2.2.2.2.2.1, σ.2.2.2.2.2.2.1, σ.2.2.2.2.2.2.2.1, σ.2.2.2.2.2.2.2.2.1, σ.2.2.2.2.2.2.2.2.2.1, σ.2.2.2.2.2.2.2.2.2.2.1, σ.2.2.2.2.2.2.2.2.2.2.2.1, σ.2.2.2.2.2.2.2.2.2.2.2.2.1, σ.2.2.2.2.2.2.2.2.2.2.2.2.2.1, σ.2.2.2.2.2.2.2.2.2.2.2.2.2.2.1, σ.2.2.2.2.2.2.2.2.2.2.2.2.2.2.2.1, σ.2.2.2.2.2.2.2.2.2.2.2.2.2.2.2.2.1, r.2.2.1, r.2.2.2.1, r.2.2.2.2.1, r.2.2.2.2.2.1, r.2.2.2.2.2.2.1, r.2.2.2.2.2.2.2.1, r.2.2.2.2.2.2.2.2.1, r.2.2.2.2.2.2.2.2.2.1, r.2.2.2.2.2.2.2.2.2.2.1, r.2.2.2.2.2.2.2.2.2.2.2.1, r.2.2.2.2.2.2.2.2.2.2.2.2.1, r.2.2.2.2.2.2.2.2.2.2.2.2.2.1, r.2.2.2.2.2.2.2.2.2.2.2.2.2.2.1, r.2.2.2.2.2.2.2.2.2.2.2.2.2.2.2.1, r.2.2.2.2.2.2.2.2.2.2.2.2.2.2.2.2.1, r.2.2.2.2.2.2.2.2.2.2.2.2.2.2.2.2.2.1, r.2.2.2.2.2.2.2.2.2.2.2.2.2.2.2.2.2.2.1, r.2.2.2.2.2.2.2.2.2.2.2.2.2.2.2.2.2.2.2.1, r.2.2.2.2.2.2.2.2.2.2.2.2.2.2.2.2.2.2.2.2.1, r.2.2.2.2.2.2.2.2.2.2.2.2.2.2.2.2.2.2.2.2.2.1, r.2.2.2.2.2.2.2.2.2.2.2.2.2.2.2.2.2.2.2.2.2.2.1, r.2.2.2.2.2.2.2.2.2.2.2.2.2.2.2.2.2.2.2.2.2.2.2.1, r.2.2.2.2.2.2.2.2.2.2.2.2.2.2.2.2.2.2.2.2.2.2.2.2.1, r.2.2.2.2.2.2.2.2.2.2.2.2.2.2.2.2.2.2.2.2.2.2.2.2.2.1, r.2.2.2.2.2.2.2.2.2.2.2.2.2.2.2.2.2.2.2.2.2.2.2.2.2.2.1, r.2.2.2.2.2.2.2.2.2.2.2.2.2.2.2.2.2.2.2.2.2.2.2.2.2.2.2.1, r.2.2.2.2.2.2.2.2.2.2.2.2.2.2.2.2.2.2.2.2.2.2.2.2.2.2.2.2.1, r.2.2.2.2.2.2.2.2.2.2.2.2.2.2.2.2.2.2.2.2.2.2.2.2.2.2.2.2.2.1, r.2.2.2.2.2.2.2.2.2.2.2.2.2.2.2.2.2.2.2.2.2.2.2.2.2.2.2.2.2.2, σ.2.2.2.2.2.2.2.2.2.2.2.2.2.2.2.2.2.2.2.2.2.2.2.2.2.2.2.2.2.2.2.2.2.2.2.2.2.2.2.2.2.2.2.2.2.2.1, σ.2.2.2.2.2.2.2.2.2.2.2.2.2.2.2.2.2.2.2.2.2.2.2.2.2.2.2.2.2.2.2.2.2.2.2.2.2.2.2.2.2.2.2.2.2.2.2.1, σ.2.2.2.2.2.2.2.2.2.2.2.2.2.2.2.2.2.2.2.2.2.2.2.2.2.2.2.2.2.2.2.2.2.2.2.2.2.2.2.2.2.2.2.2.2.2.2.2.1, σ.2.2.2.2.2.2.2.2.2.2.2.2.2.2.2.2.2.2.2.2.2.2.2.2.2.2.2.2.2.2.2.2.2.2.2.2.2.2.2.2.2.2.2.2.2.2.2.2.2.1, σ.2.2.2.2.2.2.2.2.2.2.2.2.2.2.2.2.2.2.2.2.2.2.2.2.2.2.2.2.2.2.2.2.2.2.2.2.2.2.2.2.2.2.2.2.2.2.2.2.2.2.1, σ.2.2.2.2.2.2.2.2.2.2.2.2.2.2.2.2.2.2.2.2.2.2.2.2.2.2.2.2.2.2.2.2.2.2.2.2.2.2.2.2.2.2.2.2.2.2.2.2.2.2.2)))
def sc_ties (F : Nat) (σ : SC)  : Option (Int64 × SC) := bd (m_SpeciesSolver_ties F σ.2.2.2.2.1 σ.2.2.2.2.2.1 σ.2.2.2.2.2.2.1 σ.2.2.2.2.2.2.2.1 σ.2.2.2.2.2.2.2.2.1 σ.2.2.2.2.2.2.2.2.2.1 σ.2.2.2.2.2.2.2.2.2.2.1 σ.2.2.2.1 σ.2.2.2.2.2.2.2.2.2.2.2.2.2.2.2.2.2.1 σ.2.2.2.2.2.2.2.2.2.2.2.2.2.2.2.2.2.2.1 σ.2.2.2.2.2.2.2.2.2.2.2.2.2.2.2.2.2.2.2.1 σ.2.2.2.2.2.2.2.2.2.2.2.2.2.2.2.2.2.2.2.2.1 σ.2.2.2.2.2.2.2.2.2.2.2.2.2.2.2.2.2.2.2.2.2.1 σ.2.2.2.2.2.2.2.2.2.2.2.2.2.2.2.2.2.2.2.2.2.2.1 σ.2.2.2.2.2.2.2.2.2.2.2.2.2.2.2.2.2.2.2.2.2.2.2.1 σ.2.2.2.2.2.2.2.2.2.2.2.2.2.2.2.2.2.2.2.2.2.2.2.2.1 σ.2.2.2.2.2.2.2.2.2.2.2.2.2.2.2.2.2.2.2.2.2.2.2.2.2.1 σ.2.2.2.2.2.2.2.2.2.2.2.2.2.2.2.2.2.2.2.2.2.2.2.2.2.2.1 σ.2.2.2.2.2.2.2.2.2.2.2.2.2.2.2.2.2.2.2.2.2.2.2.2.2.2.2.1 σ.2.2.2.2.2.2.2.2.2.2.2.2.2.2.2.2.2.2.2.2.2.2.2.2.2.2.2.2.1 σ.2.2.2.2.2.2.2.2.2.2.2.2.2.2.2.2.2.2.2.2.2.2.2.2.2.2.2.2.2.1 σ.2.2.2.2.2.2.2.2.2.2.2.2.2.2.2.2.2.2.2.2.2.2.2.2.2.2.2.2.2.2.1 σ.2.2.2.2.2.2.2.2.2.2.2.2.2.2.2.2.2.2.2.2.2.2.2.2.2.2.2.2.2.2.2.1 σ.2.2.2.2.2.2.2.2.2.2.2.2.2.2.2.2.2.2.2.2.2.2.2.2.2.2.2.2.2.2.2.2.1 σ.2.2.2.2.2.2.2.2.2.2.2.2.2.2.2.2.2.2.2.2.2.2.2.2.2.2.2.2.2.2.2.2.2.1 σ.2.2.2.2.2.2.2.2.2.2.2.2.2.2.2.2.2.2.2.2.2.2.2.2.2.2.2.2.2.2.2.2.2.2.1 σ.2.2.2.2.2.2.2.2.2.2.2.2.2.2.2.2.2.2.2.2.2.2.2.2.2.2.2.2.2.2.2.2.2.2.2.1 σ.2.2.2.2.2.2.2.2.2.2.2.2.2.2.2.2.2.2.2.2.2.2.2.2.2.2.2.2.2.2.2.2.2.2.2.2.1 σ.2.2.2.2.2.2.2.2.2.2.2.2.2.2.2.2.2.2.2.2.2.2.2.2.2.2.2.2.2.2.2.2.2.2.2.2.2.1 σ.2.2.2.2.2.2.2.2.2.2.2.2.2.2.2.2.2.2.2.2.2.2.2.2.2.2.2.2.2.2.2.2.2.2.2.2.2.2.1 σ.2.2.2.2.2.2.2.2.2.2.2.2.2.2.2.2.2.2.2.2.2.2.2.2.2.2.2.2.2.2.2.2.2.2.2.2.2.2.2.1 σ.2.2.2.2.2.2.2.2.2.2.2.2.2.2.2.2.2.2.2.2.2.2.2.2.2.2.2.2.2.2.2.2.2.2.2.2.2.2.2.2.1 σ.2.2.2.2.2.2.2.2.2.2.2.2.2.2.2.2.2.2.2.2.2.2.2.2.2.2.2.2.2.2.2.2.2.2.2.2.2.2.2.2.2.1 σ.2.2.2.2.2.2.2.2.2.2.2.2.2.2.2.2.2.2.2.2.2.2.2.2.2.2.2.2.2.2.2.2.2.2.2.2.2.2.2.2.2.2.1 σ.2.2.2.2.2.2.2.2.2.2.2.2.2.2.2.2.2.2.2.2.2.2.2.2.2.2.2.2.2.2.2.2.2.2.2.2.2.2.2.2.2.2.2.1 σ.2.2.2.2.2.2.2.2.2.2.2.2.2.2.2.2.2.2.2.2.2.2.2.2.2.2.2.2.2.2.2.2.2.2.2.2.2.2.2.2.2.2.2.2.1 σ.2.2.2.2.2.2.2.2.2.2.2.2.2.2.2.2.2.2.2.2.2.2.2.2.2.2.2.2.2.2.2.2.2.2.2.2.2.2.2.2.2.2.2.2.2.1 ) (fun r => some (r.1, (σ.1, σ.2.1, σ.2.2.1, r.2.1, σ.2.2.2.2.1, σ.2.2.2.2.2.1, σ.2.2.2.2.2.2.1, σ.2.2.2.2.2.2.2.1, σ.2.2.2.2.2.2.2.2.1, σ.2.2.2.2.2.2.2.2.2.1, σ.2.2.2.2.2.2.2.2.2.2.1, σ.2.2.2.2.2.2.2.2.2.2.2.1, σ.2.2.2.2.2.2.2.2.2.2.2.2.1, σ.2.2.2.2.2.2.2.2.2.2.2.2.2.1, σ.2.2.2.2.2.2.2.2.2.2.2.2.2.2.1, σ.2.2.2.2.2.2.2.2.2.2.2.2.2.2.2.1, σ.2.2.2.2.2.2.2.2.2.2.2.2.2.2.2.2.1, r.2.2.1, r.2.2.2.1, r.2.2.2.2.1, r.2.2.2.2.2.1, r.2.2.2.2.2.2.1, r.2.2.2.2.2.2.2.1, r.2.2.2.2.2.2.2.2.1, r.2.2.2.2.2.2.2.2.2.1, r.2.2.2.2.2.2.2.2.2.2.1, r.2.2.2.2.2.2.2.2.2.2.2.1, r.2.2.2.2.2.2.2.2.2.2.2.2.1, r.2.2.2.2.2.2.2.2.2.2.2.2.2.1, r.2.2.2.2.2.2.2.2.2.2.2.2.2.2.1, r.2.2.2.2.2.2.2.2.2.2.2.2.2.2.2.1, r.2.2.2.2.2.2.2.2.2.2.2.2.2.2.2.2.1, r.2.2.2.2.2.2.2.2.2.2.2.2.2.2.2.2.2.1, r.2.2.2.2.2.2.2.2.2.2.2.2.2.2.2.2.2.2.1, r.2.2.2.2.2.2.2.2.2.2.2.2.2.2.2.2.2.2.2.1, r.2.2.2.2.2.2.2.2.2.2.2.2.2.2.2.2.2.2.2.2.1, r.2.2.2.2.2.2.2.2.2.2.2.2.2.2.2.2.2.2.2.2.2.1, r.2.2.2.2.2.2.2.2.2.2.2.2.2.2.2.2.2.2.2.2.2.2.1, r.2.2.2.2.2.2.2.2.2.2.2.2.2.2.2.2.2.2.2.2.2.2.2.1, r.2.2.2.2.2.2.2.2.2.2.2.2.2.2.2.2.2.2.2.2.2.2.2.2.1, r.2.2.2.2.2.2.2.2.2.2.2.2.2.2.2.2.2.2.2.2.2.2.2.2.2.1, r.2.2.2.2.2.2.2.2.2.2.2.2.2.2.2.2.2.2.2.2.2.2.2.2.2.2.1, r.2.2.2.2.2.2.2.2.2.2.2.2.2.2.2.2.2.2.2.2.2.2.2.2.2.2.2.1, r.2.2.2.2.2.2.2.2.2.2.2.2.2.2.2.2.2.2.2.2.2.2.2.2.2.2.2.2.1, r.2.2.2.2.2.2.2.2.2.2.2.2.2.2.2.2.2.2.2.2.2.2.2.2.2.2.2.2.2.1, r.2.2.2.2.2.2.2.2.2.2.2.2.2.2.2.2.2.2.2.2.2.2.2.2.2.2.2.2.2.2, σ.2.2.2.2.2.2.2.2.2.2.2.2.2.2.2.2.2.2.2.2.2.2.2.2.2.2.2.2.2.2.2.2.2.2.2.2.2.2.2.2.2.2.2.2.2.2.1, σ.2.2.2.2.2.2.2.2.2.2.2.2.2.2.2.2.2.2.2.2.2.2.2.2.2.2.2.2.2.2.2.2.2.2.2.2.2.2.2.2.2.2.2.2.2.2.2.1, σ.2.2.2.2.2.2.2.2.2.2.2.2.2.2.2.2.2.2.2.2.2.2.2.2.2.2.2.2.2.2.2.2.2.2.2.2.2.2.2.2.2.2.2.2.2.2.2.2.1, σ.2.2.2.2.2.2.2.2.2.2.2.2.2.2.2.2.2.2.2.2.2.2.2.2.2.2.2.2.2.2.2.2.2.2.2.2.2.2.2.2.2.2.2.2.2.2.2.2.2.1, σ.2.2.2.2.2.2.2.2.2.2.2.2.2.2.2.2.2.2.2.2.2.2.2.2.2.2.2.2.2.2.2.2.2.2.2.2.2.2.2.2.2.2.2.2.2.2.2.2.2.2.1, σ.2.2.2.2.2.2.2.2.2.2.2.2.2.2.2.2.2.2.2.2.2.2.2.2.2.2.2.2.2.2.2.2.2.2.2.2.2.2.2.2.2.2.2.2.2.2.2.2.2.2.2)))
def sc_reach (F : Nat) (σ : SC)  : Option (Int32 × SC) := bd (m_SpeciesSolver_reach F σ.2.2.2.2.1 σ.2.2.2.2.2.1 σ.2.2.2.2.2.2.1 σ.2.2.2.2.2.2.2.1 σ.2.2.2.2.2.2.2.2.1 σ.2.2.2.2.2.2.2.2.2.1 σ.2.2.2.2.2.2.2.2.2.2.1 σ.2.2.2.2.2.2.2.2.2.2.2.2.2.2.2.2.2.1 σ.2.2.2.2.2.2.2.2.2.2.2.2.2.2.2.2.2.2.1 σ.2.2.2.2.2.2.2.2.2.2.2.2.2.2.2.2.2.2.2.1 σ.2.2.2.2.2.2.2.2.2.2.2.2.2.2.2.2.2.2.2.2.1 σ.2.2.2.2.2.2.2.2.2.2.2.2.2.2.2.2.2.2.2.2.2.1 σ.2.2.2.2.2.2.2.2.2.2.2.2.2.2.2.2.2.2.2.2.2.2.1 σ.2.2.2.2.2.2.2.2.2.2.2.2.2.2.2.2.2.2.2.2.2.2.2.1 σ.2.2.2.2.2.2.2.2.2.2.2.2.2.2.2.2.2.2.2.2.2.2.2.2.1 σ.2.2.2.2.2.2.2.2.2.2.2.2.2.2.2.2.2.2.2.2.2.2.2.2.2.1 σ.2.2.2.2.2.2.2.2.2.2.2.2.2.2.2.2.2.2.2.2.2.2.2.2.2.2.1 σ.2.2.2.2.2.2.2.2.2.2.2.2.2.2.2.2.2.2.2.2.2.2.2.2.2.2.2.1 σ.2.2.2.2.2.2.2.2.2.2.2.2.2.2.2.2.2.2.2.2.2.2.2.2.2.2.2.2.1 σ.2.2.2.2.2.2.2.2.2.2.2.2.2.2.2.2.2.2.2.2.2.2.2.2.2.2.2.2.2.1 σ.2.2.2.2.2.2.2.2.2.2.2.2.2.2.2.2.2.2.2.2.2.2.2.2.2.2.2.2.2.2.1 σ.2.2.2.2.2.2.2.2.2.2.2.2.2.2.2.2.2.2.2.2.2.2.2.2.2.2.2.2.2.2.2.1 σ.2.2.2.2.2.2.2.2.2.2.2.2.2.2.2.2.2.2.2.2.2.2.2.2.2.2.2.2.2.2.2.2.1 σ.2.2.2.2.2.2.2.2.2.2.2.2.2.2.2.2.2.2.2.2.2.2.2.2.2.2.2.2.2.2.2.2.2.2.2.2.1 σ.2.2.2.2.2.2.2.2.2.2.2.2.2.2.2.2.2.2.2.2.2.2.2.2.2.2.2.2.2.2.2.2.2.2.2.2.2.1 σ.2.2.2.2.2.2.2.2.2.2.2.2.2.2.2.2.2.2.2.2.2.2.2.2.2.2.2.2.2.2.2.2.2.2.2.2.2.2.2.2.1 ) (fun r => some (r.1, (σ.1, σ.2.1, σ.2.2.1, σ.2.2.2.1, σ.2.2.2.2.1, σ.2.2.2.2.2.1, σ.2.2.2.2.2.2.1, σ.2.2.2.2.2.2.2.1, σ.2.2.2.2.2.2.2.2.1, σ.2.2.2.2.2.2.2.2.2.1, σ.2.2.2.2.2.2.2.2.2.2.1, σ.2.2.2.2.2.2.2.2.2.2.2.1, σ.2.2.2.2.2.2.2.2.2.2.2.2.1, σ.2.2.2.2.2.2.2.2.2.2.2.2.2.1, σ.2.2.2.2.2.2.2.2.2.2.2.2.2.2.1, σ.2.2.2.2.2.2.2.2.2.2.2.2.2.2.2.1, σ.2.2.2.2.2.2.2.2.2.2.2.2.2.2.2.2.1, r.2.1, r.2.2.1, r.2.2.2.1, r.2.2.2.2.1, r.2.2.2.2.2.1, r.2.2.2.2.2.2.1, r.2.2.2.2.2.2.2.1, r.2.2.2.2.2.2.2.2.1, r.2.2.2.2.2.2.2.2.2.1, r.2.2.2.2.2.2.2.2.2.2.1, r.2.2.2.2.2.2.2.2.2.2.2.1, r.2.2.2.2.2.2.2.2.2.2.2.2.1, r.2.2.2.2.2.2.2.2.2.2.2.2.2.1, r.2.2.2.2.2.2.2.2.2.2.2.2.2.2.1, r.2.2.2.2.2.2.2.2.2.2.2.2.2.2.2.1, r.2.2.2.2.2.2.2.2.2.2.2.2.2.2.2.2.1, σ.2.2.2.2.2.2.2.2.2.2.2.2.2.2.2.2.2.2.2.2.2.2.2.2.2.2.2.2.2.2.2.2.2.1, σ.2.2.2.2.2.2.2.2.2.2.2.2.2.2.2.2.2.2.2.2.2.2.2.2.2.2.2.2.2.2.2.2.2.2.1, σ.2.2.2.2.2.2.2.2.2.2.2.2.2.2.2.2.2.2.2.2.2.2.2.2.2.2.2.2.2.2.2.2.2.2.2.1, r.2.2.2.2.2.2.2.2.2.2.2.2.2.2.2.2.2.1, r.2.2.2.2.2.2.2.2.2.2.2.2.2.2.2.2.2.2.1, σ.2.2.2.2.2.2.2.2.2.2.2.2.2.2.2.2.2.2.2.2.2.2.2.2.2.2.2.2.2.2.2.2.2.2.2.2.2.2.1, σ.2.2.2.2.2.2.2.2.2.2.2.2.2.2.2.2.2.2.2.2.2.2.2.2.2.2.2.2.2.2.2.2.2.2.2.2.2.2.2.1, r.2.2.2.2.2.2.2.2.2.2.2.2.2.2.2.2.2.2.2, σ.2.2.2.2.2.2.2.2.2.2.2.2.2.2.2.2.2.2.2.2.2.2.2.2.2.2.2.2.2.2.2.2.2.2.2.2.2.2.2.2.2.1, σ.2.2.2.2.2.2.2.2.2.2.2.2.2.2.2.2.2.2.2.2.2.2.2.2.2.2.2.2.2.2.2.2.2.2.2.2.2.2.2.2.2.2.1, σ.2.2.2.2.2.2.2.2.2.2.2.2.2.2.2.2.2.2.2.2.2.2.2.2.2.2.2.2.2.2.2.2.2.2.2.2.2.2.2.2.2.2.2.1, σ.2.2.2.2.2.2.2.2.2.2.2.2.2.2.2.2.2.2.2.2.2.2.2.2.2.2.2.2.2.2.2.2.2.2.2.2.2.2.2.2.2.2.2.2.1, σ.2.2.2.2.2.2.2.2.2.2.2.2.2.2.2.2.2.2.2.2.2.2.2.2.2.2.2.2.2.2.2.2.2.2.2.2.2.2.2.2.2.2.2.2.2.1, σ.2.2.2.2.2.2.2.2.2.2.2.2.2.2.2.2.2.2.2.2.2.2.2.2.2.2.2.2.2.2.2.2.2.2.2.2.2.2.2.2.2.2.2.2.2.2.1, σ.2.2.2.2.2.2.2.2.2.2.2.2.2.2.2.2.2.2.2.2.2.2.2.2.2.2.2.2.2.2.2.2.2.2.2.2.2.2.2.2.2.2.2.2.2.2.2.1, σ.2.2.2.2.2.2.2.2.2.2.2.2.2.2.2.2.2.2.2.2.2.2.2.2.2.2.2.2.2.2.2.2.2.2.2.2.2.2.2.2.2.2.2.2.2.2.2.2.1, σ.2.2.2.2.2.2.2.2.2.2.2.2.2.2.2.2.2.2.2.2.2.2.2.2.2.2.2.2.2.2.2.2.2.2.2.2.2.2.2.2.2.2.2.2.2.2.2.2.2.1, σ.2.2.2.2.2.2.2.2.2.2.2.2.2.2.2.2.2.2.2.2.2.2.2.2.2.2.2.2.2.2.2.2.2.2.2.2.2.2.2.2.2.2.2.2.2.2.2.2.2.2.1, σ.2.2.2.2.2.2.2.2.2.2.2.2.2.2.2.2.2.2.2.2.2.2.2.2.2.2.2.2.2.2.2.2.2.2.2.2.2.2.2.2.2.2.2.2.2.2.2.2.2.2.2)))
def sc_keep (F : Nat) (σ : SC)  : Option (Int32 × SC) := bd (m_SpeciesSolver_keep F σ.2.1 σ.2.2.1 σ.2.2.2.2.2.2.2.2.2.2.2.2.2.2.2.2.2.2.2.2.2.2.2.2.2.2.2.2.2.2.2.2.2.2.2.2.2.2.2.2.2.2.2.2.2.2.2.2.2.2.1 σ.2.2.2.2.2.2.2.2.2.2.2.2.2.2.2.2.2.2.2.2.2.2.2.2.2.2.2.2.2.2.2.2.2.2.2.2.2.2.2.2.2.2.2.2.2.2.2.2.2.2.2 σ.2.2.2.1 σ.2.2.2.2.1 σ.2.2.2.2.2.1 σ.2.2.2.2.2.2.2.2.2.2.1 ) (fun r => some (r.1, (σ.1, σ.2.1, σ.2.2.1, r.2.1, r.2.2.1, r.2.2.2.1, σ.2.2.2.2.2.2.1, σ.2.2.2.2.2.2.2.1, σ.2.2.2.2.2.2.2.2.1, σ.2.2.2.2.2.2.2.2.2.1, r.2.2.2.2, σ.2.2.2.2.2.2.2.2.2.2.2.1, σ.2.2.2.2.2.2.2.2.2.2.2.2.1, σ.2.2.2.2.2.2.2.2.2.2.2.2.2.1, σ.2.2.2.2.2.2.2.2.2.2.2.2.2.2.1, σ.2.2.2.2.2.2.2.2.2.2.2.2.2.2.2.1, σ.2.2.2.2.2.2.2.2.2.2.2.2.2.2.2.2.1, σ.2.2.2.2.2.2.2.2.2.2.2.2.2.2.2.2.2.1, σ.2.2.2.2.2.2.2.2.2.2.2.2.2.2.2.2.2.2.1, σ.2.2.2.2.2.2.2.2.2.2.2.2.2.2.2.2.2.2.2.1, σ.2.2.2.2.2.2.2.2.2.2.2.2.2.2.2.2.2.2.2.2.1, σ.2.2.2.2.2.2.2.2.2.2.2.2.2.2.2.2.2.2.2.2.2.1, σ.2.2.2.2.2.2.2.2.2.2.2.2.2.2.2.2.2.2.2.2.2.2.1, σ.2.2.2.2.2.2.2.2.2.2.2.2.2.2.2.2.2.2.2.2.2.2.2.1, σ.2.2.2.2.2.2.2.2.2.2.2.2.2.2.2.2.2.2.2.2.2.2.2.2.1, σ.2.2.2.2.2.2.2.2.2.2.2.2.2.2.2.2.2.2.2.2.2.2.2.2.2.1, σ.2.2.2.2.2.2.2.2.2.2.2.2.2.2.2.2.2.2.2.2.2.2.2.2.2.2.1, σ.2.2.2.2.2.2.2.2.2.2.2.2.2.2.2.2.2.2.2.2.2.2.2.2.2.2.2.1, σ.2.2.2.2.2.2.2.2.2.2.2.2.2.2.2.2.2.2.2.2.2.2.2.2.2.2.2.2.1, σ.2.2.2.2.2.2.2.2.2.2.2.2.2.2.2.2.2.2.2.2.2.2.2.2.2.2.2.2.2.1, σ.2.2.2.2.2.2.2.2.2.2.2.2.2.2.2.2.2.2.2.2.2.2.2.2.2.2.2.2.2.2.1, σ.2.2.2.2.2.2.2.2.2.2.2.2.2.2.2.2.2.2.2.2.2.2.2.2.2.2.2.2.2.2.2.1, σ.2.2.2.2.2.2.2.2.2.2.2.2.2.2.2.2.2.2.2.2.2.2.2.2.2.2.2.2.2.2.2.2.1, σ.2.2.2.2.2.2.2.2.2.2.2.2.2.2.2.2.2.2.2.2.2.2.2.2.2.2.2.2.2.2.2.2.2.1, σ.2.2.2.2.2.2.2.2.2.2.2.2.2.2.2.2.2.2.2.2.2.2.2.2.2.2.2.2.2.2.2.2.2.2.1, σ.2.2.2.2.2.2.2.2.2.2.2.2.2.2.2.2.2.2.2.2.2.2.2.2.2.2.2.2.2.2.2.2.2.2.2.1, σ.2.2.2.2.2.2.2.2.2.2.2.2.2.2.2.2.2.2.2.2.2.2.2.2.2.2.2.2.2.2.2.2.2.2.2.2.1, σ.2.2.2.2.2.2.2.2.2.2.2.2.2.2.2.2.2.2.2.2.2.2.2.2.2.2.2.2.2.2.2.2.2.2.2.2.2.1, σ.2.2.2.2.2.2.2.2.2.2.2.2.2.2.2.2.2.2.2.2.2.2.2.2.2.2.2.2.2.2.2.2.2.2.2.2.2.2.1, σ.2.2.2.2.2.2.2.2.2.2.2.2.2.2.2.2.2.2.2.2.2.2.2.2.2.2.2.2.2.2.2.2.2.2.2.2.2.2.2.1, σ.2.2.2.2.2.2.2.2.2.2.2.2.2.2.2.2.2.2.2.2.2.2.2.2.2.2.2.2.2.2.2.2.2.2.2.2.2.2.2.2.1, σ.2.2.2.2.2.2.2.2.2.2.2.2.2.2.2.2.2.2.2.2.2.2.2.2.2.2.2.2.2.2.2.2.2.2.2.2.2.2.2.2.2.1, σ.2.2.2.2.2.2.2.2.2.2.2.2.2.2.2.2.2.2.2.2.2.2.2.2.2.2.2.2.2.2.2.2.2.2.2.2.2.2.2.2.2.2.1, σ.2.2.2.2.2.2.2.2.2.2.2.2.2.2.2.2.2.2.2.2.2.2.2.2.2.2.2.2.2.2.2.2.2.2.2.2.2.2.2.2.2.2.2.1, σ.2.2.2.2.2.2.2.2.2.2.2.2.2.2.2.2.2.2.2.2.2.2.2.2.2.2.2.2.2.2.2.2.2.2.2.2.2.2.2.2.2.2.2.2.1, σ.2.2.2.2.2.2.2.2.2.2.2.2.2.2.2.2.2.2.2.2.2.2.2.2.2.2.2.2.2.2.2.2.2.2.2.2.2.2.2.2.2.2.2.2.2.1, σ.2.2.2.2.2.2.2.2.2.2.2.2.2.2.2.2.2.2.2.2.2.2.2.2.2.2.2.2.2.2.2.2.2.2.2.2.2.2.2.2.2.2.2.2.2.2.1, σ.2.2.2.2.2.2.2.2.2.2.2.2.2.2.2.2.2.2.2.2.2.2.2.2.2.2.2.2.2.2.2.2.2.2.2.2.2.2.2.2.2.2.2.2.2.2.2.1, σ.2.2.2.2.2.2.2.2.2.2.2.2.2.2.2.2.2.2.2.2.2.2.2.2.2.2.2.2.2.2.2.2.2.2.2.2.2.2.2.2.2.2.2.2.2.2.2.2.1, σ.2.2.2.2.2.2.2.2.2.2.2.2.2.2.2.2.2.2.2.2.2.2.2.2.2.2.2.2.2.2.2.2.2.2.2.2.2.2.2.2.2.2.2.2.2.2.2.2.2.1, σ.2.2.2.2.2.2.2.2.2.2.2.2.2.2.2.2.2.2.2.2.2.2.2.2.2.2.2.2.2.2.2.2.2.2.2.2.2.2.2.2.2.2.2.2.2.2.2.2.2.2.1, σ.2.2.2.2.2.2.2.2.2.2.2.2.2.2.2.2.2.2.2.2.2.2.2.2.2.2.2.2.2.2.2.2.2.2.2.2.2.2.2.2.2.2.2.2.2.2.2.2.2.2.2)))
def sc_judge (F : Nat) (σ : SC)  : Option (Int32 × SC) := bd (m_SpeciesSolver_judge F σ.2.2.2.2.1 σ.2.2.2.2.2.1 σ.2.2.2.2.2.2.1 σ.2.2.2.2.2.2.2.1 σ.2.2.2.2.2.2.2.2.1 σ.2.2.2.2.2.2.2.2.2.1 σ.2.2.2.2.2.2.2.2.2.2.1 σ.2.2.2.2.2.2.2.2.2.2.2.2.2.2.2.2.2.2.2.2.2.2.2.2.2.2.2.2.2.2.2.2.2.2.2.2.2.2.2.2.2.2.2.2.2.2.2.2.1 σ.2.2.2.2.2.2.2.2.2.2.2.2.2.2.2.2.2.2.2.2.2.2.2.2.2.2.2.2.2.2.2.2.2.2.2.2.2.2.2.2.2.2.2.2.2.2.2.2.2.1 σ.2.2.2.2.2.2.2.2.2.2.2.1 σ.2.2.2.2.2.2.2.2.2.2.2.2.1 σ.2.2.2.2.2.2.2.2.2.2.2.2.2.1 σ.2.2.2.2.2.2.2.2.2.2.2.2.2.2.1 σ.2.2.2.2.2.2.2.2.2.2.2.2.2.2.2.1 σ.2.2.2.2.2.2.2.2.2.2.2.2.2.2.2.2.1 ) (fun r => some (r.1, (σ.1, σ.2.1, σ.2.2.1, σ.2.2.2.1, σ.2.2.2.2.1, σ.2.2.2.2.2.1, σ.2.2.2.2.2.2.1, σ.2.2.2.2.2.2.2.1, σ.2.2.2.2.2.2.2.2.1, σ.2.2.2.2.2.2.2.2.2.1, σ.2.2.2.2.2.2.2.2.2.2.1, r.2.1, r.2.2.1, r.2.2.2.1, r.2.2.2.2.1, r.2.2.2.2.2.1, r.2.2.2.2.2.2, σ.2.2.2.2.2.2.2.2.2.2.2.2.2.2.2.2.2.1, σ.2.2.2.2.2.2.2.2.2.2.2.2.2.2.2.2.2.2.1, σ.2.2.2.2.2.2.2.2.2.2.2.2.2.2.2.2.2.2.2.1, σ.2.2.2.2.2.2.2.2.2.2.2.2.2.2.2.2.2.2.2.2.1, σ.2.2.2.2.2.2.2.2.2.2.2.2.2.2.2.2.2.2.2.2.2.1, σ.2.2.2.2.2.2.2.2.2.2.2.2.2.2.2.2.2.2.2.2.2.2.1, σ.2.2.2.2.2.2.2.2.2.2.2.2.2.2.2.2.2.2.2.2.2.2.2.1, σ.2.2.2.2.2.2.2.2.2.2.2.2.2.2.2.2.2.2.2.2.2.2.2.2.1, σ.2.2.2.2.2.2.2.2.2.2.2.2.2.2.2.2.2.2.2.2.2.2.2.2.2.1, σ.2.2.2.2.2.2.2.2.2.2.2.2.2.2.2.2.2.2.2.2.2.2.2.2.2.2.1, σ.2.2.2.2.2.2.2.2.2.2.2.2.2.2.2.2.2.2.2.2.2.2.2.2.2.2.2.1, σ.2.2.2.2.2.2.2.2.2.2.2.2.2.2.2.2.2.2.2.2.2.2.2.2.2.2.2.2.1, σ.2.2.2.2.2.2.2.2.2.2.2.2.2.2.2.2.2.2.2.2.2.2.2.2.2.2.2.2.2.1, σ.2.2.2.2.2.2.2.2.2.2.2.2.2.2.2.2.2.2.2.2.2.2.2.2.2.2.2.2.2.2.1, σ.2.2.2.2.2.2.2.2.2.2.2.2.2.2.2.2.2.2.2.2.2.2.2.2.2.2.2.2.2.2.2.1, σ.2.2.2.2.2.2.2.2.2.2.2.2.2.2.2.2.2.2.2.2.2.2.2.2.2.2.2.2.2.2.2.2.1, σ.2.2.2.2.2.2.2.2.2.2.2.2.2.2.2.2.2.2.2.2.2.2.2.2.2.2.2.2.2.2.2.2.2.1, σ.2.2.2.2.2.2.2.2.2.2.2.2.2.2.2.2.2.2.2.2.2.2.2.2.2.2.2.2.2.2.2.2.2.2.1, σ.2.2.2.2.2.2.2.2.2.2.2.2.2.2.2.2.2.2.2.2.2.2.2.2.2.2.2.2.2.2.2.2.2.2.2.1, σ.2.2.2.2.2.2.2.2.2.2.2.2.2.2.2.2.2.2.2.2.2.2.2.2.2.2.2.2.2.2.2.2.2.2.2.2.1, σ.2.2.2.2.2.2.2.2.2.2.2.2.2.2.2.2.2.2.2.2.2.2.2.2.2.2.2.2.2.2.2.2.2.2.2.2.2.1, σ.2.2.2.2.2.2.2.2.2.2.2.2.2.2.2.2.2.2.2.2.2.2.2.2.2.2.2.2.2.2.2.2.2.2.2.2.2.2.1, σ.2.2.2.2.2.2.2.2.2.2.2.2.2.2.2.2.2.2.2.2.2.2.2.2.2.2.2.2.2.2.2.2.2.2.2.2.2.2.2.1, σ.2.2.2.2.2.2.2.2.2.2.2.2.2.2.2.2.2.2.2.2.2.2.2.2.2.2.2.2.2.2.2.2.2.2.2.2.2.2.2.2.1, σ.2.2.2.2.2.2.2.2.2.2.2.2.2.2.2.2.2.2.2.2.2.2.2.2.2.2.2.2.2.2.2.2.2.2.2.2.2.2.2.2.2.1, σ.2.2.2.2.2.2.2.2.2.2.2.2.2.2.2.2.2.2.2.2.2.2.2.2.2.2.2.2.2.2.2.2.2.2.2.2.2.2.2.2.2.2.1, σ.2.2.2.2.2.2.2.2.2.2.2.2.2.2.2.2.2.2.2.2.2.2.2.2.2.2.2.2.2.2.2.2.2.2.2.2.2.2.2.2.2.2.2.1, σ.2.2.2.2.2.2.2.2.2.2.2.2.2.2.2.2.2.2.2.2.2.2.2.2.2.2.2.2.2.2.2.2.2.2.2.2.2.2.2.2.2.2.2.2.1, σ.2.2.2.2.2.2.2.2.2.2.2.2.2.2.2.2.2.2.2.2.2.2.2.2.2.2.2.2.2.2.2.2.2.2.2.2.2.2.2.2.2.2.2.2.2.1, σ.2.2.2.2.2.2.2.2.2.2.2.2.2.2.2.2.2.2.2.2.2.2.2.2.2.2.2.2.2.2.2.2.2.2.2.2.2.2.2.2.2.2.2.2.2.2.1, σ.2.2.2.2.2.2.2.2.2.2.2.2.2.2.2.2.2.2.2.2.2.2.2.2.2.2.2.2.2.2.2.2.2.2.2.2.2.2.2.2.2.2.2.2.2.2.2.1, σ.2.2.2.2.2.2.2.2.2.2.2.2.2.2.2.2.2.2.2.2.2.2.2.2.2.2.2.2.2.2.2.2.2.2.2.2.2.2.2.2.2.2.2.2.2.2.2.2.1, σ.2.2.2.2.2.2.2.2.2.2.2.2.2.2.2.2.2.2.2.2.2.2.2.2.2.2.2.2.2.2.2.2.2.2.2.2.2.2.2.2.2.2.2.2.2.2.2.2.2.1, σ.2.2.2.2.2.2.2.2.2.2.2.2.2.2.2.2.2.2.2.2.2.2.2.2.2.2.2.2.2.2.2.2.2.2.2.2.2.2.2.2.2.2.2.2.2.2.2.2.2.2.1, σ.2.2.2.2.2.2.2.2.2.2.2.2.2.2.2.2.2.2.2.2.2.2.2.2.2.2.2.2.2.2.2.2.2.2.2.2.2.2.2.2.2.2.2.2.2.2.2.2.2.2.2)))
def sc_fault (F : Nat) (σ : SC) (a1 : Int32) (a2 : Int32) : Option (Int32 × SC) := bd (m_SpeciesSolver_fault  σ.2.2.2.2.2.2.2.2.2.2.2.1 σ.2.2.2.2.2.2.2.2.2.2.2.2.2.2.1 σ.2.2.2.2.2.2.2.2.2.2.2.2.2.2.2.1 σ.2.2.2.2.2.2.2.2.2.2.2.2.2.2.2.2.1 a1 a2) (fun r => some (r, σ))
def sc_tried (F : Nat) (σ : SC)  : Option (Int32 × SC) := bd (m_SpeciesSolver_tried F σ.2.2.2.2.1 σ.2.2.2.2.2.1 σ.2.2.2.2.2.2.1 σ.2.2.2.2.2.2.2.2.1 σ.2.2.2.2.2.2.2.2.2.2.1 σ.2.2.2.2.2.2.2.2.2.2.2.2.2.2.2.2.2.2.2.2.2.2.2.2.2.2.2.2.2.2.2.2.2.2.2.2.2.2.2.2.2.2.2.2.2.2.2.2.1 σ.2.2.2.2.2.2.2.2.2.2.2.2.2.2.2.2.2.2.2.2.2.2.2.2.2.2.2.2.2.2.2.2.2.2.2.2.2.2.2.2.2.2.2.2.2.2.2.2.2.1 ) (fun r => some (r, σ))
def sc_told (F : Nat) (σ : SC) (a1 : Int32) : Option (Int32 × SC) := bd (m_SpeciesSolver_told  σ.2.2.2.2.1 σ.2.2.2.2.2.1 σ.2.2.2.2.2.2.1 σ.2.2.2.2.2.2.2.2.2.2.2.2.2.2.2.2.2.2.2.2.2.2.2.2.2.2.2.2.2.2.2.2.2.2.2.2.2.2.2.2.2.2.2.2.2.2.1 σ.2.2.2.2.2.2.2.2.2.2.2.2.2.2.2.2.2.2.2.2.2.2.2.2.2.2.2.2.2.2.2.2.2.2.2.2.2.2.2.2.2.2.2.2.2.2.2.2.1 σ.2.2.2.2.2.2.2.2.2.2.2.2.2.2.2.2.2.2.2.2.2.2.2.2.2.2.2.2.2.2.2.2.2.2.2.2.2.2.2.2.2.2.2.2.2.2.2.2.2.2.1 a1) (fun r => some (r, σ))
def sm_note (F : Nat) (τ : SM) (a1 : Int32) : Option (Int32 × SM) := bd (m_SpeciesSolverModel_note  τ.2.1 τ.2.2.2.2.2.2.2.2.2.2.2.2.2.2.2.2.2.2.2.1 a1) (fun r => some (r.1, (τ.1, r.2.1, τ.2.2.1, τ.2.2.2.1, τ.2.2.2.2.1, τ.2.2.2.2.2.1, τ.2.2.2.2.2.2.1, τ.2.2.2.2.2.2.2.1, τ.2.2.2.2.2.2.2.2.1, τ.2.2.2.2.2.2.2.2.2.1, τ.2.2.2.2.2.2.2.2.2.2.1, τ.2.2.2.2.2.2.2.2.2.2.2.1, τ.2.2.2.2.2.2.2.2.2.2.2.2.1, τ.2.2.2.2.2.2.2.2.2.2.2.2.2.1, τ.2.2.2.2.2.2.2.2.2.2.2.2.2.2.1, τ.2.2.2.2.2.2.2.2.2.2.2.2.2.2.2.1, τ.2.2.2.2.2.2.2.2.2.2.2.2.2.2.2.2.1, τ.2.2.2.2.2.2.2.2.2.2.2.2.2.2.2.2.2.1, τ.2.2.2.2.2.2.2.2.2.2.2.2.2.2.2.2.2.2.1, r.2.2, τ.2.2.2.2.2.2.2.2.2.2.2.2.2.2.2.2.2.2.2.2.1, τ.2.2.2.2.2.2.2.2.2.2.2.2.2.2.2.2.2.2.2.2.2.1, τ.2.2.2.2.2.2.2.2.2.2.2.2.2.2.2.2.2.2.2.2.2.2.1, τ.2.2.2.2.2.2.2.2.2.2.2.2.2.2.2.2.2.2.2.2.2.2.2.1, τ.2.2.2.2.2.2.2.2.2.2.2.2.2.2.2.2.2.2.2.2.2.2.2.2.1, τ.2.2.2.2.2.2.2.2.2.2.2.2.2.2.2.2.2.2.2.2.2.2.2.2.2.1, τ.2.2.2.2.2.2.2.2.2.2.2.2.2.2.2.2.2.2.2.2.2.2.2.2.2.2.1, τ.2.2.2.2.2.2.2.2.2.2.2.2.2.2.2.2.2.2.2.2.2.2.2.2.2.2.2.1, τ.2.2.2.2.2.2.2.2.2.2.2.2.2.2.2.2.2.2.2.2.2.2.2.2.2.2.2.2.1, τ.2.2.2.2.2.2.2.2.2.2.2.2.2.2.2.2.2.2.2.2.2.2.2.2.2.2.2.2.2.1, τ.2.2.2.2.2.2.2.2.2.2.2.2.2.2.2.2.2.2.2.2.2.2.2.2.2.2.2.2.2.2.1, τ.2.2.2.2.2.2.2.2.2.2.2.2.2.2.2.2.2.2.2.2.2.2.2.2.2.2.2.2.2.2.2.1, τ.2.2.2.2.2.2.2.2.2.2.2.2.2.2.2.2.2.2.2.2.2.2.2.2.2.2.2.2.2.2.2.2.1, τ.2.2.2.2.2.2.2.2.2.2.2.2.2.2.2.2.2.2.2.2.2.2.2.2.2.2.2.2.2.2.2.2.2.1, τ.2.2.2.2.2.2.2.2.2.2.2.2.2.2.2.2.2.2.2.2.2.2.2.2.2.2.2.2.2.2.2.2.2.2)))
def sm_give (F : Nat) (τ : SM)  : Option (Int32 × SM) := bd (m_SpeciesSolverModel_give F τ.2.2.2.2.2.2.2.2.2.2.2.2.2.2.2.2.2.2.2.1 τ.2.1 τ.2.2.1 τ.2.2.2.1 τ.2.2.2.2.2.2.2.2.2.2.2.2.2.2.2.2.2.2.2.2.1 ) (fun r => some (r.1, (τ.1, r.2.1, r.2.2.1, r.2.2.2.1, τ.2.2.2.2.1, τ.2.2.2.2.2.1, τ.2.2.2.2.2.2.1, τ.2.2.2.2.2.2.2.1, τ.2.2.2.2.2.2.2.2.1, τ.2.2.2.2.2.2.2.2.2.1, τ.2.2.2.2.2.2.2.2.2.2.1, τ.2.2.2.2.2.2.2.2.2.2.2.1, τ.2.2.2.2.2.2.2.2.2.2.2.2.1, τ.2.2.2.2.2.2.2.2.2.2.2.2.2.1, τ.2.2.2.2.2.2.2.2.2.2.2.2.2.2.1, τ.2.2.2.2.2.2.2.2.2.2.2.2.2.2.2.1, τ.2.2.2.2.2.2.2.2.2.2.2.2.2.2.2.2.1, τ.2.2.2.2.2.2.2.2.2.2.2.2.2.2.2.2.2.1, τ.2.2.2.2.2.2.2.2.2.2.2.2.2.2.2.2.2.2.1, τ.2.2.2.2.2.2.2.2.2.2.2.2.2.2.2.2.2.2.2.1, r.2.2.2.2, τ.2.2.2.2.2.2.2.2.2.2.2.2.2.2.2.2.2.2.2.2.2.1, τ.2.2.2.2.2.2.2.2.2.2.2.2.2.2.2.2.2.2.2.2.2.2.1, τ.2.2.2.2.2.2.2.2.2.2.2.2.2.2.2.2.2.2.2.2.2.2.2.1, τ.2.2.2.2.2.2.2.2.2.2.2.2.2.2.2.2.2.2.2.2.2.2.2.2.1, τ.2.2.2.2.2.2.2.2.2.2.2.2.2.2.2.2.2.2.2.2.2.2.2.2.2.1, τ.2.2.2.2.2.2.2.2.2.2.2.2.2.2.2.2.2.2.2.2.2.2.2.2.2.2.1, τ.2.2.2.2.2.2.2.2.2.2.2.2.2.2.2.2.2.2.2.2.2.2.2.2.2.2.2.1, τ.2.2.2.2.2.2.2.2.2.2.2.2.2.2.2.2.2.2.2.2.2.2.2.2.2.2.2.2.1, τ.2.2.2.2.2.2.2.2.2.2.2.2.2.2.2.2.2.2.2.2.2.2.2.2.2.2.2.2.2.1, τ.2.2.2.2.2.2.2.2.2.2.2.2.2.2.2.2.2.2.2.2.2.2.2.2.2.2.2.2.2.2.1, τ.2.2.2.2.2.2.2.2.2.2.2.2.2.2.2.2.2.2.2.2.2.2.2.2.2.2.2.2.2.2.2.1, τ.2.2.2.2.2.2.2.2.2.2.2.2.2.2.2.2.2.2.2.2.2.2.2.2.2.2.2.2.2.2.2.2.1, τ.2.2.2.2.2.2.2.2.2.2.2.2.2.2.2.2.2.2.2.2.2.2.2.2.2.2.2.2.2.2.2.2.2.1, τ.2.2.2.2.2.2.2.2.2.2.2.2.2.2.2.2.2.2.2.2.2.2.2.2.2.2.2.2.2.2.2.2.2.2)))
def sm_attempt (F : Nat) (τ : SM)  : Option (Int32 × SM) := bd (m_SpeciesSolverModel_attempt F τ.2.2.2.2.2.2.2.2.2.2.2.2.2.2.2.2.2.2.2.1 τ.2.1 τ.2.2.2.2.2.2.1 τ.2.2.2.2.2.2.2.2.2.2.2.2.2.2.2.2.2.2.2.2.2.2.2.1 ) (fun r => some (r.1, (τ.1, r.2.1, τ.2.2.1, τ.2.2.2.1, τ.2.2.2.2.1, τ.2.2.2.2.2.1, r.2.2.1, τ.2.2.2.2.2.2.2.1, τ.2.2.2.2.2.2.2.2.1, τ.2.2.2.2.2.2.2.2.2.1, τ.2.2.2.2.2.2.2.2.2.2.1, τ.2.2.2.2.2.2.2.2.2.2.2.1, τ.2.2.2.2.2.2.2.2.2.2.2.2.1, τ.2.2.2.2.2.2.2.2.2.2.2.2.2.1, τ.2.2.2.2.2.2.2.2.2.2.2.2.2.2.1, τ.2.2.2.2.2.2.2.2.2.2.2.2.2.2.2.1, τ.2.2.2.2.2.2.2.2.2.2.2.2.2.2.2.2.1, τ.2.2.2.2.2.2.2.2.2.2.2.2.2.2.2.2.2.1, τ.2.2.2.2.2.2.2.2.2.2.2.2.2.2.2.2.2.2.1, τ.2.2.2.2.2.2.2.2.2.2.2.2.2.2.2.2.2.2.2.1, τ.2.2.2.2.2.2.2.2.2.2.2.2.2.2.2.2.2.2.2.2.1, τ.2.2.2.2.2.2.2.2.2.2.2.2.2.2.2.2.2.2.2.2.2.1, τ.2.2.2.2.2.2.2.2.2.2.2.2.2.2.2.2.2.2.2.2.2.2.1, r.2.2.2, τ.2.2.2.2.2.2.2.2.2.2.2.2.2.2.2.2.2.2.2.2.2.2.2.2.1, τ.2.2.2.2.2.2.2.2.2.2.2.2.2.2.2.2.2.2.2.2.2.2.2.2.2.1, τ.2.2.2.2.2.2.2.2.2.2.2.2.2.2.2.2.2.2.2.2.2.2.2.2.2.2.1, τ.2.2.2.2.2.2.2.2.2.2.2.2.2.2.2.2.2.2.2.2.2.2.2.2.2.2.2.1, τ.2.2.2.2.2.2.2.2.2.2.2.2.2.2.2.2.2.2.2.2.2.2.2.2.2.2.2.2.1, τ.2.2.2.2.2.2.2.2.2.2.2.2.2.2.2.2.2.2.2.2.2.2.2.2.2.2.2.2.2.1, τ.2.2.2.2.2.2.2.2.2.2.2.2.2.2.2.2.2.2.2.2.2.2.2.2.2.2.2.2.2.2.1, τ.2.2.2.2.2.2.2.2.2.2.2.2.2.2.2.2.2.2.2.2.2.2.2.2.2.2.2.2.2.2.2.1, τ.2.2.2.2.2.2.2.2.2.2.2.2.2.2.2.2.2.2.2.2.2.2.2.2.2.2.2.2.2.2.2.2.1, τ.2.2.2.2.2.2.2.2.2.2.2.2.2.2.2.2.2.2.2.2.2.2.2.2.2.2.2.2.2.2.2.2.2.1, τ.2.2.2.2.2.2.2.2.2.2.2.2.2.2.2.2.2.2.2.2.2.2.2.2.2.2.2.2.2.2.2.2.2.2)))
def sm_drop (F : Nat) (τ : SM)  : Option (Int32 × SM) := bd (m_SpeciesSolverModel_drop  τ.2.2.1 τ.2.2.2.1 ) (fun r => some (r.1, (τ.1, τ.2.1, r.2.1, r.2.2, τ.2.2.2.2.1, τ.2.2.2.2.2.1, τ.2.2.2.2.2.2.1, τ.2.2.2.2.2.2.2.1, τ.2.2.2.2.2.2.2.2.1, τ.2.2.2.2.2.2.2.2.2.1, τ.2.2.2.2.2.2.2.2.2.2.1, τ.2.2.2.2.2.2.2.2.2.2.2.1, τ.2.2.2.2.2.2.2.2.2.2.2.2.1, τ.2.2.2.2.2.2.2.2.2.2.2.2.2.1, τ.2.2.2.2.2.2.2.2.2.2.2.2.2.2.1, τ.2.2.2.2.2.2.2.2.2.2.2.2.2.2.2.1, τ.2.2.2.2.2.2.2.2.2.2.2.2.2.2.2.2.1, τ.2.2.2.2.2.2.2.2.2.2.2.2.2.2.2.2.2.1, τ.2.2.2.2.2.2.2.2.2.2.2.2.2.2.2.2.2.2.1, τ.2.2.2.2.2.2.2.2.2.2.2.2.2.2.2.2.2.2.2.1, τ.2.2.2.2.2.2.2.2.2.2.2.2.2.2.2.2.2.2.2.2.1, τ.2.2.2.2.2.2.2.2.2.2.2.2.2.2.2.2.2.2.2.2.2.1, τ.2.2.2.2.2.2.2.2.2.2.2.2.2.2.2.2.2.2.2.2.2.2.1, τ.2.2.2.2.2.2.2.2.2.2.2.2.2.2.2.2.2.2.2.2.2.2.2.1, τ.2.2.2.2.2.2.2.2.2.2.2.2.2.2.2.2.2.2.2.2.2.2.2.2.1, τ.2.2.2.2.2.2.2.2.2.2.2.2.2.2.2.2.2.2.2.2.2.2.2.2.2.1, τ.2.2.2.2.2.2.2.2.2.2.2.2.2.2.2.2.2.2.2.2.2.2.2.2.2.2.1, τ.2.2.2.2.2.2.2.2.2.2.2.2.2.2.2.2.2.2.2.2.2.2.2.2.2.2.2.1, τ.2.2.2.2.2.2.2.2.2.2.2.2.2.2.2.2.2.2.2.2.2.2.2.2.2.2.2.2.1, τ.2.2.2.2.2.2.2.2.2.2.2.2.2.2.2.2.2.2.2.2.2.2.2.2.2.2.2.2.2.1, τ.2.2.2.2.2.2.2.2.2.2.2.2.2.2.2.2.2.2.2.2.2.2.2.2.2.2.2.2.2.2.1, τ.2.2.2.2.2.2.2.2.2.2.2.2.2.2.2.2.2.2.2.2.2.2.2.2.2.2.2.2.2.2.2.1, τ.2.2.2.2.2.2.2.2.2.2.2.2.2.2.2.2.2.2.2.2.2.2.2.2.2.2.2.2.2.2.2.2.1, τ.2.2.2.2.2.2.2.2.2.2.2.2.2.2.2.2.2.2.2.2.2.2.2.2.2.2.2.2.2.2.2.2.2.1, τ.2.2.2.2.2.2.2.2.2.2.2.2.2.2.2.2.2.2.2.2.2.2.2.2.2.2.2.2.2.2.2.2.2.2)))
def sm_species (F : Nat) (τ : SM) (a1 : Int32) (a2 : Int32) : Option (Int32 × SM) := bd (m_SpeciesSolverModel_species  τ.2.2.2.2.1 τ.2.2.2.2.2.1 a1 a2) (fun r => some (r.1, (τ.1, τ.2.1, τ.2.2.1, τ.2.2.2.1, r.2.1, r.2.2, τ.2.2.2.2.2.2.1, τ.2.2.2.2.2.2.2.1, τ.2.2.2.2.2.2.2.2.1, τ.2.2.2.2.2.2.2.2.2.1, τ.2.2.2.2.2.2.2.2.2.2.1, τ.2.2.2.2.2.2.2.2.2.2.2.1, τ.2.2.2.2.2.2.2.2.2.2.2.2.1, τ.2.2.2.2.2.2.2.2.2.2.2.2.2.1, τ.2.2.2.2.2.2.2.2.2.2.2.2.2.2.1, τ.2.2.2.2.2.2.2.2.2.2.2.2.2.2.2.1, τ.2.2.2.2.2.2.2.2.2.2.2.2.2.2.2.2.1, τ.2.2.2.2.2.2.2.2.2.2.2.2.2.2.2.2.2.1, τ.2.2.2.2.2.2.2.2.2.2.2.2.2.2.2.2.2.2.1, τ.2.2.2.2.2.2.2.2.2.2.2.2.2.2.2.2.2.2.2.1, τ.2.2.2.2.2.2.2.2.2.2.2.2.2.2.2.2.2.2.2.2.1, τ.2.2.2.2.2.2.2.2.2.2.2.2.2.2.2.2.2.2.2.2.2.1, τ.2.2.2.2.2.2.2.2.2.2.2.2.2.2.2.2.2.2.2.2.2.2.1, τ.2.2.2.2.2.2.2.2.2.2.2.2.2.2.2.2.2.2.2.2.2.2.2.1, τ.2.2.2.2.2.2.2.2.2.2.2.2.2.2.2.2.2.2.2.2.2.2.2.2.1, τ.2.2.2.2.2.2.2.2.2.2.2.2.2.2.2.2.2.2.2.2.2.2.2.2.2.1, τ.2.2.2.2.2.2.2.2.2.2.2.2.2.2.2.2.2.2.2.2.2.2.2.2.2.2.1, τ.2.2.2.2.2.2.2.2.2.2.2.2.2.2.2.2.2.2.2.2.2.2.2.2.2.2.2.1, τ.2.2.2.2.2.2.2.2.2.2.2.2.2.2.2.2.2.2.2.2.2.2.2.2.2.2.2.2.1, τ.2.2.2.2.2.2.2.2.2.2.2.2.2.2.2.2.2.2.2.2.2.2.2.2.2.2.2.2.2.1, τ.2.2.2.2.2.2.2.2.2.2.2.2.2.2.2.2.2.2.2.2.2.2.2.2.2.2.2.2.2.2.1, τ.2.2.2.2.2.2.2.2.2.2.2.2.2.2.2.2.2.2.2.2.2.2.2.2.2.2.2.2.2.2.2.1, τ.2.2.2.2.2.2.2.2.2.2.2.2.2.2.2.2.2.2.2.2.2.2.2.2.2.2.2.2.2.2.2.2.1, τ.2.2.2.2.2.2.2.2.2.2.2.2.2.2.2.2.2.2.2.2.2.2.2.2.2.2.2.2.2.2.2.2.2.1, τ.2.2.2.2.2.2.2.2.2.2.2.2.2.2.2.2.2.2.2.2.2.2.2.2.2.2.2.2.2.2.2.2.2.2)))
def sm_rule (F : Nat) (τ : SM) (a1 : Int32) (a2 : Int32) : Option (Int32 × SM) := bd (m_SpeciesSolverModel_rule  τ.2.2.2.2.2.2.2.2.2.2.2.2.2.2.2.2.2.2.2.2.2.1 a1 a2) (fun r => some (r.1, (τ.1, τ.2.1, τ.2.2.1, τ.2.2.2.1, τ.2.2.2.2.1, τ.2.2.2.2.2.1, τ.2.2.2.2.2.2.1, τ.2.2.2.2.2.2.2.1, τ.2.2.2.2.2.2.2.2.1, τ.2.2.2.2.2.2.2.2.2.1, τ.2.2.2.2.2.2.2.2.2.2.1, τ.2.2.2.2.2.2.2.2.2.2.2.1, τ.2.2.2.2.2.2.2.2.2.2.2.2.1, τ.2.2.2.2.2.2.2.2.2.2.2.2.2.1, τ.2.2.2.2.2.2.2.2.2.2.2.2.2.2.1, τ.2.2.2.2.2.2.2.2.2.2.2.2.2.2.2.1, τ.2.2.2.2.2.2.2.2.2.2.2.2.2.2.2.2.1, τ.2.2.2.2.2.2.2.2.2.2.2.2.2.2.2.2.2.1, τ.2.2.2.2.2.2.2.2.2.2.2.2.2.2.2.2.2.2.1, τ.2.2.2.2.2.2.2.2.2.2.2.2.2.2.2.2.2.2.2.1, τ.2.2.2.2.2.2.2.2.2.2.2.2.2.2.2.2.2.2.2.2.1, r.2, τ.2.2.2.2.2.2.2.2.2.2.2.2.2.2.2.2.2.2.2.2.2.2.1, τ.2.2.2.2.2.2.2.2.2.2.2.2.2.2.2.2.2.2.2.2.2.2.2.1, τ.2.2.2.2.2.2.2.2.2.2.2.2.2.2.2.2.2.2.2.2.2.2.2.2.1, τ.2.2.2.2.2.2.2.2.2.2.2.2.2.2.2.2.2.2.2.2.2.2.2.2.2.1, τ.2.2.2.2.2.2.2.2.2.2.2.2.2.2.2.2.2.2.2.2.2.2.2.2.2.2.1, τ.2.2.2.2.2.2.2.2.2.2.2.2.2.2.2.2.2.2.2.2.2.2.2.2.2.2.2.1, τ.2.2.2.2.2.2.2.2.2.2.2.2.2.2.2.2.2.2.2.2.2.2.2.2.2.2.2.2.1, τ.2.2.2.2.2.2.2.2.2.2.2.2.2.2.2.2.2.2.2.2.2.2.2.2.2.2.2.2.2.1, τ.2.2.2.2.2.2.2.2.2.2.2.2.2.2.2.2.2.2.2.2.2.2.2.2.2.2.2.2.2.2.1, τ.2.2.2.2.2.2.2.2.2.2.2.2.2.2.2.2.2.2.2.2.2.2.2.2.2.2.2.2.2.2.2.1, τ.2.2.2.2.2.2.2.2.2.2.2.2.2.2.2.2.2.2.2.2.2.2.2.2.2.2.2.2.2.2.2.2.1, τ.2.2.2.2.2.2.2.2.2.2.2.2.2.2.2.2.2.2.2.2.2.2.2.2.2.2.2.2.2.2.2.2.2.1, τ.2.2.2.2.2.2.2.2.2.2.2.2.2.2.2.2.2.2.2.2.2.2.2.2.2.2.2.2.2.2.2.2.2.2)))
def sm_number (F : Nat) (τ : SM) (a1 : Int32) (a2 : Int32) : Option (Int32 × SM) := bd (m_SpeciesSolverModel_number  τ.2.2.2.2.2.2.2.2.2.2.2.2.2.2.2.2.2.2.2.2.2.2.1 a1 a2) (fun r => some (r.1, (τ.1, τ.2.1, τ.2.2.1, τ.2.2.2.1, τ.2.2.2.2.1, τ.2.2.2.2.2.1, τ.2.2.2.2.2.2.1, τ.2.2.2.2.2.2.2.1, τ.2.2.2.2.2.2.2.2.1, τ.2.2.2.2.2.2.2.2.2.1, τ.2.2.2.2.2.2.2.2.2.2.1, τ.2.2.2.2.2.2.2.2.2.2.2.1, τ.2.2.2.2.2.2.2.2.2.2.2.2.1, τ.2.2.2.2.2.2.2.2.2.2.2.2.2.1, τ.2.2.2.2.2.2.2.2.2.2.2.2.2.2.1, τ.2.2.2.2.2.2.2.2.2.2.2.2.2.2.2.1, τ.2.2.2.2.2.2.2.2.2.2.2.2.2.2.2.2.1, τ.2.2.2.2.2.2.2.2.2.2.2.2.2.2.2.2.2.1, τ.2.2.2.2.2.2.2.2.2.2.2.2.2.2.2.2.2.2.1, τ.2.2.2.2.2.2.2.2.2.2.2.2.2.2.2.2.2.2.2.1, τ.2.2.2.2.2.2.2.2.2.2.2.2.2.2.2.2.2.2.2.2.1, τ.2.2.2.2.2.2.2.2.2.2.2.2.2.2.2.2.2.2.2.2.2.1, r.2, τ.2.2.2.2.2.2.2.2.2.2.2.2.2.2.2.2.2.2.2.2.2.2.2.1, τ.2.2.2.2.2.2.2.2.2.2.2.2.2.2.2.2.2.2.2.2.2.2.2.2.1, τ.2.2.2.2.2.2.2.2.2.2.2.2.2.2.2.2.2.2.2.2.2.2.2.2.2.1, τ.2.2.2.2.2.2.2.2.2.2.2.2.2.2.2.2.2.2.2.2.2.2.2.2.2.2.1, τ.2.2.2.2.2.2.2.2.2.2.2.2.2.2.2.2.2.2.2.2.2.2.2.2.2.2.2.1, τ.2.2.2.2.2.2.2.2.2.2.2.2.2.2.2.2.2.2.2.2.2.2.2.2.2.2.2.2.1, τ.2.2.2.2.2.2.2.2.2.2.2.2.2.2.2.2.2.2.2.2.2.2.2.2.2.2.2.2.2.1, τ.2.2.2.2.2.2.2.2.2.2.2.2.2.2.2.2.2.2.2.2.2.2.2.2.2.2.2.2.2.2.1, τ.2.2.2.2.2.2.2.2.2.2.2.2.2.2.2.2.2.2.2.2.2.2.2.2.2.2.2.2.2.2.2.1, τ.2.2.2.2.2.2.2.2.2.2.2.2.2.2.2.2.2.2.2.2.2.2.2.2.2.2.2.2.2.2.2.2.1, τ.2.2.2.2.2.2.2.2.2.2.2.2.2.2.2.2.2.2.2.2.2.2.2.2.2.2.2.2.2.2.2.2.2.1, τ.2.2.2.2.2.2.2.2.2.2.2.2.2.2.2.2.2.2.2.2.2.2.2.2.2.2.2.2.2.2.2.2.2.2)))
def sm_setting (F : Nat) (τ : SM) (a1 : Int32) : Option (Int32 × SM) := bd (m_SpeciesSolverModel_setting  τ.2.2.2.2.2.2.2.2.2.2.2.2.2.2.2.2.2.2.2.2.2.2.1 a1) (fun r => some (r, τ))
def sm_choice (F : Nat) (τ : SM)  : Option (Int32 × SM) := bd (m_SpeciesSolverModel_choice F τ.2.2.2.2.2.2.2.2.2.2.2.2.2.2.2.2.2.2.2.2.2.2.1 τ.2.2.2.2.2.2.2.2.2.2.2.1 τ.2.2.2.2.2.2.2.2.2.2.2.2.2.2.2.2.2.2.2.2.2.2.2.2.2.1 ) (fun r => some (r.1, (τ.1, τ.2.1, τ.2.2.1, τ.2.2.2.1, τ.2.2.2.2.1, τ.2.2.2.2.2.1, τ.2.2.2.2.2.2.1, τ.2.2.2.2.2.2.2.1, τ.2.2.2.2.2.2.2.2.1, τ.2.2.2.2.2.2.2.2.2.1, τ.2.2.2.2.2.2.2.2.2.2.1, r.2.1, τ.2.2.2.2.2.2.2.2.2.2.2.2.1, τ.2.2.2.2.2.2.2.2.2.2.2.2.2.1, τ.2.2.2.2.2.2.2.2.2.2.2.2.2.2.1, τ.2.2.2.2.2.2.2.2.2.2.2.2.2.2.2.1, τ.2.2.2.2.2.2.2.2.2.2.2.2.2.2.2.2.1, τ.2.2.2.2.2.2.2.2.2.2.2.2.2.2.2.2.2.1, τ.2.2.2.2.2.2.2.2.2.2.2.2.2.2.2.2.2.2.1, τ.2.2.2.2.2.2.2.2.2.2.2.2.2.2.2.2.2.2.2.1, τ.2.2.2.2.2.2.2.2.2.2.2.2.2.2.2.2.2.2.2.2.1, τ.2.2.2.2.2.2.2.2.2.2.2.2.2.2.2.2.2.2.2.2.2.1, τ.2.2.2.2.2.2.2.2.2.2.2.2.2.2.2.2.2.2.2.2.2.2.1, τ.2.2.2.2.2.2.2.2.2.2.2.2.2.2.2.2.2.2.2.2.2.2.2.1, τ.2.2.2.2.2.2.2.2.2.2.2.2.2.2.2.2.2.2.2.2.2.2.2.2.1, r.2.2, τ.2.2.2.2.2.2.2.2.2.2.2.2.2.2.2.2.2.2.2.2.2.2.2.2.2.2.1, τ.2.2.2.2.2.2.2.2.2.2.2.2.2.2.2.2.2.2.2.2.2.2.2.2.2.2.2.1, τ.2.2.2.2.2.2.2.2.2.2.2.2.2.2.2.2.2.2.2.2.2.2.2.2.2.2.2.2.1, τ.2.2.2.2.2.2.2.2.2.2.2.2.2.2.2.2.2.2.2.2.2.2.2.2.2.2.2.2.2.1, τ.2.2.2.2.2.2.2.2.2.2.2.2.2.2.2.2.2.2.2.2.2.2.2.2.2.2.2.2.2.2.1, τ.2.2.2.2.2.2.2.2.2.2.2.2.2.2.2.2.2.2.2.2.2.2.2.2.2.2.2.2.2.2.2.1, τ.2.2.2.2.2.2.2.2.2.2.2.2.2.2.2.2.2.2.2.2.2.2.2.2.2.2.2.2.2.2.2.2.1, τ.2.2.2.2.2.2.2.2.2.2.2.2.2.2.2.2.2.2.2.2.2.2.2.2.2.2.2.2.2.2.2.2.2.1, τ.2.2.2.2.2.2.2.2.2.2.2.2.2.2.2.2.2.2.2.2.2.2.2.2.2.2.2.2.2.2.2.2.2.2)))
def sm_solve (F : Nat) (τ : SM)  : Option (Int32 × SM) := bd (m_SpeciesSolverModel_solve F τ.2.2.1 τ.2.2.2.1 τ.2.2.2.2.1 τ.2.2.2.2.2.1 τ.2.2.2.2.2.2.2.2.2.2.2.2.2.2.2.2.2.2.2.2.1 τ.2.2.2.2.2.2.2.2.2.2.2.2.2.2.2.2.2.2.2.2.2.1 τ.2.2.2.2.2.2.2.2.2.2.2.2.2.2.2.2.2.2.2.2.2.2.1 τ.2.2.2.2.2.2.2.1 τ.2.2.2.2.2.2.2.2.1 τ.2.2.2.2.2.2.2.2.2.1 τ.2.2.2.2.2.2.2.2.2.2.1 τ.2.2.2.2.2.2.2.2.2.2.2.1 τ.2.2.2.2.2.2.2.2.2.2.2.2.1 τ.2.2.2.2.2.2.2.2.2.2.2.2.2.1 τ.2.2.2.2.2.2.2.2.2.2.2.2.2.2.1 τ.2.2.2.2.2.2.2.2.2.2.2.2.2.2.2.1 τ.2.2.2.2.2.2.2.2.2.2.2.2.2.2.2.2.1 τ.2.2.2.2.2.2.2.2.2.2.2.2.2.2.2.2.2.1 τ.2.2.2.2.2.2.2.2.2.2.2.2.2.2.2.2.2.2.2.2.2.2.2.2.1 τ.2.2.2.2.2.2.2.2.2.2.2.2.2.2.2.2.2.2.2.2.2.2.2.2.2.1 τ.2.2.2.2.2.2.2.2.2.2.2.2.2.2.2.2.2.2.2.2.2.2.2.2.2.2.1 τ.2.2.2.2.2.2.2.2.2.2.2.2.2.2.2.2.2.2.2.2.2.2.2.2.2.2.2.1 τ.2.2.2.2.2.2.2.2.2.2.2.2.2.2.2.2.2.2.2.2.2.2.2.2.2.2.2.2.1 τ.2.2.2.2.2.2.2.2.2.2.2.2.2.2.2.2.2.2.2.2.2.2.2.2.2.2.2.2.2.1 τ.2.2.2.2.2.2.2.2.2.2.2.2.2.2.2.2.2.2.2.2.2.2.2.2.2.2.2.2.2.2.1 ) (fun r => some (r.1, (τ.1, τ.2.1, τ.2.2.1, τ.2.2.2.1, τ.2.2.2.2.1, τ.2.2.2.2.2.1, τ.2.2.2.2.2.2.1, r.2.1, r.2.2.1, r.2.2.2.1, r.2.2.2.2.1, r.2.2.2.2.2.1, r.2.2.2.2.2.2.1, r.2.2.2.2.2.2.2.1, r.2.2.2.2.2.2.2.2.1, r.2.2.2.2.2.2.2.2.2.1, r.2.2.2.2.2.2.2.2.2.2.1, r.2.2.2.2.2.2.2.2.2.2.2.1, τ.2.2.2.2.2.2.2.2.2.2.2.2.2.2.2.2.2.2.1, τ.2.2.2.2.2.2.2.2.2.2.2.2.2.2.2.2.2.2.2.1, τ.2.2.2.2.2.2.2.2.2.2.2.2.2.2.2.2.2.2.2.2.1, τ.2.2.2.2.2.2.2.2.2.2.2.2.2.2.2.2.2.2.2.2.2.1, τ.2.2.2.2.2.2.2.2.2.2.2.2.2.2.2.2.2.2.2.2.2.2.1, τ.2.2.2.2.2.2.2.2.2.2.2.2.2.2.2.2.2.2.2.2.2.2.2.1, r.2.2.2.2.2.2.2.2.2.2.2.2.1, r.2.2.2.2.2.2.2.2.2.2.2.2.2.1, r.2.2.2.2.2.2.2.2.2.2.2.2.2.2.1, r.2.2.2.2.2.2.2.2.2.2.2.2.2.2.2.1, r.2.2.2.2.2.2.2.2.2.2.2.2.2.2.2.2.1, r.2.2.2.2.2.2.2.2.2.2.2.2.2.2.2.2.2.1, r.2.2.2.2.2.2.2.2.2.2.2.2.2.2.2.2.2.2, τ.2.2.2.2.2.2.2.2.2.2.2.2.2.2.2.2.2.2.2.2.2.2.2.2.2.2.2.2.2.2.2.1, τ.2.2.2.2.2.2.2.2.2.2.2.2.2.2.2.2.2.2.2.2.2.2.2.2.2.2.2.2.2.2.2.2.1, τ.2.2.2.2.2.2.2.2.2.2.2.2.2.2.2.2.2.2.2.2.2.2.2.2.2.2.2.2.2.2.2.2.2.1, τ.2.2.2.2.2.2.2.2.2.2.2.2.2.2.2.2.2.2.2.2.2.2.2.2.2.2.2.2.2.2.2.2.2.2)))
def sm_found (F : Nat) (τ : SM) (a1 : Int32) : Option (Int32 × SM) := bd (m_SpeciesSolverModel_found  τ.2.2.2.2.2.2.2.1 τ.2.2.2.2.2.2.2.2.2.2.2.2.2.2.2.2.2.2.2.2.2.2.2.2.1 a1) (fun r => some (r, τ))
def sm_cost (F : Nat) (τ : SM)  : Option (Int32 × SM) := bd (m_SpeciesSolverModel_cost  τ.2.2.2.2.2.2.2.2.2.2.1 ) (fun r => some (r, τ))
def sm_count (F : Nat) (τ : SM)  : Option (Int64 × SM) := bd (m_SpeciesSolverModel_count F τ.2.2.1 τ.2.2.2.1 τ.2.2.2.2.1 τ.2.2.2.2.2.1 τ.2.2.2.2.2.2.2.2.2.2.2.2.2.2.2.2.2.2.2.2.1 τ.2.2.2.2.2.2.2.2.2.2.2.2.2.2.2.2.2.2.2.2.2.1 τ.2.2.2.2.2.2.2.2.2.2.2.2.2.2.2.2.2.2.2.2.2.2.1 τ.2.2.2.2.2.2.2.2.2.2.2.1 τ.2.2.2.2.2.2.2.2.2.2.2.2.1 τ.2.2.2.2.2.2.2.2.2.2.2.2.2.1 τ.2.2.2.2.2.2.2.2.2.2.2.2.2.2.1 τ.2.2.2.2.2.2.2.2.2.2.2.2.2.2.2.1 τ.2.2.2.2.2.2.2.2.2.2.2.2.2.2.2.2.1 τ.2.2.2.2.2.2.2.2.2.2.2.2.2.2.2.2.2.1 τ.2.2.2.2.2.2.2.2.2.2.2.2.2.2.2.2.2.2.2.2.2.2.2.2.2.1 τ.2.2.2.2.2.2.2.2.2.2.2.2.2.2.2.2.2.2.2.2.2.2.2.2.2.2.1 τ.2.2.2.2.2.2.2.2.2.2.2.2.2.2.2.2.2.2.2.2.2.2.2.2.2.2.2.1 τ.2.2.2.2.2.2.2.2.2.2.2.2.2.2.2.2.2.2.2.2.2.2.2.2.2.2.2.2.1 τ.2.2.2.2.2.2.2.2.2.2.2.2.2.2.2.2.2.2.2.2.2.2.2.2.2.2.2.2.2.1 τ.2.2.2.2.2.2.2.2.2.2.2.2.2.2.2.2.2.2.2.2.2.2.2.2.2.2.2.2.2.2.1 ) (fun r => some (r.1, (τ.1, τ.2.1, τ.2.2.1, τ.2.2.2.1, τ.2.2.2.2.1, τ.2.2.2.2.2.1, τ.2.2.2.2.2.2.1, τ.2.2.2.2.2.2.2.1, τ.2.2.2.2.2.2.2.2.1, τ.2.2.2.2.2.2.2.2.2.1, τ.2.2.2.2.2.2.2.2.2.2.1, r.2.1, r.2.2.1, r.2.2.2.1, r.2.2.2.2.1, r.2.2.2.2.2.1, r.2.2.2.2.2.2.1, r.2.2.2.2.2.2.2.1, τ.2.2.2.2.2.2.2.2.2.2.2.2.2.2.2.2.2.2.1, τ.2.2.2.2.2.2.2.2.2.2.2.2.2.2.2.2.2.2.2.1, τ.2.2.2.2.2.2.2.2.2.2.2.2.2.2.2.2.2.2.2.2.1, τ.2.2.2.2.2.2.2.2.2.2.2.2.2.2.2.2.2.2.2.2.2.1, τ.2.2.2.2.2.2.2.2.2.2.2.2.2.2.2.2.2.2.2.2.2.2.1, τ.2.2.2.2.2.2.2.2.2.2.2.2.2.2.2.2.2.2.2.2.2.2.2.1, τ.2.2.2.2.2.2.2.2.2.2.2.2.2.2.2.2.2.2.2.2.2.2.2.2.1, r.2.2.2.2.2.2.2.2.1, r.2.2.2.2.2.2.2.2.2.1, r.2.2.2.2.2.2.2.2.2.2.1, r.2.2.2.2.2.2.2.2.2.2.2.1, r.2.2.2.2.2.2.2.2.2.2.2.2.1, r.2.2.2.2.2.2.2.2.2.2.2.2.2, τ.2.2.2.2.2.2.2.2.2.2.2.2.2.2.2.2.2.2.2.2.2.2.2.2.2.2.2.2.2.2.2.1, τ.2.2.2.2.2.2.2.2.2.2.2.2.2.2.2.2.2.2.2.2.2.2.2.2.2.2.2.2.2.2.2.2.1, τ.2.2.2.2.2.2.2.2.2.2.2.2.2.2.2.2.2.2.2.2.2.2.2.2.2.2.2.2.2.2.2.2.2.1, τ.2.2.2.2.2.2.2.2.2.2.2.2.2.2.2.2.2.2.2.2.2.2.2.2.2.2.2.2.2.2.2.2.2.2)))
def sm_ties (F : Nat) (τ : SM)  : Option (Int64 × SM) := bd (m_SpeciesSolverModel_ties F τ.2.2.1 τ.2.2.2.1 τ.2.2.2.2.1 τ.2.2.2.2.2.1 τ.2.2.2.2.2.2.2.2.2.2.2.2.2.2.2.2.2.2.2.2.1 τ.2.2.2.2.2.2.2.2.2.2.2.2.2.2.2.2.2.2.2.2.2.1 τ.2.2.2.2.2.2.2.2.2.2.2.2.2.2.2.2.2.2.2.2.2.2.1 τ.2.2.2.2.2.2.2.2.2.2.2.1 τ.2.2.2.2.2.2.2.2.2.2.2.2.1 τ.2.2.2.2.2.2.2.2.2.2.2.2.2.1 τ.2.2.2.2.2.2.2.2.2.2.2.2.2.2.1 τ.2.2.2.2.2.2.2.2.2.2.2.2.2.2.2.1 τ.2.2.2.2.2.2.2.2.2.2.2.2.2.2.2.2.1 τ.2.2.2.2.2.2.2.2.2.2.2.2.2.2.2.2.2.1 τ.2.2.2.2.2.2.2.2.2.2.2.2.2.2.2.2.2.2.2.2.2.2.2.2.2.1 τ.2.2.2.2.2.2.2.2.2.2.2.2.2.2.2.2.2.2.2.2.2.2.2.2.2.2.1 τ.2.2.2.2.2.2.2.2.2.2.2.2.2.2.2.2.2.2.2.2.2.2.2.2.2.2.2.1 τ.2.2.2.2.2.2.2.2.2.2.2.2.2.2.2.2.2.2.2.2.2.2.2.2.2.2.2.2.1 τ.2.2.2.2.2.2.2.2.2.2.2.2.2.2.2.2.2.2.2.2.2.2.2.2.2.2.2.2.2.1 τ.2.2.2.2.2.2.2.2.2.2.2.2.2.2.2.2.2.2.2.2.2.2.2.2.2.2.2.2.2.2.1 ) (fun r => some (r.1, (τ.1, τ.2.1, τ.2.2.1, τ.2.2.2.1, τ.2.2.2.2.1, τ.2.2.2.2.2.1, τ.2.2.2.2.2.2.1, τ.2.2.2.2.2.2.2.1, τ.2.2.2.2.2.2.2.2.1, τ.2.2.2.2.2.2.2.2.2.1, τ.2.2.2.2.2.2.2.2.2.2.1, r.2.1, r.2.2.1, r.2.2.2.1, r.2.2.2.2.1, r.2.2.2.2.2.1, r.2.2.2.2.2.2.1, r.2.2.2.2.2.2.2.1, τ.2.2.2.2.2.2.2.2.2.2.2.2.2.2.2.2.2.2.1, τ.2.2.2.2.2.2.2.2.2.2.2.2.2.2.2.2.2.2.2.1, τ.2.2.2.2.2.2.2.2.2.2.2.2.2.2.2.2.2.2.2.2.1, τ.2.2.2.2.2.2.2.2.2.2.2.2.2.2.2.2.2.2.2.2.2.1, τ.2.2.2.2.2.2.2.2.2.2.2.2.2.2.2.2.2.2.2.2.2.2.1, τ.2.2.2.2.2.2.2.2.2.2.2.2.2.2.2.2.2.2.2.2.2.2.2.1, τ.2.2.2.2.2.2.2.2.2.2.2.2.2.2.2.2.2.2.2.2.2.2.2.2.1, r.2.2.2.2.2.2.2.2.1, r.2.2.2.2.2.2.2.2.2.1, r.2.2.2.2.2.2.2.2.2.2.1, r.2.2.2.2.2.2.2.2.2.2.2.1, r.2.2.2.2.2.2.2.2.2.2.2.2.1, r.2.2.2.2.2.2.2.2.2.2.2.2.2, τ.2.2.2.2.2.2.2.2.2.2.2.2.2.2.2.2.2.2.2.2.2.2.2.2.2.2.2.2.2.2.2.1, τ.2.2.2.2.2.2.2.2.2.2.2.2.2.2.2.2.2.2.2.2.2.2.2.2.2.2.2.2.2.2.2.2.1, τ.2.2.2.2.2.2.2.2.2.2.2.2.2.2.2.2.2.2.2.2.2.2.2.2.2.2.2.2.2.2.2.2.2.1, τ.2.2.2.2.2.2.2.2.2.2.2.2.2.2.2.2.2.2.2.2.2.2.2.2.2.2.2.2.2.2.2.2.2.2)))
def sm_reach (F : Nat) (τ : SM)  : Option (Int32 × SM) := bd (m_SpeciesSolverModel_reach F τ.2.2.1 τ.2.2.2.1 τ.2.2.2.2.1 τ.2.2.2.2.2.1 τ.2.2.2.2.2.2.2.2.2.2.2.2.2.2.2.2.2.2.2.2.1 τ.2.2.2.2.2.2.2.2.2.2.2.2.2.2.2.2.2.2.2.2.2.1 τ.2.2.2.2.2.2.2.2.2.2.2.2.2.2.2.2.2.2.2.2.2.2.1 τ.2.2.2.2.2.2.2.2.2.2.2.1 τ.2.2.2.2.2.2.2.2.2.2.2.2.2.2.2.2.2.2.2.2.2.2.2.2.2.1 τ.2.2.2.2.2.2.2.2.2.2.2.2.2.2.2.2.2.2.2.2.2.2.2.2.2.2.2.2.2.2.2.1 ) (fun r => some (r.1, (τ.1, τ.2.1, τ.2.2.1, τ.2.2.2.1, τ.2.2.2.2.1, τ.2.2.2.2.2.1, τ.2.2.2.2.2.2.1, τ.2.2.2.2.2.2.2.1, τ.2.2.2.2.2.2.2.2.1, τ.2.2.2.2.2.2.2.2.2.1, τ.2.2.2.2.2.2.2.2.2.2.1, r.2.1, τ.2.2.2.2.2.2.2.2.2.2.2.2.1, τ.2.2.2.2.2.2.2.2.2.2.2.2.2.1, τ.2.2.2.2.2.2.2.2.2.2.2.2.2.2.1, τ.2.2.2.2.2.2.2.2.2.2.2.2.2.2.2.1, τ.2.2.2.2.2.2.2.2.2.2.2.2.2.2.2.2.1, τ.2.2.2.2.2.2.2.2.2.2.2.2.2.2.2.2.2.1, τ.2.2.2.2.2.2.2.2.2.2.2.2.2.2.2.2.2.2.1, τ.2.2.2.2.2.2.2.2.2.2.2.2.2.2.2.2.2.2.2.1, τ.2.2.2.2.2.2.2.2.2.2.2.2.2.2.2.2.2.2.2.2.1, τ.2.2.2.2.2.2.2.2.2.2.2.2.2.2.2.2.2.2.2.2.2.1, τ.2.2.2.2.2.2.2.2.2.2.2.2.2.2.2.2.2.2.2.2.2.2.1, τ.2.2.2.2.2.2.2.2.2.2.2.2.2.2.2.2.2.2.2.2.2.2.2.1, τ.2.2.2.2.2.2.2.2.2.2.2.2.2.2.2.2.2.2.2.2.2.2.2.2.1, r.2.2.1, τ.2.2.2.2.2.2.2.2.2.2.2.2.2.2.2.2.2.2.2.2.2.2.2.2.2.2.1, τ.2.2.2.2.2.2.2.2.2.2.2.2.2.2.2.2.2.2.2.2.2.2.2.2.2.2.2.1, τ.2.2.2.2.2.2.2.2.2.2.2.2.2.2.2.2.2.2.2.2.2.2.2.2.2.2.2.2.1, τ.2.2.2.2.2.2.2.2.2.2.2.2.2.2.2.2.2.2.2.2.2.2.2.2.2.2.2.2.2.1, τ.2.2.2.2.2.2.2.2.2.2.2.2.2.2.2.2.2.2.2.2.2.2.2.2.2.2.2.2.2.2.1, r.2.2.2, τ.2.2.2.2.2.2.2.2.2.2.2.2.2.2.2.2.2.2.2.2.2.2.2.2.2.2.2.2.2.2.2.2.1, τ.2.2.2.2.2.2.2.2.2.2.2.2.2.2.2.2.2.2.2.2.2.2.2.2.2.2.2.2.2.2.2.2.2.1, τ.2.2.2.2.2.2.2.2.2.2.2.2.2.2.2.2.2.2.2.2.2.2.2.2.2.2.2.2.2.2.2.2.2.2)))
def sm_keep (F : Nat) (τ : SM)  : Option (Int32 × SM) := bd (m_SpeciesSolverModel_keep F τ.2.2.2.2.2.2.2.1 τ.2.2.2.2.2.2.2.2.1 τ.2.2.2.2.2.2.2.2.2.1 τ.2.2.2.2.2.2.2.2.2.2.2.2.2.2.2.2.2.2.2.2.2.2.2.2.1 τ.2.2.1 τ.2.2.2.1 τ.2.2.2.2.2.2.2.2.2.2.2.2.2.2.2.2.2.2.2.2.1 ) (fun r => some (r.1, (τ.1, τ.2.1, r.2.1, r.2.2.1, τ.2.2.2.2.1, τ.2.2.2.2.2.1, τ.2.2.2.2.2.2.1, τ.2.2.2.2.2.2.2.1, τ.2.2.2.2.2.2.2.2.1, τ.2.2.2.2.2.2.2.2.2.1, τ.2.2.2.2.2.2.2.2.2.2.1, τ.2.2.2.2.2.2.2.2.2.2.2.1, τ.2.2.2.2.2.2.2.2.2.2.2.2.1, τ.2.2.2.2.2.2.2.2.2.2.2.2.2.1, τ.2.2.2.2.2.2.2.2.2.2.2.2.2.2.1, τ.2.2.2.2.2.2.2.2.2.2.2.2.2.2.2.1, τ.2.2.2.2.2.2.2.2.2.2.2.2.2.2.2.2.1, τ.2.2.2.2.2.2.2.2.2.2.2.2.2.2.2.2.2.1, τ.2.2.2.2.2.2.2.2.2.2.2.2.2.2.2.2.2.2.1, τ.2.2.2.2.2.2.2.2.2.2.2.2.2.2.2.2.2.2.2.1, r.2.2.2, τ.2.2.2.2.2.2.2.2.2.2.2.2.2.2.2.2.2.2.2.2.2.1, τ.2.2.2.2.2.2.2.2.2.2.2.2.2.2.2.2.2.2.2.2.2.2.1, τ.2.2.2.2.2.2.2.2.2.2.2.2.2.2.2.2.2.2.2.2.2.2.2.1, τ.2.2.2.2.2.2.2.2.2.2.2.2.2.2.2.2.2.2.2.2.2.2.2.2.1, τ.2.2.2.2.2.2.2.2.2.2.2.2.2.2.2.2.2.2.2.2.2.2.2.2.2.1, τ.2.2.2.2.2.2.2.2.2.2.2.2.2.2.2.2.2.2.2.2.2.2.2.2.2.2.1, τ.2.2.2.2.2.2.2.2.2.2.2.2.2.2.2.2.2.2.2.2.2.2.2.2.2.2.2.1, τ.2.2.2.2.2.2.2.2.2.2.2.2.2.2.2.2.2.2.2.2.2.2.2.2.2.2.2.2.1, τ.2.2.2.2.2.2.2.2.2.2.2.2.2.2.2.2.2.2.2.2.2.2.2.2.2.2.2.2.2.1, τ.2.2.2.2.2.2.2.2.2.2.2.2.2.2.2.2.2.2.2.2.2.2.2.2.2.2.2.2.2.2.1, τ.2.2.2.2.2.2.2.2.2.2.2.2.2.2.2.2.2.2.2.2.2.2.2.2.2.2.2.2.2.2.2.1, τ.2.2.2.2.2.2.2.2.2.2.2.2.2.2.2.2.2.2.2.2.2.2.2.2.2.2.2.2.2.2.2.2.1, τ.2.2.2.2.2.2.2.2.2.2.2.2.2.2.2.2.2.2.2.2.2.2.2.2.2.2.2.2.2.2.2.2.2.1, τ.2.2.2.2.2.2.2.2.2.2.2.2.2.2.2.2.2.2.2.2.2.2.2.2.2.2.2.2.2.2.2.2.2.2)))
def sm_judge (F : Nat) (τ : SM)  : Option (Int32 × SM) := bd (m_SpeciesSolverModel_judge F τ.2.2.1 τ.2.2.2.1 τ.2.2.2.2.1 τ.2.2.2.2.2.1 τ.2.2.2.2.2.2.1 τ.2.2.2.2.2.2.2.2.2.2.2.2.2.2.2.2.2.2.2.2.1 τ.2.2.2.2.2.2.2.2.2.2.2.2.2.2.2.2.2.2.2.2.2.1 τ.2.2.2.2.2.2.2.2.2.2.2.2.2.2.2.2.2.2.2.2.2.2.1 τ.2.2.2.2.2.2.2.2.2.2.2.2.2.2.2.2.2.2.2.2.2.2.2.1 τ.2.2.2.2.2.2.2.2.2.2.2.2.2.2.2.2.2.2.1 τ.2.2.2.2.2.2.2.2.2.2.2.2.2.2.2.2.2.2.2.2.2.2.2.2.2.2.2.2.2.2.2.2.1 τ.2.2.2.2.2.2.2.2.2.2.2.2.2.2.2.2.2.2.2.2.2.2.2.2.2.2.2.2.2.2.2.2.2.1 τ.2.2.2.2.2.2.2.2.2.2.2.2.2.2.2.2.2.2.2.2.2.2.2.2.2.2.2.2.2.2.2.2.2.2 ) (fun r => some (r.1, (τ.1, τ.2.1, τ.2.2.1, τ.2.2.2.1, τ.2.2.2.2.1, τ.2.2.2.2.2.1, τ.2.2.2.2.2.2.1, τ.2.2.2.2.2.2.2.1, τ.2.2.2.2.2.2.2.2.1, τ.2.2.2.2.2.2.2.2.2.1, τ.2.2.2.2.2.2.2.2.2.2.1, τ.2.2.2.2.2.2.2.2.2.2.2.1, τ.2.2.2.2.2.2.2.2.2.2.2.2.1, τ.2.2.2.2.2.2.2.2.2.2.2.2.2.1, τ.2.2.2.2.2.2.2.2.2.2.2.2.2.2.1, τ.2.2.2.2.2.2.2.2.2.2.2.2.2.2.2.1, τ.2.2.2.2.2.2.2.2.2.2.2.2.2.2.2.2.1, τ.2.2.2.2.2.2.2.2.2.2.2.2.2.2.2.2.2.1, r.2.1, τ.2.2.2.2.2.2.2.2.2.2.2.2.2.2.2.2.2.2.2.1, τ.2.2.2.2.2.2.2.2.2.2.2.2.2.2.2.2.2.2.2.2.1, τ.2.2.2.2.2.2.2.2.2.2.2.2.2.2.2.2.2.2.2.2.2.1, τ.2.2.2.2.2.2.2.2.2.2.2.2.2.2.2.2.2.2.2.2.2.2.1, τ.2.2.2.2.2.2.2.2.2.2.2.2.2.2.2.2.2.2.2.2.2.2.2.1, τ.2.2.2.2.2.2.2.2.2.2.2.2.2.2.2.2.2.2.2.2.2.2.2.2.1, τ.2.2.2.2.2.2.2.2.2.2.2.2.2.2.2.2.2.2.2.2.2.2.2.2.2.1, τ.2.2.2.2.2.2.2.2.2.2.2.2.2.2.2.2.2.2.2.2.2.2.2.2.2.2.1, τ.2.2.2.2.2.2.2.2.2.2.2.2.2.2.2.2.2.2.2.2.2.2.2.2.2.2.2.1, τ.2.2.2.2.2.2.2.2.2.2.2.2.2.2.2.2.2.2.2.2.2.2.2.2.2.2.2.2.1, τ.2.2.2.2.2.2.2.2.2.2.2.2.2.2.2.2.2.2.2.2.2.2.2.2.2.2.2.2.2.1, τ.2.2.2.2.2.2.2.2.2.2.2.2.2.2.2.2.2.2.2.2.2.2.2.2.2.2.2.2.2.2.1, τ.2.2.2.2.2.2.2.2.2.2.2.2.2.2.2.2.2.2.2.2.2.2.2.2.2.2.2.2.2.2.2.1, r.2.2.1, r.2.2.2.1, r.2.2.2.2)))
def sm_fault (F : Nat) (τ : SM) (a1 : Int32) (a2 : Int32) : Option (Int32 × SM) := bd (m_SpeciesSolverModel_fault  τ.2.2.2.2.2.2.2.2.2.2.2.2.2.2.2.2.2.2.1 τ.2.2.2.2.2.2.2.2.2.2.2.2.2.2.2.2.2.2.2.2.2.2.2.2.2.2.2.2.2.2.2.2.1 τ.2.2.2.2.2.2.2.2.2.2.2.2.2.2.2.2.2.2.2.2.2.2.2.2.2.2.2.2.2.2.2.2.2.1 τ.2.2.2.2.2.2.2.2.2.2.2.2.2.2.2.2.2.2.2.2.2.2.2.2.2.2.2.2.2.2.2.2.2.2 a1 a2) (fun r => some (r, τ))
def sm_tried (F : Nat) (τ : SM)  : Option (Int32 × SM) := bd (m_SpeciesSolverModel_tried F τ.2.2.1 τ.2.2.2.1 τ.2.2.2.2.1 τ.2.2.2.2.2.2.1 τ.2.2.2.2.2.2.2.2.2.2.2.2.2.2.2.2.2.2.2.2.1 τ.2.2.2.2.2.2.2.2.2.2.2.2.2.2.2.2.2.2.2.2.2.2.1 τ.2.2.2.2.2.2.2.2.2.2.2.2.2.2.2.2.2.2.2.2.2.2.2.1 ) (fun r => some (r, τ))
def sm_told (F : Nat) (τ : SM) (a1 : Int32) : Option (Int32 × SM) := bd (m_SpeciesSolverModel_told  τ.2.1 τ.2.2.1 τ.2.2.2.1 τ.2.2.2.2.1 τ.2.2.2.2.2.2.1 τ.2.2.2.2.2.2.2.1 a1) (fun r => some (r, τ))
def m_law_b (F L : Nat) (xs : Nat → Int32) (k : SC → SM → Int32 → Option Int32) (σ : SC) (τ : SM) (x3 : Int32) : Option Int32 :=
  (if ((Int32.ofNat L) - (3 : Int32)) < x3 then (some (1 : Int32))
  else (gd x3 L (if ((xs (Int32.toNatClampNeg x3)) &&& (31 : Int32)) = (0 : Int32) then (gd (x3 + (1 : Int32)) L (bd (sc_note F σ (xs (Int32.toNatClampNeg (x3 + (1 : Int32))))) (fun u5 => (gd (x3 + (1 : Int32)) L (bd (sm_note F τ (xs (Int32.toNatClampNeg (x3 + (1 : Int32))))) (fun u11 => k u5.2 u11.2 (x3 + 3)))))))
  else (if ((xs (Int32.toNatClampNeg x3)) &&& (31 : Int32)) = (1 : Int32) then (bd (sc_give F σ ) (fun u17 => (bd (sm_give F τ ) (fun u22 => k u17.2 u22.2 (x3 + 3)))))
  else (if ((xs (Int32.toNatClampNeg x3)) &&& (31 : Int32)) = (2 : Int32) then (bd (sc_attempt F σ ) (fun u28 => (bd (sm_attempt F τ ) (fun u33 => k u28.2 u33.2 (x3 + 3)))))
  else (if ((xs (Int32.toNatClampNeg x3)) &&& (31 : Int32)) = (3 : Int32) then (bd (sc_drop F σ ) (fun u39 => (bd (sm_drop F τ ) (fun u44 => k u39.2 u44.2 (x3 + 3)))))
  else (if ((xs (Int32.toNatClampNeg x3)) &&& (31 : Int32)) = (4 : Int32) then (gd (x3 + (1 : Int32)) L (gd (x3 + (2 : Int32)) L (if (xs (Int32.toNatClampNeg (x3 + (2 : Int32)))) = (0 : Int32) then (bd (sc_species F σ (xs (Int32.toNatClampNeg (x3 + (1 : Int32)))) (0 : Int32)) (fun u53 => (gd (x3 + (1 : Int32)) L (gd (x3 + (2 : Int32)) L (if (xs (Int32.toNatClampNeg (x3 + (2 : Int32)))) = (0 : Int32) then (bd (sm_species F τ (xs (Int32.toNatClampNeg (x3 + (1 : Int32)))) (0 : Int32)) (fun u61 => (if u53.1 = u61.1 then k u53.2 u61.2 (x3 + 3)
  else (some (0 : Int32)))))
  else (bd (sm_species F τ (xs (Int32.toNatClampNeg (x3 + (1 : Int32)))) (1 : Int32)) (fun u67 => (if u53.1 = u67.1 then k u53.2 u67.2 (x3 + 3)
  else (some (0 : Int32))))))))))
  else (bd (sc_species F σ (xs (Int32.toNatClampNeg (x3 + (1 : Int32)))) (1 : Int32)) (fun u73 => (gd (x3 + (1 : Int32)) L (gd (x3 + (2 : Int32)) L (if (xs (Int32.toNatClampNeg (x3 + (2 : Int32)))) = (0 : Int32) then (bd (sm_species F τ (xs (Int32.toNatClampNeg (x3 + (1 : Int32)))) (0 : Int32)) (fun u81 => (if u73.1 = u81.1 then k u73.2 u81.2 (x3 + 3)
  else (some (0 : Int32)))))
  else (bd (sm_species F τ (xs (Int32.toNatClampNeg (x3 + (1 : Int32)))) (1 : Int32)) (fun u87 => (if u73.1 = u87.1 then k u73.2 u87.2 (x3 + 3)
  else (some (0 : Int32)))))))))))))
  else (if ((xs (Int32.toNatClampNeg x3)) &&& (31 : Int32)) = (5 : Int32) then (gd (x3 + (1 : Int32)) L (gd (x3 + (2 : Int32)) L (if (xs (Int32.toNatClampNeg (x3 + (2 : Int32)))) = (0 : Int32) then (bd (sc_rule F σ (xs (Int32.toNatClampNeg (x3 + (1 : Int32)))) (0 : Int32)) (fun u97 => (gd (x3 + (1 : Int32)) L (gd (x3 + (2 : Int32)) L (if (xs (Int32.toNatClampNeg (x3 + (2 : Int32)))) = (0 : Int32) then (bd (sm_rule F τ (xs (Int32.toNatClampNeg (x3 + (1 : Int32)))) (0 : Int32)) (fun u105 => k u97.2 u105.2 (x3 + 3)))
  else (bd (sm_rule F τ (xs (Int32.toNatClampNeg (x3 + (1 : Int32)))) (1 : Int32)) (fun u110 => k u97.2 u110.2 (x3 + 3))))))))
  else (bd (sc_rule F σ (xs (Int32.toNatClampNeg (x3 + (1 : Int32)))) (1 : Int32)) (fun u115 => (gd (x3 + (1 : Int32)) L (gd (x3 + (2 : Int32)) L (if (xs (Int32.toNatClampNeg (x3 + (2 : Int32)))) = (0 : Int32) then (bd (sm_rule F τ (xs (Int32.toNatClampNeg (x3 + (1 : Int32)))) (0 : Int32)) (fun u123 => k u115.2 u123.2 (x3 + 3)))
  else (bd (sm_rule F τ (xs (Int32.toNatClampNeg (x3 + (1 : Int32)))) (1 : Int32)) (fun u128 => k u115.2 u128.2 (x3 + 3)))))))))))
  else (if ((xs (Int32.toNatClampNeg x3)) &&& (31 : Int32)) = (6 : Int32) then (gd (x3 + (1 : Int32)) L (gd (x3 + (2 : Int32)) L (bd (sc_number F σ (xs (Int32.toNatClampNeg (x3 + (1 : Int32)))) (xs (Int32.toNatClampNeg (x3 + (2 : Int32))))) (fun u136 => (gd (x3 + (1 : Int32)) L (gd (x3 + (2 : Int32)) L (bd (sm_number F τ (xs (Int32.toNatClampNeg (x3 + (1 : Int32)))) (xs (Int32.toNatClampNeg (x3 + (2 : Int32))))) (fun u143 => k u136.2 u143.2 (x3 + 3)))))))))
  else (if ((xs (Int32.toNatClampNeg x3)) &&& (31 : Int32)) = (7 : Int32) then (gd (x3 + (1 : Int32)) L (bd (sc_setting F σ (xs (Int32.toNatClampNeg (x3 + (1 : Int32))))) (fun u150 => (gd (x3 + (1 : Int32)) L (bd (sm_setting F τ (xs (Int32.toNatClampNeg (x3 + (1 : Int32))))) (fun u156 => k u150.2 u156.2 (x3 + 3)))))))
  else (if ((xs (Int32.toNatClampNeg x3)) &&& (31 : Int32)) = (8 : Int32) then (bd (sc_choice F σ ) (fun u162 => (bd (sm_choice F τ ) (fun u167 => k u162.2 u167.2 (x3 + 3)))))
  else (if ((xs (Int32.toNatClampNeg x3)) &&& (31 : Int32)) = (9 : Int32) then (bd (sc_solve F σ ) (fun u173 => (bd (sm_solve F τ ) (fun u178 => k u173.2 u178.2 (x3 + 3)))))
  else (if ((xs (Int32.toNatClampNeg x3)) &&& (31 : Int32)) = (10 : Int32) then (gd (x3 + (1 : Int32)) L (bd (sc_found F σ (xs (Int32.toNatClampNeg (x3 + (1 : Int32))))) (fun u185 => (gd (x3 + (1 : Int32)) L (bd (sm_found F τ (xs (Int32.toNatClampNeg (x3 + (1 : Int32))))) (fun u191 => k u185.2 u191.2 (x3 + 3)))))))
  else (if ((xs (Int32.toNatClampNeg x3)) &&& (31 : Int32)) = (11 : Int32) then (bd (sc_cost F σ ) (fun u197 => (bd (sm_cost F τ ) (fun u202 => k u197.2 u202.2 (x3 + 3)))))
  else (if ((xs (Int32.toNatClampNeg x3)) &&& (31 : Int32)) = (12 : Int32) then (bd (sc_count F σ ) (fun u208 => (bd (sm_count F τ ) (fun u213 => k u208.2 u213.2 (x3 + 3)))))
  else (if ((xs (Int32.toNatClampNeg x3)) &&& (31 : Int32)) = (13 : Int32) then (bd (sc_ties F σ ) (fun u219 => (bd (sm_ties F τ ) (fun u224 => k u219.2 u224.2 (x3 + 3)))))
  else (if ((xs (Int32.toNatClampNeg x3)) &&& (31 : Int32)) = (14 : Int32) then (bd (sc_reach F σ ) (fun u230 => (bd (sm_reach F τ ) (fun u235 => k u230.2 u235.2 (x3 + 3)))))
  else (if ((xs (Int32.toNatClampNeg x3)) &&& (31 : Int32)) = (15 : Int32) then (bd (sc_keep F σ ) (fun u241 => (bd (sm_keep F τ ) (fun u246 => k u241.2 u246.2 (x3 + 3)))))
  else (if ((xs (Int32.toNatClampNeg x3)) &&& (31 : Int32)) = (16 : Int32) then (bd (sc_judge F σ ) (fun u252 => (bd (sm_judge F τ ) (fun u257 => k u252.2 u257.2 (x3 + 3)))))
  else (if ((xs (Int32.toNatClampNeg x3)) &&& (31 : Int32)) = (17 : Int32) then (gd (x3 + (1 : Int32)) L (gd (x3 + (2 : Int32)) L (bd (sc_fault F σ (xs (Int32.toNatClampNeg (x3 + (1 : Int32)))) (xs (Int32.toNatClampNeg (x3 + (2 : Int32))))) (fun u265 => (gd (x3 + (1 : Int32)) L (gd (x3 + (2 : Int32)) L (bd (sm_fault F τ (xs (Int32.toNatClampNeg (x3 + (1 : Int32)))) (xs (Int32.toNatClampNeg (x3 + (2 : Int32))))) (fun u272 => k u265.2 u272.2 (x3 + 3)))))))))
  else (if ((xs (Int32.toNatClampNeg x3)) &&& (31 : Int32)) = (18 : Int32) then (bd (sc_tried F σ ) (fun u278 => (bd (sm_tried F τ ) (fun u283 => k u278.2 u283.2 (x3 + 3)))))
  else (if ((xs (Int32.toNatClampNeg x3)) &&& (31 : Int32)) = (19 : Int32) then (gd (x3 + (1 : Int32)) L (bd (sc_told F σ (xs (Int32.toNatClampNeg (x3 + (1 : Int32))))) (fun u290 => (gd (x3 + (1 : Int32)) L (bd (sm_told F τ (xs (Int32.toNatClampNeg (x3 + (1 : Int32))))) (fun u296 => k u290.2 u296.2 (x3 + 3)))))))
  else k σ τ (x3 + 3)))))))))))))))))))))))
def m_law_l (F L : Nat) (xs : Nat → Int32) : Nat → SC → SM → Int32 → Option Int32
  | 0 => fun _ _ _ => none
  | n + 1 => m_law_b F L xs (m_law_l F L xs n)
def sc0 (r : (Nat → Int32) × (Nat → Int32)) : SC := ((-1 : Int32), (1 : Int32), (0 : Int32), (0 : Int32), (0 : Int32), (0 : Int32), (1 : Int32), (1 : Int32), r.1, r.2, (fun _ _ => 0), (0 : Int32), (0 : Int32), (0 : Int32), (fun _ => 0), (fun _ => 0), (fun _ => 0), (0 : Int32), (0 : Int32), (1 : Int32), (0 : Int32), (fun _ => 0), (fun _ => 0), (fun _ => 0), (fun _ => 0), (fun _ => 0), (fun _ => 0), (fun _ => 0), (fun _ => 0), (fun _ => 0), (0 : Int32), (0 : Int32), (0 : Int32), (-1 : Int32), (0 : Int64), (0 : Int64), (fun _ => 0), (fun _ => 0), (fun _ => 0), (fun _ => 0), (fun _ => 0), (fun _ => 0), (fun _ => 0), (fun _ => 0), (fun _ => 0), (fun _ => 0), (0 : Int32), (fun _ => 0), (0 : Int32), (fun _ => 0), (0 : Int32), (fun _ => 0))
def sm0 (r : (Nat → Int32) × (Nat → Int32)) : SM := ((0 : Int32), (0 : Int32), (0 : Int32), (0 : Int32), (1 : Int32), (1 : Int32), (0 : Int32), (0 : Int32), (0 : Int32), (0 : Int32), (-1 : Int32), (0 : Int32), (0 : Int32), (0 : Int64), (0 : Int64), (0 : Int32), (0 : Int64), (0 : Int64), (0 : Int32), (fun _ => 0), (fun _ => 0), r.1, r.2, (fun _ => 0), (fun _ => 0), (fun _ => 0), (fun _ => 0), (fun _ => 0), (fun _ => 0), (fun _ => 0), (fun _ => 0), (fun _ => 0), (fun _ => 0), (fun _ => 0), (fun _ => 0))
def m_law (F L : Nat) (xs : Nat → Int32) : Option Int32 := bd (m_SpeciesSolver_init F) (fun u => bd (m_SpeciesSolverModel_init F) (fun v => m_law_l F L xs F (sc0 u) (sm0 v) 0))
