def stC : String := "SpeciesSolver"
def stN : Nat → String := fun k => match k with
  | 0 => "AT_FIRST"
  | 1 => "LEAST"
  | _ => "MOST"
def stab : Nat → Nat → Int32 := fun k j => match k with
  | 0 => ([2741, 60, 72, 921, 129, 129, 1, 3136, 2, 12, 4, 1, 5, 3, 1, 2, 1, 1] : List Int32).getD j 0
  | 1 => ([0, 0, 0, 0, 0, 0, 0, 0, 1, 1, 1, 1, 0, 0, 0, 0, 0, 0] : List Int32).getD j 0
  | _ => ([4095, 127, 127, 4095, 4095, 4095, 4095, 33554431, 12, 24, 24, 3, 1000, 1000, 1000, 1000, 1000, 1000] : List Int32).getD j 0