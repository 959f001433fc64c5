/-! numbers of drives in a line -/
def z_le11 (x : Int32) : Prop := 0 ≤ x.toInt ∧ x.toInt ≤ 11
