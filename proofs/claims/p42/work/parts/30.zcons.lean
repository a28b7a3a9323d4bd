/-! the tag of a Sand, its constructor -/
def z_tS : Nat := 16
def z_sI : Nat := 59
