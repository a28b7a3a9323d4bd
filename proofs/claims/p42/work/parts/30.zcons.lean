/-! the tag of a Sand, its constructor -/
def z_tS : Nat := 16
def z_sI : Nat := 59
/-- what keeps an act -/
def z_kI : Nat := 121
