/-! what a slot of a class holds -/
def xe_kd (c j : Nat) : Nat := (xt_kd.getD c []).getD j 9
