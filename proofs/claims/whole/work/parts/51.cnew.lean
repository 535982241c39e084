/-! ===== what is new ===== -/
def cup0 (x : Int32) : Nat → Int32 := fun w => if w = 0 then 10 else if w = 2 then x else if w = 4 then -1 else if w = 5 then 1 else 0
def hc0 : HC := (fun j => if j = 5 then 3 else if j = 7 then 24 else 0, fun k => cup0 (nI (k + 1)))
theorem z_mid {α : Type} {a b c : List α} : ((a ++ b) ++ c).Perm ((a ++ c) ++ b) := by
  rw [List.append_assoc, List.append_assoc]
  exact List.Perm.append_left a List.perm_append_comm
