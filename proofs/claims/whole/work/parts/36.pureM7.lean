def jm_rmT (K Z Y : Nat → Nat) (u : Nat) : Nat := if jm_badPath u = 0 then (if (jm_lead K Z Y u).1 = 0 then 2 else match (jm_lead K Z Y u).2.2.2.1 with
  | none => 2
  | some f => match (jm_lead K Z Y u).2.1 with
    | none => 3
    | some _ => if K f = 2 then (if Z f = 0 then 0 else 3) else 0) else 1
/-- the bytes behind dropEntry(d, e) -/
def jm_drY (Z Y : Nat → Nat) (d e : Nat) : Nat → Nat := jm_resY (ju (ju Y (d * 64 + e * 2) (Y (d * 64 + (Z d - 2)))) (d * 64 + e * 2 + 1) (ju Y (d * 64 + e * 2) (Y (d * 64 + (Z d - 2))) (d * 64 + (Z d - 2) + 1))) d (Z d - 2)
