def jm_opC {α : Type} (o : Option Nat) (a b : α) : α := match o with
  | none => a
  | some _ => b
def jm_opT (K Z B Y I : Nat → Nat) (u z cr : Nat) : Nat := if jm_badPath u = 0 then (if 1 ≤ z ∧ z ≤ 4 then (if (jm_lead K Z Y u).1 = 0 then 2 else match (jm_lead K Z Y u).2.2.2.1 with
  | none => if cr = 0 then 2 else if jf_wrs z = 0 then 2 else if jm_closedHandle I = 6 then 4 else if jm_newInode K = 12 then 4 else if jm_entryRoom Z B ((jm_lead K Z Y u).2.1.getD 0) 0 = 0 then 4 else 0
  | some f => if z = 4 then (if K f = 2 then (if jm_closedHandle I = 6 then 4 else 0) else 3) else (if K f = 1 then (if jm_closedHandle I = 6 then 4 else 0) else 3)) else 1) else 1
