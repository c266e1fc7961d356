def jm_cmT (d ct : Nat) (cp cr : (Nat → Nat) → (Nat → Nat)) (X : Nat → Nat) : Nat → Nat := if d = 0 then X else if ct = 0 then cp X else if 2 * d + 1 < ct then cp X else if d + 1 < ct then cr (cp X) else cr X
def jm_cmR (d ct : Nat) : Nat := if d = 0 then 0 else if ct = 0 then 2 * d + 1 else if 2 * d + 1 < ct then 2 * d + 1 else 0
def jm_cmC (d ct : Nat) : Nat := if d = 0 then ct else if ct = 0 then 0 else if 2 * d + 1 < ct then ct - (2 * d + 1) else 0
def jm_cmW (d ct wr : Nat) : Nat := if d = 0 then wr else if ct = 0 then wr + (2 * d + 1) else if 2 * d + 1 < ct then wr + (2 * d + 1) else wr + (ct - 1)
def jm_cmH (d ct : Nat) : Nat := if d = 0 then 0 else if ct = 0 then 0 else if 2 * d + 1 < ct then 0 else 1
def jm_cmI (d ct : Nat) (I : Nat → Nat) : Nat → Nat := if d = 0 then I else if ct = 0 then I else if 2 * d + 1 < ct then I else jm_clL 6 0 I
def jm_cmO (d ct ofs : Nat) : Nat := if d = 0 then ofs else if ct = 0 then ofs else if 2 * d + 1 < ct then ofs else ofs + 1
