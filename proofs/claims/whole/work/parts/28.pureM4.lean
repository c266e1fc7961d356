theorem jm_wrong_0 {K N I O M : Nat → Nat} {h a b : Nat} (e : jm_wrong K N I O M h a b = 0) : h ≤ 5 ∧ 1 ≤ I h := by
  unfold jm_wrong at e
  split at e
  · cases e
  · split at e
    · cases e
    · omega
theorem ju_self (f : Nat → Nat) (a v : Nat) : ju f a v a = v := by simp [ju]
def jm_seekT (K N I O M : Nat → Nat) (h p : Nat) : Nat := if 5 < h then 1 else if 64 < p then 1 else jm_wrong K N I O M h 1 2
def jm_cnA (K : Nat → Nat) : Nat → Nat → Nat → Nat
  | 0, _, f => f
  | n + 1, i, f => jm_cnA K n (i + 1) (if K i = 0 then f + 1 else f)
def jm_cnB (K N I O M : Nat → Nat) (z : Nat) : Nat → Nat → Nat → Nat
  | 0, _, f => f
  | n + 1, h, f => jm_cnB K N I O M z n (h + 1) (if I h = 0 then f else if z = 2 then f + 1 else if jm_stale K N I O M h = 0 then f else f + 1)
def jm_count (K Z N B Y I O M : Nat → Nat) (wr ofs z : Nat) : Option Nat :=
  if z = 0 then some (jm_free B) else if z = 3 then some (jm_differing K Z N B Y) else if z = 4 then some wr else if z = 5 then some ofs
  else if z = 1 then some (jm_cnA K 12 0 0) else if z = 2 then some (jm_cnB K N I O M z 6 0 0) else if z = 6 then some (jm_cnB K N I O M z 6 0 0) else none
section JD2
variable {p : Program} {l : Launch} {e : Env} {R : Room} {s : State} {m : MethodId} {args : Array Value} {below : List Frame} {meth : Method} {c : Code} {H : Heap} {locs : List Loc} {cells slots : Nat} {Q : State → Prop}
variable {cc : ByteArray} {pc : Nat} {ls : Array Slot} {rest : List Value}
end JD2
