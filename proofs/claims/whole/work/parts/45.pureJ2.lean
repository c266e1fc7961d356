def jf_inT (s : Nat → Nat) (u : Nat) : Nat := match jf_inodeAt s u with
  | none => 2
  | some _ => 0
def jf_paT (s : Nat → Nat) (u : Nat) : Nat := match jf_inodeAt s (u / 2 ^ 8) with
  | none => 2
  | some p => if jf_kind s p = 2 then 0 else 2
theorem jf_getD_lt {s : Nat → Nat} (hs : jf_ok s) (u : Nat) : (jf_inodeAt s u).getD 0 < 256 := by
  cases h : jf_inodeAt s u with
  | none => decide
  | some j => exact jf_inodeAt_lt hs h
def jf_rnT (s : Nat → Nat) (d : Nat) : Nat := match jf_leastFree s with
  | none => 4
  | some _ => if jf_hasRoomForEntry s d = 0 then 4 else 0
def jf_rsT (s : Nat → Nat) (i z : Nat) : Nat := if 64 < z then 4 else if jf_hasRoomForSize s i z = 0 then 4 else 0
def jf_new (s : Nat → Nat) (d nm k : Nat) : Nat → Nat := jf_addEntry (jf_occupy s ((jf_leastFree s).getD 0) k) d nm ((jf_leastFree s).getD 0)
def jf_clT (ho : Nat → Nat) : Nat → Nat → Option Nat
  | 0, _ => none
  | n + 1, h => if ho h = 0 then some h else jf_clT ho n (h + 1)
def jf_closed (ho : Nat → Nat) : Option Nat := jf_clT ho 6 0
def jf_chT (ho : Nat → Nat) : Nat := match jf_closed ho with
  | none => 4
  | some _ => 0
def jf_stale (s hn hg hm : Nat → Nat) (h : Nat) : Nat := if jf_kind s (hn h) = jf_kf (hm h) then (if jf_gen s (hn h) = hg h then 0 else 1) else 1
theorem jf_stale_lt (s hn hg hm : Nat → Nat) (h : Nat) : jf_stale s hn hg hm h < 2 := by
  unfold jf_stale
  split
  · split <;> decide
  · decide
def jf_usT (s ho hn hg hm : Nat → Nat) (h : Nat) : Nat := if ho h = 0 then 3 else if jf_stale s hn hg hm h = 0 then 0 else 3
def jf_mvT (s : Nat → Nat) (u v moved : Nat) (rep : Option Nat) : Nat := if u = 0 then 3 else if v = 0 then 3 else if jf_below v u = 0 then (match rep with
  | none => 0
  | some r => if jf_kind s moved = 1 then (if jf_kind s r = 1 then 0 else 3) else 3) else 3
def jf_ohL (ho : Nat → Nat) : Nat → Nat → Nat → Nat
  | 0, _, f => f
  | n + 1, h, f => jf_ohL ho n (h + 1) (if ho h = 0 then f else f + 1)
def jf_shL (s ho hn hg hm : Nat → Nat) : Nat → Nat → Nat → Nat
  | 0, _, f => f
  | n + 1, h, f => jf_shL s ho hn hg hm n (h + 1) (if ho h = 0 then f else if jf_stale s hn hg hm h = 0 then f else f + 1)
def jf_lpL : Nat → Nat → (Nat → Nat) → (Nat → Nat)
  | 0, _, ho => ho
  | n + 1, h, ho => jf_lpL n (h + 1) (ju ho h 0)
