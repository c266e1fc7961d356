theorem jl_swOut32 {p : Program} {l : Launch} {e : Env} {R : Room} {s : State} {m : MethodId} {args : Array Value} {below : List Frame} {meth : Method} {c : Code} {H : Heap} {locs : List Loc} {cells slots : Nat} {Q : State → Prop} {cc : ByteArray} {pc : Nat} {ls : Array Slot} {rest : List Value} (hx : p.tables.exec = Jvm.exec) (hb : c.code = cc) {dflt hi : Int} {offs : Array Int} {len a : Nat} {tgt : Nat} (hd : decode cc pc = .ok (.tableswitch dflt 0 hi offs, len)) (ha : a < 4294967296) (h1 : hi < (a : Int)) (ht : (pc : Int) + dflt = (tgt : Int))
    (k : W p l e R s m args below meth c H locs cells slots Q (F0 m tgt ls rest)) : W p l e R s m args below meth c H locs cells slots Q (F0 m pc ls (.int (nI a) :: rest)) := by
  rcases Nat.lt_or_ge a 2147483648 with h | h
  · exact jl_swOut hx hb hd (by omega) h1 ht k
  · have hn := jl_neg32 h ha
    rw [Int32.lt_iff_toInt_lt, Int32.toInt_zero] at hn
    exact lv_tableOut hx hb hd (Or.inl hn) ht k
def jf_closeT (ho : Nat → Nat) (h : Nat) : Nat := if jf_rng h 0 5 = 0 then (if ho h = 0 then 3 else 0) else jf_rng h 0 5
def jf_seekT (s ho hn hg hm : Nat → Nat) (h z : Nat) : Nat := if jf_rng h 0 5 = 0 then (if jf_rng z 0 64 = 0 then (if jf_usT s ho hn hg hm h = 0 then (if hm h = 4 then 3 else 0) else jf_usT s ho hn hg hm h) else jf_rng z 0 64) else jf_rng h 0 5
def jf_nextT (s ho hn hg hm : Nat → Nat) (h : Nat) : Nat := if jf_rng h 0 5 = 0 then (if jf_usT s ho hn hg hm h = 0 then (if hm h = 4 then 0 else 3) else jf_usT s ho hn hg hm h) else jf_rng h 0 5
def jf_blockT (b i : Nat) : Nat := if jf_rng b 0 39 = 0 then jf_rng i 0 15 else jf_rng b 0 39
def jf_statT (s : Nat → Nat) (u z : Nat) : Nat := if jf_path u = 0 then (if jf_rng z 0 4 = 0 then jf_inT s u else jf_rng z 0 4) else jf_path u
def jf_statR (s : Nat → Nat) (i z : Nat) : Nat := if z = 0 then jf_kind s i else if z = 1 then jf_size s i else if z = 2 then i else if z = 3 then jf_gen s i else jf_entries s i
def jf_count (s c ho hn hg hm : Nat → Nat) (wd tf z : Nat) : Option Nat := if z = 0 then some (jf_free s) else if z = 1 then some (jf_freeInodes s) else if z = 2 then some (jf_ohL ho 6 0 0) else if z = 3 then some (jf_differing s c) else if z = 4 then some wd else if z = 5 then some tf else if z = 6 then some (jf_shL s ho hn hg hm 6 0 0) else none
def jf_truT (s : Nat → Nat) (u z : Nat) : Nat := if jf_path u = 0 then (if jf_rng z 0 64 = 0 then (if jf_inT s u = 0 then (if jf_kind s ((jf_inodeAt s u).getD 0) = 1 then jf_rsT s ((jf_inodeAt s u).getD 0) z else 3) else jf_inT s u) else jf_rng z 0 64) else jf_path u
def jf_cmJ (d : Nat) : Nat := if d = 0 then 0 else d + 1
def jf_cT (d wc : Nat) : Nat := if wc = 0 then 0 else if jf_cmJ d + d < wc then 0 else 3
theorem jf_dfbL_le (s c : Nat → Nat) : ∀ n b d, jf_dfbL s c n b d ≤ d + n := by
  intro n
  induction n with
  | zero => intro b f; exact Nat.le_refl _
  | succ n ih =>
    intro b d
    have := ih (b + 1) (if jf_differs s c b = 0 then d else d + 1)
    unfold jf_dfbL
    split at this <;> rename_i h <;> simp only [h, if_true, if_false] <;> omega
theorem jf_differing_le (s c : Nat → Nat) : jf_differing s c ≤ 40 := by
  have := jf_dfbL_le s c 40 0 0
  unfold jf_differing
  omega
