/-! The class as functions of numbers. s: THE STATE's bytes, c: COMMITTED's -/
def jf_ok (s : Nat → Nat) : Prop := ∀ k, s k < 256
def jf_get (s : Nat → Nat) (a : Nat) : Nat := if a < 640 then s a else 0
def jf_put (s : Nat → Nat) (a v : Nat) : Nat → Nat := if a < 640 then ju s a v else s
theorem jf_get_lt {s : Nat → Nat} (hs : jf_ok s) (a : Nat) : jf_get s a < 256 := by
  unfold jf_get
  split
  · exact hs a
  · decide
theorem jf_put_ok {s : Nat → Nat} (hs : jf_ok s) (a : Nat) {v : Nat} (hv : v < 256) : jf_ok (jf_put s a v) := by
  intro k
  unfold jf_put
  split
  · unfold ju
    split
    · exact hv
    · exact hs k
  · exact hs k
def jf_clr (x k : Nat) : Nat := x - 2 ^ k * (x / 2 ^ k % 2)
theorem jf_bits : ∀ x, x < 256 → ∀ k, k < 8 → nI x &&& (nI 1 <<< (nI k &&& 31) ^^^ (-1)) = nI (jf_clr x k) ∧ nI (jf_clr x k) ||| nI 1 <<< (nI k &&& 31) = nI (jf_clr x k + 2 ^ k) ∧ nI x >>> (nI k &&& 31) &&& nI 1 = nI (x / 2 ^ k % 2) ∧ jf_clr x k + 2 ^ k < 256 ∧ jf_clr x k < 256 := by decide +kernel
def jf_isUsed (s : Nat → Nat) (b : Nat) : Nat := jf_get s (b / 8) / 2 ^ (b % 8) % 2
theorem jf_isUsed_lt (s : Nat → Nat) (b : Nat) : jf_isUsed s b < 2 := Nat.mod_lt _ (by decide)
def jf_mark (s : Nat → Nat) (b u : Nat) : Nat → Nat := jf_put s (b / 8) (if u = 0 then jf_clr (jf_get s (b / 8)) (b % 8) else jf_clr (jf_get s (b / 8)) (b % 8) + 2 ^ (b % 8))
theorem jf_mark_ok {s : Nat → Nat} (hs : jf_ok s) (b u : Nat) : jf_ok (jf_mark s b u) := by
  have h := jf_bits _ (jf_get_lt hs (b / 8)) (b % 8) (Nat.mod_lt _ (by decide))
  refine jf_put_ok hs _ ?_
  split
  · exact h.2.2.2.2
  · exact h.2.2.2.1
def jf_freeL (s : Nat → Nat) : Nat → Nat → Nat → Nat
  | 0, _, f => f
  | n + 1, b, f => jf_freeL s n (b + 1) (if jf_isUsed s b = 0 then f + 1 else f)
def jf_free (s : Nat → Nat) : Nat := jf_freeL s 31 9 0
theorem jf_freeL_le (s : Nat → Nat) : ∀ n b f, jf_freeL s n b f ≤ f + n := by
  intro n
  induction n with
  | zero => intro b f; exact Nat.le_refl _
  | succ n ih =>
    intro b f
    have := ih (b + 1) (if jf_isUsed s b = 0 then f + 1 else f)
    unfold jf_freeL
    split at this <;> rename_i h <;> simp only [h, if_true, if_false] <;> omega
theorem jf_free_lt (s : Nat → Nat) : jf_free s < 32 := by
  have := jf_freeL_le s 31 9 0
  unfold jf_free
  omega
def jf_takeL (s : Nat → Nat) : Nat → Nat → Nat × (Nat → Nat)
  | 0, _ => (0, s)
  | n + 1, b => if jf_isUsed s b = 0 then (b, jf_mark s b 1) else jf_takeL s n (b + 1)
def jf_take (s : Nat → Nat) : Nat × (Nat → Nat) := jf_takeL s 31 9
theorem jf_takeL_ok {s : Nat → Nat} (hs : jf_ok s) : ∀ n b, b + n = 40 → (jf_takeL s n b).1 < 256 ∧ jf_ok (jf_takeL s n b).2 := by
  intro n
  induction n with
  | zero => intro b _; exact ⟨by show 0 < 256; decide, hs⟩
  | succ n ih =>
    intro b h
    unfold jf_takeL
    split
    · exact ⟨by show b < 256; omega, jf_mark_ok hs b 1⟩
    · exact ih (b + 1) (by omega)
def jf_diffL (s c : Nat → Nat) (b : Nat) : Nat → Nat → Nat
  | 0, _ => 0
  | n + 1, i => if jf_get s (b * 16 + i) = jf_get c (b * 16 + i) then jf_diffL s c b n (i + 1) else 1
def jf_differs (s c : Nat → Nat) (b : Nat) : Nat := jf_diffL s c b 16 0
theorem jf_diffL_lt (s c : Nat → Nat) (b : Nat) : ∀ n i, jf_diffL s c b n i < 2 := by
  intro n
  induction n with
  | zero => intro i; show 0 < 2; decide
  | succ n ih =>
    intro i
    unfold jf_diffL
    split
    · exact ih _
    · decide
def jf_dfbL (s c : Nat → Nat) : Nat → Nat → Nat → Nat
  | 0, _, d => d
  | n + 1, b, d => jf_dfbL s c n (b + 1) (if jf_differs s c b = 0 then d else d + 1)
def jf_differing (s c : Nat → Nat) : Nat := jf_dfbL s c 40 0 0
-- worlds
abbrev wD (qD qS qC : Nat) (cS cC : ClassId) (s c : Nat → Nat) : va_W := [(qD, .inr (0, [.ref qS, .ref qC])), (qS, .inl (cS, 640, .inl (jn s))), (qC, .inl (cC, 640, .inl (jn c)))]
abbrev tD (cS cC : ClassId) : List (ClassId × FieldType) := [(cS, .int), (cC, .int)]
section JT
variable {p : Program} {l : Launch} {e : Env} {R : Room} {s : State} {m : MethodId} {args : Array Value} {below : List Frame} {meth : Method} {c : Code} {H : Heap} {locs : List Loc} {cells slots : Nat} {Q : State → Prop}
variable {pc : Nat} {ls : Array Slot} {rest : List Value}
theorem jl_top {x y : Int32} (h : x = y) (k : W p l e R s m args below meth c H locs cells slots Q (F0 m pc ls (.int y :: rest))) : W p l e R s m args below meth c H locs cells slots Q (F0 m pc ls (.int x :: rest)) := h ▸ k
end JT
