/-! The reference, method by method, as functions of numbers: K kind, Z size, N generation, B blocks, Y bytes; I, O, M, P the handles -/
def jlt (n : Nat) (f : Nat → Nat) : Prop := ∀ k, f k < n
theorem ju_lt {n a v : Nat} {f : Nat → Nat} (h : jlt n f) (hv : v < n) : jlt n (ju f a v) := by
  intro k
  unfold ju
  split
  · exact hv
  · exact h k
theorem jlt_mono {n m : Nat} {f : Nat → Nat} (h : jlt n f) (hm : n ≤ m) : jlt m f := fun k => Nat.lt_of_lt_of_le (h k) hm
def jm_usedL (B : Nat → Nat) (b : Nat) : Nat → Nat → Nat
  | 0, _ => 0
  | n + 1, k => if B k = b then 1 else jm_usedL B b n (k + 1)
def jm_isUsed (B : Nat → Nat) (base b : Nat) : Nat := if b < 9 then 1 else jm_usedL B b 48 (base * 4)
theorem jm_usedL_lt (B : Nat → Nat) (b : Nat) : ∀ n k, jm_usedL B b n k < 2 := by
  intro n
  induction n with
  | zero => intro k; show 0 < 2; decide
  | succ n ih =>
    intro k
    unfold jm_usedL
    split
    · decide
    · exact ih _
theorem jm_isUsed_lt (B : Nat → Nat) (base b : Nat) : jm_isUsed B base b < 2 := by
  unfold jm_isUsed
  split
  · decide
  · exact jm_usedL_lt _ _ _ _
theorem jm_usedL_no {B : Nat → Nat} {m : Nat} (h : jlt m B) : ∀ n k, jm_usedL B m n k = 0 := by
  intro n
  induction n with
  | zero => intro k; rfl
  | succ n ih =>
    intro k
    unfold jm_usedL
    rw [if_neg (Nat.ne_of_lt (h k)), ih]
theorem jm_isUsed_no {B : Nat → Nat} {m base : Nat} (h : jlt m B) (hm : 9 ≤ m) : jm_isUsed B base m = 0 := by
  unfold jm_isUsed
  rw [if_neg (by omega), jm_usedL_no h]
def jm_freeL (B : Nat → Nat) : Nat → Nat → Nat → Nat
  | 0, _, f => f
  | n + 1, b, f => jm_freeL B n (b + 1) (if jm_isUsed B 0 b = 0 then f + 1 else f)
def jm_free (B : Nat → Nat) : Nat := jm_freeL B 31 9 0
theorem jm_freeL_le (B : Nat → Nat) : ∀ n b f, jm_freeL B n b f ≤ f + n := by
  intro n
  induction n with
  | zero => intro b f; exact Nat.le_refl _
  | succ n ih =>
    intro b f
    have := ih (b + 1) (if jm_isUsed B 0 b = 0 then f + 1 else f)
    unfold jm_freeL
    split at this <;> rename_i h <;> simp only [h, if_true, if_false] <;> omega
theorem jm_free_lt (B : Nat → Nat) : jm_free B < 32 := by
  have := jm_freeL_le B 31 9 0
  unfold jm_free
  omega
/-- the least block from b on that isn't used, looked for n times -/
def jm_nbL (B : Nat → Nat) : Nat → Nat → Nat
  | 0, b => b
  | n + 1, b => if jm_isUsed B 0 b = 0 then b else jm_nbL B n (b + 1)
def jm_newBlock (B : Nat → Nat) (m : Nat) : Nat := jm_nbL B (m - 9) 9
theorem jm_nbL_le (B : Nat → Nat) : ∀ n b, jm_nbL B n b ≤ b + n := by
  intro n
  induction n with
  | zero => intro b; exact Nat.le_refl _
  | succ n ih =>
    intro b
    unfold jm_nbL
    split
    · omega
    · have := ih (b + 1); omega
theorem jm_newBlock_le (B : Nat → Nat) {m : Nat} (hm : 9 ≤ m) : jm_newBlock B m ≤ m := by
  have := jm_nbL_le B (m - 9) 9
  unfold jm_newBlock
  omega
def jm_niL (K : Nat → Nat) : Nat → Nat → Nat
  | 0, i => i
  | n + 1, i => if K i = 0 then i else jm_niL K n (i + 1)
def jm_newInode (K : Nat → Nat) : Nat := jm_niL K 12 0
theorem jm_niL_le (K : Nat → Nat) : ∀ n i, jm_niL K n i ≤ i + n := by
  intro n
  induction n with
  | zero => intro i; exact Nat.le_refl _
  | succ n ih =>
    intro i
    unfold jm_niL
    split
    · omega
    · have := ih (i + 1); omega
theorem jm_newInode_le (K : Nat → Nat) : jm_newInode K ≤ 12 := by
  have := jm_niL_le K 12 0
  unfold jm_newInode
  omega
def jm_needed (n : Nat) : Nat := (n + 15) / 16
theorem jm_needed_le (n : Nat) : jm_needed n * 16 ≤ n + 15 := by
  unfold jm_needed
  omega
def jm_roomFor (Z B : Nat → Nat) (i n : Nat) : Nat := if jm_free B + jm_needed (Z i) < jm_needed n then 0 else 1
/-- blocks: the round k of resize; m bounds what stands in the table before -/
def jm_rsL (i z : Nat) : Nat → Nat → Nat → (Nat → Nat) → (Nat → Nat)
  | 0, _, _, B => B
  | n + 1, m, k, B => if k < jm_needed z then (if B (i * 4 + k) = 0 then jm_rsL i z n (m + 1) (k + 1) (ju B (i * 4 + k) (jm_newBlock B m)) else jm_rsL i z n (m + 1) (k + 1) B) else jm_rsL i z n (m + 1) (k + 1) (ju B (i * 4 + k) 0)
def jm_resB (B : Nat → Nat) (m i z : Nat) : Nat → Nat := jm_rsL i z 4 m 0 B
theorem jm_rsL_lt (i z : Nat) : ∀ n m k {B : Nat → Nat}, 9 ≤ m → jlt m B → jlt (m + n) (jm_rsL i z n m k B) := by
  intro n
  induction n with
  | zero => intro m k B _ h; exact h
  | succ n ih =>
    intro m k B hm h
    have e : m + (n + 1) = m + 1 + n := by omega
    rw [e]
    unfold jm_rsL
    split
    · split
      · exact ih _ _ (by omega) (ju_lt (jlt_mono h (by omega)) (by have := jm_newBlock_le B hm; omega))
      · exact ih _ _ (by omega) (jlt_mono h (by omega))
    · exact ih _ _ (by omega) (ju_lt (jlt_mono h (by omega)) (by omega))
def jm_zL (i : Nat) : Nat → Nat → (Nat → Nat) → (Nat → Nat)
  | 0, _, Y => Y
  | n + 1, k, Y => jm_zL i n (k + 1) (ju Y (i * 64 + k) 0)
def jm_resY (Y : Nat → Nat) (i z : Nat) : Nat → Nat := jm_zL i (64 - z) z Y
theorem jm_zL_lt (i : Nat) {b : Nat} (hb : 0 < b) : ∀ n k {Y : Nat → Nat}, jlt b Y → jlt b (jm_zL i n k Y) := by
  intro n
  induction n with
  | zero => intro k Y h; exact h
  | succ n ih => intro k Y h; exact ih _ (ju_lt h hb)
def jm_eoL (Y : Nat → Nat) (d nm : Nat) : Nat → Nat → Option Nat
  | 0, _ => none
  | n + 1, e => if Y (d * 64 + e * 2) = nm then some e else jm_eoL Y d nm n (e + 1)
def jm_entryOf (Z Y : Nat → Nat) (d nm : Nat) : Option Nat := jm_eoL Y d nm (Z d / 2) 0
theorem jm_eoL_lt (Y : Nat → Nat) (d nm : Nat) {j : Nat} : ∀ n e, jm_eoL Y d nm n e = some j → j < e + n := by
  intro n
  induction n with
  | zero => intro e h; simp [jm_eoL] at h
  | succ n ih =>
    intro e h
    unfold jm_eoL at h
    split at h
    · cases h; omega
    · have := ih _ h; omega
theorem jm_entryOf_lt {Z Y : Nat → Nat} {d nm j : Nat} (h : jm_entryOf Z Y d nm = some j) : j < Z d / 2 := by
  have := jm_eoL_lt Y d nm _ _ h
  omega
def jm_entryRoom (Z B : Nat → Nat) (d more : Nat) : Nat := if Z d < 32 then (if jm_free B + more + jm_needed (Z d) < jm_needed (Z d + 2) then 0 else 1) else 0
def jm_chL (I : Nat → Nat) : Nat → Nat → Nat
  | 0, h => h
  | n + 1, h => if I h = 0 then h else jm_chL I n (h + 1)
def jm_closedHandle (I : Nat → Nat) : Nat := jm_chL I 6 0
theorem jm_chL_le (I : Nat → Nat) : ∀ n h, jm_chL I n h ≤ h + n := by
  intro n
  induction n with
  | zero => intro h; exact Nat.le_refl _
  | succ n ih =>
    intro h
    unfold jm_chL
    split
    · omega
    · have := ih (h + 1); omega
def jm_stale (K N I O M : Nat → Nat) (h : Nat) : Nat := if N (I h - 1) = O h then (if M h = 4 then (if K (I h - 1) = 2 then 0 else 1) else (if K (I h - 1) = 1 then 0 else 1)) else 1
def jm_mapL (B : Nat → Nat) (base : Nat) : Nat → Nat → Nat → Nat
  | 0, _, v => v
  | n + 1, b, v => jm_mapL B base n (b + 1) (if jm_isUsed B base b = 0 then v else v ||| 2 ^ (b % 8))
def jm_inodeByte (K Z N B : Nat → Nat) (i f : Nat) : Nat := if f = 0 then K i else if f = 1 then Z i else if f = 2 then (if K i = 0 then 0 else 1) else if f = 3 then N i else B (i * 4 + f - 4)
theorem jl_gtDz : True := trivial
