def jm_wrong (K N I O M : Nat → Nat) (h a b : Nat) : Nat := if 5 < h then 1 else if I h = 0 then 2 else if jm_stale K N I O M h = 0 then (if M h = a then 0 else if M h = b then 0 else if M h = 3 then (if a < 4 then 0 else 2) else 2) else 2
theorem jm_stale_lt (K N I O M : Nat → Nat) (h : Nat) : jm_stale K N I O M h < 2 := by
  unfold jm_stale
  repeat' split
  all_goals decide
theorem jm_wrong_lt (K N I O M : Nat → Nat) (h a b : Nat) : jm_wrong K N I O M h a b < 3 := by
  unfold jm_wrong
  repeat' split
  all_goals decide
theorem jm_or : ∀ v, v < 256 → ∀ k, k < 8 → nI v ||| nI 1 <<< (nI k &&& 31) = nI (v ||| 2 ^ k) ∧ v ||| 2 ^ k < 256 := by decide +kernel
def jm_mapByte (B : Nat → Nat) (base i : Nat) : Nat := jm_mapL B base 8 (i * 8) 0
theorem jm_mapL_lt (B : Nat → Nat) (base : Nat) : ∀ n b v, v < 256 → jm_mapL B base n b v < 256 := by
  intro n
  induction n with
  | zero => intro b v h; exact h
  | succ n ih =>
    intro b v h
    unfold jm_mapL
    refine ih _ _ ?_
    split
    · exact h
    · exact (jm_or v h (b % 8) (Nat.mod_lt _ (by decide))).2
def jm_boL (B Y : Nat → Nat) (b i : Nat) : Nat → Nat → Nat
  | 0, _ => 0
  | n + 1, k => if B k = b then Y (k / 4 * 64 + k % 4 * 16 + i) else jm_boL B Y b i n (k + 1)
def jm_byteOf (K Z N B Y : Nat → Nat) (base b i : Nat) : Nat := if b = 0 then (if i < 5 then jm_mapByte B base i else 0) else if b < 7 then jm_inodeByte K Z N B (base + (b - 1) * 2 + i / 8) (i % 8) else if 8 < b then jm_boL B Y b i 48 (base * 4) else 0
theorem jm_boL_lt {B Y : Nat → Nat} (hY : jlt 256 Y) (b i : Nat) : ∀ n k, jm_boL B Y b i n k < 256 := by
  intro n
  induction n with
  | zero => intro k; show 0 < 256; decide
  | succ n ih =>
    intro k
    unfold jm_boL
    split
    · exact hY _
    · exact ih _
theorem jm_byteOf_lt {K Z N B Y : Nat → Nat} {m : Nat} (hK : jlt 3 K) (hZ : jlt 65 Z) (hN : jlt 256 N) (hB : jlt m B) (hY : jlt 256 Y) (hm : m < 10000) (base b i : Nat) : jm_byteOf K Z N B Y base b i < 10000 := by
  unfold jm_byteOf jm_inodeByte jm_mapByte
  have h1 := jm_mapL_lt B base 8 (i * 8) 0 (by decide)
  have h2 := jm_boL_lt (B := B) hY b i 48 (base * 4)
  repeat' split
  all_goals first | decide | (have := hK (base + (b - 1) * 2 + i / 8); have := hZ (base + (b - 1) * 2 + i / 8); have := hN (base + (b - 1) * 2 + i / 8); have := hB ((base + (b - 1) * 2 + i / 8) * 4 + i % 8 - 4); omega)
def jm_dfL (K Z N B Y : Nat → Nat) (b : Nat) : Nat → Nat → Nat → Nat
  | 0, _, f => f
  | n + 1, i, f => jm_dfL K Z N B Y b n (i + 1) (if jm_byteOf K Z N B Y 0 b i = jm_byteOf K Z N B Y 12 b i then f else 1)
def jm_dgL (K Z N B Y : Nat → Nat) : Nat → Nat → Nat → Nat
  | 0, _, d => d
  | n + 1, b, d => jm_dgL K Z N B Y n (b + 1) (if jm_dfL K Z N B Y b 16 0 0 = 0 then d else d + 1)
def jm_differing (K Z N B Y : Nat → Nat) : Nat := jm_dgL K Z N B Y 40 0 0
theorem jm_dgL_le (K Z N B Y : Nat → Nat) : ∀ n b d, jm_dgL K Z N B Y n b d ≤ d + n := by
  intro n
  induction n with
  | zero => intro b f; exact Nat.le_refl _
  | succ n ih =>
    intro b d
    have := ih (b + 1) (if jm_dfL K Z N B Y b 16 0 0 = 0 then d else d + 1)
    unfold jm_dgL
    split at this <;> rename_i h <;> simp only [h, if_true, if_false] <;> omega
theorem jm_differing_le (K Z N B Y : Nat → Nat) : jm_differing K Z N B Y ≤ 40 := by
  have := jm_dgL_le K Z N B Y 40 0 0
  unfold jm_differing
  omega
def jm_cpL (fr tt : Nat) : Nat → Nat → (Nat → Nat) → (Nat → Nat)
  | 0, _, g => g
  | n + 1, k, g => jm_cpL fr tt n (k + 1) (ju g (tt + k) (g (fr + k)))
theorem jm_cpL_lt (fr tt : Nat) {b : Nat} : ∀ n k {g : Nat → Nat}, jlt b g → jlt b (jm_cpL fr tt n k g) := by
  intro n
  induction n with
  | zero => intro k g h; exact h
  | succ n ih => intro k g h; exact ih _ (ju_lt h (h _))
def jm_clL : Nat → Nat → (Nat → Nat) → (Nat → Nat)
  | 0, _, I => I
  | n + 1, h, I => jm_clL n (h + 1) (ju I h 0)
section J32
variable {p : Program} {l : Launch} {e : Env} {R : Room} {s : State} {m : MethodId} {args : Array Value} {below : List Frame} {meth : Method} {c : Code} {H : Heap} {locs : List Loc} {cells slots : Nat} {Q : State → Prop}
variable {cc : ByteArray} {pc : Nat} {ls : Array Slot} {rest : List Value}
theorem jl_neg32 {a : Nat} (h1 : 2147483648 ≤ a) (h2 : a < 4294967296) : nI a < 0 := by
  have e : (nI a).toInt = (a : Int) - 4294967296 := by
    show (Int32.ofNat a).toInt = _
    rw [Int32.toInt_ofNat']
    have hz : ((Int32.size : Nat) : Int) = 4294967296 := rfl
    simp only [Int.bmod, hz]
    omega
  rw [Int32.lt_iff_toInt_lt, e, Int32.toInt_zero]
  omega
theorem jl_iflt32 (hx : p.tables.exec = Jvm.exec) (hb : c.code = cc) {a : Nat} {off : Int} {tgt : Nat} (ha : a < 4294967296) (hd : decode cc pc = .ok (.ifCond .lt off, 3)) (ht : (pc : Int) + off = (tgt : Int)) (kt : 2147483648 ≤ a → W p l e R s m args below meth c H locs cells slots Q (F0 m tgt ls rest)) (kf : a < 2147483648 → W p l e R s m args below meth c H locs cells slots Q (F0 m (pc + 3) ls rest)) : W p l e R s m args below meth c H locs cells slots Q (F0 m pc ls (.int (nI a) :: rest)) :=
  lv_if_lt hx hb hd ht (fun h => kt (Nat.not_lt.mp (fun q => nI_pos (by omega) h))) (fun h => kf (Nat.not_le.mp (fun q => h (jl_neg32 q ha))))
/-- a switch on a number -/
theorem jl_swIn (hx : p.tables.exec = Jvm.exec) (hb : c.code = cc) {dflt lo hi : Int} {offs : Array Int} {len a : Nat} {off : Int} {tgt : Nat} (hd : decode cc pc = .ok (.tableswitch dflt lo hi offs, len)) (ha : a < 2 ^ 31) (h1 : ¬ (a : Int) < lo) (h2 : ¬ hi < (a : Int)) (ho : offs[((a : Int) - lo).toNat]? = some off) (ht : (pc : Int) + off = (tgt : Int))
    (k : W p l e R s m args below meth c H locs cells slots Q (F0 m tgt ls rest)) : W p l e R s m args below meth c H locs cells slots Q (F0 m pc ls (.int (nI a) :: rest)) :=
  lv_tableIn hx hb hd (by rw [nI_toInt ha]; exact h1) (by rw [nI_toInt ha]; exact h2) (by rw [nI_toInt ha]; exact ho) ht k
theorem jl_swOut (hx : p.tables.exec = Jvm.exec) (hb : c.code = cc) {dflt lo hi : Int} {offs : Array Int} {len a : Nat} {tgt : Nat} (hd : decode cc pc = .ok (.tableswitch dflt lo hi offs, len)) (ha : a < 2 ^ 31) (h1 : hi < (a : Int)) (ht : (pc : Int) + dflt = (tgt : Int))
    (k : W p l e R s m args below meth c H locs cells slots Q (F0 m tgt ls rest)) : W p l e R s m args below meth c H locs cells slots Q (F0 m pc ls (.int (nI a) :: rest)) :=
  lv_tableOut hx hb hd (by rw [nI_toInt ha]; exact Or.inr h1) ht k
end J32
