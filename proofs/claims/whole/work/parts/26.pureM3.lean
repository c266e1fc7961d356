/-! paths -/
def jsh : Nat → Int32
  | 0 => -8
  | n + 1 => nI (8 * n)
theorem jsh_step (n : Nat) : nI (8 * n) + Int32.ofInt (-8) = jsh n := by
  cases n with
  | zero => decide
  | succ n =>
    show nI (8 * n + 8) + Int32.ofInt (-8) = nI (8 * n)
    rw [← nI_add, Int32.add_assoc, show nI 8 + Int32.ofInt (-8) = 0 by decide, Int32.add_zero]
theorem js_u : ∀ n, n < 32 → (((nI n).toUInt32 &&& Int32.toUInt32 31).toBitVec % 32).toNat = n := by decide +kernel
theorem jn_eq32 {a b : Nat} (ha : a < 4294967296) (hb : b < 4294967296) : nI a = nI b ↔ a = b := by
  constructor
  · intro h
    have h1 := pk_tn (n := a) (by omega)
    have h2 := pk_tn (n := b) (by omega)
    rw [h] at h1
    omega
  · intro h; rw [h]
section JS2
variable {p : Program} {l : Launch} {e : Env} {R : Room} {s : State} {m : MethodId} {args : Array Value} {below : List Frame} {meth : Method} {c : Code} {H : Heap} {locs : List Loc} {cells slots : Nat} {Q : State → Prop}
variable {cc : ByteArray} {pc : Nat} {ls : Array Slot} {rest : List Value}
theorem jl_iushr (hx : p.tables.exec = Jvm.exec) (hb : c.code = cc) {a b : Nat} (ha : a < 4294967296) (h1 : b < 32) (hd : decode cc pc = .ok (.iushr, 1)) (k : W p l e R s m args below meth c H locs cells slots Q (F0 m (pc + 1) ls (.int (nI (a / 2 ^ b)) :: rest))) : W p l e R s m args below meth c H locs cells slots Q (F0 m pc ls (.int (nI b) :: .int (nI a) :: rest)) :=
  lv_iushr (v := nI (a / 2 ^ b)) hx hb hd (pk_ushrN (by omega) (nI b) b (js_u b h1)) k
theorem jl_and255 (hx : p.tables.exec = Jvm.exec) (hb : c.code = cc) {a : Nat} (ha : a < 4294967296) (hd : decode cc pc = .ok (.iand, 1)) (k : W p l e R s m args below meth c H locs cells slots Q (F0 m (pc + 1) ls (.int (nI (a % 256)) :: rest))) : W p l e R s m args below meth c H locs cells slots Q (F0 m pc ls (.int (nI 255) :: .int (nI a) :: rest)) :=
  lv_iand hx hb hd (by rw [pk_andN (n := a) (m := nI 255) (by omega) 8 (by decide)]; exact k)
theorem jl_eq32 (hx : p.tables.exec = Jvm.exec) (hb : c.code = cc) {a b : Nat} {off : Int} {tgt : Nat} (ha : a < 4294967296) (h1 : b < 4294967296) (hd : decode cc pc = .ok (.if_icmp .eq off, 3)) (ht : (pc : Int) + off = (tgt : Int)) (kt : a = b → W p l e R s m args below meth c H locs cells slots Q (F0 m tgt ls rest)) (kf : ¬ a = b → W p l e R s m args below meth c H locs cells slots Q (F0 m (pc + 3) ls rest)) : W p l e R s m args below meth c H locs cells slots Q (F0 m pc ls (.int (nI b) :: .int (nI a) :: rest)) :=
  lv_icmp_eq hx hb hd ht (fun h => kt ((jn_eq32 ha h1).mp h)) (fun h => kf (fun q => h ((jn_eq32 ha h1).mpr q)))
theorem jl_ne32 (hx : p.tables.exec = Jvm.exec) (hb : c.code = cc) {a b : Nat} {off : Int} {tgt : Nat} (ha : a < 4294967296) (h1 : b < 4294967296) (hd : decode cc pc = .ok (.if_icmp .ne off, 3)) (ht : (pc : Int) + off = (tgt : Int)) (kt : ¬ a = b → W p l e R s m args below meth c H locs cells slots Q (F0 m tgt ls rest)) (kf : a = b → W p l e R s m args below meth c H locs cells slots Q (F0 m (pc + 3) ls rest)) : W p l e R s m args below meth c H locs cells slots Q (F0 m pc ls (.int (nI b) :: .int (nI a) :: rest)) :=
  lv_icmp_ne hx hb hd ht (fun h => kt (fun q => h ((jn_eq32 ha h1).mpr q))) (fun h => kf ((jn_eq32 ha h1).mp h))
theorem jl_ifeq32 (hx : p.tables.exec = Jvm.exec) (hb : c.code = cc) {a : Nat} {off : Int} {tgt : Nat} (ha : a < 4294967296) (hd : decode cc pc = .ok (.ifCond .eq off, 3)) (ht : (pc : Int) + off = (tgt : Int)) (kt : a = 0 → W p l e R s m args below meth c H locs cells slots Q (F0 m tgt ls rest)) (kf : ¬ a = 0 → W p l e R s m args below meth c H locs cells slots Q (F0 m (pc + 3) ls rest)) : W p l e R s m args below meth c H locs cells slots Q (F0 m pc ls (.int (nI a) :: rest)) :=
  lv_if_eq hx hb hd ht (fun h => kt ((jn_eq32 ha (by decide)).mp (h.trans nI_0.symm))) (fun h => kf (fun q => h (by rw [q]; exact nI_0)))
theorem jl_ifne32 (hx : p.tables.exec = Jvm.exec) (hb : c.code = cc) {a : Nat} {off : Int} {tgt : Nat} (ha : a < 4294967296) (hd : decode cc pc = .ok (.ifCond .ne off, 3)) (ht : (pc : Int) + off = (tgt : Int)) (kt : ¬ a = 0 → W p l e R s m args below meth c H locs cells slots Q (F0 m tgt ls rest)) (kf : a = 0 → W p l e R s m args below meth c H locs cells slots Q (F0 m (pc + 3) ls rest)) : W p l e R s m args below meth c H locs cells slots Q (F0 m pc ls (.int (nI a) :: rest)) :=
  lv_if_ne hx hb hd ht (fun h => kt (fun q => h (by rw [q]; exact nI_0))) (fun h => kf ((jn_eq32 ha (by decide)).mp (h.trans nI_0.symm)))
/-- a number up to 2^32 against a small one: below it (signed) is small, or has the sign -/
theorem jl_lt32 (hx : p.tables.exec = Jvm.exec) (hb : c.code = cc) {a b : Nat} {off : Int} {tgt : Nat} (ha : a < 4294967296) (h1 : b < 2147483648) (hd : decode cc pc = .ok (.if_icmp .lt off, 3)) (ht : (pc : Int) + off = (tgt : Int)) (kt : a < b ∨ 2147483648 ≤ a → W p l e R s m args below meth c H locs cells slots Q (F0 m tgt ls rest)) (kf : b ≤ a ∧ a < 2147483648 → W p l e R s m args below meth c H locs cells slots Q (F0 m (pc + 3) ls rest)) : W p l e R s m args below meth c H locs cells slots Q (F0 m pc ls (.int (nI b) :: .int (nI a) :: rest)) := by
  rcases Nat.lt_or_ge a 2147483648 with h | h
  · exact jl_lt hx hb (by omega) (by omega) hd ht (fun q => kt (Or.inl q)) (fun q => kf ⟨by omega, h⟩)
  · have hn := jl_neg32 h ha
    refine lv_icmp_lt hx hb hd ht (fun _ => kt (Or.inr h)) (fun q => absurd ?_ q)
    have h0 := nI_pos' (n := b) (by omega)
    rw [Int32.lt_iff_toInt_lt] at hn ⊢
    rw [Int32.le_iff_toInt_le] at h0
    omega
end JS2
def jm_bpL (P : Nat) : Nat → Nat → Nat
  | 0, _ => 0
  | n + 1, g => if g = 0 then (if P / 2 ^ (8 * n) % 256 = 0 then jm_bpL P n g else jm_bpL P n 1) else (if P / 2 ^ (8 * n) % 256 = 0 then 1 else jm_bpL P n 1)
def jm_badPath (P : Nat) : Nat := jm_bpL P 4 0
theorem jm_bpL_lt (P : Nat) : ∀ n g, jm_bpL P n g < 2 := by
  intro n
  induction n with
  | zero => intro g; show 0 < 2; decide
  | succ n ih =>
    intro g
    unfold jm_bpL
    repeat' split
    all_goals first | decide | exact ih _
def jm_wiL (P Q : Nat) : Nat → Nat → Nat
  | 0, _ => 0
  | n + 1, z => if P / 2 ^ z = Q then 1 else jm_wiL P Q n (z + 8)
def jm_within (P Q : Nat) : Nat := jm_wiL P Q 4 0
theorem jm_wiL_lt (P Q : Nat) : ∀ n z, jm_wiL P Q n z < 2 := by
  intro n
  induction n with
  | zero => intro g; show 0 < 2; decide
  | succ n ih =>
    intro g
    unfold jm_wiL
    split
    · decide
    · exact ih _
def jm_ents (K Z Y : Nat → Nat) : Prop := ∀ d, d < 12 → K d = 2 → ∀ e, e < Z d / 2 → Y (d * 64 + e * 2 + 1) < 12
/-- where a path leads: (1 if it leads on, else 0), the directory, the entry, what is found, the last name -/
def jm_ldL (K Z Y : Nat → Nat) (P : Nat) : Nat → Option Nat → Option Nat → Option Nat → Nat → Nat × Option Nat × Option Nat × Option Nat × Nat
  | 0, pa, ey, fo, la => (1, pa, ey, fo, la)
  | n + 1, pa, ey, fo, la => if P / 2 ^ (8 * n) % 256 = 0 then jm_ldL K Z Y P n pa ey fo la else match fo with
    | none => (0, pa, ey, none, la)
    | some f => if K f = 2 then (match jm_entryOf Z Y f (P / 2 ^ (8 * n) % 256) with
        | none => jm_ldL K Z Y P n (some f) none none (P / 2 ^ (8 * n) % 256)
        | some j => jm_ldL K Z Y P n (some f) (some j) (some (Y (f * 64 + j * 2 + 1))) (P / 2 ^ (8 * n) % 256))
      else (0, pa, ey, some f, la)
def jm_lead (K Z Y : Nat → Nat) (P : Nat) : Nat × Option Nat × Option Nat × Option Nat × Nat := jm_ldL K Z Y P 4 none none (some 0) 0
