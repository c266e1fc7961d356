/-! Inodes: what the bytes mean -/
def jo (o : Option Nat) : Int32 := match o with
  | none => -1
  | some n => nI n
theorem jo_ne {n : Nat} (h : n < 2 ^ 31) : ¬ nI n = -1 := by
  intro q
  have := nI_pos' h
  rw [q] at this
  exact absurd this (by decide)
section JO
variable {p : Program} {l : Launch} {e : Env} {R : Room} {s : State} {m : MethodId} {args : Array Value} {below : List Frame} {meth : Method} {c : Code} {H : Heap} {locs : List Loc} {cells slots : Nat} {Q : State → Prop}
variable {cc : ByteArray} {pc : Nat} {ls : Array Slot} {rest : List Value}
theorem jl_neO (hx : p.tables.exec = Jvm.exec) (hb : c.code = cc) {o : Option Nat} {off : Int} {tgt : Nat} (ho : ∀ j, o = some j → j < 2 ^ 31) (hd : decode cc pc = .ok (.if_icmp .ne off, 3)) (ht : (pc : Int) + off = (tgt : Int)) (kt : ∀ j, o = some j → W p l e R s m args below meth c H locs cells slots Q (F0 m tgt ls rest)) (kf : o = none → W p l e R s m args below meth c H locs cells slots Q (F0 m (pc + 3) ls rest)) : W p l e R s m args below meth c H locs cells slots Q (F0 m pc ls (.int (-1) :: .int (jo o) :: rest)) := by
  cases o with
  | none => exact lv_icmp_ne hx hb hd ht (fun h => absurd rfl h) (fun _ => kf rfl)
  | some j => exact lv_icmp_ne hx hb hd ht (fun _ => kt j rfl) (fun h => absurd h (jo_ne (ho j rfl)))
theorem jl_eqO (hx : p.tables.exec = Jvm.exec) (hb : c.code = cc) {o : Option Nat} {off : Int} {tgt : Nat} (ho : ∀ j, o = some j → j < 2 ^ 31) (hd : decode cc pc = .ok (.if_icmp .eq off, 3)) (ht : (pc : Int) + off = (tgt : Int)) (kt : o = none → W p l e R s m args below meth c H locs cells slots Q (F0 m tgt ls rest)) (kf : ∀ j, o = some j → W p l e R s m args below meth c H locs cells slots Q (F0 m (pc + 3) ls rest)) : W p l e R s m args below meth c H locs cells slots Q (F0 m pc ls (.int (-1) :: .int (jo o) :: rest)) := by
  cases o with
  | none => exact lv_icmp_eq hx hb hd ht (fun _ => kt rfl) (fun h => absurd rfl h)
  | some j => exact lv_icmp_eq hx hb hd ht (fun h => absurd h (jo_ne (ho j rfl))) (fun _ => kf j rfl)
/-- a difference that may be below 0, against a number -/
theorem jl_gtD (hx : p.tables.exec = Jvm.exec) (hb : c.code = cc) {a b f : Nat} {off : Int} {tgt : Nat} (ha : a < 2 ^ 30) (h1 : b < 2 ^ 30) (h2 : f < 2 ^ 30) (hd : decode cc pc = .ok (.if_icmp .gt off, 3)) (ht : (pc : Int) + off = (tgt : Int)) (kt : f + b < a → W p l e R s m args below meth c H locs cells slots Q (F0 m tgt ls rest)) (kf : ¬ f + b < a → W p l e R s m args below meth c H locs cells slots Q (F0 m (pc + 3) ls rest)) : W p l e R s m args below meth c H locs cells slots Q (F0 m pc ls (.int (nI f) :: .int (nI a - nI b) :: rest)) := by
  have e1 := pk_sub_toInt ha h1
  have e2 : (nI f).toInt = (f : Int) := nI_toInt (by omega)
  refine lv_icmp_gt hx hb hd ht (fun h => kt ?_) (fun h => kf (fun q => h ?_))
  · rw [Int32.lt_iff_toInt_lt] at h
    omega
  · rw [Int32.lt_iff_toInt_lt]
    omega
end JO
def jf_field (s : Nat → Nat) (i f : Nat) : Nat := jf_get s (16 + i * 8 + f)
def jf_putField (s : Nat → Nat) (i f v : Nat) : Nat → Nat := jf_put s (16 + i * 8 + f) v
def jf_kind (s : Nat → Nat) (i : Nat) : Nat := jf_field s i 0
def jf_size (s : Nat → Nat) (i : Nat) : Nat := jf_field s i 1
def jf_gen (s : Nat → Nat) (i : Nat) : Nat := jf_field s i 3
def jf_entries (s : Nat → Nat) (i : Nat) : Nat := if jf_kind s i = 2 then jf_size s i / 2 else 0
def jf_friL (s : Nat → Nat) : Nat → Nat → Nat → Nat
  | 0, _, f => f
  | n + 1, i, f => jf_friL s n (i + 1) (if jf_kind s i = 0 then f + 1 else f)
def jf_freeInodes (s : Nat → Nat) : Nat := jf_friL s 12 0 0
def jf_lfL (s : Nat → Nat) : Nat → Nat → Option Nat
  | 0, _ => none
  | n + 1, i => if jf_kind s i = 0 then some i else jf_lfL s n (i + 1)
def jf_leastFree (s : Nat → Nat) : Option Nat := jf_lfL s 12 0
def jf_occupy (s : Nat → Nat) (i k : Nat) : Nat → Nat :=
  jf_putField (jf_putField (jf_putField s i 0 k) i 2 1) i 3 ((jf_gen (jf_putField (jf_putField s i 0 k) i 2 1) i + 1) % 256)
def jf_placeOf (s : Nat → Nat) (i p : Nat) : Nat := jf_get s (16 + i * 8 + 4 + p / 16) * 16 + p % 16
def jf_byteOf (s : Nat → Nat) (i p : Nat) : Nat := jf_get s (jf_placeOf s i p)
def jf_putByte (s : Nat → Nat) (i p v : Nat) : Nat → Nat := jf_put s (jf_placeOf s i p) v
def jf_blocksFor (z : Nat) : Nat := (z + 16 - 1) / 16
def jf_hasRoomForSize (s : Nat → Nat) (i z : Nat) : Nat := if jf_free s + jf_blocksFor (jf_size s i) < jf_blocksFor z then 0 else 1
def jf_rsA (i : Nat) : Nat → Nat → (Nat → Nat) → (Nat → Nat)
  | 0, _, s => s
  | n + 1, p, s => jf_rsA i n (p + 1) (jf_putByte s i p 0)
def jf_rsB (i : Nat) : Nat → Nat → (Nat → Nat) → (Nat → Nat)
  | 0, _, s => s
  | n + 1, k, s => jf_rsB i n (k + 1) (jf_putField (jf_mark s (jf_field s i (4 + k)) 0) i (4 + k) 0)
def jf_rsC (i : Nat) : Nat → Nat → (Nat → Nat) → (Nat → Nat)
  | 0, _, s => s
  | n + 1, k, s => jf_rsC i n (k + 1) (jf_putField (jf_take s).2 i (4 + k) (jf_take s).1)
def jf_resize (s : Nat → Nat) (i z : Nat) : Nat → Nat :=
  jf_putField (jf_rsC i (jf_blocksFor z - jf_blocksFor (jf_size s i)) (jf_blocksFor (jf_size s i)) (jf_rsB i (jf_blocksFor (jf_size s i) - jf_blocksFor z) (jf_blocksFor z) (jf_rsA i (jf_size s i - z) z s))) i 1 z
def jf_vacate (s : Nat → Nat) (i : Nat) : Nat → Nat := jf_putField (jf_putField (jf_resize s i 0) i 0 0) i 2 0
def jf_entryName (s : Nat → Nat) (d e : Nat) : Nat := jf_byteOf s d (e * 2)
def jf_entryInode (s : Nat → Nat) (d e : Nat) : Nat := jf_byteOf s d (e * 2 + 1)
def jf_putEntry (s : Nat → Nat) (d e n i : Nat) : Nat → Nat := jf_putByte (jf_putByte s d (e * 2) n) d (e * 2 + 1) i
def jf_feL (s : Nat → Nat) (d nm : Nat) : Nat → Nat → Option Nat
  | 0, _ => none
  | n + 1, e => if jf_byteOf s d (e * 2) = nm then some e else jf_feL s d nm n (e + 1)
def jf_findEntry (s : Nat → Nat) (d nm : Nat) : Option Nat := jf_feL s d nm (jf_entries s d) 0
def jf_startsBlock (e : Nat) : Nat := if e * 2 % 16 = 0 then 1 else 0
def jf_hasRoomForEntry (s : Nat → Nat) (d : Nat) : Nat := if jf_entries s d < 16 then (if jf_startsBlock (jf_entries s d) = 0 then 1 else if jf_free s = 0 then 0 else 1) else 0
def jf_addEntry (s : Nat → Nat) (d n i : Nat) : Nat → Nat := jf_putEntry (jf_resize s d ((jf_entries s d + 1) * 2)) d (jf_entries s d) n i
def jf_redirect (s : Nat → Nat) (d n i : Nat) : Nat → Nat := match jf_findEntry s d n with
  | none => s
  | some e => jf_putEntry s d e n i
def jf_dropEntry (s : Nat → Nat) (d n : Nat) : Nat → Nat := match jf_findEntry s d n with
  | none => s
  | some e => jf_resize (jf_putEntry s d e (jf_entryName s d (jf_entries s d - 1)) (jf_entryInode s d (jf_entries s d - 1))) d ((jf_entries s d - 1) * 2)
-- bounds
theorem jf_entries_lt {s : Nat → Nat} (hs : jf_ok s) (i : Nat) : jf_entries s i < 128 := by
  have h : jf_size s i < 256 := jf_get_lt hs _
  unfold jf_entries
  split <;> omega
theorem jf_placeOf_lt {s : Nat → Nat} (hs : jf_ok s) (i p : Nat) : jf_placeOf s i p < 4096 := by
  have h := jf_get_lt hs (16 + i * 8 + 4 + p / 16)
  unfold jf_placeOf
  omega
theorem jf_blocksFor_le (z : Nat) : jf_blocksFor z * 16 ≤ z + 15 := by
  unfold jf_blocksFor
  omega
theorem jf_feL_lt (s : Nat → Nat) (d nm : Nat) {j : Nat} : ∀ n e, jf_feL s d nm n e = some j → j < e + n := by
  intro n
  induction n with
  | zero => intro e h; simp [jf_feL] at h
  | succ n ih =>
    intro e h
    unfold jf_feL at h
    split at h
    · cases h; omega
    · have := ih _ h; omega
theorem jf_findEntry_lt {s : Nat → Nat} {d nm j : Nat} (h : jf_findEntry s d nm = some j) : j < jf_entries s d := by
  have := jf_feL_lt s d nm _ _ h
  omega
theorem jf_lfL_lt (s : Nat → Nat) {j : Nat} : ∀ n e, jf_lfL s n e = some j → j < e + n := by
  intro n
  induction n with
  | zero => intro e h; simp [jf_lfL] at h
  | succ n ih =>
    intro e h
    unfold jf_lfL at h
    split at h
    · cases h; omega
    · have := ih _ h; omega
theorem jf_leastFree_lt {s : Nat → Nat} {j : Nat} (h : jf_leastFree s = some j) : j < 12 := by
  have := jf_lfL_lt s _ _ h
  omega
theorem jf_putByte_ok {s : Nat → Nat} (hs : jf_ok s) (i p : Nat) {v : Nat} (hv : v < 256) : jf_ok (jf_putByte s i p v) := jf_put_ok hs _ hv
theorem jf_putField_ok {s : Nat → Nat} (hs : jf_ok s) (i f : Nat) {v : Nat} (hv : v < 256) : jf_ok (jf_putField s i f v) := jf_put_ok hs _ hv
theorem jf_take_ok {s : Nat → Nat} (hs : jf_ok s) : (jf_take s).1 < 256 ∧ jf_ok (jf_take s).2 := jf_takeL_ok hs 31 9 rfl
theorem jf_rsA_ok (i : Nat) : ∀ n p {s : Nat → Nat}, jf_ok s → jf_ok (jf_rsA i n p s) := by
  intro n
  induction n with
  | zero => intro p s hs; exact hs
  | succ n ih => intro p s hs; exact ih _ (jf_putByte_ok hs _ _ (by decide))
theorem jf_rsB_ok (i : Nat) : ∀ n p {s : Nat → Nat}, jf_ok s → jf_ok (jf_rsB i n p s) := by
  intro n
  induction n with
  | zero => intro p s hs; exact hs
  | succ n ih => intro p s hs; exact ih _ (jf_putField_ok (jf_mark_ok hs _ _) _ _ (by decide))
theorem jf_rsC_ok (i : Nat) : ∀ n p {s : Nat → Nat}, jf_ok s → jf_ok (jf_rsC i n p s) := by
  intro n
  induction n with
  | zero => intro p s hs; exact hs
  | succ n ih => intro p s hs; exact ih _ (jf_putField_ok (jf_take_ok hs).2 _ _ (jf_take_ok hs).1)
theorem jf_resize_ok {s : Nat → Nat} (hs : jf_ok s) (i : Nat) {z : Nat} (hz : z < 256) : jf_ok (jf_resize s i z) := jf_putField_ok (jf_rsC_ok _ _ _ (jf_rsB_ok _ _ _ (jf_rsA_ok _ _ _ hs))) _ _ hz
theorem jf_putEntry_ok {s : Nat → Nat} (hs : jf_ok s) (d e : Nat) {n i : Nat} (hn : n < 256) (hi : i < 256) : jf_ok (jf_putEntry s d e n i) := jf_putByte_ok (jf_putByte_ok hs _ _ hn) _ _ hi
theorem jf_occupy_ok {s : Nat → Nat} (hs : jf_ok s) (i : Nat) {k : Nat} (hk : k < 256) : jf_ok (jf_occupy s i k) := jf_putField_ok (jf_putField_ok (jf_putField_ok hs _ _ hk) _ _ (by decide)) _ _ (Nat.mod_lt _ (by decide))
theorem jf_vacate_ok {s : Nat → Nat} (hs : jf_ok s) (i : Nat) : jf_ok (jf_vacate s i) := jf_putField_ok (jf_putField_ok (jf_resize_ok hs _ (by decide)) _ _ (by decide)) _ _ (by decide)
theorem jf_addEntry_ok {s : Nat → Nat} (hs : jf_ok s) (d : Nat) {n i : Nat} (hn : n < 256) (hi : i < 256) (he : jf_entries s d < 127) : jf_ok (jf_addEntry s d n i) := jf_putEntry_ok (jf_resize_ok hs _ (by omega)) _ _ hn hi
theorem jf_redirect_ok {s : Nat → Nat} (hs : jf_ok s) (d : Nat) {n i : Nat} (hn : n < 256) (hi : i < 256) : jf_ok (jf_redirect s d n i) := by
  unfold jf_redirect
  split
  · exact hs
  · exact jf_putEntry_ok hs _ _ hn hi
theorem jf_dropEntry_ok {s : Nat → Nat} (hs : jf_ok s) (d n : Nat) : jf_ok (jf_dropEntry s d n) := by
  unfold jf_dropEntry
  split
  · exact hs
  · have := jf_entries_lt hs d
    exact jf_resize_ok (jf_putEntry_ok hs _ _ (jf_get_lt hs _) (jf_get_lt hs _)) _ (by omega)
def jf_cpy (s c : Nat → Nat) : Nat → Nat := fun k => if k < 640 then s k else c k
theorem jf_cpy_ok {s c : Nat → Nat} (hs : jf_ok s) (hc : jf_ok c) : jf_ok (jf_cpy s c) := by
  intro k
  unfold jf_cpy
  split
  · exact hs k
  · exact hc k
theorem jf_cpy_eq (s c : Nat → Nat) : va_cpy (jn s) (jn c) (nI 0).toNatClampNeg (nI 0).toNatClampNeg (nI 640).toNatClampNeg = jn (jf_cpy s c) := by
  have e0 : (nI 0).toNatClampNeg = 0 := by decide
  have e1 : (nI 640).toNatClampNeg = 640 := by decide
  rw [e0, e1]
  funext k
  by_cases h : k < 640
  · rw [sb_cpy0 h]
    simp [jn, jf_cpy, h]
  · rw [pk_cpy_out (Or.inr (by omega))]
    simp [jn, jf_cpy, h]
abbrev wI (qI qD qS qC : Nat) (cS cC : ClassId) (s c : Nat → Nat) : va_W := wD qD qS qC cS cC s c ++ [(qI, .inr (2, [.ref qD]))]
section JS
variable {p : Program} {l : Launch} {e : Env} {R : Room} {s : State} {m : MethodId} {args : Array Value} {below : List Frame} {meth : Method} {c : Code} {H H0 : Heap} {locs : List Loc} {cells slots : Nat} {Q : State → Prop}
variable {cc : ByteArray} {pc nL : Nat} {ls : Array Slot} {rest st : List Value} {own : String} {ret : Option FieldType} {G : va_G}
/-- a static method that only counts -/
theorem jr_callS0 {index : Nat} {y : MethodName} {bytes : ByteArray} {maxL n : Nat} {rt : Option FieldType} {rm : Room} {As : List Value} {v : Int32}
    (C : jx p s m args meth c own cc nL ret) (hM : jr l y (.code y bytes maxL rt) rm G [] [] As v) (kl : jc_S own index y bytes maxL rt n)
    (hR : rm.frames + 1 ≤ R.frames ∧ 8 + (maxL + 11) + rm.locals ≤ R.locals ∧ rm.cells = 0 ∧ rm.slots = 0) (hc : cells ≤ R.cells ∧ slots ≤ R.slots)
    {tys : List (ClassId × FieldType)} (hK : va_K G jcl tys s)
    (hl : ls.size = nL) (hn : As.length = n) {st : List Value} (hst : st = As.reverse ++ rest) (hw : (rest.map fun v => v.category).sum ≤ 8) (hd : decode cc pc = .ok (.invokestatic index, 3))
    (kk : W p l e R s m args below meth c H locs cells slots Q (F0 m (pc + 3) ls (.int v :: rest))) : W p l e R s m args below meth c H locs cells slots Q (F0 m pc ls st) :=
  jr_callS C hM kl hR hc (fun k q h => by simp at h) (hK.sub [] rfl) hl hn hst hw hd kk
end JS
