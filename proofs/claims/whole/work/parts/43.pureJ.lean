/-! The class's own methods over paths and handles -/
def jex (t : Nat) : String := if t = 1 then "java/lang/IllegalArgumentException" else if t = 2 then "java/util/NoSuchElementException" else if t = 3 then "java/lang/IllegalStateException" else "java/lang/UnsupportedOperationException"
def jf_rng (v lo hi : Nat) : Nat := if lo ≤ v ∧ v ≤ hi then 0 else 1
theorem jf_rng_0 {v lo hi : Nat} (h : jf_rng v lo hi = 0) : lo ≤ v ∧ v ≤ hi := by
  unfold jf_rng at h
  split at h
  · assumption
  · cases h
def jf_cpL : Nat → Nat → Nat
  | 0, _ => 0
  | n + 1, r => if r = 0 then 0 else if r % 256 = 0 then 1 else jf_cpL n (r / 2 ^ 8)
def jf_path (u : Nat) : Nat := jf_cpL 4 u
def jf_abL (a : Nat) : Nat → Nat → Nat
  | 0, _ => if a = 0 then 1 else 0
  | n + 1, r => if r = a then 1 else jf_abL a n (r / 2 ^ 8)
def jf_below (u a : Nat) : Nat := jf_abL a 4 u
theorem jf_abL_lt (a : Nat) : ∀ n r, jf_abL a n r < 2 := by
  intro n
  induction n with
  | zero => intro r; unfold jf_abL; split <;> decide
  | succ n ih =>
    intro r
    unfold jf_abL
    split
    · decide
    · exact ih _
def jf_wrs (z : Nat) : Nat := if z = 2 then 1 else if z = 3 then 1 else 0
def jf_rds (z : Nat) : Nat := if z = 1 then 1 else if z = 3 then 1 else 0
def jf_kf (z : Nat) : Nat := if z = 4 then 2 else 1
theorem jf_wrs_lt (z : Nat) : jf_wrs z < 2 := by
  unfold jf_wrs
  split
  · decide
  · split <;> decide
theorem jf_rds_lt (z : Nat) : jf_rds z < 2 := by
  unfold jf_rds
  split
  · decide
  · split <;> decide
theorem jf_kf_lt (z : Nat) : jf_kf z < 3 := by
  unfold jf_kf
  split <;> decide
/-- the inode at a path -/
def jf_iaL (s : Nat → Nat) (u : Nat) : Nat → Nat → Option Nat
  | 0, i => some i
  | n + 1, i => if u / 2 ^ (8 * n) % 256 = 0 then jf_iaL s u n i else match jf_findEntry s i (u / 2 ^ (8 * n) % 256) with
    | none => none
    | some e => jf_iaL s u n (jf_entryInode s i e)
def jf_inodeAt (s : Nat → Nat) (u : Nat) : Option Nat := jf_iaL s u 4 0
theorem jf_iaL_lt {s : Nat → Nat} (hs : jf_ok s) (u : Nat) {j : Nat} : ∀ n i, i < 256 → jf_iaL s u n i = some j → j < 256 := by
  intro n
  induction n with
  | zero => intro i hi h; cases h; exact hi
  | succ n ih =>
    intro i hi h
    unfold jf_iaL at h
    split at h
    · exact ih i hi h
    · split at h
      · cases h
      · exact ih _ (jf_get_lt hs _) h
theorem jf_inodeAt_lt {s : Nat → Nat} (hs : jf_ok s) {u j : Nat} (h : jf_inodeAt s u = some j) : j < 256 := jf_iaL_lt hs u 4 0 (by decide) h
-- the world of a whole JournaledFiles: ho isOpen, hn inode, hg generation, hm mode, hp position
abbrev jh (qh : Nat → Nat) (ho hn hg hm hp : Nat → Nat) (k : Nat) : Nat × va_E := (qh k, .inr (1, [.int (nI (ho k)), .int (nI (hn k)), .int (nI (hg k)), .int (nI (hm k)), .int (nI (hp k))]))
abbrev wJ (qJ qH : Nat) (qh : Nat → Nat) (cH : ClassId) (qI qD qS qC : Nat) (cS cC : ClassId) (s c ho hn hg hm hp : Nat → Nat) (wc wd tf : Nat) : va_W :=
  wI qI qD qS qC cS cC s c ++ [(qJ, .inr (3, [.ref qD, .ref qI, .ref qH, .int (nI wc), .int (nI wd), .int (nI tf)])), (qH, .inl (cH, 6, .inr (.inr (.inr (.inr (fun k => some (qh k))))))), jh qh ho hn hg hm hp 0, jh qh ho hn hg hm hp 1, jh qh ho hn hg hm hp 2, jh qh ho hn hg hm hp 3, jh qh ho hn hg hm hp 4, jh qh ho hn hg hm hp 5]
abbrev tJ (cS cC cH : ClassId) : List (ClassId × FieldType) := [(cS, .int), (cC, .int), (cH, .object "JournaledFiles$Handle")]
theorem jh_at {qJ qH : Nat} {qh : Nat → Nat} {cH : ClassId} {qI qD qS qC : Nat} {cS cC : ClassId} {s c ho hn hg hm hp : Nat → Nat} {wc wd tf k : Nat} (hk : k < 6) : (wJ qJ qH qh cH qI qD qS qC cS cC s c ho hn hg hm hp wc wd tf)[6 + k]? = some (jh qh ho hn hg hm hp k) := by
  rcases (show k = 0 ∨ k = 1 ∨ k = 2 ∨ k = 3 ∨ k = 4 ∨ k = 5 by omega) with rfl | rfl | rfl | rfl | rfl | rfl <;> rfl
theorem jh_set {qJ qH : Nat} {qh : Nat → Nat} {cH : ClassId} {qI qD qS qC : Nat} {cS cC : ClassId} {s c ho hn hg hm hp : Nat → Nat} {wc wd tf k : Nat} (hk : k < 6) (a1 a2 a3 a4 a5 : Nat) : (wJ qJ qH qh cH qI qD qS qC cS cC s c ho hn hg hm hp wc wd tf).set (6 + k) (qh k, .inr (1, [.int (nI a1), .int (nI a2), .int (nI a3), .int (nI a4), .int (nI a5)])) = wJ qJ qH qh cH qI qD qS qC cS cC s c (ju ho k a1) (ju hn k a2) (ju hg k a3) (ju hm k a4) (ju hp k a5) wc wd tf := by
  rcases (show k = 0 ∨ k = 1 ∨ k = 2 ∨ k = 3 ∨ k = 4 ∨ k = 5 by omega) with rfl | rfl | rfl | rfl | rfl | rfl <;> simp [wJ, wI, wD, jh, ju]
theorem ju_same (f : Nat → Nat) (k : Nat) : ju f k (f k) = f := by
  funext j
  unfold ju
  split
  · rename_i h; rw [h]
  · rfl
section JH
variable {p : Program} {l : Launch} {e : Env} {R : Room} {s : State} {m : MethodId} {args : Array Value} {below : List Frame} {meth : Method} {c : Code} {H : Heap} {locs : List Loc} {cells slots : Nat} {Q : State → Prop}
variable {cc : ByteArray} {pc : Nat} {ls : Array Slot} {rest : List Value} {G : va_G} {cl : List vw_C} {tys : List (ClassId × FieldType)} {ws : va_W} {a : Nat}
theorem jl_hald (hx : p.tables.exec = Jvm.exec) (hb : c.code = cc) (hK : va_K G cl tys s) (hP : va_P G cl ws H) (q0 t0 : Nat) {cA : ClassId} {C : String} {n i : Nat} {qh : Nat → Nat} (ha : ws[q0]? = some (a, .inl (cA, n, .inr (.inr (.inr (.inr (fun k => some (qh k)))))))) (ht : tys[t0]? = some (cA, .object C)) (hi : i < n) (hn : n < 2 ^ 31) (hd : decode cc pc = .ok (.aaload, 1))
    (kk : W p l e R s m args below meth c H locs cells slots Q (F0 m (pc + 1) ls (.ref (qh i) :: rest))) : W p l e R s m args below meth c H locs cells slots Q (F0 m pc ls (.int (nI i) :: .ref a :: rest)) :=
  va_aldq hx hb hK hP q0 t0 ha ht (vp_in_nI hi hn) hd (by
    show W p l e R s m args below meth c H locs cells slots Q (F0 m (pc + 1) ls (va_rf (some (qh (nI i).toNatClampNeg)) :: rest))
    rw [nI_clamp (by omega)]
    exact kk)
end JH
