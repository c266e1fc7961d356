theorem jf_get_put (s : Nat → Nat) (a b v : Nat) : jf_get (jf_put s a v) b = if b = a ∧ a < 640 then v else jf_get s b := by
  unfold jf_get jf_put ju
  by_cases h : a < 640
  · by_cases g : b = a
    · subst g; simp [h]
    · simp [h, g]
  · simp [h]
theorem jf_field_put (s : Nat → Nat) (i f j g v : Nat) (hf : f < 8) (hg : g < 8) : jf_field (jf_putField s i f v) j g = if (j = i ∧ g = f) ∧ 16 + i * 8 + f < 640 then v else jf_field s j g := by
  unfold jf_field jf_putField
  rw [jf_get_put]
  have e : (16 + j * 8 + g = 16 + i * 8 + f) ↔ (j = i ∧ g = f) := by omega
  simp only [e]
theorem jf_lfL_kind (s : Nat → Nat) {j : Nat} : ∀ n e, jf_lfL s n e = some j → jf_kind s j = 0 := by
  intro n
  induction n with
  | zero => intro e h; simp [jf_lfL] at h
  | succ n ih =>
    intro e h
    unfold jf_lfL at h
    split at h
    · cases h; assumption
    · exact ih _ h
theorem jf_entries_occ (s : Nat → Nat) {j d : Nat} (k : Nat) (h : d ≠ j) : jf_entries (jf_occupy s j k) d = jf_entries s d := by
  have e : ∀ g, g < 8 → jf_field (jf_occupy s j k) d g = jf_field s d g := by
    intro g hg
    unfold jf_occupy
    rw [jf_field_put _ _ _ _ _ _ (by omega) hg, jf_field_put _ _ _ _ _ _ (by omega) hg, jf_field_put _ _ _ _ _ _ (by omega) hg]
    simp [h]
  unfold jf_entries jf_kind jf_size
  rw [e 0 (by decide), e 1 (by decide)]
theorem jf_rnT_0 {s : Nat → Nat} {d : Nat} (h : jf_rnT s d = 0) : ∃ j, jf_leastFree s = some j ∧ jf_entries s d < 16 := by
  unfold jf_rnT at h
  cases hq : jf_leastFree s with
  | none => rw [hq] at h; simp at h
  | some j =>
    rw [hq] at h
    refine ⟨j, rfl, ?_⟩
    by_cases g : jf_entries s d < 16
    · exact g
    · simp [jf_hasRoomForEntry, g] at h
theorem jf_paT_0 {s : Nat → Nat} {u : Nat} (h : jf_paT s u = 0) : jf_kind s ((jf_inodeAt s (u / 2 ^ 8)).getD 0) = 2 := by
  unfold jf_paT at h
  cases hq : jf_inodeAt s (u / 2 ^ 8) with
  | none => rw [hq] at h; simp at h
  | some j =>
    rw [hq] at h
    show jf_kind s j = 2
    by_cases g : jf_kind s j = 2
    · exact g
    · simp [g] at h
theorem jf_new_ok {s : Nat → Nat} (hs : jf_ok s) {d nm k : Nat} (hn : nm < 256) (hk : k < 256) (hT : jf_rnT s d = 0) (h2 : jf_kind s d = 2) : jf_ok (jf_new s d nm k) := by
  obtain ⟨j, hj, he⟩ := jf_rnT_0 hT
  have hj0 := jf_leastFree_lt hj
  have hk0 := jf_lfL_kind s _ _ hj
  have hd : d ≠ j := by intro q; rw [q] at h2; omega
  unfold jf_new
  rw [hj]
  show jf_ok (jf_addEntry (jf_occupy s j k) d nm j)
  exact jf_addEntry_ok (jf_occupy_ok hs _ hk) _ hn (by omega) (by rw [jf_entries_occ s k hd]; omega)
def jf_pa (s : Nat → Nat) (u : Nat) : Nat := (jf_inodeAt s (u / 2 ^ 8)).getD 0
def jf_dirT (s : Nat → Nat) (u : Nat) : Nat := if jf_path u = 0 then (match jf_inodeAt s u with
  | some _ => 3
  | none => if jf_paT s u = 0 then jf_rnT s ((jf_inodeAt s (u / 2 ^ 8)).getD 0) else jf_paT s u) else jf_path u
def jf_opT (s ho : Nat → Nat) (u z cr : Nat) : Nat := if jf_path u = 0 then (if jf_rng z 1 4 = 0 then (match jf_inodeAt s u with
  | none => if cr = 0 then 2 else if jf_wrs z = 0 then 2 else if jf_paT s u = 0 then (if jf_chT ho = 0 then jf_rnT s ((jf_inodeAt s (u / 2 ^ 8)).getD 0) else jf_chT ho) else jf_paT s u
  | some i => if jf_kind s i = jf_kf z then jf_chT ho else 3) else jf_rng z 1 4) else jf_path u
def jf_opI (s : Nat → Nat) (u : Nat) : Nat := match jf_inodeAt s u with
  | none => (jf_leastFree s).getD 0
  | some i => i
def jf_opS (s : Nat → Nat) (u z em : Nat) : Nat → Nat := match jf_inodeAt s u with
  | none => jf_new s ((jf_inodeAt s (u / 2 ^ 8)).getD 0) (u % 256) 1
  | some i => if em = 0 then s else if jf_wrs z = 0 then s else jf_resize s i 0
def jf_opP (s : Nat → Nat) (u z ap em : Nat) : Nat := match jf_inodeAt s u with
  | none => 0
  | some i => if ap = 0 then 0 else if z = 4 then 0 else jf_size (jf_opS s u z em) i
theorem jf_leastFree_getD (s : Nat → Nat) : (jf_leastFree s).getD 0 < 12 := by
  cases h : jf_leastFree s with
  | none => decide
  | some j => exact jf_leastFree_lt h
theorem jf_iaL_div (s : Nat → Nat) (u : Nat) : ∀ n i, jf_iaL s u (n + 1) i = (jf_iaL s (u / 2 ^ 8) n i).bind (fun p => if u % 256 = 0 then some p else match jf_findEntry s p (u % 256) with
  | none => none
  | some e => some (jf_entryInode s p e)) := by
  intro n
  induction n with
  | zero =>
    intro i
    have e : u / 2 ^ (8 * 0) % 256 = u % 256 := by simp
    unfold jf_iaL
    rw [e]
    simp only [jf_iaL, Option.bind]
    split
    · rfl
    · split <;> simp_all
  | succ n ih =>
    intro i
    have e : u / 2 ^ (8 * (n + 1)) = u / 2 ^ 8 / 2 ^ (8 * n) := by
      rw [Nat.div_div_eq_div_mul, ← Nat.pow_add]
      congr 2
      omega
    rw [jf_iaL, e]
    conv => rhs; rw [jf_iaL]
    split
    · exact ih i
    · split
      · rfl
      · exact ih _
theorem jf_inodeAt_div (s : Nat → Nat) {u : Nat} (hu : u < 4294967296) : jf_inodeAt s u = (jf_inodeAt s (u / 2 ^ 8)).bind (fun p => if u % 256 = 0 then some p else match jf_findEntry s p (u % 256) with
  | none => none
  | some e => some (jf_entryInode s p e)) := by
  have h := jf_iaL_div s u 4 0
  have e : u / 2 ^ (8 * 4) % 256 = 0 := by
    have : u / 2 ^ (8 * 4) = 0 := Nat.div_eq_of_lt hu
    rw [this]
  rw [jf_iaL, if_pos e] at h
  exact h
theorem jf_inT_some {s : Nat → Nat} {u : Nat} (h : jf_inT s u = 0) : ∃ i, jf_inodeAt s u = some i := by
  unfold jf_inT at h
  cases hq : jf_inodeAt s u with
  | none => rw [hq] at h; simp at h
  | some j => exact ⟨j, rfl⟩
theorem jf_inT_pa {s : Nat → Nat} {u : Nat} (hu : u < 4294967296) (h : jf_inT s u = 0) : jo (jf_inodeAt s (u / 2 ^ 8)) = nI ((jf_inodeAt s (u / 2 ^ 8)).getD 0) := by
  obtain ⟨i, hi⟩ := jf_inT_some h
  rw [jf_inodeAt_div s hu] at hi
  cases hq : jf_inodeAt s (u / 2 ^ 8) with
  | none => rw [hq] at hi; cases hi
  | some j => rfl
theorem jf_path_last {u : Nat} (h : jf_path u = 0) (h0 : ¬ u = 0) : ¬ u % 256 = 0 := by
  intro q
  unfold jf_path at h
  simp [jf_cpL, h0, q] at h
theorem jf_inT_entry {s : Nat → Nat} {u : Nat} (hu : u < 4294967296) (h : jf_inT s u = 0) (hp : jf_path u = 0) (h0 : ¬ u = 0) : 1 ≤ jf_entries s ((jf_inodeAt s (u / 2 ^ 8)).getD 0) := by
  obtain ⟨i, hi⟩ := jf_inT_some h
  rw [jf_inodeAt_div s hu] at hi
  cases hq : jf_inodeAt s (u / 2 ^ 8) with
  | none => rw [hq] at hi; cases hi
  | some j =>
    rw [hq] at hi
    simp only [Option.bind, if_neg (jf_path_last hp h0)] at hi
    show 1 ≤ jf_entries s j
    cases hf : jf_findEntry s j (u % 256) with
    | none => rw [hf] at hi; cases hi
    | some e => have := jf_findEntry_lt hf; omega
