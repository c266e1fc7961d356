/-! what a path's lead says -/
theorem jm_ldL_ok {K Z Y : Nat → Nat} (hE : jm_ents K Z Y) (u : Nat) : ∀ n pa ey fo la, (∀ p, pa = some p → p < 12 ∧ K p = 2) → (∀ f, fo = some f → f < 12) → la < 256 →
    (pa = none ∧ fo = some 0 ∨ (∃ p, pa = some p ∧ ey = none ∧ fo = none ∧ jm_entryOf Z Y p la = none) ∨ ∃ p j, pa = some p ∧ ey = some j ∧ fo = some (Y (p * 64 + j * 2 + 1)) ∧ jm_entryOf Z Y p la = some j) →
    (jm_ldL K Z Y u n pa ey fo la).1 < 2 ∧ (∀ p, (jm_ldL K Z Y u n pa ey fo la).2.1 = some p → p < 12 ∧ K p = 2) ∧ (∀ f, (jm_ldL K Z Y u n pa ey fo la).2.2.2.1 = some f → f < 12) ∧ (jm_ldL K Z Y u n pa ey fo la).2.2.2.2 < 256 ∧
    ((jm_ldL K Z Y u n pa ey fo la).1 ≠ 0 → ((jm_ldL K Z Y u n pa ey fo la).2.1 = none ∧ (jm_ldL K Z Y u n pa ey fo la).2.2.2.1 = some 0 ∨ (∃ p, (jm_ldL K Z Y u n pa ey fo la).2.1 = some p ∧ (jm_ldL K Z Y u n pa ey fo la).2.2.1 = none ∧ (jm_ldL K Z Y u n pa ey fo la).2.2.2.1 = none ∧ jm_entryOf Z Y p (jm_ldL K Z Y u n pa ey fo la).2.2.2.2 = none) ∨ ∃ p j, (jm_ldL K Z Y u n pa ey fo la).2.1 = some p ∧ (jm_ldL K Z Y u n pa ey fo la).2.2.1 = some j ∧ (jm_ldL K Z Y u n pa ey fo la).2.2.2.1 = some (Y (p * 64 + j * 2 + 1)) ∧ jm_entryOf Z Y p (jm_ldL K Z Y u n pa ey fo la).2.2.2.2 = some j)) := by
  intro n
  induction n with
  | zero =>
    intro pa ey fo la h1 h2 h3 h4
    exact ⟨by show 1 < 2; decide, h1, h2, h3, fun _ => h4⟩
  | succ n ih =>
    intro pa ey fo la h1 h2 h3 h4
    have hm : u / 2 ^ (8 * n) % 256 < 256 := Nat.mod_lt _ (by decide)
    unfold jm_ldL
    split
    · exact ih pa ey fo la h1 h2 h3 h4
    · cases fo with
      | none => exact ⟨by show 0 < 2; decide, h1, h2, h3, fun h => absurd rfl h⟩
      | some f =>
        have hf := h2 f rfl
        simp only []
        split
        · rename_i hk
          cases he : jm_entryOf Z Y f (u / 2 ^ (8 * n) % 256) with
          | none =>
            exact ih (some f) none none _ (fun p hp => by cases hp; exact ⟨hf, hk⟩) (fun g hg => by cases hg) hm (Or.inr (Or.inl ⟨f, rfl, rfl, rfl, he⟩))
          | some j =>
            exact ih (some f) (some j) _ _ (fun p hp => by cases hp; exact ⟨hf, hk⟩) (fun g hg => by cases hg; exact hE f hf hk j (jm_entryOf_lt he)) hm (Or.inr (Or.inr ⟨f, j, rfl, rfl, rfl, he⟩))
        · exact ⟨by show 0 < 2; decide, h1, h2, h3, fun h => absurd rfl h⟩
theorem jm_lead_ok {K Z Y : Nat → Nat} (hE : jm_ents K Z Y) (u : Nat) : (jm_lead K Z Y u).1 < 2 ∧ (∀ p, (jm_lead K Z Y u).2.1 = some p → p < 12 ∧ K p = 2) ∧ (∀ f, (jm_lead K Z Y u).2.2.2.1 = some f → f < 12) ∧ (jm_lead K Z Y u).2.2.2.2 < 256 ∧ ((jm_lead K Z Y u).1 ≠ 0 → ((jm_lead K Z Y u).2.1 = none ∧ (jm_lead K Z Y u).2.2.2.1 = some 0 ∨ (∃ p, (jm_lead K Z Y u).2.1 = some p ∧ (jm_lead K Z Y u).2.2.1 = none ∧ (jm_lead K Z Y u).2.2.2.1 = none ∧ jm_entryOf Z Y p (jm_lead K Z Y u).2.2.2.2 = none) ∨ ∃ p j, (jm_lead K Z Y u).2.1 = some p ∧ (jm_lead K Z Y u).2.2.1 = some j ∧ (jm_lead K Z Y u).2.2.2.1 = some (Y (p * 64 + j * 2 + 1)) ∧ jm_entryOf Z Y p (jm_lead K Z Y u).2.2.2.2 = some j)) := jm_ldL_ok hE u 4 none none (some 0) 0 (fun p h => by cases h) (fun f h => by cases h; decide) (by decide) (Or.inl ⟨rfl, rfl⟩)
theorem jm_lead_lt {K Z Y : Nat → Nat} (hE : jm_ents K Z Y) (u : Nat) : (jm_lead K Z Y u).1 < 2 := (jm_lead_ok hE u).1
theorem jm_lead_pa {K Z Y : Nat → Nat} {u p : Nat} (hE : jm_ents K Z Y) (h : (jm_lead K Z Y u).2.1 = some p) : p < 12 := ((jm_lead_ok hE u).2.1 p h).1
theorem jm_lead_fo {K Z Y : Nat → Nat} {u f : Nat} (hE : jm_ents K Z Y) (h : (jm_lead K Z Y u).2.2.2.1 = some f) : f < 12 := (jm_lead_ok hE u).2.2.1 f h
theorem jm_lead_la {K Z Y : Nat → Nat} (hE : jm_ents K Z Y) (u : Nat) : (jm_lead K Z Y u).2.2.2.2 < 256 := (jm_lead_ok hE u).2.2.2.1
/-- it leads on, and nothing is there: in which directory -/
theorem jm_lead_none {K Z Y : Nat → Nat} {u : Nat} (hE : jm_ents K Z Y) (h1 : ¬ (jm_lead K Z Y u).1 = 0) (h : (jm_lead K Z Y u).2.2.2.1 = none) : ∃ p, (jm_lead K Z Y u).2.1 = some p ∧ p < 12 ∧ K p = 2 ∧ (jm_lead K Z Y u).2.2.1 = none := by
  rcases (jm_lead_ok hE u).2.2.2.2 h1 with ⟨-, q⟩ | ⟨p, q1, q2, -, -⟩ | ⟨p, j, -, -, q, -⟩
  · rw [h] at q; cases q
  · exact ⟨p, q1, ((jm_lead_ok hE u).2.1 p q1).1, ((jm_lead_ok hE u).2.1 p q1).2, q2⟩
  · rw [h] at q; cases q
/-- it leads to something in a directory: which entry -/
theorem jm_lead_some {K Z Y : Nat → Nat} {u p f : Nat} (hE : jm_ents K Z Y) (h1 : ¬ (jm_lead K Z Y u).1 = 0) (hp : (jm_lead K Z Y u).2.1 = some p) (h : (jm_lead K Z Y u).2.2.2.1 = some f) : ∃ j, (jm_lead K Z Y u).2.2.1 = some j ∧ j < Z p / 2 ∧ f = Y (p * 64 + j * 2 + 1) ∧ jm_entryOf Z Y p (jm_lead K Z Y u).2.2.2.2 = some j := by
  rcases (jm_lead_ok hE u).2.2.2.2 h1 with ⟨q, -⟩ | ⟨p2, -, -, q, -⟩ | ⟨p2, j, q1, q2, q3, q4⟩
  · rw [hp] at q; cases q
  · rw [h] at q; cases q
  · rw [hp] at q1
    cases q1
    rw [h] at q3
    cases q3
    exact ⟨j, q2, jm_entryOf_lt q4, rfl, q4⟩
theorem jm_entryRoom_32 {Z B : Nat → Nat} {d more : Nat} (h : ¬ jm_entryRoom Z B d more = 0) : Z d < 32 := by
  unfold jm_entryRoom at h
  split at h
  · assumption
  · exact absurd rfl h
def jm_stT (K Z Y : Nat → Nat) (u z : Nat) : Nat := if jm_badPath u = 0 then (if 4 < z then 1 else if (jm_lead K Z Y u).1 = 0 then 2 else match (jm_lead K Z Y u).2.2.2.1 with
  | none => 2
  | some _ => 0) else 1
def jm_stR (K Z N : Nat → Nat) (fo : Option Nat) (z : Nat) : Nat := match fo with
  | none => 0
  | some f => if z = 0 then K f else if z = 1 then Z f else if z = 2 then f else if z = 3 then N f else if K f = 2 then Z f / 2 else 0
def jm_trT (K Z B Y : Nat → Nat) (u z : Nat) : Nat := if jm_badPath u = 0 then (if 64 < z then 1 else if (jm_lead K Z Y u).1 = 0 then 2 else match (jm_lead K Z Y u).2.2.2.1 with
  | none => 2
  | some f => if K f = 1 then (if jm_roomFor Z B f z = 0 then 4 else 0) else 3) else 1
def jm_diT (K Z B Y : Nat → Nat) (u : Nat) : Nat := if jm_badPath u = 0 then (if (jm_lead K Z Y u).1 = 0 then 2 else match (jm_lead K Z Y u).2.2.2.1 with
  | some _ => 3
  | none => if jm_newInode K = 12 then 4 else if jm_entryRoom Z B ((jm_lead K Z Y u).2.1.getD 0) 0 = 0 then 4 else 0) else 1
theorem jm_entryRoom_lt (Z B : Nat → Nat) (d more : Nat) : jm_entryRoom Z B d more < 2 := by
  unfold jm_entryRoom
  split
  · split <;> decide
  · decide
theorem jf_hasRoomForEntry_lt (s : Nat → Nat) (d : Nat) : jf_hasRoomForEntry s d < 2 := by
  unfold jf_hasRoomForEntry
  split
  · split
    · decide
    · split <;> decide
  · decide
