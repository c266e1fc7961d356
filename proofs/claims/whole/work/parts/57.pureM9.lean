/-- the last name's step of a lead -/
def jm_ldS (K Z Y : Nat → Nat) (nm : Nat) (r : Nat × Option Nat × Option Nat × Option Nat × Nat) : Nat × Option Nat × Option Nat × Option Nat × Nat :=
  if r.1 = 0 then r else if nm = 0 then r else match r.2.2.2.1 with
    | none => (0, r.2.1, r.2.2.1, none, r.2.2.2.2)
    | some f => if K f = 2 then (match jm_entryOf Z Y f nm with
        | none => (1, some f, none, none, nm)
        | some j => (1, some f, some j, some (Y (f * 64 + j * 2 + 1)), nm))
      else (0, r.2.1, r.2.2.1, some f, r.2.2.2.2)
theorem jm_ldL_s (K Z Y : Nat → Nat) (P n : Nat) (pa ey fo : Option Nat) (la : Nat) : jm_ldL K Z Y P (n + 1) pa ey fo la = if P / 2 ^ (8 * n) % 256 = 0 then jm_ldL K Z Y P n pa ey fo la else match fo with
    | none => (0, pa, ey, none, la)
    | some f => if K f = 2 then (match jm_entryOf Z Y f (P / 2 ^ (8 * n) % 256) with
        | none => jm_ldL K Z Y P n (some f) none none (P / 2 ^ (8 * n) % 256)
        | some j => jm_ldL K Z Y P n (some f) (some j) (some (Y (f * 64 + j * 2 + 1))) (P / 2 ^ (8 * n) % 256))
      else (0, pa, ey, some f, la) := by
  cases fo with
  | none => simp only [jm_ldL]
  | some f => simp only [jm_ldL]; rfl
theorem jm_ldL_div (K Z Y : Nat → Nat) (u : Nat) : ∀ n pa ey fo la, jm_ldL K Z Y u (n + 1) pa ey fo la = jm_ldS K Z Y (u % 256) (jm_ldL K Z Y (u / 2 ^ 8) n pa ey fo la) := by
  intro n
  induction n with
  | zero =>
    intro pa ey fo la
    have e : u / 2 ^ (8 * 0) % 256 = u % 256 := by simp
    rw [jm_ldL_s, e]
    simp only [jm_ldL, jm_ldS]
    cases fo with
    | none => simp
    | some f => simp
  | succ n ih =>
    intro pa ey fo la
    have e : u / 2 ^ (8 * (n + 1)) = u / 2 ^ 8 / 2 ^ (8 * n) := by
      rw [Nat.div_div_eq_div_mul, ← Nat.pow_add]
      congr 2
      omega
    rw [jm_ldL_s, e]
    conv => rhs; rw [jm_ldL_s]
    split
    · exact ih pa ey fo la
    · cases fo with
      | none => simp [jm_ldS]
      | some f =>
        simp only []
        split
        · split
          · exact ih _ _ _ _
          · exact ih _ _ _ _
        · simp [jm_ldS]
theorem jm_lead_div (K Z Y : Nat → Nat) {u : Nat} (hu : u < 4294967296) : jm_lead K Z Y u = jm_ldS K Z Y (u % 256) (jm_lead K Z Y (u / 2 ^ 8)) := by
  have h := jm_ldL_div K Z Y u 4 none none (some 0) 0
  have e : u / 2 ^ (8 * 4) % 256 = 0 := by
    have : u / 2 ^ (8 * 4) = 0 := Nat.div_eq_of_lt hu
    rw [this]
  rw [jm_ldL_s, if_pos e] at h
  exact h
theorem jm_lead_in {K Z Y : Nat → Nat} {u : Nat} (hu : u < 4294967296) (h0 : ¬ u % 256 = 0) (h : ¬ (jm_lead K Z Y u).1 = 0) : ∃ p, (jm_lead K Z Y u).2.1 = some p := by
  rw [jm_lead_div K Z Y hu] at h ⊢
  unfold jm_ldS at h ⊢
  by_cases h1 : (jm_lead K Z Y (u / 2 ^ 8)).1 = 0
  · simp [h1] at h
  · simp only [h1, h0, if_false] at h ⊢
    cases hf : (jm_lead K Z Y (u / 2 ^ 8)).2.2.2.1 with
    | none => simp [hf] at h
    | some f =>
      simp only [hf] at h ⊢
      by_cases hk : K f = 2
      · simp only [hk, if_true] at h ⊢
        split
        · exact ⟨f, rfl⟩
        · exact ⟨f, rfl⟩
      · simp [hk] at h
theorem jm_z62 {Z : Nat → Nat} {p q : Nat} (hZ : jlt 65 Z) (h : q = p ∨ Z q < 32) : ju Z p (Z p - 2) q ≤ 62 := by
  have h1 := hZ p
  unfold ju
  split
  · omega
  · rcases h with h | h
    · exact absurd h (by assumption)
    · omega
theorem jm_needed_sub (z : Nat) : jm_needed (z - 2) ≤ jm_needed z := by
  unfold jm_needed
  omega
theorem jo_getD {o : Option Nat} (h : o.isSome = true) : jo o = nI (o.getD 0) := by
  cases o with
  | none => cases h
  | some j => rfl
theorem jm_entryOf_getD {Z Y : Nat → Nat} (hZ : jlt 65 Z) (d nm : Nat) : (jm_entryOf Z Y d nm).getD 0 < 33 := by
  cases h : jm_entryOf Z Y d nm with
  | none => decide
  | some j =>
    have h1 := jm_entryOf_lt h
    have h2 := hZ d
    show j < 33
    omega
theorem jm_bpL_last (P : Nat) : ∀ n g, (g = 0 ∨ g = 1) → jm_bpL P (n + 1) g = 0 → P % 256 = 0 → g = 0 ∧ ∀ k, k ≤ n → P / 2 ^ (8 * k) % 256 = 0 := by
  intro n
  induction n with
  | zero =>
    intro g hg h h0
    have e : P / 2 ^ (8 * 0) % 256 = 0 := by simpa using h0
    have q : g = 0 := by
      rcases hg with hg | hg
      · exact hg
      · subst hg; simp [jm_bpL, h0] at h
    exact ⟨q, fun k hk => by rw [show k = 0 by omega]; exact e⟩
  | succ n ih =>
    intro g hg h h0
    rw [jm_bpL] at h
    by_cases hd : P / 2 ^ (8 * (n + 1)) % 256 = 0
    · rcases hg with hg | hg
      · subst hg
        rw [if_pos rfl, if_pos hd] at h
        have := ih 0 (Or.inl rfl) h h0
        refine ⟨rfl, fun k hk => ?_⟩
        rcases Nat.lt_or_ge k (n + 1) with h2 | h2
        · exact this.2 k (by omega)
        · rw [show k = n + 1 by omega]; exact hd
      · subst hg
        rw [if_neg (by decide), if_pos hd] at h
        exact absurd h (by decide)
    · have h1 : jm_bpL P (n + 1) 1 = 0 := by
        rcases hg with hg | hg
        · subst hg
          rw [if_pos rfl, if_neg hd] at h
          exact h
        · subst hg
          rw [if_neg (by decide), if_neg hd] at h
          exact h
      exact absurd (ih 1 (Or.inr rfl) h1 h0).1 (by decide)
theorem jm_bad_last {u : Nat} (hu : u < 4294967296) (h : jm_badPath u = 0) (h0 : ¬ u = 0) : ¬ u % 256 = 0 := by
  intro q
  have h1 := (jm_bpL_last u 3 0 (Or.inl rfl) h q).2
  have a0 := h1 0 (by decide)
  have a1 := h1 1 (by decide)
  have a2 := h1 2 (by decide)
  have a3 := h1 3 (by decide)
  simp only [Nat.mul_zero, Nat.pow_zero, Nat.div_one, Nat.mul_one] at a0 a1 a2 a3
  omega
def jm_rnT (K Z B Y : Nat → Nat) (u v : Nat) : Nat := if jm_badPath u = 0 then (if jm_badPath v = 0 then (if (jm_lead K Z Y u).1 = 0 then 2 else match (jm_lead K Z Y u).2.2.2.1 with
  | none => 2
  | some f => if (jm_lead K Z Y v).1 = 0 then 2 else if u = 0 then 3 else if v = 0 then 3 else if jm_within v u = 0 then (match (jm_lead K Z Y v).2.2.2.1 with
    | none => if (jm_lead K Z Y u).2.1.getD 0 = (jm_lead K Z Y v).2.1.getD 0 then 0 else if jm_entryRoom Z B ((jm_lead K Z Y v).2.1.getD 0) (jm_needed (Z ((jm_lead K Z Y u).2.1.getD 0)) - jm_needed (Z ((jm_lead K Z Y u).2.1.getD 0) - 2)) = 0 then 4 else 0
    | some g => if K g = 1 then (if K f = 1 then 0 else 3) else 3) else 3) else 1) else 1
theorem jm_rnT_go {K Z B Y : Nat → Nat} {u v f g : Nat} (h1 : jm_badPath u = 0) (h2 : jm_badPath v = 0) (h3 : ¬ (jm_lead K Z Y u).1 = 0) (h4 : (jm_lead K Z Y u).2.2.2.1 = some f) (h5 : ¬ (jm_lead K Z Y v).1 = 0) (h6 : ¬ u = 0) (h7 : ¬ v = 0) (h8 : jm_within v u = 0) (h9 : (jm_lead K Z Y v).2.2.2.1 = some g) (h10 : K g = 1) (h11 : K f = 1) : jm_rnT K Z B Y u v = 0 := by
  unfold jm_rnT
  rw [if_pos h1, if_pos h2, if_neg h3, h4]
  simp only []
  rw [if_neg h5, if_neg h6, if_neg h7, if_pos h8, h9]
  simp only []
  rw [if_pos h10, if_pos h11]
