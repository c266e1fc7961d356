/-! The class's bytes are the encoding of the reference's tables -/
def je_u (B : Nat → Nat) (b : Nat) : Prop := b < 9 ∨ ∃ q, q < 48 ∧ B q = b
def je_d (s B Y : Nat → Nat) : Prop := (∀ i k, i < 12 → k < 4 → jf_get s (16 + i * 8 + (4 + k)) = B (i * 4 + k)) ∧ (∀ b, b < 40 → (jf_get s (b / 8) / 2 ^ (b % 8) % 2 = 1 ↔ je_u B b)) ∧ (∀ a, 5 ≤ a → a < 16 → jf_get s a = 0) ∧ (∀ a, 112 ≤ a → a < 144 → jf_get s a = 0) ∧ (∀ q j, q < 48 → B q ≠ 0 → j < 16 → jf_get s (B q * 16 + j) = Y (q * 16 + j)) ∧ (∀ b j, b < 40 → ¬ je_u B b → j < 16 → jf_get s (b * 16 + j) = 0) ∧ (∀ q, q < 48 → B q = 0 ∨ (9 ≤ B q ∧ B q < 40)) ∧ (∀ q r, q < 48 → r < 48 → B q = B r → B q ≠ 0 → q = r)
theorem je_d.pt {s B Y : Nat → Nat} (h : je_d s B Y) : ∀ i k, i < 12 → k < 4 → jf_get s (16 + i * 8 + (4 + k)) = B (i * 4 + k) := h.1
theorem je_d.mp {s B Y : Nat → Nat} (h : je_d s B Y) : ∀ b, b < 40 → (jf_get s (b / 8) / 2 ^ (b % 8) % 2 = 1 ↔ je_u B b) := h.2.1
theorem je_d.z1 {s B Y : Nat → Nat} (h : je_d s B Y) : ∀ a, 5 ≤ a → a < 16 → jf_get s a = 0 := h.2.2.1
theorem je_d.z2 {s B Y : Nat → Nat} (h : je_d s B Y) : ∀ a, 112 ≤ a → a < 144 → jf_get s a = 0 := h.2.2.2.1
theorem je_d.da {s B Y : Nat → Nat} (h : je_d s B Y) : ∀ q j, q < 48 → B q ≠ 0 → j < 16 → jf_get s (B q * 16 + j) = Y (q * 16 + j) := h.2.2.2.2.1
theorem je_d.fr {s B Y : Nat → Nat} (h : je_d s B Y) : ∀ b j, b < 40 → ¬ je_u B b → j < 16 → jf_get s (b * 16 + j) = 0 := h.2.2.2.2.2.1
theorem je_d.bb {s B Y : Nat → Nat} (h : je_d s B Y) : ∀ q, q < 48 → B q = 0 ∨ (9 ≤ B q ∧ B q < 40) := h.2.2.2.2.2.2.1
theorem je_d.bi {s B Y : Nat → Nat} (h : je_d s B Y) : ∀ q r, q < 48 → r < 48 → B q = B r → B q ≠ 0 → q = r := h.2.2.2.2.2.2.2
def je_h (s K Z N : Nat → Nat) : Prop := (∀ i, i < 12 → jf_get s (16 + i * 8 + 0) = K i) ∧ (∀ i, i < 12 → jf_get s (16 + i * 8 + 1) = Z i) ∧ (∀ i, i < 12 → jf_get s (16 + i * 8 + 2) = if K i = 0 then 0 else 1) ∧ (∀ i, i < 12 → jf_get s (16 + i * 8 + 3) = N i)
theorem je_h.kd {s K Z N : Nat → Nat} (h : je_h s K Z N) : ∀ i, i < 12 → jf_get s (16 + i * 8 + 0) = K i := h.1
theorem je_h.sz {s K Z N : Nat → Nat} (h : je_h s K Z N) : ∀ i, i < 12 → jf_get s (16 + i * 8 + 1) = Z i := h.2.1
theorem je_h.lk {s K Z N : Nat → Nat} (h : je_h s K Z N) : ∀ i, i < 12 → jf_get s (16 + i * 8 + 2) = if K i = 0 then 0 else 1 := h.2.2.1
theorem je_h.gn {s K Z N : Nat → Nat} (h : je_h s K Z N) : ∀ i, i < 12 → jf_get s (16 + i * 8 + 3) = N i := h.2.2.2
theorem je_bits : ∀ x, x < 256 → ∀ k, k < 8 → ∀ j, j < 8 → jf_clr x k / 2 ^ j % 2 = (if j = k then 0 else x / 2 ^ j % 2) ∧ (jf_clr x k + 2 ^ k) / 2 ^ j % 2 = (if j = k then 1 else x / 2 ^ j % 2) := by decide +kernel
theorem je_mark (s : Nat → Nat) {b : Nat} (hb : b < 40) (u a : Nat) : jf_get (jf_mark s b u) a = if a = b / 8 then (if u = 0 then jf_clr (jf_get s (b / 8)) (b % 8) else jf_clr (jf_get s (b / 8)) (b % 8) + 2 ^ (b % 8)) else jf_get s a := by
  unfold jf_mark
  rw [jf_get_put]
  have : b / 8 < 640 := by omega
  simp [this]
theorem je_mark_bit {s : Nat → Nat} (hs : jf_ok s) {b : Nat} (hb : b < 40) (u b2 : Nat) : jf_get (jf_mark s b u) (b2 / 8) / 2 ^ (b2 % 8) % 2 = if b2 = b then (if u = 0 then 0 else 1) else jf_get s (b2 / 8) / 2 ^ (b2 % 8) % 2 := by
  rw [je_mark s hb]
  by_cases h : b2 / 8 = b / 8
  · have h1 := je_bits _ (jf_get_lt hs (b / 8)) (b % 8) (Nat.mod_lt _ (by decide)) (b2 % 8) (Nat.mod_lt _ (by decide))
    have h2 : (b2 % 8 = b % 8) ↔ b2 = b := by omega
    rw [if_pos h]
    by_cases hu : u = 0
    · rw [if_pos hu, h1.1]
      simp only [h2, h, hu, if_true]
    · rw [if_neg hu, h1.2]
      simp only [h2, h, hu, if_false]
  · have h2 : ¬ b2 = b := by intro q; exact h (by rw [q])
    rw [if_neg h, if_neg h2]
theorem je_put_ne (s : Nat → Nat) (a v : Nat) {b : Nat} (h : b ≠ a) : jf_get (jf_put s a v) b = jf_get s b := by
  rw [jf_get_put, if_neg (fun q => h q.1)]
theorem je_put_eq (s : Nat → Nat) {a : Nat} (v : Nat) (h : a < 640) : jf_get (jf_put s a v) a = v := by
  rw [jf_get_put, if_pos ⟨rfl, h⟩]
/-- a byte of a file or directory -/
theorem je_d.data {s B Y : Nat → Nat} (h : je_d s B Y) {q j : Nat} (hq : q < 48) (h0 : B q ≠ 0) (hj : j < 16) (v : Nat) : je_d (jf_put s (B q * 16 + j) v) B (ju Y (q * 16 + j) v) := by
  have hb : 9 ≤ B q ∧ B q < 40 := by rcases h.bb q hq with e | e; exact absurd e h0; exact e
  refine ⟨fun i k hi hk => ?_, fun b hb2 => ?_, fun a h1 h2 => ?_, fun a h1 h2 => ?_, fun r k hr hr0 hk => ?_, fun b k hb2 hu hk => ?_, h.bb, h.bi⟩
  · rw [je_put_ne _ _ _ (by omega)]; exact h.pt i k hi hk
  · rw [je_put_ne _ _ _ (by omega)]; exact h.mp b hb2
  · rw [je_put_ne _ _ _ (by omega)]; exact h.z1 a h1 h2
  · rw [je_put_ne _ _ _ (by omega)]; exact h.z2 a h1 h2
  · unfold ju
    by_cases hx : r * 16 + k = q * 16 + j
    · have e1 : r = q := by omega
      have e2 : k = j := by omega
      subst e1; subst e2
      rw [je_put_eq _ _ (by omega)]; simp
    · rw [if_neg hx, je_put_ne _ _ _ ?_]
      · exact h.da r k hr hr0 hk
      · intro e
        have e1 : B r = B q := by omega
        have e2 := h.bi r q hr hq e1 hr0
        subst e2
        exact hx (by omega)
  · rw [je_put_ne _ _ _ ?_]
    · exact h.fr b k hb2 hu hk
    · intro e
      have e1 : B q = b := by omega
      exact hu (Or.inr ⟨q, hq, e1⟩)
theorem je_h.high {s K Z N : Nat → Nat} (h : je_h s K Z N) {a : Nat} (v : Nat) (ha : 112 ≤ a ∨ a < 16 ∨ 4 ≤ a % 8) : je_h (jf_put s a v) K Z N := by
  refine ⟨fun i hi => ?_, fun i hi => ?_, fun i hi => ?_, fun i hi => ?_⟩
  · rw [je_put_ne _ _ _ (by omega)]; exact h.kd i hi
  · rw [je_put_ne _ _ _ (by omega)]; exact h.sz i hi
  · rw [je_put_ne _ _ _ (by omega)]; exact h.lk i hi
  · rw [je_put_ne _ _ _ (by omega)]; exact h.gn i hi
theorem je_d.head {s B Y : Nat → Nat} (h : je_d s B Y) {i f : Nat} (hi : i < 12) (hf : f < 4) (v : Nat) : je_d (jf_put s (16 + i * 8 + f) v) B Y := by
  refine ⟨fun j k hj hk => ?_, fun b hb2 => ?_, fun a h1 h2 => ?_, fun a h1 h2 => ?_, fun r k hr hr0 hk => ?_, fun b k hb2 hu hk => ?_, h.bb, h.bi⟩
  · rw [je_put_ne _ _ _ (by omega)]; exact h.pt j k hj hk
  · rw [je_put_ne _ _ _ (by omega)]; exact h.mp b hb2
  · rw [je_put_ne _ _ _ (by omega)]; exact h.z1 a h1 h2
  · rw [je_put_ne _ _ _ (by omega)]; exact h.z2 a h1 h2
  · have := h.bb r hr
    rw [je_put_ne _ _ _ (by omega)]; exact h.da r k hr hr0 hk
  · have : ¬ b < 9 := fun q => hu (Or.inl q)
    rw [je_put_ne _ _ _ (by omega)]; exact h.fr b k hb2 hu hk
theorem je_mark_ne {s : Nat → Nat} {b u a : Nat} (hb : b < 40) (ha : 5 ≤ a) : jf_get (jf_mark s b u) a = jf_get s a := by
  rw [je_mark s hb, if_neg (by omega)]
theorem je_mark_h {s K Z N : Nat → Nat} (h : je_h s K Z N) {b : Nat} (hb : b < 40) (u : Nat) : je_h (jf_mark s b u) K Z N := by
  unfold jf_mark
  exact h.high _ (Or.inr (Or.inl (by omega)))
/-- a block given back, all 0 by now -/
theorem je_d.give {s B Y : Nat → Nat} (h : je_d s B Y) (hs : jf_ok s) {i k : Nat} (hi : i < 12) (hk : k < 4) (h0 : B (i * 4 + k) ≠ 0) (hY : ∀ j, j < 16 → Y ((i * 4 + k) * 16 + j) = 0) : je_d (jf_putField (jf_mark s (jf_field s i (4 + k)) 0) i (4 + k) 0) (ju B (i * 4 + k) 0) Y := by
  have hq : i * 4 + k < 48 := by omega
  have e : jf_field s i (4 + k) = B (i * 4 + k) := h.pt i k hi hk
  have hb : 9 ≤ B (i * 4 + k) ∧ B (i * 4 + k) < 40 := by rcases h.bb _ hq with e | e; exact absurd e h0; exact e
  rw [e]
  unfold jf_putField
  refine ⟨fun j l hj hl => ?_, fun b hb2 => ?_, fun a h1 h2 => ?_, fun a h1 h2 => ?_, fun r l hr hr0 hl => ?_, fun b l hb2 hu hl => ?_, fun r hr => ?_, fun r t hr ht e1 e2 => ?_⟩
  · unfold ju
    by_cases hx : j * 4 + l = i * 4 + k
    · have e1 : j = i := by omega
      have e2 : l = k := by omega
      subst e1; subst e2
      rw [je_put_eq _ _ (by omega)]; simp
    · rw [if_neg hx, je_put_ne _ _ _ (by omega), je_mark_ne hb.2 (by omega)]; exact h.pt j l hj hl
  · rw [je_put_ne _ _ _ (by omega), je_mark_bit hs hb.2]
    by_cases hx : b = B (i * 4 + k)
    · rw [if_pos hx, if_pos rfl]
      constructor
      · intro q; cases q
      · intro q
        rcases q with q | ⟨r, hr, q⟩
        · omega
        · unfold ju at q
          by_cases hr2 : r = i * 4 + k
          · rw [if_pos hr2] at q; omega
          · rw [if_neg hr2] at q
            exact absurd (h.bi r _ hr hq (by omega) (by omega)) hr2
    · rw [if_neg hx, h.mp b hb2]
      constructor
      · intro q
        rcases q with q | ⟨r, hr, q⟩
        · exact Or.inl q
        · exact Or.inr ⟨r, hr, by unfold ju; rw [if_neg (fun w => hx (by rw [← q, w]))]; exact q⟩
      · intro q
        rcases q with q | ⟨r, hr, q⟩
        · exact Or.inl q
        · unfold ju at q
          by_cases hr2 : r = i * 4 + k
          · rw [if_pos hr2] at q; exact Or.inl (by omega)
          · rw [if_neg hr2] at q; exact Or.inr ⟨r, hr, q⟩
  · rw [je_put_ne _ _ _ (by omega), je_mark_ne hb.2 (by omega)]; exact h.z1 a h1 h2
  · rw [je_put_ne _ _ _ (by omega), je_mark_ne hb.2 (by omega)]; exact h.z2 a h1 h2
  · unfold ju at hr0 ⊢
    by_cases hr2 : r = i * 4 + k
    · rw [if_pos hr2] at hr0; exact absurd rfl hr0
    · rw [if_neg hr2] at hr0 ⊢
      have := h.bb r hr
      rw [je_put_ne _ _ _ (by omega), je_mark_ne hb.2 (by omega)]; exact h.da r l hr hr0 hl
  · have h9 : ¬ b < 9 := fun q => hu (Or.inl q)
    rw [je_put_ne _ _ _ (by omega), je_mark_ne hb.2 (by omega)]
    by_cases hx : b = B (i * 4 + k)
    · rw [hx, h.da _ l hq h0 hl]; exact hY l hl
    · refine h.fr b l hb2 (fun q => hu ?_) hl
      rcases q with q | ⟨r, hr, q⟩
      · exact Or.inl q
      · exact Or.inr ⟨r, hr, by unfold ju; rw [if_neg (fun w => hx (by rw [← q, w]))]; exact q⟩
  · unfold ju
    split
    · exact Or.inl rfl
    · exact h.bb r hr
  · unfold ju at e1 e2
    by_cases hr2 : r = i * 4 + k
    · rw [if_pos hr2] at e2; exact absurd rfl e2
    · rw [if_neg hr2] at e1 e2
      by_cases ht2 : t = i * 4 + k
      · rw [if_pos ht2] at e1; exact absurd e1 e2
      · rw [if_neg ht2] at e1; exact h.bi r t hr ht e1 e2
/-- a free block taken -/
theorem je_d.take {s B Y : Nat → Nat} (h : je_d s B Y) (hs : jf_ok s) {i k b : Nat} (hi : i < 12) (hk : k < 4) (h0 : B (i * 4 + k) = 0) (hb : b < 40) (hu : ¬ je_u B b) (hY : ∀ j, j < 16 → Y ((i * 4 + k) * 16 + j) = 0) : je_d (jf_putField (jf_mark s b 1) i (4 + k) b) (ju B (i * 4 + k) b) Y := by
  have hq : i * 4 + k < 48 := by omega
  have h9 : ¬ b < 9 := fun q => hu (Or.inl q)
  have hB : ∀ r, r < 48 → B r ≠ b := fun r hr e => hu (Or.inr ⟨r, hr, e⟩)
  unfold jf_putField
  refine ⟨fun j l hj hl => ?_, fun c hc2 => ?_, fun a h1 h2 => ?_, fun a h1 h2 => ?_, fun r l hr hr0 hl => ?_, fun c l hc2 hcu hl => ?_, fun r hr => ?_, fun r t hr ht e1 e2 => ?_⟩
  · unfold ju
    by_cases hx : j * 4 + l = i * 4 + k
    · have e1 : j = i := by omega
      have e2 : l = k := by omega
      subst e1; subst e2
      rw [je_put_eq _ _ (by omega)]; simp
    · rw [if_neg hx, je_put_ne _ _ _ (by omega), je_mark_ne hb (by omega)]; exact h.pt j l hj hl
  · rw [je_put_ne _ _ _ (by omega), je_mark_bit hs hb]
    by_cases hx : c = b
    · rw [if_pos hx]
      constructor
      · intro _; exact Or.inr ⟨i * 4 + k, hq, by simp [ju, hx]⟩
      · intro _; rfl
    · rw [if_neg hx, h.mp c hc2]
      constructor
      · intro q
        rcases q with q | ⟨r, hr, q⟩
        · exact Or.inl q
        · by_cases hr2 : r = i * 4 + k
          · subst hr2; exact Or.inl (by omega)
          · exact Or.inr ⟨r, hr, by unfold ju; rw [if_neg hr2]; exact q⟩
      · intro q
        rcases q with q | ⟨r, hr, q⟩
        · exact Or.inl q
        · unfold ju at q
          by_cases hr2 : r = i * 4 + k
          · rw [if_pos hr2] at q; exact absurd q.symm hx
          · rw [if_neg hr2] at q; exact Or.inr ⟨r, hr, q⟩
  · rw [je_put_ne _ _ _ (by omega), je_mark_ne hb (by omega)]; exact h.z1 a h1 h2
  · rw [je_put_ne _ _ _ (by omega), je_mark_ne hb (by omega)]; exact h.z2 a h1 h2
  · unfold ju at hr0 ⊢
    by_cases hr2 : r = i * 4 + k
    · rw [if_pos hr2, je_put_ne _ _ _ (by omega), je_mark_ne hb (by omega), hr2, hY l hl]
      exact h.fr b l hb hu hl
    · rw [if_neg hr2] at hr0 ⊢
      have := h.bb r hr
      rw [je_put_ne _ _ _ (by omega), je_mark_ne hb (by omega)]; exact h.da r l hr hr0 hl
  · have h10 : ¬ c < 9 := fun q => hcu (Or.inl q)
    rw [je_put_ne _ _ _ (by omega), je_mark_ne hb (by omega)]
    refine h.fr c l hc2 (fun q => hcu ?_) hl
    rcases q with q | ⟨r, hr, q⟩
    · exact Or.inl q
    · by_cases hr2 : r = i * 4 + k
      · subst hr2; exact Or.inl (by omega)
      · exact Or.inr ⟨r, hr, by unfold ju; rw [if_neg hr2]; exact q⟩
  · unfold ju
    split
    · exact Or.inr ⟨by omega, hb⟩
    · exact h.bb r hr
  · unfold ju at e1 e2
    by_cases hr2 : r = i * 4 + k
    · by_cases ht2 : t = i * 4 + k
      · omega
      · rw [if_pos hr2, if_neg ht2] at e1; exact absurd e1.symm (hB t ht)
    · by_cases ht2 : t = i * 4 + k
      · rw [if_neg hr2, if_pos ht2] at e1; exact absurd e1 (hB r hr)
      · rw [if_neg hr2] at e1 e2; rw [if_neg ht2] at e1; exact h.bi r t hr ht e1 e2
