theorem je_usedL (B : Nat → Nat) (b : Nat) : ∀ n k, jm_usedL B b n k = 0 ↔ ∀ j, k ≤ j → j < k + n → B j ≠ b := by
  intro n
  induction n with
  | zero => intro k; exact ⟨fun _ j h1 h2 => by omega, fun _ => rfl⟩
  | succ n ih =>
    intro k
    unfold jm_usedL
    by_cases h : B k = b
    · rw [if_pos h]
      exact ⟨fun q => (by cases q), fun q => absurd h (q k (by omega) (by omega))⟩
    · rw [if_neg h, ih]
      constructor
      · intro q j h1 h2
        by_cases e : j = k
        · rw [e]; exact h
        · exact q j (by omega) (by omega)
      · intro q j h1 h2
        exact q j (by omega) (by omega)
theorem je_used (B : Nat → Nat) (b : Nat) : jm_isUsed B 0 b = 0 ↔ ¬ je_u B b := by
  unfold jm_isUsed je_u
  by_cases h : b < 9
  · rw [if_pos h]
    exact ⟨fun q => (by cases q), fun q => absurd (Or.inl h) q⟩
  · rw [if_neg h, je_usedL]
    constructor
    · intro q w
      rcases w with w | ⟨r, hr, w⟩
      · exact h w
      · exact q r (by omega) (by omega) w
    · intro q j h1 h2 e
      exact q (Or.inr ⟨j, by omega, e⟩)
theorem je_isUsed {s B Y : Nat → Nat} (h : je_d s B Y) {b : Nat} (hb : b < 40) : jf_isUsed s b = jm_isUsed B 0 b := by
  have h1 := jf_isUsed_lt s b
  have h2 := jm_isUsed_lt B 0 b
  have h3 := je_used B b
  have h4 := h.mp b hb
  unfold jf_isUsed at h1 ⊢
  by_cases hu : je_u B b
  · have := h4.mpr hu
    have : ¬ jm_isUsed B 0 b = 0 := fun q => h3.mp q hu
    omega
  · have e1 := h3.mpr hu
    have : ¬ jf_get s (b / 8) / 2 ^ (b % 8) % 2 = 1 := fun q => hu (h4.mp q)
    omega
theorem je_freeL {s B Y : Nat → Nat} (h : je_d s B Y) : ∀ n b f, b + n ≤ 40 → jf_freeL s n b f = jm_freeL B n b f := by
  intro n
  induction n with
  | zero => intro b f _; rfl
  | succ n ih =>
    intro b f hb
    unfold jf_freeL jm_freeL
    rw [je_isUsed h (by omega)]
    exact ih _ _ (by omega)
theorem je_free {s B Y : Nat → Nat} (h : je_d s B Y) : jf_free s = jm_free B := je_freeL h 31 9 0 (by decide)
theorem je_free_lin (B : Nat → Nat) : ∀ n b f d, jm_freeL B n b (f + d) = jm_freeL B n b f + d := by
  intro n
  induction n with
  | zero => intro b f d; rfl
  | succ n ih =>
    intro b f d
    unfold jm_freeL
    split
    · rw [show f + d + 1 = f + 1 + d by omega]; exact ih _ _ _
    · exact ih _ _ _
theorem je_free_upd {B C : Nat → Nat} {x : Nat} (h : ∀ c, c ≠ x → (jm_isUsed C 0 c = 0 ↔ jm_isUsed B 0 c = 0)) (h1 : jm_isUsed B 0 x = 0) (h2 : ¬ jm_isUsed C 0 x = 0) : ∀ n b f, jm_freeL B n b f = jm_freeL C n b f + (if b ≤ x ∧ x < b + n then 1 else 0) := by
  intro n
  induction n with
  | zero =>
    intro b f
    rw [if_neg (by omega)]
    rfl
  | succ n ih =>
    intro b f
    unfold jm_freeL
    by_cases e : b = x
    · subst e
      rw [if_pos h1, if_neg h2, ih, if_neg (by omega), if_pos (by omega), je_free_lin]
    · rw [ih]
      have e2 : (b + 1 ≤ x ∧ x < b + 1 + n) ↔ (b ≤ x ∧ x < b + (n + 1)) := by omega
      simp only [h b e, e2]
theorem je_nb (B : Nat → Nat) : ∀ n b f, f < jm_freeL B n b f → jm_nbL B n b < b + n ∧ jm_isUsed B 0 (jm_nbL B n b) = 0 := by
  intro n
  induction n with
  | zero => intro b f h; exact absurd h (Nat.lt_irrefl _)
  | succ n ih =>
    intro b f h
    unfold jm_freeL at h
    unfold jm_nbL
    by_cases e : jm_isUsed B 0 b = 0
    · rw [if_pos e]
      exact ⟨by omega, e⟩
    · rw [if_neg e] at h ⊢
      have := ih (b + 1) f h
      exact ⟨by omega, this.2⟩
theorem je_nb_more (B : Nat → Nat) (d : Nat) : ∀ n b, jm_nbL B n b < b + n → jm_nbL B (n + d) b = jm_nbL B n b := by
  intro n
  induction n with
  | zero => intro b h; exact absurd h (Nat.lt_irrefl _)
  | succ n ih =>
    intro b h
    rw [show n + 1 + d = n + d + 1 by omega]
    unfold jm_nbL at h ⊢
    by_cases e : jm_isUsed B 0 b = 0
    · rw [if_pos e, if_pos e]
    · rw [if_neg e] at h
      rw [if_neg e, if_neg e]
      exact ih (b + 1) (by omega)
theorem je_takeL {s B Y : Nat → Nat} (h : je_d s B Y) : ∀ n b, b + n ≤ 40 → jm_nbL B n b < b + n → jf_takeL s n b = (jm_nbL B n b, jf_mark s (jm_nbL B n b) 1) := by
  intro n
  induction n with
  | zero => intro b _ h; exact absurd h (Nat.lt_irrefl _)
  | succ n ih =>
    intro b hb h2
    unfold jf_takeL
    unfold jm_nbL at h2 ⊢
    rw [je_isUsed h (by omega)]
    by_cases e : jm_isUsed B 0 b = 0
    · rw [if_pos e, if_pos e]
    · rw [if_neg e] at h2
      rw [if_neg e, if_neg e]
      exact ih (b + 1) (by omega) (by omega)
/-- the least free block -/
def je_lb (B : Nat → Nat) : Nat := jm_nbL B 31 9
theorem je_lb_ok {B : Nat → Nat} (h : 0 < jm_free B) : je_lb B < 40 ∧ ¬ je_u B (je_lb B) := by
  have := je_nb B 31 9 0 h
  exact ⟨by unfold je_lb; omega, (je_used _ _).mp this.2⟩
theorem je_lb_new {B : Nat → Nat} (h : 0 < jm_free B) {m : Nat} (hm : 40 ≤ m) : jm_newBlock B m = je_lb B := by
  have h1 := je_nb B 31 9 0 h
  unfold jm_newBlock je_lb
  rw [show m - 9 = 31 + (m - 40) by omega]
  exact je_nb_more B _ 31 9 (by omega)
theorem je_lb_take {s B Y : Nat → Nat} (hd : je_d s B Y) (h : 0 < jm_free B) : jf_take s = (je_lb B, jf_mark s (je_lb B) 1) := by
  have h1 := je_nb B 31 9 0 h
  exact je_takeL hd 31 9 (by decide) (by omega)
theorem je_u_ju {B : Nat → Nat} {q b c : Nat} (hq : q < 48) (h0 : B q = 0) (hc : c ≠ b) : je_u (ju B q b) c ↔ je_u B c := by
  constructor
  · intro h
    rcases h with h | ⟨r, hr, h⟩
    · exact Or.inl h
    · unfold ju at h
      by_cases e : r = q
      · rw [if_pos e] at h; exact absurd h.symm hc
      · rw [if_neg e] at h; exact Or.inr ⟨r, hr, h⟩
  · intro h
    rcases h with h | ⟨r, hr, h⟩
    · exact Or.inl h
    · by_cases e : r = q
      · subst e; exact Or.inl (by omega)
      · exact Or.inr ⟨r, hr, by unfold ju; rw [if_neg e]; exact h⟩
theorem je_free_take {B : Nat → Nat} {q b : Nat} (hq : q < 48) (h0 : B q = 0) (hb : b < 40) (hu : ¬ je_u B b) : jm_free B = jm_free (ju B q b) + 1 := by
  have h9 : ¬ b < 9 := fun w => hu (Or.inl w)
  have := je_free_upd (B := B) (C := ju B q b) (x := b) (fun c hc => by rw [je_used, je_used, je_u_ju hq h0 hc]) ((je_used _ _).mpr hu) (fun w => (je_used _ _).mp w (Or.inr ⟨q, hq, by simp [ju]⟩)) 31 9 0
  rw [if_pos (by omega)] at this
  exact this
theorem je_free_give {B : Nat → Nat} {q : Nat} (hq : q < 48) (h0 : B q ≠ 0) (hb : 9 ≤ B q ∧ B q < 40) (hi : ∀ r, r < 48 → B r = B q → r = q) : jm_free (ju B q 0) = jm_free B + 1 := by
  have hu : ¬ je_u (ju B q 0) (B q) := by
    intro w
    rcases w with w | ⟨r, hr, w⟩
    · omega
    · unfold ju at w
      by_cases e : r = q
      · rw [if_pos e] at w; exact h0 w.symm
      · rw [if_neg e] at w; exact e (hi r hr w)
  have h1 := je_free_take (B := ju B q 0) hq (by simp [ju]) hb.2 hu
  have e : ju (ju B q 0) q (B q) = B := by
    funext k
    unfold ju
    by_cases w : k = q
    · rw [if_pos w, w]
    · rw [if_neg w, if_neg w]
  rw [e] at h1
  omega
/-! resize, step by step -/
theorem je_d.place {s B Y : Nat → Nat} (h : je_d s B Y) {i p : Nat} (hi : i < 12) (hp : p < 64) : jf_placeOf s i p = B (i * 4 + p / 16) * 16 + p % 16 := by
  unfold jf_placeOf
  rw [Nat.add_assoc (16 + i * 8), h.pt i (p / 16) hi (by omega)]
theorem je_d.byteOf {s B Y : Nat → Nat} (h : je_d s B Y) {i p : Nat} (hi : i < 12) (hp : p < 64) (h0 : B (i * 4 + p / 16) ≠ 0) : jf_byteOf s i p = Y (i * 64 + p) := by
  unfold jf_byteOf
  rw [h.place hi hp, h.da _ _ (by omega) h0 (by omega)]
  congr 1
  omega
theorem je_d.byte {s B Y : Nat → Nat} (h : je_d s B Y) {i p : Nat} (hi : i < 12) (hp : p < 64) (h0 : B (i * 4 + p / 16) ≠ 0) (v : Nat) : je_d (jf_putByte s i p v) B (ju Y (i * 64 + p) v) := by
  unfold jf_putByte
  rw [h.place hi hp]
  have := h.data (q := i * 4 + p / 16) (j := p % 16) (by omega) h0 (by omega) v
  rw [show (i * 4 + p / 16) * 16 + p % 16 = i * 64 + p by omega] at this
  exact this
theorem je_h.byte {s B Y K Z N : Nat → Nat} (h : je_d s B Y) (hh : je_h s K Z N) {i p : Nat} (hi : i < 12) (hp : p < 64) (h0 : B (i * 4 + p / 16) ≠ 0) (v : Nat) : je_h (jf_putByte s i p v) K Z N := by
  unfold jf_putByte
  rw [h.place hi hp]
  refine hh.high v (Or.inl ?_)
  have := h.bb (i * 4 + p / 16) (by omega)
  omega
theorem je_zL (i : Nat) : ∀ n k (Y : Nat → Nat) a, jm_zL i n k Y a = if i * 64 + k ≤ a ∧ a < i * 64 + k + n then 0 else Y a := by
  intro n
  induction n with
  | zero => intro k Y a; rw [if_neg (by omega)]; rfl
  | succ n ih =>
    intro k Y a
    show jm_zL i n (k + 1) (ju Y (i * 64 + k) 0) a = _
    rw [ih]
    unfold ju
    by_cases h : a = i * 64 + k
    · rw [if_pos h]
      simp only [ite_self]
      rw [if_pos (by omega)]
    · rw [if_neg h]
      have e : (i * 64 + (k + 1) ≤ a ∧ a < i * 64 + (k + 1) + n) ↔ (i * 64 + k ≤ a ∧ a < i * 64 + k + (n + 1)) := by omega
      simp only [e]
theorem je_rsA {i : Nat} (hi : i < 12) {K Z N B : Nat → Nat} : ∀ n p (s Y : Nat → Nat), je_d s B Y → jf_ok s → je_h s K Z N → p + n ≤ 64 → (∀ q, p ≤ q → q < p + n → B (i * 4 + q / 16) ≠ 0) → je_d (jf_rsA i n p s) B (jm_zL i n p Y) ∧ jf_ok (jf_rsA i n p s) ∧ je_h (jf_rsA i n p s) K Z N := by
  intro n
  induction n with
  | zero => intro p s Y hd hs hh _ _; exact ⟨hd, hs, hh⟩
  | succ n ih =>
    intro p s Y hd hs hh hp hB
    exact ih (p + 1) _ _ (hd.byte hi (by omega) (hB p (by omega) (by omega)) 0) (jf_putByte_ok hs _ _ (by decide)) (je_h.byte hd hh hi (by omega) (hB p (by omega) (by omega)) 0) (by omega) (fun q h1 h2 => hB q (by omega) (by omega))
def je_gv (i : Nat) : Nat → Nat → (Nat → Nat) → (Nat → Nat)
  | 0, _, B => B
  | n + 1, k, B => je_gv i n (k + 1) (ju B (i * 4 + k) 0)
theorem je_gvL (i : Nat) : ∀ n k (B : Nat → Nat) q, je_gv i n k B q = if i * 4 + k ≤ q ∧ q < i * 4 + k + n then 0 else B q := by
  intro n
  induction n with
  | zero => intro k Y a; rw [if_neg (by omega)]; rfl
  | succ n ih =>
    intro k Y a
    show je_gv i n (k + 1) (ju Y (i * 4 + k) 0) a = _
    rw [ih]
    unfold ju
    by_cases h : a = i * 4 + k
    · rw [if_pos h]
      simp only [ite_self]
      rw [if_pos (by omega)]
    · rw [if_neg h]
      have e : (i * 4 + (k + 1) ≤ a ∧ a < i * 4 + (k + 1) + n) ↔ (i * 4 + k ≤ a ∧ a < i * 4 + k + (n + 1)) := by omega
      simp only [e]
theorem je_rsB {i : Nat} (hi : i < 12) {K Z N Y : Nat → Nat} : ∀ n k (s B : Nat → Nat), je_d s B Y → jf_ok s → je_h s K Z N → k + n ≤ 4 → (∀ l, k ≤ l → l < k + n → B (i * 4 + l) ≠ 0 ∧ ∀ j, j < 16 → Y ((i * 4 + l) * 16 + j) = 0) → je_d (jf_rsB i n k s) (je_gv i n k B) Y ∧ jf_ok (jf_rsB i n k s) ∧ je_h (jf_rsB i n k s) K Z N ∧ jm_free (je_gv i n k B) = jm_free B + n := by
  intro n
  induction n with
  | zero => intro p s B hd hs hh _ _; exact ⟨hd, hs, hh, rfl⟩
  | succ n ih =>
    intro k s B hd hs hh hk hB
    have h1 := hB k (by omega) (by omega)
    have h2 : jf_field s i (4 + k) = B (i * 4 + k) := hd.pt i k hi (by omega)
    have h3 : 9 ≤ B (i * 4 + k) ∧ B (i * 4 + k) < 40 := by rcases hd.bb _ (show i * 4 + k < 48 by omega) with e | e; exact absurd e h1.1; exact e
    have hh2 : je_h (jf_putField (jf_mark s (jf_field s i (4 + k)) 0) i (4 + k) 0) K Z N := by
      unfold jf_putField
      refine je_h.high (je_mark_h hh (by omega) 0) _ (Or.inr (Or.inr (by omega)))
    have := ih (k + 1) _ (ju B (i * 4 + k) 0) (hd.give hs hi (by omega) h1.1 h1.2) (jf_putField_ok (jf_mark_ok hs _ _) _ _ (by decide)) hh2 (by omega) (fun l hl1 hl2 => by
      have := hB l (by omega) (by omega)
      refine ⟨?_, this.2⟩
      unfold ju
      rw [if_neg (by omega)]
      exact this.1)
    refine ⟨this.1, this.2.1, this.2.2.1, ?_⟩
    show jm_free (je_gv i n (k + 1) (ju B (i * 4 + k) 0)) = _
    rw [this.2.2.2, je_free_give (by omega) h1.1 h3 (fun r hr e => (hd.bi r _ hr (by omega) e (by omega)))]
    omega
def je_tk (i : Nat) : Nat → Nat → (Nat → Nat) → (Nat → Nat)
  | 0, _, B => B
  | n + 1, k, B => je_tk i n (k + 1) (ju B (i * 4 + k) (je_lb B))
theorem je_rsC {i : Nat} (hi : i < 12) {K Z N Y : Nat → Nat} : ∀ n k (s B : Nat → Nat), je_d s B Y → jf_ok s → je_h s K Z N → k + n ≤ 4 → jlt 40 B → (∀ l, k ≤ l → l < k + n → B (i * 4 + l) = 0 ∧ ∀ j, j < 16 → Y ((i * 4 + l) * 16 + j) = 0) → n ≤ jm_free B →
    je_d (jf_rsC i n k s) (je_tk i n k B) Y ∧ jf_ok (jf_rsC i n k s) ∧ je_h (jf_rsC i n k s) K Z N ∧ jm_free (je_tk i n k B) + n = jm_free B ∧ jlt 40 (je_tk i n k B) ∧ (∀ q, q < i * 4 + k ∨ i * 4 + k + n ≤ q → je_tk i n k B q = B q) ∧ (∀ l, k ≤ l → l < k + n → je_tk i n k B (i * 4 + l) ≠ 0) := by
  intro n
  induction n with
  | zero => intro p s B hd hs hh _ hB _ _; exact ⟨hd, hs, hh, rfl, hB, fun _ _ => rfl, fun l h1 h2 => by omega⟩
  | succ n ih =>
    intro k s B hd hs hh hk hlt hB hf
    have h1 := hB k (by omega) (by omega)
    have hb := je_lb_ok (B := B) (by omega)
    have ht := je_lb_take hd (by omega)
    have h9 : ¬ je_lb B < 9 := fun w => hb.2 (Or.inl w)
    have hd2 := hd.take hs hi (by omega) h1.1 hb.1 hb.2 h1.2
    have hh2 : je_h (jf_putField (jf_mark s (je_lb B) 1) i (4 + k) (je_lb B)) K Z N := by
      unfold jf_putField
      refine je_h.high (je_mark_h hh (by omega) 1) _ (Or.inr (Or.inr (by omega)))
    have hfr := je_free_take (q := i * 4 + k) (by omega) h1.1 hb.1 hb.2
    have := ih (k + 1) _ (ju B (i * 4 + k) (je_lb B)) hd2 (jf_putField_ok (jf_mark_ok hs _ _) _ _ (by omega)) hh2 (by omega) (ju_lt hlt hb.1) (fun l hl1 hl2 => by
      have := hB l (by omega) (by omega)
      refine ⟨?_, this.2⟩
      unfold ju
      rw [if_neg (by omega)]
      exact this.1) (by omega)
    have e : jf_rsC i (n + 1) k s = jf_rsC i n (k + 1) (jf_putField (jf_mark s (je_lb B) 1) i (4 + k) (je_lb B)) := by
      show jf_rsC i n (k + 1) (jf_putField (jf_take s).2 i (4 + k) (jf_take s).1) = _
      rw [ht]
    rw [e]
    show je_d _ (je_tk i n (k + 1) (ju B (i * 4 + k) (je_lb B))) Y ∧ _
    refine ⟨this.1, this.2.1, this.2.2.1, ?_, this.2.2.2.2.1, fun q hq => ?_, fun l hl1 hl2 => ?_⟩
    · show jm_free (je_tk i n (k + 1) (ju B (i * 4 + k) (je_lb B))) + (n + 1) = _
      have := this.2.2.2.1
      omega
    · show je_tk i n (k + 1) (ju B (i * 4 + k) (je_lb B)) q = _
      rw [this.2.2.2.2.2.1 q (by omega)]
      unfold ju
      rw [if_neg (by omega)]
    · show je_tk i n (k + 1) (ju B (i * 4 + k) (je_lb B)) (i * 4 + l) ≠ 0
      by_cases e2 : l = k
      · subst e2
        rw [this.2.2.2.2.2.1 _ (by omega)]
        unfold ju
        rw [if_pos rfl]
        omega
      · exact this.2.2.2.2.2.2 l (by omega) (by omega)
theorem je_rsL_shr (i z : Nat) : ∀ n m k (B : Nat → Nat), k + n = 4 → (∀ l, k ≤ l → l < 4 → l < jm_needed z → B (i * 4 + l) ≠ 0) → ∀ q, jm_rsL i z n m k B q = if (i * 4 + k ≤ q ∧ i * 4 + jm_needed z ≤ q) ∧ q < i * 4 + 4 then 0 else B q := by
  intro n
  induction n with
  | zero => intro m k B hk _ q; rw [if_neg (by omega)]; rfl
  | succ n ih =>
    intro m k B hk hB q
    unfold jm_rsL
    by_cases h : k < jm_needed z
    · rw [if_pos h, if_neg (hB k (by omega) (by omega) h), ih (m + 1) (k + 1) B (by omega) (fun l h1 h2 h3 => hB l (by omega) h2 h3)]
      have e : ((i * 4 + (k + 1) ≤ q ∧ i * 4 + jm_needed z ≤ q) ∧ q < i * 4 + 4) ↔ ((i * 4 + k ≤ q ∧ i * 4 + jm_needed z ≤ q) ∧ q < i * 4 + 4) := by omega
      simp only [e]
    · rw [if_neg h, ih (m + 1) (k + 1) _ (by omega) (fun l h1 h2 h3 => by omega)]
      unfold ju
      by_cases e : q = i * 4 + k
      · rw [if_pos e]
        simp only [ite_self]
        rw [if_pos (by omega)]
      · rw [if_neg e]
        have e : ((i * 4 + (k + 1) ≤ q ∧ i * 4 + jm_needed z ≤ q) ∧ q < i * 4 + 4) ↔ ((i * 4 + k ≤ q ∧ i * 4 + jm_needed z ≤ q) ∧ q < i * 4 + 4) := by omega
        simp only [e]
theorem je_rsL_grow (i z a : Nat) (hc : jm_needed z ≤ 4) (ha : a ≤ jm_needed z) : ∀ n m k (B : Nat → Nat), k + n = 4 → 40 ≤ m → i * 4 + 4 ≤ 48 → (∀ l, k ≤ l → l < 4 → (B (i * 4 + l) = 0 ↔ a ≤ l)) → jm_needed z ≤ jm_free B + max k a → jm_rsL i z n m k B = je_tk i (jm_needed z - max k a) (max k a) B := by
  intro n
  induction n with
  | zero =>
    intro m k B hk hm hi hB hf
    rw [show jm_needed z - max k a = 0 by omega]
    rfl
  | succ n ih =>
    intro m k B hk hm hi hB hf
    unfold jm_rsL
    have h0 := hB k (by omega) (by omega)
    by_cases h : k < jm_needed z
    · rw [if_pos h]
      by_cases hz : B (i * 4 + k) = 0
      · have hak := h0.mp hz
        rw [if_pos hz]
        have hfp : 0 < jm_free B := by omega
        have hb := je_lb_ok (B := B) hfp
        have h9 : ¬ je_lb B < 9 := fun w => hb.2 (Or.inl w)
        rw [je_lb_new hfp hm]
        have hfr := je_free_take (q := i * 4 + k) (by omega) hz hb.1 hb.2
        rw [ih (m + 1) (k + 1) _ (by omega) (by omega) hi (fun l h1 h2 => by
          unfold ju
          rw [if_neg (by omega)]
          exact hB l (by omega) h2) (by omega)]
        rw [show max k a = k by omega, show max (k + 1) a = k + 1 by omega, show jm_needed z - k = (jm_needed z - (k + 1)) + 1 by omega]
        rfl
      · have hak : ¬ a ≤ k := fun w => hz (h0.mpr w)
        rw [if_neg hz, ih (m + 1) (k + 1) B (by omega) (by omega) hi (fun l h1 h2 => hB l (by omega) h2) (by omega)]
        rw [show max k a = a by omega, show max (k + 1) a = a by omega]
    · rw [if_neg h]
      have hz : B (i * 4 + k) = 0 := h0.mpr (by omega)
      have e : ju B (i * 4 + k) 0 = B := by
        have := ju_same B (i * 4 + k)
        rw [hz] at this
        exact this
      rw [e, ih (m + 1) (k + 1) B (by omega) (by omega) hi (fun l h1 h2 => hB l (by omega) h2) (by omega)]
      rw [show jm_needed z - max (k + 1) a = 0 by omega, show jm_needed z - max k a = 0 by omega]
      rfl
theorem je_h.size {s K Z N : Nat → Nat} (h : je_h s K Z N) {i : Nat} (hi : i < 12) (z : Nat) : je_h (jf_putField s i 1 z) K (ju Z i z) N := by
  unfold jf_putField
  refine ⟨fun j hj => ?_, fun j hj => ?_, fun j hj => ?_, fun j hj => ?_⟩
  · rw [je_put_ne _ _ _ (by omega)]; exact h.kd j hj
  · unfold ju
    by_cases e : j = i
    · subst e; rw [if_pos rfl, je_put_eq _ _ (by omega)]
    · rw [if_neg e, je_put_ne _ _ _ (by omega)]; exact h.sz j hj
  · rw [je_put_ne _ _ _ (by omega)]; exact h.lk j hj
  · rw [je_put_ne _ _ _ (by omega)]; exact h.gn j hj
theorem je_bf (z : Nat) : jf_blocksFor z = jm_needed z := by
  unfold jf_blocksFor jm_needed
  omega
def je_res (s K Z N B Y : Nat → Nat) (m i z : Nat) : Prop := (je_d (jf_resize s i z) (jm_resB B m i z) (jm_resY Y i z)) ∧ (jf_ok (jf_resize s i z)) ∧ (je_h (jf_resize s i z) K (ju Z i z) N) ∧ (jlt 40 (jm_resB B m i z)) ∧ (∀ q, q < i * 4 ∨ i * 4 + 4 ≤ q → jm_resB B m i z q = B q) ∧ (∀ k, k < 4 → (jm_resB B m i z (i * 4 + k) ≠ 0 ↔ k < jm_needed z)) ∧ (jm_free (jm_resB B m i z) + jm_needed z = jm_free B + jm_needed (Z i))
theorem je_res.d {s K Z N B Y : Nat → Nat} {m i z : Nat} (h : je_res s K Z N B Y m i z) : je_d (jf_resize s i z) (jm_resB B m i z) (jm_resY Y i z) := h.1
theorem je_res.ok {s K Z N B Y : Nat → Nat} {m i z : Nat} (h : je_res s K Z N B Y m i z) : jf_ok (jf_resize s i z) := h.2.1
theorem je_res.h {s K Z N B Y : Nat → Nat} {m i z : Nat} (h : je_res s K Z N B Y m i z) : je_h (jf_resize s i z) K (ju Z i z) N := h.2.2.1
theorem je_res.lt {s K Z N B Y : Nat → Nat} {m i z : Nat} (h : je_res s K Z N B Y m i z) : jlt 40 (jm_resB B m i z) := h.2.2.2.1
theorem je_res.out {s K Z N B Y : Nat → Nat} {m i z : Nat} (h : je_res s K Z N B Y m i z) : ∀ q, q < i * 4 ∨ i * 4 + 4 ≤ q → jm_resB B m i z q = B q := h.2.2.2.2.1
theorem je_res.bz {s K Z N B Y : Nat → Nat} {m i z : Nat} (h : je_res s K Z N B Y m i z) : ∀ k, k < 4 → (jm_resB B m i z (i * 4 + k) ≠ 0 ↔ k < jm_needed z) := h.2.2.2.2.2.1
theorem je_res.fr {s K Z N B Y : Nat → Nat} {m i z : Nat} (h : je_res s K Z N B Y m i z) : jm_free (jm_resB B m i z) + jm_needed z = jm_free B + jm_needed (Z i) := h.2.2.2.2.2.2
theorem je_resize {s K Z N B Y : Nat → Nat} (hd : je_d s B Y) (hs : jf_ok s) (hh : je_h s K Z N) {i z m : Nat} (hi : i < 12) (hz : z ≤ 64) (hm : 40 ≤ m) (hB : jlt 40 B) (hZ : Z i ≤ 64) (hbz : ∀ k, k < 4 → (B (i * 4 + k) ≠ 0 ↔ k < jm_needed (Z i))) (hyz : ∀ p, p < 64 → Z i ≤ p → Y (i * 64 + p) = 0) (hr : jm_needed z ≤ jm_free B + jm_needed (Z i)) : je_res s K Z N B Y m i z := by
  have hsz : jf_size s i = Z i := hh.sz i hi
  have hn1 : jm_needed z ≤ 4 := by unfold jm_needed; omega
  have hn2 : jm_needed (Z i) ≤ 4 := by unfold jm_needed; omega
  have eY : jm_resY Y i z = jm_zL i (Z i - z) z Y := by
    funext a
    unfold jm_resY
    rw [je_zL, je_zL]
    by_cases h1 : i * 64 + z ≤ a ∧ a < i * 64 + z + (Z i - z)
    · rw [if_pos h1, if_pos (by omega)]
    · rw [if_neg h1]
      by_cases h2 : i * 64 + z ≤ a ∧ a < i * 64 + z + (64 - z)
      · rw [if_pos h2]
        have := hyz (a - i * 64) (by omega) (by omega)
        rw [show i * 64 + (a - i * 64) = a by omega] at this
        exact this.symm
      · rw [if_neg h2]
  have hA := je_rsA hi (Z i - z) z s Y hd hs hh (by omega) (fun q h1 h2 => (hbz (q / 16) (by omega)).mpr (by unfold jm_needed; omega))
  have hzero : ∀ l j, jm_needed z ≤ l → l < 4 → j < 16 → jm_zL i (Z i - z) z Y ((i * 4 + l) * 16 + j) = 0 := by
    intro l j h1 h2 h3
    rw [← eY]
    unfold jm_resY
    rw [je_zL, if_pos]
    unfold jm_needed at h1
    omega
  by_cases hc : jm_needed z ≤ jm_needed (Z i)
  · have hBb := je_rsB hi (jm_needed (Z i) - jm_needed z) (jm_needed z) _ B hA.1 hA.2.1 hA.2.2 (by omega) (fun l h1 h2 => ⟨(hbz l (by omega)).mpr (by omega), fun j hj => hzero l j h1 (by omega) hj⟩)
    have eB : jm_resB B m i z = je_gv i (jm_needed (Z i) - jm_needed z) (jm_needed z) B := by
      funext q
      unfold jm_resB
      rw [je_rsL_shr i z 4 m 0 B (by omega) (fun l h1 h2 h3 => (hbz l h2).mpr (by omega)), je_gvL]
      by_cases h1 : i * 4 + jm_needed z ≤ q ∧ q < i * 4 + jm_needed z + (jm_needed (Z i) - jm_needed z)
      · rw [if_pos h1, if_pos (by omega)]
      · rw [if_neg h1]
        by_cases h2 : (i * 4 + 0 ≤ q ∧ i * 4 + jm_needed z ≤ q) ∧ q < i * 4 + 4
        · rw [if_pos h2]
          have h3 := hbz (q - i * 4) (by omega)
          rw [show i * 4 + (q - i * 4) = q by omega] at h3
          by_cases h4 : B q = 0
          · exact h4.symm
          · have := h3.mp h4; omega
        · rw [if_neg h2]
    have er : jf_resize s i z = jf_putField (jf_rsB i (jm_needed (Z i) - jm_needed z) (jm_needed z) (jf_rsA i (Z i - z) z s)) i 1 z := by
      unfold jf_resize
      rw [hsz, je_bf, je_bf, show jm_needed z - jm_needed (Z i) = 0 by omega]
      rfl
    refine ⟨?_, ?_, ?_, ?_, ?_, ?_, ?_⟩
    · rw [er, eB, eY]
      exact hBb.1.head hi (by decide) z
    · rw [er]
      exact jf_putField_ok hBb.2.1 _ _ (by omega)
    · rw [er]
      exact hBb.2.2.1.size hi z
    · intro k
      rw [eB, je_gvL]
      split
      · decide
      · exact hB k
    · intro q hq
      rw [eB, je_gvL, if_neg (by omega)]
    · intro k hk
      rw [eB, je_gvL]
      have h3 := hbz k hk
      by_cases h1 : i * 4 + jm_needed z ≤ i * 4 + k ∧ i * 4 + k < i * 4 + jm_needed z + (jm_needed (Z i) - jm_needed z)
      · rw [if_pos h1]
        exact ⟨fun w => absurd rfl w, fun w => by omega⟩
      · rw [if_neg h1, h3]
        omega
    · rw [eB, hBb.2.2.2]
      omega
  · have e0 : Z i - z = 0 := by
      unfold jm_needed at hc
      omega
    rw [e0] at hA hzero eY
    have hBc := je_rsC hi (jm_needed z - jm_needed (Z i)) (jm_needed (Z i)) _ B hd hs hh (by omega) hB (fun l h1 h2 => ⟨(by
        have := hbz l (by omega)
        by_cases w : B (i * 4 + l) = 0
        · exact w
        · have := this.mp w; omega), fun j hj => (by
        have := hyz (l * 16 + j) (by omega) (by unfold jm_needed at h1; omega)
        rw [show i * 64 + (l * 16 + j) = (i * 4 + l) * 16 + j by omega] at this
        exact this)⟩) (by omega)
    have eB : jm_resB B m i z = je_tk i (jm_needed z - jm_needed (Z i)) (jm_needed (Z i)) B := by
      unfold jm_resB
      have := je_rsL_grow i z (jm_needed (Z i)) hn1 (by omega) 4 m 0 B (by omega) hm (by omega) (fun l h1 h2 => by
        have := hbz l h2
        constructor
        · intro w; exact Nat.not_lt.mp (fun w2 => this.mpr w2 w)
        · intro w
          by_cases w2 : B (i * 4 + l) = 0
          · exact w2
          · have := this.mp w2; omega) (by omega)
      rw [show max 0 (jm_needed (Z i)) = jm_needed (Z i) by omega] at this
      exact this
    have er : jf_resize s i z = jf_putField (jf_rsC i (jm_needed z - jm_needed (Z i)) (jm_needed (Z i)) s) i 1 z := by
      unfold jf_resize
      rw [hsz, je_bf, je_bf, show jm_needed (Z i) - jm_needed z = 0 by omega, e0]
      rfl
    have eY2 : jm_resY Y i z = Y := eY
    refine ⟨?_, ?_, ?_, ?_, ?_, ?_, ?_⟩
    · rw [er, eB, eY2]
      exact hBc.1.head hi (by decide) z
    · rw [er]
      exact jf_putField_ok hBc.2.1 _ _ (by omega)
    · rw [er]
      exact hBc.2.2.1.size hi z
    · rw [eB]; exact hBc.2.2.2.2.1
    · intro q hq
      rw [eB]
      exact hBc.2.2.2.2.2.1 q (by omega)
    · intro k hk
      rw [eB]
      by_cases h1 : k < jm_needed (Z i)
      · rw [hBc.2.2.2.2.2.1 _ (by omega), hbz k hk]
        omega
      · by_cases h2 : k < jm_needed z
        · exact ⟨fun _ => h2, fun _ => hBc.2.2.2.2.2.2 k (by omega) (by omega)⟩
        · rw [hBc.2.2.2.2.2.1 _ (by omega), hbz k hk]
          omega
    · rw [eB]
      have := hBc.2.2.2.1
      omega
