def je_sh (n : Nat) (f : Nat → Nat) : Nat → Nat := fun k => f (n + k)
/-! only what is within the tables matters -/
theorem je_u.congr {B C : Nat → Nat} (hB : ∀ q, q < 48 → C q = B q) (b : Nat) : je_u C b ↔ je_u B b := by
  constructor
  · intro h
    rcases h with h | ⟨r, hr, h⟩
    · exact Or.inl h
    · exact Or.inr ⟨r, hr, by rw [← hB r hr]; exact h⟩
  · intro h
    rcases h with h | ⟨r, hr, h⟩
    · exact Or.inl h
    · exact Or.inr ⟨r, hr, by rw [hB r hr]; exact h⟩
theorem je_d.congr {s t B C Y X : Nat → Nat} (h : je_d s B Y) (hs : ∀ a, jf_get t a = jf_get s a) (hB : ∀ q, q < 48 → C q = B q) (hY : ∀ a, a < 768 → X a = Y a) : je_d t C X := by
  refine ⟨fun i k hi hk => ?_, fun b hb => ?_, fun a h1 h2 => ?_, fun a h1 h2 => ?_, fun q j hq h0 hj => ?_, fun b j hb hu hj => ?_, fun q hq => ?_, fun q r hq hr e1 e2 => ?_⟩
  · rw [hs, hB _ (by omega)]; exact h.pt i k hi hk
  · rw [hs, je_u.congr hB]; exact h.mp b hb
  · rw [hs]; exact h.z1 a h1 h2
  · rw [hs]; exact h.z2 a h1 h2
  · rw [hB q hq] at h0 ⊢; rw [hs, hY _ (by omega)]; exact h.da q j hq h0 hj
  · rw [je_u.congr hB] at hu; rw [hs]; exact h.fr b j hb hu hj
  · rw [hB q hq]; exact h.bb q hq
  · rw [hB q hq] at e1 e2; rw [hB r hr] at e1; exact h.bi q r hq hr e1 e2
theorem je_h.congr {s t K Z N L W O : Nat → Nat} (h : je_h s K Z N) (hs : ∀ a, jf_get t a = jf_get s a) (hK : ∀ i, i < 12 → L i = K i) (hZ : ∀ i, i < 12 → W i = Z i) (hN : ∀ i, i < 12 → O i = N i) : je_h t L W O := by
  refine ⟨fun i hi => ?_, fun i hi => ?_, fun i hi => ?_, fun i hi => ?_⟩
  · rw [hs, hK i hi]; exact h.kd i hi
  · rw [hs, hZ i hi]; exact h.sz i hi
  · rw [hs, hK i hi]; exact h.lk i hi
  · rw [hs, hN i hi]; exact h.gn i hi
theorem je_v.congr {K Z B Y L W C X : Nat → Nat} (v : je_v K Z B Y) (hK : ∀ i, i < 12 → L i = K i) (hZ : ∀ i, i < 12 → W i = Z i) (hB : ∀ q, q < 48 → C q = B q) (hY : ∀ a, a < 768 → X a = Y a) : je_v L W C X := by
  refine ⟨fun i hi => ?_, fun i hi h => ?_, fun i hi h => ?_, fun i k hi hk => ?_, fun i p hi hp h => ?_, ?_, fun d e hd h he => ?_, fun d e f g hd h he hf h2 hg hx => ?_, fun d e g hd h he hg hx => ?_⟩
  · rw [hZ i hi]; exact v.z i hi
  · rw [hK i hi] at h; rw [hZ i hi]; exact v.zd i hi h
  · rw [hK i hi] at h; rw [hZ i hi]; exact v.z0 i hi h
  · rw [hB _ (by omega), hZ i hi]; exact v.bz i k hi hk
  · rw [hZ i hi] at h; rw [hY _ (by omega)]; exact v.yz i p hi hp h
  · rw [hK 0 (by decide)]; exact v.rt
  · rw [hK d hd] at h
    rw [hZ d hd] at he
    have := (v.zd d hd h).1
    rw [hY _ (by omega)]
    have h1 := v.en d e hd h he
    rw [hK _ h1.2.1]
    exact h1
  · rw [hK d hd] at h
    rw [hZ d hd] at he
    rw [hK f hf] at h2
    rw [hZ f hf] at hg
    have := (v.zd d hd h).1
    have := (v.zd f hf h2).1
    rw [hY _ (by omega), hY _ (by omega)] at hx
    exact v.eu d e f g hd h he hf h2 hg hx
  · rw [hK d hd] at h
    rw [hZ d hd] at he hg
    have := (v.zd d hd h).1
    rw [hY _ (by omega), hY _ (by omega)] at hx
    exact v.nu d e g hd h he hg hx
theorem je_s.congr {s t K Z N B Y L W O C X : Nat → Nat} (h : je_s s K Z N B Y) (ok : jf_ok t) (hs : ∀ a, jf_get t a = jf_get s a) (hK : ∀ i, i < 12 → L i = K i) (hZ : ∀ i, i < 12 → W i = Z i) (hN : ∀ i, i < 12 → O i = N i) (hB : ∀ q, q < 48 → C q = B q) (hY : ∀ a, a < 768 → X a = Y a) (h1 : jlt 3 L) (h2 : jlt 65 W) (h3 : jlt 256 O) (h4 : jlt 40 C) (h5 : jlt 256 X) : je_s t L W O C X :=
  ⟨h.d.congr hs hB hY, h.h.congr hs hK hZ hN, h.v.congr hK hZ hB hY, ok, h1, h2, h3, h4, h5⟩
theorem je_get_cpy (s c : Nat → Nat) (a : Nat) : jf_get (jf_cpy s c) a = jf_get s a := by
  unfold jf_get jf_cpy
  split
  · rfl
  · rfl
theorem je_cpL (fr tt : Nat) : ∀ n k (g : Nat → Nat) a, (fr + k + n ≤ tt + k ∨ tt + k + n ≤ fr + k) → jm_cpL fr tt n k g a = if tt + k ≤ a ∧ a < tt + k + n then g (fr + (a - tt)) else g a := by
  intro n
  induction n with
  | zero => intro k g a _; rw [if_neg (by omega)]; rfl
  | succ n ih =>
    intro k g a hd
    show jm_cpL fr tt n (k + 1) (ju g (tt + k) (g (fr + k))) a = _
    rw [ih (k + 1) _ a (by omega)]
    by_cases h : a = tt + k
    · rw [if_neg (by omega), if_pos (by omega), ju_eq h]
      congr 1
      omega
    · by_cases h2 : tt + (k + 1) ≤ a ∧ a < tt + (k + 1) + n
      · rw [if_pos h2, if_pos (by omega), ju_ne (by omega)]
      · rw [if_neg h2, if_neg (by omega), ju_ne h]
/-! the encoding -/
theorem je_map8 : ∀ x, x < 256 → (List.range 8).foldl (fun v j => if x / 2 ^ j % 2 = 0 then v else v ||| 2 ^ j) 0 = x := by decide +kernel
theorem je_mapF {B : Nat → Nat} {x i : Nat} : ∀ n b v, b + n = 8 → (∀ j, b ≤ j → j < 8 → jm_isUsed B 0 (i * 8 + j) = x / 2 ^ j % 2) → jm_mapL B 0 n (i * 8 + b) v = (List.range' b n).foldl (fun v j => if x / 2 ^ j % 2 = 0 then v else v ||| 2 ^ j) v := by
  intro n
  induction n with
  | zero => intro b v _ _; rfl
  | succ n ih =>
    intro b v hb h
    unfold jm_mapL
    rw [List.range'_succ, List.foldl_cons, h b (by omega) (by omega), show (i * 8 + b) % 8 = b by omega]
    exact ih (b + 1) _ (by omega) (fun j h1 h2 => h j (by omega) h2)
theorem je_boN (B Y : Nat → Nat) (b i : Nat) : ∀ n k, (∀ q, k ≤ q → q < k + n → B q ≠ b) → jm_boL B Y b i n k = 0 := by
  intro n
  induction n with
  | zero => intro k _; rfl
  | succ n ih =>
    intro k h
    unfold jm_boL
    rw [if_neg (h k (by omega) (by omega))]
    exact ih _ (fun q h1 h2 => h q (by omega) (by omega))
theorem je_boS (B Y : Nat → Nat) (b i r : Nat) : ∀ n k, k ≤ r → r < k + n → (∀ q, k ≤ q → q < k + n → B q = b → q = r) → B r = b → jm_boL B Y b i n k = Y (r * 16 + i) := by
  intro n
  induction n with
  | zero => intro k h1 h2; omega
  | succ n ih =>
    intro k h1 h2 h3 h4
    unfold jm_boL
    by_cases w : B k = b
    · rw [if_pos w, h3 k (by omega) (by omega) w]
      congr 1
      omega
    · rw [if_neg w]
      have : k ≠ r := by intro q; rw [q] at w; exact w h4
      exact ih _ (by omega) (by omega) (fun q h5 h6 => h3 q (by omega) (by omega)) h4
theorem je_s.enc {s K Z N B Y : Nat → Nat} (h : je_s s K Z N B Y) {b i : Nat} (hb : b < 40) (hi : i < 16) : jf_get s (b * 16 + i) = jm_byteOf K Z N B Y 0 b i := by
  unfold jm_byteOf
  by_cases h0 : b = 0
  · subst h0
    rw [if_pos rfl, Nat.zero_mul, Nat.zero_add]
    by_cases h5 : i < 5
    · rw [if_pos h5]
      unfold jm_mapByte
      have hx := jf_get_lt h.ok i
      have := je_mapF (B := B) (x := jf_get s i) (i := i) 8 0 0 rfl (fun j _ hj => by
        rw [← je_isUsed h.d (by omega)]
        unfold jf_isUsed
        rw [show (i * 8 + j) / 8 = i by omega, show (i * 8 + j) % 8 = j by omega])
      rw [Nat.add_zero] at this
      rw [this, ← List.range_eq_range', je_map8 _ hx]
    · rw [if_neg h5]; exact h.d.z1 i (by omega) hi
  · rw [if_neg h0]
    by_cases h7 : b < 7
    · rw [if_pos h7, Nat.zero_add]
      have ha : b * 16 + i = 16 + ((b - 1) * 2 + i / 8) * 8 + i % 8 := by omega
      have hj : (b - 1) * 2 + i / 8 < 12 := by omega
      unfold jm_inodeByte
      rw [ha]
      generalize (b - 1) * 2 + i / 8 = j at hj
      have hf : i % 8 < 8 := by omega
      generalize i % 8 = f at hf
      by_cases f0 : f = 0
      · rw [if_pos f0, f0]; exact h.h.kd j hj
      · rw [if_neg f0]
        by_cases f1 : f = 1
        · rw [if_pos f1, f1]; exact h.h.sz j hj
        · rw [if_neg f1]
          by_cases f2 : f = 2
          · rw [if_pos f2, f2]; exact h.h.lk j hj
          · rw [if_neg f2]
            by_cases f3 : f = 3
            · rw [if_pos f3, f3]; exact h.h.gn j hj
            · rw [if_neg f3]
              have := h.d.pt j (f - 4) hj (by omega)
              rw [show 4 + (f - 4) = f by omega] at this
              rw [this]
              congr 1
              omega
    · rw [if_neg h7]
      by_cases h8 : 8 < b
      · rw [if_pos h8]
        by_cases hu : je_u B b
        · rcases hu with w | ⟨r, hr, w⟩
          · omega
          · rw [Nat.zero_mul, je_boS B Y b i r 48 0 (by omega) (by omega) (fun q _ h2 h3 => h.d.bi q r (by omega) hr (by omega) (by omega)) w]
            have := h.d.da r i hr (by omega) hi
            rw [w] at this
            exact this
        · rw [je_boN B Y b i 48 _ (fun q h1 h2 h3 => hu (Or.inr ⟨q, by omega, h3⟩))]
          exact h.d.fr b i hb hu hi
      · rw [if_neg h8]; exact h.d.z2 _ (by omega) (by omega)
theorem je_usedL_sh (B : Nat → Nat) (b o : Nat) : ∀ n k, jm_usedL B b n (o + k) = jm_usedL (je_sh o B) b n k := by
  intro n
  induction n with
  | zero => intro k; rfl
  | succ n ih =>
    intro k
    unfold jm_usedL
    rw [Nat.add_assoc, ih]
    rfl
theorem je_isUsed_sh (B : Nat → Nat) (b : Nat) : jm_isUsed B 12 b = jm_isUsed (je_sh 48 B) 0 b := by
  unfold jm_isUsed
  rw [show 12 * 4 = 48 + 0 * 4 by decide, je_usedL_sh]
theorem je_mapL_sh (B : Nat → Nat) : ∀ n b v, jm_mapL B 12 n b v = jm_mapL (je_sh 48 B) 0 n b v := by
  intro n
  induction n with
  | zero => intro b v; rfl
  | succ n ih =>
    intro b v
    unfold jm_mapL
    rw [ih, je_isUsed_sh]
theorem je_boL_sh (B Y : Nat → Nat) (b i : Nat) : ∀ n k, jm_boL B Y b i n (48 + k) = jm_boL (je_sh 48 B) (je_sh 768 Y) b i n k := by
  intro n
  induction n with
  | zero => intro k; rfl
  | succ n ih =>
    intro k
    unfold jm_boL
    rw [Nat.add_assoc 48 k 1, ih]
    have e : (48 + k) / 4 * 64 + (48 + k) % 4 * 16 + i = 768 + (k / 4 * 64 + k % 4 * 16 + i) := by omega
    rw [e]
    rfl
theorem je_byteOf_sh (K Z N B Y : Nat → Nat) (b i : Nat) : jm_byteOf K Z N B Y 12 b i = jm_byteOf (je_sh 12 K) (je_sh 12 Z) (je_sh 12 N) (je_sh 48 B) (je_sh 768 Y) 0 b i := by
  unfold jm_byteOf jm_mapByte jm_inodeByte
  rw [je_mapL_sh, show 12 * 4 = 48 + 0 * 4 by decide, je_boL_sh]
  simp only [je_sh, Nat.zero_add]
  by_cases h3 : i % 8 < 4
  · have : i % 8 = 0 ∨ i % 8 = 1 ∨ i % 8 = 2 ∨ i % 8 = 3 := by omega
    rcases this with e | e | e | e <;> simp [e, Nat.add_assoc]
  · have e : 48 + (((b - 1) * 2 + i / 8) * 4 + i % 8 - 4) = (12 + (b - 1) * 2 + i / 8) * 4 + i % 8 - 4 := by omega
    rw [e]
    simp [Nat.add_assoc]
/-! differing blocks -/
theorem je_dfL (K Z N B Y : Nat → Nat) (b : Nat) : ∀ n i f, jm_dfL K Z N B Y b n i f = 0 ↔ f = 0 ∧ ∀ j, i ≤ j → j < i + n → jm_byteOf K Z N B Y 0 b j = jm_byteOf K Z N B Y 12 b j := by
  intro n
  induction n with
  | zero => intro i f; exact ⟨fun h => ⟨h, fun j h1 h2 => by omega⟩, fun h => h.1⟩
  | succ n ih =>
    intro i f
    unfold jm_dfL
    rw [ih]
    by_cases w : jm_byteOf K Z N B Y 0 b i = jm_byteOf K Z N B Y 12 b i
    · rw [if_pos w]
      constructor
      · intro h
        refine ⟨h.1, fun j h1 h2 => ?_⟩
        by_cases e : j = i
        · rw [e]; exact w
        · exact h.2 j (by omega) (by omega)
      · intro h
        exact ⟨h.1, fun j h1 h2 => h.2 j (by omega) (by omega)⟩
    · rw [if_neg w]
      exact ⟨fun h => absurd h.1 (by decide), fun h => absurd (h.2 i (by omega) (by omega)) w⟩
theorem je_diffL (s c : Nat → Nat) (b : Nat) : ∀ n i, jf_diffL s c b n i = 0 ↔ ∀ j, i ≤ j → j < i + n → jf_get s (b * 16 + j) = jf_get c (b * 16 + j) := by
  intro n
  induction n with
  | zero => intro i; exact ⟨fun _ j h1 h2 => by omega, fun _ => rfl⟩
  | succ n ih =>
    intro i
    unfold jf_diffL
    by_cases w : jf_get s (b * 16 + i) = jf_get c (b * 16 + i)
    · rw [if_pos w, ih]
      constructor
      · intro h j h1 h2
        by_cases e : j = i
        · rw [e]; exact w
        · exact h j (by omega) (by omega)
      · intro h j h1 h2
        exact h j (by omega) (by omega)
    · rw [if_neg w]
      exact ⟨fun h => absurd h (by decide), fun h => absurd (h i (by omega) (by omega)) w⟩
theorem je_diff1 {s c K Z N B Y : Nat → Nat} (h : je_s s K Z N B Y) (h2 : je_s c (je_sh 12 K) (je_sh 12 Z) (je_sh 12 N) (je_sh 48 B) (je_sh 768 Y)) {b : Nat} (hb : b < 40) : jf_differs s c b = 0 ↔ jm_dfL K Z N B Y b 16 0 0 = 0 := by
  unfold jf_differs
  rw [je_diffL, je_dfL]
  constructor
  · intro q
    refine ⟨rfl, fun j h3 h4 => ?_⟩
    rw [je_byteOf_sh, ← h.enc hb (by omega), ← h2.enc hb (by omega)]
    exact q j h3 h4
  · intro q j h3 h4
    rw [h.enc hb (by omega), h2.enc hb (by omega), ← je_byteOf_sh]
    exact q.2 j h3 h4
theorem je_differL {s c K Z N B Y : Nat → Nat} (h : je_s s K Z N B Y) (h2 : je_s c (je_sh 12 K) (je_sh 12 Z) (je_sh 12 N) (je_sh 48 B) (je_sh 768 Y)) : ∀ n b d, b + n ≤ 40 → jf_dfbL s c n b d = jm_dgL K Z N B Y n b d := by
  intro n
  induction n with
  | zero => intro b d _; rfl
  | succ n ih =>
    intro b d hb
    unfold jf_dfbL jm_dgL
    rw [ih _ _ (by omega)]
    simp only [je_diff1 h h2 (show b < 40 by omega)]
theorem je_differing {s c K Z N B Y : Nat → Nat} (h : je_s s K Z N B Y) (h2 : je_s c (je_sh 12 K) (je_sh 12 Z) (je_sh 12 N) (je_sh 48 B) (je_sh 768 Y)) : jf_differing s c = jm_differing K Z N B Y := je_differL h h2 40 0 0 (by decide)
theorem je_dfbL_ge (s c : Nat → Nat) : ∀ n b d, d ≤ jf_dfbL s c n b d := by
  intro n
  induction n with
  | zero => intro b d; exact Nat.le_refl _
  | succ n ih =>
    intro b d
    unfold jf_dfbL
    have := ih (b + 1) (if jf_differs s c b = 0 then d else d + 1)
    split at this <;> rename_i w <;> simp only [w, if_true, if_false] <;> omega
theorem je_dfbL_0 (s c : Nat → Nat) : ∀ n b, jf_dfbL s c n b 0 = 0 → ∀ k, b ≤ k → k < b + n → jf_differs s c k = 0 := by
  intro n
  induction n with
  | zero => intro b _ k h1 h2; omega
  | succ n ih =>
    intro b h k h1 h2
    unfold jf_dfbL at h
    by_cases w : jf_differs s c b = 0
    · rw [if_pos w] at h
      by_cases e : k = b
      · rw [e]; exact w
      · exact ih _ h k (by omega) (by omega)
    · rw [if_neg w] at h
      have := je_dfbL_ge s c n (b + 1) (0 + 1)
      omega
/-- nothing differs: the same bytes -/
theorem je_same {s c : Nat → Nat} (h : jf_differing s c = 0) (a : Nat) : jf_get s a = jf_get c a := by
  by_cases ha : a < 640
  · have := je_dfbL_0 s c 40 0 h (a / 16) (by omega) (by omega)
    unfold jf_differs at this
    rw [je_diffL] at this
    have := this (a % 16) (by omega) (by omega)
    rw [show a / 16 * 16 + a % 16 = a by omega] at this
    exact this
  · unfold jf_get
    rw [if_neg ha, if_neg ha]
