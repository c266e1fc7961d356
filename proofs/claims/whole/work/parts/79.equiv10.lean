section
variable {s c ho hn hg hm hp : Nat → Nat} {wc wd tf : Nat} {K Z N B Y I O M P : Nat → Nat} {ct wr ofs : Nat}
theorem je_sh_lt {b n : Nat} {f : Nat → Nat} (h : jlt b f) : jlt b (je_sh n f) := fun k => h _
/-- committed: the lower half copied to the upper -/
theorem je_R.keep (r : je_R s c ho hn hg hm hp wc wd tf K Z N B Y I O M P ct wr ofs) : je_R s (jf_cpy s c) ho hn hg hm hp wc wd tf (jm_cpL 0 12 12 0 K) (jm_cpL 0 12 12 0 Z) (jm_cpL 0 12 12 0 N) (jm_cpL (0 * 4) (12 * 4) 48 0 B) (jm_cpL (0 * 64) (12 * 64) 768 0 Y) I O M P ct wr ofs := by
  have h := r.s0
  have k1 := jm_cpL_lt 0 12 12 0 h.k3
  have k2 := jm_cpL_lt 0 12 12 0 h.z6
  have k3 := jm_cpL_lt 0 12 12 0 h.n2
  have k4 := jm_cpL_lt (0 * 4) (12 * 4) 48 0 h.b4
  have k5 := jm_cpL_lt (0 * 64) (12 * 64) 768 0 h.y2
  have lo : ∀ (g : Nat → Nat) i, i < 12 → jm_cpL 0 12 12 0 g i = g i := fun g i hi => by rw [je_cpL _ _ _ _ _ _ (by omega), if_neg (by omega)]
  have hi : ∀ (g : Nat → Nat) i, i < 12 → je_sh 12 (jm_cpL 0 12 12 0 g) i = g i := fun g i hi => by
    unfold je_sh
    rw [je_cpL _ _ _ _ _ _ (by omega), if_pos (by omega)]
    exact congrArg g (by omega)
  refine ⟨h.congr h.ok (fun _ => rfl) (lo K) (lo Z) (lo N) ?_ ?_ k1 k2 k3 k4 k5, h.congr (jf_cpy_ok h.ok r.s1.ok) (je_get_cpy s c) (hi K) (hi Z) (hi N) ?_ ?_ (je_sh_lt k1) (je_sh_lt k2) (je_sh_lt k3) (je_sh_lt k4) (je_sh_lt k5), r.2.2⟩
  · intro q hq
    rw [je_cpL _ _ _ _ _ _ (by omega), if_neg (by omega)]
  · intro q hq
    rw [je_cpL _ _ _ _ _ _ (by omega), if_neg (by omega)]
  · intro q hq
    unfold je_sh
    rw [je_cpL _ _ _ _ _ _ (by omega), if_pos (by omega)]
    exact congrArg B (by omega)
  · intro q hq
    unfold je_sh
    rw [je_cpL _ _ _ _ _ _ (by omega), if_pos (by omega)]
    exact congrArg Y (by omega)
theorem je_lpL : ∀ n h (f : Nat → Nat) g, jf_lpL n h f g = if h ≤ g ∧ g < h + n then 0 else f g := by
  intro n
  induction n with
  | zero => intro h f g; rw [if_neg (by omega)]; rfl
  | succ n ih =>
    intro h f g
    show jf_lpL n (h + 1) (ju f h 0) g = _
    rw [ih]
    by_cases w : g = h
    · rw [if_neg (by omega), if_pos (by omega), ju_eq w]
    · rw [ju_ne w]
      have e : (h + 1 ≤ g ∧ g < h + 1 + n) ↔ (h ≤ g ∧ g < h + (n + 1)) := by omega
      simp only [e]
theorem je_clL : ∀ n h (f : Nat → Nat) g, jm_clL n h f g = if h ≤ g ∧ g < h + n then 0 else f g := by
  intro n
  induction n with
  | zero => intro h f g; rw [if_neg (by omega)]; rfl
  | succ n ih =>
    intro h f g
    show jm_clL n (h + 1) (ju f h 0) g = _
    rw [ih]
    by_cases w : g = h
    · rw [if_neg (by omega), if_pos (by omega), ju_eq w]
    · rw [ju_ne w]
      have e : (h + 1 ≤ g ∧ g < h + 1 + n) ↔ (h ≤ g ∧ g < h + (n + 1)) := by omega
      simp only [e]
/-- the power fails: the upper half copied to the lower, all handles closed -/
theorem je_R.crash (r : je_R s c ho hn hg hm hp wc wd tf K Z N B Y I O M P ct wr ofs) : je_R (jf_cpy c s) c (jf_lpL 6 0 ho) hn hg hm hp wc wd (tf + 1) (jm_cpL 12 0 12 0 K) (jm_cpL 12 0 12 0 Z) (jm_cpL 12 0 12 0 N) (jm_cpL (12 * 4) (0 * 4) 48 0 B) (jm_cpL (12 * 64) (0 * 64) 768 0 Y) (jm_clL 6 0 I) O M P ct wr (ofs + 1) := by
  have h := r.s0
  have h2 := r.s1
  have k1 := jm_cpL_lt 12 0 12 0 h.k3
  have k2 := jm_cpL_lt 12 0 12 0 h.z6
  have k3 := jm_cpL_lt 12 0 12 0 h.n2
  have k4 := jm_cpL_lt (12 * 4) (0 * 4) 48 0 h.b4
  have k5 := jm_cpL_lt (12 * 64) (0 * 64) 768 0 h.y2
  have lo : ∀ (g : Nat → Nat) i, i < 12 → jm_cpL 12 0 12 0 g i = je_sh 12 g i := fun g i hi => by
    rw [je_cpL _ _ _ _ _ _ (by omega), if_pos (by omega)]
    rfl
  have hi : ∀ (g : Nat → Nat) i, i < 12 → je_sh 12 (jm_cpL 12 0 12 0 g) i = je_sh 12 g i := fun g i hi => by
    unfold je_sh
    rw [je_cpL _ _ _ _ _ _ (by omega), if_neg (by omega)]
  refine ⟨h2.congr (jf_cpy_ok r.s1.ok h.ok) (je_get_cpy c s) (lo K) (lo Z) (lo N) ?_ ?_ k1 k2 k3 k4 k5, h2.congr h2.ok (fun _ => rfl) (hi K) (hi Z) (hi N) ?_ ?_ (je_sh_lt k1) (je_sh_lt k2) (je_sh_lt k3) (je_sh_lt k4) (je_sh_lt k5), ⟨?_, ?_, ?_, r.hn2, r.hg2, r.hm2, r.hp2, ?_, r.o2, r.m2, r.p2⟩, r.ec, r.ew, by rw [r.et], r.cl⟩
  · intro q hq
    rw [je_cpL _ _ _ _ _ _ (by omega)]
    exact (if_pos (by omega)).trans (congrArg B (by omega))
  · intro q hq
    rw [je_cpL _ _ _ _ _ _ (by omega)]
    exact (if_pos (by omega)).trans (congrArg Y (by omega))
  · intro q hq
    unfold je_sh
    rw [je_cpL _ _ _ _ _ _ (by omega), if_neg (by omega)]
  · intro q hq
    unfold je_sh
    rw [je_cpL _ _ _ _ _ _ (by omega), if_neg (by omega)]
  · intro g hg2
    have e1 : jf_lpL 6 0 ho g = 0 := by rw [je_lpL, if_pos (by omega)]
    have e2 : jm_clL 6 0 I g = 0 := by rw [je_clL, if_pos (by omega)]
    exact ⟨fun _ => e2, fun _ => e1⟩
  · intro g hg2 hg0
    rw [je_clL, if_pos (by omega)] at hg0
    exact absurd rfl hg0
  · intro g
    rw [je_lpL]
    split
    · decide
    · exact r.ho2 g
  · intro g
    rw [je_clL]
    split
    · decide
    · exact r.i2 g
theorem je_commit (r : je_R s c ho hn hg hm hp wc wd tf K Z N B Y I O M P ct wr ofs) :
    (if jf_cT (jf_differing s c) wc = 0 then 0 else 1) = jm_cmH (jm_differing K Z N B Y) ct ∧
    (jf_cT (jf_differing s c) wc = 0 → jf_cmJ (jf_differing s c) + jf_differing s c = jm_cmR (jm_differing K Z N B Y) ct ∧
      je_R s (jf_cpy s c) ho hn hg hm hp (if wc = 0 then 0 else wc - (jf_cmJ (jf_differing s c) + jf_differing s c)) (wd + (jf_cmJ (jf_differing s c) + jf_differing s c)) tf
        (jm_cmT (jm_differing K Z N B Y) ct (jm_cpL 0 12 12 0) (jm_cpL 12 0 12 0) K) (jm_cmT (jm_differing K Z N B Y) ct (jm_cpL 0 12 12 0) (jm_cpL 12 0 12 0) Z) (jm_cmT (jm_differing K Z N B Y) ct (jm_cpL 0 12 12 0) (jm_cpL 12 0 12 0) N) (jm_cmT (jm_differing K Z N B Y) ct (jm_cpL (0 * 4) (12 * 4) 48 0) (jm_cpL (12 * 4) (0 * 4) 48 0) B) (jm_cmT (jm_differing K Z N B Y) ct (jm_cpL (0 * 64) (12 * 64) 768 0) (jm_cpL (12 * 64) (0 * 64) 768 0) Y) (jm_cmI (jm_differing K Z N B Y) ct I) O M P (jm_cmC (jm_differing K Z N B Y) ct) (jm_cmW (jm_differing K Z N B Y) ct wr) (jm_cmO (jm_differing K Z N B Y) ct ofs)) ∧
    (¬ jf_cT (jf_differing s c) wc = 0 → je_R (jf_cpy (if jf_cmJ (jf_differing s c) < wc then jf_cpy s c else c) s) (if jf_cmJ (jf_differing s c) < wc then jf_cpy s c else c) (jf_lpL 6 0 ho) hn hg hm hp 0 (wd + (wc - 1)) (tf + 1)
        (jm_cmT (jm_differing K Z N B Y) ct (jm_cpL 0 12 12 0) (jm_cpL 12 0 12 0) K) (jm_cmT (jm_differing K Z N B Y) ct (jm_cpL 0 12 12 0) (jm_cpL 12 0 12 0) Z) (jm_cmT (jm_differing K Z N B Y) ct (jm_cpL 0 12 12 0) (jm_cpL 12 0 12 0) N) (jm_cmT (jm_differing K Z N B Y) ct (jm_cpL (0 * 4) (12 * 4) 48 0) (jm_cpL (12 * 4) (0 * 4) 48 0) B) (jm_cmT (jm_differing K Z N B Y) ct (jm_cpL (0 * 64) (12 * 64) 768 0) (jm_cpL (12 * 64) (0 * 64) 768 0) Y) (jm_cmI (jm_differing K Z N B Y) ct I) O M P (jm_cmC (jm_differing K Z N B Y) ct) (jm_cmW (jm_differing K Z N B Y) ct wr) (jm_cmO (jm_differing K Z N B Y) ct ofs)) := by
  have hd := je_differing r.s0 r.s1
  have hsame := fun (q : jf_differing s c = 0) => je_same q
  have hec := r.ec
  have hew := r.ew
  have hcl := r.cl
  subst hec
  subst hew
  rw [← hd]
  generalize jf_differing s c = d at hsame
  by_cases d0 : d = 0
  · subst d0
    have hR : je_R s (jf_cpy s c) ho hn hg hm hp wc wd tf K Z N B Y I O M P wc wd ofs := by
      refine ⟨r.s0, r.s1.congr (jf_cpy_ok r.s0.ok r.s1.ok) (fun a => ?_) (fun _ _ => rfl) (fun _ _ => rfl) (fun _ _ => rfl) (fun _ _ => rfl) (fun _ _ => rfl) r.s1.k3 r.s1.z6 r.s1.n2 r.s1.b4 r.s1.y2, r.2.2⟩
      rw [je_get_cpy]
      exact hsame rfl a
    have hT : jf_cT 0 wc = 0 := by
      unfold jf_cT jf_cmJ
      by_cases w : wc = 0
      · rw [if_pos w]
      · rw [if_neg w]; simp; omega
    refine ⟨by simp [hT, jm_cmH], fun _ => ⟨by simp [jf_cmJ, jm_cmR], ?_⟩, fun q => absurd hT q⟩
    have e1 : (if wc = 0 then 0 else wc - (jf_cmJ 0 + 0)) = wc := by
      unfold jf_cmJ
      split <;> simp_all
    rw [e1]
    simp only [jm_cmT, jm_cmI, jm_cmC, jm_cmW, jm_cmO, jf_cmJ, if_true, Nat.add_zero]
    exact hR
  · have hJ : jf_cmJ d = d + 1 := by unfold jf_cmJ; rw [if_neg d0]
    rw [hJ]
    have e2 : d + 1 + d = 2 * d + 1 := by omega
    rw [e2]
    unfold jf_cT
    rw [hJ, e2]
    simp only [jm_cmT, jm_cmI, jm_cmC, jm_cmW, jm_cmO, jm_cmH, jm_cmR, d0, if_false]
    by_cases w : wc = 0
    · simp only [w, if_true]
      subst w
      refine ⟨trivial, fun _ => ⟨trivial, ?_⟩, fun q => absurd (by trivial) q⟩
      exact ⟨r.keep.s0, r.keep.s1, r.keep.hH, rfl, rfl, r.et, by omega⟩
    · simp only [w, if_false]
      by_cases w2 : 2 * d + 1 < wc
      · simp only [w2, if_true]
        refine ⟨trivial, fun _ => ⟨trivial, ?_⟩, fun q => absurd (by trivial) q⟩
        exact ⟨r.keep.s0, r.keep.s1, r.keep.hH, rfl, rfl, r.et, by omega⟩
      · simp only [w2, if_false]
        refine ⟨by simp, fun q => absurd q (by decide), fun _ => ?_⟩
        by_cases w3 : d + 1 < wc
        · simp only [w3, if_true]
          have q := r.keep.crash
          exact ⟨q.s0, q.s1, q.hH, rfl, rfl, q.et, by omega⟩
        · simp only [w3, if_false]
          have q := r.crash
          exact ⟨q.s0, q.s1, q.hH, rfl, rfl, q.et, by omega⟩
theorem je_cut (r : je_R s c ho hn hg hm hp wc wd tf K Z N B Y I O M P ct wr ofs) (z : Nat) : jf_rng z 0 100 = (if 100 < z then 1 else 0) ∧ (jf_rng z 0 100 = 0 → je_R s c ho hn hg hm hp z wd tf K Z N B Y I O M P (if 100 < z then ct else z) wr ofs) ∧ (¬ jf_rng z 0 100 = 0 → (if 100 < z then ct else z) = ct) := by
  rw [je_rngN]
  by_cases w : 100 < z
  · simp [w]
  · simp only [w, if_false]
    exact ⟨by trivial, fun _ => ⟨r.s0, r.s1, r.hH, rfl, r.ew, r.et, by omega⟩, fun q => absurd (by trivial) q⟩
theorem je_block (r : je_R s c ho hn hg hm hp wc wd tf K Z N B Y I O M P ct wr ofs) (b i q : Nat) : jf_blockT b i = (if 39 < b then 1 else if 15 < i then 1 else 0) ∧ (jf_blockT b i = 0 → (if q = 0 then jf_get s (b * 16 + i) else jf_get c (b * 16 + i)) = (if 39 < b then 0 else if 15 < i then 0 else if q = 0 then jm_byteOf K Z N B Y 0 b i else jm_byteOf K Z N B Y 12 b i)) := by
  unfold jf_blockT
  rw [je_rngN, je_rngN]
  by_cases w : 39 < b
  · simp [w]
  · simp only [w, if_false, if_true]
    refine ⟨by trivial, fun h => ?_⟩
    by_cases w2 : 15 < i
    · rw [if_pos w2] at h; cases h
    · rw [if_neg w2, r.s0.enc (by omega) (by omega), r.s1.enc (by omega) (by omega), ← je_byteOf_sh]
theorem je_friL (h : je_s s K Z N B Y) : ∀ n i f, i + n = 12 → jf_friL s n i f = jm_cnA K n i f := by
  intro n
  induction n with
  | zero => intro i f _; rfl
  | succ n ih =>
    intro i f hi
    unfold jf_friL jm_cnA
    rw [h.kind (by omega)]
    exact ih _ _ (by omega)
theorem je_ohL (r : je_R s c ho hn hg hm hp wc wd tf K Z N B Y I O M P ct wr ofs) : ∀ n h f, h + n = 6 → jf_ohL ho n h f = jm_cnB K N I O M 2 n h f := by
  intro n
  induction n with
  | zero => intro h f _; rfl
  | succ n ih =>
    intro h f hi
    unfold jf_ohL jm_cnB
    simp only [r.op h (by omega), if_true]
    exact ih _ _ (by omega)
theorem je_shL (r : je_R s c ho hn hg hm hp wc wd tf K Z N B Y I O M P ct wr ofs) : ∀ n h f, h + n = 6 → jf_shL s ho hn hg hm n h f = jm_cnB K N I O M 6 n h f := by
  intro n
  induction n with
  | zero => intro h f _; rfl
  | succ n ih =>
    intro h f hi
    unfold jf_shL jm_cnB
    rw [ih _ _ (by omega)]
    congr 1
    by_cases w : I h = 0
    · rw [if_pos w, if_pos ((r.op h (by omega)).mpr w)]
    · rw [if_neg w, if_neg (fun q => w ((r.op h (by omega)).mp q)), r.stale (by omega) w]
      simp
theorem je_count (r : je_R s c ho hn hg hm hp wc wd tf K Z N B Y I O M P ct wr ofs) (z : Nat) : jf_count s c ho hn hg hm wd tf z = jm_count K Z N B Y I O M wr ofs z := by
  unfold jf_count jm_count jf_freeInodes
  rw [je_free r.s0.d, je_differing r.s0 r.s1, je_friL r.s0 12 0 0 rfl, je_ohL r 6 0 0 rfl, je_shL r 6 0 0 rfl, r.ew, r.et]
  by_cases h0 : z = 0
  · simp [h0]
  · by_cases h1 : z = 1
    · simp [h1]
    · by_cases h2 : z = 2
      · simp [h2]
      · by_cases h3 : z = 3
        · simp [h3]
        · by_cases h4 : z = 4
          · simp [h4]
          · by_cases h5 : z = 5
            · simp [h5]
            · by_cases h6 : z = 6
              · simp [h6]
              · simp [h0, h1, h2, h3, h4, h5, h6]
/-- a new object -/
theorem je_first {s c : Nat → Nat} (hs : s = jf_occupy c 0 2) (hc : jf_ok c) (h : ∀ a, jf_get c a = if a = 0 then 255 else if a = 1 then 1 else 0) : je_s s (ju (ju (fun _ => 0) 0 2) 12 2) (fun _ => 0) (ju (ju (fun _ => 0) 0 1) 12 1) (fun _ => 0) (fun _ => 0) := by
  have hn0 : jm_needed 0 = 0 := by decide
  have hk : ∀ i, i < 12 → ju (ju (fun _ => 0) 0 2) 12 2 i = if i = 0 then 2 else 0 := by
    intro i hi
    rw [ju_ne (by omega)]
    unfold ju
    rfl
  have hN : ∀ i, i < 12 → ju (ju (fun _ => 0) 0 1) 12 1 i = if i = 0 then 1 else 0 := by
    intro i hi
    rw [ju_ne (by omega)]
    unfold ju
    rfl
  have d0 : je_d c (fun _ => 0) (fun _ => 0) := by
    refine ⟨fun i k hi hk => ?_, fun b hb => ?_, fun a h1 h2 => ?_, fun a h1 h2 => ?_, fun q j _ h0 _ => absurd rfl h0, fun b j hb hu hj => ?_, fun q _ => Or.inl rfl, fun q r _ _ _ h0 => absurd rfl h0⟩
    · rw [h, if_neg (by omega), if_neg (by omega)]
    · rw [h]
      have hu : je_u (fun _ => 0) b ↔ b < 9 := by
        constructor
        · intro w
          rcases w with w | ⟨q, _, w⟩
          · exact w
          · have w2 : 0 = b := w
            omega
        · intro w; exact Or.inl w
      rw [hu]
      have : ∀ b, b < 40 → ((if b / 8 = 0 then 255 else if b / 8 = 1 then 1 else 0) / 2 ^ (b % 8) % 2 = 1 ↔ b < 9) := by decide
      exact this b hb
    · rw [h, if_neg (by omega), if_neg (by omega)]
    · rw [h, if_neg (by omega), if_neg (by omega)]
    · have : ¬ b < 9 := fun w => hu (Or.inl w)
      rw [h, if_neg (by omega), if_neg (by omega)]
  have h0 : je_h c (fun _ => 0) (fun _ => 0) (fun _ => 0) := by
    refine ⟨fun i hi => ?_, fun i hi => ?_, fun i hi => ?_, fun i hi => ?_⟩ <;> rw [h, if_neg (by omega), if_neg (by omega)] <;> rfl
  have h1 := h0.occ (i := 0) (k := 2) (by decide) (by decide)
  subst hs
  refine ⟨?_, h1.congr (fun _ => rfl) ?_ (fun _ _ => rfl) ?_, ?_, jf_occupy_ok hc _ (by decide), ?_, fun _ => by show 0 < 65; decide, ?_, fun _ => by show 0 < 40; decide, fun _ => by show 0 < 256; decide⟩
  · unfold jf_occupy jf_putField
    exact ((d0.head (by decide) (by decide) _).head (by decide) (by decide) _).head (by decide) (by decide) _
  · intro i hi
    rw [ju_ne (by omega)]
  · intro i hi
    rw [ju_ne (by omega)]
  · refine ⟨fun _ _ => by show 0 ≤ 64; decide, fun _ _ _ => by show 0 ≤ 32 ∧ 0 % 2 = 0; decide, fun _ _ _ => rfl, fun i k _ _ => ?_, fun _ _ _ _ _ => rfl, rfl, fun d e _ _ he => absurd he (by show ¬ e < 0 / 2; omega), fun d e f g _ _ he => absurd he (by show ¬ e < 0 / 2; omega), fun d e g _ _ he => absurd he (by show ¬ e < 0 / 2; omega)⟩
    rw [hn0]
    exact ⟨fun w => absurd rfl w, fun w => absurd w (by omega)⟩
  · intro k
    unfold ju
    split
    · decide
    · split
      · decide
      · show 0 < _
        decide
  · intro k
    unfold ju
    split
    · decide
    · split
      · decide
      · show 0 < _
        decide
end
