theorem je_eoL (Y : Nat → Nat) (d nm : Nat) : ∀ n e, jm_eoL Y d nm n e = none ↔ ∀ j, e ≤ j → j < e + n → Y (d * 64 + j * 2) ≠ nm := by
  intro n
  induction n with
  | zero => intro e; exact ⟨fun _ j h1 h2 => by omega, fun _ => rfl⟩
  | succ n ih =>
    intro e
    unfold jm_eoL
    by_cases h : Y (d * 64 + e * 2) = nm
    · rw [if_pos h]
      exact ⟨fun q => (by cases q), fun q => absurd h (q e (by omega) (by omega))⟩
    · rw [if_neg h, ih]
      constructor
      · intro q j h1 h2
        by_cases w : j = e
        · rw [w]; exact h
        · exact q j (by omega) (by omega)
      · intro q j h1 h2
        exact q j (by omega) (by omega)
theorem je_eo_none (Z Y : Nat → Nat) (d nm : Nat) : jm_entryOf Z Y d nm = none ↔ ∀ j, j < Z d / 2 → Y (d * 64 + j * 2) ≠ nm := by
  unfold jm_entryOf
  rw [je_eoL]
  exact ⟨fun q j h => q j (by omega) (by omega), fun q j _ h => q j (by omega)⟩
theorem je_eoS (Y : Nat → Nat) (d nm : Nat) {j : Nat} : ∀ n e, jm_eoL Y d nm n e = some j → Y (d * 64 + j * 2) = nm := by
  intro n
  induction n with
  | zero => intro e h; cases h
  | succ n ih =>
    intro e h
    unfold jm_eoL at h
    by_cases w : Y (d * 64 + e * 2) = nm
    · rw [if_pos w] at h; cases h; exact w
    · rw [if_neg w] at h; exact ih _ h
theorem je_eo_some {Z Y : Nat → Nat} {d nm j : Nat} (h : jm_entryOf Z Y d nm = some j) : j < Z d / 2 ∧ Y (d * 64 + j * 2) = nm := ⟨jm_entryOf_lt h, je_eoS Y d nm _ _ h⟩
theorem je_lfL {s K Z N B Y : Nat → Nat} (h : je_s s K Z N B Y) : ∀ n i, i + n = 12 → jf_lfL s n i = if jm_niL K n i = 12 then none else some (jm_niL K n i) := by
  intro n
  induction n with
  | zero =>
    intro i hi
    have e : i = 12 := by omega
    subst e
    rfl
  | succ n ih =>
    intro i hi
    unfold jf_lfL jm_niL
    rw [h.kind (by omega)]
    by_cases w : K i = 0
    · rw [if_pos w, if_pos w, if_neg (by omega)]
    · rw [if_neg w, if_neg w]; exact ih _ (by omega)
theorem je_s.least {s K Z N B Y : Nat → Nat} (h : je_s s K Z N B Y) : jf_leastFree s = if jm_newInode K = 12 then none else some (jm_newInode K) := je_lfL h 12 0 rfl
theorem je_niK (K : Nat → Nat) : ∀ n i, jm_niL K n i < i + n → K (jm_niL K n i) = 0 := by
  intro n
  induction n with
  | zero => intro i h; exact absurd h (Nat.lt_irrefl _)
  | succ n ih =>
    intro i h
    unfold jm_niL at h ⊢
    by_cases w : K i = 0
    · rw [if_pos w]; exact w
    · rw [if_neg w] at h ⊢; exact ih _ (by omega)
theorem je_newInode {K : Nat → Nat} (h : jm_newInode K ≠ 12) : jm_newInode K < 12 ∧ K (jm_newInode K) = 0 := by
  have h1 := jm_newInode_le K
  have h2 : jm_newInode K < 12 := by omega
  exact ⟨h2, je_niK K 12 0 (by unfold jm_newInode at h2; omega)⟩
theorem je_s.resize {s K Z N B Y : Nat → Nat} (h : je_s s K Z N B Y) {i z m : Nat} (hi : i < 12) (hk : K i = 1) (hz : z ≤ 64) (hm : 40 ≤ m) (hr : jm_needed z ≤ jm_free B + jm_needed (Z i)) : je_s (jf_resize s i z) K (ju Z i z) N (jm_resB B m i z) (jm_resY Y i z) := by
  have r := je_resize h.d h.ok h.h hi hz hm h.b4 (h.v.z i hi) (fun k hk => h.v.bz i k hi hk) (fun p hp hq => h.v.yz i p hi hp hq) hr
  refine ⟨r.d, r.h, h.v.file hi hk hz r.out r.bz ?_ ?_, r.ok, h.k3, ju_lt h.z6 (by omega), h.n2, r.lt, jm_zL_lt i (by decide) _ _ h.y2⟩
  · intro a ha
    unfold jm_resY
    rw [je_zL, if_neg (by omega)]
  · intro p hp hq
    unfold jm_resY
    rw [je_zL, if_pos (by omega)]
/-- a byte of a file, within its size -/
theorem je_s.wbyte {s K Z N B Y : Nat → Nat} (h : je_s s K Z N B Y) {i p v : Nat} (hi : i < 12) (hk : K i = 1) (hp : p < Z i) (hv : v < 256) : je_s (jf_putByte s i p v) K Z N B (ju Y (i * 64 + p) v) := by
  have hz := h.v.z i hi
  have h0 : B (i * 4 + p / 16) ≠ 0 := (h.v.bz i _ hi (by omega)).mpr (by unfold jm_needed; omega)
  have e : ju Z i (Z i) = Z := ju_same Z i
  have hv2 : je_v K (ju Z i (Z i)) B (ju Y (i * 64 + p) v) := h.v.file hi hk hz (fun q _ => rfl) (fun k hk => h.v.bz i k hi hk) (fun a ha => ju_ne (by omega)) (fun r hr hr2 => by rw [ju_ne (by omega)]; exact h.v.yz i r hi hr hr2)
  rw [e] at hv2
  exact ⟨h.d.byte hi (by omega) h0 v, je_h.byte h.d h.h hi (by omega) h0 v, hv2, jf_putByte_ok h.ok _ _ hv, h.k3, h.z6, h.n2, h.b4, ju_lt h.y2 hv⟩
theorem je_h.occ {s K Z N : Nat → Nat} (h : je_h s K Z N) {i k : Nat} (hi : i < 12) (hk : k ≠ 0) : je_h (jf_occupy s i k) (ju K i k) Z (ju N i ((N i + 1) % 256)) := by
  have hg : jf_gen (jf_putField (jf_putField s i 0 k) i 2 1) i = N i := by
    unfold jf_gen jf_field jf_putField
    rw [je_put_ne _ _ _ (by omega), je_put_ne _ _ _ (by omega)]
    exact h.gn i hi
  unfold jf_occupy
  rw [hg]
  unfold jf_putField
  refine ⟨fun j hj => ?_, fun j hj => ?_, fun j hj => ?_, fun j hj => ?_⟩
  · rw [je_put_ne _ _ _ (by omega), je_put_ne _ _ _ (by omega)]
    by_cases e : j = i
    · subst e; rw [je_put_eq _ _ (by omega), ju_eq rfl]
    · rw [je_put_ne _ _ _ (by omega), ju_ne e]; exact h.kd j hj
  · rw [je_put_ne _ _ _ (by omega), je_put_ne _ _ _ (by omega), je_put_ne _ _ _ (by omega)]; exact h.sz j hj
  · rw [je_put_ne _ _ _ (by omega)]
    by_cases e : j = i
    · subst e; rw [je_put_eq _ _ (by omega), ju_eq rfl, if_neg hk]
    · rw [je_put_ne _ _ _ (by omega), je_put_ne _ _ _ (by omega), ju_ne e]; exact h.lk j hj
  · by_cases e : j = i
    · subst e; rw [je_put_eq _ _ (by omega), ju_eq rfl]
    · rw [je_put_ne _ _ _ (by omega), je_put_ne _ _ _ (by omega), je_put_ne _ _ _ (by omega), ju_ne e]; exact h.gn j hj
theorem je_s.create {s K Z N B Y : Nat → Nat} (h : je_s s K Z N B Y) {i k : Nat} (hi : i < 12) (h0 : K i = 0) (hk : k = 1 ∨ k = 2) : je_s (jf_occupy s i k) (ju K i k) Z (ju N i ((N i + 1) % 256)) B Y := by
  refine ⟨?_, h.h.occ hi (by omega), h.v.occ hi h0 hk, jf_occupy_ok h.ok _ (by omega), ju_lt h.k3 (by omega), h.z6, ju_lt h.n2 (Nat.mod_lt _ (by decide)), h.b4, h.y2⟩
  unfold jf_occupy jf_putField
  exact ((h.d.head hi (by decide) _).head hi (by decide) _).head hi (by decide) _
theorem je_s.add {s K Z N B Y : Nat → Nat} (h : je_s s K Z N B Y) {d nm i m : Nat} (hd : d < 12) (hk : K d = 2) (hz : Z d < 32) (hm : 40 ≤ m) (hr : jm_needed (Z d + 2) ≤ jm_free B + jm_needed (Z d)) (hnm : nm < 256) (hi : 1 ≤ i ∧ i < 12) (hki : K i ≠ 0) (hu : je_un K Z Y i) (hn : jm_entryOf Z Y d nm = none) :
    je_s (jf_addEntry s d nm i) K (ju Z d (Z d + 2)) N (jm_resB B m d (Z d + 2)) (ju (ju (jm_resY Y d (Z d + 2)) (d * 64 + Z d) nm) (d * 64 + Z d + 1) i) := by
  have hz2 := h.v.zd d hd hk
  have r := je_resize h.d h.ok h.h hd (show Z d + 2 ≤ 64 by omega) hm h.b4 (h.v.z d hd) (fun k hk => h.v.bz d k hd hk) (fun p hp hq => h.v.yz d p hd hp hq) hr
  have he : jf_entries s d = Z d / 2 := by rw [h.entries hd, if_pos hk]
  have e1 : (Z d / 2 + 1) * 2 = Z d + 2 := by omega
  have e2 : Z d / 2 * 2 = Z d := by omega
  have hb : ∀ p, p < Z d + 2 → jm_resB B m d (Z d + 2) (d * 4 + p / 16) ≠ 0 := fun p hp => (r.bz (p / 16) (by omega)).mpr (by unfold jm_needed; omega)
  have hY : ∀ a, a < d * 64 + Z d → jm_resY Y d (Z d + 2) a = Y a := by
    intro a ha
    unfold jm_resY
    rw [je_zL, if_neg (by omega)]
  have hO : ∀ a, a < d * 64 ∨ d * 64 + 64 ≤ a → jm_resY Y d (Z d + 2) a = Y a := by
    intro a ha
    unfold jm_resY
    rw [je_zL, if_neg (by omega)]
  have hn2 := (je_eo_none Z Y d nm).mp hn
  -- the entries
  have hin : ∀ e, e < Z d / 2 → ju (ju (jm_resY Y d (Z d + 2)) (d * 64 + Z d) nm) (d * 64 + Z d + 1) i (d * 64 + e * 2 + 1) = Y (d * 64 + e * 2 + 1) := by
    intro e h1
    rw [ju_ne (by omega), ju_ne (by omega), hY _ (by omega)]
  have hna : ∀ e, e < Z d / 2 → ju (ju (jm_resY Y d (Z d + 2)) (d * 64 + Z d) nm) (d * 64 + Z d + 1) i (d * 64 + e * 2) = Y (d * 64 + e * 2) := by
    intro e h1
    rw [ju_ne (by omega), ju_ne (by omega), hY _ (by omega)]
  have hin2 : ∀ e, e = Z d / 2 → ju (ju (jm_resY Y d (Z d + 2)) (d * 64 + Z d) nm) (d * 64 + Z d + 1) i (d * 64 + e * 2 + 1) = i := by
    intro e h1
    rw [ju_eq (by omega)]
  have hna2 : ∀ e, e = Z d / 2 → ju (ju (jm_resY Y d (Z d + 2)) (d * 64 + Z d) nm) (d * 64 + Z d + 1) i (d * 64 + e * 2) = nm := by
    intro e h1
    rw [ju_ne (by omega), ju_eq (by omega)]
  have hv : je_v K (ju Z d (Z d + 2)) (jm_resB B m d (Z d + 2)) (ju (ju (jm_resY Y d (Z d + 2)) (d * 64 + Z d) nm) (d * 64 + Z d + 1) i) := by
    refine h.v.dir hd hk ⟨by omega, by omega⟩ r.out r.bz ?_ ?_ ?_ ?_ ?_ ?_
    · intro a ha
      rw [ju_ne (by omega), ju_ne (by omega), hO a ha]
    · intro p hp hq
      rw [ju_ne (by omega), ju_ne (by omega)]
      unfold jm_resY
      rw [je_zL, if_pos (by omega)]
    · intro e he2
      by_cases w : e = Z d / 2
      · rw [hin2 e w]; exact ⟨hi.1, hi.2, hki⟩
      · rw [hin e (by omega)]; exact h.v.en d e hd hk (by omega)
    · intro e g h1 h2 hx
      by_cases w : e = Z d / 2
      · by_cases w2 : g = Z d / 2
        · omega
        · rw [hin2 e w, hin g (by omega)] at hx
          exact absurd hx.symm (hu d g hd hk (by omega))
      · by_cases w2 : g = Z d / 2
        · rw [hin e (by omega), hin2 g w2] at hx
          exact absurd hx (hu d e hd hk (by omega))
        · rw [hin e (by omega), hin g (by omega)] at hx
          exact (h.v.eu d e d g hd hk (by omega) hd hk (by omega) hx).2
    · intro e f g h1 hf hfd hfk hg hx
      by_cases w : e = Z d / 2
      · rw [hin2 e w] at hx
        exact hu f g hf hfk hg hx.symm
      · rw [hin e (by omega)] at hx
        exact hfd (h.v.eu d e f g hd hk (by omega) hf hfk hg hx).1.symm
    · intro e g h1 h2 hx
      by_cases w : e = Z d / 2
      · by_cases w2 : g = Z d / 2
        · omega
        · rw [hna2 e w, hna g (by omega)] at hx
          exact absurd hx.symm (hn2 g (by omega))
      · by_cases w2 : g = Z d / 2
        · rw [hna e (by omega), hna2 g w2] at hx
          exact absurd hx (hn2 e (by omega))
        · rw [hna e (by omega), hna g (by omega)] at hx
          exact h.v.nu d e g hd hk (by omega) (by omega) hx
  have hy := ju_lt (a := d * 64 + Z d + 1) (ju_lt (a := d * 64 + Z d) (jm_zL_lt d (by decide) (64 - (Z d + 2)) (Z d + 2) h.y2) hnm) (show i < 256 by omega)
  unfold jf_addEntry jf_putEntry
  rw [he, e1, e2]
  have d1 := r.d.byte hd (show Z d < 64 by omega) (hb _ (by omega)) nm
  have d2 := d1.byte hd (show Z d + 1 < 64 by omega) (hb _ (by omega)) i
  exact ⟨d2, je_h.byte d1 (je_h.byte r.d r.h hd (by omega) (hb _ (by omega)) nm) hd (by omega) (hb _ (by omega)) i, hv, jf_putByte_ok (jf_putByte_ok r.ok _ _ hnm) _ _ (by omega), h.k3, ju_lt h.z6 (by omega), h.n2, r.lt, hy⟩
/-- the bytes behind a drop -/
theorem je_drY (Z Y : Nat → Nat) {d e : Nat} (he : e < Z d / 2) (hz : Z d ≤ 32) (hev : Z d % 2 = 0) : (∀ g b, g < Z d / 2 - 1 → b < 2 → jm_drY Z Y d e (d * 64 + g * 2 + b) = Y (d * 64 + (if g = e then Z d / 2 - 1 else g) * 2 + b)) ∧ (∀ p, p < 64 → Z d - 2 ≤ p → jm_drY Z Y d e (d * 64 + p) = 0) ∧ (∀ a, a < d * 64 ∨ d * 64 + 64 ≤ a → jm_drY Z Y d e a = Y a) := by
  refine ⟨fun g b hg hb => ?_, fun p hp hq => ?_, fun a ha => ?_⟩
  · unfold jm_drY jm_resY
    rw [je_zL, if_neg (by omega)]
    by_cases w : g = e
    · subst w
      rw [if_pos rfl]
      by_cases w2 : b = 0
      · subst w2
        rw [ju_ne (by omega), ju_eq (by omega)]
        congr 1
        omega
      · rw [ju_eq (by omega), ju_ne (by omega)]
        congr 1
        omega
    · rw [if_neg w, ju_ne (by omega), ju_ne (by omega)]
  · unfold jm_drY jm_resY
    rw [je_zL, if_pos (by omega)]
  · unfold jm_drY jm_resY
    rw [je_zL, if_neg (by omega), ju_ne (by omega), ju_ne (by omega)]
theorem je_s.drop {s K Z N B Y : Nat → Nat} (h : je_s s K Z N B Y) {d nm e m : Nat} (hd : d < 12) (hk : K d = 2) (hm : 40 ≤ m) (hf : jm_entryOf Z Y d nm = some e) :
    je_s (jf_dropEntry s d nm) K (ju Z d (Z d - 2)) N (jm_resB B m d (Z d - 2)) (jm_drY Z Y d e) ∧ jm_free (jm_resB B m d (Z d - 2)) + jm_needed (Z d - 2) = jm_free B + jm_needed (Z d) := by
  have hz2 := h.v.zd d hd hk
  have he := jm_entryOf_lt hf
  have hen : jf_entries s d = Z d / 2 := by rw [h.entries hd, if_pos hk]
  have hfd : jf_findEntry s d nm = some e := by rw [h.find hd, if_pos hk, hf]
  have hb : ∀ p, p < Z d → B (d * 4 + p / 16) ≠ 0 := fun p hp => (h.v.bz d (p / 16) hd (by omega)).mpr (by unfold jm_needed; omega)
  have e1 : (Z d / 2 - 1) * 2 = Z d - 2 := by omega
  have ys := je_drY Z Y he hz2.1 hz2.2
  have d1 := h.d.byte hd (show e * 2 < 64 by omega) (hb _ (by omega)) (Y (d * 64 + (Z d - 2)))
  have d2 := d1.byte hd (show e * 2 + 1 < 64 by omega) (hb _ (by omega)) (Y (d * 64 + (Z d - 2) + 1))
  have h1 := je_h.byte h.d h.h hd (show e * 2 < 64 by omega) (hb _ (by omega)) (Y (d * 64 + (Z d - 2)))
  have h2 := je_h.byte d1 h1 hd (show e * 2 + 1 < 64 by omega) (hb _ (by omega)) (Y (d * 64 + (Z d - 2) + 1))
  have ok2 := jf_putByte_ok (jf_putByte_ok h.ok d (e * 2) (h.y2 (d * 64 + (Z d - 2)))) d (e * 2 + 1) (h.y2 (d * 64 + (Z d - 2) + 1))
  have r := je_resize d2 ok2 h2 hd (show Z d - 2 ≤ 64 by omega) hm h.b4 (h.v.z d hd) (fun k hk => h.v.bz d k hd hk) (fun p hp hq => by
    rw [ju_ne (by omega), ju_ne (by omega)]
    exact h.v.yz d p hd hp hq) (by have := jm_needed_sub (Z d); omega)
  have es : jf_dropEntry s d nm = jf_resize (jf_putByte (jf_putByte s d (e * 2) (Y (d * 64 + (Z d - 2)))) d (e * 2 + 1) (Y (d * 64 + (Z d - 2) + 1))) d (Z d - 2) := by
    unfold jf_dropEntry jf_putEntry
    rw [hfd, hen]
    simp only []
    rw [h.name hd (by omega), h.inode hd (by omega), e1]
  have eY : jm_resY (ju (ju Y (d * 64 + e * 2) (Y (d * 64 + (Z d - 2)))) (d * 64 + (e * 2 + 1)) (Y (d * 64 + (Z d - 2) + 1))) d (Z d - 2) = jm_drY Z Y d e := by
    unfold jm_drY
    have : ju Y (d * 64 + e * 2) (Y (d * 64 + (Z d - 2))) (d * 64 + (Z d - 2) + 1) = Y (d * 64 + (Z d - 2) + 1) := ju_ne (by omega)
    rw [this, Nat.add_assoc (d * 64) (e * 2) 1]
  have rd := r.d
  rw [eY] at rd
  have hin : ∀ g, g < Z d / 2 - 1 → jm_drY Z Y d e (d * 64 + g * 2 + 1) = Y (d * 64 + (if g = e then Z d / 2 - 1 else g) * 2 + 1) := fun g hg => ys.1 g 1 hg (by decide)
  have hna : ∀ g, g < Z d / 2 - 1 → jm_drY Z Y d e (d * 64 + g * 2) = Y (d * 64 + (if g = e then Z d / 2 - 1 else g) * 2) := fun g hg => ys.1 g 0 hg (by decide)
  have hlt : ∀ g, g < Z d / 2 - 1 → (if g = e then Z d / 2 - 1 else g) < Z d / 2 := by intro g hg; split <;> omega
  have hinj : ∀ g k, g < Z d / 2 - 1 → k < Z d / 2 - 1 → (if g = e then Z d / 2 - 1 else g) = (if k = e then Z d / 2 - 1 else k) → g = k := by intro g k hg hk; split <;> split <;> omega
  have e3 : (Z d - 2) / 2 = Z d / 2 - 1 := by omega
  have hv : je_v K (ju Z d (Z d - 2)) (jm_resB B m d (Z d - 2)) (jm_drY Z Y d e) := by
    refine h.v.dir hd hk ⟨by omega, by omega⟩ r.out r.bz ys.2.2 ys.2.1 ?_ ?_ ?_ ?_
    · intro g hg
      rw [e3] at hg
      rw [hin g hg]; exact h.v.en d _ hd hk (hlt g hg)
    · intro g k hg hk2 hx
      rw [e3] at hg hk2
      rw [hin g hg, hin k hk2] at hx
      exact hinj g k hg hk2 (h.v.eu d _ d _ hd hk (hlt g hg) hd hk (hlt k hk2) hx).2
    · intro g f k hg hf2 hfd2 hfk hk2 hx
      rw [e3] at hg
      rw [hin g hg] at hx
      exact hfd2 (h.v.eu d _ f k hd hk (hlt g hg) hf2 hfk hk2 hx).1.symm
    · intro g k hg hk2 hx
      rw [e3] at hg hk2
      rw [hna g hg, hna k hk2] at hx
      exact hinj g k hg hk2 (h.v.nu d _ _ hd hk (hlt g hg) (hlt k hk2) hx)
  have hy : jlt 256 (jm_drY Z Y d e) := jm_zL_lt d (by decide) _ _ (ju_lt (ju_lt h.y2 (h.y2 _)) (ju_lt h.y2 (h.y2 _) _))
  rw [es]
  exact ⟨⟨rd, r.h, hv, r.ok, h.k3, ju_lt h.z6 (by omega), h.n2, r.lt, hy⟩, r.fr⟩
/-- behind a drop: the entry's inode isn't named any more -/
theorem je_v.drop_un {K Z B Y : Nat → Nat} (v : je_v K Z B Y) {d e : Nat} (hd : d < 12) (hk : K d = 2) (he : e < Z d / 2) : je_un K (ju Z d (Z d - 2)) (jm_drY Z Y d e) (Y (d * 64 + e * 2 + 1)) := by
  have hz2 := v.zd d hd hk
  have ys := je_drY Z Y he hz2.1 hz2.2
  intro f g hf hfk hg hx
  by_cases w : f = d
  · subst w
    rw [ju_eq rfl] at hg
    rw [ys.1 g 1 (by omega) (by decide)] at hx
    have := (v.eu f _ f e hf hfk (by split <;> omega) hf hfk he hx).2
    split at this <;> omega
  · rw [ju_ne w] at hg
    have := (v.zd f hf hfk).1
    rw [ys.2.2 _ (by omega)] at hx
    exact w (v.eu f g d e hf hfk hg hd hk he hx).1
/-- behind a drop: other unnamed ones stay so -/
theorem je_v.drop_un2 {K Z B Y : Nat → Nat} (v : je_v K Z B Y) {d e x : Nat} (hd : d < 12) (hk : K d = 2) (he : e < Z d / 2) (hu : je_un K Z Y x) : je_un K (ju Z d (Z d - 2)) (jm_drY Z Y d e) x := by
  have hz2 := v.zd d hd hk
  have ys := je_drY Z Y he hz2.1 hz2.2
  intro f g hf hfk hg hx
  by_cases w : f = d
  · subst w
    rw [ju_eq rfl] at hg
    rw [ys.1 g 1 (by omega) (by decide)] at hx
    exact hu f _ hf hfk (by split <;> omega) hx
  · rw [ju_ne w] at hg
    have := (v.zd f hf hfk).1
    rw [ys.2.2 _ (by omega)] at hx
    exact hu f g hf hfk hg hx
/-- behind a drop: no new name -/
theorem je_v.drop_none {K Z B Y : Nat → Nat} (v : je_v K Z B Y) {d e f nm : Nat} (hd : d < 12) (hk : K d = 2) (he : e < Z d / 2) (hf : f < 12) (hfk : K f = 2) (hn : jm_entryOf Z Y f nm = none) : jm_entryOf (ju Z d (Z d - 2)) (jm_drY Z Y d e) f nm = none := by
  have hz2 := v.zd d hd hk
  have ys := je_drY Z Y he hz2.1 hz2.2
  rw [je_eo_none] at hn ⊢
  intro g hg
  by_cases w : f = d
  · subst w
    rw [ju_eq rfl] at hg
    have := ys.1 g 0 (by omega) (by decide)
    simp only [Nat.add_zero] at this
    rw [this]
    exact hn _ (by split <;> omega)
  · rw [ju_ne w] at hg
    have := (v.zd f hf hfk).1
    rw [ys.2.2 _ (by omega)]
    exact hn g hg
/-- behind a drop: another entry is still found, and still names the same -/
theorem je_v.drop_some {K Z B Y : Nat → Nat} (v : je_v K Z B Y) {d e f j nm : Nat} (hd : d < 12) (hk : K d = 2) (he : e < Z d / 2) (hf : f < 12) (hfk : K f = 2) (hn : jm_entryOf Z Y f nm = some j) (hne : ¬ (f = d ∧ j = e)) : ∃ g, jm_entryOf (ju Z d (Z d - 2)) (jm_drY Z Y d e) f nm = some g ∧ jm_drY Z Y d e (f * 64 + g * 2 + 1) = Y (f * 64 + j * 2 + 1) := by
  have hz2 := v.zd d hd hk
  have hj := je_eo_some hn
  have ys := je_drY Z Y he hz2.1 hz2.2
  cases hg : jm_entryOf (ju Z d (Z d - 2)) (jm_drY Z Y d e) f nm with
  | none =>
    exfalso
    rw [je_eo_none] at hg
    by_cases w : f = d
    · subst w
      have hje : j ≠ e := fun q => hne ⟨rfl, q⟩
      rw [ju_eq rfl] at hg
      by_cases w2 : j = Z f / 2 - 1
      · refine hg e (by omega) ?_
        have := ys.1 e 0 (by omega) (by decide)
        simp only [Nat.add_zero, if_true] at this
        rw [this, ← w2]
        exact hj.2
      · refine hg j (by omega) ?_
        have := ys.1 j 0 (by omega) (by decide)
        simp only [Nat.add_zero, hje, if_false] at this
        rw [this]
        exact hj.2
    · rw [ju_ne w] at hg
      have := (v.zd f hf hfk).1
      refine hg j hj.1 ?_
      rw [ys.2.2 _ (by omega)]
      exact hj.2
  | some g =>
    refine ⟨g, rfl, ?_⟩
    have hg2 := je_eo_some hg
    by_cases w : f = d
    · subst w
      rw [ju_eq rfl] at hg2
      have h1 := ys.1 g 0 (by omega) (by decide)
      simp only [Nat.add_zero] at h1
      rw [h1] at hg2
      have h2 := v.nu f _ j hf hfk (by split <;> omega) hj.1 (hg2.2.trans hj.2.symm)
      rw [ys.1 g 1 (by omega) (by decide), h2]
    · rw [ju_ne w] at hg2
      have := (v.zd f hf hfk).1
      rw [ys.2.2 _ (by omega)] at hg2
      have h2 := v.nu f g j hf hfk hg2.1 hj.1 (hg2.2.trans hj.2.symm)
      rw [h2, ys.2.2 _ (by omega)]
theorem je_h.free {s K Z N : Nat → Nat} (h : je_h s K Z N) {i : Nat} (hi : i < 12) : je_h (jf_putField (jf_putField s i 0 0) i 2 0) (ju K i 0) Z N := by
  unfold jf_putField
  refine ⟨fun j hj => ?_, fun j hj => ?_, fun j hj => ?_, fun j hj => ?_⟩
  · rw [je_put_ne _ _ _ (by omega)]
    by_cases e : j = i
    · subst e; rw [je_put_eq _ _ (by omega), ju_eq rfl]
    · rw [je_put_ne _ _ _ (by omega), ju_ne e]; exact h.kd j hj
  · rw [je_put_ne _ _ _ (by omega), je_put_ne _ _ _ (by omega)]; exact h.sz j hj
  · by_cases e : j = i
    · subst e; rw [je_put_eq _ _ (by omega), ju_eq rfl, if_pos rfl]
    · rw [je_put_ne _ _ _ (by omega), je_put_ne _ _ _ (by omega), ju_ne e]; exact h.lk j hj
  · rw [je_put_ne _ _ _ (by omega), je_put_ne _ _ _ (by omega)]; exact h.gn j hj
theorem je_s.release {s K Z N B Y : Nat → Nat} (h : je_s s K Z N B Y) {i m : Nat} (hi : i < 12) (h0 : i ≠ 0) (hm : 40 ≤ m) (hu : je_un K Z Y i) : je_s (jf_vacate s i) (ju K i 0) (ju Z i 0) N (jm_resB B m i 0) (jm_resY Y i 0) := by
  have hn0 : jm_needed 0 = 0 := by decide
  have r := je_resize h.d h.ok h.h hi (show 0 ≤ 64 by omega) hm h.b4 (h.v.z i hi) (fun k hk => h.v.bz i k hi hk) (fun p hp hq => h.v.yz i p hi hp hq) (by omega)
  refine ⟨?_, ?_, ?_, jf_vacate_ok h.ok i, ju_lt h.k3 (by decide), ju_lt h.z6 (by decide), h.n2, r.lt, jm_zL_lt i (by decide) _ _ h.y2⟩
  · unfold jf_vacate jf_putField
    exact (r.d.head hi (by decide) _).head hi (by decide) _
  · exact r.h.free hi
  · refine h.v.rel hi h0 hu r.out r.bz ?_ ?_
    · intro a ha
      unfold jm_resY
      rw [je_zL, if_neg (by omega)]
    · intro p hp hq
      unfold jm_resY
      rw [je_zL, if_pos (by omega)]
/-- an entry that names another inode now -/
theorem je_s.redirect {s K Z N B Y : Nat → Nat} (h : je_s s K Z N B Y) {d nm e x : Nat} (hd : d < 12) (hk : K d = 2) (hf : jm_entryOf Z Y d nm = some e) (hx : 1 ≤ x ∧ x < 12) (hkx : K x ≠ 0) (hu : je_un K Z Y x) :
    je_s (jf_redirect s d nm x) K Z N B (ju Y (d * 64 + e * 2 + 1) x) ∧ je_un K Z (ju Y (d * 64 + e * 2 + 1) x) (Y (d * 64 + e * 2 + 1)) := by
  have hz2 := h.v.zd d hd hk
  have he := je_eo_some hf
  have hfd : jf_findEntry s d nm = some e := by rw [h.find hd, if_pos hk, hf]
  have hb : ∀ p, p < Z d → B (d * 4 + p / 16) ≠ 0 := fun p hp => (h.v.bz d (p / 16) hd (by omega)).mpr (by unfold jm_needed; omega)
  have es : jf_redirect s d nm x = jf_putByte (jf_putByte s d (e * 2) nm) d (e * 2 + 1) x := by
    unfold jf_redirect jf_putEntry
    rw [hfd]
  have d1 := h.d.byte hd (show e * 2 < 64 by omega) (hb _ (by omega)) nm
  have e1 : ju Y (d * 64 + e * 2) nm = Y := by
    have := ju_same Y (d * 64 + e * 2)
    rw [he.2] at this
    exact this
  rw [e1] at d1
  have d2 := d1.byte hd (show e * 2 + 1 < 64 by omega) (hb _ (by omega)) x
  have h1 := je_h.byte h.d h.h hd (show e * 2 < 64 by omega) (hb _ (by omega)) nm
  have h2 := je_h.byte d1 h1 hd (show e * 2 + 1 < 64 by omega) (hb _ (by omega)) x
  have hnm : nm < 256 := by rw [← he.2]; exact h.y2 _
  have ok2 := jf_putByte_ok (jf_putByte_ok h.ok d (e * 2) hnm) d (e * 2 + 1) (show x < 256 by omega)
  have hin : ∀ g, g < Z d / 2 → g ≠ e → ju Y (d * 64 + e * 2 + 1) x (d * 64 + g * 2 + 1) = Y (d * 64 + g * 2 + 1) := fun g _ hg => ju_ne (by omega)
  have hna : ∀ g, ju Y (d * 64 + e * 2 + 1) x (d * 64 + g * 2) = Y (d * 64 + g * 2) := fun g => ju_ne (by omega)
  have hv : je_v K (ju Z d (Z d)) B (ju Y (d * 64 + e * 2 + 1) x) := by
    refine h.v.dir hd hk hz2 (fun _ _ => rfl) (fun k hk => h.v.bz d k hd hk) (fun a ha => ju_ne (by omega)) (fun p hp hq => ?_) ?_ ?_ ?_ ?_
    · rw [ju_ne (by omega)]; exact h.v.yz d p hd hp hq
    · intro g hg
      by_cases w : g = e
      · subst w; rw [ju_eq rfl]; exact ⟨hx.1, hx.2, hkx⟩
      · rw [hin g hg w]; exact h.v.en d g hd hk hg
    · intro g k hg hk2 hq
      by_cases w : g = e
      · by_cases w2 : k = e
        · omega
        · subst w
          rw [ju_eq rfl, hin k hk2 w2] at hq
          exact absurd hq.symm (hu d k hd hk hk2)
      · by_cases w2 : k = e
        · subst w2
          rw [ju_eq rfl, hin g hg w] at hq
          exact absurd hq (hu d g hd hk hg)
        · rw [hin g hg w, hin k hk2 w2] at hq
          exact (h.v.eu d g d k hd hk hg hd hk hk2 hq).2
    · intro g f k hg hf2 hfd2 hfk hk2 hq
      by_cases w : g = e
      · subst w
        rw [ju_eq rfl] at hq
        exact hu f k hf2 hfk hk2 hq.symm
      · rw [hin g hg w] at hq
        exact hfd2 (h.v.eu d g f k hd hk hg hf2 hfk hk2 hq).1.symm
    · intro g k hg hk2 hq
      rw [hna, hna] at hq
      exact h.v.nu d g k hd hk hg hk2 hq
  rw [ju_same] at hv
  rw [es]
  refine ⟨⟨?_, h2, hv, ok2, h.k3, h.z6, h.n2, h.b4, ju_lt h.y2 (by omega)⟩, ?_⟩
  · rw [← Nat.add_assoc] at d2; exact d2
  · intro f g hf2 hfk hg hq
    by_cases w : f * 64 + g * 2 + 1 = d * 64 + e * 2 + 1
    · rw [ju_eq w] at hq
      exact hu d e hd hk he.1 hq.symm
    · rw [ju_ne w] at hq
      have := h.v.eu f g d e hf2 hfk hg hd hk he.1 hq
      exact w (by rw [this.1, this.2])
