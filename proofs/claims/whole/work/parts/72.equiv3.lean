def je_v (K Z B Y : Nat → Nat) : Prop := (∀ i, i < 12 → Z i ≤ 64) ∧ (∀ i, i < 12 → K i = 2 → Z i ≤ 32 ∧ Z i % 2 = 0) ∧ (∀ i, i < 12 → K i = 0 → Z i = 0) ∧ (∀ i k, i < 12 → k < 4 → (B (i * 4 + k) ≠ 0 ↔ k < jm_needed (Z i))) ∧ (∀ i p, i < 12 → p < 64 → Z i ≤ p → Y (i * 64 + p) = 0) ∧ (K 0 = 2) ∧ (∀ d e, d < 12 → K d = 2 → e < Z d / 2 → 1 ≤ Y (d * 64 + e * 2 + 1) ∧ Y (d * 64 + e * 2 + 1) < 12 ∧ K (Y (d * 64 + e * 2 + 1)) ≠ 0) ∧ (∀ d e f g, d < 12 → K d = 2 → e < Z d / 2 → f < 12 → K f = 2 → g < Z f / 2 → Y (d * 64 + e * 2 + 1) = Y (f * 64 + g * 2 + 1) → d = f ∧ e = g) ∧ (∀ d e g, d < 12 → K d = 2 → e < Z d / 2 → g < Z d / 2 → Y (d * 64 + e * 2) = Y (d * 64 + g * 2) → e = g)
theorem je_v.z {K Z B Y : Nat → Nat} (h : je_v K Z B Y) : ∀ i, i < 12 → Z i ≤ 64 := h.1
theorem je_v.zd {K Z B Y : Nat → Nat} (h : je_v K Z B Y) : ∀ i, i < 12 → K i = 2 → Z i ≤ 32 ∧ Z i % 2 = 0 := h.2.1
theorem je_v.z0 {K Z B Y : Nat → Nat} (h : je_v K Z B Y) : ∀ i, i < 12 → K i = 0 → Z i = 0 := h.2.2.1
theorem je_v.bz {K Z B Y : Nat → Nat} (h : je_v K Z B Y) : ∀ i k, i < 12 → k < 4 → (B (i * 4 + k) ≠ 0 ↔ k < jm_needed (Z i)) := h.2.2.2.1
theorem je_v.yz {K Z B Y : Nat → Nat} (h : je_v K Z B Y) : ∀ i p, i < 12 → p < 64 → Z i ≤ p → Y (i * 64 + p) = 0 := h.2.2.2.2.1
theorem je_v.rt {K Z B Y : Nat → Nat} (h : je_v K Z B Y) : K 0 = 2 := h.2.2.2.2.2.1
theorem je_v.en {K Z B Y : Nat → Nat} (h : je_v K Z B Y) : ∀ d e, d < 12 → K d = 2 → e < Z d / 2 → 1 ≤ Y (d * 64 + e * 2 + 1) ∧ Y (d * 64 + e * 2 + 1) < 12 ∧ K (Y (d * 64 + e * 2 + 1)) ≠ 0 := h.2.2.2.2.2.2.1
theorem je_v.eu {K Z B Y : Nat → Nat} (h : je_v K Z B Y) : ∀ d e f g, d < 12 → K d = 2 → e < Z d / 2 → f < 12 → K f = 2 → g < Z f / 2 → Y (d * 64 + e * 2 + 1) = Y (f * 64 + g * 2 + 1) → d = f ∧ e = g := h.2.2.2.2.2.2.2.1
theorem je_v.nu {K Z B Y : Nat → Nat} (h : je_v K Z B Y) : ∀ d e g, d < 12 → K d = 2 → e < Z d / 2 → g < Z d / 2 → Y (d * 64 + e * 2) = Y (d * 64 + g * 2) → e = g := h.2.2.2.2.2.2.2.2
/-- no entry names i -/
def je_un (K Z Y : Nat → Nat) (i : Nat) : Prop := ∀ d e, d < 12 → K d = 2 → e < Z d / 2 → Y (d * 64 + e * 2 + 1) ≠ i
theorem ju_ne {f : Nat → Nat} {a v k : Nat} (h : k ≠ a) : ju f a v k = f k := by simp [ju, h]
theorem ju_eq {f : Nat → Nat} {a v k : Nat} (h : k = a) : ju f a v k = v := by simp [ju, h]
theorem je_v.file {K Z B Y C X : Nat → Nat} (v : je_v K Z B Y) {i z : Nat} (hi : i < 12) (hk : K i = 1) (hz : z ≤ 64) (hC : ∀ q, q < i * 4 ∨ i * 4 + 4 ≤ q → C q = B q) (hbz : ∀ k, k < 4 → (C (i * 4 + k) ≠ 0 ↔ k < jm_needed z)) (hX : ∀ a, a < i * 64 ∨ i * 64 + 64 ≤ a → X a = Y a) (hyz : ∀ p, p < 64 → z ≤ p → X (i * 64 + p) = 0) : je_v K (ju Z i z) C X := by
  have hne : ∀ d, K d = 2 → d ≠ i := by intro d h q; rw [q] at h; omega
  have hZ : ∀ d, K d = 2 → ju Z i z d = Z d := fun d h => ju_ne (hne d h)
  have hY : ∀ d p, K d = 2 → p < 64 → X (d * 64 + p) = Y (d * 64 + p) := fun d p h hp => hX _ (by have := hne d h; omega)
  refine ⟨?_, ?_, ?_, ?_, ?_, v.rt, ?_, ?_, ?_⟩
  · intro j hj
    by_cases e : j = i
    · rw [ju_eq e]; exact hz
    · rw [ju_ne e]; exact v.z j hj
  · intro j hj h; rw [hZ j h]; exact v.zd j hj h
  · intro j hj h
    rw [ju_ne (by intro q; rw [q] at h; omega)]; exact v.z0 j hj h
  · intro j k hj hk2
    by_cases e : j = i
    · rw [ju_eq e, e]; exact hbz k hk2
    · rw [ju_ne e, hC _ (by omega)]; exact v.bz j k hj hk2
  · intro j p hj hp h
    by_cases e : j = i
    · rw [ju_eq e] at h; rw [e]; exact hyz p hp h
    · rw [ju_ne e] at h; rw [hX _ (by omega)]; exact v.yz j p hj hp h
  · intro d e hd h he
    rw [hZ d h] at he
    have := (v.zd d hd h).1
    rw [show d * 64 + e * 2 + 1 = d * 64 + (e * 2 + 1) by omega, hY d _ h (by omega)]
    exact v.en d e hd h he
  · intro d e f g hd h he hf h2 hg
    rw [hZ d h] at he
    rw [hZ f h2] at hg
    have := (v.zd d hd h).1
    have := (v.zd f hf h2).1
    rw [show d * 64 + e * 2 + 1 = d * 64 + (e * 2 + 1) by omega, hY d _ h (by omega), show f * 64 + g * 2 + 1 = f * 64 + (g * 2 + 1) by omega, hY f _ h2 (by omega)]
    exact v.eu d e f g hd h he hf h2 hg
  · intro d e g hd h he hg
    rw [hZ d h] at he hg
    have := (v.zd d hd h).1
    rw [hY d _ h (by omega), hY d _ h (by omega)]
    exact v.nu d e g hd h he hg
theorem je_v.dir {K Z B Y C X : Nat → Nat} (v : je_v K Z B Y) {i z : Nat} (hi : i < 12) (hk : K i = 2) (hz : z ≤ 32 ∧ z % 2 = 0) (hC : ∀ q, q < i * 4 ∨ i * 4 + 4 ≤ q → C q = B q) (hbz : ∀ k, k < 4 → (C (i * 4 + k) ≠ 0 ↔ k < jm_needed z)) (hX : ∀ a, a < i * 64 ∨ i * 64 + 64 ≤ a → X a = Y a) (hyz : ∀ p, p < 64 → z ≤ p → X (i * 64 + p) = 0)
    (h1 : ∀ e, e < z / 2 → 1 ≤ X (i * 64 + e * 2 + 1) ∧ X (i * 64 + e * 2 + 1) < 12 ∧ K (X (i * 64 + e * 2 + 1)) ≠ 0)
    (h2 : ∀ e g, e < z / 2 → g < z / 2 → X (i * 64 + e * 2 + 1) = X (i * 64 + g * 2 + 1) → e = g)
    (h3 : ∀ e f g, e < z / 2 → f < 12 → f ≠ i → K f = 2 → g < Z f / 2 → X (i * 64 + e * 2 + 1) ≠ Y (f * 64 + g * 2 + 1))
    (h4 : ∀ e g, e < z / 2 → g < z / 2 → X (i * 64 + e * 2) = X (i * 64 + g * 2) → e = g) : je_v K (ju Z i z) C X := by
  have hZ : ∀ d, d ≠ i → ju Z i z d = Z d := fun d h => ju_ne h
  have hY : ∀ d p, d ≠ i → p < 64 → X (d * 64 + p) = Y (d * 64 + p) := fun d p h hp => hX _ (by omega)
  refine ⟨?_, ?_, ?_, ?_, ?_, v.rt, ?_, ?_, ?_⟩
  · intro j hj
    by_cases e : j = i
    · rw [ju_eq e]; omega
    · rw [ju_ne e]; exact v.z j hj
  · intro j hj h
    by_cases e : j = i
    · rw [ju_eq e]; exact hz
    · rw [ju_ne e]; exact v.zd j hj h
  · intro j hj h
    rw [ju_ne (by intro q; rw [q] at h; omega)]; exact v.z0 j hj h
  · intro j k hj hk2
    by_cases e : j = i
    · rw [ju_eq e, e]; exact hbz k hk2
    · rw [ju_ne e, hC _ (by omega)]; exact v.bz j k hj hk2
  · intro j p hj hp h
    by_cases e : j = i
    · rw [ju_eq e] at h; rw [e]; exact hyz p hp h
    · rw [ju_ne e] at h; rw [hX _ (by omega)]; exact v.yz j p hj hp h
  · intro d e hd h he
    by_cases q : d = i
    · rw [ju_eq q] at he; rw [q]; exact h1 e he
    · rw [hZ d q] at he
      have := (v.zd d hd h).1
      rw [show d * 64 + e * 2 + 1 = d * 64 + (e * 2 + 1) by omega, hY d _ q (by omega)]
      exact v.en d e hd h he
  · intro d e f g hd h he hf h5 hg hx
    by_cases q : d = i
    · rw [ju_eq q] at he
      by_cases r : f = i
      · rw [ju_eq r] at hg; rw [q, r] at hx; exact ⟨by omega, h2 e g he hg hx⟩
      · rw [hZ f r] at hg
        have := (v.zd f hf h5).1
        rw [show f * 64 + g * 2 + 1 = f * 64 + (g * 2 + 1) by omega, hY f _ r (by omega), q] at hx
        exact absurd hx (h3 e f g he hf r h5 hg)
    · rw [hZ d q] at he
      have := (v.zd d hd h).1
      rw [show d * 64 + e * 2 + 1 = d * 64 + (e * 2 + 1) by omega, hY d _ q (by omega)] at hx
      by_cases r : f = i
      · rw [ju_eq r] at hg; rw [r] at hx
        exact absurd hx.symm (h3 g d e hg hd q h he)
      · rw [hZ f r] at hg
        have := (v.zd f hf h5).1
        rw [show f * 64 + g * 2 + 1 = f * 64 + (g * 2 + 1) by omega, hY f _ r (by omega)] at hx
        exact v.eu d e f g hd h he hf h5 hg hx
  · intro d e g hd h he hg hx
    by_cases q : d = i
    · rw [ju_eq q] at he hg; rw [q] at hx; exact h4 e g he hg hx
    · rw [hZ d q] at he hg
      have := (v.zd d hd h).1
      rw [hY d _ q (by omega), hY d _ q (by omega)] at hx
      exact v.nu d e g hd h he hg hx
theorem je_v.occ {K Z B Y : Nat → Nat} (v : je_v K Z B Y) {i k : Nat} (hi : i < 12) (hk : K i = 0) (hk2 : k = 1 ∨ k = 2) : je_v (ju K i k) Z B Y := by
  have h0 : Z i = 0 := v.z0 i hi hk
  have hi0 : i ≠ 0 := by intro q; rw [q, v.rt] at hk; omega
  have hd0 : ∀ d, ju K i k d = 2 → d ≠ i → K d = 2 := by intro d h q; rw [ju_ne q] at h; exact h
  refine ⟨v.z, ?_, ?_, v.bz, v.yz, ?_, ?_, ?_, ?_⟩
  · intro j hj h
    by_cases e : j = i
    · rw [e, h0]; omega
    · exact v.zd j hj (hd0 j h e)
  · intro j hj h
    by_cases e : j = i
    · rw [e, h0]
    · rw [ju_ne e] at h; exact v.z0 j hj h
  · rw [ju_ne (by omega)]; exact v.rt
  · intro d e hd h he
    by_cases q : d = i
    · rw [q, h0] at he; omega
    · have := v.en d e hd (hd0 d h q) he
      refine ⟨this.1, this.2.1, ?_⟩
      by_cases w : Y (d * 64 + e * 2 + 1) = i
      · rw [ju_eq w]; omega
      · rw [ju_ne w]; exact this.2.2
  · intro d e f g hd h he hf h2 hg
    by_cases q : d = i
    · rw [q, h0] at he; omega
    · by_cases r : f = i
      · rw [r, h0] at hg; omega
      · exact v.eu d e f g hd (hd0 d h q) he hf (hd0 f h2 r) hg
  · intro d e g hd h he hg
    by_cases q : d = i
    · rw [q, h0] at he; omega
    · exact v.nu d e g hd (hd0 d h q) he hg
theorem je_v.un0 {K Z B Y : Nat → Nat} (v : je_v K Z B Y) {i : Nat} (hk : K i = 0) : je_un K Z Y i := by
  intro d e hd h he q
  have := (v.en d e hd h he).2.2
  rw [q] at this
  exact this hk
theorem je_v.rel {K Z B Y C X : Nat → Nat} (v : je_v K Z B Y) {i : Nat} (hi : i < 12) (h0 : i ≠ 0) (hu : je_un K Z Y i) (hC : ∀ q, q < i * 4 ∨ i * 4 + 4 ≤ q → C q = B q) (hbz : ∀ k, k < 4 → (C (i * 4 + k) ≠ 0 ↔ k < jm_needed 0)) (hX : ∀ a, a < i * 64 ∨ i * 64 + 64 ≤ a → X a = Y a) (hyz : ∀ p, p < 64 → 0 ≤ p → X (i * 64 + p) = 0) : je_v (ju K i 0) (ju Z i 0) C X := by
  have hne : ∀ d, ju K i 0 d = 2 → d ≠ i := by intro d h q; rw [ju_eq q] at h; omega
  have hK : ∀ d, ju K i 0 d = 2 → K d = 2 := by intro d h; rw [ju_ne (hne d h)] at h; exact h
  have hZ : ∀ d, ju K i 0 d = 2 → ju Z i 0 d = Z d := fun d h => ju_ne (hne d h)
  have hY : ∀ d p, ju K i 0 d = 2 → p < 64 → X (d * 64 + p) = Y (d * 64 + p) := fun d p h hp => hX _ (by have := hne d h; omega)
  refine ⟨?_, ?_, ?_, ?_, ?_, ?_, ?_, ?_, ?_⟩
  · intro j hj
    by_cases e : j = i
    · rw [ju_eq e]; omega
    · rw [ju_ne e]; exact v.z j hj
  · intro j hj h; rw [hZ j h]; exact v.zd j hj (hK j h)
  · intro j hj h
    by_cases e : j = i
    · rw [ju_eq e]
    · rw [ju_ne e] at h ⊢; exact v.z0 j hj h
  · intro j k hj hk2
    by_cases e : j = i
    · rw [ju_eq e, e]; exact hbz k hk2
    · rw [ju_ne e, hC _ (by omega)]; exact v.bz j k hj hk2
  · intro j p hj hp h
    by_cases e : j = i
    · rw [e]; exact hyz p hp (by omega)
    · rw [ju_ne e] at h; rw [hX _ (by omega)]; exact v.yz j p hj hp h
  · rw [ju_ne (by omega)]; exact v.rt
  · intro d e hd h he
    rw [hZ d h] at he
    have := (v.zd d hd (hK d h)).1
    have hw := hu d e hd (hK d h) he
    rw [show d * 64 + e * 2 + 1 = d * 64 + (e * 2 + 1) by omega, hY d _ h (by omega), ← Nat.add_assoc]
    have := v.en d e hd (hK d h) he
    refine ⟨this.1, this.2.1, ?_⟩
    rw [ju_ne hw]; exact this.2.2
  · intro d e f g hd h he hf h2 hg
    rw [hZ d h] at he
    rw [hZ f h2] at hg
    have := (v.zd d hd (hK d h)).1
    have := (v.zd f hf (hK f h2)).1
    rw [show d * 64 + e * 2 + 1 = d * 64 + (e * 2 + 1) by omega, hY d _ h (by omega), show f * 64 + g * 2 + 1 = f * 64 + (g * 2 + 1) by omega, hY f _ h2 (by omega)]
    exact v.eu d e f g hd (hK d h) he hf (hK f h2) hg
  · intro d e g hd h he hg
    rw [hZ d h] at he hg
    have := (v.zd d hd (hK d h)).1
    rw [hY d _ h (by omega), hY d _ h (by omega)]
    exact v.nu d e g hd (hK d h) he hg
/-! bytes and tables together -/
def je_s (s K Z N B Y : Nat → Nat) : Prop := (je_d s B Y) ∧ (je_h s K Z N) ∧ (je_v K Z B Y) ∧ (jf_ok s) ∧ (jlt 3 K) ∧ (jlt 65 Z) ∧ (jlt 256 N) ∧ (jlt 40 B) ∧ (jlt 256 Y)
theorem je_s.d {s K Z N B Y : Nat → Nat} (h : je_s s K Z N B Y) : je_d s B Y := h.1
theorem je_s.h {s K Z N B Y : Nat → Nat} (h : je_s s K Z N B Y) : je_h s K Z N := h.2.1
theorem je_s.v {s K Z N B Y : Nat → Nat} (h : je_s s K Z N B Y) : je_v K Z B Y := h.2.2.1
theorem je_s.ok {s K Z N B Y : Nat → Nat} (h : je_s s K Z N B Y) : jf_ok s := h.2.2.2.1
theorem je_s.k3 {s K Z N B Y : Nat → Nat} (h : je_s s K Z N B Y) : jlt 3 K := h.2.2.2.2.1
theorem je_s.z6 {s K Z N B Y : Nat → Nat} (h : je_s s K Z N B Y) : jlt 65 Z := h.2.2.2.2.2.1
theorem je_s.n2 {s K Z N B Y : Nat → Nat} (h : je_s s K Z N B Y) : jlt 256 N := h.2.2.2.2.2.2.1
theorem je_s.b4 {s K Z N B Y : Nat → Nat} (h : je_s s K Z N B Y) : jlt 40 B := h.2.2.2.2.2.2.2.1
theorem je_s.y2 {s K Z N B Y : Nat → Nat} (h : je_s s K Z N B Y) : jlt 256 Y := h.2.2.2.2.2.2.2.2
theorem je_s.kind {s K Z N B Y : Nat → Nat} (h : je_s s K Z N B Y) {i : Nat} (hi : i < 12) : jf_kind s i = K i := h.h.kd i hi
theorem je_s.size {s K Z N B Y : Nat → Nat} (h : je_s s K Z N B Y) {i : Nat} (hi : i < 12) : jf_size s i = Z i := h.h.sz i hi
theorem je_s.gen {s K Z N B Y : Nat → Nat} (h : je_s s K Z N B Y) {i : Nat} (hi : i < 12) : jf_gen s i = N i := h.h.gn i hi
theorem je_s.entries {s K Z N B Y : Nat → Nat} (h : je_s s K Z N B Y) {i : Nat} (hi : i < 12) : jf_entries s i = if K i = 2 then Z i / 2 else 0 := by
  unfold jf_entries
  rw [h.kind hi, h.size hi]
theorem je_s.byte {s K Z N B Y : Nat → Nat} (h : je_s s K Z N B Y) {i p : Nat} (hi : i < 12) (hp : p < Z i) : jf_byteOf s i p = Y (i * 64 + p) := by
  have := h.v.z i hi
  exact h.d.byteOf hi (by omega) ((h.v.bz i _ hi (by omega)).mpr (by unfold jm_needed; omega))
theorem je_s.feL {s K Z N B Y : Nat → Nat} (h : je_s s K Z N B Y) {d : Nat} (hd : d < 12) (nm : Nat) : ∀ n e, e + n ≤ Z d / 2 → jf_feL s d nm n e = jm_eoL Y d nm n e := by
  intro n
  induction n with
  | zero => intro e _; rfl
  | succ n ih =>
    intro e he
    unfold jf_feL jm_eoL
    rw [h.byte hd (by omega), ih (e + 1) (by omega)]
theorem je_s.find {s K Z N B Y : Nat → Nat} (h : je_s s K Z N B Y) {d : Nat} (hd : d < 12) (nm : Nat) : jf_findEntry s d nm = if K d = 2 then jm_entryOf Z Y d nm else none := by
  unfold jf_findEntry
  rw [h.entries hd]
  by_cases hk : K d = 2
  · rw [if_pos hk, if_pos hk]
    exact h.feL hd nm _ 0 (by omega)
  · rw [if_neg hk, if_neg hk]
    rfl
theorem je_s.inode {s K Z N B Y : Nat → Nat} (h : je_s s K Z N B Y) {d e : Nat} (hd : d < 12) (he : e < Z d / 2) : jf_entryInode s d e = Y (d * 64 + e * 2 + 1) := by
  unfold jf_entryInode
  rw [h.byte hd (by omega), Nat.add_assoc]
theorem je_s.name {s K Z N B Y : Nat → Nat} (h : je_s s K Z N B Y) {d e : Nat} (hd : d < 12) (he : e < Z d / 2) : jf_entryName s d e = Y (d * 64 + e * 2) := by
  unfold jf_entryName
  rw [h.byte hd (by omega)]
theorem je_v.ents {K Z B Y : Nat → Nat} (v : je_v K Z B Y) : jm_ents K Z Y := fun d hd hk e he => (v.en d e hd hk he).2.1
/-! where a path leads -/
theorem je_ldN (K Z Y : Nat → Nat) (u : Nat) : ∀ n pa ey la, (jm_ldL K Z Y u n pa ey none la).1 = 0 ∨ (jm_ldL K Z Y u n pa ey none la).2.2.2.1 = none := by
  intro n
  induction n with
  | zero => intro pa ey la; exact Or.inr rfl
  | succ n ih =>
    intro pa ey la
    rw [jm_ldL_s]
    split
    · exact ih _ _ _
    · exact Or.inl rfl
theorem je_s.lead {s K Z N B Y : Nat → Nat} (h : je_s s K Z N B Y) (u : Nat) : ∀ n i pa ey la, i < 12 → jf_iaL s u n i = if (jm_ldL K Z Y u n pa ey (some i) la).1 = 0 then none else (jm_ldL K Z Y u n pa ey (some i) la).2.2.2.1 := by
  intro n
  induction n with
  | zero => intro i pa ey la hi; simp [jf_iaL, jm_ldL]
  | succ n ih =>
    intro i pa ey la hi
    rw [jm_ldL_s, jf_iaL]
    by_cases h0 : u / 2 ^ (8 * n) % 256 = 0
    · rw [if_pos h0, if_pos h0]
      exact ih i pa ey la hi
    · rw [if_neg h0, if_neg h0, h.find hi]
      by_cases hk : K i = 2
      · simp only [hk, if_true]
        cases he : jm_entryOf Z Y i (u / 2 ^ (8 * n) % 256) with
        | none =>
          simp only []
          rcases je_ldN K Z Y u n (some i) none (u / 2 ^ (8 * n) % 256) with q | q
          · rw [if_pos q]
          · rw [q]; simp
        | some j =>
          simp only []
          have hj := jm_entryOf_lt he
          rw [h.inode hi hj]
          exact ih _ _ _ _ (h.v.en i j hi hk hj).2.1
      · simp [hk]
theorem je_s.at {s K Z N B Y : Nat → Nat} (h : je_s s K Z N B Y) (u : Nat) : jf_inodeAt s u = if (jm_lead K Z Y u).1 = 0 then none else (jm_lead K Z Y u).2.2.2.1 := h.lead u 4 0 none none 0 (by decide)
theorem je_path {u : Nat} (hu : u < 4294967296) : jf_path u = jm_badPath u := by
  unfold jf_path jm_badPath
  have e0 : u / 2 ^ (8 * 0) % 256 = u % 256 := by simp
  by_cases a3 : u / 2 ^ (8 * 3) % 256 = 0 <;> by_cases a2 : u / 2 ^ (8 * 2) % 256 = 0 <;> by_cases a1 : u / 2 ^ (8 * 1) % 256 = 0 <;> by_cases a0 : u % 256 = 0 <;> simp only [jf_cpL, jm_bpL, a3, a2, a1, a0, e0, if_true, if_false] <;> (simp only [Nat.reduceMul, Nat.reducePow] at a3 a2 a1 ⊢) <;> (repeat' split) <;> first | rfl | omega
theorem je_within {u v : Nat} (h : u ≠ 0) : jf_below v u = jm_within v u := by
  unfold jf_below jm_within
  simp only [jf_abL, jm_wiL, h, if_false, Nat.div_div_eq_div_mul, ← Nat.pow_add]
  simp
theorem je_bad0 : jm_badPath 0 = 0 := by decide
theorem je_lead0 (K Z Y : Nat → Nat) : jm_lead K Z Y 0 = (1, none, none, some 0, 0) := by
  simp [jm_lead, jm_ldL]
/-- what a good path's last name says -/
theorem je_s.last {s K Z N B Y : Nat → Nat} (h : je_s s K Z N B Y) {u : Nat} (hu : u < 4294967296) (hb : jm_badPath u = 0) (h0 : u ≠ 0) : (jf_paT s u = if (jm_lead K Z Y u).1 = 0 then 2 else 0) ∧ ((jm_lead K Z Y u).1 ≠ 0 → (∃ p, p < 12 ∧ K p = 2 ∧ (jm_lead K Z Y u).2.1 = some p ∧ jf_inodeAt s (u / 2 ^ 8) = some p ∧ (jm_lead K Z Y u).2.2.1 = jm_entryOf Z Y p (u % 256)) ∧ (jm_lead K Z Y u).2.2.2.2 = u % 256) := by
  have hn := jm_bad_last hu hb h0
  have hE := h.v.ents
  have hp := h.at (u / 2 ^ 8)
  have hf := fun f (q : (jm_lead K Z Y (u / 2 ^ 8)).2.2.2.1 = some f) => jm_lead_fo hE q
  rw [jm_lead_div K Z Y hu]
  unfold jm_ldS jf_paT
  by_cases h1 : (jm_lead K Z Y (u / 2 ^ 8)).1 = 0
  · rw [hp]
    simp [h1]
  · rw [if_neg h1] at hp
    rw [hp]
    simp only [h1, hn, if_false]
    cases hq : (jm_lead K Z Y (u / 2 ^ 8)).2.2.2.1 with
    | none => simp
    | some f =>
      have hf2 := hf f hq
      simp only [h.kind hf2]
      by_cases hk : K f = 2
      · simp only [hk, if_true]
        cases he : jm_entryOf Z Y f (u % 256) with
        | none => exact ⟨by simp, fun _ => ⟨⟨f, hf2, hk, rfl, rfl, he.symm⟩, rfl⟩⟩
        | some j => exact ⟨by simp, fun _ => ⟨⟨f, hf2, hk, rfl, rfl, he.symm⟩, rfl⟩⟩
      · simp [hk]
