/-- the law's numbers of the throws, where ISE is 2 and UOE is 3 -/
def je_m (t : Nat) : Nat := if t = 3 then 2 else if t = 4 then 3 else t
theorem je_rng5 (h : Nat) : jf_rng h 0 5 = if 5 < h then 1 else 0 := by
  unfold jf_rng
  by_cases w : 5 < h
  · rw [if_pos w, if_neg (by omega)]
  · rw [if_neg w, if_pos (by omega)]
theorem je_rngN (z n : Nat) : jf_rng z 0 n = if n < z then 1 else 0 := by
  unfold jf_rng
  by_cases w : n < z
  · rw [if_pos w, if_neg (by omega)]
  · rw [if_neg w, if_pos (by omega)]
section
variable {s c ho hn hg hm hp : Nat → Nat} {wc wd tf : Nat} {K Z N B Y I O M P : Nat → Nat} {ct wr ofs : Nat}
theorem je_R.stale (r : je_R s c ho hn hg hm hp wc wd tf K Z N B Y I O M P ct wr ofs) {h : Nat} (hh : h < 6) (h0 : I h ≠ 0) : jf_stale s hn hg hm h = jm_stale K N I O M h := by
  obtain ⟨a1, a2, a3, -, -⟩ := r.ha h hh h0
  have hi : I h - 1 < 12 := by have := r.i2 h; omega
  unfold jf_stale jm_stale jf_kf
  rw [a1, a2, a3, r.s0.kind hi, r.s0.gen hi]
  by_cases w : N (I h - 1) = O h
  · rw [if_pos w, if_pos w]
    by_cases w4 : M h = 4
    · rw [if_pos w4, if_pos w4]
    · rw [if_neg w4, if_neg w4]
  · rw [if_neg w, if_neg w]
    simp only [ite_self]
/-- a usable handle's inode and kind -/
theorem je_stale0 {K N I O M : Nat → Nat} {h : Nat} (q : jm_stale K N I O M h = 0) : (M h = 4 → K (I h - 1) = 2) ∧ (M h ≠ 4 → K (I h - 1) = 1) := by
  unfold jm_stale at q
  by_cases w : N (I h - 1) = O h
  · rw [if_pos w] at q
    by_cases w4 : M h = 4
    · rw [if_pos w4] at q
      refine ⟨fun _ => ?_, fun w => absurd w4 w⟩
      by_cases k : K (I h - 1) = 2
      · exact k
      · rw [if_neg k] at q; cases q
    · rw [if_neg w4] at q
      refine ⟨fun w => absurd w w4, fun _ => ?_⟩
      by_cases k : K (I h - 1) = 1
      · exact k
      · rw [if_neg k] at q; cases q
  · rw [if_neg w] at q; cases q
theorem je_R.usT (r : je_R s c ho hn hg hm hp wc wd tf K Z N B Y I O M P ct wr ofs) {h : Nat} (hh : h < 6) : jf_usT s ho hn hg hm h = if I h = 0 then 3 else if jm_stale K N I O M h = 0 then 0 else 3 := by
  unfold jf_usT
  by_cases w : I h = 0
  · rw [if_pos w, if_pos ((r.op h hh).mpr w)]
  · rw [if_neg w, if_neg (fun q => w ((r.op h hh).mp q)), r.stale hh w]
theorem je_wrong0 {K N I O M : Nat → Nat} {h a b : Nat} (e : jm_wrong K N I O M h a b = 0) : h ≤ 5 ∧ I h ≠ 0 ∧ jm_stale K N I O M h = 0 := by
  unfold jm_wrong at e
  split at e
  · cases e
  · split at e
    · cases e
    · split at e
      · exact ⟨by omega, by assumption, by assumption⟩
      · cases e
/-- seek -/
theorem je_seek (r : je_R s c ho hn hg hm hp wc wd tf K Z N B Y I O M P ct wr ofs) (h z : Nat) : je_m (jf_seekT s ho hn hg hm h z) = jm_seekT K N I O M h z ∧ (jm_seekT K N I O M h z = 0 → je_R s c ho hn hg hm (ju hp h z) wc wd tf K Z N B Y I O M (ju P h z) ct wr ofs) := by
  unfold jf_seekT jm_seekT
  rw [je_rng5, je_rngN]
  by_cases h1 : 5 < h
  · simp [h1, je_m]
  · by_cases h2 : 64 < z
    · simp [h1, h2, je_m]
    · have hh : h < 6 := by omega
      simp only [h1, h2, if_false, if_true]
      rw [r.usT hh]
      unfold jm_wrong
      simp only [h1, if_false]
      by_cases w : I h = 0
      · simp [w, je_m]
      · simp only [w, if_false]
        obtain ⟨a1, a2, a3, a4, a5⟩ := r.ha h hh w
        have hm5 := r.m2 h
        by_cases ws : jm_stale K N I O M h = 0
        · simp only [ws, if_true]
          rw [a3]
          refine ⟨?_, fun _ => r.pos h (by omega)⟩
          have : M h = 1 ∨ M h = 2 ∨ M h = 3 ∨ M h = 4 := by omega
          rcases this with e | e | e | e <;> rw [e] <;> simp [je_m]
        · simp [ws, je_m]
/-- close -/
theorem je_close (r : je_R s c ho hn hg hm hp wc wd tf K Z N B Y I O M P ct wr ofs) (h : Nat) : je_m (jf_closeT ho h) = (if 5 < h then 1 else if I h = 0 then 2 else 0) ∧ (jf_closeT ho h = 0 → je_R s c (ju ho h 0) hn hg hm hp wc wd tf K Z N B Y (if 5 < h then I else if I h = 0 then I else ju I h 0) O M P ct wr ofs) ∧ (jf_closeT ho h ≠ 0 → (if 5 < h then I else if I h = 0 then I else ju I h 0) = I) := by
  unfold jf_closeT
  rw [je_rng5]
  by_cases h1 : 5 < h
  · simp [h1, je_m]
  · have hh : h < 6 := by omega
    simp only [h1, if_false, if_true]
    by_cases w : I h = 0
    · simp [w, (r.op h hh).mpr w, je_m]
    · have w2 : ¬ ho h = 0 := fun q => w ((r.op h hh).mp q)
      simp only [w, w2, if_false]
      refine ⟨by simp [je_m], fun _ => ⟨r.s0, r.s1, ⟨?_, ?_, ju_lt r.ho2 (by decide), r.hn2, r.hg2, r.hm2, r.hp2, ju_lt r.i2 (by decide), r.o2, r.m2, r.p2⟩, r.2.2.2⟩, fun q => absurd rfl q⟩
      · intro g hg2
        unfold ju
        split
        · simp
        · exact r.op g hg2
      · intro g hg2 hg0
        unfold ju at hg0 ⊢
        split at hg0
        · exact absurd rfl hg0
        · rename_i q
          simp only [q, if_false]
          exact r.ha g hg2 hg0
/-- next -/
theorem je_next (r : je_R s c ho hn hg hm hp wc wd tf K Z N B Y I O M P ct wr ofs) (h : Nat) : je_m (jf_nextT s ho hn hg hm h) = jm_wrong K N I O M h 4 4 ∧ (jm_wrong K N I O M h 4 4 = 0 →
    (if hp h < jf_entries s (hn h) then jf_entryName s (hn h) (hp h) else 0) = (if P h < Z (I h - 1) / 2 then Y ((I h - 1) * 64 + (P h + 1) * 2 - 2) else 0) ∧
    je_R s c ho hn hg hm (if hp h < jf_entries s (hn h) then ju hp h (hp h + 1) else hp) wc wd tf K Z N B Y I O M (if P h < Z (I h - 1) / 2 then ju P h (P h + 1) else P) ct wr ofs) := by
  unfold jf_nextT
  rw [je_rng5]
  by_cases h1 : 5 < h
  · simp [h1, jm_wrong, je_m]
  · have hh : h < 6 := by omega
    simp only [h1, if_false, if_true]
    rw [r.usT hh]
    by_cases w : I h = 0
    · simp [w, h1, jm_wrong, je_m]
    · obtain ⟨a1, a2, a3, a4, a5⟩ := r.ha h hh w
      by_cases ws : jm_stale K N I O M h = 0
      · simp only [w, ws, if_false, if_true]
        rw [a3]
        by_cases h4 : M h = 4
        · have hk := (je_stale0 ws).1 h4
          have hi : I h - 1 < 12 := by have := r.i2 h; omega
          have hz := r.s0.v.zd _ hi hk
          have ee : jf_entries s (hn h) = Z (I h - 1) / 2 := by rw [a1, r.s0.entries hi, if_pos hk]
          refine ⟨by simp [h4, h1, w, ws, jm_wrong, je_m], fun _ => ?_⟩
          rw [ee, a4, a1]
          by_cases hx : P h < Z (I h - 1) / 2
          · simp only [hx, if_true]
            refine ⟨?_, r.pos h (by omega)⟩
            rw [r.s0.name hi hx]
            congr 1
            omega
          · simp only [hx, if_false]
            exact ⟨trivial, r⟩
        · simp [h4, h1, w, ws, jm_wrong, je_m]
      · simp [w, ws, h1, jm_wrong, je_m]
/-- read -/
theorem je_rdA {i : Nat} (hi : i < 12) (h : Nat) (H : je_s s K Z N B Y) (p0 : Nat) : ∀ n g v (P : Nat → Nat), P h = p0 + g → (jm_rdA Y (Z i) i h n g v P).1 = jf_rbL s i p0 (min n (Z i - P h)) g v ∧ (jm_rdA Y (Z i) i h n g v P).2 = ju P h (P h + min n (Z i - P h)) := by
  intro n
  induction n with
  | zero =>
    intro g v P hP
    have e : min 0 (Z i - P h) = 0 := by omega
    rw [e]
    refine ⟨rfl, ?_⟩
    show P = ju P h (P h + 0)
    rw [Nat.add_zero, ju_same]
  | succ n ih =>
    intro g v P hP
    unfold jm_rdA
    by_cases w : P h < Z i
    · rw [if_pos w]
      have h2 := ih (g + 1) (v ||| Y (i * 64 + P h) * 2 ^ (8 * g)) (ju P h (P h + 1)) (by rw [ju_eq rfl]; omega)
      rw [ju_eq rfl] at h2
      have e : min (n + 1) (Z i - P h) = min n (Z i - (P h + 1)) + 1 := by omega
      rw [e]
      refine ⟨?_, ?_⟩
      · rw [h2.1]
        show _ = jf_rbL s i p0 (min n (Z i - (P h + 1))) (g + 1) (v ||| jf_byteOf s i (p0 + g) * 2 ^ (8 * g))
        rw [← hP, H.byte hi w]
      · rw [h2.2]
        funext k
        unfold ju
        split
        · omega
        · rfl
    · rw [if_neg w]
      have e : min (n + 1) (Z i - P h) = 0 := by omega
      rw [e]
      refine ⟨rfl, ?_⟩
      show P = ju P h (P h + 0)
      rw [Nat.add_zero, ju_same]
theorem je_read (r : je_R s c ho hn hg hm hp wc wd tf K Z N B Y I O M P ct wr ofs) (h z : Nat) : je_m (jf_reaT s ho hn hg hm h z) = jm_rdT K N I O M h z ∧ (jm_rdT K N I O M h z = 0 →
    jf_rbL s (hn h) (hp h) (min z (jf_size s (hn h) - hp h)) 0 0 = (jm_rdA Y (Z (I h - 1)) (I h - 1) h z 0 0 P).1 ∧
    je_R s c ho hn hg hm (ju hp h (hp h + (min z (jf_size s (hn h) - hp h)))) wc wd tf K Z N B Y I O M (jm_rdA Y (Z (I h - 1)) (I h - 1) h z 0 0 P).2 ct wr ofs) := by
  unfold jf_reaT jm_rdT
  rw [je_rng5, je_rngN]
  by_cases h1 : 5 < h
  · simp [h1, je_m]
  · by_cases h2 : 8 < z
    · simp [h1, h2, je_m]
    · have hh : h < 6 := by omega
      simp only [h1, h2, if_false, if_true]
      rw [r.usT hh]
      by_cases w : I h = 0
      · simp [w, h1, jm_wrong, je_m]
      · obtain ⟨a1, a2, a3, a4, a5⟩ := r.ha h hh w
        have hi : I h - 1 < 12 := by have := r.i2 h; omega
        have hm5 := r.m2 h
        by_cases ws : jm_stale K N I O M h = 0
        · simp only [w, ws, if_false, if_true]
          rw [a3]
          refine ⟨?_, fun _ => ?_⟩
          · have : M h = 1 ∨ M h = 2 ∨ M h = 3 ∨ M h = 4 := by omega
            rcases this with e | e | e | e <;> simp [e, h1, w, ws, jm_wrong, je_m, jf_rds]
          · have hr := je_rdA hi h r.s0 (P h) z 0 0 P (by omega)
            rw [hr.1, hr.2, a1, a4, r.s0.size hi]
            have hz := r.s0.v.z _ hi
            have hp64 := r.p2 h
            exact ⟨rfl, r.pos h (by omega)⟩
        · simp [w, ws, h1, jm_wrong, je_m]
/-- write -/
theorem je_s.roomS {s K Z N B Y : Nat → Nat} (h : je_s s K Z N B Y) {i z : Nat} (hi : i < 12) : jf_hasRoomForSize s i z = jm_roomFor Z B i z := by
  unfold jf_hasRoomForSize jm_roomFor
  rw [h.size hi, je_free h.d, je_bf, je_bf]
theorem je_roomFor {Z B : Nat → Nat} {i z : Nat} (h : jm_roomFor Z B i z ≠ 0) : jm_needed z ≤ jm_free B + jm_needed (Z i) := by
  unfold jm_roomFor at h
  by_cases w : jm_free B + jm_needed (Z i) < jm_needed z
  · rw [if_pos w] at h; exact absurd rfl h
  · omega
theorem je_wbL {i : Nat} (hi : i < 12) (p b : Nat) {K Z N B : Nat → Nat} (hk : K i = 1) : ∀ n k (s Y : Nat → Nat), je_s s K Z N B Y → p + k + n ≤ Z i → je_s (jf_wbL i p b n k s) K Z N B (jm_wrL b i p n k Y) := by
  intro n
  induction n with
  | zero => intro k s Y h _; exact h
  | succ n ih =>
    intro k s Y h hz
    have := ih (k + 1) _ _ (h.wbyte hi hk (show p + k < Z i by omega) (show b / 2 ^ (8 * k) % 256 < 256 from Nat.mod_lt _ (by decide))) (by omega)
    rw [← Nat.add_assoc (i * 64)] at this
    exact this
theorem je_wrL_hi (b i p : Nat) (hi : i < 12) : ∀ n k (Y : Nat → Nat), p + k + n ≤ 64 → ∀ a, 768 ≤ a → jm_wrL b i p n k Y a = Y a := by
  intro n
  induction n with
  | zero => intro k Y _ a _; rfl
  | succ n ih =>
    intro k Y hp a ha
    show jm_wrL b i p n (k + 1) (ju Y (i * 64 + p + k) (b / 2 ^ (8 * k) % 256)) a = Y a
    rw [ih (k + 1) _ (by omega) a ha, ju_ne (by omega)]
theorem je_write (r : je_R s c ho hn hg hm hp wc wd tf K Z N B Y I O M P ct wr ofs) (h b z : Nat) {m : Nat} (hm40 : 40 ≤ m) : je_m (jf_wriT s ho hn hg hm hp h z) = jm_wrT K Z N B I O M P h z ∧ (jm_wrT K Z N B I O M P h z = 0 →
    je_R (if z = 0 then s else jf_wbL (hn h) (hp h) b z 0 (jf_resize s (hn h) (max (jf_size s (hn h)) (hp h + z)))) c ho hn hg hm (if z = 0 then hp else ju hp h (hp h + z)) wc wd tf K
      (if z = 0 then Z else ju Z (I h - 1) (if Z (I h - 1) < P h + z then P h + z else Z (I h - 1))) N (if z = 0 then B else jm_resB B m (I h - 1) (if Z (I h - 1) < P h + z then P h + z else Z (I h - 1))) (if z = 0 then Y else jm_wrL b (I h - 1) (P h) z 0 (jm_resY Y (I h - 1) (if Z (I h - 1) < P h + z then P h + z else Z (I h - 1)))) I O M (if z = 0 then P else ju P h (P h + z)) ct wr ofs) := by
  unfold jf_wriT jm_wrT
  rw [je_rng5, je_rngN]
  by_cases h1 : 5 < h
  · simp [h1, je_m]
  · by_cases h2 : 8 < z
    · simp [h1, h2, je_m]
    · have hh : h < 6 := by omega
      simp only [h1, h2, if_false, if_true]
      rw [r.usT hh]
      by_cases w : I h = 0
      · simp [w, h1, jm_wrong, je_m]
      · obtain ⟨a1, a2, a3, a4, a5⟩ := r.ha h hh w
        have hi : I h - 1 < 12 := by have := r.i2 h; omega
        have hm5 := r.m2 h
        have hz64 := r.s0.v.z _ hi
        by_cases ws : jm_stale K N I O M h = 0
        · simp only [w, ws, if_false, if_true]
          rw [a3, a1, a4, r.s0.size hi]
          have hmx : max (Z (I h - 1)) (P h + z) = if Z (I h - 1) < P h + z then P h + z else Z (I h - 1) := by
            split <;> omega
          rw [hmx]
          by_cases hw : jf_wrs (M h) = 0
          · have hx : jm_wrong K N I O M h 2 2 = 2 := by
              have : M h = 1 ∨ M h = 4 := by
                unfold jf_wrs at hw
                by_cases e2 : M h = 2
                · rw [if_pos e2] at hw; cases hw
                · rw [if_neg e2] at hw
                  by_cases e3 : M h = 3
                  · rw [if_pos e3] at hw; cases hw
                  · omega
              rcases this with e | e <;> simp [e, h1, w, ws, jm_wrong]
            rw [if_pos hw, hx]
            simp [je_m]
          · have hm23 : M h = 2 ∨ M h = 3 := by
              unfold jf_wrs at hw
              by_cases e2 : M h = 2
              · exact Or.inl e2
              · rw [if_neg e2] at hw
                by_cases e3 : M h = 3
                · exact Or.inr e3
                · rw [if_neg e3] at hw; exact absurd rfl hw
            have hx : jm_wrong K N I O M h 2 2 = 0 := by rcases hm23 with e | e <;> simp [e, h1, w, ws, jm_wrong]
            have hk : K (I h - 1) = 1 := (je_stale0 ws).2 (by omega)
            rw [if_neg hw, hx]
            simp only [if_true]
            by_cases z0 : z = 0
            · simp only [z0, if_true]
              exact ⟨rfl, fun _ => r⟩
            · simp only [z0, if_false]
              unfold jf_rsT
              rw [r.s0.roomS hi]
              by_cases h64 : 64 < P h + z
              · rw [if_pos h64]
                rw [if_pos (by split <;> omega)]
                simp [je_m]
              · rw [if_neg h64]
                rw [if_neg (by split <;> omega)]
                by_cases hr : jm_roomFor Z B (I h - 1) (if Z (I h - 1) < P h + z then P h + z else Z (I h - 1)) = 0
                · rw [if_pos hr, if_pos hr]; simp [je_m]
                · rw [if_neg hr, if_neg hr]
                  refine ⟨by simp [je_m], fun _ => ?_⟩
                  have hgz : (if Z (I h - 1) < P h + z then P h + z else Z (I h - 1)) ≤ 64 ∧ P h + z ≤ (if Z (I h - 1) < P h + z then P h + z else Z (I h - 1)) := by split <;> omega
                  have s1 := r.s0.resize (m := m) hi hk hgz.1 hm40 (je_roomFor hr)
                  have s2 := je_wbL hi (P h) b hk z 0 _ _ s1 (by rw [ju_eq rfl]; omega)
                  have r2 := r.tab s2 (fun _ _ => rfl) (fun i hi2 => ju_ne (by omega)) (fun _ _ => rfl) (fun i hi2 => je_resB_hi _ _ _ _ hi i hi2) (fun a ha => by rw [je_wrL_hi b _ _ hi z 0 _ (by omega) a ha]; exact je_resY_hi2 _ _ _ hi a ha)
                  exact r2.pos h (by omega)
        · simp [w, ws, h1, jm_wrong, je_m]
end
