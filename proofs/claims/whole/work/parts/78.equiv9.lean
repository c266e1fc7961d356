section
variable {s c ho hn hg hm hp : Nat → Nat} {wc wd tf : Nat} {K Z N B Y I O M P : Nat → Nat} {ct wr ofs : Nat}
theorem je_bad_up {u : Nat} (hu : u < 4294967296) (hb : jm_badPath u = 0) : jm_badPath (u / 2 ^ 8) = 0 := by
  have h2 : u / 2 ^ 8 < 4294967296 := by omega
  rw [← je_path hu] at hb
  rw [← je_path h2]
  unfold jf_path at hb ⊢
  simp only [jf_cpL] at hb ⊢
  by_cases h0 : u = 0
  · subst h0; simp
  · rw [if_neg h0] at hb
    by_cases h1 : u % 256 = 0
    · rw [if_pos h1] at hb; cases hb
    · rw [if_neg h1] at hb
      have e : u / 2 ^ 8 / 2 ^ 8 / 2 ^ 8 / 2 ^ 8 = 0 := by omega
      by_cases a1 : u / 2 ^ 8 = 0
      · rw [if_pos a1]
      · rw [if_neg a1] at hb ⊢
        by_cases a2 : u / 2 ^ 8 % 256 = 0
        · rw [if_pos a2] at hb; cases hb
        · rw [if_neg a2] at hb ⊢
          by_cases b1 : u / 2 ^ 8 / 2 ^ 8 = 0
          · rw [if_pos b1]
          · rw [if_neg b1] at hb ⊢
            by_cases b2 : u / 2 ^ 8 / 2 ^ 8 % 256 = 0
            · rw [if_pos b2] at hb; cases hb
            · rw [if_neg b2] at hb ⊢
              by_cases c1 : u / 2 ^ 8 / 2 ^ 8 / 2 ^ 8 = 0
              · rw [if_pos c1]
              · rw [if_neg c1] at hb ⊢
                by_cases c2 : u / 2 ^ 8 / 2 ^ 8 / 2 ^ 8 % 256 = 0
                · rw [if_pos c2] at hb; cases hb
                · rw [if_neg c2, if_pos e]
/-- two good paths to one inode are one path -/
theorem je_s.uniq {s K Z N B Y : Nat → Nat} (h : je_s s K Z N B Y) : ∀ n u v i, u ≤ n → u < 4294967296 → v < 4294967296 → jm_badPath u = 0 → jm_badPath v = 0 → jf_inodeAt s u = some i → jf_inodeAt s v = some i → u = v := by
  intro n
  induction n with
  | zero =>
    intro u v i hn hu hv hb hc hi hj
    have e : u = 0 := by omega
    subst e
    rcases h.look hu hb with ⟨-, h2, -⟩ | ⟨-, h2, -, h4⟩
    · rw [h2] at hi; cases hi
    · rcases h4 with ⟨q1, q2, q3⟩ | ⟨p, q0, -⟩
      · rw [h2, q3] at hi
        cases hi
        rcases h.look hv hc with ⟨-, g2, -⟩ | ⟨-, g2, -, g4⟩
        · rw [g2] at hj; cases hj
        · rcases g4 with ⟨r1, -, -⟩ | ⟨p, r0, r1, r2, r3, r4, r5, ⟨r6, -⟩ | ⟨e, r6, r7, r8⟩⟩
          · exact r1.symm
          · rw [g2, r6] at hj; cases hj
          · rw [g2, r8] at hj
            have := (h.v.en p e r1 r2 (jm_entryOf_lt r7)).1
            injection hj with hj
            omega
      · exact absurd rfl q0
  | succ n ih =>
    intro u v i hn hu hv hb hc hi hj
    rcases h.look hu hb with ⟨-, h2, -⟩ | ⟨-, h2, -, h4⟩
    · rw [h2] at hi; cases hi
    · rcases h.look hv hc with ⟨-, g2, -⟩ | ⟨-, g2, -, g4⟩
      · rw [g2] at hj; cases hj
      · rw [h2] at hi
        rw [g2] at hj
        rcases h4 with ⟨q1, q2, q3⟩ | ⟨p, q0, q1, q2, q3, q4, q5, ⟨q6, q7⟩ | ⟨e, q6, q7, q8⟩⟩
        · rw [q3] at hi
          cases hi
          rcases g4 with ⟨r1, -, -⟩ | ⟨p, r0, r1, r2, r3, r4, r5, ⟨r6, -⟩ | ⟨e, r6, r7, r8⟩⟩
          · omega
          · rw [r6] at hj; cases hj
          · rw [r8] at hj
            have := (h.v.en p e r1 r2 (jm_entryOf_lt r7)).1
            injection hj with hj
            omega
        · rw [q6] at hi; cases hi
        · rw [q8] at hi
          have hy := (h.v.en p e q1 q2 (jm_entryOf_lt q7)).1
          injection hi with hi
          rcases g4 with ⟨r1, r2, r3⟩ | ⟨p', r0, r1, r2, r3, r4, r5, ⟨r6, -⟩ | ⟨e', r6, r7, r8⟩⟩
          · rw [r3] at hj
            injection hj with hj
            omega
          · rw [r6] at hj; cases hj
          · rw [r8] at hj
            injection hj with hj
            have heq := h.v.eu p e p' e' q1 q2 (jm_entryOf_lt q7) r1 r2 (jm_entryOf_lt r7) (by omega)
            obtain ⟨e1, e2⟩ := heq
            subst e1; subst e2
            have n1 := (je_eo_some q7).2
            have n2 := (je_eo_some r7).2
            have hpar := ih (u / 2 ^ 8) (v / 2 ^ 8) p (by omega) (by omega) (by omega) (je_bad_up hu hb) (je_bad_up hv hc) q4 r4
            have hnm : u % 256 = v % 256 := n1.symm.trans n2
            omega
theorem je_s.hral {s K Z N B Y : Nat → Nat} (h : je_s s K Z N B Y) {p q : Nat} (hp1 : p < 12) (hp2 : K p = 2) (hq1 : q < 12) (hq2 : K q = 2) (hz : 2 ≤ Z p) : jf_hral s p q = if p = q then 1 else jm_entryRoom Z B q (jm_needed (Z p) - jm_needed (Z p - 2)) := by
  have z1 := h.v.zd p hp1 hp2
  have z2 := h.v.zd q hq1 hq2
  unfold jf_hral jf_startsBlock
  rw [h.entries hp1, if_pos hp2, h.entries hq1, if_pos hq2, je_free h.d]
  by_cases e : p = q
  · simp only [e, if_true]
    rw [if_pos (by rw [← e]; omega)]
    by_cases w : (Z q / 2 - 1) * 2 % 16 = 0
    · simp [w]
    · simp [w]
  · simp only [e, if_false]
    unfold jm_entryRoom
    have f1 : (if (if (Z p / 2 - 1) * 2 % 16 = 0 then 1 else 0) = 0 then 0 else 1) = jm_needed (Z p) - jm_needed (Z p - 2) := by
      unfold jm_needed
      by_cases w : (Z p / 2 - 1) * 2 % 16 = 0
      · rw [if_pos w, if_neg (by decide)]; omega
      · rw [if_neg w, if_pos rfl]; omega
    rw [f1]
    generalize jm_needed (Z p) - jm_needed (Z p - 2) = x
    by_cases h1 : Z q < 32
    · rw [if_pos h1, if_pos (by omega)]
      by_cases h2 : Z q / 2 * 2 % 16 = 0
      · rw [if_pos h2, if_neg (by decide)]
        have e : jm_needed (Z q + 2) = jm_needed (Z q) + 1 := by unfold jm_needed; omega
        by_cases h3 : jm_free B + x = 0
        · rw [if_pos h3, if_pos (by omega)]
        · rw [if_neg h3, if_neg (by omega)]
      · rw [if_neg h2, if_pos rfl]
        have e : jm_needed (Z q + 2) = jm_needed (Z q) := by unfold jm_needed; omega
        rw [if_neg (by omega)]
    · rw [if_neg h1, if_neg (by omega)]
theorem je_s.at12 {s K Z N B Y : Nat → Nat} (h : je_s s K Z N B Y) (u : Nat) : (jf_inodeAt s u).getD 0 < 12 := by
  rw [h.at]
  by_cases w : (jm_lead K Z Y u).1 = 0
  · rw [if_pos w]; decide
  · rw [if_neg w]
    cases hf : (jm_lead K Z Y u).2.2.2.1 with
    | none => decide
    | some f => exact jm_lead_fo h.v.ents hf
theorem je_s.premJ {s K Z N B Y : Nat → Nat} (h : je_s s K Z N B Y) (u v nm : Nat) : jf_entries (jf_dropEntry s ((jf_inodeAt s u).getD 0) nm) ((jf_inodeAt s v).getD 0) < 127 := by
  have hd := h.at12 u
  have ht := h.at12 v
  generalize (jf_inodeAt s u).getD 0 = d at hd
  generalize (jf_inodeAt s v).getD 0 = t at ht
  cases hf : jf_findEntry s d nm with
  | none =>
    have e : jf_dropEntry s d nm = s := by unfold jf_dropEntry; rw [hf]
    rw [e, h.entries ht]
    have := h.v.z t ht
    split <;> omega
  | some e =>
    rw [h.find hd] at hf
    by_cases hk : K d = 2
    · rw [if_pos hk] at hf
      have d1 := (h.drop (m := 40) hd hk (by decide) hf).1
      rw [d1.entries ht]
      have := d1.v.z t ht
      split <;> omega
    · rw [if_neg hk] at hf; cases hf
theorem je_rnT (r : je_R s c ho hn hg hm hp wc wd tf K Z N B Y I O M P ct wr ofs) {u v : Nat} (hu : u < 4294967296) (hv : v < 4294967296) : jf_rnmT s u v = jm_rnT K Z B Y u v := by
  have h := r.s0
  unfold jf_rnmT jm_rnT
  rw [je_path hu, je_path hv]
  by_cases hb : jm_badPath u = 0
  · rw [if_pos hb, if_pos hb]
    by_cases hc : jm_badPath v = 0
    · rw [if_pos hc, if_pos hc]
      unfold jf_inT
      rcases h.look hu hb with ⟨h1, h2, h3⟩ | ⟨h1, h2, h3, h4⟩
      · rw [h2, if_pos h1]; simp
      · rw [h2, if_neg h1]
        cases hf : (jm_lead K Z Y u).2.2.2.1 with
        | none => simp
        | some f =>
          simp only [Option.getD_some, if_true]
          have hf12 := jm_lead_fo h.v.ents hf
          rcases h.look hv hc with ⟨g1, g2, g3⟩ | ⟨g1, g2, g3, g4⟩
          · rw [g3, if_pos g1]; simp
          · rw [g3, if_neg g1, if_pos rfl, g2]
            unfold jf_mvT
            by_cases u0 : u = 0
            · simp [u0]
            · by_cases v0 : v = 0
              · simp [u0, v0]
              · simp only [u0, v0, if_false]
                rw [je_within u0]
                by_cases hw : jm_within v u = 0
                · rw [if_pos hw, if_pos hw]
                  rcases h4 with ⟨q1, -, -⟩ | ⟨p, q0, q1, q2, q3, q4, q5, ⟨q6, q7⟩ | ⟨e, q6, q7, q8⟩⟩
                  · exact absurd q1 u0
                  · rw [q6] at hf; cases hf
                  · rcases g4 with ⟨r1, -, -⟩ | ⟨q, r0, r1, r2, r3, r4, r5, ⟨r6, r7⟩ | ⟨e', r6, r7, r8⟩⟩
                    · exact absurd r1 v0
                    · rw [r6, q3, q4, r3, r4]
                      simp only [Option.getD_some, if_true, h.hral q1 q2 r1 r2 (by have := jm_entryOf_lt q7; omega)]
                      by_cases pq : p = q
                      · simp [pq]
                      · simp only [pq, if_false]
                    · rw [r8]
                      have hen := (h.v.en q e' r1 r2 (jm_entryOf_lt r7)).2.1
                      simp only [h.kind hf12, h.kind hen]
                      by_cases k1 : K f = 1
                      · by_cases k2 : K (Y (q * 64 + e' * 2 + 1)) = 1
                        · simp [k1, k2]
                        · simp [k1, k2]
                      · by_cases k2 : K (Y (q * 64 + e' * 2 + 1)) = 1
                        · simp [k1, k2]
                        · simp [k1, k2]
                · rw [if_neg hw, if_neg hw]; simp
    · rw [if_neg hc, if_neg hc, je_bad1 hc]
  · rw [if_neg hb, if_neg hb, je_bad1 hb]
/-- what a rename that is done knows -/
theorem je_rnT0 (h : je_s s K Z N B Y) {u v : Nat} (hu : u < 4294967296) (hv : v < 4294967296) (hT : jm_rnT K Z B Y u v = 0) : ∃ p e q, p < 12 ∧ K p = 2 ∧ (jm_lead K Z Y u).2.1 = some p ∧ jf_inodeAt s (u / 2 ^ 8) = some p ∧ (jm_lead K Z Y u).2.2.1 = some e ∧ jm_entryOf Z Y p (u % 256) = some e ∧ (jm_lead K Z Y u).2.2.2.1 = some (Y (p * 64 + e * 2 + 1)) ∧ jf_inodeAt s u = some (Y (p * 64 + e * 2 + 1)) ∧
    q < 12 ∧ K q = 2 ∧ (jm_lead K Z Y v).2.1 = some q ∧ jf_inodeAt s (v / 2 ^ 8) = some q ∧ (jm_lead K Z Y v).2.2.2.2 = v % 256 ∧
    ((jm_lead K Z Y v).2.2.2.1 = none ∧ jf_inodeAt s v = none ∧ jm_entryOf Z Y q (v % 256) = none ∧ (p ≠ q → jm_entryRoom Z B q (jm_needed (Z p) - jm_needed (Z p - 2)) ≠ 0) ∨
     ∃ j, jm_entryOf Z Y q (v % 256) = some j ∧ (jm_lead K Z Y v).2.2.2.1 = some (Y (q * 64 + j * 2 + 1)) ∧ jf_inodeAt s v = some (Y (q * 64 + j * 2 + 1)) ∧ ¬ (q = p ∧ j = e)) := by
  unfold jm_rnT at hT
  by_cases hb : jm_badPath u = 0
  · rw [if_pos hb] at hT
    by_cases hc : jm_badPath v = 0
    · rw [if_pos hc] at hT
      rcases h.look hu hb with ⟨h1, h2, h3⟩ | ⟨h1, h2, h3, h4⟩
      · rw [if_pos h1] at hT; cases hT
      · rw [if_neg h1] at hT
        rcases h4 with ⟨q1, q2, q3⟩ | ⟨p, q0, q1, q2, q3, q4, q5, ⟨q6, q7⟩ | ⟨e, q6, q7, q8⟩⟩
        · rw [q3] at hT
          simp only [] at hT
          split at hT
          · cases hT
          · first
            | cases hT
            | (rw [if_pos q1] at hT; cases hT)
        · rw [q6] at hT; cases hT
        · rw [q8] at hT h2
          simp only [] at hT
          rcases h.look hv hc with ⟨g1, g2, g3⟩ | ⟨g1, g2, g3, g4⟩
          · rw [if_pos g1] at hT; cases hT
          · rw [if_neg g1, if_neg q0] at hT
            by_cases v0 : v = 0
            · rw [if_pos v0] at hT; cases hT
            · rw [if_neg v0] at hT
              by_cases hw : jm_within v u = 0
              · rw [if_pos hw] at hT
                have huv : u ≠ v := by
                  intro w
                  subst w
                  simp [jm_within, jm_wiL] at hw
                rcases g4 with ⟨r1, -, -⟩ | ⟨q, r0, r1, r2, r3, r4, r5, ⟨r6, r7⟩ | ⟨j, r6, r7, r8⟩⟩
                · exact absurd r1 v0
                · refine ⟨p, e, q, q1, q2, q3, q4, q6, q7, q8, h2, r1, r2, r3, r4, r5, Or.inl ⟨r6, by rw [g2, r6], r7, fun pq => ?_⟩⟩
                  rw [r6, q3, r3] at hT
                  simp only [Option.getD_some] at hT
                  rw [if_neg pq] at hT
                  intro w
                  rw [if_pos w] at hT
                  cases hT
                · refine ⟨p, e, q, q1, q2, q3, q4, q6, q7, q8, h2, r1, r2, r3, r4, r5, Or.inr ⟨j, r7, r8, by rw [g2, r8], fun w => ?_⟩⟩
                  obtain ⟨w1, w2⟩ := w
                  subst w1; subst w2
                  have n1 := (je_eo_some q7).2
                  have n2 := (je_eo_some r7).2
                  have hnm : u % 256 = v % 256 := n1.symm.trans n2
                  have hpar := h.uniq (u / 2 ^ 8) (u / 2 ^ 8) (v / 2 ^ 8) q (by omega) (by omega) (by omega) (je_bad_up hu hb) (je_bad_up hv hc) q4 r4
                  exact huv (by omega)
              · rw [if_neg hw] at hT; cases hT
    · rw [if_neg hc] at hT; cases hT
  · rw [if_neg hb] at hT; cases hT
theorem je_rnPrem (r : je_R s c ho hn hg hm hp wc wd tf K Z N B Y I O M P ct wr ofs) {u v : Nat} (hu : u < 4294967296) (hv : v < 4294967296) (hT : jm_rnT K Z B Y u v = 0) : ∀ g, (jm_lead K Z Y v).2.2.2.1 = some g → (jm_entryOf (ju Z ((jm_lead K Z Y u).2.1.getD 0) (Z ((jm_lead K Z Y u).2.1.getD 0) - 2)) (jm_drY Z Y ((jm_lead K Z Y u).2.1.getD 0) ((jm_lead K Z Y u).2.2.1.getD 0)) ((jm_lead K Z Y v).2.1.getD 0) (jm_lead K Z Y v).2.2.2.2).isSome = true := by
  intro g hg2
  obtain ⟨p, e, q, q1, q2, q3, q4, q6, q7, q8, q9, r1, r2, r3, r4, r5, ⟨r6, -⟩ | ⟨j, r6, r7, r8, r9⟩⟩ := je_rnT0 r.s0 hu hv hT
  · rw [hg2] at r6; cases r6
  · rw [q3, q6, r3, r5]
    simp only [Option.getD_some]
    obtain ⟨g', hg1, -⟩ := r.s0.v.drop_some q1 q2 (jm_entryOf_lt q7) r1 r2 r6 r9
    rw [hg1]
    rfl
theorem je_rename (r : je_R s c ho hn hg hm hp wc wd tf K Z N B Y I O M P ct wr ofs) {u v m : Nat} (hu : u < 4294967296) (hv : v < 4294967296) (hm40 : 40 ≤ m) (hT : jm_rnT K Z B Y u v = 0) :
    je_R (jf_rnmS s u v) c ho hn hg hm hp wc wd tf
      (jm_opC (jm_lead K Z Y v).2.2.2.1 (K) (ju K ((jm_lead K Z Y v).2.2.2.1.getD 0) 0))
      (jm_opC (jm_lead K Z Y v).2.2.2.1 (ju (ju Z ((jm_lead K Z Y u).2.1.getD 0) (Z ((jm_lead K Z Y u).2.1.getD 0) - 2)) ((jm_lead K Z Y v).2.1.getD 0) ((ju Z ((jm_lead K Z Y u).2.1.getD 0) (Z ((jm_lead K Z Y u).2.1.getD 0) - 2)) ((jm_lead K Z Y v).2.1.getD 0) + 2)) (ju (ju Z ((jm_lead K Z Y u).2.1.getD 0) (Z ((jm_lead K Z Y u).2.1.getD 0) - 2)) ((jm_lead K Z Y v).2.2.2.1.getD 0) 0)) N
      (jm_opC (jm_lead K Z Y v).2.2.2.1 (jm_resB (jm_resB B m ((jm_lead K Z Y u).2.1.getD 0) (Z ((jm_lead K Z Y u).2.1.getD 0) - 2)) (m + 4) ((jm_lead K Z Y v).2.1.getD 0) ((ju Z ((jm_lead K Z Y u).2.1.getD 0) (Z ((jm_lead K Z Y u).2.1.getD 0) - 2)) ((jm_lead K Z Y v).2.1.getD 0) + 2)) (jm_resB (jm_resB B m ((jm_lead K Z Y u).2.1.getD 0) (Z ((jm_lead K Z Y u).2.1.getD 0) - 2)) (m + 4) ((jm_lead K Z Y v).2.2.2.1.getD 0) 0))
      (jm_opC (jm_lead K Z Y v).2.2.2.1 (ju (ju (jm_resY (jm_drY Z Y ((jm_lead K Z Y u).2.1.getD 0) ((jm_lead K Z Y u).2.2.1.getD 0)) ((jm_lead K Z Y v).2.1.getD 0) ((ju Z ((jm_lead K Z Y u).2.1.getD 0) (Z ((jm_lead K Z Y u).2.1.getD 0) - 2)) ((jm_lead K Z Y v).2.1.getD 0) + 2)) (((jm_lead K Z Y v).2.1.getD 0) * 64 + (ju Z ((jm_lead K Z Y u).2.1.getD 0) (Z ((jm_lead K Z Y u).2.1.getD 0) - 2)) ((jm_lead K Z Y v).2.1.getD 0)) (jm_lead K Z Y v).2.2.2.2) (((jm_lead K Z Y v).2.1.getD 0) * 64 + (ju Z ((jm_lead K Z Y u).2.1.getD 0) (Z ((jm_lead K Z Y u).2.1.getD 0) - 2)) ((jm_lead K Z Y v).2.1.getD 0) + 1) ((jm_lead K Z Y u).2.2.2.1.getD 0)) (jm_resY (ju (jm_drY Z Y ((jm_lead K Z Y u).2.1.getD 0) ((jm_lead K Z Y u).2.2.1.getD 0)) (((jm_lead K Z Y v).2.1.getD 0) * 64 + (jm_entryOf (ju Z ((jm_lead K Z Y u).2.1.getD 0) (Z ((jm_lead K Z Y u).2.1.getD 0) - 2)) (jm_drY Z Y ((jm_lead K Z Y u).2.1.getD 0) ((jm_lead K Z Y u).2.2.1.getD 0)) ((jm_lead K Z Y v).2.1.getD 0) (jm_lead K Z Y v).2.2.2.2).getD 0 * 2 + 1) ((jm_lead K Z Y u).2.2.2.1.getD 0)) ((jm_lead K Z Y v).2.2.2.1.getD 0) 0))
      I O M P ct wr ofs := by
  have h := r.s0
  obtain ⟨p, e, q, q1, q2, q3, q4, q6, q7, q8, q9, r1, r2, r3, r4, r5, hq⟩ := je_rnT0 h hu hv hT
  have he := jm_entryOf_lt q7
  have hzp := h.v.zd p q1 q2
  have d1 := h.drop (m := m) q1 q2 hm40 q7
  have hun := h.v.drop_un q1 q2 he
  have hen := h.v.en p e q1 q2 he
  have he32 : e < 32 := by omega
  rw [q3, q6, q8, r3, r5]
  rcases hq with ⟨r6, r7, r8, r9⟩ | ⟨j, r6, r7, r8, r9⟩
  · rw [r6]
    simp only [jm_opC, Option.getD_some, Option.getD_none]
    have eS : jf_rnmS s u v = jf_addEntry (jf_dropEntry s p (u % 256)) q (v % 256) (Y (p * 64 + e * 2 + 1)) := by
      unfold jf_rnmS
      rw [r7, q4, r4, q9]
      rfl
    rw [eS]
    have hzq : ju Z p (Z p - 2) q < 32 := by
      by_cases w : q = p
      · rw [ju_eq w]; omega
      · rw [ju_ne w]
        exact (je_entryRoom (r9 (fun x => w x.symm))).1
    have hroom : jm_needed (ju Z p (Z p - 2) q + 2) ≤ jm_free (jm_resB B m p (Z p - 2)) + jm_needed (ju Z p (Z p - 2) q) := by
      have hfr := d1.2
      by_cases w : q = p
      · rw [ju_eq w]
        rw [show Z p - 2 + 2 = Z p by omega]
        omega
      · rw [ju_ne w]
        have := (je_entryRoom (r9 (fun x => w x.symm))).2
        have := jm_needed_sub (Z p)
        omega
    have d2 := d1.1.add (m := m + 4) r1 r2 hzq (by omega) hroom (Nat.mod_lt v (show 256 > 0 by decide)) ⟨hen.1, hen.2.1⟩ hen.2.2 hun (h.v.drop_none q1 q2 he r1 r2 r8)
    exact r.tab d2 (fun _ _ => rfl) (fun i hi => by rw [ju_ne (by omega), ju_ne (by omega)]) (fun _ _ => rfl) (fun i hi => by rw [je_resB_hi _ _ _ _ r1 i hi, je_resB_hi _ _ _ _ q1 i hi]) (fun i hi => by rw [ju_ne (by omega), ju_ne (by omega), je_resY_hi2 _ _ _ r1 i hi, je_drY_hi _ _ _ _ q1 he32 i hi])
  · rw [r7]
    simp only [jm_opC, Option.getD_some]
    obtain ⟨g, hg1, hg2⟩ := h.v.drop_some q1 q2 he r1 r2 r6 r9
    have hgn := h.v.en q j r1 r2 (jm_entryOf_lt r6)
    have eS : jf_rnmS s u v = jf_vacate (jf_redirect (jf_dropEntry s p (u % 256)) q (v % 256) (Y (p * 64 + e * 2 + 1))) (Y (q * 64 + j * 2 + 1)) := by
      unfold jf_rnmS
      rw [r8, q4, r4, q9]
      rfl
    rw [eS, hg1]
    simp only [Option.getD_some]
    have d2 := d1.1.redirect r1 r2 hg1 ⟨hen.1, hen.2.1⟩ hen.2.2 hun
    rw [hg2] at d2
    have d3 := d2.1.release (m := m + 4) hgn.2.1 (by omega) (by omega) d2.2
    have hg32 : g < 32 := by
      have := jm_entryOf_lt hg1
      have := d1.1.v.z q r1
      omega
    exact r.tab d3 (fun i hi => ju_ne (by omega)) (fun i hi => by rw [ju_ne (by omega), ju_ne (by omega)]) (fun _ _ => rfl) (fun i hi => by rw [je_resB_hi _ _ _ _ hgn.2.1 i hi, je_resB_hi _ _ _ _ q1 i hi]) (fun i hi => by rw [je_resY_hi2 _ _ _ hgn.2.1 i hi, ju_ne (by omega), je_drY_hi _ _ _ _ q1 he32 i hi])
end
