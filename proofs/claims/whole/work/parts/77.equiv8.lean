section
variable {s c ho hn hg hm hp : Nat → Nat} {wc wd tf : Nat} {K Z N B Y I O M P : Nat → Nat} {ct wr ofs : Nat}
/-- what a good path finds, in the class and in the reference -/
theorem je_s.look {s K Z N B Y : Nat → Nat} (h : je_s s K Z N B Y) {u : Nat} (hu : u < 4294967296) (hb : jm_badPath u = 0) :
    ((jm_lead K Z Y u).1 = 0 ∧ jf_inodeAt s u = none ∧ jf_paT s u = 2) ∨
    (¬ (jm_lead K Z Y u).1 = 0 ∧ jf_inodeAt s u = (jm_lead K Z Y u).2.2.2.1 ∧ jf_paT s u = 0 ∧
      (u = 0 ∧ (jm_lead K Z Y u).2.1 = none ∧ (jm_lead K Z Y u).2.2.2.1 = some 0 ∨
       ∃ p, u ≠ 0 ∧ p < 12 ∧ K p = 2 ∧ (jm_lead K Z Y u).2.1 = some p ∧ jf_inodeAt s (u / 2 ^ 8) = some p ∧ (jm_lead K Z Y u).2.2.2.2 = u % 256 ∧
        ((jm_lead K Z Y u).2.2.2.1 = none ∧ jm_entryOf Z Y p (u % 256) = none ∨ ∃ e, (jm_lead K Z Y u).2.2.1 = some e ∧ jm_entryOf Z Y p (u % 256) = some e ∧ (jm_lead K Z Y u).2.2.2.1 = some (Y (p * 64 + e * 2 + 1))))) := by
  have ha := h.at u
  by_cases h0 : u = 0
  · subst h0
    right
    rw [je_lead0] at ha ⊢
    have ha2 : jf_inodeAt s 0 = some 0 := by simpa using ha
    refine ⟨by decide, ha2, ?_, Or.inl ⟨rfl, rfl, rfl⟩⟩
    unfold jf_paT
    rw [show 0 / 2 ^ 8 = 0 by decide, ha2]
    simp [h.kind (show 0 < 12 by decide), h.v.rt]
  · have hl := h.last hu hb h0
    by_cases h1 : (jm_lead K Z Y u).1 = 0
    · left
      rw [if_pos h1] at ha
      exact ⟨h1, ha, by rw [hl.1, if_pos h1]⟩
    · right
      rw [if_neg h1] at ha
      obtain ⟨⟨p, hp1, hp2, hp3, hp4, hp5⟩, hla⟩ := hl.2 h1
      refine ⟨h1, ha, by rw [hl.1, if_neg h1], Or.inr ⟨p, h0, hp1, hp2, hp3, hp4, hla, ?_⟩⟩
      cases hf : (jm_lead K Z Y u).2.2.2.1 with
      | none =>
        obtain ⟨p', -, -, -, hq4⟩ := jm_lead_none h.v.ents h1 hf
        exact Or.inl ⟨rfl, hp5.symm.trans hq4⟩
      | some f =>
        obtain ⟨e, he1, he2, he3, he4⟩ := jm_lead_some h.v.ents h1 hp3 hf
        exact Or.inr ⟨e, he1, hp5.symm.trans he1, by rw [← he3]⟩
theorem je_clT (op : ∀ h, h < 6 → (ho h = 0 ↔ I h = 0)) : ∀ n h, h + n = 6 → jf_clT ho n h = if jm_chL I n h = 6 then none else some (jm_chL I n h) := by
  intro n
  induction n with
  | zero =>
    intro h hh
    have e : h = 6 := by omega
    subst e
    rfl
  | succ n ih =>
    intro h hh
    unfold jf_clT jm_chL
    by_cases w : I h = 0
    · rw [if_pos ((op h (by omega)).mpr w), if_pos w, if_neg (by omega)]
    · rw [if_neg (fun q => w ((op h (by omega)).mp q)), if_neg w]; exact ih _ (by omega)
theorem je_R.closed (r : je_R s c ho hn hg hm hp wc wd tf K Z N B Y I O M P ct wr ofs) : jf_closed ho = if jm_closedHandle I = 6 then none else some (jm_closedHandle I) := je_clT r.op 6 0 rfl
theorem je_R.chT (r : je_R s c ho hn hg hm hp wc wd tf K Z N B Y I O M P ct wr ofs) : jf_chT ho = if jm_closedHandle I = 6 then 4 else 0 := by
  unfold jf_chT
  rw [r.closed]
  by_cases w : jm_closedHandle I = 6
  · rw [if_pos w, if_pos w]
  · rw [if_neg w, if_neg w]
theorem je_R.opn (r : je_R s c ho hn hg hm hp wc wd tf K Z N B Y I O M P ct wr ofs) {h i z p : Nat} (hh : h < 6) (hi : i < 12) (hz : 1 ≤ z ∧ z ≤ 4) (hp64 : p ≤ 64) : je_R s c (ju ho h 1) (ju hn h i) (ju hg h (jf_gen s i)) (ju hm h z) (ju hp h p) wc wd tf K Z N B Y (ju I h (i + 1)) (ju O h (N i)) (ju M h z) (ju P h p) ct wr ofs := by
  have hg : jf_gen s i = N i := r.s0.gen hi
  rw [hg]
  have hN := r.s0.n2 i
  refine ⟨r.s0, r.s1, ⟨?_, ?_, ju_lt r.ho2 (by decide), ju_lt r.hn2 (by omega), ju_lt r.hg2 hN, ju_lt r.hm2 (by omega), ju_lt r.hp2 (by omega), ju_lt r.i2 (by omega), ju_lt r.o2 hN, ju_lt r.m2 (by omega), ju_lt r.p2 (by omega)⟩, r.2.2.2⟩
  · intro g hg2
    by_cases w : g = h
    · rw [ju_eq w, ju_eq w]; omega
    · rw [ju_ne w, ju_ne w]; exact r.op g hg2
  · intro g hg2 hg0
    by_cases w : g = h
    · simp only [ju_eq w]
      exact ⟨by omega, trivial, trivial, trivial, by omega⟩
    · rw [ju_ne w] at hg0
      simp only [ju_ne w]
      exact r.ha g hg2 hg0
theorem je_noop {K Z B Y : Nat → Nat} (v : je_v K Z B Y) {i : Nat} (hi : i < 12) (hz : Z i = 0) : ju Z i 0 = Z ∧ (∀ m, jm_resB B m i 0 = B) ∧ jm_resY Y i 0 = Y := by
  have hn0 : jm_needed 0 = 0 := by decide
  refine ⟨?_, fun m => ?_, ?_⟩
  · have := ju_same Z i
    rw [hz] at this
    exact this
  · funext q
    unfold jm_resB
    rw [je_rsL_shr i 0 4 m 0 B (by omega) (fun l _ _ h3 => by rw [hn0] at h3; omega)]
    by_cases w : (i * 4 + 0 ≤ q ∧ i * 4 + jm_needed 0 ≤ q) ∧ q < i * 4 + 4
    · rw [if_pos w]
      have := v.bz i (q - i * 4) hi (by omega)
      rw [show i * 4 + (q - i * 4) = q by omega, hz, hn0] at this
      by_cases w2 : B q = 0
      · exact w2.symm
      · have := this.mp w2; omega
    · rw [if_neg w]
  · funext a
    unfold jm_resY
    rw [je_zL]
    by_cases w : i * 64 + 0 ≤ a ∧ a < i * 64 + 0 + (64 - 0)
    · rw [if_pos w]
      have := v.yz i (a - i * 64) hi (by omega) (by omega)
      rw [show i * 64 + (a - i * 64) = a by omega] at this
      exact this.symm
    · rw [if_neg w]
theorem je_closedHandle (I : Nat → Nat) : jm_closedHandle I ≤ 6 := by
  have := jm_chL_le I 6 0
  unfold jm_closedHandle
  omega
theorem je_opT (r : je_R s c ho hn hg hm hp wc wd tf K Z N B Y I O M P ct wr ofs) {u z cr : Nat} (hu : u < 4294967296) : jf_opT s ho u z cr = jm_opT K Z B Y I u z cr := by
  have h := r.s0
  unfold jf_opT jm_opT
  rw [je_path hu]
  by_cases hb : jm_badPath u = 0
  · rw [if_pos hb, if_pos hb]
    by_cases hz : 1 ≤ z ∧ z ≤ 4
    · have e : jf_rng z 1 4 = 0 := by unfold jf_rng; rw [if_pos hz]
      rw [if_pos e, if_pos hz, r.chT]
      rcases h.look hu hb with ⟨h1, h2, h3⟩ | ⟨h1, h2, h3, h4⟩
      · rw [h2, if_pos h1, h3]
        simp only []
        split
        · rfl
        · split
          · rfl
          · rfl
      · rw [h2, if_neg h1, h3]
        rcases h4 with ⟨q1, q2, q3⟩ | ⟨p, q0, q1, q2, q3, q4, q5, ⟨q6, q7⟩ | ⟨e', q6, q7, q8⟩⟩
        · rw [q3]
          simp only [h.kind (show 0 < 12 by decide), jf_kf]
          by_cases z4 : z = 4
          · rw [if_pos z4, if_pos z4]
          · rw [if_neg z4, if_neg z4]
        · rw [q6, q3, q4]
          simp only [if_true, Option.getD_some]
          unfold jf_rnT
          rw [h.least, h.room q1 q2]
          by_cases w1 : cr = 0
          · rw [if_pos w1, if_pos w1]
          · rw [if_neg w1, if_neg w1]
            by_cases w2 : jf_wrs z = 0
            · rw [if_pos w2, if_pos w2]
            · rw [if_neg w2, if_neg w2]
              by_cases w3 : jm_closedHandle I = 6
              · rw [if_pos w3, if_pos w3]; simp
              · rw [if_neg w3, if_neg w3, if_pos rfl]
                by_cases w4 : jm_newInode K = 12
                · rw [if_pos w4, if_pos w4]
                · rw [if_neg w4, if_neg w4]
        · rw [q8]
          have hf := (h.v.en p e' q1 q2 (jm_entryOf_lt q7)).2.1
          simp only [h.kind hf, jf_kf]
          by_cases z4 : z = 4
          · rw [if_pos z4, if_pos z4]
          · rw [if_neg z4, if_neg z4]
    · have e : jf_rng z 1 4 = 1 := by unfold jf_rng; rw [if_neg hz]
      rw [e, if_neg hz]
      simp
  · rw [if_neg hb, if_neg hb, je_bad1 hb]
theorem je_opT0 {u z cr : Nat} (hT : jm_opT K Z B Y I u z cr = 0) : jm_badPath u = 0 ∧ (1 ≤ z ∧ z ≤ 4) ∧ jm_closedHandle I ≠ 6 ∧ ((jm_lead K Z Y u).2.2.2.1 = none → jf_wrs z ≠ 0 ∧ jm_newInode K ≠ 12 ∧ jm_entryRoom Z B ((jm_lead K Z Y u).2.1.getD 0) 0 ≠ 0) ∧ (∀ f, (jm_lead K Z Y u).2.2.2.1 = some f → K f = jf_kf z) ∧ ¬ (jm_lead K Z Y u).1 = 0 := by
  unfold jm_opT at hT
  by_cases hb : jm_badPath u = 0
  · rw [if_pos hb] at hT
    by_cases hz : 1 ≤ z ∧ z ≤ 4
    · rw [if_pos hz] at hT
      by_cases h1 : (jm_lead K Z Y u).1 = 0
      · rw [if_pos h1] at hT; cases hT
      · rw [if_neg h1] at hT
        refine ⟨hb, hz, ?_⟩
        cases hf : (jm_lead K Z Y u).2.2.2.1 with
        | none =>
          rw [hf] at hT
          simp only [] at hT
          by_cases w1 : cr = 0
          · rw [if_pos w1] at hT; cases hT
          · rw [if_neg w1] at hT
            by_cases w2 : jf_wrs z = 0
            · rw [if_pos w2] at hT; cases hT
            · rw [if_neg w2] at hT
              by_cases w3 : jm_closedHandle I = 6
              · rw [if_pos w3] at hT; cases hT
              · rw [if_neg w3] at hT
                by_cases w4 : jm_newInode K = 12
                · rw [if_pos w4] at hT; cases hT
                · rw [if_neg w4] at hT
                  by_cases w5 : jm_entryRoom Z B ((jm_lead K Z Y u).2.1.getD 0) 0 = 0
                  · rw [if_pos w5] at hT; cases hT
                  · exact ⟨w3, fun _ => ⟨w2, w4, w5⟩, fun f q => (by cases q), h1⟩
        | some f =>
          rw [hf] at hT
          simp only [] at hT
          by_cases z4 : z = 4
          · rw [if_pos z4] at hT
            by_cases k2 : K f = 2
            · rw [if_pos k2] at hT
              by_cases w3 : jm_closedHandle I = 6
              · rw [if_pos w3] at hT; cases hT
              · exact ⟨w3, fun q => (by cases q), fun g q => (by cases q; unfold jf_kf; rw [if_pos z4]; exact k2), h1⟩
            · rw [if_neg k2] at hT; cases hT
          · rw [if_neg z4] at hT
            by_cases k2 : K f = 1
            · rw [if_pos k2] at hT
              by_cases w3 : jm_closedHandle I = 6
              · rw [if_pos w3] at hT; cases hT
              · exact ⟨w3, fun q => (by cases q), fun g q => (by cases q; unfold jf_kf; rw [if_neg z4]; exact k2), h1⟩
            · rw [if_neg k2] at hT; cases hT
    · rw [if_neg hz] at hT; cases hT
  · rw [if_neg hb] at hT; cases hT
theorem je_open (r : je_R s c ho hn hg hm hp wc wd tf K Z N B Y I O M P ct wr ofs) {u z cr ap em m : Nat} (hu : u < 4294967296) (hm40 : 40 ≤ m) (hT : jm_opT K Z B Y I u z cr = 0) : (jf_closed ho).getD 0 = jm_closedHandle I ∧
    je_R (jf_opS s u z em) c (ju ho ((jf_closed ho).getD 0) 1) (ju hn ((jf_closed ho).getD 0) (jf_opI s u)) (ju hg ((jf_closed ho).getD 0) (jf_gen (jf_opS s u z em) (jf_opI s u))) (ju hm ((jf_closed ho).getD 0) z) (ju hp ((jf_closed ho).getD 0) (jf_opP s u z ap em)) wc wd tf
      (jm_opC (jm_lead K Z Y u).2.2.2.1 (ju K (jm_newInode K) 1) K)
      (if em = 0 then (jm_opC (jm_lead K Z Y u).2.2.2.1 (ju Z ((jm_lead K Z Y u).2.1.getD 0) (Z ((jm_lead K Z Y u).2.1.getD 0) + 2)) Z) else if jf_wrs z = 0 then (jm_opC (jm_lead K Z Y u).2.2.2.1 (ju Z ((jm_lead K Z Y u).2.1.getD 0) (Z ((jm_lead K Z Y u).2.1.getD 0) + 2)) Z) else ju (jm_opC (jm_lead K Z Y u).2.2.2.1 (ju Z ((jm_lead K Z Y u).2.1.getD 0) (Z ((jm_lead K Z Y u).2.1.getD 0) + 2)) Z) ((jm_lead K Z Y u).2.2.2.1.getD (jm_newInode K)) 0)
      (jm_opC (jm_lead K Z Y u).2.2.2.1 (ju N (jm_newInode K) ((N (jm_newInode K) + 1) % 256)) N)
      (if em = 0 then (jm_opC (jm_lead K Z Y u).2.2.2.1 (jm_resB B m ((jm_lead K Z Y u).2.1.getD 0) (Z ((jm_lead K Z Y u).2.1.getD 0) + 2)) B) else if jf_wrs z = 0 then (jm_opC (jm_lead K Z Y u).2.2.2.1 (jm_resB B m ((jm_lead K Z Y u).2.1.getD 0) (Z ((jm_lead K Z Y u).2.1.getD 0) + 2)) B) else jm_resB (jm_opC (jm_lead K Z Y u).2.2.2.1 (jm_resB B m ((jm_lead K Z Y u).2.1.getD 0) (Z ((jm_lead K Z Y u).2.1.getD 0) + 2)) B) (jm_opC (jm_lead K Z Y u).2.2.2.1 (m + 4) m) ((jm_lead K Z Y u).2.2.2.1.getD (jm_newInode K)) 0)
      (if em = 0 then (jm_opC (jm_lead K Z Y u).2.2.2.1 (ju (ju (jm_resY Y ((jm_lead K Z Y u).2.1.getD 0) (Z ((jm_lead K Z Y u).2.1.getD 0) + 2)) (((jm_lead K Z Y u).2.1.getD 0) * 64 + Z ((jm_lead K Z Y u).2.1.getD 0)) (jm_lead K Z Y u).2.2.2.2) (((jm_lead K Z Y u).2.1.getD 0) * 64 + Z ((jm_lead K Z Y u).2.1.getD 0) + 1) (jm_newInode K)) Y) else if jf_wrs z = 0 then (jm_opC (jm_lead K Z Y u).2.2.2.1 (ju (ju (jm_resY Y ((jm_lead K Z Y u).2.1.getD 0) (Z ((jm_lead K Z Y u).2.1.getD 0) + 2)) (((jm_lead K Z Y u).2.1.getD 0) * 64 + Z ((jm_lead K Z Y u).2.1.getD 0)) (jm_lead K Z Y u).2.2.2.2) (((jm_lead K Z Y u).2.1.getD 0) * 64 + Z ((jm_lead K Z Y u).2.1.getD 0) + 1) (jm_newInode K)) Y) else jm_resY (jm_opC (jm_lead K Z Y u).2.2.2.1 (ju (ju (jm_resY Y ((jm_lead K Z Y u).2.1.getD 0) (Z ((jm_lead K Z Y u).2.1.getD 0) + 2)) (((jm_lead K Z Y u).2.1.getD 0) * 64 + Z ((jm_lead K Z Y u).2.1.getD 0)) (jm_lead K Z Y u).2.2.2.2) (((jm_lead K Z Y u).2.1.getD 0) * 64 + Z ((jm_lead K Z Y u).2.1.getD 0) + 1) (jm_newInode K)) Y) ((jm_lead K Z Y u).2.2.2.1.getD (jm_newInode K)) 0)
      (ju I (jm_closedHandle I) (((jm_lead K Z Y u).2.2.2.1.getD (jm_newInode K)) + 1))
      (ju O (jm_closedHandle I) ((jm_opC (jm_lead K Z Y u).2.2.2.1 (ju N (jm_newInode K) ((N (jm_newInode K) + 1) % 256)) N) ((jm_lead K Z Y u).2.2.2.1.getD (jm_newInode K))))
      (ju M (jm_closedHandle I) z)
      (ju P (jm_closedHandle I) (if ap = 0 then 0 else if z < 4 then (if em = 0 then (jm_opC (jm_lead K Z Y u).2.2.2.1 (ju Z ((jm_lead K Z Y u).2.1.getD 0) (Z ((jm_lead K Z Y u).2.1.getD 0) + 2)) Z) else if jf_wrs z = 0 then (jm_opC (jm_lead K Z Y u).2.2.2.1 (ju Z ((jm_lead K Z Y u).2.1.getD 0) (Z ((jm_lead K Z Y u).2.1.getD 0) + 2)) Z) else ju (jm_opC (jm_lead K Z Y u).2.2.2.1 (ju Z ((jm_lead K Z Y u).2.1.getD 0) (Z ((jm_lead K Z Y u).2.1.getD 0) + 2)) Z) ((jm_lead K Z Y u).2.2.2.1.getD (jm_newInode K)) 0) ((jm_lead K Z Y u).2.2.2.1.getD (jm_newInode K)) else 0))
      ct wr ofs := by
  obtain ⟨hb, hz, hc6, hN0, hS0, hl1⟩ := je_opT0 hT
  have h := r.s0
  have hch : jm_closedHandle I < 6 := by have := je_closedHandle I; omega
  have hcl : (jf_closed ho).getD 0 = jm_closedHandle I := by rw [r.closed, if_neg hc6]; rfl
  refine ⟨hcl, ?_⟩
  rw [hcl]
  rcases h.look hu hb with ⟨h1, -, -⟩ | ⟨h1, h2, h3, h4⟩
  · exact absurd h1 hl1
  · cases hf : (jm_lead K Z Y u).2.2.2.1 with
    | none =>
      obtain ⟨hw, hi, hr⟩ := hN0 hf
      rcases h4 with ⟨-, -, q3⟩ | ⟨p, q0, q1, q2, q3, q4, q5, ⟨q6, q7⟩ | ⟨e', q6, q7, q8⟩⟩
      · rw [q3] at hf; cases hf
      · rw [hf] at h2
        rw [q3] at hr
        simp only [Option.getD_some] at hr
        have hin := je_newInode hi
        have hpi : p ≠ jm_newInode K := by intro q; rw [← q] at hin; omega
        have hzz := je_entryRoom hr
        have hn1 := h.new q1 q2 (Nat.mod_lt u (show 256 > 0 by decide)) (Or.inl rfl) hm40 hi hr q7
        have hZ0 : ju Z p (Z p + 2) (jm_newInode K) = 0 := by rw [ju_ne (by omega)]; exact h.v.z0 _ hin.1 hin.2
        have hno := je_noop hn1.v hin.1 hZ0
        have r1 := r.tab hn1 (fun i hi => ju_ne (by omega)) (fun i hi => ju_ne (by omega)) (fun i hi => ju_ne (by omega)) (fun i hi => je_resB_hi _ _ _ _ q1 i hi) (fun i hi => by rw [ju_ne (by omega), ju_ne (by omega)]; exact je_resY_hi2 _ _ _ q1 i hi)
        have r2 := r1.opn hch hin.1 hz (show 0 ≤ 64 by decide)
        have eS : jf_opS s u z em = jf_new s p (u % 256) 1 := by unfold jf_opS; rw [h2, q4]; rfl
        have eI : jf_opI s u = jm_newInode K := by unfold jf_opI; rw [h2, h.least, if_neg hi]; rfl
        have eP : jf_opP s u z ap em = 0 := by unfold jf_opP; rw [h2]
        rw [eS, eI, eP, q3, q5]
        simp only [jm_opC, Option.getD_some, Option.getD_none, hno.1, hno.2.1, hno.2.2, ite_self, hZ0]
        exact r2
      · rw [q8] at hf; cases hf
    | some f =>
      have hk := hS0 f hf
      have hf12 : f < 12 := jm_lead_fo h.v.ents hf
      rw [hf] at h2
      have eI : jf_opI s u = f := by unfold jf_opI; rw [h2]
      rw [eI]
      simp only [jm_opC, Option.getD_some]
      by_cases hx : em = 0 ∨ jf_wrs z = 0
      · have eS : jf_opS s u z em = s := by
          unfold jf_opS
          rw [h2]
          simp only []
          rcases hx with w | w
          · rw [if_pos w]
          · rw [if_pos w]; exact ite_self s
        have eP : jf_opP s u z ap em = if ap = 0 then 0 else if z < 4 then Z f else 0 := by
          unfold jf_opP
          rw [h2, eS]
          simp only [h.size hf12]
          by_cases w : ap = 0
          · rw [if_pos w, if_pos w]
          · rw [if_neg w, if_neg w]
            by_cases w4 : z = 4
            · rw [if_pos w4, if_neg (by omega)]
            · rw [if_neg w4, if_pos (by omega)]
        have e1 : ∀ (a b : Nat → Nat), (if em = 0 then a else if jf_wrs z = 0 then a else b) = a := by
          intro a b
          rcases hx with w | w
          · rw [if_pos w]
          · rw [if_pos w]; exact ite_self a
        rw [eS, eP]
        simp only [e1]
        have hz64 := h.v.z f hf12
        have hpb : (if ap = 0 then 0 else if z < 4 then Z f else 0) ≤ 64 := by
          split
          · omega
          · split <;> omega
        exact r.opn hch hf12 hz hpb
      · have hx1 : ¬ em = 0 := fun w => hx (Or.inl w)
        have hx2 : ¬ jf_wrs z = 0 := fun w => hx (Or.inr w)
        have z4 : ¬ z = 4 := by intro w; rw [w] at hx2; exact hx2 (by decide)
        have hk1 : K f = 1 := by rw [hk]; unfold jf_kf; rw [if_neg z4]
        have eS : jf_opS s u z em = jf_resize s f 0 := by
          unfold jf_opS
          rw [h2]
          simp only [hx1, hx2, if_false]
        have hn1 := h.resize (m := m) hf12 hk1 (show 0 ≤ 64 by decide) hm40 (by have : jm_needed 0 = 0 := by decide
                                                                                omega)
        have r1 := r.tab hn1 (fun _ _ => rfl) (fun i hi => ju_ne (by omega)) (fun _ _ => rfl) (fun i hi => je_resB_hi _ _ _ _ hf12 i hi) (fun i hi => je_resY_hi2 _ _ _ hf12 i hi)
        have eP : jf_opP s u z ap em = 0 := by
          unfold jf_opP
          rw [h2, eS]
          simp only [hn1.size hf12, ju_self, ite_self]
        rw [eS, eP]
        simp only [hx1, hx2, if_false, ju_self, ite_self]
        exact r1.opn hch hf12 hz (show 0 ≤ 64 by decide)
/-- stat -/
theorem je_stat (r : je_R s c ho hn hg hm hp wc wd tf K Z N B Y I O M P ct wr ofs) {u z : Nat} (hu : u < 4294967296) : jf_statT s u z = jm_stT K Z Y u z ∧ (jm_stT K Z Y u z = 0 → jf_statR s ((jf_inodeAt s u).getD 0) z = jm_stR K Z N (jm_lead K Z Y u).2.2.2.1 z) := by
  have h := r.s0
  unfold jf_statT jm_stT
  rw [je_path hu, je_rngN]
  by_cases hb : jm_badPath u = 0
  · rw [if_pos hb, if_pos hb]
    by_cases hz : 4 < z
    · simp [hz]
    · simp only [hz, if_false, if_true]
      unfold jf_inT
      rcases h.look hu hb with ⟨h1, h2, h3⟩ | ⟨h1, h2, h3, h4⟩
      · rw [h2, if_pos h1]; simp
      · rw [h2, if_neg h1]
        cases hf : (jm_lead K Z Y u).2.2.2.1 with
        | none => simp
        | some f =>
          have hf12 : f < 12 := jm_lead_fo h.v.ents hf
          refine ⟨rfl, fun _ => ?_⟩
          simp only [Option.getD_some]
          unfold jf_statR jm_stR
          rw [h.kind hf12, h.size hf12, h.gen hf12, h.entries hf12]
  · rw [if_neg hb, if_neg hb, je_bad1 hb]; simp
/-- truncate -/
theorem je_trunc (r : je_R s c ho hn hg hm hp wc wd tf K Z N B Y I O M P ct wr ofs) {u z m : Nat} (hu : u < 4294967296) (hm40 : 40 ≤ m) : jf_truT s u z = jm_trT K Z B Y u z ∧ (jm_trT K Z B Y u z = 0 →
    je_R (jf_resize s ((jf_inodeAt s u).getD 0) z) c ho hn hg hm hp wc wd tf K (ju Z ((jm_lead K Z Y u).2.2.2.1.getD 0) z) N (jm_resB B m ((jm_lead K Z Y u).2.2.2.1.getD 0) z) (jm_resY Y ((jm_lead K Z Y u).2.2.2.1.getD 0) z) I O M P ct wr ofs) := by
  have h := r.s0
  unfold jf_truT jm_trT
  rw [je_path hu, je_rngN]
  by_cases hb : jm_badPath u = 0
  · rw [if_pos hb, if_pos hb]
    by_cases hz : 64 < z
    · simp [hz]
    · simp only [hz, if_false, if_true]
      unfold jf_inT
      rcases h.look hu hb with ⟨h1, h2, h3⟩ | ⟨h1, h2, h3, h4⟩
      · rw [h2, if_pos h1]; simp
      · rw [h2, if_neg h1]
        cases hf : (jm_lead K Z Y u).2.2.2.1 with
        | none => simp
        | some f =>
          have hf12 : f < 12 := jm_lead_fo h.v.ents hf
          simp only [Option.getD_some, if_true, h.kind hf12]
          by_cases hk : K f = 1
          · rw [if_pos hk, if_pos hk]
            unfold jf_rsT
            rw [if_neg hz, h.roomS hf12]
            refine ⟨rfl, fun hT => ?_⟩
            by_cases hr : jm_roomFor Z B f z = 0
            · rw [if_pos hr] at hT; cases hT
            · exact r.tab (h.resize hf12 hk (by omega) hm40 (je_roomFor hr)) (fun _ _ => rfl) (fun i hi => ju_ne (by omega)) (fun _ _ => rfl) (fun i hi => je_resB_hi _ _ _ _ hf12 i hi) (fun i hi => je_resY_hi2 _ _ _ hf12 i hi)
          · rw [if_neg hk, if_neg hk]; simp
  · rw [if_neg hb, if_neg hb, je_bad1 hb]; simp
/-- remove -/
theorem je_remove (r : je_R s c ho hn hg hm hp wc wd tf K Z N B Y I O M P ct wr ofs) {u m : Nat} (hu : u < 4294967296) (hm40 : 40 ≤ m) : jf_rmT s u = jm_rmT K Z Y u ∧ (jm_rmT K Z Y u = 0 →
    je_R (jf_vacate (jf_dropEntry s ((jf_inodeAt s (u / 2 ^ 8)).getD 0) (u % 256)) ((jf_inodeAt s u).getD 0)) c ho hn hg hm hp wc wd tf (ju K ((jm_lead K Z Y u).2.2.2.1.getD 0) 0) (ju (ju Z ((jm_lead K Z Y u).2.1.getD 0) (Z ((jm_lead K Z Y u).2.1.getD 0) - 2)) ((jm_lead K Z Y u).2.2.2.1.getD 0) 0) N (jm_resB (jm_resB B m ((jm_lead K Z Y u).2.1.getD 0) (Z ((jm_lead K Z Y u).2.1.getD 0) - 2)) (m + 4) ((jm_lead K Z Y u).2.2.2.1.getD 0) 0) (jm_resY (jm_drY Z Y ((jm_lead K Z Y u).2.1.getD 0) ((jm_lead K Z Y u).2.2.1.getD 0)) ((jm_lead K Z Y u).2.2.2.1.getD 0) 0) I O M P ct wr ofs) := by
  have h := r.s0
  unfold jf_rmT jm_rmT
  rw [je_path hu]
  by_cases hb : jm_badPath u = 0
  · rw [if_pos hb, if_pos hb]
    unfold jf_inT
    rcases h.look hu hb with ⟨h1, h2, h3⟩ | ⟨h1, h2, h3, h4⟩
    · rw [h2, if_pos h1]; simp
    · rw [h2, if_neg h1]
      rcases h4 with ⟨q1, q2, q3⟩ | ⟨p, q0, q1, q2, q3, q4, q5, ⟨q6, q7⟩ | ⟨e, q6, q7, q8⟩⟩
      · rw [q3, q2]; simp
      · rw [q6]; simp
      · have hen := h.v.en p e q1 q2 (jm_entryOf_lt q7)
        rw [q8, q3, q4, q6]
        have hne : ¬ Y (p * 64 + e * 2 + 1) = 0 := by omega
        simp only [Option.getD_some, if_true, hne, if_false, h.entries hen.2.1]
        refine ⟨?_, fun _ => ?_⟩
        · by_cases hk : K (Y (p * 64 + e * 2 + 1)) = 2
          · rw [if_pos hk, if_pos hk]
            have := h.v.zd _ hen.2.1 hk
            by_cases w : Z (Y (p * 64 + e * 2 + 1)) = 0
            · rw [if_pos w, if_pos (by omega)]
            · rw [if_neg w, if_neg (by omega)]
          · rw [if_neg hk, if_neg hk]; rfl
        · have d1 := h.drop q1 q2 hm40 q7
          have he32 : e < 32 := by have := jm_entryOf_lt q7; have := h.v.z p q1; omega
          have d2 := d1.1.release (m := m + 4) hen.2.1 (by omega) (by omega) (h.v.drop_un q1 q2 (jm_entryOf_lt q7))
          exact r.tab d2 (fun i hi => ju_ne (by omega)) (fun i hi => by rw [ju_ne (by omega), ju_ne (by omega)]) (fun _ _ => rfl) (fun i hi => by rw [je_resB_hi _ _ _ _ hen.2.1 i hi, je_resB_hi _ _ _ _ q1 i hi]) (fun i hi => by rw [je_resY_hi2 _ _ _ hen.2.1 i hi, je_drY_hi _ _ _ _ q1 he32 i hi])
  · rw [if_neg hb, if_neg hb, je_bad1 hb]; simp
end
