def je_H (ho hn hg hm hp I O M P : Nat → Nat) : Prop := (∀ h, h < 6 → (ho h = 0 ↔ I h = 0)) ∧ (∀ h, h < 6 → I h ≠ 0 → hn h = I h - 1 ∧ hg h = O h ∧ hm h = M h ∧ hp h = P h ∧ 1 ≤ M h) ∧ jlt 2 ho ∧ jlt 256 hn ∧ jlt 256 hg ∧ jlt 5 hm ∧ jlt 65 hp ∧ jlt 13 I ∧ jlt 256 O ∧ jlt 5 M ∧ jlt 65 P
def je_R (s c ho hn hg hm hp : Nat → Nat) (wc wd tf : Nat) (K Z N B Y I O M P : Nat → Nat) (ct wr ofs : Nat) : Prop := je_s s K Z N B Y ∧ je_s c (je_sh 12 K) (je_sh 12 Z) (je_sh 12 N) (je_sh 48 B) (je_sh 768 Y) ∧ je_H ho hn hg hm hp I O M P ∧ wc = ct ∧ wd = wr ∧ tf = ofs ∧ ct ≤ 100
theorem je_R.s0 {s c ho hn hg hm hp : Nat → Nat} {wc wd tf : Nat} {K Z N B Y I O M P : Nat → Nat} {ct wr ofs : Nat} (r : je_R s c ho hn hg hm hp wc wd tf K Z N B Y I O M P ct wr ofs) : je_s s K Z N B Y := r.1
theorem je_R.s1 {s c ho hn hg hm hp : Nat → Nat} {wc wd tf : Nat} {K Z N B Y I O M P : Nat → Nat} {ct wr ofs : Nat} (r : je_R s c ho hn hg hm hp wc wd tf K Z N B Y I O M P ct wr ofs) : je_s c (je_sh 12 K) (je_sh 12 Z) (je_sh 12 N) (je_sh 48 B) (je_sh 768 Y) := r.2.1
theorem je_R.hH {s c ho hn hg hm hp : Nat → Nat} {wc wd tf : Nat} {K Z N B Y I O M P : Nat → Nat} {ct wr ofs : Nat} (r : je_R s c ho hn hg hm hp wc wd tf K Z N B Y I O M P ct wr ofs) : je_H ho hn hg hm hp I O M P := r.2.2.1
theorem je_R.ec {s c ho hn hg hm hp : Nat → Nat} {wc wd tf : Nat} {K Z N B Y I O M P : Nat → Nat} {ct wr ofs : Nat} (r : je_R s c ho hn hg hm hp wc wd tf K Z N B Y I O M P ct wr ofs) : wc = ct := r.2.2.2.1
theorem je_R.ew {s c ho hn hg hm hp : Nat → Nat} {wc wd tf : Nat} {K Z N B Y I O M P : Nat → Nat} {ct wr ofs : Nat} (r : je_R s c ho hn hg hm hp wc wd tf K Z N B Y I O M P ct wr ofs) : wd = wr := r.2.2.2.2.1
theorem je_R.et {s c ho hn hg hm hp : Nat → Nat} {wc wd tf : Nat} {K Z N B Y I O M P : Nat → Nat} {ct wr ofs : Nat} (r : je_R s c ho hn hg hm hp wc wd tf K Z N B Y I O M P ct wr ofs) : tf = ofs := r.2.2.2.2.2.1
theorem je_R.cl {s c ho hn hg hm hp : Nat → Nat} {wc wd tf : Nat} {K Z N B Y I O M P : Nat → Nat} {ct wr ofs : Nat} (r : je_R s c ho hn hg hm hp wc wd tf K Z N B Y I O M P ct wr ofs) : ct ≤ 100 := r.2.2.2.2.2.2
theorem je_R.op {s c ho hn hg hm hp : Nat → Nat} {wc wd tf : Nat} {K Z N B Y I O M P : Nat → Nat} {ct wr ofs : Nat} (r : je_R s c ho hn hg hm hp wc wd tf K Z N B Y I O M P ct wr ofs) : ∀ h, h < 6 → (ho h = 0 ↔ I h = 0) := r.2.2.1.1
theorem je_R.ha {s c ho hn hg hm hp : Nat → Nat} {wc wd tf : Nat} {K Z N B Y I O M P : Nat → Nat} {ct wr ofs : Nat} (r : je_R s c ho hn hg hm hp wc wd tf K Z N B Y I O M P ct wr ofs) : ∀ h, h < 6 → I h ≠ 0 → hn h = I h - 1 ∧ hg h = O h ∧ hm h = M h ∧ hp h = P h ∧ 1 ≤ M h := r.2.2.1.2.1
theorem je_R.ho2 {s c ho hn hg hm hp : Nat → Nat} {wc wd tf : Nat} {K Z N B Y I O M P : Nat → Nat} {ct wr ofs : Nat} (r : je_R s c ho hn hg hm hp wc wd tf K Z N B Y I O M P ct wr ofs) : jlt 2 ho := r.2.2.1.2.2.1
theorem je_R.hn2 {s c ho hn hg hm hp : Nat → Nat} {wc wd tf : Nat} {K Z N B Y I O M P : Nat → Nat} {ct wr ofs : Nat} (r : je_R s c ho hn hg hm hp wc wd tf K Z N B Y I O M P ct wr ofs) : jlt 256 hn := r.2.2.1.2.2.2.1
theorem je_R.hg2 {s c ho hn hg hm hp : Nat → Nat} {wc wd tf : Nat} {K Z N B Y I O M P : Nat → Nat} {ct wr ofs : Nat} (r : je_R s c ho hn hg hm hp wc wd tf K Z N B Y I O M P ct wr ofs) : jlt 256 hg := r.2.2.1.2.2.2.2.1
theorem je_R.hm2 {s c ho hn hg hm hp : Nat → Nat} {wc wd tf : Nat} {K Z N B Y I O M P : Nat → Nat} {ct wr ofs : Nat} (r : je_R s c ho hn hg hm hp wc wd tf K Z N B Y I O M P ct wr ofs) : jlt 5 hm := r.2.2.1.2.2.2.2.2.1
theorem je_R.hp2 {s c ho hn hg hm hp : Nat → Nat} {wc wd tf : Nat} {K Z N B Y I O M P : Nat → Nat} {ct wr ofs : Nat} (r : je_R s c ho hn hg hm hp wc wd tf K Z N B Y I O M P ct wr ofs) : jlt 65 hp := r.2.2.1.2.2.2.2.2.2.1
theorem je_R.i2 {s c ho hn hg hm hp : Nat → Nat} {wc wd tf : Nat} {K Z N B Y I O M P : Nat → Nat} {ct wr ofs : Nat} (r : je_R s c ho hn hg hm hp wc wd tf K Z N B Y I O M P ct wr ofs) : jlt 13 I := r.2.2.1.2.2.2.2.2.2.2.1
theorem je_R.o2 {s c ho hn hg hm hp : Nat → Nat} {wc wd tf : Nat} {K Z N B Y I O M P : Nat → Nat} {ct wr ofs : Nat} (r : je_R s c ho hn hg hm hp wc wd tf K Z N B Y I O M P ct wr ofs) : jlt 256 O := r.2.2.1.2.2.2.2.2.2.2.2.1
theorem je_R.m2 {s c ho hn hg hm hp : Nat → Nat} {wc wd tf : Nat} {K Z N B Y I O M P : Nat → Nat} {ct wr ofs : Nat} (r : je_R s c ho hn hg hm hp wc wd tf K Z N B Y I O M P ct wr ofs) : jlt 5 M := r.2.2.1.2.2.2.2.2.2.2.2.2.1
theorem je_R.p2 {s c ho hn hg hm hp : Nat → Nat} {wc wd tf : Nat} {K Z N B Y I O M P : Nat → Nat} {ct wr ofs : Nat} (r : je_R s c ho hn hg hm hp wc wd tf K Z N B Y I O M P ct wr ofs) : jlt 65 P := r.2.2.1.2.2.2.2.2.2.2.2.2.2
theorem je_R.pos {s c ho hn hg hm hp : Nat → Nat} {wc wd tf : Nat} {K Z N B Y I O M P : Nat → Nat} {ct wr ofs : Nat} (r : je_R s c ho hn hg hm hp wc wd tf K Z N B Y I O M P ct wr ofs) (h : Nat) {v : Nat} (hv : v ≤ 64) : je_R s c ho hn hg hm (ju hp h v) wc wd tf K Z N B Y I O M (ju P h v) ct wr ofs := by
  refine ⟨r.s0, r.s1, ⟨r.op, ?_, r.ho2, r.hn2, r.hg2, r.hm2, ju_lt r.hp2 (by omega), r.i2, r.o2, r.m2, ju_lt r.p2 (by omega)⟩, r.2.2.2⟩
  intro g hg2 hg0
  obtain ⟨b1, b2, b3, b4, b5⟩ := r.ha g hg2 hg0
  refine ⟨b1, b2, b3, ?_, b5⟩
  unfold ju
  split
  · rfl
  · exact b4
section
variable {s c ho hn hg hm hp : Nat → Nat} {wc wd tf : Nat} {K Z N B Y I O M P : Nat → Nat} {ct wr ofs : Nat}
theorem je_R.tab (r : je_R s c ho hn hg hm hp wc wd tf K Z N B Y I O M P ct wr ofs) {t K2 Z2 N2 B2 Y2 : Nat → Nat} (h : je_s t K2 Z2 N2 B2 Y2) (hK : ∀ i, 12 ≤ i → K2 i = K i) (hZ : ∀ i, 12 ≤ i → Z2 i = Z i) (hN : ∀ i, 12 ≤ i → N2 i = N i) (hB : ∀ i, 48 ≤ i → B2 i = B i) (hY : ∀ i, 768 ≤ i → Y2 i = Y i) : je_R t c ho hn hg hm hp wc wd tf K2 Z2 N2 B2 Y2 I O M P ct wr ofs := by
  have e1 : je_sh 12 K2 = je_sh 12 K := funext fun k => hK _ (by omega)
  have e2 : je_sh 12 Z2 = je_sh 12 Z := funext fun k => hZ _ (by omega)
  have e3 : je_sh 12 N2 = je_sh 12 N := funext fun k => hN _ (by omega)
  have e4 : je_sh 48 B2 = je_sh 48 B := funext fun k => hB _ (by omega)
  have e5 : je_sh 768 Y2 = je_sh 768 Y := funext fun k => hY _ (by omega)
  refine ⟨h, ?_, r.2.2⟩
  rw [e1, e2, e3, e4, e5]
  exact r.s1
theorem je_resB_hi (B : Nat → Nat) (m i z : Nat) (hi : i < 12) : ∀ q, 48 ≤ q → jm_resB B m i z q = B q := by
  have : ∀ n m k (B : Nat → Nat), k + n = 4 → ∀ q, 48 ≤ q → jm_rsL i z n m k B q = B q := by
    intro n
    induction n with
    | zero => intro m k B _ q _; rfl
    | succ n ih =>
      intro m k B hk q hq
      unfold jm_rsL
      split
      · split
        · rw [ih _ _ _ (by omega) q hq, ju_ne (by omega)]
        · rw [ih _ _ _ (by omega) q hq]
      · rw [ih _ _ _ (by omega) q hq, ju_ne (by omega)]
  exact this 4 m 0 B rfl
theorem je_resY_hi (Y : Nat → Nat) (i z : Nat) (hz : z ≤ 64) (hi : i < 12) : ∀ a, 768 ≤ a → jm_resY Y i z a = Y a := by
  intro a ha
  unfold jm_resY
  rw [je_zL, if_neg (by omega)]
theorem je_resY_hi2 (Y : Nat → Nat) (i z : Nat) (hi : i < 12) : ∀ a, 768 ≤ a → jm_resY Y i z a = Y a := by
  intro a ha
  unfold jm_resY
  rw [je_zL]
  by_cases h : z ≤ 64
  · rw [if_neg (by omega)]
  · rw [if_neg (by omega)]
theorem je_drY_hi (Z Y : Nat → Nat) (d e : Nat) (hd : d < 12) (he : e < 32) : ∀ a, 768 ≤ a → jm_drY Z Y d e a = Y a := by
  intro a ha
  unfold jm_drY
  rw [je_resY_hi2 _ _ _ hd a ha, ju_ne (by omega), ju_ne (by omega)]
theorem je_s.room {s K Z N B Y : Nat → Nat} (h : je_s s K Z N B Y) {d : Nat} (hd : d < 12) (hk : K d = 2) : jf_hasRoomForEntry s d = jm_entryRoom Z B d 0 := by
  have hz := h.v.zd d hd hk
  unfold jf_hasRoomForEntry jm_entryRoom jf_startsBlock
  rw [h.entries hd, if_pos hk, je_free h.d]
  by_cases h1 : Z d < 32
  · rw [if_pos h1, if_pos (by omega)]
    by_cases h2 : Z d / 2 * 2 % 16 = 0
    · rw [if_pos h2, if_neg (by decide)]
      have e : jm_needed (Z d + 2) = jm_needed (Z d) + 1 := by unfold jm_needed; omega
      by_cases h3 : jm_free B = 0
      · rw [if_pos h3, if_pos (by omega)]
      · rw [if_neg h3, if_neg (by omega)]
    · rw [if_neg h2, if_pos rfl]
      have e : jm_needed (Z d + 2) = jm_needed (Z d) := by unfold jm_needed; omega
      rw [if_neg (by omega)]
  · rw [if_neg h1, if_neg (by omega)]
theorem je_entryRoom {Z B : Nat → Nat} {d more : Nat} (h : jm_entryRoom Z B d more ≠ 0) : Z d < 32 ∧ jm_needed (Z d + 2) ≤ jm_free B + more + jm_needed (Z d) := by
  have h1 := jm_entryRoom_32 h
  refine ⟨h1, ?_⟩
  unfold jm_entryRoom at h
  rw [if_pos h1] at h
  by_cases w : jm_free B + more + jm_needed (Z d) < jm_needed (Z d + 2)
  · rw [if_pos w] at h; exact absurd rfl h
  · omega
theorem je_v.occ_un {K Z B Y : Nat → Nat} (v : je_v K Z B Y) {i k : Nat} (hi : i < 12) (hk : K i = 0) : je_un (ju K i k) Z Y i := by
  intro d e hd h he
  by_cases q : d = i
  · rw [q, v.z0 i hi hk] at he; omega
  · rw [ju_ne q] at h
    exact v.un0 hk d e hd h he
theorem je_bad1 {u : Nat} (h : ¬ jm_badPath u = 0) : jm_badPath u = 1 := by
  have := jm_bpL_lt u 4 0
  unfold jm_badPath at h ⊢
  omega
/-- a new file or directory in p -/
theorem je_s.new {s K Z N B Y : Nat → Nat} (h : je_s s K Z N B Y) {p nm k m : Nat} (hp : p < 12) (hpk : K p = 2) (hnm : nm < 256) (hk : k = 1 ∨ k = 2) (hm : 40 ≤ m) (hi : jm_newInode K ≠ 12) (hr : jm_entryRoom Z B p 0 ≠ 0) (hn : jm_entryOf Z Y p nm = none) :
    je_s (jf_new s p nm k) (ju K (jm_newInode K) k) (ju Z p (Z p + 2)) (ju N (jm_newInode K) ((N (jm_newInode K) + 1) % 256)) (jm_resB B m p (Z p + 2)) (ju (ju (jm_resY Y p (Z p + 2)) (p * 64 + Z p) nm) (p * 64 + Z p + 1) (jm_newInode K)) := by
  have hn1 := je_newInode hi
  have hpi : p ≠ jm_newInode K := by intro q; rw [← q] at hn1; omega
  have hi0 : jm_newInode K ≠ 0 := by intro q; rw [q, h.v.rt] at hn1; omega
  have h1 := h.create (k := k) hn1.1 hn1.2 hk
  have hr2 := je_entryRoom hr
  have el : (jf_leastFree s).getD 0 = jm_newInode K := by rw [h.least, if_neg hi]; rfl
  unfold jf_new
  rw [el]
  exact h1.add hp (by rw [ju_ne hpi]; exact hpk) hr2.1 hm (by omega) hnm ⟨by omega, hn1.1⟩ (by rw [ju_eq rfl]; omega) (h.v.occ_un hn1.1 hn1.2) hn
theorem je_dir (r : je_R s c ho hn hg hm hp wc wd tf K Z N B Y I O M P ct wr ofs) {u m : Nat} (hu : u < 4294967296) (hm40 : 40 ≤ m) : jf_dirT s u = jm_diT K Z B Y u ∧ (jm_diT K Z B Y u = 0 → (jf_leastFree s).getD 0 = jm_newInode K ∧
    je_R (jf_new s ((jf_inodeAt s (u / 2 ^ 8)).getD 0) (u % 256) 2) c ho hn hg hm hp wc wd tf (ju K (jm_newInode K) 2) (ju Z ((jm_lead K Z Y u).2.1.getD 0) (Z ((jm_lead K Z Y u).2.1.getD 0) + 2)) (ju N (jm_newInode K) ((N (jm_newInode K) + 1) % 256)) (jm_resB B m ((jm_lead K Z Y u).2.1.getD 0) (Z ((jm_lead K Z Y u).2.1.getD 0) + 2)) (ju (ju (jm_resY Y ((jm_lead K Z Y u).2.1.getD 0) (Z ((jm_lead K Z Y u).2.1.getD 0) + 2)) (((jm_lead K Z Y u).2.1.getD 0) * 64 + Z ((jm_lead K Z Y u).2.1.getD 0)) (jm_lead K Z Y u).2.2.2.2) (((jm_lead K Z Y u).2.1.getD 0) * 64 + Z ((jm_lead K Z Y u).2.1.getD 0) + 1) (jm_newInode K)) I O M P ct wr ofs) := by
  have h := r.s0
  unfold jf_dirT jm_diT
  rw [je_path hu]
  by_cases hb : jm_badPath u = 0
  · rw [if_pos hb, if_pos hb]
    by_cases h0 : u = 0
    · subst h0
      rw [h.at, je_lead0]
      simp
    · have hl := h.last hu hb h0
      have ha := h.at u
      by_cases h1 : (jm_lead K Z Y u).1 = 0
      · rw [if_pos h1] at ha
        rw [ha, if_pos h1, hl.1, if_pos h1]
        simp
      · rw [if_neg h1] at ha
        rw [ha, if_neg h1]
        obtain ⟨⟨p, hp1, hp2, hp3, hp4, hp5⟩, hla⟩ := hl.2 h1
        cases hf : (jm_lead K Z Y u).2.2.2.1 with
        | some f => simp
        | none =>
          simp only []
          obtain ⟨p', hq1, -, -, hq4⟩ := jm_lead_none h.v.ents h1 hf
          rw [hl.1, if_neg h1, if_pos rfl, hp4, hp3, hla]
          show jf_rnT s p = (if jm_newInode K = 12 then 4 else if jm_entryRoom Z B p 0 = 0 then 4 else 0) ∧ _
          have et : jf_rnT s p = (if jm_newInode K = 12 then 4 else if jm_entryRoom Z B p 0 = 0 then 4 else 0) := by
            unfold jf_rnT
            rw [h.least, h.room hp1 hp2]
            by_cases hi : jm_newInode K = 12
            · rw [if_pos hi, if_pos hi]
            · rw [if_neg hi, if_neg hi]
          refine ⟨et, fun hT => ?_⟩
          change (if jm_newInode K = 12 then 4 else if jm_entryRoom Z B p 0 = 0 then 4 else 0) = 0 at hT
          by_cases hi : jm_newInode K = 12
          · rw [if_pos hi] at hT; cases hT
          · rw [if_neg hi] at hT
            by_cases hr : jm_entryRoom Z B p 0 = 0
            · rw [if_pos hr] at hT; cases hT
            · have hin := je_newInode hi
              have hzz := je_entryRoom hr
              refine ⟨by rw [h.least, if_neg hi]; rfl, ?_⟩
              exact r.tab (h.new hp1 hp2 (Nat.mod_lt _ (by decide)) (Or.inr rfl) hm40 hi hr (hp5.symm.trans hq4)) (fun i hi => ju_ne (by omega)) (fun i hi => ju_ne (show i ≠ p by omega)) (fun i hi => ju_ne (by omega)) (fun i hi => je_resB_hi _ _ _ _ hp1 i hi) (fun i hi => by
                show ju (ju (jm_resY Y p (Z p + 2)) (p * 64 + Z p) (u % 256)) (p * 64 + Z p + 1) (jm_newInode K) i = Y i
                rw [ju_ne (by omega), ju_ne (by omega)]; exact je_resY_hi2 _ _ _ hp1 i hi)
  · rw [if_neg hb, if_neg hb, je_bad1 hb]
    simp
end
