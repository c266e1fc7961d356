/-! which throws a call may end in -/
theorem jk_rng (v lo hi : Nat) : jf_rng v lo hi = 0 ∨ jf_rng v lo hi = 1 := by unfold jf_rng; split <;> simp
theorem jk_cpL : ∀ n r, jf_cpL n r = 0 ∨ jf_cpL n r = 1 := by
  intro n
  induction n with
  | zero => intro r; exact Or.inl rfl
  | succ n ih =>
    intro r
    unfold jf_cpL
    split
    · exact Or.inl rfl
    · split
      · exact Or.inr rfl
      · exact ih _
theorem jk_path (u : Nat) : jf_path u = 0 ∨ jf_path u = 1 := jk_cpL 4 u
theorem jk_in (s : Nat → Nat) (u : Nat) : jf_inT s u = 0 ∨ jf_inT s u = 2 := by unfold jf_inT; split <;> simp
theorem jk_pa (s : Nat → Nat) (u : Nat) : jf_paT s u = 0 ∨ jf_paT s u = 2 := by
  unfold jf_paT
  split
  · simp
  · split <;> simp
theorem jk_rn (s : Nat → Nat) (u : Nat) : jf_rnT s u = 0 ∨ jf_rnT s u = 4 := by
  unfold jf_rnT
  split
  · simp
  · split <;> simp
theorem jk_rs (s : Nat → Nat) (i z : Nat) : jf_rsT s i z = 0 ∨ jf_rsT s i z = 4 := by
  unfold jf_rsT
  split
  · simp
  · split <;> simp
theorem jk_ch (ho : Nat → Nat) : jf_chT ho = 0 ∨ jf_chT ho = 4 := by unfold jf_chT; split <;> simp
theorem jk_us (s ho hn hg hm : Nat → Nat) (h : Nat) : jf_usT s ho hn hg hm h = 0 ∨ jf_usT s ho hn hg hm h = 3 := by
  unfold jf_usT
  split
  · simp
  · split <;> simp
theorem jk_mv (s : Nat → Nat) (u v r : Nat) (o : Option Nat) : jf_mvT s u v r o = 0 ∨ jf_mvT s u v r o = 3 := by
  unfold jf_mvT
  split
  · simp
  · split
    · simp
    · split
      · split
        · simp
        · split
          · split <;> simp
          · simp
      · simp
theorem jk_dir (s : Nat → Nat) (u : Nat) : jf_dirT s u = 0 ∨ jf_dirT s u = 1 ∨ jf_dirT s u = 2 ∨ jf_dirT s u = 3 ∨ jf_dirT s u = 4 := by
  have a := jk_path u
  have b := jk_pa s u
  have c := jk_rn s ((jf_inodeAt s (u / 2 ^ 8)).getD 0)
  unfold jf_dirT
  split
  · split
    · simp
    · split <;> omega
  · omega
theorem jk_op (s ho : Nat → Nat) (u z cr : Nat) : jf_opT s ho u z cr = 0 ∨ jf_opT s ho u z cr = 1 ∨ jf_opT s ho u z cr = 2 ∨ jf_opT s ho u z cr = 3 ∨ jf_opT s ho u z cr = 4 := by
  have a := jk_path u
  have b := jk_pa s u
  have c := jk_rn s ((jf_inodeAt s (u / 2 ^ 8)).getD 0)
  have d := jk_rng z 1 4
  have e := jk_ch ho
  unfold jf_opT
  split
  · split
    · split
      · split
        · simp
        · split
          · simp
          · split
            · split <;> omega
            · omega
      · split
        · omega
        · simp
    · omega
  · omega
theorem jk_close (ho : Nat → Nat) (h : Nat) : jf_closeT ho h = 0 ∨ jf_closeT ho h = 1 ∨ jf_closeT ho h = 3 := by
  have d := jk_rng h 0 5
  unfold jf_closeT
  split
  · split <;> simp
  · omega
theorem jk_wri (s ho hn hg hm hp : Nat → Nat) (h z : Nat) : jf_wriT s ho hn hg hm hp h z = 0 ∨ jf_wriT s ho hn hg hm hp h z = 1 ∨ jf_wriT s ho hn hg hm hp h z = 3 ∨ jf_wriT s ho hn hg hm hp h z = 4 := by
  have d := jk_rng h 0 5
  have d2 := jk_rng z 0 8
  have e := jk_us s ho hn hg hm h
  have f := jk_rs s (hn h) (max (jf_size s (hn h)) (hp h + z))
  unfold jf_wriT
  split
  · split
    · split
      · split
        · simp
        · split
          · simp
          · omega
      · omega
    · omega
  · omega
theorem jk_rea (s ho hn hg hm : Nat → Nat) (h z : Nat) : jf_reaT s ho hn hg hm h z = 0 ∨ jf_reaT s ho hn hg hm h z = 1 ∨ jf_reaT s ho hn hg hm h z = 3 := by
  have d := jk_rng h 0 5
  have d2 := jk_rng z 0 8
  have e := jk_us s ho hn hg hm h
  unfold jf_reaT
  split
  · split
    · split
      · split <;> simp
      · omega
    · omega
  · omega
theorem jk_seek (s ho hn hg hm : Nat → Nat) (h z : Nat) : jf_seekT s ho hn hg hm h z = 0 ∨ jf_seekT s ho hn hg hm h z = 1 ∨ jf_seekT s ho hn hg hm h z = 3 := by
  have d := jk_rng h 0 5
  have d2 := jk_rng z 0 64
  have e := jk_us s ho hn hg hm h
  unfold jf_seekT
  split
  · split
    · split
      · split <;> simp
      · omega
    · omega
  · omega
theorem jk_next (s ho hn hg hm : Nat → Nat) (h : Nat) : jf_nextT s ho hn hg hm h = 0 ∨ jf_nextT s ho hn hg hm h = 1 ∨ jf_nextT s ho hn hg hm h = 3 := by
  have d := jk_rng h 0 5
  have e := jk_us s ho hn hg hm h
  unfold jf_nextT
  split
  · split
    · split <;> simp
    · omega
  · omega
theorem jk_rm (s : Nat → Nat) (u : Nat) : jf_rmT s u = 0 ∨ jf_rmT s u = 1 ∨ jf_rmT s u = 2 ∨ jf_rmT s u = 3 := by
  have a := jk_path u
  have b := jk_in s u
  unfold jf_rmT
  split
  · split
    · split
      · simp
      · split <;> simp
    · omega
  · omega
theorem jk_rnm (s : Nat → Nat) (u v : Nat) : jf_rnmT s u v = 0 ∨ jf_rnmT s u v = 1 ∨ jf_rnmT s u v = 2 ∨ jf_rnmT s u v = 3 ∨ jf_rnmT s u v = 4 := by
  have a := jk_path u
  have a2 := jk_path v
  have b := jk_in s u
  have b2 := jk_pa s v
  have c := jk_mv s u v ((jf_inodeAt s u).getD 0) (jf_inodeAt s v)
  unfold jf_rnmT
  split
  · split
    · split
      · split
        · split
          · split
            · simp
            · split <;> simp
          · omega
        · omega
      · omega
    · omega
  · omega
theorem jk_tru (s : Nat → Nat) (u z : Nat) : jf_truT s u z = 0 ∨ jf_truT s u z = 1 ∨ jf_truT s u z = 2 ∨ jf_truT s u z = 3 ∨ jf_truT s u z = 4 := by
  have a := jk_path u
  have b := jk_in s u
  have d2 := jk_rng z 0 64
  have c := jk_rs s ((jf_inodeAt s u).getD 0) z
  unfold jf_truT
  split
  · split
    · split
      · split
        · omega
        · simp
      · omega
    · omega
  · omega
theorem jk_stat (s : Nat → Nat) (u z : Nat) : jf_statT s u z = 0 ∨ jf_statT s u z = 1 ∨ jf_statT s u z = 2 := by
  have a := jk_path u
  have b := jk_in s u
  have d2 := jk_rng z 0 4
  unfold jf_statT
  split
  · split <;> omega
  · omega
theorem jk_c (d w : Nat) : jf_cT d w = 0 ∨ jf_cT d w = 3 := by
  unfold jf_cT
  split
  · simp
  · split <;> simp
theorem jk_block (b i : Nat) : jf_blockT b i = 0 ∨ jf_blockT b i = 1 := by
  have a := jk_rng b 0 39
  have c := jk_rng i 0 15
  unfold jf_blockT
  split <;> omega
