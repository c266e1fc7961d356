theorem je_mark0 (s : Nat → Nat) {b : Nat} (hb : b < 8) (a : Nat) : jf_get (jf_mark s b 1) a = if a = 0 then jf_clr (jf_get s 0) b + 2 ^ b else jf_get s a := by
  rw [je_mark s (by omega), show b / 8 = 0 by omega, show b % 8 = b by omega, if_neg (show ¬ 1 = 0 by decide)]
theorem je_s0 : ∀ a, jf_get jf_s0 a = if a = 0 then 255 else if a = 1 then 1 else 0 := by
  intro a
  have h0 : ∀ a, jf_get (fun _ => 0) a = 0 := by intro a; unfold jf_get; split <;> rfl
  show jf_get (jf_mark (jf_mark (jf_mark (jf_mark (jf_mark (jf_mark (jf_mark (jf_mark (jf_mark (fun _ => 0) 0 1) 1 1) 2 1) 3 1) 4 1) 5 1) 6 1) 7 1) 8 1) a = _
  rw [je_mark _ (show 8 < 40 by decide), show 8 / 8 = 1 by decide, show 8 % 8 = 0 by decide, if_neg (show ¬ 1 = 0 by decide)]
  simp only [je_mark0 _ (show 7 < 8 by decide), je_mark0 _ (show 6 < 8 by decide), je_mark0 _ (show 5 < 8 by decide), je_mark0 _ (show 4 < 8 by decide), je_mark0 _ (show 3 < 8 by decide), je_mark0 _ (show 2 < 8 by decide), je_mark0 _ (show 1 < 8 by decide), je_mark0 _ (show 0 < 8 by decide), h0]
  by_cases w : a = 0
  · subst w; decide
  · by_cases w1 : a = 1
    · subst w1; decide
    · simp [w, w1]
theorem je_R0 : je_R (jf_occupy jf_s0 0 2) (jf_cpy (jf_occupy jf_s0 0 2) (fun _ => 0)) (fun _ => 0) (fun _ => 0) (fun _ => 0) (fun _ => 0) (fun _ => 0) 0 0 0 (ju (ju (fun _ => 0) 0 2) 12 2) (fun _ => 0) (ju (ju (fun _ => 0) 0 1) 12 1) (fun _ => 0) (fun _ => 0) (fun _ => 0) (fun _ => 0) (fun _ => 0) (fun _ => 0) 0 0 0 := by
  have h := je_first (s := jf_occupy jf_s0 0 2) rfl jf_s0_ok je_s0
  have hz : ∀ n, 0 < n → jlt n (fun _ => 0) := fun n hn _ => hn
  refine ⟨h, h.congr (jf_cpy_ok h.ok (fun _ => by show 0 < 256; decide)) (je_get_cpy _ _) ?_ (fun _ _ => rfl) ?_ (fun _ _ => rfl) (fun _ _ => rfl) (je_sh_lt h.k3) (je_sh_lt h.z6) (je_sh_lt h.n2) (je_sh_lt h.b4) (je_sh_lt h.y2), ⟨fun _ _ => Iff.rfl, fun _ _ h => absurd rfl h, hz _ (by decide), hz _ (by decide), hz _ (by decide), hz _ (by decide), hz _ (by decide), hz _ (by decide), hz _ (by decide), hz _ (by decide), hz _ (by decide)⟩, rfl, rfl, rfl, by decide⟩
  · intro i hi
    unfold je_sh ju
    by_cases w : i = 0
    · subst w; decide
    · rw [if_neg (by omega), if_neg (by omega), if_neg (by omega), if_neg (by omega)]
  · intro i hi
    unfold je_sh ju
    by_cases w : i = 0
    · subst w; decide
    · rw [if_neg (by omega), if_neg (by omega), if_neg (by omega), if_neg (by omega)]
