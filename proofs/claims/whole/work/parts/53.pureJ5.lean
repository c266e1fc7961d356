theorem jx_lt {a b : Nat} (ha : a < 2 ^ 31) (hb : b < 2 ^ 31) : nI a < nI b ↔ a < b := by
  rw [Int32.lt_iff_toInt_lt, nI_toInt (by omega), nI_toInt (by omega)]
  omega
theorem jx_max {a b : Nat} (ha : a < 2 ^ 31) (hb : b < 2 ^ 31) : (if nI a < nI b then nI b else nI a) = nI (max a b) := by
  by_cases h : a < b
  · rw [if_pos ((jx_lt ha hb).mpr h), Nat.max_eq_right (by omega)]
  · rw [if_neg (fun q => h ((jx_lt ha hb).mp q)), Nat.max_eq_left (by omega)]
theorem jx_min {a b : Nat} (ha : a < 2 ^ 31) (hb : b < 2 ^ 31) : (if nI b < nI a then nI b else nI a) = nI (min a b) := by
  by_cases h : b < a
  · rw [if_pos ((jx_lt hb ha).mpr h), Nat.min_eq_right (by omega)]
  · rw [if_neg (fun q => h ((jx_lt hb ha).mp q)), Nat.min_eq_left (by omega)]
theorem jx_maxD {a b : Nat} (ha : a < 2 ^ 30) (hb : b < 2 ^ 30) : (if nI 0 < nI a - nI b then nI a - nI b else nI 0) = nI (a - b) := by
  have e1 := pk_sub_toInt ha hb
  have e0 : (nI 0).toInt = 0 := by decide
  by_cases h : b < a
  · rw [if_pos (by rw [Int32.lt_iff_toInt_lt, e0, e1]; omega)]
    apply Int32.toInt_inj.mp
    rw [e1, nI_toInt (by omega)]
    omega
  · rw [if_neg (by rw [Int32.lt_iff_toInt_lt, e0, e1]; omega), show a - b = 0 by omega]
def jf_wbL (i p b : Nat) : Nat → Nat → (Nat → Nat) → (Nat → Nat)
  | 0, _, s => s
  | n + 1, k, s => jf_wbL i p b n (k + 1) (jf_putByte s i (p + k) (b / 2 ^ (8 * k) % 256))
def jf_wriT (s ho hn hg hm hp : Nat → Nat) (h z : Nat) : Nat := if jf_rng h 0 5 = 0 then (if jf_rng z 0 8 = 0 then (if jf_usT s ho hn hg hm h = 0 then (if jf_wrs (hm h) = 0 then 3 else if z = 0 then 0 else jf_rsT s (hn h) (max (jf_size s (hn h)) (hp h + z))) else jf_usT s ho hn hg hm h) else jf_rng z 0 8) else jf_rng h 0 5
theorem jf_rsT_0 {s : Nat → Nat} {i z : Nat} (h : jf_rsT s i z = 0) : z ≤ 64 := by
  unfold jf_rsT at h
  by_cases g : 64 < z
  · simp [g] at h
  · omega
def jf_rbL (s : Nat → Nat) (i p : Nat) : Nat → Nat → Nat → Nat
  | 0, _, b => b
  | n + 1, k, b => jf_rbL s i p n (k + 1) (b ||| jf_byteOf s i (p + k) * 2 ^ (8 * k))
def jf_reaT (s ho hn hg hm : Nat → Nat) (h z : Nat) : Nat := if jf_rng h 0 5 = 0 then (if jf_rng z 0 8 = 0 then (if jf_usT s ho hn hg hm h = 0 then (if jf_rds (hm h) = 0 then 3 else 0) else jf_usT s ho hn hg hm h) else jf_rng z 0 8) else jf_rng h 0 5
def jf_rmT (s : Nat → Nat) (u : Nat) : Nat := if jf_path u = 0 then (if jf_inT s u = 0 then (if (jf_inodeAt s u).getD 0 = 0 then 3 else if jf_entries s ((jf_inodeAt s u).getD 0) = 0 then 0 else 3) else jf_inT s u) else jf_path u
theorem jf_mvT_0 {s : Nat → Nat} {u v r : Nat} {o : Option Nat} (h : jf_mvT s u v r o = 0) : ¬ u = 0 := by
  intro q
  simp [jf_mvT, q] at h
def jf_rnmT (s : Nat → Nat) (u v : Nat) : Nat := if jf_path u = 0 then (if jf_path v = 0 then (if jf_inT s u = 0 then (if jf_paT s v = 0 then (if jf_mvT s u v ((jf_inodeAt s u).getD 0) (jf_inodeAt s v) = 0 then (match jf_inodeAt s v with
  | some _ => 0
  | none => if jf_hral s ((jf_inodeAt s (u / 2 ^ 8)).getD 0) ((jf_inodeAt s (v / 2 ^ 8)).getD 0) = 0 then 4 else 0) else jf_mvT s u v ((jf_inodeAt s u).getD 0) (jf_inodeAt s v)) else jf_paT s v) else jf_inT s u) else jf_path v) else jf_path u
def jf_rnmS (s : Nat → Nat) (u v : Nat) : Nat → Nat := match jf_inodeAt s v with
  | none => jf_addEntry (jf_dropEntry s ((jf_inodeAt s (u / 2 ^ 8)).getD 0) (u % 256)) ((jf_inodeAt s (v / 2 ^ 8)).getD 0) (v % 256) ((jf_inodeAt s u).getD 0)
  | some r => jf_vacate (jf_redirect (jf_dropEntry s ((jf_inodeAt s (u / 2 ^ 8)).getD 0) (u % 256)) ((jf_inodeAt s (v / 2 ^ 8)).getD 0) (v % 256) ((jf_inodeAt s u).getD 0)) r
