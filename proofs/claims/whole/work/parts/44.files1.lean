set_option maxHeartbeats 4000000 in
set_option maxRecDepth 100000 in
theorem ct_J_parentPath (l : Launch) (G : va_G) (u : Nat) (hu0 : u < 4294967296) : jr l yn_J_parentPath (.code yn_J_parentPath cd_J_parentPath 1 (some .int)) { frames := 0, cells := 0, slots := 0, locals := 0 } G ([]) ([]) [.int (nI (u))] (nI (u / 2 ^ 8)) := by
  refine jr_of (by decide) (Nat.le_of_ble_eq_true rfl) ?_
  intro pr en σ mi bel met cd ls C hP hK hl
  have hx := C.1
  have hb := C.2.1
  have hown := C.2.2.2.1
  have hts := C.2.2.2.2.1
  have hl : lv_has ls 1 [(0, .int (nI (u)))] := hl
  refine lv_iload_n hx hb dd_J_parentPath_0 rfl (lv_at hl 0 rfl) ?_
  refine lv_bipush (v := nI 8) hx hb dd_J_parentPath_1 (by decide) ?_
  refine jl_iushr hx hb (by omega) (by omega) dd_J_parentPath_3 ?_
  exact jr_ret C (by first | with_reducible rfl | (simp []; done) | (simp_all []; done)) dd_J_parentPath_4
set_option maxHeartbeats 4000000 in
set_option maxRecDepth 100000 in
theorem ct_J_isAtOrBelow (l : Launch) (G : va_G) (u : Nat) (a : Nat) (hu0 : u < 4294967296) (ha0 : a < 4294967296) : jr l yn_J_isAtOrBelow (.code yn_J_isAtOrBelow cd_J_isAtOrBelow 4 (some .boolean)) { frames := 1, cells := 0, slots := 0, locals := 20 } G ([]) ([]) [.int (nI (u)), .int (nI (a))] (nI (jf_below u a)) := by
  refine jr_of (by decide) (Nat.le_of_ble_eq_true rfl) ?_
  intro pr en σ mi bel met cd ls C hP hK hl
  have hx := C.1
  have hb := C.2.1
  have hown := C.2.2.2.1
  have hts := C.2.2.2.2.1
  have hl : lv_has ls 4 [(0, .int (nI (u))), (1, .int (nI (a)))] := hl
  refine lv_iload_n hx hb dd_J_isAtOrBelow_0 rfl (lv_at hl 0 rfl) ?_
  refine lv_istore_n (lv' := [(2, .int (nI (u))), (0, .int (nI (u))), (1, .int (nI (a)))]) hx hb dd_J_isAtOrBelow_1 rfl hl (by decide) rfl (fun ls hl => ?_)
  refine lv_iconst (v := nI 0) hx hb dd_J_isAtOrBelow_2 (by decide) ?_
  refine lv_istore_n (lv' := [(3, .int (nI (0))), (2, .int (nI (u))), (0, .int (nI (u))), (1, .int (nI (a)))]) hx hb dd_J_isAtOrBelow_3 rfl hl (by decide) rfl (fun ls hl => ?_)
  have loop : ∀ (n : Nat) (r : Nat) (k : Nat), (k + n = 4 ∧ r < 4294967296) → jf_abL a n r = jf_below u a → ∀ ls : Array Slot, lv_has ls 4 [(3, .int (nI (k))), (2, .int (nI (r))), (0, .int (nI (u))), (1, .int (nI (a)))] → W pr l en { frames := 1, cells := 0, slots := 0, locals := 20 } σ mi ([.int (nI (u)), .int (nI (a))] : List Value).toArray bel met cd σ.heap [] 0 0 (jr_Q bel [.int (nI (u)), .int (nI (a))] σ (nI (jf_below u a))) (F0 mi 4 ls []) := by
    intro n
    induction n with
    | zero =>
      intro r k hi  ht ls hl
      refine lv_iload_n hx hb dd_J_isAtOrBelow_4 rfl (lv_at hl 0 rfl) ?_
      refine lv_iconst (v := nI 4) hx hb dd_J_isAtOrBelow_5 (by decide) ?_
      refine jl_ge (tgt := 27) hx hb (by omega) (by omega) dd_J_isAtOrBelow_6 (by decide) (fun c_1 => ?_) (fun c_1 => ?_)
      · skip
        refine lv_iload_n hx hb dd_J_isAtOrBelow_27 rfl (lv_at hl 3 rfl) ?_
        refine jl_ifne32 (tgt := 35) hx hb (by omega) dd_J_isAtOrBelow_28 (by decide) (fun c_2 => ?_) (fun c_2 => ?_)
        · skip
          refine lv_iconst (v := nI 0) hx hb dd_J_isAtOrBelow_35 (by decide) ?_
          exact jr_retz C (by decide) (by rw [← ht]; first | with_reducible rfl | (simp [jf_abL, c_1, c_2]; done)) dd_J_isAtOrBelow_36
        · skip
          refine lv_iconst (v := nI 1) hx hb dd_J_isAtOrBelow_31 (by decide) ?_
          refine lv_goto (tgt := 36) hx hb dd_J_isAtOrBelow_32 (by decide) ?_
          exact jr_retz C (by decide) (by rw [← ht]; first | with_reducible rfl | (simp [jf_abL, c_1, c_2]; done)) dd_J_isAtOrBelow_36
      · skip
        exact absurd c_1 (by omega)
    | succ n ih =>
      intro r k hi  ht ls hl
      refine lv_iload_n hx hb dd_J_isAtOrBelow_4 rfl (lv_at hl 0 rfl) ?_
      refine lv_iconst (v := nI 4) hx hb dd_J_isAtOrBelow_5 (by decide) ?_
      refine jl_ge (tgt := 27) hx hb (by omega) (by omega) dd_J_isAtOrBelow_6 (by decide) (fun c_3 => ?_) (fun c_3 => ?_)
      · skip
        exact absurd c_3 (by omega)
      · skip
        refine lv_iload_n hx hb dd_J_isAtOrBelow_9 rfl (lv_at hl 1 rfl) ?_
        refine lv_iload_n hx hb dd_J_isAtOrBelow_10 rfl (lv_at hl 3 rfl) ?_
        refine jl_ne32 (tgt := 16) hx hb (by omega) (by omega) dd_J_isAtOrBelow_11 (by decide) (fun c_4 => ?_) (fun c_4 => ?_)
        · skip
          refine lv_iload_n hx hb dd_J_isAtOrBelow_16 rfl (lv_at hl 1 rfl) ?_
          refine jr_callS0 C (ct_J_parentPath l G r (by omega)) kl_J_161 ⟨Nat.le_of_ble_eq_true rfl, Nat.le_of_ble_eq_true rfl, rfl, rfl⟩ ⟨Nat.le_of_ble_eq_true rfl, Nat.le_of_ble_eq_true rfl⟩ hK hl.1 rfl rfl (Nat.le_of_ble_eq_true rfl) dd_J_isAtOrBelow_17 ?_
          refine lv_istore_n (lv' := [(2, .int (nI (r / 2 ^ 8))), (3, .int (nI (k))), (0, .int (nI (u))), (1, .int (nI (a)))]) hx hb dd_J_isAtOrBelow_20 rfl hl (by decide) rfl (fun ls hl => ?_)
          refine jl_iinc (lv' := [(3, .int (nI (k + 1))), (2, .int (nI (r / 2 ^ 8))), (0, .int (nI (u))), (1, .int (nI (a)))]) hx hb dd_J_isAtOrBelow_21 hl (k := 1) rfl (by decide) rfl (fun ls hl => ?_)
          refine lv_goto (tgt := 4) hx hb dd_J_isAtOrBelow_24 (by decide) ?_
          exact ih (r / 2 ^ 8) (k + 1) (by omega) (by simpa [jf_abL, c_3, c_4] using ht) ls (lv_sub hl [0, 1, 2, 3] rfl)
        · skip
          refine lv_iconst (v := nI 1) hx hb dd_J_isAtOrBelow_14 (by decide) ?_
          exact jr_retz C (by decide) (by rw [← ht]; first | with_reducible rfl | (simp [jf_abL, c_3, c_4]; done)) dd_J_isAtOrBelow_15
  exact loop 4 u 0 (by omega) (rfl) ls (lv_sub hl [0, 1, 2, 3] rfl)
set_option maxHeartbeats 4000000 in
set_option maxRecDepth 100000 in
theorem ct_J_writesBy (l : Launch) (G : va_G) (z : Nat) (hz0 : z < 4294967296) : jr l yn_J_writesBy (.code yn_J_writesBy cd_J_writesBy 1 (some .boolean)) { frames := 0, cells := 0, slots := 0, locals := 0 } G ([]) ([]) [.int (nI (z))] (nI (jf_wrs z)) := by
  refine jr_of (by decide) (Nat.le_of_ble_eq_true rfl) ?_
  intro pr en σ mi bel met cd ls C hP hK hl
  have hx := C.1
  have hb := C.2.1
  have hown := C.2.2.2.1
  have hts := C.2.2.2.2.1
  have hl : lv_has ls 1 [(0, .int (nI (z)))] := hl
  refine lv_iload_n hx hb dd_J_writesBy_0 rfl (lv_at hl 0 rfl) ?_
  refine lv_iconst (v := nI 2) hx hb dd_J_writesBy_1 (by decide) ?_
  refine jl_eq32 (tgt := 10) hx hb (by omega) (by omega) dd_J_writesBy_2 (by decide) (fun c_1 => ?_) (fun c_1 => ?_)
  · skip
    refine lv_iconst (v := nI 1) hx hb dd_J_writesBy_10 (by decide) ?_
    refine lv_goto (tgt := 15) hx hb dd_J_writesBy_11 (by decide) ?_
    exact jr_retz C (by decide) (by first | with_reducible rfl | (simp [jf_wrs, c_1]; done) | (simp_all [jf_wrs]; done)) dd_J_writesBy_15
  · skip
    refine lv_iload_n hx hb dd_J_writesBy_5 rfl (lv_at hl 0 rfl) ?_
    refine lv_iconst (v := nI 3) hx hb dd_J_writesBy_6 (by decide) ?_
    refine jl_ne32 (tgt := 14) hx hb (by omega) (by omega) dd_J_writesBy_7 (by decide) (fun c_2 => ?_) (fun c_2 => ?_)
    · skip
      refine lv_iconst (v := nI 0) hx hb dd_J_writesBy_14 (by decide) ?_
      exact jr_retz C (by decide) (by first | with_reducible rfl | (simp [jf_wrs, c_1, c_2]; done) | (simp_all [jf_wrs]; done)) dd_J_writesBy_15
    · skip
      refine lv_iconst (v := nI 1) hx hb dd_J_writesBy_10 (by decide) ?_
      refine lv_goto (tgt := 15) hx hb dd_J_writesBy_11 (by decide) ?_
      exact jr_retz C (by decide) (by first | with_reducible rfl | (simp [jf_wrs, c_1, c_2]; done) | (simp_all [jf_wrs]; done)) dd_J_writesBy_15
set_option maxHeartbeats 4000000 in
set_option maxRecDepth 100000 in
theorem ct_J_readsBy (l : Launch) (G : va_G) (z : Nat) (hz0 : z < 4294967296) : jr l yn_J_readsBy (.code yn_J_readsBy cd_J_readsBy 1 (some .boolean)) { frames := 0, cells := 0, slots := 0, locals := 0 } G ([]) ([]) [.int (nI (z))] (nI (jf_rds z)) := by
  refine jr_of (by decide) (Nat.le_of_ble_eq_true rfl) ?_
  intro pr en σ mi bel met cd ls C hP hK hl
  have hx := C.1
  have hb := C.2.1
  have hown := C.2.2.2.1
  have hts := C.2.2.2.2.1
  have hl : lv_has ls 1 [(0, .int (nI (z)))] := hl
  refine lv_iload_n hx hb dd_J_readsBy_0 rfl (lv_at hl 0 rfl) ?_
  refine lv_iconst (v := nI 1) hx hb dd_J_readsBy_1 (by decide) ?_
  refine jl_eq32 (tgt := 10) hx hb (by omega) (by omega) dd_J_readsBy_2 (by decide) (fun c_1 => ?_) (fun c_1 => ?_)
  · skip
    refine lv_iconst (v := nI 1) hx hb dd_J_readsBy_10 (by decide) ?_
    refine lv_goto (tgt := 15) hx hb dd_J_readsBy_11 (by decide) ?_
    exact jr_retz C (by decide) (by first | with_reducible rfl | (simp [jf_rds, c_1]; done) | (simp_all [jf_rds]; done)) dd_J_readsBy_15
  · skip
    refine lv_iload_n hx hb dd_J_readsBy_5 rfl (lv_at hl 0 rfl) ?_
    refine lv_iconst (v := nI 3) hx hb dd_J_readsBy_6 (by decide) ?_
    refine jl_ne32 (tgt := 14) hx hb (by omega) (by omega) dd_J_readsBy_7 (by decide) (fun c_2 => ?_) (fun c_2 => ?_)
    · skip
      refine lv_iconst (v := nI 0) hx hb dd_J_readsBy_14 (by decide) ?_
      exact jr_retz C (by decide) (by first | with_reducible rfl | (simp [jf_rds, c_1, c_2]; done) | (simp_all [jf_rds]; done)) dd_J_readsBy_15
    · skip
      refine lv_iconst (v := nI 1) hx hb dd_J_readsBy_10 (by decide) ?_
      refine lv_goto (tgt := 15) hx hb dd_J_readsBy_11 (by decide) ?_
      exact jr_retz C (by decide) (by first | with_reducible rfl | (simp [jf_rds, c_1, c_2]; done) | (simp_all [jf_rds]; done)) dd_J_readsBy_15
set_option maxHeartbeats 4000000 in
set_option maxRecDepth 100000 in
theorem ct_J_kindFor (l : Launch) (G : va_G) (z : Nat) (hz0 : z < 4294967296) : jr l yn_J_kindFor (.code yn_J_kindFor cd_J_kindFor 1 (some .int)) { frames := 0, cells := 0, slots := 0, locals := 0 } G ([]) ([]) [.int (nI (z))] (nI (jf_kf z)) := by
  refine jr_of (by decide) (Nat.le_of_ble_eq_true rfl) ?_
  intro pr en σ mi bel met cd ls C hP hK hl
  have hx := C.1
  have hb := C.2.1
  have hown := C.2.2.2.1
  have hts := C.2.2.2.2.1
  have hl : lv_has ls 1 [(0, .int (nI (z)))] := hl
  refine lv_iload_n hx hb dd_J_kindFor_0 rfl (lv_at hl 0 rfl) ?_
  refine lv_iconst (v := nI 4) hx hb dd_J_kindFor_1 (by decide) ?_
  refine jl_ne32 (tgt := 9) hx hb (by omega) (by omega) dd_J_kindFor_2 (by decide) (fun c_1 => ?_) (fun c_1 => ?_)
  · skip
    refine lv_iconst (v := nI 1) hx hb dd_J_kindFor_9 (by decide) ?_
    exact jr_ret C (by first | with_reducible rfl | (simp [jf_kf, c_1]; done) | (simp_all [jf_kf]; done)) dd_J_kindFor_10
  · skip
    refine lv_iconst (v := nI 2) hx hb dd_J_kindFor_5 (by decide) ?_
    refine lv_goto (tgt := 10) hx hb dd_J_kindFor_6 (by decide) ?_
    exact jr_ret C (by first | with_reducible rfl | (simp [jf_kf, c_1]; done) | (simp_all [jf_kf]; done)) dd_J_kindFor_10
set_option maxHeartbeats 4000000 in
set_option maxRecDepth 100000 in
theorem ct_J_checkRange (l : Launch) (hl9 : l.stackTraces = false) (G : va_G) (v : Nat) (lo : Nat) (hi : Nat) (hv0 : v < 4294967296) (hlo : lo < 1000) (hhi : hi < 1000) : jt l yn_J_checkRange (.code yn_J_checkRange cd_J_checkRange 3 none) { frames := 6, cells := 1, slots := 6, locals := 90 } G ([]) ([]) [.int (nI (v)), .int (nI (lo)), .int (nI (hi))] (fun o w => (jf_rng v lo hi) = 0 ∧ o = none ∧ w = (([] : va_W))) (fun E w => ¬ (jf_rng v lo hi) = 0 ∧ E = jex (jf_rng v lo hi) ∧ w = (([] : va_W))) := by
  refine jt_of (by decide) (Nat.le_of_ble_eq_true rfl) ?_
  intro pr en σ mi bel met cd ls A hA C htb hz hP hK hD hS hl
  have hx := C.1
  have hb := C.2.1
  have hown := C.2.2.2.1
  have hts := C.2.2.2.2.1
  have hl : lv_has ls 3 [(0, .int (nI (v))), (1, .int (nI (lo))), (2, .int (nI (hi)))] := hl
  refine lv_iload_n hx hb dd_J_checkRange_0 rfl (lv_at hl 0 rfl) ?_
  refine lv_iload_n hx hb dd_J_checkRange_1 rfl (lv_at hl 1 rfl) ?_
  refine jl_lt32 (tgt := 10) hx hb (by omega) (by omega) dd_J_checkRange_2 (by decide) (fun c_1 => ?_) (fun c_1 => ?_)
  · skip
    exact tt_IAES (is := 231) (text := "out of range") hl9 htb C hz (by decide +kernel) ⟨by first | (simp [jf_rng, c_1, jex]; done) | (simp [show ¬ (lo ≤ v ∧ v ≤ hi) by omega, jf_rng, c_1, jex]; done) | (simp [show lo ≤ v ∧ v ≤ hi by omega, jf_rng, c_1, jex]; done), by first | (simp [jf_rng, c_1, jex]; done) | (simp [show ¬ (lo ≤ v ∧ v ≤ hi) by omega, jf_rng, c_1, jex]; done) | (simp [show lo ≤ v ∧ v ≤ hi by omega, jf_rng, c_1, jex]; done), rfl⟩ hP hD hK hS hl.1 dd_J_checkRange_10 dd_J_checkRange_13 dd_J_checkRange_14 dd_J_checkRange_16 dd_J_checkRange_19 ⟨Nat.le_of_ble_eq_true rfl, Nat.le_of_ble_eq_true rfl, Nat.le_of_ble_eq_true rfl, Nat.le_of_ble_eq_true rfl⟩ ⟨Nat.le_of_ble_eq_true rfl, Nat.le_of_ble_eq_true rfl⟩
  · skip
    refine lv_iload_n hx hb dd_J_checkRange_5 rfl (lv_at hl 0 rfl) ?_
    refine lv_iload_n hx hb dd_J_checkRange_6 rfl (lv_at hl 2 rfl) ?_
    refine jl_le (tgt := 20) hx hb (by omega) (by omega) dd_J_checkRange_7 (by decide) (fun c_2 => ?_) (fun c_2 => ?_)
    · skip
      exact jt_retv C ⟨by first | (simp [jf_rng, c_1, c_2]; done) | (simp [show ¬ (lo ≤ v ∧ v ≤ hi) by omega, jf_rng, c_1, c_2]; done) | (simp [show lo ≤ v ∧ v ≤ hi by omega, jf_rng, c_1, c_2]; done), rfl, rfl⟩ hP hD hK hS ⟨Nat.le_of_ble_eq_true rfl, Nat.le_of_ble_eq_true rfl⟩ dd_J_checkRange_20
    · skip
      exact tt_IAES (is := 231) (text := "out of range") hl9 htb C hz (by decide +kernel) ⟨by first | (simp [jf_rng, c_1, c_2, jex]; done) | (simp [show ¬ (lo ≤ v ∧ v ≤ hi) by omega, jf_rng, c_1, c_2, jex]; done) | (simp [show lo ≤ v ∧ v ≤ hi by omega, jf_rng, c_1, c_2, jex]; done), by first | (simp [jf_rng, c_1, c_2, jex]; done) | (simp [show ¬ (lo ≤ v ∧ v ≤ hi) by omega, jf_rng, c_1, c_2, jex]; done) | (simp [show lo ≤ v ∧ v ≤ hi by omega, jf_rng, c_1, c_2, jex]; done), rfl⟩ hP hD hK hS hl.1 dd_J_checkRange_10 dd_J_checkRange_13 dd_J_checkRange_14 dd_J_checkRange_16 dd_J_checkRange_19 ⟨Nat.le_of_ble_eq_true rfl, Nat.le_of_ble_eq_true rfl, Nat.le_of_ble_eq_true rfl, Nat.le_of_ble_eq_true rfl⟩ ⟨Nat.le_of_ble_eq_true rfl, Nat.le_of_ble_eq_true rfl⟩
set_option maxHeartbeats 4000000 in
set_option maxRecDepth 100000 in
theorem ct_J_checkPath (l : Launch) (hl9 : l.stackTraces = false) (G : va_G) (u : Nat) (hu0 : u < 4294967296) : jt l yn_J_checkPath (.code yn_J_checkPath cd_J_checkPath 3 none) { frames := 6, cells := 1, slots := 6, locals := 90 } G ([]) ([]) [.int (nI (u))] (fun o w => (jf_path u) = 0 ∧ o = none ∧ w = (([] : va_W))) (fun E w => ¬ (jf_path u) = 0 ∧ E = jex (jf_path u) ∧ w = (([] : va_W))) := by
  refine jt_of (by decide) (Nat.le_of_ble_eq_true rfl) ?_
  intro pr en σ mi bel met cd ls A hA C htb hz hP hK hD hS hl
  have hx := C.1
  have hb := C.2.1
  have hown := C.2.2.2.1
  have hts := C.2.2.2.2.1
  have hl : lv_has ls 3 [(0, .int (nI (u)))] := hl
  refine lv_iload_n hx hb dd_J_checkPath_0 rfl (lv_at hl 0 rfl) ?_
  refine lv_istore_n (lv' := [(1, .int (nI (u))), (0, .int (nI (u)))]) hx hb dd_J_checkPath_1 rfl hl (by decide) rfl (fun ls hl => ?_)
  refine lv_iconst (v := nI 0) hx hb dd_J_checkPath_2 (by decide) ?_
  refine lv_istore_n (lv' := [(2, .int (nI (0))), (1, .int (nI (u))), (0, .int (nI (u)))]) hx hb dd_J_checkPath_3 rfl hl (by decide) rfl (fun ls hl => ?_)
  have loop : ∀ (n : Nat) (r : Nat) (k : Nat), (k + n = 4 ∧ r < 4294967296) → jf_cpL n r = jf_path u → ∀ ls : Array Slot, lv_has ls 3 [(2, .int (nI (k))), (1, .int (nI (r))), (0, .int (nI (u)))] → W pr l en { frames := 6, cells := 1, slots := 6, locals := 90 } σ mi ([.int (nI (u))] : List Value).toArray bel met cd σ.heap [] 0 0 (jt_Q bel { frames := 6, cells := 1, slots := 6, locals := 90 } G ([]) A [.int (nI (u))] σ (fun o w => (jf_path u) = 0 ∧ o = none ∧ w = (([] : va_W))) (fun E w => ¬ (jf_path u) = 0 ∧ E = jex (jf_path u) ∧ w = (([] : va_W)))) (F0 mi 4 ls []) := by
    intro n
    induction n with
    | zero =>
      intro r k hi  ht ls hl
      refine lv_iload_n hx hb dd_J_checkPath_4 rfl (lv_at hl 0 rfl) ?_
      refine lv_iconst (v := nI 4) hx hb dd_J_checkPath_5 (by decide) ?_
      refine jl_ge (tgt := 42) hx hb (by omega) (by omega) dd_J_checkPath_6 (by decide) (fun c_1 => ?_) (fun c_1 => ?_)
      · skip
        exact jt_retv C ⟨by first | (simp [← ht, jf_cpL, c_1]; done), rfl, rfl⟩ hP hD hK hS ⟨Nat.le_of_ble_eq_true rfl, Nat.le_of_ble_eq_true rfl⟩ dd_J_checkPath_42
      · skip
        exact absurd c_1 (by omega)
    | succ n ih =>
      intro r k hi  ht ls hl
      refine lv_iload_n hx hb dd_J_checkPath_4 rfl (lv_at hl 0 rfl) ?_
      refine lv_iconst (v := nI 4) hx hb dd_J_checkPath_5 (by decide) ?_
      refine jl_ge (tgt := 42) hx hb (by omega) (by omega) dd_J_checkPath_6 (by decide) (fun c_2 => ?_) (fun c_2 => ?_)
      · skip
        exact absurd c_2 (by omega)
      · skip
        refine lv_iload_n hx hb dd_J_checkPath_9 rfl (lv_at hl 1 rfl) ?_
        refine jl_ifeq32 (tgt := 42) hx hb (by omega) dd_J_checkPath_10 (by decide) (fun c_3 => ?_) (fun c_3 => ?_)
        · skip
          exact jt_retv C ⟨by first | (simp [← ht, jf_cpL, c_2, c_3]; done), rfl, rfl⟩ hP hD hK hS ⟨Nat.le_of_ble_eq_true rfl, Nat.le_of_ble_eq_true rfl⟩ dd_J_checkPath_42
        · skip
          refine lv_iload_n hx hb dd_J_checkPath_13 rfl (lv_at hl 1 rfl) ?_
          refine lv_sipush (v := nI 255) hx hb dd_J_checkPath_14 (by decide) ?_
          refine jl_and255 hx hb (by omega) dd_J_checkPath_17 ?_
          refine jl_ifne (tgt := 31) hx hb (by omega) dd_J_checkPath_18 (by decide) (fun c_4 => ?_) (fun c_4 => ?_)
          · skip
            refine lv_iload_n hx hb dd_J_checkPath_31 rfl (lv_at hl 1 rfl) ?_
            refine lv_bipush (v := nI 8) hx hb dd_J_checkPath_32 (by decide) ?_
            refine jl_iushr hx hb (by omega) (by omega) dd_J_checkPath_34 ?_
            refine lv_istore_n (lv' := [(1, .int (nI (r / 2 ^ 8))), (2, .int (nI (k))), (0, .int (nI (u)))]) hx hb dd_J_checkPath_35 rfl hl (by decide) rfl (fun ls hl => ?_)
            refine jl_iinc (lv' := [(2, .int (nI (k + 1))), (1, .int (nI (r / 2 ^ 8))), (0, .int (nI (u)))]) hx hb dd_J_checkPath_36 hl (k := 1) rfl (by decide) rfl (fun ls hl => ?_)
            refine lv_goto (tgt := 4) hx hb dd_J_checkPath_39 (by decide) ?_
            exact ih (r / 2 ^ 8) (k + 1) (by omega) (by simpa [jf_cpL, c_2, c_3, c_4] using ht) ls (lv_sub hl [0, 1, 2] rfl)
          · skip
            exact tt_IAES (is := 234) (text := "00 behind a name") hl9 htb C hz (by decide +kernel) ⟨by first | (simp [← ht, jf_cpL, c_2, c_3, c_4, jex]; done), by first | (simp [← ht, jf_cpL, c_2, c_3, c_4, jex]; done), rfl⟩ hP hD hK hS hl.1 dd_J_checkPath_21 dd_J_checkPath_24 dd_J_checkPath_25 dd_J_checkPath_27 dd_J_checkPath_30 ⟨Nat.le_of_ble_eq_true rfl, Nat.le_of_ble_eq_true rfl, Nat.le_of_ble_eq_true rfl, Nat.le_of_ble_eq_true rfl⟩ ⟨Nat.le_of_ble_eq_true rfl, Nat.le_of_ble_eq_true rfl⟩
  exact loop 4 u 0 (by omega) (rfl) ls (lv_sub hl [0, 1, 2] rfl)
