set_option maxHeartbeats 4000000 in
set_option maxRecDepth 100000 in
theorem ct_D_get (l : Launch) (G : va_G) (qD qS qC : Nat) (cS cC : ClassId) (s c : Nat → Nat) (a : Nat) (ha : a < 2147483648) : jr l yn_D_get (.code yn_D_get cd_D_get 2 (some .int)) { frames := 0, cells := 0, slots := 0, locals := 0 } G (tD cS cC) (wD qD qS qC cS cC s c) [.ref qD, .int (nI (a))] (nI (jf_get s a)) := by
  refine jr_of (by decide) (Nat.le_of_ble_eq_true rfl) ?_
  intro pr en σ mi bel met cd ls C hP hK hl
  have hx := C.1
  have hb := C.2.1
  have hown := C.2.2.2.1
  have hts := C.2.2.2.2.1
  have hl : lv_has ls 2 [(0, .ref qD), (1, .int (nI (a)))] := hl
  refine lv_iload_n hx hb dd_D_get_0 rfl (lv_at hl 1 rfl) ?_
  refine jl_iflt (tgt := 20) hx hb (by omega) dd_D_get_1 (by decide) ?_
  refine lv_iload_n hx hb dd_D_get_4 rfl (lv_at hl 1 rfl) ?_
  refine lv_sipush (v := nI 640) hx hb dd_D_get_5 (by decide) ?_
  refine jl_ge (tgt := 20) hx hb (by omega) (by omega) dd_D_get_8 (by decide) (fun c_2 => ?_) (fun c_2 => ?_)
  · skip
    refine lv_iconst (v := nI 0) hx hb dd_D_get_20 (by decide) ?_
    exact jr_ret C (by first | with_reducible rfl | (simp [jf_get, c_2]; done) | (simp_all [jf_get]; done)) dd_D_get_21
  · skip
    refine lv_aload_n hx hb dd_D_get_11 rfl (lv_at hl 0 rfl) ?_
    refine va_get (D := G) (ci := 0) (v := .ref qS) (C := cn_D) (T := ft_D) (N := 2) hx hb hts uw_D hown hK hP 0 rfl rfl 0 (by decide) (hts _ tw_41) (fun _ h9 => h9) rfl dd_D_get_12 ?_
    refine lv_iload_n hx hb dd_D_get_15 rfl (lv_at hl 1 rfl) ?_
    refine va_iald hx hb hK hP 1 0 rfl rfl (vp_in_nI (by omega) (by decide)) dd_D_get_16 ?_
    refine jl_top (jn_at (s) (by omega)) ?_
    refine lv_goto (tgt := 21) hx hb dd_D_get_17 (by decide) ?_
    exact jr_ret C (by first | with_reducible rfl | (simp [jf_get, c_2]; done) | (simp_all [jf_get]; done)) dd_D_get_21
set_option maxHeartbeats 4000000 in
set_option maxRecDepth 100000 in
theorem ct_D_getKept (l : Launch) (G : va_G) (qD qS qC : Nat) (cS cC : ClassId) (s c : Nat → Nat) (a : Nat) (ha : a < 2147483648) : jr l yn_D_getKept (.code yn_D_getKept cd_D_getKept 2 (some .int)) { frames := 0, cells := 0, slots := 0, locals := 0 } G (tD cS cC) (wD qD qS qC cS cC s c) [.ref qD, .int (nI (a))] (nI (jf_get c a)) := by
  refine jr_of (by decide) (Nat.le_of_ble_eq_true rfl) ?_
  intro pr en σ mi bel met cd ls C hP hK hl
  have hx := C.1
  have hb := C.2.1
  have hown := C.2.2.2.1
  have hts := C.2.2.2.2.1
  have hl : lv_has ls 2 [(0, .ref qD), (1, .int (nI (a)))] := hl
  refine lv_iload_n hx hb dd_D_getKept_0 rfl (lv_at hl 1 rfl) ?_
  refine jl_iflt (tgt := 20) hx hb (by omega) dd_D_getKept_1 (by decide) ?_
  refine lv_iload_n hx hb dd_D_getKept_4 rfl (lv_at hl 1 rfl) ?_
  refine lv_sipush (v := nI 640) hx hb dd_D_getKept_5 (by decide) ?_
  refine jl_ge (tgt := 20) hx hb (by omega) (by omega) dd_D_getKept_8 (by decide) (fun c_2 => ?_) (fun c_2 => ?_)
  · skip
    refine lv_iconst (v := nI 0) hx hb dd_D_getKept_20 (by decide) ?_
    exact jr_ret C (by first | with_reducible rfl | (simp [jf_get, c_2]; done) | (simp_all [jf_get]; done)) dd_D_getKept_21
  · skip
    refine lv_aload_n hx hb dd_D_getKept_11 rfl (lv_at hl 0 rfl) ?_
    refine va_get (D := G) (ci := 0) (v := .ref qC) (C := cn_D) (T := ft_D) (N := 2) hx hb hts uw_D hown hK hP 0 rfl rfl 1 (by decide) (hts _ tw_42) (fun _ h9 => h9) rfl dd_D_getKept_12 ?_
    refine lv_iload_n hx hb dd_D_getKept_15 rfl (lv_at hl 1 rfl) ?_
    refine va_iald hx hb hK hP 2 1 rfl rfl (vp_in_nI (by omega) (by decide)) dd_D_getKept_16 ?_
    refine jl_top (jn_at (c) (by omega)) ?_
    refine lv_goto (tgt := 21) hx hb dd_D_getKept_17 (by decide) ?_
    exact jr_ret C (by first | with_reducible rfl | (simp [jf_get, c_2]; done) | (simp_all [jf_get]; done)) dd_D_getKept_21
set_option maxHeartbeats 4000000 in
set_option maxRecDepth 100000 in
theorem ct_D_put (l : Launch) (G : va_G) (qD qS qC : Nat) (cS cC : ClassId) (s c : Nat → Nat) (a : Nat) (v : Nat) (ha : a < 2147483648) : jm l yn_D_put (.code yn_D_put cd_D_put 3 none) { frames := 0, cells := 0, slots := 0, locals := 0 } G (tD cS cC) (wD qD qS qC cS cC s c) [.ref qD, .int (nI (a)), .int (nI (v))] none (wD qD qS qC cS cC (jf_put s a v) c) := by
  refine jm_of (by decide) (Nat.le_of_ble_eq_true rfl) ?_
  intro pr en σ mi bel met cd ls A hA C hP hK hD hS hl
  have hx := C.1
  have hb := C.2.1
  have hown := C.2.2.2.1
  have hts := C.2.2.2.2.1
  have hl : lv_has ls 3 [(0, .ref qD), (1, .int (nI (a))), (2, .int (nI (v)))] := hl
  refine lv_iload_n hx hb dd_D_put_0 rfl (lv_at hl 1 rfl) ?_
  refine jl_iflt (tgt := 18) hx hb (by omega) dd_D_put_1 (by decide) ?_
  refine lv_iload_n hx hb dd_D_put_4 rfl (lv_at hl 1 rfl) ?_
  refine lv_sipush (v := nI 640) hx hb dd_D_put_5 (by decide) ?_
  refine jl_ge (tgt := 18) hx hb (by omega) (by omega) dd_D_put_8 (by decide) (fun c_2 => ?_) (fun c_2 => ?_)
  · skip
    have he : wD qD qS qC cS cC s c = wD qD qS qC cS cC (jf_put s a v) c := by first | with_reducible rfl | (simp [jf_put, c_2]; done)
    rw [he] at hP hD
    exact jm_retv C hP hD hK hS ⟨Nat.le_of_ble_eq_true rfl, Nat.le_of_ble_eq_true rfl⟩ dd_D_put_18
  · skip
    refine lv_aload_n hx hb dd_D_put_11 rfl (lv_at hl 0 rfl) ?_
    refine va_get (D := G) (ci := 0) (v := .ref qS) (C := cn_D) (T := ft_D) (N := 2) hx hb hts uw_D hown hK hP 0 rfl rfl 0 (by decide) (hts _ tw_41) (fun _ h9 => h9) rfl dd_D_put_12 ?_
    refine lv_iload_n hx hb dd_D_put_15 rfl (lv_at hl 1 rfl) ?_
    refine lv_iload_n hx hb dd_D_put_16 rfl (lv_at hl 2 rfl) ?_
    refine va_iast hx hb hK hP hD hS 1 0 rfl rfl (vp_in_nI (by omega) (by decide)) dd_D_put_17 (fun H locs hP hD hS => ?_)
    rw [jn_upd (s) (v) (by omega)] at hP hD
    have hP : va_P G jcl (wD qD qS qC cS cC (ju s a v) c) H := hP
    have hD : va_D A (wD qD qS qC cS cC (ju s a v) c) := hD
    have he : wD qD qS qC cS cC (ju s a v) c = wD qD qS qC cS cC (jf_put s a v) c := by first | with_reducible rfl | (simp [jf_put, c_2]; done)
    rw [he] at hP hD
    exact jm_retv C hP hD hK hS ⟨Nat.le_of_ble_eq_true rfl, Nat.le_of_ble_eq_true rfl⟩ dd_D_put_18
set_option maxHeartbeats 4000000 in
set_option maxRecDepth 100000 in
theorem ct_D_isUsed (l : Launch) (G : va_G) (qD qS qC : Nat) (cS cC : ClassId) (s c : Nat → Nat) (b : Nat) (hb0 : b < 2147483648) (hs : jf_ok s) : jr l yn_D_isUsed (.code yn_D_isUsed cd_D_isUsed 2 (some .boolean)) { frames := 1, cells := 0, slots := 0, locals := 21 } G (tD cS cC) (wD qD qS qC cS cC s c) [.ref qD, .int (nI (b))] (nI (jf_isUsed s b)) := by
  refine jr_of (by decide) (Nat.le_of_ble_eq_true rfl) ?_
  intro pr en σ mi bel met cd ls C hP hK hl
  have hx := C.1
  have hb := C.2.1
  have hown := C.2.2.2.1
  have hts := C.2.2.2.2.1
  have hl : lv_has ls 2 [(0, .ref qD), (1, .int (nI (b)))] := hl
  refine lv_aload_n hx hb dd_D_isUsed_0 rfl (lv_at hl 0 rfl) ?_
  refine lv_iload_n hx hb dd_D_isUsed_1 rfl (lv_at hl 1 rfl) ?_
  refine lv_bipush (v := nI 8) hx hb dd_D_isUsed_2 (by decide) ?_
  refine jl_idiv hx hb (by omega) (by decide) (by decide) dd_D_isUsed_4 ?_
  refine jr_callV C (ct_D_get l G qD qS qC cS cC s c (b / 8) (by omega)) kl_D_22 ⟨Nat.le_of_ble_eq_true rfl, Nat.le_of_ble_eq_true rfl, rfl, rfl⟩ ⟨Nat.le_of_ble_eq_true rfl, Nat.le_of_ble_eq_true rfl⟩ (hP) (hK) (va_recv hK hP (ci := 0) (q0 := 0) rfl rfl) hl.1 rfl rfl (Nat.le_of_ble_eq_true rfl) dd_D_isUsed_5 ?_
  have hf_1 : jf_get s (b / 8) < 256 := jf_get_lt (by assumption) _
  refine lv_iload_n hx hb dd_D_isUsed_8 rfl (lv_at hl 1 rfl) ?_
  refine lv_bipush (v := nI 8) hx hb dd_D_isUsed_9 (by decide) ?_
  refine jl_irem hx hb (by omega) (by decide) (by decide) dd_D_isUsed_11 ?_
  refine lv_ishr hx hb dd_D_isUsed_12 ?_
  refine lv_iconst (v := nI 1) hx hb dd_D_isUsed_13 (by decide) ?_
  refine lv_iand hx hb dd_D_isUsed_14 ?_
  refine jl_top ((jf_bits _ (by assumption) (b % 8) (Nat.mod_lt _ (by decide))).2.2.1) ?_
  refine lv_iconst (v := nI 1) hx hb dd_D_isUsed_15 (by decide) ?_
  refine jl_ne (tgt := 23) hx hb (by omega) (by omega) dd_D_isUsed_16 (by decide) (fun c_2 => ?_) (fun c_2 => ?_)
  · skip
    have hq : jf_get s (b / 8) / 2 ^ (b % 8) % 2 < 2 := Nat.mod_lt _ (by decide)
    refine lv_iconst (v := nI 0) hx hb dd_D_isUsed_23 (by decide) ?_
    exact jr_retz C (by decide) (by first | with_reducible rfl | (simp [jf_isUsed, c_2]; done) | (simp_all [jf_isUsed]; done)) dd_D_isUsed_24
  · skip
    have hq : jf_get s (b / 8) / 2 ^ (b % 8) % 2 < 2 := Nat.mod_lt _ (by decide)
    refine lv_iconst (v := nI 1) hx hb dd_D_isUsed_19 (by decide) ?_
    refine lv_goto (tgt := 24) hx hb dd_D_isUsed_20 (by decide) ?_
    exact jr_retz C (by decide) (by first | with_reducible rfl | (simp [jf_isUsed, c_2]; done) | (simp_all [jf_isUsed]; done)) dd_D_isUsed_24
set_option maxHeartbeats 4000000 in
set_option maxRecDepth 100000 in
theorem ct_D_mark (l : Launch) (G : va_G) (qD qS qC : Nat) (cS cC : ClassId) (s c : Nat → Nat) (b : Nat) (u : Nat) (hb0 : b < 2147483648) (hu : u < 2) (hs : jf_ok s) : jm l yn_D_mark (.code yn_D_mark cd_D_mark 5 none) { frames := 1, cells := 0, slots := 0, locals := 22 } G (tD cS cC) (wD qD qS qC cS cC s c) [.ref qD, .int (nI (b)), .int (nI (u))] none (wD qD qS qC cS cC (jf_mark s b u) c) := by
  refine jm_of (by decide) (Nat.le_of_ble_eq_true rfl) ?_
  intro pr en σ mi bel met cd ls A hA C hP hK hD hS hl
  have hx := C.1
  have hb := C.2.1
  have hown := C.2.2.2.1
  have hts := C.2.2.2.2.1
  have hl : lv_has ls 5 [(0, .ref qD), (1, .int (nI (b))), (2, .int (nI (u)))] := hl
  refine lv_iconst (v := nI 1) hx hb dd_D_mark_0 (by decide) ?_
  refine lv_iload_n hx hb dd_D_mark_1 rfl (lv_at hl 1 rfl) ?_
  refine lv_bipush (v := nI 8) hx hb dd_D_mark_2 (by decide) ?_
  refine jl_irem hx hb (by omega) (by decide) (by decide) dd_D_mark_4 ?_
  refine lv_ishl hx hb dd_D_mark_5 ?_
  refine lv_istore_n (lv' := [(3, .int ((nI 1) <<< ((nI (b % 8)) &&& 31))), (0, .ref qD), (1, .int (nI (b))), (2, .int (nI (u)))]) hx hb dd_D_mark_6 rfl hl (by decide) rfl (fun ls hl => ?_)
  refine lv_aload_n hx hb dd_D_mark_7 rfl (lv_at hl 1 rfl) ?_
  refine lv_iload_n hx hb dd_D_mark_8 rfl (lv_at hl 2 rfl) ?_
  refine lv_bipush (v := nI 8) hx hb dd_D_mark_9 (by decide) ?_
  refine jl_idiv hx hb (by omega) (by decide) (by decide) dd_D_mark_11 ?_
  refine jr_callV C (ct_D_get l G qD qS qC cS cC s c (b / 8) (by omega)) kl_D_22 ⟨Nat.le_of_ble_eq_true rfl, Nat.le_of_ble_eq_true rfl, rfl, rfl⟩ ⟨Nat.le_of_ble_eq_true rfl, Nat.le_of_ble_eq_true rfl⟩ (hP) (hK) (va_recv hK hP (ci := 0) (q0 := 0) rfl rfl) hl.1 rfl rfl (Nat.le_of_ble_eq_true rfl) dd_D_mark_12 ?_
  have hf_1 : jf_get s (b / 8) < 256 := jf_get_lt (by assumption) _
  refine lv_iload_n hx hb dd_D_mark_15 rfl (lv_at hl 0 rfl) ?_
  refine lv_iconst (v := -1) hx hb dd_D_mark_16 (by decide) ?_
  refine lv_ixor hx hb dd_D_mark_17 ?_
  refine lv_iand hx hb dd_D_mark_18 ?_
  refine jl_top ((jf_bits _ (by assumption) (b % 8) (Nat.mod_lt _ (by decide))).1) ?_
  refine lv_istore (lv' := [(4, .int (nI (jf_clr (jf_get s (b / 8)) (b % 8)))), (3, .int ((nI 1) <<< ((nI (b % 8)) &&& 31))), (0, .ref qD), (1, .int (nI (b))), (2, .int (nI (u)))]) hx hb dd_D_mark_19 hl (by decide) rfl (fun ls hl => ?_)
  refine lv_aload_n hx hb dd_D_mark_21 rfl (lv_at hl 2 rfl) ?_
  refine lv_iload_n hx hb dd_D_mark_22 rfl (lv_at hl 3 rfl) ?_
  refine lv_bipush (v := nI 8) hx hb dd_D_mark_23 (by decide) ?_
  refine jl_idiv hx hb (by omega) (by decide) (by decide) dd_D_mark_25 ?_
  refine lv_iload_n hx hb dd_D_mark_26 rfl (lv_at hl 4 rfl) ?_
  refine jl_ifeq (tgt := 37) hx hb (by omega) dd_D_mark_27 (by decide) (fun c_2 => ?_) (fun c_2 => ?_)
  · skip
    refine lv_iload hx hb dd_D_mark_37 (lv_at hl 0 rfl) ?_
    refine jm_callV (wr := []) C (ct_D_put l G qD qS qC cS cC s c (b / 8) (jf_clr (jf_get s (b / 8)) (b % 8)) (by omega)) kl_D_26 ⟨Nat.le_of_ble_eq_true rfl, Nat.le_of_ble_eq_true rfl⟩ ⟨Nat.le_of_ble_eq_true rfl, Nat.le_of_ble_eq_true rfl⟩ hP hD hS hA (hK) (va_recv hK hP (ci := 0) (q0 := 0) rfl rfl) hl.1 rfl rfl (Nat.le_of_ble_eq_true rfl) dd_D_mark_39 (fun H locs hP hD hS => ?_)
    have hP : va_P G jcl (wD qD qS qC cS cC (jf_put s (b / 8) (jf_clr (jf_get s (b / 8)) (b % 8))) c) H := hP
    have hD : va_D A (wD qD qS qC cS cC (jf_put s (b / 8) (jf_clr (jf_get s (b / 8)) (b % 8))) c) := hD
    have he : wD qD qS qC cS cC (jf_put s (b / 8) (jf_clr (jf_get s (b / 8)) (b % 8))) c = wD qD qS qC cS cC (jf_mark s b u) c := by first | with_reducible rfl | (simp [jf_mark, c_2]; done)
    rw [he] at hP hD
    exact jm_retv C hP hD hK hS ⟨Nat.le_of_ble_eq_true rfl, Nat.le_of_ble_eq_true rfl⟩ dd_D_mark_42
  · skip
    refine lv_iload hx hb dd_D_mark_30 (lv_at hl 0 rfl) ?_
    refine lv_iload_n hx hb dd_D_mark_32 rfl (lv_at hl 1 rfl) ?_
    refine lv_ior hx hb dd_D_mark_33 ?_
    refine jl_top ((jf_bits _ (by assumption) (b % 8) (Nat.mod_lt _ (by decide))).2.1) ?_
    refine lv_goto (tgt := 39) hx hb dd_D_mark_34 (by decide) ?_
    refine jm_callV (wr := []) C (ct_D_put l G qD qS qC cS cC s c (b / 8) (jf_clr (jf_get s (b / 8)) (b % 8) + 2 ^ (b % 8)) (by omega)) kl_D_26 ⟨Nat.le_of_ble_eq_true rfl, Nat.le_of_ble_eq_true rfl⟩ ⟨Nat.le_of_ble_eq_true rfl, Nat.le_of_ble_eq_true rfl⟩ hP hD hS hA (hK) (va_recv hK hP (ci := 0) (q0 := 0) rfl rfl) hl.1 rfl rfl (Nat.le_of_ble_eq_true rfl) dd_D_mark_39 (fun H locs hP hD hS => ?_)
    have hP : va_P G jcl (wD qD qS qC cS cC (jf_put s (b / 8) (jf_clr (jf_get s (b / 8)) (b % 8) + 2 ^ (b % 8))) c) H := hP
    have hD : va_D A (wD qD qS qC cS cC (jf_put s (b / 8) (jf_clr (jf_get s (b / 8)) (b % 8) + 2 ^ (b % 8))) c) := hD
    have he : wD qD qS qC cS cC (jf_put s (b / 8) (jf_clr (jf_get s (b / 8)) (b % 8) + 2 ^ (b % 8))) c = wD qD qS qC cS cC (jf_mark s b u) c := by first | with_reducible rfl | (simp [jf_mark, c_2]; done)
    rw [he] at hP hD
    exact jm_retv C hP hD hK hS ⟨Nat.le_of_ble_eq_true rfl, Nat.le_of_ble_eq_true rfl⟩ dd_D_mark_42
set_option maxHeartbeats 4000000 in
set_option maxRecDepth 100000 in
theorem ct_D_freeBlocks (l : Launch) (G : va_G) (qD qS qC : Nat) (cS cC : ClassId) (s c : Nat → Nat)  (hs : jf_ok s) : jr l yn_D_freeBlocks (.code yn_D_freeBlocks cd_D_freeBlocks 3 (some .int)) { frames := 2, cells := 0, slots := 0, locals := 42 } G (tD cS cC) (wD qD qS qC cS cC s c) [.ref qD] (nI (jf_free s)) := by
  refine jr_of (by decide) (Nat.le_of_ble_eq_true rfl) ?_
  intro pr en σ mi bel met cd ls C hP hK hl
  have hx := C.1
  have hb := C.2.1
  have hown := C.2.2.2.1
  have hts := C.2.2.2.2.1
  have hl : lv_has ls 3 [(0, .ref qD)] := hl
  refine lv_iconst (v := nI 0) hx hb dd_D_freeBlocks_0 (by decide) ?_
  refine lv_istore_n (lv' := [(1, .int (nI (0))), (0, .ref qD)]) hx hb dd_D_freeBlocks_1 rfl hl (by decide) rfl (fun ls hl => ?_)
  refine lv_bipush (v := nI 9) hx hb dd_D_freeBlocks_2 (by decide) ?_
  refine lv_istore_n (lv' := [(2, .int (nI (9))), (1, .int (nI (0))), (0, .ref qD)]) hx hb dd_D_freeBlocks_4 rfl hl (by decide) rfl (fun ls hl => ?_)
  have loop : ∀ (n : Nat) (f : Nat) (b : Nat), (b + n = 40 ∧ f ≤ b) → jf_freeL s n b f = jf_free s → ∀ ls : Array Slot, lv_has ls 3 [(2, .int (nI (b))), (1, .int (nI (f))), (0, .ref qD)] → W pr l en { frames := 2, cells := 0, slots := 0, locals := 42 } σ mi ([.ref qD] : List Value).toArray bel met cd σ.heap [] 0 0 (jr_Q bel [.ref qD] σ (nI (jf_free s))) (F0 mi 5 ls []) := by
    intro n
    induction n with
    | zero =>
      intro f b hi  ht ls hl
      refine lv_iload_n hx hb dd_D_freeBlocks_5 rfl (lv_at hl 0 rfl) ?_
      refine lv_bipush (v := nI 40) hx hb dd_D_freeBlocks_6 (by decide) ?_
      refine jl_ge (tgt := 28) hx hb (by omega) (by omega) dd_D_freeBlocks_8 (by decide) (fun c_1 => ?_) (fun c_1 => ?_)
      · skip
        refine lv_iload_n hx hb dd_D_freeBlocks_28 rfl (lv_at hl 1 rfl) ?_
        exact jr_ret C (by rw [← ht]; first | with_reducible rfl | (simp [jf_freeL, c_1]; done)) dd_D_freeBlocks_29
      · skip
        exact absurd c_1 (by omega)
    | succ n ih =>
      intro f b hi  ht ls hl
      refine lv_iload_n hx hb dd_D_freeBlocks_5 rfl (lv_at hl 0 rfl) ?_
      refine lv_bipush (v := nI 40) hx hb dd_D_freeBlocks_6 (by decide) ?_
      refine jl_ge (tgt := 28) hx hb (by omega) (by omega) dd_D_freeBlocks_8 (by decide) (fun c_2 => ?_) (fun c_2 => ?_)
      · skip
        exact absurd c_2 (by omega)
      · skip
        refine lv_aload_n hx hb dd_D_freeBlocks_11 rfl (lv_at hl 2 rfl) ?_
        refine lv_iload_n hx hb dd_D_freeBlocks_12 rfl (lv_at hl 0 rfl) ?_
        refine jr_callV C (ct_D_isUsed l G qD qS qC cS cC s c b (by omega) (by first | assumption | (simp only [] ; assumption))) kl_D_30 ⟨Nat.le_of_ble_eq_true rfl, Nat.le_of_ble_eq_true rfl, rfl, rfl⟩ ⟨Nat.le_of_ble_eq_true rfl, Nat.le_of_ble_eq_true rfl⟩ (hP) (hK) (va_recv hK hP (ci := 0) (q0 := 0) rfl rfl) hl.1 rfl rfl (Nat.le_of_ble_eq_true rfl) dd_D_freeBlocks_13 ?_
        have hf_3 : jf_isUsed s b < 2 := jf_isUsed_lt _ _
        refine jl_ifne (tgt := 22) hx hb (by omega) dd_D_freeBlocks_16 (by decide) (fun c_4 => ?_) (fun c_4 => ?_)
        · skip
          refine jl_iinc (lv' := [(2, .int (nI (b + 1))), (1, .int (nI (f))), (0, .ref qD)]) hx hb dd_D_freeBlocks_22 hl (k := 0) rfl (by decide) rfl (fun ls hl => ?_)
          refine lv_goto (tgt := 5) hx hb dd_D_freeBlocks_25 (by decide) ?_
          exact ih f (b + 1) (by omega) (by simpa [jf_freeL, c_2, c_4] using ht) ls (lv_sub hl [0, 1, 2] rfl)
        · skip
          refine jl_iinc (lv' := [(1, .int (nI (f + 1))), (2, .int (nI (b))), (0, .ref qD)]) hx hb dd_D_freeBlocks_19 hl (k := 1) rfl (by decide) rfl (fun ls hl => ?_)
          refine jl_iinc (lv' := [(2, .int (nI (b + 1))), (1, .int (nI (f + 1))), (0, .ref qD)]) hx hb dd_D_freeBlocks_22 hl (k := 1) rfl (by decide) rfl (fun ls hl => ?_)
          refine lv_goto (tgt := 5) hx hb dd_D_freeBlocks_25 (by decide) ?_
          exact ih (f + 1) (b + 1) (by omega) (by simpa [jf_freeL, c_2, c_4] using ht) ls (lv_sub hl [0, 1, 2] rfl)
  exact loop 31 0 9 (by omega) (rfl) ls (lv_sub hl [0, 1, 2] rfl)
set_option maxHeartbeats 4000000 in
set_option maxRecDepth 100000 in
theorem ct_D_takeBlock (l : Launch) (G : va_G) (qD qS qC : Nat) (cS cC : ClassId) (s c : Nat → Nat)  (hs : jf_ok s) : jm l yn_D_takeBlock (.code yn_D_takeBlock cd_D_takeBlock 2 (some .int)) { frames := 2, cells := 0, slots := 0, locals := 46 } G (tD cS cC) (wD qD qS qC cS cC s c) [.ref qD] (some (.int (nI ((jf_take s).1)))) (wD qD qS qC cS cC ((jf_take s).2) c) := by
  refine jm_of (by decide) (Nat.le_of_ble_eq_true rfl) ?_
  intro pr en σ mi bel met cd ls A hA C hP hK hD hS hl
  have hx := C.1
  have hb := C.2.1
  have hown := C.2.2.2.1
  have hts := C.2.2.2.2.1
  have hl : lv_has ls 2 [(0, .ref qD)] := hl
  refine lv_bipush (v := nI 9) hx hb dd_D_takeBlock_0 (by decide) ?_
  refine lv_istore_n (lv' := [(1, .int (nI (9))), (0, .ref qD)]) hx hb dd_D_takeBlock_2 rfl hl (by decide) rfl (fun ls hl => ?_)
  have loop : ∀ (n : Nat) (b : Nat), (b + n = 40) → jf_takeL s n b = jf_take s → ∀ ls : Array Slot, lv_has ls 2 [(1, .int (nI (b))), (0, .ref qD)] → W pr l en { frames := 2, cells := 0, slots := 0, locals := 46 } σ mi ([.ref qD] : List Value).toArray bel met cd σ.heap [] 0 0 (jm_Q bel { frames := 2, cells := 0, slots := 0, locals := 46 } G (tD cS cC) A [.ref qD] σ (some (.int (nI ((jf_take s).1)))) (wD qD qS qC cS cC ((jf_take s).2) c)) (F0 mi 3 ls []) := by
    intro n
    induction n with
    | zero =>
      intro b hi  ht ls hl
      refine lv_iload_n hx hb dd_D_takeBlock_3 rfl (lv_at hl 0 rfl) ?_
      refine lv_bipush (v := nI 40) hx hb dd_D_takeBlock_4 (by decide) ?_
      refine jl_ge (tgt := 31) hx hb (by omega) (by omega) dd_D_takeBlock_6 (by decide) (fun c_1 => ?_) (fun c_1 => ?_)
      · skip
        refine lv_iconst (v := nI 0) hx hb dd_D_takeBlock_31 (by decide) ?_
        have he : wD qD qS qC cS cC s c = wD qD qS qC cS cC ((jf_take s).2) c := by rw [← ht]; first | with_reducible rfl | (simp [jf_takeL, c_1]; done)
        rw [he] at hP hD
        exact jm_reti C (by rw [← ht]; first | with_reducible rfl | (simp [jf_takeL, c_1]; done)) hP hD hK hS ⟨Nat.le_of_ble_eq_true rfl, Nat.le_of_ble_eq_true rfl⟩ dd_D_takeBlock_32
      · skip
        exact absurd c_1 (by omega)
    | succ n ih =>
      intro b hi  ht ls hl
      refine lv_iload_n hx hb dd_D_takeBlock_3 rfl (lv_at hl 0 rfl) ?_
      refine lv_bipush (v := nI 40) hx hb dd_D_takeBlock_4 (by decide) ?_
      refine jl_ge (tgt := 31) hx hb (by omega) (by omega) dd_D_takeBlock_6 (by decide) (fun c_2 => ?_) (fun c_2 => ?_)
      · skip
        exact absurd c_2 (by omega)
      · skip
        refine lv_aload_n hx hb dd_D_takeBlock_9 rfl (lv_at hl 1 rfl) ?_
        refine lv_iload_n hx hb dd_D_takeBlock_10 rfl (lv_at hl 0 rfl) ?_
        refine jr_callV C (ct_D_isUsed l G qD qS qC cS cC s c b (by omega) (by first | assumption | (simp only [] ; assumption))) kl_D_30 ⟨Nat.le_of_ble_eq_true rfl, Nat.le_of_ble_eq_true rfl, rfl, rfl⟩ ⟨Nat.le_of_ble_eq_true rfl, Nat.le_of_ble_eq_true rfl⟩ (hP) (hK) (va_recv hK hP (ci := 0) (q0 := 0) rfl rfl) hl.1 rfl rfl (Nat.le_of_ble_eq_true rfl) dd_D_takeBlock_11 ?_
        have hf_3 : jf_isUsed s b < 2 := jf_isUsed_lt _ _
        refine jl_ifne (tgt := 25) hx hb (by omega) dd_D_takeBlock_14 (by decide) (fun c_4 => ?_) (fun c_4 => ?_)
        · skip
          refine jl_iinc (lv' := [(1, .int (nI (b + 1))), (0, .ref qD)]) hx hb dd_D_takeBlock_25 hl (k := 0) rfl (by decide) rfl (fun ls hl => ?_)
          refine lv_goto (tgt := 3) hx hb dd_D_takeBlock_28 (by decide) ?_
          exact ih (b + 1) (by omega) (by simpa [jf_takeL, c_2, c_4] using ht) ls (lv_sub hl [0, 1] rfl)
        · skip
          refine lv_aload_n hx hb dd_D_takeBlock_17 rfl (lv_at hl 1 rfl) ?_
          refine lv_iload_n hx hb dd_D_takeBlock_18 rfl (lv_at hl 0 rfl) ?_
          refine lv_iconst (v := nI 1) hx hb dd_D_takeBlock_19 (by decide) ?_
          refine jm_callV (wr := []) C (ct_D_mark l G qD qS qC cS cC s c b 1 (by omega) (by omega) (by first | assumption | (simp only [] ; assumption))) kl_D_18 ⟨Nat.le_of_ble_eq_true rfl, Nat.le_of_ble_eq_true rfl⟩ ⟨Nat.le_of_ble_eq_true rfl, Nat.le_of_ble_eq_true rfl⟩ hP hD hS hA (hK) (va_recv hK hP (ci := 0) (q0 := 0) rfl rfl) hl.1 rfl rfl (Nat.le_of_ble_eq_true rfl) dd_D_takeBlock_20 (fun H locs hP hD hS => ?_)
          have hP : va_P G jcl (wD qD qS qC cS cC (jf_mark s b 1) c) H := hP
          have hD : va_D A (wD qD qS qC cS cC (jf_mark s b 1) c) := hD
          have hf_5 : jf_ok (jf_mark s b 1) := jf_mark_ok (by assumption) _ _
          refine lv_iload_n hx hb dd_D_takeBlock_23 rfl (lv_at hl 0 rfl) ?_
          have he : wD qD qS qC cS cC (jf_mark s b 1) c = wD qD qS qC cS cC ((jf_take s).2) c := by rw [← ht]; first | with_reducible rfl | (simp [jf_takeL, c_2, c_4]; done)
          rw [he] at hP hD
          exact jm_reti C (by rw [← ht]; first | with_reducible rfl | (simp [jf_takeL, c_2, c_4]; done)) hP hD hK hS ⟨Nat.le_of_ble_eq_true rfl, Nat.le_of_ble_eq_true rfl⟩ dd_D_takeBlock_24
  exact loop 31 9 (by omega) (rfl) ls (lv_sub hl [0, 1] rfl)
set_option maxHeartbeats 4000000 in
set_option maxRecDepth 100000 in
theorem ct_D_giveBack (l : Launch) (G : va_G) (qD qS qC : Nat) (cS cC : ClassId) (s c : Nat → Nat) (b : Nat) (hb0 : b < 2147483648) (hs : jf_ok s) : jm l yn_D_giveBack (.code yn_D_giveBack cd_D_giveBack 2 none) { frames := 2, cells := 0, slots := 0, locals := 46 } G (tD cS cC) (wD qD qS qC cS cC s c) [.ref qD, .int (nI (b))] none (wD qD qS qC cS cC (jf_mark s b 0) c) := by
  refine jm_of (by decide) (Nat.le_of_ble_eq_true rfl) ?_
  intro pr en σ mi bel met cd ls A hA C hP hK hD hS hl
  have hx := C.1
  have hb := C.2.1
  have hown := C.2.2.2.1
  have hts := C.2.2.2.2.1
  have hl : lv_has ls 2 [(0, .ref qD), (1, .int (nI (b)))] := hl
  refine lv_aload_n hx hb dd_D_giveBack_0 rfl (lv_at hl 0 rfl) ?_
  refine lv_iload_n hx hb dd_D_giveBack_1 rfl (lv_at hl 1 rfl) ?_
  refine lv_iconst (v := nI 0) hx hb dd_D_giveBack_2 (by decide) ?_
  refine jm_callV (wr := []) C (ct_D_mark l G qD qS qC cS cC s c b 0 (by omega) (by omega) (by first | assumption | (simp only [] ; assumption))) kl_D_18 ⟨Nat.le_of_ble_eq_true rfl, Nat.le_of_ble_eq_true rfl⟩ ⟨Nat.le_of_ble_eq_true rfl, Nat.le_of_ble_eq_true rfl⟩ hP hD hS hA (hK) (va_recv hK hP (ci := 0) (q0 := 0) rfl rfl) hl.1 rfl rfl (Nat.le_of_ble_eq_true rfl) dd_D_giveBack_3 (fun H locs hP hD hS => ?_)
  have hP : va_P G jcl (wD qD qS qC cS cC (jf_mark s b 0) c) H := hP
  have hD : va_D A (wD qD qS qC cS cC (jf_mark s b 0) c) := hD
  have hf_1 : jf_ok (jf_mark s b 0) := jf_mark_ok (by assumption) _ _
  exact jm_retv C hP hD hK hS ⟨Nat.le_of_ble_eq_true rfl, Nat.le_of_ble_eq_true rfl⟩ dd_D_giveBack_6
set_option maxHeartbeats 4000000 in
set_option maxRecDepth 100000 in
theorem ct_D_differs (l : Launch) (G : va_G) (qD qS qC : Nat) (cS cC : ClassId) (s c : Nat → Nat) (b : Nat) (hb0 : b < 1000) (hs : jf_ok s) (hc : jf_ok c) : jr l yn_D_differs (.code yn_D_differs cd_D_differs 4 (some .boolean)) { frames := 1, cells := 0, slots := 0, locals := 21 } G (tD cS cC) (wD qD qS qC cS cC s c) [.ref qD, .int (nI (b))] (nI (jf_differs s c b)) := by
  refine jr_of (by decide) (Nat.le_of_ble_eq_true rfl) ?_
  intro pr en σ mi bel met cd ls C hP hK hl
  have hx := C.1
  have hb := C.2.1
  have hown := C.2.2.2.1
  have hts := C.2.2.2.2.1
  have hl : lv_has ls 4 [(0, .ref qD), (1, .int (nI (b)))] := hl
  refine lv_iconst (v := nI 0) hx hb dd_D_differs_0 (by decide) ?_
  refine lv_istore_n (lv' := [(2, .int (nI (0))), (0, .ref qD), (1, .int (nI (b)))]) hx hb dd_D_differs_1 rfl hl (by decide) rfl (fun ls hl => ?_)
  have loop : ∀ (n : Nat) (i : Nat), (i + n = 16) → jf_diffL s c b n i = jf_differs s c b → ∀ ls : Array Slot, lv_has ls 4 [(2, .int (nI (i))), (0, .ref qD), (1, .int (nI (b)))] → W pr l en { frames := 1, cells := 0, slots := 0, locals := 21 } σ mi ([.ref qD, .int (nI (b))] : List Value).toArray bel met cd σ.heap [] 0 0 (jr_Q bel [.ref qD, .int (nI (b))] σ (nI (jf_differs s c b))) (F0 mi 2 ls []) := by
    intro n
    induction n with
    | zero =>
      intro i hi  ht ls hl
      refine lv_iload_n hx hb dd_D_differs_2 rfl (lv_at hl 0 rfl) ?_
      refine lv_bipush (v := nI 16) hx hb dd_D_differs_3 (by decide) ?_
      refine jl_ge (tgt := 36) hx hb (by omega) (by omega) dd_D_differs_5 (by decide) (fun c_1 => ?_) (fun c_1 => ?_)
      · skip
        refine lv_iconst (v := nI 0) hx hb dd_D_differs_36 (by decide) ?_
        exact jr_retz C (by decide) (by rw [← ht]; first | with_reducible rfl | (simp [jf_diffL, c_1]; done)) dd_D_differs_37
      · skip
        exact absurd c_1 (by omega)
    | succ n ih =>
      intro i hi  ht ls hl
      refine lv_iload_n hx hb dd_D_differs_2 rfl (lv_at hl 0 rfl) ?_
      refine lv_bipush (v := nI 16) hx hb dd_D_differs_3 (by decide) ?_
      refine jl_ge (tgt := 36) hx hb (by omega) (by omega) dd_D_differs_5 (by decide) (fun c_2 => ?_) (fun c_2 => ?_)
      · skip
        exact absurd c_2 (by omega)
      · skip
        refine lv_iload_n hx hb dd_D_differs_8 rfl (lv_at hl 2 rfl) ?_
        refine lv_bipush (v := nI 16) hx hb dd_D_differs_9 (by decide) ?_
        refine jl_imul hx hb dd_D_differs_11 ?_
        refine lv_iload_n hx hb dd_D_differs_12 rfl (lv_at hl 0 rfl) ?_
        refine jl_iadd hx hb dd_D_differs_13 ?_
        refine lv_istore_n (lv' := [(3, .int (nI ((b * 16) + i))), (2, .int (nI (i))), (0, .ref qD), (1, .int (nI (b)))]) hx hb dd_D_differs_14 rfl hl (by decide) rfl (fun ls hl => ?_)
        refine lv_aload_n hx hb dd_D_differs_15 rfl (lv_at hl 2 rfl) ?_
        refine lv_iload_n hx hb dd_D_differs_16 rfl (lv_at hl 0 rfl) ?_
        refine jr_callV C (ct_D_get l G qD qS qC cS cC s c ((b * 16) + i) (by omega)) kl_D_22 ⟨Nat.le_of_ble_eq_true rfl, Nat.le_of_ble_eq_true rfl, rfl, rfl⟩ ⟨Nat.le_of_ble_eq_true rfl, Nat.le_of_ble_eq_true rfl⟩ (hP) (hK) (va_recv hK hP (ci := 0) (q0 := 0) rfl rfl) hl.1 rfl rfl (Nat.le_of_ble_eq_true rfl) dd_D_differs_17 ?_
        have hf_3 : jf_get s ((b * 16) + i) < 256 := jf_get_lt (by assumption) _
        refine lv_aload_n hx hb dd_D_differs_20 rfl (lv_at hl 2 rfl) ?_
        refine lv_iload_n hx hb dd_D_differs_21 rfl (lv_at hl 0 rfl) ?_
        refine jr_callV C (ct_D_getKept l G qD qS qC cS cC s c ((b * 16) + i) (by omega)) kl_D_37 ⟨Nat.le_of_ble_eq_true rfl, Nat.le_of_ble_eq_true rfl, rfl, rfl⟩ ⟨Nat.le_of_ble_eq_true rfl, Nat.le_of_ble_eq_true rfl⟩ (hP) (hK) (va_recv hK hP (ci := 0) (q0 := 0) rfl rfl) hl.1 rfl rfl (Nat.le_of_ble_eq_true rfl) dd_D_differs_22 ?_
        have hf_4 : jf_get c ((b * 16) + i) < 256 := jf_get_lt (by assumption) _
        refine jl_eq (tgt := 30) hx hb (by omega) (by omega) dd_D_differs_25 (by decide) (fun c_5 => ?_) (fun c_5 => ?_)
        · skip
          refine jl_iinc (lv' := [(2, .int (nI (i + 1))), (3, .int (nI ((b * 16) + i))), (0, .ref qD), (1, .int (nI (b)))]) hx hb dd_D_differs_30 hl (k := 1) rfl (by decide) rfl (fun ls hl => ?_)
          refine lv_goto (tgt := 2) hx hb dd_D_differs_33 (by decide) ?_
          exact ih (i + 1) (by omega) (by simpa [jf_diffL, c_2, c_5] using ht) ls (lv_sub hl [0, 2, 3] rfl)
        · skip
          refine lv_iconst (v := nI 1) hx hb dd_D_differs_28 (by decide) ?_
          exact jr_retz C (by decide) (by rw [← ht]; first | with_reducible rfl | (simp [jf_diffL, c_2, c_5]; done)) dd_D_differs_29
  exact loop 16 0 (by omega) (rfl) ls (lv_sub hl [0, 1, 2] rfl)
set_option maxHeartbeats 4000000 in
set_option maxRecDepth 100000 in
theorem ct_D_differingBlocks (l : Launch) (G : va_G) (qD qS qC : Nat) (cS cC : ClassId) (s c : Nat → Nat)  (hs : jf_ok s) (hc : jf_ok c) : jr l yn_D_differingBlocks (.code yn_D_differingBlocks cd_D_differingBlocks 3 (some .int)) { frames := 2, cells := 0, slots := 0, locals := 44 } G (tD cS cC) (wD qD qS qC cS cC s c) [.ref qD] (nI (jf_differing s c)) := by
  refine jr_of (by decide) (Nat.le_of_ble_eq_true rfl) ?_
  intro pr en σ mi bel met cd ls C hP hK hl
  have hx := C.1
  have hb := C.2.1
  have hown := C.2.2.2.1
  have hts := C.2.2.2.2.1
  have hl : lv_has ls 3 [(0, .ref qD)] := hl
  refine lv_iconst (v := nI 0) hx hb dd_D_differingBlocks_0 (by decide) ?_
  refine lv_istore_n (lv' := [(1, .int (nI (0))), (0, .ref qD)]) hx hb dd_D_differingBlocks_1 rfl hl (by decide) rfl (fun ls hl => ?_)
  refine lv_iconst (v := nI 0) hx hb dd_D_differingBlocks_2 (by decide) ?_
  refine lv_istore_n (lv' := [(2, .int (nI (0))), (1, .int (nI (0))), (0, .ref qD)]) hx hb dd_D_differingBlocks_3 rfl hl (by decide) rfl (fun ls hl => ?_)
  have loop : ∀ (n : Nat) (d : Nat) (b : Nat), (b + n = 40 ∧ d ≤ b) → jf_dfbL s c n b d = jf_differing s c → ∀ ls : Array Slot, lv_has ls 3 [(2, .int (nI (b))), (1, .int (nI (d))), (0, .ref qD)] → W pr l en { frames := 2, cells := 0, slots := 0, locals := 44 } σ mi ([.ref qD] : List Value).toArray bel met cd σ.heap [] 0 0 (jr_Q bel [.ref qD] σ (nI (jf_differing s c))) (F0 mi 4 ls []) := by
    intro n
    induction n with
    | zero =>
      intro d b hi  ht ls hl
      refine lv_iload_n hx hb dd_D_differingBlocks_4 rfl (lv_at hl 0 rfl) ?_
      refine lv_bipush (v := nI 40) hx hb dd_D_differingBlocks_5 (by decide) ?_
      refine jl_ge (tgt := 27) hx hb (by omega) (by omega) dd_D_differingBlocks_7 (by decide) (fun c_1 => ?_) (fun c_1 => ?_)
      · skip
        refine lv_iload_n hx hb dd_D_differingBlocks_27 rfl (lv_at hl 1 rfl) ?_
        exact jr_ret C (by rw [← ht]; first | with_reducible rfl | (simp [jf_dfbL, c_1]; done)) dd_D_differingBlocks_28
      · skip
        exact absurd c_1 (by omega)
    | succ n ih =>
      intro d b hi  ht ls hl
      refine lv_iload_n hx hb dd_D_differingBlocks_4 rfl (lv_at hl 0 rfl) ?_
      refine lv_bipush (v := nI 40) hx hb dd_D_differingBlocks_5 (by decide) ?_
      refine jl_ge (tgt := 27) hx hb (by omega) (by omega) dd_D_differingBlocks_7 (by decide) (fun c_2 => ?_) (fun c_2 => ?_)
      · skip
        exact absurd c_2 (by omega)
      · skip
        refine lv_aload_n hx hb dd_D_differingBlocks_10 rfl (lv_at hl 2 rfl) ?_
        refine lv_iload_n hx hb dd_D_differingBlocks_11 rfl (lv_at hl 0 rfl) ?_
        refine jr_callV C (ct_D_differs l G qD qS qC cS cC s c b (by omega) (by first | assumption | (simp only [] ; assumption)) (by first | assumption | (simp only [] ; assumption))) kl_D_34 ⟨Nat.le_of_ble_eq_true rfl, Nat.le_of_ble_eq_true rfl, rfl, rfl⟩ ⟨Nat.le_of_ble_eq_true rfl, Nat.le_of_ble_eq_true rfl⟩ (hP) (hK) (va_recv hK hP (ci := 0) (q0 := 0) rfl rfl) hl.1 rfl rfl (Nat.le_of_ble_eq_true rfl) dd_D_differingBlocks_12 ?_
        have hf_3 : jf_differs s c b < 2 := jf_diffL_lt _ _ _ _ _
        refine jl_ifeq (tgt := 21) hx hb (by omega) dd_D_differingBlocks_15 (by decide) (fun c_4 => ?_) (fun c_4 => ?_)
        · skip
          refine jl_iinc (lv' := [(2, .int (nI (b + 1))), (1, .int (nI (d))), (0, .ref qD)]) hx hb dd_D_differingBlocks_21 hl (k := 0) rfl (by decide) rfl (fun ls hl => ?_)
          refine lv_goto (tgt := 4) hx hb dd_D_differingBlocks_24 (by decide) ?_
          exact ih d (b + 1) (by omega) (by simpa [jf_dfbL, c_2, c_4] using ht) ls (lv_sub hl [0, 1, 2] rfl)
        · skip
          refine jl_iinc (lv' := [(1, .int (nI (d + 1))), (2, .int (nI (b))), (0, .ref qD)]) hx hb dd_D_differingBlocks_18 hl (k := 1) rfl (by decide) rfl (fun ls hl => ?_)
          refine jl_iinc (lv' := [(2, .int (nI (b + 1))), (1, .int (nI (d + 1))), (0, .ref qD)]) hx hb dd_D_differingBlocks_21 hl (k := 1) rfl (by decide) rfl (fun ls hl => ?_)
          refine lv_goto (tgt := 4) hx hb dd_D_differingBlocks_24 (by decide) ?_
          exact ih (d + 1) (b + 1) (by omega) (by simpa [jf_dfbL, c_2, c_4] using ht) ls (lv_sub hl [0, 1, 2] rfl)
  exact loop 40 0 0 (by omega) (rfl) ls (lv_sub hl [0, 1, 2] rfl)
