set_option maxHeartbeats 4000000 in
set_option maxRecDepth 100000 in
theorem ct_I_putByte (l : Launch) (G : va_G) (qI qD qS qC : Nat) (cS cC : ClassId) (s c : Nat → Nat) (i : Nat) (p : Nat) (v : Nat) (hi0 : i < 1000) (hp0 : p < 1000000) (hs : jf_ok s) : jm l yn_I_putByte (.code yn_I_putByte cd_I_putByte 4 none) { frames := 2, cells := 0, slots := 0, locals := 44 } G (tD cS cC) (wI qI qD qS qC cS cC s c) [.ref qI, .int (nI (i)), .int (nI (p)), .int (nI (v))] none (wI qI qD qS qC cS cC (jf_putByte s i p v) c) := by
  refine jm_of (by decide) (Nat.le_of_ble_eq_true rfl) ?_
  intro pr en σ mi bel met cd ls A hA C hP hK hD hS hl
  have hx := C.1
  have hb := C.2.1
  have hown := C.2.2.2.1
  have hts := C.2.2.2.2.1
  have hl : lv_has ls 4 [(0, .ref qI), (1, .int (nI (i))), (2, .int (nI (p))), (3, .int (nI (v)))] := hl
  refine lv_aload_n hx hb dd_I_putByte_0 rfl (lv_at hl 0 rfl) ?_
  refine va_get (D := G) (ci := 2) (v := .ref qD) (C := cn_I) (T := ft_I) (N := 1) hx hb hts uw_I hown hK hP 3 rfl rfl 0 (by decide) (hts _ tw_55) (fun _ h9 => h9) rfl dd_I_putByte_1 ?_
  refine lv_aload_n hx hb dd_I_putByte_4 rfl (lv_at hl 0 rfl) ?_
  refine lv_iload_n hx hb dd_I_putByte_5 rfl (lv_at hl 1 rfl) ?_
  refine lv_iload_n hx hb dd_I_putByte_6 rfl (lv_at hl 2 rfl) ?_
  refine jr_callV C (ct_I_placeOf l G qI qD qS qC cS cC s c i p (by omega) (by omega) (by first | assumption | (simp only [] ; assumption))) kl_I_45 ⟨Nat.le_of_ble_eq_true rfl, Nat.le_of_ble_eq_true rfl, rfl, rfl⟩ ⟨Nat.le_of_ble_eq_true rfl, Nat.le_of_ble_eq_true rfl⟩ (hP) (hK) (va_recv hK hP (ci := 2) (q0 := 3) rfl rfl) hl.1 rfl rfl (Nat.le_of_ble_eq_true rfl) dd_I_putByte_7 ?_
  have hf_1 : jf_placeOf s i p < 4096 := jf_placeOf_lt (by assumption) _ _
  refine lv_iload_n hx hb dd_I_putByte_10 rfl (lv_at hl 3 rfl) ?_
  refine jm_callV (wr := [(qI, .inr (2, [.ref qD]))]) C (ct_D_put l G qD qS qC cS cC s c (jf_placeOf s i p) v (by omega)) kl_I_21 ⟨Nat.le_of_ble_eq_true rfl, Nat.le_of_ble_eq_true rfl⟩ ⟨Nat.le_of_ble_eq_true rfl, Nat.le_of_ble_eq_true rfl⟩ hP hD hS hA (hK) (va_recv hK hP (ci := 0) (q0 := 0) rfl rfl) hl.1 rfl rfl (Nat.le_of_ble_eq_true rfl) dd_I_putByte_11 (fun H locs hP hD hS => ?_)
  have hP : va_P G jcl (wI qI qD qS qC cS cC (jf_put s (jf_placeOf s i p) v) c) H := hP
  have hD : va_D A (wI qI qD qS qC cS cC (jf_put s (jf_placeOf s i p) v) c) := hD
  have he : wI qI qD qS qC cS cC (jf_put s (jf_placeOf s i p) v) c = wI qI qD qS qC cS cC (jf_putByte s i p v) c := by first | with_reducible rfl | (simp [jf_putByte]; done)
  rw [he] at hP hD
  exact jm_retv C hP hD hK hS ⟨Nat.le_of_ble_eq_true rfl, Nat.le_of_ble_eq_true rfl⟩ dd_I_putByte_14
set_option maxHeartbeats 4000000 in
set_option maxRecDepth 100000 in
theorem ct_I_blocksFor (l : Launch) (G : va_G) (z : Nat) (hz0 : z < 1000000) : jr l yn_I_blocksFor (.code yn_I_blocksFor cd_I_blocksFor 1 (some .int)) { frames := 0, cells := 0, slots := 0, locals := 0 } G ([]) ([]) [.int (nI (z))] (nI (jf_blocksFor z)) := by
  refine jr_of (by decide) (Nat.le_of_ble_eq_true rfl) ?_
  intro pr en σ mi bel met cd ls C hP hK hl
  have hx := C.1
  have hb := C.2.1
  have hown := C.2.2.2.1
  have hts := C.2.2.2.2.1
  have hl : lv_has ls 1 [(0, .int (nI (z)))] := hl
  refine lv_iload_n hx hb dd_I_blocksFor_0 rfl (lv_at hl 0 rfl) ?_
  refine lv_bipush (v := nI 16) hx hb dd_I_blocksFor_1 (by decide) ?_
  refine jl_iadd hx hb dd_I_blocksFor_3 ?_
  refine lv_iconst (v := nI 1) hx hb dd_I_blocksFor_4 (by decide) ?_
  refine jl_isub hx hb (by omega) dd_I_blocksFor_5 ?_
  refine lv_bipush (v := nI 16) hx hb dd_I_blocksFor_6 (by decide) ?_
  refine jl_idiv hx hb (by omega) (by decide) (by decide) dd_I_blocksFor_8 ?_
  exact jr_ret C (by first | with_reducible rfl | (simp [jf_blocksFor]; done) | (simp_all [jf_blocksFor]; done)) dd_I_blocksFor_9
set_option maxHeartbeats 4000000 in
set_option maxRecDepth 100000 in
theorem ct_I_startsBlock (l : Launch) (G : va_G) (e : Nat) (he0 : e < 100000) : jr l yn_I_startsBlock (.code yn_I_startsBlock cd_I_startsBlock 1 (some .boolean)) { frames := 0, cells := 0, slots := 0, locals := 0 } G ([]) ([]) [.int (nI (e))] (nI (jf_startsBlock e)) := by
  refine jr_of (by decide) (Nat.le_of_ble_eq_true rfl) ?_
  intro pr en σ mi bel met cd ls C hP hK hl
  have hx := C.1
  have hb := C.2.1
  have hown := C.2.2.2.1
  have hts := C.2.2.2.2.1
  have hl : lv_has ls 1 [(0, .int (nI (e)))] := hl
  refine lv_iload_n hx hb dd_I_startsBlock_0 rfl (lv_at hl 0 rfl) ?_
  refine lv_iconst (v := nI 2) hx hb dd_I_startsBlock_1 (by decide) ?_
  refine jl_imul hx hb dd_I_startsBlock_2 ?_
  refine lv_bipush (v := nI 16) hx hb dd_I_startsBlock_3 (by decide) ?_
  refine jl_irem hx hb (by omega) (by decide) (by decide) dd_I_startsBlock_5 ?_
  refine jl_ifne (tgt := 13) hx hb (by omega) dd_I_startsBlock_6 (by decide) (fun c_1 => ?_) (fun c_1 => ?_)
  · skip
    refine lv_iconst (v := nI 0) hx hb dd_I_startsBlock_13 (by decide) ?_
    exact jr_retz C (by decide) (by first | with_reducible rfl | (simp [jf_startsBlock, c_1]; done) | (simp_all [jf_startsBlock]; done)) dd_I_startsBlock_14
  · skip
    refine lv_iconst (v := nI 1) hx hb dd_I_startsBlock_9 (by decide) ?_
    refine lv_goto (tgt := 14) hx hb dd_I_startsBlock_10 (by decide) ?_
    exact jr_retz C (by decide) (by first | with_reducible rfl | (simp [jf_startsBlock, c_1]; done) | (simp_all [jf_startsBlock]; done)) dd_I_startsBlock_14
set_option maxHeartbeats 4000000 in
set_option maxRecDepth 100000 in
theorem ct_I_hasRoomForSize (l : Launch) (G : va_G) (qI qD qS qC : Nat) (cS cC : ClassId) (s c : Nat → Nat) (i : Nat) (z : Nat) (hi0 : i < 1000) (hz0 : z < 1000000) (hs : jf_ok s) : jr l yn_I_hasRoomForSize (.code yn_I_hasRoomForSize cd_I_hasRoomForSize 3 (some .boolean)) { frames := 3, cells := 0, slots := 0, locals := 64 } G (tD cS cC) (wI qI qD qS qC cS cC s c) [.ref qI, .int (nI (i)), .int (nI (z))] (nI (jf_hasRoomForSize s i z)) := by
  refine jr_of (by decide) (Nat.le_of_ble_eq_true rfl) ?_
  intro pr en σ mi bel met cd ls C hP hK hl
  have hx := C.1
  have hb := C.2.1
  have hown := C.2.2.2.1
  have hts := C.2.2.2.2.1
  have hl : lv_has ls 3 [(0, .ref qI), (1, .int (nI (i))), (2, .int (nI (z)))] := hl
  refine lv_iload_n hx hb dd_I_hasRoomForSize_0 rfl (lv_at hl 2 rfl) ?_
  refine jr_callS0 C (ct_I_blocksFor l G z (by omega)) kl_I_48 ⟨Nat.le_of_ble_eq_true rfl, Nat.le_of_ble_eq_true rfl, rfl, rfl⟩ ⟨Nat.le_of_ble_eq_true rfl, Nat.le_of_ble_eq_true rfl⟩ hK hl.1 rfl rfl (Nat.le_of_ble_eq_true rfl) dd_I_hasRoomForSize_1 ?_
  have hf_1 : jf_blocksFor z * 16 ≤ z + 15 := jf_blocksFor_le _
  refine lv_aload_n hx hb dd_I_hasRoomForSize_4 rfl (lv_at hl 0 rfl) ?_
  refine lv_iload_n hx hb dd_I_hasRoomForSize_5 rfl (lv_at hl 1 rfl) ?_
  refine jr_callV C (ct_I_size l G qI qD qS qC cS cC s c i (by omega) (by first | assumption | (simp only [] ; assumption))) kl_I_32 ⟨Nat.le_of_ble_eq_true rfl, Nat.le_of_ble_eq_true rfl, rfl, rfl⟩ ⟨Nat.le_of_ble_eq_true rfl, Nat.le_of_ble_eq_true rfl⟩ (hP) (hK) (va_recv hK hP (ci := 2) (q0 := 3) rfl rfl) hl.1 rfl rfl (Nat.le_of_ble_eq_true rfl) dd_I_hasRoomForSize_6 ?_
  have hf_2 : jf_size s i < 256 := jf_get_lt (by assumption) _
  refine jr_callS0 C (ct_I_blocksFor l G (jf_size s i) (by omega)) kl_I_48 ⟨Nat.le_of_ble_eq_true rfl, Nat.le_of_ble_eq_true rfl, rfl, rfl⟩ ⟨Nat.le_of_ble_eq_true rfl, Nat.le_of_ble_eq_true rfl⟩ hK hl.1 rfl rfl (Nat.le_of_ble_eq_true rfl) dd_I_hasRoomForSize_9 ?_
  have hf_3 : jf_blocksFor (jf_size s i) * 16 ≤ (jf_size s i) + 15 := jf_blocksFor_le _
  refine lv_isub hx hb dd_I_hasRoomForSize_12 ?_
  refine lv_aload_n hx hb dd_I_hasRoomForSize_13 rfl (lv_at hl 0 rfl) ?_
  refine va_get (D := G) (ci := 2) (v := .ref qD) (C := cn_I) (T := ft_I) (N := 1) hx hb hts uw_I hown hK hP 3 rfl rfl 0 (by decide) (hts _ tw_55) (fun _ h9 => h9) rfl dd_I_hasRoomForSize_14 ?_
  refine jr_callV C (ct_D_freeBlocks l G qD qS qC cS cC s c  (by first | assumption | (simp only [] ; assumption))) kl_I_51 ⟨Nat.le_of_ble_eq_true rfl, Nat.le_of_ble_eq_true rfl, rfl, rfl⟩ ⟨Nat.le_of_ble_eq_true rfl, Nat.le_of_ble_eq_true rfl⟩ (jw_left hP) (hK) (va_recv hK hP (ci := 0) (q0 := 0) rfl rfl) hl.1 rfl rfl (Nat.le_of_ble_eq_true rfl) dd_I_hasRoomForSize_17 ?_
  have hf_4 : jf_free s < 32 := jf_free_lt _
  refine jl_gtD (tgt := 27) hx hb (by omega) (by omega) (by omega) dd_I_hasRoomForSize_20 (by decide) (fun c_5 => ?_) (fun c_5 => ?_)
  · skip
    refine lv_iconst (v := nI 0) hx hb dd_I_hasRoomForSize_27 (by decide) ?_
    exact jr_retz C (by decide) (by first | with_reducible rfl | (simp [jf_hasRoomForSize, c_5]; done) | (simp_all [jf_hasRoomForSize]; done)) dd_I_hasRoomForSize_28
  · skip
    refine lv_iconst (v := nI 1) hx hb dd_I_hasRoomForSize_23 (by decide) ?_
    refine lv_goto (tgt := 28) hx hb dd_I_hasRoomForSize_24 (by decide) ?_
    exact jr_retz C (by decide) (by first | with_reducible rfl | (simp [jf_hasRoomForSize, c_5]; done) | (simp_all [jf_hasRoomForSize]; done)) dd_I_hasRoomForSize_28
