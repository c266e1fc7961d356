set_option maxHeartbeats 4000000 in
set_option maxRecDepth 100000 in
theorem ct_D_keep (l : Launch) (G : va_G) (qD qS qC : Nat) (cS cC : ClassId) (s c : Nat → Nat)   : jm l yn_D_keep (.code yn_D_keep cd_D_keep 1 none) { frames := 1, cells := 0, slots := 0, locals := 40 } G (tD cS cC) (wD qD qS qC cS cC s c) [.ref qD] none (wD qD qS qC cS cC s (jf_cpy s c)) := by
  refine jm_of (by decide) (Nat.le_of_ble_eq_true rfl) ?_
  intro pr en σ mi bel met cd ls A hA C hP hK hD hS hl
  have hx := C.1
  have hb := C.2.1
  have hown := C.2.2.2.1
  have hts := C.2.2.2.2.1
  have hl : lv_has ls 1 [(0, .ref qD)] := hl
  refine lv_aload_n hx hb dd_D_keep_0 rfl (lv_at hl 0 rfl) ?_
  refine va_get (D := G) (ci := 0) (v := .ref qS) (C := cn_D) (T := ft_D) (N := 2) hx hb hts uw_D hown hK hP 0 rfl rfl 0 (by decide) (hts _ tw_41) (fun _ h9 => h9) rfl dd_D_keep_1 ?_
  refine lv_iconst (v := nI 0) hx hb dd_D_keep_4 (by decide) ?_
  refine lv_aload_n hx hb dd_D_keep_5 rfl (lv_at hl 0 rfl) ?_
  refine va_get (D := G) (ci := 0) (v := .ref qC) (C := cn_D) (T := ft_D) (N := 2) hx hb hts uw_D hown hK hP 0 rfl rfl 1 (by decide) (hts _ tw_42) (fun _ h9 => h9) rfl dd_D_keep_6 ?_
  refine lv_iconst (v := nI 0) hx hb dd_D_keep_9 (by decide) ?_
  refine lv_sipush (v := nI 640) hx hb dd_D_keep_10 (by decide) ?_
  refine va_copyi hx hb (C.2.2.1.trans hl.1.symm) hown (hts _ tw_104) (hts _ tw_106) (hts _ tw_105) (hts _ tw_5) hK hP hD hS 1 2 0 1 rfl rfl rfl rfl rfl (by decide) (by decide) (by decide) (by decide) (by decide) (fun _ _ => rfl) (by decide) (by decide) dd_D_keep_13 (fun H locs hP hD hS => ?_)
  rw [jf_cpy_eq] at hP hD
  have hP : va_P G jcl (wD qD qS qC cS cC s (jf_cpy s c)) H := hP
  have hD : va_D A (wD qD qS qC cS cC s (jf_cpy s c)) := hD
  exact jm_retv C hP hD hK hS ⟨Nat.le_of_ble_eq_true rfl, Nat.le_of_ble_eq_true rfl⟩ dd_D_keep_16
set_option maxHeartbeats 4000000 in
set_option maxRecDepth 100000 in
theorem ct_D_goBack (l : Launch) (G : va_G) (qD qS qC : Nat) (cS cC : ClassId) (s c : Nat → Nat)   : jm l yn_D_goBack (.code yn_D_goBack cd_D_goBack 1 none) { frames := 1, cells := 0, slots := 0, locals := 40 } G (tD cS cC) (wD qD qS qC cS cC s c) [.ref qD] none (wD qD qS qC cS cC (jf_cpy c s) c) := by
  refine jm_of (by decide) (Nat.le_of_ble_eq_true rfl) ?_
  intro pr en σ mi bel met cd ls A hA C hP hK hD hS hl
  have hx := C.1
  have hb := C.2.1
  have hown := C.2.2.2.1
  have hts := C.2.2.2.2.1
  have hl : lv_has ls 1 [(0, .ref qD)] := hl
  refine lv_aload_n hx hb dd_D_goBack_0 rfl (lv_at hl 0 rfl) ?_
  refine va_get (D := G) (ci := 0) (v := .ref qC) (C := cn_D) (T := ft_D) (N := 2) hx hb hts uw_D hown hK hP 0 rfl rfl 1 (by decide) (hts _ tw_42) (fun _ h9 => h9) rfl dd_D_goBack_1 ?_
  refine lv_iconst (v := nI 0) hx hb dd_D_goBack_4 (by decide) ?_
  refine lv_aload_n hx hb dd_D_goBack_5 rfl (lv_at hl 0 rfl) ?_
  refine va_get (D := G) (ci := 0) (v := .ref qS) (C := cn_D) (T := ft_D) (N := 2) hx hb hts uw_D hown hK hP 0 rfl rfl 0 (by decide) (hts _ tw_41) (fun _ h9 => h9) rfl dd_D_goBack_6 ?_
  refine lv_iconst (v := nI 0) hx hb dd_D_goBack_9 (by decide) ?_
  refine lv_sipush (v := nI 640) hx hb dd_D_goBack_10 (by decide) ?_
  refine va_copyi hx hb (C.2.2.1.trans hl.1.symm) hown (hts _ tw_104) (hts _ tw_106) (hts _ tw_105) (hts _ tw_5) hK hP hD hS 2 1 1 0 rfl rfl rfl rfl rfl (by decide) (by decide) (by decide) (by decide) (by decide) (fun _ _ => rfl) (by decide) (by decide) dd_D_goBack_13 (fun H locs hP hD hS => ?_)
  rw [jf_cpy_eq] at hP hD
  have hP : va_P G jcl (wD qD qS qC cS cC (jf_cpy c s) c) H := hP
  have hD : va_D A (wD qD qS qC cS cC (jf_cpy c s) c) := hD
  exact jm_retv C hP hD hK hS ⟨Nat.le_of_ble_eq_true rfl, Nat.le_of_ble_eq_true rfl⟩ dd_D_goBack_16
set_option maxHeartbeats 4000000 in
set_option maxRecDepth 100000 in
theorem ct_I_field (l : Launch) (G : va_G) (qI qD qS qC : Nat) (cS cC : ClassId) (s c : Nat → Nat) (i : Nat) (f : Nat) (hi0 : i < 1000) (hf0 : f < 1000) (hs : jf_ok s) : jr l yn_I_field (.code yn_I_field cd_I_field 3 (some .int)) { frames := 1, cells := 0, slots := 0, locals := 21 } G (tD cS cC) (wI qI qD qS qC cS cC s c) [.ref qI, .int (nI (i)), .int (nI (f))] (nI (jf_field s i f)) := by
  refine jr_of (by decide) (Nat.le_of_ble_eq_true rfl) ?_
  intro pr en σ mi bel met cd ls C hP hK hl
  have hx := C.1
  have hb := C.2.1
  have hown := C.2.2.2.1
  have hts := C.2.2.2.2.1
  have hl : lv_has ls 3 [(0, .ref qI), (1, .int (nI (i))), (2, .int (nI (f)))] := hl
  refine lv_aload_n hx hb dd_I_field_0 rfl (lv_at hl 0 rfl) ?_
  refine va_get (D := G) (ci := 2) (v := .ref qD) (C := cn_I) (T := ft_I) (N := 1) hx hb hts uw_I hown hK hP 3 rfl rfl 0 (by decide) (hts _ tw_55) (fun _ h9 => h9) rfl dd_I_field_1 ?_
  refine lv_bipush (v := nI 16) hx hb dd_I_field_4 (by decide) ?_
  refine lv_iload_n hx hb dd_I_field_6 rfl (lv_at hl 1 rfl) ?_
  refine lv_bipush (v := nI 8) hx hb dd_I_field_7 (by decide) ?_
  refine jl_imul hx hb dd_I_field_9 ?_
  refine jl_iadd hx hb dd_I_field_10 ?_
  refine lv_iload_n hx hb dd_I_field_11 rfl (lv_at hl 2 rfl) ?_
  refine jl_iadd hx hb dd_I_field_12 ?_
  refine jr_callV C (ct_D_get l G qD qS qC cS cC s c ((16 + (i * 8)) + f) (by omega)) kl_I_15 ⟨Nat.le_of_ble_eq_true rfl, Nat.le_of_ble_eq_true rfl, rfl, rfl⟩ ⟨Nat.le_of_ble_eq_true rfl, Nat.le_of_ble_eq_true rfl⟩ (jw_left hP) (hK) (va_recv hK hP (ci := 0) (q0 := 0) rfl rfl) hl.1 rfl rfl (Nat.le_of_ble_eq_true rfl) dd_I_field_13 ?_
  have hf_1 : jf_get s ((16 + (i * 8)) + f) < 256 := jf_get_lt (by assumption) _
  exact jr_ret C (by first | with_reducible rfl | (simp [jf_field]; done) | (simp_all [jf_field]; done)) dd_I_field_16
set_option maxHeartbeats 4000000 in
set_option maxRecDepth 100000 in
theorem ct_I_putField (l : Launch) (G : va_G) (qI qD qS qC : Nat) (cS cC : ClassId) (s c : Nat → Nat) (i : Nat) (f : Nat) (v : Nat) (hi0 : i < 1000) (hf0 : f < 1000) : jm l yn_I_putField (.code yn_I_putField cd_I_putField 4 none) { frames := 1, cells := 0, slots := 0, locals := 22 } G (tD cS cC) (wI qI qD qS qC cS cC s c) [.ref qI, .int (nI (i)), .int (nI (f)), .int (nI (v))] none (wI qI qD qS qC cS cC (jf_putField s i f v) c) := by
  refine jm_of (by decide) (Nat.le_of_ble_eq_true rfl) ?_
  intro pr en σ mi bel met cd ls A hA C hP hK hD hS hl
  have hx := C.1
  have hb := C.2.1
  have hown := C.2.2.2.1
  have hts := C.2.2.2.2.1
  have hl : lv_has ls 4 [(0, .ref qI), (1, .int (nI (i))), (2, .int (nI (f))), (3, .int (nI (v)))] := hl
  refine lv_aload_n hx hb dd_I_putField_0 rfl (lv_at hl 0 rfl) ?_
  refine va_get (D := G) (ci := 2) (v := .ref qD) (C := cn_I) (T := ft_I) (N := 1) hx hb hts uw_I hown hK hP 3 rfl rfl 0 (by decide) (hts _ tw_55) (fun _ h9 => h9) rfl dd_I_putField_1 ?_
  refine lv_bipush (v := nI 16) hx hb dd_I_putField_4 (by decide) ?_
  refine lv_iload_n hx hb dd_I_putField_6 rfl (lv_at hl 1 rfl) ?_
  refine lv_bipush (v := nI 8) hx hb dd_I_putField_7 (by decide) ?_
  refine jl_imul hx hb dd_I_putField_9 ?_
  refine jl_iadd hx hb dd_I_putField_10 ?_
  refine lv_iload_n hx hb dd_I_putField_11 rfl (lv_at hl 2 rfl) ?_
  refine jl_iadd hx hb dd_I_putField_12 ?_
  refine lv_iload_n hx hb dd_I_putField_13 rfl (lv_at hl 3 rfl) ?_
  refine jm_callV (wr := [(qI, .inr (2, [.ref qD]))]) C (ct_D_put l G qD qS qC cS cC s c ((16 + (i * 8)) + f) v (by omega)) kl_I_21 ⟨Nat.le_of_ble_eq_true rfl, Nat.le_of_ble_eq_true rfl⟩ ⟨Nat.le_of_ble_eq_true rfl, Nat.le_of_ble_eq_true rfl⟩ hP hD hS hA (hK) (va_recv hK hP (ci := 0) (q0 := 0) rfl rfl) hl.1 rfl rfl (Nat.le_of_ble_eq_true rfl) dd_I_putField_14 (fun H locs hP hD hS => ?_)
  have hP : va_P G jcl (wI qI qD qS qC cS cC (jf_put s ((16 + (i * 8)) + f) v) c) H := hP
  have hD : va_D A (wI qI qD qS qC cS cC (jf_put s ((16 + (i * 8)) + f) v) c) := hD
  have he : wI qI qD qS qC cS cC (jf_put s ((16 + (i * 8)) + f) v) c = wI qI qD qS qC cS cC (jf_putField s i f v) c := by first | with_reducible rfl | (simp [jf_putField]; done)
  rw [he] at hP hD
  exact jm_retv C hP hD hK hS ⟨Nat.le_of_ble_eq_true rfl, Nat.le_of_ble_eq_true rfl⟩ dd_I_putField_17
set_option maxHeartbeats 4000000 in
set_option maxRecDepth 100000 in
theorem ct_I_kind (l : Launch) (G : va_G) (qI qD qS qC : Nat) (cS cC : ClassId) (s c : Nat → Nat) (i : Nat) (hi0 : i < 1000) (hs : jf_ok s) : jr l yn_I_kind (.code yn_I_kind cd_I_kind 2 (some .int)) { frames := 2, cells := 0, slots := 0, locals := 43 } G (tD cS cC) (wI qI qD qS qC cS cC s c) [.ref qI, .int (nI (i))] (nI (jf_kind s i)) := by
  refine jr_of (by decide) (Nat.le_of_ble_eq_true rfl) ?_
  intro pr en σ mi bel met cd ls C hP hK hl
  have hx := C.1
  have hb := C.2.1
  have hown := C.2.2.2.1
  have hts := C.2.2.2.2.1
  have hl : lv_has ls 2 [(0, .ref qI), (1, .int (nI (i)))] := hl
  refine lv_aload_n hx hb dd_I_kind_0 rfl (lv_at hl 0 rfl) ?_
  refine lv_iload_n hx hb dd_I_kind_1 rfl (lv_at hl 1 rfl) ?_
  refine lv_iconst (v := nI 0) hx hb dd_I_kind_2 (by decide) ?_
  refine jr_callV C (ct_I_field l G qI qD qS qC cS cC s c i 0 (by omega) (by omega) (by first | assumption | (simp only [] ; assumption))) kl_I_25 ⟨Nat.le_of_ble_eq_true rfl, Nat.le_of_ble_eq_true rfl, rfl, rfl⟩ ⟨Nat.le_of_ble_eq_true rfl, Nat.le_of_ble_eq_true rfl⟩ (hP) (hK) (va_recv hK hP (ci := 2) (q0 := 3) rfl rfl) hl.1 rfl rfl (Nat.le_of_ble_eq_true rfl) dd_I_kind_3 ?_
  have hf_1 : jf_field s i 0 < 256 := jf_get_lt (by assumption) _
  exact jr_ret C (by first | with_reducible rfl | (simp [jf_kind]; done) | (simp_all [jf_kind]; done)) dd_I_kind_6
set_option maxHeartbeats 4000000 in
set_option maxRecDepth 100000 in
theorem ct_I_size (l : Launch) (G : va_G) (qI qD qS qC : Nat) (cS cC : ClassId) (s c : Nat → Nat) (i : Nat) (hi0 : i < 1000) (hs : jf_ok s) : jr l yn_I_size (.code yn_I_size cd_I_size 2 (some .int)) { frames := 2, cells := 0, slots := 0, locals := 43 } G (tD cS cC) (wI qI qD qS qC cS cC s c) [.ref qI, .int (nI (i))] (nI (jf_size s i)) := by
  refine jr_of (by decide) (Nat.le_of_ble_eq_true rfl) ?_
  intro pr en σ mi bel met cd ls C hP hK hl
  have hx := C.1
  have hb := C.2.1
  have hown := C.2.2.2.1
  have hts := C.2.2.2.2.1
  have hl : lv_has ls 2 [(0, .ref qI), (1, .int (nI (i)))] := hl
  refine lv_aload_n hx hb dd_I_size_0 rfl (lv_at hl 0 rfl) ?_
  refine lv_iload_n hx hb dd_I_size_1 rfl (lv_at hl 1 rfl) ?_
  refine lv_iconst (v := nI 1) hx hb dd_I_size_2 (by decide) ?_
  refine jr_callV C (ct_I_field l G qI qD qS qC cS cC s c i 1 (by omega) (by omega) (by first | assumption | (simp only [] ; assumption))) kl_I_25 ⟨Nat.le_of_ble_eq_true rfl, Nat.le_of_ble_eq_true rfl, rfl, rfl⟩ ⟨Nat.le_of_ble_eq_true rfl, Nat.le_of_ble_eq_true rfl⟩ (hP) (hK) (va_recv hK hP (ci := 2) (q0 := 3) rfl rfl) hl.1 rfl rfl (Nat.le_of_ble_eq_true rfl) dd_I_size_3 ?_
  have hf_1 : jf_field s i 1 < 256 := jf_get_lt (by assumption) _
  exact jr_ret C (by first | with_reducible rfl | (simp [jf_size]; done) | (simp_all [jf_size]; done)) dd_I_size_6
set_option maxHeartbeats 4000000 in
set_option maxRecDepth 100000 in
theorem ct_I_generation (l : Launch) (G : va_G) (qI qD qS qC : Nat) (cS cC : ClassId) (s c : Nat → Nat) (i : Nat) (hi0 : i < 1000) (hs : jf_ok s) : jr l yn_I_generation (.code yn_I_generation cd_I_generation 2 (some .int)) { frames := 2, cells := 0, slots := 0, locals := 43 } G (tD cS cC) (wI qI qD qS qC cS cC s c) [.ref qI, .int (nI (i))] (nI (jf_gen s i)) := by
  refine jr_of (by decide) (Nat.le_of_ble_eq_true rfl) ?_
  intro pr en σ mi bel met cd ls C hP hK hl
  have hx := C.1
  have hb := C.2.1
  have hown := C.2.2.2.1
  have hts := C.2.2.2.2.1
  have hl : lv_has ls 2 [(0, .ref qI), (1, .int (nI (i)))] := hl
  refine lv_aload_n hx hb dd_I_generation_0 rfl (lv_at hl 0 rfl) ?_
  refine lv_iload_n hx hb dd_I_generation_1 rfl (lv_at hl 1 rfl) ?_
  refine lv_iconst (v := nI 3) hx hb dd_I_generation_2 (by decide) ?_
  refine jr_callV C (ct_I_field l G qI qD qS qC cS cC s c i 3 (by omega) (by omega) (by first | assumption | (simp only [] ; assumption))) kl_I_25 ⟨Nat.le_of_ble_eq_true rfl, Nat.le_of_ble_eq_true rfl, rfl, rfl⟩ ⟨Nat.le_of_ble_eq_true rfl, Nat.le_of_ble_eq_true rfl⟩ (hP) (hK) (va_recv hK hP (ci := 2) (q0 := 3) rfl rfl) hl.1 rfl rfl (Nat.le_of_ble_eq_true rfl) dd_I_generation_3 ?_
  have hf_1 : jf_field s i 3 < 256 := jf_get_lt (by assumption) _
  exact jr_ret C (by first | with_reducible rfl | (simp [jf_gen]; done) | (simp_all [jf_gen]; done)) dd_I_generation_6
set_option maxHeartbeats 4000000 in
set_option maxRecDepth 100000 in
theorem ct_I_entries (l : Launch) (G : va_G) (qI qD qS qC : Nat) (cS cC : ClassId) (s c : Nat → Nat) (i : Nat) (hi0 : i < 1000) (hs : jf_ok s) : jr l yn_I_entries (.code yn_I_entries cd_I_entries 2 (some .int)) { frames := 3, cells := 0, slots := 0, locals := 64 } G (tD cS cC) (wI qI qD qS qC cS cC s c) [.ref qI, .int (nI (i))] (nI (jf_entries s i)) := by
  refine jr_of (by decide) (Nat.le_of_ble_eq_true rfl) ?_
  intro pr en σ mi bel met cd ls C hP hK hl
  have hx := C.1
  have hb := C.2.1
  have hown := C.2.2.2.1
  have hts := C.2.2.2.2.1
  have hl : lv_has ls 2 [(0, .ref qI), (1, .int (nI (i)))] := hl
  refine lv_aload_n hx hb dd_I_entries_0 rfl (lv_at hl 0 rfl) ?_
  refine lv_iload_n hx hb dd_I_entries_1 rfl (lv_at hl 1 rfl) ?_
  refine jr_callV C (ct_I_kind l G qI qD qS qC cS cC s c i (by omega) (by first | assumption | (simp only [] ; assumption))) kl_I_29 ⟨Nat.le_of_ble_eq_true rfl, Nat.le_of_ble_eq_true rfl, rfl, rfl⟩ ⟨Nat.le_of_ble_eq_true rfl, Nat.le_of_ble_eq_true rfl⟩ (hP) (hK) (va_recv hK hP (ci := 2) (q0 := 3) rfl rfl) hl.1 rfl rfl (Nat.le_of_ble_eq_true rfl) dd_I_entries_2 ?_
  have hf_1 : jf_kind s i < 256 := jf_get_lt (by assumption) _
  refine lv_iconst (v := nI 2) hx hb dd_I_entries_5 (by decide) ?_
  refine jl_ne (tgt := 19) hx hb (by omega) (by omega) dd_I_entries_6 (by decide) (fun c_2 => ?_) (fun c_2 => ?_)
  · skip
    refine lv_iconst (v := nI 0) hx hb dd_I_entries_19 (by decide) ?_
    exact jr_ret C (by first | with_reducible rfl | (simp [jf_entries, c_2]; done) | (simp_all [jf_entries]; done)) dd_I_entries_20
  · skip
    refine lv_aload_n hx hb dd_I_entries_9 rfl (lv_at hl 0 rfl) ?_
    refine lv_iload_n hx hb dd_I_entries_10 rfl (lv_at hl 1 rfl) ?_
    refine jr_callV C (ct_I_size l G qI qD qS qC cS cC s c i (by omega) (by first | assumption | (simp only [] ; assumption))) kl_I_32 ⟨Nat.le_of_ble_eq_true rfl, Nat.le_of_ble_eq_true rfl, rfl, rfl⟩ ⟨Nat.le_of_ble_eq_true rfl, Nat.le_of_ble_eq_true rfl⟩ (hP) (hK) (va_recv hK hP (ci := 2) (q0 := 3) rfl rfl) hl.1 rfl rfl (Nat.le_of_ble_eq_true rfl) dd_I_entries_11 ?_
    have hf_3 : jf_size s i < 256 := jf_get_lt (by assumption) _
    refine lv_iconst (v := nI 2) hx hb dd_I_entries_14 (by decide) ?_
    refine jl_idiv hx hb (by omega) (by decide) (by decide) dd_I_entries_15 ?_
    refine lv_goto (tgt := 20) hx hb dd_I_entries_16 (by decide) ?_
    exact jr_ret C (by first | with_reducible rfl | (simp [jf_entries, c_2]; done) | (simp_all [jf_entries]; done)) dd_I_entries_20
