set_option maxHeartbeats 4000000 in
set_option maxRecDepth 100000 in
theorem ct_I_vacate (l : Launch) (G : va_G) (qI qD qS qC : Nat) (cS cC : ClassId) (s c : Nat → Nat) (i : Nat) (hi0 : i < 1000) (hs : jf_ok s) : jm l yn_I_vacate (.code yn_I_vacate cd_I_vacate 2 none) { frames := 4, cells := 0, slots := 0, locals := 91 } G (tD cS cC) (wI qI qD qS qC cS cC s c) [.ref qI, .int (nI (i))] none (wI qI qD qS qC cS cC (jf_vacate s i) c) := by
  refine jm_of (by decide) (Nat.le_of_ble_eq_true rfl) ?_
  intro pr en σ mi bel met cd ls A hA C hP hK hD hS hl
  have hx := C.1
  have hb := C.2.1
  have hown := C.2.2.2.1
  have hts := C.2.2.2.2.1
  have hl : lv_has ls 2 [(0, .ref qI), (1, .int (nI (i)))] := hl
  refine lv_aload_n hx hb dd_I_vacate_0 rfl (lv_at hl 0 rfl) ?_
  refine lv_iload_n hx hb dd_I_vacate_1 rfl (lv_at hl 1 rfl) ?_
  refine lv_iconst (v := nI 0) hx hb dd_I_vacate_2 (by decide) ?_
  refine jm_callV (wr := []) C (ct_I_resize l G qI qD qS qC cS cC s c i 0 (by omega) (by omega) (by first | assumption | (simp only [] ; assumption))) kl_I_42 ⟨Nat.le_of_ble_eq_true rfl, Nat.le_of_ble_eq_true rfl⟩ ⟨Nat.le_of_ble_eq_true rfl, Nat.le_of_ble_eq_true rfl⟩ hP hD hS hA (hK) (va_recv hK hP (ci := 2) (q0 := 3) rfl rfl) hl.1 rfl rfl (Nat.le_of_ble_eq_true rfl) dd_I_vacate_3 (fun H locs hP hD hS => ?_)
  have hP : va_P G jcl (wI qI qD qS qC cS cC (jf_resize s i 0) c) H := hP
  have hD : va_D A (wI qI qD qS qC cS cC (jf_resize s i 0) c) := hD
  have hf_1 : jf_ok (jf_resize s i 0) := jf_resize_ok (by assumption) _ (by omega)
  refine lv_aload_n hx hb dd_I_vacate_6 rfl (lv_at hl 0 rfl) ?_
  refine lv_iload_n hx hb dd_I_vacate_7 rfl (lv_at hl 1 rfl) ?_
  refine lv_iconst (v := nI 0) hx hb dd_I_vacate_8 (by decide) ?_
  refine lv_iconst (v := nI 0) hx hb dd_I_vacate_9 (by decide) ?_
  refine jm_callV (wr := []) C (ct_I_putField l G qI qD qS qC cS cC (jf_resize s i 0) c i 0 0 (by omega) (by omega)) kl_I_35 ⟨Nat.le_of_ble_eq_true rfl, Nat.le_of_ble_eq_true rfl⟩ ⟨Nat.le_of_ble_eq_true rfl, Nat.le_of_ble_eq_true rfl⟩ hP hD hS hA (hK) (va_recv hK hP (ci := 2) (q0 := 3) rfl rfl) hl.1 rfl rfl (Nat.le_of_ble_eq_true rfl) dd_I_vacate_10 (fun H locs hP hD hS => ?_)
  have hP : va_P G jcl (wI qI qD qS qC cS cC (jf_putField (jf_resize s i 0) i 0 0) c) H := hP
  have hD : va_D A (wI qI qD qS qC cS cC (jf_putField (jf_resize s i 0) i 0 0) c) := hD
  have hf_2 : jf_ok (jf_putField (jf_resize s i 0) i 0 0) := jf_putField_ok (by assumption) _ _ (by omega)
  refine lv_aload_n hx hb dd_I_vacate_13 rfl (lv_at hl 0 rfl) ?_
  refine lv_iload_n hx hb dd_I_vacate_14 rfl (lv_at hl 1 rfl) ?_
  refine lv_iconst (v := nI 2) hx hb dd_I_vacate_15 (by decide) ?_
  refine lv_iconst (v := nI 0) hx hb dd_I_vacate_16 (by decide) ?_
  refine jm_callV (wr := []) C (ct_I_putField l G qI qD qS qC cS cC (jf_putField (jf_resize s i 0) i 0 0) c i 2 0 (by omega) (by omega)) kl_I_35 ⟨Nat.le_of_ble_eq_true rfl, Nat.le_of_ble_eq_true rfl⟩ ⟨Nat.le_of_ble_eq_true rfl, Nat.le_of_ble_eq_true rfl⟩ hP hD hS hA (hK) (va_recv hK hP (ci := 2) (q0 := 3) rfl rfl) hl.1 rfl rfl (Nat.le_of_ble_eq_true rfl) dd_I_vacate_17 (fun H locs hP hD hS => ?_)
  have hP : va_P G jcl (wI qI qD qS qC cS cC (jf_putField (jf_putField (jf_resize s i 0) i 0 0) i 2 0) c) H := hP
  have hD : va_D A (wI qI qD qS qC cS cC (jf_putField (jf_putField (jf_resize s i 0) i 0 0) i 2 0) c) := hD
  have hf_3 : jf_ok (jf_putField (jf_putField (jf_resize s i 0) i 0 0) i 2 0) := jf_putField_ok (by assumption) _ _ (by omega)
  have he : wI qI qD qS qC cS cC (jf_putField (jf_putField (jf_resize s i 0) i 0 0) i 2 0) c = wI qI qD qS qC cS cC (jf_vacate s i) c := by first | with_reducible rfl | (simp [jf_vacate]; done)
  rw [he] at hP hD
  exact jm_retv C hP hD hK hS ⟨Nat.le_of_ble_eq_true rfl, Nat.le_of_ble_eq_true rfl⟩ dd_I_vacate_20
set_option maxHeartbeats 4000000 in
set_option maxRecDepth 100000 in
theorem ct_I_entryName (l : Launch) (G : va_G) (qI qD qS qC : Nat) (cS cC : ClassId) (s c : Nat → Nat) (d : Nat) (e : Nat) (hd0 : d < 1000) (he0 : e < 100000) (hs : jf_ok s) : jr l yn_I_entryName (.code yn_I_entryName cd_I_entryName 3 (some .int)) { frames := 3, cells := 0, slots := 0, locals := 66 } G (tD cS cC) (wI qI qD qS qC cS cC s c) [.ref qI, .int (nI (d)), .int (nI (e))] (nI (jf_entryName s d e)) := by
  refine jr_of (by decide) (Nat.le_of_ble_eq_true rfl) ?_
  intro pr en σ mi bel met cd ls C hP hK hl
  have hx := C.1
  have hb := C.2.1
  have hown := C.2.2.2.1
  have hts := C.2.2.2.2.1
  have hl : lv_has ls 3 [(0, .ref qI), (1, .int (nI (d))), (2, .int (nI (e)))] := hl
  refine lv_aload_n hx hb dd_I_entryName_0 rfl (lv_at hl 0 rfl) ?_
  refine lv_iload_n hx hb dd_I_entryName_1 rfl (lv_at hl 1 rfl) ?_
  refine lv_iload_n hx hb dd_I_entryName_2 rfl (lv_at hl 2 rfl) ?_
  refine lv_iconst (v := nI 2) hx hb dd_I_entryName_3 (by decide) ?_
  refine jl_imul hx hb dd_I_entryName_4 ?_
  refine jr_callV C (ct_I_byteOf l G qI qD qS qC cS cC s c d (e * 2) (by omega) (by omega) (by first | assumption | (simp only [] ; assumption))) kl_I_65 ⟨Nat.le_of_ble_eq_true rfl, Nat.le_of_ble_eq_true rfl, rfl, rfl⟩ ⟨Nat.le_of_ble_eq_true rfl, Nat.le_of_ble_eq_true rfl⟩ (hP) (hK) (va_recv hK hP (ci := 2) (q0 := 3) rfl rfl) hl.1 rfl rfl (Nat.le_of_ble_eq_true rfl) dd_I_entryName_5 ?_
  have hf_1 : jf_byteOf s d (e * 2) < 256 := jf_get_lt (by assumption) _
  exact jr_ret C (by first | with_reducible rfl | (simp [jf_entryName]; done) | (simp_all [jf_entryName]; done)) dd_I_entryName_8
set_option maxHeartbeats 4000000 in
set_option maxRecDepth 100000 in
theorem ct_I_entryInode (l : Launch) (G : va_G) (qI qD qS qC : Nat) (cS cC : ClassId) (s c : Nat → Nat) (d : Nat) (e : Nat) (hd0 : d < 1000) (he0 : e < 100000) (hs : jf_ok s) : jr l yn_I_entryInode (.code yn_I_entryInode cd_I_entryInode 3 (some .int)) { frames := 3, cells := 0, slots := 0, locals := 66 } G (tD cS cC) (wI qI qD qS qC cS cC s c) [.ref qI, .int (nI (d)), .int (nI (e))] (nI (jf_entryInode s d e)) := by
  refine jr_of (by decide) (Nat.le_of_ble_eq_true rfl) ?_
  intro pr en σ mi bel met cd ls C hP hK hl
  have hx := C.1
  have hb := C.2.1
  have hown := C.2.2.2.1
  have hts := C.2.2.2.2.1
  have hl : lv_has ls 3 [(0, .ref qI), (1, .int (nI (d))), (2, .int (nI (e)))] := hl
  refine lv_aload_n hx hb dd_I_entryInode_0 rfl (lv_at hl 0 rfl) ?_
  refine lv_iload_n hx hb dd_I_entryInode_1 rfl (lv_at hl 1 rfl) ?_
  refine lv_iload_n hx hb dd_I_entryInode_2 rfl (lv_at hl 2 rfl) ?_
  refine lv_iconst (v := nI 2) hx hb dd_I_entryInode_3 (by decide) ?_
  refine jl_imul hx hb dd_I_entryInode_4 ?_
  refine lv_iconst (v := nI 1) hx hb dd_I_entryInode_5 (by decide) ?_
  refine jl_iadd hx hb dd_I_entryInode_6 ?_
  refine jr_callV C (ct_I_byteOf l G qI qD qS qC cS cC s c d ((e * 2) + 1) (by omega) (by omega) (by first | assumption | (simp only [] ; assumption))) kl_I_65 ⟨Nat.le_of_ble_eq_true rfl, Nat.le_of_ble_eq_true rfl, rfl, rfl⟩ ⟨Nat.le_of_ble_eq_true rfl, Nat.le_of_ble_eq_true rfl⟩ (hP) (hK) (va_recv hK hP (ci := 2) (q0 := 3) rfl rfl) hl.1 rfl rfl (Nat.le_of_ble_eq_true rfl) dd_I_entryInode_7 ?_
  have hf_1 : jf_byteOf s d ((e * 2) + 1) < 256 := jf_get_lt (by assumption) _
  exact jr_ret C (by first | with_reducible rfl | (simp [jf_entryInode]; done) | (simp_all [jf_entryInode]; done)) dd_I_entryInode_10
set_option maxHeartbeats 4000000 in
set_option maxRecDepth 100000 in
theorem ct_I_putEntry (l : Launch) (G : va_G) (qI qD qS qC : Nat) (cS cC : ClassId) (s c : Nat → Nat) (d : Nat) (e : Nat) (nm : Nat) (i : Nat) (hd0 : d < 1000) (he0 : e < 100000) (hn0 : nm < 256) (hi0 : i < 256) (hs : jf_ok s) : jm l yn_I_putEntry (.code yn_I_putEntry cd_I_putEntry 5 none) { frames := 3, cells := 0, slots := 0, locals := 67 } G (tD cS cC) (wI qI qD qS qC cS cC s c) [.ref qI, .int (nI (d)), .int (nI (e)), .int (nI (nm)), .int (nI (i))] none (wI qI qD qS qC cS cC (jf_putEntry s d e nm i) c) := by
  refine jm_of (by decide) (Nat.le_of_ble_eq_true rfl) ?_
  intro pr en σ mi bel met cd ls A hA C hP hK hD hS hl
  have hx := C.1
  have hb := C.2.1
  have hown := C.2.2.2.1
  have hts := C.2.2.2.2.1
  have hl : lv_has ls 5 [(0, .ref qI), (1, .int (nI (d))), (2, .int (nI (e))), (3, .int (nI (nm))), (4, .int (nI (i)))] := hl
  refine lv_aload_n hx hb dd_I_putEntry_0 rfl (lv_at hl 0 rfl) ?_
  refine lv_iload_n hx hb dd_I_putEntry_1 rfl (lv_at hl 1 rfl) ?_
  refine lv_iload_n hx hb dd_I_putEntry_2 rfl (lv_at hl 2 rfl) ?_
  refine lv_iconst (v := nI 2) hx hb dd_I_putEntry_3 (by decide) ?_
  refine jl_imul hx hb dd_I_putEntry_4 ?_
  refine lv_iload_n hx hb dd_I_putEntry_5 rfl (lv_at hl 3 rfl) ?_
  refine jm_callV (wr := []) C (ct_I_putByte l G qI qD qS qC cS cC s c d (e * 2) nm (by omega) (by omega) (by first | assumption | (simp only [] ; assumption))) kl_I_55 ⟨Nat.le_of_ble_eq_true rfl, Nat.le_of_ble_eq_true rfl⟩ ⟨Nat.le_of_ble_eq_true rfl, Nat.le_of_ble_eq_true rfl⟩ hP hD hS hA (hK) (va_recv hK hP (ci := 2) (q0 := 3) rfl rfl) hl.1 rfl rfl (Nat.le_of_ble_eq_true rfl) dd_I_putEntry_6 (fun H locs hP hD hS => ?_)
  have hP : va_P G jcl (wI qI qD qS qC cS cC (jf_putByte s d (e * 2) nm) c) H := hP
  have hD : va_D A (wI qI qD qS qC cS cC (jf_putByte s d (e * 2) nm) c) := hD
  have hf_1 : jf_ok (jf_putByte s d (e * 2) nm) := jf_putByte_ok (by assumption) _ _ (by omega)
  refine lv_aload_n hx hb dd_I_putEntry_9 rfl (lv_at hl 0 rfl) ?_
  refine lv_iload_n hx hb dd_I_putEntry_10 rfl (lv_at hl 1 rfl) ?_
  refine lv_iload_n hx hb dd_I_putEntry_11 rfl (lv_at hl 2 rfl) ?_
  refine lv_iconst (v := nI 2) hx hb dd_I_putEntry_12 (by decide) ?_
  refine jl_imul hx hb dd_I_putEntry_13 ?_
  refine lv_iconst (v := nI 1) hx hb dd_I_putEntry_14 (by decide) ?_
  refine jl_iadd hx hb dd_I_putEntry_15 ?_
  refine lv_iload hx hb dd_I_putEntry_16 (lv_at hl 4 rfl) ?_
  refine jm_callV (wr := []) C (ct_I_putByte l G qI qD qS qC cS cC (jf_putByte s d (e * 2) nm) c d ((e * 2) + 1) i (by omega) (by omega) (by first | assumption | (simp only [] ; assumption))) kl_I_55 ⟨Nat.le_of_ble_eq_true rfl, Nat.le_of_ble_eq_true rfl⟩ ⟨Nat.le_of_ble_eq_true rfl, Nat.le_of_ble_eq_true rfl⟩ hP hD hS hA (hK) (va_recv hK hP (ci := 2) (q0 := 3) rfl rfl) hl.1 rfl rfl (Nat.le_of_ble_eq_true rfl) dd_I_putEntry_18 (fun H locs hP hD hS => ?_)
  have hP : va_P G jcl (wI qI qD qS qC cS cC (jf_putByte (jf_putByte s d (e * 2) nm) d ((e * 2) + 1) i) c) H := hP
  have hD : va_D A (wI qI qD qS qC cS cC (jf_putByte (jf_putByte s d (e * 2) nm) d ((e * 2) + 1) i) c) := hD
  have hf_2 : jf_ok (jf_putByte (jf_putByte s d (e * 2) nm) d ((e * 2) + 1) i) := jf_putByte_ok (by assumption) _ _ (by omega)
  have he : wI qI qD qS qC cS cC (jf_putByte (jf_putByte s d (e * 2) nm) d ((e * 2) + 1) i) c = wI qI qD qS qC cS cC (jf_putEntry s d e nm i) c := by first | with_reducible rfl | (simp [jf_putEntry]; done)
  rw [he] at hP hD
  exact jm_retv C hP hD hK hS ⟨Nat.le_of_ble_eq_true rfl, Nat.le_of_ble_eq_true rfl⟩ dd_I_putEntry_21
