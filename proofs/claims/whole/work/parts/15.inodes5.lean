set_option maxHeartbeats 4000000 in
set_option maxRecDepth 100000 in
theorem ct_I_findEntry (l : Launch) (G : va_G) (qI qD qS qC : Nat) (cS cC : ClassId) (s c : Nat → Nat) (d : Nat) (nm : Nat) (hd0 : d < 1000) (hn0 : nm < 256) (hs : jf_ok s) : jr l yn_I_findEntry (.code yn_I_findEntry cd_I_findEntry 5 (some .int)) { frames := 4, cells := 0, slots := 0, locals := 85 } G (tD cS cC) (wI qI qD qS qC cS cC s c) [.ref qI, .int (nI (d)), .int (nI (nm))] (jo (jf_findEntry s d nm)) := by
  refine jr_of (by decide) (Nat.le_of_ble_eq_true rfl) ?_
  intro pr en σ mi bel met cd ls C hP hK hl
  have hx := C.1
  have hb := C.2.1
  have hown := C.2.2.2.1
  have hts := C.2.2.2.2.1
  have hl : lv_has ls 5 [(0, .ref qI), (1, .int (nI (d))), (2, .int (nI (nm)))] := hl
  refine lv_aload_n hx hb dd_I_findEntry_0 rfl (lv_at hl 0 rfl) ?_
  refine lv_iload_n hx hb dd_I_findEntry_1 rfl (lv_at hl 1 rfl) ?_
  refine jr_callV C (ct_I_entries l G qI qD qS qC cS cC s c d (by omega) (by first | assumption | (simp only [] ; assumption))) kl_I_68 ⟨Nat.le_of_ble_eq_true rfl, Nat.le_of_ble_eq_true rfl, rfl, rfl⟩ ⟨Nat.le_of_ble_eq_true rfl, Nat.le_of_ble_eq_true rfl⟩ (hP) (hK) (va_recv hK hP (ci := 2) (q0 := 3) rfl rfl) hl.1 rfl rfl (Nat.le_of_ble_eq_true rfl) dd_I_findEntry_2 ?_
  have hf_1 : jf_entries s d < 128 := jf_entries_lt (by assumption) _
  refine lv_istore_n (lv' := [(3, .int (nI (jf_entries s d))), (0, .ref qI), (1, .int (nI (d))), (2, .int (nI (nm)))]) hx hb dd_I_findEntry_5 rfl hl (by decide) rfl (fun ls hl => ?_)
  refine lv_iconst (v := nI 0) hx hb dd_I_findEntry_6 (by decide) ?_
  refine lv_istore (lv' := [(4, .int (nI (0))), (3, .int (nI (jf_entries s d))), (0, .ref qI), (1, .int (nI (d))), (2, .int (nI (nm)))]) hx hb dd_I_findEntry_7 hl (by decide) rfl (fun ls hl => ?_)
  have loop : ∀ (n : Nat) (e : Nat), (e + n = jf_entries s d) → jf_feL s d nm n e = jf_findEntry s d nm → ∀ ls : Array Slot, lv_has ls 5 [(4, .int (nI (e))), (3, .int (nI (jf_entries s d))), (0, .ref qI), (1, .int (nI (d))), (2, .int (nI (nm)))] → W pr l en { frames := 4, cells := 0, slots := 0, locals := 85 } σ mi ([.ref qI, .int (nI (d)), .int (nI (nm))] : List Value).toArray bel met cd σ.heap [] 0 0 (jr_Q bel [.ref qI, .int (nI (d)), .int (nI (nm))] σ (jo (jf_findEntry s d nm))) (F0 mi 9 ls []) := by
    intro n
    induction n with
    | zero =>
      intro e hi  ht ls hl
      refine lv_iload hx hb dd_I_findEntry_9 (lv_at hl 0 rfl) ?_
      refine lv_iload_n hx hb dd_I_findEntry_11 rfl (lv_at hl 1 rfl) ?_
      refine jl_ge (tgt := 37) hx hb (by omega) (by omega) dd_I_findEntry_12 (by decide) (fun c_2 => ?_) (fun c_2 => ?_)
      · skip
        refine lv_iconst (v := -1) hx hb dd_I_findEntry_37 (by decide) ?_
        exact jr_ret C (by rw [← ht]; first | with_reducible rfl | (simp [jf_feL, jo, c_2]; done)) dd_I_findEntry_38
      · skip
        exact absurd c_2 (by omega)
    | succ n ih =>
      intro e hi  ht ls hl
      refine lv_iload hx hb dd_I_findEntry_9 (lv_at hl 0 rfl) ?_
      refine lv_iload_n hx hb dd_I_findEntry_11 rfl (lv_at hl 1 rfl) ?_
      refine jl_ge (tgt := 37) hx hb (by omega) (by omega) dd_I_findEntry_12 (by decide) (fun c_3 => ?_) (fun c_3 => ?_)
      · skip
        exact absurd c_3 (by omega)
      · skip
        refine lv_aload_n hx hb dd_I_findEntry_15 rfl (lv_at hl 2 rfl) ?_
        refine lv_iload_n hx hb dd_I_findEntry_16 rfl (lv_at hl 3 rfl) ?_
        refine lv_iload hx hb dd_I_findEntry_17 (lv_at hl 0 rfl) ?_
        refine lv_iconst (v := nI 2) hx hb dd_I_findEntry_19 (by decide) ?_
        refine jl_imul hx hb dd_I_findEntry_20 ?_
        refine jr_callV C (ct_I_byteOf l G qI qD qS qC cS cC s c d (e * 2) (by omega) (by omega) (by first | assumption | (simp only [] ; assumption))) kl_I_65 ⟨Nat.le_of_ble_eq_true rfl, Nat.le_of_ble_eq_true rfl, rfl, rfl⟩ ⟨Nat.le_of_ble_eq_true rfl, Nat.le_of_ble_eq_true rfl⟩ (hP) (hK) (va_recv hK hP (ci := 2) (q0 := 3) rfl rfl) hl.1 rfl rfl (Nat.le_of_ble_eq_true rfl) dd_I_findEntry_21 ?_
        have hf_4 : jf_byteOf s d (e * 2) < 256 := jf_get_lt (by assumption) _
        refine lv_iload_n hx hb dd_I_findEntry_24 rfl (lv_at hl 4 rfl) ?_
        refine jl_ne (tgt := 31) hx hb (by omega) (by omega) dd_I_findEntry_25 (by decide) (fun c_5 => ?_) (fun c_5 => ?_)
        · skip
          refine jl_iinc (lv' := [(4, .int (nI (e + 1))), (3, .int (nI (jf_entries s d))), (0, .ref qI), (1, .int (nI (d))), (2, .int (nI (nm)))]) hx hb dd_I_findEntry_31 hl (k := 0) rfl (by decide) rfl (fun ls hl => ?_)
          refine lv_goto (tgt := 9) hx hb dd_I_findEntry_34 (by decide) ?_
          exact ih (e + 1) (by omega) (by simpa [jf_feL, jo, c_3, c_5] using ht) ls (lv_sub hl [0, 1, 2, 3, 4] rfl)
        · skip
          refine lv_iload hx hb dd_I_findEntry_28 (lv_at hl 0 rfl) ?_
          exact jr_ret C (by rw [← ht]; first | with_reducible rfl | (simp [jf_feL, jo, c_3, c_5]; done)) dd_I_findEntry_30
  exact loop (jf_entries s d) 0 (by omega) (rfl) ls (lv_sub hl [0, 1, 2, 3, 4] rfl)
set_option maxHeartbeats 4000000 in
set_option maxRecDepth 100000 in
theorem ct_I_hasRoomForEntry (l : Launch) (G : va_G) (qI qD qS qC : Nat) (cS cC : ClassId) (s c : Nat → Nat) (d : Nat) (hd0 : d < 1000) (hs : jf_ok s) : jr l yn_I_hasRoomForEntry (.code yn_I_hasRoomForEntry cd_I_hasRoomForEntry 3 (some .boolean)) { frames := 4, cells := 0, slots := 0, locals := 85 } G (tD cS cC) (wI qI qD qS qC cS cC s c) [.ref qI, .int (nI (d))] (nI (jf_hasRoomForEntry s d)) := by
  refine jr_of (by decide) (Nat.le_of_ble_eq_true rfl) ?_
  intro pr en σ mi bel met cd ls C hP hK hl
  have hx := C.1
  have hb := C.2.1
  have hown := C.2.2.2.1
  have hts := C.2.2.2.2.1
  have hl : lv_has ls 3 [(0, .ref qI), (1, .int (nI (d)))] := hl
  refine lv_aload_n hx hb dd_I_hasRoomForEntry_0 rfl (lv_at hl 0 rfl) ?_
  refine lv_iload_n hx hb dd_I_hasRoomForEntry_1 rfl (lv_at hl 1 rfl) ?_
  refine jr_callV C (ct_I_entries l G qI qD qS qC cS cC s c d (by omega) (by first | assumption | (simp only [] ; assumption))) kl_I_68 ⟨Nat.le_of_ble_eq_true rfl, Nat.le_of_ble_eq_true rfl, rfl, rfl⟩ ⟨Nat.le_of_ble_eq_true rfl, Nat.le_of_ble_eq_true rfl⟩ (hP) (hK) (va_recv hK hP (ci := 2) (q0 := 3) rfl rfl) hl.1 rfl rfl (Nat.le_of_ble_eq_true rfl) dd_I_hasRoomForEntry_2 ?_
  have hf_1 : jf_entries s d < 128 := jf_entries_lt (by assumption) _
  refine lv_istore_n (lv' := [(2, .int (nI (jf_entries s d))), (0, .ref qI), (1, .int (nI (d)))]) hx hb dd_I_hasRoomForEntry_5 rfl hl (by decide) rfl (fun ls hl => ?_)
  refine lv_iload_n hx hb dd_I_hasRoomForEntry_6 rfl (lv_at hl 0 rfl) ?_
  refine lv_bipush (v := nI 16) hx hb dd_I_hasRoomForEntry_7 (by decide) ?_
  refine jl_ge (tgt := 33) hx hb (by omega) (by omega) dd_I_hasRoomForEntry_9 (by decide) (fun c_2 => ?_) (fun c_2 => ?_)
  · skip
    refine lv_iconst (v := nI 0) hx hb dd_I_hasRoomForEntry_33 (by decide) ?_
    exact jr_retz C (by decide) (by first | with_reducible rfl | (simp [jf_hasRoomForEntry, c_2]; done) | (simp_all [jf_hasRoomForEntry]; done)) dd_I_hasRoomForEntry_34
  · skip
    refine lv_iload_n hx hb dd_I_hasRoomForEntry_12 rfl (lv_at hl 0 rfl) ?_
    refine jr_callS0 C (ct_I_startsBlock l G (jf_entries s d) (by omega)) kl_I_71 ⟨Nat.le_of_ble_eq_true rfl, Nat.le_of_ble_eq_true rfl, rfl, rfl⟩ ⟨Nat.le_of_ble_eq_true rfl, Nat.le_of_ble_eq_true rfl⟩ hK hl.1 rfl rfl (Nat.le_of_ble_eq_true rfl) dd_I_hasRoomForEntry_13 ?_
    have hf_3 : jf_startsBlock (jf_entries s d) < 2 := by unfold jf_startsBlock; split <;> decide
    refine jl_ifeq (tgt := 29) hx hb (by omega) dd_I_hasRoomForEntry_16 (by decide) (fun c_4 => ?_) (fun c_4 => ?_)
    · skip
      refine lv_iconst (v := nI 1) hx hb dd_I_hasRoomForEntry_29 (by decide) ?_
      refine lv_goto (tgt := 34) hx hb dd_I_hasRoomForEntry_30 (by decide) ?_
      exact jr_retz C (by decide) (by first | with_reducible rfl | (simp [jf_hasRoomForEntry, c_2, c_4]; done) | (simp_all [jf_hasRoomForEntry]; done)) dd_I_hasRoomForEntry_34
    · skip
      refine lv_aload_n hx hb dd_I_hasRoomForEntry_19 rfl (lv_at hl 1 rfl) ?_
      refine va_get (D := G) (ci := 2) (v := .ref qD) (C := cn_I) (T := ft_I) (N := 1) hx hb hts uw_I hown hK hP 3 rfl rfl 0 (by decide) (hts _ tw_55) (fun _ h9 => h9) rfl dd_I_hasRoomForEntry_20 ?_
      refine jr_callV C (ct_D_freeBlocks l G qD qS qC cS cC s c  (by first | assumption | (simp only [] ; assumption))) kl_I_51 ⟨Nat.le_of_ble_eq_true rfl, Nat.le_of_ble_eq_true rfl, rfl, rfl⟩ ⟨Nat.le_of_ble_eq_true rfl, Nat.le_of_ble_eq_true rfl⟩ (jw_left hP) (hK) (va_recv hK hP (ci := 0) (q0 := 0) rfl rfl) hl.1 rfl rfl (Nat.le_of_ble_eq_true rfl) dd_I_hasRoomForEntry_23 ?_
      have hf_5 : jf_free s < 32 := jf_free_lt _
      refine jl_ifle (tgt := 33) hx hb (by omega) dd_I_hasRoomForEntry_26 (by decide) (fun c_6 => ?_) (fun c_6 => ?_)
      · skip
        refine lv_iconst (v := nI 0) hx hb dd_I_hasRoomForEntry_33 (by decide) ?_
        exact jr_retz C (by decide) (by first | with_reducible rfl | (simp [jf_hasRoomForEntry, c_2, c_4, c_6]; done) | (simp_all [jf_hasRoomForEntry]; done)) dd_I_hasRoomForEntry_34
      · skip
        refine lv_iconst (v := nI 1) hx hb dd_I_hasRoomForEntry_29 (by decide) ?_
        refine lv_goto (tgt := 34) hx hb dd_I_hasRoomForEntry_30 (by decide) ?_
        exact jr_retz C (by decide) (by first | with_reducible rfl | (simp [jf_hasRoomForEntry, c_2, c_4, c_6]; done) | (simp_all [jf_hasRoomForEntry]; done)) dd_I_hasRoomForEntry_34
set_option maxHeartbeats 4000000 in
set_option maxRecDepth 100000 in
theorem ct_I_addEntry (l : Launch) (G : va_G) (qI qD qS qC : Nat) (cS cC : ClassId) (s c : Nat → Nat) (d : Nat) (nm : Nat) (i : Nat) (hd0 : d < 1000) (hn0 : nm < 256) (hi0 : i < 256) (he0 : jf_entries s d < 127) (hs : jf_ok s) : jm l yn_I_addEntry (.code yn_I_addEntry cd_I_addEntry 5 none) { frames := 4, cells := 0, slots := 0, locals := 91 } G (tD cS cC) (wI qI qD qS qC cS cC s c) [.ref qI, .int (nI (d)), .int (nI (nm)), .int (nI (i))] none (wI qI qD qS qC cS cC (jf_addEntry s d nm i) c) := by
  refine jm_of (by decide) (Nat.le_of_ble_eq_true rfl) ?_
  intro pr en σ mi bel met cd ls A hA C hP hK hD hS hl
  have hx := C.1
  have hb := C.2.1
  have hown := C.2.2.2.1
  have hts := C.2.2.2.2.1
  have hl : lv_has ls 5 [(0, .ref qI), (1, .int (nI (d))), (2, .int (nI (nm))), (3, .int (nI (i)))] := hl
  refine lv_aload_n hx hb dd_I_addEntry_0 rfl (lv_at hl 0 rfl) ?_
  refine lv_iload_n hx hb dd_I_addEntry_1 rfl (lv_at hl 1 rfl) ?_
  refine jr_callV C (ct_I_entries l G qI qD qS qC cS cC s c d (by omega) (by first | assumption | (simp only [] ; assumption))) kl_I_68 ⟨Nat.le_of_ble_eq_true rfl, Nat.le_of_ble_eq_true rfl, rfl, rfl⟩ ⟨Nat.le_of_ble_eq_true rfl, Nat.le_of_ble_eq_true rfl⟩ (hP) (hK) (va_recv hK hP (ci := 2) (q0 := 3) rfl rfl) hl.1 rfl rfl (Nat.le_of_ble_eq_true rfl) dd_I_addEntry_2 ?_
  have hf_1 : jf_entries s d < 128 := jf_entries_lt (by assumption) _
  refine lv_istore (lv' := [(4, .int (nI (jf_entries s d))), (0, .ref qI), (1, .int (nI (d))), (2, .int (nI (nm))), (3, .int (nI (i)))]) hx hb dd_I_addEntry_5 hl (by decide) rfl (fun ls hl => ?_)
  refine lv_aload_n hx hb dd_I_addEntry_7 rfl (lv_at hl 1 rfl) ?_
  refine lv_iload_n hx hb dd_I_addEntry_8 rfl (lv_at hl 2 rfl) ?_
  refine lv_iload hx hb dd_I_addEntry_9 (lv_at hl 0 rfl) ?_
  refine lv_iconst (v := nI 1) hx hb dd_I_addEntry_11 (by decide) ?_
  refine jl_iadd hx hb dd_I_addEntry_12 ?_
  refine lv_iconst (v := nI 2) hx hb dd_I_addEntry_13 (by decide) ?_
  refine jl_imul hx hb dd_I_addEntry_14 ?_
  refine jm_callV (wr := []) C (ct_I_resize l G qI qD qS qC cS cC s c d (((jf_entries s d) + 1) * 2) (by omega) (by omega) (by first | assumption | (simp only [] ; assumption))) kl_I_42 ⟨Nat.le_of_ble_eq_true rfl, Nat.le_of_ble_eq_true rfl⟩ ⟨Nat.le_of_ble_eq_true rfl, Nat.le_of_ble_eq_true rfl⟩ hP hD hS hA (hK) (va_recv hK hP (ci := 2) (q0 := 3) rfl rfl) hl.1 rfl rfl (Nat.le_of_ble_eq_true rfl) dd_I_addEntry_15 (fun H locs hP hD hS => ?_)
  have hP : va_P G jcl (wI qI qD qS qC cS cC (jf_resize s d (((jf_entries s d) + 1) * 2)) c) H := hP
  have hD : va_D A (wI qI qD qS qC cS cC (jf_resize s d (((jf_entries s d) + 1) * 2)) c) := hD
  have hf_2 : jf_ok (jf_resize s d (((jf_entries s d) + 1) * 2)) := jf_resize_ok (by assumption) _ (by omega)
  refine lv_aload_n hx hb dd_I_addEntry_18 rfl (lv_at hl 1 rfl) ?_
  refine lv_iload_n hx hb dd_I_addEntry_19 rfl (lv_at hl 2 rfl) ?_
  refine lv_iload hx hb dd_I_addEntry_20 (lv_at hl 0 rfl) ?_
  refine lv_iload_n hx hb dd_I_addEntry_22 rfl (lv_at hl 3 rfl) ?_
  refine lv_iload_n hx hb dd_I_addEntry_23 rfl (lv_at hl 4 rfl) ?_
  refine jm_callV (wr := []) C (ct_I_putEntry l G qI qD qS qC cS cC (jf_resize s d (((jf_entries s d) + 1) * 2)) c d (jf_entries s d) nm i (by omega) (by omega) (by omega) (by omega) (by first | assumption | (simp only [] ; assumption))) kl_I_75 ⟨Nat.le_of_ble_eq_true rfl, Nat.le_of_ble_eq_true rfl⟩ ⟨Nat.le_of_ble_eq_true rfl, Nat.le_of_ble_eq_true rfl⟩ hP hD hS hA (hK) (va_recv hK hP (ci := 2) (q0 := 3) rfl rfl) hl.1 rfl rfl (Nat.le_of_ble_eq_true rfl) dd_I_addEntry_24 (fun H locs hP hD hS => ?_)
  have hP : va_P G jcl (wI qI qD qS qC cS cC (jf_putEntry (jf_resize s d (((jf_entries s d) + 1) * 2)) d (jf_entries s d) nm i) c) H := hP
  have hD : va_D A (wI qI qD qS qC cS cC (jf_putEntry (jf_resize s d (((jf_entries s d) + 1) * 2)) d (jf_entries s d) nm i) c) := hD
  have hf_3 : jf_ok (jf_putEntry (jf_resize s d (((jf_entries s d) + 1) * 2)) d (jf_entries s d) nm i) := jf_putEntry_ok (by assumption) _ _ (by omega) (by omega)
  have he : wI qI qD qS qC cS cC (jf_putEntry (jf_resize s d (((jf_entries s d) + 1) * 2)) d (jf_entries s d) nm i) c = wI qI qD qS qC cS cC (jf_addEntry s d nm i) c := by first | with_reducible rfl | (simp [jf_addEntry]; done)
  rw [he] at hP hD
  exact jm_retv C hP hD hK hS ⟨Nat.le_of_ble_eq_true rfl, Nat.le_of_ble_eq_true rfl⟩ dd_I_addEntry_27
set_option maxHeartbeats 4000000 in
set_option maxRecDepth 100000 in
theorem ct_I_redirectEntry (l : Launch) (G : va_G) (qI qD qS qC : Nat) (cS cC : ClassId) (s c : Nat → Nat) (d : Nat) (nm : Nat) (i : Nat) (hd0 : d < 1000) (hn0 : nm < 256) (hi0 : i < 256) (hs : jf_ok s) : jm l yn_I_redirectEntry (.code yn_I_redirectEntry cd_I_redirectEntry 5 none) { frames := 5, cells := 0, slots := 0, locals := 109 } G (tD cS cC) (wI qI qD qS qC cS cC s c) [.ref qI, .int (nI (d)), .int (nI (nm)), .int (nI (i))] none (wI qI qD qS qC cS cC (jf_redirect s d nm i) c) := by
  refine jm_of (by decide) (Nat.le_of_ble_eq_true rfl) ?_
  intro pr en σ mi bel met cd ls A hA C hP hK hD hS hl
  have hx := C.1
  have hb := C.2.1
  have hown := C.2.2.2.1
  have hts := C.2.2.2.2.1
  have hl : lv_has ls 5 [(0, .ref qI), (1, .int (nI (d))), (2, .int (nI (nm))), (3, .int (nI (i)))] := hl
  refine lv_aload_n hx hb dd_I_redirectEntry_0 rfl (lv_at hl 0 rfl) ?_
  refine lv_iload_n hx hb dd_I_redirectEntry_1 rfl (lv_at hl 1 rfl) ?_
  refine lv_iload_n hx hb dd_I_redirectEntry_2 rfl (lv_at hl 2 rfl) ?_
  refine jr_callV C (ct_I_findEntry l G qI qD qS qC cS cC s c d nm (by omega) (by omega) (by first | assumption | (simp only [] ; assumption))) kl_I_79 ⟨Nat.le_of_ble_eq_true rfl, Nat.le_of_ble_eq_true rfl, rfl, rfl⟩ ⟨Nat.le_of_ble_eq_true rfl, Nat.le_of_ble_eq_true rfl⟩ (hP) (hK) (va_recv hK hP (ci := 2) (q0 := 3) rfl rfl) hl.1 rfl rfl (Nat.le_of_ble_eq_true rfl) dd_I_redirectEntry_3 ?_
  have hf_1 : jf_entries s d < 128 := jf_entries_lt (by assumption) _
  refine lv_istore (lv' := [(4, .int (jo (jf_findEntry s d nm))), (0, .ref qI), (1, .int (nI (d))), (2, .int (nI (nm))), (3, .int (nI (i)))]) hx hb dd_I_redirectEntry_6 hl (by decide) rfl (fun ls hl => ?_)
  refine lv_iload hx hb dd_I_redirectEntry_8 (lv_at hl 0 rfl) ?_
  refine lv_iconst (v := -1) hx hb dd_I_redirectEntry_10 (by decide) ?_
  refine jl_eqO (tgt := 23) hx hb (fun j h => Nat.lt_of_lt_of_le (jf_findEntry_lt h) (by omega)) dd_I_redirectEntry_11 (by decide) (fun hj_3 => ?_) (fun j_3 hj_3 => ?_)
  · skip
    have he : wI qI qD qS qC cS cC s c = wI qI qD qS qC cS cC (jf_redirect s d nm i) c := by first | with_reducible rfl | (simp [jf_redirect, hj_3]; done)
    rw [he] at hP hD
    exact jm_retv C hP hD hK hS ⟨Nat.le_of_ble_eq_true rfl, Nat.le_of_ble_eq_true rfl⟩ dd_I_redirectEntry_23
  · skip
    have ho_4 := jf_findEntry_lt hj_3
    have hl : lv_has ls 5 [(4, .int (nI (j_3))), (0, .ref qI), (1, .int (nI (d))), (2, .int (nI (nm))), (3, .int (nI (i)))] := by rw [hj_3] at hl; exact hl
    refine lv_aload_n hx hb dd_I_redirectEntry_14 rfl (lv_at hl 1 rfl) ?_
    refine lv_iload_n hx hb dd_I_redirectEntry_15 rfl (lv_at hl 2 rfl) ?_
    refine lv_iload hx hb dd_I_redirectEntry_16 (lv_at hl 0 rfl) ?_
    refine lv_iload_n hx hb dd_I_redirectEntry_18 rfl (lv_at hl 3 rfl) ?_
    refine lv_iload_n hx hb dd_I_redirectEntry_19 rfl (lv_at hl 4 rfl) ?_
    refine jm_callV (wr := []) C (ct_I_putEntry l G qI qD qS qC cS cC s c d j_3 nm i (by omega) (by omega) (by omega) (by omega) (by first | assumption | (simp only [] ; assumption))) kl_I_75 ⟨Nat.le_of_ble_eq_true rfl, Nat.le_of_ble_eq_true rfl⟩ ⟨Nat.le_of_ble_eq_true rfl, Nat.le_of_ble_eq_true rfl⟩ hP hD hS hA (hK) (va_recv hK hP (ci := 2) (q0 := 3) rfl rfl) hl.1 rfl rfl (Nat.le_of_ble_eq_true rfl) dd_I_redirectEntry_20 (fun H locs hP hD hS => ?_)
    have hP : va_P G jcl (wI qI qD qS qC cS cC (jf_putEntry s d j_3 nm i) c) H := hP
    have hD : va_D A (wI qI qD qS qC cS cC (jf_putEntry s d j_3 nm i) c) := hD
    have hf_5 : jf_ok (jf_putEntry s d j_3 nm i) := jf_putEntry_ok (by assumption) _ _ (by omega) (by omega)
    have he : wI qI qD qS qC cS cC (jf_putEntry s d j_3 nm i) c = wI qI qD qS qC cS cC (jf_redirect s d nm i) c := by first | with_reducible rfl | (simp [jf_redirect, hj_3]; done)
    rw [he] at hP hD
    exact jm_retv C hP hD hK hS ⟨Nat.le_of_ble_eq_true rfl, Nat.le_of_ble_eq_true rfl⟩ dd_I_redirectEntry_23
set_option maxHeartbeats 4000000 in
set_option maxRecDepth 100000 in
theorem ct_I_dropEntry (l : Launch) (G : va_G) (qI qD qS qC : Nat) (cS cC : ClassId) (s c : Nat → Nat) (d : Nat) (nm : Nat) (hd0 : d < 1000) (hn0 : nm < 256) (hs : jf_ok s) : jm l yn_I_dropEntry (.code yn_I_dropEntry cd_I_dropEntry 5 none) { frames := 5, cells := 0, slots := 0, locals := 109 } G (tD cS cC) (wI qI qD qS qC cS cC s c) [.ref qI, .int (nI (d)), .int (nI (nm))] none (wI qI qD qS qC cS cC (jf_dropEntry s d nm) c) := by
  refine jm_of (by decide) (Nat.le_of_ble_eq_true rfl) ?_
  intro pr en σ mi bel met cd ls A hA C hP hK hD hS hl
  have hx := C.1
  have hb := C.2.1
  have hown := C.2.2.2.1
  have hts := C.2.2.2.2.1
  have hl : lv_has ls 5 [(0, .ref qI), (1, .int (nI (d))), (2, .int (nI (nm)))] := hl
  refine lv_aload_n hx hb dd_I_dropEntry_0 rfl (lv_at hl 0 rfl) ?_
  refine lv_iload_n hx hb dd_I_dropEntry_1 rfl (lv_at hl 1 rfl) ?_
  refine lv_iload_n hx hb dd_I_dropEntry_2 rfl (lv_at hl 2 rfl) ?_
  refine jr_callV C (ct_I_findEntry l G qI qD qS qC cS cC s c d nm (by omega) (by omega) (by first | assumption | (simp only [] ; assumption))) kl_I_79 ⟨Nat.le_of_ble_eq_true rfl, Nat.le_of_ble_eq_true rfl, rfl, rfl⟩ ⟨Nat.le_of_ble_eq_true rfl, Nat.le_of_ble_eq_true rfl⟩ (hP) (hK) (va_recv hK hP (ci := 2) (q0 := 3) rfl rfl) hl.1 rfl rfl (Nat.le_of_ble_eq_true rfl) dd_I_dropEntry_3 ?_
  have hf_1 : jf_entries s d < 128 := jf_entries_lt (by assumption) _
  refine lv_istore_n (lv' := [(3, .int (jo (jf_findEntry s d nm))), (0, .ref qI), (1, .int (nI (d))), (2, .int (nI (nm)))]) hx hb dd_I_dropEntry_6 rfl hl (by decide) rfl (fun ls hl => ?_)
  refine lv_iload_n hx hb dd_I_dropEntry_7 rfl (lv_at hl 0 rfl) ?_
  refine lv_iconst (v := -1) hx hb dd_I_dropEntry_8 (by decide) ?_
  refine jl_neO (tgt := 13) hx hb (fun j h => Nat.lt_of_lt_of_le (jf_findEntry_lt h) (by omega)) dd_I_dropEntry_9 (by decide) (fun j_3 hj_3 => ?_) (fun hj_3 => ?_)
  · skip
    have ho_4 := jf_findEntry_lt hj_3
    have hl : lv_has ls 5 [(3, .int (nI (j_3))), (0, .ref qI), (1, .int (nI (d))), (2, .int (nI (nm)))] := by rw [hj_3] at hl; exact hl
    refine lv_aload_n hx hb dd_I_dropEntry_13 rfl (lv_at hl 1 rfl) ?_
    refine lv_iload_n hx hb dd_I_dropEntry_14 rfl (lv_at hl 2 rfl) ?_
    refine jr_callV C (ct_I_entries l G qI qD qS qC cS cC s c d (by omega) (by first | assumption | (simp only [] ; assumption))) kl_I_68 ⟨Nat.le_of_ble_eq_true rfl, Nat.le_of_ble_eq_true rfl, rfl, rfl⟩ ⟨Nat.le_of_ble_eq_true rfl, Nat.le_of_ble_eq_true rfl⟩ (hP) (hK) (va_recv hK hP (ci := 2) (q0 := 3) rfl rfl) hl.1 rfl rfl (Nat.le_of_ble_eq_true rfl) dd_I_dropEntry_15 ?_
    have hf_5 : jf_entries s d < 128 := jf_entries_lt (by assumption) _
    refine lv_iconst (v := nI 1) hx hb dd_I_dropEntry_18 (by decide) ?_
    refine jl_isub hx hb (by omega) dd_I_dropEntry_19 ?_
    refine lv_istore (lv' := [(4, .int (nI ((jf_entries s d) - 1))), (3, .int (nI (j_3))), (0, .ref qI), (1, .int (nI (d))), (2, .int (nI (nm)))]) hx hb dd_I_dropEntry_20 hl (by decide) rfl (fun ls hl => ?_)
    refine lv_aload_n hx hb dd_I_dropEntry_22 rfl (lv_at hl 2 rfl) ?_
    refine lv_iload_n hx hb dd_I_dropEntry_23 rfl (lv_at hl 3 rfl) ?_
    refine lv_iload_n hx hb dd_I_dropEntry_24 rfl (lv_at hl 1 rfl) ?_
    refine lv_aload_n hx hb dd_I_dropEntry_25 rfl (lv_at hl 2 rfl) ?_
    refine lv_iload_n hx hb dd_I_dropEntry_26 rfl (lv_at hl 3 rfl) ?_
    refine lv_iload hx hb dd_I_dropEntry_27 (lv_at hl 0 rfl) ?_
    refine jr_callV C (ct_I_entryName l G qI qD qS qC cS cC s c d ((jf_entries s d) - 1) (by omega) (by omega) (by first | assumption | (simp only [] ; assumption))) kl_I_82 ⟨Nat.le_of_ble_eq_true rfl, Nat.le_of_ble_eq_true rfl, rfl, rfl⟩ ⟨Nat.le_of_ble_eq_true rfl, Nat.le_of_ble_eq_true rfl⟩ (hP) (hK) (va_recv hK hP (ci := 2) (q0 := 3) rfl rfl) hl.1 rfl rfl (Nat.le_of_ble_eq_true rfl) dd_I_dropEntry_29 ?_
    have hf_6 : jf_entryName s d ((jf_entries s d) - 1) < 256 := jf_get_lt (by assumption) _
    refine lv_aload_n hx hb dd_I_dropEntry_32 rfl (lv_at hl 2 rfl) ?_
    refine lv_iload_n hx hb dd_I_dropEntry_33 rfl (lv_at hl 3 rfl) ?_
    refine lv_iload hx hb dd_I_dropEntry_34 (lv_at hl 0 rfl) ?_
    refine jr_callV C (ct_I_entryInode l G qI qD qS qC cS cC s c d ((jf_entries s d) - 1) (by omega) (by omega) (by first | assumption | (simp only [] ; assumption))) kl_I_85 ⟨Nat.le_of_ble_eq_true rfl, Nat.le_of_ble_eq_true rfl, rfl, rfl⟩ ⟨Nat.le_of_ble_eq_true rfl, Nat.le_of_ble_eq_true rfl⟩ (hP) (hK) (va_recv hK hP (ci := 2) (q0 := 3) rfl rfl) hl.1 rfl rfl (Nat.le_of_ble_eq_true rfl) dd_I_dropEntry_36 ?_
    have hf_7 : jf_entryInode s d ((jf_entries s d) - 1) < 256 := jf_get_lt (by assumption) _
    refine jm_callV (wr := []) C (ct_I_putEntry l G qI qD qS qC cS cC s c d j_3 (jf_entryName s d ((jf_entries s d) - 1)) (jf_entryInode s d ((jf_entries s d) - 1)) (by omega) (by omega) (by omega) (by omega) (by first | assumption | (simp only [] ; assumption))) kl_I_75 ⟨Nat.le_of_ble_eq_true rfl, Nat.le_of_ble_eq_true rfl⟩ ⟨Nat.le_of_ble_eq_true rfl, Nat.le_of_ble_eq_true rfl⟩ hP hD hS hA (hK) (va_recv hK hP (ci := 2) (q0 := 3) rfl rfl) hl.1 rfl rfl (Nat.le_of_ble_eq_true rfl) dd_I_dropEntry_39 (fun H locs hP hD hS => ?_)
    have hP : va_P G jcl (wI qI qD qS qC cS cC (jf_putEntry s d j_3 (jf_entryName s d ((jf_entries s d) - 1)) (jf_entryInode s d ((jf_entries s d) - 1))) c) H := hP
    have hD : va_D A (wI qI qD qS qC cS cC (jf_putEntry s d j_3 (jf_entryName s d ((jf_entries s d) - 1)) (jf_entryInode s d ((jf_entries s d) - 1))) c) := hD
    have hf_8 : jf_ok (jf_putEntry s d j_3 (jf_entryName s d ((jf_entries s d) - 1)) (jf_entryInode s d ((jf_entries s d) - 1))) := jf_putEntry_ok (by assumption) _ _ (by omega) (by omega)
    refine lv_aload_n hx hb dd_I_dropEntry_42 rfl (lv_at hl 2 rfl) ?_
    refine lv_iload_n hx hb dd_I_dropEntry_43 rfl (lv_at hl 3 rfl) ?_
    refine lv_iload hx hb dd_I_dropEntry_44 (lv_at hl 0 rfl) ?_
    refine lv_iconst (v := nI 2) hx hb dd_I_dropEntry_46 (by decide) ?_
    refine jl_imul hx hb dd_I_dropEntry_47 ?_
    refine jm_callV (wr := []) C (ct_I_resize l G qI qD qS qC cS cC (jf_putEntry s d j_3 (jf_entryName s d ((jf_entries s d) - 1)) (jf_entryInode s d ((jf_entries s d) - 1))) c d (((jf_entries s d) - 1) * 2) (by omega) (by omega) (by first | assumption | (simp only [] ; assumption))) kl_I_42 ⟨Nat.le_of_ble_eq_true rfl, Nat.le_of_ble_eq_true rfl⟩ ⟨Nat.le_of_ble_eq_true rfl, Nat.le_of_ble_eq_true rfl⟩ hP hD hS hA (hK) (va_recv hK hP (ci := 2) (q0 := 3) rfl rfl) hl.1 rfl rfl (Nat.le_of_ble_eq_true rfl) dd_I_dropEntry_48 (fun H locs hP hD hS => ?_)
    have hP : va_P G jcl (wI qI qD qS qC cS cC (jf_resize (jf_putEntry s d j_3 (jf_entryName s d ((jf_entries s d) - 1)) (jf_entryInode s d ((jf_entries s d) - 1))) d (((jf_entries s d) - 1) * 2)) c) H := hP
    have hD : va_D A (wI qI qD qS qC cS cC (jf_resize (jf_putEntry s d j_3 (jf_entryName s d ((jf_entries s d) - 1)) (jf_entryInode s d ((jf_entries s d) - 1))) d (((jf_entries s d) - 1) * 2)) c) := hD
    have hf_9 : jf_ok (jf_resize (jf_putEntry s d j_3 (jf_entryName s d ((jf_entries s d) - 1)) (jf_entryInode s d ((jf_entries s d) - 1))) d (((jf_entries s d) - 1) * 2)) := jf_resize_ok (by assumption) _ (by omega)
    have he : wI qI qD qS qC cS cC (jf_resize (jf_putEntry s d j_3 (jf_entryName s d ((jf_entries s d) - 1)) (jf_entryInode s d ((jf_entries s d) - 1))) d (((jf_entries s d) - 1) * 2)) c = wI qI qD qS qC cS cC (jf_dropEntry s d nm) c := by first | with_reducible rfl | (simp [jf_dropEntry, hj_3]; done)
    rw [he] at hP hD
    exact jm_retv C hP hD hK hS ⟨Nat.le_of_ble_eq_true rfl, Nat.le_of_ble_eq_true rfl⟩ dd_I_dropEntry_51
  · skip
    have he : wI qI qD qS qC cS cC s c = wI qI qD qS qC cS cC (jf_dropEntry s d nm) c := by first | with_reducible rfl | (simp [jf_dropEntry, hj_3]; done)
    rw [he] at hP hD
    exact jm_retv C hP hD hK hS ⟨Nat.le_of_ble_eq_true rfl, Nat.le_of_ble_eq_true rfl⟩ dd_I_dropEntry_12
