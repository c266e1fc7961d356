set_option maxHeartbeats 4000000 in
set_option maxRecDepth 100000 in
theorem ct_I_freeInodes (l : Launch) (G : va_G) (qI qD qS qC : Nat) (cS cC : ClassId) (s c : Nat → Nat)  (hs : jf_ok s) : jr l yn_I_freeInodes (.code yn_I_freeInodes cd_I_freeInodes 3 (some .int)) { frames := 3, cells := 0, slots := 0, locals := 64 } G (tD cS cC) (wI qI qD qS qC cS cC s c) [.ref qI] (nI (jf_freeInodes s)) := by
  refine jr_of (by decide) (Nat.le_of_ble_eq_true rfl) ?_
  intro pr en σ mi bel met cd ls C hP hK hl
  have hx := C.1
  have hb := C.2.1
  have hown := C.2.2.2.1
  have hts := C.2.2.2.2.1
  have hl : lv_has ls 3 [(0, .ref qI)] := hl
  refine lv_iconst (v := nI 0) hx hb dd_I_freeInodes_0 (by decide) ?_
  refine lv_istore_n (lv' := [(1, .int (nI (0))), (0, .ref qI)]) hx hb dd_I_freeInodes_1 rfl hl (by decide) rfl (fun ls hl => ?_)
  refine lv_iconst (v := nI 0) hx hb dd_I_freeInodes_2 (by decide) ?_
  refine lv_istore_n (lv' := [(2, .int (nI (0))), (1, .int (nI (0))), (0, .ref qI)]) hx hb dd_I_freeInodes_3 rfl hl (by decide) rfl (fun ls hl => ?_)
  have loop : ∀ (n : Nat) (f : Nat) (i : Nat), (i + n = 12 ∧ f ≤ i) → jf_friL s n i f = jf_freeInodes s → ∀ ls : Array Slot, lv_has ls 3 [(2, .int (nI (i))), (1, .int (nI (f))), (0, .ref qI)] → W pr l en { frames := 3, cells := 0, slots := 0, locals := 64 } σ mi ([.ref qI] : List Value).toArray bel met cd σ.heap [] 0 0 (jr_Q bel [.ref qI] σ (nI (jf_freeInodes s))) (F0 mi 4 ls []) := by
    intro n
    induction n with
    | zero =>
      intro f i hi  ht ls hl
      refine lv_iload_n hx hb dd_I_freeInodes_4 rfl (lv_at hl 0 rfl) ?_
      refine lv_bipush (v := nI 12) hx hb dd_I_freeInodes_5 (by decide) ?_
      refine jl_ge (tgt := 27) hx hb (by omega) (by omega) dd_I_freeInodes_7 (by decide) (fun c_1 => ?_) (fun c_1 => ?_)
      · skip
        refine lv_iload_n hx hb dd_I_freeInodes_27 rfl (lv_at hl 1 rfl) ?_
        exact jr_ret C (by rw [← ht]; first | with_reducible rfl | (simp [jf_friL, c_1]; done)) dd_I_freeInodes_28
      · skip
        exact absurd c_1 (by omega)
    | succ n ih =>
      intro f i hi  ht ls hl
      refine lv_iload_n hx hb dd_I_freeInodes_4 rfl (lv_at hl 0 rfl) ?_
      refine lv_bipush (v := nI 12) hx hb dd_I_freeInodes_5 (by decide) ?_
      refine jl_ge (tgt := 27) hx hb (by omega) (by omega) dd_I_freeInodes_7 (by decide) (fun c_2 => ?_) (fun c_2 => ?_)
      · skip
        exact absurd c_2 (by omega)
      · skip
        refine lv_aload_n hx hb dd_I_freeInodes_10 rfl (lv_at hl 2 rfl) ?_
        refine lv_iload_n hx hb dd_I_freeInodes_11 rfl (lv_at hl 0 rfl) ?_
        refine jr_callV C (ct_I_kind l G qI qD qS qC cS cC s c i (by omega) (by first | assumption | (simp only [] ; assumption))) kl_I_29 ⟨Nat.le_of_ble_eq_true rfl, Nat.le_of_ble_eq_true rfl, rfl, rfl⟩ ⟨Nat.le_of_ble_eq_true rfl, Nat.le_of_ble_eq_true rfl⟩ (hP) (hK) (va_recv hK hP (ci := 2) (q0 := 3) rfl rfl) hl.1 rfl rfl (Nat.le_of_ble_eq_true rfl) dd_I_freeInodes_12 ?_
        have hf_3 : jf_kind s i < 256 := jf_get_lt (by assumption) _
        refine jl_ifne (tgt := 21) hx hb (by omega) dd_I_freeInodes_15 (by decide) (fun c_4 => ?_) (fun c_4 => ?_)
        · skip
          refine jl_iinc (lv' := [(2, .int (nI (i + 1))), (1, .int (nI (f))), (0, .ref qI)]) hx hb dd_I_freeInodes_21 hl (k := 0) rfl (by decide) rfl (fun ls hl => ?_)
          refine lv_goto (tgt := 4) hx hb dd_I_freeInodes_24 (by decide) ?_
          exact ih f (i + 1) (by omega) (by simpa [jf_friL, c_2, c_4] using ht) ls (lv_sub hl [0, 1, 2] rfl)
        · skip
          refine jl_iinc (lv' := [(1, .int (nI (f + 1))), (2, .int (nI (i))), (0, .ref qI)]) hx hb dd_I_freeInodes_18 hl (k := 1) rfl (by decide) rfl (fun ls hl => ?_)
          refine jl_iinc (lv' := [(2, .int (nI (i + 1))), (1, .int (nI (f + 1))), (0, .ref qI)]) hx hb dd_I_freeInodes_21 hl (k := 1) rfl (by decide) rfl (fun ls hl => ?_)
          refine lv_goto (tgt := 4) hx hb dd_I_freeInodes_24 (by decide) ?_
          exact ih (f + 1) (i + 1) (by omega) (by simpa [jf_friL, c_2, c_4] using ht) ls (lv_sub hl [0, 1, 2] rfl)
  exact loop 12 0 0 (by omega) (rfl) ls (lv_sub hl [0, 1, 2] rfl)
set_option maxHeartbeats 4000000 in
set_option maxRecDepth 100000 in
theorem ct_I_leastFree (l : Launch) (G : va_G) (qI qD qS qC : Nat) (cS cC : ClassId) (s c : Nat → Nat)  (hs : jf_ok s) : jr l yn_I_leastFree (.code yn_I_leastFree cd_I_leastFree 2 (some .int)) { frames := 3, cells := 0, slots := 0, locals := 64 } G (tD cS cC) (wI qI qD qS qC cS cC s c) [.ref qI] (jo (jf_leastFree s)) := by
  refine jr_of (by decide) (Nat.le_of_ble_eq_true rfl) ?_
  intro pr en σ mi bel met cd ls C hP hK hl
  have hx := C.1
  have hb := C.2.1
  have hown := C.2.2.2.1
  have hts := C.2.2.2.2.1
  have hl : lv_has ls 2 [(0, .ref qI)] := hl
  refine lv_iconst (v := nI 0) hx hb dd_I_leastFree_0 (by decide) ?_
  refine lv_istore_n (lv' := [(1, .int (nI (0))), (0, .ref qI)]) hx hb dd_I_leastFree_1 rfl hl (by decide) rfl (fun ls hl => ?_)
  have loop : ∀ (n : Nat) (i : Nat), (i + n = 12) → jf_lfL s n i = jf_leastFree s → ∀ ls : Array Slot, lv_has ls 2 [(1, .int (nI (i))), (0, .ref qI)] → W pr l en { frames := 3, cells := 0, slots := 0, locals := 64 } σ mi ([.ref qI] : List Value).toArray bel met cd σ.heap [] 0 0 (jr_Q bel [.ref qI] σ (jo (jf_leastFree s))) (F0 mi 2 ls []) := by
    intro n
    induction n with
    | zero =>
      intro i hi  ht ls hl
      refine lv_iload_n hx hb dd_I_leastFree_2 rfl (lv_at hl 0 rfl) ?_
      refine lv_bipush (v := nI 12) hx hb dd_I_leastFree_3 (by decide) ?_
      refine jl_ge (tgt := 24) hx hb (by omega) (by omega) dd_I_leastFree_5 (by decide) (fun c_1 => ?_) (fun c_1 => ?_)
      · skip
        refine lv_iconst (v := -1) hx hb dd_I_leastFree_24 (by decide) ?_
        exact jr_ret C (by rw [← ht]; first | with_reducible rfl | (simp [jf_lfL, jo, c_1]; done)) dd_I_leastFree_25
      · skip
        exact absurd c_1 (by omega)
    | succ n ih =>
      intro i hi  ht ls hl
      refine lv_iload_n hx hb dd_I_leastFree_2 rfl (lv_at hl 0 rfl) ?_
      refine lv_bipush (v := nI 12) hx hb dd_I_leastFree_3 (by decide) ?_
      refine jl_ge (tgt := 24) hx hb (by omega) (by omega) dd_I_leastFree_5 (by decide) (fun c_2 => ?_) (fun c_2 => ?_)
      · skip
        exact absurd c_2 (by omega)
      · skip
        refine lv_aload_n hx hb dd_I_leastFree_8 rfl (lv_at hl 1 rfl) ?_
        refine lv_iload_n hx hb dd_I_leastFree_9 rfl (lv_at hl 0 rfl) ?_
        refine jr_callV C (ct_I_kind l G qI qD qS qC cS cC s c i (by omega) (by first | assumption | (simp only [] ; assumption))) kl_I_29 ⟨Nat.le_of_ble_eq_true rfl, Nat.le_of_ble_eq_true rfl, rfl, rfl⟩ ⟨Nat.le_of_ble_eq_true rfl, Nat.le_of_ble_eq_true rfl⟩ (hP) (hK) (va_recv hK hP (ci := 2) (q0 := 3) rfl rfl) hl.1 rfl rfl (Nat.le_of_ble_eq_true rfl) dd_I_leastFree_10 ?_
        have hf_3 : jf_kind s i < 256 := jf_get_lt (by assumption) _
        refine jl_ifne (tgt := 18) hx hb (by omega) dd_I_leastFree_13 (by decide) (fun c_4 => ?_) (fun c_4 => ?_)
        · skip
          refine jl_iinc (lv' := [(1, .int (nI (i + 1))), (0, .ref qI)]) hx hb dd_I_leastFree_18 hl (k := 0) rfl (by decide) rfl (fun ls hl => ?_)
          refine lv_goto (tgt := 2) hx hb dd_I_leastFree_21 (by decide) ?_
          exact ih (i + 1) (by omega) (by simpa [jf_lfL, jo, c_2, c_4] using ht) ls (lv_sub hl [0, 1] rfl)
        · skip
          refine lv_iload_n hx hb dd_I_leastFree_16 rfl (lv_at hl 0 rfl) ?_
          exact jr_ret C (by rw [← ht]; first | with_reducible rfl | (simp [jf_lfL, jo, c_2, c_4]; done)) dd_I_leastFree_17
  exact loop 12 0 (by omega) (rfl) ls (lv_sub hl [0, 1] rfl)
set_option maxHeartbeats 4000000 in
set_option maxRecDepth 100000 in
theorem ct_I_occupy (l : Launch) (G : va_G) (qI qD qS qC : Nat) (cS cC : ClassId) (s c : Nat → Nat) (i : Nat) (k : Nat) (hi0 : i < 1000) (hk0 : k < 256) (hs : jf_ok s) : jm l yn_I_occupy (.code yn_I_occupy cd_I_occupy 3 none) { frames := 3, cells := 0, slots := 0, locals := 64 } G (tD cS cC) (wI qI qD qS qC cS cC s c) [.ref qI, .int (nI (i)), .int (nI (k))] none (wI qI qD qS qC cS cC (jf_occupy s i k) c) := by
  refine jm_of (by decide) (Nat.le_of_ble_eq_true rfl) ?_
  intro pr en σ mi bel met cd ls A hA C hP hK hD hS hl
  have hx := C.1
  have hb := C.2.1
  have hown := C.2.2.2.1
  have hts := C.2.2.2.2.1
  have hl : lv_has ls 3 [(0, .ref qI), (1, .int (nI (i))), (2, .int (nI (k)))] := hl
  refine lv_aload_n hx hb dd_I_occupy_0 rfl (lv_at hl 0 rfl) ?_
  refine lv_iload_n hx hb dd_I_occupy_1 rfl (lv_at hl 1 rfl) ?_
  refine lv_iconst (v := nI 0) hx hb dd_I_occupy_2 (by decide) ?_
  refine lv_iload_n hx hb dd_I_occupy_3 rfl (lv_at hl 2 rfl) ?_
  refine jm_callV (wr := []) C (ct_I_putField l G qI qD qS qC cS cC s c i 0 k (by omega) (by omega)) kl_I_35 ⟨Nat.le_of_ble_eq_true rfl, Nat.le_of_ble_eq_true rfl⟩ ⟨Nat.le_of_ble_eq_true rfl, Nat.le_of_ble_eq_true rfl⟩ hP hD hS hA (hK) (va_recv hK hP (ci := 2) (q0 := 3) rfl rfl) hl.1 rfl rfl (Nat.le_of_ble_eq_true rfl) dd_I_occupy_4 (fun H locs hP hD hS => ?_)
  have hP : va_P G jcl (wI qI qD qS qC cS cC (jf_putField s i 0 k) c) H := hP
  have hD : va_D A (wI qI qD qS qC cS cC (jf_putField s i 0 k) c) := hD
  have hf_1 : jf_ok (jf_putField s i 0 k) := jf_putField_ok (by assumption) _ _ (by omega)
  refine lv_aload_n hx hb dd_I_occupy_7 rfl (lv_at hl 0 rfl) ?_
  refine lv_iload_n hx hb dd_I_occupy_8 rfl (lv_at hl 1 rfl) ?_
  refine lv_iconst (v := nI 2) hx hb dd_I_occupy_9 (by decide) ?_
  refine lv_iconst (v := nI 1) hx hb dd_I_occupy_10 (by decide) ?_
  refine jm_callV (wr := []) C (ct_I_putField l G qI qD qS qC cS cC (jf_putField s i 0 k) c i 2 1 (by omega) (by omega)) kl_I_35 ⟨Nat.le_of_ble_eq_true rfl, Nat.le_of_ble_eq_true rfl⟩ ⟨Nat.le_of_ble_eq_true rfl, Nat.le_of_ble_eq_true rfl⟩ hP hD hS hA (hK) (va_recv hK hP (ci := 2) (q0 := 3) rfl rfl) hl.1 rfl rfl (Nat.le_of_ble_eq_true rfl) dd_I_occupy_11 (fun H locs hP hD hS => ?_)
  have hP : va_P G jcl (wI qI qD qS qC cS cC (jf_putField (jf_putField s i 0 k) i 2 1) c) H := hP
  have hD : va_D A (wI qI qD qS qC cS cC (jf_putField (jf_putField s i 0 k) i 2 1) c) := hD
  have hf_2 : jf_ok (jf_putField (jf_putField s i 0 k) i 2 1) := jf_putField_ok (by assumption) _ _ (by omega)
  refine lv_aload_n hx hb dd_I_occupy_14 rfl (lv_at hl 0 rfl) ?_
  refine lv_iload_n hx hb dd_I_occupy_15 rfl (lv_at hl 1 rfl) ?_
  refine lv_iconst (v := nI 3) hx hb dd_I_occupy_16 (by decide) ?_
  refine lv_aload_n hx hb dd_I_occupy_17 rfl (lv_at hl 0 rfl) ?_
  refine lv_iload_n hx hb dd_I_occupy_18 rfl (lv_at hl 1 rfl) ?_
  refine jr_callV C (ct_I_generation l G qI qD qS qC cS cC (jf_putField (jf_putField s i 0 k) i 2 1) c i (by omega) (by first | assumption | (simp only [] ; assumption))) kl_I_39 ⟨Nat.le_of_ble_eq_true rfl, Nat.le_of_ble_eq_true rfl, rfl, rfl⟩ ⟨Nat.le_of_ble_eq_true rfl, Nat.le_of_ble_eq_true rfl⟩ (hP) (hK) (va_recv hK hP (ci := 2) (q0 := 3) rfl rfl) hl.1 rfl rfl (Nat.le_of_ble_eq_true rfl) dd_I_occupy_19 ?_
  have hf_3 : jf_gen (jf_putField (jf_putField s i 0 k) i 2 1) i < 256 := jf_get_lt (by assumption) _
  refine lv_iconst (v := nI 1) hx hb dd_I_occupy_22 (by decide) ?_
  refine jl_iadd hx hb dd_I_occupy_23 ?_
  refine lv_sipush (v := nI 256) hx hb dd_I_occupy_24 (by decide) ?_
  refine jl_irem hx hb (by omega) (by decide) (by decide) dd_I_occupy_27 ?_
  refine jm_callV (wr := []) C (ct_I_putField l G qI qD qS qC cS cC (jf_putField (jf_putField s i 0 k) i 2 1) c i 3 (((jf_gen (jf_putField (jf_putField s i 0 k) i 2 1) i) + 1) % 256) (by omega) (by omega)) kl_I_35 ⟨Nat.le_of_ble_eq_true rfl, Nat.le_of_ble_eq_true rfl⟩ ⟨Nat.le_of_ble_eq_true rfl, Nat.le_of_ble_eq_true rfl⟩ hP hD hS hA (hK) (va_recv hK hP (ci := 2) (q0 := 3) rfl rfl) hl.1 rfl rfl (Nat.le_of_ble_eq_true rfl) dd_I_occupy_28 (fun H locs hP hD hS => ?_)
  have hP : va_P G jcl (wI qI qD qS qC cS cC (jf_putField (jf_putField (jf_putField s i 0 k) i 2 1) i 3 (((jf_gen (jf_putField (jf_putField s i 0 k) i 2 1) i) + 1) % 256)) c) H := hP
  have hD : va_D A (wI qI qD qS qC cS cC (jf_putField (jf_putField (jf_putField s i 0 k) i 2 1) i 3 (((jf_gen (jf_putField (jf_putField s i 0 k) i 2 1) i) + 1) % 256)) c) := hD
  have hf_4 : jf_ok (jf_putField (jf_putField (jf_putField s i 0 k) i 2 1) i 3 (((jf_gen (jf_putField (jf_putField s i 0 k) i 2 1) i) + 1) % 256)) := jf_putField_ok (by assumption) _ _ (by omega)
  have he : wI qI qD qS qC cS cC (jf_putField (jf_putField (jf_putField s i 0 k) i 2 1) i 3 (((jf_gen (jf_putField (jf_putField s i 0 k) i 2 1) i) + 1) % 256)) c = wI qI qD qS qC cS cC (jf_occupy s i k) c := by first | with_reducible rfl | (simp [jf_occupy]; done)
  rw [he] at hP hD
  exact jm_retv C hP hD hK hS ⟨Nat.le_of_ble_eq_true rfl, Nat.le_of_ble_eq_true rfl⟩ dd_I_occupy_31
set_option maxHeartbeats 4000000 in
set_option maxRecDepth 100000 in
theorem ct_I_placeOf (l : Launch) (G : va_G) (qI qD qS qC : Nat) (cS cC : ClassId) (s c : Nat → Nat) (i : Nat) (p : Nat) (hi0 : i < 1000) (hp0 : p < 1000000) (hs : jf_ok s) : jr l yn_I_placeOf (.code yn_I_placeOf cd_I_placeOf 4 (some .int)) { frames := 1, cells := 0, slots := 0, locals := 21 } G (tD cS cC) (wI qI qD qS qC cS cC s c) [.ref qI, .int (nI (i)), .int (nI (p))] (nI (jf_placeOf s i p)) := by
  refine jr_of (by decide) (Nat.le_of_ble_eq_true rfl) ?_
  intro pr en σ mi bel met cd ls C hP hK hl
  have hx := C.1
  have hb := C.2.1
  have hown := C.2.2.2.1
  have hts := C.2.2.2.2.1
  have hl : lv_has ls 4 [(0, .ref qI), (1, .int (nI (i))), (2, .int (nI (p)))] := hl
  refine lv_bipush (v := nI 16) hx hb dd_I_placeOf_0 (by decide) ?_
  refine lv_iload_n hx hb dd_I_placeOf_2 rfl (lv_at hl 1 rfl) ?_
  refine lv_bipush (v := nI 8) hx hb dd_I_placeOf_3 (by decide) ?_
  refine jl_imul hx hb dd_I_placeOf_5 ?_
  refine jl_iadd hx hb dd_I_placeOf_6 ?_
  refine lv_iconst (v := nI 4) hx hb dd_I_placeOf_7 (by decide) ?_
  refine jl_iadd hx hb dd_I_placeOf_8 ?_
  refine lv_iload_n hx hb dd_I_placeOf_9 rfl (lv_at hl 2 rfl) ?_
  refine lv_bipush (v := nI 16) hx hb dd_I_placeOf_10 (by decide) ?_
  refine jl_idiv hx hb (by omega) (by decide) (by decide) dd_I_placeOf_12 ?_
  refine jl_iadd hx hb dd_I_placeOf_13 ?_
  refine lv_istore_n (lv' := [(3, .int (nI (((16 + (i * 8)) + 4) + (p / 16)))), (0, .ref qI), (1, .int (nI (i))), (2, .int (nI (p)))]) hx hb dd_I_placeOf_14 rfl hl (by decide) rfl (fun ls hl => ?_)
  refine lv_aload_n hx hb dd_I_placeOf_15 rfl (lv_at hl 1 rfl) ?_
  refine va_get (D := G) (ci := 2) (v := .ref qD) (C := cn_I) (T := ft_I) (N := 1) hx hb hts uw_I hown hK hP 3 rfl rfl 0 (by decide) (hts _ tw_55) (fun _ h9 => h9) rfl dd_I_placeOf_16 ?_
  refine lv_iload_n hx hb dd_I_placeOf_19 rfl (lv_at hl 0 rfl) ?_
  refine jr_callV C (ct_D_get l G qD qS qC cS cC s c (((16 + (i * 8)) + 4) + (p / 16)) (by omega)) kl_I_15 ⟨Nat.le_of_ble_eq_true rfl, Nat.le_of_ble_eq_true rfl, rfl, rfl⟩ ⟨Nat.le_of_ble_eq_true rfl, Nat.le_of_ble_eq_true rfl⟩ (jw_left hP) (hK) (va_recv hK hP (ci := 0) (q0 := 0) rfl rfl) hl.1 rfl rfl (Nat.le_of_ble_eq_true rfl) dd_I_placeOf_20 ?_
  have hf_1 : jf_get s (((16 + (i * 8)) + 4) + (p / 16)) < 256 := jf_get_lt (by assumption) _
  refine lv_bipush (v := nI 16) hx hb dd_I_placeOf_23 (by decide) ?_
  refine jl_imul hx hb dd_I_placeOf_25 ?_
  refine lv_iload_n hx hb dd_I_placeOf_26 rfl (lv_at hl 3 rfl) ?_
  refine lv_bipush (v := nI 16) hx hb dd_I_placeOf_27 (by decide) ?_
  refine jl_irem hx hb (by omega) (by decide) (by decide) dd_I_placeOf_29 ?_
  refine jl_iadd hx hb dd_I_placeOf_30 ?_
  exact jr_ret C (by first | with_reducible rfl | (simp [jf_placeOf]; done) | (simp_all [jf_placeOf]; done)) dd_I_placeOf_31
set_option maxHeartbeats 4000000 in
set_option maxRecDepth 100000 in
theorem ct_I_byteOf (l : Launch) (G : va_G) (qI qD qS qC : Nat) (cS cC : ClassId) (s c : Nat → Nat) (i : Nat) (p : Nat) (hi0 : i < 1000) (hp0 : p < 1000000) (hs : jf_ok s) : jr l yn_I_byteOf (.code yn_I_byteOf cd_I_byteOf 3 (some .int)) { frames := 2, cells := 0, slots := 0, locals := 44 } G (tD cS cC) (wI qI qD qS qC cS cC s c) [.ref qI, .int (nI (i)), .int (nI (p))] (nI (jf_byteOf s i p)) := by
  refine jr_of (by decide) (Nat.le_of_ble_eq_true rfl) ?_
  intro pr en σ mi bel met cd ls C hP hK hl
  have hx := C.1
  have hb := C.2.1
  have hown := C.2.2.2.1
  have hts := C.2.2.2.2.1
  have hl : lv_has ls 3 [(0, .ref qI), (1, .int (nI (i))), (2, .int (nI (p)))] := hl
  refine lv_aload_n hx hb dd_I_byteOf_0 rfl (lv_at hl 0 rfl) ?_
  refine va_get (D := G) (ci := 2) (v := .ref qD) (C := cn_I) (T := ft_I) (N := 1) hx hb hts uw_I hown hK hP 3 rfl rfl 0 (by decide) (hts _ tw_55) (fun _ h9 => h9) rfl dd_I_byteOf_1 ?_
  refine lv_aload_n hx hb dd_I_byteOf_4 rfl (lv_at hl 0 rfl) ?_
  refine lv_iload_n hx hb dd_I_byteOf_5 rfl (lv_at hl 1 rfl) ?_
  refine lv_iload_n hx hb dd_I_byteOf_6 rfl (lv_at hl 2 rfl) ?_
  refine jr_callV C (ct_I_placeOf l G qI qD qS qC cS cC s c i p (by omega) (by omega) (by first | assumption | (simp only [] ; assumption))) kl_I_45 ⟨Nat.le_of_ble_eq_true rfl, Nat.le_of_ble_eq_true rfl, rfl, rfl⟩ ⟨Nat.le_of_ble_eq_true rfl, Nat.le_of_ble_eq_true rfl⟩ (hP) (hK) (va_recv hK hP (ci := 2) (q0 := 3) rfl rfl) hl.1 rfl rfl (Nat.le_of_ble_eq_true rfl) dd_I_byteOf_7 ?_
  have hf_1 : jf_placeOf s i p < 4096 := jf_placeOf_lt (by assumption) _ _
  refine jr_callV C (ct_D_get l G qD qS qC cS cC s c (jf_placeOf s i p) (by omega)) kl_I_15 ⟨Nat.le_of_ble_eq_true rfl, Nat.le_of_ble_eq_true rfl, rfl, rfl⟩ ⟨Nat.le_of_ble_eq_true rfl, Nat.le_of_ble_eq_true rfl⟩ (jw_left hP) (hK) (va_recv hK hP (ci := 0) (q0 := 0) rfl rfl) hl.1 rfl rfl (Nat.le_of_ble_eq_true rfl) dd_I_byteOf_10 ?_
  have hf_2 : jf_get s (jf_placeOf s i p) < 256 := jf_get_lt (by assumption) _
  exact jr_ret C (by first | with_reducible rfl | (simp [jf_byteOf]; done) | (simp_all [jf_byteOf]; done)) dd_I_byteOf_13
