def jf_mkL : Nat → Nat → (Nat → Nat) → (Nat → Nat)
  | 0, _, s => s
  | n + 1, b, s => jf_mkL n (b + 1) (jf_mark s b 1)
def jf_s0 : Nat → Nat := jf_mkL 9 0 (fun _ => 0)
theorem jf_mkL_ok : ∀ n b {s : Nat → Nat}, jf_ok s → jf_ok (jf_mkL n b s) := by
  intro n
  induction n with
  | zero => intro b s hs; exact hs
  | succ n ih => intro b s hs; exact ih _ (jf_mark_ok hs _ _)
theorem jf_s0_ok : jf_ok jf_s0 := jf_mkL_ok 9 0 (fun _ => by show 0 < 256; decide)

set_option maxHeartbeats 4000000 in
set_option maxRecDepth 100000 in
theorem ct_D_init (l : Launch) (G : va_G) (qD : Nat) : ji l yn_D_init (.code yn_D_init cd_D_init 2 none) { frames := 2, cells := 2, slots := 1280, locals := 46 } (fun _ => True) G [] [(qD, .inr (0, [.null, .null]))] [.ref qD] (fun w t => ∃ (qS qC : Nat) (cS cC : ClassId), w = wD qD qS qC cS cC jf_s0 (fun _ => 0) ∧ t = tD cS cC) := by
  refine ji_of (by decide) rfl (Nat.le_of_ble_eq_true rfl) ?_
  intro pr en σ mi bel met cd ls A hA C hin hX hP hK hD hS hl
  have hx := C.1
  have hb := C.2.1
  have hown := C.2.2.2.1
  have hts := C.2.2.2.2.1
  have hl : lv_has ls 2 [(0, .ref qD)] := hl
  refine lv_aload_n hx hb dd_D_init_0 rfl (lv_at hl 0 rfl) ?_
  refine W.objInit hx hb hown (hts _ tw_28) (hts _ tw_21) (hts _ tw_22) rfl (by rw [C.2.2.1]; exact hl.1) rfl dd_D_init_1 (Nat.le_of_ble_eq_true rfl) (Nat.le_of_ble_eq_true rfl) ?_
  change W pr l en _ σ mi _ bel met cd _ _ _ _ _ (F0 mi 4 ls [])
  refine lv_aload_n hx hb dd_D_init_4 rfl (lv_at hl 0 rfl) ?_
  refine lv_sipush (v := nI 640) hx hb dd_D_init_5 (by decide) ?_
  refine va_newa (atype := .int) (a0 := (640, .inl (jn (fun _ => 0)))) hx hb (hts _ tw_48) rfl hK hP hD hS hA (fun _ => rfl) (by decide) (by decide) (by decide) (Nat.le_of_ble_eq_true rfl) (Nat.le_of_ble_eq_true rfl) dd_D_init_8 (fun qS cS H hK hP hD hS => ?_)
  have hP : va_P G jcl ([(qD, .inr (0, [.null, .null])), (qS, .inl (cS, 640, .inl (jn (fun _ => 0))))]) H := hP
  have hD : va_D A ([(qD, .inr (0, [.null, .null])), (qS, .inl (cS, 640, .inl (jn (fun _ => 0))))]) := hD
  have hK : va_K G jcl ([(cS, .int)]) σ := hK
  refine va_putF (D := G) (ci := 0) (v := .ref qS) (ty := .array .int) (C := cn_D) (T := ft_D) (N := 2) hx hb hts uw_D fy_D fo_D fn_D hown hK hP hD hS 0 rfl rfl 0 (by decide) (hts _ tw_41) (fun _ h9 => h9) rfl hin rfl (by decide +kernel) rfl rfl (Nat.le_of_ble_eq_true rfl) dd_D_init_10 (fun H locs hP hD hS => ?_)
  have hP : va_P G jcl ([(qD, .inr (0, [.ref qS, .null])), (qS, .inl (cS, 640, .inl (jn (fun _ => 0))))]) H := hP
  have hD : va_D A ([(qD, .inr (0, [.ref qS, .null])), (qS, .inl (cS, 640, .inl (jn (fun _ => 0))))]) := hD
  refine lv_aload_n hx hb dd_D_init_13 rfl (lv_at hl 0 rfl) ?_
  refine lv_sipush (v := nI 640) hx hb dd_D_init_14 (by decide) ?_
  refine va_newa (atype := .int) (a0 := (640, .inl (jn (fun _ => 0)))) hx hb (hts _ tw_48) rfl hK hP hD hS hA (fun _ => rfl) (by decide) (by decide) (by decide) (Nat.le_of_ble_eq_true rfl) (Nat.le_of_ble_eq_true rfl) dd_D_init_17 (fun qC cC H hK hP hD hS => ?_)
  have hP : va_P G jcl ([(qD, .inr (0, [.ref qS, .null])), (qS, .inl (cS, 640, .inl (jn (fun _ => 0)))), (qC, .inl (cC, 640, .inl (jn (fun _ => 0))))]) H := hP
  have hD : va_D A ([(qD, .inr (0, [.ref qS, .null])), (qS, .inl (cS, 640, .inl (jn (fun _ => 0)))), (qC, .inl (cC, 640, .inl (jn (fun _ => 0))))]) := hD
  have hK : va_K G jcl (tD cS cC) σ := hK
  refine va_putF (D := G) (ci := 0) (v := .ref qC) (ty := .array .int) (C := cn_D) (T := ft_D) (N := 2) hx hb hts uw_D fy_D fo_D fn_D hown hK hP hD hS 0 rfl rfl 1 (by decide) (hts _ tw_42) (fun _ h9 => h9) rfl hin rfl (by decide +kernel) rfl rfl (Nat.le_of_ble_eq_true rfl) dd_D_init_19 (fun H locs hP hD hS => ?_)
  have hP : va_P G jcl (wD qD qS qC cS cC (fun _ => 0) (fun _ => 0)) H := hP
  have hD : va_D A (wD qD qS qC cS cC (fun _ => 0) (fun _ => 0)) := hD
  have hs0 : jf_ok (fun _ => 0) := fun _ => by show 0 < 256; decide
  refine lv_iconst (v := nI 0) hx hb dd_D_init_22 (by decide) ?_
  refine lv_istore_n (lv' := [(1, .int (nI (0))), (0, .ref qD)]) hx hb dd_D_init_23 rfl hl (by decide) rfl (fun ls hl => ?_)
  have loop : ∀ (n : Nat) (b : Nat) (S9 : Nat → Nat), (b + n = 9) → (jf_ok S9) → jf_mkL n b S9 = jf_s0 → ∀ (H : Heap) (locs : List Loc), va_P G jcl (wD qD qS qC cS cC S9 (fun _ => 0)) H → va_D A (wD qD qS qC cS cC S9 (fun _ => 0)) → va_S A σ.heap H locs → ∀ ls : Array Slot, lv_has ls 2 [(1, .int (nI (b))), (0, .ref qD)] → W pr l en { frames := 2, cells := 2, slots := 1280, locals := 46 } σ mi ([.ref qD] : List Value).toArray bel met cd H locs 2 1280 (ji_Q bel { frames := 2, cells := 2, slots := 1280, locals := 46 } G A [.ref qD] σ (fun w t => ∃ (qS qC : Nat) (cS cC : ClassId), w = wD qD qS qC cS cC jf_s0 (fun _ => 0) ∧ t = tD cS cC)) (F0 mi 24 ls []) := by
    intro n
    induction n with
    | zero =>
      intro b S9 hi hs9 ht H locs hP hD hS ls hl
      refine lv_iload_n hx hb dd_D_init_24 rfl (lv_at hl 0 rfl) ?_
      refine lv_bipush (v := nI 9) hx hb dd_D_init_25 (by decide) ?_
      refine jl_ge (tgt := 42) hx hb (by omega) (by omega) dd_D_init_27 (by decide) (fun c_1 => ?_) (fun c_1 => ?_)
      · skip
        have he : jf_s0 = S9 := ht.symm
        exact ji_retv C ⟨qS, qC, cS, cC, by rw [he], rfl⟩ hP hD hK hS ⟨Nat.le_of_ble_eq_true rfl, Nat.le_of_ble_eq_true rfl⟩ dd_D_init_42
      · skip
        exact absurd c_1 (by omega)
    | succ n ih =>
      intro b S9 hi hs9 ht H locs hP hD hS ls hl
      refine lv_iload_n hx hb dd_D_init_24 rfl (lv_at hl 0 rfl) ?_
      refine lv_bipush (v := nI 9) hx hb dd_D_init_25 (by decide) ?_
      refine jl_ge (tgt := 42) hx hb (by omega) (by omega) dd_D_init_27 (by decide) (fun c_2 => ?_) (fun c_2 => ?_)
      · skip
        exact absurd c_2 (by omega)
      · skip
        refine lv_aload_n hx hb dd_D_init_30 rfl (lv_at hl 1 rfl) ?_
        refine lv_iload_n hx hb dd_D_init_31 rfl (lv_at hl 0 rfl) ?_
        refine lv_iconst (v := nI 1) hx hb dd_D_init_32 (by decide) ?_
        refine jm_callV (wr := []) C (ct_D_mark l G qD qS qC cS cC S9 (fun _ => 0) b 1 (by omega) (by omega) (by first | assumption | (simp only [] ; assumption))) kl_D_18 ⟨Nat.le_of_ble_eq_true rfl, Nat.le_of_ble_eq_true rfl⟩ ⟨Nat.le_of_ble_eq_true rfl, Nat.le_of_ble_eq_true rfl⟩ hP hD hS hA (hK) (va_recv hK hP (ci := 0) (q0 := 0) rfl rfl) hl.1 rfl rfl (Nat.le_of_ble_eq_true rfl) dd_D_init_33 (fun H locs hP hD hS => ?_)
        have hP : va_P G jcl (wD qD qS qC cS cC (jf_mark S9 b 1) (fun _ => 0)) H := hP
        have hD : va_D A (wD qD qS qC cS cC (jf_mark S9 b 1) (fun _ => 0)) := hD
        have hf_3 : jf_ok (jf_mark S9 b 1) := jf_mark_ok (by assumption) _ _
        refine jl_iinc (lv' := [(1, .int (nI (b + 1))), (0, .ref qD)]) hx hb dd_D_init_36 hl (k := 0) rfl (by decide) rfl (fun ls hl => ?_)
        refine lv_goto (tgt := 24) hx hb dd_D_init_39 (by decide) ?_
        exact ih (b + 1) (jf_mark S9 b 1) (by omega) (by assumption) (by simpa [jf_mkL, c_2] using ht) _ _ hP hD hS ls (lv_sub hl [0, 1] rfl)
  exact loop 9 0 (fun _ => 0) (by omega) (hs0) (rfl) _ _ hP hD hS ls (lv_sub hl [0, 1] rfl)

set_option maxHeartbeats 4000000 in
set_option maxRecDepth 100000 in
theorem ct_I_init (l : Launch) (G : va_G) (qI qD : Nat) : ji l yn_I_init (.code yn_I_init cd_I_init 2 none) { frames := 1, cells := 0, slots := 0, locals := 14 } (fun _ => True) G [] [(qI, .inr (2, [.null]))] [.ref qI, .ref qD] (fun w t => w = [(qI, .inr (2, [.ref qD]))] ∧ t = []) := by
  refine ji_of (by decide) rfl (Nat.le_of_ble_eq_true rfl) ?_
  intro pr en σ mi bel met cd ls A hA C hin hX hP hK hD hS hl
  have hx := C.1
  have hb := C.2.1
  have hown := C.2.2.2.1
  have hts := C.2.2.2.2.1
  have hl : lv_has ls 2 [(0, .ref qI), (1, .ref qD)] := hl
  refine lv_aload_n hx hb dd_I_init_0 rfl (lv_at hl 0 rfl) ?_
  refine W.objInit hx hb hown (hts _ tw_54) (hts _ tw_21) (hts _ tw_22) rfl (by rw [C.2.2.1]; exact hl.1) rfl dd_I_init_1 (Nat.le_of_ble_eq_true rfl) (Nat.le_of_ble_eq_true rfl) ?_
  change W pr l en _ σ mi _ bel met cd _ _ _ _ _ (F0 mi 4 ls [])
  refine lv_aload_n hx hb dd_I_init_4 rfl (lv_at hl 0 rfl) ?_
  refine lv_aload_n hx hb dd_I_init_5 rfl (lv_at hl 1 rfl) ?_
  refine va_putF (D := G) (ci := 2) (v := .ref qD) (ty := .object "JournaledFiles$Disk") (C := cn_I) (T := ft_I) (N := 1) hx hb hts uw_I fy_I fo_I fn_I hown hK hP hD hS 0 rfl rfl 0 (by decide) (hts _ tw_55) (fun _ h9 => h9) rfl hin rfl (by decide +kernel) rfl rfl (Nat.le_of_ble_eq_true rfl) dd_I_init_6 (fun H locs hP hD hS => ?_)
  exact ji_retv C ⟨rfl, rfl⟩ hP hD hK hS ⟨Nat.le_of_ble_eq_true rfl, Nat.le_of_ble_eq_true rfl⟩ dd_I_init_9
