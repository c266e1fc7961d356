set_option maxHeartbeats 4000000 in
set_option maxRecDepth 100000 in
theorem ct_I_resize (l : Launch) (G : va_G) (qI qD qS qC : Nat) (cS cC : ClassId) (s c : Nat → Nat) (i : Nat) (z : Nat) (hi0 : i < 1000) (hz0 : z < 256) (hs : jf_ok s) : jm l yn_I_resize (.code yn_I_resize cd_I_resize 5 none) { frames := 3, cells := 0, slots := 0, locals := 67 } G (tD cS cC) (wI qI qD qS qC cS cC s c) [.ref qI, .int (nI (i)), .int (nI (z))] none (wI qI qD qS qC cS cC (jf_resize s i z) c) := by
  refine jm_of (by decide) (Nat.le_of_ble_eq_true rfl) ?_
  intro pr en σ mi bel met cd ls A hA C hP hK hD hS hl
  have hx := C.1
  have hb := C.2.1
  have hown := C.2.2.2.1
  have hts := C.2.2.2.2.1
  have hl : lv_has ls 5 [(0, .ref qI), (1, .int (nI (i))), (2, .int (nI (z)))] := hl
  refine lv_aload_n hx hb dd_I_resize_0 rfl (lv_at hl 0 rfl) ?_
  refine lv_iload_n hx hb dd_I_resize_1 rfl (lv_at hl 1 rfl) ?_
  refine jr_callV C (ct_I_size l G qI qD qS qC cS cC s c i (by omega) (by first | assumption | (simp only [] ; assumption))) kl_I_32 ⟨Nat.le_of_ble_eq_true rfl, Nat.le_of_ble_eq_true rfl, rfl, rfl⟩ ⟨Nat.le_of_ble_eq_true rfl, Nat.le_of_ble_eq_true rfl⟩ (hP) (hK) (va_recv hK hP (ci := 2) (q0 := 3) rfl rfl) hl.1 rfl rfl (Nat.le_of_ble_eq_true rfl) dd_I_resize_2 ?_
  have hf_1 : jf_size s i < 256 := jf_get_lt (by assumption) _
  refine lv_istore_n (lv' := [(3, .int (nI (jf_size s i))), (0, .ref qI), (1, .int (nI (i))), (2, .int (nI (z)))]) hx hb dd_I_resize_5 rfl hl (by decide) rfl (fun ls hl => ?_)
  refine lv_iload_n hx hb dd_I_resize_6 rfl (lv_at hl 3 rfl) ?_
  refine lv_istore (lv' := [(4, .int (nI (z))), (3, .int (nI (jf_size s i))), (0, .ref qI), (1, .int (nI (i))), (2, .int (nI (z)))]) hx hb dd_I_resize_7 hl (by decide) rfl (fun ls hl => ?_)
  have loop : ∀ (n : Nat) (p : Nat) (S9 : Nat → Nat), (n = jf_size s i - p ∧ p ≤ 256) → (jf_ok S9) → jf_putField (jf_rsC i (jf_blocksFor z - jf_blocksFor (jf_size s i)) (jf_blocksFor (jf_size s i)) (jf_rsB i (jf_blocksFor (jf_size s i) - jf_blocksFor z) (jf_blocksFor z) (jf_rsA i n p S9))) i 1 z = jf_resize s i z → ∀ (H : Heap) (locs : List Loc), va_P G jcl (wI qI qD qS qC cS cC S9 c) H → va_D A (wI qI qD qS qC cS cC S9 c) → va_S A σ.heap H locs → ∀ ls : Array Slot, lv_has ls 5 [(4, .int (nI (p))), (3, .int (nI (jf_size s i))), (0, .ref qI), (1, .int (nI (i))), (2, .int (nI (z)))] → W pr l en { frames := 3, cells := 0, slots := 0, locals := 67 } σ mi ([.ref qI, .int (nI (i)), .int (nI (z))] : List Value).toArray bel met cd H locs 0 0 (jm_Q bel { frames := 3, cells := 0, slots := 0, locals := 67 } G (tD cS cC) A [.ref qI, .int (nI (i)), .int (nI (z))] σ none (wI qI qD qS qC cS cC (jf_resize s i z) c)) (F0 mi 9 ls []) := by
    intro n
    induction n with
    | zero =>
      intro p S9 hi hs9 ht H locs hP hD hS ls hl
      refine lv_iload hx hb dd_I_resize_9 (lv_at hl 0 rfl) ?_
      refine lv_iload_n hx hb dd_I_resize_11 rfl (lv_at hl 1 rfl) ?_
      refine jl_ge (tgt := 29) hx hb (by omega) (by omega) dd_I_resize_12 (by decide) (fun c_2 => ?_) (fun c_2 => ?_)
      · skip
        refine lv_iload_n hx hb dd_I_resize_29 rfl (lv_at hl 4 rfl) ?_
        refine jr_callS0 C (ct_I_blocksFor l G z (by omega)) kl_I_48 ⟨Nat.le_of_ble_eq_true rfl, Nat.le_of_ble_eq_true rfl, rfl, rfl⟩ ⟨Nat.le_of_ble_eq_true rfl, Nat.le_of_ble_eq_true rfl⟩ hK hl.1 rfl rfl (Nat.le_of_ble_eq_true rfl) dd_I_resize_30 ?_
        have hf_3 : jf_blocksFor z * 16 ≤ z + 15 := jf_blocksFor_le _
        refine lv_istore (lv' := [(4, .int (nI (jf_blocksFor z))), (3, .int (nI (jf_size s i))), (0, .ref qI), (1, .int (nI (i))), (2, .int (nI (z)))]) hx hb dd_I_resize_33 hl (by decide) rfl (fun ls hl => ?_)
        have loop : ∀ (n : Nat) (k : Nat) (S9 : Nat → Nat), (n = jf_blocksFor (jf_size s i) - k ∧ k ≤ 32) → (jf_ok S9) → jf_putField (jf_rsC i (jf_blocksFor z - jf_blocksFor (jf_size s i)) (jf_blocksFor (jf_size s i)) (jf_rsB i n k S9)) i 1 z = jf_resize s i z → ∀ (H : Heap) (locs : List Loc), va_P G jcl (wI qI qD qS qC cS cC S9 c) H → va_D A (wI qI qD qS qC cS cC S9 c) → va_S A σ.heap H locs → ∀ ls : Array Slot, lv_has ls 5 [(4, .int (nI (k))), (3, .int (nI (jf_size s i))), (0, .ref qI), (1, .int (nI (i))), (2, .int (nI (z)))] → W pr l en { frames := 3, cells := 0, slots := 0, locals := 67 } σ mi ([.ref qI, .int (nI (i)), .int (nI (z))] : List Value).toArray bel met cd H locs 0 0 (jm_Q bel { frames := 3, cells := 0, slots := 0, locals := 67 } G (tD cS cC) A [.ref qI, .int (nI (i)), .int (nI (z))] σ none (wI qI qD qS qC cS cC (jf_resize s i z) c)) (F0 mi 35 ls []) := by
          intro n
          induction n with
          | zero =>
            intro k S9 hi hs9 ht H locs hP hD hS ls hl
            refine lv_iload hx hb dd_I_resize_35 (lv_at hl 0 rfl) ?_
            refine lv_iload_n hx hb dd_I_resize_37 rfl (lv_at hl 1 rfl) ?_
            refine jr_callS0 C (ct_I_blocksFor l G (jf_size s i) (by omega)) kl_I_48 ⟨Nat.le_of_ble_eq_true rfl, Nat.le_of_ble_eq_true rfl, rfl, rfl⟩ ⟨Nat.le_of_ble_eq_true rfl, Nat.le_of_ble_eq_true rfl⟩ hK hl.1 rfl rfl (Nat.le_of_ble_eq_true rfl) dd_I_resize_38 ?_
            have hf_4 : jf_blocksFor (jf_size s i) * 16 ≤ (jf_size s i) + 15 := jf_blocksFor_le _
            refine jl_ge (tgt := 76) hx hb (by omega) (by omega) dd_I_resize_41 (by decide) (fun c_5 => ?_) (fun c_5 => ?_)
            · skip
              refine lv_iload_n hx hb dd_I_resize_76 rfl (lv_at hl 1 rfl) ?_
              refine jr_callS0 C (ct_I_blocksFor l G (jf_size s i) (by omega)) kl_I_48 ⟨Nat.le_of_ble_eq_true rfl, Nat.le_of_ble_eq_true rfl, rfl, rfl⟩ ⟨Nat.le_of_ble_eq_true rfl, Nat.le_of_ble_eq_true rfl⟩ hK hl.1 rfl rfl (Nat.le_of_ble_eq_true rfl) dd_I_resize_77 ?_
              have hf_6 : jf_blocksFor (jf_size s i) * 16 ≤ (jf_size s i) + 15 := jf_blocksFor_le _
              refine lv_istore (lv' := [(4, .int (nI (jf_blocksFor (jf_size s i)))), (3, .int (nI (jf_size s i))), (0, .ref qI), (1, .int (nI (i))), (2, .int (nI (z)))]) hx hb dd_I_resize_80 hl (by decide) rfl (fun ls hl => ?_)
              have loop : ∀ (n : Nat) (k : Nat) (S9 : Nat → Nat), (n = jf_blocksFor z - k ∧ k ≤ 32) → (jf_ok S9) → jf_putField (jf_rsC i n k S9) i 1 z = jf_resize s i z → ∀ (H : Heap) (locs : List Loc), va_P G jcl (wI qI qD qS qC cS cC S9 c) H → va_D A (wI qI qD qS qC cS cC S9 c) → va_S A σ.heap H locs → ∀ ls : Array Slot, lv_has ls 5 [(4, .int (nI (k))), (3, .int (nI (jf_size s i))), (0, .ref qI), (1, .int (nI (i))), (2, .int (nI (z)))] → W pr l en { frames := 3, cells := 0, slots := 0, locals := 67 } σ mi ([.ref qI, .int (nI (i)), .int (nI (z))] : List Value).toArray bel met cd H locs 0 0 (jm_Q bel { frames := 3, cells := 0, slots := 0, locals := 67 } G (tD cS cC) A [.ref qI, .int (nI (i)), .int (nI (z))] σ none (wI qI qD qS qC cS cC (jf_resize s i z) c)) (F0 mi 82 ls []) := by
                intro n
                induction n with
                | zero =>
                  intro k S9 hi hs9 ht H locs hP hD hS ls hl
                  refine lv_iload hx hb dd_I_resize_82 (lv_at hl 0 rfl) ?_
                  refine lv_iload_n hx hb dd_I_resize_84 rfl (lv_at hl 4 rfl) ?_
                  refine jr_callS0 C (ct_I_blocksFor l G z (by omega)) kl_I_48 ⟨Nat.le_of_ble_eq_true rfl, Nat.le_of_ble_eq_true rfl, rfl, rfl⟩ ⟨Nat.le_of_ble_eq_true rfl, Nat.le_of_ble_eq_true rfl⟩ hK hl.1 rfl rfl (Nat.le_of_ble_eq_true rfl) dd_I_resize_85 ?_
                  have hf_7 : jf_blocksFor z * 16 ≤ z + 15 := jf_blocksFor_le _
                  refine jl_ge (tgt := 113) hx hb (by omega) (by omega) dd_I_resize_88 (by decide) (fun c_8 => ?_) (fun c_8 => ?_)
                  · skip
                    refine lv_aload_n hx hb dd_I_resize_113 rfl (lv_at hl 2 rfl) ?_
                    refine lv_iload_n hx hb dd_I_resize_114 rfl (lv_at hl 3 rfl) ?_
                    refine lv_iconst (v := nI 1) hx hb dd_I_resize_115 (by decide) ?_
                    refine lv_iload_n hx hb dd_I_resize_116 rfl (lv_at hl 4 rfl) ?_
                    refine jm_callV (wr := []) C (ct_I_putField l G qI qD qS qC cS cC S9 c i 1 z (by omega) (by omega)) kl_I_35 ⟨Nat.le_of_ble_eq_true rfl, Nat.le_of_ble_eq_true rfl⟩ ⟨Nat.le_of_ble_eq_true rfl, Nat.le_of_ble_eq_true rfl⟩ hP hD hS hA (hK) (va_recv hK hP (ci := 2) (q0 := 3) rfl rfl) hl.1 rfl rfl (Nat.le_of_ble_eq_true rfl) dd_I_resize_117 (fun H locs hP hD hS => ?_)
                    have hP : va_P G jcl (wI qI qD qS qC cS cC (jf_putField S9 i 1 z) c) H := hP
                    have hD : va_D A (wI qI qD qS qC cS cC (jf_putField S9 i 1 z) c) := hD
                    have hf_9 : jf_ok (jf_putField S9 i 1 z) := jf_putField_ok (by assumption) _ _ (by omega)
                    have he : wI qI qD qS qC cS cC (jf_putField S9 i 1 z) c = wI qI qD qS qC cS cC (jf_resize s i z) c := by rw [← ht]; first | with_reducible rfl | (simp [jf_rsC, c_8]; done)
                    rw [he] at hP hD
                    exact jm_retv C hP hD hK hS ⟨Nat.le_of_ble_eq_true rfl, Nat.le_of_ble_eq_true rfl⟩ dd_I_resize_120
                  · skip
                    exact absurd c_8 (by omega)
                | succ n ih =>
                  intro k S9 hi hs9 ht H locs hP hD hS ls hl
                  refine lv_iload hx hb dd_I_resize_82 (lv_at hl 0 rfl) ?_
                  refine lv_iload_n hx hb dd_I_resize_84 rfl (lv_at hl 4 rfl) ?_
                  refine jr_callS0 C (ct_I_blocksFor l G z (by omega)) kl_I_48 ⟨Nat.le_of_ble_eq_true rfl, Nat.le_of_ble_eq_true rfl, rfl, rfl⟩ ⟨Nat.le_of_ble_eq_true rfl, Nat.le_of_ble_eq_true rfl⟩ hK hl.1 rfl rfl (Nat.le_of_ble_eq_true rfl) dd_I_resize_85 ?_
                  have hf_10 : jf_blocksFor z * 16 ≤ z + 15 := jf_blocksFor_le _
                  refine jl_ge (tgt := 113) hx hb (by omega) (by omega) dd_I_resize_88 (by decide) (fun c_11 => ?_) (fun c_11 => ?_)
                  · skip
                    exact absurd c_11 (by omega)
                  · skip
                    refine lv_aload_n hx hb dd_I_resize_91 rfl (lv_at hl 2 rfl) ?_
                    refine lv_iload_n hx hb dd_I_resize_92 rfl (lv_at hl 3 rfl) ?_
                    refine lv_iconst (v := nI 4) hx hb dd_I_resize_93 (by decide) ?_
                    refine lv_iload hx hb dd_I_resize_94 (lv_at hl 0 rfl) ?_
                    refine jl_iadd hx hb dd_I_resize_96 ?_
                    refine lv_aload_n hx hb dd_I_resize_97 rfl (lv_at hl 2 rfl) ?_
                    refine va_get (D := G) (ci := 2) (v := .ref qD) (C := cn_I) (T := ft_I) (N := 1) hx hb hts uw_I hown hK hP 3 rfl rfl 0 (by decide) (hts _ tw_55) (fun _ h9 => h9) rfl dd_I_resize_98 ?_
                    refine jm_callV (wr := [(qI, .inr (2, [.ref qD]))]) C (ct_D_takeBlock l G qD qS qC cS cC S9 c  (by first | assumption | (simp only [] ; assumption))) kl_I_62 ⟨Nat.le_of_ble_eq_true rfl, Nat.le_of_ble_eq_true rfl⟩ ⟨Nat.le_of_ble_eq_true rfl, Nat.le_of_ble_eq_true rfl⟩ hP hD hS hA (hK) (va_recv hK hP (ci := 0) (q0 := 0) rfl rfl) hl.1 rfl rfl (Nat.le_of_ble_eq_true rfl) dd_I_resize_101 (fun H locs hP hD hS => ?_)
                    have hP : va_P G jcl (wI qI qD qS qC cS cC ((jf_take S9).2) c) H := hP
                    have hD : va_D A (wI qI qD qS qC cS cC ((jf_take S9).2) c) := hD
                    have hf_12 : (jf_take S9).1 < 256 := (jf_takeL_ok (by assumption) 31 9 rfl).1
                    have hf_13 : jf_ok (jf_take S9).2 := (jf_takeL_ok (by assumption) 31 9 rfl).2
                    refine jm_callV (wr := []) C (ct_I_putField l G qI qD qS qC cS cC ((jf_take S9).2) c i (4 + k) ((jf_take S9).1) (by omega) (by omega)) kl_I_35 ⟨Nat.le_of_ble_eq_true rfl, Nat.le_of_ble_eq_true rfl⟩ ⟨Nat.le_of_ble_eq_true rfl, Nat.le_of_ble_eq_true rfl⟩ hP hD hS hA (hK) (va_recv hK hP (ci := 2) (q0 := 3) rfl rfl) hl.1 rfl rfl (Nat.le_of_ble_eq_true rfl) dd_I_resize_104 (fun H locs hP hD hS => ?_)
                    have hP : va_P G jcl (wI qI qD qS qC cS cC (jf_putField ((jf_take S9).2) i (4 + k) ((jf_take S9).1)) c) H := hP
                    have hD : va_D A (wI qI qD qS qC cS cC (jf_putField ((jf_take S9).2) i (4 + k) ((jf_take S9).1)) c) := hD
                    have hf_14 : jf_ok (jf_putField ((jf_take S9).2) i (4 + k) ((jf_take S9).1)) := jf_putField_ok (by assumption) _ _ (by omega)
                    refine jl_iinc (lv' := [(4, .int (nI (k + 1))), (3, .int (nI (jf_size s i))), (0, .ref qI), (1, .int (nI (i))), (2, .int (nI (z)))]) hx hb dd_I_resize_107 hl (k := 0) rfl (by decide) rfl (fun ls hl => ?_)
                    refine lv_goto (tgt := 82) hx hb dd_I_resize_110 (by decide) ?_
                    exact ih (k + 1) (jf_putField ((jf_take S9).2) i (4 + k) ((jf_take S9).1)) (by omega) (by assumption) (by simpa [jf_rsC, c_11] using ht) _ _ hP hD hS ls (lv_sub hl [0, 1, 2, 3, 4] rfl)
              exact loop (jf_blocksFor z - jf_blocksFor (jf_size s i)) (jf_blocksFor (jf_size s i)) S9 (by omega) (by assumption) (by simpa [jf_rsB] using ht) _ _ hP hD hS ls (lv_sub hl [0, 1, 2, 3, 4] rfl)
            · skip
              exact absurd c_5 (by omega)
          | succ n ih =>
            intro k S9 hi hs9 ht H locs hP hD hS ls hl
            refine lv_iload hx hb dd_I_resize_35 (lv_at hl 0 rfl) ?_
            refine lv_iload_n hx hb dd_I_resize_37 rfl (lv_at hl 1 rfl) ?_
            refine jr_callS0 C (ct_I_blocksFor l G (jf_size s i) (by omega)) kl_I_48 ⟨Nat.le_of_ble_eq_true rfl, Nat.le_of_ble_eq_true rfl, rfl, rfl⟩ ⟨Nat.le_of_ble_eq_true rfl, Nat.le_of_ble_eq_true rfl⟩ hK hl.1 rfl rfl (Nat.le_of_ble_eq_true rfl) dd_I_resize_38 ?_
            have hf_15 : jf_blocksFor (jf_size s i) * 16 ≤ (jf_size s i) + 15 := jf_blocksFor_le _
            refine jl_ge (tgt := 76) hx hb (by omega) (by omega) dd_I_resize_41 (by decide) (fun c_16 => ?_) (fun c_16 => ?_)
            · skip
              exact absurd c_16 (by omega)
            · skip
              refine lv_aload_n hx hb dd_I_resize_44 rfl (lv_at hl 2 rfl) ?_
              refine va_get (D := G) (ci := 2) (v := .ref qD) (C := cn_I) (T := ft_I) (N := 1) hx hb hts uw_I hown hK hP 3 rfl rfl 0 (by decide) (hts _ tw_55) (fun _ h9 => h9) rfl dd_I_resize_45 ?_
              refine lv_aload_n hx hb dd_I_resize_48 rfl (lv_at hl 2 rfl) ?_
              refine lv_iload_n hx hb dd_I_resize_49 rfl (lv_at hl 3 rfl) ?_
              refine lv_iconst (v := nI 4) hx hb dd_I_resize_50 (by decide) ?_
              refine lv_iload hx hb dd_I_resize_51 (lv_at hl 0 rfl) ?_
              refine jl_iadd hx hb dd_I_resize_53 ?_
              refine jr_callV C (ct_I_field l G qI qD qS qC cS cC S9 c i (4 + k) (by omega) (by omega) (by first | assumption | (simp only [] ; assumption))) kl_I_25 ⟨Nat.le_of_ble_eq_true rfl, Nat.le_of_ble_eq_true rfl, rfl, rfl⟩ ⟨Nat.le_of_ble_eq_true rfl, Nat.le_of_ble_eq_true rfl⟩ (hP) (hK) (va_recv hK hP (ci := 2) (q0 := 3) rfl rfl) hl.1 rfl rfl (Nat.le_of_ble_eq_true rfl) dd_I_resize_54 ?_
              have hf_17 : jf_field S9 i (4 + k) < 256 := jf_get_lt (by assumption) _
              refine jm_callV (wr := [(qI, .inr (2, [.ref qD]))]) C (ct_D_giveBack l G qD qS qC cS cC S9 c (jf_field S9 i (4 + k)) (by omega) (by first | assumption | (simp only [] ; assumption))) kl_I_58 ⟨Nat.le_of_ble_eq_true rfl, Nat.le_of_ble_eq_true rfl⟩ ⟨Nat.le_of_ble_eq_true rfl, Nat.le_of_ble_eq_true rfl⟩ hP hD hS hA (hK) (va_recv hK hP (ci := 0) (q0 := 0) rfl rfl) hl.1 rfl rfl (Nat.le_of_ble_eq_true rfl) dd_I_resize_57 (fun H locs hP hD hS => ?_)
              have hP : va_P G jcl (wI qI qD qS qC cS cC (jf_mark S9 (jf_field S9 i (4 + k)) 0) c) H := hP
              have hD : va_D A (wI qI qD qS qC cS cC (jf_mark S9 (jf_field S9 i (4 + k)) 0) c) := hD
              have hf_18 : jf_ok (jf_mark S9 (jf_field S9 i (4 + k)) 0) := jf_mark_ok (by assumption) _ _
              refine lv_aload_n hx hb dd_I_resize_60 rfl (lv_at hl 2 rfl) ?_
              refine lv_iload_n hx hb dd_I_resize_61 rfl (lv_at hl 3 rfl) ?_
              refine lv_iconst (v := nI 4) hx hb dd_I_resize_62 (by decide) ?_
              refine lv_iload hx hb dd_I_resize_63 (lv_at hl 0 rfl) ?_
              refine jl_iadd hx hb dd_I_resize_65 ?_
              refine lv_iconst (v := nI 0) hx hb dd_I_resize_66 (by decide) ?_
              refine jm_callV (wr := []) C (ct_I_putField l G qI qD qS qC cS cC (jf_mark S9 (jf_field S9 i (4 + k)) 0) c i (4 + k) 0 (by omega) (by omega)) kl_I_35 ⟨Nat.le_of_ble_eq_true rfl, Nat.le_of_ble_eq_true rfl⟩ ⟨Nat.le_of_ble_eq_true rfl, Nat.le_of_ble_eq_true rfl⟩ hP hD hS hA (hK) (va_recv hK hP (ci := 2) (q0 := 3) rfl rfl) hl.1 rfl rfl (Nat.le_of_ble_eq_true rfl) dd_I_resize_67 (fun H locs hP hD hS => ?_)
              have hP : va_P G jcl (wI qI qD qS qC cS cC (jf_putField (jf_mark S9 (jf_field S9 i (4 + k)) 0) i (4 + k) 0) c) H := hP
              have hD : va_D A (wI qI qD qS qC cS cC (jf_putField (jf_mark S9 (jf_field S9 i (4 + k)) 0) i (4 + k) 0) c) := hD
              have hf_19 : jf_ok (jf_putField (jf_mark S9 (jf_field S9 i (4 + k)) 0) i (4 + k) 0) := jf_putField_ok (by assumption) _ _ (by omega)
              refine jl_iinc (lv' := [(4, .int (nI (k + 1))), (3, .int (nI (jf_size s i))), (0, .ref qI), (1, .int (nI (i))), (2, .int (nI (z)))]) hx hb dd_I_resize_70 hl (k := 0) rfl (by decide) rfl (fun ls hl => ?_)
              refine lv_goto (tgt := 35) hx hb dd_I_resize_73 (by decide) ?_
              exact ih (k + 1) (jf_putField (jf_mark S9 (jf_field S9 i (4 + k)) 0) i (4 + k) 0) (by omega) (by assumption) (by simpa [jf_rsB, c_16] using ht) _ _ hP hD hS ls (lv_sub hl [0, 1, 2, 3, 4] rfl)
        exact loop (jf_blocksFor (jf_size s i) - jf_blocksFor z) (jf_blocksFor z) S9 (by omega) (by assumption) (by simpa [jf_rsA] using ht) _ _ hP hD hS ls (lv_sub hl [0, 1, 2, 3, 4] rfl)
      · skip
        exact absurd c_2 (by omega)
    | succ n ih =>
      intro p S9 hi hs9 ht H locs hP hD hS ls hl
      refine lv_iload hx hb dd_I_resize_9 (lv_at hl 0 rfl) ?_
      refine lv_iload_n hx hb dd_I_resize_11 rfl (lv_at hl 1 rfl) ?_
      refine jl_ge (tgt := 29) hx hb (by omega) (by omega) dd_I_resize_12 (by decide) (fun c_20 => ?_) (fun c_20 => ?_)
      · skip
        exact absurd c_20 (by omega)
      · skip
        refine lv_aload_n hx hb dd_I_resize_15 rfl (lv_at hl 2 rfl) ?_
        refine lv_iload_n hx hb dd_I_resize_16 rfl (lv_at hl 3 rfl) ?_
        refine lv_iload hx hb dd_I_resize_17 (lv_at hl 0 rfl) ?_
        refine lv_iconst (v := nI 0) hx hb dd_I_resize_19 (by decide) ?_
        refine jm_callV (wr := []) C (ct_I_putByte l G qI qD qS qC cS cC S9 c i p 0 (by omega) (by omega) (by first | assumption | (simp only [] ; assumption))) kl_I_55 ⟨Nat.le_of_ble_eq_true rfl, Nat.le_of_ble_eq_true rfl⟩ ⟨Nat.le_of_ble_eq_true rfl, Nat.le_of_ble_eq_true rfl⟩ hP hD hS hA (hK) (va_recv hK hP (ci := 2) (q0 := 3) rfl rfl) hl.1 rfl rfl (Nat.le_of_ble_eq_true rfl) dd_I_resize_20 (fun H locs hP hD hS => ?_)
        have hP : va_P G jcl (wI qI qD qS qC cS cC (jf_putByte S9 i p 0) c) H := hP
        have hD : va_D A (wI qI qD qS qC cS cC (jf_putByte S9 i p 0) c) := hD
        have hf_21 : jf_ok (jf_putByte S9 i p 0) := jf_putByte_ok (by assumption) _ _ (by omega)
        refine jl_iinc (lv' := [(4, .int (nI (p + 1))), (3, .int (nI (jf_size s i))), (0, .ref qI), (1, .int (nI (i))), (2, .int (nI (z)))]) hx hb dd_I_resize_23 hl (k := 0) rfl (by decide) rfl (fun ls hl => ?_)
        refine lv_goto (tgt := 9) hx hb dd_I_resize_26 (by decide) ?_
        exact ih (p + 1) (jf_putByte S9 i p 0) (by omega) (by assumption) (by simpa [jf_rsA, c_20] using ht) _ _ hP hD hS ls (lv_sub hl [0, 1, 2, 3, 4] rfl)
  exact loop (jf_size s i - z) z s (by omega) (by assumption) (rfl) _ _ hP hD hS ls (lv_sub hl [0, 1, 2, 3, 4] rfl)
