set_option maxHeartbeats 4000000 in
set_option maxRecDepth 100000 in
theorem ct_M_newBlock (l : Launch) (G : va_G) (qM qK qZ qN qB qY qi qo qm qp : Nat) (c1 c2 c3 c4 c5 c6 c7 c8 c9 : ClassId) (K : Nat → Nat) (Z : Nat → Nat) (N : Nat → Nat) (B : Nat → Nat) (Y : Nat → Nat) (I : Nat → Nat) (O : Nat → Nat) (M : Nat → Nat) (P : Nat → Nat) (ct : Nat) (wr : Nat) (ofs : Nat) (th : Nat) (pa : Option Nat) (ey : Option Nat) (fo : Option Nat) (la : Nat)  (m : Nat) (hm0 : 9 ≤ m ∧ m < 10000) (hB : jlt m B) : jr l yn_M_newBlock (.code yn_M_newBlock cd_M_newBlock 2 (some .int)) { frames := 1, cells := 0, slots := 0, locals := 23 } G (tM c1 c2 c3 c4 c5 c6 c7 c8 c9) (wM qM qK qZ qN qB qY qi qo qm qp c1 c2 c3 c4 c5 c6 c7 c8 c9 K Z N B Y I O M P ct wr ofs th pa ey fo la) [.ref qM] (nI (jm_newBlock B m)) := by
  refine jr_of (by decide) (Nat.le_of_ble_eq_true rfl) ?_
  intro pr en σ mi bel met cd ls C hP hK hl
  have hx := C.1
  have hb := C.2.1
  have hown := C.2.2.2.1
  have hts := C.2.2.2.2.1
  have hl : lv_has ls 2 [(0, .ref qM)] := hl
  refine lv_bipush (v := nI 9) hx hb dd_M_newBlock_0 (by decide) ?_
  refine lv_istore_n (lv' := [(1, .int (nI (9))), (0, .ref qM)]) hx hb dd_M_newBlock_2 rfl hl (by decide) rfl (fun ls hl => ?_)
  have loop : ∀ (n : Nat) (b : Nat), (b + n = m) → jm_nbL B n b = jm_newBlock B m → ∀ ls : Array Slot, lv_has ls 2 [(1, .int (nI (b))), (0, .ref qM)] → W pr l en { frames := 1, cells := 0, slots := 0, locals := 23 } σ mi ([.ref qM] : List Value).toArray bel met cd σ.heap [] 0 0 (jr_Q bel [.ref qM] σ (nI (jm_newBlock B m))) (F0 mi 3 ls []) := by
    intro n
    induction n with
    | zero =>
      intro b hi  ht ls hl
      refine lv_aload_n hx hb dd_M_newBlock_3 rfl (lv_at hl 1 rfl) ?_
      refine lv_iconst (v := nI 0) hx hb dd_M_newBlock_4 (by decide) ?_
      refine lv_iload_n hx hb dd_M_newBlock_5 rfl (lv_at hl 0 rfl) ?_
      refine jr_callV C (ct_M_isUsed l G qM qK qZ qN qB qY qi qo qm qp c1 c2 c3 c4 c5 c6 c7 c8 c9 K Z N B Y I O M P ct wr ofs th pa ey fo la 0 b m (by omega) (by omega) (by omega) (by assumption)) kl_M_41 ⟨Nat.le_of_ble_eq_true rfl, Nat.le_of_ble_eq_true rfl, rfl, rfl⟩ ⟨Nat.le_of_ble_eq_true rfl, Nat.le_of_ble_eq_true rfl⟩ (hP) (hK) (va_recv hK hP (ci := 4) (q0 := 0) rfl rfl) hl.1 rfl rfl (Nat.le_of_ble_eq_true rfl) dd_M_newBlock_6 ?_
      have hf_1 : jm_isUsed B 0 b < 2 := jm_isUsed_lt _ _ _
      refine jl_ifeq (tgt := 18) hx hb (by omega) dd_M_newBlock_9 (by decide) (fun c_2 => ?_) (fun c_2 => ?_)
      · skip
        refine lv_iload_n hx hb dd_M_newBlock_18 rfl (lv_at hl 0 rfl) ?_
        exact jr_ret C (by rw [← ht]; first | with_reducible rfl | (simp [jm_nbL, c_2]; done)) dd_M_newBlock_19
      · skip
        exact absurd (by rw [show b = m by omega]; exact jm_isUsed_no (by assumption) (by omega)) c_2
    | succ n ih =>
      intro b hi  ht ls hl
      refine lv_aload_n hx hb dd_M_newBlock_3 rfl (lv_at hl 1 rfl) ?_
      refine lv_iconst (v := nI 0) hx hb dd_M_newBlock_4 (by decide) ?_
      refine lv_iload_n hx hb dd_M_newBlock_5 rfl (lv_at hl 0 rfl) ?_
      refine jr_callV C (ct_M_isUsed l G qM qK qZ qN qB qY qi qo qm qp c1 c2 c3 c4 c5 c6 c7 c8 c9 K Z N B Y I O M P ct wr ofs th pa ey fo la 0 b m (by omega) (by omega) (by omega) (by assumption)) kl_M_41 ⟨Nat.le_of_ble_eq_true rfl, Nat.le_of_ble_eq_true rfl, rfl, rfl⟩ ⟨Nat.le_of_ble_eq_true rfl, Nat.le_of_ble_eq_true rfl⟩ (hP) (hK) (va_recv hK hP (ci := 4) (q0 := 0) rfl rfl) hl.1 rfl rfl (Nat.le_of_ble_eq_true rfl) dd_M_newBlock_6 ?_
      have hf_3 : jm_isUsed B 0 b < 2 := jm_isUsed_lt _ _ _
      refine jl_ifeq (tgt := 18) hx hb (by omega) dd_M_newBlock_9 (by decide) (fun c_4 => ?_) (fun c_4 => ?_)
      · skip
        refine lv_iload_n hx hb dd_M_newBlock_18 rfl (lv_at hl 0 rfl) ?_
        exact jr_ret C (by rw [← ht]; first | with_reducible rfl | (simp [jm_nbL, c_4]; done)) dd_M_newBlock_19
      · skip
        refine jl_iinc (lv' := [(1, .int (nI (b + 1))), (0, .ref qM)]) hx hb dd_M_newBlock_12 hl (k := 0) rfl (by decide) rfl (fun ls hl => ?_)
        refine lv_goto (tgt := 3) hx hb dd_M_newBlock_15 (by decide) ?_
        exact ih (b + 1) (by omega) (by simpa [jm_nbL, c_4] using ht) ls (lv_sub hl [0, 1] rfl)
  exact loop (m - 9) 9 (by omega) (rfl) ls (lv_sub hl [0, 1] rfl)
set_option maxHeartbeats 4000000 in
set_option maxRecDepth 100000 in
theorem ct_M_resize (l : Launch) (G : va_G) (qM qK qZ qN qB qY qi qo qm qp : Nat) (c1 c2 c3 c4 c5 c6 c7 c8 c9 : ClassId) (K : Nat → Nat) (Z : Nat → Nat) (N : Nat → Nat) (B : Nat → Nat) (Y : Nat → Nat) (I : Nat → Nat) (O : Nat → Nat) (M : Nat → Nat) (P : Nat → Nat) (ct : Nat) (wr : Nat) (ofs : Nat) (th : Nat) (pa : Option Nat) (ey : Option Nat) (fo : Option Nat) (la : Nat) (i : Nat) (z : Nat) (m : Nat) (hi0 : i < 12) (hz0 : z ≤ 64) (hm0 : 9 ≤ m ∧ m < 5000) (hB : jlt m B) : jm l yn_M_resize (.code yn_M_resize cd_M_resize 4 none) { frames := 2, cells := 0, slots := 0, locals := 44 } G (tM c1 c2 c3 c4 c5 c6 c7 c8 c9) (wM qM qK qZ qN qB qY qi qo qm qp c1 c2 c3 c4 c5 c6 c7 c8 c9 K Z N B Y I O M P ct wr ofs th pa ey fo la) [.ref qM, .int (nI (i)), .int (nI (z))] none (wM qM qK qZ qN qB qY qi qo qm qp c1 c2 c3 c4 c5 c6 c7 c8 c9 K (ju Z i z) N (jm_resB B m i z) (jm_resY Y i z) I O M P ct wr ofs th pa ey fo la) := by
  refine jm_of (by decide) (Nat.le_of_ble_eq_true rfl) ?_
  intro pr en σ mi bel met cd ls A hA C hP hK hD hS hl
  have hx := C.1
  have hb := C.2.1
  have hown := C.2.2.2.1
  have hts := C.2.2.2.2.1
  have hl : lv_has ls 4 [(0, .ref qM), (1, .int (nI (i))), (2, .int (nI (z)))] := hl
  refine lv_iconst (v := nI 0) hx hb dd_M_resize_0 (by decide) ?_
  refine lv_istore_n (lv' := [(3, .int (nI (0))), (0, .ref qM), (1, .int (nI (i))), (2, .int (nI (z)))]) hx hb dd_M_resize_1 rfl hl (by decide) rfl (fun ls hl => ?_)
  have loop_htB : ∀ (n : Nat) (k : Nat) (B9 : Nat → Nat) (m9 : Nat), (k + n = 4 ∧ m9 = m + k) → (jlt m9 B9) → jm_rsL i z n m9 k B9 = jm_resB B m i z → ∀ (H : Heap) (locs : List Loc), va_P G jcl (wM qM qK qZ qN qB qY qi qo qm qp c1 c2 c3 c4 c5 c6 c7 c8 c9 K Z N B9 Y I O M P ct wr ofs th pa ey fo la) H → va_D A (wM qM qK qZ qN qB qY qi qo qm qp c1 c2 c3 c4 c5 c6 c7 c8 c9 K Z N B9 Y I O M P ct wr ofs th pa ey fo la) → va_S A σ.heap H locs → ∀ ls : Array Slot, lv_has ls 4 [(3, .int (nI (k))), (0, .ref qM), (1, .int (nI (i))), (2, .int (nI (z)))] → W pr l en { frames := 2, cells := 0, slots := 0, locals := 44 } σ mi ([.ref qM, .int (nI (i)), .int (nI (z))] : List Value).toArray bel met cd H locs 0 0 (jm_Q bel { frames := 2, cells := 0, slots := 0, locals := 44 } G (tM c1 c2 c3 c4 c5 c6 c7 c8 c9) A [.ref qM, .int (nI (i)), .int (nI (z))] σ none (wM qM qK qZ qN qB qY qi qo qm qp c1 c2 c3 c4 c5 c6 c7 c8 c9 K (ju Z i z) N (jm_resB B m i z) (jm_resY Y i z) I O M P ct wr ofs th pa ey fo la)) (F0 mi 2 ls []) := by
    intro n
    induction n with
    | zero =>
      intro k B9 m9 hi hB9 htB H locs hP hD hS ls hl
      refine lv_iload_n hx hb dd_M_resize_2 rfl (lv_at hl 0 rfl) ?_
      refine lv_iconst (v := nI 4) hx hb dd_M_resize_3 (by decide) ?_
      refine jl_ge (tgt := 69) hx hb (by omega) (by omega) dd_M_resize_4 (by decide) (fun c_1 => ?_) (fun c_1 => ?_)
      · skip
        refine lv_iload_n hx hb dd_M_resize_69 rfl (lv_at hl 3 rfl) ?_
        refine lv_istore_n (lv' := [(3, .int (nI (z))), (0, .ref qM), (1, .int (nI (i))), (2, .int (nI (z)))]) hx hb dd_M_resize_70 rfl hl (by decide) rfl (fun ls hl => ?_)
        have loop_htY : ∀ (n : Nat) (k : Nat) (Y9 : Nat → Nat), (k + n = 64) → jm_zL i n k Y9 = jm_resY Y i z → ∀ (H : Heap) (locs : List Loc), va_P G jcl (wM qM qK qZ qN qB qY qi qo qm qp c1 c2 c3 c4 c5 c6 c7 c8 c9 K Z N B9 Y9 I O M P ct wr ofs th pa ey fo la) H → va_D A (wM qM qK qZ qN qB qY qi qo qm qp c1 c2 c3 c4 c5 c6 c7 c8 c9 K Z N B9 Y9 I O M P ct wr ofs th pa ey fo la) → va_S A σ.heap H locs → ∀ ls : Array Slot, lv_has ls 4 [(3, .int (nI (k))), (0, .ref qM), (1, .int (nI (i))), (2, .int (nI (z)))] → W pr l en { frames := 2, cells := 0, slots := 0, locals := 44 } σ mi ([.ref qM, .int (nI (i)), .int (nI (z))] : List Value).toArray bel met cd H locs 0 0 (jm_Q bel { frames := 2, cells := 0, slots := 0, locals := 44 } G (tM c1 c2 c3 c4 c5 c6 c7 c8 c9) A [.ref qM, .int (nI (i)), .int (nI (z))] σ none (wM qM qK qZ qN qB qY qi qo qm qp c1 c2 c3 c4 c5 c6 c7 c8 c9 K (ju Z i z) N (jm_resB B m i z) (jm_resY Y i z) I O M P ct wr ofs th pa ey fo la)) (F0 mi 71 ls []) := by
          intro n
          induction n with
          | zero =>
            intro k Y9 hi  htY H locs hP hD hS ls hl
            refine lv_iload_n hx hb dd_M_resize_71 rfl (lv_at hl 0 rfl) ?_
            refine lv_bipush (v := nI 64) hx hb dd_M_resize_72 (by decide) ?_
            refine jl_ge (tgt := 95) hx hb (by omega) (by omega) dd_M_resize_74 (by decide) (fun c_2 => ?_) (fun c_2 => ?_)
            · skip
              refine lv_aload_n hx hb dd_M_resize_95 rfl (lv_at hl 1 rfl) ?_
              refine va_get (D := G) (ci := 4) (v := .ref qZ) (C := cn_M) (T := ft_M) (N := 17) hx hb hts uw_M hown hK hP 0 rfl rfl 1 (by decide) (hts _ tw_594) (fun _ h9 => h9) rfl dd_M_resize_96 ?_
              refine lv_iload_n hx hb dd_M_resize_99 rfl (lv_at hl 2 rfl) ?_
              refine lv_iload_n hx hb dd_M_resize_100 rfl (lv_at hl 3 rfl) ?_
              refine va_iast hx hb hK hP hD hS 2 1 rfl rfl (vp_in_nI (by omega) (by decide)) dd_M_resize_101 (fun H locs hP hD hS => ?_)
              rw [jn_upd (Z) (z) (by omega)] at hP hD
              have hP : va_P G jcl (wM qM qK qZ qN qB qY qi qo qm qp c1 c2 c3 c4 c5 c6 c7 c8 c9 K (ju Z i z) N B9 Y9 I O M P ct wr ofs th pa ey fo la) H := hP
              have hD : va_D A (wM qM qK qZ qN qB qY qi qo qm qp c1 c2 c3 c4 c5 c6 c7 c8 c9 K (ju Z i z) N B9 Y9 I O M P ct wr ofs th pa ey fo la) := hD
              have he : wM qM qK qZ qN qB qY qi qo qm qp c1 c2 c3 c4 c5 c6 c7 c8 c9 K (ju Z i z) N B9 Y9 I O M P ct wr ofs th pa ey fo la = wM qM qK qZ qN qB qY qi qo qm qp c1 c2 c3 c4 c5 c6 c7 c8 c9 K (ju Z i z) N (jm_resB B m i z) (jm_resY Y i z) I O M P ct wr ofs th pa ey fo la := by rw [← htB, ← htY]; first | with_reducible rfl | (simp [jm_rsL, jm_zL, c_2]; done)
              rw [he] at hP hD
              exact jm_retv C hP hD hK hS ⟨Nat.le_of_ble_eq_true rfl, Nat.le_of_ble_eq_true rfl⟩ dd_M_resize_102
            · skip
              exact absurd c_2 (by omega)
          | succ n ih_htY =>
            intro k Y9 hi  htY H locs hP hD hS ls hl
            refine lv_iload_n hx hb dd_M_resize_71 rfl (lv_at hl 0 rfl) ?_
            refine lv_bipush (v := nI 64) hx hb dd_M_resize_72 (by decide) ?_
            refine jl_ge (tgt := 95) hx hb (by omega) (by omega) dd_M_resize_74 (by decide) (fun c_3 => ?_) (fun c_3 => ?_)
            · skip
              exact absurd c_3 (by omega)
            · skip
              refine lv_aload_n hx hb dd_M_resize_77 rfl (lv_at hl 1 rfl) ?_
              refine va_get (D := G) (ci := 4) (v := .ref qY) (C := cn_M) (T := ft_M) (N := 17) hx hb hts uw_M hown hK hP 0 rfl rfl 4 (by decide) (hts _ tw_597) (fun _ h9 => h9) rfl dd_M_resize_78 ?_
              refine lv_iload_n hx hb dd_M_resize_81 rfl (lv_at hl 2 rfl) ?_
              refine lv_bipush (v := nI 64) hx hb dd_M_resize_82 (by decide) ?_
              refine jl_imul hx hb dd_M_resize_84 ?_
              refine lv_iload_n hx hb dd_M_resize_85 rfl (lv_at hl 0 rfl) ?_
              refine jl_iadd hx hb dd_M_resize_86 ?_
              refine lv_iconst (v := nI 0) hx hb dd_M_resize_87 (by decide) ?_
              refine va_iast hx hb hK hP hD hS 5 4 rfl rfl (vp_in_nI (by omega) (by decide)) dd_M_resize_88 (fun H locs hP hD hS => ?_)
              rw [jn_upd (Y9) (0) (by omega)] at hP hD
              have hP : va_P G jcl (wM qM qK qZ qN qB qY qi qo qm qp c1 c2 c3 c4 c5 c6 c7 c8 c9 K Z N B9 (ju Y9 ((i * 64) + k) 0) I O M P ct wr ofs th pa ey fo la) H := hP
              have hD : va_D A (wM qM qK qZ qN qB qY qi qo qm qp c1 c2 c3 c4 c5 c6 c7 c8 c9 K Z N B9 (ju Y9 ((i * 64) + k) 0) I O M P ct wr ofs th pa ey fo la) := hD
              refine jl_iinc (lv' := [(3, .int (nI (k + 1))), (0, .ref qM), (1, .int (nI (i))), (2, .int (nI (z)))]) hx hb dd_M_resize_89 hl (k := 0) rfl (by decide) rfl (fun ls hl => ?_)
              refine lv_goto (tgt := 71) hx hb dd_M_resize_92 (by decide) ?_
              exact ih_htY (k + 1) (ju Y9 ((i * 64) + k) 0) (by omega) (by simpa [jm_zL, c_3] using htY) _ _ hP hD hS ls (lv_sub hl [0, 1, 2, 3] rfl)
        exact loop_htY (64 - z) z Y (by omega) (rfl) _ _ hP hD hS ls (lv_sub hl [0, 1, 2, 3] rfl)
      · skip
        exact absurd c_1 (by omega)
    | succ n ih_htB =>
      intro k B9 m9 hi hB9 htB H locs hP hD hS ls hl
      refine lv_iload_n hx hb dd_M_resize_2 rfl (lv_at hl 0 rfl) ?_
      refine lv_iconst (v := nI 4) hx hb dd_M_resize_3 (by decide) ?_
      refine jl_ge (tgt := 69) hx hb (by omega) (by omega) dd_M_resize_4 (by decide) (fun c_4 => ?_) (fun c_4 => ?_)
      · skip
        exact absurd c_4 (by omega)
      · skip
        refine lv_iload_n hx hb dd_M_resize_7 rfl (lv_at hl 0 rfl) ?_
        refine lv_aload_n hx hb dd_M_resize_8 rfl (lv_at hl 1 rfl) ?_
        refine lv_iload_n hx hb dd_M_resize_9 rfl (lv_at hl 3 rfl) ?_
        refine jr_callV C (ct_M_needed l G qM qK qZ qN qB qY qi qo qm qp c1 c2 c3 c4 c5 c6 c7 c8 c9 K Z N B9 Y I O M P ct wr ofs th pa ey fo la z (by omega)) kl_M_45 ⟨Nat.le_of_ble_eq_true rfl, Nat.le_of_ble_eq_true rfl, rfl, rfl⟩ ⟨Nat.le_of_ble_eq_true rfl, Nat.le_of_ble_eq_true rfl⟩ (hP) (hK) (va_recv hK hP (ci := 4) (q0 := 0) rfl rfl) hl.1 rfl rfl (Nat.le_of_ble_eq_true rfl) dd_M_resize_10 ?_
        have hf_5 : jm_needed z * 16 ≤ z + 15 := jm_needed_le _
        refine jl_ge (tgt := 43) hx hb (by omega) (by omega) dd_M_resize_13 (by decide) (fun c_6 => ?_) (fun c_6 => ?_)
        · skip
          refine lv_iload_n hx hb dd_M_resize_43 rfl (lv_at hl 0 rfl) ?_
          refine lv_aload_n hx hb dd_M_resize_44 rfl (lv_at hl 1 rfl) ?_
          refine lv_iload_n hx hb dd_M_resize_45 rfl (lv_at hl 3 rfl) ?_
          refine jr_callV C (ct_M_needed l G qM qK qZ qN qB qY qi qo qm qp c1 c2 c3 c4 c5 c6 c7 c8 c9 K Z N B9 Y I O M P ct wr ofs th pa ey fo la z (by omega)) kl_M_45 ⟨Nat.le_of_ble_eq_true rfl, Nat.le_of_ble_eq_true rfl, rfl, rfl⟩ ⟨Nat.le_of_ble_eq_true rfl, Nat.le_of_ble_eq_true rfl⟩ (hP) (hK) (va_recv hK hP (ci := 4) (q0 := 0) rfl rfl) hl.1 rfl rfl (Nat.le_of_ble_eq_true rfl) dd_M_resize_46 ?_
          have hf_7 : jm_needed z * 16 ≤ z + 15 := jm_needed_le _
          refine jl_lt (tgt := 63) hx hb (by omega) (by omega) dd_M_resize_49 (by decide) (fun c_8 => ?_) (fun c_8 => ?_)
          · skip
            exact absurd c_8 (by omega)
          · skip
            refine lv_aload_n hx hb dd_M_resize_52 rfl (lv_at hl 1 rfl) ?_
            refine va_get (D := G) (ci := 4) (v := .ref qB) (C := cn_M) (T := ft_M) (N := 17) hx hb hts uw_M hown hK hP 0 rfl rfl 3 (by decide) (hts _ tw_596) (fun _ h9 => h9) rfl dd_M_resize_53 ?_
            refine lv_iload_n hx hb dd_M_resize_56 rfl (lv_at hl 2 rfl) ?_
            refine lv_iconst (v := nI 4) hx hb dd_M_resize_57 (by decide) ?_
            refine jl_imul hx hb dd_M_resize_58 ?_
            refine lv_iload_n hx hb dd_M_resize_59 rfl (lv_at hl 0 rfl) ?_
            refine jl_iadd hx hb dd_M_resize_60 ?_
            refine lv_iconst (v := nI 0) hx hb dd_M_resize_61 (by decide) ?_
            refine va_iast hx hb hK hP hD hS 4 3 rfl rfl (vp_in_nI (by omega) (by decide)) dd_M_resize_62 (fun H locs hP hD hS => ?_)
            rw [jn_upd (B9) (0) (by omega)] at hP hD
            have hP : va_P G jcl (wM qM qK qZ qN qB qY qi qo qm qp c1 c2 c3 c4 c5 c6 c7 c8 c9 K Z N (ju B9 ((i * 4) + k) 0) Y I O M P ct wr ofs th pa ey fo la) H := hP
            have hD : va_D A (wM qM qK qZ qN qB qY qi qo qm qp c1 c2 c3 c4 c5 c6 c7 c8 c9 K Z N (ju B9 ((i * 4) + k) 0) Y I O M P ct wr ofs th pa ey fo la) := hD
            refine jl_iinc (lv' := [(3, .int (nI (k + 1))), (0, .ref qM), (1, .int (nI (i))), (2, .int (nI (z)))]) hx hb dd_M_resize_63 hl (k := 0) rfl (by decide) rfl (fun ls hl => ?_)
            refine lv_goto (tgt := 2) hx hb dd_M_resize_66 (by decide) ?_
            exact ih_htB (k + 1) (ju B9 ((i * 4) + k) 0) (m9 + 1) (by omega) (by first | exact jlt_mono (by assumption) (by omega) | exact ju_lt (jlt_mono (by assumption) (by omega)) (by omega)) (by simpa [jm_rsL, c_4, c_6, c_8] using htB) _ _ hP hD hS ls (lv_sub hl [0, 1, 2, 3] rfl)
        · skip
          refine lv_aload_n hx hb dd_M_resize_16 rfl (lv_at hl 1 rfl) ?_
          refine va_get (D := G) (ci := 4) (v := .ref qB) (C := cn_M) (T := ft_M) (N := 17) hx hb hts uw_M hown hK hP 0 rfl rfl 3 (by decide) (hts _ tw_596) (fun _ h9 => h9) rfl dd_M_resize_17 ?_
          refine lv_iload_n hx hb dd_M_resize_20 rfl (lv_at hl 2 rfl) ?_
          refine lv_iconst (v := nI 4) hx hb dd_M_resize_21 (by decide) ?_
          refine jl_imul hx hb dd_M_resize_22 ?_
          refine lv_iload_n hx hb dd_M_resize_23 rfl (lv_at hl 0 rfl) ?_
          refine jl_iadd hx hb dd_M_resize_24 ?_
          refine va_iald hx hb hK hP 4 3 rfl rfl (vp_in_nI (by omega) (by decide)) dd_M_resize_25 ?_
          refine jl_top (jn_at (B9) (by omega)) ?_
          have hf_9 : B9 ((i * 4) + k) < m9 := (by assumption : jlt m9 B9) _
          refine jl_ifne (tgt := 43) hx hb (by omega) dd_M_resize_26 (by decide) (fun c_10 => ?_) (fun c_10 => ?_)
          · skip
            refine lv_iload_n hx hb dd_M_resize_43 rfl (lv_at hl 0 rfl) ?_
            refine lv_aload_n hx hb dd_M_resize_44 rfl (lv_at hl 1 rfl) ?_
            refine lv_iload_n hx hb dd_M_resize_45 rfl (lv_at hl 3 rfl) ?_
            refine jr_callV C (ct_M_needed l G qM qK qZ qN qB qY qi qo qm qp c1 c2 c3 c4 c5 c6 c7 c8 c9 K Z N B9 Y I O M P ct wr ofs th pa ey fo la z (by omega)) kl_M_45 ⟨Nat.le_of_ble_eq_true rfl, Nat.le_of_ble_eq_true rfl, rfl, rfl⟩ ⟨Nat.le_of_ble_eq_true rfl, Nat.le_of_ble_eq_true rfl⟩ (hP) (hK) (va_recv hK hP (ci := 4) (q0 := 0) rfl rfl) hl.1 rfl rfl (Nat.le_of_ble_eq_true rfl) dd_M_resize_46 ?_
            have hf_11 : jm_needed z * 16 ≤ z + 15 := jm_needed_le _
            refine jl_lt (tgt := 63) hx hb (by omega) (by omega) dd_M_resize_49 (by decide) (fun c_12 => ?_) (fun c_12 => ?_)
            · skip
              refine jl_iinc (lv' := [(3, .int (nI (k + 1))), (0, .ref qM), (1, .int (nI (i))), (2, .int (nI (z)))]) hx hb dd_M_resize_63 hl (k := 0) rfl (by decide) rfl (fun ls hl => ?_)
              refine lv_goto (tgt := 2) hx hb dd_M_resize_66 (by decide) ?_
              exact ih_htB (k + 1) B9 (m9 + 1) (by omega) (by first | exact jlt_mono (by assumption) (by omega) | exact ju_lt (jlt_mono (by assumption) (by omega)) (by omega)) (by simpa [jm_rsL, c_4, c_6, c_10, c_12] using htB) _ _ hP hD hS ls (lv_sub hl [0, 1, 2, 3] rfl)
            · skip
              exact absurd c_12 (by omega)
          · skip
            refine lv_aload_n hx hb dd_M_resize_29 rfl (lv_at hl 1 rfl) ?_
            refine va_get (D := G) (ci := 4) (v := .ref qB) (C := cn_M) (T := ft_M) (N := 17) hx hb hts uw_M hown hK hP 0 rfl rfl 3 (by decide) (hts _ tw_596) (fun _ h9 => h9) rfl dd_M_resize_30 ?_
            refine lv_iload_n hx hb dd_M_resize_33 rfl (lv_at hl 2 rfl) ?_
            refine lv_iconst (v := nI 4) hx hb dd_M_resize_34 (by decide) ?_
            refine jl_imul hx hb dd_M_resize_35 ?_
            refine lv_iload_n hx hb dd_M_resize_36 rfl (lv_at hl 0 rfl) ?_
            refine jl_iadd hx hb dd_M_resize_37 ?_
            refine lv_aload_n hx hb dd_M_resize_38 rfl (lv_at hl 1 rfl) ?_
            refine jr_callV C (ct_M_newBlock l G qM qK qZ qN qB qY qi qo qm qp c1 c2 c3 c4 c5 c6 c7 c8 c9 K Z N B9 Y I O M P ct wr ofs th pa ey fo la  m9 (by omega) (by assumption)) kl_M_53 ⟨Nat.le_of_ble_eq_true rfl, Nat.le_of_ble_eq_true rfl, rfl, rfl⟩ ⟨Nat.le_of_ble_eq_true rfl, Nat.le_of_ble_eq_true rfl⟩ (hP) (hK) (va_recv hK hP (ci := 4) (q0 := 0) rfl rfl) hl.1 rfl rfl (Nat.le_of_ble_eq_true rfl) dd_M_resize_39 ?_
            have hf_13 : jm_newBlock B9 m9 ≤ m9 := jm_newBlock_le _ (by omega)
            refine va_iast hx hb hK hP hD hS 4 3 rfl rfl (vp_in_nI (by omega) (by decide)) dd_M_resize_42 (fun H locs hP hD hS => ?_)
            rw [jn_upd (B9) (jm_newBlock B9 m9) (by omega)] at hP hD
            have hP : va_P G jcl (wM qM qK qZ qN qB qY qi qo qm qp c1 c2 c3 c4 c5 c6 c7 c8 c9 K Z N (ju B9 ((i * 4) + k) (jm_newBlock B9 m9)) Y I O M P ct wr ofs th pa ey fo la) H := hP
            have hD : va_D A (wM qM qK qZ qN qB qY qi qo qm qp c1 c2 c3 c4 c5 c6 c7 c8 c9 K Z N (ju B9 ((i * 4) + k) (jm_newBlock B9 m9)) Y I O M P ct wr ofs th pa ey fo la) := hD
            refine lv_iload_n hx hb dd_M_resize_43 rfl (lv_at hl 0 rfl) ?_
            refine lv_aload_n hx hb dd_M_resize_44 rfl (lv_at hl 1 rfl) ?_
            refine lv_iload_n hx hb dd_M_resize_45 rfl (lv_at hl 3 rfl) ?_
            refine jr_callV C (ct_M_needed l G qM qK qZ qN qB qY qi qo qm qp c1 c2 c3 c4 c5 c6 c7 c8 c9 K Z N (ju B9 ((i * 4) + k) (jm_newBlock B9 m9)) Y I O M P ct wr ofs th pa ey fo la z (by omega)) kl_M_45 ⟨Nat.le_of_ble_eq_true rfl, Nat.le_of_ble_eq_true rfl, rfl, rfl⟩ ⟨Nat.le_of_ble_eq_true rfl, Nat.le_of_ble_eq_true rfl⟩ (hP) (hK) (va_recv hK hP (ci := 4) (q0 := 0) rfl rfl) hl.1 rfl rfl (Nat.le_of_ble_eq_true rfl) dd_M_resize_46 ?_
            have hf_14 : jm_needed z * 16 ≤ z + 15 := jm_needed_le _
            refine jl_lt (tgt := 63) hx hb (by omega) (by omega) dd_M_resize_49 (by decide) (fun c_15 => ?_) (fun c_15 => ?_)
            · skip
              refine jl_iinc (lv' := [(3, .int (nI (k + 1))), (0, .ref qM), (1, .int (nI (i))), (2, .int (nI (z)))]) hx hb dd_M_resize_63 hl (k := 0) rfl (by decide) rfl (fun ls hl => ?_)
              refine lv_goto (tgt := 2) hx hb dd_M_resize_66 (by decide) ?_
              exact ih_htB (k + 1) (ju B9 ((i * 4) + k) (jm_newBlock B9 m9)) (m9 + 1) (by omega) (by first | exact jlt_mono (by assumption) (by omega) | exact ju_lt (jlt_mono (by assumption) (by omega)) (by omega)) (by simpa [jm_rsL, c_4, c_6, c_10, c_15] using htB) _ _ hP hD hS ls (lv_sub hl [0, 1, 2, 3] rfl)
            · skip
              exact absurd c_15 (by omega)
  exact loop_htB 4 0 B m (by omega) (by assumption) (rfl) _ _ hP hD hS ls (lv_sub hl [0, 1, 2, 3] rfl)
set_option maxHeartbeats 4000000 in
set_option maxRecDepth 100000 in
theorem ct_M_release (l : Launch) (G : va_G) (qM qK qZ qN qB qY qi qo qm qp : Nat) (c1 c2 c3 c4 c5 c6 c7 c8 c9 : ClassId) (K : Nat → Nat) (Z : Nat → Nat) (N : Nat → Nat) (B : Nat → Nat) (Y : Nat → Nat) (I : Nat → Nat) (O : Nat → Nat) (M : Nat → Nat) (P : Nat → Nat) (ct : Nat) (wr : Nat) (ofs : Nat) (th : Nat) (pa : Option Nat) (ey : Option Nat) (fo : Option Nat) (la : Nat) (i : Nat) (m : Nat) (hi0 : i < 12) (hm0 : 9 ≤ m ∧ m < 5000) (hB : jlt m B) : jm l yn_M_release (.code yn_M_release cd_M_release 2 none) { frames := 3, cells := 0, slots := 0, locals := 67 } G (tM c1 c2 c3 c4 c5 c6 c7 c8 c9) (wM qM qK qZ qN qB qY qi qo qm qp c1 c2 c3 c4 c5 c6 c7 c8 c9 K Z N B Y I O M P ct wr ofs th pa ey fo la) [.ref qM, .int (nI (i))] none (wM qM qK qZ qN qB qY qi qo qm qp c1 c2 c3 c4 c5 c6 c7 c8 c9 (ju K i 0) (ju Z i 0) N (jm_resB B m i 0) (jm_resY Y i 0) I O M P ct wr ofs th pa ey fo la) := by
  refine jm_of (by decide) (Nat.le_of_ble_eq_true rfl) ?_
  intro pr en σ mi bel met cd ls A hA C hP hK hD hS hl
  have hx := C.1
  have hb := C.2.1
  have hown := C.2.2.2.1
  have hts := C.2.2.2.2.1
  have hl : lv_has ls 2 [(0, .ref qM), (1, .int (nI (i)))] := hl
  refine lv_aload_n hx hb dd_M_release_0 rfl (lv_at hl 0 rfl) ?_
  refine lv_iload_n hx hb dd_M_release_1 rfl (lv_at hl 1 rfl) ?_
  refine lv_iconst (v := nI 0) hx hb dd_M_release_2 (by decide) ?_
  refine jm_callV (wr := []) C (ct_M_resize l G qM qK qZ qN qB qY qi qo qm qp c1 c2 c3 c4 c5 c6 c7 c8 c9 K Z N B Y I O M P ct wr ofs th pa ey fo la i 0 m (by omega) (by omega) (by omega) (by assumption)) kl_M_56 ⟨Nat.le_of_ble_eq_true rfl, Nat.le_of_ble_eq_true rfl⟩ ⟨Nat.le_of_ble_eq_true rfl, Nat.le_of_ble_eq_true rfl⟩ hP hD hS hA (hK) (va_recv hK hP (ci := 4) (q0 := 0) rfl rfl) hl.1 rfl rfl (Nat.le_of_ble_eq_true rfl) dd_M_release_3 (fun H locs hP hD hS => ?_)
  have hP : va_P G jcl (wM qM qK qZ qN qB qY qi qo qm qp c1 c2 c3 c4 c5 c6 c7 c8 c9 K (ju Z i 0) N (jm_resB B m i 0) (jm_resY Y i 0) I O M P ct wr ofs th pa ey fo la) H := hP
  have hD : va_D A (wM qM qK qZ qN qB qY qi qo qm qp c1 c2 c3 c4 c5 c6 c7 c8 c9 K (ju Z i 0) N (jm_resB B m i 0) (jm_resY Y i 0) I O M P ct wr ofs th pa ey fo la) := hD
  have hf_1 : jlt (m + 4) (jm_resB B m i 0) := jm_rsL_lt _ _ 4 _ 0 (by omega) (by assumption)
  refine lv_aload_n hx hb dd_M_release_6 rfl (lv_at hl 0 rfl) ?_
  refine va_get (D := G) (ci := 4) (v := .ref qK) (C := cn_M) (T := ft_M) (N := 17) hx hb hts uw_M hown hK hP 0 rfl rfl 0 (by decide) (hts _ tw_593) (fun _ h9 => h9) rfl dd_M_release_7 ?_
  refine lv_iload_n hx hb dd_M_release_10 rfl (lv_at hl 1 rfl) ?_
  refine lv_iconst (v := nI 0) hx hb dd_M_release_11 (by decide) ?_
  refine va_iast hx hb hK hP hD hS 1 0 rfl rfl (vp_in_nI (by omega) (by decide)) dd_M_release_12 (fun H locs hP hD hS => ?_)
  rw [jn_upd (K) (0) (by omega)] at hP hD
  have hP : va_P G jcl (wM qM qK qZ qN qB qY qi qo qm qp c1 c2 c3 c4 c5 c6 c7 c8 c9 (ju K i 0) (ju Z i 0) N (jm_resB B m i 0) (jm_resY Y i 0) I O M P ct wr ofs th pa ey fo la) H := hP
  have hD : va_D A (wM qM qK qZ qN qB qY qi qo qm qp c1 c2 c3 c4 c5 c6 c7 c8 c9 (ju K i 0) (ju Z i 0) N (jm_resB B m i 0) (jm_resY Y i 0) I O M P ct wr ofs th pa ey fo la) := hD
  exact jm_retv C hP hD hK hS ⟨Nat.le_of_ble_eq_true rfl, Nat.le_of_ble_eq_true rfl⟩ dd_M_release_13
set_option maxHeartbeats 4000000 in
set_option maxRecDepth 100000 in
theorem ct_M_create (l : Launch) (G : va_G) (qM qK qZ qN qB qY qi qo qm qp : Nat) (c1 c2 c3 c4 c5 c6 c7 c8 c9 : ClassId) (K : Nat → Nat) (Z : Nat → Nat) (N : Nat → Nat) (B : Nat → Nat) (Y : Nat → Nat) (I : Nat → Nat) (O : Nat → Nat) (M : Nat → Nat) (P : Nat → Nat) (ct : Nat) (wr : Nat) (ofs : Nat) (th : Nat) (pa : Option Nat) (ey : Option Nat) (fo : Option Nat) (la : Nat) (k : Nat) (hk0 : k < 3) (hK : jlt 3 K) (hN : jlt 256 N) : jm l yn_M_create (.code yn_M_create cd_M_create 3 (some .int)) { frames := 1, cells := 0, slots := 0, locals := 21 } G (tM c1 c2 c3 c4 c5 c6 c7 c8 c9) (wM qM qK qZ qN qB qY qi qo qm qp c1 c2 c3 c4 c5 c6 c7 c8 c9 K Z N B Y I O M P ct wr ofs th pa ey fo la) [.ref qM, .int (nI (k))] (some (.int (nI (jm_newInode K)))) (wM qM qK qZ qN qB qY qi qo qm qp c1 c2 c3 c4 c5 c6 c7 c8 c9 (ju K (jm_newInode K) k) Z (ju N (jm_newInode K) ((N (jm_newInode K) + 1) % 256)) B Y I O M P ct wr ofs th pa ey fo la) := by
  refine jm_of (by decide) (Nat.le_of_ble_eq_true rfl) ?_
  intro pr en σ mi bel met cd ls A hA C hP hK hD hS hl
  have hx := C.1
  have hb := C.2.1
  have hown := C.2.2.2.1
  have hts := C.2.2.2.2.1
  have hl : lv_has ls 3 [(0, .ref qM), (1, .int (nI (k)))] := hl
  refine lv_aload_n hx hb dd_M_create_0 rfl (lv_at hl 0 rfl) ?_
  refine jr_callV C (ct_M_newInode l G qM qK qZ qN qB qY qi qo qm qp c1 c2 c3 c4 c5 c6 c7 c8 c9 K Z N B Y I O M P ct wr ofs th pa ey fo la  (by assumption)) kl_M_60 ⟨Nat.le_of_ble_eq_true rfl, Nat.le_of_ble_eq_true rfl, rfl, rfl⟩ ⟨Nat.le_of_ble_eq_true rfl, Nat.le_of_ble_eq_true rfl⟩ (hP) (hK) (va_recv hK hP (ci := 4) (q0 := 0) rfl rfl) hl.1 rfl rfl (Nat.le_of_ble_eq_true rfl) dd_M_create_1 ?_
  have hf_1 : jm_newInode K ≤ 12 := jm_newInode_le _
  refine lv_istore_n (lv' := [(2, .int (nI (jm_newInode K))), (0, .ref qM), (1, .int (nI (k)))]) hx hb dd_M_create_4 rfl hl (by decide) rfl (fun ls hl => ?_)
  refine lv_aload_n hx hb dd_M_create_5 rfl (lv_at hl 1 rfl) ?_
  refine va_get (D := G) (ci := 4) (v := .ref qK) (C := cn_M) (T := ft_M) (N := 17) hx hb hts uw_M hown hK hP 0 rfl rfl 0 (by decide) (hts _ tw_593) (fun _ h9 => h9) rfl dd_M_create_6 ?_
  refine lv_iload_n hx hb dd_M_create_9 rfl (lv_at hl 0 rfl) ?_
  refine lv_iload_n hx hb dd_M_create_10 rfl (lv_at hl 2 rfl) ?_
  refine va_iast hx hb hK hP hD hS 1 0 rfl rfl (vp_in_nI (by omega) (by decide)) dd_M_create_11 (fun H locs hP hD hS => ?_)
  rw [jn_upd (K) (k) (by omega)] at hP hD
  have hP : va_P G jcl (wM qM qK qZ qN qB qY qi qo qm qp c1 c2 c3 c4 c5 c6 c7 c8 c9 (ju K (jm_newInode K) k) Z N B Y I O M P ct wr ofs th pa ey fo la) H := hP
  have hD : va_D A (wM qM qK qZ qN qB qY qi qo qm qp c1 c2 c3 c4 c5 c6 c7 c8 c9 (ju K (jm_newInode K) k) Z N B Y I O M P ct wr ofs th pa ey fo la) := hD
  refine lv_aload_n hx hb dd_M_create_12 rfl (lv_at hl 1 rfl) ?_
  refine va_get (D := G) (ci := 4) (v := .ref qN) (C := cn_M) (T := ft_M) (N := 17) hx hb hts uw_M hown hK hP 0 rfl rfl 2 (by decide) (hts _ tw_595) (fun _ h9 => h9) rfl dd_M_create_13 ?_
  refine lv_iload_n hx hb dd_M_create_16 rfl (lv_at hl 0 rfl) ?_
  refine lv_aload_n hx hb dd_M_create_17 rfl (lv_at hl 1 rfl) ?_
  refine va_get (D := G) (ci := 4) (v := .ref qN) (C := cn_M) (T := ft_M) (N := 17) hx hb hts uw_M hown hK hP 0 rfl rfl 2 (by decide) (hts _ tw_595) (fun _ h9 => h9) rfl dd_M_create_18 ?_
  refine lv_iload_n hx hb dd_M_create_21 rfl (lv_at hl 0 rfl) ?_
  refine va_iald hx hb hK hP 3 2 rfl rfl (vp_in_nI (by omega) (by decide)) dd_M_create_22 ?_
  refine jl_top (jn_at (N) (by omega)) ?_
  have hf_2 : N (jm_newInode K) < 256 := (by assumption : jlt 256 N) _
  refine lv_iconst (v := nI 1) hx hb dd_M_create_23 (by decide) ?_
  refine jl_iadd hx hb dd_M_create_24 ?_
  refine lv_sipush (v := nI 256) hx hb dd_M_create_25 (by decide) ?_
  refine jl_irem hx hb (by omega) (by decide) (by decide) dd_M_create_28 ?_
  refine va_iast hx hb hK hP hD hS 3 2 rfl rfl (vp_in_nI (by omega) (by decide)) dd_M_create_29 (fun H locs hP hD hS => ?_)
  rw [jn_upd (N) (((N (jm_newInode K)) + 1) % 256) (by omega)] at hP hD
  have hP : va_P G jcl (wM qM qK qZ qN qB qY qi qo qm qp c1 c2 c3 c4 c5 c6 c7 c8 c9 (ju K (jm_newInode K) k) Z (ju N (jm_newInode K) (((N (jm_newInode K)) + 1) % 256)) B Y I O M P ct wr ofs th pa ey fo la) H := hP
  have hD : va_D A (wM qM qK qZ qN qB qY qi qo qm qp c1 c2 c3 c4 c5 c6 c7 c8 c9 (ju K (jm_newInode K) k) Z (ju N (jm_newInode K) (((N (jm_newInode K)) + 1) % 256)) B Y I O M P ct wr ofs th pa ey fo la) := hD
  refine lv_iload_n hx hb dd_M_create_30 rfl (lv_at hl 0 rfl) ?_
  have he : wM qM qK qZ qN qB qY qi qo qm qp c1 c2 c3 c4 c5 c6 c7 c8 c9 (ju K (jm_newInode K) k) Z (ju N (jm_newInode K) (((N (jm_newInode K)) + 1) % 256)) B Y I O M P ct wr ofs th pa ey fo la = wM qM qK qZ qN qB qY qi qo qm qp c1 c2 c3 c4 c5 c6 c7 c8 c9 (ju K (jm_newInode K) k) Z (ju N (jm_newInode K) ((N (jm_newInode K) + 1) % 256)) B Y I O M P ct wr ofs th pa ey fo la := by first | with_reducible rfl | (simp []; done)
  rw [he] at hP hD
  exact jm_reti C (by first | with_reducible rfl | (simp []; done)) hP hD hK hS ⟨Nat.le_of_ble_eq_true rfl, Nat.le_of_ble_eq_true rfl⟩ dd_M_create_31
set_option maxHeartbeats 4000000 in
set_option maxRecDepth 100000 in
theorem ct_M_addEntry (l : Launch) (G : va_G) (qM qK qZ qN qB qY qi qo qm qp : Nat) (c1 c2 c3 c4 c5 c6 c7 c8 c9 : ClassId) (K : Nat → Nat) (Z : Nat → Nat) (N : Nat → Nat) (B : Nat → Nat) (Y : Nat → Nat) (I : Nat → Nat) (O : Nat → Nat) (M : Nat → Nat) (P : Nat → Nat) (ct : Nat) (wr : Nat) (ofs : Nat) (th : Nat) (pa : Option Nat) (ey : Option Nat) (fo : Option Nat) (la : Nat) (d : Nat) (nm : Nat) (i : Nat) (m : Nat) (hd0 : d < 12) (hn0 : nm < 256) (hi0 : i < 256) (hzd : Z d ≤ 62) (hm0 : 9 ≤ m ∧ m < 5000) (hB : jlt m B) (hZ : jlt 65 Z) : jm l yn_M_addEntry (.code yn_M_addEntry cd_M_addEntry 5 none) { frames := 3, cells := 0, slots := 0, locals := 67 } G (tM c1 c2 c3 c4 c5 c6 c7 c8 c9) (wM qM qK qZ qN qB qY qi qo qm qp c1 c2 c3 c4 c5 c6 c7 c8 c9 K Z N B Y I O M P ct wr ofs th pa ey fo la) [.ref qM, .int (nI (d)), .int (nI (nm)), .int (nI (i))] none (wM qM qK qZ qN qB qY qi qo qm qp c1 c2 c3 c4 c5 c6 c7 c8 c9 K (ju Z d (Z d + 2)) N (jm_resB B m d (Z d + 2)) (ju (ju (jm_resY Y d (Z d + 2)) (d * 64 + Z d) nm) (d * 64 + Z d + 1) i) I O M P ct wr ofs th pa ey fo la) := by
  refine jm_of (by decide) (Nat.le_of_ble_eq_true rfl) ?_
  intro pr en σ mi bel met cd ls A hA C hP hK hD hS hl
  have hx := C.1
  have hb := C.2.1
  have hown := C.2.2.2.1
  have hts := C.2.2.2.2.1
  have hl : lv_has ls 5 [(0, .ref qM), (1, .int (nI (d))), (2, .int (nI (nm))), (3, .int (nI (i)))] := hl
  refine lv_aload_n hx hb dd_M_addEntry_0 rfl (lv_at hl 0 rfl) ?_
  refine va_get (D := G) (ci := 4) (v := .ref qZ) (C := cn_M) (T := ft_M) (N := 17) hx hb hts uw_M hown hK hP 0 rfl rfl 1 (by decide) (hts _ tw_594) (fun _ h9 => h9) rfl dd_M_addEntry_1 ?_
  refine lv_iload_n hx hb dd_M_addEntry_4 rfl (lv_at hl 1 rfl) ?_
  refine va_iald hx hb hK hP 2 1 rfl rfl (vp_in_nI (by omega) (by decide)) dd_M_addEntry_5 ?_
  refine jl_top (jn_at (Z) (by omega)) ?_
  have hf_1 : Z d < 65 := (by assumption : jlt 65 Z) _
  refine lv_istore (lv' := [(4, .int (nI (Z d))), (0, .ref qM), (1, .int (nI (d))), (2, .int (nI (nm))), (3, .int (nI (i)))]) hx hb dd_M_addEntry_6 hl (by decide) rfl (fun ls hl => ?_)
  refine lv_aload_n hx hb dd_M_addEntry_8 rfl (lv_at hl 1 rfl) ?_
  refine lv_iload_n hx hb dd_M_addEntry_9 rfl (lv_at hl 2 rfl) ?_
  refine lv_iload hx hb dd_M_addEntry_10 (lv_at hl 0 rfl) ?_
  refine lv_iconst (v := nI 2) hx hb dd_M_addEntry_12 (by decide) ?_
  refine jl_iadd hx hb dd_M_addEntry_13 ?_
  refine jm_callV (wr := []) C (ct_M_resize l G qM qK qZ qN qB qY qi qo qm qp c1 c2 c3 c4 c5 c6 c7 c8 c9 K Z N B Y I O M P ct wr ofs th pa ey fo la d ((Z d) + 2) m (by omega) (by omega) (by omega) (by assumption)) kl_M_56 ⟨Nat.le_of_ble_eq_true rfl, Nat.le_of_ble_eq_true rfl⟩ ⟨Nat.le_of_ble_eq_true rfl, Nat.le_of_ble_eq_true rfl⟩ hP hD hS hA (hK) (va_recv hK hP (ci := 4) (q0 := 0) rfl rfl) hl.1 rfl rfl (Nat.le_of_ble_eq_true rfl) dd_M_addEntry_14 (fun H locs hP hD hS => ?_)
  have hP : va_P G jcl (wM qM qK qZ qN qB qY qi qo qm qp c1 c2 c3 c4 c5 c6 c7 c8 c9 K (ju Z d ((Z d) + 2)) N (jm_resB B m d ((Z d) + 2)) (jm_resY Y d ((Z d) + 2)) I O M P ct wr ofs th pa ey fo la) H := hP
  have hD : va_D A (wM qM qK qZ qN qB qY qi qo qm qp c1 c2 c3 c4 c5 c6 c7 c8 c9 K (ju Z d ((Z d) + 2)) N (jm_resB B m d ((Z d) + 2)) (jm_resY Y d ((Z d) + 2)) I O M P ct wr ofs th pa ey fo la) := hD
  have hf_2 : jlt (m + 4) (jm_resB B m d ((Z d) + 2)) := jm_rsL_lt _ _ 4 _ 0 (by omega) (by assumption)
  refine lv_aload_n hx hb dd_M_addEntry_17 rfl (lv_at hl 1 rfl) ?_
  refine va_get (D := G) (ci := 4) (v := .ref qY) (C := cn_M) (T := ft_M) (N := 17) hx hb hts uw_M hown hK hP 0 rfl rfl 4 (by decide) (hts _ tw_597) (fun _ h9 => h9) rfl dd_M_addEntry_18 ?_
  refine lv_iload_n hx hb dd_M_addEntry_21 rfl (lv_at hl 2 rfl) ?_
  refine lv_bipush (v := nI 64) hx hb dd_M_addEntry_22 (by decide) ?_
  refine jl_imul hx hb dd_M_addEntry_24 ?_
  refine lv_iload hx hb dd_M_addEntry_25 (lv_at hl 0 rfl) ?_
  refine jl_iadd hx hb dd_M_addEntry_27 ?_
  refine lv_iload_n hx hb dd_M_addEntry_28 rfl (lv_at hl 3 rfl) ?_
  refine va_iast hx hb hK hP hD hS 5 4 rfl rfl (vp_in_nI (by omega) (by decide)) dd_M_addEntry_29 (fun H locs hP hD hS => ?_)
  rw [jn_upd (jm_resY Y d ((Z d) + 2)) (nm) (by omega)] at hP hD
  have hP : va_P G jcl (wM qM qK qZ qN qB qY qi qo qm qp c1 c2 c3 c4 c5 c6 c7 c8 c9 K (ju Z d ((Z d) + 2)) N (jm_resB B m d ((Z d) + 2)) (ju (jm_resY Y d ((Z d) + 2)) ((d * 64) + (Z d)) nm) I O M P ct wr ofs th pa ey fo la) H := hP
  have hD : va_D A (wM qM qK qZ qN qB qY qi qo qm qp c1 c2 c3 c4 c5 c6 c7 c8 c9 K (ju Z d ((Z d) + 2)) N (jm_resB B m d ((Z d) + 2)) (ju (jm_resY Y d ((Z d) + 2)) ((d * 64) + (Z d)) nm) I O M P ct wr ofs th pa ey fo la) := hD
  refine lv_aload_n hx hb dd_M_addEntry_30 rfl (lv_at hl 1 rfl) ?_
  refine va_get (D := G) (ci := 4) (v := .ref qY) (C := cn_M) (T := ft_M) (N := 17) hx hb hts uw_M hown hK hP 0 rfl rfl 4 (by decide) (hts _ tw_597) (fun _ h9 => h9) rfl dd_M_addEntry_31 ?_
  refine lv_iload_n hx hb dd_M_addEntry_34 rfl (lv_at hl 2 rfl) ?_
  refine lv_bipush (v := nI 64) hx hb dd_M_addEntry_35 (by decide) ?_
  refine jl_imul hx hb dd_M_addEntry_37 ?_
  refine lv_iload hx hb dd_M_addEntry_38 (lv_at hl 0 rfl) ?_
  refine jl_iadd hx hb dd_M_addEntry_40 ?_
  refine lv_iconst (v := nI 1) hx hb dd_M_addEntry_41 (by decide) ?_
  refine jl_iadd hx hb dd_M_addEntry_42 ?_
  refine lv_iload_n hx hb dd_M_addEntry_43 rfl (lv_at hl 4 rfl) ?_
  refine va_iast hx hb hK hP hD hS 5 4 rfl rfl (vp_in_nI (by omega) (by decide)) dd_M_addEntry_44 (fun H locs hP hD hS => ?_)
  rw [jn_upd (ju (jm_resY Y d ((Z d) + 2)) ((d * 64) + (Z d)) nm) (i) (by omega)] at hP hD
  have hP : va_P G jcl (wM qM qK qZ qN qB qY qi qo qm qp c1 c2 c3 c4 c5 c6 c7 c8 c9 K (ju Z d ((Z d) + 2)) N (jm_resB B m d ((Z d) + 2)) (ju (ju (jm_resY Y d ((Z d) + 2)) ((d * 64) + (Z d)) nm) (((d * 64) + (Z d)) + 1) i) I O M P ct wr ofs th pa ey fo la) H := hP
  have hD : va_D A (wM qM qK qZ qN qB qY qi qo qm qp c1 c2 c3 c4 c5 c6 c7 c8 c9 K (ju Z d ((Z d) + 2)) N (jm_resB B m d ((Z d) + 2)) (ju (ju (jm_resY Y d ((Z d) + 2)) ((d * 64) + (Z d)) nm) (((d * 64) + (Z d)) + 1) i) I O M P ct wr ofs th pa ey fo la) := hD
  have he : wM qM qK qZ qN qB qY qi qo qm qp c1 c2 c3 c4 c5 c6 c7 c8 c9 K (ju Z d ((Z d) + 2)) N (jm_resB B m d ((Z d) + 2)) (ju (ju (jm_resY Y d ((Z d) + 2)) ((d * 64) + (Z d)) nm) (((d * 64) + (Z d)) + 1) i) I O M P ct wr ofs th pa ey fo la = wM qM qK qZ qN qB qY qi qo qm qp c1 c2 c3 c4 c5 c6 c7 c8 c9 K (ju Z d (Z d + 2)) N (jm_resB B m d (Z d + 2)) (ju (ju (jm_resY Y d (Z d + 2)) (d * 64 + Z d) nm) (d * 64 + Z d + 1) i) I O M P ct wr ofs th pa ey fo la := by first | with_reducible rfl | (simp []; done)
  rw [he] at hP hD
  exact jm_retv C hP hD hK hS ⟨Nat.le_of_ble_eq_true rfl, Nat.le_of_ble_eq_true rfl⟩ dd_M_addEntry_45
set_option maxHeartbeats 4000000 in
set_option maxRecDepth 100000 in
theorem ct_M_dropEntry (l : Launch) (G : va_G) (qM qK qZ qN qB qY qi qo qm qp : Nat) (c1 c2 c3 c4 c5 c6 c7 c8 c9 : ClassId) (K : Nat → Nat) (Z : Nat → Nat) (N : Nat → Nat) (B : Nat → Nat) (Y : Nat → Nat) (I : Nat → Nat) (O : Nat → Nat) (M : Nat → Nat) (P : Nat → Nat) (ct : Nat) (wr : Nat) (ofs : Nat) (th : Nat) (pa : Option Nat) (ey : Option Nat) (fo : Option Nat) (la : Nat) (d : Nat) (e : Nat) (m : Nat) (hd0 : d < 12) (he0 : e < 32) (hzd : 2 ≤ Z d) (hm0 : 9 ≤ m ∧ m < 5000) (hB : jlt m B) (hZ : jlt 65 Z) (hY : jlt 256 Y) : jm l yn_M_dropEntry (.code yn_M_dropEntry cd_M_dropEntry 4 none) { frames := 3, cells := 0, slots := 0, locals := 67 } G (tM c1 c2 c3 c4 c5 c6 c7 c8 c9) (wM qM qK qZ qN qB qY qi qo qm qp c1 c2 c3 c4 c5 c6 c7 c8 c9 K Z N B Y I O M P ct wr ofs th pa ey fo la) [.ref qM, .int (nI (d)), .int (nI (e))] none (wM qM qK qZ qN qB qY qi qo qm qp c1 c2 c3 c4 c5 c6 c7 c8 c9 K (ju Z d (Z d - 2)) N (jm_resB B m d (Z d - 2)) (jm_resY (ju (ju Y (d * 64 + e * 2) (Y (d * 64 + (Z d - 2)))) (d * 64 + e * 2 + 1) (ju Y (d * 64 + e * 2) (Y (d * 64 + (Z d - 2))) (d * 64 + (Z d - 2) + 1))) d (Z d - 2)) I O M P ct wr ofs th pa ey fo la) := by
  refine jm_of (by decide) (Nat.le_of_ble_eq_true rfl) ?_
  intro pr en σ mi bel met cd ls A hA C hP hK hD hS hl
  have hx := C.1
  have hb := C.2.1
  have hown := C.2.2.2.1
  have hts := C.2.2.2.2.1
  have hl : lv_has ls 4 [(0, .ref qM), (1, .int (nI (d))), (2, .int (nI (e)))] := hl
  refine lv_aload_n hx hb dd_M_dropEntry_0 rfl (lv_at hl 0 rfl) ?_
  refine va_get (D := G) (ci := 4) (v := .ref qZ) (C := cn_M) (T := ft_M) (N := 17) hx hb hts uw_M hown hK hP 0 rfl rfl 1 (by decide) (hts _ tw_594) (fun _ h9 => h9) rfl dd_M_dropEntry_1 ?_
  refine lv_iload_n hx hb dd_M_dropEntry_4 rfl (lv_at hl 1 rfl) ?_
  refine va_iald hx hb hK hP 2 1 rfl rfl (vp_in_nI (by omega) (by decide)) dd_M_dropEntry_5 ?_
  refine jl_top (jn_at (Z) (by omega)) ?_
  have hf_1 : Z d < 65 := (by assumption : jlt 65 Z) _
  refine lv_iconst (v := nI 2) hx hb dd_M_dropEntry_6 (by decide) ?_
  refine jl_isub hx hb (by omega) dd_M_dropEntry_7 ?_
  refine lv_istore_n (lv' := [(3, .int (nI ((Z d) - 2))), (0, .ref qM), (1, .int (nI (d))), (2, .int (nI (e)))]) hx hb dd_M_dropEntry_8 rfl hl (by decide) rfl (fun ls hl => ?_)
  refine lv_aload_n hx hb dd_M_dropEntry_9 rfl (lv_at hl 1 rfl) ?_
  refine va_get (D := G) (ci := 4) (v := .ref qY) (C := cn_M) (T := ft_M) (N := 17) hx hb hts uw_M hown hK hP 0 rfl rfl 4 (by decide) (hts _ tw_597) (fun _ h9 => h9) rfl dd_M_dropEntry_10 ?_
  refine lv_iload_n hx hb dd_M_dropEntry_13 rfl (lv_at hl 2 rfl) ?_
  refine lv_bipush (v := nI 64) hx hb dd_M_dropEntry_14 (by decide) ?_
  refine jl_imul hx hb dd_M_dropEntry_16 ?_
  refine lv_iload_n hx hb dd_M_dropEntry_17 rfl (lv_at hl 3 rfl) ?_
  refine lv_iconst (v := nI 2) hx hb dd_M_dropEntry_18 (by decide) ?_
  refine jl_imul hx hb dd_M_dropEntry_19 ?_
  refine jl_iadd hx hb dd_M_dropEntry_20 ?_
  refine lv_aload_n hx hb dd_M_dropEntry_21 rfl (lv_at hl 1 rfl) ?_
  refine va_get (D := G) (ci := 4) (v := .ref qY) (C := cn_M) (T := ft_M) (N := 17) hx hb hts uw_M hown hK hP 0 rfl rfl 4 (by decide) (hts _ tw_597) (fun _ h9 => h9) rfl dd_M_dropEntry_22 ?_
  refine lv_iload_n hx hb dd_M_dropEntry_25 rfl (lv_at hl 2 rfl) ?_
  refine lv_bipush (v := nI 64) hx hb dd_M_dropEntry_26 (by decide) ?_
  refine jl_imul hx hb dd_M_dropEntry_28 ?_
  refine lv_iload_n hx hb dd_M_dropEntry_29 rfl (lv_at hl 0 rfl) ?_
  refine jl_iadd hx hb dd_M_dropEntry_30 ?_
  refine va_iald hx hb hK hP 5 4 rfl rfl (vp_in_nI (by omega) (by decide)) dd_M_dropEntry_31 ?_
  refine jl_top (jn_at (Y) (by omega)) ?_
  have hf_2 : Y ((d * 64) + ((Z d) - 2)) < 256 := (by assumption : jlt 256 Y) _
  refine va_iast hx hb hK hP hD hS 5 4 rfl rfl (vp_in_nI (by omega) (by decide)) dd_M_dropEntry_32 (fun H locs hP hD hS => ?_)
  rw [jn_upd (Y) (Y ((d * 64) + ((Z d) - 2))) (by omega)] at hP hD
  have hP : va_P G jcl (wM qM qK qZ qN qB qY qi qo qm qp c1 c2 c3 c4 c5 c6 c7 c8 c9 K Z N B (ju Y ((d * 64) + (e * 2)) (Y ((d * 64) + ((Z d) - 2)))) I O M P ct wr ofs th pa ey fo la) H := hP
  have hD : va_D A (wM qM qK qZ qN qB qY qi qo qm qp c1 c2 c3 c4 c5 c6 c7 c8 c9 K Z N B (ju Y ((d * 64) + (e * 2)) (Y ((d * 64) + ((Z d) - 2)))) I O M P ct wr ofs th pa ey fo la) := hD
  have hf_3 : jlt 256 (ju Y ((d * 64) + (e * 2)) (Y ((d * 64) + ((Z d) - 2)))) := ju_lt (by assumption) (by omega)
  refine lv_aload_n hx hb dd_M_dropEntry_33 rfl (lv_at hl 1 rfl) ?_
  refine va_get (D := G) (ci := 4) (v := .ref qY) (C := cn_M) (T := ft_M) (N := 17) hx hb hts uw_M hown hK hP 0 rfl rfl 4 (by decide) (hts _ tw_597) (fun _ h9 => h9) rfl dd_M_dropEntry_34 ?_
  refine lv_iload_n hx hb dd_M_dropEntry_37 rfl (lv_at hl 2 rfl) ?_
  refine lv_bipush (v := nI 64) hx hb dd_M_dropEntry_38 (by decide) ?_
  refine jl_imul hx hb dd_M_dropEntry_40 ?_
  refine lv_iload_n hx hb dd_M_dropEntry_41 rfl (lv_at hl 3 rfl) ?_
  refine lv_iconst (v := nI 2) hx hb dd_M_dropEntry_42 (by decide) ?_
  refine jl_imul hx hb dd_M_dropEntry_43 ?_
  refine jl_iadd hx hb dd_M_dropEntry_44 ?_
  refine lv_iconst (v := nI 1) hx hb dd_M_dropEntry_45 (by decide) ?_
  refine jl_iadd hx hb dd_M_dropEntry_46 ?_
  refine lv_aload_n hx hb dd_M_dropEntry_47 rfl (lv_at hl 1 rfl) ?_
  refine va_get (D := G) (ci := 4) (v := .ref qY) (C := cn_M) (T := ft_M) (N := 17) hx hb hts uw_M hown hK hP 0 rfl rfl 4 (by decide) (hts _ tw_597) (fun _ h9 => h9) rfl dd_M_dropEntry_48 ?_
  refine lv_iload_n hx hb dd_M_dropEntry_51 rfl (lv_at hl 2 rfl) ?_
  refine lv_bipush (v := nI 64) hx hb dd_M_dropEntry_52 (by decide) ?_
  refine jl_imul hx hb dd_M_dropEntry_54 ?_
  refine lv_iload_n hx hb dd_M_dropEntry_55 rfl (lv_at hl 0 rfl) ?_
  refine jl_iadd hx hb dd_M_dropEntry_56 ?_
  refine lv_iconst (v := nI 1) hx hb dd_M_dropEntry_57 (by decide) ?_
  refine jl_iadd hx hb dd_M_dropEntry_58 ?_
  refine va_iald hx hb hK hP 5 4 rfl rfl (vp_in_nI (by omega) (by decide)) dd_M_dropEntry_59 ?_
  refine jl_top (jn_at (ju Y ((d * 64) + (e * 2)) (Y ((d * 64) + ((Z d) - 2)))) (by omega)) ?_
  have hf_4 : (ju Y ((d * 64) + (e * 2)) (Y ((d * 64) + ((Z d) - 2)))) (((d * 64) + ((Z d) - 2)) + 1) < 256 := (by assumption : jlt 256 (ju Y ((d * 64) + (e * 2)) (Y ((d * 64) + ((Z d) - 2))))) _
  refine va_iast hx hb hK hP hD hS 5 4 rfl rfl (vp_in_nI (by omega) (by decide)) dd_M_dropEntry_60 (fun H locs hP hD hS => ?_)
  rw [jn_upd (ju Y ((d * 64) + (e * 2)) (Y ((d * 64) + ((Z d) - 2)))) ((ju Y ((d * 64) + (e * 2)) (Y ((d * 64) + ((Z d) - 2)))) (((d * 64) + ((Z d) - 2)) + 1)) (by omega)] at hP hD
  have hP : va_P G jcl (wM qM qK qZ qN qB qY qi qo qm qp c1 c2 c3 c4 c5 c6 c7 c8 c9 K Z N B (ju (ju Y ((d * 64) + (e * 2)) (Y ((d * 64) + ((Z d) - 2)))) (((d * 64) + (e * 2)) + 1) ((ju Y ((d * 64) + (e * 2)) (Y ((d * 64) + ((Z d) - 2)))) (((d * 64) + ((Z d) - 2)) + 1))) I O M P ct wr ofs th pa ey fo la) H := hP
  have hD : va_D A (wM qM qK qZ qN qB qY qi qo qm qp c1 c2 c3 c4 c5 c6 c7 c8 c9 K Z N B (ju (ju Y ((d * 64) + (e * 2)) (Y ((d * 64) + ((Z d) - 2)))) (((d * 64) + (e * 2)) + 1) ((ju Y ((d * 64) + (e * 2)) (Y ((d * 64) + ((Z d) - 2)))) (((d * 64) + ((Z d) - 2)) + 1))) I O M P ct wr ofs th pa ey fo la) := hD
  have hf_5 : jlt 256 (ju (ju Y ((d * 64) + (e * 2)) (Y ((d * 64) + ((Z d) - 2)))) (((d * 64) + (e * 2)) + 1) ((ju Y ((d * 64) + (e * 2)) (Y ((d * 64) + ((Z d) - 2)))) (((d * 64) + ((Z d) - 2)) + 1))) := ju_lt (by assumption) (by omega)
  refine lv_aload_n hx hb dd_M_dropEntry_61 rfl (lv_at hl 1 rfl) ?_
  refine lv_iload_n hx hb dd_M_dropEntry_62 rfl (lv_at hl 2 rfl) ?_
  refine lv_iload_n hx hb dd_M_dropEntry_63 rfl (lv_at hl 0 rfl) ?_
  refine jm_callV (wr := []) C (ct_M_resize l G qM qK qZ qN qB qY qi qo qm qp c1 c2 c3 c4 c5 c6 c7 c8 c9 K Z N B (ju (ju Y ((d * 64) + (e * 2)) (Y ((d * 64) + ((Z d) - 2)))) (((d * 64) + (e * 2)) + 1) ((ju Y ((d * 64) + (e * 2)) (Y ((d * 64) + ((Z d) - 2)))) (((d * 64) + ((Z d) - 2)) + 1))) I O M P ct wr ofs th pa ey fo la d ((Z d) - 2) m (by omega) (by omega) (by omega) (by assumption)) kl_M_56 ⟨Nat.le_of_ble_eq_true rfl, Nat.le_of_ble_eq_true rfl⟩ ⟨Nat.le_of_ble_eq_true rfl, Nat.le_of_ble_eq_true rfl⟩ hP hD hS hA (hK) (va_recv hK hP (ci := 4) (q0 := 0) rfl rfl) hl.1 rfl rfl (Nat.le_of_ble_eq_true rfl) dd_M_dropEntry_64 (fun H locs hP hD hS => ?_)
  have hP : va_P G jcl (wM qM qK qZ qN qB qY qi qo qm qp c1 c2 c3 c4 c5 c6 c7 c8 c9 K (ju Z d ((Z d) - 2)) N (jm_resB B m d ((Z d) - 2)) (jm_resY (ju (ju Y ((d * 64) + (e * 2)) (Y ((d * 64) + ((Z d) - 2)))) (((d * 64) + (e * 2)) + 1) ((ju Y ((d * 64) + (e * 2)) (Y ((d * 64) + ((Z d) - 2)))) (((d * 64) + ((Z d) - 2)) + 1))) d ((Z d) - 2)) I O M P ct wr ofs th pa ey fo la) H := hP
  have hD : va_D A (wM qM qK qZ qN qB qY qi qo qm qp c1 c2 c3 c4 c5 c6 c7 c8 c9 K (ju Z d ((Z d) - 2)) N (jm_resB B m d ((Z d) - 2)) (jm_resY (ju (ju Y ((d * 64) + (e * 2)) (Y ((d * 64) + ((Z d) - 2)))) (((d * 64) + (e * 2)) + 1) ((ju Y ((d * 64) + (e * 2)) (Y ((d * 64) + ((Z d) - 2)))) (((d * 64) + ((Z d) - 2)) + 1))) d ((Z d) - 2)) I O M P ct wr ofs th pa ey fo la) := hD
  have hf_6 : jlt (m + 4) (jm_resB B m d ((Z d) - 2)) := jm_rsL_lt _ _ 4 _ 0 (by omega) (by assumption)
  have he : wM qM qK qZ qN qB qY qi qo qm qp c1 c2 c3 c4 c5 c6 c7 c8 c9 K (ju Z d ((Z d) - 2)) N (jm_resB B m d ((Z d) - 2)) (jm_resY (ju (ju Y ((d * 64) + (e * 2)) (Y ((d * 64) + ((Z d) - 2)))) (((d * 64) + (e * 2)) + 1) ((ju Y ((d * 64) + (e * 2)) (Y ((d * 64) + ((Z d) - 2)))) (((d * 64) + ((Z d) - 2)) + 1))) d ((Z d) - 2)) I O M P ct wr ofs th pa ey fo la = wM qM qK qZ qN qB qY qi qo qm qp c1 c2 c3 c4 c5 c6 c7 c8 c9 K (ju Z d (Z d - 2)) N (jm_resB B m d (Z d - 2)) (jm_resY (ju (ju Y (d * 64 + e * 2) (Y (d * 64 + (Z d - 2)))) (d * 64 + e * 2 + 1) (ju Y (d * 64 + e * 2) (Y (d * 64 + (Z d - 2))) (d * 64 + (Z d - 2) + 1))) d (Z d - 2)) I O M P ct wr ofs th pa ey fo la := by first | with_reducible rfl | (simp []; done)
  rw [he] at hP hD
  exact jm_retv C hP hD hK hS ⟨Nat.le_of_ble_eq_true rfl, Nat.le_of_ble_eq_true rfl⟩ dd_M_dropEntry_67
set_option maxHeartbeats 4000000 in
set_option maxRecDepth 100000 in
theorem ct_M_stale (l : Launch) (G : va_G) (qM qK qZ qN qB qY qi qo qm qp : Nat) (c1 c2 c3 c4 c5 c6 c7 c8 c9 : ClassId) (K : Nat → Nat) (Z : Nat → Nat) (N : Nat → Nat) (B : Nat → Nat) (Y : Nat → Nat) (I : Nat → Nat) (O : Nat → Nat) (M : Nat → Nat) (P : Nat → Nat) (ct : Nat) (wr : Nat) (ofs : Nat) (th : Nat) (pa : Option Nat) (ey : Option Nat) (fo : Option Nat) (la : Nat) (h : Nat) (hh0 : h < 6) (hI1 : 1 ≤ I h) (hK : jlt 3 K) (hN : jlt 256 N) (hI : jlt 13 I) (hO : jlt 256 O) (hM : jlt 5 M) : jr l yn_M_stale (.code yn_M_stale cd_M_stale 3 (some .boolean)) { frames := 0, cells := 0, slots := 0, locals := 0 } G (tM c1 c2 c3 c4 c5 c6 c7 c8 c9) (wM qM qK qZ qN qB qY qi qo qm qp c1 c2 c3 c4 c5 c6 c7 c8 c9 K Z N B Y I O M P ct wr ofs th pa ey fo la) [.ref qM, .int (nI (h))] (nI (jm_stale K N I O M h)) := by
  refine jr_of (by decide) (Nat.le_of_ble_eq_true rfl) ?_
  intro pr en σ mi bel met cd ls C hP hK hl
  have hx := C.1
  have hb := C.2.1
  have hown := C.2.2.2.1
  have hts := C.2.2.2.2.1
  have hl : lv_has ls 3 [(0, .ref qM), (1, .int (nI (h)))] := hl
  refine lv_aload_n hx hb dd_M_stale_0 rfl (lv_at hl 0 rfl) ?_
  refine va_get (D := G) (ci := 4) (v := .ref qi) (C := cn_M) (T := ft_M) (N := 17) hx hb hts uw_M hown hK hP 0 rfl rfl 5 (by decide) (hts _ tw_598) (fun _ h9 => h9) rfl dd_M_stale_1 ?_
  refine lv_iload_n hx hb dd_M_stale_4 rfl (lv_at hl 1 rfl) ?_
  refine va_iald hx hb hK hP 6 5 rfl rfl (vp_in_nI (by omega) (by decide)) dd_M_stale_5 ?_
  refine jl_top (jn_at (I) (by omega)) ?_
  have hf_1 : I h < 13 := (by assumption : jlt 13 I) _
  refine lv_iconst (v := nI 1) hx hb dd_M_stale_6 (by decide) ?_
  refine jl_isub hx hb (by omega) dd_M_stale_7 ?_
  refine lv_istore_n (lv' := [(2, .int (nI ((I h) - 1))), (0, .ref qM), (1, .int (nI (h)))]) hx hb dd_M_stale_8 rfl hl (by decide) rfl (fun ls hl => ?_)
  refine lv_aload_n hx hb dd_M_stale_9 rfl (lv_at hl 1 rfl) ?_
  refine va_get (D := G) (ci := 4) (v := .ref qN) (C := cn_M) (T := ft_M) (N := 17) hx hb hts uw_M hown hK hP 0 rfl rfl 2 (by decide) (hts _ tw_595) (fun _ h9 => h9) rfl dd_M_stale_10 ?_
  refine lv_iload_n hx hb dd_M_stale_13 rfl (lv_at hl 0 rfl) ?_
  refine va_iald hx hb hK hP 3 2 rfl rfl (vp_in_nI (by omega) (by decide)) dd_M_stale_14 ?_
  refine jl_top (jn_at (N) (by omega)) ?_
  have hf_2 : N ((I h) - 1) < 256 := (by assumption : jlt 256 N) _
  refine lv_aload_n hx hb dd_M_stale_15 rfl (lv_at hl 1 rfl) ?_
  refine va_get (D := G) (ci := 4) (v := .ref qo) (C := cn_M) (T := ft_M) (N := 17) hx hb hts uw_M hown hK hP 0 rfl rfl 6 (by decide) (hts _ tw_599) (fun _ h9 => h9) rfl dd_M_stale_16 ?_
  refine lv_iload_n hx hb dd_M_stale_19 rfl (lv_at hl 2 rfl) ?_
  refine va_iald hx hb hK hP 7 6 rfl rfl (vp_in_nI (by omega) (by decide)) dd_M_stale_20 ?_
  refine jl_top (jn_at (O) (by omega)) ?_
  have hf_3 : O h < 256 := (by assumption : jlt 256 O) _
  refine jl_ne (tgt := 48) hx hb (by omega) (by omega) dd_M_stale_21 (by decide) (fun c_4 => ?_) (fun c_4 => ?_)
  · skip
    refine lv_iconst (v := nI 1) hx hb dd_M_stale_48 (by decide) ?_
    refine lv_goto (tgt := 53) hx hb dd_M_stale_49 (by decide) ?_
    exact jr_retz C (by decide) (by first | with_reducible rfl | (simp [jm_stale, c_4]; done) | (simp_all [jm_stale]; done)) dd_M_stale_53
  · skip
    refine lv_aload_n hx hb dd_M_stale_24 rfl (lv_at hl 1 rfl) ?_
    refine va_get (D := G) (ci := 4) (v := .ref qK) (C := cn_M) (T := ft_M) (N := 17) hx hb hts uw_M hown hK hP 0 rfl rfl 0 (by decide) (hts _ tw_593) (fun _ h9 => h9) rfl dd_M_stale_25 ?_
    refine lv_iload_n hx hb dd_M_stale_28 rfl (lv_at hl 0 rfl) ?_
    refine va_iald hx hb hK hP 1 0 rfl rfl (vp_in_nI (by omega) (by decide)) dd_M_stale_29 ?_
    refine jl_top (jn_at (K) (by omega)) ?_
    have hf_5 : K ((I h) - 1) < 3 := (by assumption : jlt 3 K) _
    refine lv_aload_n hx hb dd_M_stale_30 rfl (lv_at hl 1 rfl) ?_
    refine va_get (D := G) (ci := 4) (v := .ref qm) (C := cn_M) (T := ft_M) (N := 17) hx hb hts uw_M hown hK hP 0 rfl rfl 7 (by decide) (hts _ tw_600) (fun _ h9 => h9) rfl dd_M_stale_31 ?_
    refine lv_iload_n hx hb dd_M_stale_34 rfl (lv_at hl 2 rfl) ?_
    refine va_iald hx hb hK hP 8 7 rfl rfl (vp_in_nI (by omega) (by decide)) dd_M_stale_35 ?_
    refine jl_top (jn_at (M) (by omega)) ?_
    have hf_6 : M h < 5 := (by assumption : jlt 5 M) _
    refine lv_iconst (v := nI 4) hx hb dd_M_stale_36 (by decide) ?_
    refine jl_ne (tgt := 44) hx hb (by omega) (by omega) dd_M_stale_37 (by decide) (fun c_7 => ?_) (fun c_7 => ?_)
    · skip
      refine lv_iconst (v := nI 1) hx hb dd_M_stale_44 (by decide) ?_
      refine jl_eq (tgt := 52) hx hb (by omega) (by omega) dd_M_stale_45 (by decide) (fun c_8 => ?_) (fun c_8 => ?_)
      · skip
        refine lv_iconst (v := nI 0) hx hb dd_M_stale_52 (by decide) ?_
        exact jr_retz C (by decide) (by first | with_reducible rfl | (simp [jm_stale, c_4, c_7, c_8]; done) | (simp_all [jm_stale]; done)) dd_M_stale_53
      · skip
        refine lv_iconst (v := nI 1) hx hb dd_M_stale_48 (by decide) ?_
        refine lv_goto (tgt := 53) hx hb dd_M_stale_49 (by decide) ?_
        exact jr_retz C (by decide) (by first | with_reducible rfl | (simp [jm_stale, c_4, c_7, c_8]; done) | (simp_all [jm_stale]; done)) dd_M_stale_53
    · skip
      refine lv_iconst (v := nI 2) hx hb dd_M_stale_40 (by decide) ?_
      refine lv_goto (tgt := 45) hx hb dd_M_stale_41 (by decide) ?_
      refine jl_eq (tgt := 52) hx hb (by omega) (by omega) dd_M_stale_45 (by decide) (fun c_9 => ?_) (fun c_9 => ?_)
      · skip
        refine lv_iconst (v := nI 0) hx hb dd_M_stale_52 (by decide) ?_
        exact jr_retz C (by decide) (by first | with_reducible rfl | (simp [jm_stale, c_4, c_7, c_9]; done) | (simp_all [jm_stale]; done)) dd_M_stale_53
      · skip
        refine lv_iconst (v := nI 1) hx hb dd_M_stale_48 (by decide) ?_
        refine lv_goto (tgt := 53) hx hb dd_M_stale_49 (by decide) ?_
        exact jr_retz C (by decide) (by first | with_reducible rfl | (simp [jm_stale, c_4, c_7, c_9]; done) | (simp_all [jm_stale]; done)) dd_M_stale_53
set_option maxHeartbeats 4000000 in
set_option maxRecDepth 100000 in
theorem ct_M_wrong (l : Launch) (G : va_G) (qM qK qZ qN qB qY qi qo qm qp : Nat) (c1 c2 c3 c4 c5 c6 c7 c8 c9 : ClassId) (K : Nat → Nat) (Z : Nat → Nat) (N : Nat → Nat) (B : Nat → Nat) (Y : Nat → Nat) (I : Nat → Nat) (O : Nat → Nat) (M : Nat → Nat) (P : Nat → Nat) (ct : Nat) (wr : Nat) (ofs : Nat) (th : Nat) (pa : Option Nat) (ey : Option Nat) (fo : Option Nat) (la : Nat) (h : Nat) (a : Nat) (b : Nat) (hh0 : h < 4294967296) (ha0 : a < 10) (hb0 : b < 10) (hK : jlt 3 K) (hN : jlt 256 N) (hI : jlt 13 I) (hO : jlt 256 O) (hM : jlt 5 M) : jr l yn_M_wrong (.code yn_M_wrong cd_M_wrong 4 (some .int)) { frames := 1, cells := 0, slots := 0, locals := 22 } G (tM c1 c2 c3 c4 c5 c6 c7 c8 c9) (wM qM qK qZ qN qB qY qi qo qm qp c1 c2 c3 c4 c5 c6 c7 c8 c9 K Z N B Y I O M P ct wr ofs th pa ey fo la) [.ref qM, .int (nI (h)), .int (nI (a)), .int (nI (b))] (nI (jm_wrong K N I O M h a b)) := by
  refine jr_of (by decide) (Nat.le_of_ble_eq_true rfl) ?_
  intro pr en σ mi bel met cd ls C hP hK hl
  have hx := C.1
  have hb := C.2.1
  have hown := C.2.2.2.1
  have hts := C.2.2.2.2.1
  have hl : lv_has ls 4 [(0, .ref qM), (1, .int (nI (h))), (2, .int (nI (a))), (3, .int (nI (b)))] := hl
  refine lv_iload_n hx hb dd_M_wrong_0 rfl (lv_at hl 1 rfl) ?_
  refine jl_iflt32 (tgt := 9) hx hb (by omega) dd_M_wrong_1 (by decide) (fun c_1 => ?_) (fun c_1 => ?_)
  · skip
    refine lv_iconst (v := nI 1) hx hb dd_M_wrong_9 (by decide) ?_
    exact jr_ret C (by first | with_reducible rfl | (simp [jm_wrong, c_1]; done) | (simp [show 5 < h by omega, jm_wrong, c_1]; done) | (unfold jm_wrong; (repeat' split) <;> first | rfl | (exfalso; omega)) | (simp_all [jm_wrong]; done)) dd_M_wrong_10
  · skip
    refine lv_iload_n hx hb dd_M_wrong_4 rfl (lv_at hl 1 rfl) ?_
    refine lv_iconst (v := nI 5) hx hb dd_M_wrong_5 (by decide) ?_
    refine jl_le (tgt := 11) hx hb (by omega) (by omega) dd_M_wrong_6 (by decide) (fun c_2 => ?_) (fun c_2 => ?_)
    · skip
      refine lv_aload_n hx hb dd_M_wrong_11 rfl (lv_at hl 0 rfl) ?_
      refine va_get (D := G) (ci := 4) (v := .ref qi) (C := cn_M) (T := ft_M) (N := 17) hx hb hts uw_M hown hK hP 0 rfl rfl 5 (by decide) (hts _ tw_598) (fun _ h9 => h9) rfl dd_M_wrong_12 ?_
      refine lv_iload_n hx hb dd_M_wrong_15 rfl (lv_at hl 1 rfl) ?_
      refine va_iald hx hb hK hP 6 5 rfl rfl (vp_in_nI (by omega) (by decide)) dd_M_wrong_16 ?_
      refine jl_top (jn_at (I) (by omega)) ?_
      have hf_3 : I h < 13 := (by assumption : jlt 13 I) _
      refine jl_ifeq (tgt := 63) hx hb (by omega) dd_M_wrong_17 (by decide) (fun c_4 => ?_) (fun c_4 => ?_)
      · skip
        refine lv_iconst (v := nI 2) hx hb dd_M_wrong_63 (by decide) ?_
        refine lv_goto (tgt := 68) hx hb dd_M_wrong_64 (by decide) ?_
        exact jr_ret C (by first | with_reducible rfl | (simp [jm_wrong, c_1, c_2, c_4]; done) | (simp [show 5 < h by omega, jm_wrong, c_1, c_2, c_4]; done) | (unfold jm_wrong; (repeat' split) <;> first | rfl | (exfalso; omega)) | (simp_all [jm_wrong]; done)) dd_M_wrong_68
      · skip
        refine lv_aload_n hx hb dd_M_wrong_20 rfl (lv_at hl 0 rfl) ?_
        refine lv_iload_n hx hb dd_M_wrong_21 rfl (lv_at hl 1 rfl) ?_
        refine jr_callV C (ct_M_stale l G qM qK qZ qN qB qY qi qo qm qp c1 c2 c3 c4 c5 c6 c7 c8 c9 K Z N B Y I O M P ct wr ofs th pa ey fo la h (by omega) (by omega) (by assumption) (by assumption) (by assumption) (by assumption) (by assumption)) kl_M_99 ⟨Nat.le_of_ble_eq_true rfl, Nat.le_of_ble_eq_true rfl, rfl, rfl⟩ ⟨Nat.le_of_ble_eq_true rfl, Nat.le_of_ble_eq_true rfl⟩ (hP) (hK) (va_recv hK hP (ci := 4) (q0 := 0) rfl rfl) hl.1 rfl rfl (Nat.le_of_ble_eq_true rfl) dd_M_wrong_22 ?_
        have hf_5 : jm_stale K N I O M h < 2 := jm_stale_lt _ _ _ _ _ _
        refine jl_ifne (tgt := 63) hx hb (by omega) dd_M_wrong_25 (by decide) (fun c_6 => ?_) (fun c_6 => ?_)
        · skip
          refine lv_iconst (v := nI 2) hx hb dd_M_wrong_63 (by decide) ?_
          refine lv_goto (tgt := 68) hx hb dd_M_wrong_64 (by decide) ?_
          exact jr_ret C (by first | with_reducible rfl | (simp [jm_wrong, c_1, c_2, c_4, c_6]; done) | (simp [show 5 < h by omega, jm_wrong, c_1, c_2, c_4, c_6]; done) | (unfold jm_wrong; (repeat' split) <;> first | rfl | (exfalso; omega)) | (simp_all [jm_wrong]; done)) dd_M_wrong_68
        · skip
          refine lv_aload_n hx hb dd_M_wrong_28 rfl (lv_at hl 0 rfl) ?_
          refine va_get (D := G) (ci := 4) (v := .ref qm) (C := cn_M) (T := ft_M) (N := 17) hx hb hts uw_M hown hK hP 0 rfl rfl 7 (by decide) (hts _ tw_600) (fun _ h9 => h9) rfl dd_M_wrong_29 ?_
          refine lv_iload_n hx hb dd_M_wrong_32 rfl (lv_at hl 1 rfl) ?_
          refine va_iald hx hb hK hP 8 7 rfl rfl (vp_in_nI (by omega) (by decide)) dd_M_wrong_33 ?_
          refine jl_top (jn_at (M) (by omega)) ?_
          have hf_7 : M h < 5 := (by assumption : jlt 5 M) _
          refine lv_iload_n hx hb dd_M_wrong_34 rfl (lv_at hl 2 rfl) ?_
          refine jl_eq (tgt := 67) hx hb (by omega) (by omega) dd_M_wrong_35 (by decide) (fun c_8 => ?_) (fun c_8 => ?_)
          · skip
            refine lv_iconst (v := nI 0) hx hb dd_M_wrong_67 (by decide) ?_
            exact jr_ret C (by first | with_reducible rfl | (simp [jm_wrong, c_1, c_2, c_4, c_6, c_8]; done) | (simp [show 5 < h by omega, jm_wrong, c_1, c_2, c_4, c_6, c_8]; done) | (unfold jm_wrong; (repeat' split) <;> first | rfl | (exfalso; omega)) | (simp_all [jm_wrong]; done)) dd_M_wrong_68
          · skip
            refine lv_aload_n hx hb dd_M_wrong_38 rfl (lv_at hl 0 rfl) ?_
            refine va_get (D := G) (ci := 4) (v := .ref qm) (C := cn_M) (T := ft_M) (N := 17) hx hb hts uw_M hown hK hP 0 rfl rfl 7 (by decide) (hts _ tw_600) (fun _ h9 => h9) rfl dd_M_wrong_39 ?_
            refine lv_iload_n hx hb dd_M_wrong_42 rfl (lv_at hl 1 rfl) ?_
            refine va_iald hx hb hK hP 8 7 rfl rfl (vp_in_nI (by omega) (by decide)) dd_M_wrong_43 ?_
            refine jl_top (jn_at (M) (by omega)) ?_
            have hf_9 : M h < 5 := (by assumption : jlt 5 M) _
            refine lv_iload_n hx hb dd_M_wrong_44 rfl (lv_at hl 3 rfl) ?_
            refine jl_eq (tgt := 67) hx hb (by omega) (by omega) dd_M_wrong_45 (by decide) (fun c_10 => ?_) (fun c_10 => ?_)
            · skip
              refine lv_iconst (v := nI 0) hx hb dd_M_wrong_67 (by decide) ?_
              exact jr_ret C (by first | with_reducible rfl | (simp [jm_wrong, c_1, c_2, c_4, c_6, c_8, c_10]; done) | (simp [show 5 < h by omega, jm_wrong, c_1, c_2, c_4, c_6, c_8, c_10]; done) | (unfold jm_wrong; (repeat' split) <;> first | rfl | (exfalso; omega)) | (simp_all [jm_wrong]; done)) dd_M_wrong_68
            · skip
              refine lv_aload_n hx hb dd_M_wrong_48 rfl (lv_at hl 0 rfl) ?_
              refine va_get (D := G) (ci := 4) (v := .ref qm) (C := cn_M) (T := ft_M) (N := 17) hx hb hts uw_M hown hK hP 0 rfl rfl 7 (by decide) (hts _ tw_600) (fun _ h9 => h9) rfl dd_M_wrong_49 ?_
              refine lv_iload_n hx hb dd_M_wrong_52 rfl (lv_at hl 1 rfl) ?_
              refine va_iald hx hb hK hP 8 7 rfl rfl (vp_in_nI (by omega) (by decide)) dd_M_wrong_53 ?_
              refine jl_top (jn_at (M) (by omega)) ?_
              have hf_11 : M h < 5 := (by assumption : jlt 5 M) _
              refine lv_iconst (v := nI 3) hx hb dd_M_wrong_54 (by decide) ?_
              refine jl_ne (tgt := 63) hx hb (by omega) (by omega) dd_M_wrong_55 (by decide) (fun c_12 => ?_) (fun c_12 => ?_)
              · skip
                refine lv_iconst (v := nI 2) hx hb dd_M_wrong_63 (by decide) ?_
                refine lv_goto (tgt := 68) hx hb dd_M_wrong_64 (by decide) ?_
                exact jr_ret C (by first | with_reducible rfl | (simp [jm_wrong, c_1, c_2, c_4, c_6, c_8, c_10, c_12]; done) | (simp [show 5 < h by omega, jm_wrong, c_1, c_2, c_4, c_6, c_8, c_10, c_12]; done) | (unfold jm_wrong; (repeat' split) <;> first | rfl | (exfalso; omega)) | (simp_all [jm_wrong]; done)) dd_M_wrong_68
              · skip
                refine lv_iload_n hx hb dd_M_wrong_58 rfl (lv_at hl 2 rfl) ?_
                refine lv_iconst (v := nI 4) hx hb dd_M_wrong_59 (by decide) ?_
                refine jl_lt (tgt := 67) hx hb (by omega) (by omega) dd_M_wrong_60 (by decide) (fun c_13 => ?_) (fun c_13 => ?_)
                · skip
                  refine lv_iconst (v := nI 0) hx hb dd_M_wrong_67 (by decide) ?_
                  exact jr_ret C (by first | with_reducible rfl | (simp [jm_wrong, c_1, c_2, c_4, c_6, c_8, c_10, c_12, c_13]; done) | (simp [show 5 < h by omega, jm_wrong, c_1, c_2, c_4, c_6, c_8, c_10, c_12, c_13]; done) | (unfold jm_wrong; (repeat' split) <;> first | rfl | (exfalso; omega)) | (simp_all [jm_wrong]; done)) dd_M_wrong_68
                · skip
                  refine lv_iconst (v := nI 2) hx hb dd_M_wrong_63 (by decide) ?_
                  refine lv_goto (tgt := 68) hx hb dd_M_wrong_64 (by decide) ?_
                  exact jr_ret C (by first | with_reducible rfl | (simp [jm_wrong, c_1, c_2, c_4, c_6, c_8, c_10, c_12, c_13]; done) | (simp [show 5 < h by omega, jm_wrong, c_1, c_2, c_4, c_6, c_8, c_10, c_12, c_13]; done) | (unfold jm_wrong; (repeat' split) <;> first | rfl | (exfalso; omega)) | (simp_all [jm_wrong]; done)) dd_M_wrong_68
    · skip
      refine lv_iconst (v := nI 1) hx hb dd_M_wrong_9 (by decide) ?_
      exact jr_ret C (by first | with_reducible rfl | (simp [jm_wrong, c_1, c_2]; done) | (simp [show 5 < h by omega, jm_wrong, c_1, c_2]; done) | (unfold jm_wrong; (repeat' split) <;> first | rfl | (exfalso; omega)) | (simp_all [jm_wrong]; done)) dd_M_wrong_10
