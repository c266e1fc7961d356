set_option maxHeartbeats 4000000 in
set_option maxRecDepth 100000 in
theorem ct_M_thrown (l : Launch) (G : va_G) (qM qK qZ qN qB qY qi qo qm qp : Nat) (c1 c2 c3 c4 c5 c6 c7 c8 c9 : ClassId) (K : Nat → Nat) (Z : Nat → Nat) (N : Nat → Nat) (B : Nat → Nat) (Y : Nat → Nat) (I : Nat → Nat) (O : Nat → Nat) (M : Nat → Nat) (P : Nat → Nat) (ct : Nat) (wr : Nat) (ofs : Nat) (th : Nat) (pa : Option Nat) (ey : Option Nat) (fo : Option Nat) (la : Nat)   : jr l yn_M_thrown (.code yn_M_thrown cd_M_thrown 1 (some .int)) { frames := 0, cells := 0, slots := 0, locals := 0 } G (tM c1 c2 c3 c4 c5 c6 c7 c8 c9) (wM qM qK qZ qN qB qY qi qo qm qp c1 c2 c3 c4 c5 c6 c7 c8 c9 K Z N B Y I O M P ct wr ofs th pa ey fo la) [.ref qM] (nI th) := by
  refine jr_of (by decide) (Nat.le_of_ble_eq_true rfl) ?_
  intro pr en σ mi bel met cd ls C hP hK hl
  have hx := C.1
  have hb := C.2.1
  have hown := C.2.2.2.1
  have hts := C.2.2.2.2.1
  have hl : lv_has ls 1 [(0, .ref qM)] := hl
  refine lv_aload_n hx hb dd_M_thrown_0 rfl (lv_at hl 0 rfl) ?_
  refine va_get (D := G) (ci := 4) (v := .int (nI (th))) (C := cn_M) (T := ft_M) (N := 17) hx hb hts uw_M hown hK hP 0 rfl rfl 12 (by decide) (hts _ tw_605) (fun _ h9 => h9) rfl dd_M_thrown_1 ?_
  exact jr_ret C (by first | with_reducible rfl | (simp []; done) | (simp_all []; done)) dd_M_thrown_4
set_option maxHeartbeats 4000000 in
set_option maxRecDepth 100000 in
theorem ct_M_isUsed (l : Launch) (G : va_G) (qM qK qZ qN qB qY qi qo qm qp : Nat) (c1 c2 c3 c4 c5 c6 c7 c8 c9 : ClassId) (K : Nat → Nat) (Z : Nat → Nat) (N : Nat → Nat) (B : Nat → Nat) (Y : Nat → Nat) (I : Nat → Nat) (O : Nat → Nat) (M : Nat → Nat) (P : Nat → Nat) (ct : Nat) (wr : Nat) (ofs : Nat) (th : Nat) (pa : Option Nat) (ey : Option Nat) (fo : Option Nat) (la : Nat) (base : Nat) (b : Nat) (m : Nat) (hba : base ≤ 12) (hb0 : b < 100000) (hm0 : 9 ≤ m ∧ m < 10000) (hB : jlt m B) : jr l yn_M_isUsed (.code yn_M_isUsed cd_M_isUsed 4 (some .boolean)) { frames := 0, cells := 0, slots := 0, locals := 0 } G (tM c1 c2 c3 c4 c5 c6 c7 c8 c9) (wM qM qK qZ qN qB qY qi qo qm qp c1 c2 c3 c4 c5 c6 c7 c8 c9 K Z N B Y I O M P ct wr ofs th pa ey fo la) [.ref qM, .int (nI (base)), .int (nI (b))] (nI (jm_isUsed B base b)) := by
  refine jr_of (by decide) (Nat.le_of_ble_eq_true rfl) ?_
  intro pr en σ mi bel met cd ls C hP hK hl
  have hx := C.1
  have hb := C.2.1
  have hown := C.2.2.2.1
  have hts := C.2.2.2.2.1
  have hl : lv_has ls 4 [(0, .ref qM), (1, .int (nI (base))), (2, .int (nI (b)))] := hl
  refine lv_iload_n hx hb dd_M_isUsed_0 rfl (lv_at hl 2 rfl) ?_
  refine lv_bipush (v := nI 9) hx hb dd_M_isUsed_1 (by decide) ?_
  refine jl_ge (tgt := 8) hx hb (by omega) (by omega) dd_M_isUsed_3 (by decide) (fun c_1 => ?_) (fun c_1 => ?_)
  · skip
    refine lv_iload_n hx hb dd_M_isUsed_8 rfl (lv_at hl 1 rfl) ?_
    refine lv_iconst (v := nI 4) hx hb dd_M_isUsed_9 (by decide) ?_
    refine jl_imul hx hb dd_M_isUsed_10 ?_
    refine lv_istore_n (lv' := [(3, .int (nI (base * 4))), (0, .ref qM), (1, .int (nI (base))), (2, .int (nI (b)))]) hx hb dd_M_isUsed_11 rfl hl (by decide) rfl (fun ls hl => ?_)
    have loop : ∀ (n : Nat) (k : Nat), (k + n = base * 4 + 48 ∧ ¬ b < 9) → jm_usedL B b n k = jm_isUsed B base b → ∀ ls : Array Slot, lv_has ls 4 [(3, .int (nI (k))), (0, .ref qM), (1, .int (nI (base))), (2, .int (nI (b)))] → W pr l en { frames := 0, cells := 0, slots := 0, locals := 0 } σ mi ([.ref qM, .int (nI (base)), .int (nI (b))] : List Value).toArray bel met cd σ.heap [] 0 0 (jr_Q bel [.ref qM, .int (nI (base)), .int (nI (b))] σ (nI (jm_isUsed B base b))) (F0 mi 12 ls []) := by
      intro n
      induction n with
      | zero =>
        intro k hi  ht ls hl
        refine lv_iload_n hx hb dd_M_isUsed_12 rfl (lv_at hl 0 rfl) ?_
        refine lv_iload_n hx hb dd_M_isUsed_13 rfl (lv_at hl 2 rfl) ?_
        refine lv_iconst (v := nI 4) hx hb dd_M_isUsed_14 (by decide) ?_
        refine jl_imul hx hb dd_M_isUsed_15 ?_
        refine lv_bipush (v := nI 48) hx hb dd_M_isUsed_16 (by decide) ?_
        refine jl_iadd hx hb dd_M_isUsed_18 ?_
        refine jl_ge (tgt := 40) hx hb (by omega) (by omega) dd_M_isUsed_19 (by decide) (fun c_2 => ?_) (fun c_2 => ?_)
        · skip
          refine lv_iconst (v := nI 0) hx hb dd_M_isUsed_40 (by decide) ?_
          exact jr_retz C (by decide) (by rw [← ht]; first | with_reducible rfl | (simp [jm_usedL, c_2]; done)) dd_M_isUsed_41
        · skip
          exact absurd c_2 (by omega)
      | succ n ih =>
        intro k hi  ht ls hl
        refine lv_iload_n hx hb dd_M_isUsed_12 rfl (lv_at hl 0 rfl) ?_
        refine lv_iload_n hx hb dd_M_isUsed_13 rfl (lv_at hl 2 rfl) ?_
        refine lv_iconst (v := nI 4) hx hb dd_M_isUsed_14 (by decide) ?_
        refine jl_imul hx hb dd_M_isUsed_15 ?_
        refine lv_bipush (v := nI 48) hx hb dd_M_isUsed_16 (by decide) ?_
        refine jl_iadd hx hb dd_M_isUsed_18 ?_
        refine jl_ge (tgt := 40) hx hb (by omega) (by omega) dd_M_isUsed_19 (by decide) (fun c_3 => ?_) (fun c_3 => ?_)
        · skip
          exact absurd c_3 (by omega)
        · skip
          refine lv_aload_n hx hb dd_M_isUsed_22 rfl (lv_at hl 1 rfl) ?_
          refine va_get (D := G) (ci := 4) (v := .ref qB) (C := cn_M) (T := ft_M) (N := 17) hx hb hts uw_M hown hK hP 0 rfl rfl 3 (by decide) (hts _ tw_596) (fun _ h9 => h9) rfl dd_M_isUsed_23 ?_
          refine lv_iload_n hx hb dd_M_isUsed_26 rfl (lv_at hl 0 rfl) ?_
          refine va_iald hx hb hK hP 4 3 rfl rfl (vp_in_nI (by omega) (by decide)) dd_M_isUsed_27 ?_
          refine jl_top (jn_at (B) (by omega)) ?_
          have hf_4 : B k < m := (by assumption : jlt m B) _
          refine lv_iload_n hx hb dd_M_isUsed_28 rfl (lv_at hl 3 rfl) ?_
          refine jl_ne (tgt := 34) hx hb (by omega) (by omega) dd_M_isUsed_29 (by decide) (fun c_5 => ?_) (fun c_5 => ?_)
          · skip
            refine jl_iinc (lv' := [(3, .int (nI (k + 1))), (0, .ref qM), (1, .int (nI (base))), (2, .int (nI (b)))]) hx hb dd_M_isUsed_34 hl (k := 0) rfl (by decide) rfl (fun ls hl => ?_)
            refine lv_goto (tgt := 12) hx hb dd_M_isUsed_37 (by decide) ?_
            exact ih (k + 1) (by omega) (by simpa [jm_usedL, c_3, c_5] using ht) ls (lv_sub hl [0, 1, 2, 3] rfl)
          · skip
            refine lv_iconst (v := nI 1) hx hb dd_M_isUsed_32 (by decide) ?_
            exact jr_retz C (by decide) (by rw [← ht]; first | with_reducible rfl | (simp [jm_usedL, c_3, c_5]; done)) dd_M_isUsed_33
    exact loop 48 (base * 4) (by omega) (by simp [jm_isUsed, c_1]) ls (lv_sub hl [0, 1, 2, 3] rfl)
  · skip
    refine lv_iconst (v := nI 1) hx hb dd_M_isUsed_6 (by decide) ?_
    exact jr_retz C (by decide) (by first | with_reducible rfl | (simp [jm_isUsed, c_1]; done) | (simp_all [jm_isUsed]; done)) dd_M_isUsed_7
set_option maxHeartbeats 4000000 in
set_option maxRecDepth 100000 in
theorem ct_M_freeBlocks (l : Launch) (G : va_G) (qM qK qZ qN qB qY qi qo qm qp : Nat) (c1 c2 c3 c4 c5 c6 c7 c8 c9 : ClassId) (K : Nat → Nat) (Z : Nat → Nat) (N : Nat → Nat) (B : Nat → Nat) (Y : Nat → Nat) (I : Nat → Nat) (O : Nat → Nat) (M : Nat → Nat) (P : Nat → Nat) (ct : Nat) (wr : Nat) (ofs : Nat) (th : Nat) (pa : Option Nat) (ey : Option Nat) (fo : Option Nat) (la : Nat)  (m : Nat) (hm0 : 9 ≤ m ∧ m < 10000) (hB : jlt m B) : jr l yn_M_freeBlocks (.code yn_M_freeBlocks cd_M_freeBlocks 3 (some .int)) { frames := 1, cells := 0, slots := 0, locals := 23 } G (tM c1 c2 c3 c4 c5 c6 c7 c8 c9) (wM qM qK qZ qN qB qY qi qo qm qp c1 c2 c3 c4 c5 c6 c7 c8 c9 K Z N B Y I O M P ct wr ofs th pa ey fo la) [.ref qM] (nI (jm_free B)) := by
  refine jr_of (by decide) (Nat.le_of_ble_eq_true rfl) ?_
  intro pr en σ mi bel met cd ls C hP hK hl
  have hx := C.1
  have hb := C.2.1
  have hown := C.2.2.2.1
  have hts := C.2.2.2.2.1
  have hl : lv_has ls 3 [(0, .ref qM)] := hl
  refine lv_iconst (v := nI 0) hx hb dd_M_freeBlocks_0 (by decide) ?_
  refine lv_istore_n (lv' := [(1, .int (nI (0))), (0, .ref qM)]) hx hb dd_M_freeBlocks_1 rfl hl (by decide) rfl (fun ls hl => ?_)
  refine lv_bipush (v := nI 9) hx hb dd_M_freeBlocks_2 (by decide) ?_
  refine lv_istore_n (lv' := [(2, .int (nI (9))), (1, .int (nI (0))), (0, .ref qM)]) hx hb dd_M_freeBlocks_4 rfl hl (by decide) rfl (fun ls hl => ?_)
  have loop : ∀ (n : Nat) (f : Nat) (b : Nat), (b + n = 40 ∧ f ≤ b) → jm_freeL B n b f = jm_free B → ∀ ls : Array Slot, lv_has ls 3 [(2, .int (nI (b))), (1, .int (nI (f))), (0, .ref qM)] → W pr l en { frames := 1, cells := 0, slots := 0, locals := 23 } σ mi ([.ref qM] : List Value).toArray bel met cd σ.heap [] 0 0 (jr_Q bel [.ref qM] σ (nI (jm_free B))) (F0 mi 5 ls []) := by
    intro n
    induction n with
    | zero =>
      intro f b hi  ht ls hl
      refine lv_iload_n hx hb dd_M_freeBlocks_5 rfl (lv_at hl 0 rfl) ?_
      refine lv_bipush (v := nI 40) hx hb dd_M_freeBlocks_6 (by decide) ?_
      refine jl_ge (tgt := 29) hx hb (by omega) (by omega) dd_M_freeBlocks_8 (by decide) (fun c_1 => ?_) (fun c_1 => ?_)
      · skip
        refine lv_iload_n hx hb dd_M_freeBlocks_29 rfl (lv_at hl 1 rfl) ?_
        exact jr_ret C (by rw [← ht]; first | with_reducible rfl | (simp [jm_freeL, c_1]; done)) dd_M_freeBlocks_30
      · skip
        exact absurd c_1 (by omega)
    | succ n ih =>
      intro f b hi  ht ls hl
      refine lv_iload_n hx hb dd_M_freeBlocks_5 rfl (lv_at hl 0 rfl) ?_
      refine lv_bipush (v := nI 40) hx hb dd_M_freeBlocks_6 (by decide) ?_
      refine jl_ge (tgt := 29) hx hb (by omega) (by omega) dd_M_freeBlocks_8 (by decide) (fun c_2 => ?_) (fun c_2 => ?_)
      · skip
        exact absurd c_2 (by omega)
      · skip
        refine lv_aload_n hx hb dd_M_freeBlocks_11 rfl (lv_at hl 2 rfl) ?_
        refine lv_iconst (v := nI 0) hx hb dd_M_freeBlocks_12 (by decide) ?_
        refine lv_iload_n hx hb dd_M_freeBlocks_13 rfl (lv_at hl 0 rfl) ?_
        refine jr_callV C (ct_M_isUsed l G qM qK qZ qN qB qY qi qo qm qp c1 c2 c3 c4 c5 c6 c7 c8 c9 K Z N B Y I O M P ct wr ofs th pa ey fo la 0 b m (by omega) (by omega) (by omega) (by assumption)) kl_M_41 ⟨Nat.le_of_ble_eq_true rfl, Nat.le_of_ble_eq_true rfl, rfl, rfl⟩ ⟨Nat.le_of_ble_eq_true rfl, Nat.le_of_ble_eq_true rfl⟩ (hP) (hK) (va_recv hK hP (ci := 4) (q0 := 0) rfl rfl) hl.1 rfl rfl (Nat.le_of_ble_eq_true rfl) dd_M_freeBlocks_14 ?_
        have hf_3 : jm_isUsed B 0 b < 2 := jm_isUsed_lt _ _ _
        refine jl_ifne (tgt := 23) hx hb (by omega) dd_M_freeBlocks_17 (by decide) (fun c_4 => ?_) (fun c_4 => ?_)
        · skip
          refine jl_iinc (lv' := [(2, .int (nI (b + 1))), (1, .int (nI (f))), (0, .ref qM)]) hx hb dd_M_freeBlocks_23 hl (k := 0) rfl (by decide) rfl (fun ls hl => ?_)
          refine lv_goto (tgt := 5) hx hb dd_M_freeBlocks_26 (by decide) ?_
          exact ih f (b + 1) (by omega) (by simpa [jm_freeL, c_2, c_4] using ht) ls (lv_sub hl [0, 1, 2] rfl)
        · skip
          refine jl_iinc (lv' := [(1, .int (nI (f + 1))), (2, .int (nI (b))), (0, .ref qM)]) hx hb dd_M_freeBlocks_20 hl (k := 1) rfl (by decide) rfl (fun ls hl => ?_)
          refine jl_iinc (lv' := [(2, .int (nI (b + 1))), (1, .int (nI (f + 1))), (0, .ref qM)]) hx hb dd_M_freeBlocks_23 hl (k := 1) rfl (by decide) rfl (fun ls hl => ?_)
          refine lv_goto (tgt := 5) hx hb dd_M_freeBlocks_26 (by decide) ?_
          exact ih (f + 1) (b + 1) (by omega) (by simpa [jm_freeL, c_2, c_4] using ht) ls (lv_sub hl [0, 1, 2] rfl)
  exact loop 31 0 9 (by omega) (rfl) ls (lv_sub hl [0, 1, 2] rfl)
set_option maxHeartbeats 4000000 in
set_option maxRecDepth 100000 in
theorem ct_M_needed (l : Launch) (G : va_G) (qM qK qZ qN qB qY qi qo qm qp : Nat) (c1 c2 c3 c4 c5 c6 c7 c8 c9 : ClassId) (K : Nat → Nat) (Z : Nat → Nat) (N : Nat → Nat) (B : Nat → Nat) (Y : Nat → Nat) (I : Nat → Nat) (O : Nat → Nat) (M : Nat → Nat) (P : Nat → Nat) (ct : Nat) (wr : Nat) (ofs : Nat) (th : Nat) (pa : Option Nat) (ey : Option Nat) (fo : Option Nat) (la : Nat) (z : Nat) (hz0 : z < 100000) : jr l yn_M_needed (.code yn_M_needed cd_M_needed 2 (some .int)) { frames := 0, cells := 0, slots := 0, locals := 0 } G (tM c1 c2 c3 c4 c5 c6 c7 c8 c9) (wM qM qK qZ qN qB qY qi qo qm qp c1 c2 c3 c4 c5 c6 c7 c8 c9 K Z N B Y I O M P ct wr ofs th pa ey fo la) [.ref qM, .int (nI (z))] (nI (jm_needed z)) := by
  refine jr_of (by decide) (Nat.le_of_ble_eq_true rfl) ?_
  intro pr en σ mi bel met cd ls C hP hK hl
  have hx := C.1
  have hb := C.2.1
  have hown := C.2.2.2.1
  have hts := C.2.2.2.2.1
  have hl : lv_has ls 2 [(0, .ref qM), (1, .int (nI (z)))] := hl
  refine lv_iload_n hx hb dd_M_needed_0 rfl (lv_at hl 1 rfl) ?_
  refine lv_bipush (v := nI 15) hx hb dd_M_needed_1 (by decide) ?_
  refine jl_iadd hx hb dd_M_needed_3 ?_
  refine lv_bipush (v := nI 16) hx hb dd_M_needed_4 (by decide) ?_
  refine jl_idiv hx hb (by omega) (by decide) (by decide) dd_M_needed_6 ?_
  exact jr_ret C (by first | with_reducible rfl | (simp [jm_needed]; done) | (simp_all [jm_needed]; done)) dd_M_needed_7
set_option maxHeartbeats 4000000 in
set_option maxRecDepth 100000 in
theorem ct_M_newInode (l : Launch) (G : va_G) (qM qK qZ qN qB qY qi qo qm qp : Nat) (c1 c2 c3 c4 c5 c6 c7 c8 c9 : ClassId) (K : Nat → Nat) (Z : Nat → Nat) (N : Nat → Nat) (B : Nat → Nat) (Y : Nat → Nat) (I : Nat → Nat) (O : Nat → Nat) (M : Nat → Nat) (P : Nat → Nat) (ct : Nat) (wr : Nat) (ofs : Nat) (th : Nat) (pa : Option Nat) (ey : Option Nat) (fo : Option Nat) (la : Nat)  (hK : jlt 3 K) : jr l yn_M_newInode (.code yn_M_newInode cd_M_newInode 2 (some .int)) { frames := 0, cells := 0, slots := 0, locals := 0 } G (tM c1 c2 c3 c4 c5 c6 c7 c8 c9) (wM qM qK qZ qN qB qY qi qo qm qp c1 c2 c3 c4 c5 c6 c7 c8 c9 K Z N B Y I O M P ct wr ofs th pa ey fo la) [.ref qM] (nI (jm_newInode K)) := by
  refine jr_of (by decide) (Nat.le_of_ble_eq_true rfl) ?_
  intro pr en σ mi bel met cd ls C hP hK hl
  have hx := C.1
  have hb := C.2.1
  have hown := C.2.2.2.1
  have hts := C.2.2.2.2.1
  have hl : lv_has ls 2 [(0, .ref qM)] := hl
  refine lv_iconst (v := nI 0) hx hb dd_M_newInode_0 (by decide) ?_
  refine lv_istore_n (lv' := [(1, .int (nI (0))), (0, .ref qM)]) hx hb dd_M_newInode_1 rfl hl (by decide) rfl (fun ls hl => ?_)
  have loop : ∀ (n : Nat) (i : Nat), (i + n = 12) → jm_niL K n i = jm_newInode K → ∀ ls : Array Slot, lv_has ls 2 [(1, .int (nI (i))), (0, .ref qM)] → W pr l en { frames := 0, cells := 0, slots := 0, locals := 0 } σ mi ([.ref qM] : List Value).toArray bel met cd σ.heap [] 0 0 (jr_Q bel [.ref qM] σ (nI (jm_newInode K))) (F0 mi 2 ls []) := by
    intro n
    induction n with
    | zero =>
      intro i hi  ht ls hl
      refine lv_iload_n hx hb dd_M_newInode_2 rfl (lv_at hl 0 rfl) ?_
      refine lv_bipush (v := nI 12) hx hb dd_M_newInode_3 (by decide) ?_
      refine jl_ge (tgt := 23) hx hb (by omega) (by omega) dd_M_newInode_5 (by decide) (fun c_1 => ?_) (fun c_1 => ?_)
      · skip
        refine lv_iload_n hx hb dd_M_newInode_23 rfl (lv_at hl 0 rfl) ?_
        exact jr_ret C (by rw [← ht]; first | with_reducible rfl | (simp [jm_niL, c_1]; done)) dd_M_newInode_24
      · skip
        exact absurd c_1 (by omega)
    | succ n ih =>
      intro i hi  ht ls hl
      refine lv_iload_n hx hb dd_M_newInode_2 rfl (lv_at hl 0 rfl) ?_
      refine lv_bipush (v := nI 12) hx hb dd_M_newInode_3 (by decide) ?_
      refine jl_ge (tgt := 23) hx hb (by omega) (by omega) dd_M_newInode_5 (by decide) (fun c_2 => ?_) (fun c_2 => ?_)
      · skip
        exact absurd c_2 (by omega)
      · skip
        refine lv_aload_n hx hb dd_M_newInode_8 rfl (lv_at hl 1 rfl) ?_
        refine va_get (D := G) (ci := 4) (v := .ref qK) (C := cn_M) (T := ft_M) (N := 17) hx hb hts uw_M hown hK hP 0 rfl rfl 0 (by decide) (hts _ tw_593) (fun _ h9 => h9) rfl dd_M_newInode_9 ?_
        refine lv_iload_n hx hb dd_M_newInode_12 rfl (lv_at hl 0 rfl) ?_
        refine va_iald hx hb hK hP 1 0 rfl rfl (vp_in_nI (by omega) (by decide)) dd_M_newInode_13 ?_
        refine jl_top (jn_at (K) (by omega)) ?_
        have hf_3 : K i < 3 := (by assumption : jlt 3 K) _
        refine jl_ifeq (tgt := 23) hx hb (by omega) dd_M_newInode_14 (by decide) (fun c_4 => ?_) (fun c_4 => ?_)
        · skip
          refine lv_iload_n hx hb dd_M_newInode_23 rfl (lv_at hl 0 rfl) ?_
          exact jr_ret C (by rw [← ht]; first | with_reducible rfl | (simp [jm_niL, c_2, c_4]; done)) dd_M_newInode_24
        · skip
          refine jl_iinc (lv' := [(1, .int (nI (i + 1))), (0, .ref qM)]) hx hb dd_M_newInode_17 hl (k := 0) rfl (by decide) rfl (fun ls hl => ?_)
          refine lv_goto (tgt := 2) hx hb dd_M_newInode_20 (by decide) ?_
          exact ih (i + 1) (by omega) (by simpa [jm_niL, c_2, c_4] using ht) ls (lv_sub hl [0, 1] rfl)
  exact loop 12 0 (by omega) (rfl) ls (lv_sub hl [0, 1] rfl)
set_option maxHeartbeats 4000000 in
set_option maxRecDepth 100000 in
theorem ct_M_roomFor (l : Launch) (G : va_G) (qM qK qZ qN qB qY qi qo qm qp : Nat) (c1 c2 c3 c4 c5 c6 c7 c8 c9 : ClassId) (K : Nat → Nat) (Z : Nat → Nat) (N : Nat → Nat) (B : Nat → Nat) (Y : Nat → Nat) (I : Nat → Nat) (O : Nat → Nat) (M : Nat → Nat) (P : Nat → Nat) (ct : Nat) (wr : Nat) (ofs : Nat) (th : Nat) (pa : Option Nat) (ey : Option Nat) (fo : Option Nat) (la : Nat) (i : Nat) (z : Nat) (m : Nat) (hi0 : i < 24) (hz0 : z < 100000) (hm0 : 9 ≤ m ∧ m < 10000) (hB : jlt m B) (hZ : jlt 65 Z) : jr l yn_M_roomFor (.code yn_M_roomFor cd_M_roomFor 3 (some .boolean)) { frames := 2, cells := 0, slots := 0, locals := 45 } G (tM c1 c2 c3 c4 c5 c6 c7 c8 c9) (wM qM qK qZ qN qB qY qi qo qm qp c1 c2 c3 c4 c5 c6 c7 c8 c9 K Z N B Y I O M P ct wr ofs th pa ey fo la) [.ref qM, .int (nI (i)), .int (nI (z))] (nI (jm_roomFor Z B i z)) := by
  refine jr_of (by decide) (Nat.le_of_ble_eq_true rfl) ?_
  intro pr en σ mi bel met cd ls C hP hK hl
  have hx := C.1
  have hb := C.2.1
  have hown := C.2.2.2.1
  have hts := C.2.2.2.2.1
  have hl : lv_has ls 3 [(0, .ref qM), (1, .int (nI (i))), (2, .int (nI (z)))] := hl
  refine lv_aload_n hx hb dd_M_roomFor_0 rfl (lv_at hl 0 rfl) ?_
  refine lv_iload_n hx hb dd_M_roomFor_1 rfl (lv_at hl 2 rfl) ?_
  refine jr_callV C (ct_M_needed l G qM qK qZ qN qB qY qi qo qm qp c1 c2 c3 c4 c5 c6 c7 c8 c9 K Z N B Y I O M P ct wr ofs th pa ey fo la z (by omega)) kl_M_45 ⟨Nat.le_of_ble_eq_true rfl, Nat.le_of_ble_eq_true rfl, rfl, rfl⟩ ⟨Nat.le_of_ble_eq_true rfl, Nat.le_of_ble_eq_true rfl⟩ (hP) (hK) (va_recv hK hP (ci := 4) (q0 := 0) rfl rfl) hl.1 rfl rfl (Nat.le_of_ble_eq_true rfl) dd_M_roomFor_2 ?_
  have hf_1 : jm_needed z * 16 ≤ z + 15 := jm_needed_le _
  refine lv_aload_n hx hb dd_M_roomFor_5 rfl (lv_at hl 0 rfl) ?_
  refine lv_aload_n hx hb dd_M_roomFor_6 rfl (lv_at hl 0 rfl) ?_
  refine va_get (D := G) (ci := 4) (v := .ref qZ) (C := cn_M) (T := ft_M) (N := 17) hx hb hts uw_M hown hK hP 0 rfl rfl 1 (by decide) (hts _ tw_594) (fun _ h9 => h9) rfl dd_M_roomFor_7 ?_
  refine lv_iload_n hx hb dd_M_roomFor_10 rfl (lv_at hl 1 rfl) ?_
  refine va_iald hx hb hK hP 2 1 rfl rfl (vp_in_nI (by omega) (by decide)) dd_M_roomFor_11 ?_
  refine jl_top (jn_at (Z) (by omega)) ?_
  have hf_2 : Z i < 65 := (by assumption : jlt 65 Z) _
  refine jr_callV C (ct_M_needed l G qM qK qZ qN qB qY qi qo qm qp c1 c2 c3 c4 c5 c6 c7 c8 c9 K Z N B Y I O M P ct wr ofs th pa ey fo la (Z i) (by omega)) kl_M_45 ⟨Nat.le_of_ble_eq_true rfl, Nat.le_of_ble_eq_true rfl, rfl, rfl⟩ ⟨Nat.le_of_ble_eq_true rfl, Nat.le_of_ble_eq_true rfl⟩ (hP) (hK) (va_recv hK hP (ci := 4) (q0 := 0) rfl rfl) hl.1 rfl rfl (Nat.le_of_ble_eq_true rfl) dd_M_roomFor_12 ?_
  have hf_3 : jm_needed (Z i) * 16 ≤ (Z i) + 15 := jm_needed_le _
  refine lv_isub hx hb dd_M_roomFor_15 ?_
  refine lv_aload_n hx hb dd_M_roomFor_16 rfl (lv_at hl 0 rfl) ?_
  refine jr_callV C (ct_M_freeBlocks l G qM qK qZ qN qB qY qi qo qm qp c1 c2 c3 c4 c5 c6 c7 c8 c9 K Z N B Y I O M P ct wr ofs th pa ey fo la  m (by omega) (by assumption)) kl_M_49 ⟨Nat.le_of_ble_eq_true rfl, Nat.le_of_ble_eq_true rfl, rfl, rfl⟩ ⟨Nat.le_of_ble_eq_true rfl, Nat.le_of_ble_eq_true rfl⟩ (hP) (hK) (va_recv hK hP (ci := 4) (q0 := 0) rfl rfl) hl.1 rfl rfl (Nat.le_of_ble_eq_true rfl) dd_M_roomFor_17 ?_
  have hf_4 : jm_free B < 32 := jm_free_lt _
  refine jl_gtD (tgt := 27) hx hb (by omega) (by omega) (by omega) dd_M_roomFor_20 (by decide) (fun c_5 => ?_) (fun c_5 => ?_)
  · skip
    refine lv_iconst (v := nI 0) hx hb dd_M_roomFor_27 (by decide) ?_
    exact jr_retz C (by decide) (by first | with_reducible rfl | (simp [jm_roomFor, c_5]; done) | (simp_all [jm_roomFor]; done)) dd_M_roomFor_28
  · skip
    refine lv_iconst (v := nI 1) hx hb dd_M_roomFor_23 (by decide) ?_
    refine lv_goto (tgt := 28) hx hb dd_M_roomFor_24 (by decide) ?_
    exact jr_retz C (by decide) (by first | with_reducible rfl | (simp [jm_roomFor, c_5]; done) | (simp_all [jm_roomFor]; done)) dd_M_roomFor_28
set_option maxHeartbeats 4000000 in
set_option maxRecDepth 100000 in
theorem ct_M_entryOf (l : Launch) (G : va_G) (qM qK qZ qN qB qY qi qo qm qp : Nat) (c1 c2 c3 c4 c5 c6 c7 c8 c9 : ClassId) (K : Nat → Nat) (Z : Nat → Nat) (N : Nat → Nat) (B : Nat → Nat) (Y : Nat → Nat) (I : Nat → Nat) (O : Nat → Nat) (M : Nat → Nat) (P : Nat → Nat) (ct : Nat) (wr : Nat) (ofs : Nat) (th : Nat) (pa : Option Nat) (ey : Option Nat) (fo : Option Nat) (la : Nat) (d : Nat) (nm : Nat) (hd0 : d < 12) (hn0 : nm < 256) (hZ : jlt 65 Z) (hY : jlt 256 Y) : jr l yn_M_entryOf (.code yn_M_entryOf cd_M_entryOf 4 (some .int)) { frames := 0, cells := 0, slots := 0, locals := 0 } G (tM c1 c2 c3 c4 c5 c6 c7 c8 c9) (wM qM qK qZ qN qB qY qi qo qm qp c1 c2 c3 c4 c5 c6 c7 c8 c9 K Z N B Y I O M P ct wr ofs th pa ey fo la) [.ref qM, .int (nI (d)), .int (nI (nm))] (jo (jm_entryOf Z Y d nm)) := by
  refine jr_of (by decide) (Nat.le_of_ble_eq_true rfl) ?_
  intro pr en σ mi bel met cd ls C hP hK hl
  have hx := C.1
  have hb := C.2.1
  have hown := C.2.2.2.1
  have hts := C.2.2.2.2.1
  have hl : lv_has ls 4 [(0, .ref qM), (1, .int (nI (d))), (2, .int (nI (nm)))] := hl
  refine lv_iconst (v := nI 0) hx hb dd_M_entryOf_0 (by decide) ?_
  refine lv_istore_n (lv' := [(3, .int (nI (0))), (0, .ref qM), (1, .int (nI (d))), (2, .int (nI (nm)))]) hx hb dd_M_entryOf_1 rfl hl (by decide) rfl (fun ls hl => ?_)
  have loop : ∀ (n : Nat) (e : Nat), (e + n = Z d / 2) → jm_eoL Y d nm n e = jm_entryOf Z Y d nm → ∀ ls : Array Slot, lv_has ls 4 [(3, .int (nI (e))), (0, .ref qM), (1, .int (nI (d))), (2, .int (nI (nm)))] → W pr l en { frames := 0, cells := 0, slots := 0, locals := 0 } σ mi ([.ref qM, .int (nI (d)), .int (nI (nm))] : List Value).toArray bel met cd σ.heap [] 0 0 (jr_Q bel [.ref qM, .int (nI (d)), .int (nI (nm))] σ (jo (jm_entryOf Z Y d nm))) (F0 mi 2 ls []) := by
    intro n
    induction n with
    | zero =>
      intro e hi  ht ls hl
      refine lv_iload_n hx hb dd_M_entryOf_2 rfl (lv_at hl 0 rfl) ?_
      refine lv_aload_n hx hb dd_M_entryOf_3 rfl (lv_at hl 1 rfl) ?_
      refine va_get (D := G) (ci := 4) (v := .ref qZ) (C := cn_M) (T := ft_M) (N := 17) hx hb hts uw_M hown hK hP 0 rfl rfl 1 (by decide) (hts _ tw_594) (fun _ h9 => h9) rfl dd_M_entryOf_4 ?_
      refine lv_iload_n hx hb dd_M_entryOf_7 rfl (lv_at hl 2 rfl) ?_
      refine va_iald hx hb hK hP 2 1 rfl rfl (vp_in_nI (by omega) (by decide)) dd_M_entryOf_8 ?_
      refine jl_top (jn_at (Z) (by omega)) ?_
      have hf_1 : Z d < 65 := (by assumption : jlt 65 Z) _
      refine lv_iconst (v := nI 2) hx hb dd_M_entryOf_9 (by decide) ?_
      refine jl_idiv hx hb (by omega) (by decide) (by decide) dd_M_entryOf_10 ?_
      refine jl_ge (tgt := 39) hx hb (by omega) (by omega) dd_M_entryOf_11 (by decide) (fun c_2 => ?_) (fun c_2 => ?_)
      · skip
        refine lv_iconst (v := -1) hx hb dd_M_entryOf_39 (by decide) ?_
        exact jr_ret C (by rw [← ht]; first | with_reducible rfl | (simp [jm_eoL, jo, c_2]; done)) dd_M_entryOf_40
      · skip
        exact absurd c_2 (by omega)
    | succ n ih =>
      intro e hi  ht ls hl
      refine lv_iload_n hx hb dd_M_entryOf_2 rfl (lv_at hl 0 rfl) ?_
      refine lv_aload_n hx hb dd_M_entryOf_3 rfl (lv_at hl 1 rfl) ?_
      refine va_get (D := G) (ci := 4) (v := .ref qZ) (C := cn_M) (T := ft_M) (N := 17) hx hb hts uw_M hown hK hP 0 rfl rfl 1 (by decide) (hts _ tw_594) (fun _ h9 => h9) rfl dd_M_entryOf_4 ?_
      refine lv_iload_n hx hb dd_M_entryOf_7 rfl (lv_at hl 2 rfl) ?_
      refine va_iald hx hb hK hP 2 1 rfl rfl (vp_in_nI (by omega) (by decide)) dd_M_entryOf_8 ?_
      refine jl_top (jn_at (Z) (by omega)) ?_
      have hf_3 : Z d < 65 := (by assumption : jlt 65 Z) _
      refine lv_iconst (v := nI 2) hx hb dd_M_entryOf_9 (by decide) ?_
      refine jl_idiv hx hb (by omega) (by decide) (by decide) dd_M_entryOf_10 ?_
      refine jl_ge (tgt := 39) hx hb (by omega) (by omega) dd_M_entryOf_11 (by decide) (fun c_4 => ?_) (fun c_4 => ?_)
      · skip
        exact absurd c_4 (by omega)
      · skip
        refine lv_aload_n hx hb dd_M_entryOf_14 rfl (lv_at hl 1 rfl) ?_
        refine va_get (D := G) (ci := 4) (v := .ref qY) (C := cn_M) (T := ft_M) (N := 17) hx hb hts uw_M hown hK hP 0 rfl rfl 4 (by decide) (hts _ tw_597) (fun _ h9 => h9) rfl dd_M_entryOf_15 ?_
        refine lv_iload_n hx hb dd_M_entryOf_18 rfl (lv_at hl 2 rfl) ?_
        refine lv_bipush (v := nI 64) hx hb dd_M_entryOf_19 (by decide) ?_
        refine jl_imul hx hb dd_M_entryOf_21 ?_
        refine lv_iload_n hx hb dd_M_entryOf_22 rfl (lv_at hl 0 rfl) ?_
        refine lv_iconst (v := nI 2) hx hb dd_M_entryOf_23 (by decide) ?_
        refine jl_imul hx hb dd_M_entryOf_24 ?_
        refine jl_iadd hx hb dd_M_entryOf_25 ?_
        refine va_iald hx hb hK hP 5 4 rfl rfl (vp_in_nI (by omega) (by decide)) dd_M_entryOf_26 ?_
        refine jl_top (jn_at (Y) (by omega)) ?_
        have hf_5 : Y ((d * 64) + (e * 2)) < 256 := (by assumption : jlt 256 Y) _
        refine lv_iload_n hx hb dd_M_entryOf_27 rfl (lv_at hl 3 rfl) ?_
        refine jl_ne (tgt := 33) hx hb (by omega) (by omega) dd_M_entryOf_28 (by decide) (fun c_6 => ?_) (fun c_6 => ?_)
        · skip
          refine jl_iinc (lv' := [(3, .int (nI (e + 1))), (0, .ref qM), (1, .int (nI (d))), (2, .int (nI (nm)))]) hx hb dd_M_entryOf_33 hl (k := 0) rfl (by decide) rfl (fun ls hl => ?_)
          refine lv_goto (tgt := 2) hx hb dd_M_entryOf_36 (by decide) ?_
          exact ih (e + 1) (by omega) (by simpa [jm_eoL, jo, c_4, c_6] using ht) ls (lv_sub hl [0, 1, 2, 3] rfl)
        · skip
          refine lv_iload_n hx hb dd_M_entryOf_31 rfl (lv_at hl 0 rfl) ?_
          exact jr_ret C (by rw [← ht]; first | with_reducible rfl | (simp [jm_eoL, jo, c_4, c_6]; done)) dd_M_entryOf_32
  exact loop (Z d / 2) 0 (by omega) (rfl) ls (lv_sub hl [0, 1, 2, 3] rfl)
set_option maxHeartbeats 4000000 in
set_option maxRecDepth 100000 in
theorem ct_M_entryRoom (l : Launch) (G : va_G) (qM qK qZ qN qB qY qi qo qm qp : Nat) (c1 c2 c3 c4 c5 c6 c7 c8 c9 : ClassId) (K : Nat → Nat) (Z : Nat → Nat) (N : Nat → Nat) (B : Nat → Nat) (Y : Nat → Nat) (I : Nat → Nat) (O : Nat → Nat) (M : Nat → Nat) (P : Nat → Nat) (ct : Nat) (wr : Nat) (ofs : Nat) (th : Nat) (pa : Option Nat) (ey : Option Nat) (fo : Option Nat) (la : Nat) (d : Nat) (more : Nat) (m : Nat) (hd0 : d < 12) (hmo : more < 1000) (hm0 : 9 ≤ m ∧ m < 10000) (hB : jlt m B) (hZ : jlt 65 Z) : jr l yn_M_entryRoom (.code yn_M_entryRoom cd_M_entryRoom 3 (some .boolean)) { frames := 2, cells := 0, slots := 0, locals := 45 } G (tM c1 c2 c3 c4 c5 c6 c7 c8 c9) (wM qM qK qZ qN qB qY qi qo qm qp c1 c2 c3 c4 c5 c6 c7 c8 c9 K Z N B Y I O M P ct wr ofs th pa ey fo la) [.ref qM, .int (nI (d)), .int (nI (more))] (nI (jm_entryRoom Z B d more)) := by
  refine jr_of (by decide) (Nat.le_of_ble_eq_true rfl) ?_
  intro pr en σ mi bel met cd ls C hP hK hl
  have hx := C.1
  have hb := C.2.1
  have hown := C.2.2.2.1
  have hts := C.2.2.2.2.1
  have hl : lv_has ls 3 [(0, .ref qM), (1, .int (nI (d))), (2, .int (nI (more)))] := hl
  refine lv_aload_n hx hb dd_M_entryRoom_0 rfl (lv_at hl 0 rfl) ?_
  refine va_get (D := G) (ci := 4) (v := .ref qZ) (C := cn_M) (T := ft_M) (N := 17) hx hb hts uw_M hown hK hP 0 rfl rfl 1 (by decide) (hts _ tw_594) (fun _ h9 => h9) rfl dd_M_entryRoom_1 ?_
  refine lv_iload_n hx hb dd_M_entryRoom_4 rfl (lv_at hl 1 rfl) ?_
  refine va_iald hx hb hK hP 2 1 rfl rfl (vp_in_nI (by omega) (by decide)) dd_M_entryRoom_5 ?_
  refine jl_top (jn_at (Z) (by omega)) ?_
  have hf_1 : Z d < 65 := (by assumption : jlt 65 Z) _
  refine lv_bipush (v := nI 32) hx hb dd_M_entryRoom_6 (by decide) ?_
  refine jl_ge (tgt := 47) hx hb (by omega) (by omega) dd_M_entryRoom_8 (by decide) (fun c_2 => ?_) (fun c_2 => ?_)
  · skip
    refine lv_iconst (v := nI 0) hx hb dd_M_entryRoom_47 (by decide) ?_
    exact jr_retz C (by decide) (by first | with_reducible rfl | (simp [jm_entryRoom, c_2]; done) | (simp_all [jm_entryRoom]; done)) dd_M_entryRoom_48
  · skip
    refine lv_aload_n hx hb dd_M_entryRoom_11 rfl (lv_at hl 0 rfl) ?_
    refine lv_aload_n hx hb dd_M_entryRoom_12 rfl (lv_at hl 0 rfl) ?_
    refine va_get (D := G) (ci := 4) (v := .ref qZ) (C := cn_M) (T := ft_M) (N := 17) hx hb hts uw_M hown hK hP 0 rfl rfl 1 (by decide) (hts _ tw_594) (fun _ h9 => h9) rfl dd_M_entryRoom_13 ?_
    refine lv_iload_n hx hb dd_M_entryRoom_16 rfl (lv_at hl 1 rfl) ?_
    refine va_iald hx hb hK hP 2 1 rfl rfl (vp_in_nI (by omega) (by decide)) dd_M_entryRoom_17 ?_
    refine jl_top (jn_at (Z) (by omega)) ?_
    have hf_3 : Z d < 65 := (by assumption : jlt 65 Z) _
    refine lv_iconst (v := nI 2) hx hb dd_M_entryRoom_18 (by decide) ?_
    refine jl_iadd hx hb dd_M_entryRoom_19 ?_
    refine jr_callV C (ct_M_needed l G qM qK qZ qN qB qY qi qo qm qp c1 c2 c3 c4 c5 c6 c7 c8 c9 K Z N B Y I O M P ct wr ofs th pa ey fo la ((Z d) + 2) (by omega)) kl_M_45 ⟨Nat.le_of_ble_eq_true rfl, Nat.le_of_ble_eq_true rfl, rfl, rfl⟩ ⟨Nat.le_of_ble_eq_true rfl, Nat.le_of_ble_eq_true rfl⟩ (hP) (hK) (va_recv hK hP (ci := 4) (q0 := 0) rfl rfl) hl.1 rfl rfl (Nat.le_of_ble_eq_true rfl) dd_M_entryRoom_20 ?_
    have hf_4 : jm_needed ((Z d) + 2) * 16 ≤ ((Z d) + 2) + 15 := jm_needed_le _
    refine lv_aload_n hx hb dd_M_entryRoom_23 rfl (lv_at hl 0 rfl) ?_
    refine lv_aload_n hx hb dd_M_entryRoom_24 rfl (lv_at hl 0 rfl) ?_
    refine va_get (D := G) (ci := 4) (v := .ref qZ) (C := cn_M) (T := ft_M) (N := 17) hx hb hts uw_M hown hK hP 0 rfl rfl 1 (by decide) (hts _ tw_594) (fun _ h9 => h9) rfl dd_M_entryRoom_25 ?_
    refine lv_iload_n hx hb dd_M_entryRoom_28 rfl (lv_at hl 1 rfl) ?_
    refine va_iald hx hb hK hP 2 1 rfl rfl (vp_in_nI (by omega) (by decide)) dd_M_entryRoom_29 ?_
    refine jl_top (jn_at (Z) (by omega)) ?_
    have hf_5 : Z d < 65 := (by assumption : jlt 65 Z) _
    refine jr_callV C (ct_M_needed l G qM qK qZ qN qB qY qi qo qm qp c1 c2 c3 c4 c5 c6 c7 c8 c9 K Z N B Y I O M P ct wr ofs th pa ey fo la (Z d) (by omega)) kl_M_45 ⟨Nat.le_of_ble_eq_true rfl, Nat.le_of_ble_eq_true rfl, rfl, rfl⟩ ⟨Nat.le_of_ble_eq_true rfl, Nat.le_of_ble_eq_true rfl⟩ (hP) (hK) (va_recv hK hP (ci := 4) (q0 := 0) rfl rfl) hl.1 rfl rfl (Nat.le_of_ble_eq_true rfl) dd_M_entryRoom_30 ?_
    have hf_6 : jm_needed (Z d) * 16 ≤ (Z d) + 15 := jm_needed_le _
    refine lv_isub hx hb dd_M_entryRoom_33 ?_
    refine lv_aload_n hx hb dd_M_entryRoom_34 rfl (lv_at hl 0 rfl) ?_
    refine jr_callV C (ct_M_freeBlocks l G qM qK qZ qN qB qY qi qo qm qp c1 c2 c3 c4 c5 c6 c7 c8 c9 K Z N B Y I O M P ct wr ofs th pa ey fo la  m (by omega) (by assumption)) kl_M_49 ⟨Nat.le_of_ble_eq_true rfl, Nat.le_of_ble_eq_true rfl, rfl, rfl⟩ ⟨Nat.le_of_ble_eq_true rfl, Nat.le_of_ble_eq_true rfl⟩ (hP) (hK) (va_recv hK hP (ci := 4) (q0 := 0) rfl rfl) hl.1 rfl rfl (Nat.le_of_ble_eq_true rfl) dd_M_entryRoom_35 ?_
    have hf_7 : jm_free B < 32 := jm_free_lt _
    refine lv_iload_n hx hb dd_M_entryRoom_38 rfl (lv_at hl 2 rfl) ?_
    refine jl_iadd hx hb dd_M_entryRoom_39 ?_
    refine jl_gtD (tgt := 47) hx hb (by omega) (by omega) (by omega) dd_M_entryRoom_40 (by decide) (fun c_8 => ?_) (fun c_8 => ?_)
    · skip
      refine lv_iconst (v := nI 0) hx hb dd_M_entryRoom_47 (by decide) ?_
      exact jr_retz C (by decide) (by first | with_reducible rfl | (simp [jm_entryRoom, c_2, c_8]; done) | (simp_all [jm_entryRoom]; done)) dd_M_entryRoom_48
    · skip
      refine lv_iconst (v := nI 1) hx hb dd_M_entryRoom_43 (by decide) ?_
      refine lv_goto (tgt := 48) hx hb dd_M_entryRoom_44 (by decide) ?_
      exact jr_retz C (by decide) (by first | with_reducible rfl | (simp [jm_entryRoom, c_2, c_8]; done) | (simp_all [jm_entryRoom]; done)) dd_M_entryRoom_48
set_option maxHeartbeats 4000000 in
set_option maxRecDepth 100000 in
theorem ct_M_closedHandle (l : Launch) (G : va_G) (qM qK qZ qN qB qY qi qo qm qp : Nat) (c1 c2 c3 c4 c5 c6 c7 c8 c9 : ClassId) (K : Nat → Nat) (Z : Nat → Nat) (N : Nat → Nat) (B : Nat → Nat) (Y : Nat → Nat) (I : Nat → Nat) (O : Nat → Nat) (M : Nat → Nat) (P : Nat → Nat) (ct : Nat) (wr : Nat) (ofs : Nat) (th : Nat) (pa : Option Nat) (ey : Option Nat) (fo : Option Nat) (la : Nat)  (hI : jlt 13 I) : jr l yn_M_closedHandle (.code yn_M_closedHandle cd_M_closedHandle 2 (some .int)) { frames := 0, cells := 0, slots := 0, locals := 0 } G (tM c1 c2 c3 c4 c5 c6 c7 c8 c9) (wM qM qK qZ qN qB qY qi qo qm qp c1 c2 c3 c4 c5 c6 c7 c8 c9 K Z N B Y I O M P ct wr ofs th pa ey fo la) [.ref qM] (nI (jm_closedHandle I)) := by
  refine jr_of (by decide) (Nat.le_of_ble_eq_true rfl) ?_
  intro pr en σ mi bel met cd ls C hP hK hl
  have hx := C.1
  have hb := C.2.1
  have hown := C.2.2.2.1
  have hts := C.2.2.2.2.1
  have hl : lv_has ls 2 [(0, .ref qM)] := hl
  refine lv_iconst (v := nI 0) hx hb dd_M_closedHandle_0 (by decide) ?_
  refine lv_istore_n (lv' := [(1, .int (nI (0))), (0, .ref qM)]) hx hb dd_M_closedHandle_1 rfl hl (by decide) rfl (fun ls hl => ?_)
  have loop : ∀ (n : Nat) (h : Nat), (h + n = 6) → jm_chL I n h = jm_closedHandle I → ∀ ls : Array Slot, lv_has ls 2 [(1, .int (nI (h))), (0, .ref qM)] → W pr l en { frames := 0, cells := 0, slots := 0, locals := 0 } σ mi ([.ref qM] : List Value).toArray bel met cd σ.heap [] 0 0 (jr_Q bel [.ref qM] σ (nI (jm_closedHandle I))) (F0 mi 2 ls []) := by
    intro n
    induction n with
    | zero =>
      intro h hi  ht ls hl
      refine lv_iload_n hx hb dd_M_closedHandle_2 rfl (lv_at hl 0 rfl) ?_
      refine lv_bipush (v := nI 6) hx hb dd_M_closedHandle_3 (by decide) ?_
      refine jl_ge (tgt := 23) hx hb (by omega) (by omega) dd_M_closedHandle_5 (by decide) (fun c_1 => ?_) (fun c_1 => ?_)
      · skip
        refine lv_iload_n hx hb dd_M_closedHandle_23 rfl (lv_at hl 0 rfl) ?_
        exact jr_ret C (by rw [← ht]; first | with_reducible rfl | (simp [jm_chL, c_1]; done)) dd_M_closedHandle_24
      · skip
        exact absurd c_1 (by omega)
    | succ n ih =>
      intro h hi  ht ls hl
      refine lv_iload_n hx hb dd_M_closedHandle_2 rfl (lv_at hl 0 rfl) ?_
      refine lv_bipush (v := nI 6) hx hb dd_M_closedHandle_3 (by decide) ?_
      refine jl_ge (tgt := 23) hx hb (by omega) (by omega) dd_M_closedHandle_5 (by decide) (fun c_2 => ?_) (fun c_2 => ?_)
      · skip
        exact absurd c_2 (by omega)
      · skip
        refine lv_aload_n hx hb dd_M_closedHandle_8 rfl (lv_at hl 1 rfl) ?_
        refine va_get (D := G) (ci := 4) (v := .ref qi) (C := cn_M) (T := ft_M) (N := 17) hx hb hts uw_M hown hK hP 0 rfl rfl 5 (by decide) (hts _ tw_598) (fun _ h9 => h9) rfl dd_M_closedHandle_9 ?_
        refine lv_iload_n hx hb dd_M_closedHandle_12 rfl (lv_at hl 0 rfl) ?_
        refine va_iald hx hb hK hP 6 5 rfl rfl (vp_in_nI (by omega) (by decide)) dd_M_closedHandle_13 ?_
        refine jl_top (jn_at (I) (by omega)) ?_
        have hf_3 : I h < 13 := (by assumption : jlt 13 I) _
        refine jl_ifeq (tgt := 23) hx hb (by omega) dd_M_closedHandle_14 (by decide) (fun c_4 => ?_) (fun c_4 => ?_)
        · skip
          refine lv_iload_n hx hb dd_M_closedHandle_23 rfl (lv_at hl 0 rfl) ?_
          exact jr_ret C (by rw [← ht]; first | with_reducible rfl | (simp [jm_chL, c_2, c_4]; done)) dd_M_closedHandle_24
        · skip
          refine jl_iinc (lv' := [(1, .int (nI (h + 1))), (0, .ref qM)]) hx hb dd_M_closedHandle_17 hl (k := 0) rfl (by decide) rfl (fun ls hl => ?_)
          refine lv_goto (tgt := 2) hx hb dd_M_closedHandle_20 (by decide) ?_
          exact ih (h + 1) (by omega) (by simpa [jm_chL, c_2, c_4] using ht) ls (lv_sub hl [0, 1] rfl)
  exact loop 6 0 (by omega) (rfl) ls (lv_sub hl [0, 1] rfl)
