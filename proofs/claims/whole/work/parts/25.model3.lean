set_option maxHeartbeats 4000000 in
set_option maxRecDepth 100000 in
theorem ct_M_mapByte (l : Launch) (G : va_G) (qM qK qZ qN qB qY qi qo qm qp : Nat) (c1 c2 c3 c4 c5 c6 c7 c8 c9 : ClassId) (K : Nat → Nat) (Z : Nat → Nat) (N : Nat → Nat) (B : Nat → Nat) (Y : Nat → Nat) (I : Nat → Nat) (O : Nat → Nat) (M : Nat → Nat) (P : Nat → Nat) (ct : Nat) (wr : Nat) (ofs : Nat) (th : Nat) (pa : Option Nat) (ey : Option Nat) (fo : Option Nat) (la : Nat) (base : Nat) (i : Nat) (m : Nat) (hba : base ≤ 12) (hi0 : i < 5) (hm0 : 9 ≤ m ∧ m < 10000) (hB : jlt m B) : jr l yn_M_mapByte (.code yn_M_mapByte cd_M_mapByte 5 (some .int)) { frames := 1, cells := 0, slots := 0, locals := 23 } G (tM c1 c2 c3 c4 c5 c6 c7 c8 c9) (wM qM qK qZ qN qB qY qi qo qm qp c1 c2 c3 c4 c5 c6 c7 c8 c9 K Z N B Y I O M P ct wr ofs th pa ey fo la) [.ref qM, .int (nI (base)), .int (nI (i))] (nI (jm_mapByte B base i)) := by
  refine jr_of (by decide) (Nat.le_of_ble_eq_true rfl) ?_
  intro pr en σ mi bel met cd ls C hP hK hl
  have hx := C.1
  have hb := C.2.1
  have hown := C.2.2.2.1
  have hts := C.2.2.2.2.1
  have hl : lv_has ls 5 [(0, .ref qM), (1, .int (nI (base))), (2, .int (nI (i)))] := hl
  refine lv_iconst (v := nI 0) hx hb dd_M_mapByte_0 (by decide) ?_
  refine lv_istore_n (lv' := [(3, .int (nI (0))), (0, .ref qM), (1, .int (nI (base))), (2, .int (nI (i)))]) hx hb dd_M_mapByte_1 rfl hl (by decide) rfl (fun ls hl => ?_)
  refine lv_iload_n hx hb dd_M_mapByte_2 rfl (lv_at hl 3 rfl) ?_
  refine lv_bipush (v := nI 8) hx hb dd_M_mapByte_3 (by decide) ?_
  refine jl_imul hx hb dd_M_mapByte_5 ?_
  refine lv_istore (lv' := [(4, .int (nI (i * 8))), (3, .int (nI (0))), (0, .ref qM), (1, .int (nI (base))), (2, .int (nI (i)))]) hx hb dd_M_mapByte_6 hl (by decide) rfl (fun ls hl => ?_)
  have loop : ∀ (n : Nat) (v : Nat) (b : Nat), (b + n = i * 8 + 8 ∧ v < 256) → jm_mapL B base n b v = jm_mapByte B base i → ∀ ls : Array Slot, lv_has ls 5 [(4, .int (nI (b))), (3, .int (nI (v))), (0, .ref qM), (1, .int (nI (base))), (2, .int (nI (i)))] → W pr l en { frames := 1, cells := 0, slots := 0, locals := 23 } σ mi ([.ref qM, .int (nI (base)), .int (nI (i))] : List Value).toArray bel met cd σ.heap [] 0 0 (jr_Q bel [.ref qM, .int (nI (base)), .int (nI (i))] σ (nI (jm_mapByte B base i))) (F0 mi 8 ls []) := by
    intro n
    induction n with
    | zero =>
      intro v b hi  ht ls hl
      refine lv_iload hx hb dd_M_mapByte_8 (lv_at hl 0 rfl) ?_
      refine lv_iload_n hx hb dd_M_mapByte_10 rfl (lv_at hl 4 rfl) ?_
      refine lv_bipush (v := nI 8) hx hb dd_M_mapByte_11 (by decide) ?_
      refine jl_imul hx hb dd_M_mapByte_13 ?_
      refine lv_bipush (v := nI 8) hx hb dd_M_mapByte_14 (by decide) ?_
      refine jl_iadd hx hb dd_M_mapByte_16 ?_
      refine jl_ge (tgt := 53) hx hb (by omega) (by omega) dd_M_mapByte_17 (by decide) (fun c_1 => ?_) (fun c_1 => ?_)
      · skip
        refine lv_iload_n hx hb dd_M_mapByte_53 rfl (lv_at hl 1 rfl) ?_
        exact jr_ret C (by rw [← ht]; first | with_reducible rfl | (simp [jm_mapL, c_1]; done)) dd_M_mapByte_54
      · skip
        exact absurd c_1 (by omega)
    | succ n ih =>
      intro v b hi  ht ls hl
      refine lv_iload hx hb dd_M_mapByte_8 (lv_at hl 0 rfl) ?_
      refine lv_iload_n hx hb dd_M_mapByte_10 rfl (lv_at hl 4 rfl) ?_
      refine lv_bipush (v := nI 8) hx hb dd_M_mapByte_11 (by decide) ?_
      refine jl_imul hx hb dd_M_mapByte_13 ?_
      refine lv_bipush (v := nI 8) hx hb dd_M_mapByte_14 (by decide) ?_
      refine jl_iadd hx hb dd_M_mapByte_16 ?_
      refine jl_ge (tgt := 53) hx hb (by omega) (by omega) dd_M_mapByte_17 (by decide) (fun c_2 => ?_) (fun c_2 => ?_)
      · skip
        exact absurd c_2 (by omega)
      · skip
        refine lv_iload hx hb dd_M_mapByte_20 (lv_at hl 0 rfl) ?_
        refine lv_bipush (v := nI 40) hx hb dd_M_mapByte_22 (by decide) ?_
        refine jl_ge (tgt := 53) hx hb (by omega) (by omega) dd_M_mapByte_24 (by decide) (fun c_3 => ?_) (fun c_3 => ?_)
        · skip
          exact absurd c_3 (by omega)
        · skip
          refine lv_aload_n hx hb dd_M_mapByte_27 rfl (lv_at hl 2 rfl) ?_
          refine lv_iload_n hx hb dd_M_mapByte_28 rfl (lv_at hl 3 rfl) ?_
          refine lv_iload hx hb dd_M_mapByte_29 (lv_at hl 0 rfl) ?_
          refine jr_callV C (ct_M_isUsed l G qM qK qZ qN qB qY qi qo qm qp c1 c2 c3 c4 c5 c6 c7 c8 c9 K Z N B Y I O M P ct wr ofs th pa ey fo la base b m (by omega) (by omega) (by omega) (by assumption)) kl_M_41 ⟨Nat.le_of_ble_eq_true rfl, Nat.le_of_ble_eq_true rfl, rfl, rfl⟩ ⟨Nat.le_of_ble_eq_true rfl, Nat.le_of_ble_eq_true rfl⟩ (hP) (hK) (va_recv hK hP (ci := 4) (q0 := 0) rfl rfl) hl.1 rfl rfl (Nat.le_of_ble_eq_true rfl) dd_M_mapByte_31 ?_
          have hf_4 : jm_isUsed B base b < 2 := jm_isUsed_lt _ _ _
          refine jl_ifeq (tgt := 47) hx hb (by omega) dd_M_mapByte_34 (by decide) (fun c_5 => ?_) (fun c_5 => ?_)
          · skip
            refine jl_iinc (lv' := [(4, .int (nI (b + 1))), (3, .int (nI (v))), (0, .ref qM), (1, .int (nI (base))), (2, .int (nI (i)))]) hx hb dd_M_mapByte_47 hl (k := 0) rfl (by decide) rfl (fun ls hl => ?_)
            refine lv_goto (tgt := 8) hx hb dd_M_mapByte_50 (by decide) ?_
            exact ih v (b + 1) (by omega) (by simpa [jm_mapL, c_2, c_3, c_5] using ht) ls (lv_sub hl [0, 1, 2, 3, 4] rfl)
          · skip
            refine lv_iload_n hx hb dd_M_mapByte_37 rfl (lv_at hl 1 rfl) ?_
            refine lv_iconst (v := nI 1) hx hb dd_M_mapByte_38 (by decide) ?_
            refine lv_iload hx hb dd_M_mapByte_39 (lv_at hl 0 rfl) ?_
            refine lv_bipush (v := nI 8) hx hb dd_M_mapByte_41 (by decide) ?_
            refine jl_irem hx hb (by omega) (by decide) (by decide) dd_M_mapByte_43 ?_
            refine lv_ishl hx hb dd_M_mapByte_44 ?_
            refine lv_ior hx hb dd_M_mapByte_45 ?_
            refine jl_top ((jm_or _ (by omega) (b % 8) (Nat.mod_lt _ (by decide))).1) ?_
            have hf_6 : v ||| 2 ^ (b % 8) < 256 := (jm_or _ (by omega) (b % 8) (Nat.mod_lt _ (by decide))).2
            refine lv_istore_n (lv' := [(3, .int (nI (v ||| 2 ^ (b % 8)))), (4, .int (nI (b))), (0, .ref qM), (1, .int (nI (base))), (2, .int (nI (i)))]) hx hb dd_M_mapByte_46 rfl hl (by decide) rfl (fun ls hl => ?_)
            refine jl_iinc (lv' := [(4, .int (nI (b + 1))), (3, .int (nI (v ||| 2 ^ (b % 8)))), (0, .ref qM), (1, .int (nI (base))), (2, .int (nI (i)))]) hx hb dd_M_mapByte_47 hl (k := 1) rfl (by decide) rfl (fun ls hl => ?_)
            refine lv_goto (tgt := 8) hx hb dd_M_mapByte_50 (by decide) ?_
            exact ih (v ||| 2 ^ (b % 8)) (b + 1) (by omega) (by simpa [jm_mapL, c_2, c_3, c_5] using ht) ls (lv_sub hl [0, 1, 2, 3, 4] rfl)
  exact loop 8 0 (i * 8) (by omega) (rfl) ls (lv_sub hl [0, 1, 2, 3, 4] rfl)
set_option maxHeartbeats 4000000 in
set_option maxRecDepth 100000 in
theorem ct_M_inodeByte (l : Launch) (G : va_G) (qM qK qZ qN qB qY qi qo qm qp : Nat) (c1 c2 c3 c4 c5 c6 c7 c8 c9 : ClassId) (K : Nat → Nat) (Z : Nat → Nat) (N : Nat → Nat) (B : Nat → Nat) (Y : Nat → Nat) (I : Nat → Nat) (O : Nat → Nat) (M : Nat → Nat) (P : Nat → Nat) (ct : Nat) (wr : Nat) (ofs : Nat) (th : Nat) (pa : Option Nat) (ey : Option Nat) (fo : Option Nat) (la : Nat) (i : Nat) (f : Nat) (m : Nat) (hi0 : i < 24) (hf0 : f < 8) (hm0 : 9 ≤ m ∧ m < 10000) (hK : jlt 3 K) (hZ : jlt 65 Z) (hN : jlt 256 N) (hB : jlt m B) : jr l yn_M_inodeByte (.code yn_M_inodeByte cd_M_inodeByte 3 (some .int)) { frames := 0, cells := 0, slots := 0, locals := 0 } G (tM c1 c2 c3 c4 c5 c6 c7 c8 c9) (wM qM qK qZ qN qB qY qi qo qm qp c1 c2 c3 c4 c5 c6 c7 c8 c9 K Z N B Y I O M P ct wr ofs th pa ey fo la) [.ref qM, .int (nI (i)), .int (nI (f))] (nI (jm_inodeByte K Z N B i f)) := by
  refine jr_of (by decide) (Nat.le_of_ble_eq_true rfl) ?_
  intro pr en σ mi bel met cd ls C hP hK hl
  have hx := C.1
  have hb := C.2.1
  have hown := C.2.2.2.1
  have hts := C.2.2.2.2.1
  have hl : lv_has ls 3 [(0, .ref qM), (1, .int (nI (i))), (2, .int (nI (f)))] := hl
  refine lv_iload_n hx hb dd_M_inodeByte_0 rfl (lv_at hl 2 rfl) ?_
  rcases (show f = 0 ∨ f = 1 ∨ f = 2 ∨ f = 3 ∨ 3 < f by omega) with hw_1 | hw_1 | hw_1 | hw_1 | hw_1
  · skip
    refine jl_swIn (a := f) (tgt := 32) (off := 31) hx hb dd_M_inodeByte_1 (by omega) (by omega) (by omega) (by rw [hw_1]; rfl) (by decide) ?_
    refine lv_aload_n hx hb dd_M_inodeByte_32 rfl (lv_at hl 0 rfl) ?_
    refine va_get (D := G) (ci := 4) (v := .ref qK) (C := cn_M) (T := ft_M) (N := 17) hx hb hts uw_M hown hK hP 0 rfl rfl 0 (by decide) (hts _ tw_593) (fun _ h9 => h9) rfl dd_M_inodeByte_33 ?_
    refine lv_iload_n hx hb dd_M_inodeByte_36 rfl (lv_at hl 1 rfl) ?_
    refine va_iald hx hb hK hP 1 0 rfl rfl (vp_in_nI (by omega) (by decide)) dd_M_inodeByte_37 ?_
    refine jl_top (jn_at (K) (by omega)) ?_
    have hf_2 : K i < 3 := (by assumption : jlt 3 K) _
    exact jr_ret C (by first | with_reducible rfl | (simp [jm_inodeByte, hw_1]; done) | (simp [show ¬ f = 0 by omega, show ¬ f = 1 by omega, show ¬ f = 2 by omega, show ¬ f = 3 by omega, jm_inodeByte, hw_1]; done) | (simp_all [jm_inodeByte]; done)) dd_M_inodeByte_38
  · skip
    refine jl_swIn (a := f) (tgt := 39) (off := 38) hx hb dd_M_inodeByte_1 (by omega) (by omega) (by omega) (by rw [hw_1]; rfl) (by decide) ?_
    refine lv_aload_n hx hb dd_M_inodeByte_39 rfl (lv_at hl 0 rfl) ?_
    refine va_get (D := G) (ci := 4) (v := .ref qZ) (C := cn_M) (T := ft_M) (N := 17) hx hb hts uw_M hown hK hP 0 rfl rfl 1 (by decide) (hts _ tw_594) (fun _ h9 => h9) rfl dd_M_inodeByte_40 ?_
    refine lv_iload_n hx hb dd_M_inodeByte_43 rfl (lv_at hl 1 rfl) ?_
    refine va_iald hx hb hK hP 2 1 rfl rfl (vp_in_nI (by omega) (by decide)) dd_M_inodeByte_44 ?_
    refine jl_top (jn_at (Z) (by omega)) ?_
    have hf_3 : Z i < 65 := (by assumption : jlt 65 Z) _
    exact jr_ret C (by first | with_reducible rfl | (simp [jm_inodeByte, hw_1]; done) | (simp [show ¬ f = 0 by omega, show ¬ f = 1 by omega, show ¬ f = 2 by omega, show ¬ f = 3 by omega, jm_inodeByte, hw_1]; done) | (simp_all [jm_inodeByte]; done)) dd_M_inodeByte_45
  · skip
    refine jl_swIn (a := f) (tgt := 46) (off := 45) hx hb dd_M_inodeByte_1 (by omega) (by omega) (by omega) (by rw [hw_1]; rfl) (by decide) ?_
    refine lv_aload_n hx hb dd_M_inodeByte_46 rfl (lv_at hl 0 rfl) ?_
    refine va_get (D := G) (ci := 4) (v := .ref qK) (C := cn_M) (T := ft_M) (N := 17) hx hb hts uw_M hown hK hP 0 rfl rfl 0 (by decide) (hts _ tw_593) (fun _ h9 => h9) rfl dd_M_inodeByte_47 ?_
    refine lv_iload_n hx hb dd_M_inodeByte_50 rfl (lv_at hl 1 rfl) ?_
    refine va_iald hx hb hK hP 1 0 rfl rfl (vp_in_nI (by omega) (by decide)) dd_M_inodeByte_51 ?_
    refine jl_top (jn_at (K) (by omega)) ?_
    have hf_4 : K i < 3 := (by assumption : jlt 3 K) _
    refine jl_ifne (tgt := 59) hx hb (by omega) dd_M_inodeByte_52 (by decide) (fun c_5 => ?_) (fun c_5 => ?_)
    · skip
      refine lv_iconst (v := nI 1) hx hb dd_M_inodeByte_59 (by decide) ?_
      exact jr_ret C (by first | with_reducible rfl | (simp [jm_inodeByte, hw_1, c_5]; done) | (simp [show ¬ f = 0 by omega, show ¬ f = 1 by omega, show ¬ f = 2 by omega, show ¬ f = 3 by omega, jm_inodeByte, hw_1, c_5]; done) | (simp_all [jm_inodeByte]; done)) dd_M_inodeByte_60
    · skip
      refine lv_iconst (v := nI 0) hx hb dd_M_inodeByte_55 (by decide) ?_
      refine lv_goto (tgt := 60) hx hb dd_M_inodeByte_56 (by decide) ?_
      exact jr_ret C (by first | with_reducible rfl | (simp [jm_inodeByte, hw_1, c_5]; done) | (simp [show ¬ f = 0 by omega, show ¬ f = 1 by omega, show ¬ f = 2 by omega, show ¬ f = 3 by omega, jm_inodeByte, hw_1, c_5]; done) | (simp_all [jm_inodeByte]; done)) dd_M_inodeByte_60
  · skip
    refine jl_swIn (a := f) (tgt := 61) (off := 60) hx hb dd_M_inodeByte_1 (by omega) (by omega) (by omega) (by rw [hw_1]; rfl) (by decide) ?_
    refine lv_aload_n hx hb dd_M_inodeByte_61 rfl (lv_at hl 0 rfl) ?_
    refine va_get (D := G) (ci := 4) (v := .ref qN) (C := cn_M) (T := ft_M) (N := 17) hx hb hts uw_M hown hK hP 0 rfl rfl 2 (by decide) (hts _ tw_595) (fun _ h9 => h9) rfl dd_M_inodeByte_62 ?_
    refine lv_iload_n hx hb dd_M_inodeByte_65 rfl (lv_at hl 1 rfl) ?_
    refine va_iald hx hb hK hP 3 2 rfl rfl (vp_in_nI (by omega) (by decide)) dd_M_inodeByte_66 ?_
    refine jl_top (jn_at (N) (by omega)) ?_
    have hf_6 : N i < 256 := (by assumption : jlt 256 N) _
    exact jr_ret C (by first | with_reducible rfl | (simp [jm_inodeByte, hw_1]; done) | (simp [show ¬ f = 0 by omega, show ¬ f = 1 by omega, show ¬ f = 2 by omega, show ¬ f = 3 by omega, jm_inodeByte, hw_1]; done) | (simp_all [jm_inodeByte]; done)) dd_M_inodeByte_67
  · skip
    refine jl_swOut (a := f) (tgt := 68) hx hb dd_M_inodeByte_1 (by omega) (by omega) (by decide) ?_
    refine lv_aload_n hx hb dd_M_inodeByte_68 rfl (lv_at hl 0 rfl) ?_
    refine va_get (D := G) (ci := 4) (v := .ref qB) (C := cn_M) (T := ft_M) (N := 17) hx hb hts uw_M hown hK hP 0 rfl rfl 3 (by decide) (hts _ tw_596) (fun _ h9 => h9) rfl dd_M_inodeByte_69 ?_
    refine lv_iload_n hx hb dd_M_inodeByte_72 rfl (lv_at hl 1 rfl) ?_
    refine lv_iconst (v := nI 4) hx hb dd_M_inodeByte_73 (by decide) ?_
    refine jl_imul hx hb dd_M_inodeByte_74 ?_
    refine lv_iload_n hx hb dd_M_inodeByte_75 rfl (lv_at hl 2 rfl) ?_
    refine jl_iadd hx hb dd_M_inodeByte_76 ?_
    refine lv_iconst (v := nI 4) hx hb dd_M_inodeByte_77 (by decide) ?_
    refine jl_isub hx hb (by omega) dd_M_inodeByte_78 ?_
    refine va_iald hx hb hK hP 4 3 rfl rfl (vp_in_nI (by omega) (by decide)) dd_M_inodeByte_79 ?_
    refine jl_top (jn_at (B) (by omega)) ?_
    have hf_7 : B (((i * 4) + f) - 4) < m := (by assumption : jlt m B) _
    exact jr_ret C (by first | with_reducible rfl | (simp [jm_inodeByte, hw_1]; done) | (simp [show ¬ f = 0 by omega, show ¬ f = 1 by omega, show ¬ f = 2 by omega, show ¬ f = 3 by omega, jm_inodeByte, hw_1]; done) | (simp_all [jm_inodeByte]; done)) dd_M_inodeByte_80
set_option maxHeartbeats 4000000 in
set_option maxRecDepth 100000 in
theorem ct_M_byteOf (l : Launch) (G : va_G) (qM qK qZ qN qB qY qi qo qm qp : Nat) (c1 c2 c3 c4 c5 c6 c7 c8 c9 : ClassId) (K : Nat → Nat) (Z : Nat → Nat) (N : Nat → Nat) (B : Nat → Nat) (Y : Nat → Nat) (I : Nat → Nat) (O : Nat → Nat) (M : Nat → Nat) (P : Nat → Nat) (ct : Nat) (wr : Nat) (ofs : Nat) (th : Nat) (pa : Option Nat) (ey : Option Nat) (fo : Option Nat) (la : Nat) (base : Nat) (b : Nat) (i : Nat) (m : Nat) (hba : base ≤ 12) (hb0 : b < 40) (hi0 : i < 16) (hm0 : 9 ≤ m ∧ m < 10000) (hK : jlt 3 K) (hZ : jlt 65 Z) (hN : jlt 256 N) (hB : jlt m B) (hY : jlt 256 Y) : jr l yn_M_byteOf (.code yn_M_byteOf cd_M_byteOf 5 (some .int)) { frames := 2, cells := 0, slots := 0, locals := 47 } G (tM c1 c2 c3 c4 c5 c6 c7 c8 c9) (wM qM qK qZ qN qB qY qi qo qm qp c1 c2 c3 c4 c5 c6 c7 c8 c9 K Z N B Y I O M P ct wr ofs th pa ey fo la) [.ref qM, .int (nI (base)), .int (nI (b)), .int (nI (i))] (nI (jm_byteOf K Z N B Y base b i)) := by
  refine jr_of (by decide) (Nat.le_of_ble_eq_true rfl) ?_
  intro pr en σ mi bel met cd ls C hP hK hl
  have hx := C.1
  have hb := C.2.1
  have hown := C.2.2.2.1
  have hts := C.2.2.2.2.1
  have hl : lv_has ls 5 [(0, .ref qM), (1, .int (nI (base))), (2, .int (nI (b))), (3, .int (nI (i)))] := hl
  refine lv_iload_n hx hb dd_M_byteOf_0 rfl (lv_at hl 2 rfl) ?_
  refine jl_ifne (tgt := 20) hx hb (by omega) dd_M_byteOf_1 (by decide) (fun c_1 => ?_) (fun c_1 => ?_)
  · skip
    refine lv_iload_n hx hb dd_M_byteOf_20 rfl (lv_at hl 2 rfl) ?_
    refine lv_bipush (v := nI 7) hx hb dd_M_byteOf_21 (by decide) ?_
    refine jl_ge (tgt := 47) hx hb (by omega) (by omega) dd_M_byteOf_23 (by decide) (fun c_2 => ?_) (fun c_2 => ?_)
    · skip
      refine lv_iload_n hx hb dd_M_byteOf_47 rfl (lv_at hl 1 rfl) ?_
      refine lv_iconst (v := nI 4) hx hb dd_M_byteOf_48 (by decide) ?_
      refine jl_imul hx hb dd_M_byteOf_49 ?_
      refine lv_istore (lv' := [(4, .int (nI (base * 4))), (0, .ref qM), (1, .int (nI (base))), (2, .int (nI (b))), (3, .int (nI (i)))]) hx hb dd_M_byteOf_50 hl (by decide) rfl (fun ls hl => ?_)
      have loop : ∀ (n : Nat) (k : Nat), (k + n = base * 4 + 48 ∧ ¬ b = 0 ∧ ¬ b < 7) → (if 8 < b then jm_boL B Y b i n k else 0) = jm_byteOf K Z N B Y base b i → ∀ ls : Array Slot, lv_has ls 5 [(4, .int (nI (k))), (0, .ref qM), (1, .int (nI (base))), (2, .int (nI (b))), (3, .int (nI (i)))] → W pr l en { frames := 2, cells := 0, slots := 0, locals := 47 } σ mi ([.ref qM, .int (nI (base)), .int (nI (b)), .int (nI (i))] : List Value).toArray bel met cd σ.heap [] 0 0 (jr_Q bel [.ref qM, .int (nI (base)), .int (nI (b)), .int (nI (i))] σ (nI (jm_byteOf K Z N B Y base b i))) (F0 mi 52 ls []) := by
        intro n
        induction n with
        | zero =>
          intro k hi  ht ls hl
          refine lv_iload hx hb dd_M_byteOf_52 (lv_at hl 0 rfl) ?_
          refine lv_iload_n hx hb dd_M_byteOf_54 rfl (lv_at hl 2 rfl) ?_
          refine lv_iconst (v := nI 4) hx hb dd_M_byteOf_55 (by decide) ?_
          refine jl_imul hx hb dd_M_byteOf_56 ?_
          refine lv_bipush (v := nI 48) hx hb dd_M_byteOf_57 (by decide) ?_
          refine jl_iadd hx hb dd_M_byteOf_59 ?_
          refine jl_ge (tgt := 109) hx hb (by omega) (by omega) dd_M_byteOf_60 (by decide) (fun c_3 => ?_) (fun c_3 => ?_)
          · skip
            refine lv_iconst (v := nI 0) hx hb dd_M_byteOf_109 (by decide) ?_
            exact jr_ret C (by rw [← ht]; first | with_reducible rfl | (simp [jm_boL, c_3]; done)) dd_M_byteOf_110
          · skip
            exact absurd c_3 (by omega)
        | succ n ih =>
          intro k hi  ht ls hl
          refine lv_iload hx hb dd_M_byteOf_52 (lv_at hl 0 rfl) ?_
          refine lv_iload_n hx hb dd_M_byteOf_54 rfl (lv_at hl 2 rfl) ?_
          refine lv_iconst (v := nI 4) hx hb dd_M_byteOf_55 (by decide) ?_
          refine jl_imul hx hb dd_M_byteOf_56 ?_
          refine lv_bipush (v := nI 48) hx hb dd_M_byteOf_57 (by decide) ?_
          refine jl_iadd hx hb dd_M_byteOf_59 ?_
          refine jl_ge (tgt := 109) hx hb (by omega) (by omega) dd_M_byteOf_60 (by decide) (fun c_4 => ?_) (fun c_4 => ?_)
          · skip
            exact absurd c_4 (by omega)
          · skip
            refine lv_iload_n hx hb dd_M_byteOf_63 rfl (lv_at hl 3 rfl) ?_
            refine lv_bipush (v := nI 8) hx hb dd_M_byteOf_64 (by decide) ?_
            refine jl_le (tgt := 109) hx hb (by omega) (by omega) dd_M_byteOf_66 (by decide) (fun c_5 => ?_) (fun c_5 => ?_)
            · skip
              refine lv_iconst (v := nI 0) hx hb dd_M_byteOf_109 (by decide) ?_
              exact jr_ret C (by rw [← ht]; first | with_reducible rfl | (simp [jm_boL, c_4, c_5]; done)) dd_M_byteOf_110
            · skip
              refine lv_aload_n hx hb dd_M_byteOf_69 rfl (lv_at hl 1 rfl) ?_
              refine va_get (D := G) (ci := 4) (v := .ref qB) (C := cn_M) (T := ft_M) (N := 17) hx hb hts uw_M hown hK hP 0 rfl rfl 3 (by decide) (hts _ tw_596) (fun _ h9 => h9) rfl dd_M_byteOf_70 ?_
              refine lv_iload hx hb dd_M_byteOf_73 (lv_at hl 0 rfl) ?_
              refine va_iald hx hb hK hP 4 3 rfl rfl (vp_in_nI (by omega) (by decide)) dd_M_byteOf_75 ?_
              refine jl_top (jn_at (B) (by omega)) ?_
              have hf_6 : B k < m := (by assumption : jlt m B) _
              refine lv_iload_n hx hb dd_M_byteOf_76 rfl (lv_at hl 3 rfl) ?_
              refine jl_ne (tgt := 103) hx hb (by omega) (by omega) dd_M_byteOf_77 (by decide) (fun c_7 => ?_) (fun c_7 => ?_)
              · skip
                refine jl_iinc (lv' := [(4, .int (nI (k + 1))), (0, .ref qM), (1, .int (nI (base))), (2, .int (nI (b))), (3, .int (nI (i)))]) hx hb dd_M_byteOf_103 hl (k := 0) rfl (by decide) rfl (fun ls hl => ?_)
                refine lv_goto (tgt := 52) hx hb dd_M_byteOf_106 (by decide) ?_
                exact ih (k + 1) (by omega) (by simpa [jm_boL, c_4, c_5, c_7] using ht) ls (lv_sub hl [0, 1, 2, 3, 4] rfl)
              · skip
                refine lv_aload_n hx hb dd_M_byteOf_80 rfl (lv_at hl 1 rfl) ?_
                refine va_get (D := G) (ci := 4) (v := .ref qY) (C := cn_M) (T := ft_M) (N := 17) hx hb hts uw_M hown hK hP 0 rfl rfl 4 (by decide) (hts _ tw_597) (fun _ h9 => h9) rfl dd_M_byteOf_81 ?_
                refine lv_iload hx hb dd_M_byteOf_84 (lv_at hl 0 rfl) ?_
                refine lv_iconst (v := nI 4) hx hb dd_M_byteOf_86 (by decide) ?_
                refine jl_idiv hx hb (by omega) (by decide) (by decide) dd_M_byteOf_87 ?_
                refine lv_bipush (v := nI 64) hx hb dd_M_byteOf_88 (by decide) ?_
                refine jl_imul hx hb dd_M_byteOf_90 ?_
                refine lv_iload hx hb dd_M_byteOf_91 (lv_at hl 0 rfl) ?_
                refine lv_iconst (v := nI 4) hx hb dd_M_byteOf_93 (by decide) ?_
                refine jl_irem hx hb (by omega) (by decide) (by decide) dd_M_byteOf_94 ?_
                refine lv_bipush (v := nI 16) hx hb dd_M_byteOf_95 (by decide) ?_
                refine jl_imul hx hb dd_M_byteOf_97 ?_
                refine jl_iadd hx hb dd_M_byteOf_98 ?_
                refine lv_iload_n hx hb dd_M_byteOf_99 rfl (lv_at hl 4 rfl) ?_
                refine jl_iadd hx hb dd_M_byteOf_100 ?_
                refine va_iald hx hb hK hP 5 4 rfl rfl (vp_in_nI (by omega) (by decide)) dd_M_byteOf_101 ?_
                refine jl_top (jn_at (Y) (by omega)) ?_
                have hf_8 : Y ((((k / 4) * 64) + ((k % 4) * 16)) + i) < 256 := (by assumption : jlt 256 Y) _
                exact jr_ret C (by rw [← ht]; first | with_reducible rfl | (simp [jm_boL, c_4, c_5, c_7]; done)) dd_M_byteOf_102
      exact loop 48 (base * 4) (by omega) (by simp [jm_byteOf, show ¬ b = 0 by omega, show ¬ b < 7 by omega]) ls (lv_sub hl [0, 1, 2, 3, 4] rfl)
    · skip
      refine lv_aload_n hx hb dd_M_byteOf_26 rfl (lv_at hl 0 rfl) ?_
      refine lv_iload_n hx hb dd_M_byteOf_27 rfl (lv_at hl 1 rfl) ?_
      refine lv_iload_n hx hb dd_M_byteOf_28 rfl (lv_at hl 2 rfl) ?_
      refine lv_iconst (v := nI 1) hx hb dd_M_byteOf_29 (by decide) ?_
      refine jl_isub hx hb (by omega) dd_M_byteOf_30 ?_
      refine lv_iconst (v := nI 2) hx hb dd_M_byteOf_31 (by decide) ?_
      refine jl_imul hx hb dd_M_byteOf_32 ?_
      refine jl_iadd hx hb dd_M_byteOf_33 ?_
      refine lv_iload_n hx hb dd_M_byteOf_34 rfl (lv_at hl 3 rfl) ?_
      refine lv_bipush (v := nI 8) hx hb dd_M_byteOf_35 (by decide) ?_
      refine jl_idiv hx hb (by omega) (by decide) (by decide) dd_M_byteOf_37 ?_
      refine jl_iadd hx hb dd_M_byteOf_38 ?_
      refine lv_iload_n hx hb dd_M_byteOf_39 rfl (lv_at hl 3 rfl) ?_
      refine lv_bipush (v := nI 8) hx hb dd_M_byteOf_40 (by decide) ?_
      refine jl_irem hx hb (by omega) (by decide) (by decide) dd_M_byteOf_42 ?_
      refine jr_callV C (ct_M_inodeByte l G qM qK qZ qN qB qY qi qo qm qp c1 c2 c3 c4 c5 c6 c7 c8 c9 K Z N B Y I O M P ct wr ofs th pa ey fo la ((base + ((b - 1) * 2)) + (i / 8)) (i % 8) m (by omega) (by omega) (by omega) (by assumption) (by assumption) (by assumption) (by assumption)) kl_M_124 ⟨Nat.le_of_ble_eq_true rfl, Nat.le_of_ble_eq_true rfl, rfl, rfl⟩ ⟨Nat.le_of_ble_eq_true rfl, Nat.le_of_ble_eq_true rfl⟩ (hP) (hK) (va_recv hK hP (ci := 4) (q0 := 0) rfl rfl) hl.1 rfl rfl (Nat.le_of_ble_eq_true rfl) dd_M_byteOf_43 ?_
      exact jr_ret C (by first | with_reducible rfl | (simp [jm_byteOf, c_1, c_2]; done) | (simp_all [jm_byteOf]; done)) dd_M_byteOf_46
  · skip
    refine lv_iload_n hx hb dd_M_byteOf_4 rfl (lv_at hl 3 rfl) ?_
    refine lv_iconst (v := nI 5) hx hb dd_M_byteOf_5 (by decide) ?_
    refine jl_ge (tgt := 18) hx hb (by omega) (by omega) dd_M_byteOf_6 (by decide) (fun c_9 => ?_) (fun c_9 => ?_)
    · skip
      refine lv_iconst (v := nI 0) hx hb dd_M_byteOf_18 (by decide) ?_
      exact jr_ret C (by first | with_reducible rfl | (simp [jm_byteOf, c_1, c_9]; done) | (simp_all [jm_byteOf]; done)) dd_M_byteOf_19
    · skip
      refine lv_aload_n hx hb dd_M_byteOf_9 rfl (lv_at hl 0 rfl) ?_
      refine lv_iload_n hx hb dd_M_byteOf_10 rfl (lv_at hl 1 rfl) ?_
      refine lv_iload_n hx hb dd_M_byteOf_11 rfl (lv_at hl 3 rfl) ?_
      refine jr_callV C (ct_M_mapByte l G qM qK qZ qN qB qY qi qo qm qp c1 c2 c3 c4 c5 c6 c7 c8 c9 K Z N B Y I O M P ct wr ofs th pa ey fo la base i m (by omega) (by omega) (by omega) (by assumption)) kl_M_121 ⟨Nat.le_of_ble_eq_true rfl, Nat.le_of_ble_eq_true rfl, rfl, rfl⟩ ⟨Nat.le_of_ble_eq_true rfl, Nat.le_of_ble_eq_true rfl⟩ (hP) (hK) (va_recv hK hP (ci := 4) (q0 := 0) rfl rfl) hl.1 rfl rfl (Nat.le_of_ble_eq_true rfl) dd_M_byteOf_12 ?_
      have hf_10 : jm_mapByte B base i < 256 := jm_mapL_lt _ _ _ _ _ (by decide)
      refine lv_goto (tgt := 19) hx hb dd_M_byteOf_15 (by decide) ?_
      exact jr_ret C (by first | with_reducible rfl | (simp [jm_byteOf, c_1, c_9]; done) | (simp_all [jm_byteOf]; done)) dd_M_byteOf_19
set_option maxHeartbeats 4000000 in
set_option maxRecDepth 100000 in
theorem ct_M_differing (l : Launch) (G : va_G) (qM qK qZ qN qB qY qi qo qm qp : Nat) (c1 c2 c3 c4 c5 c6 c7 c8 c9 : ClassId) (K : Nat → Nat) (Z : Nat → Nat) (N : Nat → Nat) (B : Nat → Nat) (Y : Nat → Nat) (I : Nat → Nat) (O : Nat → Nat) (M : Nat → Nat) (P : Nat → Nat) (ct : Nat) (wr : Nat) (ofs : Nat) (th : Nat) (pa : Option Nat) (ey : Option Nat) (fo : Option Nat) (la : Nat)  (m : Nat) (hm0 : 9 ≤ m ∧ m < 10000) (hK : jlt 3 K) (hZ : jlt 65 Z) (hN : jlt 256 N) (hB : jlt m B) (hY : jlt 256 Y) : jr l yn_M_differing (.code yn_M_differing cd_M_differing 5 (some .int)) { frames := 3, cells := 0, slots := 0, locals := 71 } G (tM c1 c2 c3 c4 c5 c6 c7 c8 c9) (wM qM qK qZ qN qB qY qi qo qm qp c1 c2 c3 c4 c5 c6 c7 c8 c9 K Z N B Y I O M P ct wr ofs th pa ey fo la) [.ref qM] (nI (jm_differing K Z N B Y)) := by
  refine jr_of (by decide) (Nat.le_of_ble_eq_true rfl) ?_
  intro pr en σ mi bel met cd ls C hP hK hl
  have hx := C.1
  have hb := C.2.1
  have hown := C.2.2.2.1
  have hts := C.2.2.2.2.1
  have hl : lv_has ls 5 [(0, .ref qM)] := hl
  refine lv_iconst (v := nI 0) hx hb dd_M_differing_0 (by decide) ?_
  refine lv_istore_n (lv' := [(1, .int (nI (0))), (0, .ref qM)]) hx hb dd_M_differing_1 rfl hl (by decide) rfl (fun ls hl => ?_)
  refine lv_iconst (v := nI 0) hx hb dd_M_differing_2 (by decide) ?_
  refine lv_istore_n (lv' := [(2, .int (nI (0))), (1, .int (nI (0))), (0, .ref qM)]) hx hb dd_M_differing_3 rfl hl (by decide) rfl (fun ls hl => ?_)
  have loop_htO : ∀ (n : Nat) (d : Nat) (b : Nat), (b + n = 40 ∧ d ≤ b) → jm_dgL K Z N B Y n b d = jm_differing K Z N B Y → ∀ ls : Array Slot, lv_has ls 5 [(2, .int (nI (b))), (1, .int (nI (d))), (0, .ref qM)] → W pr l en { frames := 3, cells := 0, slots := 0, locals := 71 } σ mi ([.ref qM] : List Value).toArray bel met cd σ.heap [] 0 0 (jr_Q bel [.ref qM] σ (nI (jm_differing K Z N B Y))) (F0 mi 4 ls []) := by
    intro n
    induction n with
    | zero =>
      intro d b hi  htO ls hl
      refine lv_iload_n hx hb dd_M_differing_4 rfl (lv_at hl 0 rfl) ?_
      refine lv_bipush (v := nI 40) hx hb dd_M_differing_5 (by decide) ?_
      refine jl_ge (tgt := 63) hx hb (by omega) (by omega) dd_M_differing_7 (by decide) (fun c_1 => ?_) (fun c_1 => ?_)
      · skip
        refine lv_iload_n hx hb dd_M_differing_63 rfl (lv_at hl 1 rfl) ?_
        exact jr_ret C (by rw [← htO]; first | with_reducible rfl | (simp [jm_dgL, c_1]; done)) dd_M_differing_64
      · skip
        exact absurd c_1 (by omega)
    | succ n ih_htO =>
      intro d b hi  htO ls hl
      refine lv_iload_n hx hb dd_M_differing_4 rfl (lv_at hl 0 rfl) ?_
      refine lv_bipush (v := nI 40) hx hb dd_M_differing_5 (by decide) ?_
      refine jl_ge (tgt := 63) hx hb (by omega) (by omega) dd_M_differing_7 (by decide) (fun c_2 => ?_) (fun c_2 => ?_)
      · skip
        exact absurd c_2 (by omega)
      · skip
        refine lv_iconst (v := nI 0) hx hb dd_M_differing_10 (by decide) ?_
        refine lv_istore_n (lv' := [(3, .int (nI (0))), (2, .int (nI (b))), (1, .int (nI (d))), (0, .ref qM)]) hx hb dd_M_differing_11 rfl hl (by decide) rfl (fun ls hl => ?_)
        refine lv_iconst (v := nI 0) hx hb dd_M_differing_12 (by decide) ?_
        refine lv_istore (lv' := [(4, .int (nI (0))), (3, .int (nI (0))), (2, .int (nI (b))), (1, .int (nI (d))), (0, .ref qM)]) hx hb dd_M_differing_13 hl (by decide) rfl (fun ls hl => ?_)
        have loop_htI : ∀ (n : Nat) (f : Nat) (i : Nat), (i + n = 16 ∧ f < 2) → jm_dfL K Z N B Y b n i f = jm_dfL K Z N B Y b 16 0 0 → ∀ ls : Array Slot, lv_has ls 5 [(4, .int (nI (i))), (3, .int (nI (f))), (2, .int (nI (b))), (1, .int (nI (d))), (0, .ref qM)] → W pr l en { frames := 3, cells := 0, slots := 0, locals := 71 } σ mi ([.ref qM] : List Value).toArray bel met cd σ.heap [] 0 0 (jr_Q bel [.ref qM] σ (nI (jm_differing K Z N B Y))) (F0 mi 15 ls []) := by
          intro n
          induction n with
          | zero =>
            intro f i hi  htI ls hl
            refine lv_iload hx hb dd_M_differing_15 (lv_at hl 0 rfl) ?_
            refine lv_bipush (v := nI 16) hx hb dd_M_differing_17 (by decide) ?_
            refine jl_ge (tgt := 50) hx hb (by omega) (by omega) dd_M_differing_19 (by decide) (fun c_3 => ?_) (fun c_3 => ?_)
            · skip
              refine lv_iload_n hx hb dd_M_differing_50 rfl (lv_at hl 1 rfl) ?_
              refine jl_ifeq (tgt := 57) hx hb (by omega) dd_M_differing_51 (by decide) (fun c_4 => ?_) (fun c_4 => ?_)
              · skip
                refine jl_iinc (lv' := [(2, .int (nI (b + 1))), (4, .int (nI (i))), (3, .int (nI (f))), (1, .int (nI (d))), (0, .ref qM)]) hx hb dd_M_differing_57 hl (k := 2) rfl (by decide) rfl (fun ls hl => ?_)
                refine lv_goto (tgt := 4) hx hb dd_M_differing_60 (by decide) ?_
                exact ih_htO d (b + 1) (by omega) (by have e9 : jm_dfL K Z N B Y b 16 0 0 = f := htI.symm; simpa [jm_dgL, e9, c_3, c_4] using htO) ls (lv_sub hl [0, 3, 4] rfl)
              · skip
                refine jl_iinc (lv' := [(1, .int (nI (d + 1))), (4, .int (nI (i))), (3, .int (nI (f))), (2, .int (nI (b))), (0, .ref qM)]) hx hb dd_M_differing_54 hl (k := 3) rfl (by decide) rfl (fun ls hl => ?_)
                refine jl_iinc (lv' := [(2, .int (nI (b + 1))), (1, .int (nI (d + 1))), (4, .int (nI (i))), (3, .int (nI (f))), (0, .ref qM)]) hx hb dd_M_differing_57 hl (k := 3) rfl (by decide) rfl (fun ls hl => ?_)
                refine lv_goto (tgt := 4) hx hb dd_M_differing_60 (by decide) ?_
                exact ih_htO (d + 1) (b + 1) (by omega) (by have e9 : jm_dfL K Z N B Y b 16 0 0 = f := htI.symm; simpa [jm_dgL, e9, c_3, c_4] using htO) ls (lv_sub hl [0, 1, 4] rfl)
            · skip
              exact absurd c_3 (by omega)
          | succ n ih_htI =>
            intro f i hi  htI ls hl
            refine lv_iload hx hb dd_M_differing_15 (lv_at hl 0 rfl) ?_
            refine lv_bipush (v := nI 16) hx hb dd_M_differing_17 (by decide) ?_
            refine jl_ge (tgt := 50) hx hb (by omega) (by omega) dd_M_differing_19 (by decide) (fun c_5 => ?_) (fun c_5 => ?_)
            · skip
              exact absurd c_5 (by omega)
            · skip
              refine lv_aload_n hx hb dd_M_differing_22 rfl (lv_at hl 4 rfl) ?_
              refine lv_iconst (v := nI 0) hx hb dd_M_differing_23 (by decide) ?_
              refine lv_iload_n hx hb dd_M_differing_24 rfl (lv_at hl 2 rfl) ?_
              refine lv_iload hx hb dd_M_differing_25 (lv_at hl 0 rfl) ?_
              refine jr_callV C (ct_M_byteOf l G qM qK qZ qN qB qY qi qo qm qp c1 c2 c3 c4 c5 c6 c7 c8 c9 K Z N B Y I O M P ct wr ofs th pa ey fo la 0 b i m (by omega) (by omega) (by omega) (by omega) (by assumption) (by assumption) (by assumption) (by assumption) (by assumption)) kl_M_127 ⟨Nat.le_of_ble_eq_true rfl, Nat.le_of_ble_eq_true rfl, rfl, rfl⟩ ⟨Nat.le_of_ble_eq_true rfl, Nat.le_of_ble_eq_true rfl⟩ (hP) (hK) (va_recv hK hP (ci := 4) (q0 := 0) rfl rfl) hl.1 rfl rfl (Nat.le_of_ble_eq_true rfl) dd_M_differing_27 ?_
              have hf_6 : jm_byteOf K Z N B Y 0 b i < 10000 := jm_byteOf_lt (by assumption) (by assumption) (by assumption) (by assumption : jlt m B) (by assumption) (by omega) _ _ _
              refine lv_aload_n hx hb dd_M_differing_30 rfl (lv_at hl 4 rfl) ?_
              refine lv_bipush (v := nI 12) hx hb dd_M_differing_31 (by decide) ?_
              refine lv_iload_n hx hb dd_M_differing_33 rfl (lv_at hl 2 rfl) ?_
              refine lv_iload hx hb dd_M_differing_34 (lv_at hl 0 rfl) ?_
              refine jr_callV C (ct_M_byteOf l G qM qK qZ qN qB qY qi qo qm qp c1 c2 c3 c4 c5 c6 c7 c8 c9 K Z N B Y I O M P ct wr ofs th pa ey fo la 12 b i m (by omega) (by omega) (by omega) (by omega) (by assumption) (by assumption) (by assumption) (by assumption) (by assumption)) kl_M_127 ⟨Nat.le_of_ble_eq_true rfl, Nat.le_of_ble_eq_true rfl, rfl, rfl⟩ ⟨Nat.le_of_ble_eq_true rfl, Nat.le_of_ble_eq_true rfl⟩ (hP) (hK) (va_recv hK hP (ci := 4) (q0 := 0) rfl rfl) hl.1 rfl rfl (Nat.le_of_ble_eq_true rfl) dd_M_differing_36 ?_
              have hf_7 : jm_byteOf K Z N B Y 12 b i < 10000 := jm_byteOf_lt (by assumption) (by assumption) (by assumption) (by assumption : jlt m B) (by assumption) (by omega) _ _ _
              refine jl_eq (tgt := 44) hx hb (by omega) (by omega) dd_M_differing_39 (by decide) (fun c_8 => ?_) (fun c_8 => ?_)
              · skip
                refine jl_iinc (lv' := [(4, .int (nI (i + 1))), (3, .int (nI (f))), (2, .int (nI (b))), (1, .int (nI (d))), (0, .ref qM)]) hx hb dd_M_differing_44 hl (k := 0) rfl (by decide) rfl (fun ls hl => ?_)
                refine lv_goto (tgt := 15) hx hb dd_M_differing_47 (by decide) ?_
                exact ih_htI f (i + 1) (by omega) (by simpa [jm_dfL, c_5, c_8] using htI) ls (lv_sub hl [0, 1, 2, 3, 4] rfl)
              · skip
                refine lv_iconst (v := nI 1) hx hb dd_M_differing_42 (by decide) ?_
                refine lv_istore_n (lv' := [(3, .int (nI (1))), (4, .int (nI (i))), (2, .int (nI (b))), (1, .int (nI (d))), (0, .ref qM)]) hx hb dd_M_differing_43 rfl hl (by decide) rfl (fun ls hl => ?_)
                refine jl_iinc (lv' := [(4, .int (nI (i + 1))), (3, .int (nI (1))), (2, .int (nI (b))), (1, .int (nI (d))), (0, .ref qM)]) hx hb dd_M_differing_44 hl (k := 1) rfl (by decide) rfl (fun ls hl => ?_)
                refine lv_goto (tgt := 15) hx hb dd_M_differing_47 (by decide) ?_
                exact ih_htI 1 (i + 1) (by omega) (by simpa [jm_dfL, c_5, c_8] using htI) ls (lv_sub hl [0, 1, 2, 3, 4] rfl)
        exact loop_htI 16 0 0 (by omega) (rfl) ls (lv_sub hl [0, 1, 2, 3, 4] rfl)
  exact loop_htO 40 0 0 (by omega) (rfl) ls (lv_sub hl [0, 1, 2] rfl)
set_option maxHeartbeats 4000000 in
set_option maxRecDepth 100000 in
theorem ct_M_copyTables (l : Launch) (G : va_G) (qM qK qZ qN qB qY qi qo qm qp : Nat) (c1 c2 c3 c4 c5 c6 c7 c8 c9 : ClassId) (K : Nat → Nat) (Z : Nat → Nat) (N : Nat → Nat) (B : Nat → Nat) (Y : Nat → Nat) (I : Nat → Nat) (O : Nat → Nat) (M : Nat → Nat) (P : Nat → Nat) (ct : Nat) (wr : Nat) (ofs : Nat) (th : Nat) (pa : Option Nat) (ey : Option Nat) (fo : Option Nat) (la : Nat) (fr : Nat) (tt : Nat) (hfr : fr ≤ 12) (htt : tt ≤ 12) : jm l yn_M_copyTables (.code yn_M_copyTables cd_M_copyTables 4 none) { frames := 0, cells := 0, slots := 0, locals := 0 } G (tM c1 c2 c3 c4 c5 c6 c7 c8 c9) (wM qM qK qZ qN qB qY qi qo qm qp c1 c2 c3 c4 c5 c6 c7 c8 c9 K Z N B Y I O M P ct wr ofs th pa ey fo la) [.ref qM, .int (nI (fr)), .int (nI (tt))] none (wM qM qK qZ qN qB qY qi qo qm qp c1 c2 c3 c4 c5 c6 c7 c8 c9 (jm_cpL fr tt 12 0 K) (jm_cpL fr tt 12 0 Z) (jm_cpL fr tt 12 0 N) (jm_cpL (fr * 4) (tt * 4) 48 0 B) (jm_cpL (fr * 64) (tt * 64) 768 0 Y) I O M P ct wr ofs th pa ey fo la) := by
  refine jm_of (by decide) (Nat.le_of_ble_eq_true rfl) ?_
  intro pr en σ mi bel met cd ls A hA C hP hK hD hS hl
  have hx := C.1
  have hb := C.2.1
  have hown := C.2.2.2.1
  have hts := C.2.2.2.2.1
  have hl : lv_has ls 4 [(0, .ref qM), (1, .int (nI (fr))), (2, .int (nI (tt)))] := hl
  refine lv_iconst (v := nI 0) hx hb dd_M_copyTables_0 (by decide) ?_
  refine lv_istore_n (lv' := [(3, .int (nI (0))), (0, .ref qM), (1, .int (nI (fr))), (2, .int (nI (tt)))]) hx hb dd_M_copyTables_1 rfl hl (by decide) rfl (fun ls hl => ?_)
  have loop_htA : ∀ (n : Nat) (k : Nat) (K9 : Nat → Nat) (Z9 : Nat → Nat) (N9 : Nat → Nat), (k + n = 12) → (jm_cpL fr tt n k K9 = jm_cpL fr tt 12 0 K ∧ jm_cpL fr tt n k Z9 = jm_cpL fr tt 12 0 Z ∧ jm_cpL fr tt n k N9 = jm_cpL fr tt 12 0 N) → ∀ (H : Heap) (locs : List Loc), va_P G jcl (wM qM qK qZ qN qB qY qi qo qm qp c1 c2 c3 c4 c5 c6 c7 c8 c9 K9 Z9 N9 B Y I O M P ct wr ofs th pa ey fo la) H → va_D A (wM qM qK qZ qN qB qY qi qo qm qp c1 c2 c3 c4 c5 c6 c7 c8 c9 K9 Z9 N9 B Y I O M P ct wr ofs th pa ey fo la) → va_S A σ.heap H locs → ∀ ls : Array Slot, lv_has ls 4 [(3, .int (nI (k))), (0, .ref qM), (1, .int (nI (fr))), (2, .int (nI (tt)))] → W pr l en { frames := 0, cells := 0, slots := 0, locals := 0 } σ mi ([.ref qM, .int (nI (fr)), .int (nI (tt))] : List Value).toArray bel met cd H locs 0 0 (jm_Q bel { frames := 0, cells := 0, slots := 0, locals := 0 } G (tM c1 c2 c3 c4 c5 c6 c7 c8 c9) A [.ref qM, .int (nI (fr)), .int (nI (tt))] σ none (wM qM qK qZ qN qB qY qi qo qm qp c1 c2 c3 c4 c5 c6 c7 c8 c9 (jm_cpL fr tt 12 0 K) (jm_cpL fr tt 12 0 Z) (jm_cpL fr tt 12 0 N) (jm_cpL (fr * 4) (tt * 4) 48 0 B) (jm_cpL (fr * 64) (tt * 64) 768 0 Y) I O M P ct wr ofs th pa ey fo la)) (F0 mi 2 ls []) := by
    intro n
    induction n with
    | zero =>
      intro k K9 Z9 N9 hi  htA H locs hP hD hS ls hl
      refine lv_iload_n hx hb dd_M_copyTables_2 rfl (lv_at hl 0 rfl) ?_
      refine lv_bipush (v := nI 12) hx hb dd_M_copyTables_3 (by decide) ?_
      refine jl_ge (tgt := 62) hx hb (by omega) (by omega) dd_M_copyTables_5 (by decide) (fun c_1 => ?_) (fun c_1 => ?_)
      · skip
        refine lv_iconst (v := nI 0) hx hb dd_M_copyTables_62 (by decide) ?_
        refine lv_istore_n (lv' := [(3, .int (nI (0))), (0, .ref qM), (1, .int (nI (fr))), (2, .int (nI (tt)))]) hx hb dd_M_copyTables_63 rfl hl (by decide) rfl (fun ls hl => ?_)
        have loop_htB : ∀ (n : Nat) (k : Nat) (B9 : Nat → Nat), (k + n = 48) → jm_cpL (fr * 4) (tt * 4) n k B9 = jm_cpL (fr * 4) (tt * 4) 48 0 B → ∀ (H : Heap) (locs : List Loc), va_P G jcl (wM qM qK qZ qN qB qY qi qo qm qp c1 c2 c3 c4 c5 c6 c7 c8 c9 K9 Z9 N9 B9 Y I O M P ct wr ofs th pa ey fo la) H → va_D A (wM qM qK qZ qN qB qY qi qo qm qp c1 c2 c3 c4 c5 c6 c7 c8 c9 K9 Z9 N9 B9 Y I O M P ct wr ofs th pa ey fo la) → va_S A σ.heap H locs → ∀ ls : Array Slot, lv_has ls 4 [(3, .int (nI (k))), (0, .ref qM), (1, .int (nI (fr))), (2, .int (nI (tt)))] → W pr l en { frames := 0, cells := 0, slots := 0, locals := 0 } σ mi ([.ref qM, .int (nI (fr)), .int (nI (tt))] : List Value).toArray bel met cd H locs 0 0 (jm_Q bel { frames := 0, cells := 0, slots := 0, locals := 0 } G (tM c1 c2 c3 c4 c5 c6 c7 c8 c9) A [.ref qM, .int (nI (fr)), .int (nI (tt))] σ none (wM qM qK qZ qN qB qY qi qo qm qp c1 c2 c3 c4 c5 c6 c7 c8 c9 (jm_cpL fr tt 12 0 K) (jm_cpL fr tt 12 0 Z) (jm_cpL fr tt 12 0 N) (jm_cpL (fr * 4) (tt * 4) 48 0 B) (jm_cpL (fr * 64) (tt * 64) 768 0 Y) I O M P ct wr ofs th pa ey fo la)) (F0 mi 64 ls []) := by
          intro n
          induction n with
          | zero =>
            intro k B9 hi  htB H locs hP hD hS ls hl
            refine lv_iload_n hx hb dd_M_copyTables_64 rfl (lv_at hl 0 rfl) ?_
            refine lv_bipush (v := nI 48) hx hb dd_M_copyTables_65 (by decide) ?_
            refine jl_ge (tgt := 96) hx hb (by omega) (by omega) dd_M_copyTables_67 (by decide) (fun c_2 => ?_) (fun c_2 => ?_)
            · skip
              refine lv_iconst (v := nI 0) hx hb dd_M_copyTables_96 (by decide) ?_
              refine lv_istore_n (lv' := [(3, .int (nI (0))), (0, .ref qM), (1, .int (nI (fr))), (2, .int (nI (tt)))]) hx hb dd_M_copyTables_97 rfl hl (by decide) rfl (fun ls hl => ?_)
              have loop_htC : ∀ (n : Nat) (k : Nat) (Y9 : Nat → Nat), (k + n = 768) → jm_cpL (fr * 64) (tt * 64) n k Y9 = jm_cpL (fr * 64) (tt * 64) 768 0 Y → ∀ (H : Heap) (locs : List Loc), va_P G jcl (wM qM qK qZ qN qB qY qi qo qm qp c1 c2 c3 c4 c5 c6 c7 c8 c9 K9 Z9 N9 B9 Y9 I O M P ct wr ofs th pa ey fo la) H → va_D A (wM qM qK qZ qN qB qY qi qo qm qp c1 c2 c3 c4 c5 c6 c7 c8 c9 K9 Z9 N9 B9 Y9 I O M P ct wr ofs th pa ey fo la) → va_S A σ.heap H locs → ∀ ls : Array Slot, lv_has ls 4 [(3, .int (nI (k))), (0, .ref qM), (1, .int (nI (fr))), (2, .int (nI (tt)))] → W pr l en { frames := 0, cells := 0, slots := 0, locals := 0 } σ mi ([.ref qM, .int (nI (fr)), .int (nI (tt))] : List Value).toArray bel met cd H locs 0 0 (jm_Q bel { frames := 0, cells := 0, slots := 0, locals := 0 } G (tM c1 c2 c3 c4 c5 c6 c7 c8 c9) A [.ref qM, .int (nI (fr)), .int (nI (tt))] σ none (wM qM qK qZ qN qB qY qi qo qm qp c1 c2 c3 c4 c5 c6 c7 c8 c9 (jm_cpL fr tt 12 0 K) (jm_cpL fr tt 12 0 Z) (jm_cpL fr tt 12 0 N) (jm_cpL (fr * 4) (tt * 4) 48 0 B) (jm_cpL (fr * 64) (tt * 64) 768 0 Y) I O M P ct wr ofs th pa ey fo la)) (F0 mi 98 ls []) := by
                intro n
                induction n with
                | zero =>
                  intro k Y9 hi  htC H locs hP hD hS ls hl
                  refine lv_iload_n hx hb dd_M_copyTables_98 rfl (lv_at hl 0 rfl) ?_
                  refine lv_sipush (v := nI 768) hx hb dd_M_copyTables_99 (by decide) ?_
                  refine jl_ge (tgt := 133) hx hb (by omega) (by omega) dd_M_copyTables_102 (by decide) (fun c_3 => ?_) (fun c_3 => ?_)
                  · skip
                    have he : wM qM qK qZ qN qB qY qi qo qm qp c1 c2 c3 c4 c5 c6 c7 c8 c9 K9 Z9 N9 B9 Y9 I O M P ct wr ofs th pa ey fo la = wM qM qK qZ qN qB qY qi qo qm qp c1 c2 c3 c4 c5 c6 c7 c8 c9 (jm_cpL fr tt 12 0 K) (jm_cpL fr tt 12 0 Z) (jm_cpL fr tt 12 0 N) (jm_cpL (fr * 4) (tt * 4) 48 0 B) (jm_cpL (fr * 64) (tt * 64) 768 0 Y) I O M P ct wr ofs th pa ey fo la := by rw [← htA.1, ← htA.2.1, ← htA.2.2, ← htB, ← htC]; first | with_reducible rfl | (simp [jm_cpL, jm_cpL, jm_cpL, c_3]; done)
                    rw [he] at hP hD
                    exact jm_retv C hP hD hK hS ⟨Nat.le_of_ble_eq_true rfl, Nat.le_of_ble_eq_true rfl⟩ dd_M_copyTables_133
                  · skip
                    exact absurd c_3 (by omega)
                | succ n ih_htC =>
                  intro k Y9 hi  htC H locs hP hD hS ls hl
                  refine lv_iload_n hx hb dd_M_copyTables_98 rfl (lv_at hl 0 rfl) ?_
                  refine lv_sipush (v := nI 768) hx hb dd_M_copyTables_99 (by decide) ?_
                  refine jl_ge (tgt := 133) hx hb (by omega) (by omega) dd_M_copyTables_102 (by decide) (fun c_4 => ?_) (fun c_4 => ?_)
                  · skip
                    exact absurd c_4 (by omega)
                  · skip
                    refine lv_aload_n hx hb dd_M_copyTables_105 rfl (lv_at hl 1 rfl) ?_
                    refine va_get (D := G) (ci := 4) (v := .ref qY) (C := cn_M) (T := ft_M) (N := 17) hx hb hts uw_M hown hK hP 0 rfl rfl 4 (by decide) (hts _ tw_597) (fun _ h9 => h9) rfl dd_M_copyTables_106 ?_
                    refine lv_iload_n hx hb dd_M_copyTables_109 rfl (lv_at hl 3 rfl) ?_
                    refine lv_bipush (v := nI 64) hx hb dd_M_copyTables_110 (by decide) ?_
                    refine jl_imul hx hb dd_M_copyTables_112 ?_
                    refine lv_iload_n hx hb dd_M_copyTables_113 rfl (lv_at hl 0 rfl) ?_
                    refine jl_iadd hx hb dd_M_copyTables_114 ?_
                    refine lv_aload_n hx hb dd_M_copyTables_115 rfl (lv_at hl 1 rfl) ?_
                    refine va_get (D := G) (ci := 4) (v := .ref qY) (C := cn_M) (T := ft_M) (N := 17) hx hb hts uw_M hown hK hP 0 rfl rfl 4 (by decide) (hts _ tw_597) (fun _ h9 => h9) rfl dd_M_copyTables_116 ?_
                    refine lv_iload_n hx hb dd_M_copyTables_119 rfl (lv_at hl 2 rfl) ?_
                    refine lv_bipush (v := nI 64) hx hb dd_M_copyTables_120 (by decide) ?_
                    refine jl_imul hx hb dd_M_copyTables_122 ?_
                    refine lv_iload_n hx hb dd_M_copyTables_123 rfl (lv_at hl 0 rfl) ?_
                    refine jl_iadd hx hb dd_M_copyTables_124 ?_
                    refine va_iald hx hb hK hP 5 4 rfl rfl (vp_in_nI (by omega) (by decide)) dd_M_copyTables_125 ?_
                    refine jl_top (jn_at (Y9) (by omega)) ?_
                    refine va_iast hx hb hK hP hD hS 5 4 rfl rfl (vp_in_nI (by omega) (by decide)) dd_M_copyTables_126 (fun H locs hP hD hS => ?_)
                    rw [jn_upd (Y9) (Y9 ((fr * 64) + k)) (by omega)] at hP hD
                    have hP : va_P G jcl (wM qM qK qZ qN qB qY qi qo qm qp c1 c2 c3 c4 c5 c6 c7 c8 c9 K9 Z9 N9 B9 (ju Y9 ((tt * 64) + k) (Y9 ((fr * 64) + k))) I O M P ct wr ofs th pa ey fo la) H := hP
                    have hD : va_D A (wM qM qK qZ qN qB qY qi qo qm qp c1 c2 c3 c4 c5 c6 c7 c8 c9 K9 Z9 N9 B9 (ju Y9 ((tt * 64) + k) (Y9 ((fr * 64) + k))) I O M P ct wr ofs th pa ey fo la) := hD
                    refine jl_iinc (lv' := [(3, .int (nI (k + 1))), (0, .ref qM), (1, .int (nI (fr))), (2, .int (nI (tt)))]) hx hb dd_M_copyTables_127 hl (k := 0) rfl (by decide) rfl (fun ls hl => ?_)
                    refine lv_goto (tgt := 98) hx hb dd_M_copyTables_130 (by decide) ?_
                    exact ih_htC (k + 1) (ju Y9 ((tt * 64) + k) (Y9 ((fr * 64) + k))) (by omega) (htC) _ _ hP hD hS ls (lv_sub hl [0, 1, 2, 3] rfl)
              exact loop_htC 768 0 Y (by omega) (rfl) _ _ hP hD hS ls (lv_sub hl [0, 1, 2, 3] rfl)
            · skip
              exact absurd c_2 (by omega)
          | succ n ih_htB =>
            intro k B9 hi  htB H locs hP hD hS ls hl
            refine lv_iload_n hx hb dd_M_copyTables_64 rfl (lv_at hl 0 rfl) ?_
            refine lv_bipush (v := nI 48) hx hb dd_M_copyTables_65 (by decide) ?_
            refine jl_ge (tgt := 96) hx hb (by omega) (by omega) dd_M_copyTables_67 (by decide) (fun c_5 => ?_) (fun c_5 => ?_)
            · skip
              exact absurd c_5 (by omega)
            · skip
              refine lv_aload_n hx hb dd_M_copyTables_70 rfl (lv_at hl 1 rfl) ?_
              refine va_get (D := G) (ci := 4) (v := .ref qB) (C := cn_M) (T := ft_M) (N := 17) hx hb hts uw_M hown hK hP 0 rfl rfl 3 (by decide) (hts _ tw_596) (fun _ h9 => h9) rfl dd_M_copyTables_71 ?_
              refine lv_iload_n hx hb dd_M_copyTables_74 rfl (lv_at hl 3 rfl) ?_
              refine lv_iconst (v := nI 4) hx hb dd_M_copyTables_75 (by decide) ?_
              refine jl_imul hx hb dd_M_copyTables_76 ?_
              refine lv_iload_n hx hb dd_M_copyTables_77 rfl (lv_at hl 0 rfl) ?_
              refine jl_iadd hx hb dd_M_copyTables_78 ?_
              refine lv_aload_n hx hb dd_M_copyTables_79 rfl (lv_at hl 1 rfl) ?_
              refine va_get (D := G) (ci := 4) (v := .ref qB) (C := cn_M) (T := ft_M) (N := 17) hx hb hts uw_M hown hK hP 0 rfl rfl 3 (by decide) (hts _ tw_596) (fun _ h9 => h9) rfl dd_M_copyTables_80 ?_
              refine lv_iload_n hx hb dd_M_copyTables_83 rfl (lv_at hl 2 rfl) ?_
              refine lv_iconst (v := nI 4) hx hb dd_M_copyTables_84 (by decide) ?_
              refine jl_imul hx hb dd_M_copyTables_85 ?_
              refine lv_iload_n hx hb dd_M_copyTables_86 rfl (lv_at hl 0 rfl) ?_
              refine jl_iadd hx hb dd_M_copyTables_87 ?_
              refine va_iald hx hb hK hP 4 3 rfl rfl (vp_in_nI (by omega) (by decide)) dd_M_copyTables_88 ?_
              refine jl_top (jn_at (B9) (by omega)) ?_
              refine va_iast hx hb hK hP hD hS 4 3 rfl rfl (vp_in_nI (by omega) (by decide)) dd_M_copyTables_89 (fun H locs hP hD hS => ?_)
              rw [jn_upd (B9) (B9 ((fr * 4) + k)) (by omega)] at hP hD
              have hP : va_P G jcl (wM qM qK qZ qN qB qY qi qo qm qp c1 c2 c3 c4 c5 c6 c7 c8 c9 K9 Z9 N9 (ju B9 ((tt * 4) + k) (B9 ((fr * 4) + k))) Y I O M P ct wr ofs th pa ey fo la) H := hP
              have hD : va_D A (wM qM qK qZ qN qB qY qi qo qm qp c1 c2 c3 c4 c5 c6 c7 c8 c9 K9 Z9 N9 (ju B9 ((tt * 4) + k) (B9 ((fr * 4) + k))) Y I O M P ct wr ofs th pa ey fo la) := hD
              refine jl_iinc (lv' := [(3, .int (nI (k + 1))), (0, .ref qM), (1, .int (nI (fr))), (2, .int (nI (tt)))]) hx hb dd_M_copyTables_90 hl (k := 0) rfl (by decide) rfl (fun ls hl => ?_)
              refine lv_goto (tgt := 64) hx hb dd_M_copyTables_93 (by decide) ?_
              exact ih_htB (k + 1) (ju B9 ((tt * 4) + k) (B9 ((fr * 4) + k))) (by omega) (htB) _ _ hP hD hS ls (lv_sub hl [0, 1, 2, 3] rfl)
        exact loop_htB 48 0 B (by omega) (rfl) _ _ hP hD hS ls (lv_sub hl [0, 1, 2, 3] rfl)
      · skip
        exact absurd c_1 (by omega)
    | succ n ih_htA =>
      intro k K9 Z9 N9 hi  htA H locs hP hD hS ls hl
      refine lv_iload_n hx hb dd_M_copyTables_2 rfl (lv_at hl 0 rfl) ?_
      refine lv_bipush (v := nI 12) hx hb dd_M_copyTables_3 (by decide) ?_
      refine jl_ge (tgt := 62) hx hb (by omega) (by omega) dd_M_copyTables_5 (by decide) (fun c_6 => ?_) (fun c_6 => ?_)
      · skip
        exact absurd c_6 (by omega)
      · skip
        refine lv_aload_n hx hb dd_M_copyTables_8 rfl (lv_at hl 1 rfl) ?_
        refine va_get (D := G) (ci := 4) (v := .ref qK) (C := cn_M) (T := ft_M) (N := 17) hx hb hts uw_M hown hK hP 0 rfl rfl 0 (by decide) (hts _ tw_593) (fun _ h9 => h9) rfl dd_M_copyTables_9 ?_
        refine lv_iload_n hx hb dd_M_copyTables_12 rfl (lv_at hl 3 rfl) ?_
        refine lv_iload_n hx hb dd_M_copyTables_13 rfl (lv_at hl 0 rfl) ?_
        refine jl_iadd hx hb dd_M_copyTables_14 ?_
        refine lv_aload_n hx hb dd_M_copyTables_15 rfl (lv_at hl 1 rfl) ?_
        refine va_get (D := G) (ci := 4) (v := .ref qK) (C := cn_M) (T := ft_M) (N := 17) hx hb hts uw_M hown hK hP 0 rfl rfl 0 (by decide) (hts _ tw_593) (fun _ h9 => h9) rfl dd_M_copyTables_16 ?_
        refine lv_iload_n hx hb dd_M_copyTables_19 rfl (lv_at hl 2 rfl) ?_
        refine lv_iload_n hx hb dd_M_copyTables_20 rfl (lv_at hl 0 rfl) ?_
        refine jl_iadd hx hb dd_M_copyTables_21 ?_
        refine va_iald hx hb hK hP 1 0 rfl rfl (vp_in_nI (by omega) (by decide)) dd_M_copyTables_22 ?_
        refine jl_top (jn_at (K9) (by omega)) ?_
        refine va_iast hx hb hK hP hD hS 1 0 rfl rfl (vp_in_nI (by omega) (by decide)) dd_M_copyTables_23 (fun H locs hP hD hS => ?_)
        rw [jn_upd (K9) (K9 (fr + k)) (by omega)] at hP hD
        have hP : va_P G jcl (wM qM qK qZ qN qB qY qi qo qm qp c1 c2 c3 c4 c5 c6 c7 c8 c9 (ju K9 (tt + k) (K9 (fr + k))) Z9 N9 B Y I O M P ct wr ofs th pa ey fo la) H := hP
        have hD : va_D A (wM qM qK qZ qN qB qY qi qo qm qp c1 c2 c3 c4 c5 c6 c7 c8 c9 (ju K9 (tt + k) (K9 (fr + k))) Z9 N9 B Y I O M P ct wr ofs th pa ey fo la) := hD
        refine lv_aload_n hx hb dd_M_copyTables_24 rfl (lv_at hl 1 rfl) ?_
        refine va_get (D := G) (ci := 4) (v := .ref qZ) (C := cn_M) (T := ft_M) (N := 17) hx hb hts uw_M hown hK hP 0 rfl rfl 1 (by decide) (hts _ tw_594) (fun _ h9 => h9) rfl dd_M_copyTables_25 ?_
        refine lv_iload_n hx hb dd_M_copyTables_28 rfl (lv_at hl 3 rfl) ?_
        refine lv_iload_n hx hb dd_M_copyTables_29 rfl (lv_at hl 0 rfl) ?_
        refine jl_iadd hx hb dd_M_copyTables_30 ?_
        refine lv_aload_n hx hb dd_M_copyTables_31 rfl (lv_at hl 1 rfl) ?_
        refine va_get (D := G) (ci := 4) (v := .ref qZ) (C := cn_M) (T := ft_M) (N := 17) hx hb hts uw_M hown hK hP 0 rfl rfl 1 (by decide) (hts _ tw_594) (fun _ h9 => h9) rfl dd_M_copyTables_32 ?_
        refine lv_iload_n hx hb dd_M_copyTables_35 rfl (lv_at hl 2 rfl) ?_
        refine lv_iload_n hx hb dd_M_copyTables_36 rfl (lv_at hl 0 rfl) ?_
        refine jl_iadd hx hb dd_M_copyTables_37 ?_
        refine va_iald hx hb hK hP 2 1 rfl rfl (vp_in_nI (by omega) (by decide)) dd_M_copyTables_38 ?_
        refine jl_top (jn_at (Z9) (by omega)) ?_
        refine va_iast hx hb hK hP hD hS 2 1 rfl rfl (vp_in_nI (by omega) (by decide)) dd_M_copyTables_39 (fun H locs hP hD hS => ?_)
        rw [jn_upd (Z9) (Z9 (fr + k)) (by omega)] at hP hD
        have hP : va_P G jcl (wM qM qK qZ qN qB qY qi qo qm qp c1 c2 c3 c4 c5 c6 c7 c8 c9 (ju K9 (tt + k) (K9 (fr + k))) (ju Z9 (tt + k) (Z9 (fr + k))) N9 B Y I O M P ct wr ofs th pa ey fo la) H := hP
        have hD : va_D A (wM qM qK qZ qN qB qY qi qo qm qp c1 c2 c3 c4 c5 c6 c7 c8 c9 (ju K9 (tt + k) (K9 (fr + k))) (ju Z9 (tt + k) (Z9 (fr + k))) N9 B Y I O M P ct wr ofs th pa ey fo la) := hD
        refine lv_aload_n hx hb dd_M_copyTables_40 rfl (lv_at hl 1 rfl) ?_
        refine va_get (D := G) (ci := 4) (v := .ref qN) (C := cn_M) (T := ft_M) (N := 17) hx hb hts uw_M hown hK hP 0 rfl rfl 2 (by decide) (hts _ tw_595) (fun _ h9 => h9) rfl dd_M_copyTables_41 ?_
        refine lv_iload_n hx hb dd_M_copyTables_44 rfl (lv_at hl 3 rfl) ?_
        refine lv_iload_n hx hb dd_M_copyTables_45 rfl (lv_at hl 0 rfl) ?_
        refine jl_iadd hx hb dd_M_copyTables_46 ?_
        refine lv_aload_n hx hb dd_M_copyTables_47 rfl (lv_at hl 1 rfl) ?_
        refine va_get (D := G) (ci := 4) (v := .ref qN) (C := cn_M) (T := ft_M) (N := 17) hx hb hts uw_M hown hK hP 0 rfl rfl 2 (by decide) (hts _ tw_595) (fun _ h9 => h9) rfl dd_M_copyTables_48 ?_
        refine lv_iload_n hx hb dd_M_copyTables_51 rfl (lv_at hl 2 rfl) ?_
        refine lv_iload_n hx hb dd_M_copyTables_52 rfl (lv_at hl 0 rfl) ?_
        refine jl_iadd hx hb dd_M_copyTables_53 ?_
        refine va_iald hx hb hK hP 3 2 rfl rfl (vp_in_nI (by omega) (by decide)) dd_M_copyTables_54 ?_
        refine jl_top (jn_at (N9) (by omega)) ?_
        refine va_iast hx hb hK hP hD hS 3 2 rfl rfl (vp_in_nI (by omega) (by decide)) dd_M_copyTables_55 (fun H locs hP hD hS => ?_)
        rw [jn_upd (N9) (N9 (fr + k)) (by omega)] at hP hD
        have hP : va_P G jcl (wM qM qK qZ qN qB qY qi qo qm qp c1 c2 c3 c4 c5 c6 c7 c8 c9 (ju K9 (tt + k) (K9 (fr + k))) (ju Z9 (tt + k) (Z9 (fr + k))) (ju N9 (tt + k) (N9 (fr + k))) B Y I O M P ct wr ofs th pa ey fo la) H := hP
        have hD : va_D A (wM qM qK qZ qN qB qY qi qo qm qp c1 c2 c3 c4 c5 c6 c7 c8 c9 (ju K9 (tt + k) (K9 (fr + k))) (ju Z9 (tt + k) (Z9 (fr + k))) (ju N9 (tt + k) (N9 (fr + k))) B Y I O M P ct wr ofs th pa ey fo la) := hD
        refine jl_iinc (lv' := [(3, .int (nI (k + 1))), (0, .ref qM), (1, .int (nI (fr))), (2, .int (nI (tt)))]) hx hb dd_M_copyTables_56 hl (k := 0) rfl (by decide) rfl (fun ls hl => ?_)
        refine lv_goto (tgt := 2) hx hb dd_M_copyTables_59 (by decide) ?_
        exact ih_htA (k + 1) (ju K9 (tt + k) (K9 (fr + k))) (ju Z9 (tt + k) (Z9 (fr + k))) (ju N9 (tt + k) (N9 (fr + k))) (by omega) (htA) _ _ hP hD hS ls (lv_sub hl [0, 1, 2, 3] rfl)
  exact loop_htA 12 0 K Z N (by omega) (⟨rfl, rfl, rfl⟩) _ _ hP hD hS ls (lv_sub hl [0, 1, 2, 3] rfl)
set_option maxHeartbeats 4000000 in
set_option maxRecDepth 100000 in
theorem ct_M_crash (l : Launch) (G : va_G) (qM qK qZ qN qB qY qi qo qm qp : Nat) (c1 c2 c3 c4 c5 c6 c7 c8 c9 : ClassId) (K : Nat → Nat) (Z : Nat → Nat) (N : Nat → Nat) (B : Nat → Nat) (Y : Nat → Nat) (I : Nat → Nat) (O : Nat → Nat) (M : Nat → Nat) (P : Nat → Nat) (ct : Nat) (wr : Nat) (ofs : Nat) (th : Nat) (pa : Option Nat) (ey : Option Nat) (fo : Option Nat) (la : Nat)   : jm l yn_M_crash (.code yn_M_crash cd_M_crash 2 none) { frames := 1, cells := 0, slots := 0, locals := 23 } G (tM c1 c2 c3 c4 c5 c6 c7 c8 c9) (wM qM qK qZ qN qB qY qi qo qm qp c1 c2 c3 c4 c5 c6 c7 c8 c9 K Z N B Y I O M P ct wr ofs th pa ey fo la) [.ref qM] none (wM qM qK qZ qN qB qY qi qo qm qp c1 c2 c3 c4 c5 c6 c7 c8 c9 (jm_cpL 12 0 12 0 K) (jm_cpL 12 0 12 0 Z) (jm_cpL 12 0 12 0 N) (jm_cpL (12 * 4) (0 * 4) 48 0 B) (jm_cpL (12 * 64) (0 * 64) 768 0 Y) (jm_clL 6 0 I) O M P ct wr (ofs + 1) 0 pa ey fo la) := by
  refine jm_of (by decide) (Nat.le_of_ble_eq_true rfl) ?_
  intro pr en σ mi bel met cd ls A hA C hP hK hD hS hl
  have hx := C.1
  have hb := C.2.1
  have hown := C.2.2.2.1
  have hts := C.2.2.2.2.1
  have hl : lv_has ls 2 [(0, .ref qM)] := hl
  refine lv_aload_n hx hb dd_M_crash_0 rfl (lv_at hl 0 rfl) ?_
  refine lv_iconst (v := nI 0) hx hb dd_M_crash_1 (by decide) ?_
  refine va_put (D := G) (ci := 4) (v := .int (nI (0))) (ty := .int) (C := cn_M) (T := ft_M) (N := 17) hx hb hts uw_M fy_M fo_M fn_M hown hK hP hD hS 0 rfl rfl 12 (by decide) (hts _ tw_605) (fun _ h9 => h9) rfl (by decide +kernel) rfl rfl (Nat.le_of_ble_eq_true rfl) dd_M_crash_2 (fun H locs hP hD hS => ?_)
  have hP : va_P G jcl (wM qM qK qZ qN qB qY qi qo qm qp c1 c2 c3 c4 c5 c6 c7 c8 c9 K Z N B Y I O M P ct wr ofs 0 pa ey fo la) H := hP
  have hD : va_D A (wM qM qK qZ qN qB qY qi qo qm qp c1 c2 c3 c4 c5 c6 c7 c8 c9 K Z N B Y I O M P ct wr ofs 0 pa ey fo la) := hD
  refine lv_aload_n hx hb dd_M_crash_5 rfl (lv_at hl 0 rfl) ?_
  refine lv_bipush (v := nI 12) hx hb dd_M_crash_6 (by decide) ?_
  refine lv_iconst (v := nI 0) hx hb dd_M_crash_8 (by decide) ?_
  refine jm_callV (wr := []) C (ct_M_copyTables l G qM qK qZ qN qB qY qi qo qm qp c1 c2 c3 c4 c5 c6 c7 c8 c9 K Z N B Y I O M P ct wr ofs 0 pa ey fo la 12 0 (by omega) (by omega)) kl_M_139 ⟨Nat.le_of_ble_eq_true rfl, Nat.le_of_ble_eq_true rfl⟩ ⟨Nat.le_of_ble_eq_true rfl, Nat.le_of_ble_eq_true rfl⟩ hP hD hS hA (hK) (va_recv hK hP (ci := 4) (q0 := 0) rfl rfl) hl.1 rfl rfl (Nat.le_of_ble_eq_true rfl) dd_M_crash_9 (fun H locs hP hD hS => ?_)
  have hP : va_P G jcl (wM qM qK qZ qN qB qY qi qo qm qp c1 c2 c3 c4 c5 c6 c7 c8 c9 (jm_cpL 12 0 12 0 K) (jm_cpL 12 0 12 0 Z) (jm_cpL 12 0 12 0 N) (jm_cpL (12 * 4) (0 * 4) 48 0 B) (jm_cpL (12 * 64) (0 * 64) 768 0 Y) I O M P ct wr ofs 0 pa ey fo la) H := hP
  have hD : va_D A (wM qM qK qZ qN qB qY qi qo qm qp c1 c2 c3 c4 c5 c6 c7 c8 c9 (jm_cpL 12 0 12 0 K) (jm_cpL 12 0 12 0 Z) (jm_cpL 12 0 12 0 N) (jm_cpL (12 * 4) (0 * 4) 48 0 B) (jm_cpL (12 * 64) (0 * 64) 768 0 Y) I O M P ct wr ofs 0 pa ey fo la) := hD
  refine lv_iconst (v := nI 0) hx hb dd_M_crash_12 (by decide) ?_
  refine lv_istore_n (lv' := [(1, .int (nI (0))), (0, .ref qM)]) hx hb dd_M_crash_13 rfl hl (by decide) rfl (fun ls hl => ?_)
  have loop : ∀ (n : Nat) (h : Nat) (I9 : Nat → Nat), (h + n = 6) → jm_clL n h I9 = jm_clL 6 0 I → ∀ (H : Heap) (locs : List Loc), va_P G jcl (wM qM qK qZ qN qB qY qi qo qm qp c1 c2 c3 c4 c5 c6 c7 c8 c9 (jm_cpL 12 0 12 0 K) (jm_cpL 12 0 12 0 Z) (jm_cpL 12 0 12 0 N) (jm_cpL (12 * 4) (0 * 4) 48 0 B) (jm_cpL (12 * 64) (0 * 64) 768 0 Y) I9 O M P ct wr ofs 0 pa ey fo la) H → va_D A (wM qM qK qZ qN qB qY qi qo qm qp c1 c2 c3 c4 c5 c6 c7 c8 c9 (jm_cpL 12 0 12 0 K) (jm_cpL 12 0 12 0 Z) (jm_cpL 12 0 12 0 N) (jm_cpL (12 * 4) (0 * 4) 48 0 B) (jm_cpL (12 * 64) (0 * 64) 768 0 Y) I9 O M P ct wr ofs 0 pa ey fo la) → va_S A σ.heap H locs → ∀ ls : Array Slot, lv_has ls 2 [(1, .int (nI (h))), (0, .ref qM)] → W pr l en { frames := 1, cells := 0, slots := 0, locals := 23 } σ mi ([.ref qM] : List Value).toArray bel met cd H locs 0 0 (jm_Q bel { frames := 1, cells := 0, slots := 0, locals := 23 } G (tM c1 c2 c3 c4 c5 c6 c7 c8 c9) A [.ref qM] σ none (wM qM qK qZ qN qB qY qi qo qm qp c1 c2 c3 c4 c5 c6 c7 c8 c9 (jm_cpL 12 0 12 0 K) (jm_cpL 12 0 12 0 Z) (jm_cpL 12 0 12 0 N) (jm_cpL (12 * 4) (0 * 4) 48 0 B) (jm_cpL (12 * 64) (0 * 64) 768 0 Y) (jm_clL 6 0 I) O M P ct wr (ofs + 1) 0 pa ey fo la)) (F0 mi 14 ls []) := by
    intro n
    induction n with
    | zero =>
      intro h I9 hi  ht H locs hP hD hS ls hl
      refine lv_iload_n hx hb dd_M_crash_14 rfl (lv_at hl 0 rfl) ?_
      refine lv_bipush (v := nI 6) hx hb dd_M_crash_15 (by decide) ?_
      refine jl_ge (tgt := 33) hx hb (by omega) (by omega) dd_M_crash_17 (by decide) (fun c_1 => ?_) (fun c_1 => ?_)
      · skip
        refine lv_aload_n hx hb dd_M_crash_33 rfl (lv_at hl 1 rfl) ?_
        refine lv_dup hx hb dd_M_crash_34 rfl ?_
        refine va_get (D := G) (ci := 4) (v := .int (nI (ofs))) (C := cn_M) (T := ft_M) (N := 17) hx hb hts uw_M hown hK hP 0 rfl rfl 11 (by decide) (hts _ tw_604) (fun _ h9 => h9) rfl dd_M_crash_35 ?_
        refine lv_iconst (v := nI 1) hx hb dd_M_crash_38 (by decide) ?_
        refine jl_iadd hx hb dd_M_crash_39 ?_
        refine va_put (D := G) (ci := 4) (v := .int (nI (ofs + 1))) (ty := .int) (C := cn_M) (T := ft_M) (N := 17) hx hb hts uw_M fy_M fo_M fn_M hown hK hP hD hS 0 rfl rfl 11 (by decide) (hts _ tw_604) (fun _ h9 => h9) rfl (by decide +kernel) rfl rfl (Nat.le_of_ble_eq_true rfl) dd_M_crash_40 (fun H locs hP hD hS => ?_)
        have hP : va_P G jcl (wM qM qK qZ qN qB qY qi qo qm qp c1 c2 c3 c4 c5 c6 c7 c8 c9 (jm_cpL 12 0 12 0 K) (jm_cpL 12 0 12 0 Z) (jm_cpL 12 0 12 0 N) (jm_cpL (12 * 4) (0 * 4) 48 0 B) (jm_cpL (12 * 64) (0 * 64) 768 0 Y) I9 O M P ct wr (ofs + 1) 0 pa ey fo la) H := hP
        have hD : va_D A (wM qM qK qZ qN qB qY qi qo qm qp c1 c2 c3 c4 c5 c6 c7 c8 c9 (jm_cpL 12 0 12 0 K) (jm_cpL 12 0 12 0 Z) (jm_cpL 12 0 12 0 N) (jm_cpL (12 * 4) (0 * 4) 48 0 B) (jm_cpL (12 * 64) (0 * 64) 768 0 Y) I9 O M P ct wr (ofs + 1) 0 pa ey fo la) := hD
        have he : wM qM qK qZ qN qB qY qi qo qm qp c1 c2 c3 c4 c5 c6 c7 c8 c9 (jm_cpL 12 0 12 0 K) (jm_cpL 12 0 12 0 Z) (jm_cpL 12 0 12 0 N) (jm_cpL (12 * 4) (0 * 4) 48 0 B) (jm_cpL (12 * 64) (0 * 64) 768 0 Y) I9 O M P ct wr (ofs + 1) 0 pa ey fo la = wM qM qK qZ qN qB qY qi qo qm qp c1 c2 c3 c4 c5 c6 c7 c8 c9 (jm_cpL 12 0 12 0 K) (jm_cpL 12 0 12 0 Z) (jm_cpL 12 0 12 0 N) (jm_cpL (12 * 4) (0 * 4) 48 0 B) (jm_cpL (12 * 64) (0 * 64) 768 0 Y) (jm_clL 6 0 I) O M P ct wr (ofs + 1) 0 pa ey fo la := by rw [← ht]; first | with_reducible rfl | (simp [jm_clL, c_1]; done)
        rw [he] at hP hD
        exact jm_retv C hP hD hK hS ⟨Nat.le_of_ble_eq_true rfl, Nat.le_of_ble_eq_true rfl⟩ dd_M_crash_43
      · skip
        exact absurd c_1 (by omega)
    | succ n ih =>
      intro h I9 hi  ht H locs hP hD hS ls hl
      refine lv_iload_n hx hb dd_M_crash_14 rfl (lv_at hl 0 rfl) ?_
      refine lv_bipush (v := nI 6) hx hb dd_M_crash_15 (by decide) ?_
      refine jl_ge (tgt := 33) hx hb (by omega) (by omega) dd_M_crash_17 (by decide) (fun c_2 => ?_) (fun c_2 => ?_)
      · skip
        exact absurd c_2 (by omega)
      · skip
        refine lv_aload_n hx hb dd_M_crash_20 rfl (lv_at hl 1 rfl) ?_
        refine va_get (D := G) (ci := 4) (v := .ref qi) (C := cn_M) (T := ft_M) (N := 17) hx hb hts uw_M hown hK hP 0 rfl rfl 5 (by decide) (hts _ tw_598) (fun _ h9 => h9) rfl dd_M_crash_21 ?_
        refine lv_iload_n hx hb dd_M_crash_24 rfl (lv_at hl 0 rfl) ?_
        refine lv_iconst (v := nI 0) hx hb dd_M_crash_25 (by decide) ?_
        refine va_iast hx hb hK hP hD hS 6 5 rfl rfl (vp_in_nI (by omega) (by decide)) dd_M_crash_26 (fun H locs hP hD hS => ?_)
        rw [jn_upd (I9) (0) (by omega)] at hP hD
        have hP : va_P G jcl (wM qM qK qZ qN qB qY qi qo qm qp c1 c2 c3 c4 c5 c6 c7 c8 c9 (jm_cpL 12 0 12 0 K) (jm_cpL 12 0 12 0 Z) (jm_cpL 12 0 12 0 N) (jm_cpL (12 * 4) (0 * 4) 48 0 B) (jm_cpL (12 * 64) (0 * 64) 768 0 Y) (ju I9 h 0) O M P ct wr ofs 0 pa ey fo la) H := hP
        have hD : va_D A (wM qM qK qZ qN qB qY qi qo qm qp c1 c2 c3 c4 c5 c6 c7 c8 c9 (jm_cpL 12 0 12 0 K) (jm_cpL 12 0 12 0 Z) (jm_cpL 12 0 12 0 N) (jm_cpL (12 * 4) (0 * 4) 48 0 B) (jm_cpL (12 * 64) (0 * 64) 768 0 Y) (ju I9 h 0) O M P ct wr ofs 0 pa ey fo la) := hD
        refine jl_iinc (lv' := [(1, .int (nI (h + 1))), (0, .ref qM)]) hx hb dd_M_crash_27 hl (k := 0) rfl (by decide) rfl (fun ls hl => ?_)
        refine lv_goto (tgt := 14) hx hb dd_M_crash_30 (by decide) ?_
        exact ih (h + 1) (ju I9 h 0) (by omega) (ht) _ _ hP hD hS ls (lv_sub hl [0, 1] rfl)
  exact loop 6 0 I (by omega) (rfl) _ _ hP hD hS ls (lv_sub hl [0, 1] rfl)
