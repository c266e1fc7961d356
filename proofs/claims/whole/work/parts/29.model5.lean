set_option maxHeartbeats 4000000 in
set_option maxRecDepth 100000 in
theorem ct_M_cutPower (l : Launch) (G : va_G) (qM qK qZ qN qB qY qi qo qm qp : Nat) (c1 c2 c3 c4 c5 c6 c7 c8 c9 : ClassId) (K : Nat → Nat) (Z : Nat → Nat) (N : Nat → Nat) (B : Nat → Nat) (Y : Nat → Nat) (I : Nat → Nat) (O : Nat → Nat) (M : Nat → Nat) (P : Nat → Nat) (ct : Nat) (wr : Nat) (ofs : Nat) (th : Nat) (pa : Option Nat) (ey : Option Nat) (fo : Option Nat) (la : Nat) (z : Nat) (hz0 : z < 4294967296) : jm l yn_M_cutPower (.code yn_M_cutPower cd_M_cutPower 2 none) { frames := 0, cells := 0, slots := 0, locals := 0 } G (tM c1 c2 c3 c4 c5 c6 c7 c8 c9) (wM qM qK qZ qN qB qY qi qo qm qp c1 c2 c3 c4 c5 c6 c7 c8 c9 K Z N B Y I O M P ct wr ofs th pa ey fo la) [.ref qM, .int (nI (z))] none (wM qM qK qZ qN qB qY qi qo qm qp c1 c2 c3 c4 c5 c6 c7 c8 c9 K Z N B Y I O M P (if 100 < z then ct else z) wr ofs (if 100 < z then 1 else 0) pa ey fo la) := by
  refine jm_of (by decide) (Nat.le_of_ble_eq_true rfl) ?_
  intro pr en σ mi bel met cd ls A hA C hP hK hD hS hl
  have hx := C.1
  have hb := C.2.1
  have hown := C.2.2.2.1
  have hts := C.2.2.2.2.1
  have hl : lv_has ls 2 [(0, .ref qM), (1, .int (nI (z)))] := hl
  refine lv_aload_n hx hb dd_M_cutPower_0 rfl (lv_at hl 0 rfl) ?_
  refine lv_iload_n hx hb dd_M_cutPower_1 rfl (lv_at hl 1 rfl) ?_
  refine jl_iflt32 (tgt := 11) hx hb (by omega) dd_M_cutPower_2 (by decide) (fun c_1 => ?_) (fun c_1 => ?_)
  · skip
    refine lv_iconst (v := nI 1) hx hb dd_M_cutPower_11 (by decide) ?_
    refine lv_goto (tgt := 16) hx hb dd_M_cutPower_12 (by decide) ?_
    refine va_put (D := G) (ci := 4) (v := .int (nI (1))) (ty := .int) (C := cn_M) (T := ft_M) (N := 17) hx hb hts uw_M fy_M fo_M fn_M hown hK hP hD hS 0 rfl rfl 12 (by decide) (hts _ tw_605) (fun _ h9 => h9) rfl (by decide +kernel) rfl rfl (Nat.le_of_ble_eq_true rfl) dd_M_cutPower_16 (fun H locs hP hD hS => ?_)
    have hP : va_P G jcl (wM qM qK qZ qN qB qY qi qo qm qp c1 c2 c3 c4 c5 c6 c7 c8 c9 K Z N B Y I O M P ct wr ofs 1 pa ey fo la) H := hP
    have hD : va_D A (wM qM qK qZ qN qB qY qi qo qm qp c1 c2 c3 c4 c5 c6 c7 c8 c9 K Z N B Y I O M P ct wr ofs 1 pa ey fo la) := hD
    refine lv_aload_n hx hb dd_M_cutPower_19 rfl (lv_at hl 0 rfl) ?_
    refine va_get (D := G) (ci := 4) (v := .int (nI (1))) (C := cn_M) (T := ft_M) (N := 17) hx hb hts uw_M hown hK hP 0 rfl rfl 12 (by decide) (hts _ tw_605) (fun _ h9 => h9) rfl dd_M_cutPower_20 ?_
    refine jl_ifne (tgt := 31) hx hb (by omega) dd_M_cutPower_23 (by decide) (fun c_2 => ?_) (fun c_2 => ?_)
    · skip
      have he : wM qM qK qZ qN qB qY qi qo qm qp c1 c2 c3 c4 c5 c6 c7 c8 c9 K Z N B Y I O M P ct wr ofs 1 pa ey fo la = wM qM qK qZ qN qB qY qi qo qm qp c1 c2 c3 c4 c5 c6 c7 c8 c9 K Z N B Y I O M P (if 100 < z then ct else z) wr ofs (if 100 < z then 1 else 0) pa ey fo la := by first | with_reducible rfl | (simp [c_1, c_2]; done) | (simp [show 100 < z by omega, c_1, c_2]; done) | (simp [show ¬ 100 < z by omega, c_1, c_2]; done)
      rw [he] at hP hD
      exact jm_retv C hP hD hK hS ⟨Nat.le_of_ble_eq_true rfl, Nat.le_of_ble_eq_true rfl⟩ dd_M_cutPower_31
    · skip
      exact absurd c_2 (by omega)
  · skip
    refine lv_iload_n hx hb dd_M_cutPower_5 rfl (lv_at hl 1 rfl) ?_
    refine lv_bipush (v := nI 100) hx hb dd_M_cutPower_6 (by decide) ?_
    refine jl_le (tgt := 15) hx hb (by omega) (by omega) dd_M_cutPower_8 (by decide) (fun c_3 => ?_) (fun c_3 => ?_)
    · skip
      refine lv_iconst (v := nI 0) hx hb dd_M_cutPower_15 (by decide) ?_
      refine va_put (D := G) (ci := 4) (v := .int (nI (0))) (ty := .int) (C := cn_M) (T := ft_M) (N := 17) hx hb hts uw_M fy_M fo_M fn_M hown hK hP hD hS 0 rfl rfl 12 (by decide) (hts _ tw_605) (fun _ h9 => h9) rfl (by decide +kernel) rfl rfl (Nat.le_of_ble_eq_true rfl) dd_M_cutPower_16 (fun H locs hP hD hS => ?_)
      have hP : va_P G jcl (wM qM qK qZ qN qB qY qi qo qm qp c1 c2 c3 c4 c5 c6 c7 c8 c9 K Z N B Y I O M P ct wr ofs 0 pa ey fo la) H := hP
      have hD : va_D A (wM qM qK qZ qN qB qY qi qo qm qp c1 c2 c3 c4 c5 c6 c7 c8 c9 K Z N B Y I O M P ct wr ofs 0 pa ey fo la) := hD
      refine lv_aload_n hx hb dd_M_cutPower_19 rfl (lv_at hl 0 rfl) ?_
      refine va_get (D := G) (ci := 4) (v := .int (nI (0))) (C := cn_M) (T := ft_M) (N := 17) hx hb hts uw_M hown hK hP 0 rfl rfl 12 (by decide) (hts _ tw_605) (fun _ h9 => h9) rfl dd_M_cutPower_20 ?_
      refine jl_ifne (tgt := 31) hx hb (by omega) dd_M_cutPower_23 (by decide) (fun c_4 => ?_) (fun c_4 => ?_)
      · skip
        exact absurd c_4 (by omega)
      · skip
        refine lv_aload_n hx hb dd_M_cutPower_26 rfl (lv_at hl 0 rfl) ?_
        refine lv_iload_n hx hb dd_M_cutPower_27 rfl (lv_at hl 1 rfl) ?_
        refine va_put (D := G) (ci := 4) (v := .int (nI (z))) (ty := .int) (C := cn_M) (T := ft_M) (N := 17) hx hb hts uw_M fy_M fo_M fn_M hown hK hP hD hS 0 rfl rfl 9 (by decide) (hts _ tw_602) (fun _ h9 => h9) rfl (by decide +kernel) rfl rfl (Nat.le_of_ble_eq_true rfl) dd_M_cutPower_28 (fun H locs hP hD hS => ?_)
        have hP : va_P G jcl (wM qM qK qZ qN qB qY qi qo qm qp c1 c2 c3 c4 c5 c6 c7 c8 c9 K Z N B Y I O M P z wr ofs 0 pa ey fo la) H := hP
        have hD : va_D A (wM qM qK qZ qN qB qY qi qo qm qp c1 c2 c3 c4 c5 c6 c7 c8 c9 K Z N B Y I O M P z wr ofs 0 pa ey fo la) := hD
        have he : wM qM qK qZ qN qB qY qi qo qm qp c1 c2 c3 c4 c5 c6 c7 c8 c9 K Z N B Y I O M P z wr ofs 0 pa ey fo la = wM qM qK qZ qN qB qY qi qo qm qp c1 c2 c3 c4 c5 c6 c7 c8 c9 K Z N B Y I O M P (if 100 < z then ct else z) wr ofs (if 100 < z then 1 else 0) pa ey fo la := by first | with_reducible rfl | (simp [c_1, c_3, c_4]; done) | (simp [show 100 < z by omega, c_1, c_3, c_4]; done) | (simp [show ¬ 100 < z by omega, c_1, c_3, c_4]; done)
        rw [he] at hP hD
        exact jm_retv C hP hD hK hS ⟨Nat.le_of_ble_eq_true rfl, Nat.le_of_ble_eq_true rfl⟩ dd_M_cutPower_31
    · skip
      refine lv_iconst (v := nI 1) hx hb dd_M_cutPower_11 (by decide) ?_
      refine lv_goto (tgt := 16) hx hb dd_M_cutPower_12 (by decide) ?_
      refine va_put (D := G) (ci := 4) (v := .int (nI (1))) (ty := .int) (C := cn_M) (T := ft_M) (N := 17) hx hb hts uw_M fy_M fo_M fn_M hown hK hP hD hS 0 rfl rfl 12 (by decide) (hts _ tw_605) (fun _ h9 => h9) rfl (by decide +kernel) rfl rfl (Nat.le_of_ble_eq_true rfl) dd_M_cutPower_16 (fun H locs hP hD hS => ?_)
      have hP : va_P G jcl (wM qM qK qZ qN qB qY qi qo qm qp c1 c2 c3 c4 c5 c6 c7 c8 c9 K Z N B Y I O M P ct wr ofs 1 pa ey fo la) H := hP
      have hD : va_D A (wM qM qK qZ qN qB qY qi qo qm qp c1 c2 c3 c4 c5 c6 c7 c8 c9 K Z N B Y I O M P ct wr ofs 1 pa ey fo la) := hD
      refine lv_aload_n hx hb dd_M_cutPower_19 rfl (lv_at hl 0 rfl) ?_
      refine va_get (D := G) (ci := 4) (v := .int (nI (1))) (C := cn_M) (T := ft_M) (N := 17) hx hb hts uw_M hown hK hP 0 rfl rfl 12 (by decide) (hts _ tw_605) (fun _ h9 => h9) rfl dd_M_cutPower_20 ?_
      refine jl_ifne (tgt := 31) hx hb (by omega) dd_M_cutPower_23 (by decide) (fun c_5 => ?_) (fun c_5 => ?_)
      · skip
        have he : wM qM qK qZ qN qB qY qi qo qm qp c1 c2 c3 c4 c5 c6 c7 c8 c9 K Z N B Y I O M P ct wr ofs 1 pa ey fo la = wM qM qK qZ qN qB qY qi qo qm qp c1 c2 c3 c4 c5 c6 c7 c8 c9 K Z N B Y I O M P (if 100 < z then ct else z) wr ofs (if 100 < z then 1 else 0) pa ey fo la := by first | with_reducible rfl | (simp [c_1, c_3, c_5]; done) | (simp [show 100 < z by omega, c_1, c_3, c_5]; done) | (simp [show ¬ 100 < z by omega, c_1, c_3, c_5]; done)
        rw [he] at hP hD
        exact jm_retv C hP hD hK hS ⟨Nat.le_of_ble_eq_true rfl, Nat.le_of_ble_eq_true rfl⟩ dd_M_cutPower_31
      · skip
        exact absurd c_5 (by omega)
set_option maxHeartbeats 4000000 in
set_option maxRecDepth 100000 in
theorem ct_M_close (l : Launch) (G : va_G) (qM qK qZ qN qB qY qi qo qm qp : Nat) (c1 c2 c3 c4 c5 c6 c7 c8 c9 : ClassId) (K : Nat → Nat) (Z : Nat → Nat) (N : Nat → Nat) (B : Nat → Nat) (Y : Nat → Nat) (I : Nat → Nat) (O : Nat → Nat) (M : Nat → Nat) (P : Nat → Nat) (ct : Nat) (wr : Nat) (ofs : Nat) (th : Nat) (pa : Option Nat) (ey : Option Nat) (fo : Option Nat) (la : Nat) (h : Nat) (hh0 : h < 4294967296) (hI : jlt 13 I) : jm l yn_M_close (.code yn_M_close cd_M_close 2 none) { frames := 0, cells := 0, slots := 0, locals := 0 } G (tM c1 c2 c3 c4 c5 c6 c7 c8 c9) (wM qM qK qZ qN qB qY qi qo qm qp c1 c2 c3 c4 c5 c6 c7 c8 c9 K Z N B Y I O M P ct wr ofs th pa ey fo la) [.ref qM, .int (nI (h))] none (wM qM qK qZ qN qB qY qi qo qm qp c1 c2 c3 c4 c5 c6 c7 c8 c9 K Z N B Y (if 5 < h then I else if I h = 0 then I else ju I h 0) O M P ct wr ofs (if 5 < h then 1 else if I h = 0 then 2 else 0) pa ey fo la) := by
  refine jm_of (by decide) (Nat.le_of_ble_eq_true rfl) ?_
  intro pr en σ mi bel met cd ls A hA C hP hK hD hS hl
  have hx := C.1
  have hb := C.2.1
  have hown := C.2.2.2.1
  have hts := C.2.2.2.2.1
  have hl : lv_has ls 2 [(0, .ref qM), (1, .int (nI (h)))] := hl
  refine lv_aload_n hx hb dd_M_close_0 rfl (lv_at hl 0 rfl) ?_
  refine lv_iload_n hx hb dd_M_close_1 rfl (lv_at hl 1 rfl) ?_
  refine jl_iflt32 (tgt := 10) hx hb (by omega) dd_M_close_2 (by decide) (fun c_1 => ?_) (fun c_1 => ?_)
  · skip
    refine lv_iconst (v := nI 1) hx hb dd_M_close_10 (by decide) ?_
    refine lv_goto (tgt := 28) hx hb dd_M_close_11 (by decide) ?_
    refine va_put (D := G) (ci := 4) (v := .int (nI (1))) (ty := .int) (C := cn_M) (T := ft_M) (N := 17) hx hb hts uw_M fy_M fo_M fn_M hown hK hP hD hS 0 rfl rfl 12 (by decide) (hts _ tw_605) (fun _ h9 => h9) rfl (by decide +kernel) rfl rfl (Nat.le_of_ble_eq_true rfl) dd_M_close_28 (fun H locs hP hD hS => ?_)
    have hP : va_P G jcl (wM qM qK qZ qN qB qY qi qo qm qp c1 c2 c3 c4 c5 c6 c7 c8 c9 K Z N B Y I O M P ct wr ofs 1 pa ey fo la) H := hP
    have hD : va_D A (wM qM qK qZ qN qB qY qi qo qm qp c1 c2 c3 c4 c5 c6 c7 c8 c9 K Z N B Y I O M P ct wr ofs 1 pa ey fo la) := hD
    refine lv_aload_n hx hb dd_M_close_31 rfl (lv_at hl 0 rfl) ?_
    refine va_get (D := G) (ci := 4) (v := .int (nI (1))) (C := cn_M) (T := ft_M) (N := 17) hx hb hts uw_M hown hK hP 0 rfl rfl 12 (by decide) (hts _ tw_605) (fun _ h9 => h9) rfl dd_M_close_32 ?_
    refine jl_ifne (tgt := 45) hx hb (by omega) dd_M_close_35 (by decide) (fun c_2 => ?_) (fun c_2 => ?_)
    · skip
      have he : wM qM qK qZ qN qB qY qi qo qm qp c1 c2 c3 c4 c5 c6 c7 c8 c9 K Z N B Y I O M P ct wr ofs 1 pa ey fo la = wM qM qK qZ qN qB qY qi qo qm qp c1 c2 c3 c4 c5 c6 c7 c8 c9 K Z N B Y (if 5 < h then I else if I h = 0 then I else ju I h 0) O M P ct wr ofs (if 5 < h then 1 else if I h = 0 then 2 else 0) pa ey fo la := by first | with_reducible rfl | (simp [c_1, c_2]; done) | (simp [show 5 < h by omega, c_1, c_2]; done) | (simp [show ¬ 5 < h by omega, c_1, c_2]; done)
      rw [he] at hP hD
      exact jm_retv C hP hD hK hS ⟨Nat.le_of_ble_eq_true rfl, Nat.le_of_ble_eq_true rfl⟩ dd_M_close_45
    · skip
      exact absurd c_2 (by omega)
  · skip
    refine lv_iload_n hx hb dd_M_close_5 rfl (lv_at hl 1 rfl) ?_
    refine lv_iconst (v := nI 5) hx hb dd_M_close_6 (by decide) ?_
    refine jl_le (tgt := 14) hx hb (by omega) (by omega) dd_M_close_7 (by decide) (fun c_3 => ?_) (fun c_3 => ?_)
    · skip
      refine lv_aload_n hx hb dd_M_close_14 rfl (lv_at hl 0 rfl) ?_
      refine va_get (D := G) (ci := 4) (v := .ref qi) (C := cn_M) (T := ft_M) (N := 17) hx hb hts uw_M hown hK hP 0 rfl rfl 5 (by decide) (hts _ tw_598) (fun _ h9 => h9) rfl dd_M_close_15 ?_
      refine lv_iload_n hx hb dd_M_close_18 rfl (lv_at hl 1 rfl) ?_
      refine va_iald hx hb hK hP 6 5 rfl rfl (vp_in_nI (by omega) (by decide)) dd_M_close_19 ?_
      refine jl_top (jn_at (I) (by omega)) ?_
      have hf_4 : I h < 13 := (by assumption : jlt 13 I) _
      refine jl_ifne (tgt := 27) hx hb (by omega) dd_M_close_20 (by decide) (fun c_5 => ?_) (fun c_5 => ?_)
      · skip
        refine lv_iconst (v := nI 0) hx hb dd_M_close_27 (by decide) ?_
        refine va_put (D := G) (ci := 4) (v := .int (nI (0))) (ty := .int) (C := cn_M) (T := ft_M) (N := 17) hx hb hts uw_M fy_M fo_M fn_M hown hK hP hD hS 0 rfl rfl 12 (by decide) (hts _ tw_605) (fun _ h9 => h9) rfl (by decide +kernel) rfl rfl (Nat.le_of_ble_eq_true rfl) dd_M_close_28 (fun H locs hP hD hS => ?_)
        have hP : va_P G jcl (wM qM qK qZ qN qB qY qi qo qm qp c1 c2 c3 c4 c5 c6 c7 c8 c9 K Z N B Y I O M P ct wr ofs 0 pa ey fo la) H := hP
        have hD : va_D A (wM qM qK qZ qN qB qY qi qo qm qp c1 c2 c3 c4 c5 c6 c7 c8 c9 K Z N B Y I O M P ct wr ofs 0 pa ey fo la) := hD
        refine lv_aload_n hx hb dd_M_close_31 rfl (lv_at hl 0 rfl) ?_
        refine va_get (D := G) (ci := 4) (v := .int (nI (0))) (C := cn_M) (T := ft_M) (N := 17) hx hb hts uw_M hown hK hP 0 rfl rfl 12 (by decide) (hts _ tw_605) (fun _ h9 => h9) rfl dd_M_close_32 ?_
        refine jl_ifne (tgt := 45) hx hb (by omega) dd_M_close_35 (by decide) (fun c_6 => ?_) (fun c_6 => ?_)
        · skip
          exact absurd c_6 (by omega)
        · skip
          refine lv_aload_n hx hb dd_M_close_38 rfl (lv_at hl 0 rfl) ?_
          refine va_get (D := G) (ci := 4) (v := .ref qi) (C := cn_M) (T := ft_M) (N := 17) hx hb hts uw_M hown hK hP 0 rfl rfl 5 (by decide) (hts _ tw_598) (fun _ h9 => h9) rfl dd_M_close_39 ?_
          refine lv_iload_n hx hb dd_M_close_42 rfl (lv_at hl 1 rfl) ?_
          refine lv_iconst (v := nI 0) hx hb dd_M_close_43 (by decide) ?_
          refine va_iast hx hb hK hP hD hS 6 5 rfl rfl (vp_in_nI (by omega) (by decide)) dd_M_close_44 (fun H locs hP hD hS => ?_)
          rw [jn_upd (I) (0) (by omega)] at hP hD
          have hP : va_P G jcl (wM qM qK qZ qN qB qY qi qo qm qp c1 c2 c3 c4 c5 c6 c7 c8 c9 K Z N B Y (ju I h 0) O M P ct wr ofs 0 pa ey fo la) H := hP
          have hD : va_D A (wM qM qK qZ qN qB qY qi qo qm qp c1 c2 c3 c4 c5 c6 c7 c8 c9 K Z N B Y (ju I h 0) O M P ct wr ofs 0 pa ey fo la) := hD
          have hf_7 : jlt 13 (ju I h 0) := ju_lt (by assumption) (by omega)
          have he : wM qM qK qZ qN qB qY qi qo qm qp c1 c2 c3 c4 c5 c6 c7 c8 c9 K Z N B Y (ju I h 0) O M P ct wr ofs 0 pa ey fo la = wM qM qK qZ qN qB qY qi qo qm qp c1 c2 c3 c4 c5 c6 c7 c8 c9 K Z N B Y (if 5 < h then I else if I h = 0 then I else ju I h 0) O M P ct wr ofs (if 5 < h then 1 else if I h = 0 then 2 else 0) pa ey fo la := by first | with_reducible rfl | (simp [c_1, c_3, c_5, c_6]; done) | (simp [show 5 < h by omega, c_1, c_3, c_5, c_6]; done) | (simp [show ¬ 5 < h by omega, c_1, c_3, c_5, c_6]; done)
          rw [he] at hP hD
          exact jm_retv C hP hD hK hS ⟨Nat.le_of_ble_eq_true rfl, Nat.le_of_ble_eq_true rfl⟩ dd_M_close_45
      · skip
        refine lv_iconst (v := nI 2) hx hb dd_M_close_23 (by decide) ?_
        refine lv_goto (tgt := 28) hx hb dd_M_close_24 (by decide) ?_
        refine va_put (D := G) (ci := 4) (v := .int (nI (2))) (ty := .int) (C := cn_M) (T := ft_M) (N := 17) hx hb hts uw_M fy_M fo_M fn_M hown hK hP hD hS 0 rfl rfl 12 (by decide) (hts _ tw_605) (fun _ h9 => h9) rfl (by decide +kernel) rfl rfl (Nat.le_of_ble_eq_true rfl) dd_M_close_28 (fun H locs hP hD hS => ?_)
        have hP : va_P G jcl (wM qM qK qZ qN qB qY qi qo qm qp c1 c2 c3 c4 c5 c6 c7 c8 c9 K Z N B Y I O M P ct wr ofs 2 pa ey fo la) H := hP
        have hD : va_D A (wM qM qK qZ qN qB qY qi qo qm qp c1 c2 c3 c4 c5 c6 c7 c8 c9 K Z N B Y I O M P ct wr ofs 2 pa ey fo la) := hD
        refine lv_aload_n hx hb dd_M_close_31 rfl (lv_at hl 0 rfl) ?_
        refine va_get (D := G) (ci := 4) (v := .int (nI (2))) (C := cn_M) (T := ft_M) (N := 17) hx hb hts uw_M hown hK hP 0 rfl rfl 12 (by decide) (hts _ tw_605) (fun _ h9 => h9) rfl dd_M_close_32 ?_
        refine jl_ifne (tgt := 45) hx hb (by omega) dd_M_close_35 (by decide) (fun c_8 => ?_) (fun c_8 => ?_)
        · skip
          have he : wM qM qK qZ qN qB qY qi qo qm qp c1 c2 c3 c4 c5 c6 c7 c8 c9 K Z N B Y I O M P ct wr ofs 2 pa ey fo la = wM qM qK qZ qN qB qY qi qo qm qp c1 c2 c3 c4 c5 c6 c7 c8 c9 K Z N B Y (if 5 < h then I else if I h = 0 then I else ju I h 0) O M P ct wr ofs (if 5 < h then 1 else if I h = 0 then 2 else 0) pa ey fo la := by first | with_reducible rfl | (simp [c_1, c_3, c_5, c_8]; done) | (simp [show 5 < h by omega, c_1, c_3, c_5, c_8]; done) | (simp [show ¬ 5 < h by omega, c_1, c_3, c_5, c_8]; done)
          rw [he] at hP hD
          exact jm_retv C hP hD hK hS ⟨Nat.le_of_ble_eq_true rfl, Nat.le_of_ble_eq_true rfl⟩ dd_M_close_45
        · skip
          exact absurd c_8 (by omega)
    · skip
      refine lv_iconst (v := nI 1) hx hb dd_M_close_10 (by decide) ?_
      refine lv_goto (tgt := 28) hx hb dd_M_close_11 (by decide) ?_
      refine va_put (D := G) (ci := 4) (v := .int (nI (1))) (ty := .int) (C := cn_M) (T := ft_M) (N := 17) hx hb hts uw_M fy_M fo_M fn_M hown hK hP hD hS 0 rfl rfl 12 (by decide) (hts _ tw_605) (fun _ h9 => h9) rfl (by decide +kernel) rfl rfl (Nat.le_of_ble_eq_true rfl) dd_M_close_28 (fun H locs hP hD hS => ?_)
      have hP : va_P G jcl (wM qM qK qZ qN qB qY qi qo qm qp c1 c2 c3 c4 c5 c6 c7 c8 c9 K Z N B Y I O M P ct wr ofs 1 pa ey fo la) H := hP
      have hD : va_D A (wM qM qK qZ qN qB qY qi qo qm qp c1 c2 c3 c4 c5 c6 c7 c8 c9 K Z N B Y I O M P ct wr ofs 1 pa ey fo la) := hD
      refine lv_aload_n hx hb dd_M_close_31 rfl (lv_at hl 0 rfl) ?_
      refine va_get (D := G) (ci := 4) (v := .int (nI (1))) (C := cn_M) (T := ft_M) (N := 17) hx hb hts uw_M hown hK hP 0 rfl rfl 12 (by decide) (hts _ tw_605) (fun _ h9 => h9) rfl dd_M_close_32 ?_
      refine jl_ifne (tgt := 45) hx hb (by omega) dd_M_close_35 (by decide) (fun c_9 => ?_) (fun c_9 => ?_)
      · skip
        have he : wM qM qK qZ qN qB qY qi qo qm qp c1 c2 c3 c4 c5 c6 c7 c8 c9 K Z N B Y I O M P ct wr ofs 1 pa ey fo la = wM qM qK qZ qN qB qY qi qo qm qp c1 c2 c3 c4 c5 c6 c7 c8 c9 K Z N B Y (if 5 < h then I else if I h = 0 then I else ju I h 0) O M P ct wr ofs (if 5 < h then 1 else if I h = 0 then 2 else 0) pa ey fo la := by first | with_reducible rfl | (simp [c_1, c_3, c_9]; done) | (simp [show 5 < h by omega, c_1, c_3, c_9]; done) | (simp [show ¬ 5 < h by omega, c_1, c_3, c_9]; done)
        rw [he] at hP hD
        exact jm_retv C hP hD hK hS ⟨Nat.le_of_ble_eq_true rfl, Nat.le_of_ble_eq_true rfl⟩ dd_M_close_45
      · skip
        exact absurd c_9 (by omega)
set_option maxHeartbeats 4000000 in
set_option maxRecDepth 100000 in
theorem ct_M_seek (l : Launch) (G : va_G) (qM qK qZ qN qB qY qi qo qm qp : Nat) (c1 c2 c3 c4 c5 c6 c7 c8 c9 : ClassId) (K : Nat → Nat) (Z : Nat → Nat) (N : Nat → Nat) (B : Nat → Nat) (Y : Nat → Nat) (I : Nat → Nat) (O : Nat → Nat) (M : Nat → Nat) (P : Nat → Nat) (ct : Nat) (wr : Nat) (ofs : Nat) (th : Nat) (pa : Option Nat) (ey : Option Nat) (fo : Option Nat) (la : Nat) (h : Nat) (z : Nat) (hh0 : h < 4294967296) (hz0 : z < 4294967296) (hK : jlt 3 K) (hN : jlt 256 N) (hI : jlt 13 I) (hO : jlt 256 O) (hM : jlt 5 M) : jm l yn_M_seek (.code yn_M_seek cd_M_seek 3 none) { frames := 2, cells := 0, slots := 0, locals := 45 } G (tM c1 c2 c3 c4 c5 c6 c7 c8 c9) (wM qM qK qZ qN qB qY qi qo qm qp c1 c2 c3 c4 c5 c6 c7 c8 c9 K Z N B Y I O M P ct wr ofs th pa ey fo la) [.ref qM, .int (nI (h)), .int (nI (z))] none (wM qM qK qZ qN qB qY qi qo qm qp c1 c2 c3 c4 c5 c6 c7 c8 c9 K Z N B Y I O M (if jm_seekT K N I O M h z = 0 then ju P h z else P) ct wr ofs (jm_seekT K N I O M h z) pa ey fo la) := by
  refine jm_of (by decide) (Nat.le_of_ble_eq_true rfl) ?_
  intro pr en σ mi bel met cd ls A hA C hP hK hD hS hl
  have hx := C.1
  have hb := C.2.1
  have hown := C.2.2.2.1
  have hts := C.2.2.2.2.1
  have hl : lv_has ls 3 [(0, .ref qM), (1, .int (nI (h))), (2, .int (nI (z)))] := hl
  refine lv_aload_n hx hb dd_M_seek_0 rfl (lv_at hl 0 rfl) ?_
  refine lv_iload_n hx hb dd_M_seek_1 rfl (lv_at hl 1 rfl) ?_
  refine jl_iflt32 (tgt := 20) hx hb (by omega) dd_M_seek_2 (by decide) (fun c_1 => ?_) (fun c_1 => ?_)
  · skip
    refine lv_iconst (v := nI 1) hx hb dd_M_seek_20 (by decide) ?_
    refine lv_goto (tgt := 31) hx hb dd_M_seek_21 (by decide) ?_
    refine va_put (D := G) (ci := 4) (v := .int (nI (1))) (ty := .int) (C := cn_M) (T := ft_M) (N := 17) hx hb hts uw_M fy_M fo_M fn_M hown hK hP hD hS 0 rfl rfl 12 (by decide) (hts _ tw_605) (fun _ h9 => h9) rfl (by decide +kernel) rfl rfl (Nat.le_of_ble_eq_true rfl) dd_M_seek_31 (fun H locs hP hD hS => ?_)
    have hP : va_P G jcl (wM qM qK qZ qN qB qY qi qo qm qp c1 c2 c3 c4 c5 c6 c7 c8 c9 K Z N B Y I O M P ct wr ofs 1 pa ey fo la) H := hP
    have hD : va_D A (wM qM qK qZ qN qB qY qi qo qm qp c1 c2 c3 c4 c5 c6 c7 c8 c9 K Z N B Y I O M P ct wr ofs 1 pa ey fo la) := hD
    refine lv_aload_n hx hb dd_M_seek_34 rfl (lv_at hl 0 rfl) ?_
    refine va_get (D := G) (ci := 4) (v := .int (nI (1))) (C := cn_M) (T := ft_M) (N := 17) hx hb hts uw_M hown hK hP 0 rfl rfl 12 (by decide) (hts _ tw_605) (fun _ h9 => h9) rfl dd_M_seek_35 ?_
    refine jl_ifne (tgt := 48) hx hb (by omega) dd_M_seek_38 (by decide) (fun c_2 => ?_) (fun c_2 => ?_)
    · skip
      have he : wM qM qK qZ qN qB qY qi qo qm qp c1 c2 c3 c4 c5 c6 c7 c8 c9 K Z N B Y I O M P ct wr ofs 1 pa ey fo la = wM qM qK qZ qN qB qY qi qo qm qp c1 c2 c3 c4 c5 c6 c7 c8 c9 K Z N B Y I O M (if jm_seekT K N I O M h z = 0 then ju P h z else P) ct wr ofs (jm_seekT K N I O M h z) pa ey fo la := by first | with_reducible rfl | (simp [jm_seekT, c_1, c_2]; done) | (simp [show 5 < h by omega, jm_seekT, c_1, c_2]; done) | (simp [show ¬ 5 < h by omega, show 64 < z by omega, jm_seekT, c_1, c_2]; done) | (simp [show ¬ 5 < h by omega, show ¬ 64 < z by omega, jm_seekT, c_1, c_2]; done)
      rw [he] at hP hD
      exact jm_retv C hP hD hK hS ⟨Nat.le_of_ble_eq_true rfl, Nat.le_of_ble_eq_true rfl⟩ dd_M_seek_48
    · skip
      exact absurd c_2 (by omega)
  · skip
    refine lv_iload_n hx hb dd_M_seek_5 rfl (lv_at hl 1 rfl) ?_
    refine lv_iconst (v := nI 5) hx hb dd_M_seek_6 (by decide) ?_
    refine jl_gt (tgt := 20) hx hb (by omega) (by omega) dd_M_seek_7 (by decide) (fun c_3 => ?_) (fun c_3 => ?_)
    · skip
      refine lv_iconst (v := nI 1) hx hb dd_M_seek_20 (by decide) ?_
      refine lv_goto (tgt := 31) hx hb dd_M_seek_21 (by decide) ?_
      refine va_put (D := G) (ci := 4) (v := .int (nI (1))) (ty := .int) (C := cn_M) (T := ft_M) (N := 17) hx hb hts uw_M fy_M fo_M fn_M hown hK hP hD hS 0 rfl rfl 12 (by decide) (hts _ tw_605) (fun _ h9 => h9) rfl (by decide +kernel) rfl rfl (Nat.le_of_ble_eq_true rfl) dd_M_seek_31 (fun H locs hP hD hS => ?_)
      have hP : va_P G jcl (wM qM qK qZ qN qB qY qi qo qm qp c1 c2 c3 c4 c5 c6 c7 c8 c9 K Z N B Y I O M P ct wr ofs 1 pa ey fo la) H := hP
      have hD : va_D A (wM qM qK qZ qN qB qY qi qo qm qp c1 c2 c3 c4 c5 c6 c7 c8 c9 K Z N B Y I O M P ct wr ofs 1 pa ey fo la) := hD
      refine lv_aload_n hx hb dd_M_seek_34 rfl (lv_at hl 0 rfl) ?_
      refine va_get (D := G) (ci := 4) (v := .int (nI (1))) (C := cn_M) (T := ft_M) (N := 17) hx hb hts uw_M hown hK hP 0 rfl rfl 12 (by decide) (hts _ tw_605) (fun _ h9 => h9) rfl dd_M_seek_35 ?_
      refine jl_ifne (tgt := 48) hx hb (by omega) dd_M_seek_38 (by decide) (fun c_4 => ?_) (fun c_4 => ?_)
      · skip
        have he : wM qM qK qZ qN qB qY qi qo qm qp c1 c2 c3 c4 c5 c6 c7 c8 c9 K Z N B Y I O M P ct wr ofs 1 pa ey fo la = wM qM qK qZ qN qB qY qi qo qm qp c1 c2 c3 c4 c5 c6 c7 c8 c9 K Z N B Y I O M (if jm_seekT K N I O M h z = 0 then ju P h z else P) ct wr ofs (jm_seekT K N I O M h z) pa ey fo la := by first | with_reducible rfl | (simp [jm_seekT, c_1, c_3, c_4]; done) | (simp [show 5 < h by omega, jm_seekT, c_1, c_3, c_4]; done) | (simp [show ¬ 5 < h by omega, show 64 < z by omega, jm_seekT, c_1, c_3, c_4]; done) | (simp [show ¬ 5 < h by omega, show ¬ 64 < z by omega, jm_seekT, c_1, c_3, c_4]; done)
        rw [he] at hP hD
        exact jm_retv C hP hD hK hS ⟨Nat.le_of_ble_eq_true rfl, Nat.le_of_ble_eq_true rfl⟩ dd_M_seek_48
      · skip
        exact absurd c_4 (by omega)
    · skip
      refine lv_iload_n hx hb dd_M_seek_10 rfl (lv_at hl 2 rfl) ?_
      refine jl_iflt32 (tgt := 20) hx hb (by omega) dd_M_seek_11 (by decide) (fun c_5 => ?_) (fun c_5 => ?_)
      · skip
        refine lv_iconst (v := nI 1) hx hb dd_M_seek_20 (by decide) ?_
        refine lv_goto (tgt := 31) hx hb dd_M_seek_21 (by decide) ?_
        refine va_put (D := G) (ci := 4) (v := .int (nI (1))) (ty := .int) (C := cn_M) (T := ft_M) (N := 17) hx hb hts uw_M fy_M fo_M fn_M hown hK hP hD hS 0 rfl rfl 12 (by decide) (hts _ tw_605) (fun _ h9 => h9) rfl (by decide +kernel) rfl rfl (Nat.le_of_ble_eq_true rfl) dd_M_seek_31 (fun H locs hP hD hS => ?_)
        have hP : va_P G jcl (wM qM qK qZ qN qB qY qi qo qm qp c1 c2 c3 c4 c5 c6 c7 c8 c9 K Z N B Y I O M P ct wr ofs 1 pa ey fo la) H := hP
        have hD : va_D A (wM qM qK qZ qN qB qY qi qo qm qp c1 c2 c3 c4 c5 c6 c7 c8 c9 K Z N B Y I O M P ct wr ofs 1 pa ey fo la) := hD
        refine lv_aload_n hx hb dd_M_seek_34 rfl (lv_at hl 0 rfl) ?_
        refine va_get (D := G) (ci := 4) (v := .int (nI (1))) (C := cn_M) (T := ft_M) (N := 17) hx hb hts uw_M hown hK hP 0 rfl rfl 12 (by decide) (hts _ tw_605) (fun _ h9 => h9) rfl dd_M_seek_35 ?_
        refine jl_ifne (tgt := 48) hx hb (by omega) dd_M_seek_38 (by decide) (fun c_6 => ?_) (fun c_6 => ?_)
        · skip
          have he : wM qM qK qZ qN qB qY qi qo qm qp c1 c2 c3 c4 c5 c6 c7 c8 c9 K Z N B Y I O M P ct wr ofs 1 pa ey fo la = wM qM qK qZ qN qB qY qi qo qm qp c1 c2 c3 c4 c5 c6 c7 c8 c9 K Z N B Y I O M (if jm_seekT K N I O M h z = 0 then ju P h z else P) ct wr ofs (jm_seekT K N I O M h z) pa ey fo la := by first | with_reducible rfl | (simp [jm_seekT, c_1, c_3, c_5, c_6]; done) | (simp [show 5 < h by omega, jm_seekT, c_1, c_3, c_5, c_6]; done) | (simp [show ¬ 5 < h by omega, show 64 < z by omega, jm_seekT, c_1, c_3, c_5, c_6]; done) | (simp [show ¬ 5 < h by omega, show ¬ 64 < z by omega, jm_seekT, c_1, c_3, c_5, c_6]; done)
          rw [he] at hP hD
          exact jm_retv C hP hD hK hS ⟨Nat.le_of_ble_eq_true rfl, Nat.le_of_ble_eq_true rfl⟩ dd_M_seek_48
        · skip
          exact absurd c_6 (by omega)
      · skip
        refine lv_iload_n hx hb dd_M_seek_14 rfl (lv_at hl 2 rfl) ?_
        refine lv_bipush (v := nI 64) hx hb dd_M_seek_15 (by decide) ?_
        refine jl_le (tgt := 24) hx hb (by omega) (by omega) dd_M_seek_17 (by decide) (fun c_7 => ?_) (fun c_7 => ?_)
        · skip
          refine lv_aload_n hx hb dd_M_seek_24 rfl (lv_at hl 0 rfl) ?_
          refine lv_iload_n hx hb dd_M_seek_25 rfl (lv_at hl 1 rfl) ?_
          refine lv_iconst (v := nI 1) hx hb dd_M_seek_26 (by decide) ?_
          refine lv_iconst (v := nI 2) hx hb dd_M_seek_27 (by decide) ?_
          refine jr_callV C (ct_M_wrong l G qM qK qZ qN qB qY qi qo qm qp c1 c2 c3 c4 c5 c6 c7 c8 c9 K Z N B Y I O M P ct wr ofs th pa ey fo la h 1 2 (by omega) (by omega) (by omega) (by assumption) (by assumption) (by assumption) (by assumption) (by assumption)) kl_M_102 ⟨Nat.le_of_ble_eq_true rfl, Nat.le_of_ble_eq_true rfl, rfl, rfl⟩ ⟨Nat.le_of_ble_eq_true rfl, Nat.le_of_ble_eq_true rfl⟩ (hP) (hK) (va_recv hK hP (ci := 4) (q0 := 0) rfl rfl) hl.1 rfl rfl (Nat.le_of_ble_eq_true rfl) dd_M_seek_28 ?_
          have hf_8 : jm_wrong K N I O M h 1 2 < 3 := jm_wrong_lt _ _ _ _ _ _ _ _
          refine va_put (D := G) (ci := 4) (v := .int (nI (jm_wrong K N I O M h 1 2))) (ty := .int) (C := cn_M) (T := ft_M) (N := 17) hx hb hts uw_M fy_M fo_M fn_M hown hK hP hD hS 0 rfl rfl 12 (by decide) (hts _ tw_605) (fun _ h9 => h9) rfl (by decide +kernel) rfl rfl (Nat.le_of_ble_eq_true rfl) dd_M_seek_31 (fun H locs hP hD hS => ?_)
          have hP : va_P G jcl (wM qM qK qZ qN qB qY qi qo qm qp c1 c2 c3 c4 c5 c6 c7 c8 c9 K Z N B Y I O M P ct wr ofs (jm_wrong K N I O M h 1 2) pa ey fo la) H := hP
          have hD : va_D A (wM qM qK qZ qN qB qY qi qo qm qp c1 c2 c3 c4 c5 c6 c7 c8 c9 K Z N B Y I O M P ct wr ofs (jm_wrong K N I O M h 1 2) pa ey fo la) := hD
          refine lv_aload_n hx hb dd_M_seek_34 rfl (lv_at hl 0 rfl) ?_
          refine va_get (D := G) (ci := 4) (v := .int (nI (jm_wrong K N I O M h 1 2))) (C := cn_M) (T := ft_M) (N := 17) hx hb hts uw_M hown hK hP 0 rfl rfl 12 (by decide) (hts _ tw_605) (fun _ h9 => h9) rfl dd_M_seek_35 ?_
          refine jl_ifne (tgt := 48) hx hb (by omega) dd_M_seek_38 (by decide) (fun c_9 => ?_) (fun c_9 => ?_)
          · skip
            have he : wM qM qK qZ qN qB qY qi qo qm qp c1 c2 c3 c4 c5 c6 c7 c8 c9 K Z N B Y I O M P ct wr ofs (jm_wrong K N I O M h 1 2) pa ey fo la = wM qM qK qZ qN qB qY qi qo qm qp c1 c2 c3 c4 c5 c6 c7 c8 c9 K Z N B Y I O M (if jm_seekT K N I O M h z = 0 then ju P h z else P) ct wr ofs (jm_seekT K N I O M h z) pa ey fo la := by first | with_reducible rfl | (simp [jm_seekT, c_1, c_3, c_5, c_7, c_9]; done) | (simp [show 5 < h by omega, jm_seekT, c_1, c_3, c_5, c_7, c_9]; done) | (simp [show ¬ 5 < h by omega, show 64 < z by omega, jm_seekT, c_1, c_3, c_5, c_7, c_9]; done) | (simp [show ¬ 5 < h by omega, show ¬ 64 < z by omega, jm_seekT, c_1, c_3, c_5, c_7, c_9]; done)
            rw [he] at hP hD
            exact jm_retv C hP hD hK hS ⟨Nat.le_of_ble_eq_true rfl, Nat.le_of_ble_eq_true rfl⟩ dd_M_seek_48
          · skip
            refine lv_aload_n hx hb dd_M_seek_41 rfl (lv_at hl 0 rfl) ?_
            refine va_get (D := G) (ci := 4) (v := .ref qp) (C := cn_M) (T := ft_M) (N := 17) hx hb hts uw_M hown hK hP 0 rfl rfl 8 (by decide) (hts _ tw_601) (fun _ h9 => h9) rfl dd_M_seek_42 ?_
            refine lv_iload_n hx hb dd_M_seek_45 rfl (lv_at hl 1 rfl) ?_
            refine lv_iload_n hx hb dd_M_seek_46 rfl (lv_at hl 2 rfl) ?_
            refine va_iast hx hb hK hP hD hS 9 8 rfl rfl (vp_in_nI (by omega) (by decide)) dd_M_seek_47 (fun H locs hP hD hS => ?_)
            rw [jn_upd (P) (z) (by omega)] at hP hD
            have hP : va_P G jcl (wM qM qK qZ qN qB qY qi qo qm qp c1 c2 c3 c4 c5 c6 c7 c8 c9 K Z N B Y I O M (ju P h z) ct wr ofs (jm_wrong K N I O M h 1 2) pa ey fo la) H := hP
            have hD : va_D A (wM qM qK qZ qN qB qY qi qo qm qp c1 c2 c3 c4 c5 c6 c7 c8 c9 K Z N B Y I O M (ju P h z) ct wr ofs (jm_wrong K N I O M h 1 2) pa ey fo la) := hD
            have he : wM qM qK qZ qN qB qY qi qo qm qp c1 c2 c3 c4 c5 c6 c7 c8 c9 K Z N B Y I O M (ju P h z) ct wr ofs (jm_wrong K N I O M h 1 2) pa ey fo la = wM qM qK qZ qN qB qY qi qo qm qp c1 c2 c3 c4 c5 c6 c7 c8 c9 K Z N B Y I O M (if jm_seekT K N I O M h z = 0 then ju P h z else P) ct wr ofs (jm_seekT K N I O M h z) pa ey fo la := by first | with_reducible rfl | (simp [jm_seekT, c_1, c_3, c_5, c_7, c_9]; done) | (simp [show 5 < h by omega, jm_seekT, c_1, c_3, c_5, c_7, c_9]; done) | (simp [show ¬ 5 < h by omega, show 64 < z by omega, jm_seekT, c_1, c_3, c_5, c_7, c_9]; done) | (simp [show ¬ 5 < h by omega, show ¬ 64 < z by omega, jm_seekT, c_1, c_3, c_5, c_7, c_9]; done)
            rw [he] at hP hD
            exact jm_retv C hP hD hK hS ⟨Nat.le_of_ble_eq_true rfl, Nat.le_of_ble_eq_true rfl⟩ dd_M_seek_48
        · skip
          refine lv_iconst (v := nI 1) hx hb dd_M_seek_20 (by decide) ?_
          refine lv_goto (tgt := 31) hx hb dd_M_seek_21 (by decide) ?_
          refine va_put (D := G) (ci := 4) (v := .int (nI (1))) (ty := .int) (C := cn_M) (T := ft_M) (N := 17) hx hb hts uw_M fy_M fo_M fn_M hown hK hP hD hS 0 rfl rfl 12 (by decide) (hts _ tw_605) (fun _ h9 => h9) rfl (by decide +kernel) rfl rfl (Nat.le_of_ble_eq_true rfl) dd_M_seek_31 (fun H locs hP hD hS => ?_)
          have hP : va_P G jcl (wM qM qK qZ qN qB qY qi qo qm qp c1 c2 c3 c4 c5 c6 c7 c8 c9 K Z N B Y I O M P ct wr ofs 1 pa ey fo la) H := hP
          have hD : va_D A (wM qM qK qZ qN qB qY qi qo qm qp c1 c2 c3 c4 c5 c6 c7 c8 c9 K Z N B Y I O M P ct wr ofs 1 pa ey fo la) := hD
          refine lv_aload_n hx hb dd_M_seek_34 rfl (lv_at hl 0 rfl) ?_
          refine va_get (D := G) (ci := 4) (v := .int (nI (1))) (C := cn_M) (T := ft_M) (N := 17) hx hb hts uw_M hown hK hP 0 rfl rfl 12 (by decide) (hts _ tw_605) (fun _ h9 => h9) rfl dd_M_seek_35 ?_
          refine jl_ifne (tgt := 48) hx hb (by omega) dd_M_seek_38 (by decide) (fun c_10 => ?_) (fun c_10 => ?_)
          · skip
            have he : wM qM qK qZ qN qB qY qi qo qm qp c1 c2 c3 c4 c5 c6 c7 c8 c9 K Z N B Y I O M P ct wr ofs 1 pa ey fo la = wM qM qK qZ qN qB qY qi qo qm qp c1 c2 c3 c4 c5 c6 c7 c8 c9 K Z N B Y I O M (if jm_seekT K N I O M h z = 0 then ju P h z else P) ct wr ofs (jm_seekT K N I O M h z) pa ey fo la := by first | with_reducible rfl | (simp [jm_seekT, c_1, c_3, c_5, c_7, c_10]; done) | (simp [show 5 < h by omega, jm_seekT, c_1, c_3, c_5, c_7, c_10]; done) | (simp [show ¬ 5 < h by omega, show 64 < z by omega, jm_seekT, c_1, c_3, c_5, c_7, c_10]; done) | (simp [show ¬ 5 < h by omega, show ¬ 64 < z by omega, jm_seekT, c_1, c_3, c_5, c_7, c_10]; done)
            rw [he] at hP hD
            exact jm_retv C hP hD hK hS ⟨Nat.le_of_ble_eq_true rfl, Nat.le_of_ble_eq_true rfl⟩ dd_M_seek_48
          · skip
            exact absurd c_10 (by omega)
set_option maxHeartbeats 4000000 in
set_option maxRecDepth 100000 in
theorem ct_M_next (l : Launch) (G : va_G) (qM qK qZ qN qB qY qi qo qm qp : Nat) (c1 c2 c3 c4 c5 c6 c7 c8 c9 : ClassId) (K : Nat → Nat) (Z : Nat → Nat) (N : Nat → Nat) (B : Nat → Nat) (Y : Nat → Nat) (I : Nat → Nat) (O : Nat → Nat) (M : Nat → Nat) (P : Nat → Nat) (ct : Nat) (wr : Nat) (ofs : Nat) (th : Nat) (pa : Option Nat) (ey : Option Nat) (fo : Option Nat) (la : Nat) (h : Nat) (hh0 : h < 4294967296) (hK : jlt 3 K) (hN : jlt 256 N) (hI : jlt 13 I) (hO : jlt 256 O) (hM : jlt 5 M) (hZ : jlt 65 Z) (hY : jlt 256 Y) (hPp : jlt 65 P) : jm l yn_M_next (.code yn_M_next cd_M_next 3 (some .int)) { frames := 2, cells := 0, slots := 0, locals := 45 } G (tM c1 c2 c3 c4 c5 c6 c7 c8 c9) (wM qM qK qZ qN qB qY qi qo qm qp c1 c2 c3 c4 c5 c6 c7 c8 c9 K Z N B Y I O M P ct wr ofs th pa ey fo la) [.ref qM, .int (nI (h))] (some (.int (nI (if jm_wrong K N I O M h 4 4 = 0 then (if P h < Z (I h - 1) / 2 then Y ((I h - 1) * 64 + (P h + 1) * 2 - 2) else 0) else 0)))) (wM qM qK qZ qN qB qY qi qo qm qp c1 c2 c3 c4 c5 c6 c7 c8 c9 K Z N B Y I O M (if jm_wrong K N I O M h 4 4 = 0 then (if P h < Z (I h - 1) / 2 then ju P h (P h + 1) else P) else P) ct wr ofs (jm_wrong K N I O M h 4 4) pa ey fo la) := by
  refine jm_of (by decide) (Nat.le_of_ble_eq_true rfl) ?_
  intro pr en σ mi bel met cd ls A hA C hP hK hD hS hl
  have hx := C.1
  have hb := C.2.1
  have hown := C.2.2.2.1
  have hts := C.2.2.2.2.1
  have hl : lv_has ls 3 [(0, .ref qM), (1, .int (nI (h)))] := hl
  refine lv_aload_n hx hb dd_M_next_0 rfl (lv_at hl 0 rfl) ?_
  refine lv_aload_n hx hb dd_M_next_1 rfl (lv_at hl 0 rfl) ?_
  refine lv_iload_n hx hb dd_M_next_2 rfl (lv_at hl 1 rfl) ?_
  refine lv_iconst (v := nI 4) hx hb dd_M_next_3 (by decide) ?_
  refine lv_iconst (v := nI 4) hx hb dd_M_next_4 (by decide) ?_
  refine jr_callV C (ct_M_wrong l G qM qK qZ qN qB qY qi qo qm qp c1 c2 c3 c4 c5 c6 c7 c8 c9 K Z N B Y I O M P ct wr ofs th pa ey fo la h 4 4 (by omega) (by omega) (by omega) (by assumption) (by assumption) (by assumption) (by assumption) (by assumption)) kl_M_102 ⟨Nat.le_of_ble_eq_true rfl, Nat.le_of_ble_eq_true rfl, rfl, rfl⟩ ⟨Nat.le_of_ble_eq_true rfl, Nat.le_of_ble_eq_true rfl⟩ (hP) (hK) (va_recv hK hP (ci := 4) (q0 := 0) rfl rfl) hl.1 rfl rfl (Nat.le_of_ble_eq_true rfl) dd_M_next_5 ?_
  have hf_1 : jm_wrong K N I O M h 4 4 < 3 := jm_wrong_lt _ _ _ _ _ _ _ _
  refine va_put (D := G) (ci := 4) (v := .int (nI (jm_wrong K N I O M h 4 4))) (ty := .int) (C := cn_M) (T := ft_M) (N := 17) hx hb hts uw_M fy_M fo_M fn_M hown hK hP hD hS 0 rfl rfl 12 (by decide) (hts _ tw_605) (fun _ h9 => h9) rfl (by decide +kernel) rfl rfl (Nat.le_of_ble_eq_true rfl) dd_M_next_8 (fun H locs hP hD hS => ?_)
  have hP : va_P G jcl (wM qM qK qZ qN qB qY qi qo qm qp c1 c2 c3 c4 c5 c6 c7 c8 c9 K Z N B Y I O M P ct wr ofs (jm_wrong K N I O M h 4 4) pa ey fo la) H := hP
  have hD : va_D A (wM qM qK qZ qN qB qY qi qo qm qp c1 c2 c3 c4 c5 c6 c7 c8 c9 K Z N B Y I O M P ct wr ofs (jm_wrong K N I O M h 4 4) pa ey fo la) := hD
  refine lv_aload_n hx hb dd_M_next_11 rfl (lv_at hl 0 rfl) ?_
  refine va_get (D := G) (ci := 4) (v := .int (nI (jm_wrong K N I O M h 4 4))) (C := cn_M) (T := ft_M) (N := 17) hx hb hts uw_M hown hK hP 0 rfl rfl 12 (by decide) (hts _ tw_605) (fun _ h9 => h9) rfl dd_M_next_12 ?_
  refine jl_ifeq (tgt := 20) hx hb (by omega) dd_M_next_15 (by decide) (fun c_2 => ?_) (fun c_2 => ?_)
  · skip
    have hw9 := jm_wrong_0 c_2
    refine lv_aload_n hx hb dd_M_next_20 rfl (lv_at hl 0 rfl) ?_
    refine va_get (D := G) (ci := 4) (v := .ref qi) (C := cn_M) (T := ft_M) (N := 17) hx hb hts uw_M hown hK hP 0 rfl rfl 5 (by decide) (hts _ tw_598) (fun _ h9 => h9) rfl dd_M_next_21 ?_
    refine lv_iload_n hx hb dd_M_next_24 rfl (lv_at hl 1 rfl) ?_
    refine va_iald hx hb hK hP 6 5 rfl rfl (vp_in_nI (by omega) (by decide)) dd_M_next_25 ?_
    refine jl_top (jn_at (I) (by omega)) ?_
    have hf_3 : I h < 13 := (by assumption : jlt 13 I) _
    refine lv_iconst (v := nI 1) hx hb dd_M_next_26 (by decide) ?_
    refine jl_isub hx hb (by omega) dd_M_next_27 ?_
    refine lv_istore_n (lv' := [(2, .int (nI ((I h) - 1))), (0, .ref qM), (1, .int (nI (h)))]) hx hb dd_M_next_28 rfl hl (by decide) rfl (fun ls hl => ?_)
    refine lv_aload_n hx hb dd_M_next_29 rfl (lv_at hl 1 rfl) ?_
    refine va_get (D := G) (ci := 4) (v := .ref qp) (C := cn_M) (T := ft_M) (N := 17) hx hb hts uw_M hown hK hP 0 rfl rfl 8 (by decide) (hts _ tw_601) (fun _ h9 => h9) rfl dd_M_next_30 ?_
    refine lv_iload_n hx hb dd_M_next_33 rfl (lv_at hl 2 rfl) ?_
    refine va_iald hx hb hK hP 9 8 rfl rfl (vp_in_nI (by omega) (by decide)) dd_M_next_34 ?_
    refine jl_top (jn_at (P) (by omega)) ?_
    have hf_4 : P h < 65 := (by assumption : jlt 65 P) _
    refine lv_aload_n hx hb dd_M_next_35 rfl (lv_at hl 1 rfl) ?_
    refine va_get (D := G) (ci := 4) (v := .ref qZ) (C := cn_M) (T := ft_M) (N := 17) hx hb hts uw_M hown hK hP 0 rfl rfl 1 (by decide) (hts _ tw_594) (fun _ h9 => h9) rfl dd_M_next_36 ?_
    refine lv_iload_n hx hb dd_M_next_39 rfl (lv_at hl 0 rfl) ?_
    refine va_iald hx hb hK hP 2 1 rfl rfl (vp_in_nI (by omega) (by decide)) dd_M_next_40 ?_
    refine jl_top (jn_at (Z) (by omega)) ?_
    have hf_5 : Z ((I h) - 1) < 65 := (by assumption : jlt 65 Z) _
    refine lv_iconst (v := nI 2) hx hb dd_M_next_41 (by decide) ?_
    refine jl_idiv hx hb (by omega) (by decide) (by decide) dd_M_next_42 ?_
    refine jl_lt (tgt := 48) hx hb (by omega) (by omega) dd_M_next_43 (by decide) (fun c_6 => ?_) (fun c_6 => ?_)
    · skip
      refine lv_aload_n hx hb dd_M_next_48 rfl (lv_at hl 1 rfl) ?_
      refine va_get (D := G) (ci := 4) (v := .ref qp) (C := cn_M) (T := ft_M) (N := 17) hx hb hts uw_M hown hK hP 0 rfl rfl 8 (by decide) (hts _ tw_601) (fun _ h9 => h9) rfl dd_M_next_49 ?_
      refine lv_iload_n hx hb dd_M_next_52 rfl (lv_at hl 2 rfl) ?_
      refine lv_dup2_11 hx hb dd_M_next_53 rfl rfl ?_
      refine va_iald hx hb hK hP 9 8 rfl rfl (vp_in_nI (by omega) (by decide)) dd_M_next_54 ?_
      refine jl_top (jn_at (P) (by omega)) ?_
      have hf_7 : P h < 65 := (by assumption : jlt 65 P) _
      refine lv_iconst (v := nI 1) hx hb dd_M_next_55 (by decide) ?_
      refine jl_iadd hx hb dd_M_next_56 ?_
      refine va_iast hx hb hK hP hD hS 9 8 rfl rfl (vp_in_nI (by omega) (by decide)) dd_M_next_57 (fun H locs hP hD hS => ?_)
      rw [jn_upd (P) ((P h) + 1) (by omega)] at hP hD
      have hP : va_P G jcl (wM qM qK qZ qN qB qY qi qo qm qp c1 c2 c3 c4 c5 c6 c7 c8 c9 K Z N B Y I O M (ju P h ((P h) + 1)) ct wr ofs (jm_wrong K N I O M h 4 4) pa ey fo la) H := hP
      have hD : va_D A (wM qM qK qZ qN qB qY qi qo qm qp c1 c2 c3 c4 c5 c6 c7 c8 c9 K Z N B Y I O M (ju P h ((P h) + 1)) ct wr ofs (jm_wrong K N I O M h 4 4) pa ey fo la) := hD
      have hf_8 : jlt 65 (ju P h ((P h) + 1)) := ju_lt (by assumption) (by omega)
      have hj_9 := ju_self P h ((P h) + 1)
      refine lv_aload_n hx hb dd_M_next_58 rfl (lv_at hl 1 rfl) ?_
      refine va_get (D := G) (ci := 4) (v := .ref qY) (C := cn_M) (T := ft_M) (N := 17) hx hb hts uw_M hown hK hP 0 rfl rfl 4 (by decide) (hts _ tw_597) (fun _ h9 => h9) rfl dd_M_next_59 ?_
      refine lv_iload_n hx hb dd_M_next_62 rfl (lv_at hl 0 rfl) ?_
      refine lv_bipush (v := nI 64) hx hb dd_M_next_63 (by decide) ?_
      refine jl_imul hx hb dd_M_next_65 ?_
      refine lv_aload_n hx hb dd_M_next_66 rfl (lv_at hl 1 rfl) ?_
      refine va_get (D := G) (ci := 4) (v := .ref qp) (C := cn_M) (T := ft_M) (N := 17) hx hb hts uw_M hown hK hP 0 rfl rfl 8 (by decide) (hts _ tw_601) (fun _ h9 => h9) rfl dd_M_next_67 ?_
      refine lv_iload_n hx hb dd_M_next_70 rfl (lv_at hl 2 rfl) ?_
      refine va_iald hx hb hK hP 9 8 rfl rfl (vp_in_nI (by omega) (by decide)) dd_M_next_71 ?_
      refine jl_top (jn_at (ju P h ((P h) + 1)) (by omega)) ?_
      have hf_10 : (ju P h ((P h) + 1)) h < 65 := (by assumption : jlt 65 (ju P h ((P h) + 1))) _
      refine lv_iconst (v := nI 2) hx hb dd_M_next_72 (by decide) ?_
      refine jl_imul hx hb dd_M_next_73 ?_
      refine jl_iadd hx hb dd_M_next_74 ?_
      refine lv_iconst (v := nI 2) hx hb dd_M_next_75 (by decide) ?_
      refine jl_isub hx hb (by omega) dd_M_next_76 ?_
      refine va_iald hx hb hK hP 5 4 rfl rfl (vp_in_nI (by omega) (by decide)) dd_M_next_77 ?_
      refine jl_top (jn_at (Y) (by omega)) ?_
      have hf_11 : Y (((((I h) - 1) * 64) + (((ju P h ((P h) + 1)) h) * 2)) - 2) < 256 := (by assumption : jlt 256 Y) _
      have he : wM qM qK qZ qN qB qY qi qo qm qp c1 c2 c3 c4 c5 c6 c7 c8 c9 K Z N B Y I O M (ju P h ((P h) + 1)) ct wr ofs (jm_wrong K N I O M h 4 4) pa ey fo la = wM qM qK qZ qN qB qY qi qo qm qp c1 c2 c3 c4 c5 c6 c7 c8 c9 K Z N B Y I O M (if jm_wrong K N I O M h 4 4 = 0 then (if P h < Z (I h - 1) / 2 then ju P h (P h + 1) else P) else P) ct wr ofs (jm_wrong K N I O M h 4 4) pa ey fo la := by first | with_reducible rfl | (simp [ju_self, c_2, c_6]; done)
      rw [he] at hP hD
      exact jm_reti C (by first | with_reducible rfl | (simp [ju_self, c_2, c_6]; done)) hP hD hK hS ⟨Nat.le_of_ble_eq_true rfl, Nat.le_of_ble_eq_true rfl⟩ dd_M_next_78
    · skip
      refine lv_iconst (v := nI 0) hx hb dd_M_next_46 (by decide) ?_
      have he : wM qM qK qZ qN qB qY qi qo qm qp c1 c2 c3 c4 c5 c6 c7 c8 c9 K Z N B Y I O M P ct wr ofs (jm_wrong K N I O M h 4 4) pa ey fo la = wM qM qK qZ qN qB qY qi qo qm qp c1 c2 c3 c4 c5 c6 c7 c8 c9 K Z N B Y I O M (if jm_wrong K N I O M h 4 4 = 0 then (if P h < Z (I h - 1) / 2 then ju P h (P h + 1) else P) else P) ct wr ofs (jm_wrong K N I O M h 4 4) pa ey fo la := by first | with_reducible rfl | (simp [ju_self, c_2, c_6]; done)
      rw [he] at hP hD
      exact jm_reti C (by first | with_reducible rfl | (simp [ju_self, c_2, c_6]; done)) hP hD hK hS ⟨Nat.le_of_ble_eq_true rfl, Nat.le_of_ble_eq_true rfl⟩ dd_M_next_47
  · skip
    refine lv_iconst (v := nI 0) hx hb dd_M_next_18 (by decide) ?_
    have he : wM qM qK qZ qN qB qY qi qo qm qp c1 c2 c3 c4 c5 c6 c7 c8 c9 K Z N B Y I O M P ct wr ofs (jm_wrong K N I O M h 4 4) pa ey fo la = wM qM qK qZ qN qB qY qi qo qm qp c1 c2 c3 c4 c5 c6 c7 c8 c9 K Z N B Y I O M (if jm_wrong K N I O M h 4 4 = 0 then (if P h < Z (I h - 1) / 2 then ju P h (P h + 1) else P) else P) ct wr ofs (jm_wrong K N I O M h 4 4) pa ey fo la := by first | with_reducible rfl | (simp [ju_self, c_2]; done)
    rw [he] at hP hD
    exact jm_reti C (by first | with_reducible rfl | (simp [ju_self, c_2]; done)) hP hD hK hS ⟨Nat.le_of_ble_eq_true rfl, Nat.le_of_ble_eq_true rfl⟩ dd_M_next_19
set_option maxHeartbeats 4000000 in
set_option maxRecDepth 100000 in
theorem ct_M_block (l : Launch) (G : va_G) (qM qK qZ qN qB qY qi qo qm qp : Nat) (c1 c2 c3 c4 c5 c6 c7 c8 c9 : ClassId) (K : Nat → Nat) (Z : Nat → Nat) (N : Nat → Nat) (B : Nat → Nat) (Y : Nat → Nat) (I : Nat → Nat) (O : Nat → Nat) (M : Nat → Nat) (P : Nat → Nat) (ct : Nat) (wr : Nat) (ofs : Nat) (th : Nat) (pa : Option Nat) (ey : Option Nat) (fo : Option Nat) (la : Nat) (b : Nat) (i : Nat) (q : Nat) (m : Nat) (hb0 : b < 4294967296) (hi0 : i < 4294967296) (hq0 : q < 2) (hm0 : 9 ≤ m ∧ m < 5000) (hK : jlt 3 K) (hZ : jlt 65 Z) (hN : jlt 256 N) (hB : jlt m B) (hY : jlt 256 Y) : jm l yn_M_block (.code yn_M_block cd_M_block 4 (some .int)) { frames := 3, cells := 0, slots := 0, locals := 71 } G (tM c1 c2 c3 c4 c5 c6 c7 c8 c9) (wM qM qK qZ qN qB qY qi qo qm qp c1 c2 c3 c4 c5 c6 c7 c8 c9 K Z N B Y I O M P ct wr ofs th pa ey fo la) [.ref qM, .int (nI (b)), .int (nI (i)), .int (nI (q))] (some (.int (nI (if 39 < b then 0 else if 15 < i then 0 else if q = 0 then jm_byteOf K Z N B Y 0 b i else jm_byteOf K Z N B Y 12 b i)))) (wM qM qK qZ qN qB qY qi qo qm qp c1 c2 c3 c4 c5 c6 c7 c8 c9 K Z N B Y I O M P ct wr ofs (if 39 < b then 1 else if 15 < i then 1 else 0) pa ey fo la) := by
  refine jm_of (by decide) (Nat.le_of_ble_eq_true rfl) ?_
  intro pr en σ mi bel met cd ls A hA C hP hK hD hS hl
  have hx := C.1
  have hb := C.2.1
  have hown := C.2.2.2.1
  have hts := C.2.2.2.2.1
  have hl : lv_has ls 4 [(0, .ref qM), (1, .int (nI (b))), (2, .int (nI (i))), (3, .int (nI (q)))] := hl
  refine lv_aload_n hx hb dd_M_block_0 rfl (lv_at hl 0 rfl) ?_
  refine lv_iload_n hx hb dd_M_block_1 rfl (lv_at hl 1 rfl) ?_
  refine jl_iflt32 (tgt := 21) hx hb (by omega) dd_M_block_2 (by decide) (fun c_1 => ?_) (fun c_1 => ?_)
  · skip
    refine lv_iconst (v := nI 1) hx hb dd_M_block_21 (by decide) ?_
    refine lv_goto (tgt := 26) hx hb dd_M_block_22 (by decide) ?_
    refine va_put (D := G) (ci := 4) (v := .int (nI (1))) (ty := .int) (C := cn_M) (T := ft_M) (N := 17) hx hb hts uw_M fy_M fo_M fn_M hown hK hP hD hS 0 rfl rfl 12 (by decide) (hts _ tw_605) (fun _ h9 => h9) rfl (by decide +kernel) rfl rfl (Nat.le_of_ble_eq_true rfl) dd_M_block_26 (fun H locs hP hD hS => ?_)
    have hP : va_P G jcl (wM qM qK qZ qN qB qY qi qo qm qp c1 c2 c3 c4 c5 c6 c7 c8 c9 K Z N B Y I O M P ct wr ofs 1 pa ey fo la) H := hP
    have hD : va_D A (wM qM qK qZ qN qB qY qi qo qm qp c1 c2 c3 c4 c5 c6 c7 c8 c9 K Z N B Y I O M P ct wr ofs 1 pa ey fo la) := hD
    refine lv_aload_n hx hb dd_M_block_29 rfl (lv_at hl 0 rfl) ?_
    refine va_get (D := G) (ci := 4) (v := .int (nI (1))) (C := cn_M) (T := ft_M) (N := 17) hx hb hts uw_M hown hK hP 0 rfl rfl 12 (by decide) (hts _ tw_605) (fun _ h9 => h9) rfl dd_M_block_30 ?_
    refine jl_ifne (tgt := 55) hx hb (by omega) dd_M_block_33 (by decide) (fun c_2 => ?_) (fun c_2 => ?_)
    · skip
      refine lv_iconst (v := nI 0) hx hb dd_M_block_55 (by decide) ?_
      have he : wM qM qK qZ qN qB qY qi qo qm qp c1 c2 c3 c4 c5 c6 c7 c8 c9 K Z N B Y I O M P ct wr ofs 1 pa ey fo la = wM qM qK qZ qN qB qY qi qo qm qp c1 c2 c3 c4 c5 c6 c7 c8 c9 K Z N B Y I O M P ct wr ofs (if 39 < b then 1 else if 15 < i then 1 else 0) pa ey fo la := by first | with_reducible rfl | (simp [c_1, c_2]; done) | (simp [show 39 < b by omega, c_1, c_2]; done) | (simp [show ¬ 39 < b by omega, show 15 < i by omega, c_1, c_2]; done) | (simp [show ¬ 39 < b by omega, show ¬ 15 < i by omega, c_1, c_2]; done)
      rw [he] at hP hD
      exact jm_reti C (by first | with_reducible rfl | (simp [c_1, c_2]; done) | (simp [show 39 < b by omega, c_1, c_2]; done) | (simp [show ¬ 39 < b by omega, show 15 < i by omega, c_1, c_2]; done) | (simp [show ¬ 39 < b by omega, show ¬ 15 < i by omega, c_1, c_2]; done)) hP hD hK hS ⟨Nat.le_of_ble_eq_true rfl, Nat.le_of_ble_eq_true rfl⟩ dd_M_block_56
    · skip
      exact absurd c_2 (by omega)
  · skip
    refine lv_iload_n hx hb dd_M_block_5 rfl (lv_at hl 1 rfl) ?_
    refine lv_bipush (v := nI 39) hx hb dd_M_block_6 (by decide) ?_
    refine jl_gt (tgt := 21) hx hb (by omega) (by omega) dd_M_block_8 (by decide) (fun c_3 => ?_) (fun c_3 => ?_)
    · skip
      refine lv_iconst (v := nI 1) hx hb dd_M_block_21 (by decide) ?_
      refine lv_goto (tgt := 26) hx hb dd_M_block_22 (by decide) ?_
      refine va_put (D := G) (ci := 4) (v := .int (nI (1))) (ty := .int) (C := cn_M) (T := ft_M) (N := 17) hx hb hts uw_M fy_M fo_M fn_M hown hK hP hD hS 0 rfl rfl 12 (by decide) (hts _ tw_605) (fun _ h9 => h9) rfl (by decide +kernel) rfl rfl (Nat.le_of_ble_eq_true rfl) dd_M_block_26 (fun H locs hP hD hS => ?_)
      have hP : va_P G jcl (wM qM qK qZ qN qB qY qi qo qm qp c1 c2 c3 c4 c5 c6 c7 c8 c9 K Z N B Y I O M P ct wr ofs 1 pa ey fo la) H := hP
      have hD : va_D A (wM qM qK qZ qN qB qY qi qo qm qp c1 c2 c3 c4 c5 c6 c7 c8 c9 K Z N B Y I O M P ct wr ofs 1 pa ey fo la) := hD
      refine lv_aload_n hx hb dd_M_block_29 rfl (lv_at hl 0 rfl) ?_
      refine va_get (D := G) (ci := 4) (v := .int (nI (1))) (C := cn_M) (T := ft_M) (N := 17) hx hb hts uw_M hown hK hP 0 rfl rfl 12 (by decide) (hts _ tw_605) (fun _ h9 => h9) rfl dd_M_block_30 ?_
      refine jl_ifne (tgt := 55) hx hb (by omega) dd_M_block_33 (by decide) (fun c_4 => ?_) (fun c_4 => ?_)
      · skip
        refine lv_iconst (v := nI 0) hx hb dd_M_block_55 (by decide) ?_
        have he : wM qM qK qZ qN qB qY qi qo qm qp c1 c2 c3 c4 c5 c6 c7 c8 c9 K Z N B Y I O M P ct wr ofs 1 pa ey fo la = wM qM qK qZ qN qB qY qi qo qm qp c1 c2 c3 c4 c5 c6 c7 c8 c9 K Z N B Y I O M P ct wr ofs (if 39 < b then 1 else if 15 < i then 1 else 0) pa ey fo la := by first | with_reducible rfl | (simp [c_1, c_3, c_4]; done) | (simp [show 39 < b by omega, c_1, c_3, c_4]; done) | (simp [show ¬ 39 < b by omega, show 15 < i by omega, c_1, c_3, c_4]; done) | (simp [show ¬ 39 < b by omega, show ¬ 15 < i by omega, c_1, c_3, c_4]; done)
        rw [he] at hP hD
        exact jm_reti C (by first | with_reducible rfl | (simp [c_1, c_3, c_4]; done) | (simp [show 39 < b by omega, c_1, c_3, c_4]; done) | (simp [show ¬ 39 < b by omega, show 15 < i by omega, c_1, c_3, c_4]; done) | (simp [show ¬ 39 < b by omega, show ¬ 15 < i by omega, c_1, c_3, c_4]; done)) hP hD hK hS ⟨Nat.le_of_ble_eq_true rfl, Nat.le_of_ble_eq_true rfl⟩ dd_M_block_56
      · skip
        exact absurd c_4 (by omega)
    · skip
      refine lv_iload_n hx hb dd_M_block_11 rfl (lv_at hl 2 rfl) ?_
      refine jl_iflt32 (tgt := 21) hx hb (by omega) dd_M_block_12 (by decide) (fun c_5 => ?_) (fun c_5 => ?_)
      · skip
        refine lv_iconst (v := nI 1) hx hb dd_M_block_21 (by decide) ?_
        refine lv_goto (tgt := 26) hx hb dd_M_block_22 (by decide) ?_
        refine va_put (D := G) (ci := 4) (v := .int (nI (1))) (ty := .int) (C := cn_M) (T := ft_M) (N := 17) hx hb hts uw_M fy_M fo_M fn_M hown hK hP hD hS 0 rfl rfl 12 (by decide) (hts _ tw_605) (fun _ h9 => h9) rfl (by decide +kernel) rfl rfl (Nat.le_of_ble_eq_true rfl) dd_M_block_26 (fun H locs hP hD hS => ?_)
        have hP : va_P G jcl (wM qM qK qZ qN qB qY qi qo qm qp c1 c2 c3 c4 c5 c6 c7 c8 c9 K Z N B Y I O M P ct wr ofs 1 pa ey fo la) H := hP
        have hD : va_D A (wM qM qK qZ qN qB qY qi qo qm qp c1 c2 c3 c4 c5 c6 c7 c8 c9 K Z N B Y I O M P ct wr ofs 1 pa ey fo la) := hD
        refine lv_aload_n hx hb dd_M_block_29 rfl (lv_at hl 0 rfl) ?_
        refine va_get (D := G) (ci := 4) (v := .int (nI (1))) (C := cn_M) (T := ft_M) (N := 17) hx hb hts uw_M hown hK hP 0 rfl rfl 12 (by decide) (hts _ tw_605) (fun _ h9 => h9) rfl dd_M_block_30 ?_
        refine jl_ifne (tgt := 55) hx hb (by omega) dd_M_block_33 (by decide) (fun c_6 => ?_) (fun c_6 => ?_)
        · skip
          refine lv_iconst (v := nI 0) hx hb dd_M_block_55 (by decide) ?_
          have he : wM qM qK qZ qN qB qY qi qo qm qp c1 c2 c3 c4 c5 c6 c7 c8 c9 K Z N B Y I O M P ct wr ofs 1 pa ey fo la = wM qM qK qZ qN qB qY qi qo qm qp c1 c2 c3 c4 c5 c6 c7 c8 c9 K Z N B Y I O M P ct wr ofs (if 39 < b then 1 else if 15 < i then 1 else 0) pa ey fo la := by first | with_reducible rfl | (simp [c_1, c_3, c_5, c_6]; done) | (simp [show 39 < b by omega, c_1, c_3, c_5, c_6]; done) | (simp [show ¬ 39 < b by omega, show 15 < i by omega, c_1, c_3, c_5, c_6]; done) | (simp [show ¬ 39 < b by omega, show ¬ 15 < i by omega, c_1, c_3, c_5, c_6]; done)
          rw [he] at hP hD
          exact jm_reti C (by first | with_reducible rfl | (simp [c_1, c_3, c_5, c_6]; done) | (simp [show 39 < b by omega, c_1, c_3, c_5, c_6]; done) | (simp [show ¬ 39 < b by omega, show 15 < i by omega, c_1, c_3, c_5, c_6]; done) | (simp [show ¬ 39 < b by omega, show ¬ 15 < i by omega, c_1, c_3, c_5, c_6]; done)) hP hD hK hS ⟨Nat.le_of_ble_eq_true rfl, Nat.le_of_ble_eq_true rfl⟩ dd_M_block_56
        · skip
          exact absurd c_6 (by omega)
      · skip
        refine lv_iload_n hx hb dd_M_block_15 rfl (lv_at hl 2 rfl) ?_
        refine lv_bipush (v := nI 15) hx hb dd_M_block_16 (by decide) ?_
        refine jl_le (tgt := 25) hx hb (by omega) (by omega) dd_M_block_18 (by decide) (fun c_7 => ?_) (fun c_7 => ?_)
        · skip
          refine lv_iconst (v := nI 0) hx hb dd_M_block_25 (by decide) ?_
          refine va_put (D := G) (ci := 4) (v := .int (nI (0))) (ty := .int) (C := cn_M) (T := ft_M) (N := 17) hx hb hts uw_M fy_M fo_M fn_M hown hK hP hD hS 0 rfl rfl 12 (by decide) (hts _ tw_605) (fun _ h9 => h9) rfl (by decide +kernel) rfl rfl (Nat.le_of_ble_eq_true rfl) dd_M_block_26 (fun H locs hP hD hS => ?_)
          have hP : va_P G jcl (wM qM qK qZ qN qB qY qi qo qm qp c1 c2 c3 c4 c5 c6 c7 c8 c9 K Z N B Y I O M P ct wr ofs 0 pa ey fo la) H := hP
          have hD : va_D A (wM qM qK qZ qN qB qY qi qo qm qp c1 c2 c3 c4 c5 c6 c7 c8 c9 K Z N B Y I O M P ct wr ofs 0 pa ey fo la) := hD
          refine lv_aload_n hx hb dd_M_block_29 rfl (lv_at hl 0 rfl) ?_
          refine va_get (D := G) (ci := 4) (v := .int (nI (0))) (C := cn_M) (T := ft_M) (N := 17) hx hb hts uw_M hown hK hP 0 rfl rfl 12 (by decide) (hts _ tw_605) (fun _ h9 => h9) rfl dd_M_block_30 ?_
          refine jl_ifne (tgt := 55) hx hb (by omega) dd_M_block_33 (by decide) (fun c_8 => ?_) (fun c_8 => ?_)
          · skip
            exact absurd c_8 (by omega)
          · skip
            refine lv_aload_n hx hb dd_M_block_36 rfl (lv_at hl 0 rfl) ?_
            refine lv_iload_n hx hb dd_M_block_37 rfl (lv_at hl 3 rfl) ?_
            refine jl_ifeq (tgt := 46) hx hb (by omega) dd_M_block_38 (by decide) (fun c_9 => ?_) (fun c_9 => ?_)
            · skip
              refine lv_iconst (v := nI 0) hx hb dd_M_block_46 (by decide) ?_
              refine lv_iload_n hx hb dd_M_block_47 rfl (lv_at hl 1 rfl) ?_
              refine lv_iload_n hx hb dd_M_block_48 rfl (lv_at hl 2 rfl) ?_
              refine jr_callV C (ct_M_byteOf l G qM qK qZ qN qB qY qi qo qm qp c1 c2 c3 c4 c5 c6 c7 c8 c9 K Z N B Y I O M P ct wr ofs 0 pa ey fo la 0 b i m (by omega) (by omega) (by omega) (by omega) (by assumption) (by assumption) (by assumption) (by assumption) (by assumption)) kl_M_127 ⟨Nat.le_of_ble_eq_true rfl, Nat.le_of_ble_eq_true rfl, rfl, rfl⟩ ⟨Nat.le_of_ble_eq_true rfl, Nat.le_of_ble_eq_true rfl⟩ (hP) (hK) (va_recv hK hP (ci := 4) (q0 := 0) rfl rfl) hl.1 rfl rfl (Nat.le_of_ble_eq_true rfl) dd_M_block_49 ?_
              have hf_10 : jm_byteOf K Z N B Y 0 b i < 10000 := jm_byteOf_lt (by assumption) (by assumption) (by assumption) (by assumption : jlt m B) (by assumption) (by omega) _ _ _
              refine lv_goto (tgt := 56) hx hb dd_M_block_52 (by decide) ?_
              have he : wM qM qK qZ qN qB qY qi qo qm qp c1 c2 c3 c4 c5 c6 c7 c8 c9 K Z N B Y I O M P ct wr ofs 0 pa ey fo la = wM qM qK qZ qN qB qY qi qo qm qp c1 c2 c3 c4 c5 c6 c7 c8 c9 K Z N B Y I O M P ct wr ofs (if 39 < b then 1 else if 15 < i then 1 else 0) pa ey fo la := by first | with_reducible rfl | (simp [c_1, c_3, c_5, c_7, c_8, c_9]; done) | (simp [show 39 < b by omega, c_1, c_3, c_5, c_7, c_8, c_9]; done) | (simp [show ¬ 39 < b by omega, show 15 < i by omega, c_1, c_3, c_5, c_7, c_8, c_9]; done) | (simp [show ¬ 39 < b by omega, show ¬ 15 < i by omega, c_1, c_3, c_5, c_7, c_8, c_9]; done)
              rw [he] at hP hD
              exact jm_reti C (by first | with_reducible rfl | (simp [c_1, c_3, c_5, c_7, c_8, c_9]; done) | (simp [show 39 < b by omega, c_1, c_3, c_5, c_7, c_8, c_9]; done) | (simp [show ¬ 39 < b by omega, show 15 < i by omega, c_1, c_3, c_5, c_7, c_8, c_9]; done) | (simp [show ¬ 39 < b by omega, show ¬ 15 < i by omega, c_1, c_3, c_5, c_7, c_8, c_9]; done)) hP hD hK hS ⟨Nat.le_of_ble_eq_true rfl, Nat.le_of_ble_eq_true rfl⟩ dd_M_block_56
            · skip
              refine lv_bipush (v := nI 12) hx hb dd_M_block_41 (by decide) ?_
              refine lv_goto (tgt := 47) hx hb dd_M_block_43 (by decide) ?_
              refine lv_iload_n hx hb dd_M_block_47 rfl (lv_at hl 1 rfl) ?_
              refine lv_iload_n hx hb dd_M_block_48 rfl (lv_at hl 2 rfl) ?_
              refine jr_callV C (ct_M_byteOf l G qM qK qZ qN qB qY qi qo qm qp c1 c2 c3 c4 c5 c6 c7 c8 c9 K Z N B Y I O M P ct wr ofs 0 pa ey fo la 12 b i m (by omega) (by omega) (by omega) (by omega) (by assumption) (by assumption) (by assumption) (by assumption) (by assumption)) kl_M_127 ⟨Nat.le_of_ble_eq_true rfl, Nat.le_of_ble_eq_true rfl, rfl, rfl⟩ ⟨Nat.le_of_ble_eq_true rfl, Nat.le_of_ble_eq_true rfl⟩ (hP) (hK) (va_recv hK hP (ci := 4) (q0 := 0) rfl rfl) hl.1 rfl rfl (Nat.le_of_ble_eq_true rfl) dd_M_block_49 ?_
              have hf_11 : jm_byteOf K Z N B Y 12 b i < 10000 := jm_byteOf_lt (by assumption) (by assumption) (by assumption) (by assumption : jlt m B) (by assumption) (by omega) _ _ _
              refine lv_goto (tgt := 56) hx hb dd_M_block_52 (by decide) ?_
              have he : wM qM qK qZ qN qB qY qi qo qm qp c1 c2 c3 c4 c5 c6 c7 c8 c9 K Z N B Y I O M P ct wr ofs 0 pa ey fo la = wM qM qK qZ qN qB qY qi qo qm qp c1 c2 c3 c4 c5 c6 c7 c8 c9 K Z N B Y I O M P ct wr ofs (if 39 < b then 1 else if 15 < i then 1 else 0) pa ey fo la := by first | with_reducible rfl | (simp [c_1, c_3, c_5, c_7, c_8, c_9]; done) | (simp [show 39 < b by omega, c_1, c_3, c_5, c_7, c_8, c_9]; done) | (simp [show ¬ 39 < b by omega, show 15 < i by omega, c_1, c_3, c_5, c_7, c_8, c_9]; done) | (simp [show ¬ 39 < b by omega, show ¬ 15 < i by omega, c_1, c_3, c_5, c_7, c_8, c_9]; done)
              rw [he] at hP hD
              exact jm_reti C (by first | with_reducible rfl | (simp [c_1, c_3, c_5, c_7, c_8, c_9]; done) | (simp [show 39 < b by omega, c_1, c_3, c_5, c_7, c_8, c_9]; done) | (simp [show ¬ 39 < b by omega, show 15 < i by omega, c_1, c_3, c_5, c_7, c_8, c_9]; done) | (simp [show ¬ 39 < b by omega, show ¬ 15 < i by omega, c_1, c_3, c_5, c_7, c_8, c_9]; done)) hP hD hK hS ⟨Nat.le_of_ble_eq_true rfl, Nat.le_of_ble_eq_true rfl⟩ dd_M_block_56
        · skip
          refine lv_iconst (v := nI 1) hx hb dd_M_block_21 (by decide) ?_
          refine lv_goto (tgt := 26) hx hb dd_M_block_22 (by decide) ?_
          refine va_put (D := G) (ci := 4) (v := .int (nI (1))) (ty := .int) (C := cn_M) (T := ft_M) (N := 17) hx hb hts uw_M fy_M fo_M fn_M hown hK hP hD hS 0 rfl rfl 12 (by decide) (hts _ tw_605) (fun _ h9 => h9) rfl (by decide +kernel) rfl rfl (Nat.le_of_ble_eq_true rfl) dd_M_block_26 (fun H locs hP hD hS => ?_)
          have hP : va_P G jcl (wM qM qK qZ qN qB qY qi qo qm qp c1 c2 c3 c4 c5 c6 c7 c8 c9 K Z N B Y I O M P ct wr ofs 1 pa ey fo la) H := hP
          have hD : va_D A (wM qM qK qZ qN qB qY qi qo qm qp c1 c2 c3 c4 c5 c6 c7 c8 c9 K Z N B Y I O M P ct wr ofs 1 pa ey fo la) := hD
          refine lv_aload_n hx hb dd_M_block_29 rfl (lv_at hl 0 rfl) ?_
          refine va_get (D := G) (ci := 4) (v := .int (nI (1))) (C := cn_M) (T := ft_M) (N := 17) hx hb hts uw_M hown hK hP 0 rfl rfl 12 (by decide) (hts _ tw_605) (fun _ h9 => h9) rfl dd_M_block_30 ?_
          refine jl_ifne (tgt := 55) hx hb (by omega) dd_M_block_33 (by decide) (fun c_12 => ?_) (fun c_12 => ?_)
          · skip
            refine lv_iconst (v := nI 0) hx hb dd_M_block_55 (by decide) ?_
            have he : wM qM qK qZ qN qB qY qi qo qm qp c1 c2 c3 c4 c5 c6 c7 c8 c9 K Z N B Y I O M P ct wr ofs 1 pa ey fo la = wM qM qK qZ qN qB qY qi qo qm qp c1 c2 c3 c4 c5 c6 c7 c8 c9 K Z N B Y I O M P ct wr ofs (if 39 < b then 1 else if 15 < i then 1 else 0) pa ey fo la := by first | with_reducible rfl | (simp [c_1, c_3, c_5, c_7, c_12]; done) | (simp [show 39 < b by omega, c_1, c_3, c_5, c_7, c_12]; done) | (simp [show ¬ 39 < b by omega, show 15 < i by omega, c_1, c_3, c_5, c_7, c_12]; done) | (simp [show ¬ 39 < b by omega, show ¬ 15 < i by omega, c_1, c_3, c_5, c_7, c_12]; done)
            rw [he] at hP hD
            exact jm_reti C (by first | with_reducible rfl | (simp [c_1, c_3, c_5, c_7, c_12]; done) | (simp [show 39 < b by omega, c_1, c_3, c_5, c_7, c_12]; done) | (simp [show ¬ 39 < b by omega, show 15 < i by omega, c_1, c_3, c_5, c_7, c_12]; done) | (simp [show ¬ 39 < b by omega, show ¬ 15 < i by omega, c_1, c_3, c_5, c_7, c_12]; done)) hP hD hK hS ⟨Nat.le_of_ble_eq_true rfl, Nat.le_of_ble_eq_true rfl⟩ dd_M_block_56
          · skip
            exact absurd c_12 (by omega)
