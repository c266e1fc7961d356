set_option maxHeartbeats 4000000 in
set_option maxRecDepth 100000 in
theorem ct_M_write (l : Launch) (G : va_G) (qM qK qZ qN qB qY qi qo qm qp : Nat) (c1 c2 c3 c4 c5 c6 c7 c8 c9 : ClassId) (K : Nat → Nat) (Z : Nat → Nat) (N : Nat → Nat) (B : Nat → Nat) (Y : Nat → Nat) (I : Nat → Nat) (O : Nat → Nat) (M : Nat → Nat) (P : Nat → Nat) (ct : Nat) (wr : Nat) (ofs : Nat) (th : Nat) (pa : Option Nat) (ey : Option Nat) (fo : Option Nat) (la : Nat) (h : Nat) (b : Nat) (z : Nat) (m : Nat) (hh0 : h < 4294967296) (hb0 : b < 18446744073709551616) (hz0 : z < 4294967296) (hm0 : 9 ≤ m ∧ m < 5000) (hB : jlt m B) (hK : jlt 3 K) (hZ : jlt 65 Z) (hN : jlt 256 N) (hI : jlt 13 I) (hO : jlt 256 O) (hM : jlt 5 M) (hPp : jlt 65 P) : jm l yn_M_write (.code yn_M_write cd_M_write 9 none) { frames := 3, cells := 0, slots := 0, locals := 67 } G (tM c1 c2 c3 c4 c5 c6 c7 c8 c9) (wM qM qK qZ qN qB qY qi qo qm qp c1 c2 c3 c4 c5 c6 c7 c8 c9 K Z N B Y I O M P ct wr ofs th pa ey fo la) [.ref qM, .int (nI (h)), .long (lN (b)), .int (nI (z))] none (wM qM qK qZ qN qB qY qi qo qm qp c1 c2 c3 c4 c5 c6 c7 c8 c9 K (if jm_wrT K Z N B I O M P h z = 0 then (if z = 0 then Z else ju Z (I h - 1) (if Z (I h - 1) < P h + z then P h + z else Z (I h - 1))) else Z) N (if jm_wrT K Z N B I O M P h z = 0 then (if z = 0 then B else jm_resB B m (I h - 1) (if Z (I h - 1) < P h + z then P h + z else Z (I h - 1))) else B) (if jm_wrT K Z N B I O M P h z = 0 then (if z = 0 then Y else jm_wrL b (I h - 1) (P h) z 0 (jm_resY Y (I h - 1) (if Z (I h - 1) < P h + z then P h + z else Z (I h - 1)))) else Y) I O M (if jm_wrT K Z N B I O M P h z = 0 then (if z = 0 then P else ju P h (P h + z)) else P) ct wr ofs (jm_wrT K Z N B I O M P h z) pa ey fo la) := by
  refine jm_of (by decide) (Nat.le_of_ble_eq_true rfl) ?_
  intro pr en σ mi bel met cd ls A hA C hP hK hD hS hl
  have hx := C.1
  have hb := C.2.1
  have hown := C.2.2.2.1
  have hts := C.2.2.2.2.1
  have hl : lv_has ls 9 [(0, .ref qM), (1, .int (nI (h))), (2, .long (lN (b))), (4, .int (nI (z)))] := hl
  refine lv_aload_n hx hb dd_M_write_0 rfl (lv_at hl 0 rfl) ?_
  refine lv_iload_n hx hb dd_M_write_1 rfl (lv_at hl 1 rfl) ?_
  refine jl_iflt32 (tgt := 22) hx hb (by omega) dd_M_write_2 (by decide) (fun c_1 => ?_) (fun c_1 => ?_)
  · skip
    refine lv_iconst (v := nI 1) hx hb dd_M_write_22 (by decide) ?_
    refine lv_goto (tgt := 33) hx hb dd_M_write_23 (by decide) ?_
    refine va_put (D := G) (ci := 4) (v := .int (nI (1))) (ty := .int) (C := cn_M) (T := ft_M) (N := 17) hx hb hts uw_M fy_M fo_M fn_M hown hK hP hD hS 0 rfl rfl 12 (by decide) (hts _ tw_605) (fun _ h9 => h9) rfl (by decide +kernel) rfl rfl (Nat.le_of_ble_eq_true rfl) dd_M_write_33 (fun H locs hP hD hS => ?_)
    have hP : va_P G jcl (wM qM qK qZ qN qB qY qi qo qm qp c1 c2 c3 c4 c5 c6 c7 c8 c9 K Z N B Y I O M P ct wr ofs 1 pa ey fo la) H := hP
    have hD : va_D A (wM qM qK qZ qN qB qY qi qo qm qp c1 c2 c3 c4 c5 c6 c7 c8 c9 K Z N B Y I O M P ct wr ofs 1 pa ey fo la) := hD
    refine lv_aload_n hx hb dd_M_write_36 rfl (lv_at hl 0 rfl) ?_
    refine va_get (D := G) (ci := 4) (v := .int (nI (1))) (C := cn_M) (T := ft_M) (N := 17) hx hb hts uw_M hown hK hP 0 rfl rfl 12 (by decide) (hts _ tw_605) (fun _ h9 => h9) rfl dd_M_write_37 ?_
    refine jl_ifne (tgt := 48) hx hb (by omega) dd_M_write_40 (by decide) (fun c_2 => ?_) (fun c_2 => ?_)
    · skip
      have he : wM qM qK qZ qN qB qY qi qo qm qp c1 c2 c3 c4 c5 c6 c7 c8 c9 K Z N B Y I O M P ct wr ofs 1 pa ey fo la = wM qM qK qZ qN qB qY qi qo qm qp c1 c2 c3 c4 c5 c6 c7 c8 c9 K (if jm_wrT K Z N B I O M P h z = 0 then (if z = 0 then Z else ju Z (I h - 1) (if Z (I h - 1) < P h + z then P h + z else Z (I h - 1))) else Z) N (if jm_wrT K Z N B I O M P h z = 0 then (if z = 0 then B else jm_resB B m (I h - 1) (if Z (I h - 1) < P h + z then P h + z else Z (I h - 1))) else B) (if jm_wrT K Z N B I O M P h z = 0 then (if z = 0 then Y else jm_wrL b (I h - 1) (P h) z 0 (jm_resY Y (I h - 1) (if Z (I h - 1) < P h + z then P h + z else Z (I h - 1)))) else Y) I O M (if jm_wrT K Z N B I O M P h z = 0 then (if z = 0 then P else ju P h (P h + z)) else P) ct wr ofs (jm_wrT K Z N B I O M P h z) pa ey fo la := by first | with_reducible rfl | (simp [jm_wrT, c_1, c_2]; done) | (simp [show 5 < h by omega, jm_wrT, c_1, c_2]; done) | (simp [show ¬ 5 < h by omega, show 8 < z by omega, jm_wrT, c_1, c_2]; done) | (simp [show ¬ 5 < h by omega, show ¬ 8 < z by omega, jm_wrT, c_1, c_2]; done)
      rw [he] at hP hD
      exact jm_retv C hP hD hK hS ⟨Nat.le_of_ble_eq_true rfl, Nat.le_of_ble_eq_true rfl⟩ dd_M_write_48
    · skip
      exact absurd c_2 (by omega)
  · skip
    refine lv_iload_n hx hb dd_M_write_5 rfl (lv_at hl 1 rfl) ?_
    refine lv_iconst (v := nI 5) hx hb dd_M_write_6 (by decide) ?_
    refine jl_gt (tgt := 22) hx hb (by omega) (by omega) dd_M_write_7 (by decide) (fun c_3 => ?_) (fun c_3 => ?_)
    · skip
      refine lv_iconst (v := nI 1) hx hb dd_M_write_22 (by decide) ?_
      refine lv_goto (tgt := 33) hx hb dd_M_write_23 (by decide) ?_
      refine va_put (D := G) (ci := 4) (v := .int (nI (1))) (ty := .int) (C := cn_M) (T := ft_M) (N := 17) hx hb hts uw_M fy_M fo_M fn_M hown hK hP hD hS 0 rfl rfl 12 (by decide) (hts _ tw_605) (fun _ h9 => h9) rfl (by decide +kernel) rfl rfl (Nat.le_of_ble_eq_true rfl) dd_M_write_33 (fun H locs hP hD hS => ?_)
      have hP : va_P G jcl (wM qM qK qZ qN qB qY qi qo qm qp c1 c2 c3 c4 c5 c6 c7 c8 c9 K Z N B Y I O M P ct wr ofs 1 pa ey fo la) H := hP
      have hD : va_D A (wM qM qK qZ qN qB qY qi qo qm qp c1 c2 c3 c4 c5 c6 c7 c8 c9 K Z N B Y I O M P ct wr ofs 1 pa ey fo la) := hD
      refine lv_aload_n hx hb dd_M_write_36 rfl (lv_at hl 0 rfl) ?_
      refine va_get (D := G) (ci := 4) (v := .int (nI (1))) (C := cn_M) (T := ft_M) (N := 17) hx hb hts uw_M hown hK hP 0 rfl rfl 12 (by decide) (hts _ tw_605) (fun _ h9 => h9) rfl dd_M_write_37 ?_
      refine jl_ifne (tgt := 48) hx hb (by omega) dd_M_write_40 (by decide) (fun c_4 => ?_) (fun c_4 => ?_)
      · skip
        have he : wM qM qK qZ qN qB qY qi qo qm qp c1 c2 c3 c4 c5 c6 c7 c8 c9 K Z N B Y I O M P ct wr ofs 1 pa ey fo la = wM qM qK qZ qN qB qY qi qo qm qp c1 c2 c3 c4 c5 c6 c7 c8 c9 K (if jm_wrT K Z N B I O M P h z = 0 then (if z = 0 then Z else ju Z (I h - 1) (if Z (I h - 1) < P h + z then P h + z else Z (I h - 1))) else Z) N (if jm_wrT K Z N B I O M P h z = 0 then (if z = 0 then B else jm_resB B m (I h - 1) (if Z (I h - 1) < P h + z then P h + z else Z (I h - 1))) else B) (if jm_wrT K Z N B I O M P h z = 0 then (if z = 0 then Y else jm_wrL b (I h - 1) (P h) z 0 (jm_resY Y (I h - 1) (if Z (I h - 1) < P h + z then P h + z else Z (I h - 1)))) else Y) I O M (if jm_wrT K Z N B I O M P h z = 0 then (if z = 0 then P else ju P h (P h + z)) else P) ct wr ofs (jm_wrT K Z N B I O M P h z) pa ey fo la := by first | with_reducible rfl | (simp [jm_wrT, c_1, c_3, c_4]; done) | (simp [show 5 < h by omega, jm_wrT, c_1, c_3, c_4]; done) | (simp [show ¬ 5 < h by omega, show 8 < z by omega, jm_wrT, c_1, c_3, c_4]; done) | (simp [show ¬ 5 < h by omega, show ¬ 8 < z by omega, jm_wrT, c_1, c_3, c_4]; done)
        rw [he] at hP hD
        exact jm_retv C hP hD hK hS ⟨Nat.le_of_ble_eq_true rfl, Nat.le_of_ble_eq_true rfl⟩ dd_M_write_48
      · skip
        exact absurd c_4 (by omega)
    · skip
      refine lv_iload hx hb dd_M_write_10 (lv_at hl 3 rfl) ?_
      refine jl_iflt32 (tgt := 22) hx hb (by omega) dd_M_write_12 (by decide) (fun c_5 => ?_) (fun c_5 => ?_)
      · skip
        refine lv_iconst (v := nI 1) hx hb dd_M_write_22 (by decide) ?_
        refine lv_goto (tgt := 33) hx hb dd_M_write_23 (by decide) ?_
        refine va_put (D := G) (ci := 4) (v := .int (nI (1))) (ty := .int) (C := cn_M) (T := ft_M) (N := 17) hx hb hts uw_M fy_M fo_M fn_M hown hK hP hD hS 0 rfl rfl 12 (by decide) (hts _ tw_605) (fun _ h9 => h9) rfl (by decide +kernel) rfl rfl (Nat.le_of_ble_eq_true rfl) dd_M_write_33 (fun H locs hP hD hS => ?_)
        have hP : va_P G jcl (wM qM qK qZ qN qB qY qi qo qm qp c1 c2 c3 c4 c5 c6 c7 c8 c9 K Z N B Y I O M P ct wr ofs 1 pa ey fo la) H := hP
        have hD : va_D A (wM qM qK qZ qN qB qY qi qo qm qp c1 c2 c3 c4 c5 c6 c7 c8 c9 K Z N B Y I O M P ct wr ofs 1 pa ey fo la) := hD
        refine lv_aload_n hx hb dd_M_write_36 rfl (lv_at hl 0 rfl) ?_
        refine va_get (D := G) (ci := 4) (v := .int (nI (1))) (C := cn_M) (T := ft_M) (N := 17) hx hb hts uw_M hown hK hP 0 rfl rfl 12 (by decide) (hts _ tw_605) (fun _ h9 => h9) rfl dd_M_write_37 ?_
        refine jl_ifne (tgt := 48) hx hb (by omega) dd_M_write_40 (by decide) (fun c_6 => ?_) (fun c_6 => ?_)
        · skip
          have he : wM qM qK qZ qN qB qY qi qo qm qp c1 c2 c3 c4 c5 c6 c7 c8 c9 K Z N B Y I O M P ct wr ofs 1 pa ey fo la = wM qM qK qZ qN qB qY qi qo qm qp c1 c2 c3 c4 c5 c6 c7 c8 c9 K (if jm_wrT K Z N B I O M P h z = 0 then (if z = 0 then Z else ju Z (I h - 1) (if Z (I h - 1) < P h + z then P h + z else Z (I h - 1))) else Z) N (if jm_wrT K Z N B I O M P h z = 0 then (if z = 0 then B else jm_resB B m (I h - 1) (if Z (I h - 1) < P h + z then P h + z else Z (I h - 1))) else B) (if jm_wrT K Z N B I O M P h z = 0 then (if z = 0 then Y else jm_wrL b (I h - 1) (P h) z 0 (jm_resY Y (I h - 1) (if Z (I h - 1) < P h + z then P h + z else Z (I h - 1)))) else Y) I O M (if jm_wrT K Z N B I O M P h z = 0 then (if z = 0 then P else ju P h (P h + z)) else P) ct wr ofs (jm_wrT K Z N B I O M P h z) pa ey fo la := by first | with_reducible rfl | (simp [jm_wrT, c_1, c_3, c_5, c_6]; done) | (simp [show 5 < h by omega, jm_wrT, c_1, c_3, c_5, c_6]; done) | (simp [show ¬ 5 < h by omega, show 8 < z by omega, jm_wrT, c_1, c_3, c_5, c_6]; done) | (simp [show ¬ 5 < h by omega, show ¬ 8 < z by omega, jm_wrT, c_1, c_3, c_5, c_6]; done)
          rw [he] at hP hD
          exact jm_retv C hP hD hK hS ⟨Nat.le_of_ble_eq_true rfl, Nat.le_of_ble_eq_true rfl⟩ dd_M_write_48
        · skip
          exact absurd c_6 (by omega)
      · skip
        refine lv_iload hx hb dd_M_write_15 (lv_at hl 3 rfl) ?_
        refine lv_bipush (v := nI 8) hx hb dd_M_write_17 (by decide) ?_
        refine jl_le (tgt := 26) hx hb (by omega) (by omega) dd_M_write_19 (by decide) (fun c_7 => ?_) (fun c_7 => ?_)
        · skip
          refine lv_aload_n hx hb dd_M_write_26 rfl (lv_at hl 0 rfl) ?_
          refine lv_iload_n hx hb dd_M_write_27 rfl (lv_at hl 1 rfl) ?_
          refine lv_iconst (v := nI 2) hx hb dd_M_write_28 (by decide) ?_
          refine lv_iconst (v := nI 2) hx hb dd_M_write_29 (by decide) ?_
          refine jr_callV C (ct_M_wrong l G qM qK qZ qN qB qY qi qo qm qp c1 c2 c3 c4 c5 c6 c7 c8 c9 K Z N B Y I O M P ct wr ofs th pa ey fo la h 2 2 (by omega) (by omega) (by omega) (by assumption) (by assumption) (by assumption) (by assumption) (by assumption)) kl_M_102 ⟨Nat.le_of_ble_eq_true rfl, Nat.le_of_ble_eq_true rfl, rfl, rfl⟩ ⟨Nat.le_of_ble_eq_true rfl, Nat.le_of_ble_eq_true rfl⟩ (hP) (hK) (va_recv hK hP (ci := 4) (q0 := 0) rfl rfl) hl.1 rfl rfl (Nat.le_of_ble_eq_true rfl) dd_M_write_30 ?_
          have hf_8 : jm_wrong K N I O M h 2 2 < 3 := jm_wrong_lt _ _ _ _ _ _ _ _
          refine va_put (D := G) (ci := 4) (v := .int (nI (jm_wrong K N I O M h 2 2))) (ty := .int) (C := cn_M) (T := ft_M) (N := 17) hx hb hts uw_M fy_M fo_M fn_M hown hK hP hD hS 0 rfl rfl 12 (by decide) (hts _ tw_605) (fun _ h9 => h9) rfl (by decide +kernel) rfl rfl (Nat.le_of_ble_eq_true rfl) dd_M_write_33 (fun H locs hP hD hS => ?_)
          have hP : va_P G jcl (wM qM qK qZ qN qB qY qi qo qm qp c1 c2 c3 c4 c5 c6 c7 c8 c9 K Z N B Y I O M P ct wr ofs (jm_wrong K N I O M h 2 2) pa ey fo la) H := hP
          have hD : va_D A (wM qM qK qZ qN qB qY qi qo qm qp c1 c2 c3 c4 c5 c6 c7 c8 c9 K Z N B Y I O M P ct wr ofs (jm_wrong K N I O M h 2 2) pa ey fo la) := hD
          refine lv_aload_n hx hb dd_M_write_36 rfl (lv_at hl 0 rfl) ?_
          refine va_get (D := G) (ci := 4) (v := .int (nI (jm_wrong K N I O M h 2 2))) (C := cn_M) (T := ft_M) (N := 17) hx hb hts uw_M hown hK hP 0 rfl rfl 12 (by decide) (hts _ tw_605) (fun _ h9 => h9) rfl dd_M_write_37 ?_
          refine jl_ifne (tgt := 48) hx hb (by omega) dd_M_write_40 (by decide) (fun c_9 => ?_) (fun c_9 => ?_)
          · skip
            have he : wM qM qK qZ qN qB qY qi qo qm qp c1 c2 c3 c4 c5 c6 c7 c8 c9 K Z N B Y I O M P ct wr ofs (jm_wrong K N I O M h 2 2) pa ey fo la = wM qM qK qZ qN qB qY qi qo qm qp c1 c2 c3 c4 c5 c6 c7 c8 c9 K (if jm_wrT K Z N B I O M P h z = 0 then (if z = 0 then Z else ju Z (I h - 1) (if Z (I h - 1) < P h + z then P h + z else Z (I h - 1))) else Z) N (if jm_wrT K Z N B I O M P h z = 0 then (if z = 0 then B else jm_resB B m (I h - 1) (if Z (I h - 1) < P h + z then P h + z else Z (I h - 1))) else B) (if jm_wrT K Z N B I O M P h z = 0 then (if z = 0 then Y else jm_wrL b (I h - 1) (P h) z 0 (jm_resY Y (I h - 1) (if Z (I h - 1) < P h + z then P h + z else Z (I h - 1)))) else Y) I O M (if jm_wrT K Z N B I O M P h z = 0 then (if z = 0 then P else ju P h (P h + z)) else P) ct wr ofs (jm_wrT K Z N B I O M P h z) pa ey fo la := by first | with_reducible rfl | (simp [jm_wrT, c_1, c_3, c_5, c_7, c_9]; done) | (simp [show 5 < h by omega, jm_wrT, c_1, c_3, c_5, c_7, c_9]; done) | (simp [show ¬ 5 < h by omega, show 8 < z by omega, jm_wrT, c_1, c_3, c_5, c_7, c_9]; done) | (simp [show ¬ 5 < h by omega, show ¬ 8 < z by omega, jm_wrT, c_1, c_3, c_5, c_7, c_9]; done)
            rw [he] at hP hD
            exact jm_retv C hP hD hK hS ⟨Nat.le_of_ble_eq_true rfl, Nat.le_of_ble_eq_true rfl⟩ dd_M_write_48
          · skip
            have hw9 := jm_wrong_0 c_9
            refine lv_iload hx hb dd_M_write_43 (lv_at hl 3 rfl) ?_
            refine jl_ifne32 (tgt := 49) hx hb (by omega) dd_M_write_45 (by decide) (fun c_10 => ?_) (fun c_10 => ?_)
            · skip
              refine lv_aload_n hx hb dd_M_write_49 rfl (lv_at hl 0 rfl) ?_
              refine va_get (D := G) (ci := 4) (v := .ref qi) (C := cn_M) (T := ft_M) (N := 17) hx hb hts uw_M hown hK hP 0 rfl rfl 5 (by decide) (hts _ tw_598) (fun _ h9 => h9) rfl dd_M_write_50 ?_
              refine lv_iload_n hx hb dd_M_write_53 rfl (lv_at hl 1 rfl) ?_
              refine va_iald hx hb hK hP 6 5 rfl rfl (vp_in_nI (by omega) (by decide)) dd_M_write_54 ?_
              refine jl_top (jn_at (I) (by omega)) ?_
              have hf_11 : I h < 13 := (by assumption : jlt 13 I) _
              refine lv_iconst (v := nI 1) hx hb dd_M_write_55 (by decide) ?_
              refine jl_isub hx hb (by omega) dd_M_write_56 ?_
              refine lv_istore (lv' := [(5, .int (nI ((I h) - 1))), (0, .ref qM), (1, .int (nI (h))), (2, .long (lN (b))), (4, .int (nI (z)))]) hx hb dd_M_write_57 hl (by decide) rfl (fun ls hl => ?_)
              refine lv_aload_n hx hb dd_M_write_59 rfl (lv_at hl 1 rfl) ?_
              refine va_get (D := G) (ci := 4) (v := .ref qp) (C := cn_M) (T := ft_M) (N := 17) hx hb hts uw_M hown hK hP 0 rfl rfl 8 (by decide) (hts _ tw_601) (fun _ h9 => h9) rfl dd_M_write_60 ?_
              refine lv_iload_n hx hb dd_M_write_63 rfl (lv_at hl 2 rfl) ?_
              refine va_iald hx hb hK hP 9 8 rfl rfl (vp_in_nI (by omega) (by decide)) dd_M_write_64 ?_
              refine jl_top (jn_at (P) (by omega)) ?_
              have hf_12 : P h < 65 := (by assumption : jlt 65 P) _
              refine lv_iload hx hb dd_M_write_65 (lv_at hl 4 rfl) ?_
              refine jl_iadd hx hb dd_M_write_67 ?_
              refine lv_istore (lv' := [(6, .int (nI ((P h) + z))), (5, .int (nI ((I h) - 1))), (0, .ref qM), (1, .int (nI (h))), (2, .long (lN (b))), (4, .int (nI (z)))]) hx hb dd_M_write_68 hl (by decide) rfl (fun ls hl => ?_)
              refine lv_iload hx hb dd_M_write_70 (lv_at hl 0 rfl) ?_
              refine lv_aload_n hx hb dd_M_write_72 rfl (lv_at hl 2 rfl) ?_
              refine va_get (D := G) (ci := 4) (v := .ref qZ) (C := cn_M) (T := ft_M) (N := 17) hx hb hts uw_M hown hK hP 0 rfl rfl 1 (by decide) (hts _ tw_594) (fun _ h9 => h9) rfl dd_M_write_73 ?_
              refine lv_iload hx hb dd_M_write_76 (lv_at hl 1 rfl) ?_
              refine va_iald hx hb hK hP 2 1 rfl rfl (vp_in_nI (by omega) (by decide)) dd_M_write_78 ?_
              refine jl_top (jn_at (Z) (by omega)) ?_
              have hf_13 : Z ((I h) - 1) < 65 := (by assumption : jlt 65 Z) _
              refine jl_le (tgt := 87) hx hb (by omega) (by omega) dd_M_write_79 (by decide) (fun c_14 => ?_) (fun c_14 => ?_)
              · skip
                refine lv_aload_n hx hb dd_M_write_87 rfl (lv_at hl 2 rfl) ?_
                refine va_get (D := G) (ci := 4) (v := .ref qZ) (C := cn_M) (T := ft_M) (N := 17) hx hb hts uw_M hown hK hP 0 rfl rfl 1 (by decide) (hts _ tw_594) (fun _ h9 => h9) rfl dd_M_write_88 ?_
                refine lv_iload hx hb dd_M_write_91 (lv_at hl 1 rfl) ?_
                refine va_iald hx hb hK hP 2 1 rfl rfl (vp_in_nI (by omega) (by decide)) dd_M_write_93 ?_
                refine jl_top (jn_at (Z) (by omega)) ?_
                have hf_15 : Z ((I h) - 1) < 65 := (by assumption : jlt 65 Z) _
                refine lv_istore (lv' := [(7, .int (nI (Z ((I h) - 1)))), (6, .int (nI ((P h) + z))), (5, .int (nI ((I h) - 1))), (0, .ref qM), (1, .int (nI (h))), (2, .long (lN (b))), (4, .int (nI (z)))]) hx hb dd_M_write_94 hl (by decide) rfl (fun ls hl => ?_)
                refine lv_iload hx hb dd_M_write_96 (lv_at hl 1 rfl) ?_
                refine lv_bipush (v := nI 64) hx hb dd_M_write_98 (by decide) ?_
                refine jl_gt (tgt := 114) hx hb (by omega) (by omega) dd_M_write_100 (by decide) (fun c_16 => ?_) (fun c_16 => ?_)
                · skip
                  refine lv_aload_n hx hb dd_M_write_114 rfl (lv_at hl 3 rfl) ?_
                  refine lv_iconst (v := nI 3) hx hb dd_M_write_115 (by decide) ?_
                  refine va_put (D := G) (ci := 4) (v := .int (nI (3))) (ty := .int) (C := cn_M) (T := ft_M) (N := 17) hx hb hts uw_M fy_M fo_M fn_M hown hK hP hD hS 0 rfl rfl 12 (by decide) (hts _ tw_605) (fun _ h9 => h9) rfl (by decide +kernel) rfl rfl (Nat.le_of_ble_eq_true rfl) dd_M_write_116 (fun H locs hP hD hS => ?_)
                  have hP : va_P G jcl (wM qM qK qZ qN qB qY qi qo qm qp c1 c2 c3 c4 c5 c6 c7 c8 c9 K Z N B Y I O M P ct wr ofs 3 pa ey fo la) H := hP
                  have hD : va_D A (wM qM qK qZ qN qB qY qi qo qm qp c1 c2 c3 c4 c5 c6 c7 c8 c9 K Z N B Y I O M P ct wr ofs 3 pa ey fo la) := hD
                  have he : wM qM qK qZ qN qB qY qi qo qm qp c1 c2 c3 c4 c5 c6 c7 c8 c9 K Z N B Y I O M P ct wr ofs 3 pa ey fo la = wM qM qK qZ qN qB qY qi qo qm qp c1 c2 c3 c4 c5 c6 c7 c8 c9 K (if jm_wrT K Z N B I O M P h z = 0 then (if z = 0 then Z else ju Z (I h - 1) (if Z (I h - 1) < P h + z then P h + z else Z (I h - 1))) else Z) N (if jm_wrT K Z N B I O M P h z = 0 then (if z = 0 then B else jm_resB B m (I h - 1) (if Z (I h - 1) < P h + z then P h + z else Z (I h - 1))) else B) (if jm_wrT K Z N B I O M P h z = 0 then (if z = 0 then Y else jm_wrL b (I h - 1) (P h) z 0 (jm_resY Y (I h - 1) (if Z (I h - 1) < P h + z then P h + z else Z (I h - 1)))) else Y) I O M (if jm_wrT K Z N B I O M P h z = 0 then (if z = 0 then P else ju P h (P h + z)) else P) ct wr ofs (jm_wrT K Z N B I O M P h z) pa ey fo la := by first | with_reducible rfl | (simp [jm_wrT, c_1, c_3, c_5, c_7, c_9, c_10, c_14, c_16]; done) | (simp [show 5 < h by omega, jm_wrT, c_1, c_3, c_5, c_7, c_9, c_10, c_14, c_16]; done) | (simp [show ¬ 5 < h by omega, show 8 < z by omega, jm_wrT, c_1, c_3, c_5, c_7, c_9, c_10, c_14, c_16]; done) | (simp [show ¬ 5 < h by omega, show ¬ 8 < z by omega, jm_wrT, c_1, c_3, c_5, c_7, c_9, c_10, c_14, c_16]; done)
                  rw [he] at hP hD
                  exact jm_retv C hP hD hK hS ⟨Nat.le_of_ble_eq_true rfl, Nat.le_of_ble_eq_true rfl⟩ dd_M_write_119
                · skip
                  refine lv_aload_n hx hb dd_M_write_103 rfl (lv_at hl 3 rfl) ?_
                  refine lv_iload hx hb dd_M_write_104 (lv_at hl 2 rfl) ?_
                  refine lv_iload hx hb dd_M_write_106 (lv_at hl 0 rfl) ?_
                  refine jr_callV C (ct_M_roomFor l G qM qK qZ qN qB qY qi qo qm qp c1 c2 c3 c4 c5 c6 c7 c8 c9 K Z N B Y I O M P ct wr ofs (jm_wrong K N I O M h 2 2) pa ey fo la ((I h) - 1) (Z ((I h) - 1)) m (by omega) (by omega) (by omega) (by assumption) (by assumption)) kl_M_106 ⟨Nat.le_of_ble_eq_true rfl, Nat.le_of_ble_eq_true rfl, rfl, rfl⟩ ⟨Nat.le_of_ble_eq_true rfl, Nat.le_of_ble_eq_true rfl⟩ (hP) (hK) (va_recv hK hP (ci := 4) (q0 := 0) rfl rfl) hl.1 rfl rfl (Nat.le_of_ble_eq_true rfl) dd_M_write_108 ?_
                  have hf_17 : jm_roomFor Z B ((I h) - 1) (Z ((I h) - 1)) < 2 := by unfold jm_roomFor; split <;> decide
                  refine jl_ifne (tgt := 120) hx hb (by omega) dd_M_write_111 (by decide) (fun c_18 => ?_) (fun c_18 => ?_)
                  · skip
                    refine lv_aload_n hx hb dd_M_write_120 rfl (lv_at hl 3 rfl) ?_
                    refine lv_iload hx hb dd_M_write_121 (lv_at hl 2 rfl) ?_
                    refine lv_iload hx hb dd_M_write_123 (lv_at hl 0 rfl) ?_
                    refine jm_callV (wr := []) C (ct_M_resize l G qM qK qZ qN qB qY qi qo qm qp c1 c2 c3 c4 c5 c6 c7 c8 c9 K Z N B Y I O M P ct wr ofs (jm_wrong K N I O M h 2 2) pa ey fo la ((I h) - 1) (Z ((I h) - 1)) m (by omega) (by omega) (by omega) (by assumption)) kl_M_56 ⟨Nat.le_of_ble_eq_true rfl, Nat.le_of_ble_eq_true rfl⟩ ⟨Nat.le_of_ble_eq_true rfl, Nat.le_of_ble_eq_true rfl⟩ hP hD hS hA (hK) (va_recv hK hP (ci := 4) (q0 := 0) rfl rfl) hl.1 rfl rfl (Nat.le_of_ble_eq_true rfl) dd_M_write_125 (fun H locs hP hD hS => ?_)
                    have hP : va_P G jcl (wM qM qK qZ qN qB qY qi qo qm qp c1 c2 c3 c4 c5 c6 c7 c8 c9 K (ju Z ((I h) - 1) (Z ((I h) - 1))) N (jm_resB B m ((I h) - 1) (Z ((I h) - 1))) (jm_resY Y ((I h) - 1) (Z ((I h) - 1))) I O M P ct wr ofs (jm_wrong K N I O M h 2 2) pa ey fo la) H := hP
                    have hD : va_D A (wM qM qK qZ qN qB qY qi qo qm qp c1 c2 c3 c4 c5 c6 c7 c8 c9 K (ju Z ((I h) - 1) (Z ((I h) - 1))) N (jm_resB B m ((I h) - 1) (Z ((I h) - 1))) (jm_resY Y ((I h) - 1) (Z ((I h) - 1))) I O M P ct wr ofs (jm_wrong K N I O M h 2 2) pa ey fo la) := hD
                    have hf_19 : jlt (m + 4) (jm_resB B m ((I h) - 1) (Z ((I h) - 1))) := jm_rsL_lt _ _ 4 _ 0 (by omega) (by assumption)
                    refine lv_iconst (v := nI 0) hx hb dd_M_write_128 (by decide) ?_
                    refine lv_istore (lv' := [(8, .int (nI (0))), (7, .int (nI (Z ((I h) - 1)))), (6, .int (nI ((P h) + z))), (5, .int (nI ((I h) - 1))), (0, .ref qM), (1, .int (nI (h))), (2, .long (lN (b))), (4, .int (nI (z)))]) hx hb dd_M_write_129 hl (by decide) rfl (fun ls hl => ?_)
                    have loop : ∀ (n : Nat) (k : Nat) (Y9 : Nat → Nat), (k + n = z) → jm_wrL b (I h - 1) (P h) n k Y9 = jm_wrL b (I h - 1) (P h) z 0 (jm_resY Y ((I h) - 1) (Z ((I h) - 1))) → ∀ (H : Heap) (locs : List Loc), va_P G jcl (wM qM qK qZ qN qB qY qi qo qm qp c1 c2 c3 c4 c5 c6 c7 c8 c9 K (ju Z ((I h) - 1) (Z ((I h) - 1))) N (jm_resB B m ((I h) - 1) (Z ((I h) - 1))) Y9 I O M P ct wr ofs (jm_wrong K N I O M h 2 2) pa ey fo la) H → va_D A (wM qM qK qZ qN qB qY qi qo qm qp c1 c2 c3 c4 c5 c6 c7 c8 c9 K (ju Z ((I h) - 1) (Z ((I h) - 1))) N (jm_resB B m ((I h) - 1) (Z ((I h) - 1))) Y9 I O M P ct wr ofs (jm_wrong K N I O M h 2 2) pa ey fo la) → va_S A σ.heap H locs → ∀ ls : Array Slot, lv_has ls 9 [(8, .int (nI (k))), (7, .int (nI (Z ((I h) - 1)))), (6, .int (nI ((P h) + z))), (5, .int (nI ((I h) - 1))), (0, .ref qM), (1, .int (nI (h))), (2, .long (lN (b))), (4, .int (nI (z)))] → W pr l en { frames := 3, cells := 0, slots := 0, locals := 67 } σ mi ([.ref qM, .int (nI (h)), .long (lN (b)), .int (nI (z))] : List Value).toArray bel met cd H locs 0 0 (jm_Q bel { frames := 3, cells := 0, slots := 0, locals := 67 } G (tM c1 c2 c3 c4 c5 c6 c7 c8 c9) A [.ref qM, .int (nI (h)), .long (lN (b)), .int (nI (z))] σ none (wM qM qK qZ qN qB qY qi qo qm qp c1 c2 c3 c4 c5 c6 c7 c8 c9 K (if jm_wrT K Z N B I O M P h z = 0 then (if z = 0 then Z else ju Z (I h - 1) (if Z (I h - 1) < P h + z then P h + z else Z (I h - 1))) else Z) N (if jm_wrT K Z N B I O M P h z = 0 then (if z = 0 then B else jm_resB B m (I h - 1) (if Z (I h - 1) < P h + z then P h + z else Z (I h - 1))) else B) (if jm_wrT K Z N B I O M P h z = 0 then (if z = 0 then Y else jm_wrL b (I h - 1) (P h) z 0 (jm_resY Y (I h - 1) (if Z (I h - 1) < P h + z then P h + z else Z (I h - 1)))) else Y) I O M (if jm_wrT K Z N B I O M P h z = 0 then (if z = 0 then P else ju P h (P h + z)) else P) ct wr ofs (jm_wrT K Z N B I O M P h z) pa ey fo la)) (F0 mi 131 ls []) := by
                      intro n
                      induction n with
                      | zero =>
                        intro k Y9 hi  ht H locs hP hD hS ls hl
                        refine lv_iload hx hb dd_M_write_131 (lv_at hl 0 rfl) ?_
                        refine lv_iload hx hb dd_M_write_133 (lv_at hl 7 rfl) ?_
                        refine jl_ge (tgt := 176) hx hb (by omega) (by omega) dd_M_write_135 (by decide) (fun c_20 => ?_) (fun c_20 => ?_)
                        · skip
                          refine lv_aload_n hx hb dd_M_write_176 rfl (lv_at hl 4 rfl) ?_
                          refine va_get (D := G) (ci := 4) (v := .ref qp) (C := cn_M) (T := ft_M) (N := 17) hx hb hts uw_M hown hK hP 0 rfl rfl 8 (by decide) (hts _ tw_601) (fun _ h9 => h9) rfl dd_M_write_177 ?_
                          refine lv_iload_n hx hb dd_M_write_180 rfl (lv_at hl 5 rfl) ?_
                          refine lv_iload hx hb dd_M_write_181 (lv_at hl 2 rfl) ?_
                          refine va_iast hx hb hK hP hD hS 9 8 rfl rfl (vp_in_nI (by omega) (by decide)) dd_M_write_183 (fun H locs hP hD hS => ?_)
                          rw [jn_upd (P) ((P h) + z) (by omega)] at hP hD
                          have hP : va_P G jcl (wM qM qK qZ qN qB qY qi qo qm qp c1 c2 c3 c4 c5 c6 c7 c8 c9 K (ju Z ((I h) - 1) (Z ((I h) - 1))) N (jm_resB B m ((I h) - 1) (Z ((I h) - 1))) Y9 I O M (ju P h ((P h) + z)) ct wr ofs (jm_wrong K N I O M h 2 2) pa ey fo la) H := hP
                          have hD : va_D A (wM qM qK qZ qN qB qY qi qo qm qp c1 c2 c3 c4 c5 c6 c7 c8 c9 K (ju Z ((I h) - 1) (Z ((I h) - 1))) N (jm_resB B m ((I h) - 1) (Z ((I h) - 1))) Y9 I O M (ju P h ((P h) + z)) ct wr ofs (jm_wrong K N I O M h 2 2) pa ey fo la) := hD
                          have he : wM qM qK qZ qN qB qY qi qo qm qp c1 c2 c3 c4 c5 c6 c7 c8 c9 K (ju Z ((I h) - 1) (Z ((I h) - 1))) N (jm_resB B m ((I h) - 1) (Z ((I h) - 1))) Y9 I O M (ju P h ((P h) + z)) ct wr ofs (jm_wrong K N I O M h 2 2) pa ey fo la = wM qM qK qZ qN qB qY qi qo qm qp c1 c2 c3 c4 c5 c6 c7 c8 c9 K (if jm_wrT K Z N B I O M P h z = 0 then (if z = 0 then Z else ju Z (I h - 1) (if Z (I h - 1) < P h + z then P h + z else Z (I h - 1))) else Z) N (if jm_wrT K Z N B I O M P h z = 0 then (if z = 0 then B else jm_resB B m (I h - 1) (if Z (I h - 1) < P h + z then P h + z else Z (I h - 1))) else B) (if jm_wrT K Z N B I O M P h z = 0 then (if z = 0 then Y else jm_wrL b (I h - 1) (P h) z 0 (jm_resY Y (I h - 1) (if Z (I h - 1) < P h + z then P h + z else Z (I h - 1)))) else Y) I O M (if jm_wrT K Z N B I O M P h z = 0 then (if z = 0 then P else ju P h (P h + z)) else P) ct wr ofs (jm_wrT K Z N B I O M P h z) pa ey fo la := by first | (simp [← ht, jm_wrL, jm_wrT, c_1, c_3, c_5, c_7, c_9, c_10, c_14, c_16, c_18, c_20]; done) | (simp [show 5 < h by omega, ← ht, jm_wrL, jm_wrT, c_1, c_3, c_5, c_7, c_9, c_10, c_14, c_16, c_18, c_20]; done) | (simp [show ¬ 5 < h by omega, show 8 < z by omega, ← ht, jm_wrL, jm_wrT, c_1, c_3, c_5, c_7, c_9, c_10, c_14, c_16, c_18, c_20]; done) | (simp [show ¬ 5 < h by omega, show ¬ 8 < z by omega, ← ht, jm_wrL, jm_wrT, c_1, c_3, c_5, c_7, c_9, c_10, c_14, c_16, c_18, c_20]; done)
                          rw [he] at hP hD
                          exact jm_retv C hP hD hK hS ⟨Nat.le_of_ble_eq_true rfl, Nat.le_of_ble_eq_true rfl⟩ dd_M_write_184
                        · skip
                          exact absurd c_20 (by omega)
                      | succ n ih =>
                        intro k Y9 hi  ht H locs hP hD hS ls hl
                        refine lv_iload hx hb dd_M_write_131 (lv_at hl 0 rfl) ?_
                        refine lv_iload hx hb dd_M_write_133 (lv_at hl 7 rfl) ?_
                        refine jl_ge (tgt := 176) hx hb (by omega) (by omega) dd_M_write_135 (by decide) (fun c_21 => ?_) (fun c_21 => ?_)
                        · skip
                          exact absurd c_21 (by omega)
                        · skip
                          refine lv_aload_n hx hb dd_M_write_138 rfl (lv_at hl 4 rfl) ?_
                          refine va_get (D := G) (ci := 4) (v := .ref qY) (C := cn_M) (T := ft_M) (N := 17) hx hb hts uw_M hown hK hP 0 rfl rfl 4 (by decide) (hts _ tw_597) (fun _ h9 => h9) rfl dd_M_write_139 ?_
                          refine lv_iload hx hb dd_M_write_142 (lv_at hl 3 rfl) ?_
                          refine lv_bipush (v := nI 64) hx hb dd_M_write_144 (by decide) ?_
                          refine jl_imul hx hb dd_M_write_146 ?_
                          refine lv_aload_n hx hb dd_M_write_147 rfl (lv_at hl 4 rfl) ?_
                          refine va_get (D := G) (ci := 4) (v := .ref qp) (C := cn_M) (T := ft_M) (N := 17) hx hb hts uw_M hown hK hP 0 rfl rfl 8 (by decide) (hts _ tw_601) (fun _ h9 => h9) rfl dd_M_write_148 ?_
                          refine lv_iload_n hx hb dd_M_write_151 rfl (lv_at hl 5 rfl) ?_
                          refine va_iald hx hb hK hP 9 8 rfl rfl (vp_in_nI (by omega) (by decide)) dd_M_write_152 ?_
                          refine jl_top (jn_at (P) (by omega)) ?_
                          have hf_22 : P h < 65 := (by assumption : jlt 65 P) _
                          refine jl_iadd hx hb dd_M_write_153 ?_
                          refine lv_iload hx hb dd_M_write_154 (lv_at hl 0 rfl) ?_
                          refine jl_iadd hx hb dd_M_write_156 ?_
                          refine lv_lload_n hx hb dd_M_write_157 rfl (lv_at hl 6 rfl) ?_
                          refine lv_bipush (v := nI 8) hx hb dd_M_write_158 (by decide) ?_
                          refine lv_iload hx hb dd_M_write_160 (lv_at hl 0 rfl) ?_
                          refine jl_imul hx hb dd_M_write_162 ?_
                          refine jl_lushr hx hb (by omega) (by omega) dd_M_write_163 ?_
                          refine lv_ldc2 (v := lN 255) hx hb hown (hts _ tw_729) dd_M_write_164 ?_
                          refine jl_land255 hx hb (Nat.lt_of_le_of_lt (Nat.div_le_self _ _) (by omega)) dd_M_write_167 ?_
                          refine jl_l2i hx hb dd_M_write_168 ?_
                          refine va_iast hx hb hK hP hD hS 5 4 rfl rfl (vp_in_nI (by omega) (by decide)) dd_M_write_169 (fun H locs hP hD hS => ?_)
                          rw [jn_upd (Y9) (b / 2 ^ (8 * k) % 256) (by omega)] at hP hD
                          have hP : va_P G jcl (wM qM qK qZ qN qB qY qi qo qm qp c1 c2 c3 c4 c5 c6 c7 c8 c9 K (ju Z ((I h) - 1) (Z ((I h) - 1))) N (jm_resB B m ((I h) - 1) (Z ((I h) - 1))) (ju Y9 (((((I h) - 1) * 64) + (P h)) + k) (b / 2 ^ (8 * k) % 256)) I O M P ct wr ofs (jm_wrong K N I O M h 2 2) pa ey fo la) H := hP
                          have hD : va_D A (wM qM qK qZ qN qB qY qi qo qm qp c1 c2 c3 c4 c5 c6 c7 c8 c9 K (ju Z ((I h) - 1) (Z ((I h) - 1))) N (jm_resB B m ((I h) - 1) (Z ((I h) - 1))) (ju Y9 (((((I h) - 1) * 64) + (P h)) + k) (b / 2 ^ (8 * k) % 256)) I O M P ct wr ofs (jm_wrong K N I O M h 2 2) pa ey fo la) := hD
                          refine jl_iinc (lv' := [(8, .int (nI (k + 1))), (7, .int (nI (Z ((I h) - 1)))), (6, .int (nI ((P h) + z))), (5, .int (nI ((I h) - 1))), (0, .ref qM), (1, .int (nI (h))), (2, .long (lN (b))), (4, .int (nI (z)))]) hx hb dd_M_write_170 hl (k := 0) rfl (by decide) rfl (fun ls hl => ?_)
                          refine lv_goto (tgt := 131) hx hb dd_M_write_173 (by decide) ?_
                          exact ih (k + 1) (ju Y9 (((((I h) - 1) * 64) + (P h)) + k) (b / 2 ^ (8 * k) % 256)) (by omega) (by simpa [jm_wrL, c_1, c_3, c_5, c_7, c_9, c_10, c_14, c_16, c_18, c_21] using ht) _ _ hP hD hS ls (lv_sub hl [0, 1, 2, 3, 4, 5, 6, 7] rfl)
                    exact loop z 0 (jm_resY Y ((I h) - 1) (Z ((I h) - 1))) (by omega) (rfl) _ _ hP hD hS ls (lv_sub hl [0, 1, 2, 3, 4, 5, 6, 7] rfl)
                  · skip
                    refine lv_aload_n hx hb dd_M_write_114 rfl (lv_at hl 3 rfl) ?_
                    refine lv_iconst (v := nI 3) hx hb dd_M_write_115 (by decide) ?_
                    refine va_put (D := G) (ci := 4) (v := .int (nI (3))) (ty := .int) (C := cn_M) (T := ft_M) (N := 17) hx hb hts uw_M fy_M fo_M fn_M hown hK hP hD hS 0 rfl rfl 12 (by decide) (hts _ tw_605) (fun _ h9 => h9) rfl (by decide +kernel) rfl rfl (Nat.le_of_ble_eq_true rfl) dd_M_write_116 (fun H locs hP hD hS => ?_)
                    have hP : va_P G jcl (wM qM qK qZ qN qB qY qi qo qm qp c1 c2 c3 c4 c5 c6 c7 c8 c9 K Z N B Y I O M P ct wr ofs 3 pa ey fo la) H := hP
                    have hD : va_D A (wM qM qK qZ qN qB qY qi qo qm qp c1 c2 c3 c4 c5 c6 c7 c8 c9 K Z N B Y I O M P ct wr ofs 3 pa ey fo la) := hD
                    have he : wM qM qK qZ qN qB qY qi qo qm qp c1 c2 c3 c4 c5 c6 c7 c8 c9 K Z N B Y I O M P ct wr ofs 3 pa ey fo la = wM qM qK qZ qN qB qY qi qo qm qp c1 c2 c3 c4 c5 c6 c7 c8 c9 K (if jm_wrT K Z N B I O M P h z = 0 then (if z = 0 then Z else ju Z (I h - 1) (if Z (I h - 1) < P h + z then P h + z else Z (I h - 1))) else Z) N (if jm_wrT K Z N B I O M P h z = 0 then (if z = 0 then B else jm_resB B m (I h - 1) (if Z (I h - 1) < P h + z then P h + z else Z (I h - 1))) else B) (if jm_wrT K Z N B I O M P h z = 0 then (if z = 0 then Y else jm_wrL b (I h - 1) (P h) z 0 (jm_resY Y (I h - 1) (if Z (I h - 1) < P h + z then P h + z else Z (I h - 1)))) else Y) I O M (if jm_wrT K Z N B I O M P h z = 0 then (if z = 0 then P else ju P h (P h + z)) else P) ct wr ofs (jm_wrT K Z N B I O M P h z) pa ey fo la := by first | with_reducible rfl | (simp [jm_wrT, c_1, c_3, c_5, c_7, c_9, c_10, c_14, c_16, c_18]; done) | (simp [show 5 < h by omega, jm_wrT, c_1, c_3, c_5, c_7, c_9, c_10, c_14, c_16, c_18]; done) | (simp [show ¬ 5 < h by omega, show 8 < z by omega, jm_wrT, c_1, c_3, c_5, c_7, c_9, c_10, c_14, c_16, c_18]; done) | (simp [show ¬ 5 < h by omega, show ¬ 8 < z by omega, jm_wrT, c_1, c_3, c_5, c_7, c_9, c_10, c_14, c_16, c_18]; done)
                    rw [he] at hP hD
                    exact jm_retv C hP hD hK hS ⟨Nat.le_of_ble_eq_true rfl, Nat.le_of_ble_eq_true rfl⟩ dd_M_write_119
              · skip
                refine lv_iload hx hb dd_M_write_82 (lv_at hl 0 rfl) ?_
                refine lv_goto (tgt := 94) hx hb dd_M_write_84 (by decide) ?_
                refine lv_istore (lv' := [(7, .int (nI ((P h) + z))), (6, .int (nI ((P h) + z))), (5, .int (nI ((I h) - 1))), (0, .ref qM), (1, .int (nI (h))), (2, .long (lN (b))), (4, .int (nI (z)))]) hx hb dd_M_write_94 hl (by decide) rfl (fun ls hl => ?_)
                refine lv_iload hx hb dd_M_write_96 (lv_at hl 1 rfl) ?_
                refine lv_bipush (v := nI 64) hx hb dd_M_write_98 (by decide) ?_
                refine jl_gt (tgt := 114) hx hb (by omega) (by omega) dd_M_write_100 (by decide) (fun c_23 => ?_) (fun c_23 => ?_)
                · skip
                  refine lv_aload_n hx hb dd_M_write_114 rfl (lv_at hl 3 rfl) ?_
                  refine lv_iconst (v := nI 3) hx hb dd_M_write_115 (by decide) ?_
                  refine va_put (D := G) (ci := 4) (v := .int (nI (3))) (ty := .int) (C := cn_M) (T := ft_M) (N := 17) hx hb hts uw_M fy_M fo_M fn_M hown hK hP hD hS 0 rfl rfl 12 (by decide) (hts _ tw_605) (fun _ h9 => h9) rfl (by decide +kernel) rfl rfl (Nat.le_of_ble_eq_true rfl) dd_M_write_116 (fun H locs hP hD hS => ?_)
                  have hP : va_P G jcl (wM qM qK qZ qN qB qY qi qo qm qp c1 c2 c3 c4 c5 c6 c7 c8 c9 K Z N B Y I O M P ct wr ofs 3 pa ey fo la) H := hP
                  have hD : va_D A (wM qM qK qZ qN qB qY qi qo qm qp c1 c2 c3 c4 c5 c6 c7 c8 c9 K Z N B Y I O M P ct wr ofs 3 pa ey fo la) := hD
                  have he : wM qM qK qZ qN qB qY qi qo qm qp c1 c2 c3 c4 c5 c6 c7 c8 c9 K Z N B Y I O M P ct wr ofs 3 pa ey fo la = wM qM qK qZ qN qB qY qi qo qm qp c1 c2 c3 c4 c5 c6 c7 c8 c9 K (if jm_wrT K Z N B I O M P h z = 0 then (if z = 0 then Z else ju Z (I h - 1) (if Z (I h - 1) < P h + z then P h + z else Z (I h - 1))) else Z) N (if jm_wrT K Z N B I O M P h z = 0 then (if z = 0 then B else jm_resB B m (I h - 1) (if Z (I h - 1) < P h + z then P h + z else Z (I h - 1))) else B) (if jm_wrT K Z N B I O M P h z = 0 then (if z = 0 then Y else jm_wrL b (I h - 1) (P h) z 0 (jm_resY Y (I h - 1) (if Z (I h - 1) < P h + z then P h + z else Z (I h - 1)))) else Y) I O M (if jm_wrT K Z N B I O M P h z = 0 then (if z = 0 then P else ju P h (P h + z)) else P) ct wr ofs (jm_wrT K Z N B I O M P h z) pa ey fo la := by first | with_reducible rfl | (simp [jm_wrT, c_1, c_3, c_5, c_7, c_9, c_10, c_14, c_23]; done) | (simp [show 5 < h by omega, jm_wrT, c_1, c_3, c_5, c_7, c_9, c_10, c_14, c_23]; done) | (simp [show ¬ 5 < h by omega, show 8 < z by omega, jm_wrT, c_1, c_3, c_5, c_7, c_9, c_10, c_14, c_23]; done) | (simp [show ¬ 5 < h by omega, show ¬ 8 < z by omega, jm_wrT, c_1, c_3, c_5, c_7, c_9, c_10, c_14, c_23]; done)
                  rw [he] at hP hD
                  exact jm_retv C hP hD hK hS ⟨Nat.le_of_ble_eq_true rfl, Nat.le_of_ble_eq_true rfl⟩ dd_M_write_119
                · skip
                  refine lv_aload_n hx hb dd_M_write_103 rfl (lv_at hl 3 rfl) ?_
                  refine lv_iload hx hb dd_M_write_104 (lv_at hl 2 rfl) ?_
                  refine lv_iload hx hb dd_M_write_106 (lv_at hl 0 rfl) ?_
                  refine jr_callV C (ct_M_roomFor l G qM qK qZ qN qB qY qi qo qm qp c1 c2 c3 c4 c5 c6 c7 c8 c9 K Z N B Y I O M P ct wr ofs (jm_wrong K N I O M h 2 2) pa ey fo la ((I h) - 1) ((P h) + z) m (by omega) (by omega) (by omega) (by assumption) (by assumption)) kl_M_106 ⟨Nat.le_of_ble_eq_true rfl, Nat.le_of_ble_eq_true rfl, rfl, rfl⟩ ⟨Nat.le_of_ble_eq_true rfl, Nat.le_of_ble_eq_true rfl⟩ (hP) (hK) (va_recv hK hP (ci := 4) (q0 := 0) rfl rfl) hl.1 rfl rfl (Nat.le_of_ble_eq_true rfl) dd_M_write_108 ?_
                  have hf_24 : jm_roomFor Z B ((I h) - 1) ((P h) + z) < 2 := by unfold jm_roomFor; split <;> decide
                  refine jl_ifne (tgt := 120) hx hb (by omega) dd_M_write_111 (by decide) (fun c_25 => ?_) (fun c_25 => ?_)
                  · skip
                    refine lv_aload_n hx hb dd_M_write_120 rfl (lv_at hl 3 rfl) ?_
                    refine lv_iload hx hb dd_M_write_121 (lv_at hl 2 rfl) ?_
                    refine lv_iload hx hb dd_M_write_123 (lv_at hl 0 rfl) ?_
                    refine jm_callV (wr := []) C (ct_M_resize l G qM qK qZ qN qB qY qi qo qm qp c1 c2 c3 c4 c5 c6 c7 c8 c9 K Z N B Y I O M P ct wr ofs (jm_wrong K N I O M h 2 2) pa ey fo la ((I h) - 1) ((P h) + z) m (by omega) (by omega) (by omega) (by assumption)) kl_M_56 ⟨Nat.le_of_ble_eq_true rfl, Nat.le_of_ble_eq_true rfl⟩ ⟨Nat.le_of_ble_eq_true rfl, Nat.le_of_ble_eq_true rfl⟩ hP hD hS hA (hK) (va_recv hK hP (ci := 4) (q0 := 0) rfl rfl) hl.1 rfl rfl (Nat.le_of_ble_eq_true rfl) dd_M_write_125 (fun H locs hP hD hS => ?_)
                    have hP : va_P G jcl (wM qM qK qZ qN qB qY qi qo qm qp c1 c2 c3 c4 c5 c6 c7 c8 c9 K (ju Z ((I h) - 1) ((P h) + z)) N (jm_resB B m ((I h) - 1) ((P h) + z)) (jm_resY Y ((I h) - 1) ((P h) + z)) I O M P ct wr ofs (jm_wrong K N I O M h 2 2) pa ey fo la) H := hP
                    have hD : va_D A (wM qM qK qZ qN qB qY qi qo qm qp c1 c2 c3 c4 c5 c6 c7 c8 c9 K (ju Z ((I h) - 1) ((P h) + z)) N (jm_resB B m ((I h) - 1) ((P h) + z)) (jm_resY Y ((I h) - 1) ((P h) + z)) I O M P ct wr ofs (jm_wrong K N I O M h 2 2) pa ey fo la) := hD
                    have hf_26 : jlt (m + 4) (jm_resB B m ((I h) - 1) ((P h) + z)) := jm_rsL_lt _ _ 4 _ 0 (by omega) (by assumption)
                    refine lv_iconst (v := nI 0) hx hb dd_M_write_128 (by decide) ?_
                    refine lv_istore (lv' := [(8, .int (nI (0))), (7, .int (nI ((P h) + z))), (6, .int (nI ((P h) + z))), (5, .int (nI ((I h) - 1))), (0, .ref qM), (1, .int (nI (h))), (2, .long (lN (b))), (4, .int (nI (z)))]) hx hb dd_M_write_129 hl (by decide) rfl (fun ls hl => ?_)
                    have loop : ∀ (n : Nat) (k : Nat) (Y9 : Nat → Nat), (k + n = z) → jm_wrL b (I h - 1) (P h) n k Y9 = jm_wrL b (I h - 1) (P h) z 0 (jm_resY Y ((I h) - 1) ((P h) + z)) → ∀ (H : Heap) (locs : List Loc), va_P G jcl (wM qM qK qZ qN qB qY qi qo qm qp c1 c2 c3 c4 c5 c6 c7 c8 c9 K (ju Z ((I h) - 1) ((P h) + z)) N (jm_resB B m ((I h) - 1) ((P h) + z)) Y9 I O M P ct wr ofs (jm_wrong K N I O M h 2 2) pa ey fo la) H → va_D A (wM qM qK qZ qN qB qY qi qo qm qp c1 c2 c3 c4 c5 c6 c7 c8 c9 K (ju Z ((I h) - 1) ((P h) + z)) N (jm_resB B m ((I h) - 1) ((P h) + z)) Y9 I O M P ct wr ofs (jm_wrong K N I O M h 2 2) pa ey fo la) → va_S A σ.heap H locs → ∀ ls : Array Slot, lv_has ls 9 [(8, .int (nI (k))), (7, .int (nI ((P h) + z))), (6, .int (nI ((P h) + z))), (5, .int (nI ((I h) - 1))), (0, .ref qM), (1, .int (nI (h))), (2, .long (lN (b))), (4, .int (nI (z)))] → W pr l en { frames := 3, cells := 0, slots := 0, locals := 67 } σ mi ([.ref qM, .int (nI (h)), .long (lN (b)), .int (nI (z))] : List Value).toArray bel met cd H locs 0 0 (jm_Q bel { frames := 3, cells := 0, slots := 0, locals := 67 } G (tM c1 c2 c3 c4 c5 c6 c7 c8 c9) A [.ref qM, .int (nI (h)), .long (lN (b)), .int (nI (z))] σ none (wM qM qK qZ qN qB qY qi qo qm qp c1 c2 c3 c4 c5 c6 c7 c8 c9 K (if jm_wrT K Z N B I O M P h z = 0 then (if z = 0 then Z else ju Z (I h - 1) (if Z (I h - 1) < P h + z then P h + z else Z (I h - 1))) else Z) N (if jm_wrT K Z N B I O M P h z = 0 then (if z = 0 then B else jm_resB B m (I h - 1) (if Z (I h - 1) < P h + z then P h + z else Z (I h - 1))) else B) (if jm_wrT K Z N B I O M P h z = 0 then (if z = 0 then Y else jm_wrL b (I h - 1) (P h) z 0 (jm_resY Y (I h - 1) (if Z (I h - 1) < P h + z then P h + z else Z (I h - 1)))) else Y) I O M (if jm_wrT K Z N B I O M P h z = 0 then (if z = 0 then P else ju P h (P h + z)) else P) ct wr ofs (jm_wrT K Z N B I O M P h z) pa ey fo la)) (F0 mi 131 ls []) := by
                      intro n
                      induction n with
                      | zero =>
                        intro k Y9 hi  ht H locs hP hD hS ls hl
                        refine lv_iload hx hb dd_M_write_131 (lv_at hl 0 rfl) ?_
                        refine lv_iload hx hb dd_M_write_133 (lv_at hl 7 rfl) ?_
                        refine jl_ge (tgt := 176) hx hb (by omega) (by omega) dd_M_write_135 (by decide) (fun c_27 => ?_) (fun c_27 => ?_)
                        · skip
                          refine lv_aload_n hx hb dd_M_write_176 rfl (lv_at hl 4 rfl) ?_
                          refine va_get (D := G) (ci := 4) (v := .ref qp) (C := cn_M) (T := ft_M) (N := 17) hx hb hts uw_M hown hK hP 0 rfl rfl 8 (by decide) (hts _ tw_601) (fun _ h9 => h9) rfl dd_M_write_177 ?_
                          refine lv_iload_n hx hb dd_M_write_180 rfl (lv_at hl 5 rfl) ?_
                          refine lv_iload hx hb dd_M_write_181 (lv_at hl 2 rfl) ?_
                          refine va_iast hx hb hK hP hD hS 9 8 rfl rfl (vp_in_nI (by omega) (by decide)) dd_M_write_183 (fun H locs hP hD hS => ?_)
                          rw [jn_upd (P) ((P h) + z) (by omega)] at hP hD
                          have hP : va_P G jcl (wM qM qK qZ qN qB qY qi qo qm qp c1 c2 c3 c4 c5 c6 c7 c8 c9 K (ju Z ((I h) - 1) ((P h) + z)) N (jm_resB B m ((I h) - 1) ((P h) + z)) Y9 I O M (ju P h ((P h) + z)) ct wr ofs (jm_wrong K N I O M h 2 2) pa ey fo la) H := hP
                          have hD : va_D A (wM qM qK qZ qN qB qY qi qo qm qp c1 c2 c3 c4 c5 c6 c7 c8 c9 K (ju Z ((I h) - 1) ((P h) + z)) N (jm_resB B m ((I h) - 1) ((P h) + z)) Y9 I O M (ju P h ((P h) + z)) ct wr ofs (jm_wrong K N I O M h 2 2) pa ey fo la) := hD
                          have he : wM qM qK qZ qN qB qY qi qo qm qp c1 c2 c3 c4 c5 c6 c7 c8 c9 K (ju Z ((I h) - 1) ((P h) + z)) N (jm_resB B m ((I h) - 1) ((P h) + z)) Y9 I O M (ju P h ((P h) + z)) ct wr ofs (jm_wrong K N I O M h 2 2) pa ey fo la = wM qM qK qZ qN qB qY qi qo qm qp c1 c2 c3 c4 c5 c6 c7 c8 c9 K (if jm_wrT K Z N B I O M P h z = 0 then (if z = 0 then Z else ju Z (I h - 1) (if Z (I h - 1) < P h + z then P h + z else Z (I h - 1))) else Z) N (if jm_wrT K Z N B I O M P h z = 0 then (if z = 0 then B else jm_resB B m (I h - 1) (if Z (I h - 1) < P h + z then P h + z else Z (I h - 1))) else B) (if jm_wrT K Z N B I O M P h z = 0 then (if z = 0 then Y else jm_wrL b (I h - 1) (P h) z 0 (jm_resY Y (I h - 1) (if Z (I h - 1) < P h + z then P h + z else Z (I h - 1)))) else Y) I O M (if jm_wrT K Z N B I O M P h z = 0 then (if z = 0 then P else ju P h (P h + z)) else P) ct wr ofs (jm_wrT K Z N B I O M P h z) pa ey fo la := by first | (simp [← ht, jm_wrL, jm_wrT, c_1, c_3, c_5, c_7, c_9, c_10, c_14, c_23, c_25, c_27]; done) | (simp [show 5 < h by omega, ← ht, jm_wrL, jm_wrT, c_1, c_3, c_5, c_7, c_9, c_10, c_14, c_23, c_25, c_27]; done) | (simp [show ¬ 5 < h by omega, show 8 < z by omega, ← ht, jm_wrL, jm_wrT, c_1, c_3, c_5, c_7, c_9, c_10, c_14, c_23, c_25, c_27]; done) | (simp [show ¬ 5 < h by omega, show ¬ 8 < z by omega, ← ht, jm_wrL, jm_wrT, c_1, c_3, c_5, c_7, c_9, c_10, c_14, c_23, c_25, c_27]; done)
                          rw [he] at hP hD
                          exact jm_retv C hP hD hK hS ⟨Nat.le_of_ble_eq_true rfl, Nat.le_of_ble_eq_true rfl⟩ dd_M_write_184
                        · skip
                          exact absurd c_27 (by omega)
                      | succ n ih =>
                        intro k Y9 hi  ht H locs hP hD hS ls hl
                        refine lv_iload hx hb dd_M_write_131 (lv_at hl 0 rfl) ?_
                        refine lv_iload hx hb dd_M_write_133 (lv_at hl 7 rfl) ?_
                        refine jl_ge (tgt := 176) hx hb (by omega) (by omega) dd_M_write_135 (by decide) (fun c_28 => ?_) (fun c_28 => ?_)
                        · skip
                          exact absurd c_28 (by omega)
                        · skip
                          refine lv_aload_n hx hb dd_M_write_138 rfl (lv_at hl 4 rfl) ?_
                          refine va_get (D := G) (ci := 4) (v := .ref qY) (C := cn_M) (T := ft_M) (N := 17) hx hb hts uw_M hown hK hP 0 rfl rfl 4 (by decide) (hts _ tw_597) (fun _ h9 => h9) rfl dd_M_write_139 ?_
                          refine lv_iload hx hb dd_M_write_142 (lv_at hl 3 rfl) ?_
                          refine lv_bipush (v := nI 64) hx hb dd_M_write_144 (by decide) ?_
                          refine jl_imul hx hb dd_M_write_146 ?_
                          refine lv_aload_n hx hb dd_M_write_147 rfl (lv_at hl 4 rfl) ?_
                          refine va_get (D := G) (ci := 4) (v := .ref qp) (C := cn_M) (T := ft_M) (N := 17) hx hb hts uw_M hown hK hP 0 rfl rfl 8 (by decide) (hts _ tw_601) (fun _ h9 => h9) rfl dd_M_write_148 ?_
                          refine lv_iload_n hx hb dd_M_write_151 rfl (lv_at hl 5 rfl) ?_
                          refine va_iald hx hb hK hP 9 8 rfl rfl (vp_in_nI (by omega) (by decide)) dd_M_write_152 ?_
                          refine jl_top (jn_at (P) (by omega)) ?_
                          have hf_29 : P h < 65 := (by assumption : jlt 65 P) _
                          refine jl_iadd hx hb dd_M_write_153 ?_
                          refine lv_iload hx hb dd_M_write_154 (lv_at hl 0 rfl) ?_
                          refine jl_iadd hx hb dd_M_write_156 ?_
                          refine lv_lload_n hx hb dd_M_write_157 rfl (lv_at hl 6 rfl) ?_
                          refine lv_bipush (v := nI 8) hx hb dd_M_write_158 (by decide) ?_
                          refine lv_iload hx hb dd_M_write_160 (lv_at hl 0 rfl) ?_
                          refine jl_imul hx hb dd_M_write_162 ?_
                          refine jl_lushr hx hb (by omega) (by omega) dd_M_write_163 ?_
                          refine lv_ldc2 (v := lN 255) hx hb hown (hts _ tw_729) dd_M_write_164 ?_
                          refine jl_land255 hx hb (Nat.lt_of_le_of_lt (Nat.div_le_self _ _) (by omega)) dd_M_write_167 ?_
                          refine jl_l2i hx hb dd_M_write_168 ?_
                          refine va_iast hx hb hK hP hD hS 5 4 rfl rfl (vp_in_nI (by omega) (by decide)) dd_M_write_169 (fun H locs hP hD hS => ?_)
                          rw [jn_upd (Y9) (b / 2 ^ (8 * k) % 256) (by omega)] at hP hD
                          have hP : va_P G jcl (wM qM qK qZ qN qB qY qi qo qm qp c1 c2 c3 c4 c5 c6 c7 c8 c9 K (ju Z ((I h) - 1) ((P h) + z)) N (jm_resB B m ((I h) - 1) ((P h) + z)) (ju Y9 (((((I h) - 1) * 64) + (P h)) + k) (b / 2 ^ (8 * k) % 256)) I O M P ct wr ofs (jm_wrong K N I O M h 2 2) pa ey fo la) H := hP
                          have hD : va_D A (wM qM qK qZ qN qB qY qi qo qm qp c1 c2 c3 c4 c5 c6 c7 c8 c9 K (ju Z ((I h) - 1) ((P h) + z)) N (jm_resB B m ((I h) - 1) ((P h) + z)) (ju Y9 (((((I h) - 1) * 64) + (P h)) + k) (b / 2 ^ (8 * k) % 256)) I O M P ct wr ofs (jm_wrong K N I O M h 2 2) pa ey fo la) := hD
                          refine jl_iinc (lv' := [(8, .int (nI (k + 1))), (7, .int (nI ((P h) + z))), (6, .int (nI ((P h) + z))), (5, .int (nI ((I h) - 1))), (0, .ref qM), (1, .int (nI (h))), (2, .long (lN (b))), (4, .int (nI (z)))]) hx hb dd_M_write_170 hl (k := 0) rfl (by decide) rfl (fun ls hl => ?_)
                          refine lv_goto (tgt := 131) hx hb dd_M_write_173 (by decide) ?_
                          exact ih (k + 1) (ju Y9 (((((I h) - 1) * 64) + (P h)) + k) (b / 2 ^ (8 * k) % 256)) (by omega) (by simpa [jm_wrL, c_1, c_3, c_5, c_7, c_9, c_10, c_14, c_23, c_25, c_28] using ht) _ _ hP hD hS ls (lv_sub hl [0, 1, 2, 3, 4, 5, 6, 7] rfl)
                    exact loop z 0 (jm_resY Y ((I h) - 1) ((P h) + z)) (by omega) (rfl) _ _ hP hD hS ls (lv_sub hl [0, 1, 2, 3, 4, 5, 6, 7] rfl)
                  · skip
                    refine lv_aload_n hx hb dd_M_write_114 rfl (lv_at hl 3 rfl) ?_
                    refine lv_iconst (v := nI 3) hx hb dd_M_write_115 (by decide) ?_
                    refine va_put (D := G) (ci := 4) (v := .int (nI (3))) (ty := .int) (C := cn_M) (T := ft_M) (N := 17) hx hb hts uw_M fy_M fo_M fn_M hown hK hP hD hS 0 rfl rfl 12 (by decide) (hts _ tw_605) (fun _ h9 => h9) rfl (by decide +kernel) rfl rfl (Nat.le_of_ble_eq_true rfl) dd_M_write_116 (fun H locs hP hD hS => ?_)
                    have hP : va_P G jcl (wM qM qK qZ qN qB qY qi qo qm qp c1 c2 c3 c4 c5 c6 c7 c8 c9 K Z N B Y I O M P ct wr ofs 3 pa ey fo la) H := hP
                    have hD : va_D A (wM qM qK qZ qN qB qY qi qo qm qp c1 c2 c3 c4 c5 c6 c7 c8 c9 K Z N B Y I O M P ct wr ofs 3 pa ey fo la) := hD
                    have he : wM qM qK qZ qN qB qY qi qo qm qp c1 c2 c3 c4 c5 c6 c7 c8 c9 K Z N B Y I O M P ct wr ofs 3 pa ey fo la = wM qM qK qZ qN qB qY qi qo qm qp c1 c2 c3 c4 c5 c6 c7 c8 c9 K (if jm_wrT K Z N B I O M P h z = 0 then (if z = 0 then Z else ju Z (I h - 1) (if Z (I h - 1) < P h + z then P h + z else Z (I h - 1))) else Z) N (if jm_wrT K Z N B I O M P h z = 0 then (if z = 0 then B else jm_resB B m (I h - 1) (if Z (I h - 1) < P h + z then P h + z else Z (I h - 1))) else B) (if jm_wrT K Z N B I O M P h z = 0 then (if z = 0 then Y else jm_wrL b (I h - 1) (P h) z 0 (jm_resY Y (I h - 1) (if Z (I h - 1) < P h + z then P h + z else Z (I h - 1)))) else Y) I O M (if jm_wrT K Z N B I O M P h z = 0 then (if z = 0 then P else ju P h (P h + z)) else P) ct wr ofs (jm_wrT K Z N B I O M P h z) pa ey fo la := by first | with_reducible rfl | (simp [jm_wrT, c_1, c_3, c_5, c_7, c_9, c_10, c_14, c_23, c_25]; done) | (simp [show 5 < h by omega, jm_wrT, c_1, c_3, c_5, c_7, c_9, c_10, c_14, c_23, c_25]; done) | (simp [show ¬ 5 < h by omega, show 8 < z by omega, jm_wrT, c_1, c_3, c_5, c_7, c_9, c_10, c_14, c_23, c_25]; done) | (simp [show ¬ 5 < h by omega, show ¬ 8 < z by omega, jm_wrT, c_1, c_3, c_5, c_7, c_9, c_10, c_14, c_23, c_25]; done)
                    rw [he] at hP hD
                    exact jm_retv C hP hD hK hS ⟨Nat.le_of_ble_eq_true rfl, Nat.le_of_ble_eq_true rfl⟩ dd_M_write_119
            · skip
              have he : wM qM qK qZ qN qB qY qi qo qm qp c1 c2 c3 c4 c5 c6 c7 c8 c9 K Z N B Y I O M P ct wr ofs (jm_wrong K N I O M h 2 2) pa ey fo la = wM qM qK qZ qN qB qY qi qo qm qp c1 c2 c3 c4 c5 c6 c7 c8 c9 K (if jm_wrT K Z N B I O M P h z = 0 then (if z = 0 then Z else ju Z (I h - 1) (if Z (I h - 1) < P h + z then P h + z else Z (I h - 1))) else Z) N (if jm_wrT K Z N B I O M P h z = 0 then (if z = 0 then B else jm_resB B m (I h - 1) (if Z (I h - 1) < P h + z then P h + z else Z (I h - 1))) else B) (if jm_wrT K Z N B I O M P h z = 0 then (if z = 0 then Y else jm_wrL b (I h - 1) (P h) z 0 (jm_resY Y (I h - 1) (if Z (I h - 1) < P h + z then P h + z else Z (I h - 1)))) else Y) I O M (if jm_wrT K Z N B I O M P h z = 0 then (if z = 0 then P else ju P h (P h + z)) else P) ct wr ofs (jm_wrT K Z N B I O M P h z) pa ey fo la := by first | with_reducible rfl | (simp [jm_wrT, c_1, c_3, c_5, c_7, c_9, c_10]; done) | (simp [show 5 < h by omega, jm_wrT, c_1, c_3, c_5, c_7, c_9, c_10]; done) | (simp [show ¬ 5 < h by omega, show 8 < z by omega, jm_wrT, c_1, c_3, c_5, c_7, c_9, c_10]; done) | (simp [show ¬ 5 < h by omega, show ¬ 8 < z by omega, jm_wrT, c_1, c_3, c_5, c_7, c_9, c_10]; done)
              rw [he] at hP hD
              exact jm_retv C hP hD hK hS ⟨Nat.le_of_ble_eq_true rfl, Nat.le_of_ble_eq_true rfl⟩ dd_M_write_48
        · skip
          refine lv_iconst (v := nI 1) hx hb dd_M_write_22 (by decide) ?_
          refine lv_goto (tgt := 33) hx hb dd_M_write_23 (by decide) ?_
          refine va_put (D := G) (ci := 4) (v := .int (nI (1))) (ty := .int) (C := cn_M) (T := ft_M) (N := 17) hx hb hts uw_M fy_M fo_M fn_M hown hK hP hD hS 0 rfl rfl 12 (by decide) (hts _ tw_605) (fun _ h9 => h9) rfl (by decide +kernel) rfl rfl (Nat.le_of_ble_eq_true rfl) dd_M_write_33 (fun H locs hP hD hS => ?_)
          have hP : va_P G jcl (wM qM qK qZ qN qB qY qi qo qm qp c1 c2 c3 c4 c5 c6 c7 c8 c9 K Z N B Y I O M P ct wr ofs 1 pa ey fo la) H := hP
          have hD : va_D A (wM qM qK qZ qN qB qY qi qo qm qp c1 c2 c3 c4 c5 c6 c7 c8 c9 K Z N B Y I O M P ct wr ofs 1 pa ey fo la) := hD
          refine lv_aload_n hx hb dd_M_write_36 rfl (lv_at hl 0 rfl) ?_
          refine va_get (D := G) (ci := 4) (v := .int (nI (1))) (C := cn_M) (T := ft_M) (N := 17) hx hb hts uw_M hown hK hP 0 rfl rfl 12 (by decide) (hts _ tw_605) (fun _ h9 => h9) rfl dd_M_write_37 ?_
          refine jl_ifne (tgt := 48) hx hb (by omega) dd_M_write_40 (by decide) (fun c_30 => ?_) (fun c_30 => ?_)
          · skip
            have he : wM qM qK qZ qN qB qY qi qo qm qp c1 c2 c3 c4 c5 c6 c7 c8 c9 K Z N B Y I O M P ct wr ofs 1 pa ey fo la = wM qM qK qZ qN qB qY qi qo qm qp c1 c2 c3 c4 c5 c6 c7 c8 c9 K (if jm_wrT K Z N B I O M P h z = 0 then (if z = 0 then Z else ju Z (I h - 1) (if Z (I h - 1) < P h + z then P h + z else Z (I h - 1))) else Z) N (if jm_wrT K Z N B I O M P h z = 0 then (if z = 0 then B else jm_resB B m (I h - 1) (if Z (I h - 1) < P h + z then P h + z else Z (I h - 1))) else B) (if jm_wrT K Z N B I O M P h z = 0 then (if z = 0 then Y else jm_wrL b (I h - 1) (P h) z 0 (jm_resY Y (I h - 1) (if Z (I h - 1) < P h + z then P h + z else Z (I h - 1)))) else Y) I O M (if jm_wrT K Z N B I O M P h z = 0 then (if z = 0 then P else ju P h (P h + z)) else P) ct wr ofs (jm_wrT K Z N B I O M P h z) pa ey fo la := by first | with_reducible rfl | (simp [jm_wrT, c_1, c_3, c_5, c_7, c_30]; done) | (simp [show 5 < h by omega, jm_wrT, c_1, c_3, c_5, c_7, c_30]; done) | (simp [show ¬ 5 < h by omega, show 8 < z by omega, jm_wrT, c_1, c_3, c_5, c_7, c_30]; done) | (simp [show ¬ 5 < h by omega, show ¬ 8 < z by omega, jm_wrT, c_1, c_3, c_5, c_7, c_30]; done)
            rw [he] at hP hD
            exact jm_retv C hP hD hK hS ⟨Nat.le_of_ble_eq_true rfl, Nat.le_of_ble_eq_true rfl⟩ dd_M_write_48
          · skip
            exact absurd c_30 (by omega)
set_option maxHeartbeats 4000000 in
set_option maxRecDepth 100000 in
theorem ct_M_read (l : Launch) (G : va_G) (qM qK qZ qN qB qY qi qo qm qp : Nat) (c1 c2 c3 c4 c5 c6 c7 c8 c9 : ClassId) (K : Nat → Nat) (Z : Nat → Nat) (N : Nat → Nat) (B : Nat → Nat) (Y : Nat → Nat) (I : Nat → Nat) (O : Nat → Nat) (M : Nat → Nat) (P : Nat → Nat) (ct : Nat) (wr : Nat) (ofs : Nat) (th : Nat) (pa : Option Nat) (ey : Option Nat) (fo : Option Nat) (la : Nat) (h : Nat) (z : Nat) (hh0 : h < 4294967296) (hz0 : z < 4294967296) (hK : jlt 3 K) (hN : jlt 256 N) (hI : jlt 13 I) (hO : jlt 256 O) (hM : jlt 5 M) (hZ : jlt 65 Z) (hY : jlt 256 Y) (hPp : jlt 65 P) : jm l yn_M_read (.code yn_M_read cd_M_read 7 (some .long)) { frames := 2, cells := 0, slots := 0, locals := 45 } G (tM c1 c2 c3 c4 c5 c6 c7 c8 c9) (wM qM qK qZ qN qB qY qi qo qm qp c1 c2 c3 c4 c5 c6 c7 c8 c9 K Z N B Y I O M P ct wr ofs th pa ey fo la) [.ref qM, .int (nI (h)), .int (nI (z))] (some (.long (lN (if jm_rdT K N I O M h z = 0 then (jm_rdA Y (Z (I h - 1)) (I h - 1) h z 0 0 P).1 else 0)))) (wM qM qK qZ qN qB qY qi qo qm qp c1 c2 c3 c4 c5 c6 c7 c8 c9 K Z N B Y I O M (if jm_rdT K N I O M h z = 0 then (jm_rdA Y (Z (I h - 1)) (I h - 1) h z 0 0 P).2 else P) ct wr ofs (jm_rdT K N I O M h z) pa ey fo la) := by
  refine jm_of (by decide) (Nat.le_of_ble_eq_true rfl) ?_
  intro pr en σ mi bel met cd ls A hA C hP hK hD hS hl
  have hx := C.1
  have hb := C.2.1
  have hown := C.2.2.2.1
  have hts := C.2.2.2.2.1
  have hl : lv_has ls 7 [(0, .ref qM), (1, .int (nI (h))), (2, .int (nI (z)))] := hl
  refine lv_aload_n hx hb dd_M_read_0 rfl (lv_at hl 0 rfl) ?_
  refine lv_iload_n hx hb dd_M_read_1 rfl (lv_at hl 1 rfl) ?_
  refine jl_iflt32 (tgt := 20) hx hb (by omega) dd_M_read_2 (by decide) (fun c_1 => ?_) (fun c_1 => ?_)
  · skip
    refine lv_iconst (v := nI 1) hx hb dd_M_read_20 (by decide) ?_
    refine lv_goto (tgt := 31) hx hb dd_M_read_21 (by decide) ?_
    refine va_put (D := G) (ci := 4) (v := .int (nI (1))) (ty := .int) (C := cn_M) (T := ft_M) (N := 17) hx hb hts uw_M fy_M fo_M fn_M hown hK hP hD hS 0 rfl rfl 12 (by decide) (hts _ tw_605) (fun _ h9 => h9) rfl (by decide +kernel) rfl rfl (Nat.le_of_ble_eq_true rfl) dd_M_read_31 (fun H locs hP hD hS => ?_)
    have hP : va_P G jcl (wM qM qK qZ qN qB qY qi qo qm qp c1 c2 c3 c4 c5 c6 c7 c8 c9 K Z N B Y I O M P ct wr ofs 1 pa ey fo la) H := hP
    have hD : va_D A (wM qM qK qZ qN qB qY qi qo qm qp c1 c2 c3 c4 c5 c6 c7 c8 c9 K Z N B Y I O M P ct wr ofs 1 pa ey fo la) := hD
    refine lv_aload_n hx hb dd_M_read_34 rfl (lv_at hl 0 rfl) ?_
    refine va_get (D := G) (ci := 4) (v := .int (nI (1))) (C := cn_M) (T := ft_M) (N := 17) hx hb hts uw_M hown hK hP 0 rfl rfl 12 (by decide) (hts _ tw_605) (fun _ h9 => h9) rfl dd_M_read_35 ?_
    refine jl_ifeq (tgt := 43) hx hb (by omega) dd_M_read_38 (by decide) (fun c_2 => ?_) (fun c_2 => ?_)
    · skip
      exact absurd c_2 (by omega)
    · skip
      refine lv_lconst (v := lN 0) hx hb dd_M_read_41 rfl ?_
      have he : wM qM qK qZ qN qB qY qi qo qm qp c1 c2 c3 c4 c5 c6 c7 c8 c9 K Z N B Y I O M P ct wr ofs 1 pa ey fo la = wM qM qK qZ qN qB qY qi qo qm qp c1 c2 c3 c4 c5 c6 c7 c8 c9 K Z N B Y I O M (if jm_rdT K N I O M h z = 0 then (jm_rdA Y (Z (I h - 1)) (I h - 1) h z 0 0 P).2 else P) ct wr ofs (jm_rdT K N I O M h z) pa ey fo la := by first | with_reducible rfl | (simp [jm_rdT, c_1, c_2]; done) | (simp [show 5 < h by omega, jm_rdT, c_1, c_2]; done) | (simp [show ¬ 5 < h by omega, show 8 < z by omega, jm_rdT, c_1, c_2]; done) | (simp [show ¬ 5 < h by omega, show ¬ 8 < z by omega, jm_rdT, c_1, c_2]; done)
      rw [he] at hP hD
      exact jm_retl C (by first | with_reducible rfl | (simp [jm_rdT, c_1, c_2]; done) | (simp [show 5 < h by omega, jm_rdT, c_1, c_2]; done) | (simp [show ¬ 5 < h by omega, show 8 < z by omega, jm_rdT, c_1, c_2]; done) | (simp [show ¬ 5 < h by omega, show ¬ 8 < z by omega, jm_rdT, c_1, c_2]; done)) hP hD hK hS ⟨Nat.le_of_ble_eq_true rfl, Nat.le_of_ble_eq_true rfl⟩ dd_M_read_42
  · skip
    refine lv_iload_n hx hb dd_M_read_5 rfl (lv_at hl 1 rfl) ?_
    refine lv_iconst (v := nI 5) hx hb dd_M_read_6 (by decide) ?_
    refine jl_gt (tgt := 20) hx hb (by omega) (by omega) dd_M_read_7 (by decide) (fun c_3 => ?_) (fun c_3 => ?_)
    · skip
      refine lv_iconst (v := nI 1) hx hb dd_M_read_20 (by decide) ?_
      refine lv_goto (tgt := 31) hx hb dd_M_read_21 (by decide) ?_
      refine va_put (D := G) (ci := 4) (v := .int (nI (1))) (ty := .int) (C := cn_M) (T := ft_M) (N := 17) hx hb hts uw_M fy_M fo_M fn_M hown hK hP hD hS 0 rfl rfl 12 (by decide) (hts _ tw_605) (fun _ h9 => h9) rfl (by decide +kernel) rfl rfl (Nat.le_of_ble_eq_true rfl) dd_M_read_31 (fun H locs hP hD hS => ?_)
      have hP : va_P G jcl (wM qM qK qZ qN qB qY qi qo qm qp c1 c2 c3 c4 c5 c6 c7 c8 c9 K Z N B Y I O M P ct wr ofs 1 pa ey fo la) H := hP
      have hD : va_D A (wM qM qK qZ qN qB qY qi qo qm qp c1 c2 c3 c4 c5 c6 c7 c8 c9 K Z N B Y I O M P ct wr ofs 1 pa ey fo la) := hD
      refine lv_aload_n hx hb dd_M_read_34 rfl (lv_at hl 0 rfl) ?_
      refine va_get (D := G) (ci := 4) (v := .int (nI (1))) (C := cn_M) (T := ft_M) (N := 17) hx hb hts uw_M hown hK hP 0 rfl rfl 12 (by decide) (hts _ tw_605) (fun _ h9 => h9) rfl dd_M_read_35 ?_
      refine jl_ifeq (tgt := 43) hx hb (by omega) dd_M_read_38 (by decide) (fun c_4 => ?_) (fun c_4 => ?_)
      · skip
        exact absurd c_4 (by omega)
      · skip
        refine lv_lconst (v := lN 0) hx hb dd_M_read_41 rfl ?_
        have he : wM qM qK qZ qN qB qY qi qo qm qp c1 c2 c3 c4 c5 c6 c7 c8 c9 K Z N B Y I O M P ct wr ofs 1 pa ey fo la = wM qM qK qZ qN qB qY qi qo qm qp c1 c2 c3 c4 c5 c6 c7 c8 c9 K Z N B Y I O M (if jm_rdT K N I O M h z = 0 then (jm_rdA Y (Z (I h - 1)) (I h - 1) h z 0 0 P).2 else P) ct wr ofs (jm_rdT K N I O M h z) pa ey fo la := by first | with_reducible rfl | (simp [jm_rdT, c_1, c_3, c_4]; done) | (simp [show 5 < h by omega, jm_rdT, c_1, c_3, c_4]; done) | (simp [show ¬ 5 < h by omega, show 8 < z by omega, jm_rdT, c_1, c_3, c_4]; done) | (simp [show ¬ 5 < h by omega, show ¬ 8 < z by omega, jm_rdT, c_1, c_3, c_4]; done)
        rw [he] at hP hD
        exact jm_retl C (by first | with_reducible rfl | (simp [jm_rdT, c_1, c_3, c_4]; done) | (simp [show 5 < h by omega, jm_rdT, c_1, c_3, c_4]; done) | (simp [show ¬ 5 < h by omega, show 8 < z by omega, jm_rdT, c_1, c_3, c_4]; done) | (simp [show ¬ 5 < h by omega, show ¬ 8 < z by omega, jm_rdT, c_1, c_3, c_4]; done)) hP hD hK hS ⟨Nat.le_of_ble_eq_true rfl, Nat.le_of_ble_eq_true rfl⟩ dd_M_read_42
    · skip
      refine lv_iload_n hx hb dd_M_read_10 rfl (lv_at hl 2 rfl) ?_
      refine jl_iflt32 (tgt := 20) hx hb (by omega) dd_M_read_11 (by decide) (fun c_5 => ?_) (fun c_5 => ?_)
      · skip
        refine lv_iconst (v := nI 1) hx hb dd_M_read_20 (by decide) ?_
        refine lv_goto (tgt := 31) hx hb dd_M_read_21 (by decide) ?_
        refine va_put (D := G) (ci := 4) (v := .int (nI (1))) (ty := .int) (C := cn_M) (T := ft_M) (N := 17) hx hb hts uw_M fy_M fo_M fn_M hown hK hP hD hS 0 rfl rfl 12 (by decide) (hts _ tw_605) (fun _ h9 => h9) rfl (by decide +kernel) rfl rfl (Nat.le_of_ble_eq_true rfl) dd_M_read_31 (fun H locs hP hD hS => ?_)
        have hP : va_P G jcl (wM qM qK qZ qN qB qY qi qo qm qp c1 c2 c3 c4 c5 c6 c7 c8 c9 K Z N B Y I O M P ct wr ofs 1 pa ey fo la) H := hP
        have hD : va_D A (wM qM qK qZ qN qB qY qi qo qm qp c1 c2 c3 c4 c5 c6 c7 c8 c9 K Z N B Y I O M P ct wr ofs 1 pa ey fo la) := hD
        refine lv_aload_n hx hb dd_M_read_34 rfl (lv_at hl 0 rfl) ?_
        refine va_get (D := G) (ci := 4) (v := .int (nI (1))) (C := cn_M) (T := ft_M) (N := 17) hx hb hts uw_M hown hK hP 0 rfl rfl 12 (by decide) (hts _ tw_605) (fun _ h9 => h9) rfl dd_M_read_35 ?_
        refine jl_ifeq (tgt := 43) hx hb (by omega) dd_M_read_38 (by decide) (fun c_6 => ?_) (fun c_6 => ?_)
        · skip
          exact absurd c_6 (by omega)
        · skip
          refine lv_lconst (v := lN 0) hx hb dd_M_read_41 rfl ?_
          have he : wM qM qK qZ qN qB qY qi qo qm qp c1 c2 c3 c4 c5 c6 c7 c8 c9 K Z N B Y I O M P ct wr ofs 1 pa ey fo la = wM qM qK qZ qN qB qY qi qo qm qp c1 c2 c3 c4 c5 c6 c7 c8 c9 K Z N B Y I O M (if jm_rdT K N I O M h z = 0 then (jm_rdA Y (Z (I h - 1)) (I h - 1) h z 0 0 P).2 else P) ct wr ofs (jm_rdT K N I O M h z) pa ey fo la := by first | with_reducible rfl | (simp [jm_rdT, c_1, c_3, c_5, c_6]; done) | (simp [show 5 < h by omega, jm_rdT, c_1, c_3, c_5, c_6]; done) | (simp [show ¬ 5 < h by omega, show 8 < z by omega, jm_rdT, c_1, c_3, c_5, c_6]; done) | (simp [show ¬ 5 < h by omega, show ¬ 8 < z by omega, jm_rdT, c_1, c_3, c_5, c_6]; done)
          rw [he] at hP hD
          exact jm_retl C (by first | with_reducible rfl | (simp [jm_rdT, c_1, c_3, c_5, c_6]; done) | (simp [show 5 < h by omega, jm_rdT, c_1, c_3, c_5, c_6]; done) | (simp [show ¬ 5 < h by omega, show 8 < z by omega, jm_rdT, c_1, c_3, c_5, c_6]; done) | (simp [show ¬ 5 < h by omega, show ¬ 8 < z by omega, jm_rdT, c_1, c_3, c_5, c_6]; done)) hP hD hK hS ⟨Nat.le_of_ble_eq_true rfl, Nat.le_of_ble_eq_true rfl⟩ dd_M_read_42
      · skip
        refine lv_iload_n hx hb dd_M_read_14 rfl (lv_at hl 2 rfl) ?_
        refine lv_bipush (v := nI 8) hx hb dd_M_read_15 (by decide) ?_
        refine jl_le (tgt := 24) hx hb (by omega) (by omega) dd_M_read_17 (by decide) (fun c_7 => ?_) (fun c_7 => ?_)
        · skip
          refine lv_aload_n hx hb dd_M_read_24 rfl (lv_at hl 0 rfl) ?_
          refine lv_iload_n hx hb dd_M_read_25 rfl (lv_at hl 1 rfl) ?_
          refine lv_iconst (v := nI 1) hx hb dd_M_read_26 (by decide) ?_
          refine lv_iconst (v := nI 1) hx hb dd_M_read_27 (by decide) ?_
          refine jr_callV C (ct_M_wrong l G qM qK qZ qN qB qY qi qo qm qp c1 c2 c3 c4 c5 c6 c7 c8 c9 K Z N B Y I O M P ct wr ofs th pa ey fo la h 1 1 (by omega) (by omega) (by omega) (by assumption) (by assumption) (by assumption) (by assumption) (by assumption)) kl_M_102 ⟨Nat.le_of_ble_eq_true rfl, Nat.le_of_ble_eq_true rfl, rfl, rfl⟩ ⟨Nat.le_of_ble_eq_true rfl, Nat.le_of_ble_eq_true rfl⟩ (hP) (hK) (va_recv hK hP (ci := 4) (q0 := 0) rfl rfl) hl.1 rfl rfl (Nat.le_of_ble_eq_true rfl) dd_M_read_28 ?_
          have hf_8 : jm_wrong K N I O M h 1 1 < 3 := jm_wrong_lt _ _ _ _ _ _ _ _
          refine va_put (D := G) (ci := 4) (v := .int (nI (jm_wrong K N I O M h 1 1))) (ty := .int) (C := cn_M) (T := ft_M) (N := 17) hx hb hts uw_M fy_M fo_M fn_M hown hK hP hD hS 0 rfl rfl 12 (by decide) (hts _ tw_605) (fun _ h9 => h9) rfl (by decide +kernel) rfl rfl (Nat.le_of_ble_eq_true rfl) dd_M_read_31 (fun H locs hP hD hS => ?_)
          have hP : va_P G jcl (wM qM qK qZ qN qB qY qi qo qm qp c1 c2 c3 c4 c5 c6 c7 c8 c9 K Z N B Y I O M P ct wr ofs (jm_wrong K N I O M h 1 1) pa ey fo la) H := hP
          have hD : va_D A (wM qM qK qZ qN qB qY qi qo qm qp c1 c2 c3 c4 c5 c6 c7 c8 c9 K Z N B Y I O M P ct wr ofs (jm_wrong K N I O M h 1 1) pa ey fo la) := hD
          refine lv_aload_n hx hb dd_M_read_34 rfl (lv_at hl 0 rfl) ?_
          refine va_get (D := G) (ci := 4) (v := .int (nI (jm_wrong K N I O M h 1 1))) (C := cn_M) (T := ft_M) (N := 17) hx hb hts uw_M hown hK hP 0 rfl rfl 12 (by decide) (hts _ tw_605) (fun _ h9 => h9) rfl dd_M_read_35 ?_
          refine jl_ifeq (tgt := 43) hx hb (by omega) dd_M_read_38 (by decide) (fun c_9 => ?_) (fun c_9 => ?_)
          · skip
            have hw9 := jm_wrong_0 c_9
            refine lv_aload_n hx hb dd_M_read_43 rfl (lv_at hl 0 rfl) ?_
            refine va_get (D := G) (ci := 4) (v := .ref qi) (C := cn_M) (T := ft_M) (N := 17) hx hb hts uw_M hown hK hP 0 rfl rfl 5 (by decide) (hts _ tw_598) (fun _ h9 => h9) rfl dd_M_read_44 ?_
            refine lv_iload_n hx hb dd_M_read_47 rfl (lv_at hl 1 rfl) ?_
            refine va_iald hx hb hK hP 6 5 rfl rfl (vp_in_nI (by omega) (by decide)) dd_M_read_48 ?_
            refine jl_top (jn_at (I) (by omega)) ?_
            have hf_10 : I h < 13 := (by assumption : jlt 13 I) _
            refine lv_iconst (v := nI 1) hx hb dd_M_read_49 (by decide) ?_
            refine jl_isub hx hb (by omega) dd_M_read_50 ?_
            refine lv_istore_n (lv' := [(3, .int (nI ((I h) - 1))), (0, .ref qM), (1, .int (nI (h))), (2, .int (nI (z)))]) hx hb dd_M_read_51 rfl hl (by decide) rfl (fun ls hl => ?_)
            refine lv_lconst (v := lN 0) hx hb dd_M_read_52 rfl ?_
            refine lv_lstore (lv' := [(4, .long (lN (0))), (3, .int (nI ((I h) - 1))), (0, .ref qM), (1, .int (nI (h))), (2, .int (nI (z)))]) hx hb dd_M_read_53 hl (by decide) rfl (fun ls hl => ?_)
            refine lv_iconst (v := nI 0) hx hb dd_M_read_55 (by decide) ?_
            refine lv_istore (lv' := [(6, .int (nI (0))), (4, .long (lN (0))), (3, .int (nI ((I h) - 1))), (0, .ref qM), (1, .int (nI (h))), (2, .int (nI (z)))]) hx hb dd_M_read_56 hl (by decide) rfl (fun ls hl => ?_)
            have loop : ∀ (n : Nat) (g : Nat) (v : Nat) (P9 : Nat → Nat), (g + n = z ∧ v < 18446744073709551616) → (jlt 65 P9) → jm_rdA Y (Z (I h - 1)) (I h - 1) h n g v P9 = jm_rdA Y (Z (I h - 1)) (I h - 1) h z 0 0 P → ∀ (H : Heap) (locs : List Loc), va_P G jcl (wM qM qK qZ qN qB qY qi qo qm qp c1 c2 c3 c4 c5 c6 c7 c8 c9 K Z N B Y I O M P9 ct wr ofs (jm_wrong K N I O M h 1 1) pa ey fo la) H → va_D A (wM qM qK qZ qN qB qY qi qo qm qp c1 c2 c3 c4 c5 c6 c7 c8 c9 K Z N B Y I O M P9 ct wr ofs (jm_wrong K N I O M h 1 1) pa ey fo la) → va_S A σ.heap H locs → ∀ ls : Array Slot, lv_has ls 7 [(6, .int (nI (g))), (4, .long (lN (v))), (3, .int (nI ((I h) - 1))), (0, .ref qM), (1, .int (nI (h))), (2, .int (nI (z)))] → W pr l en { frames := 2, cells := 0, slots := 0, locals := 45 } σ mi ([.ref qM, .int (nI (h)), .int (nI (z))] : List Value).toArray bel met cd H locs 0 0 (jm_Q bel { frames := 2, cells := 0, slots := 0, locals := 45 } G (tM c1 c2 c3 c4 c5 c6 c7 c8 c9) A [.ref qM, .int (nI (h)), .int (nI (z))] σ (some (.long (lN (if jm_rdT K N I O M h z = 0 then (jm_rdA Y (Z (I h - 1)) (I h - 1) h z 0 0 P).1 else 0)))) (wM qM qK qZ qN qB qY qi qo qm qp c1 c2 c3 c4 c5 c6 c7 c8 c9 K Z N B Y I O M (if jm_rdT K N I O M h z = 0 then (jm_rdA Y (Z (I h - 1)) (I h - 1) h z 0 0 P).2 else P) ct wr ofs (jm_rdT K N I O M h z) pa ey fo la)) (F0 mi 58 ls []) := by
              intro n
              induction n with
              | zero =>
                intro g v P9 hi hP9 ht H locs hP hD hS ls hl
                refine lv_iload hx hb dd_M_read_58 (lv_at hl 0 rfl) ?_
                refine lv_iload_n hx hb dd_M_read_60 rfl (lv_at hl 5 rfl) ?_
                refine jl_ge (tgt := 123) hx hb (by omega) (by omega) dd_M_read_61 (by decide) (fun c_11 => ?_) (fun c_11 => ?_)
                · skip
                  refine lv_lload hx hb dd_M_read_123 (lv_at hl 1 rfl) ?_
                  have he : wM qM qK qZ qN qB qY qi qo qm qp c1 c2 c3 c4 c5 c6 c7 c8 c9 K Z N B Y I O M P9 ct wr ofs (jm_wrong K N I O M h 1 1) pa ey fo la = wM qM qK qZ qN qB qY qi qo qm qp c1 c2 c3 c4 c5 c6 c7 c8 c9 K Z N B Y I O M (if jm_rdT K N I O M h z = 0 then (jm_rdA Y (Z (I h - 1)) (I h - 1) h z 0 0 P).2 else P) ct wr ofs (jm_rdT K N I O M h z) pa ey fo la := by rw [← ht]; first | with_reducible rfl | (simp [jm_rdA, jm_rdT, c_1, c_3, c_5, c_7, c_9, c_11]; done) | (simp [show 5 < h by omega, jm_rdA, jm_rdT, c_1, c_3, c_5, c_7, c_9, c_11]; done) | (simp [show ¬ 5 < h by omega, show 8 < z by omega, jm_rdA, jm_rdT, c_1, c_3, c_5, c_7, c_9, c_11]; done) | (simp [show ¬ 5 < h by omega, show ¬ 8 < z by omega, jm_rdA, jm_rdT, c_1, c_3, c_5, c_7, c_9, c_11]; done)
                  rw [he] at hP hD
                  exact jm_retl C (by rw [← ht]; first | with_reducible rfl | (simp [jm_rdA, jm_rdT, c_1, c_3, c_5, c_7, c_9, c_11]; done) | (simp [show 5 < h by omega, jm_rdA, jm_rdT, c_1, c_3, c_5, c_7, c_9, c_11]; done) | (simp [show ¬ 5 < h by omega, show 8 < z by omega, jm_rdA, jm_rdT, c_1, c_3, c_5, c_7, c_9, c_11]; done) | (simp [show ¬ 5 < h by omega, show ¬ 8 < z by omega, jm_rdA, jm_rdT, c_1, c_3, c_5, c_7, c_9, c_11]; done)) hP hD hK hS ⟨Nat.le_of_ble_eq_true rfl, Nat.le_of_ble_eq_true rfl⟩ dd_M_read_125
                · skip
                  exact absurd c_11 (by omega)
              | succ n ih =>
                intro g v P9 hi hP9 ht H locs hP hD hS ls hl
                refine lv_iload hx hb dd_M_read_58 (lv_at hl 0 rfl) ?_
                refine lv_iload_n hx hb dd_M_read_60 rfl (lv_at hl 5 rfl) ?_
                refine jl_ge (tgt := 123) hx hb (by omega) (by omega) dd_M_read_61 (by decide) (fun c_12 => ?_) (fun c_12 => ?_)
                · skip
                  exact absurd c_12 (by omega)
                · skip
                  refine lv_aload_n hx hb dd_M_read_64 rfl (lv_at hl 3 rfl) ?_
                  refine va_get (D := G) (ci := 4) (v := .ref qp) (C := cn_M) (T := ft_M) (N := 17) hx hb hts uw_M hown hK hP 0 rfl rfl 8 (by decide) (hts _ tw_601) (fun _ h9 => h9) rfl dd_M_read_65 ?_
                  refine lv_iload_n hx hb dd_M_read_68 rfl (lv_at hl 4 rfl) ?_
                  refine va_iald hx hb hK hP 9 8 rfl rfl (vp_in_nI (by omega) (by decide)) dd_M_read_69 ?_
                  refine jl_top (jn_at (P9) (by omega)) ?_
                  have hf_13 : P9 h < 65 := (by assumption : jlt 65 P9) _
                  refine lv_aload_n hx hb dd_M_read_70 rfl (lv_at hl 3 rfl) ?_
                  refine va_get (D := G) (ci := 4) (v := .ref qZ) (C := cn_M) (T := ft_M) (N := 17) hx hb hts uw_M hown hK hP 0 rfl rfl 1 (by decide) (hts _ tw_594) (fun _ h9 => h9) rfl dd_M_read_71 ?_
                  refine lv_iload_n hx hb dd_M_read_74 rfl (lv_at hl 2 rfl) ?_
                  refine va_iald hx hb hK hP 2 1 rfl rfl (vp_in_nI (by omega) (by decide)) dd_M_read_75 ?_
                  refine jl_top (jn_at (Z) (by omega)) ?_
                  have hf_14 : Z ((I h) - 1) < 65 := (by assumption : jlt 65 Z) _
                  refine jl_ge (tgt := 123) hx hb (by omega) (by omega) dd_M_read_76 (by decide) (fun c_15 => ?_) (fun c_15 => ?_)
                  · skip
                    refine lv_lload hx hb dd_M_read_123 (lv_at hl 1 rfl) ?_
                    have he : wM qM qK qZ qN qB qY qi qo qm qp c1 c2 c3 c4 c5 c6 c7 c8 c9 K Z N B Y I O M P9 ct wr ofs (jm_wrong K N I O M h 1 1) pa ey fo la = wM qM qK qZ qN qB qY qi qo qm qp c1 c2 c3 c4 c5 c6 c7 c8 c9 K Z N B Y I O M (if jm_rdT K N I O M h z = 0 then (jm_rdA Y (Z (I h - 1)) (I h - 1) h z 0 0 P).2 else P) ct wr ofs (jm_rdT K N I O M h z) pa ey fo la := by rw [← ht]; first | with_reducible rfl | (simp [jm_rdA, jm_rdT, c_1, c_3, c_5, c_7, c_9, c_12, c_15]; done) | (simp [show 5 < h by omega, jm_rdA, jm_rdT, c_1, c_3, c_5, c_7, c_9, c_12, c_15]; done) | (simp [show ¬ 5 < h by omega, show 8 < z by omega, jm_rdA, jm_rdT, c_1, c_3, c_5, c_7, c_9, c_12, c_15]; done) | (simp [show ¬ 5 < h by omega, show ¬ 8 < z by omega, jm_rdA, jm_rdT, c_1, c_3, c_5, c_7, c_9, c_12, c_15]; done)
                    rw [he] at hP hD
                    exact jm_retl C (by rw [← ht]; first | with_reducible rfl | (simp [jm_rdA, jm_rdT, c_1, c_3, c_5, c_7, c_9, c_12, c_15]; done) | (simp [show 5 < h by omega, jm_rdA, jm_rdT, c_1, c_3, c_5, c_7, c_9, c_12, c_15]; done) | (simp [show ¬ 5 < h by omega, show 8 < z by omega, jm_rdA, jm_rdT, c_1, c_3, c_5, c_7, c_9, c_12, c_15]; done) | (simp [show ¬ 5 < h by omega, show ¬ 8 < z by omega, jm_rdA, jm_rdT, c_1, c_3, c_5, c_7, c_9, c_12, c_15]; done)) hP hD hK hS ⟨Nat.le_of_ble_eq_true rfl, Nat.le_of_ble_eq_true rfl⟩ dd_M_read_125
                  · skip
                    refine lv_lload hx hb dd_M_read_79 (lv_at hl 1 rfl) ?_
                    refine lv_aload_n hx hb dd_M_read_81 rfl (lv_at hl 3 rfl) ?_
                    refine va_get (D := G) (ci := 4) (v := .ref qY) (C := cn_M) (T := ft_M) (N := 17) hx hb hts uw_M hown hK hP 0 rfl rfl 4 (by decide) (hts _ tw_597) (fun _ h9 => h9) rfl dd_M_read_82 ?_
                    refine lv_iload_n hx hb dd_M_read_85 rfl (lv_at hl 2 rfl) ?_
                    refine lv_bipush (v := nI 64) hx hb dd_M_read_86 (by decide) ?_
                    refine jl_imul hx hb dd_M_read_88 ?_
                    refine lv_aload_n hx hb dd_M_read_89 rfl (lv_at hl 3 rfl) ?_
                    refine va_get (D := G) (ci := 4) (v := .ref qp) (C := cn_M) (T := ft_M) (N := 17) hx hb hts uw_M hown hK hP 0 rfl rfl 8 (by decide) (hts _ tw_601) (fun _ h9 => h9) rfl dd_M_read_90 ?_
                    refine lv_iload_n hx hb dd_M_read_93 rfl (lv_at hl 4 rfl) ?_
                    refine va_iald hx hb hK hP 9 8 rfl rfl (vp_in_nI (by omega) (by decide)) dd_M_read_94 ?_
                    refine jl_top (jn_at (P9) (by omega)) ?_
                    have hf_16 : P9 h < 65 := (by assumption : jlt 65 P9) _
                    refine jl_iadd hx hb dd_M_read_95 ?_
                    refine va_iald hx hb hK hP 5 4 rfl rfl (vp_in_nI (by omega) (by decide)) dd_M_read_96 ?_
                    refine jl_top (jn_at (Y) (by omega)) ?_
                    have hf_17 : Y ((((I h) - 1) * 64) + (P9 h)) < 256 := (by assumption : jlt 256 Y) _
                    refine jl_i2l hx hb (by omega) dd_M_read_97 ?_
                    refine lv_bipush (v := nI 8) hx hb dd_M_read_98 (by decide) ?_
                    refine lv_iload hx hb dd_M_read_100 (lv_at hl 0 rfl) ?_
                    refine jl_imul hx hb dd_M_read_102 ?_
                    refine jl_lshl hx hb (by omega) dd_M_read_103 ?_
                    refine jl_lor hx hb (by omega) (jl_sh64 (by omega) _ (by omega)) dd_M_read_104 ?_
                    have hf_18 : v ||| ((Y ((((I h) - 1) * 64) + (P9 h))) * 2 ^ (8 * g)) < 18446744073709551616 := jl_or64 (by omega) (jl_sh64 (by omega) _ (by omega))
                    refine lv_lstore (lv' := [(4, .long (lN (v ||| ((Y ((((I h) - 1) * 64) + (P9 h))) * 2 ^ (8 * g))))), (6, .int (nI (g))), (3, .int (nI ((I h) - 1))), (0, .ref qM), (1, .int (nI (h))), (2, .int (nI (z)))]) hx hb dd_M_read_105 hl (by decide) rfl (fun ls hl => ?_)
                    refine lv_aload_n hx hb dd_M_read_107 rfl (lv_at hl 3 rfl) ?_
                    refine va_get (D := G) (ci := 4) (v := .ref qp) (C := cn_M) (T := ft_M) (N := 17) hx hb hts uw_M hown hK hP 0 rfl rfl 8 (by decide) (hts _ tw_601) (fun _ h9 => h9) rfl dd_M_read_108 ?_
                    refine lv_iload_n hx hb dd_M_read_111 rfl (lv_at hl 4 rfl) ?_
                    refine lv_dup2_11 hx hb dd_M_read_112 rfl rfl ?_
                    refine va_iald hx hb hK hP 9 8 rfl rfl (vp_in_nI (by omega) (by decide)) dd_M_read_113 ?_
                    refine jl_top (jn_at (P9) (by omega)) ?_
                    have hf_19 : P9 h < 65 := (by assumption : jlt 65 P9) _
                    refine lv_iconst (v := nI 1) hx hb dd_M_read_114 (by decide) ?_
                    refine jl_iadd hx hb dd_M_read_115 ?_
                    refine va_iast hx hb hK hP hD hS 9 8 rfl rfl (vp_in_nI (by omega) (by decide)) dd_M_read_116 (fun H locs hP hD hS => ?_)
                    rw [jn_upd (P9) ((P9 h) + 1) (by omega)] at hP hD
                    have hP : va_P G jcl (wM qM qK qZ qN qB qY qi qo qm qp c1 c2 c3 c4 c5 c6 c7 c8 c9 K Z N B Y I O M (ju P9 h ((P9 h) + 1)) ct wr ofs (jm_wrong K N I O M h 1 1) pa ey fo la) H := hP
                    have hD : va_D A (wM qM qK qZ qN qB qY qi qo qm qp c1 c2 c3 c4 c5 c6 c7 c8 c9 K Z N B Y I O M (ju P9 h ((P9 h) + 1)) ct wr ofs (jm_wrong K N I O M h 1 1) pa ey fo la) := hD
                    have hf_20 : jlt 65 (ju P9 h ((P9 h) + 1)) := ju_lt (by assumption) (by omega)
                    refine jl_iinc (lv' := [(6, .int (nI (g + 1))), (4, .long (lN (v ||| ((Y ((((I h) - 1) * 64) + (P9 h))) * 2 ^ (8 * g))))), (3, .int (nI ((I h) - 1))), (0, .ref qM), (1, .int (nI (h))), (2, .int (nI (z)))]) hx hb dd_M_read_117 hl (k := 1) rfl (by decide) rfl (fun ls hl => ?_)
                    refine lv_goto (tgt := 58) hx hb dd_M_read_120 (by decide) ?_
                    exact ih (g + 1) (v ||| ((Y ((((I h) - 1) * 64) + (P9 h))) * 2 ^ (8 * g))) (ju P9 h ((P9 h) + 1)) (by omega) (by assumption) (by simpa [jm_rdA, c_1, c_3, c_5, c_7, c_9, c_12, c_15] using ht) _ _ hP hD hS ls (lv_sub hl [0, 1, 2, 3, 4, 5] rfl)
            exact loop z 0 0 P (by omega) (by assumption) (rfl) _ _ hP hD hS ls (lv_sub hl [0, 1, 2, 3, 4, 5] rfl)
          · skip
            refine lv_lconst (v := lN 0) hx hb dd_M_read_41 rfl ?_
            have he : wM qM qK qZ qN qB qY qi qo qm qp c1 c2 c3 c4 c5 c6 c7 c8 c9 K Z N B Y I O M P ct wr ofs (jm_wrong K N I O M h 1 1) pa ey fo la = wM qM qK qZ qN qB qY qi qo qm qp c1 c2 c3 c4 c5 c6 c7 c8 c9 K Z N B Y I O M (if jm_rdT K N I O M h z = 0 then (jm_rdA Y (Z (I h - 1)) (I h - 1) h z 0 0 P).2 else P) ct wr ofs (jm_rdT K N I O M h z) pa ey fo la := by first | with_reducible rfl | (simp [jm_rdT, c_1, c_3, c_5, c_7, c_9]; done) | (simp [show 5 < h by omega, jm_rdT, c_1, c_3, c_5, c_7, c_9]; done) | (simp [show ¬ 5 < h by omega, show 8 < z by omega, jm_rdT, c_1, c_3, c_5, c_7, c_9]; done) | (simp [show ¬ 5 < h by omega, show ¬ 8 < z by omega, jm_rdT, c_1, c_3, c_5, c_7, c_9]; done)
            rw [he] at hP hD
            exact jm_retl C (by first | with_reducible rfl | (simp [jm_rdT, c_1, c_3, c_5, c_7, c_9]; done) | (simp [show 5 < h by omega, jm_rdT, c_1, c_3, c_5, c_7, c_9]; done) | (simp [show ¬ 5 < h by omega, show 8 < z by omega, jm_rdT, c_1, c_3, c_5, c_7, c_9]; done) | (simp [show ¬ 5 < h by omega, show ¬ 8 < z by omega, jm_rdT, c_1, c_3, c_5, c_7, c_9]; done)) hP hD hK hS ⟨Nat.le_of_ble_eq_true rfl, Nat.le_of_ble_eq_true rfl⟩ dd_M_read_42
        · skip
          refine lv_iconst (v := nI 1) hx hb dd_M_read_20 (by decide) ?_
          refine lv_goto (tgt := 31) hx hb dd_M_read_21 (by decide) ?_
          refine va_put (D := G) (ci := 4) (v := .int (nI (1))) (ty := .int) (C := cn_M) (T := ft_M) (N := 17) hx hb hts uw_M fy_M fo_M fn_M hown hK hP hD hS 0 rfl rfl 12 (by decide) (hts _ tw_605) (fun _ h9 => h9) rfl (by decide +kernel) rfl rfl (Nat.le_of_ble_eq_true rfl) dd_M_read_31 (fun H locs hP hD hS => ?_)
          have hP : va_P G jcl (wM qM qK qZ qN qB qY qi qo qm qp c1 c2 c3 c4 c5 c6 c7 c8 c9 K Z N B Y I O M P ct wr ofs 1 pa ey fo la) H := hP
          have hD : va_D A (wM qM qK qZ qN qB qY qi qo qm qp c1 c2 c3 c4 c5 c6 c7 c8 c9 K Z N B Y I O M P ct wr ofs 1 pa ey fo la) := hD
          refine lv_aload_n hx hb dd_M_read_34 rfl (lv_at hl 0 rfl) ?_
          refine va_get (D := G) (ci := 4) (v := .int (nI (1))) (C := cn_M) (T := ft_M) (N := 17) hx hb hts uw_M hown hK hP 0 rfl rfl 12 (by decide) (hts _ tw_605) (fun _ h9 => h9) rfl dd_M_read_35 ?_
          refine jl_ifeq (tgt := 43) hx hb (by omega) dd_M_read_38 (by decide) (fun c_21 => ?_) (fun c_21 => ?_)
          · skip
            exact absurd c_21 (by omega)
          · skip
            refine lv_lconst (v := lN 0) hx hb dd_M_read_41 rfl ?_
            have he : wM qM qK qZ qN qB qY qi qo qm qp c1 c2 c3 c4 c5 c6 c7 c8 c9 K Z N B Y I O M P ct wr ofs 1 pa ey fo la = wM qM qK qZ qN qB qY qi qo qm qp c1 c2 c3 c4 c5 c6 c7 c8 c9 K Z N B Y I O M (if jm_rdT K N I O M h z = 0 then (jm_rdA Y (Z (I h - 1)) (I h - 1) h z 0 0 P).2 else P) ct wr ofs (jm_rdT K N I O M h z) pa ey fo la := by first | with_reducible rfl | (simp [jm_rdT, c_1, c_3, c_5, c_7, c_21]; done) | (simp [show 5 < h by omega, jm_rdT, c_1, c_3, c_5, c_7, c_21]; done) | (simp [show ¬ 5 < h by omega, show 8 < z by omega, jm_rdT, c_1, c_3, c_5, c_7, c_21]; done) | (simp [show ¬ 5 < h by omega, show ¬ 8 < z by omega, jm_rdT, c_1, c_3, c_5, c_7, c_21]; done)
            rw [he] at hP hD
            exact jm_retl C (by first | with_reducible rfl | (simp [jm_rdT, c_1, c_3, c_5, c_7, c_21]; done) | (simp [show 5 < h by omega, jm_rdT, c_1, c_3, c_5, c_7, c_21]; done) | (simp [show ¬ 5 < h by omega, show 8 < z by omega, jm_rdT, c_1, c_3, c_5, c_7, c_21]; done) | (simp [show ¬ 5 < h by omega, show ¬ 8 < z by omega, jm_rdT, c_1, c_3, c_5, c_7, c_21]; done)) hP hD hK hS ⟨Nat.le_of_ble_eq_true rfl, Nat.le_of_ble_eq_true rfl⟩ dd_M_read_42
