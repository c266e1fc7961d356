set_option maxHeartbeats 4000000 in
set_option maxRecDepth 100000 in
theorem ct_M_stat (l : Launch) (G : va_G) (qM qK qZ qN qB qY qi qo qm qp : Nat) (c1 c2 c3 c4 c5 c6 c7 c8 c9 : ClassId) (K : Nat → Nat) (Z : Nat → Nat) (N : Nat → Nat) (B : Nat → Nat) (Y : Nat → Nat) (I : Nat → Nat) (O : Nat → Nat) (M : Nat → Nat) (P : Nat → Nat) (ct : Nat) (wr : Nat) (ofs : Nat) (th : Nat) (pa : Option Nat) (ey : Option Nat) (fo : Option Nat) (la : Nat) (u : Nat) (z : Nat) (hP0 : u < 4294967296) (hz0 : z < 4294967296) (hE : jm_ents K Z Y) (hK : jlt 3 K) (hZ : jlt 65 Z) (hN : jlt 256 N) (hY : jlt 256 Y) : jm l yn_M_stat (.code yn_M_stat cd_M_stat 3 (some .int)) { frames := 2, cells := 0, slots := 0, locals := 46 } G (tM c1 c2 c3 c4 c5 c6 c7 c8 c9) (wM qM qK qZ qN qB qY qi qo qm qp c1 c2 c3 c4 c5 c6 c7 c8 c9 K Z N B Y I O M P ct wr ofs th pa ey fo la) [.ref qM, .int (nI (u)), .int (nI (z))] (some (.int (nI (if jm_stT K Z Y u z = 0 then jm_stR K Z N (jm_lead K Z Y u).2.2.2.1 z else 0)))) (wM qM qK qZ qN qB qY qi qo qm qp c1 c2 c3 c4 c5 c6 c7 c8 c9 K Z N B Y I O M P ct wr ofs (jm_stT K Z Y u z) (if jm_badPath u = 0 then (if 4 < z then pa else (jm_lead K Z Y u).2.1) else pa) (if jm_badPath u = 0 then (if 4 < z then ey else (jm_lead K Z Y u).2.2.1) else ey) (if jm_badPath u = 0 then (if 4 < z then fo else (jm_lead K Z Y u).2.2.2.1) else fo) (if jm_badPath u = 0 then (if 4 < z then la else (jm_lead K Z Y u).2.2.2.2) else la)) := by
  refine jm_of (by decide) (Nat.le_of_ble_eq_true rfl) ?_
  intro pr en σ mi bel met cd ls A hA C hP hK hD hS hl
  have hx := C.1
  have hb := C.2.1
  have hown := C.2.2.2.1
  have hts := C.2.2.2.2.1
  have hl : lv_has ls 3 [(0, .ref qM), (1, .int (nI (u))), (2, .int (nI (z)))] := hl
  refine lv_aload_n hx hb dd_M_stat_0 rfl (lv_at hl 0 rfl) ?_
  refine lv_aload_n hx hb dd_M_stat_1 rfl (lv_at hl 0 rfl) ?_
  refine lv_iload_n hx hb dd_M_stat_2 rfl (lv_at hl 1 rfl) ?_
  refine jr_callV C (ct_M_badPath l G qM qK qZ qN qB qY qi qo qm qp c1 c2 c3 c4 c5 c6 c7 c8 c9 K Z N B Y I O M P ct wr ofs th pa ey fo la u (by omega)) kl_M_79 ⟨Nat.le_of_ble_eq_true rfl, Nat.le_of_ble_eq_true rfl, rfl, rfl⟩ ⟨Nat.le_of_ble_eq_true rfl, Nat.le_of_ble_eq_true rfl⟩ (hP) (hK) (va_recv hK hP (ci := 4) (q0 := 0) rfl rfl) hl.1 rfl rfl (Nat.le_of_ble_eq_true rfl) dd_M_stat_3 ?_
  have hf_1 : jm_badPath u < 2 := jm_bpL_lt _ _ _
  refine jl_ifne (tgt := 18) hx hb (by omega) dd_M_stat_6 (by decide) (fun c_2 => ?_) (fun c_2 => ?_)
  · skip
    refine lv_iconst (v := nI 1) hx hb dd_M_stat_18 (by decide) ?_
    refine lv_goto (tgt := 42) hx hb dd_M_stat_19 (by decide) ?_
    refine va_put (D := G) (ci := 4) (v := .int (nI (1))) (ty := .int) (C := cn_M) (T := ft_M) (N := 17) hx hb hts uw_M fy_M fo_M fn_M hown hK hP hD hS 0 rfl rfl 12 (by decide) (hts _ tw_605) (fun _ h9 => h9) rfl (by decide +kernel) rfl rfl (Nat.le_of_ble_eq_true rfl) dd_M_stat_42 (fun H locs hP hD hS => ?_)
    have hP : va_P G jcl (wM qM qK qZ qN qB qY qi qo qm qp c1 c2 c3 c4 c5 c6 c7 c8 c9 K Z N B Y I O M P ct wr ofs 1 pa ey fo la) H := hP
    have hD : va_D A (wM qM qK qZ qN qB qY qi qo qm qp c1 c2 c3 c4 c5 c6 c7 c8 c9 K Z N B Y I O M P ct wr ofs 1 pa ey fo la) := hD
    refine lv_aload_n hx hb dd_M_stat_45 rfl (lv_at hl 0 rfl) ?_
    refine va_get (D := G) (ci := 4) (v := .int (nI (1))) (C := cn_M) (T := ft_M) (N := 17) hx hb hts uw_M hown hK hP 0 rfl rfl 12 (by decide) (hts _ tw_605) (fun _ h9 => h9) rfl dd_M_stat_46 ?_
    refine jl_ifeq (tgt := 54) hx hb (by omega) dd_M_stat_49 (by decide) (fun c_3 => ?_) (fun c_3 => ?_)
    · skip
      exact absurd c_3 (by omega)
    · skip
      refine lv_iconst (v := nI 0) hx hb dd_M_stat_52 (by decide) ?_
      have he : wM qM qK qZ qN qB qY qi qo qm qp c1 c2 c3 c4 c5 c6 c7 c8 c9 K Z N B Y I O M P ct wr ofs 1 pa ey fo la = wM qM qK qZ qN qB qY qi qo qm qp c1 c2 c3 c4 c5 c6 c7 c8 c9 K Z N B Y I O M P ct wr ofs (jm_stT K Z Y u z) (if jm_badPath u = 0 then (if 4 < z then pa else (jm_lead K Z Y u).2.1) else pa) (if jm_badPath u = 0 then (if 4 < z then ey else (jm_lead K Z Y u).2.2.1) else ey) (if jm_badPath u = 0 then (if 4 < z then fo else (jm_lead K Z Y u).2.2.2.1) else fo) (if jm_badPath u = 0 then (if 4 < z then la else (jm_lead K Z Y u).2.2.2.2) else la) := by first | with_reducible rfl | (simp [jm_stT, jm_stR, c_2, c_3]; done) | (simp [show 4 < z by omega, jm_stT, jm_stR, c_2, c_3]; done) | (simp [show ¬ 4 < z by omega, jm_stT, jm_stR, c_2, c_3]; done)
      rw [he] at hP hD
      exact jm_reti C (by first | with_reducible rfl | (simp [jm_stT, jm_stR, c_2, c_3]; done) | (simp [show 4 < z by omega, jm_stT, jm_stR, c_2, c_3]; done) | (simp [show ¬ 4 < z by omega, jm_stT, jm_stR, c_2, c_3]; done)) hP hD hK hS ⟨Nat.le_of_ble_eq_true rfl, Nat.le_of_ble_eq_true rfl⟩ dd_M_stat_53
  · skip
    refine lv_iload_n hx hb dd_M_stat_9 rfl (lv_at hl 2 rfl) ?_
    refine jl_iflt32 (tgt := 18) hx hb (by omega) dd_M_stat_10 (by decide) (fun c_4 => ?_) (fun c_4 => ?_)
    · skip
      refine lv_iconst (v := nI 1) hx hb dd_M_stat_18 (by decide) ?_
      refine lv_goto (tgt := 42) hx hb dd_M_stat_19 (by decide) ?_
      refine va_put (D := G) (ci := 4) (v := .int (nI (1))) (ty := .int) (C := cn_M) (T := ft_M) (N := 17) hx hb hts uw_M fy_M fo_M fn_M hown hK hP hD hS 0 rfl rfl 12 (by decide) (hts _ tw_605) (fun _ h9 => h9) rfl (by decide +kernel) rfl rfl (Nat.le_of_ble_eq_true rfl) dd_M_stat_42 (fun H locs hP hD hS => ?_)
      have hP : va_P G jcl (wM qM qK qZ qN qB qY qi qo qm qp c1 c2 c3 c4 c5 c6 c7 c8 c9 K Z N B Y I O M P ct wr ofs 1 pa ey fo la) H := hP
      have hD : va_D A (wM qM qK qZ qN qB qY qi qo qm qp c1 c2 c3 c4 c5 c6 c7 c8 c9 K Z N B Y I O M P ct wr ofs 1 pa ey fo la) := hD
      refine lv_aload_n hx hb dd_M_stat_45 rfl (lv_at hl 0 rfl) ?_
      refine va_get (D := G) (ci := 4) (v := .int (nI (1))) (C := cn_M) (T := ft_M) (N := 17) hx hb hts uw_M hown hK hP 0 rfl rfl 12 (by decide) (hts _ tw_605) (fun _ h9 => h9) rfl dd_M_stat_46 ?_
      refine jl_ifeq (tgt := 54) hx hb (by omega) dd_M_stat_49 (by decide) (fun c_5 => ?_) (fun c_5 => ?_)
      · skip
        exact absurd c_5 (by omega)
      · skip
        refine lv_iconst (v := nI 0) hx hb dd_M_stat_52 (by decide) ?_
        have he : wM qM qK qZ qN qB qY qi qo qm qp c1 c2 c3 c4 c5 c6 c7 c8 c9 K Z N B Y I O M P ct wr ofs 1 pa ey fo la = wM qM qK qZ qN qB qY qi qo qm qp c1 c2 c3 c4 c5 c6 c7 c8 c9 K Z N B Y I O M P ct wr ofs (jm_stT K Z Y u z) (if jm_badPath u = 0 then (if 4 < z then pa else (jm_lead K Z Y u).2.1) else pa) (if jm_badPath u = 0 then (if 4 < z then ey else (jm_lead K Z Y u).2.2.1) else ey) (if jm_badPath u = 0 then (if 4 < z then fo else (jm_lead K Z Y u).2.2.2.1) else fo) (if jm_badPath u = 0 then (if 4 < z then la else (jm_lead K Z Y u).2.2.2.2) else la) := by first | with_reducible rfl | (simp [jm_stT, jm_stR, c_2, c_4, c_5]; done) | (simp [show 4 < z by omega, jm_stT, jm_stR, c_2, c_4, c_5]; done) | (simp [show ¬ 4 < z by omega, jm_stT, jm_stR, c_2, c_4, c_5]; done)
        rw [he] at hP hD
        exact jm_reti C (by first | with_reducible rfl | (simp [jm_stT, jm_stR, c_2, c_4, c_5]; done) | (simp [show 4 < z by omega, jm_stT, jm_stR, c_2, c_4, c_5]; done) | (simp [show ¬ 4 < z by omega, jm_stT, jm_stR, c_2, c_4, c_5]; done)) hP hD hK hS ⟨Nat.le_of_ble_eq_true rfl, Nat.le_of_ble_eq_true rfl⟩ dd_M_stat_53
    · skip
      refine lv_iload_n hx hb dd_M_stat_13 rfl (lv_at hl 2 rfl) ?_
      refine lv_iconst (v := nI 4) hx hb dd_M_stat_14 (by decide) ?_
      refine jl_le (tgt := 22) hx hb (by omega) (by omega) dd_M_stat_15 (by decide) (fun c_6 => ?_) (fun c_6 => ?_)
      · skip
        refine lv_aload_n hx hb dd_M_stat_22 rfl (lv_at hl 0 rfl) ?_
        refine lv_iload_n hx hb dd_M_stat_23 rfl (lv_at hl 1 rfl) ?_
        refine jm_callV (wr := []) C (ct_M_lead l G qM qK qZ qN qB qY qi qo qm qp c1 c2 c3 c4 c5 c6 c7 c8 c9 K Z N B Y I O M P ct wr ofs th pa ey fo la u (by omega) (by assumption) (by assumption) (by assumption) (by assumption)) kl_M_83 ⟨Nat.le_of_ble_eq_true rfl, Nat.le_of_ble_eq_true rfl⟩ ⟨Nat.le_of_ble_eq_true rfl, Nat.le_of_ble_eq_true rfl⟩ hP hD hS hA (hK) (va_recv hK hP (ci := 4) (q0 := 0) rfl rfl) hl.1 rfl rfl (Nat.le_of_ble_eq_true rfl) dd_M_stat_24 (fun H locs hP hD hS => ?_)
        have hP : va_P G jcl (wM qM qK qZ qN qB qY qi qo qm qp c1 c2 c3 c4 c5 c6 c7 c8 c9 K Z N B Y I O M P ct wr ofs th ((jm_lead K Z Y u).2.1) ((jm_lead K Z Y u).2.2.1) ((jm_lead K Z Y u).2.2.2.1) ((jm_lead K Z Y u).2.2.2.2)) H := hP
        have hD : va_D A (wM qM qK qZ qN qB qY qi qo qm qp c1 c2 c3 c4 c5 c6 c7 c8 c9 K Z N B Y I O M P ct wr ofs th ((jm_lead K Z Y u).2.1) ((jm_lead K Z Y u).2.2.1) ((jm_lead K Z Y u).2.2.2.1) ((jm_lead K Z Y u).2.2.2.2)) := hD
        have hf_7 : (jm_lead K Z Y u).1 < 2 := jm_lead_lt (by assumption) _
        have hf_8 : (jm_lead K Z Y u).2.2.2.2 < 256 := jm_lead_la (by assumption) _
        refine jl_ifeq (tgt := 37) hx hb (by omega) dd_M_stat_27 (by decide) (fun c_9 => ?_) (fun c_9 => ?_)
        · skip
          refine lv_iconst (v := nI 2) hx hb dd_M_stat_37 (by decide) ?_
          refine lv_goto (tgt := 42) hx hb dd_M_stat_38 (by decide) ?_
          refine va_put (D := G) (ci := 4) (v := .int (nI (2))) (ty := .int) (C := cn_M) (T := ft_M) (N := 17) hx hb hts uw_M fy_M fo_M fn_M hown hK hP hD hS 0 rfl rfl 12 (by decide) (hts _ tw_605) (fun _ h9 => h9) rfl (by decide +kernel) rfl rfl (Nat.le_of_ble_eq_true rfl) dd_M_stat_42 (fun H locs hP hD hS => ?_)
          have hP : va_P G jcl (wM qM qK qZ qN qB qY qi qo qm qp c1 c2 c3 c4 c5 c6 c7 c8 c9 K Z N B Y I O M P ct wr ofs 2 ((jm_lead K Z Y u).2.1) ((jm_lead K Z Y u).2.2.1) ((jm_lead K Z Y u).2.2.2.1) ((jm_lead K Z Y u).2.2.2.2)) H := hP
          have hD : va_D A (wM qM qK qZ qN qB qY qi qo qm qp c1 c2 c3 c4 c5 c6 c7 c8 c9 K Z N B Y I O M P ct wr ofs 2 ((jm_lead K Z Y u).2.1) ((jm_lead K Z Y u).2.2.1) ((jm_lead K Z Y u).2.2.2.1) ((jm_lead K Z Y u).2.2.2.2)) := hD
          refine lv_aload_n hx hb dd_M_stat_45 rfl (lv_at hl 0 rfl) ?_
          refine va_get (D := G) (ci := 4) (v := .int (nI (2))) (C := cn_M) (T := ft_M) (N := 17) hx hb hts uw_M hown hK hP 0 rfl rfl 12 (by decide) (hts _ tw_605) (fun _ h9 => h9) rfl dd_M_stat_46 ?_
          refine jl_ifeq (tgt := 54) hx hb (by omega) dd_M_stat_49 (by decide) (fun c_10 => ?_) (fun c_10 => ?_)
          · skip
            exact absurd c_10 (by omega)
          · skip
            refine lv_iconst (v := nI 0) hx hb dd_M_stat_52 (by decide) ?_
            have he : wM qM qK qZ qN qB qY qi qo qm qp c1 c2 c3 c4 c5 c6 c7 c8 c9 K Z N B Y I O M P ct wr ofs 2 ((jm_lead K Z Y u).2.1) ((jm_lead K Z Y u).2.2.1) ((jm_lead K Z Y u).2.2.2.1) ((jm_lead K Z Y u).2.2.2.2) = wM qM qK qZ qN qB qY qi qo qm qp c1 c2 c3 c4 c5 c6 c7 c8 c9 K Z N B Y I O M P ct wr ofs (jm_stT K Z Y u z) (if jm_badPath u = 0 then (if 4 < z then pa else (jm_lead K Z Y u).2.1) else pa) (if jm_badPath u = 0 then (if 4 < z then ey else (jm_lead K Z Y u).2.2.1) else ey) (if jm_badPath u = 0 then (if 4 < z then fo else (jm_lead K Z Y u).2.2.2.1) else fo) (if jm_badPath u = 0 then (if 4 < z then la else (jm_lead K Z Y u).2.2.2.2) else la) := by first | with_reducible rfl | (simp [jm_stT, jm_stR, c_2, c_4, c_6, c_9, c_10]; done) | (simp [show 4 < z by omega, jm_stT, jm_stR, c_2, c_4, c_6, c_9, c_10]; done) | (simp [show ¬ 4 < z by omega, jm_stT, jm_stR, c_2, c_4, c_6, c_9, c_10]; done)
            rw [he] at hP hD
            exact jm_reti C (by first | with_reducible rfl | (simp [jm_stT, jm_stR, c_2, c_4, c_6, c_9, c_10]; done) | (simp [show 4 < z by omega, jm_stT, jm_stR, c_2, c_4, c_6, c_9, c_10]; done) | (simp [show ¬ 4 < z by omega, jm_stT, jm_stR, c_2, c_4, c_6, c_9, c_10]; done)) hP hD hK hS ⟨Nat.le_of_ble_eq_true rfl, Nat.le_of_ble_eq_true rfl⟩ dd_M_stat_53
        · skip
          refine lv_aload_n hx hb dd_M_stat_30 rfl (lv_at hl 0 rfl) ?_
          refine va_get (D := G) (ci := 4) (v := .int (jo ((jm_lead K Z Y u).2.2.2.1))) (C := cn_M) (T := ft_M) (N := 17) hx hb hts uw_M hown hK hP 0 rfl rfl 15 (by decide) (hts _ tw_608) (fun _ h9 => h9) rfl dd_M_stat_31 ?_
          refine jl_ifgeO (tgt := 41) hx hb (fun j h => Nat.lt_of_lt_of_le (jm_lead_fo (by assumption) h) (by omega)) dd_M_stat_34 (by decide) (fun j_12 hj_12 => ?_) (fun hj_12 => ?_)
          · skip
            have ho_13 := jm_lead_fo (by assumption) hj_12
            rw [hj_12] at hP hD
            have hP : va_P G jcl (wM qM qK qZ qN qB qY qi qo qm qp c1 c2 c3 c4 c5 c6 c7 c8 c9 K Z N B Y I O M P ct wr ofs th ((jm_lead K Z Y u).2.1) ((jm_lead K Z Y u).2.2.1) (some j_12) ((jm_lead K Z Y u).2.2.2.2)) H := hP
            have hD : va_D A (wM qM qK qZ qN qB qY qi qo qm qp c1 c2 c3 c4 c5 c6 c7 c8 c9 K Z N B Y I O M P ct wr ofs th ((jm_lead K Z Y u).2.1) ((jm_lead K Z Y u).2.2.1) (some j_12) ((jm_lead K Z Y u).2.2.2.2)) := hD
            refine lv_iconst (v := nI 0) hx hb dd_M_stat_41 (by decide) ?_
            refine va_put (D := G) (ci := 4) (v := .int (nI (0))) (ty := .int) (C := cn_M) (T := ft_M) (N := 17) hx hb hts uw_M fy_M fo_M fn_M hown hK hP hD hS 0 rfl rfl 12 (by decide) (hts _ tw_605) (fun _ h9 => h9) rfl (by decide +kernel) rfl rfl (Nat.le_of_ble_eq_true rfl) dd_M_stat_42 (fun H locs hP hD hS => ?_)
            have hP : va_P G jcl (wM qM qK qZ qN qB qY qi qo qm qp c1 c2 c3 c4 c5 c6 c7 c8 c9 K Z N B Y I O M P ct wr ofs 0 ((jm_lead K Z Y u).2.1) ((jm_lead K Z Y u).2.2.1) (some j_12) ((jm_lead K Z Y u).2.2.2.2)) H := hP
            have hD : va_D A (wM qM qK qZ qN qB qY qi qo qm qp c1 c2 c3 c4 c5 c6 c7 c8 c9 K Z N B Y I O M P ct wr ofs 0 ((jm_lead K Z Y u).2.1) ((jm_lead K Z Y u).2.2.1) (some j_12) ((jm_lead K Z Y u).2.2.2.2)) := hD
            refine lv_aload_n hx hb dd_M_stat_45 rfl (lv_at hl 0 rfl) ?_
            refine va_get (D := G) (ci := 4) (v := .int (nI (0))) (C := cn_M) (T := ft_M) (N := 17) hx hb hts uw_M hown hK hP 0 rfl rfl 12 (by decide) (hts _ tw_605) (fun _ h9 => h9) rfl dd_M_stat_46 ?_
            refine jl_ifeq (tgt := 54) hx hb (by omega) dd_M_stat_49 (by decide) (fun c_14 => ?_) (fun c_14 => ?_)
            · skip
              refine lv_iload_n hx hb dd_M_stat_54 rfl (lv_at hl 2 rfl) ?_
              refine jl_ifne32 (tgt := 68) hx hb (by omega) dd_M_stat_55 (by decide) (fun c_15 => ?_) (fun c_15 => ?_)
              · skip
                refine lv_iload_n hx hb dd_M_stat_68 rfl (lv_at hl 2 rfl) ?_
                refine lv_iconst (v := nI 1) hx hb dd_M_stat_69 (by decide) ?_
                refine jl_ne32 (tgt := 83) hx hb (by omega) (by omega) dd_M_stat_70 (by decide) (fun c_16 => ?_) (fun c_16 => ?_)
                · skip
                  refine lv_iload_n hx hb dd_M_stat_83 rfl (lv_at hl 2 rfl) ?_
                  refine lv_iconst (v := nI 2) hx hb dd_M_stat_84 (by decide) ?_
                  refine jl_ne32 (tgt := 93) hx hb (by omega) (by omega) dd_M_stat_85 (by decide) (fun c_17 => ?_) (fun c_17 => ?_)
                  · skip
                    refine lv_iload_n hx hb dd_M_stat_93 rfl (lv_at hl 2 rfl) ?_
                    refine lv_iconst (v := nI 3) hx hb dd_M_stat_94 (by decide) ?_
                    refine jl_ne32 (tgt := 108) hx hb (by omega) (by omega) dd_M_stat_95 (by decide) (fun c_18 => ?_) (fun c_18 => ?_)
                    · skip
                      refine lv_aload_n hx hb dd_M_stat_108 rfl (lv_at hl 0 rfl) ?_
                      refine va_get (D := G) (ci := 4) (v := .ref qK) (C := cn_M) (T := ft_M) (N := 17) hx hb hts uw_M hown hK hP 0 rfl rfl 0 (by decide) (hts _ tw_593) (fun _ h9 => h9) rfl dd_M_stat_109 ?_
                      refine lv_aload_n hx hb dd_M_stat_112 rfl (lv_at hl 0 rfl) ?_
                      refine va_get (D := G) (ci := 4) (v := .int (nI (j_12))) (C := cn_M) (T := ft_M) (N := 17) hx hb hts uw_M hown hK hP 0 rfl rfl 15 (by decide) (hts _ tw_608) (fun _ h9 => h9) rfl dd_M_stat_113 ?_
                      refine va_iald hx hb hK hP 1 0 rfl rfl (vp_in_nI (by omega) (by decide)) dd_M_stat_116 ?_
                      refine jl_top (jn_at (K) (by omega)) ?_
                      have hf_19 : K j_12 < 3 := (by assumption : jlt 3 K) _
                      refine lv_iconst (v := nI 2) hx hb dd_M_stat_117 (by decide) ?_
                      refine jl_ne (tgt := 135) hx hb (by omega) (by omega) dd_M_stat_118 (by decide) (fun c_20 => ?_) (fun c_20 => ?_)
                      · skip
                        refine lv_iconst (v := nI 0) hx hb dd_M_stat_135 (by decide) ?_
                        have he : wM qM qK qZ qN qB qY qi qo qm qp c1 c2 c3 c4 c5 c6 c7 c8 c9 K Z N B Y I O M P ct wr ofs 0 ((jm_lead K Z Y u).2.1) ((jm_lead K Z Y u).2.2.1) (some j_12) ((jm_lead K Z Y u).2.2.2.2) = wM qM qK qZ qN qB qY qi qo qm qp c1 c2 c3 c4 c5 c6 c7 c8 c9 K Z N B Y I O M P ct wr ofs (jm_stT K Z Y u z) (if jm_badPath u = 0 then (if 4 < z then pa else (jm_lead K Z Y u).2.1) else pa) (if jm_badPath u = 0 then (if 4 < z then ey else (jm_lead K Z Y u).2.2.1) else ey) (if jm_badPath u = 0 then (if 4 < z then fo else (jm_lead K Z Y u).2.2.2.1) else fo) (if jm_badPath u = 0 then (if 4 < z then la else (jm_lead K Z Y u).2.2.2.2) else la) := by first | with_reducible rfl | (simp [jm_stT, jm_stR, c_2, c_4, c_6, c_9, hj_12, c_14, c_15, c_16, c_17, c_18, c_20]; done) | (simp [show 4 < z by omega, jm_stT, jm_stR, c_2, c_4, c_6, c_9, hj_12, c_14, c_15, c_16, c_17, c_18, c_20]; done) | (simp [show ¬ 4 < z by omega, jm_stT, jm_stR, c_2, c_4, c_6, c_9, hj_12, c_14, c_15, c_16, c_17, c_18, c_20]; done)
                        rw [he] at hP hD
                        exact jm_reti C (by first | with_reducible rfl | (simp [jm_stT, jm_stR, c_2, c_4, c_6, c_9, hj_12, c_14, c_15, c_16, c_17, c_18, c_20]; done) | (simp [show 4 < z by omega, jm_stT, jm_stR, c_2, c_4, c_6, c_9, hj_12, c_14, c_15, c_16, c_17, c_18, c_20]; done) | (simp [show ¬ 4 < z by omega, jm_stT, jm_stR, c_2, c_4, c_6, c_9, hj_12, c_14, c_15, c_16, c_17, c_18, c_20]; done)) hP hD hK hS ⟨Nat.le_of_ble_eq_true rfl, Nat.le_of_ble_eq_true rfl⟩ dd_M_stat_136
                      · skip
                        refine lv_aload_n hx hb dd_M_stat_121 rfl (lv_at hl 0 rfl) ?_
                        refine va_get (D := G) (ci := 4) (v := .ref qZ) (C := cn_M) (T := ft_M) (N := 17) hx hb hts uw_M hown hK hP 0 rfl rfl 1 (by decide) (hts _ tw_594) (fun _ h9 => h9) rfl dd_M_stat_122 ?_
                        refine lv_aload_n hx hb dd_M_stat_125 rfl (lv_at hl 0 rfl) ?_
                        refine va_get (D := G) (ci := 4) (v := .int (nI (j_12))) (C := cn_M) (T := ft_M) (N := 17) hx hb hts uw_M hown hK hP 0 rfl rfl 15 (by decide) (hts _ tw_608) (fun _ h9 => h9) rfl dd_M_stat_126 ?_
                        refine va_iald hx hb hK hP 2 1 rfl rfl (vp_in_nI (by omega) (by decide)) dd_M_stat_129 ?_
                        refine jl_top (jn_at (Z) (by omega)) ?_
                        have hf_21 : Z j_12 < 65 := (by assumption : jlt 65 Z) _
                        refine lv_iconst (v := nI 2) hx hb dd_M_stat_130 (by decide) ?_
                        refine jl_idiv hx hb (by omega) (by decide) (by decide) dd_M_stat_131 ?_
                        refine lv_goto (tgt := 136) hx hb dd_M_stat_132 (by decide) ?_
                        have he : wM qM qK qZ qN qB qY qi qo qm qp c1 c2 c3 c4 c5 c6 c7 c8 c9 K Z N B Y I O M P ct wr ofs 0 ((jm_lead K Z Y u).2.1) ((jm_lead K Z Y u).2.2.1) (some j_12) ((jm_lead K Z Y u).2.2.2.2) = wM qM qK qZ qN qB qY qi qo qm qp c1 c2 c3 c4 c5 c6 c7 c8 c9 K Z N B Y I O M P ct wr ofs (jm_stT K Z Y u z) (if jm_badPath u = 0 then (if 4 < z then pa else (jm_lead K Z Y u).2.1) else pa) (if jm_badPath u = 0 then (if 4 < z then ey else (jm_lead K Z Y u).2.2.1) else ey) (if jm_badPath u = 0 then (if 4 < z then fo else (jm_lead K Z Y u).2.2.2.1) else fo) (if jm_badPath u = 0 then (if 4 < z then la else (jm_lead K Z Y u).2.2.2.2) else la) := by first | with_reducible rfl | (simp [jm_stT, jm_stR, c_2, c_4, c_6, c_9, hj_12, c_14, c_15, c_16, c_17, c_18, c_20]; done) | (simp [show 4 < z by omega, jm_stT, jm_stR, c_2, c_4, c_6, c_9, hj_12, c_14, c_15, c_16, c_17, c_18, c_20]; done) | (simp [show ¬ 4 < z by omega, jm_stT, jm_stR, c_2, c_4, c_6, c_9, hj_12, c_14, c_15, c_16, c_17, c_18, c_20]; done)
                        rw [he] at hP hD
                        exact jm_reti C (by first | with_reducible rfl | (simp [jm_stT, jm_stR, c_2, c_4, c_6, c_9, hj_12, c_14, c_15, c_16, c_17, c_18, c_20]; done) | (simp [show 4 < z by omega, jm_stT, jm_stR, c_2, c_4, c_6, c_9, hj_12, c_14, c_15, c_16, c_17, c_18, c_20]; done) | (simp [show ¬ 4 < z by omega, jm_stT, jm_stR, c_2, c_4, c_6, c_9, hj_12, c_14, c_15, c_16, c_17, c_18, c_20]; done)) hP hD hK hS ⟨Nat.le_of_ble_eq_true rfl, Nat.le_of_ble_eq_true rfl⟩ dd_M_stat_136
                    · skip
                      refine lv_aload_n hx hb dd_M_stat_98 rfl (lv_at hl 0 rfl) ?_
                      refine va_get (D := G) (ci := 4) (v := .ref qN) (C := cn_M) (T := ft_M) (N := 17) hx hb hts uw_M hown hK hP 0 rfl rfl 2 (by decide) (hts _ tw_595) (fun _ h9 => h9) rfl dd_M_stat_99 ?_
                      refine lv_aload_n hx hb dd_M_stat_102 rfl (lv_at hl 0 rfl) ?_
                      refine va_get (D := G) (ci := 4) (v := .int (nI (j_12))) (C := cn_M) (T := ft_M) (N := 17) hx hb hts uw_M hown hK hP 0 rfl rfl 15 (by decide) (hts _ tw_608) (fun _ h9 => h9) rfl dd_M_stat_103 ?_
                      refine va_iald hx hb hK hP 3 2 rfl rfl (vp_in_nI (by omega) (by decide)) dd_M_stat_106 ?_
                      refine jl_top (jn_at (N) (by omega)) ?_
                      have hf_22 : N j_12 < 256 := (by assumption : jlt 256 N) _
                      have he : wM qM qK qZ qN qB qY qi qo qm qp c1 c2 c3 c4 c5 c6 c7 c8 c9 K Z N B Y I O M P ct wr ofs 0 ((jm_lead K Z Y u).2.1) ((jm_lead K Z Y u).2.2.1) (some j_12) ((jm_lead K Z Y u).2.2.2.2) = wM qM qK qZ qN qB qY qi qo qm qp c1 c2 c3 c4 c5 c6 c7 c8 c9 K Z N B Y I O M P ct wr ofs (jm_stT K Z Y u z) (if jm_badPath u = 0 then (if 4 < z then pa else (jm_lead K Z Y u).2.1) else pa) (if jm_badPath u = 0 then (if 4 < z then ey else (jm_lead K Z Y u).2.2.1) else ey) (if jm_badPath u = 0 then (if 4 < z then fo else (jm_lead K Z Y u).2.2.2.1) else fo) (if jm_badPath u = 0 then (if 4 < z then la else (jm_lead K Z Y u).2.2.2.2) else la) := by first | with_reducible rfl | (simp [jm_stT, jm_stR, c_2, c_4, c_6, c_9, hj_12, c_14, c_15, c_16, c_17, c_18]; done) | (simp [show 4 < z by omega, jm_stT, jm_stR, c_2, c_4, c_6, c_9, hj_12, c_14, c_15, c_16, c_17, c_18]; done) | (simp [show ¬ 4 < z by omega, jm_stT, jm_stR, c_2, c_4, c_6, c_9, hj_12, c_14, c_15, c_16, c_17, c_18]; done)
                      rw [he] at hP hD
                      exact jm_reti C (by first | with_reducible rfl | (simp [jm_stT, jm_stR, c_2, c_4, c_6, c_9, hj_12, c_14, c_15, c_16, c_17, c_18]; done) | (simp [show 4 < z by omega, jm_stT, jm_stR, c_2, c_4, c_6, c_9, hj_12, c_14, c_15, c_16, c_17, c_18]; done) | (simp [show ¬ 4 < z by omega, jm_stT, jm_stR, c_2, c_4, c_6, c_9, hj_12, c_14, c_15, c_16, c_17, c_18]; done)) hP hD hK hS ⟨Nat.le_of_ble_eq_true rfl, Nat.le_of_ble_eq_true rfl⟩ dd_M_stat_107
                  · skip
                    refine lv_aload_n hx hb dd_M_stat_88 rfl (lv_at hl 0 rfl) ?_
                    refine va_get (D := G) (ci := 4) (v := .int (nI (j_12))) (C := cn_M) (T := ft_M) (N := 17) hx hb hts uw_M hown hK hP 0 rfl rfl 15 (by decide) (hts _ tw_608) (fun _ h9 => h9) rfl dd_M_stat_89 ?_
                    have he : wM qM qK qZ qN qB qY qi qo qm qp c1 c2 c3 c4 c5 c6 c7 c8 c9 K Z N B Y I O M P ct wr ofs 0 ((jm_lead K Z Y u).2.1) ((jm_lead K Z Y u).2.2.1) (some j_12) ((jm_lead K Z Y u).2.2.2.2) = wM qM qK qZ qN qB qY qi qo qm qp c1 c2 c3 c4 c5 c6 c7 c8 c9 K Z N B Y I O M P ct wr ofs (jm_stT K Z Y u z) (if jm_badPath u = 0 then (if 4 < z then pa else (jm_lead K Z Y u).2.1) else pa) (if jm_badPath u = 0 then (if 4 < z then ey else (jm_lead K Z Y u).2.2.1) else ey) (if jm_badPath u = 0 then (if 4 < z then fo else (jm_lead K Z Y u).2.2.2.1) else fo) (if jm_badPath u = 0 then (if 4 < z then la else (jm_lead K Z Y u).2.2.2.2) else la) := by first | with_reducible rfl | (simp [jm_stT, jm_stR, c_2, c_4, c_6, c_9, hj_12, c_14, c_15, c_16, c_17]; done) | (simp [show 4 < z by omega, jm_stT, jm_stR, c_2, c_4, c_6, c_9, hj_12, c_14, c_15, c_16, c_17]; done) | (simp [show ¬ 4 < z by omega, jm_stT, jm_stR, c_2, c_4, c_6, c_9, hj_12, c_14, c_15, c_16, c_17]; done)
                    rw [he] at hP hD
                    exact jm_reti C (by first | with_reducible rfl | (simp [jm_stT, jm_stR, c_2, c_4, c_6, c_9, hj_12, c_14, c_15, c_16, c_17]; done) | (simp [show 4 < z by omega, jm_stT, jm_stR, c_2, c_4, c_6, c_9, hj_12, c_14, c_15, c_16, c_17]; done) | (simp [show ¬ 4 < z by omega, jm_stT, jm_stR, c_2, c_4, c_6, c_9, hj_12, c_14, c_15, c_16, c_17]; done)) hP hD hK hS ⟨Nat.le_of_ble_eq_true rfl, Nat.le_of_ble_eq_true rfl⟩ dd_M_stat_92
                · skip
                  refine lv_aload_n hx hb dd_M_stat_73 rfl (lv_at hl 0 rfl) ?_
                  refine va_get (D := G) (ci := 4) (v := .ref qZ) (C := cn_M) (T := ft_M) (N := 17) hx hb hts uw_M hown hK hP 0 rfl rfl 1 (by decide) (hts _ tw_594) (fun _ h9 => h9) rfl dd_M_stat_74 ?_
                  refine lv_aload_n hx hb dd_M_stat_77 rfl (lv_at hl 0 rfl) ?_
                  refine va_get (D := G) (ci := 4) (v := .int (nI (j_12))) (C := cn_M) (T := ft_M) (N := 17) hx hb hts uw_M hown hK hP 0 rfl rfl 15 (by decide) (hts _ tw_608) (fun _ h9 => h9) rfl dd_M_stat_78 ?_
                  refine va_iald hx hb hK hP 2 1 rfl rfl (vp_in_nI (by omega) (by decide)) dd_M_stat_81 ?_
                  refine jl_top (jn_at (Z) (by omega)) ?_
                  have hf_23 : Z j_12 < 65 := (by assumption : jlt 65 Z) _
                  have he : wM qM qK qZ qN qB qY qi qo qm qp c1 c2 c3 c4 c5 c6 c7 c8 c9 K Z N B Y I O M P ct wr ofs 0 ((jm_lead K Z Y u).2.1) ((jm_lead K Z Y u).2.2.1) (some j_12) ((jm_lead K Z Y u).2.2.2.2) = wM qM qK qZ qN qB qY qi qo qm qp c1 c2 c3 c4 c5 c6 c7 c8 c9 K Z N B Y I O M P ct wr ofs (jm_stT K Z Y u z) (if jm_badPath u = 0 then (if 4 < z then pa else (jm_lead K Z Y u).2.1) else pa) (if jm_badPath u = 0 then (if 4 < z then ey else (jm_lead K Z Y u).2.2.1) else ey) (if jm_badPath u = 0 then (if 4 < z then fo else (jm_lead K Z Y u).2.2.2.1) else fo) (if jm_badPath u = 0 then (if 4 < z then la else (jm_lead K Z Y u).2.2.2.2) else la) := by first | with_reducible rfl | (simp [jm_stT, jm_stR, c_2, c_4, c_6, c_9, hj_12, c_14, c_15, c_16]; done) | (simp [show 4 < z by omega, jm_stT, jm_stR, c_2, c_4, c_6, c_9, hj_12, c_14, c_15, c_16]; done) | (simp [show ¬ 4 < z by omega, jm_stT, jm_stR, c_2, c_4, c_6, c_9, hj_12, c_14, c_15, c_16]; done)
                  rw [he] at hP hD
                  exact jm_reti C (by first | with_reducible rfl | (simp [jm_stT, jm_stR, c_2, c_4, c_6, c_9, hj_12, c_14, c_15, c_16]; done) | (simp [show 4 < z by omega, jm_stT, jm_stR, c_2, c_4, c_6, c_9, hj_12, c_14, c_15, c_16]; done) | (simp [show ¬ 4 < z by omega, jm_stT, jm_stR, c_2, c_4, c_6, c_9, hj_12, c_14, c_15, c_16]; done)) hP hD hK hS ⟨Nat.le_of_ble_eq_true rfl, Nat.le_of_ble_eq_true rfl⟩ dd_M_stat_82
              · skip
                refine lv_aload_n hx hb dd_M_stat_58 rfl (lv_at hl 0 rfl) ?_
                refine va_get (D := G) (ci := 4) (v := .ref qK) (C := cn_M) (T := ft_M) (N := 17) hx hb hts uw_M hown hK hP 0 rfl rfl 0 (by decide) (hts _ tw_593) (fun _ h9 => h9) rfl dd_M_stat_59 ?_
                refine lv_aload_n hx hb dd_M_stat_62 rfl (lv_at hl 0 rfl) ?_
                refine va_get (D := G) (ci := 4) (v := .int (nI (j_12))) (C := cn_M) (T := ft_M) (N := 17) hx hb hts uw_M hown hK hP 0 rfl rfl 15 (by decide) (hts _ tw_608) (fun _ h9 => h9) rfl dd_M_stat_63 ?_
                refine va_iald hx hb hK hP 1 0 rfl rfl (vp_in_nI (by omega) (by decide)) dd_M_stat_66 ?_
                refine jl_top (jn_at (K) (by omega)) ?_
                have hf_24 : K j_12 < 3 := (by assumption : jlt 3 K) _
                have he : wM qM qK qZ qN qB qY qi qo qm qp c1 c2 c3 c4 c5 c6 c7 c8 c9 K Z N B Y I O M P ct wr ofs 0 ((jm_lead K Z Y u).2.1) ((jm_lead K Z Y u).2.2.1) (some j_12) ((jm_lead K Z Y u).2.2.2.2) = wM qM qK qZ qN qB qY qi qo qm qp c1 c2 c3 c4 c5 c6 c7 c8 c9 K Z N B Y I O M P ct wr ofs (jm_stT K Z Y u z) (if jm_badPath u = 0 then (if 4 < z then pa else (jm_lead K Z Y u).2.1) else pa) (if jm_badPath u = 0 then (if 4 < z then ey else (jm_lead K Z Y u).2.2.1) else ey) (if jm_badPath u = 0 then (if 4 < z then fo else (jm_lead K Z Y u).2.2.2.1) else fo) (if jm_badPath u = 0 then (if 4 < z then la else (jm_lead K Z Y u).2.2.2.2) else la) := by first | with_reducible rfl | (simp [jm_stT, jm_stR, c_2, c_4, c_6, c_9, hj_12, c_14, c_15]; done) | (simp [show 4 < z by omega, jm_stT, jm_stR, c_2, c_4, c_6, c_9, hj_12, c_14, c_15]; done) | (simp [show ¬ 4 < z by omega, jm_stT, jm_stR, c_2, c_4, c_6, c_9, hj_12, c_14, c_15]; done)
                rw [he] at hP hD
                exact jm_reti C (by first | with_reducible rfl | (simp [jm_stT, jm_stR, c_2, c_4, c_6, c_9, hj_12, c_14, c_15]; done) | (simp [show 4 < z by omega, jm_stT, jm_stR, c_2, c_4, c_6, c_9, hj_12, c_14, c_15]; done) | (simp [show ¬ 4 < z by omega, jm_stT, jm_stR, c_2, c_4, c_6, c_9, hj_12, c_14, c_15]; done)) hP hD hK hS ⟨Nat.le_of_ble_eq_true rfl, Nat.le_of_ble_eq_true rfl⟩ dd_M_stat_67
            · skip
              exact absurd c_14 (by omega)
          · skip
            rw [hj_12] at hP hD
            have hP : va_P G jcl (wM qM qK qZ qN qB qY qi qo qm qp c1 c2 c3 c4 c5 c6 c7 c8 c9 K Z N B Y I O M P ct wr ofs th ((jm_lead K Z Y u).2.1) ((jm_lead K Z Y u).2.2.1) none ((jm_lead K Z Y u).2.2.2.2)) H := hP
            have hD : va_D A (wM qM qK qZ qN qB qY qi qo qm qp c1 c2 c3 c4 c5 c6 c7 c8 c9 K Z N B Y I O M P ct wr ofs th ((jm_lead K Z Y u).2.1) ((jm_lead K Z Y u).2.2.1) none ((jm_lead K Z Y u).2.2.2.2)) := hD
            refine lv_iconst (v := nI 2) hx hb dd_M_stat_37 (by decide) ?_
            refine lv_goto (tgt := 42) hx hb dd_M_stat_38 (by decide) ?_
            refine va_put (D := G) (ci := 4) (v := .int (nI (2))) (ty := .int) (C := cn_M) (T := ft_M) (N := 17) hx hb hts uw_M fy_M fo_M fn_M hown hK hP hD hS 0 rfl rfl 12 (by decide) (hts _ tw_605) (fun _ h9 => h9) rfl (by decide +kernel) rfl rfl (Nat.le_of_ble_eq_true rfl) dd_M_stat_42 (fun H locs hP hD hS => ?_)
            have hP : va_P G jcl (wM qM qK qZ qN qB qY qi qo qm qp c1 c2 c3 c4 c5 c6 c7 c8 c9 K Z N B Y I O M P ct wr ofs 2 ((jm_lead K Z Y u).2.1) ((jm_lead K Z Y u).2.2.1) none ((jm_lead K Z Y u).2.2.2.2)) H := hP
            have hD : va_D A (wM qM qK qZ qN qB qY qi qo qm qp c1 c2 c3 c4 c5 c6 c7 c8 c9 K Z N B Y I O M P ct wr ofs 2 ((jm_lead K Z Y u).2.1) ((jm_lead K Z Y u).2.2.1) none ((jm_lead K Z Y u).2.2.2.2)) := hD
            refine lv_aload_n hx hb dd_M_stat_45 rfl (lv_at hl 0 rfl) ?_
            refine va_get (D := G) (ci := 4) (v := .int (nI (2))) (C := cn_M) (T := ft_M) (N := 17) hx hb hts uw_M hown hK hP 0 rfl rfl 12 (by decide) (hts _ tw_605) (fun _ h9 => h9) rfl dd_M_stat_46 ?_
            refine jl_ifeq (tgt := 54) hx hb (by omega) dd_M_stat_49 (by decide) (fun c_25 => ?_) (fun c_25 => ?_)
            · skip
              exact absurd c_25 (by omega)
            · skip
              refine lv_iconst (v := nI 0) hx hb dd_M_stat_52 (by decide) ?_
              have he : wM qM qK qZ qN qB qY qi qo qm qp c1 c2 c3 c4 c5 c6 c7 c8 c9 K Z N B Y I O M P ct wr ofs 2 ((jm_lead K Z Y u).2.1) ((jm_lead K Z Y u).2.2.1) none ((jm_lead K Z Y u).2.2.2.2) = wM qM qK qZ qN qB qY qi qo qm qp c1 c2 c3 c4 c5 c6 c7 c8 c9 K Z N B Y I O M P ct wr ofs (jm_stT K Z Y u z) (if jm_badPath u = 0 then (if 4 < z then pa else (jm_lead K Z Y u).2.1) else pa) (if jm_badPath u = 0 then (if 4 < z then ey else (jm_lead K Z Y u).2.2.1) else ey) (if jm_badPath u = 0 then (if 4 < z then fo else (jm_lead K Z Y u).2.2.2.1) else fo) (if jm_badPath u = 0 then (if 4 < z then la else (jm_lead K Z Y u).2.2.2.2) else la) := by first | with_reducible rfl | (simp [jm_stT, jm_stR, c_2, c_4, c_6, c_9, hj_12, c_25]; done) | (simp [show 4 < z by omega, jm_stT, jm_stR, c_2, c_4, c_6, c_9, hj_12, c_25]; done) | (simp [show ¬ 4 < z by omega, jm_stT, jm_stR, c_2, c_4, c_6, c_9, hj_12, c_25]; done)
              rw [he] at hP hD
              exact jm_reti C (by first | with_reducible rfl | (simp [jm_stT, jm_stR, c_2, c_4, c_6, c_9, hj_12, c_25]; done) | (simp [show 4 < z by omega, jm_stT, jm_stR, c_2, c_4, c_6, c_9, hj_12, c_25]; done) | (simp [show ¬ 4 < z by omega, jm_stT, jm_stR, c_2, c_4, c_6, c_9, hj_12, c_25]; done)) hP hD hK hS ⟨Nat.le_of_ble_eq_true rfl, Nat.le_of_ble_eq_true rfl⟩ dd_M_stat_53
      · skip
        refine lv_iconst (v := nI 1) hx hb dd_M_stat_18 (by decide) ?_
        refine lv_goto (tgt := 42) hx hb dd_M_stat_19 (by decide) ?_
        refine va_put (D := G) (ci := 4) (v := .int (nI (1))) (ty := .int) (C := cn_M) (T := ft_M) (N := 17) hx hb hts uw_M fy_M fo_M fn_M hown hK hP hD hS 0 rfl rfl 12 (by decide) (hts _ tw_605) (fun _ h9 => h9) rfl (by decide +kernel) rfl rfl (Nat.le_of_ble_eq_true rfl) dd_M_stat_42 (fun H locs hP hD hS => ?_)
        have hP : va_P G jcl (wM qM qK qZ qN qB qY qi qo qm qp c1 c2 c3 c4 c5 c6 c7 c8 c9 K Z N B Y I O M P ct wr ofs 1 pa ey fo la) H := hP
        have hD : va_D A (wM qM qK qZ qN qB qY qi qo qm qp c1 c2 c3 c4 c5 c6 c7 c8 c9 K Z N B Y I O M P ct wr ofs 1 pa ey fo la) := hD
        refine lv_aload_n hx hb dd_M_stat_45 rfl (lv_at hl 0 rfl) ?_
        refine va_get (D := G) (ci := 4) (v := .int (nI (1))) (C := cn_M) (T := ft_M) (N := 17) hx hb hts uw_M hown hK hP 0 rfl rfl 12 (by decide) (hts _ tw_605) (fun _ h9 => h9) rfl dd_M_stat_46 ?_
        refine jl_ifeq (tgt := 54) hx hb (by omega) dd_M_stat_49 (by decide) (fun c_26 => ?_) (fun c_26 => ?_)
        · skip
          exact absurd c_26 (by omega)
        · skip
          refine lv_iconst (v := nI 0) hx hb dd_M_stat_52 (by decide) ?_
          have he : wM qM qK qZ qN qB qY qi qo qm qp c1 c2 c3 c4 c5 c6 c7 c8 c9 K Z N B Y I O M P ct wr ofs 1 pa ey fo la = wM qM qK qZ qN qB qY qi qo qm qp c1 c2 c3 c4 c5 c6 c7 c8 c9 K Z N B Y I O M P ct wr ofs (jm_stT K Z Y u z) (if jm_badPath u = 0 then (if 4 < z then pa else (jm_lead K Z Y u).2.1) else pa) (if jm_badPath u = 0 then (if 4 < z then ey else (jm_lead K Z Y u).2.2.1) else ey) (if jm_badPath u = 0 then (if 4 < z then fo else (jm_lead K Z Y u).2.2.2.1) else fo) (if jm_badPath u = 0 then (if 4 < z then la else (jm_lead K Z Y u).2.2.2.2) else la) := by first | with_reducible rfl | (simp [jm_stT, jm_stR, c_2, c_4, c_6, c_26]; done) | (simp [show 4 < z by omega, jm_stT, jm_stR, c_2, c_4, c_6, c_26]; done) | (simp [show ¬ 4 < z by omega, jm_stT, jm_stR, c_2, c_4, c_6, c_26]; done)
          rw [he] at hP hD
          exact jm_reti C (by first | with_reducible rfl | (simp [jm_stT, jm_stR, c_2, c_4, c_6, c_26]; done) | (simp [show 4 < z by omega, jm_stT, jm_stR, c_2, c_4, c_6, c_26]; done) | (simp [show ¬ 4 < z by omega, jm_stT, jm_stR, c_2, c_4, c_6, c_26]; done)) hP hD hK hS ⟨Nat.le_of_ble_eq_true rfl, Nat.le_of_ble_eq_true rfl⟩ dd_M_stat_53
set_option maxHeartbeats 4000000 in
set_option maxRecDepth 100000 in
theorem ct_M_truncate (l : Launch) (G : va_G) (qM qK qZ qN qB qY qi qo qm qp : Nat) (c1 c2 c3 c4 c5 c6 c7 c8 c9 : ClassId) (K : Nat → Nat) (Z : Nat → Nat) (N : Nat → Nat) (B : Nat → Nat) (Y : Nat → Nat) (I : Nat → Nat) (O : Nat → Nat) (M : Nat → Nat) (P : Nat → Nat) (ct : Nat) (wr : Nat) (ofs : Nat) (th : Nat) (pa : Option Nat) (ey : Option Nat) (fo : Option Nat) (la : Nat) (u : Nat) (z : Nat) (m : Nat) (hP0 : u < 4294967296) (hz0 : z < 4294967296) (hE : jm_ents K Z Y) (hm0 : 9 ≤ m ∧ m < 5000) (hB : jlt m B) (hK : jlt 3 K) (hZ : jlt 65 Z) (hY : jlt 256 Y) : jm l yn_M_truncate (.code yn_M_truncate cd_M_truncate 3 none) { frames := 3, cells := 0, slots := 0, locals := 67 } G (tM c1 c2 c3 c4 c5 c6 c7 c8 c9) (wM qM qK qZ qN qB qY qi qo qm qp c1 c2 c3 c4 c5 c6 c7 c8 c9 K Z N B Y I O M P ct wr ofs th pa ey fo la) [.ref qM, .int (nI (u)), .int (nI (z))] none (wM qM qK qZ qN qB qY qi qo qm qp c1 c2 c3 c4 c5 c6 c7 c8 c9 K (if jm_trT K Z B Y u z = 0 then ju Z ((jm_lead K Z Y u).2.2.2.1.getD 0) z else Z) N (if jm_trT K Z B Y u z = 0 then jm_resB B m ((jm_lead K Z Y u).2.2.2.1.getD 0) z else B) (if jm_trT K Z B Y u z = 0 then jm_resY Y ((jm_lead K Z Y u).2.2.2.1.getD 0) z else Y) I O M P ct wr ofs (jm_trT K Z B Y u z) (if jm_badPath u = 0 then (if 64 < z then pa else (jm_lead K Z Y u).2.1) else pa) (if jm_badPath u = 0 then (if 64 < z then ey else (jm_lead K Z Y u).2.2.1) else ey) (if jm_badPath u = 0 then (if 64 < z then fo else (jm_lead K Z Y u).2.2.2.1) else fo) (if jm_badPath u = 0 then (if 64 < z then la else (jm_lead K Z Y u).2.2.2.2) else la)) := by
  refine jm_of (by decide) (Nat.le_of_ble_eq_true rfl) ?_
  intro pr en σ mi bel met cd ls A hA C hP hK hD hS hl
  have hx := C.1
  have hb := C.2.1
  have hown := C.2.2.2.1
  have hts := C.2.2.2.2.1
  have hl : lv_has ls 3 [(0, .ref qM), (1, .int (nI (u))), (2, .int (nI (z)))] := hl
  refine lv_aload_n hx hb dd_M_truncate_0 rfl (lv_at hl 0 rfl) ?_
  refine lv_aload_n hx hb dd_M_truncate_1 rfl (lv_at hl 0 rfl) ?_
  refine lv_iload_n hx hb dd_M_truncate_2 rfl (lv_at hl 1 rfl) ?_
  refine jr_callV C (ct_M_badPath l G qM qK qZ qN qB qY qi qo qm qp c1 c2 c3 c4 c5 c6 c7 c8 c9 K Z N B Y I O M P ct wr ofs th pa ey fo la u (by omega)) kl_M_79 ⟨Nat.le_of_ble_eq_true rfl, Nat.le_of_ble_eq_true rfl, rfl, rfl⟩ ⟨Nat.le_of_ble_eq_true rfl, Nat.le_of_ble_eq_true rfl⟩ (hP) (hK) (va_recv hK hP (ci := 4) (q0 := 0) rfl rfl) hl.1 rfl rfl (Nat.le_of_ble_eq_true rfl) dd_M_truncate_3 ?_
  have hf_1 : jm_badPath u < 2 := jm_bpL_lt _ _ _
  refine jl_ifne (tgt := 19) hx hb (by omega) dd_M_truncate_6 (by decide) (fun c_2 => ?_) (fun c_2 => ?_)
  · skip
    refine lv_iconst (v := nI 1) hx hb dd_M_truncate_19 (by decide) ?_
    refine lv_goto (tgt := 76) hx hb dd_M_truncate_20 (by decide) ?_
    refine va_put (D := G) (ci := 4) (v := .int (nI (1))) (ty := .int) (C := cn_M) (T := ft_M) (N := 17) hx hb hts uw_M fy_M fo_M fn_M hown hK hP hD hS 0 rfl rfl 12 (by decide) (hts _ tw_605) (fun _ h9 => h9) rfl (by decide +kernel) rfl rfl (Nat.le_of_ble_eq_true rfl) dd_M_truncate_76 (fun H locs hP hD hS => ?_)
    have hP : va_P G jcl (wM qM qK qZ qN qB qY qi qo qm qp c1 c2 c3 c4 c5 c6 c7 c8 c9 K Z N B Y I O M P ct wr ofs 1 pa ey fo la) H := hP
    have hD : va_D A (wM qM qK qZ qN qB qY qi qo qm qp c1 c2 c3 c4 c5 c6 c7 c8 c9 K Z N B Y I O M P ct wr ofs 1 pa ey fo la) := hD
    refine lv_aload_n hx hb dd_M_truncate_79 rfl (lv_at hl 0 rfl) ?_
    refine va_get (D := G) (ci := 4) (v := .int (nI (1))) (C := cn_M) (T := ft_M) (N := 17) hx hb hts uw_M hown hK hP 0 rfl rfl 12 (by decide) (hts _ tw_605) (fun _ h9 => h9) rfl dd_M_truncate_80 ?_
    refine jl_ifne (tgt := 95) hx hb (by omega) dd_M_truncate_83 (by decide) (fun c_3 => ?_) (fun c_3 => ?_)
    · skip
      have he : wM qM qK qZ qN qB qY qi qo qm qp c1 c2 c3 c4 c5 c6 c7 c8 c9 K Z N B Y I O M P ct wr ofs 1 pa ey fo la = wM qM qK qZ qN qB qY qi qo qm qp c1 c2 c3 c4 c5 c6 c7 c8 c9 K (if jm_trT K Z B Y u z = 0 then ju Z ((jm_lead K Z Y u).2.2.2.1.getD 0) z else Z) N (if jm_trT K Z B Y u z = 0 then jm_resB B m ((jm_lead K Z Y u).2.2.2.1.getD 0) z else B) (if jm_trT K Z B Y u z = 0 then jm_resY Y ((jm_lead K Z Y u).2.2.2.1.getD 0) z else Y) I O M P ct wr ofs (jm_trT K Z B Y u z) (if jm_badPath u = 0 then (if 64 < z then pa else (jm_lead K Z Y u).2.1) else pa) (if jm_badPath u = 0 then (if 64 < z then ey else (jm_lead K Z Y u).2.2.1) else ey) (if jm_badPath u = 0 then (if 64 < z then fo else (jm_lead K Z Y u).2.2.2.1) else fo) (if jm_badPath u = 0 then (if 64 < z then la else (jm_lead K Z Y u).2.2.2.2) else la) := by first | with_reducible rfl | (simp [jm_trT, c_2, c_3]; done) | (simp [show 64 < z by omega, jm_trT, c_2, c_3]; done) | (simp [show ¬ 64 < z by omega, jm_trT, c_2, c_3]; done)
      rw [he] at hP hD
      exact jm_retv C hP hD hK hS ⟨Nat.le_of_ble_eq_true rfl, Nat.le_of_ble_eq_true rfl⟩ dd_M_truncate_95
    · skip
      exact absurd c_3 (by omega)
  · skip
    refine lv_iload_n hx hb dd_M_truncate_9 rfl (lv_at hl 2 rfl) ?_
    refine jl_iflt32 (tgt := 19) hx hb (by omega) dd_M_truncate_10 (by decide) (fun c_4 => ?_) (fun c_4 => ?_)
    · skip
      refine lv_iconst (v := nI 1) hx hb dd_M_truncate_19 (by decide) ?_
      refine lv_goto (tgt := 76) hx hb dd_M_truncate_20 (by decide) ?_
      refine va_put (D := G) (ci := 4) (v := .int (nI (1))) (ty := .int) (C := cn_M) (T := ft_M) (N := 17) hx hb hts uw_M fy_M fo_M fn_M hown hK hP hD hS 0 rfl rfl 12 (by decide) (hts _ tw_605) (fun _ h9 => h9) rfl (by decide +kernel) rfl rfl (Nat.le_of_ble_eq_true rfl) dd_M_truncate_76 (fun H locs hP hD hS => ?_)
      have hP : va_P G jcl (wM qM qK qZ qN qB qY qi qo qm qp c1 c2 c3 c4 c5 c6 c7 c8 c9 K Z N B Y I O M P ct wr ofs 1 pa ey fo la) H := hP
      have hD : va_D A (wM qM qK qZ qN qB qY qi qo qm qp c1 c2 c3 c4 c5 c6 c7 c8 c9 K Z N B Y I O M P ct wr ofs 1 pa ey fo la) := hD
      refine lv_aload_n hx hb dd_M_truncate_79 rfl (lv_at hl 0 rfl) ?_
      refine va_get (D := G) (ci := 4) (v := .int (nI (1))) (C := cn_M) (T := ft_M) (N := 17) hx hb hts uw_M hown hK hP 0 rfl rfl 12 (by decide) (hts _ tw_605) (fun _ h9 => h9) rfl dd_M_truncate_80 ?_
      refine jl_ifne (tgt := 95) hx hb (by omega) dd_M_truncate_83 (by decide) (fun c_5 => ?_) (fun c_5 => ?_)
      · skip
        have he : wM qM qK qZ qN qB qY qi qo qm qp c1 c2 c3 c4 c5 c6 c7 c8 c9 K Z N B Y I O M P ct wr ofs 1 pa ey fo la = wM qM qK qZ qN qB qY qi qo qm qp c1 c2 c3 c4 c5 c6 c7 c8 c9 K (if jm_trT K Z B Y u z = 0 then ju Z ((jm_lead K Z Y u).2.2.2.1.getD 0) z else Z) N (if jm_trT K Z B Y u z = 0 then jm_resB B m ((jm_lead K Z Y u).2.2.2.1.getD 0) z else B) (if jm_trT K Z B Y u z = 0 then jm_resY Y ((jm_lead K Z Y u).2.2.2.1.getD 0) z else Y) I O M P ct wr ofs (jm_trT K Z B Y u z) (if jm_badPath u = 0 then (if 64 < z then pa else (jm_lead K Z Y u).2.1) else pa) (if jm_badPath u = 0 then (if 64 < z then ey else (jm_lead K Z Y u).2.2.1) else ey) (if jm_badPath u = 0 then (if 64 < z then fo else (jm_lead K Z Y u).2.2.2.1) else fo) (if jm_badPath u = 0 then (if 64 < z then la else (jm_lead K Z Y u).2.2.2.2) else la) := by first | with_reducible rfl | (simp [jm_trT, c_2, c_4, c_5]; done) | (simp [show 64 < z by omega, jm_trT, c_2, c_4, c_5]; done) | (simp [show ¬ 64 < z by omega, jm_trT, c_2, c_4, c_5]; done)
        rw [he] at hP hD
        exact jm_retv C hP hD hK hS ⟨Nat.le_of_ble_eq_true rfl, Nat.le_of_ble_eq_true rfl⟩ dd_M_truncate_95
      · skip
        exact absurd c_5 (by omega)
    · skip
      refine lv_iload_n hx hb dd_M_truncate_13 rfl (lv_at hl 2 rfl) ?_
      refine lv_bipush (v := nI 64) hx hb dd_M_truncate_14 (by decide) ?_
      refine jl_le (tgt := 23) hx hb (by omega) (by omega) dd_M_truncate_16 (by decide) (fun c_6 => ?_) (fun c_6 => ?_)
      · skip
        refine lv_aload_n hx hb dd_M_truncate_23 rfl (lv_at hl 0 rfl) ?_
        refine lv_iload_n hx hb dd_M_truncate_24 rfl (lv_at hl 1 rfl) ?_
        refine jm_callV (wr := []) C (ct_M_lead l G qM qK qZ qN qB qY qi qo qm qp c1 c2 c3 c4 c5 c6 c7 c8 c9 K Z N B Y I O M P ct wr ofs th pa ey fo la u (by omega) (by assumption) (by assumption) (by assumption) (by assumption)) kl_M_83 ⟨Nat.le_of_ble_eq_true rfl, Nat.le_of_ble_eq_true rfl⟩ ⟨Nat.le_of_ble_eq_true rfl, Nat.le_of_ble_eq_true rfl⟩ hP hD hS hA (hK) (va_recv hK hP (ci := 4) (q0 := 0) rfl rfl) hl.1 rfl rfl (Nat.le_of_ble_eq_true rfl) dd_M_truncate_25 (fun H locs hP hD hS => ?_)
        have hP : va_P G jcl (wM qM qK qZ qN qB qY qi qo qm qp c1 c2 c3 c4 c5 c6 c7 c8 c9 K Z N B Y I O M P ct wr ofs th ((jm_lead K Z Y u).2.1) ((jm_lead K Z Y u).2.2.1) ((jm_lead K Z Y u).2.2.2.1) ((jm_lead K Z Y u).2.2.2.2)) H := hP
        have hD : va_D A (wM qM qK qZ qN qB qY qi qo qm qp c1 c2 c3 c4 c5 c6 c7 c8 c9 K Z N B Y I O M P ct wr ofs th ((jm_lead K Z Y u).2.1) ((jm_lead K Z Y u).2.2.1) ((jm_lead K Z Y u).2.2.2.1) ((jm_lead K Z Y u).2.2.2.2)) := hD
        have hf_7 : (jm_lead K Z Y u).1 < 2 := jm_lead_lt (by assumption) _
        have hf_8 : (jm_lead K Z Y u).2.2.2.2 < 256 := jm_lead_la (by assumption) _
        refine jl_ifeq (tgt := 38) hx hb (by omega) dd_M_truncate_28 (by decide) (fun c_9 => ?_) (fun c_9 => ?_)
        · skip
          refine lv_iconst (v := nI 2) hx hb dd_M_truncate_38 (by decide) ?_
          refine lv_goto (tgt := 76) hx hb dd_M_truncate_39 (by decide) ?_
          refine va_put (D := G) (ci := 4) (v := .int (nI (2))) (ty := .int) (C := cn_M) (T := ft_M) (N := 17) hx hb hts uw_M fy_M fo_M fn_M hown hK hP hD hS 0 rfl rfl 12 (by decide) (hts _ tw_605) (fun _ h9 => h9) rfl (by decide +kernel) rfl rfl (Nat.le_of_ble_eq_true rfl) dd_M_truncate_76 (fun H locs hP hD hS => ?_)
          have hP : va_P G jcl (wM qM qK qZ qN qB qY qi qo qm qp c1 c2 c3 c4 c5 c6 c7 c8 c9 K Z N B Y I O M P ct wr ofs 2 ((jm_lead K Z Y u).2.1) ((jm_lead K Z Y u).2.2.1) ((jm_lead K Z Y u).2.2.2.1) ((jm_lead K Z Y u).2.2.2.2)) H := hP
          have hD : va_D A (wM qM qK qZ qN qB qY qi qo qm qp c1 c2 c3 c4 c5 c6 c7 c8 c9 K Z N B Y I O M P ct wr ofs 2 ((jm_lead K Z Y u).2.1) ((jm_lead K Z Y u).2.2.1) ((jm_lead K Z Y u).2.2.2.1) ((jm_lead K Z Y u).2.2.2.2)) := hD
          refine lv_aload_n hx hb dd_M_truncate_79 rfl (lv_at hl 0 rfl) ?_
          refine va_get (D := G) (ci := 4) (v := .int (nI (2))) (C := cn_M) (T := ft_M) (N := 17) hx hb hts uw_M hown hK hP 0 rfl rfl 12 (by decide) (hts _ tw_605) (fun _ h9 => h9) rfl dd_M_truncate_80 ?_
          refine jl_ifne (tgt := 95) hx hb (by omega) dd_M_truncate_83 (by decide) (fun c_10 => ?_) (fun c_10 => ?_)
          · skip
            have he : wM qM qK qZ qN qB qY qi qo qm qp c1 c2 c3 c4 c5 c6 c7 c8 c9 K Z N B Y I O M P ct wr ofs 2 ((jm_lead K Z Y u).2.1) ((jm_lead K Z Y u).2.2.1) ((jm_lead K Z Y u).2.2.2.1) ((jm_lead K Z Y u).2.2.2.2) = wM qM qK qZ qN qB qY qi qo qm qp c1 c2 c3 c4 c5 c6 c7 c8 c9 K (if jm_trT K Z B Y u z = 0 then ju Z ((jm_lead K Z Y u).2.2.2.1.getD 0) z else Z) N (if jm_trT K Z B Y u z = 0 then jm_resB B m ((jm_lead K Z Y u).2.2.2.1.getD 0) z else B) (if jm_trT K Z B Y u z = 0 then jm_resY Y ((jm_lead K Z Y u).2.2.2.1.getD 0) z else Y) I O M P ct wr ofs (jm_trT K Z B Y u z) (if jm_badPath u = 0 then (if 64 < z then pa else (jm_lead K Z Y u).2.1) else pa) (if jm_badPath u = 0 then (if 64 < z then ey else (jm_lead K Z Y u).2.2.1) else ey) (if jm_badPath u = 0 then (if 64 < z then fo else (jm_lead K Z Y u).2.2.2.1) else fo) (if jm_badPath u = 0 then (if 64 < z then la else (jm_lead K Z Y u).2.2.2.2) else la) := by first | with_reducible rfl | (simp [jm_trT, c_2, c_4, c_6, c_9, c_10]; done) | (simp [show 64 < z by omega, jm_trT, c_2, c_4, c_6, c_9, c_10]; done) | (simp [show ¬ 64 < z by omega, jm_trT, c_2, c_4, c_6, c_9, c_10]; done)
            rw [he] at hP hD
            exact jm_retv C hP hD hK hS ⟨Nat.le_of_ble_eq_true rfl, Nat.le_of_ble_eq_true rfl⟩ dd_M_truncate_95
          · skip
            exact absurd c_10 (by omega)
        · skip
          refine lv_aload_n hx hb dd_M_truncate_31 rfl (lv_at hl 0 rfl) ?_
          refine va_get (D := G) (ci := 4) (v := .int (jo ((jm_lead K Z Y u).2.2.2.1))) (C := cn_M) (T := ft_M) (N := 17) hx hb hts uw_M hown hK hP 0 rfl rfl 15 (by decide) (hts _ tw_608) (fun _ h9 => h9) rfl dd_M_truncate_32 ?_
          refine jl_ifgeO (tgt := 42) hx hb (fun j h => Nat.lt_of_lt_of_le (jm_lead_fo (by assumption) h) (by omega)) dd_M_truncate_35 (by decide) (fun j_12 hj_12 => ?_) (fun hj_12 => ?_)
          · skip
            have ho_13 := jm_lead_fo (by assumption) hj_12
            rw [hj_12] at hP hD
            have hP : va_P G jcl (wM qM qK qZ qN qB qY qi qo qm qp c1 c2 c3 c4 c5 c6 c7 c8 c9 K Z N B Y I O M P ct wr ofs th ((jm_lead K Z Y u).2.1) ((jm_lead K Z Y u).2.2.1) (some j_12) ((jm_lead K Z Y u).2.2.2.2)) H := hP
            have hD : va_D A (wM qM qK qZ qN qB qY qi qo qm qp c1 c2 c3 c4 c5 c6 c7 c8 c9 K Z N B Y I O M P ct wr ofs th ((jm_lead K Z Y u).2.1) ((jm_lead K Z Y u).2.2.1) (some j_12) ((jm_lead K Z Y u).2.2.2.2)) := hD
            refine lv_aload_n hx hb dd_M_truncate_42 rfl (lv_at hl 0 rfl) ?_
            refine va_get (D := G) (ci := 4) (v := .ref qK) (C := cn_M) (T := ft_M) (N := 17) hx hb hts uw_M hown hK hP 0 rfl rfl 0 (by decide) (hts _ tw_593) (fun _ h9 => h9) rfl dd_M_truncate_43 ?_
            refine lv_aload_n hx hb dd_M_truncate_46 rfl (lv_at hl 0 rfl) ?_
            refine va_get (D := G) (ci := 4) (v := .int (nI (j_12))) (C := cn_M) (T := ft_M) (N := 17) hx hb hts uw_M hown hK hP 0 rfl rfl 15 (by decide) (hts _ tw_608) (fun _ h9 => h9) rfl dd_M_truncate_47 ?_
            refine va_iald hx hb hK hP 1 0 rfl rfl (vp_in_nI (by omega) (by decide)) dd_M_truncate_50 ?_
            refine jl_top (jn_at (K) (by omega)) ?_
            have hf_14 : K j_12 < 3 := (by assumption : jlt 3 K) _
            refine lv_iconst (v := nI 1) hx hb dd_M_truncate_51 (by decide) ?_
            refine jl_eq (tgt := 59) hx hb (by omega) (by omega) dd_M_truncate_52 (by decide) (fun c_15 => ?_) (fun c_15 => ?_)
            · skip
              refine lv_aload_n hx hb dd_M_truncate_59 rfl (lv_at hl 0 rfl) ?_
              refine lv_aload_n hx hb dd_M_truncate_60 rfl (lv_at hl 0 rfl) ?_
              refine va_get (D := G) (ci := 4) (v := .int (nI (j_12))) (C := cn_M) (T := ft_M) (N := 17) hx hb hts uw_M hown hK hP 0 rfl rfl 15 (by decide) (hts _ tw_608) (fun _ h9 => h9) rfl dd_M_truncate_61 ?_
              refine lv_iload_n hx hb dd_M_truncate_64 rfl (lv_at hl 2 rfl) ?_
              refine jr_callV C (ct_M_roomFor l G qM qK qZ qN qB qY qi qo qm qp c1 c2 c3 c4 c5 c6 c7 c8 c9 K Z N B Y I O M P ct wr ofs th ((jm_lead K Z Y u).2.1) ((jm_lead K Z Y u).2.2.1) (some j_12) ((jm_lead K Z Y u).2.2.2.2) j_12 z m (by omega) (by omega) (by omega) (by assumption) (by assumption)) kl_M_106 ⟨Nat.le_of_ble_eq_true rfl, Nat.le_of_ble_eq_true rfl, rfl, rfl⟩ ⟨Nat.le_of_ble_eq_true rfl, Nat.le_of_ble_eq_true rfl⟩ (hP) (hK) (va_recv hK hP (ci := 4) (q0 := 0) rfl rfl) hl.1 rfl rfl (Nat.le_of_ble_eq_true rfl) dd_M_truncate_65 ?_
              have hf_16 : jm_roomFor Z B j_12 z < 2 := by unfold jm_roomFor; split <;> decide
              refine jl_ifne (tgt := 75) hx hb (by omega) dd_M_truncate_68 (by decide) (fun c_17 => ?_) (fun c_17 => ?_)
              · skip
                refine lv_iconst (v := nI 0) hx hb dd_M_truncate_75 (by decide) ?_
                refine va_put (D := G) (ci := 4) (v := .int (nI (0))) (ty := .int) (C := cn_M) (T := ft_M) (N := 17) hx hb hts uw_M fy_M fo_M fn_M hown hK hP hD hS 0 rfl rfl 12 (by decide) (hts _ tw_605) (fun _ h9 => h9) rfl (by decide +kernel) rfl rfl (Nat.le_of_ble_eq_true rfl) dd_M_truncate_76 (fun H locs hP hD hS => ?_)
                have hP : va_P G jcl (wM qM qK qZ qN qB qY qi qo qm qp c1 c2 c3 c4 c5 c6 c7 c8 c9 K Z N B Y I O M P ct wr ofs 0 ((jm_lead K Z Y u).2.1) ((jm_lead K Z Y u).2.2.1) (some j_12) ((jm_lead K Z Y u).2.2.2.2)) H := hP
                have hD : va_D A (wM qM qK qZ qN qB qY qi qo qm qp c1 c2 c3 c4 c5 c6 c7 c8 c9 K Z N B Y I O M P ct wr ofs 0 ((jm_lead K Z Y u).2.1) ((jm_lead K Z Y u).2.2.1) (some j_12) ((jm_lead K Z Y u).2.2.2.2)) := hD
                refine lv_aload_n hx hb dd_M_truncate_79 rfl (lv_at hl 0 rfl) ?_
                refine va_get (D := G) (ci := 4) (v := .int (nI (0))) (C := cn_M) (T := ft_M) (N := 17) hx hb hts uw_M hown hK hP 0 rfl rfl 12 (by decide) (hts _ tw_605) (fun _ h9 => h9) rfl dd_M_truncate_80 ?_
                refine jl_ifne (tgt := 95) hx hb (by omega) dd_M_truncate_83 (by decide) (fun c_18 => ?_) (fun c_18 => ?_)
                · skip
                  exact absurd c_18 (by omega)
                · skip
                  refine lv_aload_n hx hb dd_M_truncate_86 rfl (lv_at hl 0 rfl) ?_
                  refine lv_aload_n hx hb dd_M_truncate_87 rfl (lv_at hl 0 rfl) ?_
                  refine va_get (D := G) (ci := 4) (v := .int (nI (j_12))) (C := cn_M) (T := ft_M) (N := 17) hx hb hts uw_M hown hK hP 0 rfl rfl 15 (by decide) (hts _ tw_608) (fun _ h9 => h9) rfl dd_M_truncate_88 ?_
                  refine lv_iload_n hx hb dd_M_truncate_91 rfl (lv_at hl 2 rfl) ?_
                  refine jm_callV (wr := []) C (ct_M_resize l G qM qK qZ qN qB qY qi qo qm qp c1 c2 c3 c4 c5 c6 c7 c8 c9 K Z N B Y I O M P ct wr ofs 0 ((jm_lead K Z Y u).2.1) ((jm_lead K Z Y u).2.2.1) (some j_12) ((jm_lead K Z Y u).2.2.2.2) j_12 z m (by omega) (by omega) (by omega) (by assumption)) kl_M_56 ⟨Nat.le_of_ble_eq_true rfl, Nat.le_of_ble_eq_true rfl⟩ ⟨Nat.le_of_ble_eq_true rfl, Nat.le_of_ble_eq_true rfl⟩ hP hD hS hA (hK) (va_recv hK hP (ci := 4) (q0 := 0) rfl rfl) hl.1 rfl rfl (Nat.le_of_ble_eq_true rfl) dd_M_truncate_92 (fun H locs hP hD hS => ?_)
                  have hP : va_P G jcl (wM qM qK qZ qN qB qY qi qo qm qp c1 c2 c3 c4 c5 c6 c7 c8 c9 K (ju Z j_12 z) N (jm_resB B m j_12 z) (jm_resY Y j_12 z) I O M P ct wr ofs 0 ((jm_lead K Z Y u).2.1) ((jm_lead K Z Y u).2.2.1) (some j_12) ((jm_lead K Z Y u).2.2.2.2)) H := hP
                  have hD : va_D A (wM qM qK qZ qN qB qY qi qo qm qp c1 c2 c3 c4 c5 c6 c7 c8 c9 K (ju Z j_12 z) N (jm_resB B m j_12 z) (jm_resY Y j_12 z) I O M P ct wr ofs 0 ((jm_lead K Z Y u).2.1) ((jm_lead K Z Y u).2.2.1) (some j_12) ((jm_lead K Z Y u).2.2.2.2)) := hD
                  have hf_19 : jlt (m + 4) (jm_resB B m j_12 z) := jm_rsL_lt _ _ 4 _ 0 (by omega) (by assumption)
                  have he : wM qM qK qZ qN qB qY qi qo qm qp c1 c2 c3 c4 c5 c6 c7 c8 c9 K (ju Z j_12 z) N (jm_resB B m j_12 z) (jm_resY Y j_12 z) I O M P ct wr ofs 0 ((jm_lead K Z Y u).2.1) ((jm_lead K Z Y u).2.2.1) (some j_12) ((jm_lead K Z Y u).2.2.2.2) = wM qM qK qZ qN qB qY qi qo qm qp c1 c2 c3 c4 c5 c6 c7 c8 c9 K (if jm_trT K Z B Y u z = 0 then ju Z ((jm_lead K Z Y u).2.2.2.1.getD 0) z else Z) N (if jm_trT K Z B Y u z = 0 then jm_resB B m ((jm_lead K Z Y u).2.2.2.1.getD 0) z else B) (if jm_trT K Z B Y u z = 0 then jm_resY Y ((jm_lead K Z Y u).2.2.2.1.getD 0) z else Y) I O M P ct wr ofs (jm_trT K Z B Y u z) (if jm_badPath u = 0 then (if 64 < z then pa else (jm_lead K Z Y u).2.1) else pa) (if jm_badPath u = 0 then (if 64 < z then ey else (jm_lead K Z Y u).2.2.1) else ey) (if jm_badPath u = 0 then (if 64 < z then fo else (jm_lead K Z Y u).2.2.2.1) else fo) (if jm_badPath u = 0 then (if 64 < z then la else (jm_lead K Z Y u).2.2.2.2) else la) := by first | with_reducible rfl | (simp [jm_trT, c_2, c_4, c_6, c_9, hj_12, c_15, c_17, c_18]; done) | (simp [show 64 < z by omega, jm_trT, c_2, c_4, c_6, c_9, hj_12, c_15, c_17, c_18]; done) | (simp [show ¬ 64 < z by omega, jm_trT, c_2, c_4, c_6, c_9, hj_12, c_15, c_17, c_18]; done)
                  rw [he] at hP hD
                  exact jm_retv C hP hD hK hS ⟨Nat.le_of_ble_eq_true rfl, Nat.le_of_ble_eq_true rfl⟩ dd_M_truncate_95
              · skip
                refine lv_iconst (v := nI 4) hx hb dd_M_truncate_71 (by decide) ?_
                refine lv_goto (tgt := 76) hx hb dd_M_truncate_72 (by decide) ?_
                refine va_put (D := G) (ci := 4) (v := .int (nI (4))) (ty := .int) (C := cn_M) (T := ft_M) (N := 17) hx hb hts uw_M fy_M fo_M fn_M hown hK hP hD hS 0 rfl rfl 12 (by decide) (hts _ tw_605) (fun _ h9 => h9) rfl (by decide +kernel) rfl rfl (Nat.le_of_ble_eq_true rfl) dd_M_truncate_76 (fun H locs hP hD hS => ?_)
                have hP : va_P G jcl (wM qM qK qZ qN qB qY qi qo qm qp c1 c2 c3 c4 c5 c6 c7 c8 c9 K Z N B Y I O M P ct wr ofs 4 ((jm_lead K Z Y u).2.1) ((jm_lead K Z Y u).2.2.1) (some j_12) ((jm_lead K Z Y u).2.2.2.2)) H := hP
                have hD : va_D A (wM qM qK qZ qN qB qY qi qo qm qp c1 c2 c3 c4 c5 c6 c7 c8 c9 K Z N B Y I O M P ct wr ofs 4 ((jm_lead K Z Y u).2.1) ((jm_lead K Z Y u).2.2.1) (some j_12) ((jm_lead K Z Y u).2.2.2.2)) := hD
                refine lv_aload_n hx hb dd_M_truncate_79 rfl (lv_at hl 0 rfl) ?_
                refine va_get (D := G) (ci := 4) (v := .int (nI (4))) (C := cn_M) (T := ft_M) (N := 17) hx hb hts uw_M hown hK hP 0 rfl rfl 12 (by decide) (hts _ tw_605) (fun _ h9 => h9) rfl dd_M_truncate_80 ?_
                refine jl_ifne (tgt := 95) hx hb (by omega) dd_M_truncate_83 (by decide) (fun c_20 => ?_) (fun c_20 => ?_)
                · skip
                  have he : wM qM qK qZ qN qB qY qi qo qm qp c1 c2 c3 c4 c5 c6 c7 c8 c9 K Z N B Y I O M P ct wr ofs 4 ((jm_lead K Z Y u).2.1) ((jm_lead K Z Y u).2.2.1) (some j_12) ((jm_lead K Z Y u).2.2.2.2) = wM qM qK qZ qN qB qY qi qo qm qp c1 c2 c3 c4 c5 c6 c7 c8 c9 K (if jm_trT K Z B Y u z = 0 then ju Z ((jm_lead K Z Y u).2.2.2.1.getD 0) z else Z) N (if jm_trT K Z B Y u z = 0 then jm_resB B m ((jm_lead K Z Y u).2.2.2.1.getD 0) z else B) (if jm_trT K Z B Y u z = 0 then jm_resY Y ((jm_lead K Z Y u).2.2.2.1.getD 0) z else Y) I O M P ct wr ofs (jm_trT K Z B Y u z) (if jm_badPath u = 0 then (if 64 < z then pa else (jm_lead K Z Y u).2.1) else pa) (if jm_badPath u = 0 then (if 64 < z then ey else (jm_lead K Z Y u).2.2.1) else ey) (if jm_badPath u = 0 then (if 64 < z then fo else (jm_lead K Z Y u).2.2.2.1) else fo) (if jm_badPath u = 0 then (if 64 < z then la else (jm_lead K Z Y u).2.2.2.2) else la) := by first | with_reducible rfl | (simp [jm_trT, c_2, c_4, c_6, c_9, hj_12, c_15, c_17, c_20]; done) | (simp [show 64 < z by omega, jm_trT, c_2, c_4, c_6, c_9, hj_12, c_15, c_17, c_20]; done) | (simp [show ¬ 64 < z by omega, jm_trT, c_2, c_4, c_6, c_9, hj_12, c_15, c_17, c_20]; done)
                  rw [he] at hP hD
                  exact jm_retv C hP hD hK hS ⟨Nat.le_of_ble_eq_true rfl, Nat.le_of_ble_eq_true rfl⟩ dd_M_truncate_95
                · skip
                  exact absurd c_20 (by omega)
            · skip
              refine lv_iconst (v := nI 3) hx hb dd_M_truncate_55 (by decide) ?_
              refine lv_goto (tgt := 76) hx hb dd_M_truncate_56 (by decide) ?_
              refine va_put (D := G) (ci := 4) (v := .int (nI (3))) (ty := .int) (C := cn_M) (T := ft_M) (N := 17) hx hb hts uw_M fy_M fo_M fn_M hown hK hP hD hS 0 rfl rfl 12 (by decide) (hts _ tw_605) (fun _ h9 => h9) rfl (by decide +kernel) rfl rfl (Nat.le_of_ble_eq_true rfl) dd_M_truncate_76 (fun H locs hP hD hS => ?_)
              have hP : va_P G jcl (wM qM qK qZ qN qB qY qi qo qm qp c1 c2 c3 c4 c5 c6 c7 c8 c9 K Z N B Y I O M P ct wr ofs 3 ((jm_lead K Z Y u).2.1) ((jm_lead K Z Y u).2.2.1) (some j_12) ((jm_lead K Z Y u).2.2.2.2)) H := hP
              have hD : va_D A (wM qM qK qZ qN qB qY qi qo qm qp c1 c2 c3 c4 c5 c6 c7 c8 c9 K Z N B Y I O M P ct wr ofs 3 ((jm_lead K Z Y u).2.1) ((jm_lead K Z Y u).2.2.1) (some j_12) ((jm_lead K Z Y u).2.2.2.2)) := hD
              refine lv_aload_n hx hb dd_M_truncate_79 rfl (lv_at hl 0 rfl) ?_
              refine va_get (D := G) (ci := 4) (v := .int (nI (3))) (C := cn_M) (T := ft_M) (N := 17) hx hb hts uw_M hown hK hP 0 rfl rfl 12 (by decide) (hts _ tw_605) (fun _ h9 => h9) rfl dd_M_truncate_80 ?_
              refine jl_ifne (tgt := 95) hx hb (by omega) dd_M_truncate_83 (by decide) (fun c_21 => ?_) (fun c_21 => ?_)
              · skip
                have he : wM qM qK qZ qN qB qY qi qo qm qp c1 c2 c3 c4 c5 c6 c7 c8 c9 K Z N B Y I O M P ct wr ofs 3 ((jm_lead K Z Y u).2.1) ((jm_lead K Z Y u).2.2.1) (some j_12) ((jm_lead K Z Y u).2.2.2.2) = wM qM qK qZ qN qB qY qi qo qm qp c1 c2 c3 c4 c5 c6 c7 c8 c9 K (if jm_trT K Z B Y u z = 0 then ju Z ((jm_lead K Z Y u).2.2.2.1.getD 0) z else Z) N (if jm_trT K Z B Y u z = 0 then jm_resB B m ((jm_lead K Z Y u).2.2.2.1.getD 0) z else B) (if jm_trT K Z B Y u z = 0 then jm_resY Y ((jm_lead K Z Y u).2.2.2.1.getD 0) z else Y) I O M P ct wr ofs (jm_trT K Z B Y u z) (if jm_badPath u = 0 then (if 64 < z then pa else (jm_lead K Z Y u).2.1) else pa) (if jm_badPath u = 0 then (if 64 < z then ey else (jm_lead K Z Y u).2.2.1) else ey) (if jm_badPath u = 0 then (if 64 < z then fo else (jm_lead K Z Y u).2.2.2.1) else fo) (if jm_badPath u = 0 then (if 64 < z then la else (jm_lead K Z Y u).2.2.2.2) else la) := by first | with_reducible rfl | (simp [jm_trT, c_2, c_4, c_6, c_9, hj_12, c_15, c_21]; done) | (simp [show 64 < z by omega, jm_trT, c_2, c_4, c_6, c_9, hj_12, c_15, c_21]; done) | (simp [show ¬ 64 < z by omega, jm_trT, c_2, c_4, c_6, c_9, hj_12, c_15, c_21]; done)
                rw [he] at hP hD
                exact jm_retv C hP hD hK hS ⟨Nat.le_of_ble_eq_true rfl, Nat.le_of_ble_eq_true rfl⟩ dd_M_truncate_95
              · skip
                exact absurd c_21 (by omega)
          · skip
            rw [hj_12] at hP hD
            have hP : va_P G jcl (wM qM qK qZ qN qB qY qi qo qm qp c1 c2 c3 c4 c5 c6 c7 c8 c9 K Z N B Y I O M P ct wr ofs th ((jm_lead K Z Y u).2.1) ((jm_lead K Z Y u).2.2.1) none ((jm_lead K Z Y u).2.2.2.2)) H := hP
            have hD : va_D A (wM qM qK qZ qN qB qY qi qo qm qp c1 c2 c3 c4 c5 c6 c7 c8 c9 K Z N B Y I O M P ct wr ofs th ((jm_lead K Z Y u).2.1) ((jm_lead K Z Y u).2.2.1) none ((jm_lead K Z Y u).2.2.2.2)) := hD
            refine lv_iconst (v := nI 2) hx hb dd_M_truncate_38 (by decide) ?_
            refine lv_goto (tgt := 76) hx hb dd_M_truncate_39 (by decide) ?_
            refine va_put (D := G) (ci := 4) (v := .int (nI (2))) (ty := .int) (C := cn_M) (T := ft_M) (N := 17) hx hb hts uw_M fy_M fo_M fn_M hown hK hP hD hS 0 rfl rfl 12 (by decide) (hts _ tw_605) (fun _ h9 => h9) rfl (by decide +kernel) rfl rfl (Nat.le_of_ble_eq_true rfl) dd_M_truncate_76 (fun H locs hP hD hS => ?_)
            have hP : va_P G jcl (wM qM qK qZ qN qB qY qi qo qm qp c1 c2 c3 c4 c5 c6 c7 c8 c9 K Z N B Y I O M P ct wr ofs 2 ((jm_lead K Z Y u).2.1) ((jm_lead K Z Y u).2.2.1) none ((jm_lead K Z Y u).2.2.2.2)) H := hP
            have hD : va_D A (wM qM qK qZ qN qB qY qi qo qm qp c1 c2 c3 c4 c5 c6 c7 c8 c9 K Z N B Y I O M P ct wr ofs 2 ((jm_lead K Z Y u).2.1) ((jm_lead K Z Y u).2.2.1) none ((jm_lead K Z Y u).2.2.2.2)) := hD
            refine lv_aload_n hx hb dd_M_truncate_79 rfl (lv_at hl 0 rfl) ?_
            refine va_get (D := G) (ci := 4) (v := .int (nI (2))) (C := cn_M) (T := ft_M) (N := 17) hx hb hts uw_M hown hK hP 0 rfl rfl 12 (by decide) (hts _ tw_605) (fun _ h9 => h9) rfl dd_M_truncate_80 ?_
            refine jl_ifne (tgt := 95) hx hb (by omega) dd_M_truncate_83 (by decide) (fun c_22 => ?_) (fun c_22 => ?_)
            · skip
              have he : wM qM qK qZ qN qB qY qi qo qm qp c1 c2 c3 c4 c5 c6 c7 c8 c9 K Z N B Y I O M P ct wr ofs 2 ((jm_lead K Z Y u).2.1) ((jm_lead K Z Y u).2.2.1) none ((jm_lead K Z Y u).2.2.2.2) = wM qM qK qZ qN qB qY qi qo qm qp c1 c2 c3 c4 c5 c6 c7 c8 c9 K (if jm_trT K Z B Y u z = 0 then ju Z ((jm_lead K Z Y u).2.2.2.1.getD 0) z else Z) N (if jm_trT K Z B Y u z = 0 then jm_resB B m ((jm_lead K Z Y u).2.2.2.1.getD 0) z else B) (if jm_trT K Z B Y u z = 0 then jm_resY Y ((jm_lead K Z Y u).2.2.2.1.getD 0) z else Y) I O M P ct wr ofs (jm_trT K Z B Y u z) (if jm_badPath u = 0 then (if 64 < z then pa else (jm_lead K Z Y u).2.1) else pa) (if jm_badPath u = 0 then (if 64 < z then ey else (jm_lead K Z Y u).2.2.1) else ey) (if jm_badPath u = 0 then (if 64 < z then fo else (jm_lead K Z Y u).2.2.2.1) else fo) (if jm_badPath u = 0 then (if 64 < z then la else (jm_lead K Z Y u).2.2.2.2) else la) := by first | with_reducible rfl | (simp [jm_trT, c_2, c_4, c_6, c_9, hj_12, c_22]; done) | (simp [show 64 < z by omega, jm_trT, c_2, c_4, c_6, c_9, hj_12, c_22]; done) | (simp [show ¬ 64 < z by omega, jm_trT, c_2, c_4, c_6, c_9, hj_12, c_22]; done)
              rw [he] at hP hD
              exact jm_retv C hP hD hK hS ⟨Nat.le_of_ble_eq_true rfl, Nat.le_of_ble_eq_true rfl⟩ dd_M_truncate_95
            · skip
              exact absurd c_22 (by omega)
      · skip
        refine lv_iconst (v := nI 1) hx hb dd_M_truncate_19 (by decide) ?_
        refine lv_goto (tgt := 76) hx hb dd_M_truncate_20 (by decide) ?_
        refine va_put (D := G) (ci := 4) (v := .int (nI (1))) (ty := .int) (C := cn_M) (T := ft_M) (N := 17) hx hb hts uw_M fy_M fo_M fn_M hown hK hP hD hS 0 rfl rfl 12 (by decide) (hts _ tw_605) (fun _ h9 => h9) rfl (by decide +kernel) rfl rfl (Nat.le_of_ble_eq_true rfl) dd_M_truncate_76 (fun H locs hP hD hS => ?_)
        have hP : va_P G jcl (wM qM qK qZ qN qB qY qi qo qm qp c1 c2 c3 c4 c5 c6 c7 c8 c9 K Z N B Y I O M P ct wr ofs 1 pa ey fo la) H := hP
        have hD : va_D A (wM qM qK qZ qN qB qY qi qo qm qp c1 c2 c3 c4 c5 c6 c7 c8 c9 K Z N B Y I O M P ct wr ofs 1 pa ey fo la) := hD
        refine lv_aload_n hx hb dd_M_truncate_79 rfl (lv_at hl 0 rfl) ?_
        refine va_get (D := G) (ci := 4) (v := .int (nI (1))) (C := cn_M) (T := ft_M) (N := 17) hx hb hts uw_M hown hK hP 0 rfl rfl 12 (by decide) (hts _ tw_605) (fun _ h9 => h9) rfl dd_M_truncate_80 ?_
        refine jl_ifne (tgt := 95) hx hb (by omega) dd_M_truncate_83 (by decide) (fun c_23 => ?_) (fun c_23 => ?_)
        · skip
          have he : wM qM qK qZ qN qB qY qi qo qm qp c1 c2 c3 c4 c5 c6 c7 c8 c9 K Z N B Y I O M P ct wr ofs 1 pa ey fo la = wM qM qK qZ qN qB qY qi qo qm qp c1 c2 c3 c4 c5 c6 c7 c8 c9 K (if jm_trT K Z B Y u z = 0 then ju Z ((jm_lead K Z Y u).2.2.2.1.getD 0) z else Z) N (if jm_trT K Z B Y u z = 0 then jm_resB B m ((jm_lead K Z Y u).2.2.2.1.getD 0) z else B) (if jm_trT K Z B Y u z = 0 then jm_resY Y ((jm_lead K Z Y u).2.2.2.1.getD 0) z else Y) I O M P ct wr ofs (jm_trT K Z B Y u z) (if jm_badPath u = 0 then (if 64 < z then pa else (jm_lead K Z Y u).2.1) else pa) (if jm_badPath u = 0 then (if 64 < z then ey else (jm_lead K Z Y u).2.2.1) else ey) (if jm_badPath u = 0 then (if 64 < z then fo else (jm_lead K Z Y u).2.2.2.1) else fo) (if jm_badPath u = 0 then (if 64 < z then la else (jm_lead K Z Y u).2.2.2.2) else la) := by first | with_reducible rfl | (simp [jm_trT, c_2, c_4, c_6, c_23]; done) | (simp [show 64 < z by omega, jm_trT, c_2, c_4, c_6, c_23]; done) | (simp [show ¬ 64 < z by omega, jm_trT, c_2, c_4, c_6, c_23]; done)
          rw [he] at hP hD
          exact jm_retv C hP hD hK hS ⟨Nat.le_of_ble_eq_true rfl, Nat.le_of_ble_eq_true rfl⟩ dd_M_truncate_95
        · skip
          exact absurd c_23 (by omega)
set_option maxHeartbeats 4000000 in
set_option maxRecDepth 100000 in
theorem ct_M_directory (l : Launch) (G : va_G) (qM qK qZ qN qB qY qi qo qm qp : Nat) (c1 c2 c3 c4 c5 c6 c7 c8 c9 : ClassId) (K : Nat → Nat) (Z : Nat → Nat) (N : Nat → Nat) (B : Nat → Nat) (Y : Nat → Nat) (I : Nat → Nat) (O : Nat → Nat) (M : Nat → Nat) (P : Nat → Nat) (ct : Nat) (wr : Nat) (ofs : Nat) (th : Nat) (pa : Option Nat) (ey : Option Nat) (fo : Option Nat) (la : Nat) (u : Nat) (m : Nat) (hP0 : u < 4294967296) (hE : jm_ents K Z Y) (hm0 : 9 ≤ m ∧ m < 5000) (hB : jlt m B) (hK : jlt 3 K) (hZ : jlt 65 Z) (hN : jlt 256 N) (hY : jlt 256 Y) : jm l yn_M_directory (.code yn_M_directory cd_M_directory 3 (some .int)) { frames := 4, cells := 0, slots := 0, locals := 91 } G (tM c1 c2 c3 c4 c5 c6 c7 c8 c9) (wM qM qK qZ qN qB qY qi qo qm qp c1 c2 c3 c4 c5 c6 c7 c8 c9 K Z N B Y I O M P ct wr ofs th pa ey fo la) [.ref qM, .int (nI (u))] (some (.int (nI (if jm_diT K Z B Y u = 0 then jm_newInode K else 0)))) (wM qM qK qZ qN qB qY qi qo qm qp c1 c2 c3 c4 c5 c6 c7 c8 c9 (if jm_diT K Z B Y u = 0 then ju K (jm_newInode K) 2 else K) (if jm_diT K Z B Y u = 0 then ju Z ((jm_lead K Z Y u).2.1.getD 0) (Z ((jm_lead K Z Y u).2.1.getD 0) + 2) else Z) (if jm_diT K Z B Y u = 0 then ju N (jm_newInode K) ((N (jm_newInode K) + 1) % 256) else N) (if jm_diT K Z B Y u = 0 then jm_resB B m ((jm_lead K Z Y u).2.1.getD 0) (Z ((jm_lead K Z Y u).2.1.getD 0) + 2) else B) (if jm_diT K Z B Y u = 0 then ju (ju (jm_resY Y ((jm_lead K Z Y u).2.1.getD 0) (Z ((jm_lead K Z Y u).2.1.getD 0) + 2)) (((jm_lead K Z Y u).2.1.getD 0) * 64 + Z ((jm_lead K Z Y u).2.1.getD 0)) (jm_lead K Z Y u).2.2.2.2) (((jm_lead K Z Y u).2.1.getD 0) * 64 + Z ((jm_lead K Z Y u).2.1.getD 0) + 1) (jm_newInode K) else Y) I O M P ct wr ofs (jm_diT K Z B Y u) (if jm_badPath u = 0 then (jm_lead K Z Y u).2.1 else pa) (if jm_badPath u = 0 then (jm_lead K Z Y u).2.2.1 else ey) (if jm_badPath u = 0 then (jm_lead K Z Y u).2.2.2.1 else fo) (if jm_badPath u = 0 then (jm_lead K Z Y u).2.2.2.2 else la)) := by
  refine jm_of (by decide) (Nat.le_of_ble_eq_true rfl) ?_
  intro pr en σ mi bel met cd ls A hA C hP hK hD hS hl
  have hx := C.1
  have hb := C.2.1
  have hown := C.2.2.2.1
  have hts := C.2.2.2.2.1
  have hl : lv_has ls 3 [(0, .ref qM), (1, .int (nI (u)))] := hl
  refine lv_aload_n hx hb dd_M_directory_0 rfl (lv_at hl 0 rfl) ?_
  refine lv_aload_n hx hb dd_M_directory_1 rfl (lv_at hl 0 rfl) ?_
  refine lv_iload_n hx hb dd_M_directory_2 rfl (lv_at hl 1 rfl) ?_
  refine jr_callV C (ct_M_badPath l G qM qK qZ qN qB qY qi qo qm qp c1 c2 c3 c4 c5 c6 c7 c8 c9 K Z N B Y I O M P ct wr ofs th pa ey fo la u (by omega)) kl_M_79 ⟨Nat.le_of_ble_eq_true rfl, Nat.le_of_ble_eq_true rfl, rfl, rfl⟩ ⟨Nat.le_of_ble_eq_true rfl, Nat.le_of_ble_eq_true rfl⟩ (hP) (hK) (va_recv hK hP (ci := 4) (q0 := 0) rfl rfl) hl.1 rfl rfl (Nat.le_of_ble_eq_true rfl) dd_M_directory_3 ?_
  have hf_1 : jm_badPath u < 2 := jm_bpL_lt _ _ _
  refine jl_ifeq (tgt := 13) hx hb (by omega) dd_M_directory_6 (by decide) (fun c_2 => ?_) (fun c_2 => ?_)
  · skip
    refine lv_aload_n hx hb dd_M_directory_13 rfl (lv_at hl 0 rfl) ?_
    refine lv_iload_n hx hb dd_M_directory_14 rfl (lv_at hl 1 rfl) ?_
    refine jm_callV (wr := []) C (ct_M_lead l G qM qK qZ qN qB qY qi qo qm qp c1 c2 c3 c4 c5 c6 c7 c8 c9 K Z N B Y I O M P ct wr ofs th pa ey fo la u (by omega) (by assumption) (by assumption) (by assumption) (by assumption)) kl_M_83 ⟨Nat.le_of_ble_eq_true rfl, Nat.le_of_ble_eq_true rfl⟩ ⟨Nat.le_of_ble_eq_true rfl, Nat.le_of_ble_eq_true rfl⟩ hP hD hS hA (hK) (va_recv hK hP (ci := 4) (q0 := 0) rfl rfl) hl.1 rfl rfl (Nat.le_of_ble_eq_true rfl) dd_M_directory_15 (fun H locs hP hD hS => ?_)
    have hP : va_P G jcl (wM qM qK qZ qN qB qY qi qo qm qp c1 c2 c3 c4 c5 c6 c7 c8 c9 K Z N B Y I O M P ct wr ofs th ((jm_lead K Z Y u).2.1) ((jm_lead K Z Y u).2.2.1) ((jm_lead K Z Y u).2.2.2.1) ((jm_lead K Z Y u).2.2.2.2)) H := hP
    have hD : va_D A (wM qM qK qZ qN qB qY qi qo qm qp c1 c2 c3 c4 c5 c6 c7 c8 c9 K Z N B Y I O M P ct wr ofs th ((jm_lead K Z Y u).2.1) ((jm_lead K Z Y u).2.2.1) ((jm_lead K Z Y u).2.2.2.1) ((jm_lead K Z Y u).2.2.2.2)) := hD
    have hf_3 : (jm_lead K Z Y u).1 < 2 := jm_lead_lt (by assumption) _
    have hf_4 : (jm_lead K Z Y u).2.2.2.2 < 256 := jm_lead_la (by assumption) _
    refine jl_ifne (tgt := 25) hx hb (by omega) dd_M_directory_18 (by decide) (fun c_5 => ?_) (fun c_5 => ?_)
    · skip
      refine lv_aload_n hx hb dd_M_directory_25 rfl (lv_at hl 0 rfl) ?_
      refine va_get (D := G) (ci := 4) (v := .int (jo ((jm_lead K Z Y u).2.2.2.1))) (C := cn_M) (T := ft_M) (N := 17) hx hb hts uw_M hown hK hP 0 rfl rfl 15 (by decide) (hts _ tw_608) (fun _ h9 => h9) rfl dd_M_directory_26 ?_
      refine jl_ifltO (tgt := 36) hx hb (fun j h => Nat.lt_of_lt_of_le (jm_lead_fo (by assumption) h) (by omega)) dd_M_directory_29 (by decide) (fun hj_7 => ?_) (fun j_7 hj_7 => ?_)
      · skip
        rw [hj_7] at hP hD
        have hP : va_P G jcl (wM qM qK qZ qN qB qY qi qo qm qp c1 c2 c3 c4 c5 c6 c7 c8 c9 K Z N B Y I O M P ct wr ofs th ((jm_lead K Z Y u).2.1) ((jm_lead K Z Y u).2.2.1) none ((jm_lead K Z Y u).2.2.2.2)) H := hP
        have hD : va_D A (wM qM qK qZ qN qB qY qi qo qm qp c1 c2 c3 c4 c5 c6 c7 c8 c9 K Z N B Y I O M P ct wr ofs th ((jm_lead K Z Y u).2.1) ((jm_lead K Z Y u).2.2.1) none ((jm_lead K Z Y u).2.2.2.2)) := hD
        refine lv_aload_n hx hb dd_M_directory_36 rfl (lv_at hl 0 rfl) ?_
        refine jr_callV C (ct_M_newInode l G qM qK qZ qN qB qY qi qo qm qp c1 c2 c3 c4 c5 c6 c7 c8 c9 K Z N B Y I O M P ct wr ofs th ((jm_lead K Z Y u).2.1) ((jm_lead K Z Y u).2.2.1) none ((jm_lead K Z Y u).2.2.2.2)  (by assumption)) kl_M_60 ⟨Nat.le_of_ble_eq_true rfl, Nat.le_of_ble_eq_true rfl, rfl, rfl⟩ ⟨Nat.le_of_ble_eq_true rfl, Nat.le_of_ble_eq_true rfl⟩ (hP) (hK) (va_recv hK hP (ci := 4) (q0 := 0) rfl rfl) hl.1 rfl rfl (Nat.le_of_ble_eq_true rfl) dd_M_directory_37 ?_
        have hf_8 : jm_newInode K ≤ 12 := jm_newInode_le _
        refine lv_bipush (v := nI 12) hx hb dd_M_directory_40 (by decide) ?_
        refine jl_eq (tgt := 57) hx hb (by omega) (by omega) dd_M_directory_42 (by decide) (fun c_9 => ?_) (fun c_9 => ?_)
        · skip
          refine lv_iconst (v := nI 4) hx hb dd_M_directory_57 (by decide) ?_
          refine lv_goto (tgt := 62) hx hb dd_M_directory_58 (by decide) ?_
          refine va_put (D := G) (ci := 4) (v := .int (nI (4))) (ty := .int) (C := cn_M) (T := ft_M) (N := 17) hx hb hts uw_M fy_M fo_M fn_M hown hK hP hD hS 0 rfl rfl 12 (by decide) (hts _ tw_605) (fun _ h9 => h9) rfl (by decide +kernel) rfl rfl (Nat.le_of_ble_eq_true rfl) dd_M_directory_62 (fun H locs hP hD hS => ?_)
          have hP : va_P G jcl (wM qM qK qZ qN qB qY qi qo qm qp c1 c2 c3 c4 c5 c6 c7 c8 c9 K Z N B Y I O M P ct wr ofs 4 ((jm_lead K Z Y u).2.1) ((jm_lead K Z Y u).2.2.1) none ((jm_lead K Z Y u).2.2.2.2)) H := hP
          have hD : va_D A (wM qM qK qZ qN qB qY qi qo qm qp c1 c2 c3 c4 c5 c6 c7 c8 c9 K Z N B Y I O M P ct wr ofs 4 ((jm_lead K Z Y u).2.1) ((jm_lead K Z Y u).2.2.1) none ((jm_lead K Z Y u).2.2.2.2)) := hD
          refine lv_aload_n hx hb dd_M_directory_65 rfl (lv_at hl 0 rfl) ?_
          refine va_get (D := G) (ci := 4) (v := .int (nI (4))) (C := cn_M) (T := ft_M) (N := 17) hx hb hts uw_M hown hK hP 0 rfl rfl 12 (by decide) (hts _ tw_605) (fun _ h9 => h9) rfl dd_M_directory_66 ?_
          refine jl_ifeq (tgt := 74) hx hb (by omega) dd_M_directory_69 (by decide) (fun c_10 => ?_) (fun c_10 => ?_)
          · skip
            exact absurd c_10 (by omega)
          · skip
            refine lv_iconst (v := nI 0) hx hb dd_M_directory_72 (by decide) ?_
            have he : wM qM qK qZ qN qB qY qi qo qm qp c1 c2 c3 c4 c5 c6 c7 c8 c9 K Z N B Y I O M P ct wr ofs 4 ((jm_lead K Z Y u).2.1) ((jm_lead K Z Y u).2.2.1) none ((jm_lead K Z Y u).2.2.2.2) = wM qM qK qZ qN qB qY qi qo qm qp c1 c2 c3 c4 c5 c6 c7 c8 c9 (if jm_diT K Z B Y u = 0 then ju K (jm_newInode K) 2 else K) (if jm_diT K Z B Y u = 0 then ju Z ((jm_lead K Z Y u).2.1.getD 0) (Z ((jm_lead K Z Y u).2.1.getD 0) + 2) else Z) (if jm_diT K Z B Y u = 0 then ju N (jm_newInode K) ((N (jm_newInode K) + 1) % 256) else N) (if jm_diT K Z B Y u = 0 then jm_resB B m ((jm_lead K Z Y u).2.1.getD 0) (Z ((jm_lead K Z Y u).2.1.getD 0) + 2) else B) (if jm_diT K Z B Y u = 0 then ju (ju (jm_resY Y ((jm_lead K Z Y u).2.1.getD 0) (Z ((jm_lead K Z Y u).2.1.getD 0) + 2)) (((jm_lead K Z Y u).2.1.getD 0) * 64 + Z ((jm_lead K Z Y u).2.1.getD 0)) (jm_lead K Z Y u).2.2.2.2) (((jm_lead K Z Y u).2.1.getD 0) * 64 + Z ((jm_lead K Z Y u).2.1.getD 0) + 1) (jm_newInode K) else Y) I O M P ct wr ofs (jm_diT K Z B Y u) (if jm_badPath u = 0 then (jm_lead K Z Y u).2.1 else pa) (if jm_badPath u = 0 then (jm_lead K Z Y u).2.2.1 else ey) (if jm_badPath u = 0 then (jm_lead K Z Y u).2.2.2.1 else fo) (if jm_badPath u = 0 then (jm_lead K Z Y u).2.2.2.2 else la) := by first | with_reducible rfl | (simp [jm_diT, c_2, c_5, hj_7, c_9, c_10]; done)
            rw [he] at hP hD
            exact jm_reti C (by first | with_reducible rfl | (simp [jm_diT, c_2, c_5, hj_7, c_9, c_10]; done)) hP hD hK hS ⟨Nat.le_of_ble_eq_true rfl, Nat.le_of_ble_eq_true rfl⟩ dd_M_directory_73
        · skip
          obtain ⟨p_11, hp_11, hq_11, hr_11, hs_11⟩ := jm_lead_none (by assumption) (by assumption) (by assumption : (jm_lead K Z Y u).2.2.2.1 = none)
          rw [hp_11] at hP hD
          have hP : va_P G jcl (wM qM qK qZ qN qB qY qi qo qm qp c1 c2 c3 c4 c5 c6 c7 c8 c9 K Z N B Y I O M P ct wr ofs th (some p_11) ((jm_lead K Z Y u).2.2.1) none ((jm_lead K Z Y u).2.2.2.2)) H := hP
          have hD : va_D A (wM qM qK qZ qN qB qY qi qo qm qp c1 c2 c3 c4 c5 c6 c7 c8 c9 K Z N B Y I O M P ct wr ofs th (some p_11) ((jm_lead K Z Y u).2.2.1) none ((jm_lead K Z Y u).2.2.2.2)) := hD
          refine lv_aload_n hx hb dd_M_directory_45 rfl (lv_at hl 0 rfl) ?_
          refine lv_aload_n hx hb dd_M_directory_46 rfl (lv_at hl 0 rfl) ?_
          refine va_get (D := G) (ci := 4) (v := .int (nI (p_11))) (C := cn_M) (T := ft_M) (N := 17) hx hb hts uw_M hown hK hP 0 rfl rfl 13 (by decide) (hts _ tw_606) (fun _ h9 => h9) rfl dd_M_directory_47 ?_
          refine lv_iconst (v := nI 0) hx hb dd_M_directory_50 (by decide) ?_
          refine jr_callV C (ct_M_entryRoom l G qM qK qZ qN qB qY qi qo qm qp c1 c2 c3 c4 c5 c6 c7 c8 c9 K Z N B Y I O M P ct wr ofs th (some p_11) ((jm_lead K Z Y u).2.2.1) none ((jm_lead K Z Y u).2.2.2.2) p_11 0 m (by omega) (by omega) (by omega) (by assumption) (by assumption)) kl_M_86 ⟨Nat.le_of_ble_eq_true rfl, Nat.le_of_ble_eq_true rfl, rfl, rfl⟩ ⟨Nat.le_of_ble_eq_true rfl, Nat.le_of_ble_eq_true rfl⟩ (hP) (hK) (va_recv hK hP (ci := 4) (q0 := 0) rfl rfl) hl.1 rfl rfl (Nat.le_of_ble_eq_true rfl) dd_M_directory_51 ?_
          have hf_12 : jm_entryRoom Z B p_11 0 < 2 := jm_entryRoom_lt _ _ _ _
          refine jl_ifne (tgt := 61) hx hb (by omega) dd_M_directory_54 (by decide) (fun c_13 => ?_) (fun c_13 => ?_)
          · skip
            have hw8 := jm_entryRoom_32 c_13
            refine lv_iconst (v := nI 0) hx hb dd_M_directory_61 (by decide) ?_
            refine va_put (D := G) (ci := 4) (v := .int (nI (0))) (ty := .int) (C := cn_M) (T := ft_M) (N := 17) hx hb hts uw_M fy_M fo_M fn_M hown hK hP hD hS 0 rfl rfl 12 (by decide) (hts _ tw_605) (fun _ h9 => h9) rfl (by decide +kernel) rfl rfl (Nat.le_of_ble_eq_true rfl) dd_M_directory_62 (fun H locs hP hD hS => ?_)
            have hP : va_P G jcl (wM qM qK qZ qN qB qY qi qo qm qp c1 c2 c3 c4 c5 c6 c7 c8 c9 K Z N B Y I O M P ct wr ofs 0 (some p_11) ((jm_lead K Z Y u).2.2.1) none ((jm_lead K Z Y u).2.2.2.2)) H := hP
            have hD : va_D A (wM qM qK qZ qN qB qY qi qo qm qp c1 c2 c3 c4 c5 c6 c7 c8 c9 K Z N B Y I O M P ct wr ofs 0 (some p_11) ((jm_lead K Z Y u).2.2.1) none ((jm_lead K Z Y u).2.2.2.2)) := hD
            refine lv_aload_n hx hb dd_M_directory_65 rfl (lv_at hl 0 rfl) ?_
            refine va_get (D := G) (ci := 4) (v := .int (nI (0))) (C := cn_M) (T := ft_M) (N := 17) hx hb hts uw_M hown hK hP 0 rfl rfl 12 (by decide) (hts _ tw_605) (fun _ h9 => h9) rfl dd_M_directory_66 ?_
            refine jl_ifeq (tgt := 74) hx hb (by omega) dd_M_directory_69 (by decide) (fun c_14 => ?_) (fun c_14 => ?_)
            · skip
              refine lv_aload_n hx hb dd_M_directory_74 rfl (lv_at hl 0 rfl) ?_
              refine lv_iconst (v := nI 2) hx hb dd_M_directory_75 (by decide) ?_
              refine jm_callV (wr := []) C (ct_M_create l G qM qK qZ qN qB qY qi qo qm qp c1 c2 c3 c4 c5 c6 c7 c8 c9 K Z N B Y I O M P ct wr ofs 0 (some p_11) ((jm_lead K Z Y u).2.2.1) none ((jm_lead K Z Y u).2.2.2.2) 2 (by omega) (by assumption) (by assumption)) kl_M_89 ⟨Nat.le_of_ble_eq_true rfl, Nat.le_of_ble_eq_true rfl⟩ ⟨Nat.le_of_ble_eq_true rfl, Nat.le_of_ble_eq_true rfl⟩ hP hD hS hA (hK) (va_recv hK hP (ci := 4) (q0 := 0) rfl rfl) hl.1 rfl rfl (Nat.le_of_ble_eq_true rfl) dd_M_directory_76 (fun H locs hP hD hS => ?_)
              have hP : va_P G jcl (wM qM qK qZ qN qB qY qi qo qm qp c1 c2 c3 c4 c5 c6 c7 c8 c9 (ju K (jm_newInode K) 2) Z (ju N (jm_newInode K) ((N (jm_newInode K) + 1) % 256)) B Y I O M P ct wr ofs 0 (some p_11) ((jm_lead K Z Y u).2.2.1) none ((jm_lead K Z Y u).2.2.2.2)) H := hP
              have hD : va_D A (wM qM qK qZ qN qB qY qi qo qm qp c1 c2 c3 c4 c5 c6 c7 c8 c9 (ju K (jm_newInode K) 2) Z (ju N (jm_newInode K) ((N (jm_newInode K) + 1) % 256)) B Y I O M P ct wr ofs 0 (some p_11) ((jm_lead K Z Y u).2.2.1) none ((jm_lead K Z Y u).2.2.2.2)) := hD
              have hf_15 : jm_newInode K ≤ 12 := jm_newInode_le _
              have hf_16 : jlt 3 (ju K (jm_newInode K) 2) := ju_lt (by assumption) (by omega)
              have hf_17 : jlt 256 (ju N (jm_newInode K) ((N (jm_newInode K) + 1) % 256)) := ju_lt (by assumption) (by omega)
              refine lv_istore_n (lv' := [(2, .int (nI (jm_newInode K))), (0, .ref qM), (1, .int (nI (u)))]) hx hb dd_M_directory_79 rfl hl (by decide) rfl (fun ls hl => ?_)
              refine lv_aload_n hx hb dd_M_directory_80 rfl (lv_at hl 1 rfl) ?_
              refine lv_aload_n hx hb dd_M_directory_81 rfl (lv_at hl 1 rfl) ?_
              refine va_get (D := G) (ci := 4) (v := .int (nI (p_11))) (C := cn_M) (T := ft_M) (N := 17) hx hb hts uw_M hown hK hP 0 rfl rfl 13 (by decide) (hts _ tw_606) (fun _ h9 => h9) rfl dd_M_directory_82 ?_
              refine lv_aload_n hx hb dd_M_directory_85 rfl (lv_at hl 1 rfl) ?_
              refine va_get (D := G) (ci := 4) (v := .int (nI ((jm_lead K Z Y u).2.2.2.2))) (C := cn_M) (T := ft_M) (N := 17) hx hb hts uw_M hown hK hP 0 rfl rfl 16 (by decide) (hts _ tw_609) (fun _ h9 => h9) rfl dd_M_directory_86 ?_
              refine lv_iload_n hx hb dd_M_directory_89 rfl (lv_at hl 0 rfl) ?_
              refine jm_callV (wr := []) C (ct_M_addEntry l G qM qK qZ qN qB qY qi qo qm qp c1 c2 c3 c4 c5 c6 c7 c8 c9 (ju K (jm_newInode K) 2) Z (ju N (jm_newInode K) ((N (jm_newInode K) + 1) % 256)) B Y I O M P ct wr ofs 0 (some p_11) ((jm_lead K Z Y u).2.2.1) none ((jm_lead K Z Y u).2.2.2.2) p_11 ((jm_lead K Z Y u).2.2.2.2) (jm_newInode K) m (by omega) (by omega) (by omega) (by omega) (by omega) (by assumption) (by assumption)) kl_M_92 ⟨Nat.le_of_ble_eq_true rfl, Nat.le_of_ble_eq_true rfl⟩ ⟨Nat.le_of_ble_eq_true rfl, Nat.le_of_ble_eq_true rfl⟩ hP hD hS hA (hK) (va_recv hK hP (ci := 4) (q0 := 0) rfl rfl) hl.1 rfl rfl (Nat.le_of_ble_eq_true rfl) dd_M_directory_90 (fun H locs hP hD hS => ?_)
              have hP : va_P G jcl (wM qM qK qZ qN qB qY qi qo qm qp c1 c2 c3 c4 c5 c6 c7 c8 c9 (ju K (jm_newInode K) 2) (ju Z p_11 (Z p_11 + 2)) (ju N (jm_newInode K) ((N (jm_newInode K) + 1) % 256)) (jm_resB B m p_11 (Z p_11 + 2)) (ju (ju (jm_resY Y p_11 (Z p_11 + 2)) (p_11 * 64 + Z p_11) ((jm_lead K Z Y u).2.2.2.2)) (p_11 * 64 + Z p_11 + 1) (jm_newInode K)) I O M P ct wr ofs 0 (some p_11) ((jm_lead K Z Y u).2.2.1) none ((jm_lead K Z Y u).2.2.2.2)) H := hP
              have hD : va_D A (wM qM qK qZ qN qB qY qi qo qm qp c1 c2 c3 c4 c5 c6 c7 c8 c9 (ju K (jm_newInode K) 2) (ju Z p_11 (Z p_11 + 2)) (ju N (jm_newInode K) ((N (jm_newInode K) + 1) % 256)) (jm_resB B m p_11 (Z p_11 + 2)) (ju (ju (jm_resY Y p_11 (Z p_11 + 2)) (p_11 * 64 + Z p_11) ((jm_lead K Z Y u).2.2.2.2)) (p_11 * 64 + Z p_11 + 1) (jm_newInode K)) I O M P ct wr ofs 0 (some p_11) ((jm_lead K Z Y u).2.2.1) none ((jm_lead K Z Y u).2.2.2.2)) := hD
              have hf_18 : jlt (m + 4) (jm_resB B m p_11 (Z p_11 + 2)) := jm_rsL_lt _ _ 4 _ 0 (by omega) (by assumption)
              refine lv_iload_n hx hb dd_M_directory_93 rfl (lv_at hl 0 rfl) ?_
              have he : wM qM qK qZ qN qB qY qi qo qm qp c1 c2 c3 c4 c5 c6 c7 c8 c9 (ju K (jm_newInode K) 2) (ju Z p_11 (Z p_11 + 2)) (ju N (jm_newInode K) ((N (jm_newInode K) + 1) % 256)) (jm_resB B m p_11 (Z p_11 + 2)) (ju (ju (jm_resY Y p_11 (Z p_11 + 2)) (p_11 * 64 + Z p_11) ((jm_lead K Z Y u).2.2.2.2)) (p_11 * 64 + Z p_11 + 1) (jm_newInode K)) I O M P ct wr ofs 0 (some p_11) ((jm_lead K Z Y u).2.2.1) none ((jm_lead K Z Y u).2.2.2.2) = wM qM qK qZ qN qB qY qi qo qm qp c1 c2 c3 c4 c5 c6 c7 c8 c9 (if jm_diT K Z B Y u = 0 then ju K (jm_newInode K) 2 else K) (if jm_diT K Z B Y u = 0 then ju Z ((jm_lead K Z Y u).2.1.getD 0) (Z ((jm_lead K Z Y u).2.1.getD 0) + 2) else Z) (if jm_diT K Z B Y u = 0 then ju N (jm_newInode K) ((N (jm_newInode K) + 1) % 256) else N) (if jm_diT K Z B Y u = 0 then jm_resB B m ((jm_lead K Z Y u).2.1.getD 0) (Z ((jm_lead K Z Y u).2.1.getD 0) + 2) else B) (if jm_diT K Z B Y u = 0 then ju (ju (jm_resY Y ((jm_lead K Z Y u).2.1.getD 0) (Z ((jm_lead K Z Y u).2.1.getD 0) + 2)) (((jm_lead K Z Y u).2.1.getD 0) * 64 + Z ((jm_lead K Z Y u).2.1.getD 0)) (jm_lead K Z Y u).2.2.2.2) (((jm_lead K Z Y u).2.1.getD 0) * 64 + Z ((jm_lead K Z Y u).2.1.getD 0) + 1) (jm_newInode K) else Y) I O M P ct wr ofs (jm_diT K Z B Y u) (if jm_badPath u = 0 then (jm_lead K Z Y u).2.1 else pa) (if jm_badPath u = 0 then (jm_lead K Z Y u).2.2.1 else ey) (if jm_badPath u = 0 then (jm_lead K Z Y u).2.2.2.1 else fo) (if jm_badPath u = 0 then (jm_lead K Z Y u).2.2.2.2 else la) := by first | with_reducible rfl | (simp [jm_diT, c_2, c_5, hj_7, c_9, hp_11, c_13, c_14]; done)
              rw [he] at hP hD
              exact jm_reti C (by first | with_reducible rfl | (simp [jm_diT, c_2, c_5, hj_7, c_9, hp_11, c_13, c_14]; done)) hP hD hK hS ⟨Nat.le_of_ble_eq_true rfl, Nat.le_of_ble_eq_true rfl⟩ dd_M_directory_94
            · skip
              exact absurd c_14 (by omega)
          · skip
            refine lv_iconst (v := nI 4) hx hb dd_M_directory_57 (by decide) ?_
            refine lv_goto (tgt := 62) hx hb dd_M_directory_58 (by decide) ?_
            refine va_put (D := G) (ci := 4) (v := .int (nI (4))) (ty := .int) (C := cn_M) (T := ft_M) (N := 17) hx hb hts uw_M fy_M fo_M fn_M hown hK hP hD hS 0 rfl rfl 12 (by decide) (hts _ tw_605) (fun _ h9 => h9) rfl (by decide +kernel) rfl rfl (Nat.le_of_ble_eq_true rfl) dd_M_directory_62 (fun H locs hP hD hS => ?_)
            have hP : va_P G jcl (wM qM qK qZ qN qB qY qi qo qm qp c1 c2 c3 c4 c5 c6 c7 c8 c9 K Z N B Y I O M P ct wr ofs 4 (some p_11) ((jm_lead K Z Y u).2.2.1) none ((jm_lead K Z Y u).2.2.2.2)) H := hP
            have hD : va_D A (wM qM qK qZ qN qB qY qi qo qm qp c1 c2 c3 c4 c5 c6 c7 c8 c9 K Z N B Y I O M P ct wr ofs 4 (some p_11) ((jm_lead K Z Y u).2.2.1) none ((jm_lead K Z Y u).2.2.2.2)) := hD
            refine lv_aload_n hx hb dd_M_directory_65 rfl (lv_at hl 0 rfl) ?_
            refine va_get (D := G) (ci := 4) (v := .int (nI (4))) (C := cn_M) (T := ft_M) (N := 17) hx hb hts uw_M hown hK hP 0 rfl rfl 12 (by decide) (hts _ tw_605) (fun _ h9 => h9) rfl dd_M_directory_66 ?_
            refine jl_ifeq (tgt := 74) hx hb (by omega) dd_M_directory_69 (by decide) (fun c_19 => ?_) (fun c_19 => ?_)
            · skip
              exact absurd c_19 (by omega)
            · skip
              refine lv_iconst (v := nI 0) hx hb dd_M_directory_72 (by decide) ?_
              have he : wM qM qK qZ qN qB qY qi qo qm qp c1 c2 c3 c4 c5 c6 c7 c8 c9 K Z N B Y I O M P ct wr ofs 4 (some p_11) ((jm_lead K Z Y u).2.2.1) none ((jm_lead K Z Y u).2.2.2.2) = wM qM qK qZ qN qB qY qi qo qm qp c1 c2 c3 c4 c5 c6 c7 c8 c9 (if jm_diT K Z B Y u = 0 then ju K (jm_newInode K) 2 else K) (if jm_diT K Z B Y u = 0 then ju Z ((jm_lead K Z Y u).2.1.getD 0) (Z ((jm_lead K Z Y u).2.1.getD 0) + 2) else Z) (if jm_diT K Z B Y u = 0 then ju N (jm_newInode K) ((N (jm_newInode K) + 1) % 256) else N) (if jm_diT K Z B Y u = 0 then jm_resB B m ((jm_lead K Z Y u).2.1.getD 0) (Z ((jm_lead K Z Y u).2.1.getD 0) + 2) else B) (if jm_diT K Z B Y u = 0 then ju (ju (jm_resY Y ((jm_lead K Z Y u).2.1.getD 0) (Z ((jm_lead K Z Y u).2.1.getD 0) + 2)) (((jm_lead K Z Y u).2.1.getD 0) * 64 + Z ((jm_lead K Z Y u).2.1.getD 0)) (jm_lead K Z Y u).2.2.2.2) (((jm_lead K Z Y u).2.1.getD 0) * 64 + Z ((jm_lead K Z Y u).2.1.getD 0) + 1) (jm_newInode K) else Y) I O M P ct wr ofs (jm_diT K Z B Y u) (if jm_badPath u = 0 then (jm_lead K Z Y u).2.1 else pa) (if jm_badPath u = 0 then (jm_lead K Z Y u).2.2.1 else ey) (if jm_badPath u = 0 then (jm_lead K Z Y u).2.2.2.1 else fo) (if jm_badPath u = 0 then (jm_lead K Z Y u).2.2.2.2 else la) := by first | with_reducible rfl | (simp [jm_diT, c_2, c_5, hj_7, c_9, hp_11, c_13, c_19]; done)
              rw [he] at hP hD
              exact jm_reti C (by first | with_reducible rfl | (simp [jm_diT, c_2, c_5, hj_7, c_9, hp_11, c_13, c_19]; done)) hP hD hK hS ⟨Nat.le_of_ble_eq_true rfl, Nat.le_of_ble_eq_true rfl⟩ dd_M_directory_73
      · skip
        have ho_20 := jm_lead_fo (by assumption) hj_7
        rw [hj_7] at hP hD
        have hP : va_P G jcl (wM qM qK qZ qN qB qY qi qo qm qp c1 c2 c3 c4 c5 c6 c7 c8 c9 K Z N B Y I O M P ct wr ofs th ((jm_lead K Z Y u).2.1) ((jm_lead K Z Y u).2.2.1) (some j_7) ((jm_lead K Z Y u).2.2.2.2)) H := hP
        have hD : va_D A (wM qM qK qZ qN qB qY qi qo qm qp c1 c2 c3 c4 c5 c6 c7 c8 c9 K Z N B Y I O M P ct wr ofs th ((jm_lead K Z Y u).2.1) ((jm_lead K Z Y u).2.2.1) (some j_7) ((jm_lead K Z Y u).2.2.2.2)) := hD
        refine lv_iconst (v := nI 3) hx hb dd_M_directory_32 (by decide) ?_
        refine lv_goto (tgt := 62) hx hb dd_M_directory_33 (by decide) ?_
        refine va_put (D := G) (ci := 4) (v := .int (nI (3))) (ty := .int) (C := cn_M) (T := ft_M) (N := 17) hx hb hts uw_M fy_M fo_M fn_M hown hK hP hD hS 0 rfl rfl 12 (by decide) (hts _ tw_605) (fun _ h9 => h9) rfl (by decide +kernel) rfl rfl (Nat.le_of_ble_eq_true rfl) dd_M_directory_62 (fun H locs hP hD hS => ?_)
        have hP : va_P G jcl (wM qM qK qZ qN qB qY qi qo qm qp c1 c2 c3 c4 c5 c6 c7 c8 c9 K Z N B Y I O M P ct wr ofs 3 ((jm_lead K Z Y u).2.1) ((jm_lead K Z Y u).2.2.1) (some j_7) ((jm_lead K Z Y u).2.2.2.2)) H := hP
        have hD : va_D A (wM qM qK qZ qN qB qY qi qo qm qp c1 c2 c3 c4 c5 c6 c7 c8 c9 K Z N B Y I O M P ct wr ofs 3 ((jm_lead K Z Y u).2.1) ((jm_lead K Z Y u).2.2.1) (some j_7) ((jm_lead K Z Y u).2.2.2.2)) := hD
        refine lv_aload_n hx hb dd_M_directory_65 rfl (lv_at hl 0 rfl) ?_
        refine va_get (D := G) (ci := 4) (v := .int (nI (3))) (C := cn_M) (T := ft_M) (N := 17) hx hb hts uw_M hown hK hP 0 rfl rfl 12 (by decide) (hts _ tw_605) (fun _ h9 => h9) rfl dd_M_directory_66 ?_
        refine jl_ifeq (tgt := 74) hx hb (by omega) dd_M_directory_69 (by decide) (fun c_21 => ?_) (fun c_21 => ?_)
        · skip
          exact absurd c_21 (by omega)
        · skip
          refine lv_iconst (v := nI 0) hx hb dd_M_directory_72 (by decide) ?_
          have he : wM qM qK qZ qN qB qY qi qo qm qp c1 c2 c3 c4 c5 c6 c7 c8 c9 K Z N B Y I O M P ct wr ofs 3 ((jm_lead K Z Y u).2.1) ((jm_lead K Z Y u).2.2.1) (some j_7) ((jm_lead K Z Y u).2.2.2.2) = wM qM qK qZ qN qB qY qi qo qm qp c1 c2 c3 c4 c5 c6 c7 c8 c9 (if jm_diT K Z B Y u = 0 then ju K (jm_newInode K) 2 else K) (if jm_diT K Z B Y u = 0 then ju Z ((jm_lead K Z Y u).2.1.getD 0) (Z ((jm_lead K Z Y u).2.1.getD 0) + 2) else Z) (if jm_diT K Z B Y u = 0 then ju N (jm_newInode K) ((N (jm_newInode K) + 1) % 256) else N) (if jm_diT K Z B Y u = 0 then jm_resB B m ((jm_lead K Z Y u).2.1.getD 0) (Z ((jm_lead K Z Y u).2.1.getD 0) + 2) else B) (if jm_diT K Z B Y u = 0 then ju (ju (jm_resY Y ((jm_lead K Z Y u).2.1.getD 0) (Z ((jm_lead K Z Y u).2.1.getD 0) + 2)) (((jm_lead K Z Y u).2.1.getD 0) * 64 + Z ((jm_lead K Z Y u).2.1.getD 0)) (jm_lead K Z Y u).2.2.2.2) (((jm_lead K Z Y u).2.1.getD 0) * 64 + Z ((jm_lead K Z Y u).2.1.getD 0) + 1) (jm_newInode K) else Y) I O M P ct wr ofs (jm_diT K Z B Y u) (if jm_badPath u = 0 then (jm_lead K Z Y u).2.1 else pa) (if jm_badPath u = 0 then (jm_lead K Z Y u).2.2.1 else ey) (if jm_badPath u = 0 then (jm_lead K Z Y u).2.2.2.1 else fo) (if jm_badPath u = 0 then (jm_lead K Z Y u).2.2.2.2 else la) := by first | with_reducible rfl | (simp [jm_diT, c_2, c_5, hj_7, c_21]; done)
          rw [he] at hP hD
          exact jm_reti C (by first | with_reducible rfl | (simp [jm_diT, c_2, c_5, hj_7, c_21]; done)) hP hD hK hS ⟨Nat.le_of_ble_eq_true rfl, Nat.le_of_ble_eq_true rfl⟩ dd_M_directory_73
    · skip
      refine lv_iconst (v := nI 2) hx hb dd_M_directory_21 (by decide) ?_
      refine lv_goto (tgt := 62) hx hb dd_M_directory_22 (by decide) ?_
      refine va_put (D := G) (ci := 4) (v := .int (nI (2))) (ty := .int) (C := cn_M) (T := ft_M) (N := 17) hx hb hts uw_M fy_M fo_M fn_M hown hK hP hD hS 0 rfl rfl 12 (by decide) (hts _ tw_605) (fun _ h9 => h9) rfl (by decide +kernel) rfl rfl (Nat.le_of_ble_eq_true rfl) dd_M_directory_62 (fun H locs hP hD hS => ?_)
      have hP : va_P G jcl (wM qM qK qZ qN qB qY qi qo qm qp c1 c2 c3 c4 c5 c6 c7 c8 c9 K Z N B Y I O M P ct wr ofs 2 ((jm_lead K Z Y u).2.1) ((jm_lead K Z Y u).2.2.1) ((jm_lead K Z Y u).2.2.2.1) ((jm_lead K Z Y u).2.2.2.2)) H := hP
      have hD : va_D A (wM qM qK qZ qN qB qY qi qo qm qp c1 c2 c3 c4 c5 c6 c7 c8 c9 K Z N B Y I O M P ct wr ofs 2 ((jm_lead K Z Y u).2.1) ((jm_lead K Z Y u).2.2.1) ((jm_lead K Z Y u).2.2.2.1) ((jm_lead K Z Y u).2.2.2.2)) := hD
      refine lv_aload_n hx hb dd_M_directory_65 rfl (lv_at hl 0 rfl) ?_
      refine va_get (D := G) (ci := 4) (v := .int (nI (2))) (C := cn_M) (T := ft_M) (N := 17) hx hb hts uw_M hown hK hP 0 rfl rfl 12 (by decide) (hts _ tw_605) (fun _ h9 => h9) rfl dd_M_directory_66 ?_
      refine jl_ifeq (tgt := 74) hx hb (by omega) dd_M_directory_69 (by decide) (fun c_22 => ?_) (fun c_22 => ?_)
      · skip
        exact absurd c_22 (by omega)
      · skip
        refine lv_iconst (v := nI 0) hx hb dd_M_directory_72 (by decide) ?_
        have he : wM qM qK qZ qN qB qY qi qo qm qp c1 c2 c3 c4 c5 c6 c7 c8 c9 K Z N B Y I O M P ct wr ofs 2 ((jm_lead K Z Y u).2.1) ((jm_lead K Z Y u).2.2.1) ((jm_lead K Z Y u).2.2.2.1) ((jm_lead K Z Y u).2.2.2.2) = wM qM qK qZ qN qB qY qi qo qm qp c1 c2 c3 c4 c5 c6 c7 c8 c9 (if jm_diT K Z B Y u = 0 then ju K (jm_newInode K) 2 else K) (if jm_diT K Z B Y u = 0 then ju Z ((jm_lead K Z Y u).2.1.getD 0) (Z ((jm_lead K Z Y u).2.1.getD 0) + 2) else Z) (if jm_diT K Z B Y u = 0 then ju N (jm_newInode K) ((N (jm_newInode K) + 1) % 256) else N) (if jm_diT K Z B Y u = 0 then jm_resB B m ((jm_lead K Z Y u).2.1.getD 0) (Z ((jm_lead K Z Y u).2.1.getD 0) + 2) else B) (if jm_diT K Z B Y u = 0 then ju (ju (jm_resY Y ((jm_lead K Z Y u).2.1.getD 0) (Z ((jm_lead K Z Y u).2.1.getD 0) + 2)) (((jm_lead K Z Y u).2.1.getD 0) * 64 + Z ((jm_lead K Z Y u).2.1.getD 0)) (jm_lead K Z Y u).2.2.2.2) (((jm_lead K Z Y u).2.1.getD 0) * 64 + Z ((jm_lead K Z Y u).2.1.getD 0) + 1) (jm_newInode K) else Y) I O M P ct wr ofs (jm_diT K Z B Y u) (if jm_badPath u = 0 then (jm_lead K Z Y u).2.1 else pa) (if jm_badPath u = 0 then (jm_lead K Z Y u).2.2.1 else ey) (if jm_badPath u = 0 then (jm_lead K Z Y u).2.2.2.1 else fo) (if jm_badPath u = 0 then (jm_lead K Z Y u).2.2.2.2 else la) := by first | with_reducible rfl | (simp [jm_diT, c_2, c_5, c_22]; done)
        rw [he] at hP hD
        exact jm_reti C (by first | with_reducible rfl | (simp [jm_diT, c_2, c_5, c_22]; done)) hP hD hK hS ⟨Nat.le_of_ble_eq_true rfl, Nat.le_of_ble_eq_true rfl⟩ dd_M_directory_73
  · skip
    refine lv_iconst (v := nI 1) hx hb dd_M_directory_9 (by decide) ?_
    refine lv_goto (tgt := 62) hx hb dd_M_directory_10 (by decide) ?_
    refine va_put (D := G) (ci := 4) (v := .int (nI (1))) (ty := .int) (C := cn_M) (T := ft_M) (N := 17) hx hb hts uw_M fy_M fo_M fn_M hown hK hP hD hS 0 rfl rfl 12 (by decide) (hts _ tw_605) (fun _ h9 => h9) rfl (by decide +kernel) rfl rfl (Nat.le_of_ble_eq_true rfl) dd_M_directory_62 (fun H locs hP hD hS => ?_)
    have hP : va_P G jcl (wM qM qK qZ qN qB qY qi qo qm qp c1 c2 c3 c4 c5 c6 c7 c8 c9 K Z N B Y I O M P ct wr ofs 1 pa ey fo la) H := hP
    have hD : va_D A (wM qM qK qZ qN qB qY qi qo qm qp c1 c2 c3 c4 c5 c6 c7 c8 c9 K Z N B Y I O M P ct wr ofs 1 pa ey fo la) := hD
    refine lv_aload_n hx hb dd_M_directory_65 rfl (lv_at hl 0 rfl) ?_
    refine va_get (D := G) (ci := 4) (v := .int (nI (1))) (C := cn_M) (T := ft_M) (N := 17) hx hb hts uw_M hown hK hP 0 rfl rfl 12 (by decide) (hts _ tw_605) (fun _ h9 => h9) rfl dd_M_directory_66 ?_
    refine jl_ifeq (tgt := 74) hx hb (by omega) dd_M_directory_69 (by decide) (fun c_23 => ?_) (fun c_23 => ?_)
    · skip
      exact absurd c_23 (by omega)
    · skip
      refine lv_iconst (v := nI 0) hx hb dd_M_directory_72 (by decide) ?_
      have he : wM qM qK qZ qN qB qY qi qo qm qp c1 c2 c3 c4 c5 c6 c7 c8 c9 K Z N B Y I O M P ct wr ofs 1 pa ey fo la = wM qM qK qZ qN qB qY qi qo qm qp c1 c2 c3 c4 c5 c6 c7 c8 c9 (if jm_diT K Z B Y u = 0 then ju K (jm_newInode K) 2 else K) (if jm_diT K Z B Y u = 0 then ju Z ((jm_lead K Z Y u).2.1.getD 0) (Z ((jm_lead K Z Y u).2.1.getD 0) + 2) else Z) (if jm_diT K Z B Y u = 0 then ju N (jm_newInode K) ((N (jm_newInode K) + 1) % 256) else N) (if jm_diT K Z B Y u = 0 then jm_resB B m ((jm_lead K Z Y u).2.1.getD 0) (Z ((jm_lead K Z Y u).2.1.getD 0) + 2) else B) (if jm_diT K Z B Y u = 0 then ju (ju (jm_resY Y ((jm_lead K Z Y u).2.1.getD 0) (Z ((jm_lead K Z Y u).2.1.getD 0) + 2)) (((jm_lead K Z Y u).2.1.getD 0) * 64 + Z ((jm_lead K Z Y u).2.1.getD 0)) (jm_lead K Z Y u).2.2.2.2) (((jm_lead K Z Y u).2.1.getD 0) * 64 + Z ((jm_lead K Z Y u).2.1.getD 0) + 1) (jm_newInode K) else Y) I O M P ct wr ofs (jm_diT K Z B Y u) (if jm_badPath u = 0 then (jm_lead K Z Y u).2.1 else pa) (if jm_badPath u = 0 then (jm_lead K Z Y u).2.2.1 else ey) (if jm_badPath u = 0 then (jm_lead K Z Y u).2.2.2.1 else fo) (if jm_badPath u = 0 then (jm_lead K Z Y u).2.2.2.2 else la) := by first | with_reducible rfl | (simp [jm_diT, c_2, c_23]; done)
      rw [he] at hP hD
      exact jm_reti C (by first | with_reducible rfl | (simp [jm_diT, c_2, c_23]; done)) hP hD hK hS ⟨Nat.le_of_ble_eq_true rfl, Nat.le_of_ble_eq_true rfl⟩ dd_M_directory_73
