set_option maxHeartbeats 4000000 in
set_option maxRecDepth 100000 in
theorem ct_M_remove (l : Launch) (G : va_G) (qM qK qZ qN qB qY qi qo qm qp : Nat) (c1 c2 c3 c4 c5 c6 c7 c8 c9 : ClassId) (K : Nat → Nat) (Z : Nat → Nat) (N : Nat → Nat) (B : Nat → Nat) (Y : Nat → Nat) (I : Nat → Nat) (O : Nat → Nat) (M : Nat → Nat) (P : Nat → Nat) (ct : Nat) (wr : Nat) (ofs : Nat) (th : Nat) (pa : Option Nat) (ey : Option Nat) (fo : Option Nat) (la : Nat) (u : Nat) (m : Nat) (hP0 : u < 4294967296) (hE : jm_ents K Z Y) (hm0 : 9 ≤ m ∧ m < 1000) (hB : jlt m B) (hK : jlt 3 K) (hZ : jlt 65 Z) (hY : jlt 256 Y) : jm l yn_M_remove (.code yn_M_remove cd_M_remove 3 none) { frames := 4, cells := 0, slots := 0, locals := 90 } G (tM c1 c2 c3 c4 c5 c6 c7 c8 c9) (wM qM qK qZ qN qB qY qi qo qm qp c1 c2 c3 c4 c5 c6 c7 c8 c9 K Z N B Y I O M P ct wr ofs th pa ey fo la) [.ref qM, .int (nI (u))] none (wM qM qK qZ qN qB qY qi qo qm qp c1 c2 c3 c4 c5 c6 c7 c8 c9 (if jm_rmT K Z Y u = 0 then ju K ((jm_lead K Z Y u).2.2.2.1.getD 0) 0 else K) (if jm_rmT K Z Y u = 0 then ju (ju Z ((jm_lead K Z Y u).2.1.getD 0) (Z ((jm_lead K Z Y u).2.1.getD 0) - 2)) ((jm_lead K Z Y u).2.2.2.1.getD 0) 0 else Z) N (if jm_rmT K Z Y u = 0 then jm_resB (jm_resB B m ((jm_lead K Z Y u).2.1.getD 0) (Z ((jm_lead K Z Y u).2.1.getD 0) - 2)) (m + 4) ((jm_lead K Z Y u).2.2.2.1.getD 0) 0 else B) (if jm_rmT K Z Y u = 0 then jm_resY (jm_drY Z Y ((jm_lead K Z Y u).2.1.getD 0) ((jm_lead K Z Y u).2.2.1.getD 0)) ((jm_lead K Z Y u).2.2.2.1.getD 0) 0 else Y) I O M P ct wr ofs (jm_rmT K Z Y u) (if jm_badPath u = 0 then (jm_lead K Z Y u).2.1 else pa) (if jm_badPath u = 0 then (jm_lead K Z Y u).2.2.1 else ey) (if jm_badPath u = 0 then (jm_lead K Z Y u).2.2.2.1 else fo) (if jm_badPath u = 0 then (jm_lead K Z Y u).2.2.2.2 else la)) := by
  refine jm_of (by decide) (Nat.le_of_ble_eq_true rfl) ?_
  intro pr en σ mi bel met cd ls A hA C hP hK hD hS hl
  have hx := C.1
  have hb := C.2.1
  have hown := C.2.2.2.1
  have hts := C.2.2.2.2.1
  have hl : lv_has ls 3 [(0, .ref qM), (1, .int (nI (u)))] := hl
  refine lv_aload_n hx hb dd_M_remove_0 rfl (lv_at hl 0 rfl) ?_
  refine lv_aload_n hx hb dd_M_remove_1 rfl (lv_at hl 0 rfl) ?_
  refine lv_iload_n hx hb dd_M_remove_2 rfl (lv_at hl 1 rfl) ?_
  refine jr_callV C (ct_M_badPath l G qM qK qZ qN qB qY qi qo qm qp c1 c2 c3 c4 c5 c6 c7 c8 c9 K Z N B Y I O M P ct wr ofs th pa ey fo la u (by omega)) kl_M_79 ⟨Nat.le_of_ble_eq_true rfl, Nat.le_of_ble_eq_true rfl, rfl, rfl⟩ ⟨Nat.le_of_ble_eq_true rfl, Nat.le_of_ble_eq_true rfl⟩ (hP) (hK) (va_recv hK hP (ci := 4) (q0 := 0) rfl rfl) hl.1 rfl rfl (Nat.le_of_ble_eq_true rfl) dd_M_remove_3 ?_
  have hf_1 : jm_badPath u < 2 := jm_bpL_lt _ _ _
  refine jl_ifeq (tgt := 13) hx hb (by omega) dd_M_remove_6 (by decide) (fun c_2 => ?_) (fun c_2 => ?_)
  · skip
    refine lv_aload_n hx hb dd_M_remove_13 rfl (lv_at hl 0 rfl) ?_
    refine lv_iload_n hx hb dd_M_remove_14 rfl (lv_at hl 1 rfl) ?_
    refine jm_callV (wr := []) C (ct_M_lead l G qM qK qZ qN qB qY qi qo qm qp c1 c2 c3 c4 c5 c6 c7 c8 c9 K Z N B Y I O M P ct wr ofs th pa ey fo la u (by omega) (by assumption) (by assumption) (by assumption) (by assumption)) kl_M_83 ⟨Nat.le_of_ble_eq_true rfl, Nat.le_of_ble_eq_true rfl⟩ ⟨Nat.le_of_ble_eq_true rfl, Nat.le_of_ble_eq_true rfl⟩ hP hD hS hA (hK) (va_recv hK hP (ci := 4) (q0 := 0) rfl rfl) hl.1 rfl rfl (Nat.le_of_ble_eq_true rfl) dd_M_remove_15 (fun H locs hP hD hS => ?_)
    have hP : va_P G jcl (wM qM qK qZ qN qB qY qi qo qm qp c1 c2 c3 c4 c5 c6 c7 c8 c9 K Z N B Y I O M P ct wr ofs th ((jm_lead K Z Y u).2.1) ((jm_lead K Z Y u).2.2.1) ((jm_lead K Z Y u).2.2.2.1) ((jm_lead K Z Y u).2.2.2.2)) H := hP
    have hD : va_D A (wM qM qK qZ qN qB qY qi qo qm qp c1 c2 c3 c4 c5 c6 c7 c8 c9 K Z N B Y I O M P ct wr ofs th ((jm_lead K Z Y u).2.1) ((jm_lead K Z Y u).2.2.1) ((jm_lead K Z Y u).2.2.2.1) ((jm_lead K Z Y u).2.2.2.2)) := hD
    have hf_3 : (jm_lead K Z Y u).1 < 2 := jm_lead_lt (by assumption) _
    have hf_4 : (jm_lead K Z Y u).2.2.2.2 < 256 := jm_lead_la (by assumption) _
    refine jl_ifeq (tgt := 28) hx hb (by omega) dd_M_remove_18 (by decide) (fun c_5 => ?_) (fun c_5 => ?_)
    · skip
      refine lv_iconst (v := nI 2) hx hb dd_M_remove_28 (by decide) ?_
      refine lv_goto (tgt := 69) hx hb dd_M_remove_29 (by decide) ?_
      refine va_put (D := G) (ci := 4) (v := .int (nI (2))) (ty := .int) (C := cn_M) (T := ft_M) (N := 17) hx hb hts uw_M fy_M fo_M fn_M hown hK hP hD hS 0 rfl rfl 12 (by decide) (hts _ tw_605) (fun _ h9 => h9) rfl (by decide +kernel) rfl rfl (Nat.le_of_ble_eq_true rfl) dd_M_remove_69 (fun H locs hP hD hS => ?_)
      have hP : va_P G jcl (wM qM qK qZ qN qB qY qi qo qm qp c1 c2 c3 c4 c5 c6 c7 c8 c9 K Z N B Y I O M P ct wr ofs 2 ((jm_lead K Z Y u).2.1) ((jm_lead K Z Y u).2.2.1) ((jm_lead K Z Y u).2.2.2.1) ((jm_lead K Z Y u).2.2.2.2)) H := hP
      have hD : va_D A (wM qM qK qZ qN qB qY qi qo qm qp c1 c2 c3 c4 c5 c6 c7 c8 c9 K Z N B Y I O M P ct wr ofs 2 ((jm_lead K Z Y u).2.1) ((jm_lead K Z Y u).2.2.1) ((jm_lead K Z Y u).2.2.2.1) ((jm_lead K Z Y u).2.2.2.2)) := hD
      refine lv_aload_n hx hb dd_M_remove_72 rfl (lv_at hl 0 rfl) ?_
      refine va_get (D := G) (ci := 4) (v := .int (nI (2))) (C := cn_M) (T := ft_M) (N := 17) hx hb hts uw_M hown hK hP 0 rfl rfl 12 (by decide) (hts _ tw_605) (fun _ h9 => h9) rfl dd_M_remove_73 ?_
      refine jl_ifeq (tgt := 80) hx hb (by omega) dd_M_remove_76 (by decide) (fun c_6 => ?_) (fun c_6 => ?_)
      · skip
        exact absurd c_6 (by omega)
      · skip
        have he : wM qM qK qZ qN qB qY qi qo qm qp c1 c2 c3 c4 c5 c6 c7 c8 c9 K Z N B Y I O M P ct wr ofs 2 ((jm_lead K Z Y u).2.1) ((jm_lead K Z Y u).2.2.1) ((jm_lead K Z Y u).2.2.2.1) ((jm_lead K Z Y u).2.2.2.2) = wM qM qK qZ qN qB qY qi qo qm qp c1 c2 c3 c4 c5 c6 c7 c8 c9 (if jm_rmT K Z Y u = 0 then ju K ((jm_lead K Z Y u).2.2.2.1.getD 0) 0 else K) (if jm_rmT K Z Y u = 0 then ju (ju Z ((jm_lead K Z Y u).2.1.getD 0) (Z ((jm_lead K Z Y u).2.1.getD 0) - 2)) ((jm_lead K Z Y u).2.2.2.1.getD 0) 0 else Z) N (if jm_rmT K Z Y u = 0 then jm_resB (jm_resB B m ((jm_lead K Z Y u).2.1.getD 0) (Z ((jm_lead K Z Y u).2.1.getD 0) - 2)) (m + 4) ((jm_lead K Z Y u).2.2.2.1.getD 0) 0 else B) (if jm_rmT K Z Y u = 0 then jm_resY (jm_drY Z Y ((jm_lead K Z Y u).2.1.getD 0) ((jm_lead K Z Y u).2.2.1.getD 0)) ((jm_lead K Z Y u).2.2.2.1.getD 0) 0 else Y) I O M P ct wr ofs (jm_rmT K Z Y u) (if jm_badPath u = 0 then (jm_lead K Z Y u).2.1 else pa) (if jm_badPath u = 0 then (jm_lead K Z Y u).2.2.1 else ey) (if jm_badPath u = 0 then (jm_lead K Z Y u).2.2.2.1 else fo) (if jm_badPath u = 0 then (jm_lead K Z Y u).2.2.2.2 else la) := by first | with_reducible rfl | (simp [jm_rmT, jm_drY, c_2, c_5, c_6]; done)
        rw [he] at hP hD
        exact jm_retv C hP hD hK hS ⟨Nat.le_of_ble_eq_true rfl, Nat.le_of_ble_eq_true rfl⟩ dd_M_remove_79
    · skip
      refine lv_aload_n hx hb dd_M_remove_21 rfl (lv_at hl 0 rfl) ?_
      refine va_get (D := G) (ci := 4) (v := .int (jo ((jm_lead K Z Y u).2.2.2.1))) (C := cn_M) (T := ft_M) (N := 17) hx hb hts uw_M hown hK hP 0 rfl rfl 15 (by decide) (hts _ tw_608) (fun _ h9 => h9) rfl dd_M_remove_22 ?_
      refine jl_ifgeO (tgt := 32) hx hb (fun j h => Nat.lt_of_lt_of_le (jm_lead_fo (by assumption) h) (by omega)) dd_M_remove_25 (by decide) (fun j_8 hj_8 => ?_) (fun hj_8 => ?_)
      · skip
        have ho_9 := jm_lead_fo (by assumption) hj_8
        rw [hj_8] at hP hD
        have hP : va_P G jcl (wM qM qK qZ qN qB qY qi qo qm qp c1 c2 c3 c4 c5 c6 c7 c8 c9 K Z N B Y I O M P ct wr ofs th ((jm_lead K Z Y u).2.1) ((jm_lead K Z Y u).2.2.1) (some j_8) ((jm_lead K Z Y u).2.2.2.2)) H := hP
        have hD : va_D A (wM qM qK qZ qN qB qY qi qo qm qp c1 c2 c3 c4 c5 c6 c7 c8 c9 K Z N B Y I O M P ct wr ofs th ((jm_lead K Z Y u).2.1) ((jm_lead K Z Y u).2.2.1) (some j_8) ((jm_lead K Z Y u).2.2.2.2)) := hD
        refine lv_aload_n hx hb dd_M_remove_32 rfl (lv_at hl 0 rfl) ?_
        refine va_get (D := G) (ci := 4) (v := .int (jo ((jm_lead K Z Y u).2.1))) (C := cn_M) (T := ft_M) (N := 17) hx hb hts uw_M hown hK hP 0 rfl rfl 13 (by decide) (hts _ tw_606) (fun _ h9 => h9) rfl dd_M_remove_33 ?_
        refine jl_ifltO (tgt := 64) hx hb (fun j h => Nat.lt_of_lt_of_le (jm_lead_pa (by assumption) h) (by omega)) dd_M_remove_36 (by decide) (fun hj_11 => ?_) (fun j_11 hj_11 => ?_)
        · skip
          rw [hj_11] at hP hD
          have hP : va_P G jcl (wM qM qK qZ qN qB qY qi qo qm qp c1 c2 c3 c4 c5 c6 c7 c8 c9 K Z N B Y I O M P ct wr ofs th none ((jm_lead K Z Y u).2.2.1) (some j_8) ((jm_lead K Z Y u).2.2.2.2)) H := hP
          have hD : va_D A (wM qM qK qZ qN qB qY qi qo qm qp c1 c2 c3 c4 c5 c6 c7 c8 c9 K Z N B Y I O M P ct wr ofs th none ((jm_lead K Z Y u).2.2.1) (some j_8) ((jm_lead K Z Y u).2.2.2.2)) := hD
          refine lv_iconst (v := nI 3) hx hb dd_M_remove_64 (by decide) ?_
          refine lv_goto (tgt := 69) hx hb dd_M_remove_65 (by decide) ?_
          refine va_put (D := G) (ci := 4) (v := .int (nI (3))) (ty := .int) (C := cn_M) (T := ft_M) (N := 17) hx hb hts uw_M fy_M fo_M fn_M hown hK hP hD hS 0 rfl rfl 12 (by decide) (hts _ tw_605) (fun _ h9 => h9) rfl (by decide +kernel) rfl rfl (Nat.le_of_ble_eq_true rfl) dd_M_remove_69 (fun H locs hP hD hS => ?_)
          have hP : va_P G jcl (wM qM qK qZ qN qB qY qi qo qm qp c1 c2 c3 c4 c5 c6 c7 c8 c9 K Z N B Y I O M P ct wr ofs 3 none ((jm_lead K Z Y u).2.2.1) (some j_8) ((jm_lead K Z Y u).2.2.2.2)) H := hP
          have hD : va_D A (wM qM qK qZ qN qB qY qi qo qm qp c1 c2 c3 c4 c5 c6 c7 c8 c9 K Z N B Y I O M P ct wr ofs 3 none ((jm_lead K Z Y u).2.2.1) (some j_8) ((jm_lead K Z Y u).2.2.2.2)) := hD
          refine lv_aload_n hx hb dd_M_remove_72 rfl (lv_at hl 0 rfl) ?_
          refine va_get (D := G) (ci := 4) (v := .int (nI (3))) (C := cn_M) (T := ft_M) (N := 17) hx hb hts uw_M hown hK hP 0 rfl rfl 12 (by decide) (hts _ tw_605) (fun _ h9 => h9) rfl dd_M_remove_73 ?_
          refine jl_ifeq (tgt := 80) hx hb (by omega) dd_M_remove_76 (by decide) (fun c_12 => ?_) (fun c_12 => ?_)
          · skip
            exact absurd c_12 (by omega)
          · skip
            have he : wM qM qK qZ qN qB qY qi qo qm qp c1 c2 c3 c4 c5 c6 c7 c8 c9 K Z N B Y I O M P ct wr ofs 3 none ((jm_lead K Z Y u).2.2.1) (some j_8) ((jm_lead K Z Y u).2.2.2.2) = wM qM qK qZ qN qB qY qi qo qm qp c1 c2 c3 c4 c5 c6 c7 c8 c9 (if jm_rmT K Z Y u = 0 then ju K ((jm_lead K Z Y u).2.2.2.1.getD 0) 0 else K) (if jm_rmT K Z Y u = 0 then ju (ju Z ((jm_lead K Z Y u).2.1.getD 0) (Z ((jm_lead K Z Y u).2.1.getD 0) - 2)) ((jm_lead K Z Y u).2.2.2.1.getD 0) 0 else Z) N (if jm_rmT K Z Y u = 0 then jm_resB (jm_resB B m ((jm_lead K Z Y u).2.1.getD 0) (Z ((jm_lead K Z Y u).2.1.getD 0) - 2)) (m + 4) ((jm_lead K Z Y u).2.2.2.1.getD 0) 0 else B) (if jm_rmT K Z Y u = 0 then jm_resY (jm_drY Z Y ((jm_lead K Z Y u).2.1.getD 0) ((jm_lead K Z Y u).2.2.1.getD 0)) ((jm_lead K Z Y u).2.2.2.1.getD 0) 0 else Y) I O M P ct wr ofs (jm_rmT K Z Y u) (if jm_badPath u = 0 then (jm_lead K Z Y u).2.1 else pa) (if jm_badPath u = 0 then (jm_lead K Z Y u).2.2.1 else ey) (if jm_badPath u = 0 then (jm_lead K Z Y u).2.2.2.1 else fo) (if jm_badPath u = 0 then (jm_lead K Z Y u).2.2.2.2 else la) := by first | with_reducible rfl | (simp [jm_rmT, jm_drY, c_2, c_5, hj_8, hj_11, c_12]; done)
            rw [he] at hP hD
            exact jm_retv C hP hD hK hS ⟨Nat.le_of_ble_eq_true rfl, Nat.le_of_ble_eq_true rfl⟩ dd_M_remove_79
        · skip
          have ho_13 := jm_lead_pa (by assumption) hj_11
          rw [hj_11] at hP hD
          have hP : va_P G jcl (wM qM qK qZ qN qB qY qi qo qm qp c1 c2 c3 c4 c5 c6 c7 c8 c9 K Z N B Y I O M P ct wr ofs th (some j_11) ((jm_lead K Z Y u).2.2.1) (some j_8) ((jm_lead K Z Y u).2.2.2.2)) H := hP
          have hD : va_D A (wM qM qK qZ qN qB qY qi qo qm qp c1 c2 c3 c4 c5 c6 c7 c8 c9 K Z N B Y I O M P ct wr ofs th (some j_11) ((jm_lead K Z Y u).2.2.1) (some j_8) ((jm_lead K Z Y u).2.2.2.2)) := hD
          refine lv_aload_n hx hb dd_M_remove_39 rfl (lv_at hl 0 rfl) ?_
          refine va_get (D := G) (ci := 4) (v := .ref qK) (C := cn_M) (T := ft_M) (N := 17) hx hb hts uw_M hown hK hP 0 rfl rfl 0 (by decide) (hts _ tw_593) (fun _ h9 => h9) rfl dd_M_remove_40 ?_
          refine lv_aload_n hx hb dd_M_remove_43 rfl (lv_at hl 0 rfl) ?_
          refine va_get (D := G) (ci := 4) (v := .int (nI (j_8))) (C := cn_M) (T := ft_M) (N := 17) hx hb hts uw_M hown hK hP 0 rfl rfl 15 (by decide) (hts _ tw_608) (fun _ h9 => h9) rfl dd_M_remove_44 ?_
          refine va_iald hx hb hK hP 1 0 rfl rfl (vp_in_nI (by omega) (by decide)) dd_M_remove_47 ?_
          refine jl_top (jn_at (K) (by omega)) ?_
          have hf_14 : K j_8 < 3 := (by assumption : jlt 3 K) _
          refine lv_iconst (v := nI 2) hx hb dd_M_remove_48 (by decide) ?_
          refine jl_ne (tgt := 68) hx hb (by omega) (by omega) dd_M_remove_49 (by decide) (fun c_15 => ?_) (fun c_15 => ?_)
          · skip
            refine lv_iconst (v := nI 0) hx hb dd_M_remove_68 (by decide) ?_
            refine va_put (D := G) (ci := 4) (v := .int (nI (0))) (ty := .int) (C := cn_M) (T := ft_M) (N := 17) hx hb hts uw_M fy_M fo_M fn_M hown hK hP hD hS 0 rfl rfl 12 (by decide) (hts _ tw_605) (fun _ h9 => h9) rfl (by decide +kernel) rfl rfl (Nat.le_of_ble_eq_true rfl) dd_M_remove_69 (fun H locs hP hD hS => ?_)
            have hP : va_P G jcl (wM qM qK qZ qN qB qY qi qo qm qp c1 c2 c3 c4 c5 c6 c7 c8 c9 K Z N B Y I O M P ct wr ofs 0 (some j_11) ((jm_lead K Z Y u).2.2.1) (some j_8) ((jm_lead K Z Y u).2.2.2.2)) H := hP
            have hD : va_D A (wM qM qK qZ qN qB qY qi qo qm qp c1 c2 c3 c4 c5 c6 c7 c8 c9 K Z N B Y I O M P ct wr ofs 0 (some j_11) ((jm_lead K Z Y u).2.2.1) (some j_8) ((jm_lead K Z Y u).2.2.2.2)) := hD
            refine lv_aload_n hx hb dd_M_remove_72 rfl (lv_at hl 0 rfl) ?_
            refine va_get (D := G) (ci := 4) (v := .int (nI (0))) (C := cn_M) (T := ft_M) (N := 17) hx hb hts uw_M hown hK hP 0 rfl rfl 12 (by decide) (hts _ tw_605) (fun _ h9 => h9) rfl dd_M_remove_73 ?_
            refine jl_ifeq (tgt := 80) hx hb (by omega) dd_M_remove_76 (by decide) (fun c_16 => ?_) (fun c_16 => ?_)
            · skip
              refine lv_aload_n hx hb dd_M_remove_80 rfl (lv_at hl 0 rfl) ?_
              refine va_get (D := G) (ci := 4) (v := .int (nI (j_8))) (C := cn_M) (T := ft_M) (N := 17) hx hb hts uw_M hown hK hP 0 rfl rfl 15 (by decide) (hts _ tw_608) (fun _ h9 => h9) rfl dd_M_remove_81 ?_
              refine lv_istore_n (lv' := [(2, .int (nI (j_8))), (0, .ref qM), (1, .int (nI (u)))]) hx hb dd_M_remove_84 rfl hl (by decide) rfl (fun ls hl => ?_)
              obtain ⟨j_17, hp_17, hq_17, hr_17, hs_17⟩ := jm_lead_some (u := u) (by assumption) (by assumption) (by assumption : (jm_lead K Z Y u).2.1 = some j_11) (by assumption : (jm_lead K Z Y u).2.2.2.1 = some j_8)
              have hz_17 := (by assumption : jlt 65 Z) j_11
              rw [hp_17] at hP hD
              have hP : va_P G jcl (wM qM qK qZ qN qB qY qi qo qm qp c1 c2 c3 c4 c5 c6 c7 c8 c9 K Z N B Y I O M P ct wr ofs 0 (some j_11) (some j_17) (some j_8) ((jm_lead K Z Y u).2.2.2.2)) H := hP
              have hD : va_D A (wM qM qK qZ qN qB qY qi qo qm qp c1 c2 c3 c4 c5 c6 c7 c8 c9 K Z N B Y I O M P ct wr ofs 0 (some j_11) (some j_17) (some j_8) ((jm_lead K Z Y u).2.2.2.2)) := hD
              refine lv_aload_n hx hb dd_M_remove_85 rfl (lv_at hl 1 rfl) ?_
              refine lv_aload_n hx hb dd_M_remove_86 rfl (lv_at hl 1 rfl) ?_
              refine va_get (D := G) (ci := 4) (v := .int (nI (j_11))) (C := cn_M) (T := ft_M) (N := 17) hx hb hts uw_M hown hK hP 0 rfl rfl 13 (by decide) (hts _ tw_606) (fun _ h9 => h9) rfl dd_M_remove_87 ?_
              refine lv_aload_n hx hb dd_M_remove_90 rfl (lv_at hl 1 rfl) ?_
              refine va_get (D := G) (ci := 4) (v := .int (nI (j_17))) (C := cn_M) (T := ft_M) (N := 17) hx hb hts uw_M hown hK hP 0 rfl rfl 14 (by decide) (hts _ tw_607) (fun _ h9 => h9) rfl dd_M_remove_91 ?_
              refine jm_callV (wr := []) C (ct_M_dropEntry l G qM qK qZ qN qB qY qi qo qm qp c1 c2 c3 c4 c5 c6 c7 c8 c9 K Z N B Y I O M P ct wr ofs 0 (some j_11) (some j_17) (some j_8) ((jm_lead K Z Y u).2.2.2.2) j_11 j_17 m (by omega) (by omega) (by omega) (by omega) (by assumption) (by assumption) (by assumption)) kl_M_111 ⟨Nat.le_of_ble_eq_true rfl, Nat.le_of_ble_eq_true rfl⟩ ⟨Nat.le_of_ble_eq_true rfl, Nat.le_of_ble_eq_true rfl⟩ hP hD hS hA (hK) (va_recv hK hP (ci := 4) (q0 := 0) rfl rfl) hl.1 rfl rfl (Nat.le_of_ble_eq_true rfl) dd_M_remove_94 (fun H locs hP hD hS => ?_)
              have hP : va_P G jcl (wM qM qK qZ qN qB qY qi qo qm qp c1 c2 c3 c4 c5 c6 c7 c8 c9 K (ju Z j_11 (Z j_11 - 2)) N (jm_resB B m j_11 (Z j_11 - 2)) (jm_resY (ju (ju Y (j_11 * 64 + j_17 * 2) (Y (j_11 * 64 + (Z j_11 - 2)))) (j_11 * 64 + j_17 * 2 + 1) (ju Y (j_11 * 64 + j_17 * 2) (Y (j_11 * 64 + (Z j_11 - 2))) (j_11 * 64 + (Z j_11 - 2) + 1))) j_11 (Z j_11 - 2)) I O M P ct wr ofs 0 (some j_11) (some j_17) (some j_8) ((jm_lead K Z Y u).2.2.2.2)) H := hP
              have hD : va_D A (wM qM qK qZ qN qB qY qi qo qm qp c1 c2 c3 c4 c5 c6 c7 c8 c9 K (ju Z j_11 (Z j_11 - 2)) N (jm_resB B m j_11 (Z j_11 - 2)) (jm_resY (ju (ju Y (j_11 * 64 + j_17 * 2) (Y (j_11 * 64 + (Z j_11 - 2)))) (j_11 * 64 + j_17 * 2 + 1) (ju Y (j_11 * 64 + j_17 * 2) (Y (j_11 * 64 + (Z j_11 - 2))) (j_11 * 64 + (Z j_11 - 2) + 1))) j_11 (Z j_11 - 2)) I O M P ct wr ofs 0 (some j_11) (some j_17) (some j_8) ((jm_lead K Z Y u).2.2.2.2)) := hD
              have hf_18 : jlt (m + 4) (jm_resB B m j_11 (Z j_11 - 2)) := jm_rsL_lt _ _ 4 _ 0 (by omega) (by assumption)
              refine lv_aload_n hx hb dd_M_remove_97 rfl (lv_at hl 1 rfl) ?_
              refine lv_iload_n hx hb dd_M_remove_98 rfl (lv_at hl 0 rfl) ?_
              refine jm_callV (wr := []) C (ct_M_release l G qM qK qZ qN qB qY qi qo qm qp c1 c2 c3 c4 c5 c6 c7 c8 c9 K (ju Z j_11 (Z j_11 - 2)) N (jm_resB B m j_11 (Z j_11 - 2)) (jm_resY (ju (ju Y (j_11 * 64 + j_17 * 2) (Y (j_11 * 64 + (Z j_11 - 2)))) (j_11 * 64 + j_17 * 2 + 1) (ju Y (j_11 * 64 + j_17 * 2) (Y (j_11 * 64 + (Z j_11 - 2))) (j_11 * 64 + (Z j_11 - 2) + 1))) j_11 (Z j_11 - 2)) I O M P ct wr ofs 0 (some j_11) (some j_17) (some j_8) ((jm_lead K Z Y u).2.2.2.2) j_8 (m + 4) (by omega) (by omega) (by assumption)) kl_M_114 ⟨Nat.le_of_ble_eq_true rfl, Nat.le_of_ble_eq_true rfl⟩ ⟨Nat.le_of_ble_eq_true rfl, Nat.le_of_ble_eq_true rfl⟩ hP hD hS hA (hK) (va_recv hK hP (ci := 4) (q0 := 0) rfl rfl) hl.1 rfl rfl (Nat.le_of_ble_eq_true rfl) dd_M_remove_99 (fun H locs hP hD hS => ?_)
              have hP : va_P G jcl (wM qM qK qZ qN qB qY qi qo qm qp c1 c2 c3 c4 c5 c6 c7 c8 c9 (ju K j_8 0) (ju (ju Z j_11 (Z j_11 - 2)) j_8 0) N (jm_resB (jm_resB B m j_11 (Z j_11 - 2)) (m + 4) j_8 0) (jm_resY (jm_resY (ju (ju Y (j_11 * 64 + j_17 * 2) (Y (j_11 * 64 + (Z j_11 - 2)))) (j_11 * 64 + j_17 * 2 + 1) (ju Y (j_11 * 64 + j_17 * 2) (Y (j_11 * 64 + (Z j_11 - 2))) (j_11 * 64 + (Z j_11 - 2) + 1))) j_11 (Z j_11 - 2)) j_8 0) I O M P ct wr ofs 0 (some j_11) (some j_17) (some j_8) ((jm_lead K Z Y u).2.2.2.2)) H := hP
              have hD : va_D A (wM qM qK qZ qN qB qY qi qo qm qp c1 c2 c3 c4 c5 c6 c7 c8 c9 (ju K j_8 0) (ju (ju Z j_11 (Z j_11 - 2)) j_8 0) N (jm_resB (jm_resB B m j_11 (Z j_11 - 2)) (m + 4) j_8 0) (jm_resY (jm_resY (ju (ju Y (j_11 * 64 + j_17 * 2) (Y (j_11 * 64 + (Z j_11 - 2)))) (j_11 * 64 + j_17 * 2 + 1) (ju Y (j_11 * 64 + j_17 * 2) (Y (j_11 * 64 + (Z j_11 - 2))) (j_11 * 64 + (Z j_11 - 2) + 1))) j_11 (Z j_11 - 2)) j_8 0) I O M P ct wr ofs 0 (some j_11) (some j_17) (some j_8) ((jm_lead K Z Y u).2.2.2.2)) := hD
              have hf_19 : jlt ((m + 4) + 4) (jm_resB (jm_resB B m j_11 (Z j_11 - 2)) (m + 4) j_8 0) := jm_rsL_lt _ _ 4 _ 0 (by omega) (by assumption)
              have he : wM qM qK qZ qN qB qY qi qo qm qp c1 c2 c3 c4 c5 c6 c7 c8 c9 (ju K j_8 0) (ju (ju Z j_11 (Z j_11 - 2)) j_8 0) N (jm_resB (jm_resB B m j_11 (Z j_11 - 2)) (m + 4) j_8 0) (jm_resY (jm_resY (ju (ju Y (j_11 * 64 + j_17 * 2) (Y (j_11 * 64 + (Z j_11 - 2)))) (j_11 * 64 + j_17 * 2 + 1) (ju Y (j_11 * 64 + j_17 * 2) (Y (j_11 * 64 + (Z j_11 - 2))) (j_11 * 64 + (Z j_11 - 2) + 1))) j_11 (Z j_11 - 2)) j_8 0) I O M P ct wr ofs 0 (some j_11) (some j_17) (some j_8) ((jm_lead K Z Y u).2.2.2.2) = wM qM qK qZ qN qB qY qi qo qm qp c1 c2 c3 c4 c5 c6 c7 c8 c9 (if jm_rmT K Z Y u = 0 then ju K ((jm_lead K Z Y u).2.2.2.1.getD 0) 0 else K) (if jm_rmT K Z Y u = 0 then ju (ju Z ((jm_lead K Z Y u).2.1.getD 0) (Z ((jm_lead K Z Y u).2.1.getD 0) - 2)) ((jm_lead K Z Y u).2.2.2.1.getD 0) 0 else Z) N (if jm_rmT K Z Y u = 0 then jm_resB (jm_resB B m ((jm_lead K Z Y u).2.1.getD 0) (Z ((jm_lead K Z Y u).2.1.getD 0) - 2)) (m + 4) ((jm_lead K Z Y u).2.2.2.1.getD 0) 0 else B) (if jm_rmT K Z Y u = 0 then jm_resY (jm_drY Z Y ((jm_lead K Z Y u).2.1.getD 0) ((jm_lead K Z Y u).2.2.1.getD 0)) ((jm_lead K Z Y u).2.2.2.1.getD 0) 0 else Y) I O M P ct wr ofs (jm_rmT K Z Y u) (if jm_badPath u = 0 then (jm_lead K Z Y u).2.1 else pa) (if jm_badPath u = 0 then (jm_lead K Z Y u).2.2.1 else ey) (if jm_badPath u = 0 then (jm_lead K Z Y u).2.2.2.1 else fo) (if jm_badPath u = 0 then (jm_lead K Z Y u).2.2.2.2 else la) := by first | with_reducible rfl | (simp [jm_rmT, jm_drY, c_2, c_5, hj_8, hj_11, c_15, c_16, hp_17]; done)
              rw [he] at hP hD
              exact jm_retv C hP hD hK hS ⟨Nat.le_of_ble_eq_true rfl, Nat.le_of_ble_eq_true rfl⟩ dd_M_remove_102
            · skip
              exact absurd c_16 (by omega)
          · skip
            refine lv_aload_n hx hb dd_M_remove_52 rfl (lv_at hl 0 rfl) ?_
            refine va_get (D := G) (ci := 4) (v := .ref qZ) (C := cn_M) (T := ft_M) (N := 17) hx hb hts uw_M hown hK hP 0 rfl rfl 1 (by decide) (hts _ tw_594) (fun _ h9 => h9) rfl dd_M_remove_53 ?_
            refine lv_aload_n hx hb dd_M_remove_56 rfl (lv_at hl 0 rfl) ?_
            refine va_get (D := G) (ci := 4) (v := .int (nI (j_8))) (C := cn_M) (T := ft_M) (N := 17) hx hb hts uw_M hown hK hP 0 rfl rfl 15 (by decide) (hts _ tw_608) (fun _ h9 => h9) rfl dd_M_remove_57 ?_
            refine va_iald hx hb hK hP 2 1 rfl rfl (vp_in_nI (by omega) (by decide)) dd_M_remove_60 ?_
            refine jl_top (jn_at (Z) (by omega)) ?_
            have hf_20 : Z j_8 < 65 := (by assumption : jlt 65 Z) _
            refine jl_ifle (tgt := 68) hx hb (by omega) dd_M_remove_61 (by decide) (fun c_21 => ?_) (fun c_21 => ?_)
            · skip
              refine lv_iconst (v := nI 0) hx hb dd_M_remove_68 (by decide) ?_
              refine va_put (D := G) (ci := 4) (v := .int (nI (0))) (ty := .int) (C := cn_M) (T := ft_M) (N := 17) hx hb hts uw_M fy_M fo_M fn_M hown hK hP hD hS 0 rfl rfl 12 (by decide) (hts _ tw_605) (fun _ h9 => h9) rfl (by decide +kernel) rfl rfl (Nat.le_of_ble_eq_true rfl) dd_M_remove_69 (fun H locs hP hD hS => ?_)
              have hP : va_P G jcl (wM qM qK qZ qN qB qY qi qo qm qp c1 c2 c3 c4 c5 c6 c7 c8 c9 K Z N B Y I O M P ct wr ofs 0 (some j_11) ((jm_lead K Z Y u).2.2.1) (some j_8) ((jm_lead K Z Y u).2.2.2.2)) H := hP
              have hD : va_D A (wM qM qK qZ qN qB qY qi qo qm qp c1 c2 c3 c4 c5 c6 c7 c8 c9 K Z N B Y I O M P ct wr ofs 0 (some j_11) ((jm_lead K Z Y u).2.2.1) (some j_8) ((jm_lead K Z Y u).2.2.2.2)) := hD
              refine lv_aload_n hx hb dd_M_remove_72 rfl (lv_at hl 0 rfl) ?_
              refine va_get (D := G) (ci := 4) (v := .int (nI (0))) (C := cn_M) (T := ft_M) (N := 17) hx hb hts uw_M hown hK hP 0 rfl rfl 12 (by decide) (hts _ tw_605) (fun _ h9 => h9) rfl dd_M_remove_73 ?_
              refine jl_ifeq (tgt := 80) hx hb (by omega) dd_M_remove_76 (by decide) (fun c_22 => ?_) (fun c_22 => ?_)
              · skip
                refine lv_aload_n hx hb dd_M_remove_80 rfl (lv_at hl 0 rfl) ?_
                refine va_get (D := G) (ci := 4) (v := .int (nI (j_8))) (C := cn_M) (T := ft_M) (N := 17) hx hb hts uw_M hown hK hP 0 rfl rfl 15 (by decide) (hts _ tw_608) (fun _ h9 => h9) rfl dd_M_remove_81 ?_
                refine lv_istore_n (lv' := [(2, .int (nI (j_8))), (0, .ref qM), (1, .int (nI (u)))]) hx hb dd_M_remove_84 rfl hl (by decide) rfl (fun ls hl => ?_)
                obtain ⟨j_23, hp_23, hq_23, hr_23, hs_23⟩ := jm_lead_some (u := u) (by assumption) (by assumption) (by assumption : (jm_lead K Z Y u).2.1 = some j_11) (by assumption : (jm_lead K Z Y u).2.2.2.1 = some j_8)
                have hz_23 := (by assumption : jlt 65 Z) j_11
                rw [hp_23] at hP hD
                have hP : va_P G jcl (wM qM qK qZ qN qB qY qi qo qm qp c1 c2 c3 c4 c5 c6 c7 c8 c9 K Z N B Y I O M P ct wr ofs 0 (some j_11) (some j_23) (some j_8) ((jm_lead K Z Y u).2.2.2.2)) H := hP
                have hD : va_D A (wM qM qK qZ qN qB qY qi qo qm qp c1 c2 c3 c4 c5 c6 c7 c8 c9 K Z N B Y I O M P ct wr ofs 0 (some j_11) (some j_23) (some j_8) ((jm_lead K Z Y u).2.2.2.2)) := hD
                refine lv_aload_n hx hb dd_M_remove_85 rfl (lv_at hl 1 rfl) ?_
                refine lv_aload_n hx hb dd_M_remove_86 rfl (lv_at hl 1 rfl) ?_
                refine va_get (D := G) (ci := 4) (v := .int (nI (j_11))) (C := cn_M) (T := ft_M) (N := 17) hx hb hts uw_M hown hK hP 0 rfl rfl 13 (by decide) (hts _ tw_606) (fun _ h9 => h9) rfl dd_M_remove_87 ?_
                refine lv_aload_n hx hb dd_M_remove_90 rfl (lv_at hl 1 rfl) ?_
                refine va_get (D := G) (ci := 4) (v := .int (nI (j_23))) (C := cn_M) (T := ft_M) (N := 17) hx hb hts uw_M hown hK hP 0 rfl rfl 14 (by decide) (hts _ tw_607) (fun _ h9 => h9) rfl dd_M_remove_91 ?_
                refine jm_callV (wr := []) C (ct_M_dropEntry l G qM qK qZ qN qB qY qi qo qm qp c1 c2 c3 c4 c5 c6 c7 c8 c9 K Z N B Y I O M P ct wr ofs 0 (some j_11) (some j_23) (some j_8) ((jm_lead K Z Y u).2.2.2.2) j_11 j_23 m (by omega) (by omega) (by omega) (by omega) (by assumption) (by assumption) (by assumption)) kl_M_111 ⟨Nat.le_of_ble_eq_true rfl, Nat.le_of_ble_eq_true rfl⟩ ⟨Nat.le_of_ble_eq_true rfl, Nat.le_of_ble_eq_true rfl⟩ hP hD hS hA (hK) (va_recv hK hP (ci := 4) (q0 := 0) rfl rfl) hl.1 rfl rfl (Nat.le_of_ble_eq_true rfl) dd_M_remove_94 (fun H locs hP hD hS => ?_)
                have hP : va_P G jcl (wM qM qK qZ qN qB qY qi qo qm qp c1 c2 c3 c4 c5 c6 c7 c8 c9 K (ju Z j_11 (Z j_11 - 2)) N (jm_resB B m j_11 (Z j_11 - 2)) (jm_resY (ju (ju Y (j_11 * 64 + j_23 * 2) (Y (j_11 * 64 + (Z j_11 - 2)))) (j_11 * 64 + j_23 * 2 + 1) (ju Y (j_11 * 64 + j_23 * 2) (Y (j_11 * 64 + (Z j_11 - 2))) (j_11 * 64 + (Z j_11 - 2) + 1))) j_11 (Z j_11 - 2)) I O M P ct wr ofs 0 (some j_11) (some j_23) (some j_8) ((jm_lead K Z Y u).2.2.2.2)) H := hP
                have hD : va_D A (wM qM qK qZ qN qB qY qi qo qm qp c1 c2 c3 c4 c5 c6 c7 c8 c9 K (ju Z j_11 (Z j_11 - 2)) N (jm_resB B m j_11 (Z j_11 - 2)) (jm_resY (ju (ju Y (j_11 * 64 + j_23 * 2) (Y (j_11 * 64 + (Z j_11 - 2)))) (j_11 * 64 + j_23 * 2 + 1) (ju Y (j_11 * 64 + j_23 * 2) (Y (j_11 * 64 + (Z j_11 - 2))) (j_11 * 64 + (Z j_11 - 2) + 1))) j_11 (Z j_11 - 2)) I O M P ct wr ofs 0 (some j_11) (some j_23) (some j_8) ((jm_lead K Z Y u).2.2.2.2)) := hD
                have hf_24 : jlt (m + 4) (jm_resB B m j_11 (Z j_11 - 2)) := jm_rsL_lt _ _ 4 _ 0 (by omega) (by assumption)
                refine lv_aload_n hx hb dd_M_remove_97 rfl (lv_at hl 1 rfl) ?_
                refine lv_iload_n hx hb dd_M_remove_98 rfl (lv_at hl 0 rfl) ?_
                refine jm_callV (wr := []) C (ct_M_release l G qM qK qZ qN qB qY qi qo qm qp c1 c2 c3 c4 c5 c6 c7 c8 c9 K (ju Z j_11 (Z j_11 - 2)) N (jm_resB B m j_11 (Z j_11 - 2)) (jm_resY (ju (ju Y (j_11 * 64 + j_23 * 2) (Y (j_11 * 64 + (Z j_11 - 2)))) (j_11 * 64 + j_23 * 2 + 1) (ju Y (j_11 * 64 + j_23 * 2) (Y (j_11 * 64 + (Z j_11 - 2))) (j_11 * 64 + (Z j_11 - 2) + 1))) j_11 (Z j_11 - 2)) I O M P ct wr ofs 0 (some j_11) (some j_23) (some j_8) ((jm_lead K Z Y u).2.2.2.2) j_8 (m + 4) (by omega) (by omega) (by assumption)) kl_M_114 ⟨Nat.le_of_ble_eq_true rfl, Nat.le_of_ble_eq_true rfl⟩ ⟨Nat.le_of_ble_eq_true rfl, Nat.le_of_ble_eq_true rfl⟩ hP hD hS hA (hK) (va_recv hK hP (ci := 4) (q0 := 0) rfl rfl) hl.1 rfl rfl (Nat.le_of_ble_eq_true rfl) dd_M_remove_99 (fun H locs hP hD hS => ?_)
                have hP : va_P G jcl (wM qM qK qZ qN qB qY qi qo qm qp c1 c2 c3 c4 c5 c6 c7 c8 c9 (ju K j_8 0) (ju (ju Z j_11 (Z j_11 - 2)) j_8 0) N (jm_resB (jm_resB B m j_11 (Z j_11 - 2)) (m + 4) j_8 0) (jm_resY (jm_resY (ju (ju Y (j_11 * 64 + j_23 * 2) (Y (j_11 * 64 + (Z j_11 - 2)))) (j_11 * 64 + j_23 * 2 + 1) (ju Y (j_11 * 64 + j_23 * 2) (Y (j_11 * 64 + (Z j_11 - 2))) (j_11 * 64 + (Z j_11 - 2) + 1))) j_11 (Z j_11 - 2)) j_8 0) I O M P ct wr ofs 0 (some j_11) (some j_23) (some j_8) ((jm_lead K Z Y u).2.2.2.2)) H := hP
                have hD : va_D A (wM qM qK qZ qN qB qY qi qo qm qp c1 c2 c3 c4 c5 c6 c7 c8 c9 (ju K j_8 0) (ju (ju Z j_11 (Z j_11 - 2)) j_8 0) N (jm_resB (jm_resB B m j_11 (Z j_11 - 2)) (m + 4) j_8 0) (jm_resY (jm_resY (ju (ju Y (j_11 * 64 + j_23 * 2) (Y (j_11 * 64 + (Z j_11 - 2)))) (j_11 * 64 + j_23 * 2 + 1) (ju Y (j_11 * 64 + j_23 * 2) (Y (j_11 * 64 + (Z j_11 - 2))) (j_11 * 64 + (Z j_11 - 2) + 1))) j_11 (Z j_11 - 2)) j_8 0) I O M P ct wr ofs 0 (some j_11) (some j_23) (some j_8) ((jm_lead K Z Y u).2.2.2.2)) := hD
                have hf_25 : jlt ((m + 4) + 4) (jm_resB (jm_resB B m j_11 (Z j_11 - 2)) (m + 4) j_8 0) := jm_rsL_lt _ _ 4 _ 0 (by omega) (by assumption)
                have he : wM qM qK qZ qN qB qY qi qo qm qp c1 c2 c3 c4 c5 c6 c7 c8 c9 (ju K j_8 0) (ju (ju Z j_11 (Z j_11 - 2)) j_8 0) N (jm_resB (jm_resB B m j_11 (Z j_11 - 2)) (m + 4) j_8 0) (jm_resY (jm_resY (ju (ju Y (j_11 * 64 + j_23 * 2) (Y (j_11 * 64 + (Z j_11 - 2)))) (j_11 * 64 + j_23 * 2 + 1) (ju Y (j_11 * 64 + j_23 * 2) (Y (j_11 * 64 + (Z j_11 - 2))) (j_11 * 64 + (Z j_11 - 2) + 1))) j_11 (Z j_11 - 2)) j_8 0) I O M P ct wr ofs 0 (some j_11) (some j_23) (some j_8) ((jm_lead K Z Y u).2.2.2.2) = wM qM qK qZ qN qB qY qi qo qm qp c1 c2 c3 c4 c5 c6 c7 c8 c9 (if jm_rmT K Z Y u = 0 then ju K ((jm_lead K Z Y u).2.2.2.1.getD 0) 0 else K) (if jm_rmT K Z Y u = 0 then ju (ju Z ((jm_lead K Z Y u).2.1.getD 0) (Z ((jm_lead K Z Y u).2.1.getD 0) - 2)) ((jm_lead K Z Y u).2.2.2.1.getD 0) 0 else Z) N (if jm_rmT K Z Y u = 0 then jm_resB (jm_resB B m ((jm_lead K Z Y u).2.1.getD 0) (Z ((jm_lead K Z Y u).2.1.getD 0) - 2)) (m + 4) ((jm_lead K Z Y u).2.2.2.1.getD 0) 0 else B) (if jm_rmT K Z Y u = 0 then jm_resY (jm_drY Z Y ((jm_lead K Z Y u).2.1.getD 0) ((jm_lead K Z Y u).2.2.1.getD 0)) ((jm_lead K Z Y u).2.2.2.1.getD 0) 0 else Y) I O M P ct wr ofs (jm_rmT K Z Y u) (if jm_badPath u = 0 then (jm_lead K Z Y u).2.1 else pa) (if jm_badPath u = 0 then (jm_lead K Z Y u).2.2.1 else ey) (if jm_badPath u = 0 then (jm_lead K Z Y u).2.2.2.1 else fo) (if jm_badPath u = 0 then (jm_lead K Z Y u).2.2.2.2 else la) := by first | with_reducible rfl | (simp [jm_rmT, jm_drY, c_2, c_5, hj_8, hj_11, c_15, c_21, c_22, hp_23]; done)
                rw [he] at hP hD
                exact jm_retv C hP hD hK hS ⟨Nat.le_of_ble_eq_true rfl, Nat.le_of_ble_eq_true rfl⟩ dd_M_remove_102
              · skip
                exact absurd c_22 (by omega)
            · skip
              refine lv_iconst (v := nI 3) hx hb dd_M_remove_64 (by decide) ?_
              refine lv_goto (tgt := 69) hx hb dd_M_remove_65 (by decide) ?_
              refine va_put (D := G) (ci := 4) (v := .int (nI (3))) (ty := .int) (C := cn_M) (T := ft_M) (N := 17) hx hb hts uw_M fy_M fo_M fn_M hown hK hP hD hS 0 rfl rfl 12 (by decide) (hts _ tw_605) (fun _ h9 => h9) rfl (by decide +kernel) rfl rfl (Nat.le_of_ble_eq_true rfl) dd_M_remove_69 (fun H locs hP hD hS => ?_)
              have hP : va_P G jcl (wM qM qK qZ qN qB qY qi qo qm qp c1 c2 c3 c4 c5 c6 c7 c8 c9 K Z N B Y I O M P ct wr ofs 3 (some j_11) ((jm_lead K Z Y u).2.2.1) (some j_8) ((jm_lead K Z Y u).2.2.2.2)) H := hP
              have hD : va_D A (wM qM qK qZ qN qB qY qi qo qm qp c1 c2 c3 c4 c5 c6 c7 c8 c9 K Z N B Y I O M P ct wr ofs 3 (some j_11) ((jm_lead K Z Y u).2.2.1) (some j_8) ((jm_lead K Z Y u).2.2.2.2)) := hD
              refine lv_aload_n hx hb dd_M_remove_72 rfl (lv_at hl 0 rfl) ?_
              refine va_get (D := G) (ci := 4) (v := .int (nI (3))) (C := cn_M) (T := ft_M) (N := 17) hx hb hts uw_M hown hK hP 0 rfl rfl 12 (by decide) (hts _ tw_605) (fun _ h9 => h9) rfl dd_M_remove_73 ?_
              refine jl_ifeq (tgt := 80) hx hb (by omega) dd_M_remove_76 (by decide) (fun c_26 => ?_) (fun c_26 => ?_)
              · skip
                exact absurd c_26 (by omega)
              · skip
                have he : wM qM qK qZ qN qB qY qi qo qm qp c1 c2 c3 c4 c5 c6 c7 c8 c9 K Z N B Y I O M P ct wr ofs 3 (some j_11) ((jm_lead K Z Y u).2.2.1) (some j_8) ((jm_lead K Z Y u).2.2.2.2) = wM qM qK qZ qN qB qY qi qo qm qp c1 c2 c3 c4 c5 c6 c7 c8 c9 (if jm_rmT K Z Y u = 0 then ju K ((jm_lead K Z Y u).2.2.2.1.getD 0) 0 else K) (if jm_rmT K Z Y u = 0 then ju (ju Z ((jm_lead K Z Y u).2.1.getD 0) (Z ((jm_lead K Z Y u).2.1.getD 0) - 2)) ((jm_lead K Z Y u).2.2.2.1.getD 0) 0 else Z) N (if jm_rmT K Z Y u = 0 then jm_resB (jm_resB B m ((jm_lead K Z Y u).2.1.getD 0) (Z ((jm_lead K Z Y u).2.1.getD 0) - 2)) (m + 4) ((jm_lead K Z Y u).2.2.2.1.getD 0) 0 else B) (if jm_rmT K Z Y u = 0 then jm_resY (jm_drY Z Y ((jm_lead K Z Y u).2.1.getD 0) ((jm_lead K Z Y u).2.2.1.getD 0)) ((jm_lead K Z Y u).2.2.2.1.getD 0) 0 else Y) I O M P ct wr ofs (jm_rmT K Z Y u) (if jm_badPath u = 0 then (jm_lead K Z Y u).2.1 else pa) (if jm_badPath u = 0 then (jm_lead K Z Y u).2.2.1 else ey) (if jm_badPath u = 0 then (jm_lead K Z Y u).2.2.2.1 else fo) (if jm_badPath u = 0 then (jm_lead K Z Y u).2.2.2.2 else la) := by first | with_reducible rfl | (simp [jm_rmT, jm_drY, c_2, c_5, hj_8, hj_11, c_15, c_21, c_26]; done)
                rw [he] at hP hD
                exact jm_retv C hP hD hK hS ⟨Nat.le_of_ble_eq_true rfl, Nat.le_of_ble_eq_true rfl⟩ dd_M_remove_79
      · skip
        rw [hj_8] at hP hD
        have hP : va_P G jcl (wM qM qK qZ qN qB qY qi qo qm qp c1 c2 c3 c4 c5 c6 c7 c8 c9 K Z N B Y I O M P ct wr ofs th ((jm_lead K Z Y u).2.1) ((jm_lead K Z Y u).2.2.1) none ((jm_lead K Z Y u).2.2.2.2)) H := hP
        have hD : va_D A (wM qM qK qZ qN qB qY qi qo qm qp c1 c2 c3 c4 c5 c6 c7 c8 c9 K Z N B Y I O M P ct wr ofs th ((jm_lead K Z Y u).2.1) ((jm_lead K Z Y u).2.2.1) none ((jm_lead K Z Y u).2.2.2.2)) := hD
        refine lv_iconst (v := nI 2) hx hb dd_M_remove_28 (by decide) ?_
        refine lv_goto (tgt := 69) hx hb dd_M_remove_29 (by decide) ?_
        refine va_put (D := G) (ci := 4) (v := .int (nI (2))) (ty := .int) (C := cn_M) (T := ft_M) (N := 17) hx hb hts uw_M fy_M fo_M fn_M hown hK hP hD hS 0 rfl rfl 12 (by decide) (hts _ tw_605) (fun _ h9 => h9) rfl (by decide +kernel) rfl rfl (Nat.le_of_ble_eq_true rfl) dd_M_remove_69 (fun H locs hP hD hS => ?_)
        have hP : va_P G jcl (wM qM qK qZ qN qB qY qi qo qm qp c1 c2 c3 c4 c5 c6 c7 c8 c9 K Z N B Y I O M P ct wr ofs 2 ((jm_lead K Z Y u).2.1) ((jm_lead K Z Y u).2.2.1) none ((jm_lead K Z Y u).2.2.2.2)) H := hP
        have hD : va_D A (wM qM qK qZ qN qB qY qi qo qm qp c1 c2 c3 c4 c5 c6 c7 c8 c9 K Z N B Y I O M P ct wr ofs 2 ((jm_lead K Z Y u).2.1) ((jm_lead K Z Y u).2.2.1) none ((jm_lead K Z Y u).2.2.2.2)) := hD
        refine lv_aload_n hx hb dd_M_remove_72 rfl (lv_at hl 0 rfl) ?_
        refine va_get (D := G) (ci := 4) (v := .int (nI (2))) (C := cn_M) (T := ft_M) (N := 17) hx hb hts uw_M hown hK hP 0 rfl rfl 12 (by decide) (hts _ tw_605) (fun _ h9 => h9) rfl dd_M_remove_73 ?_
        refine jl_ifeq (tgt := 80) hx hb (by omega) dd_M_remove_76 (by decide) (fun c_27 => ?_) (fun c_27 => ?_)
        · skip
          exact absurd c_27 (by omega)
        · skip
          have he : wM qM qK qZ qN qB qY qi qo qm qp c1 c2 c3 c4 c5 c6 c7 c8 c9 K Z N B Y I O M P ct wr ofs 2 ((jm_lead K Z Y u).2.1) ((jm_lead K Z Y u).2.2.1) none ((jm_lead K Z Y u).2.2.2.2) = wM qM qK qZ qN qB qY qi qo qm qp c1 c2 c3 c4 c5 c6 c7 c8 c9 (if jm_rmT K Z Y u = 0 then ju K ((jm_lead K Z Y u).2.2.2.1.getD 0) 0 else K) (if jm_rmT K Z Y u = 0 then ju (ju Z ((jm_lead K Z Y u).2.1.getD 0) (Z ((jm_lead K Z Y u).2.1.getD 0) - 2)) ((jm_lead K Z Y u).2.2.2.1.getD 0) 0 else Z) N (if jm_rmT K Z Y u = 0 then jm_resB (jm_resB B m ((jm_lead K Z Y u).2.1.getD 0) (Z ((jm_lead K Z Y u).2.1.getD 0) - 2)) (m + 4) ((jm_lead K Z Y u).2.2.2.1.getD 0) 0 else B) (if jm_rmT K Z Y u = 0 then jm_resY (jm_drY Z Y ((jm_lead K Z Y u).2.1.getD 0) ((jm_lead K Z Y u).2.2.1.getD 0)) ((jm_lead K Z Y u).2.2.2.1.getD 0) 0 else Y) I O M P ct wr ofs (jm_rmT K Z Y u) (if jm_badPath u = 0 then (jm_lead K Z Y u).2.1 else pa) (if jm_badPath u = 0 then (jm_lead K Z Y u).2.2.1 else ey) (if jm_badPath u = 0 then (jm_lead K Z Y u).2.2.2.1 else fo) (if jm_badPath u = 0 then (jm_lead K Z Y u).2.2.2.2 else la) := by first | with_reducible rfl | (simp [jm_rmT, jm_drY, c_2, c_5, hj_8, c_27]; done)
          rw [he] at hP hD
          exact jm_retv C hP hD hK hS ⟨Nat.le_of_ble_eq_true rfl, Nat.le_of_ble_eq_true rfl⟩ dd_M_remove_79
  · skip
    refine lv_iconst (v := nI 1) hx hb dd_M_remove_9 (by decide) ?_
    refine lv_goto (tgt := 69) hx hb dd_M_remove_10 (by decide) ?_
    refine va_put (D := G) (ci := 4) (v := .int (nI (1))) (ty := .int) (C := cn_M) (T := ft_M) (N := 17) hx hb hts uw_M fy_M fo_M fn_M hown hK hP hD hS 0 rfl rfl 12 (by decide) (hts _ tw_605) (fun _ h9 => h9) rfl (by decide +kernel) rfl rfl (Nat.le_of_ble_eq_true rfl) dd_M_remove_69 (fun H locs hP hD hS => ?_)
    have hP : va_P G jcl (wM qM qK qZ qN qB qY qi qo qm qp c1 c2 c3 c4 c5 c6 c7 c8 c9 K Z N B Y I O M P ct wr ofs 1 pa ey fo la) H := hP
    have hD : va_D A (wM qM qK qZ qN qB qY qi qo qm qp c1 c2 c3 c4 c5 c6 c7 c8 c9 K Z N B Y I O M P ct wr ofs 1 pa ey fo la) := hD
    refine lv_aload_n hx hb dd_M_remove_72 rfl (lv_at hl 0 rfl) ?_
    refine va_get (D := G) (ci := 4) (v := .int (nI (1))) (C := cn_M) (T := ft_M) (N := 17) hx hb hts uw_M hown hK hP 0 rfl rfl 12 (by decide) (hts _ tw_605) (fun _ h9 => h9) rfl dd_M_remove_73 ?_
    refine jl_ifeq (tgt := 80) hx hb (by omega) dd_M_remove_76 (by decide) (fun c_28 => ?_) (fun c_28 => ?_)
    · skip
      exact absurd c_28 (by omega)
    · skip
      have he : wM qM qK qZ qN qB qY qi qo qm qp c1 c2 c3 c4 c5 c6 c7 c8 c9 K Z N B Y I O M P ct wr ofs 1 pa ey fo la = wM qM qK qZ qN qB qY qi qo qm qp c1 c2 c3 c4 c5 c6 c7 c8 c9 (if jm_rmT K Z Y u = 0 then ju K ((jm_lead K Z Y u).2.2.2.1.getD 0) 0 else K) (if jm_rmT K Z Y u = 0 then ju (ju Z ((jm_lead K Z Y u).2.1.getD 0) (Z ((jm_lead K Z Y u).2.1.getD 0) - 2)) ((jm_lead K Z Y u).2.2.2.1.getD 0) 0 else Z) N (if jm_rmT K Z Y u = 0 then jm_resB (jm_resB B m ((jm_lead K Z Y u).2.1.getD 0) (Z ((jm_lead K Z Y u).2.1.getD 0) - 2)) (m + 4) ((jm_lead K Z Y u).2.2.2.1.getD 0) 0 else B) (if jm_rmT K Z Y u = 0 then jm_resY (jm_drY Z Y ((jm_lead K Z Y u).2.1.getD 0) ((jm_lead K Z Y u).2.2.1.getD 0)) ((jm_lead K Z Y u).2.2.2.1.getD 0) 0 else Y) I O M P ct wr ofs (jm_rmT K Z Y u) (if jm_badPath u = 0 then (jm_lead K Z Y u).2.1 else pa) (if jm_badPath u = 0 then (jm_lead K Z Y u).2.2.1 else ey) (if jm_badPath u = 0 then (jm_lead K Z Y u).2.2.2.1 else fo) (if jm_badPath u = 0 then (jm_lead K Z Y u).2.2.2.2 else la) := by first | with_reducible rfl | (simp [jm_rmT, jm_drY, c_2, c_28]; done)
      rw [he] at hP hD
      exact jm_retv C hP hD hK hS ⟨Nat.le_of_ble_eq_true rfl, Nat.le_of_ble_eq_true rfl⟩ dd_M_remove_79
