set_option maxHeartbeats 4000000 in
set_option maxRecDepth 100000 in
theorem ct_M_badPath (l : Launch) (G : va_G) (qM qK qZ qN qB qY qi qo qm qp : Nat) (c1 c2 c3 c4 c5 c6 c7 c8 c9 : ClassId) (K : Nat → Nat) (Z : Nat → Nat) (N : Nat → Nat) (B : Nat → Nat) (Y : Nat → Nat) (I : Nat → Nat) (O : Nat → Nat) (M : Nat → Nat) (P : Nat → Nat) (ct : Nat) (wr : Nat) (ofs : Nat) (th : Nat) (pa : Option Nat) (ey : Option Nat) (fo : Option Nat) (la : Nat) (u : Nat) (hP0 : u < 4294967296) : jr l yn_M_badPath (.code yn_M_badPath cd_M_badPath 5 (some .boolean)) { frames := 0, cells := 0, slots := 0, locals := 0 } G (tM c1 c2 c3 c4 c5 c6 c7 c8 c9) (wM qM qK qZ qN qB qY qi qo qm qp c1 c2 c3 c4 c5 c6 c7 c8 c9 K Z N B Y I O M P ct wr ofs th pa ey fo la) [.ref qM, .int (nI (u))] (nI (jm_badPath u)) := by
  refine jr_of (by decide) (Nat.le_of_ble_eq_true rfl) ?_
  intro pr en σ mi bel met cd ls C hP hK hl
  have hx := C.1
  have hb := C.2.1
  have hown := C.2.2.2.1
  have hts := C.2.2.2.2.1
  have hl : lv_has ls 5 [(0, .ref qM), (1, .int (nI (u)))] := hl
  refine lv_iconst (v := nI 0) hx hb dd_M_badPath_0 (by decide) ?_
  refine lv_istore_n (lv' := [(2, .int (nI (0))), (0, .ref qM), (1, .int (nI (u)))]) hx hb dd_M_badPath_1 rfl hl (by decide) rfl (fun ls hl => ?_)
  refine lv_bipush (v := nI 24) hx hb dd_M_badPath_2 (by decide) ?_
  refine lv_istore_n (lv' := [(3, .int (nI (24))), (2, .int (nI (0))), (0, .ref qM), (1, .int (nI (u)))]) hx hb dd_M_badPath_4 rfl hl (by decide) rfl (fun ls hl => ?_)
  have loop : ∀ (n : Nat) (g : Nat), (n ≤ 4 ∧ g < 2) → jm_bpL u n g = jm_badPath u → ∀ ls : Array Slot, lv_has ls 5 [(3, .int (jsh n)), (2, .int (nI (g))), (0, .ref qM), (1, .int (nI (u)))] → W pr l en { frames := 0, cells := 0, slots := 0, locals := 0 } σ mi ([.ref qM, .int (nI (u))] : List Value).toArray bel met cd σ.heap [] 0 0 (jr_Q bel [.ref qM, .int (nI (u))] σ (nI (jm_badPath u))) (F0 mi 5 ls []) := by
    intro n
    induction n with
    | zero =>
      intro g hi  ht ls hl
      refine lv_iload_n hx hb dd_M_badPath_5 rfl (lv_at hl 0 rfl) ?_
      refine lv_if_lt (tgt := 42) hx hb dd_M_badPath_6 (by decide) (fun c_1 => ?_) (fun c_1 => ?_)
      · skip
        refine lv_iconst (v := nI 0) hx hb dd_M_badPath_42 (by decide) ?_
        exact jr_retz C (by decide) (by rw [← ht]; first | with_reducible rfl | (simp [jm_bpL, c_1]; done)) dd_M_badPath_43
      · skip
        exact absurd (by decide) c_1
    | succ n ih =>
      intro g hi  ht ls hl
      have hl : lv_has ls 5 [(3, .int (nI (8 * n))), (2, .int (nI (g))), (0, .ref qM), (1, .int (nI (u)))] := hl
      refine lv_iload_n hx hb dd_M_badPath_5 rfl (lv_at hl 0 rfl) ?_
      refine jl_iflt (tgt := 42) hx hb (by omega) dd_M_badPath_6 (by decide) ?_
      refine lv_iload_n hx hb dd_M_badPath_9 rfl (lv_at hl 3 rfl) ?_
      refine lv_iload_n hx hb dd_M_badPath_10 rfl (lv_at hl 0 rfl) ?_
      refine jl_iushr hx hb (by omega) (by omega) dd_M_badPath_11 ?_
      refine lv_sipush (v := nI 255) hx hb dd_M_badPath_12 (by decide) ?_
      refine jl_and255 hx hb (Nat.lt_of_le_of_lt (Nat.div_le_self _ _) (by omega)) dd_M_badPath_15 ?_
      refine lv_istore (lv' := [(4, .int (nI (u / 2 ^ (8 * n) % 256))), (3, .int (nI (8 * n))), (2, .int (nI (g))), (0, .ref qM), (1, .int (nI (u)))]) hx hb dd_M_badPath_16 hl (by decide) rfl (fun ls hl => ?_)
      refine lv_iload_n hx hb dd_M_badPath_18 rfl (lv_at hl 2 rfl) ?_
      refine jl_ifeq (tgt := 29) hx hb (by omega) dd_M_badPath_19 (by decide) (fun c_3 => ?_) (fun c_3 => ?_)
      · skip
        refine lv_iload hx hb dd_M_badPath_29 (lv_at hl 0 rfl) ?_
        refine jl_ifeq (tgt := 36) hx hb (by omega) dd_M_badPath_31 (by decide) (fun c_4 => ?_) (fun c_4 => ?_)
        · skip
          refine lv_iinc (v := jsh n) (lv' := [(3, .int (jsh n)), (4, .int (nI (u / 2 ^ (8 * n) % 256))), (2, .int (nI (g))), (0, .ref qM), (1, .int (nI (u)))]) hx hb dd_M_badPath_36 hl (k := 1) rfl (jsh_step n) (by decide) rfl (fun ls hl => ?_)
          refine lv_goto (tgt := 5) hx hb dd_M_badPath_39 (by decide) ?_
          exact ih g (by omega) (by simpa [jm_bpL, c_3, c_4] using ht) ls (lv_sub hl [0, 2, 3, 4] rfl)
        · skip
          refine lv_iconst (v := nI 1) hx hb dd_M_badPath_34 (by decide) ?_
          refine lv_istore_n (lv' := [(2, .int (nI (1))), (4, .int (nI (u / 2 ^ (8 * n) % 256))), (3, .int (nI (8 * n))), (0, .ref qM), (1, .int (nI (u)))]) hx hb dd_M_badPath_35 rfl hl (by decide) rfl (fun ls hl => ?_)
          refine lv_iinc (v := jsh n) (lv' := [(3, .int (jsh n)), (2, .int (nI (1))), (4, .int (nI (u / 2 ^ (8 * n) % 256))), (0, .ref qM), (1, .int (nI (u)))]) hx hb dd_M_badPath_36 hl (k := 2) rfl (jsh_step n) (by decide) rfl (fun ls hl => ?_)
          refine lv_goto (tgt := 5) hx hb dd_M_badPath_39 (by decide) ?_
          exact ih 1 (by omega) (by simpa [jm_bpL, c_3, c_4] using ht) ls (lv_sub hl [0, 1, 3, 4] rfl)
      · skip
        refine lv_iload hx hb dd_M_badPath_22 (lv_at hl 0 rfl) ?_
        refine jl_ifne (tgt := 29) hx hb (by omega) dd_M_badPath_24 (by decide) (fun c_5 => ?_) (fun c_5 => ?_)
        · skip
          refine lv_iload hx hb dd_M_badPath_29 (lv_at hl 0 rfl) ?_
          refine jl_ifeq (tgt := 36) hx hb (by omega) dd_M_badPath_31 (by decide) (fun c_6 => ?_) (fun c_6 => ?_)
          · skip
            exact absurd c_6 (by omega)
          · skip
            refine lv_iconst (v := nI 1) hx hb dd_M_badPath_34 (by decide) ?_
            refine lv_istore_n (lv' := [(2, .int (nI (1))), (4, .int (nI (u / 2 ^ (8 * n) % 256))), (3, .int (nI (8 * n))), (0, .ref qM), (1, .int (nI (u)))]) hx hb dd_M_badPath_35 rfl hl (by decide) rfl (fun ls hl => ?_)
            refine lv_iinc (v := jsh n) (lv' := [(3, .int (jsh n)), (2, .int (nI (1))), (4, .int (nI (u / 2 ^ (8 * n) % 256))), (0, .ref qM), (1, .int (nI (u)))]) hx hb dd_M_badPath_36 hl (k := 2) rfl (jsh_step n) (by decide) rfl (fun ls hl => ?_)
            refine lv_goto (tgt := 5) hx hb dd_M_badPath_39 (by decide) ?_
            exact ih 1 (by omega) (by simpa [jm_bpL, c_3, c_5, c_6] using ht) ls (lv_sub hl [0, 1, 3, 4] rfl)
        · skip
          refine lv_iconst (v := nI 1) hx hb dd_M_badPath_27 (by decide) ?_
          exact jr_retz C (by decide) (by rw [← ht]; first | with_reducible rfl | (simp [jm_bpL, c_3, c_5]; done)) dd_M_badPath_28
  exact loop 4 0 (by omega) (rfl) ls (lv_sub hl [0, 1, 2, 3] rfl)
set_option maxHeartbeats 4000000 in
set_option maxRecDepth 100000 in
theorem ct_M_within (l : Launch) (G : va_G) (qM qK qZ qN qB qY qi qo qm qp : Nat) (c1 c2 c3 c4 c5 c6 c7 c8 c9 : ClassId) (K : Nat → Nat) (Z : Nat → Nat) (N : Nat → Nat) (B : Nat → Nat) (Y : Nat → Nat) (I : Nat → Nat) (O : Nat → Nat) (M : Nat → Nat) (P : Nat → Nat) (ct : Nat) (wr : Nat) (ofs : Nat) (th : Nat) (pa : Option Nat) (ey : Option Nat) (fo : Option Nat) (la : Nat) (u : Nat) (v : Nat) (hP0 : u < 4294967296) (hQ0 : v < 4294967296) : jr l yn_M_within (.code yn_M_within cd_M_within 4 (some .boolean)) { frames := 0, cells := 0, slots := 0, locals := 0 } G (tM c1 c2 c3 c4 c5 c6 c7 c8 c9) (wM qM qK qZ qN qB qY qi qo qm qp c1 c2 c3 c4 c5 c6 c7 c8 c9 K Z N B Y I O M P ct wr ofs th pa ey fo la) [.ref qM, .int (nI (u)), .int (nI (v))] (nI (jm_within u v)) := by
  refine jr_of (by decide) (Nat.le_of_ble_eq_true rfl) ?_
  intro pr en σ mi bel met cd ls C hP hK hl
  have hx := C.1
  have hb := C.2.1
  have hown := C.2.2.2.1
  have hts := C.2.2.2.2.1
  have hl : lv_has ls 4 [(0, .ref qM), (1, .int (nI (u))), (2, .int (nI (v)))] := hl
  refine lv_iconst (v := nI 0) hx hb dd_M_within_0 (by decide) ?_
  refine lv_istore_n (lv' := [(3, .int (nI (0))), (0, .ref qM), (1, .int (nI (u))), (2, .int (nI (v)))]) hx hb dd_M_within_1 rfl hl (by decide) rfl (fun ls hl => ?_)
  have loop : ∀ (n : Nat) (z : Nat), (z + 8 * n = 32) → jm_wiL u v n z = jm_within u v → ∀ ls : Array Slot, lv_has ls 4 [(3, .int (nI (z))), (0, .ref qM), (1, .int (nI (u))), (2, .int (nI (v)))] → W pr l en { frames := 0, cells := 0, slots := 0, locals := 0 } σ mi ([.ref qM, .int (nI (u)), .int (nI (v))] : List Value).toArray bel met cd σ.heap [] 0 0 (jr_Q bel [.ref qM, .int (nI (u)), .int (nI (v))] σ (nI (jm_within u v))) (F0 mi 2 ls []) := by
    intro n
    induction n with
    | zero =>
      intro z hi  ht ls hl
      refine lv_iload_n hx hb dd_M_within_2 rfl (lv_at hl 0 rfl) ?_
      refine lv_bipush (v := nI 24) hx hb dd_M_within_3 (by decide) ?_
      refine jl_gt (tgt := 23) hx hb (by omega) (by omega) dd_M_within_5 (by decide) (fun c_1 => ?_) (fun c_1 => ?_)
      · skip
        refine lv_iconst (v := nI 0) hx hb dd_M_within_23 (by decide) ?_
        exact jr_retz C (by decide) (by rw [← ht]; first | with_reducible rfl | (simp [jm_wiL, c_1]; done)) dd_M_within_24
      · skip
        exact absurd c_1 (by omega)
    | succ n ih =>
      intro z hi  ht ls hl
      refine lv_iload_n hx hb dd_M_within_2 rfl (lv_at hl 0 rfl) ?_
      refine lv_bipush (v := nI 24) hx hb dd_M_within_3 (by decide) ?_
      refine jl_gt (tgt := 23) hx hb (by omega) (by omega) dd_M_within_5 (by decide) (fun c_2 => ?_) (fun c_2 => ?_)
      · skip
        exact absurd c_2 (by omega)
      · skip
        refine lv_iload_n hx hb dd_M_within_8 rfl (lv_at hl 2 rfl) ?_
        refine lv_iload_n hx hb dd_M_within_9 rfl (lv_at hl 0 rfl) ?_
        refine jl_iushr hx hb (by omega) (by omega) dd_M_within_10 ?_
        refine lv_iload_n hx hb dd_M_within_11 rfl (lv_at hl 3 rfl) ?_
        refine jl_ne32 (tgt := 17) hx hb (Nat.lt_of_le_of_lt (Nat.div_le_self _ _) (by omega)) (by omega) dd_M_within_12 (by decide) (fun c_3 => ?_) (fun c_3 => ?_)
        · skip
          refine lv_iinc (v := nI (z + 8)) (lv' := [(3, .int (nI (z + 8))), (0, .ref qM), (1, .int (nI (u))), (2, .int (nI (v)))]) hx hb dd_M_within_17 hl (k := 0) rfl (by rw [← nI_add]; rfl) (by decide) rfl (fun ls hl => ?_)
          refine lv_goto (tgt := 2) hx hb dd_M_within_20 (by decide) ?_
          exact ih (z + 8) (by omega) (by simpa [jm_wiL, c_2, c_3] using ht) ls (lv_sub hl [0, 1, 2, 3] rfl)
        · skip
          refine lv_iconst (v := nI 1) hx hb dd_M_within_15 (by decide) ?_
          exact jr_retz C (by decide) (by rw [← ht]; first | with_reducible rfl | (simp [jm_wiL, c_2, c_3]; done)) dd_M_within_16
  exact loop 4 0 (by omega) (rfl) ls (lv_sub hl [0, 1, 2, 3] rfl)
set_option maxHeartbeats 4000000 in
set_option maxRecDepth 100000 in
theorem ct_M_lead (l : Launch) (G : va_G) (qM qK qZ qN qB qY qi qo qm qp : Nat) (c1 c2 c3 c4 c5 c6 c7 c8 c9 : ClassId) (K : Nat → Nat) (Z : Nat → Nat) (N : Nat → Nat) (B : Nat → Nat) (Y : Nat → Nat) (I : Nat → Nat) (O : Nat → Nat) (M : Nat → Nat) (P : Nat → Nat) (ct : Nat) (wr : Nat) (ofs : Nat) (th : Nat) (pa : Option Nat) (ey : Option Nat) (fo : Option Nat) (la : Nat) (u : Nat) (hP0 : u < 4294967296) (hE : jm_ents K Z Y) (hK : jlt 3 K) (hZ : jlt 65 Z) (hY : jlt 256 Y) : jm l yn_M_lead (.code yn_M_lead cd_M_lead 4 (some .boolean)) { frames := 1, cells := 0, slots := 0, locals := 23 } G (tM c1 c2 c3 c4 c5 c6 c7 c8 c9) (wM qM qK qZ qN qB qY qi qo qm qp c1 c2 c3 c4 c5 c6 c7 c8 c9 K Z N B Y I O M P ct wr ofs th pa ey fo la) [.ref qM, .int (nI (u))] (some (.int (nI ((jm_lead K Z Y u).1)))) (wM qM qK qZ qN qB qY qi qo qm qp c1 c2 c3 c4 c5 c6 c7 c8 c9 K Z N B Y I O M P ct wr ofs th ((jm_lead K Z Y u).2.1) ((jm_lead K Z Y u).2.2.1) ((jm_lead K Z Y u).2.2.2.1) ((jm_lead K Z Y u).2.2.2.2)) := by
  refine jm_of (by decide) (Nat.le_of_ble_eq_true rfl) ?_
  intro pr en σ mi bel met cd ls A hA C hP hK hD hS hl
  have hx := C.1
  have hb := C.2.1
  have hown := C.2.2.2.1
  have hts := C.2.2.2.2.1
  have hl : lv_has ls 4 [(0, .ref qM), (1, .int (nI (u)))] := hl
  refine lv_aload_n hx hb dd_M_lead_0 rfl (lv_at hl 0 rfl) ?_
  refine lv_iconst (v := -1) hx hb dd_M_lead_1 (by decide) ?_
  refine va_put (D := G) (ci := 4) (v := .int (-1)) (ty := .int) (C := cn_M) (T := ft_M) (N := 17) hx hb hts uw_M fy_M fo_M fn_M hown hK hP hD hS 0 rfl rfl 13 (by decide) (hts _ tw_606) (fun _ h9 => h9) rfl (by decide +kernel) rfl rfl (Nat.le_of_ble_eq_true rfl) dd_M_lead_2 (fun H locs hP hD hS => ?_)
  have hP : va_P G jcl (wM qM qK qZ qN qB qY qi qo qm qp c1 c2 c3 c4 c5 c6 c7 c8 c9 K Z N B Y I O M P ct wr ofs th none ey fo la) H := hP
  have hD : va_D A (wM qM qK qZ qN qB qY qi qo qm qp c1 c2 c3 c4 c5 c6 c7 c8 c9 K Z N B Y I O M P ct wr ofs th none ey fo la) := hD
  refine lv_aload_n hx hb dd_M_lead_5 rfl (lv_at hl 0 rfl) ?_
  refine lv_iconst (v := -1) hx hb dd_M_lead_6 (by decide) ?_
  refine va_put (D := G) (ci := 4) (v := .int (-1)) (ty := .int) (C := cn_M) (T := ft_M) (N := 17) hx hb hts uw_M fy_M fo_M fn_M hown hK hP hD hS 0 rfl rfl 14 (by decide) (hts _ tw_607) (fun _ h9 => h9) rfl (by decide +kernel) rfl rfl (Nat.le_of_ble_eq_true rfl) dd_M_lead_7 (fun H locs hP hD hS => ?_)
  have hP : va_P G jcl (wM qM qK qZ qN qB qY qi qo qm qp c1 c2 c3 c4 c5 c6 c7 c8 c9 K Z N B Y I O M P ct wr ofs th none none fo la) H := hP
  have hD : va_D A (wM qM qK qZ qN qB qY qi qo qm qp c1 c2 c3 c4 c5 c6 c7 c8 c9 K Z N B Y I O M P ct wr ofs th none none fo la) := hD
  refine lv_aload_n hx hb dd_M_lead_10 rfl (lv_at hl 0 rfl) ?_
  refine lv_iconst (v := nI 0) hx hb dd_M_lead_11 (by decide) ?_
  refine va_put (D := G) (ci := 4) (v := .int (nI (0))) (ty := .int) (C := cn_M) (T := ft_M) (N := 17) hx hb hts uw_M fy_M fo_M fn_M hown hK hP hD hS 0 rfl rfl 15 (by decide) (hts _ tw_608) (fun _ h9 => h9) rfl (by decide +kernel) rfl rfl (Nat.le_of_ble_eq_true rfl) dd_M_lead_12 (fun H locs hP hD hS => ?_)
  have hP : va_P G jcl (wM qM qK qZ qN qB qY qi qo qm qp c1 c2 c3 c4 c5 c6 c7 c8 c9 K Z N B Y I O M P ct wr ofs th none none (some 0) la) H := hP
  have hD : va_D A (wM qM qK qZ qN qB qY qi qo qm qp c1 c2 c3 c4 c5 c6 c7 c8 c9 K Z N B Y I O M P ct wr ofs th none none (some 0) la) := hD
  refine lv_aload_n hx hb dd_M_lead_15 rfl (lv_at hl 0 rfl) ?_
  refine lv_iconst (v := nI 0) hx hb dd_M_lead_16 (by decide) ?_
  refine va_put (D := G) (ci := 4) (v := .int (nI (0))) (ty := .int) (C := cn_M) (T := ft_M) (N := 17) hx hb hts uw_M fy_M fo_M fn_M hown hK hP hD hS 0 rfl rfl 16 (by decide) (hts _ tw_609) (fun _ h9 => h9) rfl (by decide +kernel) rfl rfl (Nat.le_of_ble_eq_true rfl) dd_M_lead_17 (fun H locs hP hD hS => ?_)
  have hP : va_P G jcl (wM qM qK qZ qN qB qY qi qo qm qp c1 c2 c3 c4 c5 c6 c7 c8 c9 K Z N B Y I O M P ct wr ofs th none none (some 0) 0) H := hP
  have hD : va_D A (wM qM qK qZ qN qB qY qi qo qm qp c1 c2 c3 c4 c5 c6 c7 c8 c9 K Z N B Y I O M P ct wr ofs th none none (some 0) 0) := hD
  refine lv_bipush (v := nI 24) hx hb dd_M_lead_20 (by decide) ?_
  refine lv_istore_n (lv' := [(2, .int (nI (24))), (0, .ref qM), (1, .int (nI (u)))]) hx hb dd_M_lead_22 rfl hl (by decide) rfl (fun ls hl => ?_)
  have loop : ∀ (n : Nat) (pa9 : Option Nat) (ey9 : Option Nat) (fo9 : Option Nat) (la9 : Nat), (n ≤ 4) → (∀ f, fo9 = some f → f < 12) → jm_ldL K Z Y u n pa9 ey9 fo9 la9 = jm_lead K Z Y u → ∀ (H : Heap) (locs : List Loc), va_P G jcl (wM qM qK qZ qN qB qY qi qo qm qp c1 c2 c3 c4 c5 c6 c7 c8 c9 K Z N B Y I O M P ct wr ofs th pa9 ey9 fo9 la9) H → va_D A (wM qM qK qZ qN qB qY qi qo qm qp c1 c2 c3 c4 c5 c6 c7 c8 c9 K Z N B Y I O M P ct wr ofs th pa9 ey9 fo9 la9) → va_S A σ.heap H locs → ∀ ls : Array Slot, lv_has ls 4 [(2, .int (jsh n)), (0, .ref qM), (1, .int (nI (u)))] → W pr l en { frames := 1, cells := 0, slots := 0, locals := 23 } σ mi ([.ref qM, .int (nI (u))] : List Value).toArray bel met cd H locs 0 0 (jm_Q bel { frames := 1, cells := 0, slots := 0, locals := 23 } G (tM c1 c2 c3 c4 c5 c6 c7 c8 c9) A [.ref qM, .int (nI (u))] σ (some (.int (nI ((jm_lead K Z Y u).1)))) (wM qM qK qZ qN qB qY qi qo qm qp c1 c2 c3 c4 c5 c6 c7 c8 c9 K Z N B Y I O M P ct wr ofs th ((jm_lead K Z Y u).2.1) ((jm_lead K Z Y u).2.2.1) ((jm_lead K Z Y u).2.2.2.1) ((jm_lead K Z Y u).2.2.2.2))) (F0 mi 23 ls []) := by
    intro n
    induction n with
    | zero =>
      intro  pa9 ey9 fo9 la9 hi hfo9 ht H locs hP hD hS ls hl
      refine lv_iload_n hx hb dd_M_lead_23 rfl (lv_at hl 0 rfl) ?_
      refine lv_if_lt (tgt := 129) hx hb dd_M_lead_24 (by decide) (fun c_1 => ?_) (fun c_1 => ?_)
      · skip
        refine lv_iconst (v := nI 1) hx hb dd_M_lead_129 (by decide) ?_
        have he : wM qM qK qZ qN qB qY qi qo qm qp c1 c2 c3 c4 c5 c6 c7 c8 c9 K Z N B Y I O M P ct wr ofs th pa9 ey9 fo9 la9 = wM qM qK qZ qN qB qY qi qo qm qp c1 c2 c3 c4 c5 c6 c7 c8 c9 K Z N B Y I O M P ct wr ofs th ((jm_lead K Z Y u).2.1) ((jm_lead K Z Y u).2.2.1) ((jm_lead K Z Y u).2.2.2.1) ((jm_lead K Z Y u).2.2.2.2) := by rw [← ht]; first | with_reducible rfl | (simp [jm_ldL, c_1]; done)
        rw [he] at hP hD
        exact jm_retz C (by decide) (by rw [← ht]; first | with_reducible rfl | (simp [jm_ldL, c_1]; done)) hP hD hK hS ⟨Nat.le_of_ble_eq_true rfl, Nat.le_of_ble_eq_true rfl⟩ dd_M_lead_130
      · skip
        exact absurd (by decide) c_1
    | succ n ih =>
      intro  pa9 ey9 fo9 la9 hi hfo9 ht H locs hP hD hS ls hl
      have hl : lv_has ls 4 [(2, .int (nI (8 * n))), (0, .ref qM), (1, .int (nI (u)))] := hl
      refine lv_iload_n hx hb dd_M_lead_23 rfl (lv_at hl 0 rfl) ?_
      refine jl_iflt (tgt := 129) hx hb (by omega) dd_M_lead_24 (by decide) ?_
      refine lv_iload_n hx hb dd_M_lead_27 rfl (lv_at hl 2 rfl) ?_
      refine lv_iload_n hx hb dd_M_lead_28 rfl (lv_at hl 0 rfl) ?_
      refine jl_iushr hx hb (by omega) (by omega) dd_M_lead_29 ?_
      refine lv_sipush (v := nI 255) hx hb dd_M_lead_30 (by decide) ?_
      refine jl_and255 hx hb (Nat.lt_of_le_of_lt (Nat.div_le_self _ _) (by omega)) dd_M_lead_33 ?_
      refine lv_istore_n (lv' := [(3, .int (nI (u / 2 ^ (8 * n) % 256))), (2, .int (nI (8 * n))), (0, .ref qM), (1, .int (nI (u)))]) hx hb dd_M_lead_34 rfl hl (by decide) rfl (fun ls hl => ?_)
      refine lv_iload_n hx hb dd_M_lead_35 rfl (lv_at hl 0 rfl) ?_
      refine jl_ifeq (tgt := 123) hx hb (by omega) dd_M_lead_36 (by decide) (fun c_3 => ?_) (fun c_3 => ?_)
      · skip
        refine lv_iinc (v := jsh n) (lv' := [(2, .int (jsh n)), (3, .int (nI (u / 2 ^ (8 * n) % 256))), (0, .ref qM), (1, .int (nI (u)))]) hx hb dd_M_lead_123 hl (k := 1) rfl (jsh_step n) (by decide) rfl (fun ls hl => ?_)
        refine lv_goto (tgt := 23) hx hb dd_M_lead_126 (by decide) ?_
        exact ih  pa9 ey9 fo9 la9 (by omega) (by first | assumption | (intro f hf; cases hf; done) | (intro f hf; cases hf; first | omega | exact hE _ (by omega) (by omega) _ (by omega))) (by simpa [jm_ldL, c_3] using ht) _ _ hP hD hS ls (lv_sub hl [0, 2, 3] rfl)
      · skip
        refine lv_aload_n hx hb dd_M_lead_39 rfl (lv_at hl 2 rfl) ?_
        refine va_get (D := G) (ci := 4) (v := .int (jo (fo9))) (C := cn_M) (T := ft_M) (N := 17) hx hb hts uw_M hown hK hP 0 rfl rfl 15 (by decide) (hts _ tw_608) (fun _ h9 => h9) rfl dd_M_lead_40 ?_
        refine jl_ifltO (tgt := 59) hx hb (fun j h => Nat.lt_of_lt_of_le (hfo9 _ h) (by omega)) dd_M_lead_43 (by decide) (fun hj_5 => ?_) (fun j_5 hj_5 => ?_)
        · skip
          rw [hj_5] at hP hD
          have hP : va_P G jcl (wM qM qK qZ qN qB qY qi qo qm qp c1 c2 c3 c4 c5 c6 c7 c8 c9 K Z N B Y I O M P ct wr ofs th pa9 ey9 none la9) H := hP
          have hD : va_D A (wM qM qK qZ qN qB qY qi qo qm qp c1 c2 c3 c4 c5 c6 c7 c8 c9 K Z N B Y I O M P ct wr ofs th pa9 ey9 none la9) := hD
          refine lv_iconst (v := nI 0) hx hb dd_M_lead_59 (by decide) ?_
          have he : wM qM qK qZ qN qB qY qi qo qm qp c1 c2 c3 c4 c5 c6 c7 c8 c9 K Z N B Y I O M P ct wr ofs th pa9 ey9 none la9 = wM qM qK qZ qN qB qY qi qo qm qp c1 c2 c3 c4 c5 c6 c7 c8 c9 K Z N B Y I O M P ct wr ofs th ((jm_lead K Z Y u).2.1) ((jm_lead K Z Y u).2.2.1) ((jm_lead K Z Y u).2.2.2.1) ((jm_lead K Z Y u).2.2.2.2) := by rw [← ht]; first | with_reducible rfl | (simp [jm_ldL, c_3, hj_5]; done)
          rw [he] at hP hD
          exact jm_retz C (by decide) (by rw [← ht]; first | with_reducible rfl | (simp [jm_ldL, c_3, hj_5]; done)) hP hD hK hS ⟨Nat.le_of_ble_eq_true rfl, Nat.le_of_ble_eq_true rfl⟩ dd_M_lead_60
        · skip
          have ho_6 := hfo9 _ hj_5
          rw [hj_5] at hP hD
          have hP : va_P G jcl (wM qM qK qZ qN qB qY qi qo qm qp c1 c2 c3 c4 c5 c6 c7 c8 c9 K Z N B Y I O M P ct wr ofs th pa9 ey9 (some j_5) la9) H := hP
          have hD : va_D A (wM qM qK qZ qN qB qY qi qo qm qp c1 c2 c3 c4 c5 c6 c7 c8 c9 K Z N B Y I O M P ct wr ofs th pa9 ey9 (some j_5) la9) := hD
          refine lv_aload_n hx hb dd_M_lead_46 rfl (lv_at hl 2 rfl) ?_
          refine va_get (D := G) (ci := 4) (v := .ref qK) (C := cn_M) (T := ft_M) (N := 17) hx hb hts uw_M hown hK hP 0 rfl rfl 0 (by decide) (hts _ tw_593) (fun _ h9 => h9) rfl dd_M_lead_47 ?_
          refine lv_aload_n hx hb dd_M_lead_50 rfl (lv_at hl 2 rfl) ?_
          refine va_get (D := G) (ci := 4) (v := .int (nI (j_5))) (C := cn_M) (T := ft_M) (N := 17) hx hb hts uw_M hown hK hP 0 rfl rfl 15 (by decide) (hts _ tw_608) (fun _ h9 => h9) rfl dd_M_lead_51 ?_
          refine va_iald hx hb hK hP 1 0 rfl rfl (vp_in_nI (by omega) (by decide)) dd_M_lead_54 ?_
          refine jl_top (jn_at (K) (by omega)) ?_
          have hf_7 : K j_5 < 3 := (by assumption : jlt 3 K) _
          refine lv_iconst (v := nI 2) hx hb dd_M_lead_55 (by decide) ?_
          refine jl_eq (tgt := 61) hx hb (by omega) (by omega) dd_M_lead_56 (by decide) (fun c_8 => ?_) (fun c_8 => ?_)
          · skip
            refine lv_aload_n hx hb dd_M_lead_61 rfl (lv_at hl 2 rfl) ?_
            refine lv_aload_n hx hb dd_M_lead_62 rfl (lv_at hl 2 rfl) ?_
            refine va_get (D := G) (ci := 4) (v := .int (nI (j_5))) (C := cn_M) (T := ft_M) (N := 17) hx hb hts uw_M hown hK hP 0 rfl rfl 15 (by decide) (hts _ tw_608) (fun _ h9 => h9) rfl dd_M_lead_63 ?_
            refine va_put (D := G) (ci := 4) (v := .int (nI (j_5))) (ty := .int) (C := cn_M) (T := ft_M) (N := 17) hx hb hts uw_M fy_M fo_M fn_M hown hK hP hD hS 0 rfl rfl 13 (by decide) (hts _ tw_606) (fun _ h9 => h9) rfl (by decide +kernel) rfl rfl (Nat.le_of_ble_eq_true rfl) dd_M_lead_66 (fun H locs hP hD hS => ?_)
            have hP : va_P G jcl (wM qM qK qZ qN qB qY qi qo qm qp c1 c2 c3 c4 c5 c6 c7 c8 c9 K Z N B Y I O M P ct wr ofs th (some j_5) ey9 (some j_5) la9) H := hP
            have hD : va_D A (wM qM qK qZ qN qB qY qi qo qm qp c1 c2 c3 c4 c5 c6 c7 c8 c9 K Z N B Y I O M P ct wr ofs th (some j_5) ey9 (some j_5) la9) := hD
            refine lv_aload_n hx hb dd_M_lead_69 rfl (lv_at hl 2 rfl) ?_
            refine lv_iload_n hx hb dd_M_lead_70 rfl (lv_at hl 0 rfl) ?_
            refine va_put (D := G) (ci := 4) (v := .int (nI (u / 2 ^ (8 * n) % 256))) (ty := .int) (C := cn_M) (T := ft_M) (N := 17) hx hb hts uw_M fy_M fo_M fn_M hown hK hP hD hS 0 rfl rfl 16 (by decide) (hts _ tw_609) (fun _ h9 => h9) rfl (by decide +kernel) rfl rfl (Nat.le_of_ble_eq_true rfl) dd_M_lead_71 (fun H locs hP hD hS => ?_)
            have hP : va_P G jcl (wM qM qK qZ qN qB qY qi qo qm qp c1 c2 c3 c4 c5 c6 c7 c8 c9 K Z N B Y I O M P ct wr ofs th (some j_5) ey9 (some j_5) (u / 2 ^ (8 * n) % 256)) H := hP
            have hD : va_D A (wM qM qK qZ qN qB qY qi qo qm qp c1 c2 c3 c4 c5 c6 c7 c8 c9 K Z N B Y I O M P ct wr ofs th (some j_5) ey9 (some j_5) (u / 2 ^ (8 * n) % 256)) := hD
            refine lv_aload_n hx hb dd_M_lead_74 rfl (lv_at hl 2 rfl) ?_
            refine lv_aload_n hx hb dd_M_lead_75 rfl (lv_at hl 2 rfl) ?_
            refine lv_aload_n hx hb dd_M_lead_76 rfl (lv_at hl 2 rfl) ?_
            refine va_get (D := G) (ci := 4) (v := .int (nI (j_5))) (C := cn_M) (T := ft_M) (N := 17) hx hb hts uw_M hown hK hP 0 rfl rfl 13 (by decide) (hts _ tw_606) (fun _ h9 => h9) rfl dd_M_lead_77 ?_
            refine lv_iload_n hx hb dd_M_lead_80 rfl (lv_at hl 0 rfl) ?_
            refine jr_callV C (ct_M_entryOf l G qM qK qZ qN qB qY qi qo qm qp c1 c2 c3 c4 c5 c6 c7 c8 c9 K Z N B Y I O M P ct wr ofs th (some j_5) ey9 (some j_5) (u / 2 ^ (8 * n) % 256) j_5 (u / 2 ^ (8 * n) % 256) (by omega) (by omega) (by assumption) (by assumption)) kl_M_75 ⟨Nat.le_of_ble_eq_true rfl, Nat.le_of_ble_eq_true rfl, rfl, rfl⟩ ⟨Nat.le_of_ble_eq_true rfl, Nat.le_of_ble_eq_true rfl⟩ (hP) (hK) (va_recv hK hP (ci := 4) (q0 := 0) rfl rfl) hl.1 rfl rfl (Nat.le_of_ble_eq_true rfl) dd_M_lead_81 ?_
            have hf_9 : Z j_5 < 65 := (by assumption : jlt 65 Z) _
            refine va_put (D := G) (ci := 4) (v := .int (jo (jm_entryOf Z Y j_5 (u / 2 ^ (8 * n) % 256)))) (ty := .int) (C := cn_M) (T := ft_M) (N := 17) hx hb hts uw_M fy_M fo_M fn_M hown hK hP hD hS 0 rfl rfl 14 (by decide) (hts _ tw_607) (fun _ h9 => h9) rfl (by decide +kernel) rfl rfl (Nat.le_of_ble_eq_true rfl) dd_M_lead_84 (fun H locs hP hD hS => ?_)
            have hP : va_P G jcl (wM qM qK qZ qN qB qY qi qo qm qp c1 c2 c3 c4 c5 c6 c7 c8 c9 K Z N B Y I O M P ct wr ofs th (some j_5) (jm_entryOf Z Y j_5 (u / 2 ^ (8 * n) % 256)) (some j_5) (u / 2 ^ (8 * n) % 256)) H := hP
            have hD : va_D A (wM qM qK qZ qN qB qY qi qo qm qp c1 c2 c3 c4 c5 c6 c7 c8 c9 K Z N B Y I O M P ct wr ofs th (some j_5) (jm_entryOf Z Y j_5 (u / 2 ^ (8 * n) % 256)) (some j_5) (u / 2 ^ (8 * n) % 256)) := hD
            refine lv_aload_n hx hb dd_M_lead_87 rfl (lv_at hl 2 rfl) ?_
            refine lv_aload_n hx hb dd_M_lead_88 rfl (lv_at hl 2 rfl) ?_
            refine va_get (D := G) (ci := 4) (v := .int (jo (jm_entryOf Z Y j_5 (u / 2 ^ (8 * n) % 256)))) (C := cn_M) (T := ft_M) (N := 17) hx hb hts uw_M hown hK hP 0 rfl rfl 14 (by decide) (hts _ tw_607) (fun _ h9 => h9) rfl dd_M_lead_89 ?_
            refine jl_ifgeO (tgt := 99) hx hb (fun j h => Nat.lt_of_lt_of_le (jm_entryOf_lt h) (by omega)) dd_M_lead_92 (by decide) (fun j_11 hj_11 => ?_) (fun hj_11 => ?_)
            · skip
              have ho_12 := jm_entryOf_lt hj_11
              rw [hj_11] at hP hD
              have hP : va_P G jcl (wM qM qK qZ qN qB qY qi qo qm qp c1 c2 c3 c4 c5 c6 c7 c8 c9 K Z N B Y I O M P ct wr ofs th (some j_5) (some j_11) (some j_5) (u / 2 ^ (8 * n) % 256)) H := hP
              have hD : va_D A (wM qM qK qZ qN qB qY qi qo qm qp c1 c2 c3 c4 c5 c6 c7 c8 c9 K Z N B Y I O M P ct wr ofs th (some j_5) (some j_11) (some j_5) (u / 2 ^ (8 * n) % 256)) := hD
              refine lv_aload_n hx hb dd_M_lead_99 rfl (lv_at hl 2 rfl) ?_
              refine va_get (D := G) (ci := 4) (v := .ref qY) (C := cn_M) (T := ft_M) (N := 17) hx hb hts uw_M hown hK hP 0 rfl rfl 4 (by decide) (hts _ tw_597) (fun _ h9 => h9) rfl dd_M_lead_100 ?_
              refine lv_aload_n hx hb dd_M_lead_103 rfl (lv_at hl 2 rfl) ?_
              refine va_get (D := G) (ci := 4) (v := .int (nI (j_5))) (C := cn_M) (T := ft_M) (N := 17) hx hb hts uw_M hown hK hP 0 rfl rfl 13 (by decide) (hts _ tw_606) (fun _ h9 => h9) rfl dd_M_lead_104 ?_
              refine lv_bipush (v := nI 64) hx hb dd_M_lead_107 (by decide) ?_
              refine jl_imul hx hb dd_M_lead_109 ?_
              refine lv_aload_n hx hb dd_M_lead_110 rfl (lv_at hl 2 rfl) ?_
              refine va_get (D := G) (ci := 4) (v := .int (nI (j_11))) (C := cn_M) (T := ft_M) (N := 17) hx hb hts uw_M hown hK hP 0 rfl rfl 14 (by decide) (hts _ tw_607) (fun _ h9 => h9) rfl dd_M_lead_111 ?_
              refine lv_iconst (v := nI 2) hx hb dd_M_lead_114 (by decide) ?_
              refine jl_imul hx hb dd_M_lead_115 ?_
              refine jl_iadd hx hb dd_M_lead_116 ?_
              refine lv_iconst (v := nI 1) hx hb dd_M_lead_117 (by decide) ?_
              refine jl_iadd hx hb dd_M_lead_118 ?_
              refine va_iald hx hb hK hP 5 4 rfl rfl (vp_in_nI (by omega) (by decide)) dd_M_lead_119 ?_
              refine jl_top (jn_at (Y) (by omega)) ?_
              have hf_13 : Y (((j_5 * 64) + (j_11 * 2)) + 1) < 256 := (by assumption : jlt 256 Y) _
              refine va_put (D := G) (ci := 4) (v := .int (nI (Y (((j_5 * 64) + (j_11 * 2)) + 1)))) (ty := .int) (C := cn_M) (T := ft_M) (N := 17) hx hb hts uw_M fy_M fo_M fn_M hown hK hP hD hS 0 rfl rfl 15 (by decide) (hts _ tw_608) (fun _ h9 => h9) rfl (by decide +kernel) rfl rfl (Nat.le_of_ble_eq_true rfl) dd_M_lead_120 (fun H locs hP hD hS => ?_)
              have hP : va_P G jcl (wM qM qK qZ qN qB qY qi qo qm qp c1 c2 c3 c4 c5 c6 c7 c8 c9 K Z N B Y I O M P ct wr ofs th (some j_5) (some j_11) (some (Y (((j_5 * 64) + (j_11 * 2)) + 1))) (u / 2 ^ (8 * n) % 256)) H := hP
              have hD : va_D A (wM qM qK qZ qN qB qY qi qo qm qp c1 c2 c3 c4 c5 c6 c7 c8 c9 K Z N B Y I O M P ct wr ofs th (some j_5) (some j_11) (some (Y (((j_5 * 64) + (j_11 * 2)) + 1))) (u / 2 ^ (8 * n) % 256)) := hD
              refine lv_iinc (v := jsh n) (lv' := [(2, .int (jsh n)), (3, .int (nI (u / 2 ^ (8 * n) % 256))), (0, .ref qM), (1, .int (nI (u)))]) hx hb dd_M_lead_123 hl (k := 1) rfl (jsh_step n) (by decide) rfl (fun ls hl => ?_)
              refine lv_goto (tgt := 23) hx hb dd_M_lead_126 (by decide) ?_
              exact ih  (some j_5) (some j_11) (some (Y (((j_5 * 64) + (j_11 * 2)) + 1))) (u / 2 ^ (8 * n) % 256) (by omega) (by first | assumption | (intro f hf; cases hf; done) | (intro f hf; cases hf; first | omega | exact hE _ (by omega) (by omega) _ (by omega))) (by simpa [jm_ldL, c_3, hj_5, c_8, hj_11] using ht) _ _ hP hD hS ls (lv_sub hl [0, 2, 3] rfl)
            · skip
              rw [hj_11] at hP hD
              have hP : va_P G jcl (wM qM qK qZ qN qB qY qi qo qm qp c1 c2 c3 c4 c5 c6 c7 c8 c9 K Z N B Y I O M P ct wr ofs th (some j_5) none (some j_5) (u / 2 ^ (8 * n) % 256)) H := hP
              have hD : va_D A (wM qM qK qZ qN qB qY qi qo qm qp c1 c2 c3 c4 c5 c6 c7 c8 c9 K Z N B Y I O M P ct wr ofs th (some j_5) none (some j_5) (u / 2 ^ (8 * n) % 256)) := hD
              refine lv_iconst (v := -1) hx hb dd_M_lead_95 (by decide) ?_
              refine lv_goto (tgt := 120) hx hb dd_M_lead_96 (by decide) ?_
              refine va_put (D := G) (ci := 4) (v := .int (-1)) (ty := .int) (C := cn_M) (T := ft_M) (N := 17) hx hb hts uw_M fy_M fo_M fn_M hown hK hP hD hS 0 rfl rfl 15 (by decide) (hts _ tw_608) (fun _ h9 => h9) rfl (by decide +kernel) rfl rfl (Nat.le_of_ble_eq_true rfl) dd_M_lead_120 (fun H locs hP hD hS => ?_)
              have hP : va_P G jcl (wM qM qK qZ qN qB qY qi qo qm qp c1 c2 c3 c4 c5 c6 c7 c8 c9 K Z N B Y I O M P ct wr ofs th (some j_5) none none (u / 2 ^ (8 * n) % 256)) H := hP
              have hD : va_D A (wM qM qK qZ qN qB qY qi qo qm qp c1 c2 c3 c4 c5 c6 c7 c8 c9 K Z N B Y I O M P ct wr ofs th (some j_5) none none (u / 2 ^ (8 * n) % 256)) := hD
              refine lv_iinc (v := jsh n) (lv' := [(2, .int (jsh n)), (3, .int (nI (u / 2 ^ (8 * n) % 256))), (0, .ref qM), (1, .int (nI (u)))]) hx hb dd_M_lead_123 hl (k := 1) rfl (jsh_step n) (by decide) rfl (fun ls hl => ?_)
              refine lv_goto (tgt := 23) hx hb dd_M_lead_126 (by decide) ?_
              exact ih  (some j_5) none none (u / 2 ^ (8 * n) % 256) (by omega) (by first | assumption | (intro f hf; cases hf; done) | (intro f hf; cases hf; first | omega | exact hE _ (by omega) (by omega) _ (by omega))) (by simpa [jm_ldL, c_3, hj_5, c_8, hj_11] using ht) _ _ hP hD hS ls (lv_sub hl [0, 2, 3] rfl)
          · skip
            refine lv_iconst (v := nI 0) hx hb dd_M_lead_59 (by decide) ?_
            have he : wM qM qK qZ qN qB qY qi qo qm qp c1 c2 c3 c4 c5 c6 c7 c8 c9 K Z N B Y I O M P ct wr ofs th pa9 ey9 (some j_5) la9 = wM qM qK qZ qN qB qY qi qo qm qp c1 c2 c3 c4 c5 c6 c7 c8 c9 K Z N B Y I O M P ct wr ofs th ((jm_lead K Z Y u).2.1) ((jm_lead K Z Y u).2.2.1) ((jm_lead K Z Y u).2.2.2.1) ((jm_lead K Z Y u).2.2.2.2) := by rw [← ht]; first | with_reducible rfl | (simp [jm_ldL, c_3, hj_5, c_8]; done)
            rw [he] at hP hD
            exact jm_retz C (by decide) (by rw [← ht]; first | with_reducible rfl | (simp [jm_ldL, c_3, hj_5, c_8]; done)) hP hD hK hS ⟨Nat.le_of_ble_eq_true rfl, Nat.le_of_ble_eq_true rfl⟩ dd_M_lead_60
  exact loop 4  none none (some 0) 0 (by omega) (by intro f hf; cases hf; decide) (rfl) _ _ hP hD hS ls (lv_sub hl [0, 1, 2] rfl)
