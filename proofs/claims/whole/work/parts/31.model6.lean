set_option maxHeartbeats 4000000 in
set_option maxRecDepth 100000 in
theorem ct_M_count (l : Launch) (G : va_G) (qM qK qZ qN qB qY qi qo qm qp : Nat) (c1 c2 c3 c4 c5 c6 c7 c8 c9 : ClassId) (K : Nat → Nat) (Z : Nat → Nat) (N : Nat → Nat) (B : Nat → Nat) (Y : Nat → Nat) (I : Nat → Nat) (O : Nat → Nat) (M : Nat → Nat) (P : Nat → Nat) (ct : Nat) (wr : Nat) (ofs : Nat) (th : Nat) (pa : Option Nat) (ey : Option Nat) (fo : Option Nat) (la : Nat) (z : Nat) (m : Nat) (hz0 : z < 4294967296) (hm0 : 9 ≤ m ∧ m < 5000) (hK : jlt 3 K) (hZ : jlt 65 Z) (hN : jlt 256 N) (hB : jlt m B) (hY : jlt 256 Y) (hI : jlt 13 I) (hO : jlt 256 O) (hM : jlt 5 M) : jm l yn_M_count (.code yn_M_count cd_M_count 4 (some .int)) { frames := 4, cells := 0, slots := 0, locals := 95 } G (tM c1 c2 c3 c4 c5 c6 c7 c8 c9) (wM qM qK qZ qN qB qY qi qo qm qp c1 c2 c3 c4 c5 c6 c7 c8 c9 K Z N B Y I O M P ct wr ofs th pa ey fo la) [.ref qM, .int (nI (z))] (some (.int (jo (jm_count K Z N B Y I O M wr ofs z)))) (wM qM qK qZ qN qB qY qi qo qm qp c1 c2 c3 c4 c5 c6 c7 c8 c9 K Z N B Y I O M P ct wr ofs 0 pa ey fo la) := by
  refine jm_of (by decide) (Nat.le_of_ble_eq_true rfl) ?_
  intro pr en σ mi bel met cd ls A hA C hP hK hD hS hl
  have hx := C.1
  have hb := C.2.1
  have hown := C.2.2.2.1
  have hts := C.2.2.2.2.1
  have hl : lv_has ls 4 [(0, .ref qM), (1, .int (nI (z)))] := hl
  refine lv_aload_n hx hb dd_M_count_0 rfl (lv_at hl 0 rfl) ?_
  refine lv_iconst (v := nI 0) hx hb dd_M_count_1 (by decide) ?_
  refine va_put (D := G) (ci := 4) (v := .int (nI (0))) (ty := .int) (C := cn_M) (T := ft_M) (N := 17) hx hb hts uw_M fy_M fo_M fn_M hown hK hP hD hS 0 rfl rfl 12 (by decide) (hts _ tw_605) (fun _ h9 => h9) rfl (by decide +kernel) rfl rfl (Nat.le_of_ble_eq_true rfl) dd_M_count_2 (fun H locs hP hD hS => ?_)
  have hP : va_P G jcl (wM qM qK qZ qN qB qY qi qo qm qp c1 c2 c3 c4 c5 c6 c7 c8 c9 K Z N B Y I O M P ct wr ofs 0 pa ey fo la) H := hP
  have hD : va_D A (wM qM qK qZ qN qB qY qi qo qm qp c1 c2 c3 c4 c5 c6 c7 c8 c9 K Z N B Y I O M P ct wr ofs 0 pa ey fo la) := hD
  refine lv_iload_n hx hb dd_M_count_5 rfl (lv_at hl 1 rfl) ?_
  refine jl_ifne32 (tgt := 14) hx hb (by omega) dd_M_count_6 (by decide) (fun c_1 => ?_) (fun c_1 => ?_)
  · skip
    refine lv_iload_n hx hb dd_M_count_14 rfl (lv_at hl 1 rfl) ?_
    refine lv_iconst (v := nI 3) hx hb dd_M_count_15 (by decide) ?_
    refine jl_ne32 (tgt := 24) hx hb (by omega) (by omega) dd_M_count_16 (by decide) (fun c_2 => ?_) (fun c_2 => ?_)
    · skip
      refine lv_iload_n hx hb dd_M_count_24 rfl (lv_at hl 1 rfl) ?_
      refine lv_iconst (v := nI 4) hx hb dd_M_count_25 (by decide) ?_
      refine jl_ne32 (tgt := 34) hx hb (by omega) (by omega) dd_M_count_26 (by decide) (fun c_3 => ?_) (fun c_3 => ?_)
      · skip
        refine lv_iload_n hx hb dd_M_count_34 rfl (lv_at hl 1 rfl) ?_
        refine lv_iconst (v := nI 5) hx hb dd_M_count_35 (by decide) ?_
        refine jl_ne32 (tgt := 44) hx hb (by omega) (by omega) dd_M_count_36 (by decide) (fun c_4 => ?_) (fun c_4 => ?_)
        · skip
          refine lv_iload_n hx hb dd_M_count_44 rfl (lv_at hl 1 rfl) ?_
          refine lv_iconst (v := nI 1) hx hb dd_M_count_45 (by decide) ?_
          refine jl_eq32 (tgt := 62) hx hb (by omega) (by omega) dd_M_count_46 (by decide) (fun c_5 => ?_) (fun c_5 => ?_)
          · skip
            refine lv_iconst (v := nI 0) hx hb dd_M_count_62 (by decide) ?_
            refine lv_istore_n (lv' := [(2, .int (nI (0))), (0, .ref qM), (1, .int (nI (z)))]) hx hb dd_M_count_63 rfl hl (by decide) rfl (fun ls hl => ?_)
            refine lv_iconst (v := nI 0) hx hb dd_M_count_64 (by decide) ?_
            refine lv_istore_n (lv' := [(3, .int (nI (0))), (2, .int (nI (0))), (0, .ref qM), (1, .int (nI (z)))]) hx hb dd_M_count_65 rfl hl (by decide) rfl (fun ls hl => ?_)
            have loop_htA : ∀ (n : Nat) (f : Nat) (i : Nat), (i + n = 12 ∧ f ≤ i) → some (jm_cnA K n i f) = jm_count K Z N B Y I O M wr ofs z → ∀ ls : Array Slot, lv_has ls 4 [(3, .int (nI (i))), (2, .int (nI (f))), (0, .ref qM), (1, .int (nI (z)))] → W pr l en { frames := 4, cells := 0, slots := 0, locals := 95 } σ mi ([.ref qM, .int (nI (z))] : List Value).toArray bel met cd H locs 0 0 (jm_Q bel { frames := 4, cells := 0, slots := 0, locals := 95 } G (tM c1 c2 c3 c4 c5 c6 c7 c8 c9) A [.ref qM, .int (nI (z))] σ (some (.int (jo (jm_count K Z N B Y I O M wr ofs z)))) (wM qM qK qZ qN qB qY qi qo qm qp c1 c2 c3 c4 c5 c6 c7 c8 c9 K Z N B Y I O M P ct wr ofs 0 pa ey fo la)) (F0 mi 66 ls []) := by
              intro n
              induction n with
              | zero =>
                intro f i hi  htA ls hl
                refine lv_iload_n hx hb dd_M_count_66 rfl (lv_at hl 0 rfl) ?_
                refine lv_bipush (v := nI 12) hx hb dd_M_count_67 (by decide) ?_
                refine jl_ge (tgt := 95) hx hb (by omega) (by omega) dd_M_count_69 (by decide) (fun c_6 => ?_) (fun c_6 => ?_)
                · skip
                  refine lv_iconst (v := nI 0) hx hb dd_M_count_95 (by decide) ?_
                  refine lv_istore_n (lv' := [(3, .int (nI (0))), (2, .int (nI (f))), (0, .ref qM), (1, .int (nI (z)))]) hx hb dd_M_count_96 rfl hl (by decide) rfl (fun ls hl => ?_)
                  have loop_htB : ∀ (n : Nat) (f : Nat) (h : Nat), (h + n = 6 ∧ f ≤ h + 12) → some f = jm_count K Z N B Y I O M wr ofs z → ∀ ls : Array Slot, lv_has ls 4 [(3, .int (nI (h))), (2, .int (nI (f))), (0, .ref qM), (1, .int (nI (z)))] → W pr l en { frames := 4, cells := 0, slots := 0, locals := 95 } σ mi ([.ref qM, .int (nI (z))] : List Value).toArray bel met cd H locs 0 0 (jm_Q bel { frames := 4, cells := 0, slots := 0, locals := 95 } G (tM c1 c2 c3 c4 c5 c6 c7 c8 c9) A [.ref qM, .int (nI (z))] σ (some (.int (jo (jm_count K Z N B Y I O M wr ofs z)))) (wM qM qK qZ qN qB qY qi qo qm qp c1 c2 c3 c4 c5 c6 c7 c8 c9 K Z N B Y I O M P ct wr ofs 0 pa ey fo la)) (F0 mi 97 ls []) := by
                    intro n
                    induction n with
                    | zero =>
                      intro f h hi  htB ls hl
                      refine lv_iload_n hx hb dd_M_count_97 rfl (lv_at hl 0 rfl) ?_
                      refine lv_bipush (v := nI 6) hx hb dd_M_count_98 (by decide) ?_
                      refine jl_ge (tgt := 139) hx hb (by omega) (by omega) dd_M_count_100 (by decide) (fun c_7 => ?_) (fun c_7 => ?_)
                      · skip
                        refine lv_iload_n hx hb dd_M_count_139 rfl (lv_at hl 1 rfl) ?_
                        exact jm_reti C (by rw [← htB]; first | with_reducible rfl | (simp [jm_cnB, jo, c_7]; done)) hP hD hK hS ⟨Nat.le_of_ble_eq_true rfl, Nat.le_of_ble_eq_true rfl⟩ dd_M_count_140
                      · skip
                        exact absurd c_7 (by omega)
                    | succ n ih_htB =>
                      intro f h hi  htB ls hl
                      refine lv_iload_n hx hb dd_M_count_97 rfl (lv_at hl 0 rfl) ?_
                      refine lv_bipush (v := nI 6) hx hb dd_M_count_98 (by decide) ?_
                      refine jl_ge (tgt := 139) hx hb (by omega) (by omega) dd_M_count_100 (by decide) (fun c_8 => ?_) (fun c_8 => ?_)
                      · skip
                        exact absurd c_8 (by omega)
                      · skip
                        refine lv_iload_n hx hb dd_M_count_103 rfl (lv_at hl 3 rfl) ?_
                        refine lv_iconst (v := nI 1) hx hb dd_M_count_104 (by decide) ?_
                        refine jl_eq32 (tgt := 139) hx hb (by omega) (by omega) dd_M_count_105 (by decide) (fun c_9 => ?_) (fun c_9 => ?_)
                        · skip
                          refine lv_iload_n hx hb dd_M_count_139 rfl (lv_at hl 1 rfl) ?_
                          exact jm_reti C (by rw [← htB]; first | with_reducible rfl | (simp [jm_cnB, jo, c_8, c_9]; done)) hP hD hK hS ⟨Nat.le_of_ble_eq_true rfl, Nat.le_of_ble_eq_true rfl⟩ dd_M_count_140
                        · skip
                          exact absurd c_9 (by omega)
                  exact loop_htB 6 f 0 (by omega) (by simpa [jm_cnA] using htA) ls (lv_sub hl [0, 1, 2, 3] rfl)
                · skip
                  exact absurd c_6 (by omega)
              | succ n ih_htA =>
                intro f i hi  htA ls hl
                refine lv_iload_n hx hb dd_M_count_66 rfl (lv_at hl 0 rfl) ?_
                refine lv_bipush (v := nI 12) hx hb dd_M_count_67 (by decide) ?_
                refine jl_ge (tgt := 95) hx hb (by omega) (by omega) dd_M_count_69 (by decide) (fun c_10 => ?_) (fun c_10 => ?_)
                · skip
                  exact absurd c_10 (by omega)
                · skip
                  refine lv_iload_n hx hb dd_M_count_72 rfl (lv_at hl 3 rfl) ?_
                  refine lv_iconst (v := nI 1) hx hb dd_M_count_73 (by decide) ?_
                  refine jl_ne32 (tgt := 95) hx hb (by omega) (by omega) dd_M_count_74 (by decide) (fun c_11 => ?_) (fun c_11 => ?_)
                  · skip
                    exact absurd c_11 (by omega)
                  · skip
                    refine lv_aload_n hx hb dd_M_count_77 rfl (lv_at hl 2 rfl) ?_
                    refine va_get (D := G) (ci := 4) (v := .ref qK) (C := cn_M) (T := ft_M) (N := 17) hx hb hts uw_M hown hK hP 0 rfl rfl 0 (by decide) (hts _ tw_593) (fun _ h9 => h9) rfl dd_M_count_78 ?_
                    refine lv_iload_n hx hb dd_M_count_81 rfl (lv_at hl 0 rfl) ?_
                    refine va_iald hx hb hK hP 1 0 rfl rfl (vp_in_nI (by omega) (by decide)) dd_M_count_82 ?_
                    refine jl_top (jn_at (K) (by omega)) ?_
                    have hf_12 : K i < 3 := (by assumption : jlt 3 K) _
                    refine jl_ifne (tgt := 89) hx hb (by omega) dd_M_count_83 (by decide) (fun c_13 => ?_) (fun c_13 => ?_)
                    · skip
                      refine jl_iinc (lv' := [(3, .int (nI (i + 1))), (2, .int (nI (f))), (0, .ref qM), (1, .int (nI (z)))]) hx hb dd_M_count_89 hl (k := 0) rfl (by decide) rfl (fun ls hl => ?_)
                      refine lv_goto (tgt := 66) hx hb dd_M_count_92 (by decide) ?_
                      exact ih_htA f (i + 1) (by omega) (by simpa [jm_cnA, jo, c_10, c_11, c_13] using htA) ls (lv_sub hl [0, 1, 2, 3] rfl)
                    · skip
                      refine jl_iinc (lv' := [(2, .int (nI (f + 1))), (3, .int (nI (i))), (0, .ref qM), (1, .int (nI (z)))]) hx hb dd_M_count_86 hl (k := 1) rfl (by decide) rfl (fun ls hl => ?_)
                      refine jl_iinc (lv' := [(3, .int (nI (i + 1))), (2, .int (nI (f + 1))), (0, .ref qM), (1, .int (nI (z)))]) hx hb dd_M_count_89 hl (k := 1) rfl (by decide) rfl (fun ls hl => ?_)
                      refine lv_goto (tgt := 66) hx hb dd_M_count_92 (by decide) ?_
                      exact ih_htA (f + 1) (i + 1) (by omega) (by simpa [jm_cnA, jo, c_10, c_11, c_13] using htA) ls (lv_sub hl [0, 1, 2, 3] rfl)
            exact loop_htA 12 0 0 (by omega) (by simp_all [jm_count]) ls (lv_sub hl [0, 1, 2, 3] rfl)
          · skip
            refine lv_iload_n hx hb dd_M_count_49 rfl (lv_at hl 1 rfl) ?_
            refine lv_iconst (v := nI 2) hx hb dd_M_count_50 (by decide) ?_
            refine jl_eq32 (tgt := 62) hx hb (by omega) (by omega) dd_M_count_51 (by decide) (fun c_14 => ?_) (fun c_14 => ?_)
            · skip
              refine lv_iconst (v := nI 0) hx hb dd_M_count_62 (by decide) ?_
              refine lv_istore_n (lv' := [(2, .int (nI (0))), (0, .ref qM), (1, .int (nI (z)))]) hx hb dd_M_count_63 rfl hl (by decide) rfl (fun ls hl => ?_)
              refine lv_iconst (v := nI 0) hx hb dd_M_count_64 (by decide) ?_
              refine lv_istore_n (lv' := [(3, .int (nI (0))), (2, .int (nI (0))), (0, .ref qM), (1, .int (nI (z)))]) hx hb dd_M_count_65 rfl hl (by decide) rfl (fun ls hl => ?_)
              have loop_htA : ∀ (n : Nat) (f : Nat) (i : Nat), (i + n = 12 ∧ f ≤ i) → f = 0 → ∀ ls : Array Slot, lv_has ls 4 [(3, .int (nI (i))), (2, .int (nI (f))), (0, .ref qM), (1, .int (nI (z)))] → W pr l en { frames := 4, cells := 0, slots := 0, locals := 95 } σ mi ([.ref qM, .int (nI (z))] : List Value).toArray bel met cd H locs 0 0 (jm_Q bel { frames := 4, cells := 0, slots := 0, locals := 95 } G (tM c1 c2 c3 c4 c5 c6 c7 c8 c9) A [.ref qM, .int (nI (z))] σ (some (.int (jo (jm_count K Z N B Y I O M wr ofs z)))) (wM qM qK qZ qN qB qY qi qo qm qp c1 c2 c3 c4 c5 c6 c7 c8 c9 K Z N B Y I O M P ct wr ofs 0 pa ey fo la)) (F0 mi 66 ls []) := by
                intro n
                induction n with
                | zero =>
                  intro f i hi  htA ls hl
                  refine lv_iload_n hx hb dd_M_count_66 rfl (lv_at hl 0 rfl) ?_
                  refine lv_bipush (v := nI 12) hx hb dd_M_count_67 (by decide) ?_
                  refine jl_ge (tgt := 95) hx hb (by omega) (by omega) dd_M_count_69 (by decide) (fun c_15 => ?_) (fun c_15 => ?_)
                  · skip
                    refine lv_iconst (v := nI 0) hx hb dd_M_count_95 (by decide) ?_
                    refine lv_istore_n (lv' := [(3, .int (nI (0))), (2, .int (nI (f))), (0, .ref qM), (1, .int (nI (z)))]) hx hb dd_M_count_96 rfl hl (by decide) rfl (fun ls hl => ?_)
                    have loop_htB : ∀ (n : Nat) (f : Nat) (h : Nat), (h + n = 6 ∧ f ≤ h + 12) → some (jm_cnB K N I O M z n h f) = jm_count K Z N B Y I O M wr ofs z → ∀ ls : Array Slot, lv_has ls 4 [(3, .int (nI (h))), (2, .int (nI (f))), (0, .ref qM), (1, .int (nI (z)))] → W pr l en { frames := 4, cells := 0, slots := 0, locals := 95 } σ mi ([.ref qM, .int (nI (z))] : List Value).toArray bel met cd H locs 0 0 (jm_Q bel { frames := 4, cells := 0, slots := 0, locals := 95 } G (tM c1 c2 c3 c4 c5 c6 c7 c8 c9) A [.ref qM, .int (nI (z))] σ (some (.int (jo (jm_count K Z N B Y I O M wr ofs z)))) (wM qM qK qZ qN qB qY qi qo qm qp c1 c2 c3 c4 c5 c6 c7 c8 c9 K Z N B Y I O M P ct wr ofs 0 pa ey fo la)) (F0 mi 97 ls []) := by
                      intro n
                      induction n with
                      | zero =>
                        intro f h hi  htB ls hl
                        refine lv_iload_n hx hb dd_M_count_97 rfl (lv_at hl 0 rfl) ?_
                        refine lv_bipush (v := nI 6) hx hb dd_M_count_98 (by decide) ?_
                        refine jl_ge (tgt := 139) hx hb (by omega) (by omega) dd_M_count_100 (by decide) (fun c_16 => ?_) (fun c_16 => ?_)
                        · skip
                          refine lv_iload_n hx hb dd_M_count_139 rfl (lv_at hl 1 rfl) ?_
                          exact jm_reti C (by rw [← htB]; first | with_reducible rfl | (simp [jm_cnB, jo, c_16]; done)) hP hD hK hS ⟨Nat.le_of_ble_eq_true rfl, Nat.le_of_ble_eq_true rfl⟩ dd_M_count_140
                        · skip
                          exact absurd c_16 (by omega)
                      | succ n ih_htB =>
                        intro f h hi  htB ls hl
                        refine lv_iload_n hx hb dd_M_count_97 rfl (lv_at hl 0 rfl) ?_
                        refine lv_bipush (v := nI 6) hx hb dd_M_count_98 (by decide) ?_
                        refine jl_ge (tgt := 139) hx hb (by omega) (by omega) dd_M_count_100 (by decide) (fun c_17 => ?_) (fun c_17 => ?_)
                        · skip
                          exact absurd c_17 (by omega)
                        · skip
                          refine lv_iload_n hx hb dd_M_count_103 rfl (lv_at hl 3 rfl) ?_
                          refine lv_iconst (v := nI 1) hx hb dd_M_count_104 (by decide) ?_
                          refine jl_eq32 (tgt := 139) hx hb (by omega) (by omega) dd_M_count_105 (by decide) (fun c_18 => ?_) (fun c_18 => ?_)
                          · skip
                            exact absurd c_18 (by omega)
                          · skip
                            refine lv_aload_n hx hb dd_M_count_108 rfl (lv_at hl 2 rfl) ?_
                            refine va_get (D := G) (ci := 4) (v := .ref qi) (C := cn_M) (T := ft_M) (N := 17) hx hb hts uw_M hown hK hP 0 rfl rfl 5 (by decide) (hts _ tw_598) (fun _ h9 => h9) rfl dd_M_count_109 ?_
                            refine lv_iload_n hx hb dd_M_count_112 rfl (lv_at hl 0 rfl) ?_
                            refine va_iald hx hb hK hP 6 5 rfl rfl (vp_in_nI (by omega) (by decide)) dd_M_count_113 ?_
                            refine jl_top (jn_at (I) (by omega)) ?_
                            have hf_19 : I h < 13 := (by assumption : jlt 13 I) _
                            refine jl_ifeq (tgt := 133) hx hb (by omega) dd_M_count_114 (by decide) (fun c_20 => ?_) (fun c_20 => ?_)
                            · skip
                              refine jl_iinc (lv' := [(3, .int (nI (h + 1))), (2, .int (nI (f))), (0, .ref qM), (1, .int (nI (z)))]) hx hb dd_M_count_133 hl (k := 0) rfl (by decide) rfl (fun ls hl => ?_)
                              refine lv_goto (tgt := 97) hx hb dd_M_count_136 (by decide) ?_
                              exact ih_htB f (h + 1) (by omega) (by simpa [jm_cnB, jo, c_17, c_18, c_20] using htB) ls (lv_sub hl [0, 1, 2, 3] rfl)
                            · skip
                              refine lv_iload_n hx hb dd_M_count_117 rfl (lv_at hl 3 rfl) ?_
                              refine lv_iconst (v := nI 2) hx hb dd_M_count_118 (by decide) ?_
                              refine jl_eq32 (tgt := 130) hx hb (by omega) (by omega) dd_M_count_119 (by decide) (fun c_21 => ?_) (fun c_21 => ?_)
                              · skip
                                refine jl_iinc (lv' := [(2, .int (nI (f + 1))), (3, .int (nI (h))), (0, .ref qM), (1, .int (nI (z)))]) hx hb dd_M_count_130 hl (k := 1) rfl (by decide) rfl (fun ls hl => ?_)
                                refine jl_iinc (lv' := [(3, .int (nI (h + 1))), (2, .int (nI (f + 1))), (0, .ref qM), (1, .int (nI (z)))]) hx hb dd_M_count_133 hl (k := 1) rfl (by decide) rfl (fun ls hl => ?_)
                                refine lv_goto (tgt := 97) hx hb dd_M_count_136 (by decide) ?_
                                exact ih_htB (f + 1) (h + 1) (by omega) (by simpa [jm_cnB, jo, c_17, c_18, c_20, c_21] using htB) ls (lv_sub hl [0, 1, 2, 3] rfl)
                              · skip
                                exact absurd c_21 (by omega)
                    exact loop_htB 6 f 0 (by omega) (by subst htA; simp_all [jm_count]) ls (lv_sub hl [0, 1, 2, 3] rfl)
                  · skip
                    exact absurd c_15 (by omega)
                | succ n ih_htA =>
                  intro f i hi  htA ls hl
                  refine lv_iload_n hx hb dd_M_count_66 rfl (lv_at hl 0 rfl) ?_
                  refine lv_bipush (v := nI 12) hx hb dd_M_count_67 (by decide) ?_
                  refine jl_ge (tgt := 95) hx hb (by omega) (by omega) dd_M_count_69 (by decide) (fun c_22 => ?_) (fun c_22 => ?_)
                  · skip
                    exact absurd c_22 (by omega)
                  · skip
                    refine lv_iload_n hx hb dd_M_count_72 rfl (lv_at hl 3 rfl) ?_
                    refine lv_iconst (v := nI 1) hx hb dd_M_count_73 (by decide) ?_
                    refine jl_ne32 (tgt := 95) hx hb (by omega) (by omega) dd_M_count_74 (by decide) (fun c_23 => ?_) (fun c_23 => ?_)
                    · skip
                      refine lv_iconst (v := nI 0) hx hb dd_M_count_95 (by decide) ?_
                      refine lv_istore_n (lv' := [(3, .int (nI (0))), (2, .int (nI (f))), (0, .ref qM), (1, .int (nI (z)))]) hx hb dd_M_count_96 rfl hl (by decide) rfl (fun ls hl => ?_)
                      have loop_htB : ∀ (n : Nat) (f : Nat) (h : Nat), (h + n = 6 ∧ f ≤ h + 12) → some (jm_cnB K N I O M z n h f) = jm_count K Z N B Y I O M wr ofs z → ∀ ls : Array Slot, lv_has ls 4 [(3, .int (nI (h))), (2, .int (nI (f))), (0, .ref qM), (1, .int (nI (z)))] → W pr l en { frames := 4, cells := 0, slots := 0, locals := 95 } σ mi ([.ref qM, .int (nI (z))] : List Value).toArray bel met cd H locs 0 0 (jm_Q bel { frames := 4, cells := 0, slots := 0, locals := 95 } G (tM c1 c2 c3 c4 c5 c6 c7 c8 c9) A [.ref qM, .int (nI (z))] σ (some (.int (jo (jm_count K Z N B Y I O M wr ofs z)))) (wM qM qK qZ qN qB qY qi qo qm qp c1 c2 c3 c4 c5 c6 c7 c8 c9 K Z N B Y I O M P ct wr ofs 0 pa ey fo la)) (F0 mi 97 ls []) := by
                        intro n
                        induction n with
                        | zero =>
                          intro f h hi  htB ls hl
                          refine lv_iload_n hx hb dd_M_count_97 rfl (lv_at hl 0 rfl) ?_
                          refine lv_bipush (v := nI 6) hx hb dd_M_count_98 (by decide) ?_
                          refine jl_ge (tgt := 139) hx hb (by omega) (by omega) dd_M_count_100 (by decide) (fun c_24 => ?_) (fun c_24 => ?_)
                          · skip
                            refine lv_iload_n hx hb dd_M_count_139 rfl (lv_at hl 1 rfl) ?_
                            exact jm_reti C (by rw [← htB]; first | with_reducible rfl | (simp [jm_cnB, jo, c_24]; done)) hP hD hK hS ⟨Nat.le_of_ble_eq_true rfl, Nat.le_of_ble_eq_true rfl⟩ dd_M_count_140
                          · skip
                            exact absurd c_24 (by omega)
                        | succ n ih_htB =>
                          intro f h hi  htB ls hl
                          refine lv_iload_n hx hb dd_M_count_97 rfl (lv_at hl 0 rfl) ?_
                          refine lv_bipush (v := nI 6) hx hb dd_M_count_98 (by decide) ?_
                          refine jl_ge (tgt := 139) hx hb (by omega) (by omega) dd_M_count_100 (by decide) (fun c_25 => ?_) (fun c_25 => ?_)
                          · skip
                            exact absurd c_25 (by omega)
                          · skip
                            refine lv_iload_n hx hb dd_M_count_103 rfl (lv_at hl 3 rfl) ?_
                            refine lv_iconst (v := nI 1) hx hb dd_M_count_104 (by decide) ?_
                            refine jl_eq32 (tgt := 139) hx hb (by omega) (by omega) dd_M_count_105 (by decide) (fun c_26 => ?_) (fun c_26 => ?_)
                            · skip
                              exact absurd c_26 (by omega)
                            · skip
                              refine lv_aload_n hx hb dd_M_count_108 rfl (lv_at hl 2 rfl) ?_
                              refine va_get (D := G) (ci := 4) (v := .ref qi) (C := cn_M) (T := ft_M) (N := 17) hx hb hts uw_M hown hK hP 0 rfl rfl 5 (by decide) (hts _ tw_598) (fun _ h9 => h9) rfl dd_M_count_109 ?_
                              refine lv_iload_n hx hb dd_M_count_112 rfl (lv_at hl 0 rfl) ?_
                              refine va_iald hx hb hK hP 6 5 rfl rfl (vp_in_nI (by omega) (by decide)) dd_M_count_113 ?_
                              refine jl_top (jn_at (I) (by omega)) ?_
                              have hf_27 : I h < 13 := (by assumption : jlt 13 I) _
                              refine jl_ifeq (tgt := 133) hx hb (by omega) dd_M_count_114 (by decide) (fun c_28 => ?_) (fun c_28 => ?_)
                              · skip
                                refine jl_iinc (lv' := [(3, .int (nI (h + 1))), (2, .int (nI (f))), (0, .ref qM), (1, .int (nI (z)))]) hx hb dd_M_count_133 hl (k := 0) rfl (by decide) rfl (fun ls hl => ?_)
                                refine lv_goto (tgt := 97) hx hb dd_M_count_136 (by decide) ?_
                                exact ih_htB f (h + 1) (by omega) (by simpa [jm_cnB, jo, c_25, c_26, c_28] using htB) ls (lv_sub hl [0, 1, 2, 3] rfl)
                              · skip
                                refine lv_iload_n hx hb dd_M_count_117 rfl (lv_at hl 3 rfl) ?_
                                refine lv_iconst (v := nI 2) hx hb dd_M_count_118 (by decide) ?_
                                refine jl_eq32 (tgt := 130) hx hb (by omega) (by omega) dd_M_count_119 (by decide) (fun c_29 => ?_) (fun c_29 => ?_)
                                · skip
                                  refine jl_iinc (lv' := [(2, .int (nI (f + 1))), (3, .int (nI (h))), (0, .ref qM), (1, .int (nI (z)))]) hx hb dd_M_count_130 hl (k := 1) rfl (by decide) rfl (fun ls hl => ?_)
                                  refine jl_iinc (lv' := [(3, .int (nI (h + 1))), (2, .int (nI (f + 1))), (0, .ref qM), (1, .int (nI (z)))]) hx hb dd_M_count_133 hl (k := 1) rfl (by decide) rfl (fun ls hl => ?_)
                                  refine lv_goto (tgt := 97) hx hb dd_M_count_136 (by decide) ?_
                                  exact ih_htB (f + 1) (h + 1) (by omega) (by simpa [jm_cnB, jo, c_25, c_26, c_28, c_29] using htB) ls (lv_sub hl [0, 1, 2, 3] rfl)
                                · skip
                                  exact absurd c_29 (by omega)
                      exact loop_htB 6 f 0 (by omega) (by subst htA; simp_all [jm_count]) ls (lv_sub hl [0, 1, 2, 3] rfl)
                    · skip
                      exact absurd c_23 (by omega)
              exact loop_htA 12 0 0 (by omega) (rfl) ls (lv_sub hl [0, 1, 2, 3] rfl)
            · skip
              refine lv_iload_n hx hb dd_M_count_54 rfl (lv_at hl 1 rfl) ?_
              refine lv_bipush (v := nI 6) hx hb dd_M_count_55 (by decide) ?_
              refine jl_eq32 (tgt := 62) hx hb (by omega) (by omega) dd_M_count_57 (by decide) (fun c_30 => ?_) (fun c_30 => ?_)
              · skip
                refine lv_iconst (v := nI 0) hx hb dd_M_count_62 (by decide) ?_
                refine lv_istore_n (lv' := [(2, .int (nI (0))), (0, .ref qM), (1, .int (nI (z)))]) hx hb dd_M_count_63 rfl hl (by decide) rfl (fun ls hl => ?_)
                refine lv_iconst (v := nI 0) hx hb dd_M_count_64 (by decide) ?_
                refine lv_istore_n (lv' := [(3, .int (nI (0))), (2, .int (nI (0))), (0, .ref qM), (1, .int (nI (z)))]) hx hb dd_M_count_65 rfl hl (by decide) rfl (fun ls hl => ?_)
                have loop_htA : ∀ (n : Nat) (f : Nat) (i : Nat), (i + n = 12 ∧ f ≤ i) → f = 0 → ∀ ls : Array Slot, lv_has ls 4 [(3, .int (nI (i))), (2, .int (nI (f))), (0, .ref qM), (1, .int (nI (z)))] → W pr l en { frames := 4, cells := 0, slots := 0, locals := 95 } σ mi ([.ref qM, .int (nI (z))] : List Value).toArray bel met cd H locs 0 0 (jm_Q bel { frames := 4, cells := 0, slots := 0, locals := 95 } G (tM c1 c2 c3 c4 c5 c6 c7 c8 c9) A [.ref qM, .int (nI (z))] σ (some (.int (jo (jm_count K Z N B Y I O M wr ofs z)))) (wM qM qK qZ qN qB qY qi qo qm qp c1 c2 c3 c4 c5 c6 c7 c8 c9 K Z N B Y I O M P ct wr ofs 0 pa ey fo la)) (F0 mi 66 ls []) := by
                  intro n
                  induction n with
                  | zero =>
                    intro f i hi  htA ls hl
                    refine lv_iload_n hx hb dd_M_count_66 rfl (lv_at hl 0 rfl) ?_
                    refine lv_bipush (v := nI 12) hx hb dd_M_count_67 (by decide) ?_
                    refine jl_ge (tgt := 95) hx hb (by omega) (by omega) dd_M_count_69 (by decide) (fun c_31 => ?_) (fun c_31 => ?_)
                    · skip
                      refine lv_iconst (v := nI 0) hx hb dd_M_count_95 (by decide) ?_
                      refine lv_istore_n (lv' := [(3, .int (nI (0))), (2, .int (nI (f))), (0, .ref qM), (1, .int (nI (z)))]) hx hb dd_M_count_96 rfl hl (by decide) rfl (fun ls hl => ?_)
                      have loop_htB : ∀ (n : Nat) (f : Nat) (h : Nat), (h + n = 6 ∧ f ≤ h + 12) → some (jm_cnB K N I O M z n h f) = jm_count K Z N B Y I O M wr ofs z → ∀ ls : Array Slot, lv_has ls 4 [(3, .int (nI (h))), (2, .int (nI (f))), (0, .ref qM), (1, .int (nI (z)))] → W pr l en { frames := 4, cells := 0, slots := 0, locals := 95 } σ mi ([.ref qM, .int (nI (z))] : List Value).toArray bel met cd H locs 0 0 (jm_Q bel { frames := 4, cells := 0, slots := 0, locals := 95 } G (tM c1 c2 c3 c4 c5 c6 c7 c8 c9) A [.ref qM, .int (nI (z))] σ (some (.int (jo (jm_count K Z N B Y I O M wr ofs z)))) (wM qM qK qZ qN qB qY qi qo qm qp c1 c2 c3 c4 c5 c6 c7 c8 c9 K Z N B Y I O M P ct wr ofs 0 pa ey fo la)) (F0 mi 97 ls []) := by
                        intro n
                        induction n with
                        | zero =>
                          intro f h hi  htB ls hl
                          refine lv_iload_n hx hb dd_M_count_97 rfl (lv_at hl 0 rfl) ?_
                          refine lv_bipush (v := nI 6) hx hb dd_M_count_98 (by decide) ?_
                          refine jl_ge (tgt := 139) hx hb (by omega) (by omega) dd_M_count_100 (by decide) (fun c_32 => ?_) (fun c_32 => ?_)
                          · skip
                            refine lv_iload_n hx hb dd_M_count_139 rfl (lv_at hl 1 rfl) ?_
                            exact jm_reti C (by rw [← htB]; first | with_reducible rfl | (simp [jm_cnB, jo, c_32]; done)) hP hD hK hS ⟨Nat.le_of_ble_eq_true rfl, Nat.le_of_ble_eq_true rfl⟩ dd_M_count_140
                          · skip
                            exact absurd c_32 (by omega)
                        | succ n ih_htB =>
                          intro f h hi  htB ls hl
                          refine lv_iload_n hx hb dd_M_count_97 rfl (lv_at hl 0 rfl) ?_
                          refine lv_bipush (v := nI 6) hx hb dd_M_count_98 (by decide) ?_
                          refine jl_ge (tgt := 139) hx hb (by omega) (by omega) dd_M_count_100 (by decide) (fun c_33 => ?_) (fun c_33 => ?_)
                          · skip
                            exact absurd c_33 (by omega)
                          · skip
                            refine lv_iload_n hx hb dd_M_count_103 rfl (lv_at hl 3 rfl) ?_
                            refine lv_iconst (v := nI 1) hx hb dd_M_count_104 (by decide) ?_
                            refine jl_eq32 (tgt := 139) hx hb (by omega) (by omega) dd_M_count_105 (by decide) (fun c_34 => ?_) (fun c_34 => ?_)
                            · skip
                              exact absurd c_34 (by omega)
                            · skip
                              refine lv_aload_n hx hb dd_M_count_108 rfl (lv_at hl 2 rfl) ?_
                              refine va_get (D := G) (ci := 4) (v := .ref qi) (C := cn_M) (T := ft_M) (N := 17) hx hb hts uw_M hown hK hP 0 rfl rfl 5 (by decide) (hts _ tw_598) (fun _ h9 => h9) rfl dd_M_count_109 ?_
                              refine lv_iload_n hx hb dd_M_count_112 rfl (lv_at hl 0 rfl) ?_
                              refine va_iald hx hb hK hP 6 5 rfl rfl (vp_in_nI (by omega) (by decide)) dd_M_count_113 ?_
                              refine jl_top (jn_at (I) (by omega)) ?_
                              have hf_35 : I h < 13 := (by assumption : jlt 13 I) _
                              refine jl_ifeq (tgt := 133) hx hb (by omega) dd_M_count_114 (by decide) (fun c_36 => ?_) (fun c_36 => ?_)
                              · skip
                                refine jl_iinc (lv' := [(3, .int (nI (h + 1))), (2, .int (nI (f))), (0, .ref qM), (1, .int (nI (z)))]) hx hb dd_M_count_133 hl (k := 0) rfl (by decide) rfl (fun ls hl => ?_)
                                refine lv_goto (tgt := 97) hx hb dd_M_count_136 (by decide) ?_
                                exact ih_htB f (h + 1) (by omega) (by simpa [jm_cnB, jo, c_33, c_34, c_36] using htB) ls (lv_sub hl [0, 1, 2, 3] rfl)
                              · skip
                                refine lv_iload_n hx hb dd_M_count_117 rfl (lv_at hl 3 rfl) ?_
                                refine lv_iconst (v := nI 2) hx hb dd_M_count_118 (by decide) ?_
                                refine jl_eq32 (tgt := 130) hx hb (by omega) (by omega) dd_M_count_119 (by decide) (fun c_37 => ?_) (fun c_37 => ?_)
                                · skip
                                  exact absurd c_37 (by omega)
                                · skip
                                  refine lv_aload_n hx hb dd_M_count_122 rfl (lv_at hl 2 rfl) ?_
                                  refine lv_iload_n hx hb dd_M_count_123 rfl (lv_at hl 0 rfl) ?_
                                  refine jr_callV C (ct_M_stale l G qM qK qZ qN qB qY qi qo qm qp c1 c2 c3 c4 c5 c6 c7 c8 c9 K Z N B Y I O M P ct wr ofs 0 pa ey fo la h (by omega) (by omega) (by assumption) (by assumption) (by assumption) (by assumption) (by assumption)) kl_M_99 ⟨Nat.le_of_ble_eq_true rfl, Nat.le_of_ble_eq_true rfl, rfl, rfl⟩ ⟨Nat.le_of_ble_eq_true rfl, Nat.le_of_ble_eq_true rfl⟩ (hP) (hK) (va_recv hK hP (ci := 4) (q0 := 0) rfl rfl) hl.1 rfl rfl (Nat.le_of_ble_eq_true rfl) dd_M_count_124 ?_
                                  have hf_38 : jm_stale K N I O M h < 2 := jm_stale_lt _ _ _ _ _ _
                                  refine jl_ifeq (tgt := 133) hx hb (by omega) dd_M_count_127 (by decide) (fun c_39 => ?_) (fun c_39 => ?_)
                                  · skip
                                    refine jl_iinc (lv' := [(3, .int (nI (h + 1))), (2, .int (nI (f))), (0, .ref qM), (1, .int (nI (z)))]) hx hb dd_M_count_133 hl (k := 0) rfl (by decide) rfl (fun ls hl => ?_)
                                    refine lv_goto (tgt := 97) hx hb dd_M_count_136 (by decide) ?_
                                    exact ih_htB f (h + 1) (by omega) (by simpa [jm_cnB, jo, c_33, c_34, c_36, c_37, c_39] using htB) ls (lv_sub hl [0, 1, 2, 3] rfl)
                                  · skip
                                    refine jl_iinc (lv' := [(2, .int (nI (f + 1))), (3, .int (nI (h))), (0, .ref qM), (1, .int (nI (z)))]) hx hb dd_M_count_130 hl (k := 1) rfl (by decide) rfl (fun ls hl => ?_)
                                    refine jl_iinc (lv' := [(3, .int (nI (h + 1))), (2, .int (nI (f + 1))), (0, .ref qM), (1, .int (nI (z)))]) hx hb dd_M_count_133 hl (k := 1) rfl (by decide) rfl (fun ls hl => ?_)
                                    refine lv_goto (tgt := 97) hx hb dd_M_count_136 (by decide) ?_
                                    exact ih_htB (f + 1) (h + 1) (by omega) (by simpa [jm_cnB, jo, c_33, c_34, c_36, c_37, c_39] using htB) ls (lv_sub hl [0, 1, 2, 3] rfl)
                      exact loop_htB 6 f 0 (by omega) (by subst htA; simp_all [jm_count]) ls (lv_sub hl [0, 1, 2, 3] rfl)
                    · skip
                      exact absurd c_31 (by omega)
                  | succ n ih_htA =>
                    intro f i hi  htA ls hl
                    refine lv_iload_n hx hb dd_M_count_66 rfl (lv_at hl 0 rfl) ?_
                    refine lv_bipush (v := nI 12) hx hb dd_M_count_67 (by decide) ?_
                    refine jl_ge (tgt := 95) hx hb (by omega) (by omega) dd_M_count_69 (by decide) (fun c_40 => ?_) (fun c_40 => ?_)
                    · skip
                      exact absurd c_40 (by omega)
                    · skip
                      refine lv_iload_n hx hb dd_M_count_72 rfl (lv_at hl 3 rfl) ?_
                      refine lv_iconst (v := nI 1) hx hb dd_M_count_73 (by decide) ?_
                      refine jl_ne32 (tgt := 95) hx hb (by omega) (by omega) dd_M_count_74 (by decide) (fun c_41 => ?_) (fun c_41 => ?_)
                      · skip
                        refine lv_iconst (v := nI 0) hx hb dd_M_count_95 (by decide) ?_
                        refine lv_istore_n (lv' := [(3, .int (nI (0))), (2, .int (nI (f))), (0, .ref qM), (1, .int (nI (z)))]) hx hb dd_M_count_96 rfl hl (by decide) rfl (fun ls hl => ?_)
                        have loop_htB : ∀ (n : Nat) (f : Nat) (h : Nat), (h + n = 6 ∧ f ≤ h + 12) → some (jm_cnB K N I O M z n h f) = jm_count K Z N B Y I O M wr ofs z → ∀ ls : Array Slot, lv_has ls 4 [(3, .int (nI (h))), (2, .int (nI (f))), (0, .ref qM), (1, .int (nI (z)))] → W pr l en { frames := 4, cells := 0, slots := 0, locals := 95 } σ mi ([.ref qM, .int (nI (z))] : List Value).toArray bel met cd H locs 0 0 (jm_Q bel { frames := 4, cells := 0, slots := 0, locals := 95 } G (tM c1 c2 c3 c4 c5 c6 c7 c8 c9) A [.ref qM, .int (nI (z))] σ (some (.int (jo (jm_count K Z N B Y I O M wr ofs z)))) (wM qM qK qZ qN qB qY qi qo qm qp c1 c2 c3 c4 c5 c6 c7 c8 c9 K Z N B Y I O M P ct wr ofs 0 pa ey fo la)) (F0 mi 97 ls []) := by
                          intro n
                          induction n with
                          | zero =>
                            intro f h hi  htB ls hl
                            refine lv_iload_n hx hb dd_M_count_97 rfl (lv_at hl 0 rfl) ?_
                            refine lv_bipush (v := nI 6) hx hb dd_M_count_98 (by decide) ?_
                            refine jl_ge (tgt := 139) hx hb (by omega) (by omega) dd_M_count_100 (by decide) (fun c_42 => ?_) (fun c_42 => ?_)
                            · skip
                              refine lv_iload_n hx hb dd_M_count_139 rfl (lv_at hl 1 rfl) ?_
                              exact jm_reti C (by rw [← htB]; first | with_reducible rfl | (simp [jm_cnB, jo, c_42]; done)) hP hD hK hS ⟨Nat.le_of_ble_eq_true rfl, Nat.le_of_ble_eq_true rfl⟩ dd_M_count_140
                            · skip
                              exact absurd c_42 (by omega)
                          | succ n ih_htB =>
                            intro f h hi  htB ls hl
                            refine lv_iload_n hx hb dd_M_count_97 rfl (lv_at hl 0 rfl) ?_
                            refine lv_bipush (v := nI 6) hx hb dd_M_count_98 (by decide) ?_
                            refine jl_ge (tgt := 139) hx hb (by omega) (by omega) dd_M_count_100 (by decide) (fun c_43 => ?_) (fun c_43 => ?_)
                            · skip
                              exact absurd c_43 (by omega)
                            · skip
                              refine lv_iload_n hx hb dd_M_count_103 rfl (lv_at hl 3 rfl) ?_
                              refine lv_iconst (v := nI 1) hx hb dd_M_count_104 (by decide) ?_
                              refine jl_eq32 (tgt := 139) hx hb (by omega) (by omega) dd_M_count_105 (by decide) (fun c_44 => ?_) (fun c_44 => ?_)
                              · skip
                                exact absurd c_44 (by omega)
                              · skip
                                refine lv_aload_n hx hb dd_M_count_108 rfl (lv_at hl 2 rfl) ?_
                                refine va_get (D := G) (ci := 4) (v := .ref qi) (C := cn_M) (T := ft_M) (N := 17) hx hb hts uw_M hown hK hP 0 rfl rfl 5 (by decide) (hts _ tw_598) (fun _ h9 => h9) rfl dd_M_count_109 ?_
                                refine lv_iload_n hx hb dd_M_count_112 rfl (lv_at hl 0 rfl) ?_
                                refine va_iald hx hb hK hP 6 5 rfl rfl (vp_in_nI (by omega) (by decide)) dd_M_count_113 ?_
                                refine jl_top (jn_at (I) (by omega)) ?_
                                have hf_45 : I h < 13 := (by assumption : jlt 13 I) _
                                refine jl_ifeq (tgt := 133) hx hb (by omega) dd_M_count_114 (by decide) (fun c_46 => ?_) (fun c_46 => ?_)
                                · skip
                                  refine jl_iinc (lv' := [(3, .int (nI (h + 1))), (2, .int (nI (f))), (0, .ref qM), (1, .int (nI (z)))]) hx hb dd_M_count_133 hl (k := 0) rfl (by decide) rfl (fun ls hl => ?_)
                                  refine lv_goto (tgt := 97) hx hb dd_M_count_136 (by decide) ?_
                                  exact ih_htB f (h + 1) (by omega) (by simpa [jm_cnB, jo, c_43, c_44, c_46] using htB) ls (lv_sub hl [0, 1, 2, 3] rfl)
                                · skip
                                  refine lv_iload_n hx hb dd_M_count_117 rfl (lv_at hl 3 rfl) ?_
                                  refine lv_iconst (v := nI 2) hx hb dd_M_count_118 (by decide) ?_
                                  refine jl_eq32 (tgt := 130) hx hb (by omega) (by omega) dd_M_count_119 (by decide) (fun c_47 => ?_) (fun c_47 => ?_)
                                  · skip
                                    exact absurd c_47 (by omega)
                                  · skip
                                    refine lv_aload_n hx hb dd_M_count_122 rfl (lv_at hl 2 rfl) ?_
                                    refine lv_iload_n hx hb dd_M_count_123 rfl (lv_at hl 0 rfl) ?_
                                    refine jr_callV C (ct_M_stale l G qM qK qZ qN qB qY qi qo qm qp c1 c2 c3 c4 c5 c6 c7 c8 c9 K Z N B Y I O M P ct wr ofs 0 pa ey fo la h (by omega) (by omega) (by assumption) (by assumption) (by assumption) (by assumption) (by assumption)) kl_M_99 ⟨Nat.le_of_ble_eq_true rfl, Nat.le_of_ble_eq_true rfl, rfl, rfl⟩ ⟨Nat.le_of_ble_eq_true rfl, Nat.le_of_ble_eq_true rfl⟩ (hP) (hK) (va_recv hK hP (ci := 4) (q0 := 0) rfl rfl) hl.1 rfl rfl (Nat.le_of_ble_eq_true rfl) dd_M_count_124 ?_
                                    have hf_48 : jm_stale K N I O M h < 2 := jm_stale_lt _ _ _ _ _ _
                                    refine jl_ifeq (tgt := 133) hx hb (by omega) dd_M_count_127 (by decide) (fun c_49 => ?_) (fun c_49 => ?_)
                                    · skip
                                      refine jl_iinc (lv' := [(3, .int (nI (h + 1))), (2, .int (nI (f))), (0, .ref qM), (1, .int (nI (z)))]) hx hb dd_M_count_133 hl (k := 0) rfl (by decide) rfl (fun ls hl => ?_)
                                      refine lv_goto (tgt := 97) hx hb dd_M_count_136 (by decide) ?_
                                      exact ih_htB f (h + 1) (by omega) (by simpa [jm_cnB, jo, c_43, c_44, c_46, c_47, c_49] using htB) ls (lv_sub hl [0, 1, 2, 3] rfl)
                                    · skip
                                      refine jl_iinc (lv' := [(2, .int (nI (f + 1))), (3, .int (nI (h))), (0, .ref qM), (1, .int (nI (z)))]) hx hb dd_M_count_130 hl (k := 1) rfl (by decide) rfl (fun ls hl => ?_)
                                      refine jl_iinc (lv' := [(3, .int (nI (h + 1))), (2, .int (nI (f + 1))), (0, .ref qM), (1, .int (nI (z)))]) hx hb dd_M_count_133 hl (k := 1) rfl (by decide) rfl (fun ls hl => ?_)
                                      refine lv_goto (tgt := 97) hx hb dd_M_count_136 (by decide) ?_
                                      exact ih_htB (f + 1) (h + 1) (by omega) (by simpa [jm_cnB, jo, c_43, c_44, c_46, c_47, c_49] using htB) ls (lv_sub hl [0, 1, 2, 3] rfl)
                        exact loop_htB 6 f 0 (by omega) (by subst htA; simp_all [jm_count]) ls (lv_sub hl [0, 1, 2, 3] rfl)
                      · skip
                        exact absurd c_41 (by omega)
                exact loop_htA 12 0 0 (by omega) (rfl) ls (lv_sub hl [0, 1, 2, 3] rfl)
              · skip
                refine lv_iconst (v := -1) hx hb dd_M_count_60 (by decide) ?_
                exact jm_reti C (by first | with_reducible rfl | (simp [jm_count, jo, c_1, c_2, c_3, c_4, c_5, c_14, c_30]; done)) hP hD hK hS ⟨Nat.le_of_ble_eq_true rfl, Nat.le_of_ble_eq_true rfl⟩ dd_M_count_61
        · skip
          refine lv_aload_n hx hb dd_M_count_39 rfl (lv_at hl 0 rfl) ?_
          refine va_get (D := G) (ci := 4) (v := .int (nI (ofs))) (C := cn_M) (T := ft_M) (N := 17) hx hb hts uw_M hown hK hP 0 rfl rfl 11 (by decide) (hts _ tw_604) (fun _ h9 => h9) rfl dd_M_count_40 ?_
          exact jm_reti C (by first | with_reducible rfl | (simp [jm_count, jo, c_1, c_2, c_3, c_4]; done)) hP hD hK hS ⟨Nat.le_of_ble_eq_true rfl, Nat.le_of_ble_eq_true rfl⟩ dd_M_count_43
      · skip
        refine lv_aload_n hx hb dd_M_count_29 rfl (lv_at hl 0 rfl) ?_
        refine va_get (D := G) (ci := 4) (v := .int (nI (wr))) (C := cn_M) (T := ft_M) (N := 17) hx hb hts uw_M hown hK hP 0 rfl rfl 10 (by decide) (hts _ tw_603) (fun _ h9 => h9) rfl dd_M_count_30 ?_
        exact jm_reti C (by first | with_reducible rfl | (simp [jm_count, jo, c_1, c_2, c_3]; done)) hP hD hK hS ⟨Nat.le_of_ble_eq_true rfl, Nat.le_of_ble_eq_true rfl⟩ dd_M_count_33
    · skip
      refine lv_aload_n hx hb dd_M_count_19 rfl (lv_at hl 0 rfl) ?_
      refine jr_callV C (ct_M_differing l G qM qK qZ qN qB qY qi qo qm qp c1 c2 c3 c4 c5 c6 c7 c8 c9 K Z N B Y I O M P ct wr ofs 0 pa ey fo la  m (by omega) (by assumption) (by assumption) (by assumption) (by assumption) (by assumption)) kl_M_130 ⟨Nat.le_of_ble_eq_true rfl, Nat.le_of_ble_eq_true rfl, rfl, rfl⟩ ⟨Nat.le_of_ble_eq_true rfl, Nat.le_of_ble_eq_true rfl⟩ (hP) (hK) (va_recv hK hP (ci := 4) (q0 := 0) rfl rfl) hl.1 rfl rfl (Nat.le_of_ble_eq_true rfl) dd_M_count_20 ?_
      have hf_50 : jm_differing K Z N B Y ≤ 40 := jm_differing_le _ _ _ _ _
      exact jm_reti C (by first | with_reducible rfl | (simp [jm_count, jo, c_1, c_2]; done)) hP hD hK hS ⟨Nat.le_of_ble_eq_true rfl, Nat.le_of_ble_eq_true rfl⟩ dd_M_count_23
  · skip
    refine lv_aload_n hx hb dd_M_count_9 rfl (lv_at hl 0 rfl) ?_
    refine jr_callV C (ct_M_freeBlocks l G qM qK qZ qN qB qY qi qo qm qp c1 c2 c3 c4 c5 c6 c7 c8 c9 K Z N B Y I O M P ct wr ofs 0 pa ey fo la  m (by omega) (by assumption)) kl_M_49 ⟨Nat.le_of_ble_eq_true rfl, Nat.le_of_ble_eq_true rfl, rfl, rfl⟩ ⟨Nat.le_of_ble_eq_true rfl, Nat.le_of_ble_eq_true rfl⟩ (hP) (hK) (va_recv hK hP (ci := 4) (q0 := 0) rfl rfl) hl.1 rfl rfl (Nat.le_of_ble_eq_true rfl) dd_M_count_10 ?_
    have hf_51 : jm_free B < 32 := jm_free_lt _
    exact jm_reti C (by first | with_reducible rfl | (simp [jm_count, jo, c_1]; done)) hP hD hK hS ⟨Nat.le_of_ble_eq_true rfl, Nat.le_of_ble_eq_true rfl⟩ dd_M_count_13
set_option maxHeartbeats 4000000 in
set_option maxRecDepth 100000 in
theorem ct_M_commit (l : Launch) (G : va_G) (qM qK qZ qN qB qY qi qo qm qp : Nat) (c1 c2 c3 c4 c5 c6 c7 c8 c9 : ClassId) (K : Nat → Nat) (Z : Nat → Nat) (N : Nat → Nat) (B : Nat → Nat) (Y : Nat → Nat) (I : Nat → Nat) (O : Nat → Nat) (M : Nat → Nat) (P : Nat → Nat) (ct : Nat) (wr : Nat) (ofs : Nat) (th : Nat) (pa : Option Nat) (ey : Option Nat) (fo : Option Nat) (la : Nat)  (m : Nat) (hw0 : wr < 1000000) (hc0 : ct ≤ 100) (ho0 : ofs < 1000000) (hm0 : 9 ≤ m ∧ m < 5000) (hK : jlt 3 K) (hZ : jlt 65 Z) (hN : jlt 256 N) (hB : jlt m B) (hY : jlt 256 Y) : jm l yn_M_commit (.code yn_M_commit cd_M_commit 3 (some .int)) { frames := 4, cells := 0, slots := 0, locals := 95 } G (tM c1 c2 c3 c4 c5 c6 c7 c8 c9) (wM qM qK qZ qN qB qY qi qo qm qp c1 c2 c3 c4 c5 c6 c7 c8 c9 K Z N B Y I O M P ct wr ofs th pa ey fo la) [.ref qM] (some (.int (nI (jm_cmR (jm_differing K Z N B Y) ct)))) (wM qM qK qZ qN qB qY qi qo qm qp c1 c2 c3 c4 c5 c6 c7 c8 c9 (jm_cmT (jm_differing K Z N B Y) ct (jm_cpL 0 12 12 0) (jm_cpL 12 0 12 0) K) (jm_cmT (jm_differing K Z N B Y) ct (jm_cpL 0 12 12 0) (jm_cpL 12 0 12 0) Z) (jm_cmT (jm_differing K Z N B Y) ct (jm_cpL 0 12 12 0) (jm_cpL 12 0 12 0) N) (jm_cmT (jm_differing K Z N B Y) ct (jm_cpL (0 * 4) (12 * 4) 48 0) (jm_cpL (12 * 4) (0 * 4) 48 0) B) (jm_cmT (jm_differing K Z N B Y) ct (jm_cpL (0 * 64) (12 * 64) 768 0) (jm_cpL (12 * 64) (0 * 64) 768 0) Y) (jm_cmI (jm_differing K Z N B Y) ct I) O M P (jm_cmC (jm_differing K Z N B Y) ct) (jm_cmW (jm_differing K Z N B Y) ct wr) (jm_cmO (jm_differing K Z N B Y) ct ofs) (jm_cmH (jm_differing K Z N B Y) ct) pa ey fo la) := by
  refine jm_of (by decide) (Nat.le_of_ble_eq_true rfl) ?_
  intro pr en σ mi bel met cd ls A hA C hP hK hD hS hl
  have hx := C.1
  have hb := C.2.1
  have hown := C.2.2.2.1
  have hts := C.2.2.2.2.1
  have hl : lv_has ls 3 [(0, .ref qM)] := hl
  refine lv_aload_n hx hb dd_M_commit_0 rfl (lv_at hl 0 rfl) ?_
  refine jr_callV C (ct_M_differing l G qM qK qZ qN qB qY qi qo qm qp c1 c2 c3 c4 c5 c6 c7 c8 c9 K Z N B Y I O M P ct wr ofs th pa ey fo la  m (by omega) (by assumption) (by assumption) (by assumption) (by assumption) (by assumption)) kl_M_130 ⟨Nat.le_of_ble_eq_true rfl, Nat.le_of_ble_eq_true rfl, rfl, rfl⟩ ⟨Nat.le_of_ble_eq_true rfl, Nat.le_of_ble_eq_true rfl⟩ (hP) (hK) (va_recv hK hP (ci := 4) (q0 := 0) rfl rfl) hl.1 rfl rfl (Nat.le_of_ble_eq_true rfl) dd_M_commit_1 ?_
  have hf_1 : jm_differing K Z N B Y ≤ 40 := jm_differing_le _ _ _ _ _
  refine lv_istore_n (lv' := [(1, .int (nI (jm_differing K Z N B Y))), (0, .ref qM)]) hx hb dd_M_commit_4 rfl hl (by decide) rfl (fun ls hl => ?_)
  refine lv_aload_n hx hb dd_M_commit_5 rfl (lv_at hl 1 rfl) ?_
  refine lv_iconst (v := nI 0) hx hb dd_M_commit_6 (by decide) ?_
  refine va_put (D := G) (ci := 4) (v := .int (nI (0))) (ty := .int) (C := cn_M) (T := ft_M) (N := 17) hx hb hts uw_M fy_M fo_M fn_M hown hK hP hD hS 0 rfl rfl 12 (by decide) (hts _ tw_605) (fun _ h9 => h9) rfl (by decide +kernel) rfl rfl (Nat.le_of_ble_eq_true rfl) dd_M_commit_7 (fun H locs hP hD hS => ?_)
  have hP : va_P G jcl (wM qM qK qZ qN qB qY qi qo qm qp c1 c2 c3 c4 c5 c6 c7 c8 c9 K Z N B Y I O M P ct wr ofs 0 pa ey fo la) H := hP
  have hD : va_D A (wM qM qK qZ qN qB qY qi qo qm qp c1 c2 c3 c4 c5 c6 c7 c8 c9 K Z N B Y I O M P ct wr ofs 0 pa ey fo la) := hD
  refine lv_iload_n hx hb dd_M_commit_10 rfl (lv_at hl 0 rfl) ?_
  refine jl_ifne (tgt := 16) hx hb (by omega) dd_M_commit_11 (by decide) (fun c_2 => ?_) (fun c_2 => ?_)
  · skip
    refine lv_iconst (v := nI 2) hx hb dd_M_commit_16 (by decide) ?_
    refine lv_iload_n hx hb dd_M_commit_17 rfl (lv_at hl 0 rfl) ?_
    refine jl_imul hx hb dd_M_commit_18 ?_
    refine lv_iconst (v := nI 1) hx hb dd_M_commit_19 (by decide) ?_
    refine jl_iadd hx hb dd_M_commit_20 ?_
    refine lv_istore_n (lv' := [(2, .int (nI ((2 * (jm_differing K Z N B Y)) + 1))), (1, .int (nI (jm_differing K Z N B Y))), (0, .ref qM)]) hx hb dd_M_commit_21 rfl hl (by decide) rfl (fun ls hl => ?_)
    refine lv_aload_n hx hb dd_M_commit_22 rfl (lv_at hl 2 rfl) ?_
    refine va_get (D := G) (ci := 4) (v := .int (nI (ct))) (C := cn_M) (T := ft_M) (N := 17) hx hb hts uw_M hown hK hP 0 rfl rfl 9 (by decide) (hts _ tw_602) (fun _ h9 => h9) rfl dd_M_commit_23 ?_
    refine jl_ifeq (tgt := 37) hx hb (by omega) dd_M_commit_26 (by decide) (fun c_3 => ?_) (fun c_3 => ?_)
    · skip
      refine lv_aload_n hx hb dd_M_commit_37 rfl (lv_at hl 2 rfl) ?_
      refine va_get (D := G) (ci := 4) (v := .int (nI (ct))) (C := cn_M) (T := ft_M) (N := 17) hx hb hts uw_M hown hK hP 0 rfl rfl 9 (by decide) (hts _ tw_602) (fun _ h9 => h9) rfl dd_M_commit_38 ?_
      refine jl_ifle (tgt := 54) hx hb (by omega) dd_M_commit_41 (by decide) (fun c_4 => ?_) (fun c_4 => ?_)
      · skip
        refine lv_aload_n hx hb dd_M_commit_54 rfl (lv_at hl 2 rfl) ?_
        refine lv_dup hx hb dd_M_commit_55 rfl ?_
        refine va_get (D := G) (ci := 4) (v := .int (nI (wr))) (C := cn_M) (T := ft_M) (N := 17) hx hb hts uw_M hown hK hP 0 rfl rfl 10 (by decide) (hts _ tw_603) (fun _ h9 => h9) rfl dd_M_commit_56 ?_
        refine lv_iload_n hx hb dd_M_commit_59 rfl (lv_at hl 0 rfl) ?_
        refine jl_iadd hx hb dd_M_commit_60 ?_
        refine va_put (D := G) (ci := 4) (v := .int (nI (wr + ((2 * (jm_differing K Z N B Y)) + 1)))) (ty := .int) (C := cn_M) (T := ft_M) (N := 17) hx hb hts uw_M fy_M fo_M fn_M hown hK hP hD hS 0 rfl rfl 10 (by decide) (hts _ tw_603) (fun _ h9 => h9) rfl (by decide +kernel) rfl rfl (Nat.le_of_ble_eq_true rfl) dd_M_commit_61 (fun H locs hP hD hS => ?_)
        have hP : va_P G jcl (wM qM qK qZ qN qB qY qi qo qm qp c1 c2 c3 c4 c5 c6 c7 c8 c9 K Z N B Y I O M P ct (wr + ((2 * (jm_differing K Z N B Y)) + 1)) ofs 0 pa ey fo la) H := hP
        have hD : va_D A (wM qM qK qZ qN qB qY qi qo qm qp c1 c2 c3 c4 c5 c6 c7 c8 c9 K Z N B Y I O M P ct (wr + ((2 * (jm_differing K Z N B Y)) + 1)) ofs 0 pa ey fo la) := hD
        refine lv_aload_n hx hb dd_M_commit_64 rfl (lv_at hl 2 rfl) ?_
        refine lv_iconst (v := nI 0) hx hb dd_M_commit_65 (by decide) ?_
        refine lv_bipush (v := nI 12) hx hb dd_M_commit_66 (by decide) ?_
        refine jm_callV (wr := []) C (ct_M_copyTables l G qM qK qZ qN qB qY qi qo qm qp c1 c2 c3 c4 c5 c6 c7 c8 c9 K Z N B Y I O M P ct (wr + ((2 * (jm_differing K Z N B Y)) + 1)) ofs 0 pa ey fo la 0 12 (by omega) (by omega)) kl_M_139 ⟨Nat.le_of_ble_eq_true rfl, Nat.le_of_ble_eq_true rfl⟩ ⟨Nat.le_of_ble_eq_true rfl, Nat.le_of_ble_eq_true rfl⟩ hP hD hS hA (hK) (va_recv hK hP (ci := 4) (q0 := 0) rfl rfl) hl.1 rfl rfl (Nat.le_of_ble_eq_true rfl) dd_M_commit_68 (fun H locs hP hD hS => ?_)
        have hP : va_P G jcl (wM qM qK qZ qN qB qY qi qo qm qp c1 c2 c3 c4 c5 c6 c7 c8 c9 (jm_cpL 0 12 12 0 K) (jm_cpL 0 12 12 0 Z) (jm_cpL 0 12 12 0 N) (jm_cpL (0 * 4) (12 * 4) 48 0 B) (jm_cpL (0 * 64) (12 * 64) 768 0 Y) I O M P ct (wr + ((2 * (jm_differing K Z N B Y)) + 1)) ofs 0 pa ey fo la) H := hP
        have hD : va_D A (wM qM qK qZ qN qB qY qi qo qm qp c1 c2 c3 c4 c5 c6 c7 c8 c9 (jm_cpL 0 12 12 0 K) (jm_cpL 0 12 12 0 Z) (jm_cpL 0 12 12 0 N) (jm_cpL (0 * 4) (12 * 4) 48 0 B) (jm_cpL (0 * 64) (12 * 64) 768 0 Y) I O M P ct (wr + ((2 * (jm_differing K Z N B Y)) + 1)) ofs 0 pa ey fo la) := hD
        refine lv_iload_n hx hb dd_M_commit_71 rfl (lv_at hl 0 rfl) ?_
        have he : wM qM qK qZ qN qB qY qi qo qm qp c1 c2 c3 c4 c5 c6 c7 c8 c9 (jm_cpL 0 12 12 0 K) (jm_cpL 0 12 12 0 Z) (jm_cpL 0 12 12 0 N) (jm_cpL (0 * 4) (12 * 4) 48 0 B) (jm_cpL (0 * 64) (12 * 64) 768 0 Y) I O M P ct (wr + ((2 * (jm_differing K Z N B Y)) + 1)) ofs 0 pa ey fo la = wM qM qK qZ qN qB qY qi qo qm qp c1 c2 c3 c4 c5 c6 c7 c8 c9 (jm_cmT (jm_differing K Z N B Y) ct (jm_cpL 0 12 12 0) (jm_cpL 12 0 12 0) K) (jm_cmT (jm_differing K Z N B Y) ct (jm_cpL 0 12 12 0) (jm_cpL 12 0 12 0) Z) (jm_cmT (jm_differing K Z N B Y) ct (jm_cpL 0 12 12 0) (jm_cpL 12 0 12 0) N) (jm_cmT (jm_differing K Z N B Y) ct (jm_cpL (0 * 4) (12 * 4) 48 0) (jm_cpL (12 * 4) (0 * 4) 48 0) B) (jm_cmT (jm_differing K Z N B Y) ct (jm_cpL (0 * 64) (12 * 64) 768 0) (jm_cpL (12 * 64) (0 * 64) 768 0) Y) (jm_cmI (jm_differing K Z N B Y) ct I) O M P (jm_cmC (jm_differing K Z N B Y) ct) (jm_cmW (jm_differing K Z N B Y) ct wr) (jm_cmO (jm_differing K Z N B Y) ct ofs) (jm_cmH (jm_differing K Z N B Y) ct) pa ey fo la := by first | with_reducible rfl | (simp [jm_cmT, jm_cmR, jm_cmC, jm_cmW, jm_cmH, jm_cmI, jm_cmO, c_2, c_3, c_4]; done)
        rw [he] at hP hD
        exact jm_reti C (by first | with_reducible rfl | (simp [jm_cmT, jm_cmR, jm_cmC, jm_cmW, jm_cmH, jm_cmI, jm_cmO, c_2, c_3, c_4]; done)) hP hD hK hS ⟨Nat.le_of_ble_eq_true rfl, Nat.le_of_ble_eq_true rfl⟩ dd_M_commit_72
      · skip
        refine lv_aload_n hx hb dd_M_commit_44 rfl (lv_at hl 2 rfl) ?_
        refine lv_dup hx hb dd_M_commit_45 rfl ?_
        refine va_get (D := G) (ci := 4) (v := .int (nI (ct))) (C := cn_M) (T := ft_M) (N := 17) hx hb hts uw_M hown hK hP 0 rfl rfl 9 (by decide) (hts _ tw_602) (fun _ h9 => h9) rfl dd_M_commit_46 ?_
        refine lv_iload_n hx hb dd_M_commit_49 rfl (lv_at hl 0 rfl) ?_
        refine jl_isub hx hb (by omega) dd_M_commit_50 ?_
        refine va_put (D := G) (ci := 4) (v := .int (nI (ct - ((2 * (jm_differing K Z N B Y)) + 1)))) (ty := .int) (C := cn_M) (T := ft_M) (N := 17) hx hb hts uw_M fy_M fo_M fn_M hown hK hP hD hS 0 rfl rfl 9 (by decide) (hts _ tw_602) (fun _ h9 => h9) rfl (by decide +kernel) rfl rfl (Nat.le_of_ble_eq_true rfl) dd_M_commit_51 (fun H locs hP hD hS => ?_)
        have hP : va_P G jcl (wM qM qK qZ qN qB qY qi qo qm qp c1 c2 c3 c4 c5 c6 c7 c8 c9 K Z N B Y I O M P (ct - ((2 * (jm_differing K Z N B Y)) + 1)) wr ofs 0 pa ey fo la) H := hP
        have hD : va_D A (wM qM qK qZ qN qB qY qi qo qm qp c1 c2 c3 c4 c5 c6 c7 c8 c9 K Z N B Y I O M P (ct - ((2 * (jm_differing K Z N B Y)) + 1)) wr ofs 0 pa ey fo la) := hD
        refine lv_aload_n hx hb dd_M_commit_54 rfl (lv_at hl 2 rfl) ?_
        refine lv_dup hx hb dd_M_commit_55 rfl ?_
        refine va_get (D := G) (ci := 4) (v := .int (nI (wr))) (C := cn_M) (T := ft_M) (N := 17) hx hb hts uw_M hown hK hP 0 rfl rfl 10 (by decide) (hts _ tw_603) (fun _ h9 => h9) rfl dd_M_commit_56 ?_
        refine lv_iload_n hx hb dd_M_commit_59 rfl (lv_at hl 0 rfl) ?_
        refine jl_iadd hx hb dd_M_commit_60 ?_
        refine va_put (D := G) (ci := 4) (v := .int (nI (wr + ((2 * (jm_differing K Z N B Y)) + 1)))) (ty := .int) (C := cn_M) (T := ft_M) (N := 17) hx hb hts uw_M fy_M fo_M fn_M hown hK hP hD hS 0 rfl rfl 10 (by decide) (hts _ tw_603) (fun _ h9 => h9) rfl (by decide +kernel) rfl rfl (Nat.le_of_ble_eq_true rfl) dd_M_commit_61 (fun H locs hP hD hS => ?_)
        have hP : va_P G jcl (wM qM qK qZ qN qB qY qi qo qm qp c1 c2 c3 c4 c5 c6 c7 c8 c9 K Z N B Y I O M P (ct - ((2 * (jm_differing K Z N B Y)) + 1)) (wr + ((2 * (jm_differing K Z N B Y)) + 1)) ofs 0 pa ey fo la) H := hP
        have hD : va_D A (wM qM qK qZ qN qB qY qi qo qm qp c1 c2 c3 c4 c5 c6 c7 c8 c9 K Z N B Y I O M P (ct - ((2 * (jm_differing K Z N B Y)) + 1)) (wr + ((2 * (jm_differing K Z N B Y)) + 1)) ofs 0 pa ey fo la) := hD
        refine lv_aload_n hx hb dd_M_commit_64 rfl (lv_at hl 2 rfl) ?_
        refine lv_iconst (v := nI 0) hx hb dd_M_commit_65 (by decide) ?_
        refine lv_bipush (v := nI 12) hx hb dd_M_commit_66 (by decide) ?_
        refine jm_callV (wr := []) C (ct_M_copyTables l G qM qK qZ qN qB qY qi qo qm qp c1 c2 c3 c4 c5 c6 c7 c8 c9 K Z N B Y I O M P (ct - ((2 * (jm_differing K Z N B Y)) + 1)) (wr + ((2 * (jm_differing K Z N B Y)) + 1)) ofs 0 pa ey fo la 0 12 (by omega) (by omega)) kl_M_139 ⟨Nat.le_of_ble_eq_true rfl, Nat.le_of_ble_eq_true rfl⟩ ⟨Nat.le_of_ble_eq_true rfl, Nat.le_of_ble_eq_true rfl⟩ hP hD hS hA (hK) (va_recv hK hP (ci := 4) (q0 := 0) rfl rfl) hl.1 rfl rfl (Nat.le_of_ble_eq_true rfl) dd_M_commit_68 (fun H locs hP hD hS => ?_)
        have hP : va_P G jcl (wM qM qK qZ qN qB qY qi qo qm qp c1 c2 c3 c4 c5 c6 c7 c8 c9 (jm_cpL 0 12 12 0 K) (jm_cpL 0 12 12 0 Z) (jm_cpL 0 12 12 0 N) (jm_cpL (0 * 4) (12 * 4) 48 0 B) (jm_cpL (0 * 64) (12 * 64) 768 0 Y) I O M P (ct - ((2 * (jm_differing K Z N B Y)) + 1)) (wr + ((2 * (jm_differing K Z N B Y)) + 1)) ofs 0 pa ey fo la) H := hP
        have hD : va_D A (wM qM qK qZ qN qB qY qi qo qm qp c1 c2 c3 c4 c5 c6 c7 c8 c9 (jm_cpL 0 12 12 0 K) (jm_cpL 0 12 12 0 Z) (jm_cpL 0 12 12 0 N) (jm_cpL (0 * 4) (12 * 4) 48 0 B) (jm_cpL (0 * 64) (12 * 64) 768 0 Y) I O M P (ct - ((2 * (jm_differing K Z N B Y)) + 1)) (wr + ((2 * (jm_differing K Z N B Y)) + 1)) ofs 0 pa ey fo la) := hD
        refine lv_iload_n hx hb dd_M_commit_71 rfl (lv_at hl 0 rfl) ?_
        have he : wM qM qK qZ qN qB qY qi qo qm qp c1 c2 c3 c4 c5 c6 c7 c8 c9 (jm_cpL 0 12 12 0 K) (jm_cpL 0 12 12 0 Z) (jm_cpL 0 12 12 0 N) (jm_cpL (0 * 4) (12 * 4) 48 0 B) (jm_cpL (0 * 64) (12 * 64) 768 0 Y) I O M P (ct - ((2 * (jm_differing K Z N B Y)) + 1)) (wr + ((2 * (jm_differing K Z N B Y)) + 1)) ofs 0 pa ey fo la = wM qM qK qZ qN qB qY qi qo qm qp c1 c2 c3 c4 c5 c6 c7 c8 c9 (jm_cmT (jm_differing K Z N B Y) ct (jm_cpL 0 12 12 0) (jm_cpL 12 0 12 0) K) (jm_cmT (jm_differing K Z N B Y) ct (jm_cpL 0 12 12 0) (jm_cpL 12 0 12 0) Z) (jm_cmT (jm_differing K Z N B Y) ct (jm_cpL 0 12 12 0) (jm_cpL 12 0 12 0) N) (jm_cmT (jm_differing K Z N B Y) ct (jm_cpL (0 * 4) (12 * 4) 48 0) (jm_cpL (12 * 4) (0 * 4) 48 0) B) (jm_cmT (jm_differing K Z N B Y) ct (jm_cpL (0 * 64) (12 * 64) 768 0) (jm_cpL (12 * 64) (0 * 64) 768 0) Y) (jm_cmI (jm_differing K Z N B Y) ct I) O M P (jm_cmC (jm_differing K Z N B Y) ct) (jm_cmW (jm_differing K Z N B Y) ct wr) (jm_cmO (jm_differing K Z N B Y) ct ofs) (jm_cmH (jm_differing K Z N B Y) ct) pa ey fo la := by first | with_reducible rfl | (simp [jm_cmT, jm_cmR, jm_cmC, jm_cmW, jm_cmH, jm_cmI, jm_cmO, c_2, c_3, c_4]; done)
        rw [he] at hP hD
        exact jm_reti C (by first | with_reducible rfl | (simp [jm_cmT, jm_cmR, jm_cmC, jm_cmW, jm_cmH, jm_cmI, jm_cmO, c_2, c_3, c_4]; done)) hP hD hK hS ⟨Nat.le_of_ble_eq_true rfl, Nat.le_of_ble_eq_true rfl⟩ dd_M_commit_72
    · skip
      refine lv_aload_n hx hb dd_M_commit_29 rfl (lv_at hl 2 rfl) ?_
      refine va_get (D := G) (ci := 4) (v := .int (nI (ct))) (C := cn_M) (T := ft_M) (N := 17) hx hb hts uw_M hown hK hP 0 rfl rfl 9 (by decide) (hts _ tw_602) (fun _ h9 => h9) rfl dd_M_commit_30 ?_
      refine lv_iload_n hx hb dd_M_commit_33 rfl (lv_at hl 0 rfl) ?_
      refine jl_le (tgt := 73) hx hb (by omega) (by omega) dd_M_commit_34 (by decide) (fun c_5 => ?_) (fun c_5 => ?_)
      · skip
        refine lv_aload_n hx hb dd_M_commit_73 rfl (lv_at hl 2 rfl) ?_
        refine lv_dup hx hb dd_M_commit_74 rfl ?_
        refine va_get (D := G) (ci := 4) (v := .int (nI (wr))) (C := cn_M) (T := ft_M) (N := 17) hx hb hts uw_M hown hK hP 0 rfl rfl 10 (by decide) (hts _ tw_603) (fun _ h9 => h9) rfl dd_M_commit_75 ?_
        refine lv_aload_n hx hb dd_M_commit_78 rfl (lv_at hl 2 rfl) ?_
        refine va_get (D := G) (ci := 4) (v := .int (nI (ct))) (C := cn_M) (T := ft_M) (N := 17) hx hb hts uw_M hown hK hP 0 rfl rfl 9 (by decide) (hts _ tw_602) (fun _ h9 => h9) rfl dd_M_commit_79 ?_
        refine lv_iconst (v := nI 1) hx hb dd_M_commit_82 (by decide) ?_
        refine jl_isub hx hb (by omega) dd_M_commit_83 ?_
        refine jl_iadd hx hb dd_M_commit_84 ?_
        refine va_put (D := G) (ci := 4) (v := .int (nI (wr + (ct - 1)))) (ty := .int) (C := cn_M) (T := ft_M) (N := 17) hx hb hts uw_M fy_M fo_M fn_M hown hK hP hD hS 0 rfl rfl 10 (by decide) (hts _ tw_603) (fun _ h9 => h9) rfl (by decide +kernel) rfl rfl (Nat.le_of_ble_eq_true rfl) dd_M_commit_85 (fun H locs hP hD hS => ?_)
        have hP : va_P G jcl (wM qM qK qZ qN qB qY qi qo qm qp c1 c2 c3 c4 c5 c6 c7 c8 c9 K Z N B Y I O M P ct (wr + (ct - 1)) ofs 0 pa ey fo la) H := hP
        have hD : va_D A (wM qM qK qZ qN qB qY qi qo qm qp c1 c2 c3 c4 c5 c6 c7 c8 c9 K Z N B Y I O M P ct (wr + (ct - 1)) ofs 0 pa ey fo la) := hD
        refine lv_aload_n hx hb dd_M_commit_88 rfl (lv_at hl 2 rfl) ?_
        refine va_get (D := G) (ci := 4) (v := .int (nI (ct))) (C := cn_M) (T := ft_M) (N := 17) hx hb hts uw_M hown hK hP 0 rfl rfl 9 (by decide) (hts _ tw_602) (fun _ h9 => h9) rfl dd_M_commit_89 ?_
        refine lv_iload_n hx hb dd_M_commit_92 rfl (lv_at hl 1 rfl) ?_
        refine lv_iconst (v := nI 1) hx hb dd_M_commit_93 (by decide) ?_
        refine jl_iadd hx hb dd_M_commit_94 ?_
        refine jl_le (tgt := 105) hx hb (by omega) (by omega) dd_M_commit_95 (by decide) (fun c_6 => ?_) (fun c_6 => ?_)
        · skip
          refine lv_aload_n hx hb dd_M_commit_105 rfl (lv_at hl 2 rfl) ?_
          refine lv_iconst (v := nI 0) hx hb dd_M_commit_106 (by decide) ?_
          refine va_put (D := G) (ci := 4) (v := .int (nI (0))) (ty := .int) (C := cn_M) (T := ft_M) (N := 17) hx hb hts uw_M fy_M fo_M fn_M hown hK hP hD hS 0 rfl rfl 9 (by decide) (hts _ tw_602) (fun _ h9 => h9) rfl (by decide +kernel) rfl rfl (Nat.le_of_ble_eq_true rfl) dd_M_commit_107 (fun H locs hP hD hS => ?_)
          have hP : va_P G jcl (wM qM qK qZ qN qB qY qi qo qm qp c1 c2 c3 c4 c5 c6 c7 c8 c9 K Z N B Y I O M P 0 (wr + (ct - 1)) ofs 0 pa ey fo la) H := hP
          have hD : va_D A (wM qM qK qZ qN qB qY qi qo qm qp c1 c2 c3 c4 c5 c6 c7 c8 c9 K Z N B Y I O M P 0 (wr + (ct - 1)) ofs 0 pa ey fo la) := hD
          refine lv_aload_n hx hb dd_M_commit_110 rfl (lv_at hl 2 rfl) ?_
          refine jm_callV (wr := []) C (ct_M_crash l G qM qK qZ qN qB qY qi qo qm qp c1 c2 c3 c4 c5 c6 c7 c8 c9 K Z N B Y I O M P 0 (wr + (ct - 1)) ofs 0 pa ey fo la  ) kl_M_142 ⟨Nat.le_of_ble_eq_true rfl, Nat.le_of_ble_eq_true rfl⟩ ⟨Nat.le_of_ble_eq_true rfl, Nat.le_of_ble_eq_true rfl⟩ hP hD hS hA (hK) (va_recv hK hP (ci := 4) (q0 := 0) rfl rfl) hl.1 rfl rfl (Nat.le_of_ble_eq_true rfl) dd_M_commit_111 (fun H locs hP hD hS => ?_)
          have hP : va_P G jcl (wM qM qK qZ qN qB qY qi qo qm qp c1 c2 c3 c4 c5 c6 c7 c8 c9 (jm_cpL 12 0 12 0 K) (jm_cpL 12 0 12 0 Z) (jm_cpL 12 0 12 0 N) (jm_cpL (12 * 4) (0 * 4) 48 0 B) (jm_cpL (12 * 64) (0 * 64) 768 0 Y) (jm_clL 6 0 I) O M P 0 (wr + (ct - 1)) (ofs + 1) 0 pa ey fo la) H := hP
          have hD : va_D A (wM qM qK qZ qN qB qY qi qo qm qp c1 c2 c3 c4 c5 c6 c7 c8 c9 (jm_cpL 12 0 12 0 K) (jm_cpL 12 0 12 0 Z) (jm_cpL 12 0 12 0 N) (jm_cpL (12 * 4) (0 * 4) 48 0 B) (jm_cpL (12 * 64) (0 * 64) 768 0 Y) (jm_clL 6 0 I) O M P 0 (wr + (ct - 1)) (ofs + 1) 0 pa ey fo la) := hD
          refine lv_aload_n hx hb dd_M_commit_114 rfl (lv_at hl 2 rfl) ?_
          refine lv_iconst (v := nI 1) hx hb dd_M_commit_115 (by decide) ?_
          refine va_put (D := G) (ci := 4) (v := .int (nI (1))) (ty := .int) (C := cn_M) (T := ft_M) (N := 17) hx hb hts uw_M fy_M fo_M fn_M hown hK hP hD hS 0 rfl rfl 12 (by decide) (hts _ tw_605) (fun _ h9 => h9) rfl (by decide +kernel) rfl rfl (Nat.le_of_ble_eq_true rfl) dd_M_commit_116 (fun H locs hP hD hS => ?_)
          have hP : va_P G jcl (wM qM qK qZ qN qB qY qi qo qm qp c1 c2 c3 c4 c5 c6 c7 c8 c9 (jm_cpL 12 0 12 0 K) (jm_cpL 12 0 12 0 Z) (jm_cpL 12 0 12 0 N) (jm_cpL (12 * 4) (0 * 4) 48 0 B) (jm_cpL (12 * 64) (0 * 64) 768 0 Y) (jm_clL 6 0 I) O M P 0 (wr + (ct - 1)) (ofs + 1) 1 pa ey fo la) H := hP
          have hD : va_D A (wM qM qK qZ qN qB qY qi qo qm qp c1 c2 c3 c4 c5 c6 c7 c8 c9 (jm_cpL 12 0 12 0 K) (jm_cpL 12 0 12 0 Z) (jm_cpL 12 0 12 0 N) (jm_cpL (12 * 4) (0 * 4) 48 0 B) (jm_cpL (12 * 64) (0 * 64) 768 0 Y) (jm_clL 6 0 I) O M P 0 (wr + (ct - 1)) (ofs + 1) 1 pa ey fo la) := hD
          refine lv_iconst (v := nI 0) hx hb dd_M_commit_119 (by decide) ?_
          have he : wM qM qK qZ qN qB qY qi qo qm qp c1 c2 c3 c4 c5 c6 c7 c8 c9 (jm_cpL 12 0 12 0 K) (jm_cpL 12 0 12 0 Z) (jm_cpL 12 0 12 0 N) (jm_cpL (12 * 4) (0 * 4) 48 0 B) (jm_cpL (12 * 64) (0 * 64) 768 0 Y) (jm_clL 6 0 I) O M P 0 (wr + (ct - 1)) (ofs + 1) 1 pa ey fo la = wM qM qK qZ qN qB qY qi qo qm qp c1 c2 c3 c4 c5 c6 c7 c8 c9 (jm_cmT (jm_differing K Z N B Y) ct (jm_cpL 0 12 12 0) (jm_cpL 12 0 12 0) K) (jm_cmT (jm_differing K Z N B Y) ct (jm_cpL 0 12 12 0) (jm_cpL 12 0 12 0) Z) (jm_cmT (jm_differing K Z N B Y) ct (jm_cpL 0 12 12 0) (jm_cpL 12 0 12 0) N) (jm_cmT (jm_differing K Z N B Y) ct (jm_cpL (0 * 4) (12 * 4) 48 0) (jm_cpL (12 * 4) (0 * 4) 48 0) B) (jm_cmT (jm_differing K Z N B Y) ct (jm_cpL (0 * 64) (12 * 64) 768 0) (jm_cpL (12 * 64) (0 * 64) 768 0) Y) (jm_cmI (jm_differing K Z N B Y) ct I) O M P (jm_cmC (jm_differing K Z N B Y) ct) (jm_cmW (jm_differing K Z N B Y) ct wr) (jm_cmO (jm_differing K Z N B Y) ct ofs) (jm_cmH (jm_differing K Z N B Y) ct) pa ey fo la := by first | with_reducible rfl | (simp [jm_cmT, jm_cmR, jm_cmC, jm_cmW, jm_cmH, jm_cmI, jm_cmO, c_2, c_3, c_5, c_6]; done)
          rw [he] at hP hD
          exact jm_reti C (by first | with_reducible rfl | (simp [jm_cmT, jm_cmR, jm_cmC, jm_cmW, jm_cmH, jm_cmI, jm_cmO, c_2, c_3, c_5, c_6]; done)) hP hD hK hS ⟨Nat.le_of_ble_eq_true rfl, Nat.le_of_ble_eq_true rfl⟩ dd_M_commit_120
        · skip
          refine lv_aload_n hx hb dd_M_commit_98 rfl (lv_at hl 2 rfl) ?_
          refine lv_iconst (v := nI 0) hx hb dd_M_commit_99 (by decide) ?_
          refine lv_bipush (v := nI 12) hx hb dd_M_commit_100 (by decide) ?_
          refine jm_callV (wr := []) C (ct_M_copyTables l G qM qK qZ qN qB qY qi qo qm qp c1 c2 c3 c4 c5 c6 c7 c8 c9 K Z N B Y I O M P ct (wr + (ct - 1)) ofs 0 pa ey fo la 0 12 (by omega) (by omega)) kl_M_139 ⟨Nat.le_of_ble_eq_true rfl, Nat.le_of_ble_eq_true rfl⟩ ⟨Nat.le_of_ble_eq_true rfl, Nat.le_of_ble_eq_true rfl⟩ hP hD hS hA (hK) (va_recv hK hP (ci := 4) (q0 := 0) rfl rfl) hl.1 rfl rfl (Nat.le_of_ble_eq_true rfl) dd_M_commit_102 (fun H locs hP hD hS => ?_)
          have hP : va_P G jcl (wM qM qK qZ qN qB qY qi qo qm qp c1 c2 c3 c4 c5 c6 c7 c8 c9 (jm_cpL 0 12 12 0 K) (jm_cpL 0 12 12 0 Z) (jm_cpL 0 12 12 0 N) (jm_cpL (0 * 4) (12 * 4) 48 0 B) (jm_cpL (0 * 64) (12 * 64) 768 0 Y) I O M P ct (wr + (ct - 1)) ofs 0 pa ey fo la) H := hP
          have hD : va_D A (wM qM qK qZ qN qB qY qi qo qm qp c1 c2 c3 c4 c5 c6 c7 c8 c9 (jm_cpL 0 12 12 0 K) (jm_cpL 0 12 12 0 Z) (jm_cpL 0 12 12 0 N) (jm_cpL (0 * 4) (12 * 4) 48 0 B) (jm_cpL (0 * 64) (12 * 64) 768 0 Y) I O M P ct (wr + (ct - 1)) ofs 0 pa ey fo la) := hD
          refine lv_aload_n hx hb dd_M_commit_105 rfl (lv_at hl 2 rfl) ?_
          refine lv_iconst (v := nI 0) hx hb dd_M_commit_106 (by decide) ?_
          refine va_put (D := G) (ci := 4) (v := .int (nI (0))) (ty := .int) (C := cn_M) (T := ft_M) (N := 17) hx hb hts uw_M fy_M fo_M fn_M hown hK hP hD hS 0 rfl rfl 9 (by decide) (hts _ tw_602) (fun _ h9 => h9) rfl (by decide +kernel) rfl rfl (Nat.le_of_ble_eq_true rfl) dd_M_commit_107 (fun H locs hP hD hS => ?_)
          have hP : va_P G jcl (wM qM qK qZ qN qB qY qi qo qm qp c1 c2 c3 c4 c5 c6 c7 c8 c9 (jm_cpL 0 12 12 0 K) (jm_cpL 0 12 12 0 Z) (jm_cpL 0 12 12 0 N) (jm_cpL (0 * 4) (12 * 4) 48 0 B) (jm_cpL (0 * 64) (12 * 64) 768 0 Y) I O M P 0 (wr + (ct - 1)) ofs 0 pa ey fo la) H := hP
          have hD : va_D A (wM qM qK qZ qN qB qY qi qo qm qp c1 c2 c3 c4 c5 c6 c7 c8 c9 (jm_cpL 0 12 12 0 K) (jm_cpL 0 12 12 0 Z) (jm_cpL 0 12 12 0 N) (jm_cpL (0 * 4) (12 * 4) 48 0 B) (jm_cpL (0 * 64) (12 * 64) 768 0 Y) I O M P 0 (wr + (ct - 1)) ofs 0 pa ey fo la) := hD
          refine lv_aload_n hx hb dd_M_commit_110 rfl (lv_at hl 2 rfl) ?_
          refine jm_callV (wr := []) C (ct_M_crash l G qM qK qZ qN qB qY qi qo qm qp c1 c2 c3 c4 c5 c6 c7 c8 c9 (jm_cpL 0 12 12 0 K) (jm_cpL 0 12 12 0 Z) (jm_cpL 0 12 12 0 N) (jm_cpL (0 * 4) (12 * 4) 48 0 B) (jm_cpL (0 * 64) (12 * 64) 768 0 Y) I O M P 0 (wr + (ct - 1)) ofs 0 pa ey fo la  ) kl_M_142 ⟨Nat.le_of_ble_eq_true rfl, Nat.le_of_ble_eq_true rfl⟩ ⟨Nat.le_of_ble_eq_true rfl, Nat.le_of_ble_eq_true rfl⟩ hP hD hS hA (hK) (va_recv hK hP (ci := 4) (q0 := 0) rfl rfl) hl.1 rfl rfl (Nat.le_of_ble_eq_true rfl) dd_M_commit_111 (fun H locs hP hD hS => ?_)
          have hP : va_P G jcl (wM qM qK qZ qN qB qY qi qo qm qp c1 c2 c3 c4 c5 c6 c7 c8 c9 (jm_cpL 12 0 12 0 (jm_cpL 0 12 12 0 K)) (jm_cpL 12 0 12 0 (jm_cpL 0 12 12 0 Z)) (jm_cpL 12 0 12 0 (jm_cpL 0 12 12 0 N)) (jm_cpL (12 * 4) (0 * 4) 48 0 (jm_cpL (0 * 4) (12 * 4) 48 0 B)) (jm_cpL (12 * 64) (0 * 64) 768 0 (jm_cpL (0 * 64) (12 * 64) 768 0 Y)) (jm_clL 6 0 I) O M P 0 (wr + (ct - 1)) (ofs + 1) 0 pa ey fo la) H := hP
          have hD : va_D A (wM qM qK qZ qN qB qY qi qo qm qp c1 c2 c3 c4 c5 c6 c7 c8 c9 (jm_cpL 12 0 12 0 (jm_cpL 0 12 12 0 K)) (jm_cpL 12 0 12 0 (jm_cpL 0 12 12 0 Z)) (jm_cpL 12 0 12 0 (jm_cpL 0 12 12 0 N)) (jm_cpL (12 * 4) (0 * 4) 48 0 (jm_cpL (0 * 4) (12 * 4) 48 0 B)) (jm_cpL (12 * 64) (0 * 64) 768 0 (jm_cpL (0 * 64) (12 * 64) 768 0 Y)) (jm_clL 6 0 I) O M P 0 (wr + (ct - 1)) (ofs + 1) 0 pa ey fo la) := hD
          refine lv_aload_n hx hb dd_M_commit_114 rfl (lv_at hl 2 rfl) ?_
          refine lv_iconst (v := nI 1) hx hb dd_M_commit_115 (by decide) ?_
          refine va_put (D := G) (ci := 4) (v := .int (nI (1))) (ty := .int) (C := cn_M) (T := ft_M) (N := 17) hx hb hts uw_M fy_M fo_M fn_M hown hK hP hD hS 0 rfl rfl 12 (by decide) (hts _ tw_605) (fun _ h9 => h9) rfl (by decide +kernel) rfl rfl (Nat.le_of_ble_eq_true rfl) dd_M_commit_116 (fun H locs hP hD hS => ?_)
          have hP : va_P G jcl (wM qM qK qZ qN qB qY qi qo qm qp c1 c2 c3 c4 c5 c6 c7 c8 c9 (jm_cpL 12 0 12 0 (jm_cpL 0 12 12 0 K)) (jm_cpL 12 0 12 0 (jm_cpL 0 12 12 0 Z)) (jm_cpL 12 0 12 0 (jm_cpL 0 12 12 0 N)) (jm_cpL (12 * 4) (0 * 4) 48 0 (jm_cpL (0 * 4) (12 * 4) 48 0 B)) (jm_cpL (12 * 64) (0 * 64) 768 0 (jm_cpL (0 * 64) (12 * 64) 768 0 Y)) (jm_clL 6 0 I) O M P 0 (wr + (ct - 1)) (ofs + 1) 1 pa ey fo la) H := hP
          have hD : va_D A (wM qM qK qZ qN qB qY qi qo qm qp c1 c2 c3 c4 c5 c6 c7 c8 c9 (jm_cpL 12 0 12 0 (jm_cpL 0 12 12 0 K)) (jm_cpL 12 0 12 0 (jm_cpL 0 12 12 0 Z)) (jm_cpL 12 0 12 0 (jm_cpL 0 12 12 0 N)) (jm_cpL (12 * 4) (0 * 4) 48 0 (jm_cpL (0 * 4) (12 * 4) 48 0 B)) (jm_cpL (12 * 64) (0 * 64) 768 0 (jm_cpL (0 * 64) (12 * 64) 768 0 Y)) (jm_clL 6 0 I) O M P 0 (wr + (ct - 1)) (ofs + 1) 1 pa ey fo la) := hD
          refine lv_iconst (v := nI 0) hx hb dd_M_commit_119 (by decide) ?_
          have he : wM qM qK qZ qN qB qY qi qo qm qp c1 c2 c3 c4 c5 c6 c7 c8 c9 (jm_cpL 12 0 12 0 (jm_cpL 0 12 12 0 K)) (jm_cpL 12 0 12 0 (jm_cpL 0 12 12 0 Z)) (jm_cpL 12 0 12 0 (jm_cpL 0 12 12 0 N)) (jm_cpL (12 * 4) (0 * 4) 48 0 (jm_cpL (0 * 4) (12 * 4) 48 0 B)) (jm_cpL (12 * 64) (0 * 64) 768 0 (jm_cpL (0 * 64) (12 * 64) 768 0 Y)) (jm_clL 6 0 I) O M P 0 (wr + (ct - 1)) (ofs + 1) 1 pa ey fo la = wM qM qK qZ qN qB qY qi qo qm qp c1 c2 c3 c4 c5 c6 c7 c8 c9 (jm_cmT (jm_differing K Z N B Y) ct (jm_cpL 0 12 12 0) (jm_cpL 12 0 12 0) K) (jm_cmT (jm_differing K Z N B Y) ct (jm_cpL 0 12 12 0) (jm_cpL 12 0 12 0) Z) (jm_cmT (jm_differing K Z N B Y) ct (jm_cpL 0 12 12 0) (jm_cpL 12 0 12 0) N) (jm_cmT (jm_differing K Z N B Y) ct (jm_cpL (0 * 4) (12 * 4) 48 0) (jm_cpL (12 * 4) (0 * 4) 48 0) B) (jm_cmT (jm_differing K Z N B Y) ct (jm_cpL (0 * 64) (12 * 64) 768 0) (jm_cpL (12 * 64) (0 * 64) 768 0) Y) (jm_cmI (jm_differing K Z N B Y) ct I) O M P (jm_cmC (jm_differing K Z N B Y) ct) (jm_cmW (jm_differing K Z N B Y) ct wr) (jm_cmO (jm_differing K Z N B Y) ct ofs) (jm_cmH (jm_differing K Z N B Y) ct) pa ey fo la := by first | with_reducible rfl | (simp [jm_cmT, jm_cmR, jm_cmC, jm_cmW, jm_cmH, jm_cmI, jm_cmO, c_2, c_3, c_5, c_6]; done)
          rw [he] at hP hD
          exact jm_reti C (by first | with_reducible rfl | (simp [jm_cmT, jm_cmR, jm_cmC, jm_cmW, jm_cmH, jm_cmI, jm_cmO, c_2, c_3, c_5, c_6]; done)) hP hD hK hS ⟨Nat.le_of_ble_eq_true rfl, Nat.le_of_ble_eq_true rfl⟩ dd_M_commit_120
      · skip
        refine lv_aload_n hx hb dd_M_commit_37 rfl (lv_at hl 2 rfl) ?_
        refine va_get (D := G) (ci := 4) (v := .int (nI (ct))) (C := cn_M) (T := ft_M) (N := 17) hx hb hts uw_M hown hK hP 0 rfl rfl 9 (by decide) (hts _ tw_602) (fun _ h9 => h9) rfl dd_M_commit_38 ?_
        refine jl_ifle (tgt := 54) hx hb (by omega) dd_M_commit_41 (by decide) (fun c_7 => ?_) (fun c_7 => ?_)
        · skip
          refine lv_aload_n hx hb dd_M_commit_54 rfl (lv_at hl 2 rfl) ?_
          refine lv_dup hx hb dd_M_commit_55 rfl ?_
          refine va_get (D := G) (ci := 4) (v := .int (nI (wr))) (C := cn_M) (T := ft_M) (N := 17) hx hb hts uw_M hown hK hP 0 rfl rfl 10 (by decide) (hts _ tw_603) (fun _ h9 => h9) rfl dd_M_commit_56 ?_
          refine lv_iload_n hx hb dd_M_commit_59 rfl (lv_at hl 0 rfl) ?_
          refine jl_iadd hx hb dd_M_commit_60 ?_
          refine va_put (D := G) (ci := 4) (v := .int (nI (wr + ((2 * (jm_differing K Z N B Y)) + 1)))) (ty := .int) (C := cn_M) (T := ft_M) (N := 17) hx hb hts uw_M fy_M fo_M fn_M hown hK hP hD hS 0 rfl rfl 10 (by decide) (hts _ tw_603) (fun _ h9 => h9) rfl (by decide +kernel) rfl rfl (Nat.le_of_ble_eq_true rfl) dd_M_commit_61 (fun H locs hP hD hS => ?_)
          have hP : va_P G jcl (wM qM qK qZ qN qB qY qi qo qm qp c1 c2 c3 c4 c5 c6 c7 c8 c9 K Z N B Y I O M P ct (wr + ((2 * (jm_differing K Z N B Y)) + 1)) ofs 0 pa ey fo la) H := hP
          have hD : va_D A (wM qM qK qZ qN qB qY qi qo qm qp c1 c2 c3 c4 c5 c6 c7 c8 c9 K Z N B Y I O M P ct (wr + ((2 * (jm_differing K Z N B Y)) + 1)) ofs 0 pa ey fo la) := hD
          refine lv_aload_n hx hb dd_M_commit_64 rfl (lv_at hl 2 rfl) ?_
          refine lv_iconst (v := nI 0) hx hb dd_M_commit_65 (by decide) ?_
          refine lv_bipush (v := nI 12) hx hb dd_M_commit_66 (by decide) ?_
          refine jm_callV (wr := []) C (ct_M_copyTables l G qM qK qZ qN qB qY qi qo qm qp c1 c2 c3 c4 c5 c6 c7 c8 c9 K Z N B Y I O M P ct (wr + ((2 * (jm_differing K Z N B Y)) + 1)) ofs 0 pa ey fo la 0 12 (by omega) (by omega)) kl_M_139 ⟨Nat.le_of_ble_eq_true rfl, Nat.le_of_ble_eq_true rfl⟩ ⟨Nat.le_of_ble_eq_true rfl, Nat.le_of_ble_eq_true rfl⟩ hP hD hS hA (hK) (va_recv hK hP (ci := 4) (q0 := 0) rfl rfl) hl.1 rfl rfl (Nat.le_of_ble_eq_true rfl) dd_M_commit_68 (fun H locs hP hD hS => ?_)
          have hP : va_P G jcl (wM qM qK qZ qN qB qY qi qo qm qp c1 c2 c3 c4 c5 c6 c7 c8 c9 (jm_cpL 0 12 12 0 K) (jm_cpL 0 12 12 0 Z) (jm_cpL 0 12 12 0 N) (jm_cpL (0 * 4) (12 * 4) 48 0 B) (jm_cpL (0 * 64) (12 * 64) 768 0 Y) I O M P ct (wr + ((2 * (jm_differing K Z N B Y)) + 1)) ofs 0 pa ey fo la) H := hP
          have hD : va_D A (wM qM qK qZ qN qB qY qi qo qm qp c1 c2 c3 c4 c5 c6 c7 c8 c9 (jm_cpL 0 12 12 0 K) (jm_cpL 0 12 12 0 Z) (jm_cpL 0 12 12 0 N) (jm_cpL (0 * 4) (12 * 4) 48 0 B) (jm_cpL (0 * 64) (12 * 64) 768 0 Y) I O M P ct (wr + ((2 * (jm_differing K Z N B Y)) + 1)) ofs 0 pa ey fo la) := hD
          refine lv_iload_n hx hb dd_M_commit_71 rfl (lv_at hl 0 rfl) ?_
          have he : wM qM qK qZ qN qB qY qi qo qm qp c1 c2 c3 c4 c5 c6 c7 c8 c9 (jm_cpL 0 12 12 0 K) (jm_cpL 0 12 12 0 Z) (jm_cpL 0 12 12 0 N) (jm_cpL (0 * 4) (12 * 4) 48 0 B) (jm_cpL (0 * 64) (12 * 64) 768 0 Y) I O M P ct (wr + ((2 * (jm_differing K Z N B Y)) + 1)) ofs 0 pa ey fo la = wM qM qK qZ qN qB qY qi qo qm qp c1 c2 c3 c4 c5 c6 c7 c8 c9 (jm_cmT (jm_differing K Z N B Y) ct (jm_cpL 0 12 12 0) (jm_cpL 12 0 12 0) K) (jm_cmT (jm_differing K Z N B Y) ct (jm_cpL 0 12 12 0) (jm_cpL 12 0 12 0) Z) (jm_cmT (jm_differing K Z N B Y) ct (jm_cpL 0 12 12 0) (jm_cpL 12 0 12 0) N) (jm_cmT (jm_differing K Z N B Y) ct (jm_cpL (0 * 4) (12 * 4) 48 0) (jm_cpL (12 * 4) (0 * 4) 48 0) B) (jm_cmT (jm_differing K Z N B Y) ct (jm_cpL (0 * 64) (12 * 64) 768 0) (jm_cpL (12 * 64) (0 * 64) 768 0) Y) (jm_cmI (jm_differing K Z N B Y) ct I) O M P (jm_cmC (jm_differing K Z N B Y) ct) (jm_cmW (jm_differing K Z N B Y) ct wr) (jm_cmO (jm_differing K Z N B Y) ct ofs) (jm_cmH (jm_differing K Z N B Y) ct) pa ey fo la := by first | with_reducible rfl | (simp [jm_cmT, jm_cmR, jm_cmC, jm_cmW, jm_cmH, jm_cmI, jm_cmO, c_2, c_3, c_5, c_7]; done)
          rw [he] at hP hD
          exact jm_reti C (by first | with_reducible rfl | (simp [jm_cmT, jm_cmR, jm_cmC, jm_cmW, jm_cmH, jm_cmI, jm_cmO, c_2, c_3, c_5, c_7]; done)) hP hD hK hS ⟨Nat.le_of_ble_eq_true rfl, Nat.le_of_ble_eq_true rfl⟩ dd_M_commit_72
        · skip
          refine lv_aload_n hx hb dd_M_commit_44 rfl (lv_at hl 2 rfl) ?_
          refine lv_dup hx hb dd_M_commit_45 rfl ?_
          refine va_get (D := G) (ci := 4) (v := .int (nI (ct))) (C := cn_M) (T := ft_M) (N := 17) hx hb hts uw_M hown hK hP 0 rfl rfl 9 (by decide) (hts _ tw_602) (fun _ h9 => h9) rfl dd_M_commit_46 ?_
          refine lv_iload_n hx hb dd_M_commit_49 rfl (lv_at hl 0 rfl) ?_
          refine jl_isub hx hb (by omega) dd_M_commit_50 ?_
          refine va_put (D := G) (ci := 4) (v := .int (nI (ct - ((2 * (jm_differing K Z N B Y)) + 1)))) (ty := .int) (C := cn_M) (T := ft_M) (N := 17) hx hb hts uw_M fy_M fo_M fn_M hown hK hP hD hS 0 rfl rfl 9 (by decide) (hts _ tw_602) (fun _ h9 => h9) rfl (by decide +kernel) rfl rfl (Nat.le_of_ble_eq_true rfl) dd_M_commit_51 (fun H locs hP hD hS => ?_)
          have hP : va_P G jcl (wM qM qK qZ qN qB qY qi qo qm qp c1 c2 c3 c4 c5 c6 c7 c8 c9 K Z N B Y I O M P (ct - ((2 * (jm_differing K Z N B Y)) + 1)) wr ofs 0 pa ey fo la) H := hP
          have hD : va_D A (wM qM qK qZ qN qB qY qi qo qm qp c1 c2 c3 c4 c5 c6 c7 c8 c9 K Z N B Y I O M P (ct - ((2 * (jm_differing K Z N B Y)) + 1)) wr ofs 0 pa ey fo la) := hD
          refine lv_aload_n hx hb dd_M_commit_54 rfl (lv_at hl 2 rfl) ?_
          refine lv_dup hx hb dd_M_commit_55 rfl ?_
          refine va_get (D := G) (ci := 4) (v := .int (nI (wr))) (C := cn_M) (T := ft_M) (N := 17) hx hb hts uw_M hown hK hP 0 rfl rfl 10 (by decide) (hts _ tw_603) (fun _ h9 => h9) rfl dd_M_commit_56 ?_
          refine lv_iload_n hx hb dd_M_commit_59 rfl (lv_at hl 0 rfl) ?_
          refine jl_iadd hx hb dd_M_commit_60 ?_
          refine va_put (D := G) (ci := 4) (v := .int (nI (wr + ((2 * (jm_differing K Z N B Y)) + 1)))) (ty := .int) (C := cn_M) (T := ft_M) (N := 17) hx hb hts uw_M fy_M fo_M fn_M hown hK hP hD hS 0 rfl rfl 10 (by decide) (hts _ tw_603) (fun _ h9 => h9) rfl (by decide +kernel) rfl rfl (Nat.le_of_ble_eq_true rfl) dd_M_commit_61 (fun H locs hP hD hS => ?_)
          have hP : va_P G jcl (wM qM qK qZ qN qB qY qi qo qm qp c1 c2 c3 c4 c5 c6 c7 c8 c9 K Z N B Y I O M P (ct - ((2 * (jm_differing K Z N B Y)) + 1)) (wr + ((2 * (jm_differing K Z N B Y)) + 1)) ofs 0 pa ey fo la) H := hP
          have hD : va_D A (wM qM qK qZ qN qB qY qi qo qm qp c1 c2 c3 c4 c5 c6 c7 c8 c9 K Z N B Y I O M P (ct - ((2 * (jm_differing K Z N B Y)) + 1)) (wr + ((2 * (jm_differing K Z N B Y)) + 1)) ofs 0 pa ey fo la) := hD
          refine lv_aload_n hx hb dd_M_commit_64 rfl (lv_at hl 2 rfl) ?_
          refine lv_iconst (v := nI 0) hx hb dd_M_commit_65 (by decide) ?_
          refine lv_bipush (v := nI 12) hx hb dd_M_commit_66 (by decide) ?_
          refine jm_callV (wr := []) C (ct_M_copyTables l G qM qK qZ qN qB qY qi qo qm qp c1 c2 c3 c4 c5 c6 c7 c8 c9 K Z N B Y I O M P (ct - ((2 * (jm_differing K Z N B Y)) + 1)) (wr + ((2 * (jm_differing K Z N B Y)) + 1)) ofs 0 pa ey fo la 0 12 (by omega) (by omega)) kl_M_139 ⟨Nat.le_of_ble_eq_true rfl, Nat.le_of_ble_eq_true rfl⟩ ⟨Nat.le_of_ble_eq_true rfl, Nat.le_of_ble_eq_true rfl⟩ hP hD hS hA (hK) (va_recv hK hP (ci := 4) (q0 := 0) rfl rfl) hl.1 rfl rfl (Nat.le_of_ble_eq_true rfl) dd_M_commit_68 (fun H locs hP hD hS => ?_)
          have hP : va_P G jcl (wM qM qK qZ qN qB qY qi qo qm qp c1 c2 c3 c4 c5 c6 c7 c8 c9 (jm_cpL 0 12 12 0 K) (jm_cpL 0 12 12 0 Z) (jm_cpL 0 12 12 0 N) (jm_cpL (0 * 4) (12 * 4) 48 0 B) (jm_cpL (0 * 64) (12 * 64) 768 0 Y) I O M P (ct - ((2 * (jm_differing K Z N B Y)) + 1)) (wr + ((2 * (jm_differing K Z N B Y)) + 1)) ofs 0 pa ey fo la) H := hP
          have hD : va_D A (wM qM qK qZ qN qB qY qi qo qm qp c1 c2 c3 c4 c5 c6 c7 c8 c9 (jm_cpL 0 12 12 0 K) (jm_cpL 0 12 12 0 Z) (jm_cpL 0 12 12 0 N) (jm_cpL (0 * 4) (12 * 4) 48 0 B) (jm_cpL (0 * 64) (12 * 64) 768 0 Y) I O M P (ct - ((2 * (jm_differing K Z N B Y)) + 1)) (wr + ((2 * (jm_differing K Z N B Y)) + 1)) ofs 0 pa ey fo la) := hD
          refine lv_iload_n hx hb dd_M_commit_71 rfl (lv_at hl 0 rfl) ?_
          have he : wM qM qK qZ qN qB qY qi qo qm qp c1 c2 c3 c4 c5 c6 c7 c8 c9 (jm_cpL 0 12 12 0 K) (jm_cpL 0 12 12 0 Z) (jm_cpL 0 12 12 0 N) (jm_cpL (0 * 4) (12 * 4) 48 0 B) (jm_cpL (0 * 64) (12 * 64) 768 0 Y) I O M P (ct - ((2 * (jm_differing K Z N B Y)) + 1)) (wr + ((2 * (jm_differing K Z N B Y)) + 1)) ofs 0 pa ey fo la = wM qM qK qZ qN qB qY qi qo qm qp c1 c2 c3 c4 c5 c6 c7 c8 c9 (jm_cmT (jm_differing K Z N B Y) ct (jm_cpL 0 12 12 0) (jm_cpL 12 0 12 0) K) (jm_cmT (jm_differing K Z N B Y) ct (jm_cpL 0 12 12 0) (jm_cpL 12 0 12 0) Z) (jm_cmT (jm_differing K Z N B Y) ct (jm_cpL 0 12 12 0) (jm_cpL 12 0 12 0) N) (jm_cmT (jm_differing K Z N B Y) ct (jm_cpL (0 * 4) (12 * 4) 48 0) (jm_cpL (12 * 4) (0 * 4) 48 0) B) (jm_cmT (jm_differing K Z N B Y) ct (jm_cpL (0 * 64) (12 * 64) 768 0) (jm_cpL (12 * 64) (0 * 64) 768 0) Y) (jm_cmI (jm_differing K Z N B Y) ct I) O M P (jm_cmC (jm_differing K Z N B Y) ct) (jm_cmW (jm_differing K Z N B Y) ct wr) (jm_cmO (jm_differing K Z N B Y) ct ofs) (jm_cmH (jm_differing K Z N B Y) ct) pa ey fo la := by first | with_reducible rfl | (simp [jm_cmT, jm_cmR, jm_cmC, jm_cmW, jm_cmH, jm_cmI, jm_cmO, c_2, c_3, c_5, c_7]; done)
          rw [he] at hP hD
          exact jm_reti C (by first | with_reducible rfl | (simp [jm_cmT, jm_cmR, jm_cmC, jm_cmW, jm_cmH, jm_cmI, jm_cmO, c_2, c_3, c_5, c_7]; done)) hP hD hK hS ⟨Nat.le_of_ble_eq_true rfl, Nat.le_of_ble_eq_true rfl⟩ dd_M_commit_72
  · skip
    refine lv_iconst (v := nI 0) hx hb dd_M_commit_14 (by decide) ?_
    have he : wM qM qK qZ qN qB qY qi qo qm qp c1 c2 c3 c4 c5 c6 c7 c8 c9 K Z N B Y I O M P ct wr ofs 0 pa ey fo la = wM qM qK qZ qN qB qY qi qo qm qp c1 c2 c3 c4 c5 c6 c7 c8 c9 (jm_cmT (jm_differing K Z N B Y) ct (jm_cpL 0 12 12 0) (jm_cpL 12 0 12 0) K) (jm_cmT (jm_differing K Z N B Y) ct (jm_cpL 0 12 12 0) (jm_cpL 12 0 12 0) Z) (jm_cmT (jm_differing K Z N B Y) ct (jm_cpL 0 12 12 0) (jm_cpL 12 0 12 0) N) (jm_cmT (jm_differing K Z N B Y) ct (jm_cpL (0 * 4) (12 * 4) 48 0) (jm_cpL (12 * 4) (0 * 4) 48 0) B) (jm_cmT (jm_differing K Z N B Y) ct (jm_cpL (0 * 64) (12 * 64) 768 0) (jm_cpL (12 * 64) (0 * 64) 768 0) Y) (jm_cmI (jm_differing K Z N B Y) ct I) O M P (jm_cmC (jm_differing K Z N B Y) ct) (jm_cmW (jm_differing K Z N B Y) ct wr) (jm_cmO (jm_differing K Z N B Y) ct ofs) (jm_cmH (jm_differing K Z N B Y) ct) pa ey fo la := by first | with_reducible rfl | (simp [jm_cmT, jm_cmR, jm_cmC, jm_cmW, jm_cmH, jm_cmI, jm_cmO, c_2]; done)
    rw [he] at hP hD
    exact jm_reti C (by first | with_reducible rfl | (simp [jm_cmT, jm_cmR, jm_cmC, jm_cmW, jm_cmH, jm_cmI, jm_cmO, c_2]; done)) hP hD hK hS ⟨Nat.le_of_ble_eq_true rfl, Nat.le_of_ble_eq_true rfl⟩ dd_M_commit_15
