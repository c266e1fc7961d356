set_option maxHeartbeats 4000000 in
set_option maxRecDepth 100000 in
theorem ct_J_isStale (l : Launch) (G : va_G) (qJ qH : Nat) (qh : Nat → Nat) (cH : ClassId) (qI qD qS qC : Nat) (cS cC : ClassId) (s : Nat → Nat) (c : Nat → Nat) (ho : Nat → Nat) (hn : Nat → Nat) (hg : Nat → Nat) (hm : Nat → Nat) (hp : Nat → Nat) (wc : Nat) (wd : Nat) (tf : Nat) (h : Nat) (hh0 : h < 6) (hs : jf_ok s) (hho : jlt 2 ho) (hhn : jlt 256 hn) (hhg : jlt 256 hg) (hhm : jlt 5 hm) (hhp : jlt 65 hp) : jr l yn_J_isStale (.code yn_J_isStale cd_J_isStale 2 (some .boolean)) { frames := 3, cells := 0, slots := 0, locals := 64 } G (tJ cS cC cH) (wJ qJ qH qh cH qI qD qS qC cS cC s c ho hn hg hm hp wc wd tf) [.ref qJ, .ref (qh h)] (nI (jf_stale s hn hg hm h)) := by
  refine jr_of (by decide) (Nat.le_of_ble_eq_true rfl) ?_
  intro pr en σ mi bel met cd ls C hP hK hl
  have hx := C.1
  have hb := C.2.1
  have hown := C.2.2.2.1
  have hts := C.2.2.2.2.1
  have hl : lv_has ls 2 [(0, .ref qJ), (1, .ref (qh h))] := hl
  refine lv_aload_n hx hb dd_J_isStale_0 rfl (lv_at hl 0 rfl) ?_
  refine va_get (D := G) (ci := 3) (v := .ref qI) (C := cn_J) (T := ft_J) (N := 6) hx hb hts uw_J hown hK hP 4 rfl rfl 1 (by decide) (hts _ tw_108) (fun _ h9 => h9) rfl dd_J_isStale_1 ?_
  refine lv_aload_n hx hb dd_J_isStale_4 rfl (lv_at hl 1 rfl) ?_
  refine va_get (D := G) (ci := 1) (v := .int (nI (hn h))) (C := cn_H) (T := ft_H) (N := 5) hx hb hts uw_H hown hK hP (6 + h) (jh_at (by omega)) rfl 1 (by decide) (hts _ tw_67) (fun _ h9 => h9) rfl dd_J_isStale_5 ?_
  have hf_1 : hn h < 256 := (by assumption : jlt 256 hn) _
  refine jr_callV C (ct_I_kind l G qI qD qS qC cS cC s c (hn h) (by omega) (by first | assumption | (simp only [] ; assumption))) kl_J_85 ⟨Nat.le_of_ble_eq_true rfl, Nat.le_of_ble_eq_true rfl, rfl, rfl⟩ ⟨Nat.le_of_ble_eq_true rfl, Nat.le_of_ble_eq_true rfl⟩ (jw_left hP) (hK.sub [0, 1] rfl) (va_recv hK hP (ci := 2) (q0 := 3) rfl rfl) hl.1 rfl rfl (Nat.le_of_ble_eq_true rfl) dd_J_isStale_8 ?_
  have hf_2 : jf_kind s (hn h) < 256 := jf_get_lt (by assumption) _
  refine lv_aload_n hx hb dd_J_isStale_11 rfl (lv_at hl 1 rfl) ?_
  refine va_get (D := G) (ci := 1) (v := .int (nI (hm h))) (C := cn_H) (T := ft_H) (N := 5) hx hb hts uw_H hown hK hP (6 + h) (jh_at (by omega)) rfl 3 (by decide) (hts _ tw_69) (fun _ h9 => h9) rfl dd_J_isStale_12 ?_
  have hf_3 : hm h < 5 := (by assumption : jlt 5 hm) _
  refine jr_callS0 C (ct_J_kindFor l G (hm h) (by omega)) kl_J_88 ⟨Nat.le_of_ble_eq_true rfl, Nat.le_of_ble_eq_true rfl, rfl, rfl⟩ ⟨Nat.le_of_ble_eq_true rfl, Nat.le_of_ble_eq_true rfl⟩ hK hl.1 rfl rfl (Nat.le_of_ble_eq_true rfl) dd_J_isStale_15 ?_
  have hf_4 : jf_kf (hm h) < 3 := jf_kf_lt _
  refine jl_ne (tgt := 39) hx hb (by omega) (by omega) dd_J_isStale_18 (by decide) (fun c_5 => ?_) (fun c_5 => ?_)
  · skip
    refine lv_iconst (v := nI 1) hx hb dd_J_isStale_39 (by decide) ?_
    refine lv_goto (tgt := 44) hx hb dd_J_isStale_40 (by decide) ?_
    exact jr_retz C (by decide) (by first | with_reducible rfl | (simp [jf_stale, c_5]; done) | (simp_all [jf_stale]; done)) dd_J_isStale_44
  · skip
    refine lv_aload_n hx hb dd_J_isStale_21 rfl (lv_at hl 0 rfl) ?_
    refine va_get (D := G) (ci := 3) (v := .ref qI) (C := cn_J) (T := ft_J) (N := 6) hx hb hts uw_J hown hK hP 4 rfl rfl 1 (by decide) (hts _ tw_108) (fun _ h9 => h9) rfl dd_J_isStale_22 ?_
    refine lv_aload_n hx hb dd_J_isStale_25 rfl (lv_at hl 1 rfl) ?_
    refine va_get (D := G) (ci := 1) (v := .int (nI (hn h))) (C := cn_H) (T := ft_H) (N := 5) hx hb hts uw_H hown hK hP (6 + h) (jh_at (by omega)) rfl 1 (by decide) (hts _ tw_67) (fun _ h9 => h9) rfl dd_J_isStale_26 ?_
    have hf_6 : hn h < 256 := (by assumption : jlt 256 hn) _
    refine jr_callV C (ct_I_generation l G qI qD qS qC cS cC s c (hn h) (by omega) (by first | assumption | (simp only [] ; assumption))) kl_J_191 ⟨Nat.le_of_ble_eq_true rfl, Nat.le_of_ble_eq_true rfl, rfl, rfl⟩ ⟨Nat.le_of_ble_eq_true rfl, Nat.le_of_ble_eq_true rfl⟩ (jw_left hP) (hK.sub [0, 1] rfl) (va_recv hK hP (ci := 2) (q0 := 3) rfl rfl) hl.1 rfl rfl (Nat.le_of_ble_eq_true rfl) dd_J_isStale_29 ?_
    have hf_7 : jf_gen s (hn h) < 256 := jf_get_lt (by assumption) _
    refine lv_aload_n hx hb dd_J_isStale_32 rfl (lv_at hl 1 rfl) ?_
    refine va_get (D := G) (ci := 1) (v := .int (nI (hg h))) (C := cn_H) (T := ft_H) (N := 5) hx hb hts uw_H hown hK hP (6 + h) (jh_at (by omega)) rfl 2 (by decide) (hts _ tw_68) (fun _ h9 => h9) rfl dd_J_isStale_33 ?_
    have hf_8 : hg h < 256 := (by assumption : jlt 256 hg) _
    refine jl_eq (tgt := 43) hx hb (by omega) (by omega) dd_J_isStale_36 (by decide) (fun c_9 => ?_) (fun c_9 => ?_)
    · skip
      refine lv_iconst (v := nI 0) hx hb dd_J_isStale_43 (by decide) ?_
      exact jr_retz C (by decide) (by first | with_reducible rfl | (simp [jf_stale, c_5, c_9]; done) | (simp_all [jf_stale]; done)) dd_J_isStale_44
    · skip
      refine lv_iconst (v := nI 1) hx hb dd_J_isStale_39 (by decide) ?_
      refine lv_goto (tgt := 44) hx hb dd_J_isStale_40 (by decide) ?_
      exact jr_retz C (by decide) (by first | with_reducible rfl | (simp [jf_stale, c_5, c_9]; done) | (simp_all [jf_stale]; done)) dd_J_isStale_44
set_option maxHeartbeats 4000000 in
set_option maxRecDepth 100000 in
theorem ct_J_closedHandleNeeded (l : Launch) (hl9 : l.stackTraces = false) (G : va_G) (qJ qH : Nat) (qh : Nat → Nat) (cH : ClassId) (qI qD qS qC : Nat) (cS cC : ClassId) (s : Nat → Nat) (c : Nat → Nat) (ho : Nat → Nat) (hn : Nat → Nat) (hg : Nat → Nat) (hm : Nat → Nat) (hp : Nat → Nat) (wc : Nat) (wd : Nat) (tf : Nat)  (hho : jlt 2 ho) : jt l yn_J_closedHandleNeeded (.code yn_J_closedHandleNeeded cd_J_closedHandleNeeded 2 (some .int)) { frames := 6, cells := 1, slots := 6, locals := 90 } G (tJ cS cC cH) (wJ qJ qH qh cH qI qD qS qC cS cC s c ho hn hg hm hp wc wd tf) [.ref qJ] (fun o w => (jf_chT ho) = 0 ∧ o = (some (.int (nI ((jf_closed ho).getD 0)))) ∧ w = (wJ qJ qH qh cH qI qD qS qC cS cC s c ho hn hg hm hp wc wd tf)) (fun E w => ¬ (jf_chT ho) = 0 ∧ E = jex (jf_chT ho) ∧ w = (wJ qJ qH qh cH qI qD qS qC cS cC s c ho hn hg hm hp wc wd tf)) := by
  refine jt_of (by decide) (Nat.le_of_ble_eq_true rfl) ?_
  intro pr en σ mi bel met cd ls A hA C htb hz hP hK hD hS hl
  have hx := C.1
  have hb := C.2.1
  have hown := C.2.2.2.1
  have hts := C.2.2.2.2.1
  have hl : lv_has ls 2 [(0, .ref qJ)] := hl
  refine lv_iconst (v := nI 0) hx hb dd_J_closedHandleNeeded_0 (by decide) ?_
  refine lv_istore_n (lv' := [(1, .int (nI (0))), (0, .ref qJ)]) hx hb dd_J_closedHandleNeeded_1 rfl hl (by decide) rfl (fun ls hl => ?_)
  have loop : ∀ (n : Nat) (h : Nat), (h + n = 6) → jf_clT ho n h = jf_closed ho → ∀ ls : Array Slot, lv_has ls 2 [(1, .int (nI (h))), (0, .ref qJ)] → W pr l en { frames := 6, cells := 1, slots := 6, locals := 90 } σ mi ([.ref qJ] : List Value).toArray bel met cd σ.heap [] 0 0 (jt_Q bel { frames := 6, cells := 1, slots := 6, locals := 90 } G (tJ cS cC cH) A [.ref qJ] σ (fun o w => (jf_chT ho) = 0 ∧ o = (some (.int (nI ((jf_closed ho).getD 0)))) ∧ w = (wJ qJ qH qh cH qI qD qS qC cS cC s c ho hn hg hm hp wc wd tf)) (fun E w => ¬ (jf_chT ho) = 0 ∧ E = jex (jf_chT ho) ∧ w = (wJ qJ qH qh cH qI qD qS qC cS cC s c ho hn hg hm hp wc wd tf))) (F0 mi 2 ls []) := by
    intro n
    induction n with
    | zero =>
      intro h hi  ht ls hl
      refine lv_iload_n hx hb dd_J_closedHandleNeeded_2 rfl (lv_at hl 0 rfl) ?_
      refine lv_bipush (v := nI 6) hx hb dd_J_closedHandleNeeded_3 (by decide) ?_
      refine jl_ge (tgt := 28) hx hb (by omega) (by omega) dd_J_closedHandleNeeded_5 (by decide) (fun c_1 => ?_) (fun c_1 => ?_)
      · skip
        exact tt_UOEW (is := 269) (text := "no handle is closed") hl9 htb C hz (by decide +kernel) ⟨by first | (simp [← ht, jf_clT, jf_chT, c_1, jex]; done), by first | (simp [← ht, jf_clT, jf_chT, c_1, jex]; done), rfl⟩ hP hD hK hS hl.1 dd_J_closedHandleNeeded_28 dd_J_closedHandleNeeded_31 dd_J_closedHandleNeeded_32 dd_J_closedHandleNeeded_35 dd_J_closedHandleNeeded_38 ⟨Nat.le_of_ble_eq_true rfl, Nat.le_of_ble_eq_true rfl, Nat.le_of_ble_eq_true rfl, Nat.le_of_ble_eq_true rfl⟩ ⟨Nat.le_of_ble_eq_true rfl, Nat.le_of_ble_eq_true rfl⟩
      · skip
        exact absurd c_1 (by omega)
    | succ n ih =>
      intro h hi  ht ls hl
      refine lv_iload_n hx hb dd_J_closedHandleNeeded_2 rfl (lv_at hl 0 rfl) ?_
      refine lv_bipush (v := nI 6) hx hb dd_J_closedHandleNeeded_3 (by decide) ?_
      refine jl_ge (tgt := 28) hx hb (by omega) (by omega) dd_J_closedHandleNeeded_5 (by decide) (fun c_2 => ?_) (fun c_2 => ?_)
      · skip
        exact absurd c_2 (by omega)
      · skip
        refine lv_aload_n hx hb dd_J_closedHandleNeeded_8 rfl (lv_at hl 1 rfl) ?_
        refine va_get (D := G) (ci := 3) (v := .ref qH) (C := cn_J) (T := ft_J) (N := 6) hx hb hts uw_J hown hK hP 4 rfl rfl 2 (by decide) (hts _ tw_109) (fun _ h9 => h9) rfl dd_J_closedHandleNeeded_9 ?_
        refine lv_iload_n hx hb dd_J_closedHandleNeeded_12 rfl (lv_at hl 0 rfl) ?_
        refine jl_hald hx hb hK hP 5 2 rfl rfl (by omega) (by decide) dd_J_closedHandleNeeded_13 ?_
        refine va_get (D := G) (ci := 1) (v := .int (nI (ho h))) (C := cn_H) (T := ft_H) (N := 5) hx hb hts uw_H hown hK hP (6 + h) (jh_at (by omega)) rfl 0 (by decide) (hts _ tw_66) (fun _ h9 => h9) rfl dd_J_closedHandleNeeded_14 ?_
        have hf_3 : ho h < 2 := (by assumption : jlt 2 ho) _
        refine jl_ifne (tgt := 22) hx hb (by omega) dd_J_closedHandleNeeded_17 (by decide) (fun c_4 => ?_) (fun c_4 => ?_)
        · skip
          refine jl_iinc (lv' := [(1, .int (nI (h + 1))), (0, .ref qJ)]) hx hb dd_J_closedHandleNeeded_22 hl (k := 0) rfl (by decide) rfl (fun ls hl => ?_)
          refine lv_goto (tgt := 2) hx hb dd_J_closedHandleNeeded_25 (by decide) ?_
          exact ih (h + 1) (by omega) (by simpa [jf_clT, c_2, c_4] using ht) ls (lv_sub hl [0, 1] rfl)
        · skip
          refine lv_iload_n hx hb dd_J_closedHandleNeeded_20 rfl (lv_at hl 0 rfl) ?_
          exact jt_reti C ⟨by first | (simp [← ht, jf_clT, jf_chT, c_2, c_4]; done), (by first | with_reducible rfl | (simp [← ht, jf_clT, jf_chT, c_2, c_4]; done)), rfl⟩ hP hD hK hS ⟨Nat.le_of_ble_eq_true rfl, Nat.le_of_ble_eq_true rfl⟩ dd_J_closedHandleNeeded_21
  exact loop 6 0 (by omega) (rfl) ls (lv_sub hl [0, 1] rfl)
set_option maxHeartbeats 4000000 in
set_option maxRecDepth 100000 in
theorem ct_J_usableHandle (l : Launch) (hl9 : l.stackTraces = false) (G : va_G) (qJ qH : Nat) (qh : Nat → Nat) (cH : ClassId) (qI qD qS qC : Nat) (cS cC : ClassId) (s : Nat → Nat) (c : Nat → Nat) (ho : Nat → Nat) (hn : Nat → Nat) (hg : Nat → Nat) (hm : Nat → Nat) (hp : Nat → Nat) (wc : Nat) (wd : Nat) (tf : Nat) (h : Nat) (hh0 : h < 6) (hs : jf_ok s) (hho : jlt 2 ho) (hhn : jlt 256 hn) (hhg : jlt 256 hg) (hhm : jlt 5 hm) (hhp : jlt 65 hp) : jt l yn_J_usableHandle (.code yn_J_usableHandle cd_J_usableHandle 3 (some (.object "JournaledFiles$Handle"))) { frames := 6, cells := 1, slots := 6, locals := 90 } G (tJ cS cC cH) (wJ qJ qH qh cH qI qD qS qC cS cC s c ho hn hg hm hp wc wd tf) [.ref qJ, .int (nI (h))] (fun o w => (jf_usT s ho hn hg hm h) = 0 ∧ o = (some (.ref (qh h))) ∧ w = (wJ qJ qH qh cH qI qD qS qC cS cC s c ho hn hg hm hp wc wd tf)) (fun E w => ¬ (jf_usT s ho hn hg hm h) = 0 ∧ E = jex (jf_usT s ho hn hg hm h) ∧ w = (wJ qJ qH qh cH qI qD qS qC cS cC s c ho hn hg hm hp wc wd tf)) := by
  refine jt_of (by decide) (Nat.le_of_ble_eq_true rfl) ?_
  intro pr en σ mi bel met cd ls A hA C htb hz hP hK hD hS hl
  have hx := C.1
  have hb := C.2.1
  have hown := C.2.2.2.1
  have hts := C.2.2.2.2.1
  have hl : lv_has ls 3 [(0, .ref qJ), (1, .int (nI (h)))] := hl
  refine lv_aload_n hx hb dd_J_usableHandle_0 rfl (lv_at hl 0 rfl) ?_
  refine va_get (D := G) (ci := 3) (v := .ref qH) (C := cn_J) (T := ft_J) (N := 6) hx hb hts uw_J hown hK hP 4 rfl rfl 2 (by decide) (hts _ tw_109) (fun _ h9 => h9) rfl dd_J_usableHandle_1 ?_
  refine lv_iload_n hx hb dd_J_usableHandle_4 rfl (lv_at hl 1 rfl) ?_
  refine jl_hald hx hb hK hP 5 2 rfl rfl (by omega) (by decide) dd_J_usableHandle_5 ?_
  refine lv_astore_n (lv' := [(2, .ref (qh h)), (0, .ref qJ), (1, .int (nI (h)))]) hx hb dd_J_usableHandle_6 rfl hl (by decide) rfl (fun ls hl => ?_)
  refine lv_aload_n hx hb dd_J_usableHandle_7 rfl (lv_at hl 0 rfl) ?_
  refine va_get (D := G) (ci := 1) (v := .int (nI (ho h))) (C := cn_H) (T := ft_H) (N := 5) hx hb hts uw_H hown hK hP (6 + h) (jh_at (by omega)) rfl 0 (by decide) (hts _ tw_66) (fun _ h9 => h9) rfl dd_J_usableHandle_8 ?_
  have hf_1 : ho h < 2 := (by assumption : jlt 2 ho) _
  refine jl_ifeq (tgt := 22) hx hb (by omega) dd_J_usableHandle_11 (by decide) (fun c_2 => ?_) (fun c_2 => ?_)
  · skip
    exact tt_ISEW (is := 277) (text := "not open, or stale") hl9 htb C hz (by decide +kernel) ⟨by first | (simp [jf_usT, c_2, jex]; done), by first | (simp [jf_usT, c_2, jex]; done), rfl⟩ hP hD hK hS hl.1 dd_J_usableHandle_22 dd_J_usableHandle_25 dd_J_usableHandle_26 dd_J_usableHandle_29 dd_J_usableHandle_32 ⟨Nat.le_of_ble_eq_true rfl, Nat.le_of_ble_eq_true rfl, Nat.le_of_ble_eq_true rfl, Nat.le_of_ble_eq_true rfl⟩ ⟨Nat.le_of_ble_eq_true rfl, Nat.le_of_ble_eq_true rfl⟩
  · skip
    refine lv_aload_n hx hb dd_J_usableHandle_14 rfl (lv_at hl 1 rfl) ?_
    refine lv_aload_n hx hb dd_J_usableHandle_15 rfl (lv_at hl 0 rfl) ?_
    refine jr_callV C (ct_J_isStale l G qJ qH qh cH qI qD qS qC cS cC s c ho hn hg hm hp wc wd tf h (by omega) (by first | assumption | (simp only [] ; assumption)) (by assumption) (by assumption) (by assumption) (by assumption) (by assumption)) kl_J_273 ⟨Nat.le_of_ble_eq_true rfl, Nat.le_of_ble_eq_true rfl, rfl, rfl⟩ ⟨Nat.le_of_ble_eq_true rfl, Nat.le_of_ble_eq_true rfl⟩ (hP) (hK) (va_recv hK hP (ci := 3) (q0 := 4) rfl rfl) hl.1 rfl rfl (Nat.le_of_ble_eq_true rfl) dd_J_usableHandle_16 ?_
    have hf_3 : jf_stale s hn hg hm h < 2 := jf_stale_lt _ _ _ _ _
    refine jl_ifeq (tgt := 33) hx hb (by omega) dd_J_usableHandle_19 (by decide) (fun c_4 => ?_) (fun c_4 => ?_)
    · skip
      refine lv_aload_n hx hb dd_J_usableHandle_33 rfl (lv_at hl 0 rfl) ?_
      exact jt_reta C ⟨by first | (simp [jf_usT, c_2, c_4]; done), (by first | with_reducible rfl | (simp [jf_usT, c_2, c_4]; done)), rfl⟩ hP hD hK hS ⟨Nat.le_of_ble_eq_true rfl, Nat.le_of_ble_eq_true rfl⟩ dd_J_usableHandle_34
    · skip
      exact tt_ISEW (is := 277) (text := "not open, or stale") hl9 htb C hz (by decide +kernel) ⟨by first | (simp [jf_usT, c_2, c_4, jex]; done), by first | (simp [jf_usT, c_2, c_4, jex]; done), rfl⟩ hP hD hK hS hl.1 dd_J_usableHandle_22 dd_J_usableHandle_25 dd_J_usableHandle_26 dd_J_usableHandle_29 dd_J_usableHandle_32 ⟨Nat.le_of_ble_eq_true rfl, Nat.le_of_ble_eq_true rfl, Nat.le_of_ble_eq_true rfl, Nat.le_of_ble_eq_true rfl⟩ ⟨Nat.le_of_ble_eq_true rfl, Nat.le_of_ble_eq_true rfl⟩
set_option maxHeartbeats 4000000 in
set_option maxRecDepth 100000 in
theorem ct_J_openHandles (l : Launch) (G : va_G) (qJ qH : Nat) (qh : Nat → Nat) (cH : ClassId) (qI qD qS qC : Nat) (cS cC : ClassId) (s : Nat → Nat) (c : Nat → Nat) (ho : Nat → Nat) (hn : Nat → Nat) (hg : Nat → Nat) (hm : Nat → Nat) (hp : Nat → Nat) (wc : Nat) (wd : Nat) (tf : Nat)  (hho : jlt 2 ho) : jr l yn_J_openHandles (.code yn_J_openHandles cd_J_openHandles 3 (some .int)) { frames := 0, cells := 0, slots := 0, locals := 0 } G (tJ cS cC cH) (wJ qJ qH qh cH qI qD qS qC cS cC s c ho hn hg hm hp wc wd tf) [.ref qJ] (nI (jf_ohL ho 6 0 0)) := by
  refine jr_of (by decide) (Nat.le_of_ble_eq_true rfl) ?_
  intro pr en σ mi bel met cd ls C hP hK hl
  have hx := C.1
  have hb := C.2.1
  have hown := C.2.2.2.1
  have hts := C.2.2.2.2.1
  have hl : lv_has ls 3 [(0, .ref qJ)] := hl
  refine lv_iconst (v := nI 0) hx hb dd_J_openHandles_0 (by decide) ?_
  refine lv_istore_n (lv' := [(1, .int (nI (0))), (0, .ref qJ)]) hx hb dd_J_openHandles_1 rfl hl (by decide) rfl (fun ls hl => ?_)
  refine lv_iconst (v := nI 0) hx hb dd_J_openHandles_2 (by decide) ?_
  refine lv_istore_n (lv' := [(2, .int (nI (0))), (1, .int (nI (0))), (0, .ref qJ)]) hx hb dd_J_openHandles_3 rfl hl (by decide) rfl (fun ls hl => ?_)
  have loop : ∀ (n : Nat) (f : Nat) (h : Nat), (h + n = 6 ∧ f ≤ h) → jf_ohL ho n h f = jf_ohL ho 6 0 0 → ∀ ls : Array Slot, lv_has ls 3 [(2, .int (nI (h))), (1, .int (nI (f))), (0, .ref qJ)] → W pr l en { frames := 0, cells := 0, slots := 0, locals := 0 } σ mi ([.ref qJ] : List Value).toArray bel met cd σ.heap [] 0 0 (jr_Q bel [.ref qJ] σ (nI (jf_ohL ho 6 0 0))) (F0 mi 4 ls []) := by
    intro n
    induction n with
    | zero =>
      intro f h hi  ht ls hl
      refine lv_iload_n hx hb dd_J_openHandles_4 rfl (lv_at hl 0 rfl) ?_
      refine lv_bipush (v := nI 6) hx hb dd_J_openHandles_5 (by decide) ?_
      refine jl_ge (tgt := 31) hx hb (by omega) (by omega) dd_J_openHandles_7 (by decide) (fun c_1 => ?_) (fun c_1 => ?_)
      · skip
        refine lv_iload_n hx hb dd_J_openHandles_31 rfl (lv_at hl 1 rfl) ?_
        exact jr_ret C (by rw [← ht]; first | with_reducible rfl | (simp [jf_ohL, c_1]; done)) dd_J_openHandles_32
      · skip
        exact absurd c_1 (by omega)
    | succ n ih =>
      intro f h hi  ht ls hl
      refine lv_iload_n hx hb dd_J_openHandles_4 rfl (lv_at hl 0 rfl) ?_
      refine lv_bipush (v := nI 6) hx hb dd_J_openHandles_5 (by decide) ?_
      refine jl_ge (tgt := 31) hx hb (by omega) (by omega) dd_J_openHandles_7 (by decide) (fun c_2 => ?_) (fun c_2 => ?_)
      · skip
        exact absurd c_2 (by omega)
      · skip
        refine lv_aload_n hx hb dd_J_openHandles_10 rfl (lv_at hl 2 rfl) ?_
        refine va_get (D := G) (ci := 3) (v := .ref qH) (C := cn_J) (T := ft_J) (N := 6) hx hb hts uw_J hown hK hP 4 rfl rfl 2 (by decide) (hts _ tw_109) (fun _ h9 => h9) rfl dd_J_openHandles_11 ?_
        refine lv_iload_n hx hb dd_J_openHandles_14 rfl (lv_at hl 0 rfl) ?_
        refine jl_hald hx hb hK hP 5 2 rfl rfl (by omega) (by decide) dd_J_openHandles_15 ?_
        refine va_get (D := G) (ci := 1) (v := .int (nI (ho h))) (C := cn_H) (T := ft_H) (N := 5) hx hb hts uw_H hown hK hP (6 + h) (jh_at (by omega)) rfl 0 (by decide) (hts _ tw_66) (fun _ h9 => h9) rfl dd_J_openHandles_16 ?_
        have hf_3 : ho h < 2 := (by assumption : jlt 2 ho) _
        refine jl_ifeq (tgt := 25) hx hb (by omega) dd_J_openHandles_19 (by decide) (fun c_4 => ?_) (fun c_4 => ?_)
        · skip
          refine jl_iinc (lv' := [(2, .int (nI (h + 1))), (1, .int (nI (f))), (0, .ref qJ)]) hx hb dd_J_openHandles_25 hl (k := 0) rfl (by decide) rfl (fun ls hl => ?_)
          refine lv_goto (tgt := 4) hx hb dd_J_openHandles_28 (by decide) ?_
          exact ih f (h + 1) (by omega) (by simpa [jf_ohL, c_2, c_4] using ht) ls (lv_sub hl [0, 1, 2] rfl)
        · skip
          refine jl_iinc (lv' := [(1, .int (nI (f + 1))), (2, .int (nI (h))), (0, .ref qJ)]) hx hb dd_J_openHandles_22 hl (k := 1) rfl (by decide) rfl (fun ls hl => ?_)
          refine jl_iinc (lv' := [(2, .int (nI (h + 1))), (1, .int (nI (f + 1))), (0, .ref qJ)]) hx hb dd_J_openHandles_25 hl (k := 1) rfl (by decide) rfl (fun ls hl => ?_)
          refine lv_goto (tgt := 4) hx hb dd_J_openHandles_28 (by decide) ?_
          exact ih (f + 1) (h + 1) (by omega) (by simpa [jf_ohL, c_2, c_4] using ht) ls (lv_sub hl [0, 1, 2] rfl)
  exact loop 6 0 0 (by omega) (rfl) ls (lv_sub hl [0, 1, 2] rfl)
set_option maxHeartbeats 4000000 in
set_option maxRecDepth 100000 in
theorem ct_J_staleHandles (l : Launch) (G : va_G) (qJ qH : Nat) (qh : Nat → Nat) (cH : ClassId) (qI qD qS qC : Nat) (cS cC : ClassId) (s : Nat → Nat) (c : Nat → Nat) (ho : Nat → Nat) (hn : Nat → Nat) (hg : Nat → Nat) (hm : Nat → Nat) (hp : Nat → Nat) (wc : Nat) (wd : Nat) (tf : Nat)  (hs : jf_ok s) (hho : jlt 2 ho) (hhn : jlt 256 hn) (hhg : jlt 256 hg) (hhm : jlt 5 hm) (hhp : jlt 65 hp) : jr l yn_J_staleHandles (.code yn_J_staleHandles cd_J_staleHandles 3 (some .int)) { frames := 4, cells := 0, slots := 0, locals := 85 } G (tJ cS cC cH) (wJ qJ qH qh cH qI qD qS qC cS cC s c ho hn hg hm hp wc wd tf) [.ref qJ] (nI (jf_shL s ho hn hg hm 6 0 0)) := by
  refine jr_of (by decide) (Nat.le_of_ble_eq_true rfl) ?_
  intro pr en σ mi bel met cd ls C hP hK hl
  have hx := C.1
  have hb := C.2.1
  have hown := C.2.2.2.1
  have hts := C.2.2.2.2.1
  have hl : lv_has ls 3 [(0, .ref qJ)] := hl
  refine lv_iconst (v := nI 0) hx hb dd_J_staleHandles_0 (by decide) ?_
  refine lv_istore_n (lv' := [(1, .int (nI (0))), (0, .ref qJ)]) hx hb dd_J_staleHandles_1 rfl hl (by decide) rfl (fun ls hl => ?_)
  refine lv_iconst (v := nI 0) hx hb dd_J_staleHandles_2 (by decide) ?_
  refine lv_istore_n (lv' := [(2, .int (nI (0))), (1, .int (nI (0))), (0, .ref qJ)]) hx hb dd_J_staleHandles_3 rfl hl (by decide) rfl (fun ls hl => ?_)
  have loop : ∀ (n : Nat) (f : Nat) (h : Nat), (h + n = 6 ∧ f ≤ h) → jf_shL s ho hn hg hm n h f = jf_shL s ho hn hg hm 6 0 0 → ∀ ls : Array Slot, lv_has ls 3 [(2, .int (nI (h))), (1, .int (nI (f))), (0, .ref qJ)] → W pr l en { frames := 4, cells := 0, slots := 0, locals := 85 } σ mi ([.ref qJ] : List Value).toArray bel met cd σ.heap [] 0 0 (jr_Q bel [.ref qJ] σ (nI (jf_shL s ho hn hg hm 6 0 0))) (F0 mi 4 ls []) := by
    intro n
    induction n with
    | zero =>
      intro f h hi  ht ls hl
      refine lv_iload_n hx hb dd_J_staleHandles_4 rfl (lv_at hl 0 rfl) ?_
      refine lv_bipush (v := nI 6) hx hb dd_J_staleHandles_5 (by decide) ?_
      refine jl_ge (tgt := 44) hx hb (by omega) (by omega) dd_J_staleHandles_7 (by decide) (fun c_1 => ?_) (fun c_1 => ?_)
      · skip
        refine lv_iload_n hx hb dd_J_staleHandles_44 rfl (lv_at hl 1 rfl) ?_
        exact jr_ret C (by rw [← ht]; first | with_reducible rfl | (simp [jf_shL, c_1]; done)) dd_J_staleHandles_45
      · skip
        exact absurd c_1 (by omega)
    | succ n ih =>
      intro f h hi  ht ls hl
      refine lv_iload_n hx hb dd_J_staleHandles_4 rfl (lv_at hl 0 rfl) ?_
      refine lv_bipush (v := nI 6) hx hb dd_J_staleHandles_5 (by decide) ?_
      refine jl_ge (tgt := 44) hx hb (by omega) (by omega) dd_J_staleHandles_7 (by decide) (fun c_2 => ?_) (fun c_2 => ?_)
      · skip
        exact absurd c_2 (by omega)
      · skip
        refine lv_aload_n hx hb dd_J_staleHandles_10 rfl (lv_at hl 2 rfl) ?_
        refine va_get (D := G) (ci := 3) (v := .ref qH) (C := cn_J) (T := ft_J) (N := 6) hx hb hts uw_J hown hK hP 4 rfl rfl 2 (by decide) (hts _ tw_109) (fun _ h9 => h9) rfl dd_J_staleHandles_11 ?_
        refine lv_iload_n hx hb dd_J_staleHandles_14 rfl (lv_at hl 0 rfl) ?_
        refine jl_hald hx hb hK hP 5 2 rfl rfl (by omega) (by decide) dd_J_staleHandles_15 ?_
        refine va_get (D := G) (ci := 1) (v := .int (nI (ho h))) (C := cn_H) (T := ft_H) (N := 5) hx hb hts uw_H hown hK hP (6 + h) (jh_at (by omega)) rfl 0 (by decide) (hts _ tw_66) (fun _ h9 => h9) rfl dd_J_staleHandles_16 ?_
        have hf_3 : ho h < 2 := (by assumption : jlt 2 ho) _
        refine jl_ifeq (tgt := 38) hx hb (by omega) dd_J_staleHandles_19 (by decide) (fun c_4 => ?_) (fun c_4 => ?_)
        · skip
          refine jl_iinc (lv' := [(2, .int (nI (h + 1))), (1, .int (nI (f))), (0, .ref qJ)]) hx hb dd_J_staleHandles_38 hl (k := 0) rfl (by decide) rfl (fun ls hl => ?_)
          refine lv_goto (tgt := 4) hx hb dd_J_staleHandles_41 (by decide) ?_
          exact ih f (h + 1) (by omega) (by simpa [jf_shL, c_2, c_4] using ht) ls (lv_sub hl [0, 1, 2] rfl)
        · skip
          refine lv_aload_n hx hb dd_J_staleHandles_22 rfl (lv_at hl 2 rfl) ?_
          refine lv_aload_n hx hb dd_J_staleHandles_23 rfl (lv_at hl 2 rfl) ?_
          refine va_get (D := G) (ci := 3) (v := .ref qH) (C := cn_J) (T := ft_J) (N := 6) hx hb hts uw_J hown hK hP 4 rfl rfl 2 (by decide) (hts _ tw_109) (fun _ h9 => h9) rfl dd_J_staleHandles_24 ?_
          refine lv_iload_n hx hb dd_J_staleHandles_27 rfl (lv_at hl 0 rfl) ?_
          refine jl_hald hx hb hK hP 5 2 rfl rfl (by omega) (by decide) dd_J_staleHandles_28 ?_
          refine jr_callV C (ct_J_isStale l G qJ qH qh cH qI qD qS qC cS cC s c ho hn hg hm hp wc wd tf h (by omega) (by first | assumption | (simp only [] ; assumption)) (by assumption) (by assumption) (by assumption) (by assumption) (by assumption)) kl_J_273 ⟨Nat.le_of_ble_eq_true rfl, Nat.le_of_ble_eq_true rfl, rfl, rfl⟩ ⟨Nat.le_of_ble_eq_true rfl, Nat.le_of_ble_eq_true rfl⟩ (hP) (hK) (va_recv hK hP (ci := 3) (q0 := 4) rfl rfl) hl.1 rfl rfl (Nat.le_of_ble_eq_true rfl) dd_J_staleHandles_29 ?_
          have hf_5 : jf_stale s hn hg hm h < 2 := jf_stale_lt _ _ _ _ _
          refine jl_ifeq (tgt := 38) hx hb (by omega) dd_J_staleHandles_32 (by decide) (fun c_6 => ?_) (fun c_6 => ?_)
          · skip
            refine jl_iinc (lv' := [(2, .int (nI (h + 1))), (1, .int (nI (f))), (0, .ref qJ)]) hx hb dd_J_staleHandles_38 hl (k := 0) rfl (by decide) rfl (fun ls hl => ?_)
            refine lv_goto (tgt := 4) hx hb dd_J_staleHandles_41 (by decide) ?_
            exact ih f (h + 1) (by omega) (by simpa [jf_shL, c_2, c_4, c_6] using ht) ls (lv_sub hl [0, 1, 2] rfl)
          · skip
            refine jl_iinc (lv' := [(1, .int (nI (f + 1))), (2, .int (nI (h))), (0, .ref qJ)]) hx hb dd_J_staleHandles_35 hl (k := 1) rfl (by decide) rfl (fun ls hl => ?_)
            refine jl_iinc (lv' := [(2, .int (nI (h + 1))), (1, .int (nI (f + 1))), (0, .ref qJ)]) hx hb dd_J_staleHandles_38 hl (k := 1) rfl (by decide) rfl (fun ls hl => ?_)
            refine lv_goto (tgt := 4) hx hb dd_J_staleHandles_41 (by decide) ?_
            exact ih (f + 1) (h + 1) (by omega) (by simpa [jf_shL, c_2, c_4, c_6] using ht) ls (lv_sub hl [0, 1, 2] rfl)
  exact loop 6 0 0 (by omega) (rfl) ls (lv_sub hl [0, 1, 2] rfl)
set_option maxHeartbeats 4000000 in
set_option maxRecDepth 100000 in
theorem ct_J_openHandle (l : Launch) (G : va_G) (qJ qH : Nat) (qh : Nat → Nat) (cH : ClassId) (qI qD qS qC : Nat) (cS cC : ClassId) (s : Nat → Nat) (c : Nat → Nat) (ho : Nat → Nat) (hn : Nat → Nat) (hg : Nat → Nat) (hm : Nat → Nat) (hp : Nat → Nat) (wc : Nat) (wd : Nat) (tf : Nat) (h : Nat) (i : Nat) (z : Nat) (p : Nat) (hh0 : h < 6) (hi0 : i < 256) (hs : jf_ok s) : jm l yn_J_openHandle (.code yn_J_openHandle cd_J_openHandle 6 (some .int)) { frames := 3, cells := 0, slots := 0, locals := 64 } G (tJ cS cC cH) (wJ qJ qH qh cH qI qD qS qC cS cC s c ho hn hg hm hp wc wd tf) [.ref qJ, .int (nI (h)), .int (nI (i)), .int (nI (z)), .int (nI (p))] (some (.int (nI (h)))) (wJ qJ qH qh cH qI qD qS qC cS cC s c (ju ho h 1) (ju hn h i) (ju hg h (jf_gen s i)) (ju hm h z) (ju hp h p) wc wd tf) := by
  refine jm_of (by decide) (Nat.le_of_ble_eq_true rfl) ?_
  intro pr en σ mi bel met cd ls A hA C hP hK hD hS hl
  have hx := C.1
  have hb := C.2.1
  have hown := C.2.2.2.1
  have hts := C.2.2.2.2.1
  have hl : lv_has ls 6 [(0, .ref qJ), (1, .int (nI (h))), (2, .int (nI (i))), (3, .int (nI (z))), (4, .int (nI (p)))] := hl
  refine lv_aload_n hx hb dd_J_openHandle_0 rfl (lv_at hl 0 rfl) ?_
  refine va_get (D := G) (ci := 3) (v := .ref qH) (C := cn_J) (T := ft_J) (N := 6) hx hb hts uw_J hown hK hP 4 rfl rfl 2 (by decide) (hts _ tw_109) (fun _ h9 => h9) rfl dd_J_openHandle_1 ?_
  refine lv_iload_n hx hb dd_J_openHandle_4 rfl (lv_at hl 1 rfl) ?_
  refine jl_hald hx hb hK hP 5 2 rfl rfl (by omega) (by decide) dd_J_openHandle_5 ?_
  refine lv_astore (lv' := [(5, .ref (qh h)), (0, .ref qJ), (1, .int (nI (h))), (2, .int (nI (i))), (3, .int (nI (z))), (4, .int (nI (p)))]) hx hb dd_J_openHandle_6 hl (by decide) rfl (fun ls hl => ?_)
  refine lv_aload hx hb dd_J_openHandle_8 (lv_at hl 0 rfl) ?_
  refine lv_iconst (v := nI 1) hx hb dd_J_openHandle_10 (by decide) ?_
  refine va_put (D := G) (ci := 1) (v := .int (nI (1))) (ty := .boolean) (C := cn_H) (T := ft_H) (N := 5) hx hb hts uw_H fy_H fo_H fn_H hown hK hP hD hS (6 + h) (jh_at (by omega)) rfl 0 (by decide) (hts _ tw_66) (fun _ h9 => h9) rfl (by decide +kernel) (by decide) (by decide) (Nat.le_of_ble_eq_true rfl) dd_J_openHandle_11 (fun H locs hP hD hS => ?_)
  have hP : va_P G jcl ((wJ qJ qH qh cH qI qD qS qC cS cC s c ho hn hg hm hp wc wd tf).set (6 + h) (qh h, .inr (1, [.int (nI (1)), .int (nI (hn h)), .int (nI (hg h)), .int (nI (hm h)), .int (nI (hp h))]))) H := hP
  have hD : va_D A ((wJ qJ qH qh cH qI qD qS qC cS cC s c ho hn hg hm hp wc wd tf).set (6 + h) (qh h, .inr (1, [.int (nI (1)), .int (nI (hn h)), .int (nI (hg h)), .int (nI (hm h)), .int (nI (hp h))]))) := hD
  rw [jh_set (by omega)] at hP hD
  simp only [ju_same] at hP hD
  have hP : va_P G jcl (wJ qJ qH qh cH qI qD qS qC cS cC s c (ju ho h 1) hn hg hm hp wc wd tf) H := hP
  have hD : va_D A (wJ qJ qH qh cH qI qD qS qC cS cC s c (ju ho h 1) hn hg hm hp wc wd tf) := hD
  refine lv_aload hx hb dd_J_openHandle_14 (lv_at hl 0 rfl) ?_
  refine lv_iload_n hx hb dd_J_openHandle_16 rfl (lv_at hl 3 rfl) ?_
  refine va_put (D := G) (ci := 1) (v := .int (nI (i))) (ty := .int) (C := cn_H) (T := ft_H) (N := 5) hx hb hts uw_H fy_H fo_H fn_H hown hK hP hD hS (6 + h) (jh_at (by omega)) rfl 1 (by decide) (hts _ tw_67) (fun _ h9 => h9) rfl (by decide +kernel) rfl rfl (Nat.le_of_ble_eq_true rfl) dd_J_openHandle_17 (fun H locs hP hD hS => ?_)
  have hP : va_P G jcl ((wJ qJ qH qh cH qI qD qS qC cS cC s c (ju ho h 1) hn hg hm hp wc wd tf).set (6 + h) (qh h, .inr (1, [.int (nI ((ju ho h 1) h)), .int (nI (i)), .int (nI (hg h)), .int (nI (hm h)), .int (nI (hp h))]))) H := hP
  have hD : va_D A ((wJ qJ qH qh cH qI qD qS qC cS cC s c (ju ho h 1) hn hg hm hp wc wd tf).set (6 + h) (qh h, .inr (1, [.int (nI ((ju ho h 1) h)), .int (nI (i)), .int (nI (hg h)), .int (nI (hm h)), .int (nI (hp h))]))) := hD
  rw [jh_set (by omega)] at hP hD
  simp only [ju_same] at hP hD
  have hP : va_P G jcl (wJ qJ qH qh cH qI qD qS qC cS cC s c (ju ho h 1) (ju hn h i) hg hm hp wc wd tf) H := hP
  have hD : va_D A (wJ qJ qH qh cH qI qD qS qC cS cC s c (ju ho h 1) (ju hn h i) hg hm hp wc wd tf) := hD
  refine lv_aload hx hb dd_J_openHandle_20 (lv_at hl 0 rfl) ?_
  refine lv_aload_n hx hb dd_J_openHandle_22 rfl (lv_at hl 1 rfl) ?_
  refine va_get (D := G) (ci := 3) (v := .ref qI) (C := cn_J) (T := ft_J) (N := 6) hx hb hts uw_J hown hK hP 4 rfl rfl 1 (by decide) (hts _ tw_108) (fun _ h9 => h9) rfl dd_J_openHandle_23 ?_
  refine lv_iload_n hx hb dd_J_openHandle_26 rfl (lv_at hl 3 rfl) ?_
  refine jr_callV C (ct_I_generation l G qI qD qS qC cS cC s c i (by omega) (by first | assumption | (simp only [] ; assumption))) kl_J_191 ⟨Nat.le_of_ble_eq_true rfl, Nat.le_of_ble_eq_true rfl, rfl, rfl⟩ ⟨Nat.le_of_ble_eq_true rfl, Nat.le_of_ble_eq_true rfl⟩ (jw_left hP) (hK.sub [0, 1] rfl) (va_recv hK hP (ci := 2) (q0 := 3) rfl rfl) hl.1 rfl rfl (Nat.le_of_ble_eq_true rfl) dd_J_openHandle_27 ?_
  have hf_1 : jf_gen s i < 256 := jf_get_lt (by assumption) _
  refine va_put (D := G) (ci := 1) (v := .int (nI (jf_gen s i))) (ty := .int) (C := cn_H) (T := ft_H) (N := 5) hx hb hts uw_H fy_H fo_H fn_H hown hK hP hD hS (6 + h) (jh_at (by omega)) rfl 2 (by decide) (hts _ tw_68) (fun _ h9 => h9) rfl (by decide +kernel) rfl rfl (Nat.le_of_ble_eq_true rfl) dd_J_openHandle_30 (fun H locs hP hD hS => ?_)
  have hP : va_P G jcl ((wJ qJ qH qh cH qI qD qS qC cS cC s c (ju ho h 1) (ju hn h i) hg hm hp wc wd tf).set (6 + h) (qh h, .inr (1, [.int (nI ((ju ho h 1) h)), .int (nI ((ju hn h i) h)), .int (nI (jf_gen s i)), .int (nI (hm h)), .int (nI (hp h))]))) H := hP
  have hD : va_D A ((wJ qJ qH qh cH qI qD qS qC cS cC s c (ju ho h 1) (ju hn h i) hg hm hp wc wd tf).set (6 + h) (qh h, .inr (1, [.int (nI ((ju ho h 1) h)), .int (nI ((ju hn h i) h)), .int (nI (jf_gen s i)), .int (nI (hm h)), .int (nI (hp h))]))) := hD
  rw [jh_set (by omega)] at hP hD
  simp only [ju_same] at hP hD
  have hP : va_P G jcl (wJ qJ qH qh cH qI qD qS qC cS cC s c (ju ho h 1) (ju hn h i) (ju hg h (jf_gen s i)) hm hp wc wd tf) H := hP
  have hD : va_D A (wJ qJ qH qh cH qI qD qS qC cS cC s c (ju ho h 1) (ju hn h i) (ju hg h (jf_gen s i)) hm hp wc wd tf) := hD
  refine lv_aload hx hb dd_J_openHandle_33 (lv_at hl 0 rfl) ?_
  refine lv_iload_n hx hb dd_J_openHandle_35 rfl (lv_at hl 4 rfl) ?_
  refine va_put (D := G) (ci := 1) (v := .int (nI (z))) (ty := .int) (C := cn_H) (T := ft_H) (N := 5) hx hb hts uw_H fy_H fo_H fn_H hown hK hP hD hS (6 + h) (jh_at (by omega)) rfl 3 (by decide) (hts _ tw_69) (fun _ h9 => h9) rfl (by decide +kernel) rfl rfl (Nat.le_of_ble_eq_true rfl) dd_J_openHandle_36 (fun H locs hP hD hS => ?_)
  have hP : va_P G jcl ((wJ qJ qH qh cH qI qD qS qC cS cC s c (ju ho h 1) (ju hn h i) (ju hg h (jf_gen s i)) hm hp wc wd tf).set (6 + h) (qh h, .inr (1, [.int (nI ((ju ho h 1) h)), .int (nI ((ju hn h i) h)), .int (nI ((ju hg h (jf_gen s i)) h)), .int (nI (z)), .int (nI (hp h))]))) H := hP
  have hD : va_D A ((wJ qJ qH qh cH qI qD qS qC cS cC s c (ju ho h 1) (ju hn h i) (ju hg h (jf_gen s i)) hm hp wc wd tf).set (6 + h) (qh h, .inr (1, [.int (nI ((ju ho h 1) h)), .int (nI ((ju hn h i) h)), .int (nI ((ju hg h (jf_gen s i)) h)), .int (nI (z)), .int (nI (hp h))]))) := hD
  rw [jh_set (by omega)] at hP hD
  simp only [ju_same] at hP hD
  have hP : va_P G jcl (wJ qJ qH qh cH qI qD qS qC cS cC s c (ju ho h 1) (ju hn h i) (ju hg h (jf_gen s i)) (ju hm h z) hp wc wd tf) H := hP
  have hD : va_D A (wJ qJ qH qh cH qI qD qS qC cS cC s c (ju ho h 1) (ju hn h i) (ju hg h (jf_gen s i)) (ju hm h z) hp wc wd tf) := hD
  refine lv_aload hx hb dd_J_openHandle_39 (lv_at hl 0 rfl) ?_
  refine lv_iload hx hb dd_J_openHandle_41 (lv_at hl 5 rfl) ?_
  refine va_put (D := G) (ci := 1) (v := .int (nI (p))) (ty := .int) (C := cn_H) (T := ft_H) (N := 5) hx hb hts uw_H fy_H fo_H fn_H hown hK hP hD hS (6 + h) (jh_at (by omega)) rfl 4 (by decide) (hts _ tw_70) (fun _ h9 => h9) rfl (by decide +kernel) rfl rfl (Nat.le_of_ble_eq_true rfl) dd_J_openHandle_43 (fun H locs hP hD hS => ?_)
  have hP : va_P G jcl ((wJ qJ qH qh cH qI qD qS qC cS cC s c (ju ho h 1) (ju hn h i) (ju hg h (jf_gen s i)) (ju hm h z) hp wc wd tf).set (6 + h) (qh h, .inr (1, [.int (nI ((ju ho h 1) h)), .int (nI ((ju hn h i) h)), .int (nI ((ju hg h (jf_gen s i)) h)), .int (nI ((ju hm h z) h)), .int (nI (p))]))) H := hP
  have hD : va_D A ((wJ qJ qH qh cH qI qD qS qC cS cC s c (ju ho h 1) (ju hn h i) (ju hg h (jf_gen s i)) (ju hm h z) hp wc wd tf).set (6 + h) (qh h, .inr (1, [.int (nI ((ju ho h 1) h)), .int (nI ((ju hn h i) h)), .int (nI ((ju hg h (jf_gen s i)) h)), .int (nI ((ju hm h z) h)), .int (nI (p))]))) := hD
  rw [jh_set (by omega)] at hP hD
  simp only [ju_same] at hP hD
  have hP : va_P G jcl (wJ qJ qH qh cH qI qD qS qC cS cC s c (ju ho h 1) (ju hn h i) (ju hg h (jf_gen s i)) (ju hm h z) (ju hp h p) wc wd tf) H := hP
  have hD : va_D A (wJ qJ qH qh cH qI qD qS qC cS cC s c (ju ho h 1) (ju hn h i) (ju hg h (jf_gen s i)) (ju hm h z) (ju hp h p) wc wd tf) := hD
  refine lv_iload_n hx hb dd_J_openHandle_46 rfl (lv_at hl 2 rfl) ?_
  exact jm_reti C (by first | with_reducible rfl | (simp []; done)) hP hD hK hS ⟨Nat.le_of_ble_eq_true rfl, Nat.le_of_ble_eq_true rfl⟩ dd_J_openHandle_47
set_option maxHeartbeats 4000000 in
set_option maxRecDepth 100000 in
theorem ct_J_losePower (l : Launch) (G : va_G) (qJ qH : Nat) (qh : Nat → Nat) (cH : ClassId) (qI qD qS qC : Nat) (cS cC : ClassId) (s : Nat → Nat) (c : Nat → Nat) (ho : Nat → Nat) (hn : Nat → Nat) (hg : Nat → Nat) (hm : Nat → Nat) (hp : Nat → Nat) (wc : Nat) (wd : Nat) (tf : Nat)  (ht0 : tf < 1000000) (hs : jf_ok s) (hc : jf_ok c) : jm l yn_J_losePower (.code yn_J_losePower cd_J_losePower 2 none) { frames := 2, cells := 0, slots := 0, locals := 60 } G (tJ cS cC cH) (wJ qJ qH qh cH qI qD qS qC cS cC s c ho hn hg hm hp wc wd tf) [.ref qJ] none (wJ qJ qH qh cH qI qD qS qC cS cC (jf_cpy c s) c (jf_lpL 6 0 ho) hn hg hm hp wc wd (tf + 1)) := by
  refine jm_of (by decide) (Nat.le_of_ble_eq_true rfl) ?_
  intro pr en σ mi bel met cd ls A hA C hP hK hD hS hl
  have hx := C.1
  have hb := C.2.1
  have hown := C.2.2.2.1
  have hts := C.2.2.2.2.1
  have hl : lv_has ls 2 [(0, .ref qJ)] := hl
  refine lv_aload_n hx hb dd_J_losePower_0 rfl (lv_at hl 0 rfl) ?_
  refine va_get (D := G) (ci := 3) (v := .ref qD) (C := cn_J) (T := ft_J) (N := 6) hx hb hts uw_J hown hK hP 4 rfl rfl 0 (by decide) (hts _ tw_107) (fun _ h9 => h9) rfl dd_J_losePower_1 ?_
  refine jm_callV (wr := ((qI, .inr (2, [.ref qD])) :: [(qJ, .inr (3, [.ref qD, .ref qI, .ref qH, .int (nI wc), .int (nI wd), .int (nI tf)])), (qH, .inl (cH, 6, .inr (.inr (.inr (.inr (fun k => some (qh k))))))), jh qh ho hn hg hm hp 0, jh qh ho hn hg hm hp 1, jh qh ho hn hg hm hp 2, jh qh ho hn hg hm hp 3, jh qh ho hn hg hm hp 4, jh qh ho hn hg hm hp 5])) C (ct_D_goBack l G qD qS qC cS cC s c  ) kl_J_279 ⟨Nat.le_of_ble_eq_true rfl, Nat.le_of_ble_eq_true rfl⟩ ⟨Nat.le_of_ble_eq_true rfl, Nat.le_of_ble_eq_true rfl⟩ hP hD hS hA (hK.sub [0, 1] rfl) (va_recv hK hP (ci := 0) (q0 := 0) rfl rfl) hl.1 rfl rfl (Nat.le_of_ble_eq_true rfl) dd_J_losePower_4 (fun H locs hP hD hS => ?_)
  have hP : va_P G jcl (wJ qJ qH qh cH qI qD qS qC cS cC (jf_cpy c s) c ho hn hg hm hp wc wd tf) H := hP
  have hD : va_D A (wJ qJ qH qh cH qI qD qS qC cS cC (jf_cpy c s) c ho hn hg hm hp wc wd tf) := hD
  have hf_1 : jf_ok (jf_cpy c s) := jf_cpy_ok (by assumption) (by assumption)
  refine lv_iconst (v := nI 0) hx hb dd_J_losePower_7 (by decide) ?_
  refine lv_istore_n (lv' := [(1, .int (nI (0))), (0, .ref qJ)]) hx hb dd_J_losePower_8 rfl hl (by decide) rfl (fun ls hl => ?_)
  have loop : ∀ (n : Nat) (h : Nat) (ho9 : Nat → Nat), (h + n = 6) → jf_lpL n h ho9 = jf_lpL 6 0 ho → ∀ (H : Heap) (locs : List Loc), va_P G jcl (wJ qJ qH qh cH qI qD qS qC cS cC (jf_cpy c s) c ho9 hn hg hm hp wc wd tf) H → va_D A (wJ qJ qH qh cH qI qD qS qC cS cC (jf_cpy c s) c ho9 hn hg hm hp wc wd tf) → va_S A σ.heap H locs → ∀ ls : Array Slot, lv_has ls 2 [(1, .int (nI (h))), (0, .ref qJ)] → W pr l en { frames := 2, cells := 0, slots := 0, locals := 60 } σ mi ([.ref qJ] : List Value).toArray bel met cd H locs 0 0 (jm_Q bel { frames := 2, cells := 0, slots := 0, locals := 60 } G (tJ cS cC cH) A [.ref qJ] σ none (wJ qJ qH qh cH qI qD qS qC cS cC (jf_cpy c s) c (jf_lpL 6 0 ho) hn hg hm hp wc wd (tf + 1))) (F0 mi 9 ls []) := by
    intro n
    induction n with
    | zero =>
      intro h ho9 hi  ht H locs hP hD hS ls hl
      refine lv_iload_n hx hb dd_J_losePower_9 rfl (lv_at hl 0 rfl) ?_
      refine lv_bipush (v := nI 6) hx hb dd_J_losePower_10 (by decide) ?_
      refine jl_ge (tgt := 31) hx hb (by omega) (by omega) dd_J_losePower_12 (by decide) (fun c_2 => ?_) (fun c_2 => ?_)
      · skip
        refine lv_aload_n hx hb dd_J_losePower_31 rfl (lv_at hl 1 rfl) ?_
        refine lv_dup hx hb dd_J_losePower_32 rfl ?_
        refine va_get (D := G) (ci := 3) (v := .int (nI (tf))) (C := cn_J) (T := ft_J) (N := 6) hx hb hts uw_J hown hK hP 4 rfl rfl 5 (by decide) (hts _ tw_112) (fun _ h9 => h9) rfl dd_J_losePower_33 ?_
        refine lv_iconst (v := nI 1) hx hb dd_J_losePower_36 (by decide) ?_
        refine jl_iadd hx hb dd_J_losePower_37 ?_
        refine va_put (D := G) (ci := 3) (v := .int (nI (tf + 1))) (ty := .int) (C := cn_J) (T := ft_J) (N := 6) hx hb hts uw_J fy_J fo_J fn_J hown hK hP hD hS 4 rfl rfl 5 (by decide) (hts _ tw_112) (fun _ h9 => h9) rfl (by decide +kernel) rfl rfl (Nat.le_of_ble_eq_true rfl) dd_J_losePower_38 (fun H locs hP hD hS => ?_)
        have hP : va_P G jcl (wJ qJ qH qh cH qI qD qS qC cS cC (jf_cpy c s) c ho9 hn hg hm hp wc wd (tf + 1)) H := hP
        have hD : va_D A (wJ qJ qH qh cH qI qD qS qC cS cC (jf_cpy c s) c ho9 hn hg hm hp wc wd (tf + 1)) := hD
        have he : wJ qJ qH qh cH qI qD qS qC cS cC (jf_cpy c s) c ho9 hn hg hm hp wc wd (tf + 1) = wJ qJ qH qh cH qI qD qS qC cS cC (jf_cpy c s) c (jf_lpL 6 0 ho) hn hg hm hp wc wd (tf + 1) := by rw [← ht]; first | with_reducible rfl | (simp [jf_lpL, c_2]; done)
        rw [he] at hP hD
        exact jm_retv C hP hD hK hS ⟨Nat.le_of_ble_eq_true rfl, Nat.le_of_ble_eq_true rfl⟩ dd_J_losePower_41
      · skip
        exact absurd c_2 (by omega)
    | succ n ih =>
      intro h ho9 hi  ht H locs hP hD hS ls hl
      refine lv_iload_n hx hb dd_J_losePower_9 rfl (lv_at hl 0 rfl) ?_
      refine lv_bipush (v := nI 6) hx hb dd_J_losePower_10 (by decide) ?_
      refine jl_ge (tgt := 31) hx hb (by omega) (by omega) dd_J_losePower_12 (by decide) (fun c_3 => ?_) (fun c_3 => ?_)
      · skip
        exact absurd c_3 (by omega)
      · skip
        refine lv_aload_n hx hb dd_J_losePower_15 rfl (lv_at hl 1 rfl) ?_
        refine va_get (D := G) (ci := 3) (v := .ref qH) (C := cn_J) (T := ft_J) (N := 6) hx hb hts uw_J hown hK hP 4 rfl rfl 2 (by decide) (hts _ tw_109) (fun _ h9 => h9) rfl dd_J_losePower_16 ?_
        refine lv_iload_n hx hb dd_J_losePower_19 rfl (lv_at hl 0 rfl) ?_
        refine jl_hald hx hb hK hP 5 2 rfl rfl (by omega) (by decide) dd_J_losePower_20 ?_
        refine lv_iconst (v := nI 0) hx hb dd_J_losePower_21 (by decide) ?_
        refine va_put (D := G) (ci := 1) (v := .int (nI (0))) (ty := .boolean) (C := cn_H) (T := ft_H) (N := 5) hx hb hts uw_H fy_H fo_H fn_H hown hK hP hD hS (6 + h) (jh_at (by omega)) rfl 0 (by decide) (hts _ tw_66) (fun _ h9 => h9) rfl (by decide +kernel) (by decide) (by decide) (Nat.le_of_ble_eq_true rfl) dd_J_losePower_22 (fun H locs hP hD hS => ?_)
        have hP : va_P G jcl ((wJ qJ qH qh cH qI qD qS qC cS cC (jf_cpy c s) c ho9 hn hg hm hp wc wd tf).set (6 + h) (qh h, .inr (1, [.int (nI (0)), .int (nI (hn h)), .int (nI (hg h)), .int (nI (hm h)), .int (nI (hp h))]))) H := hP
        have hD : va_D A ((wJ qJ qH qh cH qI qD qS qC cS cC (jf_cpy c s) c ho9 hn hg hm hp wc wd tf).set (6 + h) (qh h, .inr (1, [.int (nI (0)), .int (nI (hn h)), .int (nI (hg h)), .int (nI (hm h)), .int (nI (hp h))]))) := hD
        rw [jh_set (by omega)] at hP hD
        simp only [ju_same] at hP hD
        have hP : va_P G jcl (wJ qJ qH qh cH qI qD qS qC cS cC (jf_cpy c s) c (ju ho9 h 0) hn hg hm hp wc wd tf) H := hP
        have hD : va_D A (wJ qJ qH qh cH qI qD qS qC cS cC (jf_cpy c s) c (ju ho9 h 0) hn hg hm hp wc wd tf) := hD
        refine jl_iinc (lv' := [(1, .int (nI (h + 1))), (0, .ref qJ)]) hx hb dd_J_losePower_25 hl (k := 0) rfl (by decide) rfl (fun ls hl => ?_)
        refine lv_goto (tgt := 9) hx hb dd_J_losePower_28 (by decide) ?_
        exact ih (h + 1) (ju ho9 h 0) (by omega) (ht) _ _ hP hD hS ls (lv_sub hl [0, 1] rfl)
  exact loop 6 0 ho (by omega) (rfl) _ _ hP hD hS ls (lv_sub hl [0, 1] rfl)
set_option maxHeartbeats 4000000 in
set_option maxRecDepth 100000 in
theorem ct_J_crash (l : Launch) (G : va_G) (qJ qH : Nat) (qh : Nat → Nat) (cH : ClassId) (qI qD qS qC : Nat) (cS cC : ClassId) (s : Nat → Nat) (c : Nat → Nat) (ho : Nat → Nat) (hn : Nat → Nat) (hg : Nat → Nat) (hm : Nat → Nat) (hp : Nat → Nat) (wc : Nat) (wd : Nat) (tf : Nat)  (ht0 : tf < 1000000) (hs : jf_ok s) (hc : jf_ok c) : jm l yn_J_crash (.code yn_J_crash cd_J_crash 1 none) { frames := 3, cells := 0, slots := 0, locals := 81 } G (tJ cS cC cH) (wJ qJ qH qh cH qI qD qS qC cS cC s c ho hn hg hm hp wc wd tf) [.ref qJ] none (wJ qJ qH qh cH qI qD qS qC cS cC (jf_cpy c s) c (jf_lpL 6 0 ho) hn hg hm hp wc wd (tf + 1)) := by
  refine jm_of (by decide) (Nat.le_of_ble_eq_true rfl) ?_
  intro pr en σ mi bel met cd ls A hA C hP hK hD hS hl
  have hx := C.1
  have hb := C.2.1
  have hown := C.2.2.2.1
  have hts := C.2.2.2.2.1
  have hl : lv_has ls 1 [(0, .ref qJ)] := hl
  refine lv_aload_n hx hb dd_J_crash_0 rfl (lv_at hl 0 rfl) ?_
  refine jm_callV (wr := []) C (ct_J_losePower l G qJ qH qh cH qI qD qS qC cS cC s c ho hn hg hm hp wc wd tf  (by omega) (by first | assumption | (simp only [] ; assumption)) (by first | assumption | (simp only [] ; assumption))) kl_J_203 ⟨Nat.le_of_ble_eq_true rfl, Nat.le_of_ble_eq_true rfl⟩ ⟨Nat.le_of_ble_eq_true rfl, Nat.le_of_ble_eq_true rfl⟩ hP hD hS hA (hK) (va_recv hK hP (ci := 3) (q0 := 4) rfl rfl) hl.1 rfl rfl (Nat.le_of_ble_eq_true rfl) dd_J_crash_1 (fun H locs hP hD hS => ?_)
  have hP : va_P G jcl (wJ qJ qH qh cH qI qD qS qC cS cC (jf_cpy c s) c (jf_lpL 6 0 ho) hn hg hm hp wc wd (tf + 1)) H := hP
  have hD : va_D A (wJ qJ qH qh cH qI qD qS qC cS cC (jf_cpy c s) c (jf_lpL 6 0 ho) hn hg hm hp wc wd (tf + 1)) := hD
  exact jm_retv C hP hD hK hS ⟨Nat.le_of_ble_eq_true rfl, Nat.le_of_ble_eq_true rfl⟩ dd_J_crash_4
set_option maxHeartbeats 4000000 in
set_option maxRecDepth 100000 in
theorem ct_J_checkMove (l : Launch) (hl9 : l.stackTraces = false) (G : va_G) (qJ qH : Nat) (qh : Nat → Nat) (cH : ClassId) (qI qD qS qC : Nat) (cS cC : ClassId) (s : Nat → Nat) (c : Nat → Nat) (ho : Nat → Nat) (hn : Nat → Nat) (hg : Nat → Nat) (hm : Nat → Nat) (hp : Nat → Nat) (wc : Nat) (wd : Nat) (tf : Nat) (u : Nat) (v : Nat) (r : Nat) (rep : Option Nat) (hu0 : u < 4294967296) (hv0 : v < 4294967296) (hr0 : r < 256) (hrep : ∀ j, rep = some j → j < 256) (hs : jf_ok s) : jt l yn_J_checkMove (.code yn_J_checkMove cd_J_checkMove 5 none) { frames := 6, cells := 1, slots := 6, locals := 90 } G (tJ cS cC cH) (wJ qJ qH qh cH qI qD qS qC cS cC s c ho hn hg hm hp wc wd tf) [.ref qJ, .int (nI (u)), .int (nI (v)), .int (nI (r)), .int (jo (rep))] (fun o w => (jf_mvT s u v r rep) = 0 ∧ o = none ∧ w = (wJ qJ qH qh cH qI qD qS qC cS cC s c ho hn hg hm hp wc wd tf)) (fun E w => ¬ (jf_mvT s u v r rep) = 0 ∧ E = jex (jf_mvT s u v r rep) ∧ w = (wJ qJ qH qh cH qI qD qS qC cS cC s c ho hn hg hm hp wc wd tf)) := by
  refine jt_of (by decide) (Nat.le_of_ble_eq_true rfl) ?_
  intro pr en σ mi bel met cd ls A hA C htb hz hP hK hD hS hl
  have hx := C.1
  have hb := C.2.1
  have hown := C.2.2.2.1
  have hts := C.2.2.2.2.1
  have hl : lv_has ls 5 [(0, .ref qJ), (1, .int (nI (u))), (2, .int (nI (v))), (3, .int (nI (r))), (4, .int (jo (rep)))] := hl
  refine lv_iload_n hx hb dd_J_checkMove_0 rfl (lv_at hl 1 rfl) ?_
  refine jl_ifeq32 (tgt := 16) hx hb (by omega) dd_J_checkMove_1 (by decide) (fun c_1 => ?_) (fun c_1 => ?_)
  · skip
    exact tt_ISEW (is := 262) (text := "the root, or onto or below itself") hl9 htb C hz (by decide +kernel) ⟨by first | (simp [jf_mvT, c_1, jex]; done), by first | (simp [jf_mvT, c_1, jex]; done), rfl⟩ hP hD hK hS hl.1 dd_J_checkMove_16 dd_J_checkMove_19 dd_J_checkMove_20 dd_J_checkMove_23 dd_J_checkMove_26 ⟨Nat.le_of_ble_eq_true rfl, Nat.le_of_ble_eq_true rfl, Nat.le_of_ble_eq_true rfl, Nat.le_of_ble_eq_true rfl⟩ ⟨Nat.le_of_ble_eq_true rfl, Nat.le_of_ble_eq_true rfl⟩
  · skip
    refine lv_iload_n hx hb dd_J_checkMove_4 rfl (lv_at hl 2 rfl) ?_
    refine jl_ifeq32 (tgt := 16) hx hb (by omega) dd_J_checkMove_5 (by decide) (fun c_2 => ?_) (fun c_2 => ?_)
    · skip
      exact tt_ISEW (is := 262) (text := "the root, or onto or below itself") hl9 htb C hz (by decide +kernel) ⟨by first | (simp [jf_mvT, c_1, c_2, jex]; done), by first | (simp [jf_mvT, c_1, c_2, jex]; done), rfl⟩ hP hD hK hS hl.1 dd_J_checkMove_16 dd_J_checkMove_19 dd_J_checkMove_20 dd_J_checkMove_23 dd_J_checkMove_26 ⟨Nat.le_of_ble_eq_true rfl, Nat.le_of_ble_eq_true rfl, Nat.le_of_ble_eq_true rfl, Nat.le_of_ble_eq_true rfl⟩ ⟨Nat.le_of_ble_eq_true rfl, Nat.le_of_ble_eq_true rfl⟩
    · skip
      refine lv_iload_n hx hb dd_J_checkMove_8 rfl (lv_at hl 2 rfl) ?_
      refine lv_iload_n hx hb dd_J_checkMove_9 rfl (lv_at hl 1 rfl) ?_
      refine jr_callS0 C (ct_J_isAtOrBelow l G v u (by omega) (by omega)) kl_J_259 ⟨Nat.le_of_ble_eq_true rfl, Nat.le_of_ble_eq_true rfl, rfl, rfl⟩ ⟨Nat.le_of_ble_eq_true rfl, Nat.le_of_ble_eq_true rfl⟩ hK hl.1 rfl rfl (Nat.le_of_ble_eq_true rfl) dd_J_checkMove_10 ?_
      have hf_3 : jf_below v u < 2 := jf_abL_lt _ _ _
      refine jl_ifeq (tgt := 27) hx hb (by omega) dd_J_checkMove_13 (by decide) (fun c_4 => ?_) (fun c_4 => ?_)
      · skip
        refine lv_iload hx hb dd_J_checkMove_27 (lv_at hl 4 rfl) ?_
        refine lv_iconst (v := -1) hx hb dd_J_checkMove_29 (by decide) ?_
        refine jl_neO (tgt := 34) hx hb (fun j h => Nat.lt_of_lt_of_le (hrep _ h) (by omega)) dd_J_checkMove_30 (by decide) (fun j_6 hj_6 => ?_) (fun hj_6 => ?_)
        · skip
          have ho_7 := hrep _ hj_6
          have hl : lv_has ls 5 [(0, .ref qJ), (1, .int (nI (u))), (2, .int (nI (v))), (3, .int (nI (r))), (4, .int (nI (j_6)))] := by rw [hj_6] at hl; exact hl
          refine lv_aload_n hx hb dd_J_checkMove_34 rfl (lv_at hl 0 rfl) ?_
          refine va_get (D := G) (ci := 3) (v := .ref qI) (C := cn_J) (T := ft_J) (N := 6) hx hb hts uw_J hown hK hP 4 rfl rfl 1 (by decide) (hts _ tw_108) (fun _ h9 => h9) rfl dd_J_checkMove_35 ?_
          refine lv_iload_n hx hb dd_J_checkMove_38 rfl (lv_at hl 3 rfl) ?_
          refine jr_callV C (ct_I_kind l G qI qD qS qC cS cC s c r (by omega) (by first | assumption | (simp only [] ; assumption))) kl_J_85 ⟨Nat.le_of_ble_eq_true rfl, Nat.le_of_ble_eq_true rfl, rfl, rfl⟩ ⟨Nat.le_of_ble_eq_true rfl, Nat.le_of_ble_eq_true rfl⟩ (jw_left hP) (hK.sub [0, 1] rfl) (va_recv hK hP (ci := 2) (q0 := 3) rfl rfl) hl.1 rfl rfl (Nat.le_of_ble_eq_true rfl) dd_J_checkMove_39 ?_
          have hf_8 : jf_kind s r < 256 := jf_get_lt (by assumption) _
          refine lv_iconst (v := nI 1) hx hb dd_J_checkMove_42 (by decide) ?_
          refine jl_ne (tgt := 59) hx hb (by omega) (by omega) dd_J_checkMove_43 (by decide) (fun c_9 => ?_) (fun c_9 => ?_)
          · skip
            exact tt_ISEW (is := 264) (text := "only a file takes a file's place") hl9 htb C hz (by decide +kernel) ⟨by first | (simp [jf_mvT, c_1, c_2, c_4, hj_6, c_9, jex]; done), by first | (simp [jf_mvT, c_1, c_2, c_4, hj_6, c_9, jex]; done), rfl⟩ hP hD hK hS hl.1 dd_J_checkMove_59 dd_J_checkMove_62 dd_J_checkMove_63 dd_J_checkMove_66 dd_J_checkMove_69 ⟨Nat.le_of_ble_eq_true rfl, Nat.le_of_ble_eq_true rfl, Nat.le_of_ble_eq_true rfl, Nat.le_of_ble_eq_true rfl⟩ ⟨Nat.le_of_ble_eq_true rfl, Nat.le_of_ble_eq_true rfl⟩
          · skip
            refine lv_aload_n hx hb dd_J_checkMove_46 rfl (lv_at hl 0 rfl) ?_
            refine va_get (D := G) (ci := 3) (v := .ref qI) (C := cn_J) (T := ft_J) (N := 6) hx hb hts uw_J hown hK hP 4 rfl rfl 1 (by decide) (hts _ tw_108) (fun _ h9 => h9) rfl dd_J_checkMove_47 ?_
            refine lv_iload hx hb dd_J_checkMove_50 (lv_at hl 4 rfl) ?_
            refine jr_callV C (ct_I_kind l G qI qD qS qC cS cC s c j_6 (by omega) (by first | assumption | (simp only [] ; assumption))) kl_J_85 ⟨Nat.le_of_ble_eq_true rfl, Nat.le_of_ble_eq_true rfl, rfl, rfl⟩ ⟨Nat.le_of_ble_eq_true rfl, Nat.le_of_ble_eq_true rfl⟩ (jw_left hP) (hK.sub [0, 1] rfl) (va_recv hK hP (ci := 2) (q0 := 3) rfl rfl) hl.1 rfl rfl (Nat.le_of_ble_eq_true rfl) dd_J_checkMove_52 ?_
            have hf_10 : jf_kind s j_6 < 256 := jf_get_lt (by assumption) _
            refine lv_iconst (v := nI 1) hx hb dd_J_checkMove_55 (by decide) ?_
            refine jl_eq (tgt := 70) hx hb (by omega) (by omega) dd_J_checkMove_56 (by decide) (fun c_11 => ?_) (fun c_11 => ?_)
            · skip
              exact jt_retv C ⟨by first | (simp [jf_mvT, c_1, c_2, c_4, hj_6, c_9, c_11]; done), rfl, rfl⟩ hP hD hK hS ⟨Nat.le_of_ble_eq_true rfl, Nat.le_of_ble_eq_true rfl⟩ dd_J_checkMove_70
            · skip
              exact tt_ISEW (is := 264) (text := "only a file takes a file's place") hl9 htb C hz (by decide +kernel) ⟨by first | (simp [jf_mvT, c_1, c_2, c_4, hj_6, c_9, c_11, jex]; done), by first | (simp [jf_mvT, c_1, c_2, c_4, hj_6, c_9, c_11, jex]; done), rfl⟩ hP hD hK hS hl.1 dd_J_checkMove_59 dd_J_checkMove_62 dd_J_checkMove_63 dd_J_checkMove_66 dd_J_checkMove_69 ⟨Nat.le_of_ble_eq_true rfl, Nat.le_of_ble_eq_true rfl, Nat.le_of_ble_eq_true rfl, Nat.le_of_ble_eq_true rfl⟩ ⟨Nat.le_of_ble_eq_true rfl, Nat.le_of_ble_eq_true rfl⟩
        · skip
          exact jt_retv C ⟨by first | (simp [jf_mvT, c_1, c_2, c_4, hj_6]; done), rfl, rfl⟩ hP hD hK hS ⟨Nat.le_of_ble_eq_true rfl, Nat.le_of_ble_eq_true rfl⟩ dd_J_checkMove_33
      · skip
        exact tt_ISEW (is := 262) (text := "the root, or onto or below itself") hl9 htb C hz (by decide +kernel) ⟨by first | (simp [jf_mvT, c_1, c_2, c_4, jex]; done), by first | (simp [jf_mvT, c_1, c_2, c_4, jex]; done), rfl⟩ hP hD hK hS hl.1 dd_J_checkMove_16 dd_J_checkMove_19 dd_J_checkMove_20 dd_J_checkMove_23 dd_J_checkMove_26 ⟨Nat.le_of_ble_eq_true rfl, Nat.le_of_ble_eq_true rfl, Nat.le_of_ble_eq_true rfl, Nat.le_of_ble_eq_true rfl⟩ ⟨Nat.le_of_ble_eq_true rfl, Nat.le_of_ble_eq_true rfl⟩
set_option maxHeartbeats 4000000 in
set_option maxRecDepth 100000 in
theorem ct_J_hasRoomAfterLeaving (l : Launch) (G : va_G) (qJ qH : Nat) (qh : Nat → Nat) (cH : ClassId) (qI qD qS qC : Nat) (cS cC : ClassId) (s : Nat → Nat) (c : Nat → Nat) (ho : Nat → Nat) (hn : Nat → Nat) (hg : Nat → Nat) (hm : Nat → Nat) (hp : Nat → Nat) (wc : Nat) (wd : Nat) (tf : Nat) (a : Nat) (b : Nat) (ha0 : a < 256) (hb0 : b < 256) (he0 : 1 ≤ jf_entries s a) (hs : jf_ok s) : jr l yn_J_hasRoomAfterLeaving (.code yn_J_hasRoomAfterLeaving cd_J_hasRoomAfterLeaving 6 (some .boolean)) { frames := 4, cells := 0, slots := 0, locals := 85 } G (tJ cS cC cH) (wJ qJ qH qh cH qI qD qS qC cS cC s c ho hn hg hm hp wc wd tf) [.ref qJ, .int (nI (a)), .int (nI (b))] (nI (jf_hral s a b)) := by
  refine jr_of (by decide) (Nat.le_of_ble_eq_true rfl) ?_
  intro pr en σ mi bel met cd ls C hP hK hl
  have hx := C.1
  have hb := C.2.1
  have hown := C.2.2.2.1
  have hts := C.2.2.2.2.1
  have hl : lv_has ls 6 [(0, .ref qJ), (1, .int (nI (a))), (2, .int (nI (b)))] := hl
  refine lv_aload_n hx hb dd_J_hasRoomAfterLeaving_0 rfl (lv_at hl 0 rfl) ?_
  refine va_get (D := G) (ci := 3) (v := .ref qI) (C := cn_J) (T := ft_J) (N := 6) hx hb hts uw_J hown hK hP 4 rfl rfl 1 (by decide) (hts _ tw_108) (fun _ h9 => h9) rfl dd_J_hasRoomAfterLeaving_1 ?_
  refine lv_iload_n hx hb dd_J_hasRoomAfterLeaving_4 rfl (lv_at hl 1 rfl) ?_
  refine jr_callV C (ct_I_entries l G qI qD qS qC cS cC s c a (by omega) (by first | assumption | (simp only [] ; assumption))) kl_J_148 ⟨Nat.le_of_ble_eq_true rfl, Nat.le_of_ble_eq_true rfl, rfl, rfl⟩ ⟨Nat.le_of_ble_eq_true rfl, Nat.le_of_ble_eq_true rfl⟩ (jw_left hP) (hK.sub [0, 1] rfl) (va_recv hK hP (ci := 2) (q0 := 3) rfl rfl) hl.1 rfl rfl (Nat.le_of_ble_eq_true rfl) dd_J_hasRoomAfterLeaving_5 ?_
  have hf_1 : jf_entries s a < 128 := jf_entries_lt (by assumption) _
  refine lv_iconst (v := nI 1) hx hb dd_J_hasRoomAfterLeaving_8 (by decide) ?_
  refine jl_isub hx hb (by omega) dd_J_hasRoomAfterLeaving_9 ?_
  refine lv_istore_n (lv' := [(3, .int (nI ((jf_entries s a) - 1))), (0, .ref qJ), (1, .int (nI (a))), (2, .int (nI (b)))]) hx hb dd_J_hasRoomAfterLeaving_10 rfl hl (by decide) rfl (fun ls hl => ?_)
  refine lv_iload_n hx hb dd_J_hasRoomAfterLeaving_11 rfl (lv_at hl 2 rfl) ?_
  refine lv_iload_n hx hb dd_J_hasRoomAfterLeaving_12 rfl (lv_at hl 3 rfl) ?_
  refine jl_ne (tgt := 20) hx hb (by omega) (by omega) dd_J_hasRoomAfterLeaving_13 (by decide) (fun c_2 => ?_) (fun c_2 => ?_)
  · skip
    refine lv_aload_n hx hb dd_J_hasRoomAfterLeaving_20 rfl (lv_at hl 1 rfl) ?_
    refine va_get (D := G) (ci := 3) (v := .ref qI) (C := cn_J) (T := ft_J) (N := 6) hx hb hts uw_J hown hK hP 4 rfl rfl 1 (by decide) (hts _ tw_108) (fun _ h9 => h9) rfl dd_J_hasRoomAfterLeaving_21 ?_
    refine lv_iload_n hx hb dd_J_hasRoomAfterLeaving_24 rfl (lv_at hl 3 rfl) ?_
    refine jr_callV C (ct_I_entries l G qI qD qS qC cS cC s c b (by omega) (by first | assumption | (simp only [] ; assumption))) kl_J_148 ⟨Nat.le_of_ble_eq_true rfl, Nat.le_of_ble_eq_true rfl, rfl, rfl⟩ ⟨Nat.le_of_ble_eq_true rfl, Nat.le_of_ble_eq_true rfl⟩ (jw_left hP) (hK.sub [0, 1] rfl) (va_recv hK hP (ci := 2) (q0 := 3) rfl rfl) hl.1 rfl rfl (Nat.le_of_ble_eq_true rfl) dd_J_hasRoomAfterLeaving_25 ?_
    have hf_3 : jf_entries s b < 128 := jf_entries_lt (by assumption) _
    refine lv_istore (lv' := [(4, .int (nI (jf_entries s b))), (3, .int (nI ((jf_entries s a) - 1))), (0, .ref qJ), (1, .int (nI (a))), (2, .int (nI (b)))]) hx hb dd_J_hasRoomAfterLeaving_28 hl (by decide) rfl (fun ls hl => ?_)
    refine lv_iload hx hb dd_J_hasRoomAfterLeaving_30 (lv_at hl 0 rfl) ?_
    refine lv_bipush (v := nI 16) hx hb dd_J_hasRoomAfterLeaving_32 (by decide) ?_
    refine jl_lt (tgt := 39) hx hb (by omega) (by omega) dd_J_hasRoomAfterLeaving_34 (by decide) (fun c_4 => ?_) (fun c_4 => ?_)
    · skip
      refine lv_iload_n hx hb dd_J_hasRoomAfterLeaving_39 rfl (lv_at hl 1 rfl) ?_
      refine jr_callS0 C (ct_I_startsBlock l G ((jf_entries s a) - 1) (by omega)) kl_J_266 ⟨Nat.le_of_ble_eq_true rfl, Nat.le_of_ble_eq_true rfl, rfl, rfl⟩ ⟨Nat.le_of_ble_eq_true rfl, Nat.le_of_ble_eq_true rfl⟩ hK hl.1 rfl rfl (Nat.le_of_ble_eq_true rfl) dd_J_hasRoomAfterLeaving_40 ?_
      have hf_5 : jf_startsBlock ((jf_entries s a) - 1) < 2 := by unfold jf_startsBlock; split <;> decide
      refine jl_ifeq (tgt := 50) hx hb (by omega) dd_J_hasRoomAfterLeaving_43 (by decide) (fun c_6 => ?_) (fun c_6 => ?_)
      · skip
        refine lv_iconst (v := nI 0) hx hb dd_J_hasRoomAfterLeaving_50 (by decide) ?_
        refine lv_istore (lv' := [(5, .int (nI (0))), (4, .int (nI (jf_entries s b))), (3, .int (nI ((jf_entries s a) - 1))), (0, .ref qJ), (1, .int (nI (a))), (2, .int (nI (b)))]) hx hb dd_J_hasRoomAfterLeaving_51 hl (by decide) rfl (fun ls hl => ?_)
        refine lv_iload hx hb dd_J_hasRoomAfterLeaving_53 (lv_at hl 1 rfl) ?_
        refine jr_callS0 C (ct_I_startsBlock l G (jf_entries s b) (by omega)) kl_J_266 ⟨Nat.le_of_ble_eq_true rfl, Nat.le_of_ble_eq_true rfl, rfl, rfl⟩ ⟨Nat.le_of_ble_eq_true rfl, Nat.le_of_ble_eq_true rfl⟩ hK hl.1 rfl rfl (Nat.le_of_ble_eq_true rfl) dd_J_hasRoomAfterLeaving_55 ?_
        have hf_7 : jf_startsBlock (jf_entries s b) < 2 := by unfold jf_startsBlock; split <;> decide
        refine jl_ifeq (tgt := 74) hx hb (by omega) dd_J_hasRoomAfterLeaving_58 (by decide) (fun c_8 => ?_) (fun c_8 => ?_)
        · skip
          refine lv_iconst (v := nI 1) hx hb dd_J_hasRoomAfterLeaving_74 (by decide) ?_
          refine lv_goto (tgt := 79) hx hb dd_J_hasRoomAfterLeaving_75 (by decide) ?_
          exact jr_retz C (by decide) (by first | with_reducible rfl | (simp [jf_hral, c_2, c_4, c_6, c_8]; done) | (simp_all [jf_hral]; done)) dd_J_hasRoomAfterLeaving_79
        · skip
          refine lv_aload_n hx hb dd_J_hasRoomAfterLeaving_61 rfl (lv_at hl 3 rfl) ?_
          refine va_get (D := G) (ci := 3) (v := .ref qD) (C := cn_J) (T := ft_J) (N := 6) hx hb hts uw_J hown hK hP 4 rfl rfl 0 (by decide) (hts _ tw_107) (fun _ h9 => h9) rfl dd_J_hasRoomAfterLeaving_62 ?_
          refine jr_callV C (ct_D_freeBlocks l G qD qS qC cS cC s c  (by first | assumption | (simp only [] ; assumption))) kl_J_214 ⟨Nat.le_of_ble_eq_true rfl, Nat.le_of_ble_eq_true rfl, rfl, rfl⟩ ⟨Nat.le_of_ble_eq_true rfl, Nat.le_of_ble_eq_true rfl⟩ (jw_left (jw_left hP)) (hK.sub [0, 1] rfl) (va_recv hK hP (ci := 0) (q0 := 0) rfl rfl) hl.1 rfl rfl (Nat.le_of_ble_eq_true rfl) dd_J_hasRoomAfterLeaving_65 ?_
          have hf_9 : jf_free s < 32 := jf_free_lt _
          refine lv_iload hx hb dd_J_hasRoomAfterLeaving_68 (lv_at hl 0 rfl) ?_
          refine jl_iadd hx hb dd_J_hasRoomAfterLeaving_70 ?_
          refine jl_ifle (tgt := 78) hx hb (by omega) dd_J_hasRoomAfterLeaving_71 (by decide) (fun c_10 => ?_) (fun c_10 => ?_)
          · skip
            refine lv_iconst (v := nI 0) hx hb dd_J_hasRoomAfterLeaving_78 (by decide) ?_
            exact jr_retz C (by decide) (by first | with_reducible rfl | (simp [jf_hral, c_2, c_4, c_6, c_8, c_10]; done) | (simp_all [jf_hral]; done)) dd_J_hasRoomAfterLeaving_79
          · skip
            refine lv_iconst (v := nI 1) hx hb dd_J_hasRoomAfterLeaving_74 (by decide) ?_
            refine lv_goto (tgt := 79) hx hb dd_J_hasRoomAfterLeaving_75 (by decide) ?_
            exact jr_retz C (by decide) (by first | with_reducible rfl | (simp [jf_hral, c_2, c_4, c_6, c_8, c_10]; done) | (simp_all [jf_hral]; done)) dd_J_hasRoomAfterLeaving_79
      · skip
        refine lv_iconst (v := nI 1) hx hb dd_J_hasRoomAfterLeaving_46 (by decide) ?_
        refine lv_goto (tgt := 51) hx hb dd_J_hasRoomAfterLeaving_47 (by decide) ?_
        refine lv_istore (lv' := [(5, .int (nI (1))), (4, .int (nI (jf_entries s b))), (3, .int (nI ((jf_entries s a) - 1))), (0, .ref qJ), (1, .int (nI (a))), (2, .int (nI (b)))]) hx hb dd_J_hasRoomAfterLeaving_51 hl (by decide) rfl (fun ls hl => ?_)
        refine lv_iload hx hb dd_J_hasRoomAfterLeaving_53 (lv_at hl 1 rfl) ?_
        refine jr_callS0 C (ct_I_startsBlock l G (jf_entries s b) (by omega)) kl_J_266 ⟨Nat.le_of_ble_eq_true rfl, Nat.le_of_ble_eq_true rfl, rfl, rfl⟩ ⟨Nat.le_of_ble_eq_true rfl, Nat.le_of_ble_eq_true rfl⟩ hK hl.1 rfl rfl (Nat.le_of_ble_eq_true rfl) dd_J_hasRoomAfterLeaving_55 ?_
        have hf_11 : jf_startsBlock (jf_entries s b) < 2 := by unfold jf_startsBlock; split <;> decide
        refine jl_ifeq (tgt := 74) hx hb (by omega) dd_J_hasRoomAfterLeaving_58 (by decide) (fun c_12 => ?_) (fun c_12 => ?_)
        · skip
          refine lv_iconst (v := nI 1) hx hb dd_J_hasRoomAfterLeaving_74 (by decide) ?_
          refine lv_goto (tgt := 79) hx hb dd_J_hasRoomAfterLeaving_75 (by decide) ?_
          exact jr_retz C (by decide) (by first | with_reducible rfl | (simp [jf_hral, c_2, c_4, c_6, c_12]; done) | (simp_all [jf_hral]; done)) dd_J_hasRoomAfterLeaving_79
        · skip
          refine lv_aload_n hx hb dd_J_hasRoomAfterLeaving_61 rfl (lv_at hl 3 rfl) ?_
          refine va_get (D := G) (ci := 3) (v := .ref qD) (C := cn_J) (T := ft_J) (N := 6) hx hb hts uw_J hown hK hP 4 rfl rfl 0 (by decide) (hts _ tw_107) (fun _ h9 => h9) rfl dd_J_hasRoomAfterLeaving_62 ?_
          refine jr_callV C (ct_D_freeBlocks l G qD qS qC cS cC s c  (by first | assumption | (simp only [] ; assumption))) kl_J_214 ⟨Nat.le_of_ble_eq_true rfl, Nat.le_of_ble_eq_true rfl, rfl, rfl⟩ ⟨Nat.le_of_ble_eq_true rfl, Nat.le_of_ble_eq_true rfl⟩ (jw_left (jw_left hP)) (hK.sub [0, 1] rfl) (va_recv hK hP (ci := 0) (q0 := 0) rfl rfl) hl.1 rfl rfl (Nat.le_of_ble_eq_true rfl) dd_J_hasRoomAfterLeaving_65 ?_
          have hf_13 : jf_free s < 32 := jf_free_lt _
          refine lv_iload hx hb dd_J_hasRoomAfterLeaving_68 (lv_at hl 0 rfl) ?_
          refine jl_iadd hx hb dd_J_hasRoomAfterLeaving_70 ?_
          refine jl_ifle (tgt := 78) hx hb (by omega) dd_J_hasRoomAfterLeaving_71 (by decide) (fun c_14 => ?_) (fun c_14 => ?_)
          · skip
            refine lv_iconst (v := nI 0) hx hb dd_J_hasRoomAfterLeaving_78 (by decide) ?_
            exact jr_retz C (by decide) (by first | with_reducible rfl | (simp [jf_hral, c_2, c_4, c_6, c_12, c_14]; done) | (simp_all [jf_hral]; done)) dd_J_hasRoomAfterLeaving_79
          · skip
            refine lv_iconst (v := nI 1) hx hb dd_J_hasRoomAfterLeaving_74 (by decide) ?_
            refine lv_goto (tgt := 79) hx hb dd_J_hasRoomAfterLeaving_75 (by decide) ?_
            exact jr_retz C (by decide) (by first | with_reducible rfl | (simp [jf_hral, c_2, c_4, c_6, c_12, c_14]; done) | (simp_all [jf_hral]; done)) dd_J_hasRoomAfterLeaving_79
    · skip
      refine lv_iconst (v := nI 0) hx hb dd_J_hasRoomAfterLeaving_37 (by decide) ?_
      exact jr_retz C (by decide) (by first | with_reducible rfl | (simp [jf_hral, c_2, c_4]; done) | (simp_all [jf_hral]; done)) dd_J_hasRoomAfterLeaving_38
  · skip
    refine lv_iload_n hx hb dd_J_hasRoomAfterLeaving_16 rfl (lv_at hl 0 rfl) ?_
    refine lv_goto (tgt := 28) hx hb dd_J_hasRoomAfterLeaving_17 (by decide) ?_
    refine lv_istore (lv' := [(4, .int (nI ((jf_entries s a) - 1))), (3, .int (nI ((jf_entries s a) - 1))), (0, .ref qJ), (1, .int (nI (a))), (2, .int (nI (b)))]) hx hb dd_J_hasRoomAfterLeaving_28 hl (by decide) rfl (fun ls hl => ?_)
    refine lv_iload hx hb dd_J_hasRoomAfterLeaving_30 (lv_at hl 0 rfl) ?_
    refine lv_bipush (v := nI 16) hx hb dd_J_hasRoomAfterLeaving_32 (by decide) ?_
    refine jl_lt (tgt := 39) hx hb (by omega) (by omega) dd_J_hasRoomAfterLeaving_34 (by decide) (fun c_15 => ?_) (fun c_15 => ?_)
    · skip
      refine lv_iload_n hx hb dd_J_hasRoomAfterLeaving_39 rfl (lv_at hl 1 rfl) ?_
      refine jr_callS0 C (ct_I_startsBlock l G ((jf_entries s a) - 1) (by omega)) kl_J_266 ⟨Nat.le_of_ble_eq_true rfl, Nat.le_of_ble_eq_true rfl, rfl, rfl⟩ ⟨Nat.le_of_ble_eq_true rfl, Nat.le_of_ble_eq_true rfl⟩ hK hl.1 rfl rfl (Nat.le_of_ble_eq_true rfl) dd_J_hasRoomAfterLeaving_40 ?_
      have hf_16 : jf_startsBlock ((jf_entries s a) - 1) < 2 := by unfold jf_startsBlock; split <;> decide
      refine jl_ifeq (tgt := 50) hx hb (by omega) dd_J_hasRoomAfterLeaving_43 (by decide) (fun c_17 => ?_) (fun c_17 => ?_)
      · skip
        refine lv_iconst (v := nI 0) hx hb dd_J_hasRoomAfterLeaving_50 (by decide) ?_
        refine lv_istore (lv' := [(5, .int (nI (0))), (4, .int (nI ((jf_entries s a) - 1))), (3, .int (nI ((jf_entries s a) - 1))), (0, .ref qJ), (1, .int (nI (a))), (2, .int (nI (b)))]) hx hb dd_J_hasRoomAfterLeaving_51 hl (by decide) rfl (fun ls hl => ?_)
        refine lv_iload hx hb dd_J_hasRoomAfterLeaving_53 (lv_at hl 1 rfl) ?_
        refine jr_callS0 C (ct_I_startsBlock l G ((jf_entries s a) - 1) (by omega)) kl_J_266 ⟨Nat.le_of_ble_eq_true rfl, Nat.le_of_ble_eq_true rfl, rfl, rfl⟩ ⟨Nat.le_of_ble_eq_true rfl, Nat.le_of_ble_eq_true rfl⟩ hK hl.1 rfl rfl (Nat.le_of_ble_eq_true rfl) dd_J_hasRoomAfterLeaving_55 ?_
        have hf_18 : jf_startsBlock ((jf_entries s a) - 1) < 2 := by unfold jf_startsBlock; split <;> decide
        refine jl_ifeq (tgt := 74) hx hb (by omega) dd_J_hasRoomAfterLeaving_58 (by decide) (fun c_19 => ?_) (fun c_19 => ?_)
        · skip
          refine lv_iconst (v := nI 1) hx hb dd_J_hasRoomAfterLeaving_74 (by decide) ?_
          refine lv_goto (tgt := 79) hx hb dd_J_hasRoomAfterLeaving_75 (by decide) ?_
          exact jr_retz C (by decide) (by first | with_reducible rfl | (simp [jf_hral, if_pos c_2, c_15, c_17, c_19]; done) | (simp_all [jf_hral]; done)) dd_J_hasRoomAfterLeaving_79
        · skip
          exact absurd c_19 (by omega)
      · skip
        refine lv_iconst (v := nI 1) hx hb dd_J_hasRoomAfterLeaving_46 (by decide) ?_
        refine lv_goto (tgt := 51) hx hb dd_J_hasRoomAfterLeaving_47 (by decide) ?_
        refine lv_istore (lv' := [(5, .int (nI (1))), (4, .int (nI ((jf_entries s a) - 1))), (3, .int (nI ((jf_entries s a) - 1))), (0, .ref qJ), (1, .int (nI (a))), (2, .int (nI (b)))]) hx hb dd_J_hasRoomAfterLeaving_51 hl (by decide) rfl (fun ls hl => ?_)
        refine lv_iload hx hb dd_J_hasRoomAfterLeaving_53 (lv_at hl 1 rfl) ?_
        refine jr_callS0 C (ct_I_startsBlock l G ((jf_entries s a) - 1) (by omega)) kl_J_266 ⟨Nat.le_of_ble_eq_true rfl, Nat.le_of_ble_eq_true rfl, rfl, rfl⟩ ⟨Nat.le_of_ble_eq_true rfl, Nat.le_of_ble_eq_true rfl⟩ hK hl.1 rfl rfl (Nat.le_of_ble_eq_true rfl) dd_J_hasRoomAfterLeaving_55 ?_
        have hf_20 : jf_startsBlock ((jf_entries s a) - 1) < 2 := by unfold jf_startsBlock; split <;> decide
        refine jl_ifeq (tgt := 74) hx hb (by omega) dd_J_hasRoomAfterLeaving_58 (by decide) (fun c_21 => ?_) (fun c_21 => ?_)
        · skip
          exact absurd c_21 (by omega)
        · skip
          refine lv_aload_n hx hb dd_J_hasRoomAfterLeaving_61 rfl (lv_at hl 3 rfl) ?_
          refine va_get (D := G) (ci := 3) (v := .ref qD) (C := cn_J) (T := ft_J) (N := 6) hx hb hts uw_J hown hK hP 4 rfl rfl 0 (by decide) (hts _ tw_107) (fun _ h9 => h9) rfl dd_J_hasRoomAfterLeaving_62 ?_
          refine jr_callV C (ct_D_freeBlocks l G qD qS qC cS cC s c  (by first | assumption | (simp only [] ; assumption))) kl_J_214 ⟨Nat.le_of_ble_eq_true rfl, Nat.le_of_ble_eq_true rfl, rfl, rfl⟩ ⟨Nat.le_of_ble_eq_true rfl, Nat.le_of_ble_eq_true rfl⟩ (jw_left (jw_left hP)) (hK.sub [0, 1] rfl) (va_recv hK hP (ci := 0) (q0 := 0) rfl rfl) hl.1 rfl rfl (Nat.le_of_ble_eq_true rfl) dd_J_hasRoomAfterLeaving_65 ?_
          have hf_22 : jf_free s < 32 := jf_free_lt _
          refine lv_iload hx hb dd_J_hasRoomAfterLeaving_68 (lv_at hl 0 rfl) ?_
          refine jl_iadd hx hb dd_J_hasRoomAfterLeaving_70 ?_
          refine jl_ifle (tgt := 78) hx hb (by omega) dd_J_hasRoomAfterLeaving_71 (by decide) (fun c_23 => ?_) (fun c_23 => ?_)
          · skip
            refine lv_iconst (v := nI 0) hx hb dd_J_hasRoomAfterLeaving_78 (by decide) ?_
            exact jr_retz C (by decide) (by first | with_reducible rfl | (simp [jf_hral, if_pos c_2, c_15, c_17, c_21, c_23]; done) | (simp_all [jf_hral]; done)) dd_J_hasRoomAfterLeaving_79
          · skip
            refine lv_iconst (v := nI 1) hx hb dd_J_hasRoomAfterLeaving_74 (by decide) ?_
            refine lv_goto (tgt := 79) hx hb dd_J_hasRoomAfterLeaving_75 (by decide) ?_
            exact jr_retz C (by decide) (by first | with_reducible rfl | (simp [jf_hral, if_pos c_2, c_15, c_17, c_21, c_23]; done) | (simp_all [jf_hral]; done)) dd_J_hasRoomAfterLeaving_79
    · skip
      refine lv_iconst (v := nI 0) hx hb dd_J_hasRoomAfterLeaving_37 (by decide) ?_
      exact jr_retz C (by decide) (by first | with_reducible rfl | (simp [jf_hral, if_pos c_2, c_15]; done) | (simp_all [jf_hral]; done)) dd_J_hasRoomAfterLeaving_38
set_option maxHeartbeats 4000000 in
set_option maxRecDepth 100000 in
theorem ct_J_makeNew (l : Launch) (G : va_G) (qJ qH : Nat) (qh : Nat → Nat) (cH : ClassId) (qI qD qS qC : Nat) (cS cC : ClassId) (s : Nat → Nat) (c : Nat → Nat) (ho : Nat → Nat) (hn : Nat → Nat) (hg : Nat → Nat) (hm : Nat → Nat) (hp : Nat → Nat) (wc : Nat) (wd : Nat) (tf : Nat) (d : Nat) (nm : Nat) (k : Nat) (j : Nat) (hd0 : d < 256) (hn0 : nm < 256) (hk0 : k < 256) (hj : jf_leastFree s = some j) (hj0 : j < 12) (he0 : jf_entries (jf_occupy s j k) d < 127) (hs : jf_ok s) : jm l yn_J_makeNew (.code yn_J_makeNew cd_J_makeNew 5 (some .int)) { frames := 5, cells := 0, slots := 0, locals := 115 } G (tJ cS cC cH) (wJ qJ qH qh cH qI qD qS qC cS cC s c ho hn hg hm hp wc wd tf) [.ref qJ, .int (nI (d)), .int (nI (nm)), .int (nI (k))] (some (.int (nI (j)))) (wJ qJ qH qh cH qI qD qS qC cS cC (jf_addEntry (jf_occupy s j k) d nm j) c ho hn hg hm hp wc wd tf) := by
  refine jm_of (by decide) (Nat.le_of_ble_eq_true rfl) ?_
  intro pr en σ mi bel met cd ls A hA C hP hK hD hS hl
  have hx := C.1
  have hb := C.2.1
  have hown := C.2.2.2.1
  have hts := C.2.2.2.2.1
  have hl : lv_has ls 5 [(0, .ref qJ), (1, .int (nI (d))), (2, .int (nI (nm))), (3, .int (nI (k)))] := hl
  refine lv_aload_n hx hb dd_J_makeNew_0 rfl (lv_at hl 0 rfl) ?_
  refine va_get (D := G) (ci := 3) (v := .ref qI) (C := cn_J) (T := ft_J) (N := 6) hx hb hts uw_J hown hK hP 4 rfl rfl 1 (by decide) (hts _ tw_108) (fun _ h9 => h9) rfl dd_J_makeNew_1 ?_
  refine jr_callV C (ct_I_leastFree l G qI qD qS qC cS cC s c  (by first | assumption | (simp only [] ; assumption))) kl_J_246 ⟨Nat.le_of_ble_eq_true rfl, Nat.le_of_ble_eq_true rfl, rfl, rfl⟩ ⟨Nat.le_of_ble_eq_true rfl, Nat.le_of_ble_eq_true rfl⟩ (jw_left hP) (hK.sub [0, 1] rfl) (va_recv hK hP (ci := 2) (q0 := 3) rfl rfl) hl.1 rfl rfl (Nat.le_of_ble_eq_true rfl) dd_J_makeNew_4 ?_
  refine lv_istore (lv' := [(4, .int (jo (jf_leastFree s))), (0, .ref qJ), (1, .int (nI (d))), (2, .int (nI (nm))), (3, .int (nI (k)))]) hx hb dd_J_makeNew_7 hl (by decide) rfl (fun ls hl => ?_)
  have hl : lv_has ls 5 [(4, .int (nI (j))), (0, .ref qJ), (1, .int (nI (d))), (2, .int (nI (nm))), (3, .int (nI (k)))] := by rw [hj] at hl; exact hl
  refine lv_aload_n hx hb dd_J_makeNew_9 rfl (lv_at hl 1 rfl) ?_
  refine va_get (D := G) (ci := 3) (v := .ref qI) (C := cn_J) (T := ft_J) (N := 6) hx hb hts uw_J hown hK hP 4 rfl rfl 1 (by decide) (hts _ tw_108) (fun _ h9 => h9) rfl dd_J_makeNew_10 ?_
  refine lv_iload hx hb dd_J_makeNew_13 (lv_at hl 0 rfl) ?_
  refine lv_iload_n hx hb dd_J_makeNew_15 rfl (lv_at hl 4 rfl) ?_
  refine jm_callV (wr := [(qJ, .inr (3, [.ref qD, .ref qI, .ref qH, .int (nI wc), .int (nI wd), .int (nI tf)])), (qH, .inl (cH, 6, .inr (.inr (.inr (.inr (fun k => some (qh k))))))), jh qh ho hn hg hm hp 0, jh qh ho hn hg hm hp 1, jh qh ho hn hg hm hp 2, jh qh ho hn hg hm hp 3, jh qh ho hn hg hm hp 4, jh qh ho hn hg hm hp 5]) C (ct_I_occupy l G qI qD qS qC cS cC s c j k (by omega) (by omega) (by first | assumption | (simp only [] ; assumption))) kl_J_32 ⟨Nat.le_of_ble_eq_true rfl, Nat.le_of_ble_eq_true rfl⟩ ⟨Nat.le_of_ble_eq_true rfl, Nat.le_of_ble_eq_true rfl⟩ hP hD hS hA (hK.sub [0, 1] rfl) (va_recv hK hP (ci := 2) (q0 := 3) rfl rfl) hl.1 rfl rfl (Nat.le_of_ble_eq_true rfl) dd_J_makeNew_16 (fun H locs hP hD hS => ?_)
  have hP : va_P G jcl (wJ qJ qH qh cH qI qD qS qC cS cC (jf_occupy s j k) c ho hn hg hm hp wc wd tf) H := hP
  have hD : va_D A (wJ qJ qH qh cH qI qD qS qC cS cC (jf_occupy s j k) c ho hn hg hm hp wc wd tf) := hD
  have hf_1 : jf_ok (jf_occupy s j k) := jf_occupy_ok (by assumption) _ (by omega)
  refine lv_aload_n hx hb dd_J_makeNew_19 rfl (lv_at hl 1 rfl) ?_
  refine va_get (D := G) (ci := 3) (v := .ref qI) (C := cn_J) (T := ft_J) (N := 6) hx hb hts uw_J hown hK hP 4 rfl rfl 1 (by decide) (hts _ tw_108) (fun _ h9 => h9) rfl dd_J_makeNew_20 ?_
  refine lv_iload_n hx hb dd_J_makeNew_23 rfl (lv_at hl 2 rfl) ?_
  refine lv_iload_n hx hb dd_J_makeNew_24 rfl (lv_at hl 3 rfl) ?_
  refine lv_iload hx hb dd_J_makeNew_25 (lv_at hl 0 rfl) ?_
  refine jm_callV (wr := [(qJ, .inr (3, [.ref qD, .ref qI, .ref qH, .int (nI wc), .int (nI wd), .int (nI tf)])), (qH, .inl (cH, 6, .inr (.inr (.inr (.inr (fun k => some (qh k))))))), jh qh ho hn hg hm hp 0, jh qh ho hn hg hm hp 1, jh qh ho hn hg hm hp 2, jh qh ho hn hg hm hp 3, jh qh ho hn hg hm hp 4, jh qh ho hn hg hm hp 5]) C (ct_I_addEntry l G qI qD qS qC cS cC (jf_occupy s j k) c d nm j (by omega) (by omega) (by omega) (by omega) (by first | assumption | (simp only [] ; assumption))) kl_J_183 ⟨Nat.le_of_ble_eq_true rfl, Nat.le_of_ble_eq_true rfl⟩ ⟨Nat.le_of_ble_eq_true rfl, Nat.le_of_ble_eq_true rfl⟩ hP hD hS hA (hK.sub [0, 1] rfl) (va_recv hK hP (ci := 2) (q0 := 3) rfl rfl) hl.1 rfl rfl (Nat.le_of_ble_eq_true rfl) dd_J_makeNew_27 (fun H locs hP hD hS => ?_)
  have hP : va_P G jcl (wJ qJ qH qh cH qI qD qS qC cS cC (jf_addEntry (jf_occupy s j k) d nm j) c ho hn hg hm hp wc wd tf) H := hP
  have hD : va_D A (wJ qJ qH qh cH qI qD qS qC cS cC (jf_addEntry (jf_occupy s j k) d nm j) c ho hn hg hm hp wc wd tf) := hD
  have hf_2 : jf_ok (jf_addEntry (jf_occupy s j k) d nm j) := jf_addEntry_ok (by assumption) _ (by omega) (by omega) (by omega)
  refine lv_iload hx hb dd_J_makeNew_30 (lv_at hl 0 rfl) ?_
  exact jm_reti C (by first | with_reducible rfl | (simp []; done)) hP hD hK hS ⟨Nat.le_of_ble_eq_true rfl, Nat.le_of_ble_eq_true rfl⟩ dd_J_makeNew_32
