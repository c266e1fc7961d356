set_option maxHeartbeats 4000000 in
set_option maxRecDepth 100000 in
theorem ct_J_close (l : Launch) (hl9 : l.stackTraces = false) (G : va_G) (qJ qH : Nat) (qh : Nat → Nat) (cH : ClassId) (qI qD qS qC : Nat) (cS cC : ClassId) (s : Nat → Nat) (c : Nat → Nat) (ho : Nat → Nat) (hn : Nat → Nat) (hg : Nat → Nat) (hm : Nat → Nat) (hp : Nat → Nat) (wc : Nat) (wd : Nat) (tf : Nat) (h : Nat) (hh0 : h < 4294967296) (hho : jlt 2 ho) : jt l yn_J_close (.code yn_J_close cd_J_close 3 none) { frames := 7, cells := 2, slots := 12, locals := 112 } G (tJ cS cC cH) (wJ qJ qH qh cH qI qD qS qC cS cC s c ho hn hg hm hp wc wd tf) [.ref qJ, .int (nI (h))] (fun o w => (jf_closeT ho h) = 0 ∧ o = none ∧ w = (wJ qJ qH qh cH qI qD qS qC cS cC s c (ju ho h 0) hn hg hm hp wc wd tf)) (fun E w => ¬ (jf_closeT ho h) = 0 ∧ E = jex (jf_closeT ho h) ∧ w = (wJ qJ qH qh cH qI qD qS qC cS cC s c ho hn hg hm hp wc wd tf)) := by
  refine jt_of (by decide) (Nat.le_of_ble_eq_true rfl) ?_
  intro pr en σ mi bel met cd ls A hA C htb hz hP hK hD hS hl
  have hx := C.1
  have hb := C.2.1
  have hown := C.2.2.2.1
  have hts := C.2.2.2.2.1
  have hl : lv_has ls 3 [(0, .ref qJ), (1, .int (nI (h)))] := hl
  refine lv_iload_n hx hb dd_J_close_0 rfl (lv_at hl 1 rfl) ?_
  refine lv_iconst (v := nI 0) hx hb dd_J_close_1 (by decide) ?_
  refine lv_iconst (v := nI 5) hx hb dd_J_close_2 (by decide) ?_
  refine jt_callS (wr := wJ qJ qH qh cH qI qD qS qC cS cC s c ho hn hg hm hp wc wd tf) C hz (ct_J_checkRange l hl9 G h 0 5 (by omega) (by omega) (by omega)) kl_J_64 ⟨Nat.le_of_ble_eq_true rfl, Nat.le_of_ble_eq_true rfl⟩ ⟨Nat.le_of_ble_eq_true rfl, Nat.le_of_ble_eq_true rfl⟩ hP hD hS hA (hK.sub [] rfl) hl.1 rfl rfl (Nat.le_of_ble_eq_true rfl) dd_J_close_3 (fun E w1 H1 locs1 q9 ce hxx hP hD hS g1 g2 g3 => ?_) (fun o w1 H locs hxx hP hD hS => ?_)
  · obtain ⟨hx_2, rfl, rfl⟩ := hxx
    exact jt_out htb C ⟨by first | (simp [jf_closeT, hx_2]; done), by first | (simp [jf_closeT, hx_2]; done), rfl⟩ hP hD hK hS ⟨Nat.le_of_ble_eq_true rfl, Nat.le_of_ble_eq_true rfl⟩ g1 g2 g3
  · obtain ⟨hx_2, rfl, rfl⟩ := hxx
    have hP : va_P G jcl (wJ qJ qH qh cH qI qD qS qC cS cC s c ho hn hg hm hp wc wd tf) H := hP
    have hD : va_D A (wJ qJ qH qh cH qI qD qS qC cS cC s c ho hn hg hm hp wc wd tf) := hD
    have hf_1 : 0 ≤ h ∧ h ≤ 5 := jf_rng_0 hx_2
    refine lv_aload_n hx hb dd_J_close_6 rfl (lv_at hl 0 rfl) ?_
    refine va_get (D := G) (ci := 3) (v := .ref qH) (C := cn_J) (T := ft_J) (N := 6) hx hb hts uw_J hown hK hP 4 rfl rfl 2 (by decide) (hts _ tw_109) (fun _ h9 => h9) rfl dd_J_close_7 ?_
    refine lv_iload_n hx hb dd_J_close_10 rfl (lv_at hl 1 rfl) ?_
    refine jl_hald hx hb hK hP 5 2 rfl rfl (by omega) (by decide) dd_J_close_11 ?_
    refine lv_astore_n (lv' := [(2, .ref (qh h)), (0, .ref qJ), (1, .int (nI (h)))]) hx hb dd_J_close_12 rfl hl (by decide) rfl (fun ls hl => ?_)
    refine lv_aload_n hx hb dd_J_close_13 rfl (lv_at hl 0 rfl) ?_
    refine va_get (D := G) (ci := 1) (v := .int (nI (ho h))) (C := cn_H) (T := ft_H) (N := 5) hx hb hts uw_H hown hK hP (6 + h) (jh_at (by omega)) rfl 0 (by decide) (hts _ tw_66) (fun _ h9 => h9) rfl dd_J_close_14 ?_
    have hf_3 : ho h < 2 := (by assumption : jlt 2 ho) _
    refine jl_ifne (tgt := 30) hx hb (by omega) dd_J_close_17 (by decide) (fun c_4 => ?_) (fun c_4 => ?_)
    · skip
      refine lv_aload_n hx hb dd_J_close_30 rfl (lv_at hl 0 rfl) ?_
      refine lv_iconst (v := nI 0) hx hb dd_J_close_31 (by decide) ?_
      refine va_put (D := G) (ci := 1) (v := .int (nI (0))) (ty := .boolean) (C := cn_H) (T := ft_H) (N := 5) hx hb hts uw_H fy_H fo_H fn_H hown hK hP hD hS (6 + h) (jh_at (by omega)) rfl 0 (by decide) (hts _ tw_66) (fun _ h9 => h9) rfl (by decide +kernel) (by decide) (by decide) (Nat.le_of_ble_eq_true rfl) dd_J_close_32 (fun H locs hP hD hS => ?_)
      have hP : va_P G jcl ((wJ qJ qH qh cH qI qD qS qC cS cC s c ho hn hg hm hp wc wd tf).set (6 + h) (qh h, .inr (1, [.int (nI (0)), .int (nI (hn h)), .int (nI (hg h)), .int (nI (hm h)), .int (nI (hp h))]))) H := hP
      have hD : va_D A ((wJ qJ qH qh cH qI qD qS qC cS cC s c ho hn hg hm hp wc wd tf).set (6 + h) (qh h, .inr (1, [.int (nI (0)), .int (nI (hn h)), .int (nI (hg h)), .int (nI (hm h)), .int (nI (hp h))]))) := hD
      rw [jh_set (by omega)] at hP hD
      simp only [ju_same] at hP hD
      have hP : va_P G jcl (wJ qJ qH qh cH qI qD qS qC cS cC s c (ju ho h 0) hn hg hm hp wc wd tf) H := hP
      have hD : va_D A (wJ qJ qH qh cH qI qD qS qC cS cC s c (ju ho h 0) hn hg hm hp wc wd tf) := hD
      exact jt_retv C ⟨by first | (simp [jf_closeT, hx_2, c_4]; done), rfl, rfl⟩ hP hD hK hS ⟨Nat.le_of_ble_eq_true rfl, Nat.le_of_ble_eq_true rfl⟩ dd_J_close_35
    · skip
      exact tt_ISES (is := 103) (text := "not open") hl9 htb C hz (by decide +kernel) ⟨by first | (simp [jf_closeT, hx_2, c_4, jex]; done), by first | (simp [jf_closeT, hx_2, c_4, jex]; done), rfl⟩ hP hD hK hS hl.1 dd_J_close_20 dd_J_close_23 dd_J_close_24 dd_J_close_26 dd_J_close_29 ⟨Nat.le_of_ble_eq_true rfl, Nat.le_of_ble_eq_true rfl, Nat.le_of_ble_eq_true rfl, Nat.le_of_ble_eq_true rfl⟩ ⟨Nat.le_of_ble_eq_true rfl, Nat.le_of_ble_eq_true rfl⟩
set_option maxHeartbeats 4000000 in
set_option maxRecDepth 100000 in
theorem ct_J_seek (l : Launch) (hl9 : l.stackTraces = false) (G : va_G) (qJ qH : Nat) (qh : Nat → Nat) (cH : ClassId) (qI qD qS qC : Nat) (cS cC : ClassId) (s : Nat → Nat) (c : Nat → Nat) (ho : Nat → Nat) (hn : Nat → Nat) (hg : Nat → Nat) (hm : Nat → Nat) (hp : Nat → Nat) (wc : Nat) (wd : Nat) (tf : Nat) (h : Nat) (z : Nat) (hh0 : h < 4294967296) (hz0 : z < 4294967296) (hs : jf_ok s) (hho : jlt 2 ho) (hhn : jlt 256 hn) (hhg : jlt 256 hg) (hhm : jlt 5 hm) (hhp : jlt 65 hp) : jt l yn_J_seek (.code yn_J_seek cd_J_seek 4 none) { frames := 7, cells := 4, slots := 24, locals := 112 } G (tJ cS cC cH) (wJ qJ qH qh cH qI qD qS qC cS cC s c ho hn hg hm hp wc wd tf) [.ref qJ, .int (nI (h)), .int (nI (z))] (fun o w => (jf_seekT s ho hn hg hm h z) = 0 ∧ o = none ∧ w = (wJ qJ qH qh cH qI qD qS qC cS cC s c ho hn hg hm (ju hp h z) wc wd tf)) (fun E w => ¬ (jf_seekT s ho hn hg hm h z) = 0 ∧ E = jex (jf_seekT s ho hn hg hm h z) ∧ w = (wJ qJ qH qh cH qI qD qS qC cS cC s c ho hn hg hm hp wc wd tf)) := by
  refine jt_of (by decide) (Nat.le_of_ble_eq_true rfl) ?_
  intro pr en σ mi bel met cd ls A hA C htb hz hP hK hD hS hl
  have hx := C.1
  have hb := C.2.1
  have hown := C.2.2.2.1
  have hts := C.2.2.2.2.1
  have hl : lv_has ls 4 [(0, .ref qJ), (1, .int (nI (h))), (2, .int (nI (z)))] := hl
  refine lv_iload_n hx hb dd_J_seek_0 rfl (lv_at hl 1 rfl) ?_
  refine lv_iconst (v := nI 0) hx hb dd_J_seek_1 (by decide) ?_
  refine lv_iconst (v := nI 5) hx hb dd_J_seek_2 (by decide) ?_
  refine jt_callS (wr := wJ qJ qH qh cH qI qD qS qC cS cC s c ho hn hg hm hp wc wd tf) C hz (ct_J_checkRange l hl9 G h 0 5 (by omega) (by omega) (by omega)) kl_J_64 ⟨Nat.le_of_ble_eq_true rfl, Nat.le_of_ble_eq_true rfl⟩ ⟨Nat.le_of_ble_eq_true rfl, Nat.le_of_ble_eq_true rfl⟩ hP hD hS hA (hK.sub [] rfl) hl.1 rfl rfl (Nat.le_of_ble_eq_true rfl) dd_J_seek_3 (fun E w1 H1 locs1 q9 ce hxx hP hD hS g1 g2 g3 => ?_) (fun o w1 H locs hxx hP hD hS => ?_)
  · obtain ⟨hx_2, rfl, rfl⟩ := hxx
    exact jt_out htb C ⟨by first | (simp [jf_seekT, hx_2]; done), by first | (simp [jf_seekT, hx_2]; done), rfl⟩ hP hD hK hS ⟨Nat.le_of_ble_eq_true rfl, Nat.le_of_ble_eq_true rfl⟩ g1 g2 g3
  · obtain ⟨hx_2, rfl, rfl⟩ := hxx
    have hP : va_P G jcl (wJ qJ qH qh cH qI qD qS qC cS cC s c ho hn hg hm hp wc wd tf) H := hP
    have hD : va_D A (wJ qJ qH qh cH qI qD qS qC cS cC s c ho hn hg hm hp wc wd tf) := hD
    have hf_1 : 0 ≤ h ∧ h ≤ 5 := jf_rng_0 hx_2
    refine lv_iload_n hx hb dd_J_seek_6 rfl (lv_at hl 2 rfl) ?_
    refine lv_iconst (v := nI 0) hx hb dd_J_seek_7 (by decide) ?_
    refine lv_bipush (v := nI 64) hx hb dd_J_seek_8 (by decide) ?_
    refine jt_callS (wr := wJ qJ qH qh cH qI qD qS qC cS cC s c ho hn hg hm hp wc wd tf) C hz (ct_J_checkRange l hl9 G z 0 64 (by omega) (by omega) (by omega)) kl_J_64 ⟨Nat.le_of_ble_eq_true rfl, Nat.le_of_ble_eq_true rfl⟩ ⟨Nat.le_of_ble_eq_true rfl, Nat.le_of_ble_eq_true rfl⟩ hP hD hS hA (hK.sub [] rfl) hl.1 rfl rfl (Nat.le_of_ble_eq_true rfl) dd_J_seek_10 (fun E w1 H1 locs1 q9 ce hxx hP hD hS g1 g2 g3 => ?_) (fun o w1 H locs hxx hP hD hS => ?_)
    · obtain ⟨hx_4, rfl, rfl⟩ := hxx
      exact jt_out htb C ⟨by first | (simp [jf_seekT, hx_2, hx_4]; done), by first | (simp [jf_seekT, hx_2, hx_4]; done), rfl⟩ hP hD hK hS ⟨Nat.le_of_ble_eq_true rfl, Nat.le_of_ble_eq_true rfl⟩ g1 g2 g3
    · obtain ⟨hx_4, rfl, rfl⟩ := hxx
      have hP : va_P G jcl (wJ qJ qH qh cH qI qD qS qC cS cC s c ho hn hg hm hp wc wd tf) H := hP
      have hD : va_D A (wJ qJ qH qh cH qI qD qS qC cS cC s c ho hn hg hm hp wc wd tf) := hD
      have hf_3 : 0 ≤ z ∧ z ≤ 64 := jf_rng_0 hx_4
      refine lv_aload_n hx hb dd_J_seek_13 rfl (lv_at hl 0 rfl) ?_
      refine lv_iload_n hx hb dd_J_seek_14 rfl (lv_at hl 1 rfl) ?_
      refine jt_callV (wr := []) C hz (ct_J_usableHandle l hl9 G qJ qH qh cH qI qD qS qC cS cC s c ho hn hg hm hp wc wd tf h (by omega) (by first | assumption | (simp only [] ; assumption)) (by assumption) (by assumption) (by assumption) (by assumption) (by assumption)) kl_J_105 ⟨Nat.le_of_ble_eq_true rfl, Nat.le_of_ble_eq_true rfl⟩ ⟨Nat.le_of_ble_eq_true rfl, Nat.le_of_ble_eq_true rfl⟩ hP hD hS hA (hK) (va_recv hK hP (ci := 3) (q0 := 4) rfl rfl) hl.1 rfl rfl (Nat.le_of_ble_eq_true rfl) dd_J_seek_15 (fun E w1 H1 locs1 q9 ce hxx hP hD hS g1 g2 g3 => ?_) (fun o w1 H locs hxx hP hD hS => ?_)
      · obtain ⟨hx_5, rfl, rfl⟩ := hxx
        exact jt_out htb C ⟨by first | (simp [jf_seekT, hx_2, hx_4, hx_5]; done), by first | (simp [jf_seekT, hx_2, hx_4, hx_5]; done), rfl⟩ hP hD hK hS ⟨Nat.le_of_ble_eq_true rfl, Nat.le_of_ble_eq_true rfl⟩ g1 g2 g3
      · obtain ⟨hx_5, rfl, rfl⟩ := hxx
        have hP : va_P G jcl (wJ qJ qH qh cH qI qD qS qC cS cC s c ho hn hg hm hp wc wd tf) H := hP
        have hD : va_D A (wJ qJ qH qh cH qI qD qS qC cS cC s c ho hn hg hm hp wc wd tf) := hD
        refine lv_astore_n (lv' := [(3, .ref (qh h)), (0, .ref qJ), (1, .int (nI (h))), (2, .int (nI (z)))]) hx hb dd_J_seek_18 rfl hl (by decide) rfl (fun ls hl => ?_)
        refine lv_aload_n hx hb dd_J_seek_19 rfl (lv_at hl 0 rfl) ?_
        refine va_get (D := G) (ci := 1) (v := .int (nI (hm h))) (C := cn_H) (T := ft_H) (N := 5) hx hb hts uw_H hown hK hP (6 + h) (jh_at (by omega)) rfl 3 (by decide) (hts _ tw_69) (fun _ h9 => h9) rfl dd_J_seek_20 ?_
        have hf_6 : hm h < 5 := (by assumption : jlt 5 hm) _
        refine lv_iconst (v := nI 4) hx hb dd_J_seek_23 (by decide) ?_
        refine jl_ne (tgt := 37) hx hb (by omega) (by omega) dd_J_seek_24 (by decide) (fun c_7 => ?_) (fun c_7 => ?_)
        · skip
          refine lv_aload_n hx hb dd_J_seek_37 rfl (lv_at hl 0 rfl) ?_
          refine lv_iload_n hx hb dd_J_seek_38 rfl (lv_at hl 3 rfl) ?_
          refine va_put (D := G) (ci := 1) (v := .int (nI (z))) (ty := .int) (C := cn_H) (T := ft_H) (N := 5) hx hb hts uw_H fy_H fo_H fn_H hown hK hP hD hS (6 + h) (jh_at (by omega)) rfl 4 (by decide) (hts _ tw_70) (fun _ h9 => h9) rfl (by decide +kernel) rfl rfl (Nat.le_of_ble_eq_true rfl) dd_J_seek_39 (fun H locs hP hD hS => ?_)
          have hP : va_P G jcl ((wJ qJ qH qh cH qI qD qS qC cS cC s c ho hn hg hm hp wc wd tf).set (6 + h) (qh h, .inr (1, [.int (nI (ho h)), .int (nI (hn h)), .int (nI (hg h)), .int (nI (hm h)), .int (nI (z))]))) H := hP
          have hD : va_D A ((wJ qJ qH qh cH qI qD qS qC cS cC s c ho hn hg hm hp wc wd tf).set (6 + h) (qh h, .inr (1, [.int (nI (ho h)), .int (nI (hn h)), .int (nI (hg h)), .int (nI (hm h)), .int (nI (z))]))) := hD
          rw [jh_set (by omega)] at hP hD
          simp only [ju_same] at hP hD
          have hP : va_P G jcl (wJ qJ qH qh cH qI qD qS qC cS cC s c ho hn hg hm (ju hp h z) wc wd tf) H := hP
          have hD : va_D A (wJ qJ qH qh cH qI qD qS qC cS cC s c ho hn hg hm (ju hp h z) wc wd tf) := hD
          exact jt_retv C ⟨by first | (simp [jf_seekT, hx_2, hx_4, hx_5, c_7]; done), rfl, rfl⟩ hP hD hK hS ⟨Nat.le_of_ble_eq_true rfl, Nat.le_of_ble_eq_true rfl⟩ dd_J_seek_42
        · skip
          exact tt_ISES (is := 144) (text := "a directory's handle") hl9 htb C hz (by decide +kernel) ⟨by first | (simp [jf_seekT, hx_2, hx_4, hx_5, c_7, jex]; done), by first | (simp [jf_seekT, hx_2, hx_4, hx_5, c_7, jex]; done), rfl⟩ hP hD hK hS hl.1 dd_J_seek_27 dd_J_seek_30 dd_J_seek_31 dd_J_seek_33 dd_J_seek_36 ⟨Nat.le_of_ble_eq_true rfl, Nat.le_of_ble_eq_true rfl, Nat.le_of_ble_eq_true rfl, Nat.le_of_ble_eq_true rfl⟩ ⟨Nat.le_of_ble_eq_true rfl, Nat.le_of_ble_eq_true rfl⟩
set_option maxHeartbeats 4000000 in
set_option maxRecDepth 100000 in
theorem ct_J_next (l : Launch) (hl9 : l.stackTraces = false) (G : va_G) (qJ qH : Nat) (qh : Nat → Nat) (cH : ClassId) (qI qD qS qC : Nat) (cS cC : ClassId) (s : Nat → Nat) (c : Nat → Nat) (ho : Nat → Nat) (hn : Nat → Nat) (hg : Nat → Nat) (hm : Nat → Nat) (hp : Nat → Nat) (wc : Nat) (wd : Nat) (tf : Nat) (h : Nat) (hh0 : h < 4294967296) (hs : jf_ok s) (hho : jlt 2 ho) (hhn : jlt 256 hn) (hhg : jlt 256 hg) (hhm : jlt 5 hm) (hhp : jlt 65 hp) : jt l yn_J_next (.code yn_J_next cd_J_next 4 (some .int)) { frames := 7, cells := 3, slots := 18, locals := 112 } G (tJ cS cC cH) (wJ qJ qH qh cH qI qD qS qC cS cC s c ho hn hg hm hp wc wd tf) [.ref qJ, .int (nI (h))] (fun o w => (jf_nextT s ho hn hg hm h) = 0 ∧ o = (some (.int (nI (if hp h < jf_entries s (hn h) then jf_entryName s (hn h) (hp h) else 0)))) ∧ w = (wJ qJ qH qh cH qI qD qS qC cS cC s c ho hn hg hm (if hp h < jf_entries s (hn h) then ju hp h (hp h + 1) else hp) wc wd tf)) (fun E w => ¬ (jf_nextT s ho hn hg hm h) = 0 ∧ E = jex (jf_nextT s ho hn hg hm h) ∧ w = (wJ qJ qH qh cH qI qD qS qC cS cC s c ho hn hg hm hp wc wd tf)) := by
  refine jt_of (by decide) (Nat.le_of_ble_eq_true rfl) ?_
  intro pr en σ mi bel met cd ls A hA C htb hz hP hK hD hS hl
  have hx := C.1
  have hb := C.2.1
  have hown := C.2.2.2.1
  have hts := C.2.2.2.2.1
  have hl : lv_has ls 4 [(0, .ref qJ), (1, .int (nI (h)))] := hl
  refine lv_iload_n hx hb dd_J_next_0 rfl (lv_at hl 1 rfl) ?_
  refine lv_iconst (v := nI 0) hx hb dd_J_next_1 (by decide) ?_
  refine lv_iconst (v := nI 5) hx hb dd_J_next_2 (by decide) ?_
  refine jt_callS (wr := wJ qJ qH qh cH qI qD qS qC cS cC s c ho hn hg hm hp wc wd tf) C hz (ct_J_checkRange l hl9 G h 0 5 (by omega) (by omega) (by omega)) kl_J_64 ⟨Nat.le_of_ble_eq_true rfl, Nat.le_of_ble_eq_true rfl⟩ ⟨Nat.le_of_ble_eq_true rfl, Nat.le_of_ble_eq_true rfl⟩ hP hD hS hA (hK.sub [] rfl) hl.1 rfl rfl (Nat.le_of_ble_eq_true rfl) dd_J_next_3 (fun E w1 H1 locs1 q9 ce hxx hP hD hS g1 g2 g3 => ?_) (fun o w1 H locs hxx hP hD hS => ?_)
  · obtain ⟨hx_2, rfl, rfl⟩ := hxx
    exact jt_out htb C ⟨by first | (simp [jf_nextT, hx_2]; done), by first | (simp [jf_nextT, hx_2]; done), rfl⟩ hP hD hK hS ⟨Nat.le_of_ble_eq_true rfl, Nat.le_of_ble_eq_true rfl⟩ g1 g2 g3
  · obtain ⟨hx_2, rfl, rfl⟩ := hxx
    have hP : va_P G jcl (wJ qJ qH qh cH qI qD qS qC cS cC s c ho hn hg hm hp wc wd tf) H := hP
    have hD : va_D A (wJ qJ qH qh cH qI qD qS qC cS cC s c ho hn hg hm hp wc wd tf) := hD
    have hf_1 : 0 ≤ h ∧ h ≤ 5 := jf_rng_0 hx_2
    refine lv_aload_n hx hb dd_J_next_6 rfl (lv_at hl 0 rfl) ?_
    refine lv_iload_n hx hb dd_J_next_7 rfl (lv_at hl 1 rfl) ?_
    refine jt_callV (wr := []) C hz (ct_J_usableHandle l hl9 G qJ qH qh cH qI qD qS qC cS cC s c ho hn hg hm hp wc wd tf h (by omega) (by first | assumption | (simp only [] ; assumption)) (by assumption) (by assumption) (by assumption) (by assumption) (by assumption)) kl_J_105 ⟨Nat.le_of_ble_eq_true rfl, Nat.le_of_ble_eq_true rfl⟩ ⟨Nat.le_of_ble_eq_true rfl, Nat.le_of_ble_eq_true rfl⟩ hP hD hS hA (hK) (va_recv hK hP (ci := 3) (q0 := 4) rfl rfl) hl.1 rfl rfl (Nat.le_of_ble_eq_true rfl) dd_J_next_8 (fun E w1 H1 locs1 q9 ce hxx hP hD hS g1 g2 g3 => ?_) (fun o w1 H locs hxx hP hD hS => ?_)
    · obtain ⟨hx_3, rfl, rfl⟩ := hxx
      exact jt_out htb C ⟨by first | (simp [jf_nextT, hx_2, hx_3]; done), by first | (simp [jf_nextT, hx_2, hx_3]; done), rfl⟩ hP hD hK hS ⟨Nat.le_of_ble_eq_true rfl, Nat.le_of_ble_eq_true rfl⟩ g1 g2 g3
    · obtain ⟨hx_3, rfl, rfl⟩ := hxx
      have hP : va_P G jcl (wJ qJ qH qh cH qI qD qS qC cS cC s c ho hn hg hm hp wc wd tf) H := hP
      have hD : va_D A (wJ qJ qH qh cH qI qD qS qC cS cC s c ho hn hg hm hp wc wd tf) := hD
      refine lv_astore_n (lv' := [(2, .ref (qh h)), (0, .ref qJ), (1, .int (nI (h)))]) hx hb dd_J_next_11 rfl hl (by decide) rfl (fun ls hl => ?_)
      refine lv_aload_n hx hb dd_J_next_12 rfl (lv_at hl 0 rfl) ?_
      refine va_get (D := G) (ci := 1) (v := .int (nI (hm h))) (C := cn_H) (T := ft_H) (N := 5) hx hb hts uw_H hown hK hP (6 + h) (jh_at (by omega)) rfl 3 (by decide) (hts _ tw_69) (fun _ h9 => h9) rfl dd_J_next_13 ?_
      have hf_4 : hm h < 5 := (by assumption : jlt 5 hm) _
      refine lv_iconst (v := nI 4) hx hb dd_J_next_16 (by decide) ?_
      refine jl_eq (tgt := 30) hx hb (by omega) (by omega) dd_J_next_17 (by decide) (fun c_5 => ?_) (fun c_5 => ?_)
      · skip
        refine lv_aload_n hx hb dd_J_next_30 rfl (lv_at hl 0 rfl) ?_
        refine va_get (D := G) (ci := 1) (v := .int (nI (hp h))) (C := cn_H) (T := ft_H) (N := 5) hx hb hts uw_H hown hK hP (6 + h) (jh_at (by omega)) rfl 4 (by decide) (hts _ tw_70) (fun _ h9 => h9) rfl dd_J_next_31 ?_
        have hf_6 : hp h < 65 := (by assumption : jlt 65 hp) _
        refine lv_aload_n hx hb dd_J_next_34 rfl (lv_at hl 1 rfl) ?_
        refine va_get (D := G) (ci := 3) (v := .ref qI) (C := cn_J) (T := ft_J) (N := 6) hx hb hts uw_J hown hK hP 4 rfl rfl 1 (by decide) (hts _ tw_108) (fun _ h9 => h9) rfl dd_J_next_35 ?_
        refine lv_aload_n hx hb dd_J_next_38 rfl (lv_at hl 0 rfl) ?_
        refine va_get (D := G) (ci := 1) (v := .int (nI (hn h))) (C := cn_H) (T := ft_H) (N := 5) hx hb hts uw_H hown hK hP (6 + h) (jh_at (by omega)) rfl 1 (by decide) (hts _ tw_67) (fun _ h9 => h9) rfl dd_J_next_39 ?_
        have hf_7 : hn h < 256 := (by assumption : jlt 256 hn) _
        refine jr_callV C (ct_I_entries l G qI qD qS qC cS cC s c (hn h) (by omega) (by first | assumption | (simp only [] ; assumption))) kl_J_148 ⟨Nat.le_of_ble_eq_true rfl, Nat.le_of_ble_eq_true rfl, rfl, rfl⟩ ⟨Nat.le_of_ble_eq_true rfl, Nat.le_of_ble_eq_true rfl⟩ (jw_left hP) (hK.sub [0, 1] rfl) (va_recv hK hP (ci := 2) (q0 := 3) rfl rfl) hl.1 rfl rfl (Nat.le_of_ble_eq_true rfl) dd_J_next_42 ?_
        have hf_8 : jf_entries s (hn h) < 128 := jf_entries_lt (by assumption) _
        refine jl_lt (tgt := 50) hx hb (by omega) (by omega) dd_J_next_45 (by decide) (fun c_9 => ?_) (fun c_9 => ?_)
        · skip
          refine lv_aload_n hx hb dd_J_next_50 rfl (lv_at hl 1 rfl) ?_
          refine va_get (D := G) (ci := 3) (v := .ref qI) (C := cn_J) (T := ft_J) (N := 6) hx hb hts uw_J hown hK hP 4 rfl rfl 1 (by decide) (hts _ tw_108) (fun _ h9 => h9) rfl dd_J_next_51 ?_
          refine lv_aload_n hx hb dd_J_next_54 rfl (lv_at hl 0 rfl) ?_
          refine va_get (D := G) (ci := 1) (v := .int (nI (hn h))) (C := cn_H) (T := ft_H) (N := 5) hx hb hts uw_H hown hK hP (6 + h) (jh_at (by omega)) rfl 1 (by decide) (hts _ tw_67) (fun _ h9 => h9) rfl dd_J_next_55 ?_
          have hf_10 : hn h < 256 := (by assumption : jlt 256 hn) _
          refine lv_aload_n hx hb dd_J_next_58 rfl (lv_at hl 0 rfl) ?_
          refine va_get (D := G) (ci := 1) (v := .int (nI (hp h))) (C := cn_H) (T := ft_H) (N := 5) hx hb hts uw_H hown hK hP (6 + h) (jh_at (by omega)) rfl 4 (by decide) (hts _ tw_70) (fun _ h9 => h9) rfl dd_J_next_59 ?_
          have hf_11 : hp h < 65 := (by assumption : jlt 65 hp) _
          refine jr_callV C (ct_I_entryName l G qI qD qS qC cS cC s c (hn h) (hp h) (by omega) (by omega) (by first | assumption | (simp only [] ; assumption))) kl_J_151 ⟨Nat.le_of_ble_eq_true rfl, Nat.le_of_ble_eq_true rfl, rfl, rfl⟩ ⟨Nat.le_of_ble_eq_true rfl, Nat.le_of_ble_eq_true rfl⟩ (jw_left hP) (hK.sub [0, 1] rfl) (va_recv hK hP (ci := 2) (q0 := 3) rfl rfl) hl.1 rfl rfl (Nat.le_of_ble_eq_true rfl) dd_J_next_62 ?_
          have hf_12 : jf_entryName s (hn h) (hp h) < 256 := jf_get_lt (by assumption) _
          refine lv_istore_n (lv' := [(3, .int (nI (jf_entryName s (hn h) (hp h)))), (2, .ref (qh h)), (0, .ref qJ), (1, .int (nI (h)))]) hx hb dd_J_next_65 rfl hl (by decide) rfl (fun ls hl => ?_)
          refine lv_aload_n hx hb dd_J_next_66 rfl (lv_at hl 1 rfl) ?_
          refine lv_dup hx hb dd_J_next_67 rfl ?_
          refine va_get (D := G) (ci := 1) (v := .int (nI (hp h))) (C := cn_H) (T := ft_H) (N := 5) hx hb hts uw_H hown hK hP (6 + h) (jh_at (by omega)) rfl 4 (by decide) (hts _ tw_70) (fun _ h9 => h9) rfl dd_J_next_68 ?_
          have hf_13 : hp h < 65 := (by assumption : jlt 65 hp) _
          refine lv_iconst (v := nI 1) hx hb dd_J_next_71 (by decide) ?_
          refine jl_iadd hx hb dd_J_next_72 ?_
          refine va_put (D := G) (ci := 1) (v := .int (nI ((hp h) + 1))) (ty := .int) (C := cn_H) (T := ft_H) (N := 5) hx hb hts uw_H fy_H fo_H fn_H hown hK hP hD hS (6 + h) (jh_at (by omega)) rfl 4 (by decide) (hts _ tw_70) (fun _ h9 => h9) rfl (by decide +kernel) rfl rfl (Nat.le_of_ble_eq_true rfl) dd_J_next_73 (fun H locs hP hD hS => ?_)
          have hP : va_P G jcl ((wJ qJ qH qh cH qI qD qS qC cS cC s c ho hn hg hm hp wc wd tf).set (6 + h) (qh h, .inr (1, [.int (nI (ho h)), .int (nI (hn h)), .int (nI (hg h)), .int (nI (hm h)), .int (nI ((hp h) + 1))]))) H := hP
          have hD : va_D A ((wJ qJ qH qh cH qI qD qS qC cS cC s c ho hn hg hm hp wc wd tf).set (6 + h) (qh h, .inr (1, [.int (nI (ho h)), .int (nI (hn h)), .int (nI (hg h)), .int (nI (hm h)), .int (nI ((hp h) + 1))]))) := hD
          rw [jh_set (by omega)] at hP hD
          simp only [ju_same] at hP hD
          have hP : va_P G jcl (wJ qJ qH qh cH qI qD qS qC cS cC s c ho hn hg hm (ju hp h ((hp h) + 1)) wc wd tf) H := hP
          have hD : va_D A (wJ qJ qH qh cH qI qD qS qC cS cC s c ho hn hg hm (ju hp h ((hp h) + 1)) wc wd tf) := hD
          refine lv_iload_n hx hb dd_J_next_76 rfl (lv_at hl 0 rfl) ?_
          exact jt_reti C ⟨by first | (simp [jf_nextT, hx_2, hx_3, c_5, c_9]; done), (by first | with_reducible rfl | (simp [jf_nextT, hx_2, hx_3, c_5, c_9]; done)), (by first | with_reducible rfl | (simp [jf_nextT, hx_2, hx_3, c_5, c_9]; done))⟩ hP hD hK hS ⟨Nat.le_of_ble_eq_true rfl, Nat.le_of_ble_eq_true rfl⟩ dd_J_next_77
        · skip
          refine lv_iconst (v := nI 0) hx hb dd_J_next_48 (by decide) ?_
          exact jt_reti C ⟨by first | (simp [jf_nextT, hx_2, hx_3, c_5, c_9]; done), (by first | with_reducible rfl | (simp [jf_nextT, hx_2, hx_3, c_5, c_9]; done)), (by first | with_reducible rfl | (simp [jf_nextT, hx_2, hx_3, c_5, c_9]; done))⟩ hP hD hK hS ⟨Nat.le_of_ble_eq_true rfl, Nat.le_of_ble_eq_true rfl⟩ dd_J_next_49
      · skip
        exact tt_ISES (is := 146) (text := "a file's handle") hl9 htb C hz (by decide +kernel) ⟨by first | (simp [jf_nextT, hx_2, hx_3, c_5, jex]; done), by first | (simp [jf_nextT, hx_2, hx_3, c_5, jex]; done), rfl⟩ hP hD hK hS hl.1 dd_J_next_20 dd_J_next_23 dd_J_next_24 dd_J_next_26 dd_J_next_29 ⟨Nat.le_of_ble_eq_true rfl, Nat.le_of_ble_eq_true rfl, Nat.le_of_ble_eq_true rfl, Nat.le_of_ble_eq_true rfl⟩ ⟨Nat.le_of_ble_eq_true rfl, Nat.le_of_ble_eq_true rfl⟩
set_option maxHeartbeats 4000000 in
set_option maxRecDepth 100000 in
theorem ct_J_cutPower (l : Launch) (hl9 : l.stackTraces = false) (G : va_G) (qJ qH : Nat) (qh : Nat → Nat) (cH : ClassId) (qI qD qS qC : Nat) (cS cC : ClassId) (s : Nat → Nat) (c : Nat → Nat) (ho : Nat → Nat) (hn : Nat → Nat) (hg : Nat → Nat) (hm : Nat → Nat) (hp : Nat → Nat) (wc : Nat) (wd : Nat) (tf : Nat) (z : Nat) (hz0 : z < 4294967296) : jt l yn_J_cutPower (.code yn_J_cutPower cd_J_cutPower 2 none) { frames := 7, cells := 1, slots := 6, locals := 112 } G (tJ cS cC cH) (wJ qJ qH qh cH qI qD qS qC cS cC s c ho hn hg hm hp wc wd tf) [.ref qJ, .int (nI (z))] (fun o w => (jf_rng z 0 100) = 0 ∧ o = none ∧ w = (wJ qJ qH qh cH qI qD qS qC cS cC s c ho hn hg hm hp z wd tf)) (fun E w => ¬ (jf_rng z 0 100) = 0 ∧ E = jex (jf_rng z 0 100) ∧ w = (wJ qJ qH qh cH qI qD qS qC cS cC s c ho hn hg hm hp wc wd tf)) := by
  refine jt_of (by decide) (Nat.le_of_ble_eq_true rfl) ?_
  intro pr en σ mi bel met cd ls A hA C htb hz hP hK hD hS hl
  have hx := C.1
  have hb := C.2.1
  have hown := C.2.2.2.1
  have hts := C.2.2.2.2.1
  have hl : lv_has ls 2 [(0, .ref qJ), (1, .int (nI (z)))] := hl
  refine lv_iload_n hx hb dd_J_cutPower_0 rfl (lv_at hl 1 rfl) ?_
  refine lv_iconst (v := nI 0) hx hb dd_J_cutPower_1 (by decide) ?_
  refine lv_bipush (v := nI 100) hx hb dd_J_cutPower_2 (by decide) ?_
  refine jt_callS (wr := wJ qJ qH qh cH qI qD qS qC cS cC s c ho hn hg hm hp wc wd tf) C hz (ct_J_checkRange l hl9 G z 0 100 (by omega) (by omega) (by omega)) kl_J_64 ⟨Nat.le_of_ble_eq_true rfl, Nat.le_of_ble_eq_true rfl⟩ ⟨Nat.le_of_ble_eq_true rfl, Nat.le_of_ble_eq_true rfl⟩ hP hD hS hA (hK.sub [] rfl) hl.1 rfl rfl (Nat.le_of_ble_eq_true rfl) dd_J_cutPower_4 (fun E w1 H1 locs1 q9 ce hxx hP hD hS g1 g2 g3 => ?_) (fun o w1 H locs hxx hP hD hS => ?_)
  · obtain ⟨hx_2, rfl, rfl⟩ := hxx
    exact jt_out htb C ⟨by first | (simp [hx_2]; done), by first | (simp [hx_2]; done), rfl⟩ hP hD hK hS ⟨Nat.le_of_ble_eq_true rfl, Nat.le_of_ble_eq_true rfl⟩ g1 g2 g3
  · obtain ⟨hx_2, rfl, rfl⟩ := hxx
    have hP : va_P G jcl (wJ qJ qH qh cH qI qD qS qC cS cC s c ho hn hg hm hp wc wd tf) H := hP
    have hD : va_D A (wJ qJ qH qh cH qI qD qS qC cS cC s c ho hn hg hm hp wc wd tf) := hD
    have hf_1 : 0 ≤ z ∧ z ≤ 100 := jf_rng_0 hx_2
    refine lv_aload_n hx hb dd_J_cutPower_7 rfl (lv_at hl 0 rfl) ?_
    refine lv_iload_n hx hb dd_J_cutPower_8 rfl (lv_at hl 1 rfl) ?_
    refine va_put (D := G) (ci := 3) (v := .int (nI (z))) (ty := .int) (C := cn_J) (T := ft_J) (N := 6) hx hb hts uw_J fy_J fo_J fn_J hown hK hP hD hS 4 rfl rfl 3 (by decide) (hts _ tw_110) (fun _ h9 => h9) rfl (by decide +kernel) rfl rfl (Nat.le_of_ble_eq_true rfl) dd_J_cutPower_9 (fun H locs hP hD hS => ?_)
    have hP : va_P G jcl (wJ qJ qH qh cH qI qD qS qC cS cC s c ho hn hg hm hp z wd tf) H := hP
    have hD : va_D A (wJ qJ qH qh cH qI qD qS qC cS cC s c ho hn hg hm hp z wd tf) := hD
    exact jt_retv C ⟨by first | (simp [hx_2]; done), rfl, rfl⟩ hP hD hK hS ⟨Nat.le_of_ble_eq_true rfl, Nat.le_of_ble_eq_true rfl⟩ dd_J_cutPower_12
set_option maxHeartbeats 4000000 in
set_option maxRecDepth 100000 in
theorem ct_J_block (l : Launch) (hl9 : l.stackTraces = false) (G : va_G) (qJ qH : Nat) (qh : Nat → Nat) (cH : ClassId) (qI qD qS qC : Nat) (cS cC : ClassId) (s : Nat → Nat) (c : Nat → Nat) (ho : Nat → Nat) (hn : Nat → Nat) (hg : Nat → Nat) (hm : Nat → Nat) (hp : Nat → Nat) (wc : Nat) (wd : Nat) (tf : Nat) (b : Nat) (i : Nat) (q : Nat) (hb0 : b < 4294967296) (hi0 : i < 4294967296) (hq0 : q < 2) (hs : jf_ok s) (hc : jf_ok c) : jt l yn_J_block (.code yn_J_block cd_J_block 5 (some .int)) { frames := 7, cells := 2, slots := 12, locals := 112 } G (tJ cS cC cH) (wJ qJ qH qh cH qI qD qS qC cS cC s c ho hn hg hm hp wc wd tf) [.ref qJ, .int (nI (b)), .int (nI (i)), .int (nI (q))] (fun o w => (jf_blockT b i) = 0 ∧ o = (some (.int (nI (if q = 0 then jf_get s (b * 16 + i) else jf_get c (b * 16 + i))))) ∧ w = (wJ qJ qH qh cH qI qD qS qC cS cC s c ho hn hg hm hp wc wd tf)) (fun E w => ¬ (jf_blockT b i) = 0 ∧ E = jex (jf_blockT b i) ∧ w = (wJ qJ qH qh cH qI qD qS qC cS cC s c ho hn hg hm hp wc wd tf)) := by
  refine jt_of (by decide) (Nat.le_of_ble_eq_true rfl) ?_
  intro pr en σ mi bel met cd ls A hA C htb hz hP hK hD hS hl
  have hx := C.1
  have hb := C.2.1
  have hown := C.2.2.2.1
  have hts := C.2.2.2.2.1
  have hl : lv_has ls 5 [(0, .ref qJ), (1, .int (nI (b))), (2, .int (nI (i))), (3, .int (nI (q)))] := hl
  refine lv_iload_n hx hb dd_J_block_0 rfl (lv_at hl 1 rfl) ?_
  refine lv_iconst (v := nI 0) hx hb dd_J_block_1 (by decide) ?_
  refine lv_bipush (v := nI 39) hx hb dd_J_block_2 (by decide) ?_
  refine jt_callS (wr := wJ qJ qH qh cH qI qD qS qC cS cC s c ho hn hg hm hp wc wd tf) C hz (ct_J_checkRange l hl9 G b 0 39 (by omega) (by omega) (by omega)) kl_J_64 ⟨Nat.le_of_ble_eq_true rfl, Nat.le_of_ble_eq_true rfl⟩ ⟨Nat.le_of_ble_eq_true rfl, Nat.le_of_ble_eq_true rfl⟩ hP hD hS hA (hK.sub [] rfl) hl.1 rfl rfl (Nat.le_of_ble_eq_true rfl) dd_J_block_4 (fun E w1 H1 locs1 q9 ce hxx hP hD hS g1 g2 g3 => ?_) (fun o w1 H locs hxx hP hD hS => ?_)
  · obtain ⟨hx_2, rfl, rfl⟩ := hxx
    exact jt_out htb C ⟨by first | (simp [jf_blockT, hx_2]; done), by first | (simp [jf_blockT, hx_2]; done), rfl⟩ hP hD hK hS ⟨Nat.le_of_ble_eq_true rfl, Nat.le_of_ble_eq_true rfl⟩ g1 g2 g3
  · obtain ⟨hx_2, rfl, rfl⟩ := hxx
    have hP : va_P G jcl (wJ qJ qH qh cH qI qD qS qC cS cC s c ho hn hg hm hp wc wd tf) H := hP
    have hD : va_D A (wJ qJ qH qh cH qI qD qS qC cS cC s c ho hn hg hm hp wc wd tf) := hD
    have hf_1 : 0 ≤ b ∧ b ≤ 39 := jf_rng_0 hx_2
    refine lv_iload_n hx hb dd_J_block_7 rfl (lv_at hl 2 rfl) ?_
    refine lv_iconst (v := nI 0) hx hb dd_J_block_8 (by decide) ?_
    refine lv_bipush (v := nI 15) hx hb dd_J_block_9 (by decide) ?_
    refine jt_callS (wr := wJ qJ qH qh cH qI qD qS qC cS cC s c ho hn hg hm hp wc wd tf) C hz (ct_J_checkRange l hl9 G i 0 15 (by omega) (by omega) (by omega)) kl_J_64 ⟨Nat.le_of_ble_eq_true rfl, Nat.le_of_ble_eq_true rfl⟩ ⟨Nat.le_of_ble_eq_true rfl, Nat.le_of_ble_eq_true rfl⟩ hP hD hS hA (hK.sub [] rfl) hl.1 rfl rfl (Nat.le_of_ble_eq_true rfl) dd_J_block_11 (fun E w1 H1 locs1 q9 ce hxx hP hD hS g1 g2 g3 => ?_) (fun o w1 H locs hxx hP hD hS => ?_)
    · obtain ⟨hx_4, rfl, rfl⟩ := hxx
      exact jt_out htb C ⟨by first | (simp [jf_blockT, hx_2, hx_4]; done), by first | (simp [jf_blockT, hx_2, hx_4]; done), rfl⟩ hP hD hK hS ⟨Nat.le_of_ble_eq_true rfl, Nat.le_of_ble_eq_true rfl⟩ g1 g2 g3
    · obtain ⟨hx_4, rfl, rfl⟩ := hxx
      have hP : va_P G jcl (wJ qJ qH qh cH qI qD qS qC cS cC s c ho hn hg hm hp wc wd tf) H := hP
      have hD : va_D A (wJ qJ qH qh cH qI qD qS qC cS cC s c ho hn hg hm hp wc wd tf) := hD
      have hf_3 : 0 ≤ i ∧ i ≤ 15 := jf_rng_0 hx_4
      refine lv_iload_n hx hb dd_J_block_14 rfl (lv_at hl 1 rfl) ?_
      refine lv_bipush (v := nI 16) hx hb dd_J_block_15 (by decide) ?_
      refine jl_imul hx hb dd_J_block_17 ?_
      refine lv_iload_n hx hb dd_J_block_18 rfl (lv_at hl 2 rfl) ?_
      refine jl_iadd hx hb dd_J_block_19 ?_
      refine lv_istore (lv' := [(4, .int (nI ((b * 16) + i))), (0, .ref qJ), (1, .int (nI (b))), (2, .int (nI (i))), (3, .int (nI (q)))]) hx hb dd_J_block_20 hl (by decide) rfl (fun ls hl => ?_)
      refine lv_iload_n hx hb dd_J_block_22 rfl (lv_at hl 4 rfl) ?_
      refine jl_ifeq (tgt := 38) hx hb (by omega) dd_J_block_23 (by decide) (fun c_5 => ?_) (fun c_5 => ?_)
      · skip
        refine lv_aload_n hx hb dd_J_block_38 rfl (lv_at hl 1 rfl) ?_
        refine va_get (D := G) (ci := 3) (v := .ref qD) (C := cn_J) (T := ft_J) (N := 6) hx hb hts uw_J hown hK hP 4 rfl rfl 0 (by decide) (hts _ tw_107) (fun _ h9 => h9) rfl dd_J_block_39 ?_
        refine lv_iload hx hb dd_J_block_42 (lv_at hl 0 rfl) ?_
        refine jr_callV C (ct_D_get l G qD qS qC cS cC s c ((b * 16) + i) (by omega)) kl_J_211 ⟨Nat.le_of_ble_eq_true rfl, Nat.le_of_ble_eq_true rfl, rfl, rfl⟩ ⟨Nat.le_of_ble_eq_true rfl, Nat.le_of_ble_eq_true rfl⟩ (jw_left (jw_left hP)) (hK.sub [0, 1] rfl) (va_recv hK hP (ci := 0) (q0 := 0) rfl rfl) hl.1 rfl rfl (Nat.le_of_ble_eq_true rfl) dd_J_block_44 ?_
        have hf_6 : jf_get s ((b * 16) + i) < 256 := jf_get_lt (by assumption) _
        exact jt_reti C ⟨by first | (simp [jf_blockT, hx_2, hx_4, c_5]; done), (by first | with_reducible rfl | (simp [jf_blockT, hx_2, hx_4, c_5]; done)), rfl⟩ hP hD hK hS ⟨Nat.le_of_ble_eq_true rfl, Nat.le_of_ble_eq_true rfl⟩ dd_J_block_47
      · skip
        refine lv_aload_n hx hb dd_J_block_26 rfl (lv_at hl 1 rfl) ?_
        refine va_get (D := G) (ci := 3) (v := .ref qD) (C := cn_J) (T := ft_J) (N := 6) hx hb hts uw_J hown hK hP 4 rfl rfl 0 (by decide) (hts _ tw_107) (fun _ h9 => h9) rfl dd_J_block_27 ?_
        refine lv_iload hx hb dd_J_block_30 (lv_at hl 0 rfl) ?_
        refine jr_callV C (ct_D_getKept l G qD qS qC cS cC s c ((b * 16) + i) (by omega)) kl_J_208 ⟨Nat.le_of_ble_eq_true rfl, Nat.le_of_ble_eq_true rfl, rfl, rfl⟩ ⟨Nat.le_of_ble_eq_true rfl, Nat.le_of_ble_eq_true rfl⟩ (jw_left (jw_left hP)) (hK.sub [0, 1] rfl) (va_recv hK hP (ci := 0) (q0 := 0) rfl rfl) hl.1 rfl rfl (Nat.le_of_ble_eq_true rfl) dd_J_block_32 ?_
        have hf_7 : jf_get c ((b * 16) + i) < 256 := jf_get_lt (by assumption) _
        refine lv_goto (tgt := 47) hx hb dd_J_block_35 (by decide) ?_
        exact jt_reti C ⟨by first | (simp [jf_blockT, hx_2, hx_4, c_5]; done), (by first | with_reducible rfl | (simp [jf_blockT, hx_2, hx_4, c_5]; done)), rfl⟩ hP hD hK hS ⟨Nat.le_of_ble_eq_true rfl, Nat.le_of_ble_eq_true rfl⟩ dd_J_block_47
set_option maxHeartbeats 4000000 in
set_option maxRecDepth 100000 in
theorem ct_J_stat (l : Launch) (hl9 : l.stackTraces = false) (G : va_G) (qJ qH : Nat) (qh : Nat → Nat) (cH : ClassId) (qI qD qS qC : Nat) (cS cC : ClassId) (s : Nat → Nat) (c : Nat → Nat) (ho : Nat → Nat) (hn : Nat → Nat) (hg : Nat → Nat) (hm : Nat → Nat) (hp : Nat → Nat) (wc : Nat) (wd : Nat) (tf : Nat) (u : Nat) (z : Nat) (hu0 : u < 4294967296) (hz0 : z < 4294967296) (hs : jf_ok s) : jt l yn_J_stat (.code yn_J_stat cd_J_stat 4 (some .int)) { frames := 7, cells := 3, slots := 18, locals := 156 } G (tJ cS cC cH) (wJ qJ qH qh cH qI qD qS qC cS cC s c ho hn hg hm hp wc wd tf) [.ref qJ, .int (nI (u)), .int (nI (z))] (fun o w => (jf_statT s u z) = 0 ∧ o = (some (.int (nI (jf_statR s ((jf_inodeAt s u).getD 0) z)))) ∧ w = (wJ qJ qH qh cH qI qD qS qC cS cC s c ho hn hg hm hp wc wd tf)) (fun E w => ¬ (jf_statT s u z) = 0 ∧ E = jex (jf_statT s u z) ∧ w = (wJ qJ qH qh cH qI qD qS qC cS cC s c ho hn hg hm hp wc wd tf)) := by
  refine jt_of (by decide) (Nat.le_of_ble_eq_true rfl) ?_
  intro pr en σ mi bel met cd ls A hA C htb hz hP hK hD hS hl
  have hx := C.1
  have hb := C.2.1
  have hown := C.2.2.2.1
  have hts := C.2.2.2.2.1
  have hl : lv_has ls 4 [(0, .ref qJ), (1, .int (nI (u))), (2, .int (nI (z)))] := hl
  refine lv_iload_n hx hb dd_J_stat_0 rfl (lv_at hl 1 rfl) ?_
  refine jt_callS (wr := wJ qJ qH qh cH qI qD qS qC cS cC s c ho hn hg hm hp wc wd tf) C hz (ct_J_checkPath l hl9 G u (by omega)) kl_J_39 ⟨Nat.le_of_ble_eq_true rfl, Nat.le_of_ble_eq_true rfl⟩ ⟨Nat.le_of_ble_eq_true rfl, Nat.le_of_ble_eq_true rfl⟩ hP hD hS hA (hK.sub [] rfl) hl.1 rfl rfl (Nat.le_of_ble_eq_true rfl) dd_J_stat_1 (fun E w1 H1 locs1 q9 ce hxx hP hD hS g1 g2 g3 => ?_) (fun o w1 H locs hxx hP hD hS => ?_)
  · obtain ⟨hx_1, rfl, rfl⟩ := hxx
    exact jt_out htb C ⟨by first | (simp [jf_statT, jf_statR, hx_1]; done) | (simp [show ¬ z = 0 by omega, show ¬ z = 1 by omega, show ¬ z = 2 by omega, show ¬ z = 3 by omega, jf_statT, jf_statR, hx_1]; done), by first | (simp [jf_statT, jf_statR, hx_1]; done) | (simp [show ¬ z = 0 by omega, show ¬ z = 1 by omega, show ¬ z = 2 by omega, show ¬ z = 3 by omega, jf_statT, jf_statR, hx_1]; done), rfl⟩ hP hD hK hS ⟨Nat.le_of_ble_eq_true rfl, Nat.le_of_ble_eq_true rfl⟩ g1 g2 g3
  · obtain ⟨hx_1, rfl, rfl⟩ := hxx
    have hP : va_P G jcl (wJ qJ qH qh cH qI qD qS qC cS cC s c ho hn hg hm hp wc wd tf) H := hP
    have hD : va_D A (wJ qJ qH qh cH qI qD qS qC cS cC s c ho hn hg hm hp wc wd tf) := hD
    refine lv_iload_n hx hb dd_J_stat_4 rfl (lv_at hl 2 rfl) ?_
    refine lv_iconst (v := nI 0) hx hb dd_J_stat_5 (by decide) ?_
    refine lv_iconst (v := nI 4) hx hb dd_J_stat_6 (by decide) ?_
    refine jt_callS (wr := wJ qJ qH qh cH qI qD qS qC cS cC s c ho hn hg hm hp wc wd tf) C hz (ct_J_checkRange l hl9 G z 0 4 (by omega) (by omega) (by omega)) kl_J_64 ⟨Nat.le_of_ble_eq_true rfl, Nat.le_of_ble_eq_true rfl⟩ ⟨Nat.le_of_ble_eq_true rfl, Nat.le_of_ble_eq_true rfl⟩ hP hD hS hA (hK.sub [] rfl) hl.1 rfl rfl (Nat.le_of_ble_eq_true rfl) dd_J_stat_7 (fun E w1 H1 locs1 q9 ce hxx hP hD hS g1 g2 g3 => ?_) (fun o w1 H locs hxx hP hD hS => ?_)
    · obtain ⟨hx_3, rfl, rfl⟩ := hxx
      exact jt_out htb C ⟨by first | (simp [jf_statT, jf_statR, hx_1, hx_3]; done) | (simp [show ¬ z = 0 by omega, show ¬ z = 1 by omega, show ¬ z = 2 by omega, show ¬ z = 3 by omega, jf_statT, jf_statR, hx_1, hx_3]; done), by first | (simp [jf_statT, jf_statR, hx_1, hx_3]; done) | (simp [show ¬ z = 0 by omega, show ¬ z = 1 by omega, show ¬ z = 2 by omega, show ¬ z = 3 by omega, jf_statT, jf_statR, hx_1, hx_3]; done), rfl⟩ hP hD hK hS ⟨Nat.le_of_ble_eq_true rfl, Nat.le_of_ble_eq_true rfl⟩ g1 g2 g3
    · obtain ⟨hx_3, rfl, rfl⟩ := hxx
      have hP : va_P G jcl (wJ qJ qH qh cH qI qD qS qC cS cC s c ho hn hg hm hp wc wd tf) H := hP
      have hD : va_D A (wJ qJ qH qh cH qI qD qS qC cS cC s c ho hn hg hm hp wc wd tf) := hD
      have hf_2 : 0 ≤ z ∧ z ≤ 4 := jf_rng_0 hx_3
      refine lv_aload_n hx hb dd_J_stat_10 rfl (lv_at hl 0 rfl) ?_
      refine lv_iload_n hx hb dd_J_stat_11 rfl (lv_at hl 1 rfl) ?_
      refine jt_callV (wr := []) C hz (ct_J_inodeNeeded l hl9 G qJ qH qh cH qI qD qS qC cS cC s c ho hn hg hm hp wc wd tf u (by omega) (by first | assumption | (simp only [] ; assumption))) kl_J_154 ⟨Nat.le_of_ble_eq_true rfl, Nat.le_of_ble_eq_true rfl⟩ ⟨Nat.le_of_ble_eq_true rfl, Nat.le_of_ble_eq_true rfl⟩ hP hD hS hA (hK) (va_recv hK hP (ci := 3) (q0 := 4) rfl rfl) hl.1 rfl rfl (Nat.le_of_ble_eq_true rfl) dd_J_stat_12 (fun E w1 H1 locs1 q9 ce hxx hP hD hS g1 g2 g3 => ?_) (fun o w1 H locs hxx hP hD hS => ?_)
      · obtain ⟨hx_5, rfl, rfl⟩ := hxx
        exact jt_out htb C ⟨by first | (simp [jf_statT, jf_statR, hx_1, hx_3, hx_5]; done) | (simp [show ¬ z = 0 by omega, show ¬ z = 1 by omega, show ¬ z = 2 by omega, show ¬ z = 3 by omega, jf_statT, jf_statR, hx_1, hx_3, hx_5]; done), by first | (simp [jf_statT, jf_statR, hx_1, hx_3, hx_5]; done) | (simp [show ¬ z = 0 by omega, show ¬ z = 1 by omega, show ¬ z = 2 by omega, show ¬ z = 3 by omega, jf_statT, jf_statR, hx_1, hx_3, hx_5]; done), rfl⟩ hP hD hK hS ⟨Nat.le_of_ble_eq_true rfl, Nat.le_of_ble_eq_true rfl⟩ g1 g2 g3
      · obtain ⟨hx_5, rfl, rfl⟩ := hxx
        have hP : va_P G jcl (wJ qJ qH qh cH qI qD qS qC cS cC s c ho hn hg hm hp wc wd tf) H := hP
        have hD : va_D A (wJ qJ qH qh cH qI qD qS qC cS cC s c ho hn hg hm hp wc wd tf) := hD
        have hf_4 : (jf_inodeAt s u).getD 0 < 256 := jf_getD_lt (by assumption) _
        refine lv_istore_n (lv' := [(3, .int (nI ((jf_inodeAt s u).getD 0))), (0, .ref qJ), (1, .int (nI (u))), (2, .int (nI (z)))]) hx hb dd_J_stat_15 rfl hl (by decide) rfl (fun ls hl => ?_)
        refine lv_iload_n hx hb dd_J_stat_16 rfl (lv_at hl 3 rfl) ?_
        rcases (show z = 0 ∨ z = 1 ∨ z = 2 ∨ z = 3 ∨ 3 < z by omega) with hw_6 | hw_6 | hw_6 | hw_6 | hw_6
        · skip
          refine jl_swIn (a := z) (tgt := 48) (off := 31) hx hb dd_J_stat_17 (by omega) (by omega) (by omega) (by rw [hw_6]; rfl) (by decide) ?_
          refine lv_aload_n hx hb dd_J_stat_48 rfl (lv_at hl 1 rfl) ?_
          refine va_get (D := G) (ci := 3) (v := .ref qI) (C := cn_J) (T := ft_J) (N := 6) hx hb hts uw_J hown hK hP 4 rfl rfl 1 (by decide) (hts _ tw_108) (fun _ h9 => h9) rfl dd_J_stat_49 ?_
          refine lv_iload_n hx hb dd_J_stat_52 rfl (lv_at hl 0 rfl) ?_
          refine jr_callV C (ct_I_kind l G qI qD qS qC cS cC s c ((jf_inodeAt s u).getD 0) (by omega) (by first | assumption | (simp only [] ; assumption))) kl_J_85 ⟨Nat.le_of_ble_eq_true rfl, Nat.le_of_ble_eq_true rfl, rfl, rfl⟩ ⟨Nat.le_of_ble_eq_true rfl, Nat.le_of_ble_eq_true rfl⟩ (jw_left hP) (hK.sub [0, 1] rfl) (va_recv hK hP (ci := 2) (q0 := 3) rfl rfl) hl.1 rfl rfl (Nat.le_of_ble_eq_true rfl) dd_J_stat_53 ?_
          have hf_7 : jf_kind s ((jf_inodeAt s u).getD 0) < 256 := jf_get_lt (by assumption) _
          exact jt_reti C ⟨by first | (simp [jf_statT, jf_statR, hx_1, hx_3, hx_5, hw_6]; done) | (simp [show ¬ z = 0 by omega, show ¬ z = 1 by omega, show ¬ z = 2 by omega, show ¬ z = 3 by omega, jf_statT, jf_statR, hx_1, hx_3, hx_5, hw_6]; done) | (simp [jf_statT, jf_statR, hx_1, hx_3, hx_5]; done), (by first | with_reducible rfl | (simp [jf_statT, jf_statR, hx_1, hx_3, hx_5, hw_6]; done) | (simp [show ¬ z = 0 by omega, show ¬ z = 1 by omega, show ¬ z = 2 by omega, show ¬ z = 3 by omega, jf_statT, jf_statR, hx_1, hx_3, hx_5, hw_6]; done)), rfl⟩ hP hD hK hS ⟨Nat.le_of_ble_eq_true rfl, Nat.le_of_ble_eq_true rfl⟩ dd_J_stat_56
        · skip
          refine jl_swIn (a := z) (tgt := 57) (off := 40) hx hb dd_J_stat_17 (by omega) (by omega) (by omega) (by rw [hw_6]; rfl) (by decide) ?_
          refine lv_aload_n hx hb dd_J_stat_57 rfl (lv_at hl 1 rfl) ?_
          refine va_get (D := G) (ci := 3) (v := .ref qI) (C := cn_J) (T := ft_J) (N := 6) hx hb hts uw_J hown hK hP 4 rfl rfl 1 (by decide) (hts _ tw_108) (fun _ h9 => h9) rfl dd_J_stat_58 ?_
          refine lv_iload_n hx hb dd_J_stat_61 rfl (lv_at hl 0 rfl) ?_
          refine jr_callV C (ct_I_size l G qI qD qS qC cS cC s c ((jf_inodeAt s u).getD 0) (by omega) (by first | assumption | (simp only [] ; assumption))) kl_J_96 ⟨Nat.le_of_ble_eq_true rfl, Nat.le_of_ble_eq_true rfl, rfl, rfl⟩ ⟨Nat.le_of_ble_eq_true rfl, Nat.le_of_ble_eq_true rfl⟩ (jw_left hP) (hK.sub [0, 1] rfl) (va_recv hK hP (ci := 2) (q0 := 3) rfl rfl) hl.1 rfl rfl (Nat.le_of_ble_eq_true rfl) dd_J_stat_62 ?_
          have hf_8 : jf_size s ((jf_inodeAt s u).getD 0) < 256 := jf_get_lt (by assumption) _
          exact jt_reti C ⟨by first | (simp [jf_statT, jf_statR, hx_1, hx_3, hx_5, hw_6]; done) | (simp [show ¬ z = 0 by omega, show ¬ z = 1 by omega, show ¬ z = 2 by omega, show ¬ z = 3 by omega, jf_statT, jf_statR, hx_1, hx_3, hx_5, hw_6]; done) | (simp [jf_statT, jf_statR, hx_1, hx_3, hx_5]; done), (by first | with_reducible rfl | (simp [jf_statT, jf_statR, hx_1, hx_3, hx_5, hw_6]; done) | (simp [show ¬ z = 0 by omega, show ¬ z = 1 by omega, show ¬ z = 2 by omega, show ¬ z = 3 by omega, jf_statT, jf_statR, hx_1, hx_3, hx_5, hw_6]; done)), rfl⟩ hP hD hK hS ⟨Nat.le_of_ble_eq_true rfl, Nat.le_of_ble_eq_true rfl⟩ dd_J_stat_65
        · skip
          refine jl_swIn (a := z) (tgt := 66) (off := 49) hx hb dd_J_stat_17 (by omega) (by omega) (by omega) (by rw [hw_6]; rfl) (by decide) ?_
          refine lv_iload_n hx hb dd_J_stat_66 rfl (lv_at hl 0 rfl) ?_
          exact jt_reti C ⟨by first | (simp [jf_statT, jf_statR, hx_1, hx_3, hx_5, hw_6]; done) | (simp [show ¬ z = 0 by omega, show ¬ z = 1 by omega, show ¬ z = 2 by omega, show ¬ z = 3 by omega, jf_statT, jf_statR, hx_1, hx_3, hx_5, hw_6]; done) | (simp [jf_statT, jf_statR, hx_1, hx_3, hx_5]; done), (by first | with_reducible rfl | (simp [jf_statT, jf_statR, hx_1, hx_3, hx_5, hw_6]; done) | (simp [show ¬ z = 0 by omega, show ¬ z = 1 by omega, show ¬ z = 2 by omega, show ¬ z = 3 by omega, jf_statT, jf_statR, hx_1, hx_3, hx_5, hw_6]; done)), rfl⟩ hP hD hK hS ⟨Nat.le_of_ble_eq_true rfl, Nat.le_of_ble_eq_true rfl⟩ dd_J_stat_67
        · skip
          refine jl_swIn (a := z) (tgt := 68) (off := 51) hx hb dd_J_stat_17 (by omega) (by omega) (by omega) (by rw [hw_6]; rfl) (by decide) ?_
          refine lv_aload_n hx hb dd_J_stat_68 rfl (lv_at hl 1 rfl) ?_
          refine va_get (D := G) (ci := 3) (v := .ref qI) (C := cn_J) (T := ft_J) (N := 6) hx hb hts uw_J hown hK hP 4 rfl rfl 1 (by decide) (hts _ tw_108) (fun _ h9 => h9) rfl dd_J_stat_69 ?_
          refine lv_iload_n hx hb dd_J_stat_72 rfl (lv_at hl 0 rfl) ?_
          refine jr_callV C (ct_I_generation l G qI qD qS qC cS cC s c ((jf_inodeAt s u).getD 0) (by omega) (by first | assumption | (simp only [] ; assumption))) kl_J_191 ⟨Nat.le_of_ble_eq_true rfl, Nat.le_of_ble_eq_true rfl, rfl, rfl⟩ ⟨Nat.le_of_ble_eq_true rfl, Nat.le_of_ble_eq_true rfl⟩ (jw_left hP) (hK.sub [0, 1] rfl) (va_recv hK hP (ci := 2) (q0 := 3) rfl rfl) hl.1 rfl rfl (Nat.le_of_ble_eq_true rfl) dd_J_stat_73 ?_
          have hf_9 : jf_gen s ((jf_inodeAt s u).getD 0) < 256 := jf_get_lt (by assumption) _
          exact jt_reti C ⟨by first | (simp [jf_statT, jf_statR, hx_1, hx_3, hx_5, hw_6]; done) | (simp [show ¬ z = 0 by omega, show ¬ z = 1 by omega, show ¬ z = 2 by omega, show ¬ z = 3 by omega, jf_statT, jf_statR, hx_1, hx_3, hx_5, hw_6]; done) | (simp [jf_statT, jf_statR, hx_1, hx_3, hx_5]; done), (by first | with_reducible rfl | (simp [jf_statT, jf_statR, hx_1, hx_3, hx_5, hw_6]; done) | (simp [show ¬ z = 0 by omega, show ¬ z = 1 by omega, show ¬ z = 2 by omega, show ¬ z = 3 by omega, jf_statT, jf_statR, hx_1, hx_3, hx_5, hw_6]; done)), rfl⟩ hP hD hK hS ⟨Nat.le_of_ble_eq_true rfl, Nat.le_of_ble_eq_true rfl⟩ dd_J_stat_76
        · skip
          refine jl_swOut32 (a := z) (tgt := 77) hx hb dd_J_stat_17 (by omega) (by omega) (by decide) ?_
          refine lv_aload_n hx hb dd_J_stat_77 rfl (lv_at hl 1 rfl) ?_
          refine va_get (D := G) (ci := 3) (v := .ref qI) (C := cn_J) (T := ft_J) (N := 6) hx hb hts uw_J hown hK hP 4 rfl rfl 1 (by decide) (hts _ tw_108) (fun _ h9 => h9) rfl dd_J_stat_78 ?_
          refine lv_iload_n hx hb dd_J_stat_81 rfl (lv_at hl 0 rfl) ?_
          refine jr_callV C (ct_I_entries l G qI qD qS qC cS cC s c ((jf_inodeAt s u).getD 0) (by omega) (by first | assumption | (simp only [] ; assumption))) kl_J_148 ⟨Nat.le_of_ble_eq_true rfl, Nat.le_of_ble_eq_true rfl, rfl, rfl⟩ ⟨Nat.le_of_ble_eq_true rfl, Nat.le_of_ble_eq_true rfl⟩ (jw_left hP) (hK.sub [0, 1] rfl) (va_recv hK hP (ci := 2) (q0 := 3) rfl rfl) hl.1 rfl rfl (Nat.le_of_ble_eq_true rfl) dd_J_stat_82 ?_
          have hf_10 : jf_entries s ((jf_inodeAt s u).getD 0) < 128 := jf_entries_lt (by assumption) _
          exact jt_reti C ⟨by first | (simp [jf_statT, jf_statR, hx_1, hx_3, hx_5, hw_6]; done) | (simp [show ¬ z = 0 by omega, show ¬ z = 1 by omega, show ¬ z = 2 by omega, show ¬ z = 3 by omega, jf_statT, jf_statR, hx_1, hx_3, hx_5, hw_6]; done) | (simp [jf_statT, jf_statR, hx_1, hx_3, hx_5]; done), (by first | with_reducible rfl | (simp [jf_statT, jf_statR, hx_1, hx_3, hx_5, hw_6]; done) | (simp [show ¬ z = 0 by omega, show ¬ z = 1 by omega, show ¬ z = 2 by omega, show ¬ z = 3 by omega, jf_statT, jf_statR, hx_1, hx_3, hx_5, hw_6]; done)), rfl⟩ hP hD hK hS ⟨Nat.le_of_ble_eq_true rfl, Nat.le_of_ble_eq_true rfl⟩ dd_J_stat_85
set_option maxHeartbeats 4000000 in
set_option maxRecDepth 100000 in
theorem ct_J_count (l : Launch) (G : va_G) (qJ qH : Nat) (qh : Nat → Nat) (cH : ClassId) (qI qD qS qC : Nat) (cS cC : ClassId) (s : Nat → Nat) (c : Nat → Nat) (ho : Nat → Nat) (hn : Nat → Nat) (hg : Nat → Nat) (hm : Nat → Nat) (hp : Nat → Nat) (wc : Nat) (wd : Nat) (tf : Nat) (z : Nat) (hz0 : z < 4294967296) (hs : jf_ok s) (hc : jf_ok c) (hho : jlt 2 ho) (hhn : jlt 256 hn) (hhg : jlt 256 hg) (hhm : jlt 5 hm) (hhp : jlt 65 hp) : jr l yn_J_count (.code yn_J_count cd_J_count 2 (some .int)) { frames := 5, cells := 0, slots := 0, locals := 107 } G (tJ cS cC cH) (wJ qJ qH qh cH qI qD qS qC cS cC s c ho hn hg hm hp wc wd tf) [.ref qJ, .int (nI (z))] (jo (jf_count s c ho hn hg hm wd tf z)) := by
  refine jr_of (by decide) (Nat.le_of_ble_eq_true rfl) ?_
  intro pr en σ mi bel met cd ls C hP hK hl
  have hx := C.1
  have hb := C.2.1
  have hown := C.2.2.2.1
  have hts := C.2.2.2.2.1
  have hl : lv_has ls 2 [(0, .ref qJ), (1, .int (nI (z)))] := hl
  refine lv_iload_n hx hb dd_J_count_0 rfl (lv_at hl 1 rfl) ?_
  rcases (show z = 0 ∨ z = 1 ∨ z = 2 ∨ z = 3 ∨ z = 4 ∨ z = 5 ∨ z = 6 ∨ 6 < z by omega) with hw_1 | hw_1 | hw_1 | hw_1 | hw_1 | hw_1 | hw_1 | hw_1
  · skip
    refine jl_swIn (a := z) (tgt := 44) (off := 43) hx hb dd_J_count_1 (by omega) (by omega) (by omega) (by rw [hw_1]; rfl) (by decide) ?_
    refine lv_aload_n hx hb dd_J_count_44 rfl (lv_at hl 0 rfl) ?_
    refine va_get (D := G) (ci := 3) (v := .ref qD) (C := cn_J) (T := ft_J) (N := 6) hx hb hts uw_J hown hK hP 4 rfl rfl 0 (by decide) (hts _ tw_107) (fun _ h9 => h9) rfl dd_J_count_45 ?_
    refine jr_callV C (ct_D_freeBlocks l G qD qS qC cS cC s c  (by first | assumption | (simp only [] ; assumption))) kl_J_214 ⟨Nat.le_of_ble_eq_true rfl, Nat.le_of_ble_eq_true rfl, rfl, rfl⟩ ⟨Nat.le_of_ble_eq_true rfl, Nat.le_of_ble_eq_true rfl⟩ (jw_left (jw_left hP)) (hK.sub [0, 1] rfl) (va_recv hK hP (ci := 0) (q0 := 0) rfl rfl) hl.1 rfl rfl (Nat.le_of_ble_eq_true rfl) dd_J_count_48 ?_
    have hf_2 : jf_free s < 32 := jf_free_lt _
    exact jr_ret C (by first | with_reducible rfl | (simp [jf_count, jo, hw_1]; done) | (simp [show ¬ z = 0 by omega, show ¬ z = 1 by omega, show ¬ z = 2 by omega, show ¬ z = 3 by omega, show ¬ z = 4 by omega, show ¬ z = 5 by omega, show ¬ z = 6 by omega, jf_count, jo, hw_1]; done) | (simp_all [jf_count, jo]; done)) dd_J_count_51
  · skip
    refine jl_swIn (a := z) (tgt := 52) (off := 51) hx hb dd_J_count_1 (by omega) (by omega) (by omega) (by rw [hw_1]; rfl) (by decide) ?_
    refine lv_aload_n hx hb dd_J_count_52 rfl (lv_at hl 0 rfl) ?_
    refine va_get (D := G) (ci := 3) (v := .ref qI) (C := cn_J) (T := ft_J) (N := 6) hx hb hts uw_J hown hK hP 4 rfl rfl 1 (by decide) (hts _ tw_108) (fun _ h9 => h9) rfl dd_J_count_53 ?_
    refine jr_callV C (ct_I_freeInodes l G qI qD qS qC cS cC s c  (by first | assumption | (simp only [] ; assumption))) kl_J_217 ⟨Nat.le_of_ble_eq_true rfl, Nat.le_of_ble_eq_true rfl, rfl, rfl⟩ ⟨Nat.le_of_ble_eq_true rfl, Nat.le_of_ble_eq_true rfl⟩ (jw_left hP) (hK.sub [0, 1] rfl) (va_recv hK hP (ci := 2) (q0 := 3) rfl rfl) hl.1 rfl rfl (Nat.le_of_ble_eq_true rfl) dd_J_count_56 ?_
    exact jr_ret C (by first | with_reducible rfl | (simp [jf_count, jo, hw_1]; done) | (simp [show ¬ z = 0 by omega, show ¬ z = 1 by omega, show ¬ z = 2 by omega, show ¬ z = 3 by omega, show ¬ z = 4 by omega, show ¬ z = 5 by omega, show ¬ z = 6 by omega, jf_count, jo, hw_1]; done) | (simp_all [jf_count, jo]; done)) dd_J_count_59
  · skip
    refine jl_swIn (a := z) (tgt := 60) (off := 59) hx hb dd_J_count_1 (by omega) (by omega) (by omega) (by rw [hw_1]; rfl) (by decide) ?_
    refine lv_aload_n hx hb dd_J_count_60 rfl (lv_at hl 0 rfl) ?_
    refine jr_callV C (ct_J_openHandles l G qJ qH qh cH qI qD qS qC cS cC s c ho hn hg hm hp wc wd tf  (by assumption)) kl_J_220 ⟨Nat.le_of_ble_eq_true rfl, Nat.le_of_ble_eq_true rfl, rfl, rfl⟩ ⟨Nat.le_of_ble_eq_true rfl, Nat.le_of_ble_eq_true rfl⟩ (hP) (hK) (va_recv hK hP (ci := 3) (q0 := 4) rfl rfl) hl.1 rfl rfl (Nat.le_of_ble_eq_true rfl) dd_J_count_61 ?_
    exact jr_ret C (by first | with_reducible rfl | (simp [jf_count, jo, hw_1]; done) | (simp [show ¬ z = 0 by omega, show ¬ z = 1 by omega, show ¬ z = 2 by omega, show ¬ z = 3 by omega, show ¬ z = 4 by omega, show ¬ z = 5 by omega, show ¬ z = 6 by omega, jf_count, jo, hw_1]; done) | (simp_all [jf_count, jo]; done)) dd_J_count_64
  · skip
    refine jl_swIn (a := z) (tgt := 65) (off := 64) hx hb dd_J_count_1 (by omega) (by omega) (by omega) (by rw [hw_1]; rfl) (by decide) ?_
    refine lv_aload_n hx hb dd_J_count_65 rfl (lv_at hl 0 rfl) ?_
    refine va_get (D := G) (ci := 3) (v := .ref qD) (C := cn_J) (T := ft_J) (N := 6) hx hb hts uw_J hown hK hP 4 rfl rfl 0 (by decide) (hts _ tw_107) (fun _ h9 => h9) rfl dd_J_count_66 ?_
    refine jr_callV C (ct_D_differingBlocks l G qD qS qC cS cC s c  (by first | assumption | (simp only [] ; assumption)) (by first | assumption | (simp only [] ; assumption))) kl_J_194 ⟨Nat.le_of_ble_eq_true rfl, Nat.le_of_ble_eq_true rfl, rfl, rfl⟩ ⟨Nat.le_of_ble_eq_true rfl, Nat.le_of_ble_eq_true rfl⟩ (jw_left (jw_left hP)) (hK.sub [0, 1] rfl) (va_recv hK hP (ci := 0) (q0 := 0) rfl rfl) hl.1 rfl rfl (Nat.le_of_ble_eq_true rfl) dd_J_count_69 ?_
    have hf_3 : jf_differing s c ≤ 40 := jf_differing_le _ _
    exact jr_ret C (by first | with_reducible rfl | (simp [jf_count, jo, hw_1]; done) | (simp [show ¬ z = 0 by omega, show ¬ z = 1 by omega, show ¬ z = 2 by omega, show ¬ z = 3 by omega, show ¬ z = 4 by omega, show ¬ z = 5 by omega, show ¬ z = 6 by omega, jf_count, jo, hw_1]; done) | (simp_all [jf_count, jo]; done)) dd_J_count_72
  · skip
    refine jl_swIn (a := z) (tgt := 73) (off := 72) hx hb dd_J_count_1 (by omega) (by omega) (by omega) (by rw [hw_1]; rfl) (by decide) ?_
    refine lv_aload_n hx hb dd_J_count_73 rfl (lv_at hl 0 rfl) ?_
    refine va_get (D := G) (ci := 3) (v := .int (nI (wd))) (C := cn_J) (T := ft_J) (N := 6) hx hb hts uw_J hown hK hP 4 rfl rfl 4 (by decide) (hts _ tw_111) (fun _ h9 => h9) rfl dd_J_count_74 ?_
    exact jr_ret C (by first | with_reducible rfl | (simp [jf_count, jo, hw_1]; done) | (simp [show ¬ z = 0 by omega, show ¬ z = 1 by omega, show ¬ z = 2 by omega, show ¬ z = 3 by omega, show ¬ z = 4 by omega, show ¬ z = 5 by omega, show ¬ z = 6 by omega, jf_count, jo, hw_1]; done) | (simp_all [jf_count, jo]; done)) dd_J_count_77
  · skip
    refine jl_swIn (a := z) (tgt := 78) (off := 77) hx hb dd_J_count_1 (by omega) (by omega) (by omega) (by rw [hw_1]; rfl) (by decide) ?_
    refine lv_aload_n hx hb dd_J_count_78 rfl (lv_at hl 0 rfl) ?_
    refine va_get (D := G) (ci := 3) (v := .int (nI (tf))) (C := cn_J) (T := ft_J) (N := 6) hx hb hts uw_J hown hK hP 4 rfl rfl 5 (by decide) (hts _ tw_112) (fun _ h9 => h9) rfl dd_J_count_79 ?_
    exact jr_ret C (by first | with_reducible rfl | (simp [jf_count, jo, hw_1]; done) | (simp [show ¬ z = 0 by omega, show ¬ z = 1 by omega, show ¬ z = 2 by omega, show ¬ z = 3 by omega, show ¬ z = 4 by omega, show ¬ z = 5 by omega, show ¬ z = 6 by omega, jf_count, jo, hw_1]; done) | (simp_all [jf_count, jo]; done)) dd_J_count_82
  · skip
    refine jl_swIn (a := z) (tgt := 83) (off := 82) hx hb dd_J_count_1 (by omega) (by omega) (by omega) (by rw [hw_1]; rfl) (by decide) ?_
    refine lv_aload_n hx hb dd_J_count_83 rfl (lv_at hl 0 rfl) ?_
    refine jr_callV C (ct_J_staleHandles l G qJ qH qh cH qI qD qS qC cS cC s c ho hn hg hm hp wc wd tf  (by first | assumption | (simp only [] ; assumption)) (by assumption) (by assumption) (by assumption) (by assumption) (by assumption)) kl_J_226 ⟨Nat.le_of_ble_eq_true rfl, Nat.le_of_ble_eq_true rfl, rfl, rfl⟩ ⟨Nat.le_of_ble_eq_true rfl, Nat.le_of_ble_eq_true rfl⟩ (hP) (hK) (va_recv hK hP (ci := 3) (q0 := 4) rfl rfl) hl.1 rfl rfl (Nat.le_of_ble_eq_true rfl) dd_J_count_84 ?_
    exact jr_ret C (by first | with_reducible rfl | (simp [jf_count, jo, hw_1]; done) | (simp [show ¬ z = 0 by omega, show ¬ z = 1 by omega, show ¬ z = 2 by omega, show ¬ z = 3 by omega, show ¬ z = 4 by omega, show ¬ z = 5 by omega, show ¬ z = 6 by omega, jf_count, jo, hw_1]; done) | (simp_all [jf_count, jo]; done)) dd_J_count_87
  · skip
    refine jl_swOut32 (a := z) (tgt := 88) hx hb dd_J_count_1 (by omega) (by omega) (by decide) ?_
    refine lv_iconst (v := -1) hx hb dd_J_count_88 (by decide) ?_
    exact jr_ret C (by first | with_reducible rfl | (simp [jf_count, jo, hw_1]; done) | (simp [show ¬ z = 0 by omega, show ¬ z = 1 by omega, show ¬ z = 2 by omega, show ¬ z = 3 by omega, show ¬ z = 4 by omega, show ¬ z = 5 by omega, show ¬ z = 6 by omega, jf_count, jo, hw_1]; done) | (simp_all [jf_count, jo]; done)) dd_J_count_89
set_option maxHeartbeats 4000000 in
set_option maxRecDepth 100000 in
theorem ct_J_truncate (l : Launch) (hl9 : l.stackTraces = false) (G : va_G) (qJ qH : Nat) (qh : Nat → Nat) (cH : ClassId) (qI qD qS qC : Nat) (cS cC : ClassId) (s : Nat → Nat) (c : Nat → Nat) (ho : Nat → Nat) (hn : Nat → Nat) (hg : Nat → Nat) (hm : Nat → Nat) (hp : Nat → Nat) (wc : Nat) (wd : Nat) (tf : Nat) (u : Nat) (z : Nat) (hu0 : u < 4294967296) (hz0 : z < 4294967296) (hs : jf_ok s) : jt l yn_J_truncate (.code yn_J_truncate cd_J_truncate 4 none) { frames := 7, cells := 5, slots := 30, locals := 156 } G (tJ cS cC cH) (wJ qJ qH qh cH qI qD qS qC cS cC s c ho hn hg hm hp wc wd tf) [.ref qJ, .int (nI (u)), .int (nI (z))] (fun o w => (jf_truT s u z) = 0 ∧ o = none ∧ w = (wJ qJ qH qh cH qI qD qS qC cS cC (jf_resize s ((jf_inodeAt s u).getD 0) z) c ho hn hg hm hp wc wd tf)) (fun E w => ¬ (jf_truT s u z) = 0 ∧ E = jex (jf_truT s u z) ∧ w = (wJ qJ qH qh cH qI qD qS qC cS cC s c ho hn hg hm hp wc wd tf)) := by
  refine jt_of (by decide) (Nat.le_of_ble_eq_true rfl) ?_
  intro pr en σ mi bel met cd ls A hA C htb hz hP hK hD hS hl
  have hx := C.1
  have hb := C.2.1
  have hown := C.2.2.2.1
  have hts := C.2.2.2.2.1
  have hl : lv_has ls 4 [(0, .ref qJ), (1, .int (nI (u))), (2, .int (nI (z)))] := hl
  refine lv_iload_n hx hb dd_J_truncate_0 rfl (lv_at hl 1 rfl) ?_
  refine jt_callS (wr := wJ qJ qH qh cH qI qD qS qC cS cC s c ho hn hg hm hp wc wd tf) C hz (ct_J_checkPath l hl9 G u (by omega)) kl_J_39 ⟨Nat.le_of_ble_eq_true rfl, Nat.le_of_ble_eq_true rfl⟩ ⟨Nat.le_of_ble_eq_true rfl, Nat.le_of_ble_eq_true rfl⟩ hP hD hS hA (hK.sub [] rfl) hl.1 rfl rfl (Nat.le_of_ble_eq_true rfl) dd_J_truncate_1 (fun E w1 H1 locs1 q9 ce hxx hP hD hS g1 g2 g3 => ?_) (fun o w1 H locs hxx hP hD hS => ?_)
  · obtain ⟨hx_1, rfl, rfl⟩ := hxx
    exact jt_out htb C ⟨by first | (simp [jf_truT, hx_1]; done), by first | (simp [jf_truT, hx_1]; done), rfl⟩ hP hD hK hS ⟨Nat.le_of_ble_eq_true rfl, Nat.le_of_ble_eq_true rfl⟩ g1 g2 g3
  · obtain ⟨hx_1, rfl, rfl⟩ := hxx
    have hP : va_P G jcl (wJ qJ qH qh cH qI qD qS qC cS cC s c ho hn hg hm hp wc wd tf) H := hP
    have hD : va_D A (wJ qJ qH qh cH qI qD qS qC cS cC s c ho hn hg hm hp wc wd tf) := hD
    refine lv_iload_n hx hb dd_J_truncate_4 rfl (lv_at hl 2 rfl) ?_
    refine lv_iconst (v := nI 0) hx hb dd_J_truncate_5 (by decide) ?_
    refine lv_bipush (v := nI 64) hx hb dd_J_truncate_6 (by decide) ?_
    refine jt_callS (wr := wJ qJ qH qh cH qI qD qS qC cS cC s c ho hn hg hm hp wc wd tf) C hz (ct_J_checkRange l hl9 G z 0 64 (by omega) (by omega) (by omega)) kl_J_64 ⟨Nat.le_of_ble_eq_true rfl, Nat.le_of_ble_eq_true rfl⟩ ⟨Nat.le_of_ble_eq_true rfl, Nat.le_of_ble_eq_true rfl⟩ hP hD hS hA (hK.sub [] rfl) hl.1 rfl rfl (Nat.le_of_ble_eq_true rfl) dd_J_truncate_8 (fun E w1 H1 locs1 q9 ce hxx hP hD hS g1 g2 g3 => ?_) (fun o w1 H locs hxx hP hD hS => ?_)
    · obtain ⟨hx_3, rfl, rfl⟩ := hxx
      exact jt_out htb C ⟨by first | (simp [jf_truT, hx_1, hx_3]; done), by first | (simp [jf_truT, hx_1, hx_3]; done), rfl⟩ hP hD hK hS ⟨Nat.le_of_ble_eq_true rfl, Nat.le_of_ble_eq_true rfl⟩ g1 g2 g3
    · obtain ⟨hx_3, rfl, rfl⟩ := hxx
      have hP : va_P G jcl (wJ qJ qH qh cH qI qD qS qC cS cC s c ho hn hg hm hp wc wd tf) H := hP
      have hD : va_D A (wJ qJ qH qh cH qI qD qS qC cS cC s c ho hn hg hm hp wc wd tf) := hD
      have hf_2 : 0 ≤ z ∧ z ≤ 64 := jf_rng_0 hx_3
      refine lv_aload_n hx hb dd_J_truncate_11 rfl (lv_at hl 0 rfl) ?_
      refine lv_iload_n hx hb dd_J_truncate_12 rfl (lv_at hl 1 rfl) ?_
      refine jt_callV (wr := []) C hz (ct_J_inodeNeeded l hl9 G qJ qH qh cH qI qD qS qC cS cC s c ho hn hg hm hp wc wd tf u (by omega) (by first | assumption | (simp only [] ; assumption))) kl_J_154 ⟨Nat.le_of_ble_eq_true rfl, Nat.le_of_ble_eq_true rfl⟩ ⟨Nat.le_of_ble_eq_true rfl, Nat.le_of_ble_eq_true rfl⟩ hP hD hS hA (hK) (va_recv hK hP (ci := 3) (q0 := 4) rfl rfl) hl.1 rfl rfl (Nat.le_of_ble_eq_true rfl) dd_J_truncate_13 (fun E w1 H1 locs1 q9 ce hxx hP hD hS g1 g2 g3 => ?_) (fun o w1 H locs hxx hP hD hS => ?_)
      · obtain ⟨hx_5, rfl, rfl⟩ := hxx
        exact jt_out htb C ⟨by first | (simp [jf_truT, hx_1, hx_3, hx_5]; done), by first | (simp [jf_truT, hx_1, hx_3, hx_5]; done), rfl⟩ hP hD hK hS ⟨Nat.le_of_ble_eq_true rfl, Nat.le_of_ble_eq_true rfl⟩ g1 g2 g3
      · obtain ⟨hx_5, rfl, rfl⟩ := hxx
        have hP : va_P G jcl (wJ qJ qH qh cH qI qD qS qC cS cC s c ho hn hg hm hp wc wd tf) H := hP
        have hD : va_D A (wJ qJ qH qh cH qI qD qS qC cS cC s c ho hn hg hm hp wc wd tf) := hD
        have hf_4 : (jf_inodeAt s u).getD 0 < 256 := jf_getD_lt (by assumption) _
        refine lv_istore_n (lv' := [(3, .int (nI ((jf_inodeAt s u).getD 0))), (0, .ref qJ), (1, .int (nI (u))), (2, .int (nI (z)))]) hx hb dd_J_truncate_16 rfl hl (by decide) rfl (fun ls hl => ?_)
        refine lv_aload_n hx hb dd_J_truncate_17 rfl (lv_at hl 1 rfl) ?_
        refine va_get (D := G) (ci := 3) (v := .ref qI) (C := cn_J) (T := ft_J) (N := 6) hx hb hts uw_J hown hK hP 4 rfl rfl 1 (by decide) (hts _ tw_108) (fun _ h9 => h9) rfl dd_J_truncate_18 ?_
        refine lv_iload_n hx hb dd_J_truncate_21 rfl (lv_at hl 0 rfl) ?_
        refine jr_callV C (ct_I_kind l G qI qD qS qC cS cC s c ((jf_inodeAt s u).getD 0) (by omega) (by first | assumption | (simp only [] ; assumption))) kl_J_85 ⟨Nat.le_of_ble_eq_true rfl, Nat.le_of_ble_eq_true rfl, rfl, rfl⟩ ⟨Nat.le_of_ble_eq_true rfl, Nat.le_of_ble_eq_true rfl⟩ (jw_left hP) (hK.sub [0, 1] rfl) (va_recv hK hP (ci := 2) (q0 := 3) rfl rfl) hl.1 rfl rfl (Nat.le_of_ble_eq_true rfl) dd_J_truncate_22 ?_
        have hf_6 : jf_kind s ((jf_inodeAt s u).getD 0) < 256 := jf_get_lt (by assumption) _
        refine lv_iconst (v := nI 1) hx hb dd_J_truncate_25 (by decide) ?_
        refine jl_eq (tgt := 39) hx hb (by omega) (by omega) dd_J_truncate_26 (by decide) (fun c_7 => ?_) (fun c_7 => ?_)
        · skip
          refine lv_aload_n hx hb dd_J_truncate_39 rfl (lv_at hl 1 rfl) ?_
          refine lv_iload_n hx hb dd_J_truncate_40 rfl (lv_at hl 0 rfl) ?_
          refine lv_iload_n hx hb dd_J_truncate_41 rfl (lv_at hl 3 rfl) ?_
          refine jt_callV (wr := []) C hz (ct_J_checkRoomForSize l hl9 G qJ qH qh cH qI qD qS qC cS cC s c ho hn hg hm hp wc wd tf ((jf_inodeAt s u).getD 0) z (by omega) (by omega) (by first | assumption | (simp only [] ; assumption))) kl_J_127 ⟨Nat.le_of_ble_eq_true rfl, Nat.le_of_ble_eq_true rfl⟩ ⟨Nat.le_of_ble_eq_true rfl, Nat.le_of_ble_eq_true rfl⟩ hP hD hS hA (hK) (va_recv hK hP (ci := 3) (q0 := 4) rfl rfl) hl.1 rfl rfl (Nat.le_of_ble_eq_true rfl) dd_J_truncate_42 (fun E w1 H1 locs1 q9 ce hxx hP hD hS g1 g2 g3 => ?_) (fun o w1 H locs hxx hP hD hS => ?_)
          · obtain ⟨hx_8, rfl, rfl⟩ := hxx
            exact jt_out htb C ⟨by first | (simp [jf_truT, hx_1, hx_3, hx_5, c_7, hx_8]; done), by first | (simp [jf_truT, hx_1, hx_3, hx_5, c_7, hx_8]; done), rfl⟩ hP hD hK hS ⟨Nat.le_of_ble_eq_true rfl, Nat.le_of_ble_eq_true rfl⟩ g1 g2 g3
          · obtain ⟨hx_8, rfl, rfl⟩ := hxx
            have hP : va_P G jcl (wJ qJ qH qh cH qI qD qS qC cS cC s c ho hn hg hm hp wc wd tf) H := hP
            have hD : va_D A (wJ qJ qH qh cH qI qD qS qC cS cC s c ho hn hg hm hp wc wd tf) := hD
            refine lv_aload_n hx hb dd_J_truncate_45 rfl (lv_at hl 1 rfl) ?_
            refine va_get (D := G) (ci := 3) (v := .ref qI) (C := cn_J) (T := ft_J) (N := 6) hx hb hts uw_J hown hK hP 4 rfl rfl 1 (by decide) (hts _ tw_108) (fun _ h9 => h9) rfl dd_J_truncate_46 ?_
            refine lv_iload_n hx hb dd_J_truncate_49 rfl (lv_at hl 0 rfl) ?_
            refine lv_iload_n hx hb dd_J_truncate_50 rfl (lv_at hl 3 rfl) ?_
            refine jm_callV (wr := [(qJ, .inr (3, [.ref qD, .ref qI, .ref qH, .int (nI wc), .int (nI wd), .int (nI tf)])), (qH, .inl (cH, 6, .inr (.inr (.inr (.inr (fun k => some (qh k))))))), jh qh ho hn hg hm hp 0, jh qh ho hn hg hm hp 1, jh qh ho hn hg hm hp 2, jh qh ho hn hg hm hp 3, jh qh ho hn hg hm hp 4, jh qh ho hn hg hm hp 5]) C (ct_I_resize l G qI qD qS qC cS cC s c ((jf_inodeAt s u).getD 0) z (by omega) (by omega) (by first | assumption | (simp only [] ; assumption))) kl_J_93 ⟨Nat.le_of_ble_eq_true rfl, Nat.le_of_ble_eq_true rfl⟩ ⟨Nat.le_of_ble_eq_true rfl, Nat.le_of_ble_eq_true rfl⟩ hP hD hS hA (hK.sub [0, 1] rfl) (va_recv hK hP (ci := 2) (q0 := 3) rfl rfl) hl.1 rfl rfl (Nat.le_of_ble_eq_true rfl) dd_J_truncate_51 (fun H locs hP hD hS => ?_)
            have hP : va_P G jcl (wJ qJ qH qh cH qI qD qS qC cS cC (jf_resize s ((jf_inodeAt s u).getD 0) z) c ho hn hg hm hp wc wd tf) H := hP
            have hD : va_D A (wJ qJ qH qh cH qI qD qS qC cS cC (jf_resize s ((jf_inodeAt s u).getD 0) z) c ho hn hg hm hp wc wd tf) := hD
            have hf_9 : jf_ok (jf_resize s ((jf_inodeAt s u).getD 0) z) := jf_resize_ok (by assumption) _ (by omega)
            exact jt_retv C ⟨by first | (simp [jf_truT, hx_1, hx_3, hx_5, c_7, hx_8]; done), rfl, rfl⟩ hP hD hK hS ⟨Nat.le_of_ble_eq_true rfl, Nat.le_of_ble_eq_true rfl⟩ dd_J_truncate_54
        · skip
          exact tt_ISES (is := 189) (text := "no file") hl9 htb C hz (by decide +kernel) ⟨by first | (simp [jf_truT, hx_1, hx_3, hx_5, c_7, jex]; done), by first | (simp [jf_truT, hx_1, hx_3, hx_5, c_7, jex]; done), rfl⟩ hP hD hK hS hl.1 dd_J_truncate_29 dd_J_truncate_32 dd_J_truncate_33 dd_J_truncate_35 dd_J_truncate_38 ⟨Nat.le_of_ble_eq_true rfl, Nat.le_of_ble_eq_true rfl, Nat.le_of_ble_eq_true rfl, Nat.le_of_ble_eq_true rfl⟩ ⟨Nat.le_of_ble_eq_true rfl, Nat.le_of_ble_eq_true rfl⟩
set_option maxHeartbeats 4000000 in
set_option maxRecDepth 100000 in
theorem ct_J_commit (l : Launch) (hl9 : l.stackTraces = false) (G : va_G) (qJ qH : Nat) (qh : Nat → Nat) (cH : ClassId) (qI qD qS qC : Nat) (cS cC : ClassId) (s : Nat → Nat) (c : Nat → Nat) (ho : Nat → Nat) (hn : Nat → Nat) (hg : Nat → Nat) (hm : Nat → Nat) (hp : Nat → Nat) (wc : Nat) (wd : Nat) (tf : Nat)  (hw0 : wd < 1000000) (hc0 : wc ≤ 100) (ht0 : tf < 1000000) (hs : jf_ok s) (hc : jf_ok c) : jt l yn_J_commit (.code yn_J_commit cd_J_commit 5 (some .int)) { frames := 6, cells := 1, slots := 6, locals := 90 } G (tJ cS cC cH) (wJ qJ qH qh cH qI qD qS qC cS cC s c ho hn hg hm hp wc wd tf) [.ref qJ] (fun o w => (jf_cT (jf_differing s c) wc) = 0 ∧ o = (some (.int (nI (jf_cmJ (jf_differing s c) + jf_differing s c)))) ∧ w = (wJ qJ qH qh cH qI qD qS qC cS cC s (jf_cpy s c) ho hn hg hm hp (if wc = 0 then 0 else wc - (jf_cmJ (jf_differing s c) + jf_differing s c)) (wd + (jf_cmJ (jf_differing s c) + jf_differing s c)) tf)) (fun E w => ¬ (jf_cT (jf_differing s c) wc) = 0 ∧ E = jex (jf_cT (jf_differing s c) wc) ∧ w = (wJ qJ qH qh cH qI qD qS qC cS cC (jf_cpy (if jf_cmJ (jf_differing s c) < wc then jf_cpy s c else c) s) (if jf_cmJ (jf_differing s c) < wc then jf_cpy s c else c) (jf_lpL 6 0 ho) hn hg hm hp 0 (wd + (wc - 1)) (tf + 1))) := by
  refine jt_of (by decide) (Nat.le_of_ble_eq_true rfl) ?_
  intro pr en σ mi bel met cd ls A hA C htb hz hP hK hD hS hl
  have hx := C.1
  have hb := C.2.1
  have hown := C.2.2.2.1
  have hts := C.2.2.2.2.1
  have hl : lv_has ls 5 [(0, .ref qJ)] := hl
  refine lv_aload_n hx hb dd_J_commit_0 rfl (lv_at hl 0 rfl) ?_
  refine va_get (D := G) (ci := 3) (v := .ref qD) (C := cn_J) (T := ft_J) (N := 6) hx hb hts uw_J hown hK hP 4 rfl rfl 0 (by decide) (hts _ tw_107) (fun _ h9 => h9) rfl dd_J_commit_1 ?_
  refine jr_callV C (ct_D_differingBlocks l G qD qS qC cS cC s c  (by first | assumption | (simp only [] ; assumption)) (by first | assumption | (simp only [] ; assumption))) kl_J_194 ⟨Nat.le_of_ble_eq_true rfl, Nat.le_of_ble_eq_true rfl, rfl, rfl⟩ ⟨Nat.le_of_ble_eq_true rfl, Nat.le_of_ble_eq_true rfl⟩ (jw_left (jw_left hP)) (hK.sub [0, 1] rfl) (va_recv hK hP (ci := 0) (q0 := 0) rfl rfl) hl.1 rfl rfl (Nat.le_of_ble_eq_true rfl) dd_J_commit_4 ?_
  have hf_1 : jf_differing s c ≤ 40 := jf_differing_le _ _
  refine lv_istore_n (lv' := [(1, .int (nI (jf_differing s c))), (0, .ref qJ)]) hx hb dd_J_commit_7 rfl hl (by decide) rfl (fun ls hl => ?_)
  refine lv_iload_n hx hb dd_J_commit_8 rfl (lv_at hl 0 rfl) ?_
  refine jl_ifne (tgt := 16) hx hb (by omega) dd_J_commit_9 (by decide) (fun c_2 => ?_) (fun c_2 => ?_)
  · skip
    refine lv_iload_n hx hb dd_J_commit_16 rfl (lv_at hl 0 rfl) ?_
    refine lv_iconst (v := nI 1) hx hb dd_J_commit_17 (by decide) ?_
    refine jl_iadd hx hb dd_J_commit_18 ?_
    refine lv_istore_n (lv' := [(2, .int (nI ((jf_differing s c) + 1))), (1, .int (nI (jf_differing s c))), (0, .ref qJ)]) hx hb dd_J_commit_19 rfl hl (by decide) rfl (fun ls hl => ?_)
    refine lv_iload_n hx hb dd_J_commit_20 rfl (lv_at hl 0 rfl) ?_
    refine lv_iload_n hx hb dd_J_commit_21 rfl (lv_at hl 1 rfl) ?_
    refine jl_iadd hx hb dd_J_commit_22 ?_
    refine lv_istore_n (lv' := [(3, .int (nI (((jf_differing s c) + 1) + (jf_differing s c)))), (2, .int (nI ((jf_differing s c) + 1))), (1, .int (nI (jf_differing s c))), (0, .ref qJ)]) hx hb dd_J_commit_23 rfl hl (by decide) rfl (fun ls hl => ?_)
    refine lv_aload_n hx hb dd_J_commit_24 rfl (lv_at hl 3 rfl) ?_
    refine va_get (D := G) (ci := 3) (v := .int (nI (wc))) (C := cn_J) (T := ft_J) (N := 6) hx hb hts uw_J hown hK hP 4 rfl rfl 3 (by decide) (hts _ tw_110) (fun _ h9 => h9) rfl dd_J_commit_25 ?_
    refine jl_ifle (tgt := 100) hx hb (by omega) dd_J_commit_28 (by decide) (fun c_3 => ?_) (fun c_3 => ?_)
    · skip
      refine lv_aload_n hx hb dd_J_commit_100 rfl (lv_at hl 3 rfl) ?_
      refine va_get (D := G) (ci := 3) (v := .int (nI (wc))) (C := cn_J) (T := ft_J) (N := 6) hx hb hts uw_J hown hK hP 4 rfl rfl 3 (by decide) (hts _ tw_110) (fun _ h9 => h9) rfl dd_J_commit_101 ?_
      refine jl_ifle (tgt := 117) hx hb (by omega) dd_J_commit_104 (by decide) (fun c_4 => ?_) (fun c_4 => ?_)
      · skip
        refine lv_aload_n hx hb dd_J_commit_117 rfl (lv_at hl 3 rfl) ?_
        refine lv_dup hx hb dd_J_commit_118 rfl ?_
        refine va_get (D := G) (ci := 3) (v := .int (nI (wd))) (C := cn_J) (T := ft_J) (N := 6) hx hb hts uw_J hown hK hP 4 rfl rfl 4 (by decide) (hts _ tw_111) (fun _ h9 => h9) rfl dd_J_commit_119 ?_
        refine lv_iload_n hx hb dd_J_commit_122 rfl (lv_at hl 0 rfl) ?_
        refine jl_iadd hx hb dd_J_commit_123 ?_
        refine va_put (D := G) (ci := 3) (v := .int (nI (wd + (((jf_differing s c) + 1) + (jf_differing s c))))) (ty := .int) (C := cn_J) (T := ft_J) (N := 6) hx hb hts uw_J fy_J fo_J fn_J hown hK hP hD hS 4 rfl rfl 4 (by decide) (hts _ tw_111) (fun _ h9 => h9) rfl (by decide +kernel) rfl rfl (Nat.le_of_ble_eq_true rfl) dd_J_commit_124 (fun H locs hP hD hS => ?_)
        have hP : va_P G jcl (wJ qJ qH qh cH qI qD qS qC cS cC s c ho hn hg hm hp wc (wd + (((jf_differing s c) + 1) + (jf_differing s c))) tf) H := hP
        have hD : va_D A (wJ qJ qH qh cH qI qD qS qC cS cC s c ho hn hg hm hp wc (wd + (((jf_differing s c) + 1) + (jf_differing s c))) tf) := hD
        refine lv_aload_n hx hb dd_J_commit_127 rfl (lv_at hl 3 rfl) ?_
        refine va_get (D := G) (ci := 3) (v := .ref qD) (C := cn_J) (T := ft_J) (N := 6) hx hb hts uw_J hown hK hP 4 rfl rfl 0 (by decide) (hts _ tw_107) (fun _ h9 => h9) rfl dd_J_commit_128 ?_
        refine jm_callV (wr := ((qI, .inr (2, [.ref qD])) :: [(qJ, .inr (3, [.ref qD, .ref qI, .ref qH, .int (nI wc), .int (nI (wd + (((jf_differing s c) + 1) + (jf_differing s c)))), .int (nI tf)])), (qH, .inl (cH, 6, .inr (.inr (.inr (.inr (fun k => some (qh k))))))), jh qh ho hn hg hm hp 0, jh qh ho hn hg hm hp 1, jh qh ho hn hg hm hp 2, jh qh ho hn hg hm hp 3, jh qh ho hn hg hm hp 4, jh qh ho hn hg hm hp 5])) C (ct_D_keep l G qD qS qC cS cC s c  ) kl_J_36 ⟨Nat.le_of_ble_eq_true rfl, Nat.le_of_ble_eq_true rfl⟩ ⟨Nat.le_of_ble_eq_true rfl, Nat.le_of_ble_eq_true rfl⟩ hP hD hS hA (hK.sub [0, 1] rfl) (va_recv hK hP (ci := 0) (q0 := 0) rfl rfl) hl.1 rfl rfl (Nat.le_of_ble_eq_true rfl) dd_J_commit_131 (fun H locs hP hD hS => ?_)
        have hP : va_P G jcl (wJ qJ qH qh cH qI qD qS qC cS cC s (jf_cpy s c) ho hn hg hm hp wc (wd + (((jf_differing s c) + 1) + (jf_differing s c))) tf) H := hP
        have hD : va_D A (wJ qJ qH qh cH qI qD qS qC cS cC s (jf_cpy s c) ho hn hg hm hp wc (wd + (((jf_differing s c) + 1) + (jf_differing s c))) tf) := hD
        have hf_5 : jf_ok (jf_cpy s c) := jf_cpy_ok (by assumption) (by assumption)
        refine lv_iload_n hx hb dd_J_commit_134 rfl (lv_at hl 0 rfl) ?_
        exact jt_reti C ⟨by first | (simp [jf_cT, jf_cmJ, c_2, c_3, c_4]; done) | (exfalso; omega), (by first | with_reducible rfl | (simp [jf_cT, jf_cmJ, c_2, c_3, c_4]; done) | (exfalso; omega)), (by first | with_reducible rfl | (simp [jf_cT, jf_cmJ, c_2, c_3, c_4]; done) | (exfalso; omega))⟩ hP hD hK hS ⟨Nat.le_of_ble_eq_true rfl, Nat.le_of_ble_eq_true rfl⟩ dd_J_commit_135
      · skip
        refine lv_aload_n hx hb dd_J_commit_107 rfl (lv_at hl 3 rfl) ?_
        refine lv_dup hx hb dd_J_commit_108 rfl ?_
        refine va_get (D := G) (ci := 3) (v := .int (nI (wc))) (C := cn_J) (T := ft_J) (N := 6) hx hb hts uw_J hown hK hP 4 rfl rfl 3 (by decide) (hts _ tw_110) (fun _ h9 => h9) rfl dd_J_commit_109 ?_
        refine lv_iload_n hx hb dd_J_commit_112 rfl (lv_at hl 0 rfl) ?_
        refine jl_isub hx hb (by omega) dd_J_commit_113 ?_
        refine va_put (D := G) (ci := 3) (v := .int (nI (wc - (((jf_differing s c) + 1) + (jf_differing s c))))) (ty := .int) (C := cn_J) (T := ft_J) (N := 6) hx hb hts uw_J fy_J fo_J fn_J hown hK hP hD hS 4 rfl rfl 3 (by decide) (hts _ tw_110) (fun _ h9 => h9) rfl (by decide +kernel) rfl rfl (Nat.le_of_ble_eq_true rfl) dd_J_commit_114 (fun H locs hP hD hS => ?_)
        have hP : va_P G jcl (wJ qJ qH qh cH qI qD qS qC cS cC s c ho hn hg hm hp (wc - (((jf_differing s c) + 1) + (jf_differing s c))) wd tf) H := hP
        have hD : va_D A (wJ qJ qH qh cH qI qD qS qC cS cC s c ho hn hg hm hp (wc - (((jf_differing s c) + 1) + (jf_differing s c))) wd tf) := hD
        refine lv_aload_n hx hb dd_J_commit_117 rfl (lv_at hl 3 rfl) ?_
        refine lv_dup hx hb dd_J_commit_118 rfl ?_
        refine va_get (D := G) (ci := 3) (v := .int (nI (wd))) (C := cn_J) (T := ft_J) (N := 6) hx hb hts uw_J hown hK hP 4 rfl rfl 4 (by decide) (hts _ tw_111) (fun _ h9 => h9) rfl dd_J_commit_119 ?_
        refine lv_iload_n hx hb dd_J_commit_122 rfl (lv_at hl 0 rfl) ?_
        refine jl_iadd hx hb dd_J_commit_123 ?_
        refine va_put (D := G) (ci := 3) (v := .int (nI (wd + (((jf_differing s c) + 1) + (jf_differing s c))))) (ty := .int) (C := cn_J) (T := ft_J) (N := 6) hx hb hts uw_J fy_J fo_J fn_J hown hK hP hD hS 4 rfl rfl 4 (by decide) (hts _ tw_111) (fun _ h9 => h9) rfl (by decide +kernel) rfl rfl (Nat.le_of_ble_eq_true rfl) dd_J_commit_124 (fun H locs hP hD hS => ?_)
        have hP : va_P G jcl (wJ qJ qH qh cH qI qD qS qC cS cC s c ho hn hg hm hp (wc - (((jf_differing s c) + 1) + (jf_differing s c))) (wd + (((jf_differing s c) + 1) + (jf_differing s c))) tf) H := hP
        have hD : va_D A (wJ qJ qH qh cH qI qD qS qC cS cC s c ho hn hg hm hp (wc - (((jf_differing s c) + 1) + (jf_differing s c))) (wd + (((jf_differing s c) + 1) + (jf_differing s c))) tf) := hD
        refine lv_aload_n hx hb dd_J_commit_127 rfl (lv_at hl 3 rfl) ?_
        refine va_get (D := G) (ci := 3) (v := .ref qD) (C := cn_J) (T := ft_J) (N := 6) hx hb hts uw_J hown hK hP 4 rfl rfl 0 (by decide) (hts _ tw_107) (fun _ h9 => h9) rfl dd_J_commit_128 ?_
        refine jm_callV (wr := ((qI, .inr (2, [.ref qD])) :: [(qJ, .inr (3, [.ref qD, .ref qI, .ref qH, .int (nI (wc - (((jf_differing s c) + 1) + (jf_differing s c)))), .int (nI (wd + (((jf_differing s c) + 1) + (jf_differing s c)))), .int (nI tf)])), (qH, .inl (cH, 6, .inr (.inr (.inr (.inr (fun k => some (qh k))))))), jh qh ho hn hg hm hp 0, jh qh ho hn hg hm hp 1, jh qh ho hn hg hm hp 2, jh qh ho hn hg hm hp 3, jh qh ho hn hg hm hp 4, jh qh ho hn hg hm hp 5])) C (ct_D_keep l G qD qS qC cS cC s c  ) kl_J_36 ⟨Nat.le_of_ble_eq_true rfl, Nat.le_of_ble_eq_true rfl⟩ ⟨Nat.le_of_ble_eq_true rfl, Nat.le_of_ble_eq_true rfl⟩ hP hD hS hA (hK.sub [0, 1] rfl) (va_recv hK hP (ci := 0) (q0 := 0) rfl rfl) hl.1 rfl rfl (Nat.le_of_ble_eq_true rfl) dd_J_commit_131 (fun H locs hP hD hS => ?_)
        have hP : va_P G jcl (wJ qJ qH qh cH qI qD qS qC cS cC s (jf_cpy s c) ho hn hg hm hp (wc - (((jf_differing s c) + 1) + (jf_differing s c))) (wd + (((jf_differing s c) + 1) + (jf_differing s c))) tf) H := hP
        have hD : va_D A (wJ qJ qH qh cH qI qD qS qC cS cC s (jf_cpy s c) ho hn hg hm hp (wc - (((jf_differing s c) + 1) + (jf_differing s c))) (wd + (((jf_differing s c) + 1) + (jf_differing s c))) tf) := hD
        have hf_6 : jf_ok (jf_cpy s c) := jf_cpy_ok (by assumption) (by assumption)
        refine lv_iload_n hx hb dd_J_commit_134 rfl (lv_at hl 0 rfl) ?_
        exact jt_reti C ⟨by first | (simp [jf_cT, jf_cmJ, c_2, c_3, c_4]; done) | (exfalso; omega), (by first | with_reducible rfl | (simp [jf_cT, jf_cmJ, c_2, c_3, c_4]; done) | (exfalso; omega)), (by first | with_reducible rfl | (simp [jf_cT, jf_cmJ, c_2, c_3, c_4]; done) | (exfalso; omega))⟩ hP hD hK hS ⟨Nat.le_of_ble_eq_true rfl, Nat.le_of_ble_eq_true rfl⟩ dd_J_commit_135
    · skip
      refine lv_aload_n hx hb dd_J_commit_31 rfl (lv_at hl 3 rfl) ?_
      refine va_get (D := G) (ci := 3) (v := .int (nI (wc))) (C := cn_J) (T := ft_J) (N := 6) hx hb hts uw_J hown hK hP 4 rfl rfl 3 (by decide) (hts _ tw_110) (fun _ h9 => h9) rfl dd_J_commit_32 ?_
      refine lv_iload_n hx hb dd_J_commit_35 rfl (lv_at hl 0 rfl) ?_
      refine jl_gt (tgt := 100) hx hb (by omega) (by omega) dd_J_commit_36 (by decide) (fun c_7 => ?_) (fun c_7 => ?_)
      · skip
        refine lv_aload_n hx hb dd_J_commit_100 rfl (lv_at hl 3 rfl) ?_
        refine va_get (D := G) (ci := 3) (v := .int (nI (wc))) (C := cn_J) (T := ft_J) (N := 6) hx hb hts uw_J hown hK hP 4 rfl rfl 3 (by decide) (hts _ tw_110) (fun _ h9 => h9) rfl dd_J_commit_101 ?_
        refine jl_ifle (tgt := 117) hx hb (by omega) dd_J_commit_104 (by decide) (fun c_8 => ?_) (fun c_8 => ?_)
        · skip
          refine lv_aload_n hx hb dd_J_commit_117 rfl (lv_at hl 3 rfl) ?_
          refine lv_dup hx hb dd_J_commit_118 rfl ?_
          refine va_get (D := G) (ci := 3) (v := .int (nI (wd))) (C := cn_J) (T := ft_J) (N := 6) hx hb hts uw_J hown hK hP 4 rfl rfl 4 (by decide) (hts _ tw_111) (fun _ h9 => h9) rfl dd_J_commit_119 ?_
          refine lv_iload_n hx hb dd_J_commit_122 rfl (lv_at hl 0 rfl) ?_
          refine jl_iadd hx hb dd_J_commit_123 ?_
          refine va_put (D := G) (ci := 3) (v := .int (nI (wd + (((jf_differing s c) + 1) + (jf_differing s c))))) (ty := .int) (C := cn_J) (T := ft_J) (N := 6) hx hb hts uw_J fy_J fo_J fn_J hown hK hP hD hS 4 rfl rfl 4 (by decide) (hts _ tw_111) (fun _ h9 => h9) rfl (by decide +kernel) rfl rfl (Nat.le_of_ble_eq_true rfl) dd_J_commit_124 (fun H locs hP hD hS => ?_)
          have hP : va_P G jcl (wJ qJ qH qh cH qI qD qS qC cS cC s c ho hn hg hm hp wc (wd + (((jf_differing s c) + 1) + (jf_differing s c))) tf) H := hP
          have hD : va_D A (wJ qJ qH qh cH qI qD qS qC cS cC s c ho hn hg hm hp wc (wd + (((jf_differing s c) + 1) + (jf_differing s c))) tf) := hD
          refine lv_aload_n hx hb dd_J_commit_127 rfl (lv_at hl 3 rfl) ?_
          refine va_get (D := G) (ci := 3) (v := .ref qD) (C := cn_J) (T := ft_J) (N := 6) hx hb hts uw_J hown hK hP 4 rfl rfl 0 (by decide) (hts _ tw_107) (fun _ h9 => h9) rfl dd_J_commit_128 ?_
          refine jm_callV (wr := ((qI, .inr (2, [.ref qD])) :: [(qJ, .inr (3, [.ref qD, .ref qI, .ref qH, .int (nI wc), .int (nI (wd + (((jf_differing s c) + 1) + (jf_differing s c)))), .int (nI tf)])), (qH, .inl (cH, 6, .inr (.inr (.inr (.inr (fun k => some (qh k))))))), jh qh ho hn hg hm hp 0, jh qh ho hn hg hm hp 1, jh qh ho hn hg hm hp 2, jh qh ho hn hg hm hp 3, jh qh ho hn hg hm hp 4, jh qh ho hn hg hm hp 5])) C (ct_D_keep l G qD qS qC cS cC s c  ) kl_J_36 ⟨Nat.le_of_ble_eq_true rfl, Nat.le_of_ble_eq_true rfl⟩ ⟨Nat.le_of_ble_eq_true rfl, Nat.le_of_ble_eq_true rfl⟩ hP hD hS hA (hK.sub [0, 1] rfl) (va_recv hK hP (ci := 0) (q0 := 0) rfl rfl) hl.1 rfl rfl (Nat.le_of_ble_eq_true rfl) dd_J_commit_131 (fun H locs hP hD hS => ?_)
          have hP : va_P G jcl (wJ qJ qH qh cH qI qD qS qC cS cC s (jf_cpy s c) ho hn hg hm hp wc (wd + (((jf_differing s c) + 1) + (jf_differing s c))) tf) H := hP
          have hD : va_D A (wJ qJ qH qh cH qI qD qS qC cS cC s (jf_cpy s c) ho hn hg hm hp wc (wd + (((jf_differing s c) + 1) + (jf_differing s c))) tf) := hD
          have hf_9 : jf_ok (jf_cpy s c) := jf_cpy_ok (by assumption) (by assumption)
          refine lv_iload_n hx hb dd_J_commit_134 rfl (lv_at hl 0 rfl) ?_
          exact jt_reti C ⟨by first | (simp [jf_cT, jf_cmJ, c_2, c_3, c_7, c_8]; done) | (exfalso; omega), (by first | with_reducible rfl | (simp [jf_cT, jf_cmJ, c_2, c_3, c_7, c_8]; done) | (exfalso; omega)), (by first | with_reducible rfl | (simp [jf_cT, jf_cmJ, c_2, c_3, c_7, c_8]; done) | (exfalso; omega))⟩ hP hD hK hS ⟨Nat.le_of_ble_eq_true rfl, Nat.le_of_ble_eq_true rfl⟩ dd_J_commit_135
        · skip
          refine lv_aload_n hx hb dd_J_commit_107 rfl (lv_at hl 3 rfl) ?_
          refine lv_dup hx hb dd_J_commit_108 rfl ?_
          refine va_get (D := G) (ci := 3) (v := .int (nI (wc))) (C := cn_J) (T := ft_J) (N := 6) hx hb hts uw_J hown hK hP 4 rfl rfl 3 (by decide) (hts _ tw_110) (fun _ h9 => h9) rfl dd_J_commit_109 ?_
          refine lv_iload_n hx hb dd_J_commit_112 rfl (lv_at hl 0 rfl) ?_
          refine jl_isub hx hb (by omega) dd_J_commit_113 ?_
          refine va_put (D := G) (ci := 3) (v := .int (nI (wc - (((jf_differing s c) + 1) + (jf_differing s c))))) (ty := .int) (C := cn_J) (T := ft_J) (N := 6) hx hb hts uw_J fy_J fo_J fn_J hown hK hP hD hS 4 rfl rfl 3 (by decide) (hts _ tw_110) (fun _ h9 => h9) rfl (by decide +kernel) rfl rfl (Nat.le_of_ble_eq_true rfl) dd_J_commit_114 (fun H locs hP hD hS => ?_)
          have hP : va_P G jcl (wJ qJ qH qh cH qI qD qS qC cS cC s c ho hn hg hm hp (wc - (((jf_differing s c) + 1) + (jf_differing s c))) wd tf) H := hP
          have hD : va_D A (wJ qJ qH qh cH qI qD qS qC cS cC s c ho hn hg hm hp (wc - (((jf_differing s c) + 1) + (jf_differing s c))) wd tf) := hD
          refine lv_aload_n hx hb dd_J_commit_117 rfl (lv_at hl 3 rfl) ?_
          refine lv_dup hx hb dd_J_commit_118 rfl ?_
          refine va_get (D := G) (ci := 3) (v := .int (nI (wd))) (C := cn_J) (T := ft_J) (N := 6) hx hb hts uw_J hown hK hP 4 rfl rfl 4 (by decide) (hts _ tw_111) (fun _ h9 => h9) rfl dd_J_commit_119 ?_
          refine lv_iload_n hx hb dd_J_commit_122 rfl (lv_at hl 0 rfl) ?_
          refine jl_iadd hx hb dd_J_commit_123 ?_
          refine va_put (D := G) (ci := 3) (v := .int (nI (wd + (((jf_differing s c) + 1) + (jf_differing s c))))) (ty := .int) (C := cn_J) (T := ft_J) (N := 6) hx hb hts uw_J fy_J fo_J fn_J hown hK hP hD hS 4 rfl rfl 4 (by decide) (hts _ tw_111) (fun _ h9 => h9) rfl (by decide +kernel) rfl rfl (Nat.le_of_ble_eq_true rfl) dd_J_commit_124 (fun H locs hP hD hS => ?_)
          have hP : va_P G jcl (wJ qJ qH qh cH qI qD qS qC cS cC s c ho hn hg hm hp (wc - (((jf_differing s c) + 1) + (jf_differing s c))) (wd + (((jf_differing s c) + 1) + (jf_differing s c))) tf) H := hP
          have hD : va_D A (wJ qJ qH qh cH qI qD qS qC cS cC s c ho hn hg hm hp (wc - (((jf_differing s c) + 1) + (jf_differing s c))) (wd + (((jf_differing s c) + 1) + (jf_differing s c))) tf) := hD
          refine lv_aload_n hx hb dd_J_commit_127 rfl (lv_at hl 3 rfl) ?_
          refine va_get (D := G) (ci := 3) (v := .ref qD) (C := cn_J) (T := ft_J) (N := 6) hx hb hts uw_J hown hK hP 4 rfl rfl 0 (by decide) (hts _ tw_107) (fun _ h9 => h9) rfl dd_J_commit_128 ?_
          refine jm_callV (wr := ((qI, .inr (2, [.ref qD])) :: [(qJ, .inr (3, [.ref qD, .ref qI, .ref qH, .int (nI (wc - (((jf_differing s c) + 1) + (jf_differing s c)))), .int (nI (wd + (((jf_differing s c) + 1) + (jf_differing s c)))), .int (nI tf)])), (qH, .inl (cH, 6, .inr (.inr (.inr (.inr (fun k => some (qh k))))))), jh qh ho hn hg hm hp 0, jh qh ho hn hg hm hp 1, jh qh ho hn hg hm hp 2, jh qh ho hn hg hm hp 3, jh qh ho hn hg hm hp 4, jh qh ho hn hg hm hp 5])) C (ct_D_keep l G qD qS qC cS cC s c  ) kl_J_36 ⟨Nat.le_of_ble_eq_true rfl, Nat.le_of_ble_eq_true rfl⟩ ⟨Nat.le_of_ble_eq_true rfl, Nat.le_of_ble_eq_true rfl⟩ hP hD hS hA (hK.sub [0, 1] rfl) (va_recv hK hP (ci := 0) (q0 := 0) rfl rfl) hl.1 rfl rfl (Nat.le_of_ble_eq_true rfl) dd_J_commit_131 (fun H locs hP hD hS => ?_)
          have hP : va_P G jcl (wJ qJ qH qh cH qI qD qS qC cS cC s (jf_cpy s c) ho hn hg hm hp (wc - (((jf_differing s c) + 1) + (jf_differing s c))) (wd + (((jf_differing s c) + 1) + (jf_differing s c))) tf) H := hP
          have hD : va_D A (wJ qJ qH qh cH qI qD qS qC cS cC s (jf_cpy s c) ho hn hg hm hp (wc - (((jf_differing s c) + 1) + (jf_differing s c))) (wd + (((jf_differing s c) + 1) + (jf_differing s c))) tf) := hD
          have hf_10 : jf_ok (jf_cpy s c) := jf_cpy_ok (by assumption) (by assumption)
          refine lv_iload_n hx hb dd_J_commit_134 rfl (lv_at hl 0 rfl) ?_
          exact jt_reti C ⟨by first | (simp [jf_cT, jf_cmJ, c_2, c_3, c_7, c_8]; done) | (exfalso; omega), (by first | with_reducible rfl | (simp [jf_cT, jf_cmJ, c_2, c_3, c_7, c_8]; done) | (exfalso; omega)), (by first | with_reducible rfl | (simp [jf_cT, jf_cmJ, c_2, c_3, c_7, c_8]; done) | (exfalso; omega))⟩ hP hD hK hS ⟨Nat.le_of_ble_eq_true rfl, Nat.le_of_ble_eq_true rfl⟩ dd_J_commit_135
      · skip
        refine lv_aload_n hx hb dd_J_commit_39 rfl (lv_at hl 3 rfl) ?_
        refine va_get (D := G) (ci := 3) (v := .int (nI (wc))) (C := cn_J) (T := ft_J) (N := 6) hx hb hts uw_J hown hK hP 4 rfl rfl 3 (by decide) (hts _ tw_110) (fun _ h9 => h9) rfl dd_J_commit_40 ?_
        refine lv_iload_n hx hb dd_J_commit_43 rfl (lv_at hl 1 rfl) ?_
        refine jl_le (tgt := 51) hx hb (by omega) (by omega) dd_J_commit_44 (by decide) (fun c_11 => ?_) (fun c_11 => ?_)
        · skip
          refine lv_iconst (v := nI 0) hx hb dd_J_commit_51 (by decide) ?_
          refine lv_istore (lv' := [(4, .int (nI (0))), (3, .int (nI (((jf_differing s c) + 1) + (jf_differing s c)))), (2, .int (nI ((jf_differing s c) + 1))), (1, .int (nI (jf_differing s c))), (0, .ref qJ)]) hx hb dd_J_commit_52 hl (by decide) rfl (fun ls hl => ?_)
          refine lv_aload_n hx hb dd_J_commit_54 rfl (lv_at hl 4 rfl) ?_
          refine lv_dup hx hb dd_J_commit_55 rfl ?_
          refine va_get (D := G) (ci := 3) (v := .int (nI (wd))) (C := cn_J) (T := ft_J) (N := 6) hx hb hts uw_J hown hK hP 4 rfl rfl 4 (by decide) (hts _ tw_111) (fun _ h9 => h9) rfl dd_J_commit_56 ?_
          refine lv_aload_n hx hb dd_J_commit_59 rfl (lv_at hl 4 rfl) ?_
          refine va_get (D := G) (ci := 3) (v := .int (nI (wc))) (C := cn_J) (T := ft_J) (N := 6) hx hb hts uw_J hown hK hP 4 rfl rfl 3 (by decide) (hts _ tw_110) (fun _ h9 => h9) rfl dd_J_commit_60 ?_
          refine lv_iconst (v := nI 1) hx hb dd_J_commit_63 (by decide) ?_
          refine jl_isub hx hb (by omega) dd_J_commit_64 ?_
          refine jl_iadd hx hb dd_J_commit_65 ?_
          refine va_put (D := G) (ci := 3) (v := .int (nI (wd + (wc - 1)))) (ty := .int) (C := cn_J) (T := ft_J) (N := 6) hx hb hts uw_J fy_J fo_J fn_J hown hK hP hD hS 4 rfl rfl 4 (by decide) (hts _ tw_111) (fun _ h9 => h9) rfl (by decide +kernel) rfl rfl (Nat.le_of_ble_eq_true rfl) dd_J_commit_66 (fun H locs hP hD hS => ?_)
          have hP : va_P G jcl (wJ qJ qH qh cH qI qD qS qC cS cC s c ho hn hg hm hp wc (wd + (wc - 1)) tf) H := hP
          have hD : va_D A (wJ qJ qH qh cH qI qD qS qC cS cC s c ho hn hg hm hp wc (wd + (wc - 1)) tf) := hD
          refine lv_aload_n hx hb dd_J_commit_69 rfl (lv_at hl 4 rfl) ?_
          refine lv_iconst (v := nI 0) hx hb dd_J_commit_70 (by decide) ?_
          refine va_put (D := G) (ci := 3) (v := .int (nI (0))) (ty := .int) (C := cn_J) (T := ft_J) (N := 6) hx hb hts uw_J fy_J fo_J fn_J hown hK hP hD hS 4 rfl rfl 3 (by decide) (hts _ tw_110) (fun _ h9 => h9) rfl (by decide +kernel) rfl rfl (Nat.le_of_ble_eq_true rfl) dd_J_commit_71 (fun H locs hP hD hS => ?_)
          have hP : va_P G jcl (wJ qJ qH qh cH qI qD qS qC cS cC s c ho hn hg hm hp 0 (wd + (wc - 1)) tf) H := hP
          have hD : va_D A (wJ qJ qH qh cH qI qD qS qC cS cC s c ho hn hg hm hp 0 (wd + (wc - 1)) tf) := hD
          refine lv_iload hx hb dd_J_commit_74 (lv_at hl 0 rfl) ?_
          refine jl_ifeq (tgt := 86) hx hb (by omega) dd_J_commit_76 (by decide) (fun c_12 => ?_) (fun c_12 => ?_)
          · skip
            refine lv_aload_n hx hb dd_J_commit_86 rfl (lv_at hl 4 rfl) ?_
            refine jm_callV (wr := []) C (ct_J_losePower l G qJ qH qh cH qI qD qS qC cS cC s c ho hn hg hm hp 0 (wd + (wc - 1)) tf  (by omega) (by first | assumption | (simp only [] ; assumption)) (by first | assumption | (simp only [] ; assumption))) kl_J_203 ⟨Nat.le_of_ble_eq_true rfl, Nat.le_of_ble_eq_true rfl⟩ ⟨Nat.le_of_ble_eq_true rfl, Nat.le_of_ble_eq_true rfl⟩ hP hD hS hA (hK) (va_recv hK hP (ci := 3) (q0 := 4) rfl rfl) hl.1 rfl rfl (Nat.le_of_ble_eq_true rfl) dd_J_commit_87 (fun H locs hP hD hS => ?_)
            have hP : va_P G jcl (wJ qJ qH qh cH qI qD qS qC cS cC (jf_cpy c s) c (jf_lpL 6 0 ho) hn hg hm hp 0 (wd + (wc - 1)) (tf + 1)) H := hP
            have hD : va_D A (wJ qJ qH qh cH qI qD qS qC cS cC (jf_cpy c s) c (jf_lpL 6 0 ho) hn hg hm hp 0 (wd + (wc - 1)) (tf + 1)) := hD
            exact tt_ISES (is := 206) (text := "power failed") hl9 htb C hz (by decide +kernel) ⟨by first | (simp [jf_cT, jf_cmJ, c_2, c_3, c_7, c_11, c_12, jex]; done) | (exfalso; omega), by first | (simp [jf_cT, jf_cmJ, c_2, c_3, c_7, c_11, c_12, jex]; done) | (exfalso; omega), (by first | with_reducible rfl | (simp [jf_cT, jf_cmJ, c_2, c_3, c_7, c_11, c_12, jex]; done) | (exfalso; omega))⟩ hP hD hK hS hl.1 dd_J_commit_90 dd_J_commit_93 dd_J_commit_94 dd_J_commit_96 dd_J_commit_99 ⟨Nat.le_of_ble_eq_true rfl, Nat.le_of_ble_eq_true rfl, Nat.le_of_ble_eq_true rfl, Nat.le_of_ble_eq_true rfl⟩ ⟨Nat.le_of_ble_eq_true rfl, Nat.le_of_ble_eq_true rfl⟩
          · skip
            exact absurd c_12 (by omega)
        · skip
          refine lv_iconst (v := nI 1) hx hb dd_J_commit_47 (by decide) ?_
          refine lv_goto (tgt := 52) hx hb dd_J_commit_48 (by decide) ?_
          refine lv_istore (lv' := [(4, .int (nI (1))), (3, .int (nI (((jf_differing s c) + 1) + (jf_differing s c)))), (2, .int (nI ((jf_differing s c) + 1))), (1, .int (nI (jf_differing s c))), (0, .ref qJ)]) hx hb dd_J_commit_52 hl (by decide) rfl (fun ls hl => ?_)
          refine lv_aload_n hx hb dd_J_commit_54 rfl (lv_at hl 4 rfl) ?_
          refine lv_dup hx hb dd_J_commit_55 rfl ?_
          refine va_get (D := G) (ci := 3) (v := .int (nI (wd))) (C := cn_J) (T := ft_J) (N := 6) hx hb hts uw_J hown hK hP 4 rfl rfl 4 (by decide) (hts _ tw_111) (fun _ h9 => h9) rfl dd_J_commit_56 ?_
          refine lv_aload_n hx hb dd_J_commit_59 rfl (lv_at hl 4 rfl) ?_
          refine va_get (D := G) (ci := 3) (v := .int (nI (wc))) (C := cn_J) (T := ft_J) (N := 6) hx hb hts uw_J hown hK hP 4 rfl rfl 3 (by decide) (hts _ tw_110) (fun _ h9 => h9) rfl dd_J_commit_60 ?_
          refine lv_iconst (v := nI 1) hx hb dd_J_commit_63 (by decide) ?_
          refine jl_isub hx hb (by omega) dd_J_commit_64 ?_
          refine jl_iadd hx hb dd_J_commit_65 ?_
          refine va_put (D := G) (ci := 3) (v := .int (nI (wd + (wc - 1)))) (ty := .int) (C := cn_J) (T := ft_J) (N := 6) hx hb hts uw_J fy_J fo_J fn_J hown hK hP hD hS 4 rfl rfl 4 (by decide) (hts _ tw_111) (fun _ h9 => h9) rfl (by decide +kernel) rfl rfl (Nat.le_of_ble_eq_true rfl) dd_J_commit_66 (fun H locs hP hD hS => ?_)
          have hP : va_P G jcl (wJ qJ qH qh cH qI qD qS qC cS cC s c ho hn hg hm hp wc (wd + (wc - 1)) tf) H := hP
          have hD : va_D A (wJ qJ qH qh cH qI qD qS qC cS cC s c ho hn hg hm hp wc (wd + (wc - 1)) tf) := hD
          refine lv_aload_n hx hb dd_J_commit_69 rfl (lv_at hl 4 rfl) ?_
          refine lv_iconst (v := nI 0) hx hb dd_J_commit_70 (by decide) ?_
          refine va_put (D := G) (ci := 3) (v := .int (nI (0))) (ty := .int) (C := cn_J) (T := ft_J) (N := 6) hx hb hts uw_J fy_J fo_J fn_J hown hK hP hD hS 4 rfl rfl 3 (by decide) (hts _ tw_110) (fun _ h9 => h9) rfl (by decide +kernel) rfl rfl (Nat.le_of_ble_eq_true rfl) dd_J_commit_71 (fun H locs hP hD hS => ?_)
          have hP : va_P G jcl (wJ qJ qH qh cH qI qD qS qC cS cC s c ho hn hg hm hp 0 (wd + (wc - 1)) tf) H := hP
          have hD : va_D A (wJ qJ qH qh cH qI qD qS qC cS cC s c ho hn hg hm hp 0 (wd + (wc - 1)) tf) := hD
          refine lv_iload hx hb dd_J_commit_74 (lv_at hl 0 rfl) ?_
          refine jl_ifeq (tgt := 86) hx hb (by omega) dd_J_commit_76 (by decide) (fun c_13 => ?_) (fun c_13 => ?_)
          · skip
            exact absurd c_13 (by omega)
          · skip
            refine lv_aload_n hx hb dd_J_commit_79 rfl (lv_at hl 4 rfl) ?_
            refine va_get (D := G) (ci := 3) (v := .ref qD) (C := cn_J) (T := ft_J) (N := 6) hx hb hts uw_J hown hK hP 4 rfl rfl 0 (by decide) (hts _ tw_107) (fun _ h9 => h9) rfl dd_J_commit_80 ?_
            refine jm_callV (wr := ((qI, .inr (2, [.ref qD])) :: [(qJ, .inr (3, [.ref qD, .ref qI, .ref qH, .int (nI 0), .int (nI (wd + (wc - 1))), .int (nI tf)])), (qH, .inl (cH, 6, .inr (.inr (.inr (.inr (fun k => some (qh k))))))), jh qh ho hn hg hm hp 0, jh qh ho hn hg hm hp 1, jh qh ho hn hg hm hp 2, jh qh ho hn hg hm hp 3, jh qh ho hn hg hm hp 4, jh qh ho hn hg hm hp 5])) C (ct_D_keep l G qD qS qC cS cC s c  ) kl_J_36 ⟨Nat.le_of_ble_eq_true rfl, Nat.le_of_ble_eq_true rfl⟩ ⟨Nat.le_of_ble_eq_true rfl, Nat.le_of_ble_eq_true rfl⟩ hP hD hS hA (hK.sub [0, 1] rfl) (va_recv hK hP (ci := 0) (q0 := 0) rfl rfl) hl.1 rfl rfl (Nat.le_of_ble_eq_true rfl) dd_J_commit_83 (fun H locs hP hD hS => ?_)
            have hP : va_P G jcl (wJ qJ qH qh cH qI qD qS qC cS cC s (jf_cpy s c) ho hn hg hm hp 0 (wd + (wc - 1)) tf) H := hP
            have hD : va_D A (wJ qJ qH qh cH qI qD qS qC cS cC s (jf_cpy s c) ho hn hg hm hp 0 (wd + (wc - 1)) tf) := hD
            have hf_14 : jf_ok (jf_cpy s c) := jf_cpy_ok (by assumption) (by assumption)
            refine lv_aload_n hx hb dd_J_commit_86 rfl (lv_at hl 4 rfl) ?_
            refine jm_callV (wr := []) C (ct_J_losePower l G qJ qH qh cH qI qD qS qC cS cC s (jf_cpy s c) ho hn hg hm hp 0 (wd + (wc - 1)) tf  (by omega) (by first | assumption | (simp only [] ; assumption)) (by first | assumption | (simp only [] ; assumption))) kl_J_203 ⟨Nat.le_of_ble_eq_true rfl, Nat.le_of_ble_eq_true rfl⟩ ⟨Nat.le_of_ble_eq_true rfl, Nat.le_of_ble_eq_true rfl⟩ hP hD hS hA (hK) (va_recv hK hP (ci := 3) (q0 := 4) rfl rfl) hl.1 rfl rfl (Nat.le_of_ble_eq_true rfl) dd_J_commit_87 (fun H locs hP hD hS => ?_)
            have hP : va_P G jcl (wJ qJ qH qh cH qI qD qS qC cS cC (jf_cpy (jf_cpy s c) s) (jf_cpy s c) (jf_lpL 6 0 ho) hn hg hm hp 0 (wd + (wc - 1)) (tf + 1)) H := hP
            have hD : va_D A (wJ qJ qH qh cH qI qD qS qC cS cC (jf_cpy (jf_cpy s c) s) (jf_cpy s c) (jf_lpL 6 0 ho) hn hg hm hp 0 (wd + (wc - 1)) (tf + 1)) := hD
            exact tt_ISES (is := 206) (text := "power failed") hl9 htb C hz (by decide +kernel) ⟨by first | (simp [jf_cT, jf_cmJ, c_2, c_3, c_7, c_11, c_13, jex]; done) | (exfalso; omega), by first | (simp [jf_cT, jf_cmJ, c_2, c_3, c_7, c_11, c_13, jex]; done) | (exfalso; omega), (by first | with_reducible rfl | (simp [jf_cT, jf_cmJ, c_2, c_3, c_7, c_11, c_13, jex]; done) | (exfalso; omega))⟩ hP hD hK hS hl.1 dd_J_commit_90 dd_J_commit_93 dd_J_commit_94 dd_J_commit_96 dd_J_commit_99 ⟨Nat.le_of_ble_eq_true rfl, Nat.le_of_ble_eq_true rfl, Nat.le_of_ble_eq_true rfl, Nat.le_of_ble_eq_true rfl⟩ ⟨Nat.le_of_ble_eq_true rfl, Nat.le_of_ble_eq_true rfl⟩
  · skip
    refine lv_iconst (v := nI 0) hx hb dd_J_commit_12 (by decide) ?_
    refine lv_goto (tgt := 19) hx hb dd_J_commit_13 (by decide) ?_
    refine lv_istore_n (lv' := [(2, .int (nI (0))), (1, .int (nI (jf_differing s c))), (0, .ref qJ)]) hx hb dd_J_commit_19 rfl hl (by decide) rfl (fun ls hl => ?_)
    refine lv_iload_n hx hb dd_J_commit_20 rfl (lv_at hl 0 rfl) ?_
    refine lv_iload_n hx hb dd_J_commit_21 rfl (lv_at hl 1 rfl) ?_
    refine jl_iadd hx hb dd_J_commit_22 ?_
    refine lv_istore_n (lv' := [(3, .int (nI (0 + (jf_differing s c)))), (2, .int (nI (0))), (1, .int (nI (jf_differing s c))), (0, .ref qJ)]) hx hb dd_J_commit_23 rfl hl (by decide) rfl (fun ls hl => ?_)
    refine lv_aload_n hx hb dd_J_commit_24 rfl (lv_at hl 3 rfl) ?_
    refine va_get (D := G) (ci := 3) (v := .int (nI (wc))) (C := cn_J) (T := ft_J) (N := 6) hx hb hts uw_J hown hK hP 4 rfl rfl 3 (by decide) (hts _ tw_110) (fun _ h9 => h9) rfl dd_J_commit_25 ?_
    refine jl_ifle (tgt := 100) hx hb (by omega) dd_J_commit_28 (by decide) (fun c_15 => ?_) (fun c_15 => ?_)
    · skip
      refine lv_aload_n hx hb dd_J_commit_100 rfl (lv_at hl 3 rfl) ?_
      refine va_get (D := G) (ci := 3) (v := .int (nI (wc))) (C := cn_J) (T := ft_J) (N := 6) hx hb hts uw_J hown hK hP 4 rfl rfl 3 (by decide) (hts _ tw_110) (fun _ h9 => h9) rfl dd_J_commit_101 ?_
      refine jl_ifle (tgt := 117) hx hb (by omega) dd_J_commit_104 (by decide) (fun c_16 => ?_) (fun c_16 => ?_)
      · skip
        refine lv_aload_n hx hb dd_J_commit_117 rfl (lv_at hl 3 rfl) ?_
        refine lv_dup hx hb dd_J_commit_118 rfl ?_
        refine va_get (D := G) (ci := 3) (v := .int (nI (wd))) (C := cn_J) (T := ft_J) (N := 6) hx hb hts uw_J hown hK hP 4 rfl rfl 4 (by decide) (hts _ tw_111) (fun _ h9 => h9) rfl dd_J_commit_119 ?_
        refine lv_iload_n hx hb dd_J_commit_122 rfl (lv_at hl 0 rfl) ?_
        refine jl_iadd hx hb dd_J_commit_123 ?_
        refine va_put (D := G) (ci := 3) (v := .int (nI (wd + (0 + (jf_differing s c))))) (ty := .int) (C := cn_J) (T := ft_J) (N := 6) hx hb hts uw_J fy_J fo_J fn_J hown hK hP hD hS 4 rfl rfl 4 (by decide) (hts _ tw_111) (fun _ h9 => h9) rfl (by decide +kernel) rfl rfl (Nat.le_of_ble_eq_true rfl) dd_J_commit_124 (fun H locs hP hD hS => ?_)
        have hP : va_P G jcl (wJ qJ qH qh cH qI qD qS qC cS cC s c ho hn hg hm hp wc (wd + (0 + (jf_differing s c))) tf) H := hP
        have hD : va_D A (wJ qJ qH qh cH qI qD qS qC cS cC s c ho hn hg hm hp wc (wd + (0 + (jf_differing s c))) tf) := hD
        refine lv_aload_n hx hb dd_J_commit_127 rfl (lv_at hl 3 rfl) ?_
        refine va_get (D := G) (ci := 3) (v := .ref qD) (C := cn_J) (T := ft_J) (N := 6) hx hb hts uw_J hown hK hP 4 rfl rfl 0 (by decide) (hts _ tw_107) (fun _ h9 => h9) rfl dd_J_commit_128 ?_
        refine jm_callV (wr := ((qI, .inr (2, [.ref qD])) :: [(qJ, .inr (3, [.ref qD, .ref qI, .ref qH, .int (nI wc), .int (nI (wd + (0 + (jf_differing s c)))), .int (nI tf)])), (qH, .inl (cH, 6, .inr (.inr (.inr (.inr (fun k => some (qh k))))))), jh qh ho hn hg hm hp 0, jh qh ho hn hg hm hp 1, jh qh ho hn hg hm hp 2, jh qh ho hn hg hm hp 3, jh qh ho hn hg hm hp 4, jh qh ho hn hg hm hp 5])) C (ct_D_keep l G qD qS qC cS cC s c  ) kl_J_36 ⟨Nat.le_of_ble_eq_true rfl, Nat.le_of_ble_eq_true rfl⟩ ⟨Nat.le_of_ble_eq_true rfl, Nat.le_of_ble_eq_true rfl⟩ hP hD hS hA (hK.sub [0, 1] rfl) (va_recv hK hP (ci := 0) (q0 := 0) rfl rfl) hl.1 rfl rfl (Nat.le_of_ble_eq_true rfl) dd_J_commit_131 (fun H locs hP hD hS => ?_)
        have hP : va_P G jcl (wJ qJ qH qh cH qI qD qS qC cS cC s (jf_cpy s c) ho hn hg hm hp wc (wd + (0 + (jf_differing s c))) tf) H := hP
        have hD : va_D A (wJ qJ qH qh cH qI qD qS qC cS cC s (jf_cpy s c) ho hn hg hm hp wc (wd + (0 + (jf_differing s c))) tf) := hD
        have hf_17 : jf_ok (jf_cpy s c) := jf_cpy_ok (by assumption) (by assumption)
        refine lv_iload_n hx hb dd_J_commit_134 rfl (lv_at hl 0 rfl) ?_
        exact jt_reti C ⟨by first | (simp [jf_cT, jf_cmJ, c_2, c_15, c_16]; done) | (exfalso; omega), (by first | with_reducible rfl | (simp [jf_cT, jf_cmJ, c_2, c_15, c_16]; done) | (exfalso; omega)), (by first | with_reducible rfl | (simp [jf_cT, jf_cmJ, c_2, c_15, c_16]; done) | (exfalso; omega))⟩ hP hD hK hS ⟨Nat.le_of_ble_eq_true rfl, Nat.le_of_ble_eq_true rfl⟩ dd_J_commit_135
      · skip
        refine lv_aload_n hx hb dd_J_commit_107 rfl (lv_at hl 3 rfl) ?_
        refine lv_dup hx hb dd_J_commit_108 rfl ?_
        refine va_get (D := G) (ci := 3) (v := .int (nI (wc))) (C := cn_J) (T := ft_J) (N := 6) hx hb hts uw_J hown hK hP 4 rfl rfl 3 (by decide) (hts _ tw_110) (fun _ h9 => h9) rfl dd_J_commit_109 ?_
        refine lv_iload_n hx hb dd_J_commit_112 rfl (lv_at hl 0 rfl) ?_
        refine jl_isub hx hb (by omega) dd_J_commit_113 ?_
        refine va_put (D := G) (ci := 3) (v := .int (nI (wc - (0 + (jf_differing s c))))) (ty := .int) (C := cn_J) (T := ft_J) (N := 6) hx hb hts uw_J fy_J fo_J fn_J hown hK hP hD hS 4 rfl rfl 3 (by decide) (hts _ tw_110) (fun _ h9 => h9) rfl (by decide +kernel) rfl rfl (Nat.le_of_ble_eq_true rfl) dd_J_commit_114 (fun H locs hP hD hS => ?_)
        have hP : va_P G jcl (wJ qJ qH qh cH qI qD qS qC cS cC s c ho hn hg hm hp (wc - (0 + (jf_differing s c))) wd tf) H := hP
        have hD : va_D A (wJ qJ qH qh cH qI qD qS qC cS cC s c ho hn hg hm hp (wc - (0 + (jf_differing s c))) wd tf) := hD
        refine lv_aload_n hx hb dd_J_commit_117 rfl (lv_at hl 3 rfl) ?_
        refine lv_dup hx hb dd_J_commit_118 rfl ?_
        refine va_get (D := G) (ci := 3) (v := .int (nI (wd))) (C := cn_J) (T := ft_J) (N := 6) hx hb hts uw_J hown hK hP 4 rfl rfl 4 (by decide) (hts _ tw_111) (fun _ h9 => h9) rfl dd_J_commit_119 ?_
        refine lv_iload_n hx hb dd_J_commit_122 rfl (lv_at hl 0 rfl) ?_
        refine jl_iadd hx hb dd_J_commit_123 ?_
        refine va_put (D := G) (ci := 3) (v := .int (nI (wd + (0 + (jf_differing s c))))) (ty := .int) (C := cn_J) (T := ft_J) (N := 6) hx hb hts uw_J fy_J fo_J fn_J hown hK hP hD hS 4 rfl rfl 4 (by decide) (hts _ tw_111) (fun _ h9 => h9) rfl (by decide +kernel) rfl rfl (Nat.le_of_ble_eq_true rfl) dd_J_commit_124 (fun H locs hP hD hS => ?_)
        have hP : va_P G jcl (wJ qJ qH qh cH qI qD qS qC cS cC s c ho hn hg hm hp (wc - (0 + (jf_differing s c))) (wd + (0 + (jf_differing s c))) tf) H := hP
        have hD : va_D A (wJ qJ qH qh cH qI qD qS qC cS cC s c ho hn hg hm hp (wc - (0 + (jf_differing s c))) (wd + (0 + (jf_differing s c))) tf) := hD
        refine lv_aload_n hx hb dd_J_commit_127 rfl (lv_at hl 3 rfl) ?_
        refine va_get (D := G) (ci := 3) (v := .ref qD) (C := cn_J) (T := ft_J) (N := 6) hx hb hts uw_J hown hK hP 4 rfl rfl 0 (by decide) (hts _ tw_107) (fun _ h9 => h9) rfl dd_J_commit_128 ?_
        refine jm_callV (wr := ((qI, .inr (2, [.ref qD])) :: [(qJ, .inr (3, [.ref qD, .ref qI, .ref qH, .int (nI (wc - (0 + (jf_differing s c)))), .int (nI (wd + (0 + (jf_differing s c)))), .int (nI tf)])), (qH, .inl (cH, 6, .inr (.inr (.inr (.inr (fun k => some (qh k))))))), jh qh ho hn hg hm hp 0, jh qh ho hn hg hm hp 1, jh qh ho hn hg hm hp 2, jh qh ho hn hg hm hp 3, jh qh ho hn hg hm hp 4, jh qh ho hn hg hm hp 5])) C (ct_D_keep l G qD qS qC cS cC s c  ) kl_J_36 ⟨Nat.le_of_ble_eq_true rfl, Nat.le_of_ble_eq_true rfl⟩ ⟨Nat.le_of_ble_eq_true rfl, Nat.le_of_ble_eq_true rfl⟩ hP hD hS hA (hK.sub [0, 1] rfl) (va_recv hK hP (ci := 0) (q0 := 0) rfl rfl) hl.1 rfl rfl (Nat.le_of_ble_eq_true rfl) dd_J_commit_131 (fun H locs hP hD hS => ?_)
        have hP : va_P G jcl (wJ qJ qH qh cH qI qD qS qC cS cC s (jf_cpy s c) ho hn hg hm hp (wc - (0 + (jf_differing s c))) (wd + (0 + (jf_differing s c))) tf) H := hP
        have hD : va_D A (wJ qJ qH qh cH qI qD qS qC cS cC s (jf_cpy s c) ho hn hg hm hp (wc - (0 + (jf_differing s c))) (wd + (0 + (jf_differing s c))) tf) := hD
        have hf_18 : jf_ok (jf_cpy s c) := jf_cpy_ok (by assumption) (by assumption)
        refine lv_iload_n hx hb dd_J_commit_134 rfl (lv_at hl 0 rfl) ?_
        exact jt_reti C ⟨by first | (simp [jf_cT, jf_cmJ, c_2, c_15, c_16]; done) | (exfalso; omega), (by first | with_reducible rfl | (simp [jf_cT, jf_cmJ, c_2, c_15, c_16]; done) | (exfalso; omega)), (by first | with_reducible rfl | (simp [jf_cT, jf_cmJ, c_2, c_15, c_16]; done) | (exfalso; omega))⟩ hP hD hK hS ⟨Nat.le_of_ble_eq_true rfl, Nat.le_of_ble_eq_true rfl⟩ dd_J_commit_135
    · skip
      refine lv_aload_n hx hb dd_J_commit_31 rfl (lv_at hl 3 rfl) ?_
      refine va_get (D := G) (ci := 3) (v := .int (nI (wc))) (C := cn_J) (T := ft_J) (N := 6) hx hb hts uw_J hown hK hP 4 rfl rfl 3 (by decide) (hts _ tw_110) (fun _ h9 => h9) rfl dd_J_commit_32 ?_
      refine lv_iload_n hx hb dd_J_commit_35 rfl (lv_at hl 0 rfl) ?_
      refine jl_gt (tgt := 100) hx hb (by omega) (by omega) dd_J_commit_36 (by decide) (fun c_19 => ?_) (fun c_19 => ?_)
      · skip
        refine lv_aload_n hx hb dd_J_commit_100 rfl (lv_at hl 3 rfl) ?_
        refine va_get (D := G) (ci := 3) (v := .int (nI (wc))) (C := cn_J) (T := ft_J) (N := 6) hx hb hts uw_J hown hK hP 4 rfl rfl 3 (by decide) (hts _ tw_110) (fun _ h9 => h9) rfl dd_J_commit_101 ?_
        refine jl_ifle (tgt := 117) hx hb (by omega) dd_J_commit_104 (by decide) (fun c_20 => ?_) (fun c_20 => ?_)
        · skip
          refine lv_aload_n hx hb dd_J_commit_117 rfl (lv_at hl 3 rfl) ?_
          refine lv_dup hx hb dd_J_commit_118 rfl ?_
          refine va_get (D := G) (ci := 3) (v := .int (nI (wd))) (C := cn_J) (T := ft_J) (N := 6) hx hb hts uw_J hown hK hP 4 rfl rfl 4 (by decide) (hts _ tw_111) (fun _ h9 => h9) rfl dd_J_commit_119 ?_
          refine lv_iload_n hx hb dd_J_commit_122 rfl (lv_at hl 0 rfl) ?_
          refine jl_iadd hx hb dd_J_commit_123 ?_
          refine va_put (D := G) (ci := 3) (v := .int (nI (wd + (0 + (jf_differing s c))))) (ty := .int) (C := cn_J) (T := ft_J) (N := 6) hx hb hts uw_J fy_J fo_J fn_J hown hK hP hD hS 4 rfl rfl 4 (by decide) (hts _ tw_111) (fun _ h9 => h9) rfl (by decide +kernel) rfl rfl (Nat.le_of_ble_eq_true rfl) dd_J_commit_124 (fun H locs hP hD hS => ?_)
          have hP : va_P G jcl (wJ qJ qH qh cH qI qD qS qC cS cC s c ho hn hg hm hp wc (wd + (0 + (jf_differing s c))) tf) H := hP
          have hD : va_D A (wJ qJ qH qh cH qI qD qS qC cS cC s c ho hn hg hm hp wc (wd + (0 + (jf_differing s c))) tf) := hD
          refine lv_aload_n hx hb dd_J_commit_127 rfl (lv_at hl 3 rfl) ?_
          refine va_get (D := G) (ci := 3) (v := .ref qD) (C := cn_J) (T := ft_J) (N := 6) hx hb hts uw_J hown hK hP 4 rfl rfl 0 (by decide) (hts _ tw_107) (fun _ h9 => h9) rfl dd_J_commit_128 ?_
          refine jm_callV (wr := ((qI, .inr (2, [.ref qD])) :: [(qJ, .inr (3, [.ref qD, .ref qI, .ref qH, .int (nI wc), .int (nI (wd + (0 + (jf_differing s c)))), .int (nI tf)])), (qH, .inl (cH, 6, .inr (.inr (.inr (.inr (fun k => some (qh k))))))), jh qh ho hn hg hm hp 0, jh qh ho hn hg hm hp 1, jh qh ho hn hg hm hp 2, jh qh ho hn hg hm hp 3, jh qh ho hn hg hm hp 4, jh qh ho hn hg hm hp 5])) C (ct_D_keep l G qD qS qC cS cC s c  ) kl_J_36 ⟨Nat.le_of_ble_eq_true rfl, Nat.le_of_ble_eq_true rfl⟩ ⟨Nat.le_of_ble_eq_true rfl, Nat.le_of_ble_eq_true rfl⟩ hP hD hS hA (hK.sub [0, 1] rfl) (va_recv hK hP (ci := 0) (q0 := 0) rfl rfl) hl.1 rfl rfl (Nat.le_of_ble_eq_true rfl) dd_J_commit_131 (fun H locs hP hD hS => ?_)
          have hP : va_P G jcl (wJ qJ qH qh cH qI qD qS qC cS cC s (jf_cpy s c) ho hn hg hm hp wc (wd + (0 + (jf_differing s c))) tf) H := hP
          have hD : va_D A (wJ qJ qH qh cH qI qD qS qC cS cC s (jf_cpy s c) ho hn hg hm hp wc (wd + (0 + (jf_differing s c))) tf) := hD
          have hf_21 : jf_ok (jf_cpy s c) := jf_cpy_ok (by assumption) (by assumption)
          refine lv_iload_n hx hb dd_J_commit_134 rfl (lv_at hl 0 rfl) ?_
          exact jt_reti C ⟨by first | (simp [jf_cT, jf_cmJ, c_2, c_15, c_19, c_20]; done) | (exfalso; omega), (by first | with_reducible rfl | (simp [jf_cT, jf_cmJ, c_2, c_15, c_19, c_20]; done) | (exfalso; omega)), (by first | with_reducible rfl | (simp [jf_cT, jf_cmJ, c_2, c_15, c_19, c_20]; done) | (exfalso; omega))⟩ hP hD hK hS ⟨Nat.le_of_ble_eq_true rfl, Nat.le_of_ble_eq_true rfl⟩ dd_J_commit_135
        · skip
          refine lv_aload_n hx hb dd_J_commit_107 rfl (lv_at hl 3 rfl) ?_
          refine lv_dup hx hb dd_J_commit_108 rfl ?_
          refine va_get (D := G) (ci := 3) (v := .int (nI (wc))) (C := cn_J) (T := ft_J) (N := 6) hx hb hts uw_J hown hK hP 4 rfl rfl 3 (by decide) (hts _ tw_110) (fun _ h9 => h9) rfl dd_J_commit_109 ?_
          refine lv_iload_n hx hb dd_J_commit_112 rfl (lv_at hl 0 rfl) ?_
          refine jl_isub hx hb (by omega) dd_J_commit_113 ?_
          refine va_put (D := G) (ci := 3) (v := .int (nI (wc - (0 + (jf_differing s c))))) (ty := .int) (C := cn_J) (T := ft_J) (N := 6) hx hb hts uw_J fy_J fo_J fn_J hown hK hP hD hS 4 rfl rfl 3 (by decide) (hts _ tw_110) (fun _ h9 => h9) rfl (by decide +kernel) rfl rfl (Nat.le_of_ble_eq_true rfl) dd_J_commit_114 (fun H locs hP hD hS => ?_)
          have hP : va_P G jcl (wJ qJ qH qh cH qI qD qS qC cS cC s c ho hn hg hm hp (wc - (0 + (jf_differing s c))) wd tf) H := hP
          have hD : va_D A (wJ qJ qH qh cH qI qD qS qC cS cC s c ho hn hg hm hp (wc - (0 + (jf_differing s c))) wd tf) := hD
          refine lv_aload_n hx hb dd_J_commit_117 rfl (lv_at hl 3 rfl) ?_
          refine lv_dup hx hb dd_J_commit_118 rfl ?_
          refine va_get (D := G) (ci := 3) (v := .int (nI (wd))) (C := cn_J) (T := ft_J) (N := 6) hx hb hts uw_J hown hK hP 4 rfl rfl 4 (by decide) (hts _ tw_111) (fun _ h9 => h9) rfl dd_J_commit_119 ?_
          refine lv_iload_n hx hb dd_J_commit_122 rfl (lv_at hl 0 rfl) ?_
          refine jl_iadd hx hb dd_J_commit_123 ?_
          refine va_put (D := G) (ci := 3) (v := .int (nI (wd + (0 + (jf_differing s c))))) (ty := .int) (C := cn_J) (T := ft_J) (N := 6) hx hb hts uw_J fy_J fo_J fn_J hown hK hP hD hS 4 rfl rfl 4 (by decide) (hts _ tw_111) (fun _ h9 => h9) rfl (by decide +kernel) rfl rfl (Nat.le_of_ble_eq_true rfl) dd_J_commit_124 (fun H locs hP hD hS => ?_)
          have hP : va_P G jcl (wJ qJ qH qh cH qI qD qS qC cS cC s c ho hn hg hm hp (wc - (0 + (jf_differing s c))) (wd + (0 + (jf_differing s c))) tf) H := hP
          have hD : va_D A (wJ qJ qH qh cH qI qD qS qC cS cC s c ho hn hg hm hp (wc - (0 + (jf_differing s c))) (wd + (0 + (jf_differing s c))) tf) := hD
          refine lv_aload_n hx hb dd_J_commit_127 rfl (lv_at hl 3 rfl) ?_
          refine va_get (D := G) (ci := 3) (v := .ref qD) (C := cn_J) (T := ft_J) (N := 6) hx hb hts uw_J hown hK hP 4 rfl rfl 0 (by decide) (hts _ tw_107) (fun _ h9 => h9) rfl dd_J_commit_128 ?_
          refine jm_callV (wr := ((qI, .inr (2, [.ref qD])) :: [(qJ, .inr (3, [.ref qD, .ref qI, .ref qH, .int (nI (wc - (0 + (jf_differing s c)))), .int (nI (wd + (0 + (jf_differing s c)))), .int (nI tf)])), (qH, .inl (cH, 6, .inr (.inr (.inr (.inr (fun k => some (qh k))))))), jh qh ho hn hg hm hp 0, jh qh ho hn hg hm hp 1, jh qh ho hn hg hm hp 2, jh qh ho hn hg hm hp 3, jh qh ho hn hg hm hp 4, jh qh ho hn hg hm hp 5])) C (ct_D_keep l G qD qS qC cS cC s c  ) kl_J_36 ⟨Nat.le_of_ble_eq_true rfl, Nat.le_of_ble_eq_true rfl⟩ ⟨Nat.le_of_ble_eq_true rfl, Nat.le_of_ble_eq_true rfl⟩ hP hD hS hA (hK.sub [0, 1] rfl) (va_recv hK hP (ci := 0) (q0 := 0) rfl rfl) hl.1 rfl rfl (Nat.le_of_ble_eq_true rfl) dd_J_commit_131 (fun H locs hP hD hS => ?_)
          have hP : va_P G jcl (wJ qJ qH qh cH qI qD qS qC cS cC s (jf_cpy s c) ho hn hg hm hp (wc - (0 + (jf_differing s c))) (wd + (0 + (jf_differing s c))) tf) H := hP
          have hD : va_D A (wJ qJ qH qh cH qI qD qS qC cS cC s (jf_cpy s c) ho hn hg hm hp (wc - (0 + (jf_differing s c))) (wd + (0 + (jf_differing s c))) tf) := hD
          have hf_22 : jf_ok (jf_cpy s c) := jf_cpy_ok (by assumption) (by assumption)
          refine lv_iload_n hx hb dd_J_commit_134 rfl (lv_at hl 0 rfl) ?_
          exact jt_reti C ⟨by first | (simp [jf_cT, jf_cmJ, c_2, c_15, c_19, c_20]; done) | (exfalso; omega), (by first | with_reducible rfl | (simp [jf_cT, jf_cmJ, c_2, c_15, c_19, c_20]; done) | (exfalso; omega)), (by first | with_reducible rfl | (simp [jf_cT, jf_cmJ, c_2, c_15, c_19, c_20]; done) | (exfalso; omega))⟩ hP hD hK hS ⟨Nat.le_of_ble_eq_true rfl, Nat.le_of_ble_eq_true rfl⟩ dd_J_commit_135
      · skip
        refine lv_aload_n hx hb dd_J_commit_39 rfl (lv_at hl 3 rfl) ?_
        refine va_get (D := G) (ci := 3) (v := .int (nI (wc))) (C := cn_J) (T := ft_J) (N := 6) hx hb hts uw_J hown hK hP 4 rfl rfl 3 (by decide) (hts _ tw_110) (fun _ h9 => h9) rfl dd_J_commit_40 ?_
        refine lv_iload_n hx hb dd_J_commit_43 rfl (lv_at hl 1 rfl) ?_
        refine jl_le (tgt := 51) hx hb (by omega) (by omega) dd_J_commit_44 (by decide) (fun c_23 => ?_) (fun c_23 => ?_)
        · skip
          refine lv_iconst (v := nI 0) hx hb dd_J_commit_51 (by decide) ?_
          refine lv_istore (lv' := [(4, .int (nI (0))), (3, .int (nI (0 + (jf_differing s c)))), (2, .int (nI (0))), (1, .int (nI (jf_differing s c))), (0, .ref qJ)]) hx hb dd_J_commit_52 hl (by decide) rfl (fun ls hl => ?_)
          refine lv_aload_n hx hb dd_J_commit_54 rfl (lv_at hl 4 rfl) ?_
          refine lv_dup hx hb dd_J_commit_55 rfl ?_
          refine va_get (D := G) (ci := 3) (v := .int (nI (wd))) (C := cn_J) (T := ft_J) (N := 6) hx hb hts uw_J hown hK hP 4 rfl rfl 4 (by decide) (hts _ tw_111) (fun _ h9 => h9) rfl dd_J_commit_56 ?_
          refine lv_aload_n hx hb dd_J_commit_59 rfl (lv_at hl 4 rfl) ?_
          refine va_get (D := G) (ci := 3) (v := .int (nI (wc))) (C := cn_J) (T := ft_J) (N := 6) hx hb hts uw_J hown hK hP 4 rfl rfl 3 (by decide) (hts _ tw_110) (fun _ h9 => h9) rfl dd_J_commit_60 ?_
          refine lv_iconst (v := nI 1) hx hb dd_J_commit_63 (by decide) ?_
          refine jl_isub hx hb (by omega) dd_J_commit_64 ?_
          refine jl_iadd hx hb dd_J_commit_65 ?_
          refine va_put (D := G) (ci := 3) (v := .int (nI (wd + (wc - 1)))) (ty := .int) (C := cn_J) (T := ft_J) (N := 6) hx hb hts uw_J fy_J fo_J fn_J hown hK hP hD hS 4 rfl rfl 4 (by decide) (hts _ tw_111) (fun _ h9 => h9) rfl (by decide +kernel) rfl rfl (Nat.le_of_ble_eq_true rfl) dd_J_commit_66 (fun H locs hP hD hS => ?_)
          have hP : va_P G jcl (wJ qJ qH qh cH qI qD qS qC cS cC s c ho hn hg hm hp wc (wd + (wc - 1)) tf) H := hP
          have hD : va_D A (wJ qJ qH qh cH qI qD qS qC cS cC s c ho hn hg hm hp wc (wd + (wc - 1)) tf) := hD
          refine lv_aload_n hx hb dd_J_commit_69 rfl (lv_at hl 4 rfl) ?_
          refine lv_iconst (v := nI 0) hx hb dd_J_commit_70 (by decide) ?_
          refine va_put (D := G) (ci := 3) (v := .int (nI (0))) (ty := .int) (C := cn_J) (T := ft_J) (N := 6) hx hb hts uw_J fy_J fo_J fn_J hown hK hP hD hS 4 rfl rfl 3 (by decide) (hts _ tw_110) (fun _ h9 => h9) rfl (by decide +kernel) rfl rfl (Nat.le_of_ble_eq_true rfl) dd_J_commit_71 (fun H locs hP hD hS => ?_)
          have hP : va_P G jcl (wJ qJ qH qh cH qI qD qS qC cS cC s c ho hn hg hm hp 0 (wd + (wc - 1)) tf) H := hP
          have hD : va_D A (wJ qJ qH qh cH qI qD qS qC cS cC s c ho hn hg hm hp 0 (wd + (wc - 1)) tf) := hD
          refine lv_iload hx hb dd_J_commit_74 (lv_at hl 0 rfl) ?_
          refine jl_ifeq (tgt := 86) hx hb (by omega) dd_J_commit_76 (by decide) (fun c_24 => ?_) (fun c_24 => ?_)
          · skip
            refine lv_aload_n hx hb dd_J_commit_86 rfl (lv_at hl 4 rfl) ?_
            refine jm_callV (wr := []) C (ct_J_losePower l G qJ qH qh cH qI qD qS qC cS cC s c ho hn hg hm hp 0 (wd + (wc - 1)) tf  (by omega) (by first | assumption | (simp only [] ; assumption)) (by first | assumption | (simp only [] ; assumption))) kl_J_203 ⟨Nat.le_of_ble_eq_true rfl, Nat.le_of_ble_eq_true rfl⟩ ⟨Nat.le_of_ble_eq_true rfl, Nat.le_of_ble_eq_true rfl⟩ hP hD hS hA (hK) (va_recv hK hP (ci := 3) (q0 := 4) rfl rfl) hl.1 rfl rfl (Nat.le_of_ble_eq_true rfl) dd_J_commit_87 (fun H locs hP hD hS => ?_)
            have hP : va_P G jcl (wJ qJ qH qh cH qI qD qS qC cS cC (jf_cpy c s) c (jf_lpL 6 0 ho) hn hg hm hp 0 (wd + (wc - 1)) (tf + 1)) H := hP
            have hD : va_D A (wJ qJ qH qh cH qI qD qS qC cS cC (jf_cpy c s) c (jf_lpL 6 0 ho) hn hg hm hp 0 (wd + (wc - 1)) (tf + 1)) := hD
            exact tt_ISES (is := 206) (text := "power failed") hl9 htb C hz (by decide +kernel) ⟨by first | (simp [jf_cT, jf_cmJ, c_2, c_15, c_19, c_23, c_24, jex]; done) | (exfalso; omega), by first | (simp [jf_cT, jf_cmJ, c_2, c_15, c_19, c_23, c_24, jex]; done) | (exfalso; omega), (by first | with_reducible rfl | (simp [jf_cT, jf_cmJ, c_2, c_15, c_19, c_23, c_24, jex]; done) | (exfalso; omega))⟩ hP hD hK hS hl.1 dd_J_commit_90 dd_J_commit_93 dd_J_commit_94 dd_J_commit_96 dd_J_commit_99 ⟨Nat.le_of_ble_eq_true rfl, Nat.le_of_ble_eq_true rfl, Nat.le_of_ble_eq_true rfl, Nat.le_of_ble_eq_true rfl⟩ ⟨Nat.le_of_ble_eq_true rfl, Nat.le_of_ble_eq_true rfl⟩
          · skip
            exact absurd c_24 (by omega)
        · skip
          refine lv_iconst (v := nI 1) hx hb dd_J_commit_47 (by decide) ?_
          refine lv_goto (tgt := 52) hx hb dd_J_commit_48 (by decide) ?_
          refine lv_istore (lv' := [(4, .int (nI (1))), (3, .int (nI (0 + (jf_differing s c)))), (2, .int (nI (0))), (1, .int (nI (jf_differing s c))), (0, .ref qJ)]) hx hb dd_J_commit_52 hl (by decide) rfl (fun ls hl => ?_)
          refine lv_aload_n hx hb dd_J_commit_54 rfl (lv_at hl 4 rfl) ?_
          refine lv_dup hx hb dd_J_commit_55 rfl ?_
          refine va_get (D := G) (ci := 3) (v := .int (nI (wd))) (C := cn_J) (T := ft_J) (N := 6) hx hb hts uw_J hown hK hP 4 rfl rfl 4 (by decide) (hts _ tw_111) (fun _ h9 => h9) rfl dd_J_commit_56 ?_
          refine lv_aload_n hx hb dd_J_commit_59 rfl (lv_at hl 4 rfl) ?_
          refine va_get (D := G) (ci := 3) (v := .int (nI (wc))) (C := cn_J) (T := ft_J) (N := 6) hx hb hts uw_J hown hK hP 4 rfl rfl 3 (by decide) (hts _ tw_110) (fun _ h9 => h9) rfl dd_J_commit_60 ?_
          refine lv_iconst (v := nI 1) hx hb dd_J_commit_63 (by decide) ?_
          refine jl_isub hx hb (by omega) dd_J_commit_64 ?_
          refine jl_iadd hx hb dd_J_commit_65 ?_
          refine va_put (D := G) (ci := 3) (v := .int (nI (wd + (wc - 1)))) (ty := .int) (C := cn_J) (T := ft_J) (N := 6) hx hb hts uw_J fy_J fo_J fn_J hown hK hP hD hS 4 rfl rfl 4 (by decide) (hts _ tw_111) (fun _ h9 => h9) rfl (by decide +kernel) rfl rfl (Nat.le_of_ble_eq_true rfl) dd_J_commit_66 (fun H locs hP hD hS => ?_)
          have hP : va_P G jcl (wJ qJ qH qh cH qI qD qS qC cS cC s c ho hn hg hm hp wc (wd + (wc - 1)) tf) H := hP
          have hD : va_D A (wJ qJ qH qh cH qI qD qS qC cS cC s c ho hn hg hm hp wc (wd + (wc - 1)) tf) := hD
          refine lv_aload_n hx hb dd_J_commit_69 rfl (lv_at hl 4 rfl) ?_
          refine lv_iconst (v := nI 0) hx hb dd_J_commit_70 (by decide) ?_
          refine va_put (D := G) (ci := 3) (v := .int (nI (0))) (ty := .int) (C := cn_J) (T := ft_J) (N := 6) hx hb hts uw_J fy_J fo_J fn_J hown hK hP hD hS 4 rfl rfl 3 (by decide) (hts _ tw_110) (fun _ h9 => h9) rfl (by decide +kernel) rfl rfl (Nat.le_of_ble_eq_true rfl) dd_J_commit_71 (fun H locs hP hD hS => ?_)
          have hP : va_P G jcl (wJ qJ qH qh cH qI qD qS qC cS cC s c ho hn hg hm hp 0 (wd + (wc - 1)) tf) H := hP
          have hD : va_D A (wJ qJ qH qh cH qI qD qS qC cS cC s c ho hn hg hm hp 0 (wd + (wc - 1)) tf) := hD
          refine lv_iload hx hb dd_J_commit_74 (lv_at hl 0 rfl) ?_
          refine jl_ifeq (tgt := 86) hx hb (by omega) dd_J_commit_76 (by decide) (fun c_25 => ?_) (fun c_25 => ?_)
          · skip
            exact absurd c_25 (by omega)
          · skip
            refine lv_aload_n hx hb dd_J_commit_79 rfl (lv_at hl 4 rfl) ?_
            refine va_get (D := G) (ci := 3) (v := .ref qD) (C := cn_J) (T := ft_J) (N := 6) hx hb hts uw_J hown hK hP 4 rfl rfl 0 (by decide) (hts _ tw_107) (fun _ h9 => h9) rfl dd_J_commit_80 ?_
            refine jm_callV (wr := ((qI, .inr (2, [.ref qD])) :: [(qJ, .inr (3, [.ref qD, .ref qI, .ref qH, .int (nI 0), .int (nI (wd + (wc - 1))), .int (nI tf)])), (qH, .inl (cH, 6, .inr (.inr (.inr (.inr (fun k => some (qh k))))))), jh qh ho hn hg hm hp 0, jh qh ho hn hg hm hp 1, jh qh ho hn hg hm hp 2, jh qh ho hn hg hm hp 3, jh qh ho hn hg hm hp 4, jh qh ho hn hg hm hp 5])) C (ct_D_keep l G qD qS qC cS cC s c  ) kl_J_36 ⟨Nat.le_of_ble_eq_true rfl, Nat.le_of_ble_eq_true rfl⟩ ⟨Nat.le_of_ble_eq_true rfl, Nat.le_of_ble_eq_true rfl⟩ hP hD hS hA (hK.sub [0, 1] rfl) (va_recv hK hP (ci := 0) (q0 := 0) rfl rfl) hl.1 rfl rfl (Nat.le_of_ble_eq_true rfl) dd_J_commit_83 (fun H locs hP hD hS => ?_)
            have hP : va_P G jcl (wJ qJ qH qh cH qI qD qS qC cS cC s (jf_cpy s c) ho hn hg hm hp 0 (wd + (wc - 1)) tf) H := hP
            have hD : va_D A (wJ qJ qH qh cH qI qD qS qC cS cC s (jf_cpy s c) ho hn hg hm hp 0 (wd + (wc - 1)) tf) := hD
            have hf_26 : jf_ok (jf_cpy s c) := jf_cpy_ok (by assumption) (by assumption)
            refine lv_aload_n hx hb dd_J_commit_86 rfl (lv_at hl 4 rfl) ?_
            refine jm_callV (wr := []) C (ct_J_losePower l G qJ qH qh cH qI qD qS qC cS cC s (jf_cpy s c) ho hn hg hm hp 0 (wd + (wc - 1)) tf  (by omega) (by first | assumption | (simp only [] ; assumption)) (by first | assumption | (simp only [] ; assumption))) kl_J_203 ⟨Nat.le_of_ble_eq_true rfl, Nat.le_of_ble_eq_true rfl⟩ ⟨Nat.le_of_ble_eq_true rfl, Nat.le_of_ble_eq_true rfl⟩ hP hD hS hA (hK) (va_recv hK hP (ci := 3) (q0 := 4) rfl rfl) hl.1 rfl rfl (Nat.le_of_ble_eq_true rfl) dd_J_commit_87 (fun H locs hP hD hS => ?_)
            have hP : va_P G jcl (wJ qJ qH qh cH qI qD qS qC cS cC (jf_cpy (jf_cpy s c) s) (jf_cpy s c) (jf_lpL 6 0 ho) hn hg hm hp 0 (wd + (wc - 1)) (tf + 1)) H := hP
            have hD : va_D A (wJ qJ qH qh cH qI qD qS qC cS cC (jf_cpy (jf_cpy s c) s) (jf_cpy s c) (jf_lpL 6 0 ho) hn hg hm hp 0 (wd + (wc - 1)) (tf + 1)) := hD
            exact tt_ISES (is := 206) (text := "power failed") hl9 htb C hz (by decide +kernel) ⟨by first | (simp [jf_cT, jf_cmJ, c_2, c_15, c_19, c_23, c_25, jex]; done) | (exfalso; omega), by first | (simp [jf_cT, jf_cmJ, c_2, c_15, c_19, c_23, c_25, jex]; done) | (exfalso; omega), (by first | with_reducible rfl | (simp [jf_cT, jf_cmJ, c_2, c_15, c_19, c_23, c_25, jex]; done) | (exfalso; omega))⟩ hP hD hK hS hl.1 dd_J_commit_90 dd_J_commit_93 dd_J_commit_94 dd_J_commit_96 dd_J_commit_99 ⟨Nat.le_of_ble_eq_true rfl, Nat.le_of_ble_eq_true rfl, Nat.le_of_ble_eq_true rfl, Nat.le_of_ble_eq_true rfl⟩ ⟨Nat.le_of_ble_eq_true rfl, Nat.le_of_ble_eq_true rfl⟩
