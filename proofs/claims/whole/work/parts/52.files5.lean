theorem ct_J_makeNew2 (l : Launch) (G : va_G) (qJ qH : Nat) (qh : Nat → Nat) (cH : ClassId) (qI qD qS qC : Nat) (cS cC : ClassId) (s : Nat → Nat) (c : Nat → Nat) (ho : Nat → Nat) (hn : Nat → Nat) (hg : Nat → Nat) (hm : Nat → Nat) (hp : Nat → Nat) (wc : Nat) (wd : Nat) (tf : Nat) (d : Nat) (nm : Nat) (k : Nat) (hd0 : d < 256) (hn0 : nm < 256) (hk0 : k < 256) (hT : jf_rnT s d = 0) (h2 : jf_kind s d = 2) (hs : jf_ok s) : jm l yn_J_makeNew (.code yn_J_makeNew cd_J_makeNew 5 (some .int)) { frames := 5, cells := 0, slots := 0, locals := 115 } G (tJ cS cC cH) (wJ qJ qH qh cH qI qD qS qC cS cC s c ho hn hg hm hp wc wd tf) [.ref qJ, .int (nI (d)), .int (nI (nm)), .int (nI (k))] (some (.int (nI ((jf_leastFree s).getD 0)))) (wJ qJ qH qh cH qI qD qS qC cS cC (jf_new s d nm k) c ho hn hg hm hp wc wd tf) := by
  obtain ⟨j, hj, he⟩ := jf_rnT_0 hT
  have hj0 := jf_leastFree_lt hj
  have hk9 := jf_lfL_kind s _ _ hj
  have hd : d ≠ j := by intro q; rw [q] at h2; omega
  unfold jf_new
  rw [hj]
  exact ct_J_makeNew l G qJ qH qh cH qI qD qS qC cS cC s c ho hn hg hm hp wc wd tf d nm k j hd0 hn0 hk0 hj hj0 (by rw [jf_entries_occ s k hd]; omega) hs
set_option maxHeartbeats 4000000 in
set_option maxRecDepth 100000 in
theorem ct_J_directory (l : Launch) (hl9 : l.stackTraces = false) (G : va_G) (qJ qH : Nat) (qh : Nat → Nat) (cH : ClassId) (qI qD qS qC : Nat) (cS cC : ClassId) (s : Nat → Nat) (c : Nat → Nat) (ho : Nat → Nat) (hn : Nat → Nat) (hg : Nat → Nat) (hm : Nat → Nat) (hp : Nat → Nat) (wc : Nat) (wd : Nat) (tf : Nat) (u : Nat) (hu0 : u < 4294967296) (hs : jf_ok s) : jt l yn_J_directory (.code yn_J_directory cd_J_directory 3 (some .int)) { frames := 7, cells := 4, slots := 24, locals := 156 } G (tJ cS cC cH) (wJ qJ qH qh cH qI qD qS qC cS cC s c ho hn hg hm hp wc wd tf) [.ref qJ, .int (nI (u))] (fun o w => (jf_dirT s u) = 0 ∧ o = (some (.int (nI ((jf_leastFree s).getD 0)))) ∧ w = (wJ qJ qH qh cH qI qD qS qC cS cC (jf_new s ((jf_inodeAt s (u / 2 ^ 8)).getD 0) (u % 256) 2) c ho hn hg hm hp wc wd tf)) (fun E w => ¬ (jf_dirT s u) = 0 ∧ E = jex (jf_dirT s u) ∧ w = (wJ qJ qH qh cH qI qD qS qC cS cC s c ho hn hg hm hp wc wd tf)) := by
  refine jt_of (by decide) (Nat.le_of_ble_eq_true rfl) ?_
  intro pr en σ mi bel met cd ls A hA C htb hz hP hK hD hS hl
  have hx := C.1
  have hb := C.2.1
  have hown := C.2.2.2.1
  have hts := C.2.2.2.2.1
  have hl : lv_has ls 3 [(0, .ref qJ), (1, .int (nI (u)))] := hl
  refine lv_iload_n hx hb dd_J_directory_0 rfl (lv_at hl 1 rfl) ?_
  refine jt_callS (wr := wJ qJ qH qh cH qI qD qS qC cS cC s c ho hn hg hm hp wc wd tf) C hz (ct_J_checkPath l hl9 G u (by omega)) kl_J_39 ⟨Nat.le_of_ble_eq_true rfl, Nat.le_of_ble_eq_true rfl⟩ ⟨Nat.le_of_ble_eq_true rfl, Nat.le_of_ble_eq_true rfl⟩ hP hD hS hA (hK.sub [] rfl) hl.1 rfl rfl (Nat.le_of_ble_eq_true rfl) dd_J_directory_1 (fun E w1 H1 locs1 q9 ce hxx hP hD hS g1 g2 g3 => ?_) (fun o w1 H locs hxx hP hD hS => ?_)
  · obtain ⟨hx_1, rfl, rfl⟩ := hxx
    exact jt_out htb C ⟨by first | (simp [jf_dirT, hx_1]; done), by first | (simp [jf_dirT, hx_1]; done), rfl⟩ hP hD hK hS ⟨Nat.le_of_ble_eq_true rfl, Nat.le_of_ble_eq_true rfl⟩ g1 g2 g3
  · obtain ⟨hx_1, rfl, rfl⟩ := hxx
    have hP : va_P G jcl (wJ qJ qH qh cH qI qD qS qC cS cC s c ho hn hg hm hp wc wd tf) H := hP
    have hD : va_D A (wJ qJ qH qh cH qI qD qS qC cS cC s c ho hn hg hm hp wc wd tf) := hD
    refine lv_aload_n hx hb dd_J_directory_4 rfl (lv_at hl 0 rfl) ?_
    refine lv_iload_n hx hb dd_J_directory_5 rfl (lv_at hl 1 rfl) ?_
    refine jr_callV C (ct_J_inodeAt l G qJ qH qh cH qI qD qS qC cS cC s c ho hn hg hm hp wc wd tf u (by omega) (by first | assumption | (simp only [] ; assumption))) kl_J_43 ⟨Nat.le_of_ble_eq_true rfl, Nat.le_of_ble_eq_true rfl, rfl, rfl⟩ ⟨Nat.le_of_ble_eq_true rfl, Nat.le_of_ble_eq_true rfl⟩ (hP) (hK) (va_recv hK hP (ci := 3) (q0 := 4) rfl rfl) hl.1 rfl rfl (Nat.le_of_ble_eq_true rfl) dd_J_directory_6 ?_
    refine lv_iconst (v := -1) hx hb dd_J_directory_9 (by decide) ?_
    refine jl_eqO (tgt := 23) hx hb (fun j h => Nat.lt_of_lt_of_le (jf_inodeAt_lt (by assumption) h) (by omega)) dd_J_directory_10 (by decide) (fun hj_3 => ?_) (fun j_3 hj_3 => ?_)
    · skip
      refine lv_aload_n hx hb dd_J_directory_23 rfl (lv_at hl 0 rfl) ?_
      refine lv_iload_n hx hb dd_J_directory_24 rfl (lv_at hl 1 rfl) ?_
      refine jt_callV (wr := []) C hz (ct_J_parentNeeded l hl9 G qJ qH qh cH qI qD qS qC cS cC s c ho hn hg hm hp wc wd tf u (by omega) (by first | assumption | (simp only [] ; assumption))) kl_J_54 ⟨Nat.le_of_ble_eq_true rfl, Nat.le_of_ble_eq_true rfl⟩ ⟨Nat.le_of_ble_eq_true rfl, Nat.le_of_ble_eq_true rfl⟩ hP hD hS hA (hK) (va_recv hK hP (ci := 3) (q0 := 4) rfl rfl) hl.1 rfl rfl (Nat.le_of_ble_eq_true rfl) dd_J_directory_25 (fun E w1 H1 locs1 q9 ce hxx hP hD hS g1 g2 g3 => ?_) (fun o w1 H locs hxx hP hD hS => ?_)
      · obtain ⟨hx_6, rfl, rfl⟩ := hxx
        exact jt_out htb C ⟨by first | (simp [jf_dirT, hx_1, hj_3, hx_6]; done), by first | (simp [jf_dirT, hx_1, hj_3, hx_6]; done), rfl⟩ hP hD hK hS ⟨Nat.le_of_ble_eq_true rfl, Nat.le_of_ble_eq_true rfl⟩ g1 g2 g3
      · obtain ⟨hx_6, rfl, rfl⟩ := hxx
        have hP : va_P G jcl (wJ qJ qH qh cH qI qD qS qC cS cC s c ho hn hg hm hp wc wd tf) H := hP
        have hD : va_D A (wJ qJ qH qh cH qI qD qS qC cS cC s c ho hn hg hm hp wc wd tf) := hD
        have hf_4 : (jf_inodeAt s (u / 2 ^ 8)).getD 0 < 256 := jf_getD_lt (by assumption) _
        have hf_5 : jf_kind s ((jf_inodeAt s (u / 2 ^ 8)).getD 0) = 2 := jf_paT_0 hx_6
        refine lv_istore_n (lv' := [(2, .int (nI ((jf_inodeAt s (u / 2 ^ 8)).getD 0))), (0, .ref qJ), (1, .int (nI (u)))]) hx hb dd_J_directory_28 rfl hl (by decide) rfl (fun ls hl => ?_)
        refine lv_aload_n hx hb dd_J_directory_29 rfl (lv_at hl 1 rfl) ?_
        refine lv_iload_n hx hb dd_J_directory_30 rfl (lv_at hl 0 rfl) ?_
        refine jt_callV (wr := []) C hz (ct_J_checkRoomForNew l hl9 G qJ qH qh cH qI qD qS qC cS cC s c ho hn hg hm hp wc wd tf ((jf_inodeAt s (u / 2 ^ 8)).getD 0) (by omega) (by first | assumption | (simp only [] ; assumption))) kl_J_57 ⟨Nat.le_of_ble_eq_true rfl, Nat.le_of_ble_eq_true rfl⟩ ⟨Nat.le_of_ble_eq_true rfl, Nat.le_of_ble_eq_true rfl⟩ hP hD hS hA (hK) (va_recv hK hP (ci := 3) (q0 := 4) rfl rfl) hl.1 rfl rfl (Nat.le_of_ble_eq_true rfl) dd_J_directory_31 (fun E w1 H1 locs1 q9 ce hxx hP hD hS g1 g2 g3 => ?_) (fun o w1 H locs hxx hP hD hS => ?_)
        · obtain ⟨hx_7, rfl, rfl⟩ := hxx
          exact jt_out htb C ⟨by first | (simp [jf_dirT, hx_1, hj_3, hx_6, hx_7]; done), by first | (simp [jf_dirT, hx_1, hj_3, hx_6, hx_7]; done), rfl⟩ hP hD hK hS ⟨Nat.le_of_ble_eq_true rfl, Nat.le_of_ble_eq_true rfl⟩ g1 g2 g3
        · obtain ⟨hx_7, rfl, rfl⟩ := hxx
          have hP : va_P G jcl (wJ qJ qH qh cH qI qD qS qC cS cC s c ho hn hg hm hp wc wd tf) H := hP
          have hD : va_D A (wJ qJ qH qh cH qI qD qS qC cS cC s c ho hn hg hm hp wc wd tf) := hD
          refine lv_aload_n hx hb dd_J_directory_34 rfl (lv_at hl 1 rfl) ?_
          refine lv_iload_n hx hb dd_J_directory_35 rfl (lv_at hl 0 rfl) ?_
          refine lv_iload_n hx hb dd_J_directory_36 rfl (lv_at hl 2 rfl) ?_
          refine lv_sipush (v := nI 255) hx hb dd_J_directory_37 (by decide) ?_
          refine jl_and255 hx hb (by omega) dd_J_directory_40 ?_
          refine lv_iconst (v := nI 2) hx hb dd_J_directory_41 (by decide) ?_
          refine jm_callV (wr := []) C (ct_J_makeNew2 l G qJ qH qh cH qI qD qS qC cS cC s c ho hn hg hm hp wc wd tf ((jf_inodeAt s (u / 2 ^ 8)).getD 0) (u % 256) 2 (by omega) (by omega) (by omega) (by omega) (by omega) (by first | assumption | (simp only [] ; assumption))) kl_J_60 ⟨Nat.le_of_ble_eq_true rfl, Nat.le_of_ble_eq_true rfl⟩ ⟨Nat.le_of_ble_eq_true rfl, Nat.le_of_ble_eq_true rfl⟩ hP hD hS hA (hK) (va_recv hK hP (ci := 3) (q0 := 4) rfl rfl) hl.1 rfl rfl (Nat.le_of_ble_eq_true rfl) dd_J_directory_42 (fun H locs hP hD hS => ?_)
          have hP : va_P G jcl (wJ qJ qH qh cH qI qD qS qC cS cC (jf_new s ((jf_inodeAt s (u / 2 ^ 8)).getD 0) (u % 256) 2) c ho hn hg hm hp wc wd tf) H := hP
          have hD : va_D A (wJ qJ qH qh cH qI qD qS qC cS cC (jf_new s ((jf_inodeAt s (u / 2 ^ 8)).getD 0) (u % 256) 2) c ho hn hg hm hp wc wd tf) := hD
          have hf_8 : jf_ok (jf_new s ((jf_inodeAt s (u / 2 ^ 8)).getD 0) (u % 256) 2) := jf_new_ok (by assumption) (by omega) (by omega) (by assumption) (by assumption)
          have hf_9 : (jf_leastFree s).getD 0 < 12 := jf_leastFree_getD _
          exact jt_reti C ⟨by first | (simp [jf_dirT, hx_1, hj_3, hx_6, hx_7]; done), (by first | with_reducible rfl | (simp [jf_dirT, hx_1, hj_3, hx_6, hx_7]; done)), rfl⟩ hP hD hK hS ⟨Nat.le_of_ble_eq_true rfl, Nat.le_of_ble_eq_true rfl⟩ dd_J_directory_45
    · skip
      have ho_10 := jf_inodeAt_lt (by assumption) hj_3
      exact tt_ISES (is := 49) (text := "something is there") hl9 htb C hz (by decide +kernel) ⟨by first | (simp [jf_dirT, hx_1, hj_3, jex]; done), by first | (simp [jf_dirT, hx_1, hj_3, jex]; done), rfl⟩ hP hD hK hS hl.1 dd_J_directory_13 dd_J_directory_16 dd_J_directory_17 dd_J_directory_19 dd_J_directory_22 ⟨Nat.le_of_ble_eq_true rfl, Nat.le_of_ble_eq_true rfl, Nat.le_of_ble_eq_true rfl, Nat.le_of_ble_eq_true rfl⟩ ⟨Nat.le_of_ble_eq_true rfl, Nat.le_of_ble_eq_true rfl⟩
set_option maxHeartbeats 4000000 in
set_option maxRecDepth 100000 in
theorem ct_J_open (l : Launch) (hl9 : l.stackTraces = false) (G : va_G) (qJ qH : Nat) (qh : Nat → Nat) (cH : ClassId) (qI qD qS qC : Nat) (cS cC : ClassId) (s : Nat → Nat) (c : Nat → Nat) (ho : Nat → Nat) (hn : Nat → Nat) (hg : Nat → Nat) (hm : Nat → Nat) (hp : Nat → Nat) (wc : Nat) (wd : Nat) (tf : Nat) (u : Nat) (z : Nat) (cr : Nat) (ap : Nat) (em : Nat) (hu0 : u < 4294967296) (hz0 : z < 4294967296) (hcr : cr < 2) (hap : ap < 2) (hem : em < 2) (hs : jf_ok s) (hho : jlt 2 ho) (hhn : jlt 256 hn) (hhg : jlt 256 hg) (hhm : jlt 5 hm) (hhp : jlt 65 hp) : jt l yn_J_open (.code yn_J_open cd_J_open 9 (some .int)) { frames := 7, cells := 6, slots := 36, locals := 156 } G (tJ cS cC cH) (wJ qJ qH qh cH qI qD qS qC cS cC s c ho hn hg hm hp wc wd tf) [.ref qJ, .int (nI (u)), .int (nI (z)), .int (nI (cr)), .int (nI (ap)), .int (nI (em))] (fun o w => (jf_opT s ho u z cr) = 0 ∧ o = (some (.int (nI ((jf_closed ho).getD 0)))) ∧ w = (wJ qJ qH qh cH qI qD qS qC cS cC (jf_opS s u z em) c (ju ho ((jf_closed ho).getD 0) 1) (ju hn ((jf_closed ho).getD 0) (jf_opI s u)) (ju hg ((jf_closed ho).getD 0) (jf_gen (jf_opS s u z em) (jf_opI s u))) (ju hm ((jf_closed ho).getD 0) z) (ju hp ((jf_closed ho).getD 0) (jf_opP s u z ap em)) wc wd tf)) (fun E w => ¬ (jf_opT s ho u z cr) = 0 ∧ E = jex (jf_opT s ho u z cr) ∧ w = (wJ qJ qH qh cH qI qD qS qC cS cC s c ho hn hg hm hp wc wd tf)) := by
  refine jt_of (by decide) (Nat.le_of_ble_eq_true rfl) ?_
  intro pr en σ mi bel met cd ls A hA C htb hz hP hK hD hS hl
  have hx := C.1
  have hb := C.2.1
  have hown := C.2.2.2.1
  have hts := C.2.2.2.2.1
  have hl : lv_has ls 9 [(0, .ref qJ), (1, .int (nI (u))), (2, .int (nI (z))), (3, .int (nI (cr))), (4, .int (nI (ap))), (5, .int (nI (em)))] := hl
  refine lv_iload_n hx hb dd_J_open_0 rfl (lv_at hl 1 rfl) ?_
  refine jt_callS (wr := wJ qJ qH qh cH qI qD qS qC cS cC s c ho hn hg hm hp wc wd tf) C hz (ct_J_checkPath l hl9 G u (by omega)) kl_J_39 ⟨Nat.le_of_ble_eq_true rfl, Nat.le_of_ble_eq_true rfl⟩ ⟨Nat.le_of_ble_eq_true rfl, Nat.le_of_ble_eq_true rfl⟩ hP hD hS hA (hK.sub [] rfl) hl.1 rfl rfl (Nat.le_of_ble_eq_true rfl) dd_J_open_1 (fun E w1 H1 locs1 q9 ce hxx hP hD hS g1 g2 g3 => ?_) (fun o w1 H locs hxx hP hD hS => ?_)
  · obtain ⟨hx_1, rfl, rfl⟩ := hxx
    exact jt_out htb C ⟨by first | (simp [jf_opT, jf_opS, jf_opI, jf_opP, hx_1]; done), by first | (simp [jf_opT, jf_opS, jf_opI, jf_opP, hx_1]; done), rfl⟩ hP hD hK hS ⟨Nat.le_of_ble_eq_true rfl, Nat.le_of_ble_eq_true rfl⟩ g1 g2 g3
  · obtain ⟨hx_1, rfl, rfl⟩ := hxx
    have hP : va_P G jcl (wJ qJ qH qh cH qI qD qS qC cS cC s c ho hn hg hm hp wc wd tf) H := hP
    have hD : va_D A (wJ qJ qH qh cH qI qD qS qC cS cC s c ho hn hg hm hp wc wd tf) := hD
    refine lv_iload_n hx hb dd_J_open_4 rfl (lv_at hl 2 rfl) ?_
    refine lv_iconst (v := nI 1) hx hb dd_J_open_5 (by decide) ?_
    refine lv_iconst (v := nI 4) hx hb dd_J_open_6 (by decide) ?_
    refine jt_callS (wr := wJ qJ qH qh cH qI qD qS qC cS cC s c ho hn hg hm hp wc wd tf) C hz (ct_J_checkRange l hl9 G z 1 4 (by omega) (by omega) (by omega)) kl_J_64 ⟨Nat.le_of_ble_eq_true rfl, Nat.le_of_ble_eq_true rfl⟩ ⟨Nat.le_of_ble_eq_true rfl, Nat.le_of_ble_eq_true rfl⟩ hP hD hS hA (hK.sub [] rfl) hl.1 rfl rfl (Nat.le_of_ble_eq_true rfl) dd_J_open_7 (fun E w1 H1 locs1 q9 ce hxx hP hD hS g1 g2 g3 => ?_) (fun o w1 H locs hxx hP hD hS => ?_)
    · obtain ⟨hx_3, rfl, rfl⟩ := hxx
      exact jt_out htb C ⟨by first | (simp [jf_opT, jf_opS, jf_opI, jf_opP, hx_1, hx_3]; done), by first | (simp [jf_opT, jf_opS, jf_opI, jf_opP, hx_1, hx_3]; done), rfl⟩ hP hD hK hS ⟨Nat.le_of_ble_eq_true rfl, Nat.le_of_ble_eq_true rfl⟩ g1 g2 g3
    · obtain ⟨hx_3, rfl, rfl⟩ := hxx
      have hP : va_P G jcl (wJ qJ qH qh cH qI qD qS qC cS cC s c ho hn hg hm hp wc wd tf) H := hP
      have hD : va_D A (wJ qJ qH qh cH qI qD qS qC cS cC s c ho hn hg hm hp wc wd tf) := hD
      have hf_2 : 1 ≤ z ∧ z ≤ 4 := jf_rng_0 hx_3
      refine lv_aload_n hx hb dd_J_open_10 rfl (lv_at hl 0 rfl) ?_
      refine lv_iload_n hx hb dd_J_open_11 rfl (lv_at hl 1 rfl) ?_
      refine jr_callV C (ct_J_inodeAt l G qJ qH qh cH qI qD qS qC cS cC s c ho hn hg hm hp wc wd tf u (by omega) (by first | assumption | (simp only [] ; assumption))) kl_J_43 ⟨Nat.le_of_ble_eq_true rfl, Nat.le_of_ble_eq_true rfl, rfl, rfl⟩ ⟨Nat.le_of_ble_eq_true rfl, Nat.le_of_ble_eq_true rfl⟩ (hP) (hK) (va_recv hK hP (ci := 3) (q0 := 4) rfl rfl) hl.1 rfl rfl (Nat.le_of_ble_eq_true rfl) dd_J_open_12 ?_
      refine lv_istore (lv' := [(6, .int (jo (jf_inodeAt s u))), (0, .ref qJ), (1, .int (nI (u))), (2, .int (nI (z))), (3, .int (nI (cr))), (4, .int (nI (ap))), (5, .int (nI (em)))]) hx hb dd_J_open_15 hl (by decide) rfl (fun ls hl => ?_)
      refine lv_iload hx hb dd_J_open_17 (lv_at hl 0 rfl) ?_
      refine lv_iconst (v := -1) hx hb dd_J_open_19 (by decide) ?_
      refine jl_neO (tgt := 88) hx hb (fun j h => Nat.lt_of_lt_of_le (jf_inodeAt_lt (by assumption) h) (by omega)) dd_J_open_20 (by decide) (fun j_5 hj_5 => ?_) (fun hj_5 => ?_)
      · skip
        have ho_6 := jf_inodeAt_lt (by assumption) hj_5
        have hl : lv_has ls 9 [(6, .int (nI (j_5))), (0, .ref qJ), (1, .int (nI (u))), (2, .int (nI (z))), (3, .int (nI (cr))), (4, .int (nI (ap))), (5, .int (nI (em)))] := by rw [hj_5] at hl; exact hl
        refine lv_aload_n hx hb dd_J_open_88 rfl (lv_at hl 1 rfl) ?_
        refine va_get (D := G) (ci := 3) (v := .ref qI) (C := cn_J) (T := ft_J) (N := 6) hx hb hts uw_J hown hK hP 4 rfl rfl 1 (by decide) (hts _ tw_108) (fun _ h9 => h9) rfl dd_J_open_89 ?_
        refine lv_iload hx hb dd_J_open_92 (lv_at hl 0 rfl) ?_
        refine jr_callV C (ct_I_kind l G qI qD qS qC cS cC s c j_5 (by omega) (by first | assumption | (simp only [] ; assumption))) kl_J_85 ⟨Nat.le_of_ble_eq_true rfl, Nat.le_of_ble_eq_true rfl, rfl, rfl⟩ ⟨Nat.le_of_ble_eq_true rfl, Nat.le_of_ble_eq_true rfl⟩ (jw_left hP) (hK.sub [0, 1] rfl) (va_recv hK hP (ci := 2) (q0 := 3) rfl rfl) hl.1 rfl rfl (Nat.le_of_ble_eq_true rfl) dd_J_open_94 ?_
        have hf_7 : jf_kind s j_5 < 256 := jf_get_lt (by assumption) _
        refine lv_iload_n hx hb dd_J_open_97 rfl (lv_at hl 3 rfl) ?_
        refine jr_callS0 C (ct_J_kindFor l G z (by omega)) kl_J_88 ⟨Nat.le_of_ble_eq_true rfl, Nat.le_of_ble_eq_true rfl, rfl, rfl⟩ ⟨Nat.le_of_ble_eq_true rfl, Nat.le_of_ble_eq_true rfl⟩ hK hl.1 rfl rfl (Nat.le_of_ble_eq_true rfl) dd_J_open_98 ?_
        have hf_8 : jf_kf z < 3 := jf_kf_lt _
        refine jl_eq (tgt := 114) hx hb (by omega) (by omega) dd_J_open_101 (by decide) (fun c_9 => ?_) (fun c_9 => ?_)
        · skip
          refine lv_aload_n hx hb dd_J_open_114 rfl (lv_at hl 1 rfl) ?_
          refine jt_callV (wr := []) C hz (ct_J_closedHandleNeeded l hl9 G qJ qH qh cH qI qD qS qC cS cC s c ho hn hg hm hp wc wd tf  (by assumption)) kl_J_77 ⟨Nat.le_of_ble_eq_true rfl, Nat.le_of_ble_eq_true rfl⟩ ⟨Nat.le_of_ble_eq_true rfl, Nat.le_of_ble_eq_true rfl⟩ hP hD hS hA (hK) (va_recv hK hP (ci := 3) (q0 := 4) rfl rfl) hl.1 rfl rfl (Nat.le_of_ble_eq_true rfl) dd_J_open_115 (fun E w1 H1 locs1 q9 ce hxx hP hD hS g1 g2 g3 => ?_) (fun o w1 H locs hxx hP hD hS => ?_)
          · obtain ⟨hx_11, rfl, rfl⟩ := hxx
            exact jt_out htb C ⟨by first | (simp [jf_opT, jf_opS, jf_opI, jf_opP, hx_1, hx_3, hj_5, c_9, hx_11]; done), by first | (simp [jf_opT, jf_opS, jf_opI, jf_opP, hx_1, hx_3, hj_5, c_9, hx_11]; done), rfl⟩ hP hD hK hS ⟨Nat.le_of_ble_eq_true rfl, Nat.le_of_ble_eq_true rfl⟩ g1 g2 g3
          · obtain ⟨hx_11, rfl, rfl⟩ := hxx
            have hP : va_P G jcl (wJ qJ qH qh cH qI qD qS qC cS cC s c ho hn hg hm hp wc wd tf) H := hP
            have hD : va_D A (wJ qJ qH qh cH qI qD qS qC cS cC s c ho hn hg hm hp wc wd tf) := hD
            have hf_10 : (jf_closed ho).getD 0 < 6 := jf_closed_6 _
            refine lv_istore (lv' := [(7, .int (nI ((jf_closed ho).getD 0))), (6, .int (nI (j_5))), (0, .ref qJ), (1, .int (nI (u))), (2, .int (nI (z))), (3, .int (nI (cr))), (4, .int (nI (ap))), (5, .int (nI (em)))]) hx hb dd_J_open_118 hl (by decide) rfl (fun ls hl => ?_)
            refine lv_iload hx hb dd_J_open_120 (lv_at hl 7 rfl) ?_
            refine jl_ifeq (tgt := 142) hx hb (by omega) dd_J_open_122 (by decide) (fun c_12 => ?_) (fun c_12 => ?_)
            · skip
              refine lv_aload_n hx hb dd_J_open_142 rfl (lv_at hl 2 rfl) ?_
              refine lv_iload hx hb dd_J_open_143 (lv_at hl 0 rfl) ?_
              refine lv_iload hx hb dd_J_open_145 (lv_at hl 1 rfl) ?_
              refine lv_iload_n hx hb dd_J_open_147 rfl (lv_at hl 4 rfl) ?_
              refine lv_iload hx hb dd_J_open_148 (lv_at hl 6 rfl) ?_
              refine jl_ifeq (tgt := 170) hx hb (by omega) dd_J_open_150 (by decide) (fun c_13 => ?_) (fun c_13 => ?_)
              · skip
                refine lv_iconst (v := nI 0) hx hb dd_J_open_170 (by decide) ?_
                refine jm_callV (wr := []) C (ct_J_openHandle l G qJ qH qh cH qI qD qS qC cS cC s c ho hn hg hm hp wc wd tf ((jf_closed ho).getD 0) j_5 z 0 (by omega) (by omega) (by first | assumption | (simp only [] ; assumption))) kl_J_81 ⟨Nat.le_of_ble_eq_true rfl, Nat.le_of_ble_eq_true rfl⟩ ⟨Nat.le_of_ble_eq_true rfl, Nat.le_of_ble_eq_true rfl⟩ hP hD hS hA (hK) (va_recv hK hP (ci := 3) (q0 := 4) rfl rfl) hl.1 rfl rfl (Nat.le_of_ble_eq_true rfl) dd_J_open_171 (fun H locs hP hD hS => ?_)
                have hP : va_P G jcl (wJ qJ qH qh cH qI qD qS qC cS cC s c (ju ho ((jf_closed ho).getD 0) 1) (ju hn ((jf_closed ho).getD 0) j_5) (ju hg ((jf_closed ho).getD 0) (jf_gen s j_5)) (ju hm ((jf_closed ho).getD 0) z) (ju hp ((jf_closed ho).getD 0) 0) wc wd tf) H := hP
                have hD : va_D A (wJ qJ qH qh cH qI qD qS qC cS cC s c (ju ho ((jf_closed ho).getD 0) 1) (ju hn ((jf_closed ho).getD 0) j_5) (ju hg ((jf_closed ho).getD 0) (jf_gen s j_5)) (ju hm ((jf_closed ho).getD 0) z) (ju hp ((jf_closed ho).getD 0) 0) wc wd tf) := hD
                exact jt_reti C ⟨by first | (simp [jf_opT, jf_opS, jf_opI, jf_opP, hx_1, hx_3, hj_5, c_9, hx_11, eq_true c_12, eq_true c_13]; done), (by first | with_reducible rfl | (simp [jf_opT, jf_opS, jf_opI, jf_opP, hx_1, hx_3, hj_5, c_9, hx_11, eq_true c_12, eq_true c_13]; done)), (by first | with_reducible rfl | (simp [jf_opT, jf_opS, jf_opI, jf_opP, hx_1, hx_3, hj_5, c_9, hx_11, eq_true c_12, eq_true c_13]; done))⟩ hP hD hK hS ⟨Nat.le_of_ble_eq_true rfl, Nat.le_of_ble_eq_true rfl⟩ dd_J_open_174
              · skip
                refine lv_iload_n hx hb dd_J_open_153 rfl (lv_at hl 4 rfl) ?_
                refine lv_iconst (v := nI 4) hx hb dd_J_open_154 (by decide) ?_
                refine jl_eq32 (tgt := 170) hx hb (by omega) (by omega) dd_J_open_155 (by decide) (fun c_14 => ?_) (fun c_14 => ?_)
                · skip
                  refine lv_iconst (v := nI 0) hx hb dd_J_open_170 (by decide) ?_
                  refine jm_callV (wr := []) C (ct_J_openHandle l G qJ qH qh cH qI qD qS qC cS cC s c ho hn hg hm hp wc wd tf ((jf_closed ho).getD 0) j_5 z 0 (by omega) (by omega) (by first | assumption | (simp only [] ; assumption))) kl_J_81 ⟨Nat.le_of_ble_eq_true rfl, Nat.le_of_ble_eq_true rfl⟩ ⟨Nat.le_of_ble_eq_true rfl, Nat.le_of_ble_eq_true rfl⟩ hP hD hS hA (hK) (va_recv hK hP (ci := 3) (q0 := 4) rfl rfl) hl.1 rfl rfl (Nat.le_of_ble_eq_true rfl) dd_J_open_171 (fun H locs hP hD hS => ?_)
                  have hP : va_P G jcl (wJ qJ qH qh cH qI qD qS qC cS cC s c (ju ho ((jf_closed ho).getD 0) 1) (ju hn ((jf_closed ho).getD 0) j_5) (ju hg ((jf_closed ho).getD 0) (jf_gen s j_5)) (ju hm ((jf_closed ho).getD 0) z) (ju hp ((jf_closed ho).getD 0) 0) wc wd tf) H := hP
                  have hD : va_D A (wJ qJ qH qh cH qI qD qS qC cS cC s c (ju ho ((jf_closed ho).getD 0) 1) (ju hn ((jf_closed ho).getD 0) j_5) (ju hg ((jf_closed ho).getD 0) (jf_gen s j_5)) (ju hm ((jf_closed ho).getD 0) z) (ju hp ((jf_closed ho).getD 0) 0) wc wd tf) := hD
                  exact jt_reti C ⟨by first | (simp [jf_opT, jf_opS, jf_opI, jf_opP, hx_1, hx_3, hj_5, c_9, hx_11, eq_true c_12, c_13, eq_true c_14]; done), (by first | with_reducible rfl | (simp [jf_opT, jf_opS, jf_opI, jf_opP, hx_1, hx_3, hj_5, c_9, hx_11, eq_true c_12, c_13, eq_true c_14]; done)), (by first | with_reducible rfl | (simp [jf_opT, jf_opS, jf_opI, jf_opP, hx_1, hx_3, hj_5, c_9, hx_11, eq_true c_12, c_13, eq_true c_14]; done))⟩ hP hD hK hS ⟨Nat.le_of_ble_eq_true rfl, Nat.le_of_ble_eq_true rfl⟩ dd_J_open_174
                · skip
                  refine lv_aload_n hx hb dd_J_open_158 rfl (lv_at hl 2 rfl) ?_
                  refine va_get (D := G) (ci := 3) (v := .ref qI) (C := cn_J) (T := ft_J) (N := 6) hx hb hts uw_J hown hK hP 4 rfl rfl 1 (by decide) (hts _ tw_108) (fun _ h9 => h9) rfl dd_J_open_159 ?_
                  refine lv_iload hx hb dd_J_open_162 (lv_at hl 1 rfl) ?_
                  refine jr_callV C (ct_I_size l G qI qD qS qC cS cC s c j_5 (by omega) (by first | assumption | (simp only [] ; assumption))) kl_J_96 ⟨Nat.le_of_ble_eq_true rfl, Nat.le_of_ble_eq_true rfl, rfl, rfl⟩ ⟨Nat.le_of_ble_eq_true rfl, Nat.le_of_ble_eq_true rfl⟩ (jw_left hP) (hK.sub [0, 1] rfl) (va_recv hK hP (ci := 2) (q0 := 3) rfl rfl) hl.1 rfl rfl (Nat.le_of_ble_eq_true rfl) dd_J_open_164 ?_
                  have hf_15 : jf_size s j_5 < 256 := jf_get_lt (by assumption) _
                  refine lv_goto (tgt := 171) hx hb dd_J_open_167 (by decide) ?_
                  refine jm_callV (wr := []) C (ct_J_openHandle l G qJ qH qh cH qI qD qS qC cS cC s c ho hn hg hm hp wc wd tf ((jf_closed ho).getD 0) j_5 z (jf_size s j_5) (by omega) (by omega) (by first | assumption | (simp only [] ; assumption))) kl_J_81 ⟨Nat.le_of_ble_eq_true rfl, Nat.le_of_ble_eq_true rfl⟩ ⟨Nat.le_of_ble_eq_true rfl, Nat.le_of_ble_eq_true rfl⟩ hP hD hS hA (hK) (va_recv hK hP (ci := 3) (q0 := 4) rfl rfl) hl.1 rfl rfl (Nat.le_of_ble_eq_true rfl) dd_J_open_171 (fun H locs hP hD hS => ?_)
                  have hP : va_P G jcl (wJ qJ qH qh cH qI qD qS qC cS cC s c (ju ho ((jf_closed ho).getD 0) 1) (ju hn ((jf_closed ho).getD 0) j_5) (ju hg ((jf_closed ho).getD 0) (jf_gen s j_5)) (ju hm ((jf_closed ho).getD 0) z) (ju hp ((jf_closed ho).getD 0) (jf_size s j_5)) wc wd tf) H := hP
                  have hD : va_D A (wJ qJ qH qh cH qI qD qS qC cS cC s c (ju ho ((jf_closed ho).getD 0) 1) (ju hn ((jf_closed ho).getD 0) j_5) (ju hg ((jf_closed ho).getD 0) (jf_gen s j_5)) (ju hm ((jf_closed ho).getD 0) z) (ju hp ((jf_closed ho).getD 0) (jf_size s j_5)) wc wd tf) := hD
                  exact jt_reti C ⟨by first | (simp [jf_opT, jf_opS, jf_opI, jf_opP, hx_1, hx_3, hj_5, c_9, hx_11, eq_true c_12, c_13, c_14]; done), (by first | with_reducible rfl | (simp [jf_opT, jf_opS, jf_opI, jf_opP, hx_1, hx_3, hj_5, c_9, hx_11, eq_true c_12, c_13, c_14]; done)), (by first | with_reducible rfl | (simp [jf_opT, jf_opS, jf_opI, jf_opP, hx_1, hx_3, hj_5, c_9, hx_11, eq_true c_12, c_13, c_14]; done))⟩ hP hD hK hS ⟨Nat.le_of_ble_eq_true rfl, Nat.le_of_ble_eq_true rfl⟩ dd_J_open_174
            · skip
              refine lv_iload_n hx hb dd_J_open_125 rfl (lv_at hl 4 rfl) ?_
              refine jr_callS0 C (ct_J_writesBy l G z (by omega)) kl_J_68 ⟨Nat.le_of_ble_eq_true rfl, Nat.le_of_ble_eq_true rfl, rfl, rfl⟩ ⟨Nat.le_of_ble_eq_true rfl, Nat.le_of_ble_eq_true rfl⟩ hK hl.1 rfl rfl (Nat.le_of_ble_eq_true rfl) dd_J_open_126 ?_
              have hf_16 : jf_wrs z < 2 := jf_wrs_lt _
              refine jl_ifeq (tgt := 142) hx hb (by omega) dd_J_open_129 (by decide) (fun c_17 => ?_) (fun c_17 => ?_)
              · skip
                refine lv_aload_n hx hb dd_J_open_142 rfl (lv_at hl 2 rfl) ?_
                refine lv_iload hx hb dd_J_open_143 (lv_at hl 0 rfl) ?_
                refine lv_iload hx hb dd_J_open_145 (lv_at hl 1 rfl) ?_
                refine lv_iload_n hx hb dd_J_open_147 rfl (lv_at hl 4 rfl) ?_
                refine lv_iload hx hb dd_J_open_148 (lv_at hl 6 rfl) ?_
                refine jl_ifeq (tgt := 170) hx hb (by omega) dd_J_open_150 (by decide) (fun c_18 => ?_) (fun c_18 => ?_)
                · skip
                  refine lv_iconst (v := nI 0) hx hb dd_J_open_170 (by decide) ?_
                  refine jm_callV (wr := []) C (ct_J_openHandle l G qJ qH qh cH qI qD qS qC cS cC s c ho hn hg hm hp wc wd tf ((jf_closed ho).getD 0) j_5 z 0 (by omega) (by omega) (by first | assumption | (simp only [] ; assumption))) kl_J_81 ⟨Nat.le_of_ble_eq_true rfl, Nat.le_of_ble_eq_true rfl⟩ ⟨Nat.le_of_ble_eq_true rfl, Nat.le_of_ble_eq_true rfl⟩ hP hD hS hA (hK) (va_recv hK hP (ci := 3) (q0 := 4) rfl rfl) hl.1 rfl rfl (Nat.le_of_ble_eq_true rfl) dd_J_open_171 (fun H locs hP hD hS => ?_)
                  have hP : va_P G jcl (wJ qJ qH qh cH qI qD qS qC cS cC s c (ju ho ((jf_closed ho).getD 0) 1) (ju hn ((jf_closed ho).getD 0) j_5) (ju hg ((jf_closed ho).getD 0) (jf_gen s j_5)) (ju hm ((jf_closed ho).getD 0) z) (ju hp ((jf_closed ho).getD 0) 0) wc wd tf) H := hP
                  have hD : va_D A (wJ qJ qH qh cH qI qD qS qC cS cC s c (ju ho ((jf_closed ho).getD 0) 1) (ju hn ((jf_closed ho).getD 0) j_5) (ju hg ((jf_closed ho).getD 0) (jf_gen s j_5)) (ju hm ((jf_closed ho).getD 0) z) (ju hp ((jf_closed ho).getD 0) 0) wc wd tf) := hD
                  exact jt_reti C ⟨by first | (simp [jf_opT, jf_opS, jf_opI, jf_opP, hx_1, hx_3, hj_5, c_9, hx_11, c_12, c_17, eq_true c_18]; done), (by first | with_reducible rfl | (simp [jf_opT, jf_opS, jf_opI, jf_opP, hx_1, hx_3, hj_5, c_9, hx_11, c_12, c_17, eq_true c_18]; done)), (by first | with_reducible rfl | (simp [jf_opT, jf_opS, jf_opI, jf_opP, hx_1, hx_3, hj_5, c_9, hx_11, c_12, c_17, eq_true c_18]; done))⟩ hP hD hK hS ⟨Nat.le_of_ble_eq_true rfl, Nat.le_of_ble_eq_true rfl⟩ dd_J_open_174
                · skip
                  refine lv_iload_n hx hb dd_J_open_153 rfl (lv_at hl 4 rfl) ?_
                  refine lv_iconst (v := nI 4) hx hb dd_J_open_154 (by decide) ?_
                  refine jl_eq32 (tgt := 170) hx hb (by omega) (by omega) dd_J_open_155 (by decide) (fun c_19 => ?_) (fun c_19 => ?_)
                  · skip
                    refine lv_iconst (v := nI 0) hx hb dd_J_open_170 (by decide) ?_
                    refine jm_callV (wr := []) C (ct_J_openHandle l G qJ qH qh cH qI qD qS qC cS cC s c ho hn hg hm hp wc wd tf ((jf_closed ho).getD 0) j_5 z 0 (by omega) (by omega) (by first | assumption | (simp only [] ; assumption))) kl_J_81 ⟨Nat.le_of_ble_eq_true rfl, Nat.le_of_ble_eq_true rfl⟩ ⟨Nat.le_of_ble_eq_true rfl, Nat.le_of_ble_eq_true rfl⟩ hP hD hS hA (hK) (va_recv hK hP (ci := 3) (q0 := 4) rfl rfl) hl.1 rfl rfl (Nat.le_of_ble_eq_true rfl) dd_J_open_171 (fun H locs hP hD hS => ?_)
                    have hP : va_P G jcl (wJ qJ qH qh cH qI qD qS qC cS cC s c (ju ho ((jf_closed ho).getD 0) 1) (ju hn ((jf_closed ho).getD 0) j_5) (ju hg ((jf_closed ho).getD 0) (jf_gen s j_5)) (ju hm ((jf_closed ho).getD 0) z) (ju hp ((jf_closed ho).getD 0) 0) wc wd tf) H := hP
                    have hD : va_D A (wJ qJ qH qh cH qI qD qS qC cS cC s c (ju ho ((jf_closed ho).getD 0) 1) (ju hn ((jf_closed ho).getD 0) j_5) (ju hg ((jf_closed ho).getD 0) (jf_gen s j_5)) (ju hm ((jf_closed ho).getD 0) z) (ju hp ((jf_closed ho).getD 0) 0) wc wd tf) := hD
                    exact jt_reti C ⟨by first | (simp [jf_opT, jf_opS, jf_opI, jf_opP, hx_1, hx_3, hj_5, c_9, hx_11, c_12, c_17, c_18, eq_true c_19]; done), (by first | with_reducible rfl | (simp [jf_opT, jf_opS, jf_opI, jf_opP, hx_1, hx_3, hj_5, c_9, hx_11, c_12, c_17, c_18, eq_true c_19]; done)), (by first | with_reducible rfl | (simp [jf_opT, jf_opS, jf_opI, jf_opP, hx_1, hx_3, hj_5, c_9, hx_11, c_12, c_17, c_18, eq_true c_19]; done))⟩ hP hD hK hS ⟨Nat.le_of_ble_eq_true rfl, Nat.le_of_ble_eq_true rfl⟩ dd_J_open_174
                  · skip
                    refine lv_aload_n hx hb dd_J_open_158 rfl (lv_at hl 2 rfl) ?_
                    refine va_get (D := G) (ci := 3) (v := .ref qI) (C := cn_J) (T := ft_J) (N := 6) hx hb hts uw_J hown hK hP 4 rfl rfl 1 (by decide) (hts _ tw_108) (fun _ h9 => h9) rfl dd_J_open_159 ?_
                    refine lv_iload hx hb dd_J_open_162 (lv_at hl 1 rfl) ?_
                    refine jr_callV C (ct_I_size l G qI qD qS qC cS cC s c j_5 (by omega) (by first | assumption | (simp only [] ; assumption))) kl_J_96 ⟨Nat.le_of_ble_eq_true rfl, Nat.le_of_ble_eq_true rfl, rfl, rfl⟩ ⟨Nat.le_of_ble_eq_true rfl, Nat.le_of_ble_eq_true rfl⟩ (jw_left hP) (hK.sub [0, 1] rfl) (va_recv hK hP (ci := 2) (q0 := 3) rfl rfl) hl.1 rfl rfl (Nat.le_of_ble_eq_true rfl) dd_J_open_164 ?_
                    have hf_20 : jf_size s j_5 < 256 := jf_get_lt (by assumption) _
                    refine lv_goto (tgt := 171) hx hb dd_J_open_167 (by decide) ?_
                    refine jm_callV (wr := []) C (ct_J_openHandle l G qJ qH qh cH qI qD qS qC cS cC s c ho hn hg hm hp wc wd tf ((jf_closed ho).getD 0) j_5 z (jf_size s j_5) (by omega) (by omega) (by first | assumption | (simp only [] ; assumption))) kl_J_81 ⟨Nat.le_of_ble_eq_true rfl, Nat.le_of_ble_eq_true rfl⟩ ⟨Nat.le_of_ble_eq_true rfl, Nat.le_of_ble_eq_true rfl⟩ hP hD hS hA (hK) (va_recv hK hP (ci := 3) (q0 := 4) rfl rfl) hl.1 rfl rfl (Nat.le_of_ble_eq_true rfl) dd_J_open_171 (fun H locs hP hD hS => ?_)
                    have hP : va_P G jcl (wJ qJ qH qh cH qI qD qS qC cS cC s c (ju ho ((jf_closed ho).getD 0) 1) (ju hn ((jf_closed ho).getD 0) j_5) (ju hg ((jf_closed ho).getD 0) (jf_gen s j_5)) (ju hm ((jf_closed ho).getD 0) z) (ju hp ((jf_closed ho).getD 0) (jf_size s j_5)) wc wd tf) H := hP
                    have hD : va_D A (wJ qJ qH qh cH qI qD qS qC cS cC s c (ju ho ((jf_closed ho).getD 0) 1) (ju hn ((jf_closed ho).getD 0) j_5) (ju hg ((jf_closed ho).getD 0) (jf_gen s j_5)) (ju hm ((jf_closed ho).getD 0) z) (ju hp ((jf_closed ho).getD 0) (jf_size s j_5)) wc wd tf) := hD
                    exact jt_reti C ⟨by first | (simp [jf_opT, jf_opS, jf_opI, jf_opP, hx_1, hx_3, hj_5, c_9, hx_11, c_12, c_17, c_18, c_19]; done), (by first | with_reducible rfl | (simp [jf_opT, jf_opS, jf_opI, jf_opP, hx_1, hx_3, hj_5, c_9, hx_11, c_12, c_17, c_18, c_19]; done)), (by first | with_reducible rfl | (simp [jf_opT, jf_opS, jf_opI, jf_opP, hx_1, hx_3, hj_5, c_9, hx_11, c_12, c_17, c_18, c_19]; done))⟩ hP hD hK hS ⟨Nat.le_of_ble_eq_true rfl, Nat.le_of_ble_eq_true rfl⟩ dd_J_open_174
              · skip
                refine lv_aload_n hx hb dd_J_open_132 rfl (lv_at hl 2 rfl) ?_
                refine va_get (D := G) (ci := 3) (v := .ref qI) (C := cn_J) (T := ft_J) (N := 6) hx hb hts uw_J hown hK hP 4 rfl rfl 1 (by decide) (hts _ tw_108) (fun _ h9 => h9) rfl dd_J_open_133 ?_
                refine lv_iload hx hb dd_J_open_136 (lv_at hl 1 rfl) ?_
                refine lv_iconst (v := nI 0) hx hb dd_J_open_138 (by decide) ?_
                refine jm_callV (wr := [(qJ, .inr (3, [.ref qD, .ref qI, .ref qH, .int (nI wc), .int (nI wd), .int (nI tf)])), (qH, .inl (cH, 6, .inr (.inr (.inr (.inr (fun k => some (qh k))))))), jh qh ho hn hg hm hp 0, jh qh ho hn hg hm hp 1, jh qh ho hn hg hm hp 2, jh qh ho hn hg hm hp 3, jh qh ho hn hg hm hp 4, jh qh ho hn hg hm hp 5]) C (ct_I_resize l G qI qD qS qC cS cC s c j_5 0 (by omega) (by omega) (by first | assumption | (simp only [] ; assumption))) kl_J_93 ⟨Nat.le_of_ble_eq_true rfl, Nat.le_of_ble_eq_true rfl⟩ ⟨Nat.le_of_ble_eq_true rfl, Nat.le_of_ble_eq_true rfl⟩ hP hD hS hA (hK.sub [0, 1] rfl) (va_recv hK hP (ci := 2) (q0 := 3) rfl rfl) hl.1 rfl rfl (Nat.le_of_ble_eq_true rfl) dd_J_open_139 (fun H locs hP hD hS => ?_)
                have hP : va_P G jcl (wJ qJ qH qh cH qI qD qS qC cS cC (jf_resize s j_5 0) c ho hn hg hm hp wc wd tf) H := hP
                have hD : va_D A (wJ qJ qH qh cH qI qD qS qC cS cC (jf_resize s j_5 0) c ho hn hg hm hp wc wd tf) := hD
                have hf_21 : jf_ok (jf_resize s j_5 0) := jf_resize_ok (by assumption) _ (by omega)
                refine lv_aload_n hx hb dd_J_open_142 rfl (lv_at hl 2 rfl) ?_
                refine lv_iload hx hb dd_J_open_143 (lv_at hl 0 rfl) ?_
                refine lv_iload hx hb dd_J_open_145 (lv_at hl 1 rfl) ?_
                refine lv_iload_n hx hb dd_J_open_147 rfl (lv_at hl 4 rfl) ?_
                refine lv_iload hx hb dd_J_open_148 (lv_at hl 6 rfl) ?_
                refine jl_ifeq (tgt := 170) hx hb (by omega) dd_J_open_150 (by decide) (fun c_22 => ?_) (fun c_22 => ?_)
                · skip
                  refine lv_iconst (v := nI 0) hx hb dd_J_open_170 (by decide) ?_
                  refine jm_callV (wr := []) C (ct_J_openHandle l G qJ qH qh cH qI qD qS qC cS cC (jf_resize s j_5 0) c ho hn hg hm hp wc wd tf ((jf_closed ho).getD 0) j_5 z 0 (by omega) (by omega) (by first | assumption | (simp only [] ; assumption))) kl_J_81 ⟨Nat.le_of_ble_eq_true rfl, Nat.le_of_ble_eq_true rfl⟩ ⟨Nat.le_of_ble_eq_true rfl, Nat.le_of_ble_eq_true rfl⟩ hP hD hS hA (hK) (va_recv hK hP (ci := 3) (q0 := 4) rfl rfl) hl.1 rfl rfl (Nat.le_of_ble_eq_true rfl) dd_J_open_171 (fun H locs hP hD hS => ?_)
                  have hP : va_P G jcl (wJ qJ qH qh cH qI qD qS qC cS cC (jf_resize s j_5 0) c (ju ho ((jf_closed ho).getD 0) 1) (ju hn ((jf_closed ho).getD 0) j_5) (ju hg ((jf_closed ho).getD 0) (jf_gen (jf_resize s j_5 0) j_5)) (ju hm ((jf_closed ho).getD 0) z) (ju hp ((jf_closed ho).getD 0) 0) wc wd tf) H := hP
                  have hD : va_D A (wJ qJ qH qh cH qI qD qS qC cS cC (jf_resize s j_5 0) c (ju ho ((jf_closed ho).getD 0) 1) (ju hn ((jf_closed ho).getD 0) j_5) (ju hg ((jf_closed ho).getD 0) (jf_gen (jf_resize s j_5 0) j_5)) (ju hm ((jf_closed ho).getD 0) z) (ju hp ((jf_closed ho).getD 0) 0) wc wd tf) := hD
                  exact jt_reti C ⟨by first | (simp [jf_opT, jf_opS, jf_opI, jf_opP, hx_1, hx_3, hj_5, c_9, hx_11, c_12, c_17, eq_true c_22]; done), (by first | with_reducible rfl | (simp [jf_opT, jf_opS, jf_opI, jf_opP, hx_1, hx_3, hj_5, c_9, hx_11, c_12, c_17, eq_true c_22]; done)), (by first | with_reducible rfl | (simp [jf_opT, jf_opS, jf_opI, jf_opP, hx_1, hx_3, hj_5, c_9, hx_11, c_12, c_17, eq_true c_22]; done))⟩ hP hD hK hS ⟨Nat.le_of_ble_eq_true rfl, Nat.le_of_ble_eq_true rfl⟩ dd_J_open_174
                · skip
                  refine lv_iload_n hx hb dd_J_open_153 rfl (lv_at hl 4 rfl) ?_
                  refine lv_iconst (v := nI 4) hx hb dd_J_open_154 (by decide) ?_
                  refine jl_eq32 (tgt := 170) hx hb (by omega) (by omega) dd_J_open_155 (by decide) (fun c_23 => ?_) (fun c_23 => ?_)
                  · skip
                    refine lv_iconst (v := nI 0) hx hb dd_J_open_170 (by decide) ?_
                    refine jm_callV (wr := []) C (ct_J_openHandle l G qJ qH qh cH qI qD qS qC cS cC (jf_resize s j_5 0) c ho hn hg hm hp wc wd tf ((jf_closed ho).getD 0) j_5 z 0 (by omega) (by omega) (by first | assumption | (simp only [] ; assumption))) kl_J_81 ⟨Nat.le_of_ble_eq_true rfl, Nat.le_of_ble_eq_true rfl⟩ ⟨Nat.le_of_ble_eq_true rfl, Nat.le_of_ble_eq_true rfl⟩ hP hD hS hA (hK) (va_recv hK hP (ci := 3) (q0 := 4) rfl rfl) hl.1 rfl rfl (Nat.le_of_ble_eq_true rfl) dd_J_open_171 (fun H locs hP hD hS => ?_)
                    have hP : va_P G jcl (wJ qJ qH qh cH qI qD qS qC cS cC (jf_resize s j_5 0) c (ju ho ((jf_closed ho).getD 0) 1) (ju hn ((jf_closed ho).getD 0) j_5) (ju hg ((jf_closed ho).getD 0) (jf_gen (jf_resize s j_5 0) j_5)) (ju hm ((jf_closed ho).getD 0) z) (ju hp ((jf_closed ho).getD 0) 0) wc wd tf) H := hP
                    have hD : va_D A (wJ qJ qH qh cH qI qD qS qC cS cC (jf_resize s j_5 0) c (ju ho ((jf_closed ho).getD 0) 1) (ju hn ((jf_closed ho).getD 0) j_5) (ju hg ((jf_closed ho).getD 0) (jf_gen (jf_resize s j_5 0) j_5)) (ju hm ((jf_closed ho).getD 0) z) (ju hp ((jf_closed ho).getD 0) 0) wc wd tf) := hD
                    exact jt_reti C ⟨by first | (simp [jf_opT, jf_opS, jf_opI, jf_opP, hx_1, hx_3, hj_5, c_9, hx_11, c_12, c_17, c_22, eq_true c_23]; done), (by first | with_reducible rfl | (simp [jf_opT, jf_opS, jf_opI, jf_opP, hx_1, hx_3, hj_5, c_9, hx_11, c_12, c_17, c_22, eq_true c_23]; done)), (by first | with_reducible rfl | (simp [jf_opT, jf_opS, jf_opI, jf_opP, hx_1, hx_3, hj_5, c_9, hx_11, c_12, c_17, c_22, eq_true c_23]; done))⟩ hP hD hK hS ⟨Nat.le_of_ble_eq_true rfl, Nat.le_of_ble_eq_true rfl⟩ dd_J_open_174
                  · skip
                    refine lv_aload_n hx hb dd_J_open_158 rfl (lv_at hl 2 rfl) ?_
                    refine va_get (D := G) (ci := 3) (v := .ref qI) (C := cn_J) (T := ft_J) (N := 6) hx hb hts uw_J hown hK hP 4 rfl rfl 1 (by decide) (hts _ tw_108) (fun _ h9 => h9) rfl dd_J_open_159 ?_
                    refine lv_iload hx hb dd_J_open_162 (lv_at hl 1 rfl) ?_
                    refine jr_callV C (ct_I_size l G qI qD qS qC cS cC (jf_resize s j_5 0) c j_5 (by omega) (by first | assumption | (simp only [] ; assumption))) kl_J_96 ⟨Nat.le_of_ble_eq_true rfl, Nat.le_of_ble_eq_true rfl, rfl, rfl⟩ ⟨Nat.le_of_ble_eq_true rfl, Nat.le_of_ble_eq_true rfl⟩ (jw_left hP) (hK.sub [0, 1] rfl) (va_recv hK hP (ci := 2) (q0 := 3) rfl rfl) hl.1 rfl rfl (Nat.le_of_ble_eq_true rfl) dd_J_open_164 ?_
                    have hf_24 : jf_size (jf_resize s j_5 0) j_5 < 256 := jf_get_lt (by assumption) _
                    refine lv_goto (tgt := 171) hx hb dd_J_open_167 (by decide) ?_
                    refine jm_callV (wr := []) C (ct_J_openHandle l G qJ qH qh cH qI qD qS qC cS cC (jf_resize s j_5 0) c ho hn hg hm hp wc wd tf ((jf_closed ho).getD 0) j_5 z (jf_size (jf_resize s j_5 0) j_5) (by omega) (by omega) (by first | assumption | (simp only [] ; assumption))) kl_J_81 ⟨Nat.le_of_ble_eq_true rfl, Nat.le_of_ble_eq_true rfl⟩ ⟨Nat.le_of_ble_eq_true rfl, Nat.le_of_ble_eq_true rfl⟩ hP hD hS hA (hK) (va_recv hK hP (ci := 3) (q0 := 4) rfl rfl) hl.1 rfl rfl (Nat.le_of_ble_eq_true rfl) dd_J_open_171 (fun H locs hP hD hS => ?_)
                    have hP : va_P G jcl (wJ qJ qH qh cH qI qD qS qC cS cC (jf_resize s j_5 0) c (ju ho ((jf_closed ho).getD 0) 1) (ju hn ((jf_closed ho).getD 0) j_5) (ju hg ((jf_closed ho).getD 0) (jf_gen (jf_resize s j_5 0) j_5)) (ju hm ((jf_closed ho).getD 0) z) (ju hp ((jf_closed ho).getD 0) (jf_size (jf_resize s j_5 0) j_5)) wc wd tf) H := hP
                    have hD : va_D A (wJ qJ qH qh cH qI qD qS qC cS cC (jf_resize s j_5 0) c (ju ho ((jf_closed ho).getD 0) 1) (ju hn ((jf_closed ho).getD 0) j_5) (ju hg ((jf_closed ho).getD 0) (jf_gen (jf_resize s j_5 0) j_5)) (ju hm ((jf_closed ho).getD 0) z) (ju hp ((jf_closed ho).getD 0) (jf_size (jf_resize s j_5 0) j_5)) wc wd tf) := hD
                    exact jt_reti C ⟨by first | (simp [jf_opT, jf_opS, jf_opI, jf_opP, hx_1, hx_3, hj_5, c_9, hx_11, c_12, c_17, c_22, c_23]; done), (by first | with_reducible rfl | (simp [jf_opT, jf_opS, jf_opI, jf_opP, hx_1, hx_3, hj_5, c_9, hx_11, c_12, c_17, c_22, c_23]; done)), (by first | with_reducible rfl | (simp [jf_opT, jf_opS, jf_opI, jf_opP, hx_1, hx_3, hj_5, c_9, hx_11, c_12, c_17, c_22, c_23]; done))⟩ hP hD hK hS ⟨Nat.le_of_ble_eq_true rfl, Nat.le_of_ble_eq_true rfl⟩ dd_J_open_174
        · skip
          exact tt_ISES (is := 91) (text := "of the other kind") hl9 htb C hz (by decide +kernel) ⟨by first | (simp [jf_opT, jf_opS, jf_opI, jf_opP, hx_1, hx_3, hj_5, c_9, jex]; done), by first | (simp [jf_opT, jf_opS, jf_opI, jf_opP, hx_1, hx_3, hj_5, c_9, jex]; done), rfl⟩ hP hD hK hS hl.1 dd_J_open_104 dd_J_open_107 dd_J_open_108 dd_J_open_110 dd_J_open_113 ⟨Nat.le_of_ble_eq_true rfl, Nat.le_of_ble_eq_true rfl, Nat.le_of_ble_eq_true rfl, Nat.le_of_ble_eq_true rfl⟩ ⟨Nat.le_of_ble_eq_true rfl, Nat.le_of_ble_eq_true rfl⟩
      · skip
        refine lv_iload_n hx hb dd_J_open_23 rfl (lv_at hl 4 rfl) ?_
        refine jl_ifeq (tgt := 34) hx hb (by omega) dd_J_open_24 (by decide) (fun c_25 => ?_) (fun c_25 => ?_)
        · skip
          exact tt_NSES (is := 74) (text := "nothing is there") hl9 htb C hz (by decide +kernel) ⟨by first | (simp [jf_opT, jf_opS, jf_opI, jf_opP, hx_1, hx_3, hj_5, eq_true c_25, jex]; done), by first | (simp [jf_opT, jf_opS, jf_opI, jf_opP, hx_1, hx_3, hj_5, eq_true c_25, jex]; done), rfl⟩ hP hD hK hS hl.1 dd_J_open_34 dd_J_open_37 dd_J_open_38 dd_J_open_40 dd_J_open_43 ⟨Nat.le_of_ble_eq_true rfl, Nat.le_of_ble_eq_true rfl, Nat.le_of_ble_eq_true rfl, Nat.le_of_ble_eq_true rfl⟩ ⟨Nat.le_of_ble_eq_true rfl, Nat.le_of_ble_eq_true rfl⟩
        · skip
          refine lv_iload_n hx hb dd_J_open_27 rfl (lv_at hl 3 rfl) ?_
          refine jr_callS0 C (ct_J_writesBy l G z (by omega)) kl_J_68 ⟨Nat.le_of_ble_eq_true rfl, Nat.le_of_ble_eq_true rfl, rfl, rfl⟩ ⟨Nat.le_of_ble_eq_true rfl, Nat.le_of_ble_eq_true rfl⟩ hK hl.1 rfl rfl (Nat.le_of_ble_eq_true rfl) dd_J_open_28 ?_
          have hf_26 : jf_wrs z < 2 := jf_wrs_lt _
          refine jl_ifne (tgt := 44) hx hb (by omega) dd_J_open_31 (by decide) (fun c_27 => ?_) (fun c_27 => ?_)
          · skip
            refine lv_aload_n hx hb dd_J_open_44 rfl (lv_at hl 1 rfl) ?_
            refine lv_iload_n hx hb dd_J_open_45 rfl (lv_at hl 2 rfl) ?_
            refine jt_callV (wr := []) C hz (ct_J_parentNeeded l hl9 G qJ qH qh cH qI qD qS qC cS cC s c ho hn hg hm hp wc wd tf u (by omega) (by first | assumption | (simp only [] ; assumption))) kl_J_54 ⟨Nat.le_of_ble_eq_true rfl, Nat.le_of_ble_eq_true rfl⟩ ⟨Nat.le_of_ble_eq_true rfl, Nat.le_of_ble_eq_true rfl⟩ hP hD hS hA (hK) (va_recv hK hP (ci := 3) (q0 := 4) rfl rfl) hl.1 rfl rfl (Nat.le_of_ble_eq_true rfl) dd_J_open_46 (fun E w1 H1 locs1 q9 ce hxx hP hD hS g1 g2 g3 => ?_) (fun o w1 H locs hxx hP hD hS => ?_)
            · obtain ⟨hx_30, rfl, rfl⟩ := hxx
              exact jt_out htb C ⟨by first | (simp [jf_opT, jf_opS, jf_opI, jf_opP, hx_1, hx_3, hj_5, c_25, c_27, hx_30]; done), by first | (simp [jf_opT, jf_opS, jf_opI, jf_opP, hx_1, hx_3, hj_5, c_25, c_27, hx_30]; done), rfl⟩ hP hD hK hS ⟨Nat.le_of_ble_eq_true rfl, Nat.le_of_ble_eq_true rfl⟩ g1 g2 g3
            · obtain ⟨hx_30, rfl, rfl⟩ := hxx
              have hP : va_P G jcl (wJ qJ qH qh cH qI qD qS qC cS cC s c ho hn hg hm hp wc wd tf) H := hP
              have hD : va_D A (wJ qJ qH qh cH qI qD qS qC cS cC s c ho hn hg hm hp wc wd tf) := hD
              have hf_28 : (jf_inodeAt s (u / 2 ^ 8)).getD 0 < 256 := jf_getD_lt (by assumption) _
              have hf_29 : jf_kind s ((jf_inodeAt s (u / 2 ^ 8)).getD 0) = 2 := jf_paT_0 hx_30
              refine lv_istore (lv' := [(7, .int (nI ((jf_inodeAt s (u / 2 ^ 8)).getD 0))), (6, .int (jo (jf_inodeAt s u))), (0, .ref qJ), (1, .int (nI (u))), (2, .int (nI (z))), (3, .int (nI (cr))), (4, .int (nI (ap))), (5, .int (nI (em)))]) hx hb dd_J_open_49 hl (by decide) rfl (fun ls hl => ?_)
              refine lv_aload_n hx hb dd_J_open_51 rfl (lv_at hl 2 rfl) ?_
              refine jt_callV (wr := []) C hz (ct_J_closedHandleNeeded l hl9 G qJ qH qh cH qI qD qS qC cS cC s c ho hn hg hm hp wc wd tf  (by assumption)) kl_J_77 ⟨Nat.le_of_ble_eq_true rfl, Nat.le_of_ble_eq_true rfl⟩ ⟨Nat.le_of_ble_eq_true rfl, Nat.le_of_ble_eq_true rfl⟩ hP hD hS hA (hK) (va_recv hK hP (ci := 3) (q0 := 4) rfl rfl) hl.1 rfl rfl (Nat.le_of_ble_eq_true rfl) dd_J_open_52 (fun E w1 H1 locs1 q9 ce hxx hP hD hS g1 g2 g3 => ?_) (fun o w1 H locs hxx hP hD hS => ?_)
              · obtain ⟨hx_32, rfl, rfl⟩ := hxx
                exact jt_out htb C ⟨by first | (simp [jf_opT, jf_opS, jf_opI, jf_opP, hx_1, hx_3, hj_5, c_25, c_27, hx_30, hx_32]; done), by first | (simp [jf_opT, jf_opS, jf_opI, jf_opP, hx_1, hx_3, hj_5, c_25, c_27, hx_30, hx_32]; done), rfl⟩ hP hD hK hS ⟨Nat.le_of_ble_eq_true rfl, Nat.le_of_ble_eq_true rfl⟩ g1 g2 g3
              · obtain ⟨hx_32, rfl, rfl⟩ := hxx
                have hP : va_P G jcl (wJ qJ qH qh cH qI qD qS qC cS cC s c ho hn hg hm hp wc wd tf) H := hP
                have hD : va_D A (wJ qJ qH qh cH qI qD qS qC cS cC s c ho hn hg hm hp wc wd tf) := hD
                have hf_31 : (jf_closed ho).getD 0 < 6 := jf_closed_6 _
                refine lv_istore (lv' := [(8, .int (nI ((jf_closed ho).getD 0))), (7, .int (nI ((jf_inodeAt s (u / 2 ^ 8)).getD 0))), (6, .int (jo (jf_inodeAt s u))), (0, .ref qJ), (1, .int (nI (u))), (2, .int (nI (z))), (3, .int (nI (cr))), (4, .int (nI (ap))), (5, .int (nI (em)))]) hx hb dd_J_open_55 hl (by decide) rfl (fun ls hl => ?_)
                refine lv_aload_n hx hb dd_J_open_57 rfl (lv_at hl 3 rfl) ?_
                refine lv_iload hx hb dd_J_open_58 (lv_at hl 1 rfl) ?_
                refine jt_callV (wr := []) C hz (ct_J_checkRoomForNew l hl9 G qJ qH qh cH qI qD qS qC cS cC s c ho hn hg hm hp wc wd tf ((jf_inodeAt s (u / 2 ^ 8)).getD 0) (by omega) (by first | assumption | (simp only [] ; assumption))) kl_J_57 ⟨Nat.le_of_ble_eq_true rfl, Nat.le_of_ble_eq_true rfl⟩ ⟨Nat.le_of_ble_eq_true rfl, Nat.le_of_ble_eq_true rfl⟩ hP hD hS hA (hK) (va_recv hK hP (ci := 3) (q0 := 4) rfl rfl) hl.1 rfl rfl (Nat.le_of_ble_eq_true rfl) dd_J_open_60 (fun E w1 H1 locs1 q9 ce hxx hP hD hS g1 g2 g3 => ?_) (fun o w1 H locs hxx hP hD hS => ?_)
                · obtain ⟨hx_33, rfl, rfl⟩ := hxx
                  exact jt_out htb C ⟨by first | (simp [jf_opT, jf_opS, jf_opI, jf_opP, hx_1, hx_3, hj_5, c_25, c_27, hx_30, hx_32, hx_33]; done), by first | (simp [jf_opT, jf_opS, jf_opI, jf_opP, hx_1, hx_3, hj_5, c_25, c_27, hx_30, hx_32, hx_33]; done), rfl⟩ hP hD hK hS ⟨Nat.le_of_ble_eq_true rfl, Nat.le_of_ble_eq_true rfl⟩ g1 g2 g3
                · obtain ⟨hx_33, rfl, rfl⟩ := hxx
                  have hP : va_P G jcl (wJ qJ qH qh cH qI qD qS qC cS cC s c ho hn hg hm hp wc wd tf) H := hP
                  have hD : va_D A (wJ qJ qH qh cH qI qD qS qC cS cC s c ho hn hg hm hp wc wd tf) := hD
                  refine lv_aload_n hx hb dd_J_open_63 rfl (lv_at hl 3 rfl) ?_
                  refine lv_iload hx hb dd_J_open_64 (lv_at hl 1 rfl) ?_
                  refine lv_iload_n hx hb dd_J_open_66 rfl (lv_at hl 4 rfl) ?_
                  refine lv_sipush (v := nI 255) hx hb dd_J_open_67 (by decide) ?_
                  refine jl_and255 hx hb (by omega) dd_J_open_70 ?_
                  refine lv_iconst (v := nI 1) hx hb dd_J_open_71 (by decide) ?_
                  refine jm_callV (wr := []) C (ct_J_makeNew2 l G qJ qH qh cH qI qD qS qC cS cC s c ho hn hg hm hp wc wd tf ((jf_inodeAt s (u / 2 ^ 8)).getD 0) (u % 256) 1 (by omega) (by omega) (by omega) (by omega) (by omega) (by first | assumption | (simp only [] ; assumption))) kl_J_60 ⟨Nat.le_of_ble_eq_true rfl, Nat.le_of_ble_eq_true rfl⟩ ⟨Nat.le_of_ble_eq_true rfl, Nat.le_of_ble_eq_true rfl⟩ hP hD hS hA (hK) (va_recv hK hP (ci := 3) (q0 := 4) rfl rfl) hl.1 rfl rfl (Nat.le_of_ble_eq_true rfl) dd_J_open_72 (fun H locs hP hD hS => ?_)
                  have hP : va_P G jcl (wJ qJ qH qh cH qI qD qS qC cS cC (jf_new s ((jf_inodeAt s (u / 2 ^ 8)).getD 0) (u % 256) 1) c ho hn hg hm hp wc wd tf) H := hP
                  have hD : va_D A (wJ qJ qH qh cH qI qD qS qC cS cC (jf_new s ((jf_inodeAt s (u / 2 ^ 8)).getD 0) (u % 256) 1) c ho hn hg hm hp wc wd tf) := hD
                  have hf_34 : jf_ok (jf_new s ((jf_inodeAt s (u / 2 ^ 8)).getD 0) (u % 256) 1) := jf_new_ok (by assumption) (by omega) (by omega) (by assumption) (by assumption)
                  have hf_35 : (jf_leastFree s).getD 0 < 12 := jf_leastFree_getD _
                  refine lv_istore (lv' := [(6, .int (nI ((jf_leastFree s).getD 0))), (8, .int (nI ((jf_closed ho).getD 0))), (7, .int (nI ((jf_inodeAt s (u / 2 ^ 8)).getD 0))), (0, .ref qJ), (1, .int (nI (u))), (2, .int (nI (z))), (3, .int (nI (cr))), (4, .int (nI (ap))), (5, .int (nI (em)))]) hx hb dd_J_open_75 hl (by decide) rfl (fun ls hl => ?_)
                  refine lv_aload_n hx hb dd_J_open_77 rfl (lv_at hl 3 rfl) ?_
                  refine lv_iload hx hb dd_J_open_78 (lv_at hl 1 rfl) ?_
                  refine lv_iload hx hb dd_J_open_80 (lv_at hl 0 rfl) ?_
                  refine lv_iload_n hx hb dd_J_open_82 rfl (lv_at hl 5 rfl) ?_
                  refine lv_iconst (v := nI 0) hx hb dd_J_open_83 (by decide) ?_
                  refine jm_callV (wr := []) C (ct_J_openHandle l G qJ qH qh cH qI qD qS qC cS cC (jf_new s ((jf_inodeAt s (u / 2 ^ 8)).getD 0) (u % 256) 1) c ho hn hg hm hp wc wd tf ((jf_closed ho).getD 0) ((jf_leastFree s).getD 0) z 0 (by omega) (by omega) (by first | assumption | (simp only [] ; assumption))) kl_J_81 ⟨Nat.le_of_ble_eq_true rfl, Nat.le_of_ble_eq_true rfl⟩ ⟨Nat.le_of_ble_eq_true rfl, Nat.le_of_ble_eq_true rfl⟩ hP hD hS hA (hK) (va_recv hK hP (ci := 3) (q0 := 4) rfl rfl) hl.1 rfl rfl (Nat.le_of_ble_eq_true rfl) dd_J_open_84 (fun H locs hP hD hS => ?_)
                  have hP : va_P G jcl (wJ qJ qH qh cH qI qD qS qC cS cC (jf_new s ((jf_inodeAt s (u / 2 ^ 8)).getD 0) (u % 256) 1) c (ju ho ((jf_closed ho).getD 0) 1) (ju hn ((jf_closed ho).getD 0) ((jf_leastFree s).getD 0)) (ju hg ((jf_closed ho).getD 0) (jf_gen (jf_new s ((jf_inodeAt s (u / 2 ^ 8)).getD 0) (u % 256) 1) ((jf_leastFree s).getD 0))) (ju hm ((jf_closed ho).getD 0) z) (ju hp ((jf_closed ho).getD 0) 0) wc wd tf) H := hP
                  have hD : va_D A (wJ qJ qH qh cH qI qD qS qC cS cC (jf_new s ((jf_inodeAt s (u / 2 ^ 8)).getD 0) (u % 256) 1) c (ju ho ((jf_closed ho).getD 0) 1) (ju hn ((jf_closed ho).getD 0) ((jf_leastFree s).getD 0)) (ju hg ((jf_closed ho).getD 0) (jf_gen (jf_new s ((jf_inodeAt s (u / 2 ^ 8)).getD 0) (u % 256) 1) ((jf_leastFree s).getD 0))) (ju hm ((jf_closed ho).getD 0) z) (ju hp ((jf_closed ho).getD 0) 0) wc wd tf) := hD
                  exact jt_reti C ⟨by first | (simp [jf_opT, jf_opS, jf_opI, jf_opP, hx_1, hx_3, hj_5, c_25, c_27, hx_30, hx_32, hx_33]; done), (by first | with_reducible rfl | (simp [jf_opT, jf_opS, jf_opI, jf_opP, hx_1, hx_3, hj_5, c_25, c_27, hx_30, hx_32, hx_33]; done)), (by first | with_reducible rfl | (simp [jf_opT, jf_opS, jf_opI, jf_opP, hx_1, hx_3, hj_5, c_25, c_27, hx_30, hx_32, hx_33]; done))⟩ hP hD hK hS ⟨Nat.le_of_ble_eq_true rfl, Nat.le_of_ble_eq_true rfl⟩ dd_J_open_87
          · skip
            exact tt_NSES (is := 74) (text := "nothing is there") hl9 htb C hz (by decide +kernel) ⟨by first | (simp [jf_opT, jf_opS, jf_opI, jf_opP, hx_1, hx_3, hj_5, c_25, c_27, jex]; done), by first | (simp [jf_opT, jf_opS, jf_opI, jf_opP, hx_1, hx_3, hj_5, c_25, c_27, jex]; done), rfl⟩ hP hD hK hS hl.1 dd_J_open_34 dd_J_open_37 dd_J_open_38 dd_J_open_40 dd_J_open_43 ⟨Nat.le_of_ble_eq_true rfl, Nat.le_of_ble_eq_true rfl, Nat.le_of_ble_eq_true rfl, Nat.le_of_ble_eq_true rfl⟩ ⟨Nat.le_of_ble_eq_true rfl, Nat.le_of_ble_eq_true rfl⟩
