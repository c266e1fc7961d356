set_option maxHeartbeats 4000000 in
set_option maxRecDepth 100000 in
theorem ct_J_inodeAt (l : Launch) (G : va_G) (qJ qH : Nat) (qh : Nat → Nat) (cH : ClassId) (qI qD qS qC : Nat) (cS cC : ClassId) (s : Nat → Nat) (c : Nat → Nat) (ho : Nat → Nat) (hn : Nat → Nat) (hg : Nat → Nat) (hm : Nat → Nat) (hp : Nat → Nat) (wc : Nat) (wd : Nat) (tf : Nat) (u : Nat) (hu0 : u < 4294967296) (hs : jf_ok s) : jr l yn_J_inodeAt (.code yn_J_inodeAt cd_J_inodeAt 6 (some .int)) { frames := 5, cells := 0, slots := 0, locals := 109 } G (tJ cS cC cH) (wJ qJ qH qh cH qI qD qS qC cS cC s c ho hn hg hm hp wc wd tf) [.ref qJ, .int (nI (u))] (jo (jf_inodeAt s u)) := by
  refine jr_of (by decide) (Nat.le_of_ble_eq_true rfl) ?_
  intro pr en σ mi bel met cd ls C hP hK hl
  have hx := C.1
  have hb := C.2.1
  have hown := C.2.2.2.1
  have hts := C.2.2.2.2.1
  have hl : lv_has ls 6 [(0, .ref qJ), (1, .int (nI (u)))] := hl
  refine lv_iconst (v := nI 0) hx hb dd_J_inodeAt_0 (by decide) ?_
  refine lv_istore_n (lv' := [(2, .int (nI (0))), (0, .ref qJ), (1, .int (nI (u)))]) hx hb dd_J_inodeAt_1 rfl hl (by decide) rfl (fun ls hl => ?_)
  refine lv_bipush (v := nI 24) hx hb dd_J_inodeAt_2 (by decide) ?_
  refine lv_istore_n (lv' := [(3, .int (nI (24))), (2, .int (nI (0))), (0, .ref qJ), (1, .int (nI (u)))]) hx hb dd_J_inodeAt_4 rfl hl (by decide) rfl (fun ls hl => ?_)
  have loop : ∀ (n : Nat) (i : Nat), (n ≤ 4 ∧ i < 256) → jf_iaL s u n i = jf_inodeAt s u → ∀ ls : Array Slot, lv_has ls 6 [(3, .int (jsh n)), (2, .int (nI (i))), (0, .ref qJ), (1, .int (nI (u)))] → W pr l en { frames := 5, cells := 0, slots := 0, locals := 109 } σ mi ([.ref qJ, .int (nI (u))] : List Value).toArray bel met cd σ.heap [] 0 0 (jr_Q bel [.ref qJ, .int (nI (u))] σ (jo (jf_inodeAt s u))) (F0 mi 5 ls []) := by
    intro n
    induction n with
    | zero =>
      intro i hi  ht ls hl
      refine lv_iload_n hx hb dd_J_inodeAt_5 rfl (lv_at hl 0 rfl) ?_
      refine lv_if_lt (tgt := 60) hx hb dd_J_inodeAt_6 (by decide) (fun c_1 => ?_) (fun c_1 => ?_)
      · skip
        refine lv_iload_n hx hb dd_J_inodeAt_60 rfl (lv_at hl 1 rfl) ?_
        exact jr_ret C (by rw [← ht]; first | with_reducible rfl | (simp [jf_iaL, jo, c_1]; done)) dd_J_inodeAt_61
      · skip
        exact absurd (by decide) c_1
    | succ n ih =>
      intro i hi  ht ls hl
      have hl : lv_has ls 6 [(3, .int (nI (8 * n))), (2, .int (nI (i))), (0, .ref qJ), (1, .int (nI (u)))] := hl
      refine lv_iload_n hx hb dd_J_inodeAt_5 rfl (lv_at hl 0 rfl) ?_
      refine jl_iflt (tgt := 60) hx hb (by omega) dd_J_inodeAt_6 (by decide) ?_
      refine lv_iload_n hx hb dd_J_inodeAt_9 rfl (lv_at hl 3 rfl) ?_
      refine lv_iload_n hx hb dd_J_inodeAt_10 rfl (lv_at hl 0 rfl) ?_
      refine jl_iushr hx hb (by omega) (by omega) dd_J_inodeAt_11 ?_
      refine lv_sipush (v := nI 255) hx hb dd_J_inodeAt_12 (by decide) ?_
      refine jl_and255 hx hb (Nat.lt_of_le_of_lt (Nat.div_le_self _ _) (by omega)) dd_J_inodeAt_15 ?_
      refine lv_istore (lv' := [(4, .int (nI (u / 2 ^ (8 * n) % 256))), (3, .int (nI (8 * n))), (2, .int (nI (i))), (0, .ref qJ), (1, .int (nI (u)))]) hx hb dd_J_inodeAt_16 hl (by decide) rfl (fun ls hl => ?_)
      refine lv_iload hx hb dd_J_inodeAt_18 (lv_at hl 0 rfl) ?_
      refine jl_ifeq (tgt := 54) hx hb (by omega) dd_J_inodeAt_20 (by decide) (fun c_3 => ?_) (fun c_3 => ?_)
      · skip
        refine lv_iinc (v := jsh n) (lv' := [(3, .int (jsh n)), (4, .int (nI (u / 2 ^ (8 * n) % 256))), (2, .int (nI (i))), (0, .ref qJ), (1, .int (nI (u)))]) hx hb dd_J_inodeAt_54 hl (k := 1) rfl (jsh_step n) (by decide) rfl (fun ls hl => ?_)
        refine lv_goto (tgt := 5) hx hb dd_J_inodeAt_57 (by decide) ?_
        exact ih i (by omega) (by simpa [jf_iaL, jo, c_3] using ht) ls (lv_sub hl [0, 2, 3, 4] rfl)
      · skip
        refine lv_aload_n hx hb dd_J_inodeAt_23 rfl (lv_at hl 3 rfl) ?_
        refine va_get (D := G) (ci := 3) (v := .ref qI) (C := cn_J) (T := ft_J) (N := 6) hx hb hts uw_J hown hK hP 4 rfl rfl 1 (by decide) (hts _ tw_108) (fun _ h9 => h9) rfl dd_J_inodeAt_24 ?_
        refine lv_iload_n hx hb dd_J_inodeAt_27 rfl (lv_at hl 2 rfl) ?_
        refine lv_iload hx hb dd_J_inodeAt_28 (lv_at hl 0 rfl) ?_
        refine jr_callV C (ct_I_findEntry l G qI qD qS qC cS cC s c i (u / 2 ^ (8 * n) % 256) (by omega) (by omega) (by first | assumption | (simp only [] ; assumption))) kl_J_236 ⟨Nat.le_of_ble_eq_true rfl, Nat.le_of_ble_eq_true rfl, rfl, rfl⟩ ⟨Nat.le_of_ble_eq_true rfl, Nat.le_of_ble_eq_true rfl⟩ (jw_left hP) (hK.sub [0, 1] rfl) (va_recv hK hP (ci := 2) (q0 := 3) rfl rfl) hl.1 rfl rfl (Nat.le_of_ble_eq_true rfl) dd_J_inodeAt_30 ?_
        have hf_4 : jf_entries s i < 128 := jf_entries_lt (by assumption) _
        refine lv_istore (lv' := [(5, .int (jo (jf_findEntry s i (u / 2 ^ (8 * n) % 256)))), (4, .int (nI (u / 2 ^ (8 * n) % 256))), (3, .int (nI (8 * n))), (2, .int (nI (i))), (0, .ref qJ), (1, .int (nI (u)))]) hx hb dd_J_inodeAt_33 hl (by decide) rfl (fun ls hl => ?_)
        refine lv_iload hx hb dd_J_inodeAt_35 (lv_at hl 0 rfl) ?_
        refine lv_iconst (v := -1) hx hb dd_J_inodeAt_37 (by decide) ?_
        refine jl_neO (tgt := 43) hx hb (fun j h => Nat.lt_of_lt_of_le (jf_findEntry_lt h) (by omega)) dd_J_inodeAt_38 (by decide) (fun j_6 hj_6 => ?_) (fun hj_6 => ?_)
        · skip
          have ho_7 := jf_findEntry_lt hj_6
          have hl : lv_has ls 6 [(5, .int (nI (j_6))), (4, .int (nI (u / 2 ^ (8 * n) % 256))), (3, .int (nI (8 * n))), (2, .int (nI (i))), (0, .ref qJ), (1, .int (nI (u)))] := by rw [hj_6] at hl; exact hl
          refine lv_aload_n hx hb dd_J_inodeAt_43 rfl (lv_at hl 4 rfl) ?_
          refine va_get (D := G) (ci := 3) (v := .ref qI) (C := cn_J) (T := ft_J) (N := 6) hx hb hts uw_J hown hK hP 4 rfl rfl 1 (by decide) (hts _ tw_108) (fun _ h9 => h9) rfl dd_J_inodeAt_44 ?_
          refine lv_iload_n hx hb dd_J_inodeAt_47 rfl (lv_at hl 3 rfl) ?_
          refine lv_iload hx hb dd_J_inodeAt_48 (lv_at hl 0 rfl) ?_
          refine jr_callV C (ct_I_entryInode l G qI qD qS qC cS cC s c i j_6 (by omega) (by omega) (by first | assumption | (simp only [] ; assumption))) kl_J_239 ⟨Nat.le_of_ble_eq_true rfl, Nat.le_of_ble_eq_true rfl, rfl, rfl⟩ ⟨Nat.le_of_ble_eq_true rfl, Nat.le_of_ble_eq_true rfl⟩ (jw_left hP) (hK.sub [0, 1] rfl) (va_recv hK hP (ci := 2) (q0 := 3) rfl rfl) hl.1 rfl rfl (Nat.le_of_ble_eq_true rfl) dd_J_inodeAt_50 ?_
          have hf_8 : jf_entryInode s i j_6 < 256 := jf_get_lt (by assumption) _
          refine lv_istore_n (lv' := [(2, .int (nI (jf_entryInode s i j_6))), (5, .int (nI (j_6))), (4, .int (nI (u / 2 ^ (8 * n) % 256))), (3, .int (nI (8 * n))), (0, .ref qJ), (1, .int (nI (u)))]) hx hb dd_J_inodeAt_53 rfl hl (by decide) rfl (fun ls hl => ?_)
          refine lv_iinc (v := jsh n) (lv' := [(3, .int (jsh n)), (2, .int (nI (jf_entryInode s i j_6))), (5, .int (nI (j_6))), (4, .int (nI (u / 2 ^ (8 * n) % 256))), (0, .ref qJ), (1, .int (nI (u)))]) hx hb dd_J_inodeAt_54 hl (k := 3) rfl (jsh_step n) (by decide) rfl (fun ls hl => ?_)
          refine lv_goto (tgt := 5) hx hb dd_J_inodeAt_57 (by decide) ?_
          exact ih (jf_entryInode s i j_6) (by omega) (by simpa [jf_iaL, jo, c_3, hj_6] using ht) ls (lv_sub hl [0, 1, 4, 5] rfl)
        · skip
          refine lv_iconst (v := -1) hx hb dd_J_inodeAt_41 (by decide) ?_
          exact jr_ret C (by rw [← ht]; first | with_reducible rfl | (simp [jf_iaL, jo, c_3, hj_6]; done)) dd_J_inodeAt_42
  exact loop 4 0 (by omega) (rfl) ls (lv_sub hl [0, 1, 2, 3] rfl)
set_option maxHeartbeats 4000000 in
set_option maxRecDepth 100000 in
theorem ct_J_inodeNeeded (l : Launch) (hl9 : l.stackTraces = false) (G : va_G) (qJ qH : Nat) (qh : Nat → Nat) (cH : ClassId) (qI qD qS qC : Nat) (cS cC : ClassId) (s : Nat → Nat) (c : Nat → Nat) (ho : Nat → Nat) (hn : Nat → Nat) (hg : Nat → Nat) (hm : Nat → Nat) (hp : Nat → Nat) (wc : Nat) (wd : Nat) (tf : Nat) (u : Nat) (hu0 : u < 4294967296) (hs : jf_ok s) : jt l yn_J_inodeNeeded (.code yn_J_inodeNeeded cd_J_inodeNeeded 3 (some .int)) { frames := 6, cells := 1, slots := 6, locals := 134 } G (tJ cS cC cH) (wJ qJ qH qh cH qI qD qS qC cS cC s c ho hn hg hm hp wc wd tf) [.ref qJ, .int (nI (u))] (fun o w => (jf_inT s u) = 0 ∧ o = (some (.int (nI ((jf_inodeAt s u).getD 0)))) ∧ w = (wJ qJ qH qh cH qI qD qS qC cS cC s c ho hn hg hm hp wc wd tf)) (fun E w => ¬ (jf_inT s u) = 0 ∧ E = jex (jf_inT s u) ∧ w = (wJ qJ qH qh cH qI qD qS qC cS cC s c ho hn hg hm hp wc wd tf)) := by
  refine jt_of (by decide) (Nat.le_of_ble_eq_true rfl) ?_
  intro pr en σ mi bel met cd ls A hA C htb hz hP hK hD hS hl
  have hx := C.1
  have hb := C.2.1
  have hown := C.2.2.2.1
  have hts := C.2.2.2.2.1
  have hl : lv_has ls 3 [(0, .ref qJ), (1, .int (nI (u)))] := hl
  refine lv_aload_n hx hb dd_J_inodeNeeded_0 rfl (lv_at hl 0 rfl) ?_
  refine lv_iload_n hx hb dd_J_inodeNeeded_1 rfl (lv_at hl 1 rfl) ?_
  refine jr_callV C (ct_J_inodeAt l G qJ qH qh cH qI qD qS qC cS cC s c ho hn hg hm hp wc wd tf u (by omega) (by first | assumption | (simp only [] ; assumption))) kl_J_43 ⟨Nat.le_of_ble_eq_true rfl, Nat.le_of_ble_eq_true rfl, rfl, rfl⟩ ⟨Nat.le_of_ble_eq_true rfl, Nat.le_of_ble_eq_true rfl⟩ (hP) (hK) (va_recv hK hP (ci := 3) (q0 := 4) rfl rfl) hl.1 rfl rfl (Nat.le_of_ble_eq_true rfl) dd_J_inodeNeeded_2 ?_
  refine lv_istore_n (lv' := [(2, .int (jo (jf_inodeAt s u))), (0, .ref qJ), (1, .int (nI (u)))]) hx hb dd_J_inodeNeeded_5 rfl hl (by decide) rfl (fun ls hl => ?_)
  refine lv_iload_n hx hb dd_J_inodeNeeded_6 rfl (lv_at hl 0 rfl) ?_
  refine lv_iconst (v := -1) hx hb dd_J_inodeNeeded_7 (by decide) ?_
  refine jl_neO (tgt := 21) hx hb (fun j h => Nat.lt_of_lt_of_le (jf_inodeAt_lt (by assumption) h) (by omega)) dd_J_inodeNeeded_8 (by decide) (fun j_2 hj_2 => ?_) (fun hj_2 => ?_)
  · skip
    have ho_3 := jf_inodeAt_lt (by assumption) hj_2
    have hl : lv_has ls 3 [(2, .int (nI (j_2))), (0, .ref qJ), (1, .int (nI (u)))] := by rw [hj_2] at hl; exact hl
    refine lv_iload_n hx hb dd_J_inodeNeeded_21 rfl (lv_at hl 0 rfl) ?_
    exact jt_reti C ⟨by first | (simp [jf_inT, hj_2]; done), (by first | with_reducible rfl | (simp [jf_inT, hj_2]; done)), rfl⟩ hP hD hK hS ⟨Nat.le_of_ble_eq_true rfl, Nat.le_of_ble_eq_true rfl⟩ dd_J_inodeNeeded_22
  · skip
    exact tt_NSES (is := 242) (text := "the path leads nowhere") hl9 htb C hz (by decide +kernel) ⟨by first | (simp [jf_inT, hj_2, jex]; done), by first | (simp [jf_inT, hj_2, jex]; done), rfl⟩ hP hD hK hS hl.1 dd_J_inodeNeeded_11 dd_J_inodeNeeded_14 dd_J_inodeNeeded_15 dd_J_inodeNeeded_17 dd_J_inodeNeeded_20 ⟨Nat.le_of_ble_eq_true rfl, Nat.le_of_ble_eq_true rfl, Nat.le_of_ble_eq_true rfl, Nat.le_of_ble_eq_true rfl⟩ ⟨Nat.le_of_ble_eq_true rfl, Nat.le_of_ble_eq_true rfl⟩
set_option maxHeartbeats 4000000 in
set_option maxRecDepth 100000 in
theorem ct_J_parentNeeded (l : Launch) (hl9 : l.stackTraces = false) (G : va_G) (qJ qH : Nat) (qh : Nat → Nat) (cH : ClassId) (qI qD qS qC : Nat) (cS cC : ClassId) (s : Nat → Nat) (c : Nat → Nat) (ho : Nat → Nat) (hn : Nat → Nat) (hg : Nat → Nat) (hm : Nat → Nat) (hp : Nat → Nat) (wc : Nat) (wd : Nat) (tf : Nat) (u : Nat) (hu0 : u < 4294967296) (hs : jf_ok s) : jt l yn_J_parentNeeded (.code yn_J_parentNeeded cd_J_parentNeeded 3 (some .int)) { frames := 6, cells := 1, slots := 6, locals := 134 } G (tJ cS cC cH) (wJ qJ qH qh cH qI qD qS qC cS cC s c ho hn hg hm hp wc wd tf) [.ref qJ, .int (nI (u))] (fun o w => (jf_paT s u) = 0 ∧ o = (some (.int (nI ((jf_inodeAt s (u / 2 ^ 8)).getD 0)))) ∧ w = (wJ qJ qH qh cH qI qD qS qC cS cC s c ho hn hg hm hp wc wd tf)) (fun E w => ¬ (jf_paT s u) = 0 ∧ E = jex (jf_paT s u) ∧ w = (wJ qJ qH qh cH qI qD qS qC cS cC s c ho hn hg hm hp wc wd tf)) := by
  refine jt_of (by decide) (Nat.le_of_ble_eq_true rfl) ?_
  intro pr en σ mi bel met cd ls A hA C htb hz hP hK hD hS hl
  have hx := C.1
  have hb := C.2.1
  have hown := C.2.2.2.1
  have hts := C.2.2.2.2.1
  have hl : lv_has ls 3 [(0, .ref qJ), (1, .int (nI (u)))] := hl
  refine lv_aload_n hx hb dd_J_parentNeeded_0 rfl (lv_at hl 0 rfl) ?_
  refine lv_iload_n hx hb dd_J_parentNeeded_1 rfl (lv_at hl 1 rfl) ?_
  refine jr_callS0 C (ct_J_parentPath l G u (by omega)) kl_J_161 ⟨Nat.le_of_ble_eq_true rfl, Nat.le_of_ble_eq_true rfl, rfl, rfl⟩ ⟨Nat.le_of_ble_eq_true rfl, Nat.le_of_ble_eq_true rfl⟩ hK hl.1 rfl rfl (Nat.le_of_ble_eq_true rfl) dd_J_parentNeeded_2 ?_
  refine jr_callV C (ct_J_inodeAt l G qJ qH qh cH qI qD qS qC cS cC s c ho hn hg hm hp wc wd tf (u / 2 ^ 8) (by omega) (by first | assumption | (simp only [] ; assumption))) kl_J_43 ⟨Nat.le_of_ble_eq_true rfl, Nat.le_of_ble_eq_true rfl, rfl, rfl⟩ ⟨Nat.le_of_ble_eq_true rfl, Nat.le_of_ble_eq_true rfl⟩ (hP) (hK) (va_recv hK hP (ci := 3) (q0 := 4) rfl rfl) hl.1 rfl rfl (Nat.le_of_ble_eq_true rfl) dd_J_parentNeeded_5 ?_
  refine lv_istore_n (lv' := [(2, .int (jo (jf_inodeAt s (u / 2 ^ 8)))), (0, .ref qJ), (1, .int (nI (u)))]) hx hb dd_J_parentNeeded_8 rfl hl (by decide) rfl (fun ls hl => ?_)
  refine lv_iload_n hx hb dd_J_parentNeeded_9 rfl (lv_at hl 0 rfl) ?_
  refine lv_iconst (v := -1) hx hb dd_J_parentNeeded_10 (by decide) ?_
  refine jl_eqO (tgt := 26) hx hb (fun j h => Nat.lt_of_lt_of_le (jf_inodeAt_lt (by assumption) h) (by omega)) dd_J_parentNeeded_11 (by decide) (fun hj_2 => ?_) (fun j_2 hj_2 => ?_)
  · skip
    exact tt_NSES (is := 244) (text := "no directory to be in") hl9 htb C hz (by decide +kernel) ⟨by first | (simp [jf_paT, hj_2, jex]; done), by first | (simp [jf_paT, hj_2, jex]; done), rfl⟩ hP hD hK hS hl.1 dd_J_parentNeeded_26 dd_J_parentNeeded_29 dd_J_parentNeeded_30 dd_J_parentNeeded_32 dd_J_parentNeeded_35 ⟨Nat.le_of_ble_eq_true rfl, Nat.le_of_ble_eq_true rfl, Nat.le_of_ble_eq_true rfl, Nat.le_of_ble_eq_true rfl⟩ ⟨Nat.le_of_ble_eq_true rfl, Nat.le_of_ble_eq_true rfl⟩
  · skip
    have ho_3 := jf_inodeAt_lt (by assumption) hj_2
    have hl : lv_has ls 3 [(2, .int (nI (j_2))), (0, .ref qJ), (1, .int (nI (u)))] := by rw [hj_2] at hl; exact hl
    refine lv_aload_n hx hb dd_J_parentNeeded_14 rfl (lv_at hl 1 rfl) ?_
    refine va_get (D := G) (ci := 3) (v := .ref qI) (C := cn_J) (T := ft_J) (N := 6) hx hb hts uw_J hown hK hP 4 rfl rfl 1 (by decide) (hts _ tw_108) (fun _ h9 => h9) rfl dd_J_parentNeeded_15 ?_
    refine lv_iload_n hx hb dd_J_parentNeeded_18 rfl (lv_at hl 0 rfl) ?_
    refine jr_callV C (ct_I_kind l G qI qD qS qC cS cC s c j_2 (by omega) (by first | assumption | (simp only [] ; assumption))) kl_J_85 ⟨Nat.le_of_ble_eq_true rfl, Nat.le_of_ble_eq_true rfl, rfl, rfl⟩ ⟨Nat.le_of_ble_eq_true rfl, Nat.le_of_ble_eq_true rfl⟩ (jw_left hP) (hK.sub [0, 1] rfl) (va_recv hK hP (ci := 2) (q0 := 3) rfl rfl) hl.1 rfl rfl (Nat.le_of_ble_eq_true rfl) dd_J_parentNeeded_19 ?_
    have hf_4 : jf_kind s j_2 < 256 := jf_get_lt (by assumption) _
    refine lv_iconst (v := nI 2) hx hb dd_J_parentNeeded_22 (by decide) ?_
    refine jl_eq (tgt := 36) hx hb (by omega) (by omega) dd_J_parentNeeded_23 (by decide) (fun c_5 => ?_) (fun c_5 => ?_)
    · skip
      refine lv_iload_n hx hb dd_J_parentNeeded_36 rfl (lv_at hl 0 rfl) ?_
      exact jt_reti C ⟨by first | (simp [jf_paT, hj_2, c_5]; done), (by first | with_reducible rfl | (simp [jf_paT, hj_2, c_5]; done)), rfl⟩ hP hD hK hS ⟨Nat.le_of_ble_eq_true rfl, Nat.le_of_ble_eq_true rfl⟩ dd_J_parentNeeded_37
    · skip
      exact tt_NSES (is := 244) (text := "no directory to be in") hl9 htb C hz (by decide +kernel) ⟨by first | (simp [jf_paT, hj_2, c_5, jex]; done), by first | (simp [jf_paT, hj_2, c_5, jex]; done), rfl⟩ hP hD hK hS hl.1 dd_J_parentNeeded_26 dd_J_parentNeeded_29 dd_J_parentNeeded_30 dd_J_parentNeeded_32 dd_J_parentNeeded_35 ⟨Nat.le_of_ble_eq_true rfl, Nat.le_of_ble_eq_true rfl, Nat.le_of_ble_eq_true rfl, Nat.le_of_ble_eq_true rfl⟩ ⟨Nat.le_of_ble_eq_true rfl, Nat.le_of_ble_eq_true rfl⟩
set_option maxHeartbeats 4000000 in
set_option maxRecDepth 100000 in
theorem ct_J_checkRoomForNew (l : Launch) (hl9 : l.stackTraces = false) (G : va_G) (qJ qH : Nat) (qh : Nat → Nat) (cH : ClassId) (qI qD qS qC : Nat) (cS cC : ClassId) (s : Nat → Nat) (c : Nat → Nat) (ho : Nat → Nat) (hn : Nat → Nat) (hg : Nat → Nat) (hm : Nat → Nat) (hp : Nat → Nat) (wc : Nat) (wd : Nat) (tf : Nat) (d : Nat) (hd0 : d < 1000) (hs : jf_ok s) : jt l yn_J_checkRoomForNew (.code yn_J_checkRoomForNew cd_J_checkRoomForNew 2 none) { frames := 6, cells := 1, slots := 6, locals := 107 } G (tJ cS cC cH) (wJ qJ qH qh cH qI qD qS qC cS cC s c ho hn hg hm hp wc wd tf) [.ref qJ, .int (nI (d))] (fun o w => (jf_rnT s d) = 0 ∧ o = none ∧ w = (wJ qJ qH qh cH qI qD qS qC cS cC s c ho hn hg hm hp wc wd tf)) (fun E w => ¬ (jf_rnT s d) = 0 ∧ E = jex (jf_rnT s d) ∧ w = (wJ qJ qH qh cH qI qD qS qC cS cC s c ho hn hg hm hp wc wd tf)) := by
  refine jt_of (by decide) (Nat.le_of_ble_eq_true rfl) ?_
  intro pr en σ mi bel met cd ls A hA C htb hz hP hK hD hS hl
  have hx := C.1
  have hb := C.2.1
  have hown := C.2.2.2.1
  have hts := C.2.2.2.2.1
  have hl : lv_has ls 2 [(0, .ref qJ), (1, .int (nI (d)))] := hl
  refine lv_aload_n hx hb dd_J_checkRoomForNew_0 rfl (lv_at hl 0 rfl) ?_
  refine va_get (D := G) (ci := 3) (v := .ref qI) (C := cn_J) (T := ft_J) (N := 6) hx hb hts uw_J hown hK hP 4 rfl rfl 1 (by decide) (hts _ tw_108) (fun _ h9 => h9) rfl dd_J_checkRoomForNew_1 ?_
  refine jr_callV C (ct_I_leastFree l G qI qD qS qC cS cC s c  (by first | assumption | (simp only [] ; assumption))) kl_J_246 ⟨Nat.le_of_ble_eq_true rfl, Nat.le_of_ble_eq_true rfl, rfl, rfl⟩ ⟨Nat.le_of_ble_eq_true rfl, Nat.le_of_ble_eq_true rfl⟩ (jw_left hP) (hK.sub [0, 1] rfl) (va_recv hK hP (ci := 2) (q0 := 3) rfl rfl) hl.1 rfl rfl (Nat.le_of_ble_eq_true rfl) dd_J_checkRoomForNew_4 ?_
  refine lv_iconst (v := -1) hx hb dd_J_checkRoomForNew_7 (by decide) ?_
  refine jl_eqO (tgt := 22) hx hb (fun j h => Nat.lt_of_lt_of_le (jf_leastFree_lt h) (by omega)) dd_J_checkRoomForNew_8 (by decide) (fun hj_2 => ?_) (fun j_2 hj_2 => ?_)
  · skip
    exact tt_UOES (is := 252) (text := "no inode, entry or block is free") hl9 htb C hz (by decide +kernel) ⟨by first | (simp [jf_rnT, hj_2, jex]; done), by first | (simp [jf_rnT, hj_2, jex]; done), rfl⟩ hP hD hK hS hl.1 dd_J_checkRoomForNew_22 dd_J_checkRoomForNew_25 dd_J_checkRoomForNew_26 dd_J_checkRoomForNew_28 dd_J_checkRoomForNew_31 ⟨Nat.le_of_ble_eq_true rfl, Nat.le_of_ble_eq_true rfl, Nat.le_of_ble_eq_true rfl, Nat.le_of_ble_eq_true rfl⟩ ⟨Nat.le_of_ble_eq_true rfl, Nat.le_of_ble_eq_true rfl⟩
  · skip
    have ho_3 := jf_leastFree_lt hj_2
    refine lv_aload_n hx hb dd_J_checkRoomForNew_11 rfl (lv_at hl 0 rfl) ?_
    refine va_get (D := G) (ci := 3) (v := .ref qI) (C := cn_J) (T := ft_J) (N := 6) hx hb hts uw_J hown hK hP 4 rfl rfl 1 (by decide) (hts _ tw_108) (fun _ h9 => h9) rfl dd_J_checkRoomForNew_12 ?_
    refine lv_iload_n hx hb dd_J_checkRoomForNew_15 rfl (lv_at hl 1 rfl) ?_
    refine jr_callV C (ct_I_hasRoomForEntry l G qI qD qS qC cS cC s c d (by omega) (by first | assumption | (simp only [] ; assumption))) kl_J_249 ⟨Nat.le_of_ble_eq_true rfl, Nat.le_of_ble_eq_true rfl, rfl, rfl⟩ ⟨Nat.le_of_ble_eq_true rfl, Nat.le_of_ble_eq_true rfl⟩ (jw_left hP) (hK.sub [0, 1] rfl) (va_recv hK hP (ci := 2) (q0 := 3) rfl rfl) hl.1 rfl rfl (Nat.le_of_ble_eq_true rfl) dd_J_checkRoomForNew_16 ?_
    have hf_4 : jf_hasRoomForEntry s d < 2 := jf_hasRoomForEntry_lt _ _
    refine jl_ifne (tgt := 32) hx hb (by omega) dd_J_checkRoomForNew_19 (by decide) (fun c_5 => ?_) (fun c_5 => ?_)
    · skip
      exact jt_retv C ⟨by first | (simp [jf_rnT, hj_2, c_5]; done), rfl, rfl⟩ hP hD hK hS ⟨Nat.le_of_ble_eq_true rfl, Nat.le_of_ble_eq_true rfl⟩ dd_J_checkRoomForNew_32
    · skip
      exact tt_UOES (is := 252) (text := "no inode, entry or block is free") hl9 htb C hz (by decide +kernel) ⟨by first | (simp [jf_rnT, hj_2, c_5, jex]; done), by first | (simp [jf_rnT, hj_2, c_5, jex]; done), rfl⟩ hP hD hK hS hl.1 dd_J_checkRoomForNew_22 dd_J_checkRoomForNew_25 dd_J_checkRoomForNew_26 dd_J_checkRoomForNew_28 dd_J_checkRoomForNew_31 ⟨Nat.le_of_ble_eq_true rfl, Nat.le_of_ble_eq_true rfl, Nat.le_of_ble_eq_true rfl, Nat.le_of_ble_eq_true rfl⟩ ⟨Nat.le_of_ble_eq_true rfl, Nat.le_of_ble_eq_true rfl⟩
set_option maxHeartbeats 4000000 in
set_option maxRecDepth 100000 in
theorem ct_J_checkRoomForSize (l : Launch) (hl9 : l.stackTraces = false) (G : va_G) (qJ qH : Nat) (qh : Nat → Nat) (cH : ClassId) (qI qD qS qC : Nat) (cS cC : ClassId) (s : Nat → Nat) (c : Nat → Nat) (ho : Nat → Nat) (hn : Nat → Nat) (hg : Nat → Nat) (hm : Nat → Nat) (hp : Nat → Nat) (wc : Nat) (wd : Nat) (tf : Nat) (i : Nat) (z : Nat) (hi0 : i < 1000) (hz0 : z < 1000000) (hs : jf_ok s) : jt l yn_J_checkRoomForSize (.code yn_J_checkRoomForSize cd_J_checkRoomForSize 3 none) { frames := 6, cells := 1, slots := 6, locals := 90 } G (tJ cS cC cH) (wJ qJ qH qh cH qI qD qS qC cS cC s c ho hn hg hm hp wc wd tf) [.ref qJ, .int (nI (i)), .int (nI (z))] (fun o w => (jf_rsT s i z) = 0 ∧ o = none ∧ w = (wJ qJ qH qh cH qI qD qS qC cS cC s c ho hn hg hm hp wc wd tf)) (fun E w => ¬ (jf_rsT s i z) = 0 ∧ E = jex (jf_rsT s i z) ∧ w = (wJ qJ qH qh cH qI qD qS qC cS cC s c ho hn hg hm hp wc wd tf)) := by
  refine jt_of (by decide) (Nat.le_of_ble_eq_true rfl) ?_
  intro pr en σ mi bel met cd ls A hA C htb hz hP hK hD hS hl
  have hx := C.1
  have hb := C.2.1
  have hown := C.2.2.2.1
  have hts := C.2.2.2.2.1
  have hl : lv_has ls 3 [(0, .ref qJ), (1, .int (nI (i))), (2, .int (nI (z)))] := hl
  refine lv_iload_n hx hb dd_J_checkRoomForSize_0 rfl (lv_at hl 2 rfl) ?_
  refine lv_bipush (v := nI 64) hx hb dd_J_checkRoomForSize_1 (by decide) ?_
  refine jl_gt (tgt := 18) hx hb (by omega) (by omega) dd_J_checkRoomForSize_3 (by decide) (fun c_1 => ?_) (fun c_1 => ?_)
  · skip
    exact tt_UOEW (is := 257) (text := "above 64 bytes, or no block is free") hl9 htb C hz (by decide +kernel) ⟨by first | (simp [jf_rsT, c_1, jex]; done), by first | (simp [jf_rsT, c_1, jex]; done), rfl⟩ hP hD hK hS hl.1 dd_J_checkRoomForSize_18 dd_J_checkRoomForSize_21 dd_J_checkRoomForSize_22 dd_J_checkRoomForSize_25 dd_J_checkRoomForSize_28 ⟨Nat.le_of_ble_eq_true rfl, Nat.le_of_ble_eq_true rfl, Nat.le_of_ble_eq_true rfl, Nat.le_of_ble_eq_true rfl⟩ ⟨Nat.le_of_ble_eq_true rfl, Nat.le_of_ble_eq_true rfl⟩
  · skip
    refine lv_aload_n hx hb dd_J_checkRoomForSize_6 rfl (lv_at hl 0 rfl) ?_
    refine va_get (D := G) (ci := 3) (v := .ref qI) (C := cn_J) (T := ft_J) (N := 6) hx hb hts uw_J hown hK hP 4 rfl rfl 1 (by decide) (hts _ tw_108) (fun _ h9 => h9) rfl dd_J_checkRoomForSize_7 ?_
    refine lv_iload_n hx hb dd_J_checkRoomForSize_10 rfl (lv_at hl 1 rfl) ?_
    refine lv_iload_n hx hb dd_J_checkRoomForSize_11 rfl (lv_at hl 2 rfl) ?_
    refine jr_callV C (ct_I_hasRoomForSize l G qI qD qS qC cS cC s c i z (by omega) (by omega) (by first | assumption | (simp only [] ; assumption))) kl_J_254 ⟨Nat.le_of_ble_eq_true rfl, Nat.le_of_ble_eq_true rfl, rfl, rfl⟩ ⟨Nat.le_of_ble_eq_true rfl, Nat.le_of_ble_eq_true rfl⟩ (jw_left hP) (hK.sub [0, 1] rfl) (va_recv hK hP (ci := 2) (q0 := 3) rfl rfl) hl.1 rfl rfl (Nat.le_of_ble_eq_true rfl) dd_J_checkRoomForSize_12 ?_
    have hf_2 : jf_hasRoomForSize s i z < 2 := by unfold jf_hasRoomForSize; split <;> decide
    refine jl_ifne (tgt := 29) hx hb (by omega) dd_J_checkRoomForSize_15 (by decide) (fun c_3 => ?_) (fun c_3 => ?_)
    · skip
      exact jt_retv C ⟨by first | (simp [jf_rsT, c_1, c_3]; done), rfl, rfl⟩ hP hD hK hS ⟨Nat.le_of_ble_eq_true rfl, Nat.le_of_ble_eq_true rfl⟩ dd_J_checkRoomForSize_29
    · skip
      exact tt_UOEW (is := 257) (text := "above 64 bytes, or no block is free") hl9 htb C hz (by decide +kernel) ⟨by first | (simp [jf_rsT, c_1, c_3, jex]; done), by first | (simp [jf_rsT, c_1, c_3, jex]; done), rfl⟩ hP hD hK hS hl.1 dd_J_checkRoomForSize_18 dd_J_checkRoomForSize_21 dd_J_checkRoomForSize_22 dd_J_checkRoomForSize_25 dd_J_checkRoomForSize_28 ⟨Nat.le_of_ble_eq_true rfl, Nat.le_of_ble_eq_true rfl, Nat.le_of_ble_eq_true rfl, Nat.le_of_ble_eq_true rfl⟩ ⟨Nat.le_of_ble_eq_true rfl, Nat.le_of_ble_eq_true rfl⟩
