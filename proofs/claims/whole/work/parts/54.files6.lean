set_option maxHeartbeats 4000000 in
set_option maxRecDepth 100000 in
theorem ct_J_write (l : Launch) (hl9 : l.stackTraces = false) (G : va_G) (qJ qH : Nat) (qh : Nat → Nat) (cH : ClassId) (qI qD qS qC : Nat) (cS cC : ClassId) (s : Nat → Nat) (c : Nat → Nat) (ho : Nat → Nat) (hn : Nat → Nat) (hg : Nat → Nat) (hm : Nat → Nat) (hp : Nat → Nat) (wc : Nat) (wd : Nat) (tf : Nat) (h : Nat) (b : Nat) (z : Nat) (hh0 : h < 4294967296) (hb0 : b < 18446744073709551616) (hz0 : z < 4294967296) (hs : jf_ok s) (hho : jlt 2 ho) (hhn : jlt 256 hn) (hhg : jlt 256 hg) (hhm : jlt 5 hm) (hhp : jlt 65 hp) : jt l yn_J_write (.code yn_J_write cd_J_write 9 none) { frames := 7, cells := 6, slots := 36, locals := 112 } G (tJ cS cC cH) (wJ qJ qH qh cH qI qD qS qC cS cC s c ho hn hg hm hp wc wd tf) [.ref qJ, .int (nI (h)), .long (lN (b)), .int (nI (z))] (fun o w => (jf_wriT s ho hn hg hm hp h z) = 0 ∧ o = none ∧ w = (wJ qJ qH qh cH qI qD qS qC cS cC (if z = 0 then s else jf_wbL (hn h) (hp h) b z 0 (jf_resize s (hn h) (max (jf_size s (hn h)) (hp h + z)))) c ho hn hg hm (if z = 0 then hp else ju hp h (hp h + z)) wc wd tf)) (fun E w => ¬ (jf_wriT s ho hn hg hm hp h z) = 0 ∧ E = jex (jf_wriT s ho hn hg hm hp h z) ∧ w = (wJ qJ qH qh cH qI qD qS qC cS cC s c ho hn hg hm hp wc wd tf)) := by
  refine jt_of (by decide) (Nat.le_of_ble_eq_true rfl) ?_
  intro pr en σ mi bel met cd ls A hA C htb hz hP hK hD hS hl
  have hx := C.1
  have hb := C.2.1
  have hown := C.2.2.2.1
  have hts := C.2.2.2.2.1
  have hl : lv_has ls 9 [(0, .ref qJ), (1, .int (nI (h))), (2, .long (lN (b))), (4, .int (nI (z)))] := hl
  refine lv_iload_n hx hb dd_J_write_0 rfl (lv_at hl 1 rfl) ?_
  refine lv_iconst (v := nI 0) hx hb dd_J_write_1 (by decide) ?_
  refine lv_iconst (v := nI 5) hx hb dd_J_write_2 (by decide) ?_
  refine jt_callS (wr := wJ qJ qH qh cH qI qD qS qC cS cC s c ho hn hg hm hp wc wd tf) C hz (ct_J_checkRange l hl9 G h 0 5 (by omega) (by omega) (by omega)) kl_J_64 ⟨Nat.le_of_ble_eq_true rfl, Nat.le_of_ble_eq_true rfl⟩ ⟨Nat.le_of_ble_eq_true rfl, Nat.le_of_ble_eq_true rfl⟩ hP hD hS hA (hK.sub [] rfl) hl.1 rfl rfl (Nat.le_of_ble_eq_true rfl) dd_J_write_3 (fun E w1 H1 locs1 q9 ce hxx hP hD hS g1 g2 g3 => ?_) (fun o w1 H locs hxx hP hD hS => ?_)
  · obtain ⟨hx_2, rfl, rfl⟩ := hxx
    exact jt_out htb C ⟨by first | (simp [jf_wriT, hx_2]; done), by first | (simp [jf_wriT, hx_2]; done), rfl⟩ hP hD hK hS ⟨Nat.le_of_ble_eq_true rfl, Nat.le_of_ble_eq_true rfl⟩ g1 g2 g3
  · obtain ⟨hx_2, rfl, rfl⟩ := hxx
    have hP : va_P G jcl (wJ qJ qH qh cH qI qD qS qC cS cC s c ho hn hg hm hp wc wd tf) H := hP
    have hD : va_D A (wJ qJ qH qh cH qI qD qS qC cS cC s c ho hn hg hm hp wc wd tf) := hD
    have hf_1 : 0 ≤ h ∧ h ≤ 5 := jf_rng_0 hx_2
    refine lv_iload hx hb dd_J_write_6 (lv_at hl 3 rfl) ?_
    refine lv_iconst (v := nI 0) hx hb dd_J_write_8 (by decide) ?_
    refine lv_bipush (v := nI 8) hx hb dd_J_write_9 (by decide) ?_
    refine jt_callS (wr := wJ qJ qH qh cH qI qD qS qC cS cC s c ho hn hg hm hp wc wd tf) C hz (ct_J_checkRange l hl9 G z 0 8 (by omega) (by omega) (by omega)) kl_J_64 ⟨Nat.le_of_ble_eq_true rfl, Nat.le_of_ble_eq_true rfl⟩ ⟨Nat.le_of_ble_eq_true rfl, Nat.le_of_ble_eq_true rfl⟩ hP hD hS hA (hK.sub [] rfl) hl.1 rfl rfl (Nat.le_of_ble_eq_true rfl) dd_J_write_11 (fun E w1 H1 locs1 q9 ce hxx hP hD hS g1 g2 g3 => ?_) (fun o w1 H locs hxx hP hD hS => ?_)
    · obtain ⟨hx_4, rfl, rfl⟩ := hxx
      exact jt_out htb C ⟨by first | (simp [jf_wriT, hx_2, hx_4]; done), by first | (simp [jf_wriT, hx_2, hx_4]; done), rfl⟩ hP hD hK hS ⟨Nat.le_of_ble_eq_true rfl, Nat.le_of_ble_eq_true rfl⟩ g1 g2 g3
    · obtain ⟨hx_4, rfl, rfl⟩ := hxx
      have hP : va_P G jcl (wJ qJ qH qh cH qI qD qS qC cS cC s c ho hn hg hm hp wc wd tf) H := hP
      have hD : va_D A (wJ qJ qH qh cH qI qD qS qC cS cC s c ho hn hg hm hp wc wd tf) := hD
      have hf_3 : 0 ≤ z ∧ z ≤ 8 := jf_rng_0 hx_4
      refine lv_aload_n hx hb dd_J_write_14 rfl (lv_at hl 0 rfl) ?_
      refine lv_iload_n hx hb dd_J_write_15 rfl (lv_at hl 1 rfl) ?_
      refine jt_callV (wr := []) C hz (ct_J_usableHandle l hl9 G qJ qH qh cH qI qD qS qC cS cC s c ho hn hg hm hp wc wd tf h (by omega) (by first | assumption | (simp only [] ; assumption)) (by assumption) (by assumption) (by assumption) (by assumption) (by assumption)) kl_J_105 ⟨Nat.le_of_ble_eq_true rfl, Nat.le_of_ble_eq_true rfl⟩ ⟨Nat.le_of_ble_eq_true rfl, Nat.le_of_ble_eq_true rfl⟩ hP hD hS hA (hK) (va_recv hK hP (ci := 3) (q0 := 4) rfl rfl) hl.1 rfl rfl (Nat.le_of_ble_eq_true rfl) dd_J_write_16 (fun E w1 H1 locs1 q9 ce hxx hP hD hS g1 g2 g3 => ?_) (fun o w1 H locs hxx hP hD hS => ?_)
      · obtain ⟨hx_5, rfl, rfl⟩ := hxx
        exact jt_out htb C ⟨by first | (simp [jf_wriT, hx_2, hx_4, hx_5]; done), by first | (simp [jf_wriT, hx_2, hx_4, hx_5]; done), rfl⟩ hP hD hK hS ⟨Nat.le_of_ble_eq_true rfl, Nat.le_of_ble_eq_true rfl⟩ g1 g2 g3
      · obtain ⟨hx_5, rfl, rfl⟩ := hxx
        have hP : va_P G jcl (wJ qJ qH qh cH qI qD qS qC cS cC s c ho hn hg hm hp wc wd tf) H := hP
        have hD : va_D A (wJ qJ qH qh cH qI qD qS qC cS cC s c ho hn hg hm hp wc wd tf) := hD
        refine lv_astore (lv' := [(5, .ref (qh h)), (0, .ref qJ), (1, .int (nI (h))), (2, .long (lN (b))), (4, .int (nI (z)))]) hx hb dd_J_write_19 hl (by decide) rfl (fun ls hl => ?_)
        refine lv_aload hx hb dd_J_write_21 (lv_at hl 0 rfl) ?_
        refine va_get (D := G) (ci := 1) (v := .int (nI (hm h))) (C := cn_H) (T := ft_H) (N := 5) hx hb hts uw_H hown hK hP (6 + h) (jh_at (by omega)) rfl 3 (by decide) (hts _ tw_69) (fun _ h9 => h9) rfl dd_J_write_23 ?_
        have hf_6 : hm h < 5 := (by assumption : jlt 5 hm) _
        refine jr_callS0 C (ct_J_writesBy l G (hm h) (by omega)) kl_J_68 ⟨Nat.le_of_ble_eq_true rfl, Nat.le_of_ble_eq_true rfl, rfl, rfl⟩ ⟨Nat.le_of_ble_eq_true rfl, Nat.le_of_ble_eq_true rfl⟩ hK hl.1 rfl rfl (Nat.le_of_ble_eq_true rfl) dd_J_write_26 ?_
        have hf_7 : jf_wrs (hm h) < 2 := jf_wrs_lt _
        refine jl_ifne (tgt := 42) hx hb (by omega) dd_J_write_29 (by decide) (fun c_8 => ?_) (fun c_8 => ?_)
        · skip
          refine lv_iload hx hb dd_J_write_42 (lv_at hl 4 rfl) ?_
          refine jl_ifne32 (tgt := 48) hx hb (by omega) dd_J_write_44 (by decide) (fun c_9 => ?_) (fun c_9 => ?_)
          · skip
            refine lv_aload hx hb dd_J_write_48 (lv_at hl 0 rfl) ?_
            refine va_get (D := G) (ci := 1) (v := .int (nI (hp h))) (C := cn_H) (T := ft_H) (N := 5) hx hb hts uw_H hown hK hP (6 + h) (jh_at (by omega)) rfl 4 (by decide) (hts _ tw_70) (fun _ h9 => h9) rfl dd_J_write_50 ?_
            have hf_10 : hp h < 65 := (by assumption : jlt 65 hp) _
            refine lv_iload hx hb dd_J_write_53 (lv_at hl 4 rfl) ?_
            refine jl_iadd hx hb dd_J_write_55 ?_
            refine lv_istore (lv' := [(6, .int (nI ((hp h) + z))), (5, .ref (qh h)), (0, .ref qJ), (1, .int (nI (h))), (2, .long (lN (b))), (4, .int (nI (z)))]) hx hb dd_J_write_56 hl (by decide) rfl (fun ls hl => ?_)
            refine lv_aload_n hx hb dd_J_write_58 rfl (lv_at hl 2 rfl) ?_
            refine va_get (D := G) (ci := 3) (v := .ref qI) (C := cn_J) (T := ft_J) (N := 6) hx hb hts uw_J hown hK hP 4 rfl rfl 1 (by decide) (hts _ tw_108) (fun _ h9 => h9) rfl dd_J_write_59 ?_
            refine lv_aload hx hb dd_J_write_62 (lv_at hl 1 rfl) ?_
            refine va_get (D := G) (ci := 1) (v := .int (nI (hn h))) (C := cn_H) (T := ft_H) (N := 5) hx hb hts uw_H hown hK hP (6 + h) (jh_at (by omega)) rfl 1 (by decide) (hts _ tw_67) (fun _ h9 => h9) rfl dd_J_write_64 ?_
            have hf_11 : hn h < 256 := (by assumption : jlt 256 hn) _
            refine jr_callV C (ct_I_size l G qI qD qS qC cS cC s c (hn h) (by omega) (by first | assumption | (simp only [] ; assumption))) kl_J_96 ⟨Nat.le_of_ble_eq_true rfl, Nat.le_of_ble_eq_true rfl, rfl, rfl⟩ ⟨Nat.le_of_ble_eq_true rfl, Nat.le_of_ble_eq_true rfl⟩ (jw_left hP) (hK.sub [0, 1] rfl) (va_recv hK hP (ci := 2) (q0 := 3) rfl rfl) hl.1 rfl rfl (Nat.le_of_ble_eq_true rfl) dd_J_write_67 ?_
            have hf_12 : jf_size s (hn h) < 256 := jf_get_lt (by assumption) _
            refine lv_iload hx hb dd_J_write_70 (lv_at hl 0 rfl) ?_
            refine va_mmax hx hb (C.2.2.1.trans hl.1.symm) hown (hts _ tw_448) (hts _ tw_449) (hts _ tw_14) (hts _ tw_450) (Nat.le_of_ble_eq_true rfl) (Nat.le_of_ble_eq_true rfl) (Nat.le_of_ble_eq_true rfl) (Nat.le_of_ble_eq_true rfl) dd_J_write_72 ?_
            refine jl_top (jx_max (by omega) (by omega)) ?_
            refine lv_istore (lv' := [(7, .int (nI (max (jf_size s (hn h)) ((hp h) + z)))), (6, .int (nI ((hp h) + z))), (5, .ref (qh h)), (0, .ref qJ), (1, .int (nI (h))), (2, .long (lN (b))), (4, .int (nI (z)))]) hx hb dd_J_write_75 hl (by decide) rfl (fun ls hl => ?_)
            refine lv_aload_n hx hb dd_J_write_77 rfl (lv_at hl 3 rfl) ?_
            refine lv_aload hx hb dd_J_write_78 (lv_at hl 2 rfl) ?_
            refine va_get (D := G) (ci := 1) (v := .int (nI (hn h))) (C := cn_H) (T := ft_H) (N := 5) hx hb hts uw_H hown hK hP (6 + h) (jh_at (by omega)) rfl 1 (by decide) (hts _ tw_67) (fun _ h9 => h9) rfl dd_J_write_80 ?_
            have hf_13 : hn h < 256 := (by assumption : jlt 256 hn) _
            refine lv_iload hx hb dd_J_write_83 (lv_at hl 0 rfl) ?_
            refine jt_callV (wr := []) C hz (ct_J_checkRoomForSize l hl9 G qJ qH qh cH qI qD qS qC cS cC s c ho hn hg hm hp wc wd tf (hn h) (max (jf_size s (hn h)) ((hp h) + z)) (by omega) (by omega) (by first | assumption | (simp only [] ; assumption))) kl_J_127 ⟨Nat.le_of_ble_eq_true rfl, Nat.le_of_ble_eq_true rfl⟩ ⟨Nat.le_of_ble_eq_true rfl, Nat.le_of_ble_eq_true rfl⟩ hP hD hS hA (hK) (va_recv hK hP (ci := 3) (q0 := 4) rfl rfl) hl.1 rfl rfl (Nat.le_of_ble_eq_true rfl) dd_J_write_85 (fun E w1 H1 locs1 q9 ce hxx hP hD hS g1 g2 g3 => ?_) (fun o w1 H locs hxx hP hD hS => ?_)
            · obtain ⟨hx_15, rfl, rfl⟩ := hxx
              exact jt_out htb C ⟨by first | (simp [jf_wriT, hx_2, hx_4, hx_5, c_8, c_9, hx_15]; done), by first | (simp [jf_wriT, hx_2, hx_4, hx_5, c_8, c_9, hx_15]; done), rfl⟩ hP hD hK hS ⟨Nat.le_of_ble_eq_true rfl, Nat.le_of_ble_eq_true rfl⟩ g1 g2 g3
            · obtain ⟨hx_15, rfl, rfl⟩ := hxx
              have hP : va_P G jcl (wJ qJ qH qh cH qI qD qS qC cS cC s c ho hn hg hm hp wc wd tf) H := hP
              have hD : va_D A (wJ qJ qH qh cH qI qD qS qC cS cC s c ho hn hg hm hp wc wd tf) := hD
              have hf_14 : (max (jf_size s (hn h)) ((hp h) + z)) ≤ 64 := jf_rsT_0 hx_15
              refine lv_aload_n hx hb dd_J_write_88 rfl (lv_at hl 3 rfl) ?_
              refine va_get (D := G) (ci := 3) (v := .ref qI) (C := cn_J) (T := ft_J) (N := 6) hx hb hts uw_J hown hK hP 4 rfl rfl 1 (by decide) (hts _ tw_108) (fun _ h9 => h9) rfl dd_J_write_89 ?_
              refine lv_aload hx hb dd_J_write_92 (lv_at hl 2 rfl) ?_
              refine va_get (D := G) (ci := 1) (v := .int (nI (hn h))) (C := cn_H) (T := ft_H) (N := 5) hx hb hts uw_H hown hK hP (6 + h) (jh_at (by omega)) rfl 1 (by decide) (hts _ tw_67) (fun _ h9 => h9) rfl dd_J_write_94 ?_
              have hf_16 : hn h < 256 := (by assumption : jlt 256 hn) _
              refine lv_iload hx hb dd_J_write_97 (lv_at hl 0 rfl) ?_
              refine jm_callV (wr := [(qJ, .inr (3, [.ref qD, .ref qI, .ref qH, .int (nI wc), .int (nI wd), .int (nI tf)])), (qH, .inl (cH, 6, .inr (.inr (.inr (.inr (fun k => some (qh k))))))), jh qh ho hn hg hm hp 0, jh qh ho hn hg hm hp 1, jh qh ho hn hg hm hp 2, jh qh ho hn hg hm hp 3, jh qh ho hn hg hm hp 4, jh qh ho hn hg hm hp 5]) C (ct_I_resize l G qI qD qS qC cS cC s c (hn h) (max (jf_size s (hn h)) ((hp h) + z)) (by omega) (by omega) (by first | assumption | (simp only [] ; assumption))) kl_J_93 ⟨Nat.le_of_ble_eq_true rfl, Nat.le_of_ble_eq_true rfl⟩ ⟨Nat.le_of_ble_eq_true rfl, Nat.le_of_ble_eq_true rfl⟩ hP hD hS hA (hK.sub [0, 1] rfl) (va_recv hK hP (ci := 2) (q0 := 3) rfl rfl) hl.1 rfl rfl (Nat.le_of_ble_eq_true rfl) dd_J_write_99 (fun H locs hP hD hS => ?_)
              have hP : va_P G jcl (wJ qJ qH qh cH qI qD qS qC cS cC (jf_resize s (hn h) (max (jf_size s (hn h)) ((hp h) + z))) c ho hn hg hm hp wc wd tf) H := hP
              have hD : va_D A (wJ qJ qH qh cH qI qD qS qC cS cC (jf_resize s (hn h) (max (jf_size s (hn h)) ((hp h) + z))) c ho hn hg hm hp wc wd tf) := hD
              have hf_17 : jf_ok (jf_resize s (hn h) (max (jf_size s (hn h)) ((hp h) + z))) := jf_resize_ok (by assumption) _ (by omega)
              refine lv_iconst (v := nI 0) hx hb dd_J_write_102 (by decide) ?_
              refine lv_istore (lv' := [(8, .int (nI (0))), (7, .int (nI (max (jf_size s (hn h)) ((hp h) + z)))), (6, .int (nI ((hp h) + z))), (5, .ref (qh h)), (0, .ref qJ), (1, .int (nI (h))), (2, .long (lN (b))), (4, .int (nI (z)))]) hx hb dd_J_write_103 hl (by decide) rfl (fun ls hl => ?_)
              have loop : ∀ (n : Nat) (k : Nat) (S9 : Nat → Nat), (k + n = z) → (jf_ok S9) → jf_wbL (hn h) (hp h) b n k S9 = jf_wbL (hn h) (hp h) b z 0 (jf_resize s (hn h) (max (jf_size s (hn h)) (hp h + z))) → ∀ (H : Heap) (locs : List Loc), va_P G jcl (wJ qJ qH qh cH qI qD qS qC cS cC S9 c ho hn hg hm hp wc wd tf) H → va_D A (wJ qJ qH qh cH qI qD qS qC cS cC S9 c ho hn hg hm hp wc wd tf) → va_S A σ.heap H locs → ∀ ls : Array Slot, lv_has ls 9 [(8, .int (nI (k))), (7, .int (nI (max (jf_size s (hn h)) ((hp h) + z)))), (6, .int (nI ((hp h) + z))), (5, .ref (qh h)), (0, .ref qJ), (1, .int (nI (h))), (2, .long (lN (b))), (4, .int (nI (z)))] → W pr l en { frames := 7, cells := 6, slots := 36, locals := 112 } σ mi ([.ref qJ, .int (nI (h)), .long (lN (b)), .int (nI (z))] : List Value).toArray bel met cd H locs 4 24 (jt_Q bel { frames := 7, cells := 6, slots := 36, locals := 112 } G (tJ cS cC cH) A [.ref qJ, .int (nI (h)), .long (lN (b)), .int (nI (z))] σ (fun o w => (jf_wriT s ho hn hg hm hp h z) = 0 ∧ o = none ∧ w = (wJ qJ qH qh cH qI qD qS qC cS cC (if z = 0 then s else jf_wbL (hn h) (hp h) b z 0 (jf_resize s (hn h) (max (jf_size s (hn h)) (hp h + z)))) c ho hn hg hm (if z = 0 then hp else ju hp h (hp h + z)) wc wd tf)) (fun E w => ¬ (jf_wriT s ho hn hg hm hp h z) = 0 ∧ E = jex (jf_wriT s ho hn hg hm hp h z) ∧ w = (wJ qJ qH qh cH qI qD qS qC cS cC s c ho hn hg hm hp wc wd tf))) (F0 mi 105 ls []) := by
                intro n
                induction n with
                | zero =>
                  intro k S9 hi hs9 ht H locs hP hD hS ls hl
                  refine lv_iload hx hb dd_J_write_105 (lv_at hl 0 rfl) ?_
                  refine lv_iload hx hb dd_J_write_107 (lv_at hl 7 rfl) ?_
                  refine jl_ge (tgt := 150) hx hb (by omega) (by omega) dd_J_write_109 (by decide) (fun c_18 => ?_) (fun c_18 => ?_)
                  · skip
                    refine lv_aload hx hb dd_J_write_150 (lv_at hl 3 rfl) ?_
                    refine lv_iload hx hb dd_J_write_152 (lv_at hl 2 rfl) ?_
                    refine va_put (D := G) (ci := 1) (v := .int (nI ((hp h) + z))) (ty := .int) (C := cn_H) (T := ft_H) (N := 5) hx hb hts uw_H fy_H fo_H fn_H hown hK hP hD hS (6 + h) (jh_at (by omega)) rfl 4 (by decide) (hts _ tw_70) (fun _ h9 => h9) rfl (by decide +kernel) rfl rfl (Nat.le_of_ble_eq_true rfl) dd_J_write_154 (fun H locs hP hD hS => ?_)
                    have hP : va_P G jcl ((wJ qJ qH qh cH qI qD qS qC cS cC S9 c ho hn hg hm hp wc wd tf).set (6 + h) (qh h, .inr (1, [.int (nI (ho h)), .int (nI (hn h)), .int (nI (hg h)), .int (nI (hm h)), .int (nI ((hp h) + z))]))) H := hP
                    have hD : va_D A ((wJ qJ qH qh cH qI qD qS qC cS cC S9 c ho hn hg hm hp wc wd tf).set (6 + h) (qh h, .inr (1, [.int (nI (ho h)), .int (nI (hn h)), .int (nI (hg h)), .int (nI (hm h)), .int (nI ((hp h) + z))]))) := hD
                    rw [jh_set (by omega)] at hP hD
                    simp only [ju_same] at hP hD
                    have hP : va_P G jcl (wJ qJ qH qh cH qI qD qS qC cS cC S9 c ho hn hg hm (ju hp h ((hp h) + z)) wc wd tf) H := hP
                    have hD : va_D A (wJ qJ qH qh cH qI qD qS qC cS cC S9 c ho hn hg hm (ju hp h ((hp h) + z)) wc wd tf) := hD
                    exact jt_retv C ⟨by first | (simp [← ht, jf_wbL, jf_wriT, hx_2, hx_4, hx_5, c_8, c_9, hx_15, c_18]; done), rfl, (by first | with_reducible rfl | (simp [← ht, jf_wbL, jf_wriT, hx_2, hx_4, hx_5, c_8, c_9, hx_15, c_18]; done))⟩ hP hD hK hS ⟨Nat.le_of_ble_eq_true rfl, Nat.le_of_ble_eq_true rfl⟩ dd_J_write_157
                  · skip
                    exact absurd c_18 (by omega)
                | succ n ih =>
                  intro k S9 hi hs9 ht H locs hP hD hS ls hl
                  refine lv_iload hx hb dd_J_write_105 (lv_at hl 0 rfl) ?_
                  refine lv_iload hx hb dd_J_write_107 (lv_at hl 7 rfl) ?_
                  refine jl_ge (tgt := 150) hx hb (by omega) (by omega) dd_J_write_109 (by decide) (fun c_19 => ?_) (fun c_19 => ?_)
                  · skip
                    exact absurd c_19 (by omega)
                  · skip
                    refine lv_aload_n hx hb dd_J_write_112 rfl (lv_at hl 4 rfl) ?_
                    refine va_get (D := G) (ci := 3) (v := .ref qI) (C := cn_J) (T := ft_J) (N := 6) hx hb hts uw_J hown hK hP 4 rfl rfl 1 (by decide) (hts _ tw_108) (fun _ h9 => h9) rfl dd_J_write_113 ?_
                    refine lv_aload hx hb dd_J_write_116 (lv_at hl 3 rfl) ?_
                    refine va_get (D := G) (ci := 1) (v := .int (nI (hn h))) (C := cn_H) (T := ft_H) (N := 5) hx hb hts uw_H hown hK hP (6 + h) (jh_at (by omega)) rfl 1 (by decide) (hts _ tw_67) (fun _ h9 => h9) rfl dd_J_write_118 ?_
                    have hf_20 : hn h < 256 := (by assumption : jlt 256 hn) _
                    refine lv_aload hx hb dd_J_write_121 (lv_at hl 3 rfl) ?_
                    refine va_get (D := G) (ci := 1) (v := .int (nI (hp h))) (C := cn_H) (T := ft_H) (N := 5) hx hb hts uw_H hown hK hP (6 + h) (jh_at (by omega)) rfl 4 (by decide) (hts _ tw_70) (fun _ h9 => h9) rfl dd_J_write_123 ?_
                    have hf_21 : hp h < 65 := (by assumption : jlt 65 hp) _
                    refine lv_iload hx hb dd_J_write_126 (lv_at hl 0 rfl) ?_
                    refine jl_iadd hx hb dd_J_write_128 ?_
                    refine lv_lload_n hx hb dd_J_write_129 rfl (lv_at hl 6 rfl) ?_
                    refine lv_bipush (v := nI 8) hx hb dd_J_write_130 (by decide) ?_
                    refine lv_iload hx hb dd_J_write_132 (lv_at hl 0 rfl) ?_
                    refine jl_imul hx hb dd_J_write_134 ?_
                    refine jl_lushr hx hb (by omega) (by omega) dd_J_write_135 ?_
                    refine jl_l2i hx hb dd_J_write_136 ?_
                    refine lv_sipush (v := nI 255) hx hb dd_J_write_137 (by decide) ?_
                    refine jl_byte hx hb dd_J_write_140 ?_
                    refine jm_callV (wr := [(qJ, .inr (3, [.ref qD, .ref qI, .ref qH, .int (nI wc), .int (nI wd), .int (nI tf)])), (qH, .inl (cH, 6, .inr (.inr (.inr (.inr (fun k => some (qh k))))))), jh qh ho hn hg hm hp 0, jh qh ho hn hg hm hp 1, jh qh ho hn hg hm hp 2, jh qh ho hn hg hm hp 3, jh qh ho hn hg hm hp 4, jh qh ho hn hg hm hp 5]) C (ct_I_putByte l G qI qD qS qC cS cC S9 c (hn h) ((hp h) + k) (b / 2 ^ (8 * k) % 256) (by omega) (by omega) (by first | assumption | (simp only [] ; assumption))) kl_J_130 ⟨Nat.le_of_ble_eq_true rfl, Nat.le_of_ble_eq_true rfl⟩ ⟨Nat.le_of_ble_eq_true rfl, Nat.le_of_ble_eq_true rfl⟩ hP hD hS hA (hK.sub [0, 1] rfl) (va_recv hK hP (ci := 2) (q0 := 3) rfl rfl) hl.1 rfl rfl (Nat.le_of_ble_eq_true rfl) dd_J_write_141 (fun H locs hP hD hS => ?_)
                    have hP : va_P G jcl (wJ qJ qH qh cH qI qD qS qC cS cC (jf_putByte S9 (hn h) ((hp h) + k) (b / 2 ^ (8 * k) % 256)) c ho hn hg hm hp wc wd tf) H := hP
                    have hD : va_D A (wJ qJ qH qh cH qI qD qS qC cS cC (jf_putByte S9 (hn h) ((hp h) + k) (b / 2 ^ (8 * k) % 256)) c ho hn hg hm hp wc wd tf) := hD
                    have hf_22 : jf_ok (jf_putByte S9 (hn h) ((hp h) + k) (b / 2 ^ (8 * k) % 256)) := jf_putByte_ok (by assumption) _ _ (by omega)
                    refine jl_iinc (lv' := [(8, .int (nI (k + 1))), (7, .int (nI (max (jf_size s (hn h)) ((hp h) + z)))), (6, .int (nI ((hp h) + z))), (5, .ref (qh h)), (0, .ref qJ), (1, .int (nI (h))), (2, .long (lN (b))), (4, .int (nI (z)))]) hx hb dd_J_write_144 hl (k := 0) rfl (by decide) rfl (fun ls hl => ?_)
                    refine lv_goto (tgt := 105) hx hb dd_J_write_147 (by decide) ?_
                    exact ih (k + 1) (jf_putByte S9 (hn h) ((hp h) + k) (b / 2 ^ (8 * k) % 256)) (by omega) (by assumption) (by simpa [jf_wbL, hx_2, hx_4, hx_5, c_8, c_9, hx_15, c_19] using ht) _ _ hP hD hS ls (lv_sub hl [0, 1, 2, 3, 4, 5, 6, 7] rfl)
              exact loop z 0 (jf_resize s (hn h) (max (jf_size s (hn h)) ((hp h) + z))) (by omega) (by assumption) (rfl) _ _ hP hD hS ls (lv_sub hl [0, 1, 2, 3, 4, 5, 6, 7] rfl)
          · skip
            exact jt_retv C ⟨by first | (simp [jf_wriT, hx_2, hx_4, hx_5, c_8, eq_true c_9]; done), rfl, (by first | with_reducible rfl | (simp [jf_wriT, hx_2, hx_4, hx_5, c_8, eq_true c_9]; done))⟩ hP hD hK hS ⟨Nat.le_of_ble_eq_true rfl, Nat.le_of_ble_eq_true rfl⟩ dd_J_write_47
        · skip
          exact tt_ISES (is := 113) (text := "not a mode that writes") hl9 htb C hz (by decide +kernel) ⟨by first | (simp [jf_wriT, hx_2, hx_4, hx_5, c_8, jex]; done), by first | (simp [jf_wriT, hx_2, hx_4, hx_5, c_8, jex]; done), rfl⟩ hP hD hK hS hl.1 dd_J_write_32 dd_J_write_35 dd_J_write_36 dd_J_write_38 dd_J_write_41 ⟨Nat.le_of_ble_eq_true rfl, Nat.le_of_ble_eq_true rfl, Nat.le_of_ble_eq_true rfl, Nat.le_of_ble_eq_true rfl⟩ ⟨Nat.le_of_ble_eq_true rfl, Nat.le_of_ble_eq_true rfl⟩
set_option maxHeartbeats 4000000 in
set_option maxRecDepth 100000 in
theorem ct_J_read (l : Launch) (hl9 : l.stackTraces = false) (G : va_G) (qJ qH : Nat) (qh : Nat → Nat) (cH : ClassId) (qI qD qS qC : Nat) (cS cC : ClassId) (s : Nat → Nat) (c : Nat → Nat) (ho : Nat → Nat) (hn : Nat → Nat) (hg : Nat → Nat) (hm : Nat → Nat) (hp : Nat → Nat) (wc : Nat) (wd : Nat) (tf : Nat) (h : Nat) (z : Nat) (hh0 : h < 4294967296) (hz0 : z < 4294967296) (hs : jf_ok s) (hho : jlt 2 ho) (hhn : jlt 256 hn) (hhg : jlt 256 hg) (hhm : jlt 5 hm) (hhp : jlt 65 hp) : jt l yn_J_read (.code yn_J_read cd_J_read 9 (some .long)) { frames := 7, cells := 5, slots := 30, locals := 112 } G (tJ cS cC cH) (wJ qJ qH qh cH qI qD qS qC cS cC s c ho hn hg hm hp wc wd tf) [.ref qJ, .int (nI (h)), .int (nI (z))] (fun o w => (jf_reaT s ho hn hg hm h z) = 0 ∧ o = (some (.long (lN (jf_rbL s (hn h) (hp h) (min z (jf_size s (hn h) - hp h)) 0 0)))) ∧ w = (wJ qJ qH qh cH qI qD qS qC cS cC s c ho hn hg hm (ju hp h (hp h + (min z (jf_size s (hn h) - hp h)))) wc wd tf)) (fun E w => ¬ (jf_reaT s ho hn hg hm h z) = 0 ∧ E = jex (jf_reaT s ho hn hg hm h z) ∧ w = (wJ qJ qH qh cH qI qD qS qC cS cC s c ho hn hg hm hp wc wd tf)) := by
  refine jt_of (by decide) (Nat.le_of_ble_eq_true rfl) ?_
  intro pr en σ mi bel met cd ls A hA C htb hz hP hK hD hS hl
  have hx := C.1
  have hb := C.2.1
  have hown := C.2.2.2.1
  have hts := C.2.2.2.2.1
  have hl : lv_has ls 9 [(0, .ref qJ), (1, .int (nI (h))), (2, .int (nI (z)))] := hl
  refine lv_iload_n hx hb dd_J_read_0 rfl (lv_at hl 1 rfl) ?_
  refine lv_iconst (v := nI 0) hx hb dd_J_read_1 (by decide) ?_
  refine lv_iconst (v := nI 5) hx hb dd_J_read_2 (by decide) ?_
  refine jt_callS (wr := wJ qJ qH qh cH qI qD qS qC cS cC s c ho hn hg hm hp wc wd tf) C hz (ct_J_checkRange l hl9 G h 0 5 (by omega) (by omega) (by omega)) kl_J_64 ⟨Nat.le_of_ble_eq_true rfl, Nat.le_of_ble_eq_true rfl⟩ ⟨Nat.le_of_ble_eq_true rfl, Nat.le_of_ble_eq_true rfl⟩ hP hD hS hA (hK.sub [] rfl) hl.1 rfl rfl (Nat.le_of_ble_eq_true rfl) dd_J_read_3 (fun E w1 H1 locs1 q9 ce hxx hP hD hS g1 g2 g3 => ?_) (fun o w1 H locs hxx hP hD hS => ?_)
  · obtain ⟨hx_2, rfl, rfl⟩ := hxx
    exact jt_out htb C ⟨by first | (simp [jf_reaT, hx_2]; done), by first | (simp [jf_reaT, hx_2]; done), rfl⟩ hP hD hK hS ⟨Nat.le_of_ble_eq_true rfl, Nat.le_of_ble_eq_true rfl⟩ g1 g2 g3
  · obtain ⟨hx_2, rfl, rfl⟩ := hxx
    have hP : va_P G jcl (wJ qJ qH qh cH qI qD qS qC cS cC s c ho hn hg hm hp wc wd tf) H := hP
    have hD : va_D A (wJ qJ qH qh cH qI qD qS qC cS cC s c ho hn hg hm hp wc wd tf) := hD
    have hf_1 : 0 ≤ h ∧ h ≤ 5 := jf_rng_0 hx_2
    refine lv_iload_n hx hb dd_J_read_6 rfl (lv_at hl 2 rfl) ?_
    refine lv_iconst (v := nI 0) hx hb dd_J_read_7 (by decide) ?_
    refine lv_bipush (v := nI 8) hx hb dd_J_read_8 (by decide) ?_
    refine jt_callS (wr := wJ qJ qH qh cH qI qD qS qC cS cC s c ho hn hg hm hp wc wd tf) C hz (ct_J_checkRange l hl9 G z 0 8 (by omega) (by omega) (by omega)) kl_J_64 ⟨Nat.le_of_ble_eq_true rfl, Nat.le_of_ble_eq_true rfl⟩ ⟨Nat.le_of_ble_eq_true rfl, Nat.le_of_ble_eq_true rfl⟩ hP hD hS hA (hK.sub [] rfl) hl.1 rfl rfl (Nat.le_of_ble_eq_true rfl) dd_J_read_10 (fun E w1 H1 locs1 q9 ce hxx hP hD hS g1 g2 g3 => ?_) (fun o w1 H locs hxx hP hD hS => ?_)
    · obtain ⟨hx_4, rfl, rfl⟩ := hxx
      exact jt_out htb C ⟨by first | (simp [jf_reaT, hx_2, hx_4]; done), by first | (simp [jf_reaT, hx_2, hx_4]; done), rfl⟩ hP hD hK hS ⟨Nat.le_of_ble_eq_true rfl, Nat.le_of_ble_eq_true rfl⟩ g1 g2 g3
    · obtain ⟨hx_4, rfl, rfl⟩ := hxx
      have hP : va_P G jcl (wJ qJ qH qh cH qI qD qS qC cS cC s c ho hn hg hm hp wc wd tf) H := hP
      have hD : va_D A (wJ qJ qH qh cH qI qD qS qC cS cC s c ho hn hg hm hp wc wd tf) := hD
      have hf_3 : 0 ≤ z ∧ z ≤ 8 := jf_rng_0 hx_4
      refine lv_aload_n hx hb dd_J_read_13 rfl (lv_at hl 0 rfl) ?_
      refine lv_iload_n hx hb dd_J_read_14 rfl (lv_at hl 1 rfl) ?_
      refine jt_callV (wr := []) C hz (ct_J_usableHandle l hl9 G qJ qH qh cH qI qD qS qC cS cC s c ho hn hg hm hp wc wd tf h (by omega) (by first | assumption | (simp only [] ; assumption)) (by assumption) (by assumption) (by assumption) (by assumption) (by assumption)) kl_J_105 ⟨Nat.le_of_ble_eq_true rfl, Nat.le_of_ble_eq_true rfl⟩ ⟨Nat.le_of_ble_eq_true rfl, Nat.le_of_ble_eq_true rfl⟩ hP hD hS hA (hK) (va_recv hK hP (ci := 3) (q0 := 4) rfl rfl) hl.1 rfl rfl (Nat.le_of_ble_eq_true rfl) dd_J_read_15 (fun E w1 H1 locs1 q9 ce hxx hP hD hS g1 g2 g3 => ?_) (fun o w1 H locs hxx hP hD hS => ?_)
      · obtain ⟨hx_5, rfl, rfl⟩ := hxx
        exact jt_out htb C ⟨by first | (simp [jf_reaT, hx_2, hx_4, hx_5]; done), by first | (simp [jf_reaT, hx_2, hx_4, hx_5]; done), rfl⟩ hP hD hK hS ⟨Nat.le_of_ble_eq_true rfl, Nat.le_of_ble_eq_true rfl⟩ g1 g2 g3
      · obtain ⟨hx_5, rfl, rfl⟩ := hxx
        have hP : va_P G jcl (wJ qJ qH qh cH qI qD qS qC cS cC s c ho hn hg hm hp wc wd tf) H := hP
        have hD : va_D A (wJ qJ qH qh cH qI qD qS qC cS cC s c ho hn hg hm hp wc wd tf) := hD
        refine lv_astore_n (lv' := [(3, .ref (qh h)), (0, .ref qJ), (1, .int (nI (h))), (2, .int (nI (z)))]) hx hb dd_J_read_18 rfl hl (by decide) rfl (fun ls hl => ?_)
        refine lv_aload_n hx hb dd_J_read_19 rfl (lv_at hl 0 rfl) ?_
        refine va_get (D := G) (ci := 1) (v := .int (nI (hm h))) (C := cn_H) (T := ft_H) (N := 5) hx hb hts uw_H hown hK hP (6 + h) (jh_at (by omega)) rfl 3 (by decide) (hts _ tw_69) (fun _ h9 => h9) rfl dd_J_read_20 ?_
        have hf_6 : hm h < 5 := (by assumption : jlt 5 hm) _
        refine jr_callS0 C (ct_J_readsBy l G (hm h) (by omega)) kl_J_133 ⟨Nat.le_of_ble_eq_true rfl, Nat.le_of_ble_eq_true rfl, rfl, rfl⟩ ⟨Nat.le_of_ble_eq_true rfl, Nat.le_of_ble_eq_true rfl⟩ hK hl.1 rfl rfl (Nat.le_of_ble_eq_true rfl) dd_J_read_23 ?_
        have hf_7 : jf_rds (hm h) < 2 := jf_rds_lt _
        refine jl_ifne (tgt := 39) hx hb (by omega) dd_J_read_26 (by decide) (fun c_8 => ?_) (fun c_8 => ?_)
        · skip
          refine lv_iconst (v := nI 0) hx hb dd_J_read_39 (by decide) ?_
          refine lv_aload_n hx hb dd_J_read_40 rfl (lv_at hl 1 rfl) ?_
          refine va_get (D := G) (ci := 3) (v := .ref qI) (C := cn_J) (T := ft_J) (N := 6) hx hb hts uw_J hown hK hP 4 rfl rfl 1 (by decide) (hts _ tw_108) (fun _ h9 => h9) rfl dd_J_read_41 ?_
          refine lv_aload_n hx hb dd_J_read_44 rfl (lv_at hl 0 rfl) ?_
          refine va_get (D := G) (ci := 1) (v := .int (nI (hn h))) (C := cn_H) (T := ft_H) (N := 5) hx hb hts uw_H hown hK hP (6 + h) (jh_at (by omega)) rfl 1 (by decide) (hts _ tw_67) (fun _ h9 => h9) rfl dd_J_read_45 ?_
          have hf_9 : hn h < 256 := (by assumption : jlt 256 hn) _
          refine jr_callV C (ct_I_size l G qI qD qS qC cS cC s c (hn h) (by omega) (by first | assumption | (simp only [] ; assumption))) kl_J_96 ⟨Nat.le_of_ble_eq_true rfl, Nat.le_of_ble_eq_true rfl, rfl, rfl⟩ ⟨Nat.le_of_ble_eq_true rfl, Nat.le_of_ble_eq_true rfl⟩ (jw_left hP) (hK.sub [0, 1] rfl) (va_recv hK hP (ci := 2) (q0 := 3) rfl rfl) hl.1 rfl rfl (Nat.le_of_ble_eq_true rfl) dd_J_read_48 ?_
          have hf_10 : jf_size s (hn h) < 256 := jf_get_lt (by assumption) _
          refine lv_aload_n hx hb dd_J_read_51 rfl (lv_at hl 0 rfl) ?_
          refine va_get (D := G) (ci := 1) (v := .int (nI (hp h))) (C := cn_H) (T := ft_H) (N := 5) hx hb hts uw_H hown hK hP (6 + h) (jh_at (by omega)) rfl 4 (by decide) (hts _ tw_70) (fun _ h9 => h9) rfl dd_J_read_52 ?_
          have hf_11 : hp h < 65 := (by assumption : jlt 65 hp) _
          refine lv_isub hx hb dd_J_read_55 ?_
          refine va_mmax hx hb (C.2.2.1.trans hl.1.symm) hown (hts _ tw_448) (hts _ tw_449) (hts _ tw_14) (hts _ tw_450) (Nat.le_of_ble_eq_true rfl) (Nat.le_of_ble_eq_true rfl) (Nat.le_of_ble_eq_true rfl) (Nat.le_of_ble_eq_true rfl) dd_J_read_56 ?_
          refine jl_top (jx_maxD (by omega) (by omega)) ?_
          refine lv_istore (lv' := [(4, .int (nI ((jf_size s (hn h)) - (hp h)))), (3, .ref (qh h)), (0, .ref qJ), (1, .int (nI (h))), (2, .int (nI (z)))]) hx hb dd_J_read_59 hl (by decide) rfl (fun ls hl => ?_)
          refine lv_iload_n hx hb dd_J_read_61 rfl (lv_at hl 4 rfl) ?_
          refine lv_iload hx hb dd_J_read_62 (lv_at hl 0 rfl) ?_
          refine va_mmin hx hb (C.2.2.1.trans hl.1.symm) hown (hts _ tw_472) (hts _ tw_473) (hts _ tw_14) (hts _ tw_474) (Nat.le_of_ble_eq_true rfl) (Nat.le_of_ble_eq_true rfl) (Nat.le_of_ble_eq_true rfl) (Nat.le_of_ble_eq_true rfl) dd_J_read_64 ?_
          refine jl_top (jx_min (by omega) (by omega)) ?_
          refine lv_istore (lv' := [(5, .int (nI (min z ((jf_size s (hn h)) - (hp h))))), (4, .int (nI ((jf_size s (hn h)) - (hp h)))), (3, .ref (qh h)), (0, .ref qJ), (1, .int (nI (h))), (2, .int (nI (z)))]) hx hb dd_J_read_67 hl (by decide) rfl (fun ls hl => ?_)
          refine lv_lconst (v := lN 0) hx hb dd_J_read_69 rfl ?_
          refine lv_lstore (lv' := [(6, .long (lN (0))), (5, .int (nI (min z ((jf_size s (hn h)) - (hp h))))), (4, .int (nI ((jf_size s (hn h)) - (hp h)))), (3, .ref (qh h)), (0, .ref qJ), (1, .int (nI (h))), (2, .int (nI (z)))]) hx hb dd_J_read_70 hl (by decide) rfl (fun ls hl => ?_)
          refine lv_iconst (v := nI 0) hx hb dd_J_read_72 (by decide) ?_
          refine lv_istore (lv' := [(8, .int (nI (0))), (6, .long (lN (0))), (5, .int (nI (min z ((jf_size s (hn h)) - (hp h))))), (4, .int (nI ((jf_size s (hn h)) - (hp h)))), (3, .ref (qh h)), (0, .ref qJ), (1, .int (nI (h))), (2, .int (nI (z)))]) hx hb dd_J_read_73 hl (by decide) rfl (fun ls hl => ?_)
          have loop : ∀ (n : Nat) (b : Nat) (k : Nat), (k + n = min z (jf_size s (hn h) - hp h) ∧ b < 18446744073709551616) → jf_rbL s (hn h) (hp h) n k b = jf_rbL s (hn h) (hp h) (min z (jf_size s (hn h) - hp h)) 0 0 → ∀ ls : Array Slot, lv_has ls 9 [(8, .int (nI (k))), (6, .long (lN (b))), (5, .int (nI (min z ((jf_size s (hn h)) - (hp h))))), (4, .int (nI ((jf_size s (hn h)) - (hp h)))), (3, .ref (qh h)), (0, .ref qJ), (1, .int (nI (h))), (2, .int (nI (z)))] → W pr l en { frames := 7, cells := 5, slots := 30, locals := 112 } σ mi ([.ref qJ, .int (nI (h)), .int (nI (z))] : List Value).toArray bel met cd H locs 3 18 (jt_Q bel { frames := 7, cells := 5, slots := 30, locals := 112 } G (tJ cS cC cH) A [.ref qJ, .int (nI (h)), .int (nI (z))] σ (fun o w => (jf_reaT s ho hn hg hm h z) = 0 ∧ o = (some (.long (lN (jf_rbL s (hn h) (hp h) (min z (jf_size s (hn h) - hp h)) 0 0)))) ∧ w = (wJ qJ qH qh cH qI qD qS qC cS cC s c ho hn hg hm (ju hp h (hp h + (min z (jf_size s (hn h) - hp h)))) wc wd tf)) (fun E w => ¬ (jf_reaT s ho hn hg hm h z) = 0 ∧ E = jex (jf_reaT s ho hn hg hm h z) ∧ w = (wJ qJ qH qh cH qI qD qS qC cS cC s c ho hn hg hm hp wc wd tf))) (F0 mi 75 ls []) := by
            intro n
            induction n with
            | zero =>
              intro b k hi  ht ls hl
              refine lv_iload hx hb dd_J_read_75 (lv_at hl 0 rfl) ?_
              refine lv_iload hx hb dd_J_read_77 (lv_at hl 2 rfl) ?_
              refine jl_ge (tgt := 118) hx hb (by omega) (by omega) dd_J_read_79 (by decide) (fun c_12 => ?_) (fun c_12 => ?_)
              · skip
                refine lv_aload_n hx hb dd_J_read_118 rfl (lv_at hl 4 rfl) ?_
                refine lv_dup hx hb dd_J_read_119 rfl ?_
                refine va_get (D := G) (ci := 1) (v := .int (nI (hp h))) (C := cn_H) (T := ft_H) (N := 5) hx hb hts uw_H hown hK hP (6 + h) (jh_at (by omega)) rfl 4 (by decide) (hts _ tw_70) (fun _ h9 => h9) rfl dd_J_read_120 ?_
                have hf_13 : hp h < 65 := (by assumption : jlt 65 hp) _
                refine lv_iload hx hb dd_J_read_123 (lv_at hl 2 rfl) ?_
                refine jl_iadd hx hb dd_J_read_125 ?_
                refine va_put (D := G) (ci := 1) (v := .int (nI ((hp h) + (min z ((jf_size s (hn h)) - (hp h)))))) (ty := .int) (C := cn_H) (T := ft_H) (N := 5) hx hb hts uw_H fy_H fo_H fn_H hown hK hP hD hS (6 + h) (jh_at (by omega)) rfl 4 (by decide) (hts _ tw_70) (fun _ h9 => h9) rfl (by decide +kernel) rfl rfl (Nat.le_of_ble_eq_true rfl) dd_J_read_126 (fun H locs hP hD hS => ?_)
                have hP : va_P G jcl ((wJ qJ qH qh cH qI qD qS qC cS cC s c ho hn hg hm hp wc wd tf).set (6 + h) (qh h, .inr (1, [.int (nI (ho h)), .int (nI (hn h)), .int (nI (hg h)), .int (nI (hm h)), .int (nI ((hp h) + (min z ((jf_size s (hn h)) - (hp h)))))]))) H := hP
                have hD : va_D A ((wJ qJ qH qh cH qI qD qS qC cS cC s c ho hn hg hm hp wc wd tf).set (6 + h) (qh h, .inr (1, [.int (nI (ho h)), .int (nI (hn h)), .int (nI (hg h)), .int (nI (hm h)), .int (nI ((hp h) + (min z ((jf_size s (hn h)) - (hp h)))))]))) := hD
                rw [jh_set (by omega)] at hP hD
                simp only [ju_same] at hP hD
                have hP : va_P G jcl (wJ qJ qH qh cH qI qD qS qC cS cC s c ho hn hg hm (ju hp h ((hp h) + (min z ((jf_size s (hn h)) - (hp h))))) wc wd tf) H := hP
                have hD : va_D A (wJ qJ qH qh cH qI qD qS qC cS cC s c ho hn hg hm (ju hp h ((hp h) + (min z ((jf_size s (hn h)) - (hp h))))) wc wd tf) := hD
                refine lv_lload hx hb dd_J_read_129 (lv_at hl 1 rfl) ?_
                exact jt_retl C ⟨by first | (simp [← ht, jf_rbL, jf_reaT, hx_2, hx_4, hx_5, c_8, c_12]; done), (by first | with_reducible rfl | (simp [← ht, jf_rbL, jf_reaT, hx_2, hx_4, hx_5, c_8, c_12]; done)), (by first | with_reducible rfl | (simp [← ht, jf_rbL, jf_reaT, hx_2, hx_4, hx_5, c_8, c_12]; done))⟩ hP hD hK hS ⟨Nat.le_of_ble_eq_true rfl, Nat.le_of_ble_eq_true rfl⟩ dd_J_read_131
              · skip
                exact absurd c_12 (by omega)
            | succ n ih =>
              intro b k hi  ht ls hl
              refine lv_iload hx hb dd_J_read_75 (lv_at hl 0 rfl) ?_
              refine lv_iload hx hb dd_J_read_77 (lv_at hl 2 rfl) ?_
              refine jl_ge (tgt := 118) hx hb (by omega) (by omega) dd_J_read_79 (by decide) (fun c_14 => ?_) (fun c_14 => ?_)
              · skip
                exact absurd c_14 (by omega)
              · skip
                refine lv_lload hx hb dd_J_read_82 (lv_at hl 1 rfl) ?_
                refine lv_aload_n hx hb dd_J_read_84 rfl (lv_at hl 5 rfl) ?_
                refine va_get (D := G) (ci := 3) (v := .ref qI) (C := cn_J) (T := ft_J) (N := 6) hx hb hts uw_J hown hK hP 4 rfl rfl 1 (by decide) (hts _ tw_108) (fun _ h9 => h9) rfl dd_J_read_85 ?_
                refine lv_aload_n hx hb dd_J_read_88 rfl (lv_at hl 4 rfl) ?_
                refine va_get (D := G) (ci := 1) (v := .int (nI (hn h))) (C := cn_H) (T := ft_H) (N := 5) hx hb hts uw_H hown hK hP (6 + h) (jh_at (by omega)) rfl 1 (by decide) (hts _ tw_67) (fun _ h9 => h9) rfl dd_J_read_89 ?_
                have hf_15 : hn h < 256 := (by assumption : jlt 256 hn) _
                refine lv_aload_n hx hb dd_J_read_92 rfl (lv_at hl 4 rfl) ?_
                refine va_get (D := G) (ci := 1) (v := .int (nI (hp h))) (C := cn_H) (T := ft_H) (N := 5) hx hb hts uw_H hown hK hP (6 + h) (jh_at (by omega)) rfl 4 (by decide) (hts _ tw_70) (fun _ h9 => h9) rfl dd_J_read_93 ?_
                have hf_16 : hp h < 65 := (by assumption : jlt 65 hp) _
                refine lv_iload hx hb dd_J_read_96 (lv_at hl 0 rfl) ?_
                refine jl_iadd hx hb dd_J_read_98 ?_
                refine jr_callV C (ct_I_byteOf l G qI qD qS qC cS cC s c (hn h) ((hp h) + k) (by omega) (by omega) (by first | assumption | (simp only [] ; assumption))) kl_J_141 ⟨Nat.le_of_ble_eq_true rfl, Nat.le_of_ble_eq_true rfl, rfl, rfl⟩ ⟨Nat.le_of_ble_eq_true rfl, Nat.le_of_ble_eq_true rfl⟩ (jw_left hP) (hK.sub [0, 1] rfl) (va_recv hK hP (ci := 2) (q0 := 3) rfl rfl) hl.1 rfl rfl (Nat.le_of_ble_eq_true rfl) dd_J_read_99 ?_
                have hf_17 : jf_byteOf s (hn h) ((hp h) + k) < 256 := jf_get_lt (by assumption) _
                refine jl_i2l hx hb (by omega) dd_J_read_102 ?_
                refine lv_bipush (v := nI 8) hx hb dd_J_read_103 (by decide) ?_
                refine lv_iload hx hb dd_J_read_105 (lv_at hl 0 rfl) ?_
                refine jl_imul hx hb dd_J_read_107 ?_
                refine jl_lshl hx hb (by omega) dd_J_read_108 ?_
                refine jl_lor hx hb (by omega) (jl_sh64 (by omega) _ (by omega)) dd_J_read_109 ?_
                have hf_18 : b ||| ((jf_byteOf s (hn h) ((hp h) + k)) * 2 ^ (8 * k)) < 18446744073709551616 := jl_or64 (by omega) (jl_sh64 (by omega) _ (by omega))
                refine lv_lstore (lv' := [(6, .long (lN (b ||| ((jf_byteOf s (hn h) ((hp h) + k)) * 2 ^ (8 * k))))), (8, .int (nI (k))), (5, .int (nI (min z ((jf_size s (hn h)) - (hp h))))), (4, .int (nI ((jf_size s (hn h)) - (hp h)))), (3, .ref (qh h)), (0, .ref qJ), (1, .int (nI (h))), (2, .int (nI (z)))]) hx hb dd_J_read_110 hl (by decide) rfl (fun ls hl => ?_)
                refine jl_iinc (lv' := [(8, .int (nI (k + 1))), (6, .long (lN (b ||| ((jf_byteOf s (hn h) ((hp h) + k)) * 2 ^ (8 * k))))), (5, .int (nI (min z ((jf_size s (hn h)) - (hp h))))), (4, .int (nI ((jf_size s (hn h)) - (hp h)))), (3, .ref (qh h)), (0, .ref qJ), (1, .int (nI (h))), (2, .int (nI (z)))]) hx hb dd_J_read_112 hl (k := 1) rfl (by decide) rfl (fun ls hl => ?_)
                refine lv_goto (tgt := 75) hx hb dd_J_read_115 (by decide) ?_
                exact ih (b ||| ((jf_byteOf s (hn h) ((hp h) + k)) * 2 ^ (8 * k))) (k + 1) (by omega) (by simpa [jf_rbL, hx_2, hx_4, hx_5, c_8, c_14] using ht) ls (lv_sub hl [0, 1, 2, 3, 4, 5, 6, 7] rfl)
          exact loop (min z (jf_size s (hn h) - hp h)) 0 0 (by omega) (rfl) ls (lv_sub hl [0, 1, 2, 3, 4, 5, 6, 7] rfl)
        · skip
          exact tt_ISES (is := 136) (text := "not a mode that reads") hl9 htb C hz (by decide +kernel) ⟨by first | (simp [jf_reaT, hx_2, hx_4, hx_5, c_8, jex]; done), by first | (simp [jf_reaT, hx_2, hx_4, hx_5, c_8, jex]; done), rfl⟩ hP hD hK hS hl.1 dd_J_read_29 dd_J_read_32 dd_J_read_33 dd_J_read_35 dd_J_read_38 ⟨Nat.le_of_ble_eq_true rfl, Nat.le_of_ble_eq_true rfl, Nat.le_of_ble_eq_true rfl, Nat.le_of_ble_eq_true rfl⟩ ⟨Nat.le_of_ble_eq_true rfl, Nat.le_of_ble_eq_true rfl⟩
set_option maxHeartbeats 4000000 in
set_option maxRecDepth 100000 in
theorem ct_J_remove (l : Launch) (hl9 : l.stackTraces = false) (G : va_G) (qJ qH : Nat) (qh : Nat → Nat) (cH : ClassId) (qI qD qS qC : Nat) (cS cC : ClassId) (s : Nat → Nat) (c : Nat → Nat) (ho : Nat → Nat) (hn : Nat → Nat) (hg : Nat → Nat) (hm : Nat → Nat) (hp : Nat → Nat) (wc : Nat) (wd : Nat) (tf : Nat) (u : Nat) (hu0 : u < 4294967296) (hs : jf_ok s) : jt l yn_J_remove (.code yn_J_remove cd_J_remove 3 none) { frames := 7, cells := 4, slots := 24, locals := 156 } G (tJ cS cC cH) (wJ qJ qH qh cH qI qD qS qC cS cC s c ho hn hg hm hp wc wd tf) [.ref qJ, .int (nI (u))] (fun o w => (jf_rmT s u) = 0 ∧ o = none ∧ w = (wJ qJ qH qh cH qI qD qS qC cS cC (jf_vacate (jf_dropEntry s ((jf_inodeAt s (u / 2 ^ 8)).getD 0) (u % 256)) ((jf_inodeAt s u).getD 0)) c ho hn hg hm hp wc wd tf)) (fun E w => ¬ (jf_rmT s u) = 0 ∧ E = jex (jf_rmT s u) ∧ w = (wJ qJ qH qh cH qI qD qS qC cS cC s c ho hn hg hm hp wc wd tf)) := by
  refine jt_of (by decide) (Nat.le_of_ble_eq_true rfl) ?_
  intro pr en σ mi bel met cd ls A hA C htb hz hP hK hD hS hl
  have hx := C.1
  have hb := C.2.1
  have hown := C.2.2.2.1
  have hts := C.2.2.2.2.1
  have hl : lv_has ls 3 [(0, .ref qJ), (1, .int (nI (u)))] := hl
  refine lv_iload_n hx hb dd_J_remove_0 rfl (lv_at hl 1 rfl) ?_
  refine jt_callS (wr := wJ qJ qH qh cH qI qD qS qC cS cC s c ho hn hg hm hp wc wd tf) C hz (ct_J_checkPath l hl9 G u (by omega)) kl_J_39 ⟨Nat.le_of_ble_eq_true rfl, Nat.le_of_ble_eq_true rfl⟩ ⟨Nat.le_of_ble_eq_true rfl, Nat.le_of_ble_eq_true rfl⟩ hP hD hS hA (hK.sub [] rfl) hl.1 rfl rfl (Nat.le_of_ble_eq_true rfl) dd_J_remove_1 (fun E w1 H1 locs1 q9 ce hxx hP hD hS g1 g2 g3 => ?_) (fun o w1 H locs hxx hP hD hS => ?_)
  · obtain ⟨hx_1, rfl, rfl⟩ := hxx
    exact jt_out htb C ⟨by first | (simp [jf_rmT, hx_1]; done), by first | (simp [jf_rmT, hx_1]; done), rfl⟩ hP hD hK hS ⟨Nat.le_of_ble_eq_true rfl, Nat.le_of_ble_eq_true rfl⟩ g1 g2 g3
  · obtain ⟨hx_1, rfl, rfl⟩ := hxx
    have hP : va_P G jcl (wJ qJ qH qh cH qI qD qS qC cS cC s c ho hn hg hm hp wc wd tf) H := hP
    have hD : va_D A (wJ qJ qH qh cH qI qD qS qC cS cC s c ho hn hg hm hp wc wd tf) := hD
    refine lv_aload_n hx hb dd_J_remove_4 rfl (lv_at hl 0 rfl) ?_
    refine lv_iload_n hx hb dd_J_remove_5 rfl (lv_at hl 1 rfl) ?_
    refine jt_callV (wr := []) C hz (ct_J_inodeNeeded l hl9 G qJ qH qh cH qI qD qS qC cS cC s c ho hn hg hm hp wc wd tf u (by omega) (by first | assumption | (simp only [] ; assumption))) kl_J_154 ⟨Nat.le_of_ble_eq_true rfl, Nat.le_of_ble_eq_true rfl⟩ ⟨Nat.le_of_ble_eq_true rfl, Nat.le_of_ble_eq_true rfl⟩ hP hD hS hA (hK) (va_recv hK hP (ci := 3) (q0 := 4) rfl rfl) hl.1 rfl rfl (Nat.le_of_ble_eq_true rfl) dd_J_remove_6 (fun E w1 H1 locs1 q9 ce hxx hP hD hS g1 g2 g3 => ?_) (fun o w1 H locs hxx hP hD hS => ?_)
    · obtain ⟨hx_3, rfl, rfl⟩ := hxx
      exact jt_out htb C ⟨by first | (simp [jf_rmT, hx_1, hx_3]; done), by first | (simp [jf_rmT, hx_1, hx_3]; done), rfl⟩ hP hD hK hS ⟨Nat.le_of_ble_eq_true rfl, Nat.le_of_ble_eq_true rfl⟩ g1 g2 g3
    · obtain ⟨hx_3, rfl, rfl⟩ := hxx
      have hP : va_P G jcl (wJ qJ qH qh cH qI qD qS qC cS cC s c ho hn hg hm hp wc wd tf) H := hP
      have hD : va_D A (wJ qJ qH qh cH qI qD qS qC cS cC s c ho hn hg hm hp wc wd tf) := hD
      have hf_2 : (jf_inodeAt s u).getD 0 < 256 := jf_getD_lt (by assumption) _
      refine lv_istore_n (lv' := [(2, .int (nI ((jf_inodeAt s u).getD 0))), (0, .ref qJ), (1, .int (nI (u)))]) hx hb dd_J_remove_9 rfl hl (by decide) rfl (fun ls hl => ?_)
      refine lv_iload_n hx hb dd_J_remove_10 rfl (lv_at hl 0 rfl) ?_
      refine jl_ifne (tgt := 24) hx hb (by omega) dd_J_remove_11 (by decide) (fun c_4 => ?_) (fun c_4 => ?_)
      · skip
        refine lv_aload_n hx hb dd_J_remove_24 rfl (lv_at hl 1 rfl) ?_
        refine va_get (D := G) (ci := 3) (v := .ref qI) (C := cn_J) (T := ft_J) (N := 6) hx hb hts uw_J hown hK hP 4 rfl rfl 1 (by decide) (hts _ tw_108) (fun _ h9 => h9) rfl dd_J_remove_25 ?_
        refine lv_iload_n hx hb dd_J_remove_28 rfl (lv_at hl 0 rfl) ?_
        refine jr_callV C (ct_I_entries l G qI qD qS qC cS cC s c ((jf_inodeAt s u).getD 0) (by omega) (by first | assumption | (simp only [] ; assumption))) kl_J_148 ⟨Nat.le_of_ble_eq_true rfl, Nat.le_of_ble_eq_true rfl, rfl, rfl⟩ ⟨Nat.le_of_ble_eq_true rfl, Nat.le_of_ble_eq_true rfl⟩ (jw_left hP) (hK.sub [0, 1] rfl) (va_recv hK hP (ci := 2) (q0 := 3) rfl rfl) hl.1 rfl rfl (Nat.le_of_ble_eq_true rfl) dd_J_remove_29 ?_
        have hf_5 : jf_entries s ((jf_inodeAt s u).getD 0) < 128 := jf_entries_lt (by assumption) _
        refine jl_ifle (tgt := 45) hx hb (by omega) dd_J_remove_32 (by decide) (fun c_6 => ?_) (fun c_6 => ?_)
        · skip
          refine lv_aload_n hx hb dd_J_remove_45 rfl (lv_at hl 1 rfl) ?_
          refine va_get (D := G) (ci := 3) (v := .ref qI) (C := cn_J) (T := ft_J) (N := 6) hx hb hts uw_J hown hK hP 4 rfl rfl 1 (by decide) (hts _ tw_108) (fun _ h9 => h9) rfl dd_J_remove_46 ?_
          refine lv_aload_n hx hb dd_J_remove_49 rfl (lv_at hl 1 rfl) ?_
          refine lv_iload_n hx hb dd_J_remove_50 rfl (lv_at hl 2 rfl) ?_
          refine jr_callS0 C (ct_J_parentPath l G u (by omega)) kl_J_161 ⟨Nat.le_of_ble_eq_true rfl, Nat.le_of_ble_eq_true rfl, rfl, rfl⟩ ⟨Nat.le_of_ble_eq_true rfl, Nat.le_of_ble_eq_true rfl⟩ hK hl.1 rfl rfl (Nat.le_of_ble_eq_true rfl) dd_J_remove_51 ?_
          refine jr_callV C (ct_J_inodeAt l G qJ qH qh cH qI qD qS qC cS cC s c ho hn hg hm hp wc wd tf (u / 2 ^ 8) (by omega) (by first | assumption | (simp only [] ; assumption))) kl_J_43 ⟨Nat.le_of_ble_eq_true rfl, Nat.le_of_ble_eq_true rfl, rfl, rfl⟩ ⟨Nat.le_of_ble_eq_true rfl, Nat.le_of_ble_eq_true rfl⟩ (hP) (hK) (va_recv hK hP (ci := 3) (q0 := 4) rfl rfl) hl.1 rfl rfl (Nat.le_of_ble_eq_true rfl) dd_J_remove_54 ?_
          refine jl_top (jf_inT_pa (by omega) (by assumption)) ?_
          have hf_7 : ((jf_inodeAt s (u / 2 ^ 8)).getD 0) < 256 := jf_getD_lt (by assumption) _
          refine lv_iload_n hx hb dd_J_remove_57 rfl (lv_at hl 2 rfl) ?_
          refine lv_sipush (v := nI 255) hx hb dd_J_remove_58 (by decide) ?_
          refine jl_and255 hx hb (by omega) dd_J_remove_61 ?_
          refine jm_callV (wr := [(qJ, .inr (3, [.ref qD, .ref qI, .ref qH, .int (nI wc), .int (nI wd), .int (nI tf)])), (qH, .inl (cH, 6, .inr (.inr (.inr (.inr (fun k => some (qh k))))))), jh qh ho hn hg hm hp 0, jh qh ho hn hg hm hp 1, jh qh ho hn hg hm hp 2, jh qh ho hn hg hm hp 3, jh qh ho hn hg hm hp 4, jh qh ho hn hg hm hp 5]) C (ct_I_dropEntry l G qI qD qS qC cS cC s c ((jf_inodeAt s (u / 2 ^ 8)).getD 0) (u % 256) (by omega) (by omega) (by first | assumption | (simp only [] ; assumption))) kl_J_164 ⟨Nat.le_of_ble_eq_true rfl, Nat.le_of_ble_eq_true rfl⟩ ⟨Nat.le_of_ble_eq_true rfl, Nat.le_of_ble_eq_true rfl⟩ hP hD hS hA (hK.sub [0, 1] rfl) (va_recv hK hP (ci := 2) (q0 := 3) rfl rfl) hl.1 rfl rfl (Nat.le_of_ble_eq_true rfl) dd_J_remove_62 (fun H locs hP hD hS => ?_)
          have hP : va_P G jcl (wJ qJ qH qh cH qI qD qS qC cS cC (jf_dropEntry s ((jf_inodeAt s (u / 2 ^ 8)).getD 0) (u % 256)) c ho hn hg hm hp wc wd tf) H := hP
          have hD : va_D A (wJ qJ qH qh cH qI qD qS qC cS cC (jf_dropEntry s ((jf_inodeAt s (u / 2 ^ 8)).getD 0) (u % 256)) c ho hn hg hm hp wc wd tf) := hD
          have hf_8 : jf_ok (jf_dropEntry s ((jf_inodeAt s (u / 2 ^ 8)).getD 0) (u % 256)) := jf_dropEntry_ok (by assumption) _ _
          refine lv_aload_n hx hb dd_J_remove_65 rfl (lv_at hl 1 rfl) ?_
          refine va_get (D := G) (ci := 3) (v := .ref qI) (C := cn_J) (T := ft_J) (N := 6) hx hb hts uw_J hown hK hP 4 rfl rfl 1 (by decide) (hts _ tw_108) (fun _ h9 => h9) rfl dd_J_remove_66 ?_
          refine lv_iload_n hx hb dd_J_remove_69 rfl (lv_at hl 0 rfl) ?_
          refine jm_callV (wr := [(qJ, .inr (3, [.ref qD, .ref qI, .ref qH, .int (nI wc), .int (nI wd), .int (nI tf)])), (qH, .inl (cH, 6, .inr (.inr (.inr (.inr (fun k => some (qh k))))))), jh qh ho hn hg hm hp 0, jh qh ho hn hg hm hp 1, jh qh ho hn hg hm hp 2, jh qh ho hn hg hm hp 3, jh qh ho hn hg hm hp 4, jh qh ho hn hg hm hp 5]) C (ct_I_vacate l G qI qD qS qC cS cC (jf_dropEntry s ((jf_inodeAt s (u / 2 ^ 8)).getD 0) (u % 256)) c ((jf_inodeAt s u).getD 0) (by omega) (by first | assumption | (simp only [] ; assumption))) kl_J_167 ⟨Nat.le_of_ble_eq_true rfl, Nat.le_of_ble_eq_true rfl⟩ ⟨Nat.le_of_ble_eq_true rfl, Nat.le_of_ble_eq_true rfl⟩ hP hD hS hA (hK.sub [0, 1] rfl) (va_recv hK hP (ci := 2) (q0 := 3) rfl rfl) hl.1 rfl rfl (Nat.le_of_ble_eq_true rfl) dd_J_remove_70 (fun H locs hP hD hS => ?_)
          have hP : va_P G jcl (wJ qJ qH qh cH qI qD qS qC cS cC (jf_vacate (jf_dropEntry s ((jf_inodeAt s (u / 2 ^ 8)).getD 0) (u % 256)) ((jf_inodeAt s u).getD 0)) c ho hn hg hm hp wc wd tf) H := hP
          have hD : va_D A (wJ qJ qH qh cH qI qD qS qC cS cC (jf_vacate (jf_dropEntry s ((jf_inodeAt s (u / 2 ^ 8)).getD 0) (u % 256)) ((jf_inodeAt s u).getD 0)) c ho hn hg hm hp wc wd tf) := hD
          have hf_9 : jf_ok (jf_vacate (jf_dropEntry s ((jf_inodeAt s (u / 2 ^ 8)).getD 0) (u % 256)) ((jf_inodeAt s u).getD 0)) := jf_vacate_ok (by assumption) _
          exact jt_retv C ⟨by first | (simp [jf_rmT, hx_1, hx_3, c_4, c_6]; done), rfl, rfl⟩ hP hD hK hS ⟨Nat.le_of_ble_eq_true rfl, Nat.le_of_ble_eq_true rfl⟩ dd_J_remove_73
        · skip
          exact tt_ISES (is := 159) (text := "not empty") hl9 htb C hz (by decide +kernel) ⟨by first | (simp [jf_rmT, hx_1, hx_3, c_4, c_6, jex]; done), by first | (simp [jf_rmT, hx_1, hx_3, c_4, c_6, jex]; done), rfl⟩ hP hD hK hS hl.1 dd_J_remove_35 dd_J_remove_38 dd_J_remove_39 dd_J_remove_41 dd_J_remove_44 ⟨Nat.le_of_ble_eq_true rfl, Nat.le_of_ble_eq_true rfl, Nat.le_of_ble_eq_true rfl, Nat.le_of_ble_eq_true rfl⟩ ⟨Nat.le_of_ble_eq_true rfl, Nat.le_of_ble_eq_true rfl⟩
      · skip
        exact tt_ISES (is := 157) (text := "the root") hl9 htb C hz (by decide +kernel) ⟨by first | (simp [jf_rmT, hx_1, hx_3, c_4, jex]; done), by first | (simp [jf_rmT, hx_1, hx_3, c_4, jex]; done), rfl⟩ hP hD hK hS hl.1 dd_J_remove_14 dd_J_remove_17 dd_J_remove_18 dd_J_remove_20 dd_J_remove_23 ⟨Nat.le_of_ble_eq_true rfl, Nat.le_of_ble_eq_true rfl, Nat.le_of_ble_eq_true rfl, Nat.le_of_ble_eq_true rfl⟩ ⟨Nat.le_of_ble_eq_true rfl, Nat.le_of_ble_eq_true rfl⟩
set_option maxHeartbeats 4000000 in
set_option maxRecDepth 100000 in
theorem ct_J_rename (l : Launch) (hl9 : l.stackTraces = false) (G : va_G) (qJ qH : Nat) (qh : Nat → Nat) (cH : ClassId) (qI qD qS qC : Nat) (cS cC : ClassId) (s : Nat → Nat) (c : Nat → Nat) (ho : Nat → Nat) (hn : Nat → Nat) (hg : Nat → Nat) (hm : Nat → Nat) (hp : Nat → Nat) (wc : Nat) (wd : Nat) (tf : Nat) (u : Nat) (v : Nat) (hu0 : u < 4294967296) (hv0 : v < 4294967296) (hs : jf_ok s) (hq : jf_entries (jf_dropEntry s ((jf_inodeAt s (u / 2 ^ 8)).getD 0) (u % 256)) ((jf_inodeAt s (v / 2 ^ 8)).getD 0) < 127) : jt l yn_J_rename (.code yn_J_rename cd_J_rename 7 none) { frames := 7, cells := 7, slots := 42, locals := 156 } G (tJ cS cC cH) (wJ qJ qH qh cH qI qD qS qC cS cC s c ho hn hg hm hp wc wd tf) [.ref qJ, .int (nI (u)), .int (nI (v))] (fun o w => (jf_rnmT s u v) = 0 ∧ o = none ∧ w = (wJ qJ qH qh cH qI qD qS qC cS cC (jf_rnmS s u v) c ho hn hg hm hp wc wd tf)) (fun E w => ¬ (jf_rnmT s u v) = 0 ∧ E = jex (jf_rnmT s u v) ∧ w = (wJ qJ qH qh cH qI qD qS qC cS cC s c ho hn hg hm hp wc wd tf)) := by
  refine jt_of (by decide) (Nat.le_of_ble_eq_true rfl) ?_
  intro pr en σ mi bel met cd ls A hA C htb hz hP hK hD hS hl
  have hx := C.1
  have hb := C.2.1
  have hown := C.2.2.2.1
  have hts := C.2.2.2.2.1
  have hl : lv_has ls 7 [(0, .ref qJ), (1, .int (nI (u))), (2, .int (nI (v)))] := hl
  refine lv_iload_n hx hb dd_J_rename_0 rfl (lv_at hl 1 rfl) ?_
  refine jt_callS (wr := wJ qJ qH qh cH qI qD qS qC cS cC s c ho hn hg hm hp wc wd tf) C hz (ct_J_checkPath l hl9 G u (by omega)) kl_J_39 ⟨Nat.le_of_ble_eq_true rfl, Nat.le_of_ble_eq_true rfl⟩ ⟨Nat.le_of_ble_eq_true rfl, Nat.le_of_ble_eq_true rfl⟩ hP hD hS hA (hK.sub [] rfl) hl.1 rfl rfl (Nat.le_of_ble_eq_true rfl) dd_J_rename_1 (fun E w1 H1 locs1 q9 ce hxx hP hD hS g1 g2 g3 => ?_) (fun o w1 H locs hxx hP hD hS => ?_)
  · obtain ⟨hx_1, rfl, rfl⟩ := hxx
    exact jt_out htb C ⟨by first | (simp [jf_rnmT, jf_rnmS, hx_1]; done), by first | (simp [jf_rnmT, jf_rnmS, hx_1]; done), rfl⟩ hP hD hK hS ⟨Nat.le_of_ble_eq_true rfl, Nat.le_of_ble_eq_true rfl⟩ g1 g2 g3
  · obtain ⟨hx_1, rfl, rfl⟩ := hxx
    have hP : va_P G jcl (wJ qJ qH qh cH qI qD qS qC cS cC s c ho hn hg hm hp wc wd tf) H := hP
    have hD : va_D A (wJ qJ qH qh cH qI qD qS qC cS cC s c ho hn hg hm hp wc wd tf) := hD
    refine lv_iload_n hx hb dd_J_rename_4 rfl (lv_at hl 2 rfl) ?_
    refine jt_callS (wr := wJ qJ qH qh cH qI qD qS qC cS cC s c ho hn hg hm hp wc wd tf) C hz (ct_J_checkPath l hl9 G v (by omega)) kl_J_39 ⟨Nat.le_of_ble_eq_true rfl, Nat.le_of_ble_eq_true rfl⟩ ⟨Nat.le_of_ble_eq_true rfl, Nat.le_of_ble_eq_true rfl⟩ hP hD hS hA (hK.sub [] rfl) hl.1 rfl rfl (Nat.le_of_ble_eq_true rfl) dd_J_rename_5 (fun E w1 H1 locs1 q9 ce hxx hP hD hS g1 g2 g3 => ?_) (fun o w1 H locs hxx hP hD hS => ?_)
    · obtain ⟨hx_2, rfl, rfl⟩ := hxx
      exact jt_out htb C ⟨by first | (simp [jf_rnmT, jf_rnmS, hx_1, hx_2]; done), by first | (simp [jf_rnmT, jf_rnmS, hx_1, hx_2]; done), rfl⟩ hP hD hK hS ⟨Nat.le_of_ble_eq_true rfl, Nat.le_of_ble_eq_true rfl⟩ g1 g2 g3
    · obtain ⟨hx_2, rfl, rfl⟩ := hxx
      have hP : va_P G jcl (wJ qJ qH qh cH qI qD qS qC cS cC s c ho hn hg hm hp wc wd tf) H := hP
      have hD : va_D A (wJ qJ qH qh cH qI qD qS qC cS cC s c ho hn hg hm hp wc wd tf) := hD
      refine lv_aload_n hx hb dd_J_rename_8 rfl (lv_at hl 0 rfl) ?_
      refine lv_iload_n hx hb dd_J_rename_9 rfl (lv_at hl 1 rfl) ?_
      refine jt_callV (wr := []) C hz (ct_J_inodeNeeded l hl9 G qJ qH qh cH qI qD qS qC cS cC s c ho hn hg hm hp wc wd tf u (by omega) (by first | assumption | (simp only [] ; assumption))) kl_J_154 ⟨Nat.le_of_ble_eq_true rfl, Nat.le_of_ble_eq_true rfl⟩ ⟨Nat.le_of_ble_eq_true rfl, Nat.le_of_ble_eq_true rfl⟩ hP hD hS hA (hK) (va_recv hK hP (ci := 3) (q0 := 4) rfl rfl) hl.1 rfl rfl (Nat.le_of_ble_eq_true rfl) dd_J_rename_10 (fun E w1 H1 locs1 q9 ce hxx hP hD hS g1 g2 g3 => ?_) (fun o w1 H locs hxx hP hD hS => ?_)
      · obtain ⟨hx_4, rfl, rfl⟩ := hxx
        exact jt_out htb C ⟨by first | (simp [jf_rnmT, jf_rnmS, hx_1, hx_2, hx_4]; done), by first | (simp [jf_rnmT, jf_rnmS, hx_1, hx_2, hx_4]; done), rfl⟩ hP hD hK hS ⟨Nat.le_of_ble_eq_true rfl, Nat.le_of_ble_eq_true rfl⟩ g1 g2 g3
      · obtain ⟨hx_4, rfl, rfl⟩ := hxx
        have hP : va_P G jcl (wJ qJ qH qh cH qI qD qS qC cS cC s c ho hn hg hm hp wc wd tf) H := hP
        have hD : va_D A (wJ qJ qH qh cH qI qD qS qC cS cC s c ho hn hg hm hp wc wd tf) := hD
        have hf_3 : (jf_inodeAt s u).getD 0 < 256 := jf_getD_lt (by assumption) _
        refine lv_istore_n (lv' := [(3, .int (nI ((jf_inodeAt s u).getD 0))), (0, .ref qJ), (1, .int (nI (u))), (2, .int (nI (v)))]) hx hb dd_J_rename_13 rfl hl (by decide) rfl (fun ls hl => ?_)
        refine lv_aload_n hx hb dd_J_rename_14 rfl (lv_at hl 1 rfl) ?_
        refine lv_iload_n hx hb dd_J_rename_15 rfl (lv_at hl 3 rfl) ?_
        refine jr_callV C (ct_J_inodeAt l G qJ qH qh cH qI qD qS qC cS cC s c ho hn hg hm hp wc wd tf v (by omega) (by first | assumption | (simp only [] ; assumption))) kl_J_43 ⟨Nat.le_of_ble_eq_true rfl, Nat.le_of_ble_eq_true rfl, rfl, rfl⟩ ⟨Nat.le_of_ble_eq_true rfl, Nat.le_of_ble_eq_true rfl⟩ (hP) (hK) (va_recv hK hP (ci := 3) (q0 := 4) rfl rfl) hl.1 rfl rfl (Nat.le_of_ble_eq_true rfl) dd_J_rename_16 ?_
        refine lv_istore (lv' := [(4, .int (jo (jf_inodeAt s v))), (3, .int (nI ((jf_inodeAt s u).getD 0))), (0, .ref qJ), (1, .int (nI (u))), (2, .int (nI (v)))]) hx hb dd_J_rename_19 hl (by decide) rfl (fun ls hl => ?_)
        refine lv_aload_n hx hb dd_J_rename_21 rfl (lv_at hl 2 rfl) ?_
        refine lv_iload_n hx hb dd_J_rename_22 rfl (lv_at hl 4 rfl) ?_
        refine jt_callV (wr := []) C hz (ct_J_parentNeeded l hl9 G qJ qH qh cH qI qD qS qC cS cC s c ho hn hg hm hp wc wd tf v (by omega) (by first | assumption | (simp only [] ; assumption))) kl_J_54 ⟨Nat.le_of_ble_eq_true rfl, Nat.le_of_ble_eq_true rfl⟩ ⟨Nat.le_of_ble_eq_true rfl, Nat.le_of_ble_eq_true rfl⟩ hP hD hS hA (hK) (va_recv hK hP (ci := 3) (q0 := 4) rfl rfl) hl.1 rfl rfl (Nat.le_of_ble_eq_true rfl) dd_J_rename_23 (fun E w1 H1 locs1 q9 ce hxx hP hD hS g1 g2 g3 => ?_) (fun o w1 H locs hxx hP hD hS => ?_)
        · obtain ⟨hx_7, rfl, rfl⟩ := hxx
          exact jt_out htb C ⟨by first | (simp [jf_rnmT, jf_rnmS, hx_1, hx_2, hx_4, hx_7]; done), by first | (simp [jf_rnmT, jf_rnmS, hx_1, hx_2, hx_4, hx_7]; done), rfl⟩ hP hD hK hS ⟨Nat.le_of_ble_eq_true rfl, Nat.le_of_ble_eq_true rfl⟩ g1 g2 g3
        · obtain ⟨hx_7, rfl, rfl⟩ := hxx
          have hP : va_P G jcl (wJ qJ qH qh cH qI qD qS qC cS cC s c ho hn hg hm hp wc wd tf) H := hP
          have hD : va_D A (wJ qJ qH qh cH qI qD qS qC cS cC s c ho hn hg hm hp wc wd tf) := hD
          have hf_5 : (jf_inodeAt s (v / 2 ^ 8)).getD 0 < 256 := jf_getD_lt (by assumption) _
          have hf_6 : jf_kind s ((jf_inodeAt s (v / 2 ^ 8)).getD 0) = 2 := jf_paT_0 hx_7
          refine lv_istore (lv' := [(5, .int (nI ((jf_inodeAt s (v / 2 ^ 8)).getD 0))), (4, .int (jo (jf_inodeAt s v))), (3, .int (nI ((jf_inodeAt s u).getD 0))), (0, .ref qJ), (1, .int (nI (u))), (2, .int (nI (v)))]) hx hb dd_J_rename_26 hl (by decide) rfl (fun ls hl => ?_)
          refine lv_aload_n hx hb dd_J_rename_28 rfl (lv_at hl 3 rfl) ?_
          refine lv_iload_n hx hb dd_J_rename_29 rfl (lv_at hl 4 rfl) ?_
          refine lv_iload_n hx hb dd_J_rename_30 rfl (lv_at hl 5 rfl) ?_
          refine lv_iload_n hx hb dd_J_rename_31 rfl (lv_at hl 2 rfl) ?_
          refine lv_iload hx hb dd_J_rename_32 (lv_at hl 1 rfl) ?_
          refine jt_callV (wr := []) C hz (ct_J_checkMove l hl9 G qJ qH qh cH qI qD qS qC cS cC s c ho hn hg hm hp wc wd tf u v ((jf_inodeAt s u).getD 0) (jf_inodeAt s v) (by omega) (by omega) (by omega) (fun j h => jf_inodeAt_lt (by assumption) h) (by first | assumption | (simp only [] ; assumption))) kl_J_170 ⟨Nat.le_of_ble_eq_true rfl, Nat.le_of_ble_eq_true rfl⟩ ⟨Nat.le_of_ble_eq_true rfl, Nat.le_of_ble_eq_true rfl⟩ hP hD hS hA (hK) (va_recv hK hP (ci := 3) (q0 := 4) rfl rfl) hl.1 rfl rfl (Nat.le_of_ble_eq_true rfl) dd_J_rename_34 (fun E w1 H1 locs1 q9 ce hxx hP hD hS g1 g2 g3 => ?_) (fun o w1 H locs hxx hP hD hS => ?_)
          · obtain ⟨hx_9, rfl, rfl⟩ := hxx
            exact jt_out htb C ⟨by first | (simp [jf_rnmT, jf_rnmS, hx_1, hx_2, hx_4, hx_7, hx_9]; done), by first | (simp [jf_rnmT, jf_rnmS, hx_1, hx_2, hx_4, hx_7, hx_9]; done), rfl⟩ hP hD hK hS ⟨Nat.le_of_ble_eq_true rfl, Nat.le_of_ble_eq_true rfl⟩ g1 g2 g3
          · obtain ⟨hx_9, rfl, rfl⟩ := hxx
            have hP : va_P G jcl (wJ qJ qH qh cH qI qD qS qC cS cC s c ho hn hg hm hp wc wd tf) H := hP
            have hD : va_D A (wJ qJ qH qh cH qI qD qS qC cS cC s c ho hn hg hm hp wc wd tf) := hD
            have hf_8 : ¬ u = 0 := jf_mvT_0 hx_9
            refine lv_aload_n hx hb dd_J_rename_37 rfl (lv_at hl 3 rfl) ?_
            refine lv_iload_n hx hb dd_J_rename_38 rfl (lv_at hl 4 rfl) ?_
            refine jr_callS0 C (ct_J_parentPath l G u (by omega)) kl_J_161 ⟨Nat.le_of_ble_eq_true rfl, Nat.le_of_ble_eq_true rfl, rfl, rfl⟩ ⟨Nat.le_of_ble_eq_true rfl, Nat.le_of_ble_eq_true rfl⟩ hK hl.1 rfl rfl (Nat.le_of_ble_eq_true rfl) dd_J_rename_39 ?_
            refine jr_callV C (ct_J_inodeAt l G qJ qH qh cH qI qD qS qC cS cC s c ho hn hg hm hp wc wd tf (u / 2 ^ 8) (by omega) (by first | assumption | (simp only [] ; assumption))) kl_J_43 ⟨Nat.le_of_ble_eq_true rfl, Nat.le_of_ble_eq_true rfl, rfl, rfl⟩ ⟨Nat.le_of_ble_eq_true rfl, Nat.le_of_ble_eq_true rfl⟩ (hP) (hK) (va_recv hK hP (ci := 3) (q0 := 4) rfl rfl) hl.1 rfl rfl (Nat.le_of_ble_eq_true rfl) dd_J_rename_42 ?_
            refine jl_top (jf_inT_pa (by omega) (by assumption)) ?_
            have hf_10 : ((jf_inodeAt s (u / 2 ^ 8)).getD 0) < 256 := jf_getD_lt (by assumption) _
            have hf_11 : 1 ≤ jf_entries s ((jf_inodeAt s (u / 2 ^ 8)).getD 0) := jf_inT_entry (by omega) (by assumption) (by assumption) (by assumption)
            refine lv_istore (lv' := [(6, .int (nI (((jf_inodeAt s (u / 2 ^ 8)).getD 0)))), (5, .int (nI ((jf_inodeAt s (v / 2 ^ 8)).getD 0))), (4, .int (jo (jf_inodeAt s v))), (3, .int (nI ((jf_inodeAt s u).getD 0))), (0, .ref qJ), (1, .int (nI (u))), (2, .int (nI (v)))]) hx hb dd_J_rename_45 hl (by decide) rfl (fun ls hl => ?_)
            refine lv_iload hx hb dd_J_rename_47 (lv_at hl 2 rfl) ?_
            refine lv_iconst (v := -1) hx hb dd_J_rename_49 (by decide) ?_
            refine jl_neO (tgt := 74) hx hb (fun j h => Nat.lt_of_lt_of_le (jf_inodeAt_lt (by assumption) h) (by omega)) dd_J_rename_50 (by decide) (fun j_13 hj_13 => ?_) (fun hj_13 => ?_)
            · skip
              have ho_14 := jf_inodeAt_lt (by assumption) hj_13
              have hl : lv_has ls 7 [(6, .int (nI (((jf_inodeAt s (u / 2 ^ 8)).getD 0)))), (5, .int (nI ((jf_inodeAt s (v / 2 ^ 8)).getD 0))), (4, .int (nI (j_13))), (3, .int (nI ((jf_inodeAt s u).getD 0))), (0, .ref qJ), (1, .int (nI (u))), (2, .int (nI (v)))] := by rw [hj_13] at hl; exact hl
              have hy_15 := hx_9
              rw [hj_13] at hy_15
              refine lv_aload_n hx hb dd_J_rename_74 rfl (lv_at hl 4 rfl) ?_
              refine va_get (D := G) (ci := 3) (v := .ref qI) (C := cn_J) (T := ft_J) (N := 6) hx hb hts uw_J hown hK hP 4 rfl rfl 1 (by decide) (hts _ tw_108) (fun _ h9 => h9) rfl dd_J_rename_75 ?_
              refine lv_iload hx hb dd_J_rename_78 (lv_at hl 0 rfl) ?_
              refine lv_iload_n hx hb dd_J_rename_80 rfl (lv_at hl 5 rfl) ?_
              refine lv_sipush (v := nI 255) hx hb dd_J_rename_81 (by decide) ?_
              refine jl_and255 hx hb (by omega) dd_J_rename_84 ?_
              refine jm_callV (wr := [(qJ, .inr (3, [.ref qD, .ref qI, .ref qH, .int (nI wc), .int (nI wd), .int (nI tf)])), (qH, .inl (cH, 6, .inr (.inr (.inr (.inr (fun k => some (qh k))))))), jh qh ho hn hg hm hp 0, jh qh ho hn hg hm hp 1, jh qh ho hn hg hm hp 2, jh qh ho hn hg hm hp 3, jh qh ho hn hg hm hp 4, jh qh ho hn hg hm hp 5]) C (ct_I_dropEntry l G qI qD qS qC cS cC s c ((jf_inodeAt s (u / 2 ^ 8)).getD 0) (u % 256) (by omega) (by omega) (by first | assumption | (simp only [] ; assumption))) kl_J_164 ⟨Nat.le_of_ble_eq_true rfl, Nat.le_of_ble_eq_true rfl⟩ ⟨Nat.le_of_ble_eq_true rfl, Nat.le_of_ble_eq_true rfl⟩ hP hD hS hA (hK.sub [0, 1] rfl) (va_recv hK hP (ci := 2) (q0 := 3) rfl rfl) hl.1 rfl rfl (Nat.le_of_ble_eq_true rfl) dd_J_rename_85 (fun H locs hP hD hS => ?_)
              have hP : va_P G jcl (wJ qJ qH qh cH qI qD qS qC cS cC (jf_dropEntry s ((jf_inodeAt s (u / 2 ^ 8)).getD 0) (u % 256)) c ho hn hg hm hp wc wd tf) H := hP
              have hD : va_D A (wJ qJ qH qh cH qI qD qS qC cS cC (jf_dropEntry s ((jf_inodeAt s (u / 2 ^ 8)).getD 0) (u % 256)) c ho hn hg hm hp wc wd tf) := hD
              have hf_16 : jf_ok (jf_dropEntry s ((jf_inodeAt s (u / 2 ^ 8)).getD 0) (u % 256)) := jf_dropEntry_ok (by assumption) _ _
              refine lv_iload hx hb dd_J_rename_88 (lv_at hl 2 rfl) ?_
              refine lv_iconst (v := -1) hx hb dd_J_rename_90 (by decide) ?_
              refine lv_icmp_ne (tgt := 112) hx hb dd_J_rename_91 (by decide) (fun _ => ?_) (fun h => absurd h (jo_ne (by omega)))
              refine lv_aload_n hx hb dd_J_rename_112 rfl (lv_at hl 4 rfl) ?_
              refine va_get (D := G) (ci := 3) (v := .ref qI) (C := cn_J) (T := ft_J) (N := 6) hx hb hts uw_J hown hK hP 4 rfl rfl 1 (by decide) (hts _ tw_108) (fun _ h9 => h9) rfl dd_J_rename_113 ?_
              refine lv_iload hx hb dd_J_rename_116 (lv_at hl 1 rfl) ?_
              refine lv_iload_n hx hb dd_J_rename_118 rfl (lv_at hl 6 rfl) ?_
              refine lv_sipush (v := nI 255) hx hb dd_J_rename_119 (by decide) ?_
              refine jl_and255 hx hb (by omega) dd_J_rename_122 ?_
              refine lv_iload_n hx hb dd_J_rename_123 rfl (lv_at hl 3 rfl) ?_
              refine jm_callV (wr := [(qJ, .inr (3, [.ref qD, .ref qI, .ref qH, .int (nI wc), .int (nI wd), .int (nI tf)])), (qH, .inl (cH, 6, .inr (.inr (.inr (.inr (fun k => some (qh k))))))), jh qh ho hn hg hm hp 0, jh qh ho hn hg hm hp 1, jh qh ho hn hg hm hp 2, jh qh ho hn hg hm hp 3, jh qh ho hn hg hm hp 4, jh qh ho hn hg hm hp 5]) C (ct_I_redirectEntry l G qI qD qS qC cS cC (jf_dropEntry s ((jf_inodeAt s (u / 2 ^ 8)).getD 0) (u % 256)) c ((jf_inodeAt s (v / 2 ^ 8)).getD 0) (v % 256) ((jf_inodeAt s u).getD 0) (by omega) (by omega) (by omega) (by first | assumption | (simp only [] ; assumption))) kl_J_186 ⟨Nat.le_of_ble_eq_true rfl, Nat.le_of_ble_eq_true rfl⟩ ⟨Nat.le_of_ble_eq_true rfl, Nat.le_of_ble_eq_true rfl⟩ hP hD hS hA (hK.sub [0, 1] rfl) (va_recv hK hP (ci := 2) (q0 := 3) rfl rfl) hl.1 rfl rfl (Nat.le_of_ble_eq_true rfl) dd_J_rename_124 (fun H locs hP hD hS => ?_)
              have hP : va_P G jcl (wJ qJ qH qh cH qI qD qS qC cS cC (jf_redirect (jf_dropEntry s ((jf_inodeAt s (u / 2 ^ 8)).getD 0) (u % 256)) ((jf_inodeAt s (v / 2 ^ 8)).getD 0) (v % 256) ((jf_inodeAt s u).getD 0)) c ho hn hg hm hp wc wd tf) H := hP
              have hD : va_D A (wJ qJ qH qh cH qI qD qS qC cS cC (jf_redirect (jf_dropEntry s ((jf_inodeAt s (u / 2 ^ 8)).getD 0) (u % 256)) ((jf_inodeAt s (v / 2 ^ 8)).getD 0) (v % 256) ((jf_inodeAt s u).getD 0)) c ho hn hg hm hp wc wd tf) := hD
              have hf_18 : jf_ok (jf_redirect (jf_dropEntry s ((jf_inodeAt s (u / 2 ^ 8)).getD 0) (u % 256)) ((jf_inodeAt s (v / 2 ^ 8)).getD 0) (v % 256) ((jf_inodeAt s u).getD 0)) := jf_redirect_ok (by assumption) _ (by omega) (by omega)
              refine lv_aload_n hx hb dd_J_rename_127 rfl (lv_at hl 4 rfl) ?_
              refine va_get (D := G) (ci := 3) (v := .ref qI) (C := cn_J) (T := ft_J) (N := 6) hx hb hts uw_J hown hK hP 4 rfl rfl 1 (by decide) (hts _ tw_108) (fun _ h9 => h9) rfl dd_J_rename_128 ?_
              refine lv_iload hx hb dd_J_rename_131 (lv_at hl 2 rfl) ?_
              refine jm_callV (wr := [(qJ, .inr (3, [.ref qD, .ref qI, .ref qH, .int (nI wc), .int (nI wd), .int (nI tf)])), (qH, .inl (cH, 6, .inr (.inr (.inr (.inr (fun k => some (qh k))))))), jh qh ho hn hg hm hp 0, jh qh ho hn hg hm hp 1, jh qh ho hn hg hm hp 2, jh qh ho hn hg hm hp 3, jh qh ho hn hg hm hp 4, jh qh ho hn hg hm hp 5]) C (ct_I_vacate l G qI qD qS qC cS cC (jf_redirect (jf_dropEntry s ((jf_inodeAt s (u / 2 ^ 8)).getD 0) (u % 256)) ((jf_inodeAt s (v / 2 ^ 8)).getD 0) (v % 256) ((jf_inodeAt s u).getD 0)) c j_13 (by omega) (by first | assumption | (simp only [] ; assumption))) kl_J_167 ⟨Nat.le_of_ble_eq_true rfl, Nat.le_of_ble_eq_true rfl⟩ ⟨Nat.le_of_ble_eq_true rfl, Nat.le_of_ble_eq_true rfl⟩ hP hD hS hA (hK.sub [0, 1] rfl) (va_recv hK hP (ci := 2) (q0 := 3) rfl rfl) hl.1 rfl rfl (Nat.le_of_ble_eq_true rfl) dd_J_rename_133 (fun H locs hP hD hS => ?_)
              have hP : va_P G jcl (wJ qJ qH qh cH qI qD qS qC cS cC (jf_vacate (jf_redirect (jf_dropEntry s ((jf_inodeAt s (u / 2 ^ 8)).getD 0) (u % 256)) ((jf_inodeAt s (v / 2 ^ 8)).getD 0) (v % 256) ((jf_inodeAt s u).getD 0)) j_13) c ho hn hg hm hp wc wd tf) H := hP
              have hD : va_D A (wJ qJ qH qh cH qI qD qS qC cS cC (jf_vacate (jf_redirect (jf_dropEntry s ((jf_inodeAt s (u / 2 ^ 8)).getD 0) (u % 256)) ((jf_inodeAt s (v / 2 ^ 8)).getD 0) (v % 256) ((jf_inodeAt s u).getD 0)) j_13) c ho hn hg hm hp wc wd tf) := hD
              have hf_19 : jf_ok (jf_vacate (jf_redirect (jf_dropEntry s ((jf_inodeAt s (u / 2 ^ 8)).getD 0) (u % 256)) ((jf_inodeAt s (v / 2 ^ 8)).getD 0) (v % 256) ((jf_inodeAt s u).getD 0)) j_13) := jf_vacate_ok (by assumption) _
              exact jt_retv C ⟨by first | (simp [jf_rnmT, jf_rnmS, hx_1, hx_2, hx_4, hx_7, hx_9, hy_15, hj_13]; done), rfl, (by first | with_reducible rfl | (simp [jf_rnmT, jf_rnmS, hx_1, hx_2, hx_4, hx_7, hx_9, hy_15, hj_13]; done))⟩ hP hD hK hS ⟨Nat.le_of_ble_eq_true rfl, Nat.le_of_ble_eq_true rfl⟩ dd_J_rename_136
            · skip
              have hl : lv_has ls 7 [(6, .int (nI (((jf_inodeAt s (u / 2 ^ 8)).getD 0)))), (5, .int (nI ((jf_inodeAt s (v / 2 ^ 8)).getD 0))), (4, .int (-1)), (3, .int (nI ((jf_inodeAt s u).getD 0))), (0, .ref qJ), (1, .int (nI (u))), (2, .int (nI (v)))] := by rw [hj_13] at hl; exact hl
              have hy_20 := hx_9
              rw [hj_13] at hy_20
              refine lv_aload_n hx hb dd_J_rename_53 rfl (lv_at hl 4 rfl) ?_
              refine lv_iload hx hb dd_J_rename_54 (lv_at hl 0 rfl) ?_
              refine lv_iload hx hb dd_J_rename_56 (lv_at hl 1 rfl) ?_
              refine jr_callV C (ct_J_hasRoomAfterLeaving l G qJ qH qh cH qI qD qS qC cS cC s c ho hn hg hm hp wc wd tf ((jf_inodeAt s (u / 2 ^ 8)).getD 0) ((jf_inodeAt s (v / 2 ^ 8)).getD 0) (by omega) (by omega) (by omega) (by first | assumption | (simp only [] ; assumption))) kl_J_174 ⟨Nat.le_of_ble_eq_true rfl, Nat.le_of_ble_eq_true rfl, rfl, rfl⟩ ⟨Nat.le_of_ble_eq_true rfl, Nat.le_of_ble_eq_true rfl⟩ (hP) (hK) (va_recv hK hP (ci := 3) (q0 := 4) rfl rfl) hl.1 rfl rfl (Nat.le_of_ble_eq_true rfl) dd_J_rename_58 ?_
              have hf_21 : jf_hral s ((jf_inodeAt s (u / 2 ^ 8)).getD 0) ((jf_inodeAt s (v / 2 ^ 8)).getD 0) < 2 := jf_hral_lt _ _ _
              refine jl_ifne (tgt := 74) hx hb (by omega) dd_J_rename_61 (by decide) (fun c_22 => ?_) (fun c_22 => ?_)
              · skip
                refine lv_aload_n hx hb dd_J_rename_74 rfl (lv_at hl 4 rfl) ?_
                refine va_get (D := G) (ci := 3) (v := .ref qI) (C := cn_J) (T := ft_J) (N := 6) hx hb hts uw_J hown hK hP 4 rfl rfl 1 (by decide) (hts _ tw_108) (fun _ h9 => h9) rfl dd_J_rename_75 ?_
                refine lv_iload hx hb dd_J_rename_78 (lv_at hl 0 rfl) ?_
                refine lv_iload_n hx hb dd_J_rename_80 rfl (lv_at hl 5 rfl) ?_
                refine lv_sipush (v := nI 255) hx hb dd_J_rename_81 (by decide) ?_
                refine jl_and255 hx hb (by omega) dd_J_rename_84 ?_
                refine jm_callV (wr := [(qJ, .inr (3, [.ref qD, .ref qI, .ref qH, .int (nI wc), .int (nI wd), .int (nI tf)])), (qH, .inl (cH, 6, .inr (.inr (.inr (.inr (fun k => some (qh k))))))), jh qh ho hn hg hm hp 0, jh qh ho hn hg hm hp 1, jh qh ho hn hg hm hp 2, jh qh ho hn hg hm hp 3, jh qh ho hn hg hm hp 4, jh qh ho hn hg hm hp 5]) C (ct_I_dropEntry l G qI qD qS qC cS cC s c ((jf_inodeAt s (u / 2 ^ 8)).getD 0) (u % 256) (by omega) (by omega) (by first | assumption | (simp only [] ; assumption))) kl_J_164 ⟨Nat.le_of_ble_eq_true rfl, Nat.le_of_ble_eq_true rfl⟩ ⟨Nat.le_of_ble_eq_true rfl, Nat.le_of_ble_eq_true rfl⟩ hP hD hS hA (hK.sub [0, 1] rfl) (va_recv hK hP (ci := 2) (q0 := 3) rfl rfl) hl.1 rfl rfl (Nat.le_of_ble_eq_true rfl) dd_J_rename_85 (fun H locs hP hD hS => ?_)
                have hP : va_P G jcl (wJ qJ qH qh cH qI qD qS qC cS cC (jf_dropEntry s ((jf_inodeAt s (u / 2 ^ 8)).getD 0) (u % 256)) c ho hn hg hm hp wc wd tf) H := hP
                have hD : va_D A (wJ qJ qH qh cH qI qD qS qC cS cC (jf_dropEntry s ((jf_inodeAt s (u / 2 ^ 8)).getD 0) (u % 256)) c ho hn hg hm hp wc wd tf) := hD
                have hf_23 : jf_ok (jf_dropEntry s ((jf_inodeAt s (u / 2 ^ 8)).getD 0) (u % 256)) := jf_dropEntry_ok (by assumption) _ _
                refine lv_iload hx hb dd_J_rename_88 (lv_at hl 2 rfl) ?_
                refine lv_iconst (v := -1) hx hb dd_J_rename_90 (by decide) ?_
                refine lv_icmp_ne (tgt := 112) hx hb dd_J_rename_91 (by decide) (fun h => absurd rfl h) (fun _ => ?_)
                refine lv_aload_n hx hb dd_J_rename_94 rfl (lv_at hl 4 rfl) ?_
                refine va_get (D := G) (ci := 3) (v := .ref qI) (C := cn_J) (T := ft_J) (N := 6) hx hb hts uw_J hown hK hP 4 rfl rfl 1 (by decide) (hts _ tw_108) (fun _ h9 => h9) rfl dd_J_rename_95 ?_
                refine lv_iload hx hb dd_J_rename_98 (lv_at hl 1 rfl) ?_
                refine lv_iload_n hx hb dd_J_rename_100 rfl (lv_at hl 6 rfl) ?_
                refine lv_sipush (v := nI 255) hx hb dd_J_rename_101 (by decide) ?_
                refine jl_and255 hx hb (by omega) dd_J_rename_104 ?_
                refine lv_iload_n hx hb dd_J_rename_105 rfl (lv_at hl 3 rfl) ?_
                refine jm_callV (wr := [(qJ, .inr (3, [.ref qD, .ref qI, .ref qH, .int (nI wc), .int (nI wd), .int (nI tf)])), (qH, .inl (cH, 6, .inr (.inr (.inr (.inr (fun k => some (qh k))))))), jh qh ho hn hg hm hp 0, jh qh ho hn hg hm hp 1, jh qh ho hn hg hm hp 2, jh qh ho hn hg hm hp 3, jh qh ho hn hg hm hp 4, jh qh ho hn hg hm hp 5]) C (ct_I_addEntry l G qI qD qS qC cS cC (jf_dropEntry s ((jf_inodeAt s (u / 2 ^ 8)).getD 0) (u % 256)) c ((jf_inodeAt s (v / 2 ^ 8)).getD 0) (v % 256) ((jf_inodeAt s u).getD 0) (by omega) (by omega) (by omega) (by omega) (by first | assumption | (simp only [] ; assumption))) kl_J_183 ⟨Nat.le_of_ble_eq_true rfl, Nat.le_of_ble_eq_true rfl⟩ ⟨Nat.le_of_ble_eq_true rfl, Nat.le_of_ble_eq_true rfl⟩ hP hD hS hA (hK.sub [0, 1] rfl) (va_recv hK hP (ci := 2) (q0 := 3) rfl rfl) hl.1 rfl rfl (Nat.le_of_ble_eq_true rfl) dd_J_rename_106 (fun H locs hP hD hS => ?_)
                have hP : va_P G jcl (wJ qJ qH qh cH qI qD qS qC cS cC (jf_addEntry (jf_dropEntry s ((jf_inodeAt s (u / 2 ^ 8)).getD 0) (u % 256)) ((jf_inodeAt s (v / 2 ^ 8)).getD 0) (v % 256) ((jf_inodeAt s u).getD 0)) c ho hn hg hm hp wc wd tf) H := hP
                have hD : va_D A (wJ qJ qH qh cH qI qD qS qC cS cC (jf_addEntry (jf_dropEntry s ((jf_inodeAt s (u / 2 ^ 8)).getD 0) (u % 256)) ((jf_inodeAt s (v / 2 ^ 8)).getD 0) (v % 256) ((jf_inodeAt s u).getD 0)) c ho hn hg hm hp wc wd tf) := hD
                have hf_25 : jf_ok (jf_addEntry (jf_dropEntry s ((jf_inodeAt s (u / 2 ^ 8)).getD 0) (u % 256)) ((jf_inodeAt s (v / 2 ^ 8)).getD 0) (v % 256) ((jf_inodeAt s u).getD 0)) := jf_addEntry_ok (by assumption) _ (by omega) (by omega) (by omega)
                refine lv_goto (tgt := 136) hx hb dd_J_rename_109 (by decide) ?_
                exact jt_retv C ⟨by first | (simp [jf_rnmT, jf_rnmS, hx_1, hx_2, hx_4, hx_7, hx_9, hy_20, hj_13, c_22]; done), rfl, (by first | with_reducible rfl | (simp [jf_rnmT, jf_rnmS, hx_1, hx_2, hx_4, hx_7, hx_9, hy_20, hj_13, c_22]; done))⟩ hP hD hK hS ⟨Nat.le_of_ble_eq_true rfl, Nat.le_of_ble_eq_true rfl⟩ dd_J_rename_136
              · skip
                exact tt_UOES (is := 180) (text := "no room for the entry") hl9 htb C hz (by decide +kernel) ⟨by first | (simp [jf_rnmT, jf_rnmS, hx_1, hx_2, hx_4, hx_7, hx_9, hy_20, hj_13, c_22, jex]; done), by first | (simp [jf_rnmT, jf_rnmS, hx_1, hx_2, hx_4, hx_7, hx_9, hy_20, hj_13, c_22, jex]; done), rfl⟩ hP hD hK hS hl.1 dd_J_rename_64 dd_J_rename_67 dd_J_rename_68 dd_J_rename_70 dd_J_rename_73 ⟨Nat.le_of_ble_eq_true rfl, Nat.le_of_ble_eq_true rfl, Nat.le_of_ble_eq_true rfl, Nat.le_of_ble_eq_true rfl⟩ ⟨Nat.le_of_ble_eq_true rfl, Nat.le_of_ble_eq_true rfl⟩
