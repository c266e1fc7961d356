set_option maxHeartbeats 4000000 in
set_option maxRecDepth 100000 in
theorem lw_case_read {p : Program} {l : Launch} {e : Env} {σ : State} {m : MethodId} {below : List Frame} {meth : Method} {cd : Code} {bb L : Nat} {xs : Nat → Int32} {G : va_G} {A : Nat → Prop} {qJ qH : Nat} {qh : Nat → Nat} {cH : ClassId} {qI qD qS qC : Nat} {cS cC : ClassId} {qw : Nat} {cw : ClassId} {qM qK qZ qN qB qY qi qo qm qp : Nat} {c1 c2 c3 c4 c5 c6 c7 c8 c9 : ClassId} {Q : State → Prop} {ii nn : Nat} (hl9 : l.stackTraces = false) (C : jx p σ m #[Value.ref bb] meth cd cn_L code 8 ret) (hz : jz A σ σ.heap) (hy : jy σ) (hKO : va_K G jcl (tJ cS cC cH ++ [(cw, .long)]) σ) (hKM : va_K G jcl (tM c1 c2 c3 c4 c5 c6 c7 c8 c9) σ) (hX : va_X bb L xs σ σ.heap) (hbl : bb < σ.heap.size) (hbA : ¬ A bb) (hA : ∀ q : Nat, σ.heap.size ≤ q → A q) (hL : L ≤ 3072) (hii : ii + 6 ≤ L) (hnn : nn < 512) (nx : lw_nx p l e σ m below meth cd bb L xs G A qJ qH qh cH qI qD qS qC cS cC qw cw qM qK qZ qN qB qY qi qo qm qp c1 c2 c3 c4 c5 c6 c7 c8 c9 Q ii nn) {H : Heap} {locs : List Loc} {ls : Array Slot} {fw : Nat → Int64} {s c ho hn hg hm hp : Nat → Nat} {wc wd tf : Nat} {K Z N B Y I O M P : Nat → Nat} {ct wr ofs th : Nat} {pa ey fo : Option Nat} {la : Nat} (hR : je_R s c ho hn hg hm hp wc wd tf K Z N B Y I O M P ct wr ofs) (hw : wr ≤ 81 * nn) (hof : ofs ≤ nn) (hP : va_P G jcl ((wJ qJ qH qh cH qI qD qS qC cS cC s c ho hn hg hm hp wc wd tf ++ [(qw, .inl (cw, 1, .inr (.inl fw)))]) ++ wM qM qK qZ qN qB qY qi qo qm qp c1 c2 c3 c4 c5 c6 c7 c8 c9 K Z N B Y I O M P ct wr ofs th pa ey fo la) H) (hD : va_D A ((wJ qJ qH qh cH qI qD qS qC cS cC s c ho hn hg hm hp wc wd tf ++ [(qw, .inl (cw, 1, .inr (.inl fw)))]) ++ wM qM qK qZ qN qB qY qi qo qm qp c1 c2 c3 c4 c5 c6 c7 c8 c9 K Z N B Y I O M P ct wr ofs th pa ey fo la)) (hS : va_S A σ.heap H locs) (hl : lv_has ls 8 [(4, .int (nI ii)), (0, .ref bb), (1, .ref qJ), (2, .ref qM), (3, .ref qw)]) : W p l e room_1 σ m #[Value.ref bb] below meth cd H locs (23 + 7 * nn) (3071 + 42 * nn) Q (F0 m 456 ls []) := by
  have hx := C.1
  have hb := C.2.1
  have hown := C.2.2.2.1
  have hts := C.2.2.2.2.1
  have hKJ : va_K G jcl (tJ cS cC cH) σ := hKO.sub [0, 1, 2] rfl
  obtain ⟨h, hv_h, ev_h⟩ : ∃ h, h < 4294967296 ∧ jI (xs (ii + 1)) = h := ⟨_, jI_lt _, rfl⟩
  obtain ⟨z, hv_z, ev_z⟩ : ∃ z, z < 4294967296 ∧ jI (xs (ii + 2)) = z := ⟨_, jI_lt _, rfl⟩
  refine lv_aload_n hx hb dd_L_law_456 rfl (lv_at hl 2 rfl) ?_
  refine lv_aload_n hx hb dd_L_law_457 rfl (lv_at hl 1 rfl) ?_
  refine lv_iload hx hb dd_L_law_458 (lv_at hl 0 rfl) ?_
  refine lv_iconst (v := nI 1) hx hb dd_L_law_460 (by decide) ?_
  refine jl_iadd hx hb dd_L_law_461 ?_
  refine jl_sld hx hb hX hbl hbA hS (by omega) (by omega) dd_L_law_462 ?_
  refine jl_top (congrArg nI ev_h) ?_
  refine lv_aload_n hx hb dd_L_law_463 rfl (lv_at hl 1 rfl) ?_
  refine lv_iload hx hb dd_L_law_464 (lv_at hl 0 rfl) ?_
  refine lv_iconst (v := nI 2) hx hb dd_L_law_466 (by decide) ?_
  refine jl_iadd hx hb dd_L_law_467 ?_
  refine jl_sld hx hb hX hbl hbA hS (by omega) (by omega) dd_L_law_468 ?_
  refine jl_top (congrArg nI ev_z) ?_
  refine lv_aload_n hx hb dd_L_law_469 rfl (lv_at hl 4 rfl) ?_
  have E := je_read hR h z
  refine jL_callS (wr := wM qM qK qZ qN qB qY qi qo qm qp c1 c2 c3 c4 c5 c6 c7 c8 c9 K Z N B Y I O M P ct wr ofs th pa ey fo la) C hz hy (ct_L_read l hl9 G qJ qH qh cH qI qD qS qC cS cC s c ho hn hg hm hp wc wd tf qw cw fw h z hv_h hv_z hR.s0.ok hR.ho2 hR.hn2 hR.hg2 hR.hm2 hR.hp2) kw_L_read ⟨Nat.le_of_ble_eq_true rfl, Nat.le_of_ble_eq_true rfl⟩ ⟨by show 23 + 7 * nn + 5 ≤ 601024; omega, by show 3071 + 42 * nn + 30 ≤ 7293034; omega⟩ hP hD hS hA hKO hl.1 rfl rfl (Nat.le_of_ble_eq_true rfl) dd_L_law_470 (fun o9 w9 H locs hxx hP hD hS => ?_)
  rcases hxx with ⟨h0, rfl, rfl⟩ | ⟨h0, rfl, rfl⟩
  · skip
    have hP : va_P G jcl (((wJ qJ qH qh cH qI qD qS qC cS cC s c ho hn hg hm (ju hp h (hp h + (min z (jf_size s (hn h) - hp h)))) wc wd tf) ++ [(qw, .inl (cw, 1, .inr (.inl (vp_updL fw (nI 0).toNatClampNeg (lN ((jf_rbL s (hn h) (hp h) (min z (jf_size s (hn h) - hp h)) 0 0)))))))]) ++ wM qM qK qZ qN qB qY qi qo qm qp c1 c2 c3 c4 c5 c6 c7 c8 c9 K Z N B Y I O M P ct wr ofs th pa ey fo la) H := hP
    have hD : va_D A (((wJ qJ qH qh cH qI qD qS qC cS cC s c ho hn hg hm (ju hp h (hp h + (min z (jf_size s (hn h) - hp h)))) wc wd tf) ++ [(qw, .inl (cw, 1, .inr (.inl (vp_updL fw (nI 0).toNatClampNeg (lN ((jf_rbL s (hn h) (hp h) (min z (jf_size s (hn h) - hp h)) 0 0)))))))]) ++ wM qM qK qZ qN qB qY qi qo qm qp c1 c2 c3 c4 c5 c6 c7 c8 c9 K Z N B Y I O M P ct wr ofs th pa ey fo la) := hD
    have hm0 : (jm_rdT K N I O M h z) = 0 := by rw [← E.1, h0]; rfl
    refine lv_istore (lv' := [(5, .int (nI 0)), (4, .int (nI ii)), (0, .ref bb), (1, .ref qJ), (2, .ref qM), (3, .ref qw)]) hx hb dd_L_law_473 hl (by decide) rfl (fun ls hl => ?_)
    refine lv_aload_n hx hb dd_L_law_475 rfl (lv_at hl 4 rfl) ?_
    refine lv_aload_n hx hb dd_L_law_476 rfl (lv_at hl 2 rfl) ?_
    refine lv_iload hx hb dd_L_law_477 (lv_at hl 1 rfl) ?_
    refine lv_iconst (v := nI 1) hx hb dd_L_law_479 (by decide) ?_
    refine jl_iadd hx hb dd_L_law_480 ?_
    refine jl_sld hx hb hX hbl hbA hS (by omega) (by omega) dd_L_law_481 ?_
    refine jl_top (congrArg nI ev_h) ?_
    refine lv_aload_n hx hb dd_L_law_482 rfl (lv_at hl 2 rfl) ?_
    refine lv_iload hx hb dd_L_law_483 (lv_at hl 1 rfl) ?_
    refine lv_iconst (v := nI 2) hx hb dd_L_law_485 (by decide) ?_
    refine jl_iadd hx hb dd_L_law_486 ?_
    refine jl_sld hx hb hX hbl hbA hS (by omega) (by omega) dd_L_law_487 ?_
    refine jl_top (congrArg nI ev_z) ?_
    have hD := jw_permD List.perm_append_comm hD
    have hP := jw_permP List.perm_append_comm hP
    refine jm_callV C (ct_M_read l G qM qK qZ qN qB qY qi qo qm qp c1 c2 c3 c4 c5 c6 c7 c8 c9 K Z N B Y I O M P ct wr ofs th pa ey fo la h z hv_h hv_z hR.s0.k3 hR.s0.n2 hR.i2 hR.o2 hR.m2 hR.s0.z6 hR.s0.y2 hR.p2) kl_L_98 ⟨Nat.le_of_ble_eq_true rfl, Nat.le_of_ble_eq_true rfl⟩ ⟨by show 23 + 7 * nn + 5 + 0 ≤ 601024; omega, by show 3071 + 42 * nn + 30 + 0 ≤ 7293034; omega⟩ hP hD hS hA hKM (va_recv hKM hP (ci := 4) (q0 := 0) rfl rfl) hl.1 rfl rfl (Nat.le_of_ble_eq_true rfl) dd_L_law_488 (fun H locs hP hD hS => ?_)
    simp only [if_pos hm0] at hP hD
    refine jl_topL (congrArg lN (Eq.symm (show ((jf_rbL s (hn h) (hp h) (min z (jf_size s (hn h) - hp h)) 0 0)) = _ from (by rw [if_pos hm0]; exact (E.2 hm0).1)))) ?_
    refine lv_lstore (lv' := [(6, .long (lN ((jf_rbL s (hn h) (hp h) (min z (jf_size s (hn h) - hp h)) 0 0)))), (5, .int (nI 0)), (4, .int (nI ii)), (0, .ref bb), (1, .ref qJ), (2, .ref qM), (3, .ref qw)]) hx hb dd_L_law_491 hl (by decide) rfl (fun ls hl => ?_)
    refine lv_aload_n hx hb dd_L_law_493 rfl (lv_at hl 5 rfl) ?_
    refine jr_callV C (ct_M_thrown l G _ _ _ _ _ _ _ _ _ _ _ _ _ _ _ _ _ _ _ _ _ _ _ _ _ _ _ _ _ _ _ _ _ _ _ _) kl_L_78 ⟨Nat.le_of_ble_eq_true rfl, Nat.le_of_ble_eq_true rfl, rfl, rfl⟩ ⟨by show 23 + 7 * nn + 5 + 0 ≤ 601024; omega, by show 3071 + 42 * nn + 30 + 0 ≤ 7293034; omega⟩ (jw_left hP) hKM (va_recv hKM hP (ci := 4) (q0 := 0) rfl rfl) hl.1 rfl rfl (Nat.le_of_ble_eq_true rfl) dd_L_law_494 ?_
    refine lv_iload hx hb dd_L_law_497 (lv_at hl 1 rfl) ?_
    refine lv_icmp_eq (tgt := 504) hx hb dd_L_law_499 (by decide) (fun _ => ?_) (fun h9 => absurd (show nI (jm_rdT K N I O M h z) = nI 0 from by rw [hm0]) h9)
    refine lv_iload hx hb dd_L_law_504 (lv_at hl 1 rfl) ?_
    refine lv_if_ne (tgt := 520) hx hb dd_L_law_506 (by decide) (fun h9 => absurd nI_0 h9) (fun _ => ?_)
    refine lv_aload_n hx hb dd_L_law_509 rfl (lv_at hl 6 rfl) ?_
    refine lv_iconst (v := nI 0) hx hb dd_L_law_510 (by decide) ?_
    refine va_lald hx hb hKO hP 22 3 rfl rfl (vp_in_nI (by decide) (by decide)) dd_L_law_511 ?_
    refine jl_topL pk_uLs ?_
    refine lv_lload hx hb dd_L_law_512 (lv_at hl 0 rfl) ?_
    refine W.lcmp hx hb dd_L_law_514 ?_
    refine jl_top (jx_cmp0 _) ?_
    refine lv_if_eq (tgt := 520) hx hb dd_L_law_515 (by decide) (fun _ => ?_) (fun h9 => absurd nI_0 h9)
    refine lv_goto (tgt := 1039) hx hb dd_L_law_520 (by decide) ?_
    have hD := jw_permD List.perm_append_comm hD
    have hP := jw_permP List.perm_append_comm hP
    refine W.widen (by show 23 + 7 * nn + 5 + 0 ≤ 23 + 7 * (nn + 1); omega) (by show 3071 + 42 * nn + 30 + 0 ≤ 3071 + 42 * (nn + 1); omega) ?_
    exact nx _ _ _ _ _ _ _ _ _ _ _ _ _ _ _ _ _ _ _ _ _ _ _ _ _ _ _ _ _ _ _ (E.2 hm0).2 (by omega) (by omega) hP hD hS (lv_sub hl [2, 3, 4, 5, 6] rfl)
  · skip
    have hP : va_P G jcl (((wJ qJ qH qh cH qI qD qS qC cS cC s c ho hn hg hm hp wc wd tf) ++ [(qw, .inl (cw, 1, .inr (.inl fw)))]) ++ wM qM qK qZ qN qB qY qi qo qm qp c1 c2 c3 c4 c5 c6 c7 c8 c9 K Z N B Y I O M P ct wr ofs th pa ey fo la) H := hP
    have hD : va_D A (((wJ qJ qH qh cH qI qD qS qC cS cC s c ho hn hg hm hp wc wd tf) ++ [(qw, .inl (cw, 1, .inr (.inl fw)))]) ++ wM qM qK qZ qN qB qY qi qo qm qp c1 c2 c3 c4 c5 c6 c7 c8 c9 K Z N B Y I O M P ct wr ofs th pa ey fo la) := hD
    have hm0 : ¬ (jm_rdT K N I O M h z) = 0 := by rw [← E.1]; exact je_m_ne h0
    refine lv_istore (lv' := [(5, .int (nI (je_m ((jf_reaT s ho hn hg hm h z))))), (4, .int (nI ii)), (0, .ref bb), (1, .ref qJ), (2, .ref qM), (3, .ref qw)]) hx hb dd_L_law_473 hl (by decide) rfl (fun ls hl => ?_)
    refine lv_aload_n hx hb dd_L_law_475 rfl (lv_at hl 4 rfl) ?_
    refine lv_aload_n hx hb dd_L_law_476 rfl (lv_at hl 2 rfl) ?_
    refine lv_iload hx hb dd_L_law_477 (lv_at hl 1 rfl) ?_
    refine lv_iconst (v := nI 1) hx hb dd_L_law_479 (by decide) ?_
    refine jl_iadd hx hb dd_L_law_480 ?_
    refine jl_sld hx hb hX hbl hbA hS (by omega) (by omega) dd_L_law_481 ?_
    refine jl_top (congrArg nI ev_h) ?_
    refine lv_aload_n hx hb dd_L_law_482 rfl (lv_at hl 2 rfl) ?_
    refine lv_iload hx hb dd_L_law_483 (lv_at hl 1 rfl) ?_
    refine lv_iconst (v := nI 2) hx hb dd_L_law_485 (by decide) ?_
    refine jl_iadd hx hb dd_L_law_486 ?_
    refine jl_sld hx hb hX hbl hbA hS (by omega) (by omega) dd_L_law_487 ?_
    refine jl_top (congrArg nI ev_z) ?_
    have hD := jw_permD List.perm_append_comm hD
    have hP := jw_permP List.perm_append_comm hP
    refine jm_callV C (ct_M_read l G qM qK qZ qN qB qY qi qo qm qp c1 c2 c3 c4 c5 c6 c7 c8 c9 K Z N B Y I O M P ct wr ofs th pa ey fo la h z hv_h hv_z hR.s0.k3 hR.s0.n2 hR.i2 hR.o2 hR.m2 hR.s0.z6 hR.s0.y2 hR.p2) kl_L_98 ⟨Nat.le_of_ble_eq_true rfl, Nat.le_of_ble_eq_true rfl⟩ ⟨by show 23 + 7 * nn + 5 + 0 ≤ 601024; omega, by show 3071 + 42 * nn + 30 + 0 ≤ 7293034; omega⟩ hP hD hS hA hKM (va_recv hKM hP (ci := 4) (q0 := 0) rfl rfl) hl.1 rfl rfl (Nat.le_of_ble_eq_true rfl) dd_L_law_488 (fun H locs hP hD hS => ?_)
    simp only [if_neg hm0] at hP hD
    refine lv_lstore (lv' := (6, _) :: [(5, .int (nI (je_m ((jf_reaT s ho hn hg hm h z))))), (4, .int (nI ii)), (0, .ref bb), (1, .ref qJ), (2, .ref qM), (3, .ref qw)]) hx hb dd_L_law_491 hl (by decide) rfl (fun ls hl => ?_)
    refine lv_aload_n hx hb dd_L_law_493 rfl (lv_at hl 5 rfl) ?_
    refine jr_callV C (ct_M_thrown l G _ _ _ _ _ _ _ _ _ _ _ _ _ _ _ _ _ _ _ _ _ _ _ _ _ _ _ _ _ _ _ _ _ _ _ _) kl_L_78 ⟨Nat.le_of_ble_eq_true rfl, Nat.le_of_ble_eq_true rfl, rfl, rfl⟩ ⟨by show 23 + 7 * nn + 5 + 0 ≤ 601024; omega, by show 3071 + 42 * nn + 30 + 0 ≤ 7293034; omega⟩ (jw_left hP) hKM (va_recv hKM hP (ci := 4) (q0 := 0) rfl rfl) hl.1 rfl rfl (Nat.le_of_ble_eq_true rfl) dd_L_law_494 ?_
    refine lv_iload hx hb dd_L_law_497 (lv_at hl 1 rfl) ?_
    refine lv_icmp_eq (tgt := 504) hx hb dd_L_law_499 (by decide) (fun _ => ?_) (fun h9 => absurd (show nI (jm_rdT K N I O M h z) = nI (je_m ((jf_reaT s ho hn hg hm h z))) from by rw [← E.1]) h9)
    refine lv_iload hx hb dd_L_law_504 (lv_at hl 1 rfl) ?_
    refine lv_if_ne (tgt := 520) hx hb dd_L_law_506 (by decide) (fun _ => ?_) (fun h9 => absurd h9 (jx_ne0 (je_m_ne h0) (by have := jk_rea s ho hn hg hm h z; have := je_m_le ((jf_reaT s ho hn hg hm h z)); omega)))
    refine lv_goto (tgt := 1039) hx hb dd_L_law_520 (by decide) ?_
    have hD := jw_permD List.perm_append_comm hD
    have hP := jw_permP List.perm_append_comm hP
    refine W.widen (by show 23 + 7 * nn + 5 + 0 ≤ 23 + 7 * (nn + 1); omega) (by show 3071 + 42 * nn + 30 + 0 ≤ 3071 + 42 * (nn + 1); omega) ?_
    exact nx _ _ _ _ _ _ _ _ _ _ _ _ _ _ _ _ _ _ _ _ _ _ _ _ _ _ _ _ _ _ _ hR (by omega) (by omega) hP hD hS (lv_sub hl [2, 3, 4, 5, 6] rfl)

set_option maxHeartbeats 4000000 in
set_option maxRecDepth 100000 in
theorem lw_case_seek {p : Program} {l : Launch} {e : Env} {σ : State} {m : MethodId} {below : List Frame} {meth : Method} {cd : Code} {bb L : Nat} {xs : Nat → Int32} {G : va_G} {A : Nat → Prop} {qJ qH : Nat} {qh : Nat → Nat} {cH : ClassId} {qI qD qS qC : Nat} {cS cC : ClassId} {qw : Nat} {cw : ClassId} {qM qK qZ qN qB qY qi qo qm qp : Nat} {c1 c2 c3 c4 c5 c6 c7 c8 c9 : ClassId} {Q : State → Prop} {ii nn : Nat} (hl9 : l.stackTraces = false) (C : jx p σ m #[Value.ref bb] meth cd cn_L code 8 ret) (hz : jz A σ σ.heap) (hy : jy σ) (hKO : va_K G jcl (tJ cS cC cH ++ [(cw, .long)]) σ) (hKM : va_K G jcl (tM c1 c2 c3 c4 c5 c6 c7 c8 c9) σ) (hX : va_X bb L xs σ σ.heap) (hbl : bb < σ.heap.size) (hbA : ¬ A bb) (hA : ∀ q : Nat, σ.heap.size ≤ q → A q) (hL : L ≤ 3072) (hii : ii + 6 ≤ L) (hnn : nn < 512) (nx : lw_nx p l e σ m below meth cd bb L xs G A qJ qH qh cH qI qD qS qC cS cC qw cw qM qK qZ qN qB qY qi qo qm qp c1 c2 c3 c4 c5 c6 c7 c8 c9 Q ii nn) {H : Heap} {locs : List Loc} {ls : Array Slot} {fw : Nat → Int64} {s c ho hn hg hm hp : Nat → Nat} {wc wd tf : Nat} {K Z N B Y I O M P : Nat → Nat} {ct wr ofs th : Nat} {pa ey fo : Option Nat} {la : Nat} (hR : je_R s c ho hn hg hm hp wc wd tf K Z N B Y I O M P ct wr ofs) (hw : wr ≤ 81 * nn) (hof : ofs ≤ nn) (hP : va_P G jcl ((wJ qJ qH qh cH qI qD qS qC cS cC s c ho hn hg hm hp wc wd tf ++ [(qw, .inl (cw, 1, .inr (.inl fw)))]) ++ wM qM qK qZ qN qB qY qi qo qm qp c1 c2 c3 c4 c5 c6 c7 c8 c9 K Z N B Y I O M P ct wr ofs th pa ey fo la) H) (hD : va_D A ((wJ qJ qH qh cH qI qD qS qC cS cC s c ho hn hg hm hp wc wd tf ++ [(qw, .inl (cw, 1, .inr (.inl fw)))]) ++ wM qM qK qZ qN qB qY qi qo qm qp c1 c2 c3 c4 c5 c6 c7 c8 c9 K Z N B Y I O M P ct wr ofs th pa ey fo la)) (hS : va_S A σ.heap H locs) (hl : lv_has ls 8 [(4, .int (nI ii)), (0, .ref bb), (1, .ref qJ), (2, .ref qM), (3, .ref qw)]) : W p l e room_1 σ m #[Value.ref bb] below meth cd H locs (23 + 7 * nn) (3071 + 42 * nn) Q (F0 m 523 ls []) := by
  have hx := C.1
  have hb := C.2.1
  have hown := C.2.2.2.1
  have hts := C.2.2.2.2.1
  have hKJ : va_K G jcl (tJ cS cC cH) σ := hKO.sub [0, 1, 2] rfl
  obtain ⟨h, hv_h, ev_h⟩ : ∃ h, h < 4294967296 ∧ jI (xs (ii + 1)) = h := ⟨_, jI_lt _, rfl⟩
  obtain ⟨z, hv_z, ev_z⟩ : ∃ z, z < 4294967296 ∧ jI (xs (ii + 2)) = z := ⟨_, jI_lt _, rfl⟩
  refine lv_aload_n hx hb dd_L_law_523 rfl (lv_at hl 2 rfl) ?_
  refine lv_aload_n hx hb dd_L_law_524 rfl (lv_at hl 1 rfl) ?_
  refine lv_iload hx hb dd_L_law_525 (lv_at hl 0 rfl) ?_
  refine lv_iconst (v := nI 1) hx hb dd_L_law_527 (by decide) ?_
  refine jl_iadd hx hb dd_L_law_528 ?_
  refine jl_sld hx hb hX hbl hbA hS (by omega) (by omega) dd_L_law_529 ?_
  refine jl_top (congrArg nI ev_h) ?_
  refine lv_aload_n hx hb dd_L_law_530 rfl (lv_at hl 1 rfl) ?_
  refine lv_iload hx hb dd_L_law_531 (lv_at hl 0 rfl) ?_
  refine lv_iconst (v := nI 2) hx hb dd_L_law_533 (by decide) ?_
  refine jl_iadd hx hb dd_L_law_534 ?_
  refine jl_sld hx hb hX hbl hbA hS (by omega) (by omega) dd_L_law_535 ?_
  refine jl_top (congrArg nI ev_z) ?_
  have E := je_seek hR h z
  refine jL_callS (wr := [(qw, .inl (cw, 1, .inr (.inl fw)))] ++ wM qM qK qZ qN qB qY qi qo qm qp c1 c2 c3 c4 c5 c6 c7 c8 c9 K Z N B Y I O M P ct wr ofs th pa ey fo la) C hz hy (ct_L_seek l hl9 G qJ qH qh cH qI qD qS qC cS cC s c ho hn hg hm hp wc wd tf h z hv_h hv_z hR.s0.ok hR.ho2 hR.hn2 hR.hg2 hR.hm2 hR.hp2) kw_L_seek ⟨Nat.le_of_ble_eq_true rfl, Nat.le_of_ble_eq_true rfl⟩ ⟨by show 23 + 7 * nn + 4 ≤ 601024; omega, by show 3071 + 42 * nn + 24 ≤ 7293034; omega⟩ hP hD hS hA hKJ hl.1 rfl rfl (Nat.le_of_ble_eq_true rfl) dd_L_law_536 (fun o9 w9 H locs hxx hP hD hS => ?_)
  rcases hxx with ⟨h0, rfl, rfl⟩ | ⟨h0, rfl, rfl⟩
  · skip
    have hP : va_P G jcl (((wJ qJ qH qh cH qI qD qS qC cS cC s c ho hn hg hm (ju hp h z) wc wd tf) ++ [(qw, .inl (cw, 1, .inr (.inl fw)))]) ++ wM qM qK qZ qN qB qY qi qo qm qp c1 c2 c3 c4 c5 c6 c7 c8 c9 K Z N B Y I O M P ct wr ofs th pa ey fo la) H := hP
    have hD : va_D A (((wJ qJ qH qh cH qI qD qS qC cS cC s c ho hn hg hm (ju hp h z) wc wd tf) ++ [(qw, .inl (cw, 1, .inr (.inl fw)))]) ++ wM qM qK qZ qN qB qY qi qo qm qp c1 c2 c3 c4 c5 c6 c7 c8 c9 K Z N B Y I O M P ct wr ofs th pa ey fo la) := hD
    have hm0 : (jm_seekT K N I O M h z) = 0 := by rw [← E.1, h0]; rfl
    refine lv_istore (lv' := [(5, .int (nI 0)), (4, .int (nI ii)), (0, .ref bb), (1, .ref qJ), (2, .ref qM), (3, .ref qw)]) hx hb dd_L_law_539 hl (by decide) rfl (fun ls hl => ?_)
    refine lv_aload_n hx hb dd_L_law_541 rfl (lv_at hl 4 rfl) ?_
    refine lv_aload_n hx hb dd_L_law_542 rfl (lv_at hl 2 rfl) ?_
    refine lv_iload hx hb dd_L_law_543 (lv_at hl 1 rfl) ?_
    refine lv_iconst (v := nI 1) hx hb dd_L_law_545 (by decide) ?_
    refine jl_iadd hx hb dd_L_law_546 ?_
    refine jl_sld hx hb hX hbl hbA hS (by omega) (by omega) dd_L_law_547 ?_
    refine jl_top (congrArg nI ev_h) ?_
    refine lv_aload_n hx hb dd_L_law_548 rfl (lv_at hl 2 rfl) ?_
    refine lv_iload hx hb dd_L_law_549 (lv_at hl 1 rfl) ?_
    refine lv_iconst (v := nI 2) hx hb dd_L_law_551 (by decide) ?_
    refine jl_iadd hx hb dd_L_law_552 ?_
    refine jl_sld hx hb hX hbl hbA hS (by omega) (by omega) dd_L_law_553 ?_
    refine jl_top (congrArg nI ev_z) ?_
    have hD := jw_permD List.perm_append_comm hD
    have hP := jw_permP List.perm_append_comm hP
    refine jm_callV C (ct_M_seek l G qM qK qZ qN qB qY qi qo qm qp c1 c2 c3 c4 c5 c6 c7 c8 c9 K Z N B Y I O M P ct wr ofs th pa ey fo la h z hv_h hv_z hR.s0.k3 hR.s0.n2 hR.i2 hR.o2 hR.m2) kl_L_102 ⟨Nat.le_of_ble_eq_true rfl, Nat.le_of_ble_eq_true rfl⟩ ⟨by show 23 + 7 * nn + 4 + 0 ≤ 601024; omega, by show 3071 + 42 * nn + 24 + 0 ≤ 7293034; omega⟩ hP hD hS hA hKM (va_recv hKM hP (ci := 4) (q0 := 0) rfl rfl) hl.1 rfl rfl (Nat.le_of_ble_eq_true rfl) dd_L_law_554 (fun H locs hP hD hS => ?_)
    simp only [if_pos hm0] at hP hD
    refine lv_aload_n hx hb dd_L_law_557 rfl (lv_at hl 4 rfl) ?_
    refine jr_callV C (ct_M_thrown l G _ _ _ _ _ _ _ _ _ _ _ _ _ _ _ _ _ _ _ _ _ _ _ _ _ _ _ _ _ _ _ _ _ _ _ _) kl_L_78 ⟨Nat.le_of_ble_eq_true rfl, Nat.le_of_ble_eq_true rfl, rfl, rfl⟩ ⟨by show 23 + 7 * nn + 4 + 0 ≤ 601024; omega, by show 3071 + 42 * nn + 24 + 0 ≤ 7293034; omega⟩ (jw_left hP) hKM (va_recv hKM hP (ci := 4) (q0 := 0) rfl rfl) hl.1 rfl rfl (Nat.le_of_ble_eq_true rfl) dd_L_law_558 ?_
    refine lv_iload hx hb dd_L_law_561 (lv_at hl 0 rfl) ?_
    refine lv_icmp_eq (tgt := 568) hx hb dd_L_law_563 (by decide) (fun _ => ?_) (fun h9 => absurd (show nI (jm_seekT K N I O M h z) = nI 0 from by rw [hm0]) h9)
    refine lv_goto (tgt := 1039) hx hb dd_L_law_568 (by decide) ?_
    have hD := jw_permD List.perm_append_comm hD
    have hP := jw_permP List.perm_append_comm hP
    refine W.widen (by show 23 + 7 * nn + 4 + 0 ≤ 23 + 7 * (nn + 1); omega) (by show 3071 + 42 * nn + 24 + 0 ≤ 3071 + 42 * (nn + 1); omega) ?_
    exact nx _ _ _ _ _ _ _ _ _ _ _ _ _ _ _ _ _ _ _ _ _ _ _ _ _ _ _ _ _ _ _ (E.2 hm0) (by omega) (by omega) hP hD hS (lv_sub hl [1, 2, 3, 4, 5] rfl)
  · skip
    have hP : va_P G jcl (((wJ qJ qH qh cH qI qD qS qC cS cC s c ho hn hg hm hp wc wd tf) ++ [(qw, .inl (cw, 1, .inr (.inl fw)))]) ++ wM qM qK qZ qN qB qY qi qo qm qp c1 c2 c3 c4 c5 c6 c7 c8 c9 K Z N B Y I O M P ct wr ofs th pa ey fo la) H := hP
    have hD : va_D A (((wJ qJ qH qh cH qI qD qS qC cS cC s c ho hn hg hm hp wc wd tf) ++ [(qw, .inl (cw, 1, .inr (.inl fw)))]) ++ wM qM qK qZ qN qB qY qi qo qm qp c1 c2 c3 c4 c5 c6 c7 c8 c9 K Z N B Y I O M P ct wr ofs th pa ey fo la) := hD
    have hm0 : ¬ (jm_seekT K N I O M h z) = 0 := by rw [← E.1]; exact je_m_ne h0
    refine lv_istore (lv' := [(5, .int (nI (je_m ((jf_seekT s ho hn hg hm h z))))), (4, .int (nI ii)), (0, .ref bb), (1, .ref qJ), (2, .ref qM), (3, .ref qw)]) hx hb dd_L_law_539 hl (by decide) rfl (fun ls hl => ?_)
    refine lv_aload_n hx hb dd_L_law_541 rfl (lv_at hl 4 rfl) ?_
    refine lv_aload_n hx hb dd_L_law_542 rfl (lv_at hl 2 rfl) ?_
    refine lv_iload hx hb dd_L_law_543 (lv_at hl 1 rfl) ?_
    refine lv_iconst (v := nI 1) hx hb dd_L_law_545 (by decide) ?_
    refine jl_iadd hx hb dd_L_law_546 ?_
    refine jl_sld hx hb hX hbl hbA hS (by omega) (by omega) dd_L_law_547 ?_
    refine jl_top (congrArg nI ev_h) ?_
    refine lv_aload_n hx hb dd_L_law_548 rfl (lv_at hl 2 rfl) ?_
    refine lv_iload hx hb dd_L_law_549 (lv_at hl 1 rfl) ?_
    refine lv_iconst (v := nI 2) hx hb dd_L_law_551 (by decide) ?_
    refine jl_iadd hx hb dd_L_law_552 ?_
    refine jl_sld hx hb hX hbl hbA hS (by omega) (by omega) dd_L_law_553 ?_
    refine jl_top (congrArg nI ev_z) ?_
    have hD := jw_permD List.perm_append_comm hD
    have hP := jw_permP List.perm_append_comm hP
    refine jm_callV C (ct_M_seek l G qM qK qZ qN qB qY qi qo qm qp c1 c2 c3 c4 c5 c6 c7 c8 c9 K Z N B Y I O M P ct wr ofs th pa ey fo la h z hv_h hv_z hR.s0.k3 hR.s0.n2 hR.i2 hR.o2 hR.m2) kl_L_102 ⟨Nat.le_of_ble_eq_true rfl, Nat.le_of_ble_eq_true rfl⟩ ⟨by show 23 + 7 * nn + 4 + 0 ≤ 601024; omega, by show 3071 + 42 * nn + 24 + 0 ≤ 7293034; omega⟩ hP hD hS hA hKM (va_recv hKM hP (ci := 4) (q0 := 0) rfl rfl) hl.1 rfl rfl (Nat.le_of_ble_eq_true rfl) dd_L_law_554 (fun H locs hP hD hS => ?_)
    simp only [if_neg hm0] at hP hD
    refine lv_aload_n hx hb dd_L_law_557 rfl (lv_at hl 4 rfl) ?_
    refine jr_callV C (ct_M_thrown l G _ _ _ _ _ _ _ _ _ _ _ _ _ _ _ _ _ _ _ _ _ _ _ _ _ _ _ _ _ _ _ _ _ _ _ _) kl_L_78 ⟨Nat.le_of_ble_eq_true rfl, Nat.le_of_ble_eq_true rfl, rfl, rfl⟩ ⟨by show 23 + 7 * nn + 4 + 0 ≤ 601024; omega, by show 3071 + 42 * nn + 24 + 0 ≤ 7293034; omega⟩ (jw_left hP) hKM (va_recv hKM hP (ci := 4) (q0 := 0) rfl rfl) hl.1 rfl rfl (Nat.le_of_ble_eq_true rfl) dd_L_law_558 ?_
    refine lv_iload hx hb dd_L_law_561 (lv_at hl 0 rfl) ?_
    refine lv_icmp_eq (tgt := 568) hx hb dd_L_law_563 (by decide) (fun _ => ?_) (fun h9 => absurd (show nI (jm_seekT K N I O M h z) = nI (je_m ((jf_seekT s ho hn hg hm h z))) from by rw [← E.1]) h9)
    refine lv_goto (tgt := 1039) hx hb dd_L_law_568 (by decide) ?_
    have hD := jw_permD List.perm_append_comm hD
    have hP := jw_permP List.perm_append_comm hP
    refine W.widen (by show 23 + 7 * nn + 4 + 0 ≤ 23 + 7 * (nn + 1); omega) (by show 3071 + 42 * nn + 24 + 0 ≤ 3071 + 42 * (nn + 1); omega) ?_
    exact nx _ _ _ _ _ _ _ _ _ _ _ _ _ _ _ _ _ _ _ _ _ _ _ _ _ _ _ _ _ _ _ hR (by omega) (by omega) hP hD hS (lv_sub hl [1, 2, 3, 4, 5] rfl)

set_option maxHeartbeats 4000000 in
set_option maxRecDepth 100000 in
theorem lw_case_next {p : Program} {l : Launch} {e : Env} {σ : State} {m : MethodId} {below : List Frame} {meth : Method} {cd : Code} {bb L : Nat} {xs : Nat → Int32} {G : va_G} {A : Nat → Prop} {qJ qH : Nat} {qh : Nat → Nat} {cH : ClassId} {qI qD qS qC : Nat} {cS cC : ClassId} {qw : Nat} {cw : ClassId} {qM qK qZ qN qB qY qi qo qm qp : Nat} {c1 c2 c3 c4 c5 c6 c7 c8 c9 : ClassId} {Q : State → Prop} {ii nn : Nat} (hl9 : l.stackTraces = false) (C : jx p σ m #[Value.ref bb] meth cd cn_L code 8 ret) (hz : jz A σ σ.heap) (hy : jy σ) (hKO : va_K G jcl (tJ cS cC cH ++ [(cw, .long)]) σ) (hKM : va_K G jcl (tM c1 c2 c3 c4 c5 c6 c7 c8 c9) σ) (hX : va_X bb L xs σ σ.heap) (hbl : bb < σ.heap.size) (hbA : ¬ A bb) (hA : ∀ q : Nat, σ.heap.size ≤ q → A q) (hL : L ≤ 3072) (hii : ii + 6 ≤ L) (hnn : nn < 512) (nx : lw_nx p l e σ m below meth cd bb L xs G A qJ qH qh cH qI qD qS qC cS cC qw cw qM qK qZ qN qB qY qi qo qm qp c1 c2 c3 c4 c5 c6 c7 c8 c9 Q ii nn) {H : Heap} {locs : List Loc} {ls : Array Slot} {fw : Nat → Int64} {s c ho hn hg hm hp : Nat → Nat} {wc wd tf : Nat} {K Z N B Y I O M P : Nat → Nat} {ct wr ofs th : Nat} {pa ey fo : Option Nat} {la : Nat} (hR : je_R s c ho hn hg hm hp wc wd tf K Z N B Y I O M P ct wr ofs) (hw : wr ≤ 81 * nn) (hof : ofs ≤ nn) (hP : va_P G jcl ((wJ qJ qH qh cH qI qD qS qC cS cC s c ho hn hg hm hp wc wd tf ++ [(qw, .inl (cw, 1, .inr (.inl fw)))]) ++ wM qM qK qZ qN qB qY qi qo qm qp c1 c2 c3 c4 c5 c6 c7 c8 c9 K Z N B Y I O M P ct wr ofs th pa ey fo la) H) (hD : va_D A ((wJ qJ qH qh cH qI qD qS qC cS cC s c ho hn hg hm hp wc wd tf ++ [(qw, .inl (cw, 1, .inr (.inl fw)))]) ++ wM qM qK qZ qN qB qY qi qo qm qp c1 c2 c3 c4 c5 c6 c7 c8 c9 K Z N B Y I O M P ct wr ofs th pa ey fo la)) (hS : va_S A σ.heap H locs) (hl : lv_has ls 8 [(4, .int (nI ii)), (0, .ref bb), (1, .ref qJ), (2, .ref qM), (3, .ref qw)]) : W p l e room_1 σ m #[Value.ref bb] below meth cd H locs (23 + 7 * nn) (3071 + 42 * nn) Q (F0 m 571 ls []) := by
  have hx := C.1
  have hb := C.2.1
  have hown := C.2.2.2.1
  have hts := C.2.2.2.2.1
  have hKJ : va_K G jcl (tJ cS cC cH) σ := hKO.sub [0, 1, 2] rfl
  obtain ⟨h, hv_h, ev_h⟩ : ∃ h, h < 4294967296 ∧ jI (xs (ii + 1)) = h := ⟨_, jI_lt _, rfl⟩
  refine lv_aload_n hx hb dd_L_law_571 rfl (lv_at hl 2 rfl) ?_
  refine lv_aload_n hx hb dd_L_law_572 rfl (lv_at hl 1 rfl) ?_
  refine lv_iload hx hb dd_L_law_573 (lv_at hl 0 rfl) ?_
  refine lv_iconst (v := nI 1) hx hb dd_L_law_575 (by decide) ?_
  refine jl_iadd hx hb dd_L_law_576 ?_
  refine jl_sld hx hb hX hbl hbA hS (by omega) (by omega) dd_L_law_577 ?_
  refine jl_top (congrArg nI ev_h) ?_
  refine lv_aload_n hx hb dd_L_law_578 rfl (lv_at hl 4 rfl) ?_
  have E := je_next hR h
  refine jL_callS (wr := wM qM qK qZ qN qB qY qi qo qm qp c1 c2 c3 c4 c5 c6 c7 c8 c9 K Z N B Y I O M P ct wr ofs th pa ey fo la) C hz hy (ct_L_next l hl9 G qJ qH qh cH qI qD qS qC cS cC s c ho hn hg hm hp wc wd tf qw cw fw h hv_h hR.s0.ok hR.ho2 hR.hn2 hR.hg2 hR.hm2 hR.hp2) kw_L_next ⟨Nat.le_of_ble_eq_true rfl, Nat.le_of_ble_eq_true rfl⟩ ⟨by show 23 + 7 * nn + 3 ≤ 601024; omega, by show 3071 + 42 * nn + 18 ≤ 7293034; omega⟩ hP hD hS hA hKO hl.1 rfl rfl (Nat.le_of_ble_eq_true rfl) dd_L_law_579 (fun o9 w9 H locs hxx hP hD hS => ?_)
  rcases hxx with ⟨h0, rfl, rfl⟩ | ⟨h0, rfl, rfl⟩
  · skip
    have hP : va_P G jcl (((wJ qJ qH qh cH qI qD qS qC cS cC s c ho hn hg hm (if hp h < jf_entries s (hn h) then ju hp h (hp h + 1) else hp) wc wd tf) ++ [(qw, .inl (cw, 1, .inr (.inl (vp_updL fw (nI 0).toNatClampNeg (lN ((if hp h < jf_entries s (hn h) then jf_entryName s (hn h) (hp h) else 0)))))))]) ++ wM qM qK qZ qN qB qY qi qo qm qp c1 c2 c3 c4 c5 c6 c7 c8 c9 K Z N B Y I O M P ct wr ofs th pa ey fo la) H := hP
    have hD : va_D A (((wJ qJ qH qh cH qI qD qS qC cS cC s c ho hn hg hm (if hp h < jf_entries s (hn h) then ju hp h (hp h + 1) else hp) wc wd tf) ++ [(qw, .inl (cw, 1, .inr (.inl (vp_updL fw (nI 0).toNatClampNeg (lN ((if hp h < jf_entries s (hn h) then jf_entryName s (hn h) (hp h) else 0)))))))]) ++ wM qM qK qZ qN qB qY qi qo qm qp c1 c2 c3 c4 c5 c6 c7 c8 c9 K Z N B Y I O M P ct wr ofs th pa ey fo la) := hD
    have hm0 : (jm_wrong K N I O M h 4 4) = 0 := by rw [← E.1, h0]; rfl
    refine lv_istore (lv' := [(5, .int (nI 0)), (4, .int (nI ii)), (0, .ref bb), (1, .ref qJ), (2, .ref qM), (3, .ref qw)]) hx hb dd_L_law_582 hl (by decide) rfl (fun ls hl => ?_)
    refine lv_aload_n hx hb dd_L_law_584 rfl (lv_at hl 4 rfl) ?_
    refine lv_aload_n hx hb dd_L_law_585 rfl (lv_at hl 2 rfl) ?_
    refine lv_iload hx hb dd_L_law_586 (lv_at hl 1 rfl) ?_
    refine lv_iconst (v := nI 1) hx hb dd_L_law_588 (by decide) ?_
    refine jl_iadd hx hb dd_L_law_589 ?_
    refine jl_sld hx hb hX hbl hbA hS (by omega) (by omega) dd_L_law_590 ?_
    refine jl_top (congrArg nI ev_h) ?_
    have hD := jw_permD List.perm_append_comm hD
    have hP := jw_permP List.perm_append_comm hP
    refine jm_callV C (ct_M_next l G qM qK qZ qN qB qY qi qo qm qp c1 c2 c3 c4 c5 c6 c7 c8 c9 K Z N B Y I O M P ct wr ofs th pa ey fo la h hv_h hR.s0.k3 hR.s0.n2 hR.i2 hR.o2 hR.m2 hR.s0.z6 hR.s0.y2 hR.p2) kl_L_105 ⟨Nat.le_of_ble_eq_true rfl, Nat.le_of_ble_eq_true rfl⟩ ⟨by show 23 + 7 * nn + 3 + 0 ≤ 601024; omega, by show 3071 + 42 * nn + 18 + 0 ≤ 7293034; omega⟩ hP hD hS hA hKM (va_recv hKM hP (ci := 4) (q0 := 0) rfl rfl) hl.1 rfl rfl (Nat.le_of_ble_eq_true rfl) dd_L_law_591 (fun H locs hP hD hS => ?_)
    simp only [if_pos hm0] at hP hD
    refine jl_top (congrArg nI (Eq.symm (show ((if hp h < jf_entries s (hn h) then jf_entryName s (hn h) (hp h) else 0)) = _ from (by rw [if_pos hm0]; exact (E.2 hm0).1)))) ?_
    refine lv_istore (lv' := [(6, .int (nI ((if hp h < jf_entries s (hn h) then jf_entryName s (hn h) (hp h) else 0)))), (5, .int (nI 0)), (4, .int (nI ii)), (0, .ref bb), (1, .ref qJ), (2, .ref qM), (3, .ref qw)]) hx hb dd_L_law_594 hl (by decide) rfl (fun ls hl => ?_)
    refine lv_aload_n hx hb dd_L_law_596 rfl (lv_at hl 5 rfl) ?_
    refine jr_callV C (ct_M_thrown l G _ _ _ _ _ _ _ _ _ _ _ _ _ _ _ _ _ _ _ _ _ _ _ _ _ _ _ _ _ _ _ _ _ _ _ _) kl_L_78 ⟨Nat.le_of_ble_eq_true rfl, Nat.le_of_ble_eq_true rfl, rfl, rfl⟩ ⟨by show 23 + 7 * nn + 3 + 0 ≤ 601024; omega, by show 3071 + 42 * nn + 18 + 0 ≤ 7293034; omega⟩ (jw_left hP) hKM (va_recv hKM hP (ci := 4) (q0 := 0) rfl rfl) hl.1 rfl rfl (Nat.le_of_ble_eq_true rfl) dd_L_law_597 ?_
    refine lv_iload hx hb dd_L_law_600 (lv_at hl 1 rfl) ?_
    refine lv_icmp_eq (tgt := 607) hx hb dd_L_law_602 (by decide) (fun _ => ?_) (fun h9 => absurd (show nI (jm_wrong K N I O M h 4 4) = nI 0 from by rw [hm0]) h9)
    refine lv_iload hx hb dd_L_law_607 (lv_at hl 1 rfl) ?_
    refine lv_if_ne (tgt := 624) hx hb dd_L_law_609 (by decide) (fun h9 => absurd nI_0 h9) (fun _ => ?_)
    refine lv_aload_n hx hb dd_L_law_612 rfl (lv_at hl 6 rfl) ?_
    refine lv_iconst (v := nI 0) hx hb dd_L_law_613 (by decide) ?_
    refine va_lald hx hb hKO hP 22 3 rfl rfl (vp_in_nI (by decide) (by decide)) dd_L_law_614 ?_
    refine jl_topL pk_uLs ?_
    refine lv_iload hx hb dd_L_law_615 (lv_at hl 0 rfl) ?_
    refine jl_i2l hx hb (jk_nextv hR.s0.ok _ _ _) dd_L_law_617 ?_
    refine W.lcmp hx hb dd_L_law_618 ?_
    refine jl_top (jx_cmp0 _) ?_
    refine lv_if_eq (tgt := 624) hx hb dd_L_law_619 (by decide) (fun _ => ?_) (fun h9 => absurd nI_0 h9)
    refine lv_goto (tgt := 1039) hx hb dd_L_law_624 (by decide) ?_
    have hD := jw_permD List.perm_append_comm hD
    have hP := jw_permP List.perm_append_comm hP
    refine W.widen (by show 23 + 7 * nn + 3 + 0 ≤ 23 + 7 * (nn + 1); omega) (by show 3071 + 42 * nn + 18 + 0 ≤ 3071 + 42 * (nn + 1); omega) ?_
    exact nx _ _ _ _ _ _ _ _ _ _ _ _ _ _ _ _ _ _ _ _ _ _ _ _ _ _ _ _ _ _ _ (E.2 hm0).2 (by omega) (by omega) hP hD hS (lv_sub hl [2, 3, 4, 5, 6] rfl)
  · skip
    have hP : va_P G jcl (((wJ qJ qH qh cH qI qD qS qC cS cC s c ho hn hg hm hp wc wd tf) ++ [(qw, .inl (cw, 1, .inr (.inl fw)))]) ++ wM qM qK qZ qN qB qY qi qo qm qp c1 c2 c3 c4 c5 c6 c7 c8 c9 K Z N B Y I O M P ct wr ofs th pa ey fo la) H := hP
    have hD : va_D A (((wJ qJ qH qh cH qI qD qS qC cS cC s c ho hn hg hm hp wc wd tf) ++ [(qw, .inl (cw, 1, .inr (.inl fw)))]) ++ wM qM qK qZ qN qB qY qi qo qm qp c1 c2 c3 c4 c5 c6 c7 c8 c9 K Z N B Y I O M P ct wr ofs th pa ey fo la) := hD
    have hm0 : ¬ (jm_wrong K N I O M h 4 4) = 0 := by rw [← E.1]; exact je_m_ne h0
    refine lv_istore (lv' := [(5, .int (nI (je_m ((jf_nextT s ho hn hg hm h))))), (4, .int (nI ii)), (0, .ref bb), (1, .ref qJ), (2, .ref qM), (3, .ref qw)]) hx hb dd_L_law_582 hl (by decide) rfl (fun ls hl => ?_)
    refine lv_aload_n hx hb dd_L_law_584 rfl (lv_at hl 4 rfl) ?_
    refine lv_aload_n hx hb dd_L_law_585 rfl (lv_at hl 2 rfl) ?_
    refine lv_iload hx hb dd_L_law_586 (lv_at hl 1 rfl) ?_
    refine lv_iconst (v := nI 1) hx hb dd_L_law_588 (by decide) ?_
    refine jl_iadd hx hb dd_L_law_589 ?_
    refine jl_sld hx hb hX hbl hbA hS (by omega) (by omega) dd_L_law_590 ?_
    refine jl_top (congrArg nI ev_h) ?_
    have hD := jw_permD List.perm_append_comm hD
    have hP := jw_permP List.perm_append_comm hP
    refine jm_callV C (ct_M_next l G qM qK qZ qN qB qY qi qo qm qp c1 c2 c3 c4 c5 c6 c7 c8 c9 K Z N B Y I O M P ct wr ofs th pa ey fo la h hv_h hR.s0.k3 hR.s0.n2 hR.i2 hR.o2 hR.m2 hR.s0.z6 hR.s0.y2 hR.p2) kl_L_105 ⟨Nat.le_of_ble_eq_true rfl, Nat.le_of_ble_eq_true rfl⟩ ⟨by show 23 + 7 * nn + 3 + 0 ≤ 601024; omega, by show 3071 + 42 * nn + 18 + 0 ≤ 7293034; omega⟩ hP hD hS hA hKM (va_recv hKM hP (ci := 4) (q0 := 0) rfl rfl) hl.1 rfl rfl (Nat.le_of_ble_eq_true rfl) dd_L_law_591 (fun H locs hP hD hS => ?_)
    simp only [if_neg hm0] at hP hD
    refine lv_istore (lv' := (6, _) :: [(5, .int (nI (je_m ((jf_nextT s ho hn hg hm h))))), (4, .int (nI ii)), (0, .ref bb), (1, .ref qJ), (2, .ref qM), (3, .ref qw)]) hx hb dd_L_law_594 hl (by decide) rfl (fun ls hl => ?_)
    refine lv_aload_n hx hb dd_L_law_596 rfl (lv_at hl 5 rfl) ?_
    refine jr_callV C (ct_M_thrown l G _ _ _ _ _ _ _ _ _ _ _ _ _ _ _ _ _ _ _ _ _ _ _ _ _ _ _ _ _ _ _ _ _ _ _ _) kl_L_78 ⟨Nat.le_of_ble_eq_true rfl, Nat.le_of_ble_eq_true rfl, rfl, rfl⟩ ⟨by show 23 + 7 * nn + 3 + 0 ≤ 601024; omega, by show 3071 + 42 * nn + 18 + 0 ≤ 7293034; omega⟩ (jw_left hP) hKM (va_recv hKM hP (ci := 4) (q0 := 0) rfl rfl) hl.1 rfl rfl (Nat.le_of_ble_eq_true rfl) dd_L_law_597 ?_
    refine lv_iload hx hb dd_L_law_600 (lv_at hl 1 rfl) ?_
    refine lv_icmp_eq (tgt := 607) hx hb dd_L_law_602 (by decide) (fun _ => ?_) (fun h9 => absurd (show nI (jm_wrong K N I O M h 4 4) = nI (je_m ((jf_nextT s ho hn hg hm h))) from by rw [← E.1]) h9)
    refine lv_iload hx hb dd_L_law_607 (lv_at hl 1 rfl) ?_
    refine lv_if_ne (tgt := 624) hx hb dd_L_law_609 (by decide) (fun _ => ?_) (fun h9 => absurd h9 (jx_ne0 (je_m_ne h0) (by have := jk_next s ho hn hg hm h; have := je_m_le ((jf_nextT s ho hn hg hm h)); omega)))
    refine lv_goto (tgt := 1039) hx hb dd_L_law_624 (by decide) ?_
    have hD := jw_permD List.perm_append_comm hD
    have hP := jw_permP List.perm_append_comm hP
    refine W.widen (by show 23 + 7 * nn + 3 + 0 ≤ 23 + 7 * (nn + 1); omega) (by show 3071 + 42 * nn + 18 + 0 ≤ 3071 + 42 * (nn + 1); omega) ?_
    exact nx _ _ _ _ _ _ _ _ _ _ _ _ _ _ _ _ _ _ _ _ _ _ _ _ _ _ _ _ _ _ _ hR (by omega) (by omega) hP hD hS (lv_sub hl [2, 3, 4, 5, 6] rfl)

set_option maxHeartbeats 4000000 in
set_option maxRecDepth 100000 in
theorem lw_case_remove {p : Program} {l : Launch} {e : Env} {σ : State} {m : MethodId} {below : List Frame} {meth : Method} {cd : Code} {bb L : Nat} {xs : Nat → Int32} {G : va_G} {A : Nat → Prop} {qJ qH : Nat} {qh : Nat → Nat} {cH : ClassId} {qI qD qS qC : Nat} {cS cC : ClassId} {qw : Nat} {cw : ClassId} {qM qK qZ qN qB qY qi qo qm qp : Nat} {c1 c2 c3 c4 c5 c6 c7 c8 c9 : ClassId} {Q : State → Prop} {ii nn : Nat} (hl9 : l.stackTraces = false) (C : jx p σ m #[Value.ref bb] meth cd cn_L code 8 ret) (hz : jz A σ σ.heap) (hy : jy σ) (hKO : va_K G jcl (tJ cS cC cH ++ [(cw, .long)]) σ) (hKM : va_K G jcl (tM c1 c2 c3 c4 c5 c6 c7 c8 c9) σ) (hX : va_X bb L xs σ σ.heap) (hbl : bb < σ.heap.size) (hbA : ¬ A bb) (hA : ∀ q : Nat, σ.heap.size ≤ q → A q) (hL : L ≤ 3072) (hii : ii + 6 ≤ L) (hnn : nn < 512) (nx : lw_nx p l e σ m below meth cd bb L xs G A qJ qH qh cH qI qD qS qC cS cC qw cw qM qK qZ qN qB qY qi qo qm qp c1 c2 c3 c4 c5 c6 c7 c8 c9 Q ii nn) {H : Heap} {locs : List Loc} {ls : Array Slot} {fw : Nat → Int64} {s c ho hn hg hm hp : Nat → Nat} {wc wd tf : Nat} {K Z N B Y I O M P : Nat → Nat} {ct wr ofs th : Nat} {pa ey fo : Option Nat} {la : Nat} (hR : je_R s c ho hn hg hm hp wc wd tf K Z N B Y I O M P ct wr ofs) (hw : wr ≤ 81 * nn) (hof : ofs ≤ nn) (hP : va_P G jcl ((wJ qJ qH qh cH qI qD qS qC cS cC s c ho hn hg hm hp wc wd tf ++ [(qw, .inl (cw, 1, .inr (.inl fw)))]) ++ wM qM qK qZ qN qB qY qi qo qm qp c1 c2 c3 c4 c5 c6 c7 c8 c9 K Z N B Y I O M P ct wr ofs th pa ey fo la) H) (hD : va_D A ((wJ qJ qH qh cH qI qD qS qC cS cC s c ho hn hg hm hp wc wd tf ++ [(qw, .inl (cw, 1, .inr (.inl fw)))]) ++ wM qM qK qZ qN qB qY qi qo qm qp c1 c2 c3 c4 c5 c6 c7 c8 c9 K Z N B Y I O M P ct wr ofs th pa ey fo la)) (hS : va_S A σ.heap H locs) (hl : lv_has ls 8 [(4, .int (nI ii)), (0, .ref bb), (1, .ref qJ), (2, .ref qM), (3, .ref qw)]) : W p l e room_1 σ m #[Value.ref bb] below meth cd H locs (23 + 7 * nn) (3071 + 42 * nn) Q (F0 m 627 ls []) := by
  have hx := C.1
  have hb := C.2.1
  have hown := C.2.2.2.1
  have hts := C.2.2.2.2.1
  have hKJ : va_K G jcl (tJ cS cC cH) σ := hKO.sub [0, 1, 2] rfl
  obtain ⟨u, hv_u, ev_u⟩ : ∃ u, u < 4294967296 ∧ jI (xs (ii + 1)) = u := ⟨_, jI_lt _, rfl⟩
  refine lv_aload_n hx hb dd_L_law_627 rfl (lv_at hl 2 rfl) ?_
  refine lv_aload_n hx hb dd_L_law_628 rfl (lv_at hl 1 rfl) ?_
  refine lv_iload hx hb dd_L_law_629 (lv_at hl 0 rfl) ?_
  refine lv_iconst (v := nI 1) hx hb dd_L_law_631 (by decide) ?_
  refine jl_iadd hx hb dd_L_law_632 ?_
  refine jl_sld hx hb hX hbl hbA hS (by omega) (by omega) dd_L_law_633 ?_
  refine jl_top (congrArg nI ev_u) ?_
  have E := je_remove hR (m := 40) hv_u (by decide)
  refine jL_callS (wr := [(qw, .inl (cw, 1, .inr (.inl fw)))] ++ wM qM qK qZ qN qB qY qi qo qm qp c1 c2 c3 c4 c5 c6 c7 c8 c9 K Z N B Y I O M P ct wr ofs th pa ey fo la) C hz hy (ct_L_remove l hl9 G qJ qH qh cH qI qD qS qC cS cC s c ho hn hg hm hp wc wd tf u hv_u hR.s0.ok) kw_L_remove ⟨Nat.le_of_ble_eq_true rfl, Nat.le_of_ble_eq_true rfl⟩ ⟨by show 23 + 7 * nn + 4 ≤ 601024; omega, by show 3071 + 42 * nn + 24 ≤ 7293034; omega⟩ hP hD hS hA hKJ hl.1 rfl rfl (Nat.le_of_ble_eq_true rfl) dd_L_law_634 (fun o9 w9 H locs hxx hP hD hS => ?_)
  rcases hxx with ⟨h0, rfl, rfl⟩ | ⟨h0, rfl, rfl⟩
  · skip
    have hP : va_P G jcl (((wJ qJ qH qh cH qI qD qS qC cS cC (jf_vacate (jf_dropEntry s ((jf_inodeAt s (u / 2 ^ 8)).getD 0) (u % 256)) ((jf_inodeAt s u).getD 0)) c ho hn hg hm hp wc wd tf) ++ [(qw, .inl (cw, 1, .inr (.inl fw)))]) ++ wM qM qK qZ qN qB qY qi qo qm qp c1 c2 c3 c4 c5 c6 c7 c8 c9 K Z N B Y I O M P ct wr ofs th pa ey fo la) H := hP
    have hD : va_D A (((wJ qJ qH qh cH qI qD qS qC cS cC (jf_vacate (jf_dropEntry s ((jf_inodeAt s (u / 2 ^ 8)).getD 0) (u % 256)) ((jf_inodeAt s u).getD 0)) c ho hn hg hm hp wc wd tf) ++ [(qw, .inl (cw, 1, .inr (.inl fw)))]) ++ wM qM qK qZ qN qB qY qi qo qm qp c1 c2 c3 c4 c5 c6 c7 c8 c9 K Z N B Y I O M P ct wr ofs th pa ey fo la) := hD
    have hm0 : (jm_rmT K Z Y u) = 0 := by rw [← E.1, h0]
    refine lv_istore (lv' := [(5, .int (nI 0)), (4, .int (nI ii)), (0, .ref bb), (1, .ref qJ), (2, .ref qM), (3, .ref qw)]) hx hb dd_L_law_637 hl (by decide) rfl (fun ls hl => ?_)
    refine lv_aload_n hx hb dd_L_law_639 rfl (lv_at hl 4 rfl) ?_
    refine lv_aload_n hx hb dd_L_law_640 rfl (lv_at hl 2 rfl) ?_
    refine lv_iload hx hb dd_L_law_641 (lv_at hl 1 rfl) ?_
    refine lv_iconst (v := nI 1) hx hb dd_L_law_643 (by decide) ?_
    refine jl_iadd hx hb dd_L_law_644 ?_
    refine jl_sld hx hb hX hbl hbA hS (by omega) (by omega) dd_L_law_645 ?_
    refine jl_top (congrArg nI ev_u) ?_
    have hD := jw_permD List.perm_append_comm hD
    have hP := jw_permP List.perm_append_comm hP
    refine jm_callV C (ct_M_remove l G qM qK qZ qN qB qY qi qo qm qp c1 c2 c3 c4 c5 c6 c7 c8 c9 K Z N B Y I O M P ct wr ofs th pa ey fo la u 40 hv_u hR.s0.v.ents (by decide) hR.s0.b4 hR.s0.k3 hR.s0.z6 hR.s0.y2) kl_L_108 ⟨Nat.le_of_ble_eq_true rfl, Nat.le_of_ble_eq_true rfl⟩ ⟨by show 23 + 7 * nn + 4 + 0 ≤ 601024; omega, by show 3071 + 42 * nn + 24 + 0 ≤ 7293034; omega⟩ hP hD hS hA hKM (va_recv hKM hP (ci := 4) (q0 := 0) rfl rfl) hl.1 rfl rfl (Nat.le_of_ble_eq_true rfl) dd_L_law_646 (fun H locs hP hD hS => ?_)
    simp only [if_pos hm0] at hP hD
    refine lv_aload_n hx hb dd_L_law_649 rfl (lv_at hl 4 rfl) ?_
    refine jr_callV C (ct_M_thrown l G _ _ _ _ _ _ _ _ _ _ _ _ _ _ _ _ _ _ _ _ _ _ _ _ _ _ _ _ _ _ _ _ _ _ _ _) kl_L_78 ⟨Nat.le_of_ble_eq_true rfl, Nat.le_of_ble_eq_true rfl, rfl, rfl⟩ ⟨by show 23 + 7 * nn + 4 + 0 ≤ 601024; omega, by show 3071 + 42 * nn + 24 + 0 ≤ 7293034; omega⟩ (jw_left hP) hKM (va_recv hKM hP (ci := 4) (q0 := 0) rfl rfl) hl.1 rfl rfl (Nat.le_of_ble_eq_true rfl) dd_L_law_650 ?_
    refine lv_iload hx hb dd_L_law_653 (lv_at hl 0 rfl) ?_
    refine lv_icmp_eq (tgt := 660) hx hb dd_L_law_655 (by decide) (fun _ => ?_) (fun h9 => absurd (show nI (jm_rmT K Z Y u) = nI 0 from by rw [hm0]) h9)
    refine lv_goto (tgt := 1039) hx hb dd_L_law_660 (by decide) ?_
    have hD := jw_permD List.perm_append_comm hD
    have hP := jw_permP List.perm_append_comm hP
    refine W.widen (by show 23 + 7 * nn + 4 + 0 ≤ 23 + 7 * (nn + 1); omega) (by show 3071 + 42 * nn + 24 + 0 ≤ 3071 + 42 * (nn + 1); omega) ?_
    exact nx _ _ _ _ _ _ _ _ _ _ _ _ _ _ _ _ _ _ _ _ _ _ _ _ _ _ _ _ _ _ _ (E.2 hm0) (by omega) (by omega) hP hD hS (lv_sub hl [1, 2, 3, 4, 5] rfl)
  · skip
    have hP : va_P G jcl (((wJ qJ qH qh cH qI qD qS qC cS cC s c ho hn hg hm hp wc wd tf) ++ [(qw, .inl (cw, 1, .inr (.inl fw)))]) ++ wM qM qK qZ qN qB qY qi qo qm qp c1 c2 c3 c4 c5 c6 c7 c8 c9 K Z N B Y I O M P ct wr ofs th pa ey fo la) H := hP
    have hD : va_D A (((wJ qJ qH qh cH qI qD qS qC cS cC s c ho hn hg hm hp wc wd tf) ++ [(qw, .inl (cw, 1, .inr (.inl fw)))]) ++ wM qM qK qZ qN qB qY qi qo qm qp c1 c2 c3 c4 c5 c6 c7 c8 c9 K Z N B Y I O M P ct wr ofs th pa ey fo la) := hD
    have hm0 : ¬ (jm_rmT K Z Y u) = 0 := by rw [← E.1]; exact h0
    refine lv_istore (lv' := [(5, .int (nI ((jf_rmT s u)))), (4, .int (nI ii)), (0, .ref bb), (1, .ref qJ), (2, .ref qM), (3, .ref qw)]) hx hb dd_L_law_637 hl (by decide) rfl (fun ls hl => ?_)
    refine lv_aload_n hx hb dd_L_law_639 rfl (lv_at hl 4 rfl) ?_
    refine lv_aload_n hx hb dd_L_law_640 rfl (lv_at hl 2 rfl) ?_
    refine lv_iload hx hb dd_L_law_641 (lv_at hl 1 rfl) ?_
    refine lv_iconst (v := nI 1) hx hb dd_L_law_643 (by decide) ?_
    refine jl_iadd hx hb dd_L_law_644 ?_
    refine jl_sld hx hb hX hbl hbA hS (by omega) (by omega) dd_L_law_645 ?_
    refine jl_top (congrArg nI ev_u) ?_
    have hD := jw_permD List.perm_append_comm hD
    have hP := jw_permP List.perm_append_comm hP
    refine jm_callV C (ct_M_remove l G qM qK qZ qN qB qY qi qo qm qp c1 c2 c3 c4 c5 c6 c7 c8 c9 K Z N B Y I O M P ct wr ofs th pa ey fo la u 40 hv_u hR.s0.v.ents (by decide) hR.s0.b4 hR.s0.k3 hR.s0.z6 hR.s0.y2) kl_L_108 ⟨Nat.le_of_ble_eq_true rfl, Nat.le_of_ble_eq_true rfl⟩ ⟨by show 23 + 7 * nn + 4 + 0 ≤ 601024; omega, by show 3071 + 42 * nn + 24 + 0 ≤ 7293034; omega⟩ hP hD hS hA hKM (va_recv hKM hP (ci := 4) (q0 := 0) rfl rfl) hl.1 rfl rfl (Nat.le_of_ble_eq_true rfl) dd_L_law_646 (fun H locs hP hD hS => ?_)
    simp only [if_neg hm0] at hP hD
    refine lv_aload_n hx hb dd_L_law_649 rfl (lv_at hl 4 rfl) ?_
    refine jr_callV C (ct_M_thrown l G _ _ _ _ _ _ _ _ _ _ _ _ _ _ _ _ _ _ _ _ _ _ _ _ _ _ _ _ _ _ _ _ _ _ _ _) kl_L_78 ⟨Nat.le_of_ble_eq_true rfl, Nat.le_of_ble_eq_true rfl, rfl, rfl⟩ ⟨by show 23 + 7 * nn + 4 + 0 ≤ 601024; omega, by show 3071 + 42 * nn + 24 + 0 ≤ 7293034; omega⟩ (jw_left hP) hKM (va_recv hKM hP (ci := 4) (q0 := 0) rfl rfl) hl.1 rfl rfl (Nat.le_of_ble_eq_true rfl) dd_L_law_650 ?_
    refine lv_iload hx hb dd_L_law_653 (lv_at hl 0 rfl) ?_
    refine lv_icmp_eq (tgt := 660) hx hb dd_L_law_655 (by decide) (fun _ => ?_) (fun h9 => absurd (show nI (jm_rmT K Z Y u) = nI ((jf_rmT s u)) from by rw [← E.1]) h9)
    refine lv_goto (tgt := 1039) hx hb dd_L_law_660 (by decide) ?_
    have hD := jw_permD List.perm_append_comm hD
    have hP := jw_permP List.perm_append_comm hP
    refine W.widen (by show 23 + 7 * nn + 4 + 0 ≤ 23 + 7 * (nn + 1); omega) (by show 3071 + 42 * nn + 24 + 0 ≤ 3071 + 42 * (nn + 1); omega) ?_
    exact nx _ _ _ _ _ _ _ _ _ _ _ _ _ _ _ _ _ _ _ _ _ _ _ _ _ _ _ _ _ _ _ hR (by omega) (by omega) hP hD hS (lv_sub hl [1, 2, 3, 4, 5] rfl)

