theorem je_m_ne {t : Nat} (h : ¬ t = 0) : ¬ je_m t = 0 := by
  unfold je_m
  split
  · decide
  · split
    · decide
    · exact h
theorem je_m_le (t : Nat) : je_m t ≤ t := by
  unfold je_m
  split
  · omega
  · split <;> omega
theorem je_cmW {s c ho hn hg hm hp : Nat → Nat} {wc wd tf : Nat} {K Z N B Y I O M P : Nat → Nat} {ct wr ofs n : Nat} (r : je_R s c ho hn hg hm hp wc wd tf K Z N B Y I O M P ct wr ofs) (h : wr ≤ 81 * n) : jm_cmW (jm_differing K Z N B Y) ct wr ≤ 81 * (n + 1) := by
  have h1 := jm_differing_le K Z N B Y
  have h2 := r.cl
  unfold jm_cmW
  repeat' split
  all_goals omega
theorem je_cmO {ofs n : Nat} (h : ofs ≤ n) (d ct : Nat) : jm_cmO d ct ofs ≤ n + 1 := by
  unfold jm_cmO
  repeat' split
  all_goals omega

theorem tc_L_ldc : Cond.constantLong cn_L 89 4294967295 ∈ jb := jb_t (List.mem_append_right _ (List.mem_append_right _ (List.mem_append_right _ (List.mem_of_getElem? (i := 91) rfl)))) rfl
def lw_nx (p : Program) (l : Launch) (e : Env) (σ : State) (m : MethodId) (below : List Frame) (meth : Method) (cd : Code) (bb L : Nat) (xs : Nat → Int32) (G : va_G) (A : Nat → Prop) (qJ qH : Nat) (qh : Nat → Nat) (cH : ClassId) (qI qD qS qC : Nat) (cS cC : ClassId) (qw : Nat) (cw : ClassId) (qM qK qZ qN qB qY qi qo qm qp : Nat) (c1 c2 c3 c4 c5 c6 c7 c8 c9 : ClassId) (Q : State → Prop) (ii nn : Nat) : Prop := ∀ (H : Heap) (locs : List Loc) (ls : Array Slot) (fw : Nat → Int64) (s c ho hn hg hm hp : Nat → Nat) (wc wd tf : Nat) (K Z N B Y I O M P : Nat → Nat) (ct wr ofs th : Nat) (pa ey fo : Option Nat) (la : Nat), je_R s c ho hn hg hm hp wc wd tf K Z N B Y I O M P ct wr ofs → wr ≤ 81 * (nn + 1) → ofs ≤ nn + 1 → va_P G jcl ((wJ qJ qH qh cH qI qD qS qC cS cC s c ho hn hg hm hp wc wd tf ++ [(qw, .inl (cw, 1, .inr (.inl fw)))]) ++ wM qM qK qZ qN qB qY qi qo qm qp c1 c2 c3 c4 c5 c6 c7 c8 c9 K Z N B Y I O M P ct wr ofs th pa ey fo la) H → va_D A ((wJ qJ qH qh cH qI qD qS qC cS cC s c ho hn hg hm hp wc wd tf ++ [(qw, .inl (cw, 1, .inr (.inl fw)))]) ++ wM qM qK qZ qN qB qY qi qo qm qp c1 c2 c3 c4 c5 c6 c7 c8 c9 K Z N B Y I O M P ct wr ofs th pa ey fo la) → va_S A σ.heap H locs → lv_has ls 8 [(4, .int (nI ii)), (0, .ref bb), (1, .ref qJ), (2, .ref qM), (3, .ref qw)] → W p l e room_1 σ m #[Value.ref bb] below meth cd H locs (23 + 7 * (nn + 1)) (3071 + 42 * (nn + 1)) Q (F0 m 1039 ls [])
set_option maxHeartbeats 4000000 in
set_option maxRecDepth 100000 in
theorem lw_case_directory {p : Program} {l : Launch} {e : Env} {σ : State} {m : MethodId} {below : List Frame} {meth : Method} {cd : Code} {bb L : Nat} {xs : Nat → Int32} {G : va_G} {A : Nat → Prop} {qJ qH : Nat} {qh : Nat → Nat} {cH : ClassId} {qI qD qS qC : Nat} {cS cC : ClassId} {qw : Nat} {cw : ClassId} {qM qK qZ qN qB qY qi qo qm qp : Nat} {c1 c2 c3 c4 c5 c6 c7 c8 c9 : ClassId} {Q : State → Prop} {ii nn : Nat} (hl9 : l.stackTraces = false) (C : jx p σ m #[Value.ref bb] meth cd cn_L code 8 ret) (hz : jz A σ σ.heap) (hy : jy σ) (hKO : va_K G jcl (tJ cS cC cH ++ [(cw, .long)]) σ) (hKM : va_K G jcl (tM c1 c2 c3 c4 c5 c6 c7 c8 c9) σ) (hX : va_X bb L xs σ σ.heap) (hbl : bb < σ.heap.size) (hbA : ¬ A bb) (hA : ∀ q : Nat, σ.heap.size ≤ q → A q) (hL : L ≤ 3072) (hii : ii + 6 ≤ L) (hnn : nn < 512) (nx : lw_nx p l e σ m below meth cd bb L xs G A qJ qH qh cH qI qD qS qC cS cC qw cw qM qK qZ qN qB qY qi qo qm qp c1 c2 c3 c4 c5 c6 c7 c8 c9 Q ii nn) {H : Heap} {locs : List Loc} {ls : Array Slot} {fw : Nat → Int64} {s c ho hn hg hm hp : Nat → Nat} {wc wd tf : Nat} {K Z N B Y I O M P : Nat → Nat} {ct wr ofs th : Nat} {pa ey fo : Option Nat} {la : Nat} (hR : je_R s c ho hn hg hm hp wc wd tf K Z N B Y I O M P ct wr ofs) (hw : wr ≤ 81 * nn) (hof : ofs ≤ nn) (hP : va_P G jcl ((wJ qJ qH qh cH qI qD qS qC cS cC s c ho hn hg hm hp wc wd tf ++ [(qw, .inl (cw, 1, .inr (.inl fw)))]) ++ wM qM qK qZ qN qB qY qi qo qm qp c1 c2 c3 c4 c5 c6 c7 c8 c9 K Z N B Y I O M P ct wr ofs th pa ey fo la) H) (hD : va_D A ((wJ qJ qH qh cH qI qD qS qC cS cC s c ho hn hg hm hp wc wd tf ++ [(qw, .inl (cw, 1, .inr (.inl fw)))]) ++ wM qM qK qZ qN qB qY qi qo qm qp c1 c2 c3 c4 c5 c6 c7 c8 c9 K Z N B Y I O M P ct wr ofs th pa ey fo la)) (hS : va_S A σ.heap H locs) (hl : lv_has ls 8 [(4, .int (nI ii)), (0, .ref bb), (1, .ref qJ), (2, .ref qM), (3, .ref qw)]) : W p l e room_1 σ m #[Value.ref bb] below meth cd H locs (23 + 7 * nn) (3071 + 42 * nn) Q (F0 m 120 ls []) := by
  have hx := C.1
  have hb := C.2.1
  have hown := C.2.2.2.1
  have hts := C.2.2.2.2.1
  have hKJ : va_K G jcl (tJ cS cC cH) σ := hKO.sub [0, 1, 2] rfl
  obtain ⟨u, hv_u, ev_u⟩ : ∃ u, u < 4294967296 ∧ jI (xs (ii + 1)) = u := ⟨_, jI_lt _, rfl⟩
  refine lv_aload_n hx hb dd_L_law_120 rfl (lv_at hl 2 rfl) ?_
  refine lv_aload_n hx hb dd_L_law_121 rfl (lv_at hl 1 rfl) ?_
  refine lv_iload hx hb dd_L_law_122 (lv_at hl 0 rfl) ?_
  refine lv_iconst (v := nI 1) hx hb dd_L_law_124 (by decide) ?_
  refine jl_iadd hx hb dd_L_law_125 ?_
  refine jl_sld hx hb hX hbl hbA hS (by omega) (by omega) dd_L_law_126 ?_
  refine jl_top (congrArg nI ev_u) ?_
  refine lv_aload_n hx hb dd_L_law_127 rfl (lv_at hl 4 rfl) ?_
  have E := je_dir hR (m := 40) hv_u (by decide)
  refine jL_callS (wr := wM qM qK qZ qN qB qY qi qo qm qp c1 c2 c3 c4 c5 c6 c7 c8 c9 K Z N B Y I O M P ct wr ofs th pa ey fo la) C hz hy (ct_L_directory l hl9 G qJ qH qh cH qI qD qS qC cS cC s c ho hn hg hm hp wc wd tf qw cw fw u hv_u hR.s0.ok) kw_L_directory ⟨Nat.le_of_ble_eq_true rfl, Nat.le_of_ble_eq_true rfl⟩ ⟨by show 23 + 7 * nn + 4 ≤ 601024; omega, by show 3071 + 42 * nn + 24 ≤ 7293034; omega⟩ hP hD hS hA hKO hl.1 rfl rfl (Nat.le_of_ble_eq_true rfl) dd_L_law_128 (fun o9 w9 H locs hxx hP hD hS => ?_)
  rcases hxx with ⟨h0, rfl, rfl⟩ | ⟨h0, rfl, rfl⟩
  · skip
    have hP : va_P G jcl (((wJ qJ qH qh cH qI qD qS qC cS cC (jf_new s ((jf_inodeAt s (u / 2 ^ 8)).getD 0) (u % 256) 2) c ho hn hg hm hp wc wd tf) ++ [(qw, .inl (cw, 1, .inr (.inl (vp_updL fw (nI 0).toNatClampNeg (lN (((jf_leastFree s).getD 0)))))))]) ++ wM qM qK qZ qN qB qY qi qo qm qp c1 c2 c3 c4 c5 c6 c7 c8 c9 K Z N B Y I O M P ct wr ofs th pa ey fo la) H := hP
    have hD : va_D A (((wJ qJ qH qh cH qI qD qS qC cS cC (jf_new s ((jf_inodeAt s (u / 2 ^ 8)).getD 0) (u % 256) 2) c ho hn hg hm hp wc wd tf) ++ [(qw, .inl (cw, 1, .inr (.inl (vp_updL fw (nI 0).toNatClampNeg (lN (((jf_leastFree s).getD 0)))))))]) ++ wM qM qK qZ qN qB qY qi qo qm qp c1 c2 c3 c4 c5 c6 c7 c8 c9 K Z N B Y I O M P ct wr ofs th pa ey fo la) := hD
    have hm0 : (jm_diT K Z B Y u) = 0 := by rw [← E.1, h0]
    refine lv_istore (lv' := [(5, .int (nI 0)), (4, .int (nI ii)), (0, .ref bb), (1, .ref qJ), (2, .ref qM), (3, .ref qw)]) hx hb dd_L_law_131 hl (by decide) rfl (fun ls hl => ?_)
    refine lv_aload_n hx hb dd_L_law_133 rfl (lv_at hl 4 rfl) ?_
    refine lv_aload_n hx hb dd_L_law_134 rfl (lv_at hl 2 rfl) ?_
    refine lv_iload hx hb dd_L_law_135 (lv_at hl 1 rfl) ?_
    refine lv_iconst (v := nI 1) hx hb dd_L_law_137 (by decide) ?_
    refine jl_iadd hx hb dd_L_law_138 ?_
    refine jl_sld hx hb hX hbl hbA hS (by omega) (by omega) dd_L_law_139 ?_
    refine jl_top (congrArg nI ev_u) ?_
    have hD := jw_permD List.perm_append_comm hD
    have hP := jw_permP List.perm_append_comm hP
    refine jm_callV C (ct_M_directory l G qM qK qZ qN qB qY qi qo qm qp c1 c2 c3 c4 c5 c6 c7 c8 c9 K Z N B Y I O M P ct wr ofs th pa ey fo la u 40 hv_u hR.s0.v.ents (by decide) hR.s0.b4 hR.s0.k3 hR.s0.z6 hR.s0.n2 hR.s0.y2) kl_L_77 ⟨Nat.le_of_ble_eq_true rfl, Nat.le_of_ble_eq_true rfl⟩ ⟨by show 23 + 7 * nn + 4 + 0 ≤ 601024; omega, by show 3071 + 42 * nn + 24 + 0 ≤ 7293034; omega⟩ hP hD hS hA hKM (va_recv hKM hP (ci := 4) (q0 := 0) rfl rfl) hl.1 rfl rfl (Nat.le_of_ble_eq_true rfl) dd_L_law_140 (fun H locs hP hD hS => ?_)
    simp only [if_pos hm0] at hP hD
    refine jl_top (congrArg nI (Eq.symm (show (((jf_leastFree s).getD 0)) = _ from (by rw [if_pos hm0]; exact (E.2 hm0).1)))) ?_
    refine lv_istore (lv' := [(6, .int (nI (((jf_leastFree s).getD 0)))), (5, .int (nI 0)), (4, .int (nI ii)), (0, .ref bb), (1, .ref qJ), (2, .ref qM), (3, .ref qw)]) hx hb dd_L_law_143 hl (by decide) rfl (fun ls hl => ?_)
    refine lv_aload_n hx hb dd_L_law_145 rfl (lv_at hl 5 rfl) ?_
    refine jr_callV C (ct_M_thrown l G _ _ _ _ _ _ _ _ _ _ _ _ _ _ _ _ _ _ _ _ _ _ _ _ _ _ _ _ _ _ _ _ _ _ _ _) kl_L_78 ⟨Nat.le_of_ble_eq_true rfl, Nat.le_of_ble_eq_true rfl, rfl, rfl⟩ ⟨by show 23 + 7 * nn + 4 + 0 ≤ 601024; omega, by show 3071 + 42 * nn + 24 + 0 ≤ 7293034; omega⟩ (jw_left hP) hKM (va_recv hKM hP (ci := 4) (q0 := 0) rfl rfl) hl.1 rfl rfl (Nat.le_of_ble_eq_true rfl) dd_L_law_146 ?_
    refine lv_iload hx hb dd_L_law_149 (lv_at hl 1 rfl) ?_
    refine lv_icmp_eq (tgt := 156) hx hb dd_L_law_151 (by decide) (fun _ => ?_) (fun h9 => absurd (show nI (jm_diT K Z B Y u) = nI 0 from by rw [hm0]) h9)
    refine lv_iload hx hb dd_L_law_156 (lv_at hl 1 rfl) ?_
    refine lv_if_ne (tgt := 173) hx hb dd_L_law_158 (by decide) (fun h9 => absurd nI_0 h9) (fun _ => ?_)
    refine lv_aload_n hx hb dd_L_law_161 rfl (lv_at hl 6 rfl) ?_
    refine lv_iconst (v := nI 0) hx hb dd_L_law_162 (by decide) ?_
    refine va_lald hx hb hKO hP 22 3 rfl rfl (vp_in_nI (by decide) (by decide)) dd_L_law_163 ?_
    refine jl_topL pk_uLs ?_
    refine lv_iload hx hb dd_L_law_164 (lv_at hl 0 rfl) ?_
    refine jl_i2l hx hb (by have := jf_leastFree_getD s; omega) dd_L_law_166 ?_
    refine W.lcmp hx hb dd_L_law_167 ?_
    refine jl_top (jx_cmp0 _) ?_
    refine lv_if_eq (tgt := 173) hx hb dd_L_law_168 (by decide) (fun _ => ?_) (fun h9 => absurd nI_0 h9)
    refine lv_goto (tgt := 1039) hx hb dd_L_law_173 (by decide) ?_
    have hD := jw_permD List.perm_append_comm hD
    have hP := jw_permP List.perm_append_comm hP
    refine W.widen (by show 23 + 7 * nn + 4 + 0 ≤ 23 + 7 * (nn + 1); omega) (by show 3071 + 42 * nn + 24 + 0 ≤ 3071 + 42 * (nn + 1); omega) ?_
    exact nx _ _ _ _ _ _ _ _ _ _ _ _ _ _ _ _ _ _ _ _ _ _ _ _ _ _ _ _ _ _ _ (E.2 hm0).2 (by omega) (by omega) hP hD hS (lv_sub hl [2, 3, 4, 5, 6] rfl)
  · skip
    have hP : va_P G jcl (((wJ qJ qH qh cH qI qD qS qC cS cC s c ho hn hg hm hp wc wd tf) ++ [(qw, .inl (cw, 1, .inr (.inl fw)))]) ++ wM qM qK qZ qN qB qY qi qo qm qp c1 c2 c3 c4 c5 c6 c7 c8 c9 K Z N B Y I O M P ct wr ofs th pa ey fo la) H := hP
    have hD : va_D A (((wJ qJ qH qh cH qI qD qS qC cS cC s c ho hn hg hm hp wc wd tf) ++ [(qw, .inl (cw, 1, .inr (.inl fw)))]) ++ wM qM qK qZ qN qB qY qi qo qm qp c1 c2 c3 c4 c5 c6 c7 c8 c9 K Z N B Y I O M P ct wr ofs th pa ey fo la) := hD
    have hm0 : ¬ (jm_diT K Z B Y u) = 0 := by rw [← E.1]; exact h0
    refine lv_istore (lv' := [(5, .int (nI ((jf_dirT s u)))), (4, .int (nI ii)), (0, .ref bb), (1, .ref qJ), (2, .ref qM), (3, .ref qw)]) hx hb dd_L_law_131 hl (by decide) rfl (fun ls hl => ?_)
    refine lv_aload_n hx hb dd_L_law_133 rfl (lv_at hl 4 rfl) ?_
    refine lv_aload_n hx hb dd_L_law_134 rfl (lv_at hl 2 rfl) ?_
    refine lv_iload hx hb dd_L_law_135 (lv_at hl 1 rfl) ?_
    refine lv_iconst (v := nI 1) hx hb dd_L_law_137 (by decide) ?_
    refine jl_iadd hx hb dd_L_law_138 ?_
    refine jl_sld hx hb hX hbl hbA hS (by omega) (by omega) dd_L_law_139 ?_
    refine jl_top (congrArg nI ev_u) ?_
    have hD := jw_permD List.perm_append_comm hD
    have hP := jw_permP List.perm_append_comm hP
    refine jm_callV C (ct_M_directory l G qM qK qZ qN qB qY qi qo qm qp c1 c2 c3 c4 c5 c6 c7 c8 c9 K Z N B Y I O M P ct wr ofs th pa ey fo la u 40 hv_u hR.s0.v.ents (by decide) hR.s0.b4 hR.s0.k3 hR.s0.z6 hR.s0.n2 hR.s0.y2) kl_L_77 ⟨Nat.le_of_ble_eq_true rfl, Nat.le_of_ble_eq_true rfl⟩ ⟨by show 23 + 7 * nn + 4 + 0 ≤ 601024; omega, by show 3071 + 42 * nn + 24 + 0 ≤ 7293034; omega⟩ hP hD hS hA hKM (va_recv hKM hP (ci := 4) (q0 := 0) rfl rfl) hl.1 rfl rfl (Nat.le_of_ble_eq_true rfl) dd_L_law_140 (fun H locs hP hD hS => ?_)
    simp only [if_neg hm0] at hP hD
    refine lv_istore (lv' := (6, _) :: [(5, .int (nI ((jf_dirT s u)))), (4, .int (nI ii)), (0, .ref bb), (1, .ref qJ), (2, .ref qM), (3, .ref qw)]) hx hb dd_L_law_143 hl (by decide) rfl (fun ls hl => ?_)
    refine lv_aload_n hx hb dd_L_law_145 rfl (lv_at hl 5 rfl) ?_
    refine jr_callV C (ct_M_thrown l G _ _ _ _ _ _ _ _ _ _ _ _ _ _ _ _ _ _ _ _ _ _ _ _ _ _ _ _ _ _ _ _ _ _ _ _) kl_L_78 ⟨Nat.le_of_ble_eq_true rfl, Nat.le_of_ble_eq_true rfl, rfl, rfl⟩ ⟨by show 23 + 7 * nn + 4 + 0 ≤ 601024; omega, by show 3071 + 42 * nn + 24 + 0 ≤ 7293034; omega⟩ (jw_left hP) hKM (va_recv hKM hP (ci := 4) (q0 := 0) rfl rfl) hl.1 rfl rfl (Nat.le_of_ble_eq_true rfl) dd_L_law_146 ?_
    refine lv_iload hx hb dd_L_law_149 (lv_at hl 1 rfl) ?_
    refine lv_icmp_eq (tgt := 156) hx hb dd_L_law_151 (by decide) (fun _ => ?_) (fun h9 => absurd (show nI (jm_diT K Z B Y u) = nI ((jf_dirT s u)) from by rw [← E.1]) h9)
    refine lv_iload hx hb dd_L_law_156 (lv_at hl 1 rfl) ?_
    refine lv_if_ne (tgt := 173) hx hb dd_L_law_158 (by decide) (fun _ => ?_) (fun h9 => absurd h9 (jx_ne0 (h0) (by have := jk_dir s u; omega)))
    refine lv_goto (tgt := 1039) hx hb dd_L_law_173 (by decide) ?_
    have hD := jw_permD List.perm_append_comm hD
    have hP := jw_permP List.perm_append_comm hP
    refine W.widen (by show 23 + 7 * nn + 4 + 0 ≤ 23 + 7 * (nn + 1); omega) (by show 3071 + 42 * nn + 24 + 0 ≤ 3071 + 42 * (nn + 1); omega) ?_
    exact nx _ _ _ _ _ _ _ _ _ _ _ _ _ _ _ _ _ _ _ _ _ _ _ _ _ _ _ _ _ _ _ hR (by omega) (by omega) hP hD hS (lv_sub hl [2, 3, 4, 5, 6] rfl)

set_option maxHeartbeats 4000000 in
set_option maxRecDepth 100000 in
theorem lw_case_open {p : Program} {l : Launch} {e : Env} {σ : State} {m : MethodId} {below : List Frame} {meth : Method} {cd : Code} {bb L : Nat} {xs : Nat → Int32} {G : va_G} {A : Nat → Prop} {qJ qH : Nat} {qh : Nat → Nat} {cH : ClassId} {qI qD qS qC : Nat} {cS cC : ClassId} {qw : Nat} {cw : ClassId} {qM qK qZ qN qB qY qi qo qm qp : Nat} {c1 c2 c3 c4 c5 c6 c7 c8 c9 : ClassId} {Q : State → Prop} {ii nn : Nat} (hl9 : l.stackTraces = false) (C : jx p σ m #[Value.ref bb] meth cd cn_L code 8 ret) (hz : jz A σ σ.heap) (hy : jy σ) (hKO : va_K G jcl (tJ cS cC cH ++ [(cw, .long)]) σ) (hKM : va_K G jcl (tM c1 c2 c3 c4 c5 c6 c7 c8 c9) σ) (hX : va_X bb L xs σ σ.heap) (hbl : bb < σ.heap.size) (hbA : ¬ A bb) (hA : ∀ q : Nat, σ.heap.size ≤ q → A q) (hL : L ≤ 3072) (hii : ii + 6 ≤ L) (hnn : nn < 512) (nx : lw_nx p l e σ m below meth cd bb L xs G A qJ qH qh cH qI qD qS qC cS cC qw cw qM qK qZ qN qB qY qi qo qm qp c1 c2 c3 c4 c5 c6 c7 c8 c9 Q ii nn) {H : Heap} {locs : List Loc} {ls : Array Slot} {fw : Nat → Int64} {s c ho hn hg hm hp : Nat → Nat} {wc wd tf : Nat} {K Z N B Y I O M P : Nat → Nat} {ct wr ofs th : Nat} {pa ey fo : Option Nat} {la : Nat} (hR : je_R s c ho hn hg hm hp wc wd tf K Z N B Y I O M P ct wr ofs) (hw : wr ≤ 81 * nn) (hof : ofs ≤ nn) (hP : va_P G jcl ((wJ qJ qH qh cH qI qD qS qC cS cC s c ho hn hg hm hp wc wd tf ++ [(qw, .inl (cw, 1, .inr (.inl fw)))]) ++ wM qM qK qZ qN qB qY qi qo qm qp c1 c2 c3 c4 c5 c6 c7 c8 c9 K Z N B Y I O M P ct wr ofs th pa ey fo la) H) (hD : va_D A ((wJ qJ qH qh cH qI qD qS qC cS cC s c ho hn hg hm hp wc wd tf ++ [(qw, .inl (cw, 1, .inr (.inl fw)))]) ++ wM qM qK qZ qN qB qY qi qo qm qp c1 c2 c3 c4 c5 c6 c7 c8 c9 K Z N B Y I O M P ct wr ofs th pa ey fo la)) (hS : va_S A σ.heap H locs) (hl : lv_has ls 8 [(4, .int (nI ii)), (0, .ref bb), (1, .ref qJ), (2, .ref qM), (3, .ref qw)]) : W p l e room_1 σ m #[Value.ref bb] below meth cd H locs (23 + 7 * nn) (3071 + 42 * nn) Q (F0 m 176 ls []) := by
  have hx := C.1
  have hb := C.2.1
  have hown := C.2.2.2.1
  have hts := C.2.2.2.2.1
  have hKJ : va_K G jcl (tJ cS cC cH) σ := hKO.sub [0, 1, 2] rfl
  obtain ⟨u, hv_u, ev_u⟩ : ∃ u, u < 4294967296 ∧ jI (xs (ii + 1)) = u := ⟨_, jI_lt _, rfl⟩
  obtain ⟨z, hv_z, ev_z⟩ : ∃ z, z < 4294967296 ∧ jI (xs (ii + 2)) = z := ⟨_, jI_lt _, rfl⟩
  obtain ⟨cr, hv_cr, ev_cr⟩ : ∃ cr, cr < 2 ∧ jbo (jI (xs (ii + 3))) = cr := ⟨_, jbo_lt _, rfl⟩
  obtain ⟨ap, hv_ap, ev_ap⟩ : ∃ ap, ap < 2 ∧ jbo (jI (xs (ii + 4))) = ap := ⟨_, jbo_lt _, rfl⟩
  obtain ⟨em, hv_em, ev_em⟩ : ∃ em, em < 2 ∧ jbo (jI (xs (ii + 5))) = em := ⟨_, jbo_lt _, rfl⟩
  refine lv_aload_n hx hb dd_L_law_176 rfl (lv_at hl 2 rfl) ?_
  refine lv_aload_n hx hb dd_L_law_177 rfl (lv_at hl 1 rfl) ?_
  refine lv_iload hx hb dd_L_law_178 (lv_at hl 0 rfl) ?_
  refine lv_iconst (v := nI 1) hx hb dd_L_law_180 (by decide) ?_
  refine jl_iadd hx hb dd_L_law_181 ?_
  refine jl_sld hx hb hX hbl hbA hS (by omega) (by omega) dd_L_law_182 ?_
  refine jl_top (congrArg nI ev_u) ?_
  refine lv_aload_n hx hb dd_L_law_183 rfl (lv_at hl 1 rfl) ?_
  refine lv_iload hx hb dd_L_law_184 (lv_at hl 0 rfl) ?_
  refine lv_iconst (v := nI 2) hx hb dd_L_law_186 (by decide) ?_
  refine jl_iadd hx hb dd_L_law_187 ?_
  refine jl_sld hx hb hX hbl hbA hS (by omega) (by omega) dd_L_law_188 ?_
  refine jl_top (congrArg nI ev_z) ?_
  refine lv_aload_n hx hb dd_L_law_189 rfl (lv_at hl 1 rfl) ?_
  refine lv_iload hx hb dd_L_law_190 (lv_at hl 0 rfl) ?_
  refine lv_iconst (v := nI 3) hx hb dd_L_law_192 (by decide) ?_
  refine jl_iadd hx hb dd_L_law_193 ?_
  refine jl_sld hx hb hX hbl hbA hS (by omega) (by omega) dd_L_law_194 ?_
  refine jl_bool hx hb (jI_lt _) dd_L_law_195 dd_L_law_198 dd_L_law_199 dd_L_law_202 ?_
  refine jl_top (congrArg nI ev_cr) ?_
  refine lv_aload_n hx hb dd_L_law_203 rfl (lv_at hl 1 rfl) ?_
  refine lv_iload hx hb dd_L_law_204 (lv_at hl 0 rfl) ?_
  refine lv_iconst (v := nI 4) hx hb dd_L_law_206 (by decide) ?_
  refine jl_iadd hx hb dd_L_law_207 ?_
  refine jl_sld hx hb hX hbl hbA hS (by omega) (by omega) dd_L_law_208 ?_
  refine jl_bool hx hb (jI_lt _) dd_L_law_209 dd_L_law_212 dd_L_law_213 dd_L_law_216 ?_
  refine jl_top (congrArg nI ev_ap) ?_
  refine lv_aload_n hx hb dd_L_law_217 rfl (lv_at hl 1 rfl) ?_
  refine lv_iload hx hb dd_L_law_218 (lv_at hl 0 rfl) ?_
  refine lv_iconst (v := nI 5) hx hb dd_L_law_220 (by decide) ?_
  refine jl_iadd hx hb dd_L_law_221 ?_
  refine jl_sld hx hb hX hbl hbA hS (by omega) (by omega) dd_L_law_222 ?_
  refine jl_bool hx hb (jI_lt _) dd_L_law_223 dd_L_law_226 dd_L_law_227 dd_L_law_230 ?_
  refine jl_top (congrArg nI ev_em) ?_
  refine lv_aload_n hx hb dd_L_law_231 rfl (lv_at hl 4 rfl) ?_
  have E := je_opT hR (z := z) (cr := cr) hv_u
  refine jL_callS (wr := wM qM qK qZ qN qB qY qi qo qm qp c1 c2 c3 c4 c5 c6 c7 c8 c9 K Z N B Y I O M P ct wr ofs th pa ey fo la) C hz hy (ct_L_open l hl9 G qJ qH qh cH qI qD qS qC cS cC s c ho hn hg hm hp wc wd tf qw cw fw u z cr ap em hv_u hv_z hv_cr hv_ap hv_em hR.s0.ok hR.ho2 hR.hn2 hR.hg2 hR.hm2 hR.hp2) kw_L_open ⟨Nat.le_of_ble_eq_true rfl, Nat.le_of_ble_eq_true rfl⟩ ⟨by show 23 + 7 * nn + 6 ≤ 601024; omega, by show 3071 + 42 * nn + 36 ≤ 7293034; omega⟩ hP hD hS hA hKO hl.1 rfl rfl (Nat.le_of_ble_eq_true rfl) dd_L_law_232 (fun o9 w9 H locs hxx hP hD hS => ?_)
  rcases hxx with ⟨h0, rfl, rfl⟩ | ⟨h0, rfl, rfl⟩
  · skip
    have hP : va_P G jcl (((wJ qJ qH qh cH qI qD qS qC cS cC (jf_opS s u z em) c (ju ho ((jf_closed ho).getD 0) 1) (ju hn ((jf_closed ho).getD 0) (jf_opI s u)) (ju hg ((jf_closed ho).getD 0) (jf_gen (jf_opS s u z em) (jf_opI s u))) (ju hm ((jf_closed ho).getD 0) z) (ju hp ((jf_closed ho).getD 0) (jf_opP s u z ap em)) wc wd tf) ++ [(qw, .inl (cw, 1, .inr (.inl (vp_updL fw (nI 0).toNatClampNeg (lN (((jf_closed ho).getD 0)))))))]) ++ wM qM qK qZ qN qB qY qi qo qm qp c1 c2 c3 c4 c5 c6 c7 c8 c9 K Z N B Y I O M P ct wr ofs th pa ey fo la) H := hP
    have hD : va_D A (((wJ qJ qH qh cH qI qD qS qC cS cC (jf_opS s u z em) c (ju ho ((jf_closed ho).getD 0) 1) (ju hn ((jf_closed ho).getD 0) (jf_opI s u)) (ju hg ((jf_closed ho).getD 0) (jf_gen (jf_opS s u z em) (jf_opI s u))) (ju hm ((jf_closed ho).getD 0) z) (ju hp ((jf_closed ho).getD 0) (jf_opP s u z ap em)) wc wd tf) ++ [(qw, .inl (cw, 1, .inr (.inl (vp_updL fw (nI 0).toNatClampNeg (lN (((jf_closed ho).getD 0)))))))]) ++ wM qM qK qZ qN qB qY qi qo qm qp c1 c2 c3 c4 c5 c6 c7 c8 c9 K Z N B Y I O M P ct wr ofs th pa ey fo la) := hD
    have hm0 : (jm_opT K Z B Y I u z cr) = 0 := by rw [← E, h0]
    refine lv_istore (lv' := [(5, .int (nI 0)), (4, .int (nI ii)), (0, .ref bb), (1, .ref qJ), (2, .ref qM), (3, .ref qw)]) hx hb dd_L_law_235 hl (by decide) rfl (fun ls hl => ?_)
    refine lv_aload_n hx hb dd_L_law_237 rfl (lv_at hl 4 rfl) ?_
    refine lv_aload_n hx hb dd_L_law_238 rfl (lv_at hl 2 rfl) ?_
    refine lv_iload hx hb dd_L_law_239 (lv_at hl 1 rfl) ?_
    refine lv_iconst (v := nI 1) hx hb dd_L_law_241 (by decide) ?_
    refine jl_iadd hx hb dd_L_law_242 ?_
    refine jl_sld hx hb hX hbl hbA hS (by omega) (by omega) dd_L_law_243 ?_
    refine jl_top (congrArg nI ev_u) ?_
    refine lv_aload_n hx hb dd_L_law_244 rfl (lv_at hl 2 rfl) ?_
    refine lv_iload hx hb dd_L_law_245 (lv_at hl 1 rfl) ?_
    refine lv_iconst (v := nI 2) hx hb dd_L_law_247 (by decide) ?_
    refine jl_iadd hx hb dd_L_law_248 ?_
    refine jl_sld hx hb hX hbl hbA hS (by omega) (by omega) dd_L_law_249 ?_
    refine jl_top (congrArg nI ev_z) ?_
    refine lv_aload_n hx hb dd_L_law_250 rfl (lv_at hl 2 rfl) ?_
    refine lv_iload hx hb dd_L_law_251 (lv_at hl 1 rfl) ?_
    refine lv_iconst (v := nI 3) hx hb dd_L_law_253 (by decide) ?_
    refine jl_iadd hx hb dd_L_law_254 ?_
    refine jl_sld hx hb hX hbl hbA hS (by omega) (by omega) dd_L_law_255 ?_
    refine jl_bool hx hb (jI_lt _) dd_L_law_256 dd_L_law_259 dd_L_law_260 dd_L_law_263 ?_
    refine jl_top (congrArg nI ev_cr) ?_
    refine lv_aload_n hx hb dd_L_law_264 rfl (lv_at hl 2 rfl) ?_
    refine lv_iload hx hb dd_L_law_265 (lv_at hl 1 rfl) ?_
    refine lv_iconst (v := nI 4) hx hb dd_L_law_267 (by decide) ?_
    refine jl_iadd hx hb dd_L_law_268 ?_
    refine jl_sld hx hb hX hbl hbA hS (by omega) (by omega) dd_L_law_269 ?_
    refine jl_bool hx hb (jI_lt _) dd_L_law_270 dd_L_law_273 dd_L_law_274 dd_L_law_277 ?_
    refine jl_top (congrArg nI ev_ap) ?_
    refine lv_aload_n hx hb dd_L_law_278 rfl (lv_at hl 2 rfl) ?_
    refine lv_iload hx hb dd_L_law_279 (lv_at hl 1 rfl) ?_
    refine lv_iconst (v := nI 5) hx hb dd_L_law_281 (by decide) ?_
    refine jl_iadd hx hb dd_L_law_282 ?_
    refine jl_sld hx hb hX hbl hbA hS (by omega) (by omega) dd_L_law_283 ?_
    refine jl_bool hx hb (jI_lt _) dd_L_law_284 dd_L_law_287 dd_L_law_288 dd_L_law_291 ?_
    refine jl_top (congrArg nI ev_em) ?_
    have hD := jw_permD List.perm_append_comm hD
    have hP := jw_permP List.perm_append_comm hP
    refine jm_callV C (ct_M_open l G qM qK qZ qN qB qY qi qo qm qp c1 c2 c3 c4 c5 c6 c7 c8 c9 K Z N B Y I O M P ct wr ofs th pa ey fo la u z cr ap em 40 hv_u hv_z hv_cr hv_ap hv_em hR.s0.v.ents (by decide) hR.s0.b4 hR.s0.k3 hR.s0.z6 hR.s0.n2 hR.s0.y2 hR.i2 hR.o2 hR.m2 hR.p2) kl_L_84 ⟨Nat.le_of_ble_eq_true rfl, Nat.le_of_ble_eq_true rfl⟩ ⟨by show 23 + 7 * nn + 6 + 0 ≤ 601024; omega, by show 3071 + 42 * nn + 36 + 0 ≤ 7293034; omega⟩ hP hD hS hA hKM (va_recv hKM hP (ci := 4) (q0 := 0) rfl rfl) hl.1 rfl rfl (Nat.le_of_ble_eq_true rfl) dd_L_law_292 (fun H locs hP hD hS => ?_)
    simp only [if_pos hm0] at hP hD
    refine jl_top (congrArg nI (Eq.symm (show (((jf_closed ho).getD 0)) = _ from (by rw [if_pos hm0]; exact (je_open hR (ap := ap) (em := em) (m := 40) hv_u (by decide) hm0).1)))) ?_
    refine lv_istore (lv' := [(6, .int (nI (((jf_closed ho).getD 0)))), (5, .int (nI 0)), (4, .int (nI ii)), (0, .ref bb), (1, .ref qJ), (2, .ref qM), (3, .ref qw)]) hx hb dd_L_law_295 hl (by decide) rfl (fun ls hl => ?_)
    refine lv_aload_n hx hb dd_L_law_297 rfl (lv_at hl 5 rfl) ?_
    refine jr_callV C (ct_M_thrown l G _ _ _ _ _ _ _ _ _ _ _ _ _ _ _ _ _ _ _ _ _ _ _ _ _ _ _ _ _ _ _ _ _ _ _ _) kl_L_78 ⟨Nat.le_of_ble_eq_true rfl, Nat.le_of_ble_eq_true rfl, rfl, rfl⟩ ⟨by show 23 + 7 * nn + 6 + 0 ≤ 601024; omega, by show 3071 + 42 * nn + 36 + 0 ≤ 7293034; omega⟩ (jw_left hP) hKM (va_recv hKM hP (ci := 4) (q0 := 0) rfl rfl) hl.1 rfl rfl (Nat.le_of_ble_eq_true rfl) dd_L_law_298 ?_
    refine lv_iload hx hb dd_L_law_301 (lv_at hl 1 rfl) ?_
    refine lv_icmp_eq (tgt := 308) hx hb dd_L_law_303 (by decide) (fun _ => ?_) (fun h9 => absurd (show nI (jm_opT K Z B Y I u z cr) = nI 0 from by rw [hm0]) h9)
    refine lv_iload hx hb dd_L_law_308 (lv_at hl 1 rfl) ?_
    refine lv_if_ne (tgt := 325) hx hb dd_L_law_310 (by decide) (fun h9 => absurd nI_0 h9) (fun _ => ?_)
    refine lv_aload_n hx hb dd_L_law_313 rfl (lv_at hl 6 rfl) ?_
    refine lv_iconst (v := nI 0) hx hb dd_L_law_314 (by decide) ?_
    refine va_lald hx hb hKO hP 22 3 rfl rfl (vp_in_nI (by decide) (by decide)) dd_L_law_315 ?_
    refine jl_topL pk_uLs ?_
    refine lv_iload hx hb dd_L_law_316 (lv_at hl 0 rfl) ?_
    refine jl_i2l hx hb (by have := jf_closed_6 ho; omega) dd_L_law_318 ?_
    refine W.lcmp hx hb dd_L_law_319 ?_
    refine jl_top (jx_cmp0 _) ?_
    refine lv_if_eq (tgt := 325) hx hb dd_L_law_320 (by decide) (fun _ => ?_) (fun h9 => absurd nI_0 h9)
    refine lv_goto (tgt := 1039) hx hb dd_L_law_325 (by decide) ?_
    have hD := jw_permD List.perm_append_comm hD
    have hP := jw_permP List.perm_append_comm hP
    refine W.widen (by show 23 + 7 * nn + 6 + 0 ≤ 23 + 7 * (nn + 1); omega) (by show 3071 + 42 * nn + 36 + 0 ≤ 3071 + 42 * (nn + 1); omega) ?_
    exact nx _ _ _ _ _ _ _ _ _ _ _ _ _ _ _ _ _ _ _ _ _ _ _ _ _ _ _ _ _ _ _ (je_open hR (ap := ap) (em := em) (m := 40) hv_u (by decide) hm0).2 (by omega) (by omega) hP hD hS (lv_sub hl [2, 3, 4, 5, 6] rfl)
  · skip
    have hP : va_P G jcl (((wJ qJ qH qh cH qI qD qS qC cS cC s c ho hn hg hm hp wc wd tf) ++ [(qw, .inl (cw, 1, .inr (.inl fw)))]) ++ wM qM qK qZ qN qB qY qi qo qm qp c1 c2 c3 c4 c5 c6 c7 c8 c9 K Z N B Y I O M P ct wr ofs th pa ey fo la) H := hP
    have hD : va_D A (((wJ qJ qH qh cH qI qD qS qC cS cC s c ho hn hg hm hp wc wd tf) ++ [(qw, .inl (cw, 1, .inr (.inl fw)))]) ++ wM qM qK qZ qN qB qY qi qo qm qp c1 c2 c3 c4 c5 c6 c7 c8 c9 K Z N B Y I O M P ct wr ofs th pa ey fo la) := hD
    have hm0 : ¬ (jm_opT K Z B Y I u z cr) = 0 := by rw [← E]; exact h0
    refine lv_istore (lv' := [(5, .int (nI ((jf_opT s ho u z cr)))), (4, .int (nI ii)), (0, .ref bb), (1, .ref qJ), (2, .ref qM), (3, .ref qw)]) hx hb dd_L_law_235 hl (by decide) rfl (fun ls hl => ?_)
    refine lv_aload_n hx hb dd_L_law_237 rfl (lv_at hl 4 rfl) ?_
    refine lv_aload_n hx hb dd_L_law_238 rfl (lv_at hl 2 rfl) ?_
    refine lv_iload hx hb dd_L_law_239 (lv_at hl 1 rfl) ?_
    refine lv_iconst (v := nI 1) hx hb dd_L_law_241 (by decide) ?_
    refine jl_iadd hx hb dd_L_law_242 ?_
    refine jl_sld hx hb hX hbl hbA hS (by omega) (by omega) dd_L_law_243 ?_
    refine jl_top (congrArg nI ev_u) ?_
    refine lv_aload_n hx hb dd_L_law_244 rfl (lv_at hl 2 rfl) ?_
    refine lv_iload hx hb dd_L_law_245 (lv_at hl 1 rfl) ?_
    refine lv_iconst (v := nI 2) hx hb dd_L_law_247 (by decide) ?_
    refine jl_iadd hx hb dd_L_law_248 ?_
    refine jl_sld hx hb hX hbl hbA hS (by omega) (by omega) dd_L_law_249 ?_
    refine jl_top (congrArg nI ev_z) ?_
    refine lv_aload_n hx hb dd_L_law_250 rfl (lv_at hl 2 rfl) ?_
    refine lv_iload hx hb dd_L_law_251 (lv_at hl 1 rfl) ?_
    refine lv_iconst (v := nI 3) hx hb dd_L_law_253 (by decide) ?_
    refine jl_iadd hx hb dd_L_law_254 ?_
    refine jl_sld hx hb hX hbl hbA hS (by omega) (by omega) dd_L_law_255 ?_
    refine jl_bool hx hb (jI_lt _) dd_L_law_256 dd_L_law_259 dd_L_law_260 dd_L_law_263 ?_
    refine jl_top (congrArg nI ev_cr) ?_
    refine lv_aload_n hx hb dd_L_law_264 rfl (lv_at hl 2 rfl) ?_
    refine lv_iload hx hb dd_L_law_265 (lv_at hl 1 rfl) ?_
    refine lv_iconst (v := nI 4) hx hb dd_L_law_267 (by decide) ?_
    refine jl_iadd hx hb dd_L_law_268 ?_
    refine jl_sld hx hb hX hbl hbA hS (by omega) (by omega) dd_L_law_269 ?_
    refine jl_bool hx hb (jI_lt _) dd_L_law_270 dd_L_law_273 dd_L_law_274 dd_L_law_277 ?_
    refine jl_top (congrArg nI ev_ap) ?_
    refine lv_aload_n hx hb dd_L_law_278 rfl (lv_at hl 2 rfl) ?_
    refine lv_iload hx hb dd_L_law_279 (lv_at hl 1 rfl) ?_
    refine lv_iconst (v := nI 5) hx hb dd_L_law_281 (by decide) ?_
    refine jl_iadd hx hb dd_L_law_282 ?_
    refine jl_sld hx hb hX hbl hbA hS (by omega) (by omega) dd_L_law_283 ?_
    refine jl_bool hx hb (jI_lt _) dd_L_law_284 dd_L_law_287 dd_L_law_288 dd_L_law_291 ?_
    refine jl_top (congrArg nI ev_em) ?_
    have hD := jw_permD List.perm_append_comm hD
    have hP := jw_permP List.perm_append_comm hP
    refine jm_callV C (ct_M_open l G qM qK qZ qN qB qY qi qo qm qp c1 c2 c3 c4 c5 c6 c7 c8 c9 K Z N B Y I O M P ct wr ofs th pa ey fo la u z cr ap em 40 hv_u hv_z hv_cr hv_ap hv_em hR.s0.v.ents (by decide) hR.s0.b4 hR.s0.k3 hR.s0.z6 hR.s0.n2 hR.s0.y2 hR.i2 hR.o2 hR.m2 hR.p2) kl_L_84 ⟨Nat.le_of_ble_eq_true rfl, Nat.le_of_ble_eq_true rfl⟩ ⟨by show 23 + 7 * nn + 6 + 0 ≤ 601024; omega, by show 3071 + 42 * nn + 36 + 0 ≤ 7293034; omega⟩ hP hD hS hA hKM (va_recv hKM hP (ci := 4) (q0 := 0) rfl rfl) hl.1 rfl rfl (Nat.le_of_ble_eq_true rfl) dd_L_law_292 (fun H locs hP hD hS => ?_)
    simp only [if_neg hm0] at hP hD
    refine lv_istore (lv' := (6, _) :: [(5, .int (nI ((jf_opT s ho u z cr)))), (4, .int (nI ii)), (0, .ref bb), (1, .ref qJ), (2, .ref qM), (3, .ref qw)]) hx hb dd_L_law_295 hl (by decide) rfl (fun ls hl => ?_)
    refine lv_aload_n hx hb dd_L_law_297 rfl (lv_at hl 5 rfl) ?_
    refine jr_callV C (ct_M_thrown l G _ _ _ _ _ _ _ _ _ _ _ _ _ _ _ _ _ _ _ _ _ _ _ _ _ _ _ _ _ _ _ _ _ _ _ _) kl_L_78 ⟨Nat.le_of_ble_eq_true rfl, Nat.le_of_ble_eq_true rfl, rfl, rfl⟩ ⟨by show 23 + 7 * nn + 6 + 0 ≤ 601024; omega, by show 3071 + 42 * nn + 36 + 0 ≤ 7293034; omega⟩ (jw_left hP) hKM (va_recv hKM hP (ci := 4) (q0 := 0) rfl rfl) hl.1 rfl rfl (Nat.le_of_ble_eq_true rfl) dd_L_law_298 ?_
    refine lv_iload hx hb dd_L_law_301 (lv_at hl 1 rfl) ?_
    refine lv_icmp_eq (tgt := 308) hx hb dd_L_law_303 (by decide) (fun _ => ?_) (fun h9 => absurd (show nI (jm_opT K Z B Y I u z cr) = nI ((jf_opT s ho u z cr)) from by rw [← E]) h9)
    refine lv_iload hx hb dd_L_law_308 (lv_at hl 1 rfl) ?_
    refine lv_if_ne (tgt := 325) hx hb dd_L_law_310 (by decide) (fun _ => ?_) (fun h9 => absurd h9 (jx_ne0 (h0) (by have := jk_op s ho u z cr; omega)))
    refine lv_goto (tgt := 1039) hx hb dd_L_law_325 (by decide) ?_
    have hD := jw_permD List.perm_append_comm hD
    have hP := jw_permP List.perm_append_comm hP
    refine W.widen (by show 23 + 7 * nn + 6 + 0 ≤ 23 + 7 * (nn + 1); omega) (by show 3071 + 42 * nn + 36 + 0 ≤ 3071 + 42 * (nn + 1); omega) ?_
    exact nx _ _ _ _ _ _ _ _ _ _ _ _ _ _ _ _ _ _ _ _ _ _ _ _ _ _ _ _ _ _ _ hR (by omega) (by omega) hP hD hS (lv_sub hl [2, 3, 4, 5, 6] rfl)

set_option maxHeartbeats 4000000 in
set_option maxRecDepth 100000 in
theorem lw_case_close {p : Program} {l : Launch} {e : Env} {σ : State} {m : MethodId} {below : List Frame} {meth : Method} {cd : Code} {bb L : Nat} {xs : Nat → Int32} {G : va_G} {A : Nat → Prop} {qJ qH : Nat} {qh : Nat → Nat} {cH : ClassId} {qI qD qS qC : Nat} {cS cC : ClassId} {qw : Nat} {cw : ClassId} {qM qK qZ qN qB qY qi qo qm qp : Nat} {c1 c2 c3 c4 c5 c6 c7 c8 c9 : ClassId} {Q : State → Prop} {ii nn : Nat} (hl9 : l.stackTraces = false) (C : jx p σ m #[Value.ref bb] meth cd cn_L code 8 ret) (hz : jz A σ σ.heap) (hy : jy σ) (hKO : va_K G jcl (tJ cS cC cH ++ [(cw, .long)]) σ) (hKM : va_K G jcl (tM c1 c2 c3 c4 c5 c6 c7 c8 c9) σ) (hX : va_X bb L xs σ σ.heap) (hbl : bb < σ.heap.size) (hbA : ¬ A bb) (hA : ∀ q : Nat, σ.heap.size ≤ q → A q) (hL : L ≤ 3072) (hii : ii + 6 ≤ L) (hnn : nn < 512) (nx : lw_nx p l e σ m below meth cd bb L xs G A qJ qH qh cH qI qD qS qC cS cC qw cw qM qK qZ qN qB qY qi qo qm qp c1 c2 c3 c4 c5 c6 c7 c8 c9 Q ii nn) {H : Heap} {locs : List Loc} {ls : Array Slot} {fw : Nat → Int64} {s c ho hn hg hm hp : Nat → Nat} {wc wd tf : Nat} {K Z N B Y I O M P : Nat → Nat} {ct wr ofs th : Nat} {pa ey fo : Option Nat} {la : Nat} (hR : je_R s c ho hn hg hm hp wc wd tf K Z N B Y I O M P ct wr ofs) (hw : wr ≤ 81 * nn) (hof : ofs ≤ nn) (hP : va_P G jcl ((wJ qJ qH qh cH qI qD qS qC cS cC s c ho hn hg hm hp wc wd tf ++ [(qw, .inl (cw, 1, .inr (.inl fw)))]) ++ wM qM qK qZ qN qB qY qi qo qm qp c1 c2 c3 c4 c5 c6 c7 c8 c9 K Z N B Y I O M P ct wr ofs th pa ey fo la) H) (hD : va_D A ((wJ qJ qH qh cH qI qD qS qC cS cC s c ho hn hg hm hp wc wd tf ++ [(qw, .inl (cw, 1, .inr (.inl fw)))]) ++ wM qM qK qZ qN qB qY qi qo qm qp c1 c2 c3 c4 c5 c6 c7 c8 c9 K Z N B Y I O M P ct wr ofs th pa ey fo la)) (hS : va_S A σ.heap H locs) (hl : lv_has ls 8 [(4, .int (nI ii)), (0, .ref bb), (1, .ref qJ), (2, .ref qM), (3, .ref qw)]) : W p l e room_1 σ m #[Value.ref bb] below meth cd H locs (23 + 7 * nn) (3071 + 42 * nn) Q (F0 m 328 ls []) := by
  have hx := C.1
  have hb := C.2.1
  have hown := C.2.2.2.1
  have hts := C.2.2.2.2.1
  have hKJ : va_K G jcl (tJ cS cC cH) σ := hKO.sub [0, 1, 2] rfl
  obtain ⟨h, hv_h, ev_h⟩ : ∃ h, h < 4294967296 ∧ jI (xs (ii + 1)) = h := ⟨_, jI_lt _, rfl⟩
  refine lv_aload_n hx hb dd_L_law_328 rfl (lv_at hl 2 rfl) ?_
  refine lv_aload_n hx hb dd_L_law_329 rfl (lv_at hl 1 rfl) ?_
  refine lv_iload hx hb dd_L_law_330 (lv_at hl 0 rfl) ?_
  refine lv_iconst (v := nI 1) hx hb dd_L_law_332 (by decide) ?_
  refine jl_iadd hx hb dd_L_law_333 ?_
  refine jl_sld hx hb hX hbl hbA hS (by omega) (by omega) dd_L_law_334 ?_
  refine jl_top (congrArg nI ev_h) ?_
  have E := je_close hR h
  refine jL_callS (wr := [(qw, .inl (cw, 1, .inr (.inl fw)))] ++ wM qM qK qZ qN qB qY qi qo qm qp c1 c2 c3 c4 c5 c6 c7 c8 c9 K Z N B Y I O M P ct wr ofs th pa ey fo la) C hz hy (ct_L_close l hl9 G qJ qH qh cH qI qD qS qC cS cC s c ho hn hg hm hp wc wd tf h hv_h hR.ho2) kw_L_close ⟨Nat.le_of_ble_eq_true rfl, Nat.le_of_ble_eq_true rfl⟩ ⟨by show 23 + 7 * nn + 2 ≤ 601024; omega, by show 3071 + 42 * nn + 12 ≤ 7293034; omega⟩ hP hD hS hA hKJ hl.1 rfl rfl (Nat.le_of_ble_eq_true rfl) dd_L_law_335 (fun o9 w9 H locs hxx hP hD hS => ?_)
  rcases hxx with ⟨h0, rfl, rfl⟩ | ⟨h0, rfl, rfl⟩
  · skip
    have hP : va_P G jcl (((wJ qJ qH qh cH qI qD qS qC cS cC s c (ju ho h 0) hn hg hm hp wc wd tf) ++ [(qw, .inl (cw, 1, .inr (.inl fw)))]) ++ wM qM qK qZ qN qB qY qi qo qm qp c1 c2 c3 c4 c5 c6 c7 c8 c9 K Z N B Y I O M P ct wr ofs th pa ey fo la) H := hP
    have hD : va_D A (((wJ qJ qH qh cH qI qD qS qC cS cC s c (ju ho h 0) hn hg hm hp wc wd tf) ++ [(qw, .inl (cw, 1, .inr (.inl fw)))]) ++ wM qM qK qZ qN qB qY qi qo qm qp c1 c2 c3 c4 c5 c6 c7 c8 c9 K Z N B Y I O M P ct wr ofs th pa ey fo la) := hD
    have hm0 : (if 5 < h then 1 else if I h = 0 then 2 else 0) = 0 := by rw [← E.1, h0]; rfl
    refine lv_istore (lv' := [(5, .int (nI 0)), (4, .int (nI ii)), (0, .ref bb), (1, .ref qJ), (2, .ref qM), (3, .ref qw)]) hx hb dd_L_law_338 hl (by decide) rfl (fun ls hl => ?_)
    refine lv_aload_n hx hb dd_L_law_340 rfl (lv_at hl 4 rfl) ?_
    refine lv_aload_n hx hb dd_L_law_341 rfl (lv_at hl 2 rfl) ?_
    refine lv_iload hx hb dd_L_law_342 (lv_at hl 1 rfl) ?_
    refine lv_iconst (v := nI 1) hx hb dd_L_law_344 (by decide) ?_
    refine jl_iadd hx hb dd_L_law_345 ?_
    refine jl_sld hx hb hX hbl hbA hS (by omega) (by omega) dd_L_law_346 ?_
    refine jl_top (congrArg nI ev_h) ?_
    have hD := jw_permD List.perm_append_comm hD
    have hP := jw_permP List.perm_append_comm hP
    refine jm_callV C (ct_M_close l G qM qK qZ qN qB qY qi qo qm qp c1 c2 c3 c4 c5 c6 c7 c8 c9 K Z N B Y I O M P ct wr ofs th pa ey fo la h hv_h hR.i2) kl_L_88 ⟨Nat.le_of_ble_eq_true rfl, Nat.le_of_ble_eq_true rfl⟩ ⟨by show 23 + 7 * nn + 2 + 0 ≤ 601024; omega, by show 3071 + 42 * nn + 12 + 0 ≤ 7293034; omega⟩ hP hD hS hA hKM (va_recv hKM hP (ci := 4) (q0 := 0) rfl rfl) hl.1 rfl rfl (Nat.le_of_ble_eq_true rfl) dd_L_law_347 (fun H locs hP hD hS => ?_)
    refine lv_aload_n hx hb dd_L_law_350 rfl (lv_at hl 4 rfl) ?_
    refine jr_callV C (ct_M_thrown l G _ _ _ _ _ _ _ _ _ _ _ _ _ _ _ _ _ _ _ _ _ _ _ _ _ _ _ _ _ _ _ _ _ _ _ _) kl_L_78 ⟨Nat.le_of_ble_eq_true rfl, Nat.le_of_ble_eq_true rfl, rfl, rfl⟩ ⟨by show 23 + 7 * nn + 2 + 0 ≤ 601024; omega, by show 3071 + 42 * nn + 12 + 0 ≤ 7293034; omega⟩ (jw_left hP) hKM (va_recv hKM hP (ci := 4) (q0 := 0) rfl rfl) hl.1 rfl rfl (Nat.le_of_ble_eq_true rfl) dd_L_law_351 ?_
    refine lv_iload hx hb dd_L_law_354 (lv_at hl 0 rfl) ?_
    refine lv_icmp_eq (tgt := 361) hx hb dd_L_law_356 (by decide) (fun _ => ?_) (fun h9 => absurd (show nI (if 5 < h then 1 else if I h = 0 then 2 else 0) = nI 0 from by rw [hm0]) h9)
    refine lv_goto (tgt := 1039) hx hb dd_L_law_361 (by decide) ?_
    have hD := jw_permD List.perm_append_comm hD
    have hP := jw_permP List.perm_append_comm hP
    refine W.widen (by show 23 + 7 * nn + 2 + 0 ≤ 23 + 7 * (nn + 1); omega) (by show 3071 + 42 * nn + 12 + 0 ≤ 3071 + 42 * (nn + 1); omega) ?_
    exact nx _ _ _ _ _ _ _ _ _ _ _ _ _ _ _ _ _ _ _ _ _ _ _ _ _ _ _ _ _ _ _ (E.2.1 h0) (by omega) (by omega) hP hD hS (lv_sub hl [1, 2, 3, 4, 5] rfl)
  · skip
    have hP : va_P G jcl (((wJ qJ qH qh cH qI qD qS qC cS cC s c ho hn hg hm hp wc wd tf) ++ [(qw, .inl (cw, 1, .inr (.inl fw)))]) ++ wM qM qK qZ qN qB qY qi qo qm qp c1 c2 c3 c4 c5 c6 c7 c8 c9 K Z N B Y I O M P ct wr ofs th pa ey fo la) H := hP
    have hD : va_D A (((wJ qJ qH qh cH qI qD qS qC cS cC s c ho hn hg hm hp wc wd tf) ++ [(qw, .inl (cw, 1, .inr (.inl fw)))]) ++ wM qM qK qZ qN qB qY qi qo qm qp c1 c2 c3 c4 c5 c6 c7 c8 c9 K Z N B Y I O M P ct wr ofs th pa ey fo la) := hD
    have hm0 : ¬ (if 5 < h then 1 else if I h = 0 then 2 else 0) = 0 := by rw [← E.1]; exact je_m_ne h0
    refine lv_istore (lv' := [(5, .int (nI (je_m ((jf_closeT ho h))))), (4, .int (nI ii)), (0, .ref bb), (1, .ref qJ), (2, .ref qM), (3, .ref qw)]) hx hb dd_L_law_338 hl (by decide) rfl (fun ls hl => ?_)
    refine lv_aload_n hx hb dd_L_law_340 rfl (lv_at hl 4 rfl) ?_
    refine lv_aload_n hx hb dd_L_law_341 rfl (lv_at hl 2 rfl) ?_
    refine lv_iload hx hb dd_L_law_342 (lv_at hl 1 rfl) ?_
    refine lv_iconst (v := nI 1) hx hb dd_L_law_344 (by decide) ?_
    refine jl_iadd hx hb dd_L_law_345 ?_
    refine jl_sld hx hb hX hbl hbA hS (by omega) (by omega) dd_L_law_346 ?_
    refine jl_top (congrArg nI ev_h) ?_
    have hD := jw_permD List.perm_append_comm hD
    have hP := jw_permP List.perm_append_comm hP
    refine jm_callV C (ct_M_close l G qM qK qZ qN qB qY qi qo qm qp c1 c2 c3 c4 c5 c6 c7 c8 c9 K Z N B Y I O M P ct wr ofs th pa ey fo la h hv_h hR.i2) kl_L_88 ⟨Nat.le_of_ble_eq_true rfl, Nat.le_of_ble_eq_true rfl⟩ ⟨by show 23 + 7 * nn + 2 + 0 ≤ 601024; omega, by show 3071 + 42 * nn + 12 + 0 ≤ 7293034; omega⟩ hP hD hS hA hKM (va_recv hKM hP (ci := 4) (q0 := 0) rfl rfl) hl.1 rfl rfl (Nat.le_of_ble_eq_true rfl) dd_L_law_347 (fun H locs hP hD hS => ?_)
    rw [E.2.2 h0] at hP hD
    refine lv_aload_n hx hb dd_L_law_350 rfl (lv_at hl 4 rfl) ?_
    refine jr_callV C (ct_M_thrown l G _ _ _ _ _ _ _ _ _ _ _ _ _ _ _ _ _ _ _ _ _ _ _ _ _ _ _ _ _ _ _ _ _ _ _ _) kl_L_78 ⟨Nat.le_of_ble_eq_true rfl, Nat.le_of_ble_eq_true rfl, rfl, rfl⟩ ⟨by show 23 + 7 * nn + 2 + 0 ≤ 601024; omega, by show 3071 + 42 * nn + 12 + 0 ≤ 7293034; omega⟩ (jw_left hP) hKM (va_recv hKM hP (ci := 4) (q0 := 0) rfl rfl) hl.1 rfl rfl (Nat.le_of_ble_eq_true rfl) dd_L_law_351 ?_
    refine lv_iload hx hb dd_L_law_354 (lv_at hl 0 rfl) ?_
    refine lv_icmp_eq (tgt := 361) hx hb dd_L_law_356 (by decide) (fun _ => ?_) (fun h9 => absurd (show nI (if 5 < h then 1 else if I h = 0 then 2 else 0) = nI (je_m ((jf_closeT ho h))) from by rw [← E.1]) h9)
    refine lv_goto (tgt := 1039) hx hb dd_L_law_361 (by decide) ?_
    have hD := jw_permD List.perm_append_comm hD
    have hP := jw_permP List.perm_append_comm hP
    refine W.widen (by show 23 + 7 * nn + 2 + 0 ≤ 23 + 7 * (nn + 1); omega) (by show 3071 + 42 * nn + 12 + 0 ≤ 3071 + 42 * (nn + 1); omega) ?_
    exact nx _ _ _ _ _ _ _ _ _ _ _ _ _ _ _ _ _ _ _ _ _ _ _ _ _ _ _ _ _ _ _ hR (by omega) (by omega) hP hD hS (lv_sub hl [1, 2, 3, 4, 5] rfl)

set_option maxHeartbeats 4000000 in
set_option maxRecDepth 100000 in
theorem lw_case_write {p : Program} {l : Launch} {e : Env} {σ : State} {m : MethodId} {below : List Frame} {meth : Method} {cd : Code} {bb L : Nat} {xs : Nat → Int32} {G : va_G} {A : Nat → Prop} {qJ qH : Nat} {qh : Nat → Nat} {cH : ClassId} {qI qD qS qC : Nat} {cS cC : ClassId} {qw : Nat} {cw : ClassId} {qM qK qZ qN qB qY qi qo qm qp : Nat} {c1 c2 c3 c4 c5 c6 c7 c8 c9 : ClassId} {Q : State → Prop} {ii nn : Nat} (hl9 : l.stackTraces = false) (C : jx p σ m #[Value.ref bb] meth cd cn_L code 8 ret) (hz : jz A σ σ.heap) (hy : jy σ) (hKO : va_K G jcl (tJ cS cC cH ++ [(cw, .long)]) σ) (hKM : va_K G jcl (tM c1 c2 c3 c4 c5 c6 c7 c8 c9) σ) (hX : va_X bb L xs σ σ.heap) (hbl : bb < σ.heap.size) (hbA : ¬ A bb) (hA : ∀ q : Nat, σ.heap.size ≤ q → A q) (hL : L ≤ 3072) (hii : ii + 6 ≤ L) (hnn : nn < 512) (nx : lw_nx p l e σ m below meth cd bb L xs G A qJ qH qh cH qI qD qS qC cS cC qw cw qM qK qZ qN qB qY qi qo qm qp c1 c2 c3 c4 c5 c6 c7 c8 c9 Q ii nn) {H : Heap} {locs : List Loc} {ls : Array Slot} {fw : Nat → Int64} {s c ho hn hg hm hp : Nat → Nat} {wc wd tf : Nat} {K Z N B Y I O M P : Nat → Nat} {ct wr ofs th : Nat} {pa ey fo : Option Nat} {la : Nat} (hR : je_R s c ho hn hg hm hp wc wd tf K Z N B Y I O M P ct wr ofs) (hw : wr ≤ 81 * nn) (hof : ofs ≤ nn) (hP : va_P G jcl ((wJ qJ qH qh cH qI qD qS qC cS cC s c ho hn hg hm hp wc wd tf ++ [(qw, .inl (cw, 1, .inr (.inl fw)))]) ++ wM qM qK qZ qN qB qY qi qo qm qp c1 c2 c3 c4 c5 c6 c7 c8 c9 K Z N B Y I O M P ct wr ofs th pa ey fo la) H) (hD : va_D A ((wJ qJ qH qh cH qI qD qS qC cS cC s c ho hn hg hm hp wc wd tf ++ [(qw, .inl (cw, 1, .inr (.inl fw)))]) ++ wM qM qK qZ qN qB qY qi qo qm qp c1 c2 c3 c4 c5 c6 c7 c8 c9 K Z N B Y I O M P ct wr ofs th pa ey fo la)) (hS : va_S A σ.heap H locs) (hl : lv_has ls 8 [(4, .int (nI ii)), (0, .ref bb), (1, .ref qJ), (2, .ref qM), (3, .ref qw)]) : W p l e room_1 σ m #[Value.ref bb] below meth cd H locs (23 + 7 * nn) (3071 + 42 * nn) Q (F0 m 364 ls []) := by
  have hx := C.1
  have hb := C.2.1
  have hown := C.2.2.2.1
  have hts := C.2.2.2.2.1
  have hKJ : va_K G jcl (tJ cS cC cH) σ := hKO.sub [0, 1, 2] rfl
  obtain ⟨h, hv_h, ev_h⟩ : ∃ h, h < 4294967296 ∧ jI (xs (ii + 1)) = h := ⟨_, jI_lt _, rfl⟩
  obtain ⟨z, hv_z, ev_z⟩ : ∃ z, z < 4294967296 ∧ jI (xs (ii + 4)) = z := ⟨_, jI_lt _, rfl⟩
  obtain ⟨b, hv_b, ev_b⟩ := wb_of ((nI (jI (xs (ii + 2)))).toInt64 <<< ((nI 32).toInt64 &&& 63) ||| (nI (jI (xs (ii + 3)))).toInt64 &&& 4294967295)
  refine lv_aload_n hx hb dd_L_law_364 rfl (lv_at hl 2 rfl) ?_
  refine lv_aload_n hx hb dd_L_law_365 rfl (lv_at hl 1 rfl) ?_
  refine lv_iload hx hb dd_L_law_366 (lv_at hl 0 rfl) ?_
  refine lv_iconst (v := nI 1) hx hb dd_L_law_368 (by decide) ?_
  refine jl_iadd hx hb dd_L_law_369 ?_
  refine jl_sld hx hb hX hbl hbA hS (by omega) (by omega) dd_L_law_370 ?_
  refine jl_top (congrArg nI ev_h) ?_
  refine lv_aload_n hx hb dd_L_law_371 rfl (lv_at hl 1 rfl) ?_
  refine lv_iload hx hb dd_L_law_372 (lv_at hl 0 rfl) ?_
  refine lv_iconst (v := nI 2) hx hb dd_L_law_374 (by decide) ?_
  refine jl_iadd hx hb dd_L_law_375 ?_
  refine jl_sld hx hb hX hbl hbA hS (by omega) (by omega) dd_L_law_376 ?_
  refine lv_i2l hx hb dd_L_law_377 rfl ?_
  refine lv_bipush (v := nI 32) hx hb dd_L_law_378 (by decide) ?_
  refine lv_lshl hx hb dd_L_law_380 rfl ?_
  refine lv_aload_n hx hb dd_L_law_381 rfl (lv_at hl 1 rfl) ?_
  refine lv_iload hx hb dd_L_law_382 (lv_at hl 0 rfl) ?_
  refine lv_iconst (v := nI 3) hx hb dd_L_law_384 (by decide) ?_
  refine jl_iadd hx hb dd_L_law_385 ?_
  refine jl_sld hx hb hX hbl hbA hS (by omega) (by omega) dd_L_law_386 ?_
  refine lv_i2l hx hb dd_L_law_387 rfl ?_
  refine lv_ldc2 (v := 4294967295) hx hb hown (hts _ tc_L_ldc) dd_L_law_388 ?_
  refine lv_land hx hb dd_L_law_391 ?_
  refine lv_lor hx hb dd_L_law_392 ?_
  refine jl_topL ev_b ?_
  refine lv_aload_n hx hb dd_L_law_393 rfl (lv_at hl 1 rfl) ?_
  refine lv_iload hx hb dd_L_law_394 (lv_at hl 0 rfl) ?_
  refine lv_iconst (v := nI 4) hx hb dd_L_law_396 (by decide) ?_
  refine jl_iadd hx hb dd_L_law_397 ?_
  refine jl_sld hx hb hX hbl hbA hS (by omega) (by omega) dd_L_law_398 ?_
  refine jl_top (congrArg nI ev_z) ?_
  have E := je_write hR h b z (m := 40) (by decide)
  refine jL_callS (wr := [(qw, .inl (cw, 1, .inr (.inl fw)))] ++ wM qM qK qZ qN qB qY qi qo qm qp c1 c2 c3 c4 c5 c6 c7 c8 c9 K Z N B Y I O M P ct wr ofs th pa ey fo la) C hz hy (ct_L_write l hl9 G qJ qH qh cH qI qD qS qC cS cC s c ho hn hg hm hp wc wd tf h b z hv_h hv_b hv_z hR.s0.ok hR.ho2 hR.hn2 hR.hg2 hR.hm2 hR.hp2) kw_L_write ⟨Nat.le_of_ble_eq_true rfl, Nat.le_of_ble_eq_true rfl⟩ ⟨by show 23 + 7 * nn + 6 ≤ 601024; omega, by show 3071 + 42 * nn + 36 ≤ 7293034; omega⟩ hP hD hS hA hKJ hl.1 rfl rfl (Nat.le_of_ble_eq_true rfl) dd_L_law_399 (fun o9 w9 H locs hxx hP hD hS => ?_)
  rcases hxx with ⟨h0, rfl, rfl⟩ | ⟨h0, rfl, rfl⟩
  · skip
    have hP : va_P G jcl (((wJ qJ qH qh cH qI qD qS qC cS cC (if z = 0 then s else jf_wbL (hn h) (hp h) b z 0 (jf_resize s (hn h) (max (jf_size s (hn h)) (hp h + z)))) c ho hn hg hm (if z = 0 then hp else ju hp h (hp h + z)) wc wd tf) ++ [(qw, .inl (cw, 1, .inr (.inl fw)))]) ++ wM qM qK qZ qN qB qY qi qo qm qp c1 c2 c3 c4 c5 c6 c7 c8 c9 K Z N B Y I O M P ct wr ofs th pa ey fo la) H := hP
    have hD : va_D A (((wJ qJ qH qh cH qI qD qS qC cS cC (if z = 0 then s else jf_wbL (hn h) (hp h) b z 0 (jf_resize s (hn h) (max (jf_size s (hn h)) (hp h + z)))) c ho hn hg hm (if z = 0 then hp else ju hp h (hp h + z)) wc wd tf) ++ [(qw, .inl (cw, 1, .inr (.inl fw)))]) ++ wM qM qK qZ qN qB qY qi qo qm qp c1 c2 c3 c4 c5 c6 c7 c8 c9 K Z N B Y I O M P ct wr ofs th pa ey fo la) := hD
    have hm0 : (jm_wrT K Z N B I O M P h z) = 0 := by rw [← E.1, h0]; rfl
    refine lv_istore (lv' := [(5, .int (nI 0)), (4, .int (nI ii)), (0, .ref bb), (1, .ref qJ), (2, .ref qM), (3, .ref qw)]) hx hb dd_L_law_402 hl (by decide) rfl (fun ls hl => ?_)
    refine lv_aload_n hx hb dd_L_law_404 rfl (lv_at hl 4 rfl) ?_
    refine lv_aload_n hx hb dd_L_law_405 rfl (lv_at hl 2 rfl) ?_
    refine lv_iload hx hb dd_L_law_406 (lv_at hl 1 rfl) ?_
    refine lv_iconst (v := nI 1) hx hb dd_L_law_408 (by decide) ?_
    refine jl_iadd hx hb dd_L_law_409 ?_
    refine jl_sld hx hb hX hbl hbA hS (by omega) (by omega) dd_L_law_410 ?_
    refine jl_top (congrArg nI ev_h) ?_
    refine lv_aload_n hx hb dd_L_law_411 rfl (lv_at hl 2 rfl) ?_
    refine lv_iload hx hb dd_L_law_412 (lv_at hl 1 rfl) ?_
    refine lv_iconst (v := nI 2) hx hb dd_L_law_414 (by decide) ?_
    refine jl_iadd hx hb dd_L_law_415 ?_
    refine jl_sld hx hb hX hbl hbA hS (by omega) (by omega) dd_L_law_416 ?_
    refine lv_i2l hx hb dd_L_law_417 rfl ?_
    refine lv_bipush (v := nI 32) hx hb dd_L_law_418 (by decide) ?_
    refine lv_lshl hx hb dd_L_law_420 rfl ?_
    refine lv_aload_n hx hb dd_L_law_421 rfl (lv_at hl 2 rfl) ?_
    refine lv_iload hx hb dd_L_law_422 (lv_at hl 1 rfl) ?_
    refine lv_iconst (v := nI 3) hx hb dd_L_law_424 (by decide) ?_
    refine jl_iadd hx hb dd_L_law_425 ?_
    refine jl_sld hx hb hX hbl hbA hS (by omega) (by omega) dd_L_law_426 ?_
    refine lv_i2l hx hb dd_L_law_427 rfl ?_
    refine lv_ldc2 (v := 4294967295) hx hb hown (hts _ tc_L_ldc) dd_L_law_428 ?_
    refine lv_land hx hb dd_L_law_431 ?_
    refine lv_lor hx hb dd_L_law_432 ?_
    refine jl_topL ev_b ?_
    refine lv_aload_n hx hb dd_L_law_433 rfl (lv_at hl 2 rfl) ?_
    refine lv_iload hx hb dd_L_law_434 (lv_at hl 1 rfl) ?_
    refine lv_iconst (v := nI 4) hx hb dd_L_law_436 (by decide) ?_
    refine jl_iadd hx hb dd_L_law_437 ?_
    refine jl_sld hx hb hX hbl hbA hS (by omega) (by omega) dd_L_law_438 ?_
    refine jl_top (congrArg nI ev_z) ?_
    have hD := jw_permD List.perm_append_comm hD
    have hP := jw_permP List.perm_append_comm hP
    refine jm_callV C (ct_M_write l G qM qK qZ qN qB qY qi qo qm qp c1 c2 c3 c4 c5 c6 c7 c8 c9 K Z N B Y I O M P ct wr ofs th pa ey fo la h b z 40 hv_h hv_b hv_z (by decide) hR.s0.b4 hR.s0.k3 hR.s0.z6 hR.s0.n2 hR.i2 hR.o2 hR.m2 hR.p2) kl_L_94 ⟨Nat.le_of_ble_eq_true rfl, Nat.le_of_ble_eq_true rfl⟩ ⟨by show 23 + 7 * nn + 6 + 0 ≤ 601024; omega, by show 3071 + 42 * nn + 36 + 0 ≤ 7293034; omega⟩ hP hD hS hA hKM (va_recv hKM hP (ci := 4) (q0 := 0) rfl rfl) hl.1 rfl rfl (Nat.le_of_ble_eq_true rfl) dd_L_law_439 (fun H locs hP hD hS => ?_)
    simp only [if_pos hm0] at hP hD
    refine lv_aload_n hx hb dd_L_law_442 rfl (lv_at hl 4 rfl) ?_
    refine jr_callV C (ct_M_thrown l G _ _ _ _ _ _ _ _ _ _ _ _ _ _ _ _ _ _ _ _ _ _ _ _ _ _ _ _ _ _ _ _ _ _ _ _) kl_L_78 ⟨Nat.le_of_ble_eq_true rfl, Nat.le_of_ble_eq_true rfl, rfl, rfl⟩ ⟨by show 23 + 7 * nn + 6 + 0 ≤ 601024; omega, by show 3071 + 42 * nn + 36 + 0 ≤ 7293034; omega⟩ (jw_left hP) hKM (va_recv hKM hP (ci := 4) (q0 := 0) rfl rfl) hl.1 rfl rfl (Nat.le_of_ble_eq_true rfl) dd_L_law_443 ?_
    refine lv_iload hx hb dd_L_law_446 (lv_at hl 0 rfl) ?_
    refine lv_icmp_eq (tgt := 453) hx hb dd_L_law_448 (by decide) (fun _ => ?_) (fun h9 => absurd (show nI (jm_wrT K Z N B I O M P h z) = nI 0 from by rw [hm0]) h9)
    refine lv_goto (tgt := 1039) hx hb dd_L_law_453 (by decide) ?_
    have hD := jw_permD List.perm_append_comm hD
    have hP := jw_permP List.perm_append_comm hP
    refine W.widen (by show 23 + 7 * nn + 6 + 0 ≤ 23 + 7 * (nn + 1); omega) (by show 3071 + 42 * nn + 36 + 0 ≤ 3071 + 42 * (nn + 1); omega) ?_
    exact nx _ _ _ _ _ _ _ _ _ _ _ _ _ _ _ _ _ _ _ _ _ _ _ _ _ _ _ _ _ _ _ (E.2 hm0) (by omega) (by omega) hP hD hS (lv_sub hl [1, 2, 3, 4, 5] rfl)
  · skip
    have hP : va_P G jcl (((wJ qJ qH qh cH qI qD qS qC cS cC s c ho hn hg hm hp wc wd tf) ++ [(qw, .inl (cw, 1, .inr (.inl fw)))]) ++ wM qM qK qZ qN qB qY qi qo qm qp c1 c2 c3 c4 c5 c6 c7 c8 c9 K Z N B Y I O M P ct wr ofs th pa ey fo la) H := hP
    have hD : va_D A (((wJ qJ qH qh cH qI qD qS qC cS cC s c ho hn hg hm hp wc wd tf) ++ [(qw, .inl (cw, 1, .inr (.inl fw)))]) ++ wM qM qK qZ qN qB qY qi qo qm qp c1 c2 c3 c4 c5 c6 c7 c8 c9 K Z N B Y I O M P ct wr ofs th pa ey fo la) := hD
    have hm0 : ¬ (jm_wrT K Z N B I O M P h z) = 0 := by rw [← E.1]; exact je_m_ne h0
    refine lv_istore (lv' := [(5, .int (nI (je_m ((jf_wriT s ho hn hg hm hp h z))))), (4, .int (nI ii)), (0, .ref bb), (1, .ref qJ), (2, .ref qM), (3, .ref qw)]) hx hb dd_L_law_402 hl (by decide) rfl (fun ls hl => ?_)
    refine lv_aload_n hx hb dd_L_law_404 rfl (lv_at hl 4 rfl) ?_
    refine lv_aload_n hx hb dd_L_law_405 rfl (lv_at hl 2 rfl) ?_
    refine lv_iload hx hb dd_L_law_406 (lv_at hl 1 rfl) ?_
    refine lv_iconst (v := nI 1) hx hb dd_L_law_408 (by decide) ?_
    refine jl_iadd hx hb dd_L_law_409 ?_
    refine jl_sld hx hb hX hbl hbA hS (by omega) (by omega) dd_L_law_410 ?_
    refine jl_top (congrArg nI ev_h) ?_
    refine lv_aload_n hx hb dd_L_law_411 rfl (lv_at hl 2 rfl) ?_
    refine lv_iload hx hb dd_L_law_412 (lv_at hl 1 rfl) ?_
    refine lv_iconst (v := nI 2) hx hb dd_L_law_414 (by decide) ?_
    refine jl_iadd hx hb dd_L_law_415 ?_
    refine jl_sld hx hb hX hbl hbA hS (by omega) (by omega) dd_L_law_416 ?_
    refine lv_i2l hx hb dd_L_law_417 rfl ?_
    refine lv_bipush (v := nI 32) hx hb dd_L_law_418 (by decide) ?_
    refine lv_lshl hx hb dd_L_law_420 rfl ?_
    refine lv_aload_n hx hb dd_L_law_421 rfl (lv_at hl 2 rfl) ?_
    refine lv_iload hx hb dd_L_law_422 (lv_at hl 1 rfl) ?_
    refine lv_iconst (v := nI 3) hx hb dd_L_law_424 (by decide) ?_
    refine jl_iadd hx hb dd_L_law_425 ?_
    refine jl_sld hx hb hX hbl hbA hS (by omega) (by omega) dd_L_law_426 ?_
    refine lv_i2l hx hb dd_L_law_427 rfl ?_
    refine lv_ldc2 (v := 4294967295) hx hb hown (hts _ tc_L_ldc) dd_L_law_428 ?_
    refine lv_land hx hb dd_L_law_431 ?_
    refine lv_lor hx hb dd_L_law_432 ?_
    refine jl_topL ev_b ?_
    refine lv_aload_n hx hb dd_L_law_433 rfl (lv_at hl 2 rfl) ?_
    refine lv_iload hx hb dd_L_law_434 (lv_at hl 1 rfl) ?_
    refine lv_iconst (v := nI 4) hx hb dd_L_law_436 (by decide) ?_
    refine jl_iadd hx hb dd_L_law_437 ?_
    refine jl_sld hx hb hX hbl hbA hS (by omega) (by omega) dd_L_law_438 ?_
    refine jl_top (congrArg nI ev_z) ?_
    have hD := jw_permD List.perm_append_comm hD
    have hP := jw_permP List.perm_append_comm hP
    refine jm_callV C (ct_M_write l G qM qK qZ qN qB qY qi qo qm qp c1 c2 c3 c4 c5 c6 c7 c8 c9 K Z N B Y I O M P ct wr ofs th pa ey fo la h b z 40 hv_h hv_b hv_z (by decide) hR.s0.b4 hR.s0.k3 hR.s0.z6 hR.s0.n2 hR.i2 hR.o2 hR.m2 hR.p2) kl_L_94 ⟨Nat.le_of_ble_eq_true rfl, Nat.le_of_ble_eq_true rfl⟩ ⟨by show 23 + 7 * nn + 6 + 0 ≤ 601024; omega, by show 3071 + 42 * nn + 36 + 0 ≤ 7293034; omega⟩ hP hD hS hA hKM (va_recv hKM hP (ci := 4) (q0 := 0) rfl rfl) hl.1 rfl rfl (Nat.le_of_ble_eq_true rfl) dd_L_law_439 (fun H locs hP hD hS => ?_)
    simp only [if_neg hm0] at hP hD
    refine lv_aload_n hx hb dd_L_law_442 rfl (lv_at hl 4 rfl) ?_
    refine jr_callV C (ct_M_thrown l G _ _ _ _ _ _ _ _ _ _ _ _ _ _ _ _ _ _ _ _ _ _ _ _ _ _ _ _ _ _ _ _ _ _ _ _) kl_L_78 ⟨Nat.le_of_ble_eq_true rfl, Nat.le_of_ble_eq_true rfl, rfl, rfl⟩ ⟨by show 23 + 7 * nn + 6 + 0 ≤ 601024; omega, by show 3071 + 42 * nn + 36 + 0 ≤ 7293034; omega⟩ (jw_left hP) hKM (va_recv hKM hP (ci := 4) (q0 := 0) rfl rfl) hl.1 rfl rfl (Nat.le_of_ble_eq_true rfl) dd_L_law_443 ?_
    refine lv_iload hx hb dd_L_law_446 (lv_at hl 0 rfl) ?_
    refine lv_icmp_eq (tgt := 453) hx hb dd_L_law_448 (by decide) (fun _ => ?_) (fun h9 => absurd (show nI (jm_wrT K Z N B I O M P h z) = nI (je_m ((jf_wriT s ho hn hg hm hp h z))) from by rw [← E.1]) h9)
    refine lv_goto (tgt := 1039) hx hb dd_L_law_453 (by decide) ?_
    have hD := jw_permD List.perm_append_comm hD
    have hP := jw_permP List.perm_append_comm hP
    refine W.widen (by show 23 + 7 * nn + 6 + 0 ≤ 23 + 7 * (nn + 1); omega) (by show 3071 + 42 * nn + 36 + 0 ≤ 3071 + 42 * (nn + 1); omega) ?_
    exact nx _ _ _ _ _ _ _ _ _ _ _ _ _ _ _ _ _ _ _ _ _ _ _ _ _ _ _ _ _ _ _ hR (by omega) (by omega) hP hD hS (lv_sub hl [1, 2, 3, 4, 5] rfl)

