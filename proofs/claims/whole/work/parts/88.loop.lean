set_option maxHeartbeats 4000000 in
set_option maxRecDepth 100000 in
theorem lw_loop {p : Program} {l : Launch} {e : Env} {σ : State} {m : MethodId} {below : List Frame} {meth : Method} {cd : Code} {bb L : Nat} {xs : Nat → Int32} {G : va_G} {A : Nat → Prop} {qJ qH : Nat} {qh : Nat → Nat} {cH : ClassId} {qI qD qS qC : Nat} {cS cC : ClassId} {qw : Nat} {cw : ClassId} {qM qK qZ qN qB qY qi qo qm qp : Nat} {c1 c2 c3 c4 c5 c6 c7 c8 c9 : ClassId} {Q : State → Prop} (hl9 : l.stackTraces = false) (C : jx p σ m #[Value.ref bb] meth cd cn_L code 8 ret) (hz : jz A σ σ.heap) (hy : jy σ) (hKO : va_K G jcl (tJ cS cC cH ++ [(cw, .long)]) σ) (hKM : va_K G jcl (tM c1 c2 c3 c4 c5 c6 c7 c8 c9) σ) (hX : va_X bb L xs σ σ.heap) (hbl : bb < σ.heap.size) (hbA : ¬ A bb) (hA : ∀ q : Nat, σ.heap.size ≤ q → A q) (hL : L ≤ 3072) (ke : ∀ (H : Heap) (locs : List Loc) (ls : Array Slot), va_S A σ.heap H locs → W p l e room_1 σ m #[Value.ref bb] below meth cd H locs 601024 7293034 Q (F0 m 1045 ls [])) : ∀ (f nn : Nat), nn + f = 512 → ∀ (H : Heap) (locs : List Loc) (ls : Array Slot) (fw : Nat → Int64) (s c ho hn hg hm hp : Nat → Nat) (wc wd tf : Nat) (K Z N B Y I O M P : Nat → Nat) (ct wr ofs th : Nat) (pa ey fo : Option Nat) (la : Nat), je_R s c ho hn hg hm hp wc wd tf K Z N B Y I O M P ct wr ofs → wr ≤ 81 * nn → ofs ≤ nn → va_P G jcl ((wJ qJ qH qh cH qI qD qS qC cS cC s c ho hn hg hm hp wc wd tf ++ [(qw, .inl (cw, 1, .inr (.inl fw)))]) ++ wM qM qK qZ qN qB qY qi qo qm qp c1 c2 c3 c4 c5 c6 c7 c8 c9 K Z N B Y I O M P ct wr ofs th pa ey fo la) H → va_D A ((wJ qJ qH qh cH qI qD qS qC cS cC s c ho hn hg hm hp wc wd tf ++ [(qw, .inl (cw, 1, .inr (.inl fw)))]) ++ wM qM qK qZ qN qB qY qi qo qm qp c1 c2 c3 c4 c5 c6 c7 c8 c9 K Z N B Y I O M P ct wr ofs th pa ey fo la) → va_S A σ.heap H locs → lv_has ls 8 [(4, .int (nI (6 * nn))), (0, .ref bb), (1, .ref qJ), (2, .ref qM), (3, .ref qw)] → W p l e room_1 σ m #[Value.ref bb] below meth cd H locs (23 + 7 * nn) (3071 + 42 * nn) Q (F0 m 23 ls []) := by
  have hx := C.1
  have hb := C.2.1
  intro f
  induction f with
  | zero =>
    intro nn hnn H locs ls fw s c ho hn hg hm hp wc wd tf K Z N B Y I O M P ct wr ofs th pa ey fo la hR hw hof hP hD hS hl
    refine lv_iload hx hb dd_L_law_23 (lv_at hl 0 rfl) ?_
    refine lv_aload_n hx hb dd_L_law_25 rfl (lv_at hl 1 rfl) ?_
    refine va_slen hx hb hX hbl hbA hS dd_L_law_26 ?_
    refine lv_bipush (v := nI 6) hx hb dd_L_law_27 (by decide) ?_
    refine lv_isub hx hb dd_L_law_29 ?_
    exact jl_gtL (i := 6 * nn) (L := L) (tgt := 1045) hx hb (by omega) (by omega) dd_L_law_30 (by decide) (fun _ => W.widen (by show 23 + 7 * nn ≤ 601024; omega) (by show 3071 + 42 * nn ≤ 7293034; omega) (ke _ _ _ hS)) (fun h9 => absurd h9 (by omega))
  | succ f ih =>
    intro nn hnn H locs ls fw s c ho hn hg hm hp wc wd tf K Z N B Y I O M P ct wr ofs th pa ey fo la hR hw hof hP hD hS hl
    have nx : lw_nx p l e σ m below meth cd bb L xs G A qJ qH qh cH qI qD qS qC cS cC qw cw qM qK qZ qN qB qY qi qo qm qp c1 c2 c3 c4 c5 c6 c7 c8 c9 Q (6 * nn) nn := by
      intro H locs ls fw s c ho hn hg hm hp wc wd tf K Z N B Y I O M P ct wr ofs th pa ey fo la hR hw hof hP hD hS hl
      have e6 : nI (6 * nn) + Int32.ofInt 6 = nI (6 * (nn + 1)) := by
        rw [show Int32.ofInt 6 = nI 6 by decide, nI_add]
        exact congrArg nI (by omega)
      refine lv_iinc (v := nI (6 * (nn + 1))) (lv' := [(4, .int (nI (6 * (nn + 1)))), (0, .ref bb), (1, .ref qJ), (2, .ref qM), (3, .ref qw)]) hx hb dd_L_law_1039 hl (k := 0) rfl e6 (by decide) rfl (fun ls hl => ?_)
      refine lv_goto (tgt := 23) hx hb dd_L_law_1042 (by decide) ?_
      exact ih (nn + 1) (by omega) H locs ls fw s c ho hn hg hm hp wc wd tf K Z N B Y I O M P ct wr ofs th pa ey fo la hR hw hof hP hD hS hl
    refine lv_iload hx hb dd_L_law_23 (lv_at hl 0 rfl) ?_
    refine lv_aload_n hx hb dd_L_law_25 rfl (lv_at hl 1 rfl) ?_
    refine va_slen hx hb hX hbl hbA hS dd_L_law_26 ?_
    refine lv_bipush (v := nI 6) hx hb dd_L_law_27 (by decide) ?_
    refine lv_isub hx hb dd_L_law_29 ?_
    refine jl_gtL (i := 6 * nn) (L := L) (tgt := 1045) hx hb (by omega) (by omega) dd_L_law_30 (by decide) (fun _ => W.widen (by show 23 + 7 * nn ≤ 601024; omega) (by show 3071 + 42 * nn ≤ 7293034; omega) (ke _ _ _ hS)) (fun hii => ?_)
    refine lv_aload_n hx hb dd_L_law_33 rfl (lv_at hl 1 rfl) ?_
    refine lv_iload hx hb dd_L_law_34 (lv_at hl 0 rfl) ?_
    refine jl_sld hx hb hX hbl hbA hS (by omega) (by omega) dd_L_law_36 ?_
    refine lv_bipush (v := nI 15) hx hb dd_L_law_37 (by decide) ?_
    refine jl_and15 hx hb (jI_lt _) dd_L_law_39 ?_
    have h16 : jI (xs (6 * nn)) % 16 < 16 := Nat.mod_lt _ (by decide)
    generalize jI (xs (6 * nn)) % 16 = k9 at h16
    rcases (show k9 = 0 ∨ k9 = 1 ∨ k9 = 2 ∨ k9 = 3 ∨ k9 = 4 ∨ k9 = 5 ∨ k9 = 6 ∨ k9 = 7 ∨ k9 = 8 ∨ k9 = 9 ∨ k9 = 10 ∨ k9 = 11 ∨ k9 = 12 ∨ k9 = 13 ∨ k9 = 14 ∨ k9 = 15 by omega) with rfl | rfl | rfl | rfl | rfl | rfl | rfl | rfl | rfl | rfl | rfl | rfl | rfl | rfl | rfl | rfl
    · refine jl_swIn (a := 0) (off := 80) (tgt := 120) hx hb dd_L_law_40 (by decide) (by decide) (by decide) rfl (by decide) ?_
      exact lw_case_directory hl9 C hz hy hKO hKM hX hbl hbA hA hL hii (by omega) nx hR hw hof hP hD hS hl
    · refine jl_swIn (a := 1) (off := 136) (tgt := 176) hx hb dd_L_law_40 (by decide) (by decide) (by decide) rfl (by decide) ?_
      exact lw_case_open hl9 C hz hy hKO hKM hX hbl hbA hA hL hii (by omega) nx hR hw hof hP hD hS hl
    · refine jl_swIn (a := 2) (off := 288) (tgt := 328) hx hb dd_L_law_40 (by decide) (by decide) (by decide) rfl (by decide) ?_
      exact lw_case_close hl9 C hz hy hKO hKM hX hbl hbA hA hL hii (by omega) nx hR hw hof hP hD hS hl
    · refine jl_swIn (a := 3) (off := 324) (tgt := 364) hx hb dd_L_law_40 (by decide) (by decide) (by decide) rfl (by decide) ?_
      exact lw_case_write hl9 C hz hy hKO hKM hX hbl hbA hA hL hii (by omega) nx hR hw hof hP hD hS hl
    · refine jl_swIn (a := 4) (off := 416) (tgt := 456) hx hb dd_L_law_40 (by decide) (by decide) (by decide) rfl (by decide) ?_
      exact lw_case_read hl9 C hz hy hKO hKM hX hbl hbA hA hL hii (by omega) nx hR hw hof hP hD hS hl
    · refine jl_swIn (a := 5) (off := 483) (tgt := 523) hx hb dd_L_law_40 (by decide) (by decide) (by decide) rfl (by decide) ?_
      exact lw_case_seek hl9 C hz hy hKO hKM hX hbl hbA hA hL hii (by omega) nx hR hw hof hP hD hS hl
    · refine jl_swIn (a := 6) (off := 531) (tgt := 571) hx hb dd_L_law_40 (by decide) (by decide) (by decide) rfl (by decide) ?_
      exact lw_case_next hl9 C hz hy hKO hKM hX hbl hbA hA hL hii (by omega) nx hR hw hof hP hD hS hl
    · refine jl_swIn (a := 7) (off := 587) (tgt := 627) hx hb dd_L_law_40 (by decide) (by decide) (by decide) rfl (by decide) ?_
      exact lw_case_remove hl9 C hz hy hKO hKM hX hbl hbA hA hL hii (by omega) nx hR hw hof hP hD hS hl
    · refine jl_swIn (a := 8) (off := 623) (tgt := 663) hx hb dd_L_law_40 (by decide) (by decide) (by decide) rfl (by decide) ?_
      exact lw_case_rename hl9 C hz hy hKO hKM hX hbl hbA hA hL hii (by omega) nx hR hw hof hP hD hS hl
    · refine jl_swIn (a := 9) (off := 671) (tgt := 711) hx hb dd_L_law_40 (by decide) (by decide) (by decide) rfl (by decide) ?_
      exact lw_case_truncate hl9 C hz hy hKO hKM hX hbl hbA hA hL hii (by omega) nx hR hw hof hP hD hS hl
    · refine jl_swIn (a := 10) (off := 719) (tgt := 759) hx hb dd_L_law_40 (by decide) (by decide) (by decide) rfl (by decide) ?_
      exact lw_case_stat hl9 C hz hy hKO hKM hX hbl hbA hA hL hii (by omega) nx hR hw hof hP hD hS hl
    · refine jl_swIn (a := 11) (off := 787) (tgt := 827) hx hb dd_L_law_40 (by decide) (by decide) (by decide) rfl (by decide) ?_
      exact lw_case_commit hl9 C hz hy hKO hKM hX hbl hbA hA hL hii (by omega) nx hR hw hof hP hD hS hl
    · refine jl_swIn (a := 12) (off := 831) (tgt := 871) hx hb dd_L_law_40 (by decide) (by decide) (by decide) rfl (by decide) ?_
      exact lw_case_cutPower hl9 C hz hy hKO hKM hX hbl hbA hA hL hii (by omega) nx hR hw hof hP hD hS hl
    · refine jl_swIn (a := 13) (off := 867) (tgt := 907) hx hb dd_L_law_40 (by decide) (by decide) (by decide) rfl (by decide) ?_
      exact lw_case_crash hl9 C hz hy hKO hKM hX hbl hbA hA hL hii (by omega) nx hR hw hof hP hD hS hl
    · refine jl_swIn (a := 14) (off := 878) (tgt := 918) hx hb dd_L_law_40 (by decide) (by decide) (by decide) rfl (by decide) ?_
      exact lw_case_block hl9 C hz hy hKO hKM hX hbl hbA hA hL hii (by omega) nx hR hw hof hP hD hS hl
    · refine jl_swIn (a := 15) (off := 974) (tgt := 1014) hx hb dd_L_law_40 (by decide) (by decide) (by decide) rfl (by decide) ?_
      exact lw_case_count hl9 C hz hy hKO hKM hX hbl hbA hA hL hii (by omega) nx hR hw hof hP hD hS hl
