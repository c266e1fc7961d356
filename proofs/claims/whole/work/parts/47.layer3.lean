section JA
variable {p : Program} {l : Launch} {e : Env} {R : Room} {s : State} {m : MethodId} {args : Array Value} {below : List Frame} {meth : Method} {c : Code} {H : Heap} {locs : List Loc} {cells slots : Nat} {Q : State → Prop}
variable {cc : ByteArray} {pc nL : Nat} {ls : Array Slot} {rest st : List Value} {own : String} {ret : Option FieldType} {G : va_G} {tys : List (ClassId × FieldType)} {A : Nat → Prop} {ws' : va_W} {As : List Value} {rm : Room} {Ok : Option Value → va_W → Prop} {Ex : String → va_W → Prop}
theorem jt_reta {w : Nat} {C9 : String} (C : jx p s m As.toArray meth c own cc nL (some (.object C9))) (ho : Ok (some (.ref w)) ws') (hP : va_P G jcl ws' H) (hD : va_D A ws') (hK : va_K G jcl tys s) (hS : va_S A s.heap H locs) (hc : cells ≤ rm.cells ∧ slots ≤ rm.slots) (hd : decode cc pc = .ok (.areturn, 1)) : W p l e R s m As.toArray below meth c H locs cells slots (jt_Q below rm G tys A As s Ok Ex) (F0 m pc ls [.ref w]) :=
  W.widen hc.1 hc.2 (vx_ret (W.aret (v := .ref w) C.1 C.2.1 C.2.2.2.2.2.1 (Or.inl ⟨_, rfl⟩) (Or.inr ⟨_, rfl⟩) (fun t ht hW => ⟨⟨_, ws', rfl, ho, by rw [ht]; exact hP, va_K.moved hW.alike hK, hD⟩, hS.F ht⟩) hS.2.2 hd C.2.2.2.2.2.2))
end JA
theorem jf_closed_lt {ho : Nat → Nat} {j : Nat} : ∀ n h, jf_clT ho n h = some j → j < h + n := by
  intro n
  induction n with
  | zero => intro h e; simp [jf_clT] at e
  | succ n ih =>
    intro h e
    unfold jf_clT at e
    split at e
    · cases e; omega
    · have := ih _ e; omega
theorem jf_closed_6 (ho : Nat → Nat) : (jf_closed ho).getD 0 < 6 := by
  cases h : jf_closed ho with
  | none => decide
  | some j =>
    have := jf_closed_lt 6 0 h
    show j < 6
    omega
def jf_hral (s : Nat → Nat) (a b : Nat) : Nat :=
  if (if a = b then jf_entries s a - 1 else jf_entries s b) < 16 then (if jf_startsBlock (if a = b then jf_entries s a - 1 else jf_entries s b) = 0 then 1 else if jf_free s + (if jf_startsBlock (jf_entries s a - 1) = 0 then 0 else 1) = 0 then 0 else 1) else 0
theorem jf_hral_lt (s : Nat → Nat) (a b : Nat) : jf_hral s a b < 2 := by
  unfold jf_hral
  generalize (if a = b then jf_entries s a - 1 else jf_entries s b) = x
  generalize jf_free s + (if jf_startsBlock (jf_entries s a - 1) = 0 then 0 else 1) = y
  split
  · split
    · decide
    · split <;> decide
  · decide
