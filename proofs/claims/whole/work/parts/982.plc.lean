section PLC
variable {N : Nat} {S : Nat → Int32} {v v' y : Nat → Nat → Int32} {l : Nat → Nat → Int64} {d n F x : Nat} {W : Int32 → (Nat → Int32) → Int32} {P po : Int32} {s : ab_S}
theorem ab_fo_env (h3 : v' 246 3 = v 246 3) (h : v' 250 = v 250) : ab_fo v' = ab_fo v := by
  have e : ab_f1 v' = ab_f1 v := by
    funext p s
    unfold ab_f1 ab_rc ab_rd
    rw [h3, h]
  unfold ab_fo
  rw [e]
theorem ab_fd_z : ab_fd v W P po s n F 0 = (1000000000, 0, 0) := rfl
theorem ab_fd_env (h3 : v' 246 3 = v 246 3) (h : ∀ c, 250 ≤ c → c ≤ 254 → v' c = v c) : ab_fd v' W P po s n F x = ab_fd v W P po s n F x := by
  induction x with
  | zero => rw [ab_fd_z, ab_fd_z]
  | succ x ih => rw [ab_fd_s, ab_fd_s, ih, ab_up_env h3 h]
theorem fk_inb {x : Int32} {n : Nat} (hn : n < 1000000) : (nI 0 ≤ x ∧ x ≤ nI n) ↔ (nI 0 ≤ x ∧ x < nI (n + 1)) := by
  constructor
  · intro h
    obtain ⟨k, hk, rfl⟩ := fk_ixn2 h.1 h.2 (by omega)
    exact ⟨h.1, (nI_ltI (by omega) (by omega)).mpr (by omega)⟩
  · intro h
    obtain ⟨k, hk, rfl⟩ := fk_ixn h.1 h.2 (by omega)
    exact ⟨h.1, nI_le (by omega) (by omega)⟩
/-- what both say when they say no -/
theorem cl_plan_no (hR : cR S y) {one k w : Int32} {H : Nat} (e3 : y 33 3 = nI H) (e832 : y 247 832 = nI H) (h : ¬ ((nI 0 ≤ one ∧ one < nI 4) ∧ (nI 0 ≤ P ∧ P < nI 65536) ∧ (nI 0 ≤ w ∧ w < nI 3) ∧ (nI 1 ≤ k ∧ k ≤ nI 48 ∧ nI H + k ≤ nI 999))) : fk_ev (d + 9) qX11_plan 0 [.ref 1, .int one, .int P, .int k, .int w, .null] [] (fk_E N y l) = some (some (.int ((-1))), fk_E N y l) ∧ fk_ev (d + 9) qX12_plan 0 [.ref 246, .int one, .int P, .int k, .int w, .null, .null] [] (fk_E N y l) = some (some (.int ((-1))), fk_E N y l) := by
  have hcp := mX11_canPass (N := N) (l := l) (d := d + 8) (k := k) e3
  by_cases c1 : nI 0 ≤ one ∧ one < nI 4
  · by_cases c2 : nI 0 ≤ P ∧ P < nI 65536
    · have c2b : nI 0 ≤ P ∧ P ≤ nI 65535 := (fk_inb (by omega)).mpr c2
      by_cases c3 : nI 0 ≤ w ∧ w < nI 3
      · have c3b : nI 0 ≤ w ∧ w ≤ nI 2 := (fk_inb (by omega)).mpr c3
        have c4 : ¬ (nI 1 ≤ k ∧ k ≤ nI 48 ∧ nI H + k ≤ nI 999) := fun z => h ⟨c1, c2, c3, z⟩
        rw [fk_b_f c4] at hcp
        refine ⟨?_, ?_⟩
        · simp (disch := first | assumption | omega) only [rX11_plan, mX11_within, c1, c2, c3, and_self, hcp, Option.bind_some, Option.toList_some, Option.toList_none, List.cons_append, List.nil_append, fk_b_0, nI_add, Nat.add_zero, Nat.zero_add, not_true_eq_false, not_false_eq_true, if_true, if_false, sI_le_t, sI_le_f, sI_lt_t, sI_lt_f, sI_eq_t, sI_eq_f, sI_rem, sI_div, sI_m1a, sI_m1b, sI_m1c, sI_m1d, sI_m1e, sI_m1f, sI_m2a, sI_m2b, sI_sub, pk_mul, sI_dec, fk_u_s, fk_u_o, sI_dec0, sI_z, sI_md, Bool.false_eq_true, Nat.reduceAdd, Nat.reduceMul, Nat.reduceSub, Nat.reduceMod, Nat.reduceDiv]
        · by_cases c5 : nI 1 ≤ k ∧ k ≤ nI 48
          · have c6 : nI 999 < nI H + k := Int32.not_le.mp fun z => c4 ⟨c5.1, c5.2, z⟩
            simp (disch := first | assumption | omega) only [rX12_plan, mX12_isOne, mX12_in, c1, c2b, c3b, c5, c6, and_self, e832, Option.bind_some, Option.toList_some, Option.toList_none, List.cons_append, List.nil_append, fk_b_0, nI_add, Nat.add_zero, Nat.zero_add, not_true_eq_false, not_false_eq_true, if_true, if_false, sI_le_t, sI_le_f, sI_lt_t, sI_lt_f, sI_eq_t, sI_eq_f, sI_rem, sI_div, sI_m1a, sI_m1b, sI_m1c, sI_m1d, sI_m1e, sI_m1f, sI_m2a, sI_m2b, sI_sub, pk_mul, sI_dec, fk_u_s, fk_u_o, sI_dec0, sI_z, sI_md, Bool.false_eq_true, Nat.reduceAdd, Nat.reduceMul, Nat.reduceSub, Nat.reduceMod, Nat.reduceDiv]
          · simp (disch := first | assumption | omega) only [rX12_plan, mX12_isOne, mX12_in, c1, c2b, c3b, c5, and_self, Option.bind_some, Option.toList_some, Option.toList_none, List.cons_append, List.nil_append, fk_b_0, nI_add, Nat.add_zero, Nat.zero_add, not_true_eq_false, not_false_eq_true, if_true, if_false, sI_le_t, sI_le_f, sI_lt_t, sI_lt_f, sI_eq_t, sI_eq_f, sI_rem, sI_div, sI_m1a, sI_m1b, sI_m1c, sI_m1d, sI_m1e, sI_m1f, sI_m2a, sI_m2b, sI_sub, pk_mul, sI_dec, fk_u_s, fk_u_o, sI_dec0, sI_z, sI_md, Bool.false_eq_true, Nat.reduceAdd, Nat.reduceMul, Nat.reduceSub, Nat.reduceMod, Nat.reduceDiv]
      · have c3b : ¬ (nI 0 ≤ w ∧ w ≤ nI 2) := fun z => c3 ((fk_inb (by omega)).mp z)
        refine ⟨?_, ?_⟩
        · simp (disch := first | assumption | omega) only [rX11_plan, mX11_within, c1, c2, c3, and_self, Option.bind_some, Option.toList_some, Option.toList_none, List.cons_append, List.nil_append, fk_b_0, nI_add, Nat.add_zero, Nat.zero_add, not_true_eq_false, not_false_eq_true, if_true, if_false, sI_le_t, sI_le_f, sI_lt_t, sI_lt_f, sI_eq_t, sI_eq_f, sI_rem, sI_div, sI_m1a, sI_m1b, sI_m1c, sI_m1d, sI_m1e, sI_m1f, sI_m2a, sI_m2b, sI_sub, pk_mul, sI_dec, fk_u_s, fk_u_o, sI_dec0, sI_z, sI_md, Bool.false_eq_true, Nat.reduceAdd, Nat.reduceMul, Nat.reduceSub, Nat.reduceMod, Nat.reduceDiv]
        · by_cases c5 : nI 1 ≤ k ∧ k ≤ nI 48
          · simp (disch := first | assumption | omega) only [rX12_plan, mX12_isOne, mX12_in, c1, c2b, c3b, c5, and_self, Option.bind_some, Option.toList_some, Option.toList_none, List.cons_append, List.nil_append, fk_b_0, nI_add, Nat.add_zero, Nat.zero_add, not_true_eq_false, not_false_eq_true, if_true, if_false, sI_le_t, sI_le_f, sI_lt_t, sI_lt_f, sI_eq_t, sI_eq_f, sI_rem, sI_div, sI_m1a, sI_m1b, sI_m1c, sI_m1d, sI_m1e, sI_m1f, sI_m2a, sI_m2b, sI_sub, pk_mul, sI_dec, fk_u_s, fk_u_o, sI_dec0, sI_z, sI_md, Bool.false_eq_true, Nat.reduceAdd, Nat.reduceMul, Nat.reduceSub, Nat.reduceMod, Nat.reduceDiv]
          · simp (disch := first | assumption | omega) only [rX12_plan, mX12_isOne, mX12_in, c1, c2b, c5, and_self, Option.bind_some, Option.toList_some, Option.toList_none, List.cons_append, List.nil_append, fk_b_0, nI_add, Nat.add_zero, Nat.zero_add, not_true_eq_false, not_false_eq_true, if_true, if_false, sI_le_t, sI_le_f, sI_lt_t, sI_lt_f, sI_eq_t, sI_eq_f, sI_rem, sI_div, sI_m1a, sI_m1b, sI_m1c, sI_m1d, sI_m1e, sI_m1f, sI_m2a, sI_m2b, sI_sub, pk_mul, sI_dec, fk_u_s, fk_u_o, sI_dec0, sI_z, sI_md, Bool.false_eq_true, Nat.reduceAdd, Nat.reduceMul, Nat.reduceSub, Nat.reduceMod, Nat.reduceDiv]
    · have c2b : ¬ (nI 0 ≤ P ∧ P ≤ nI 65535) := fun z => c2 ((fk_inb (by omega)).mp z)
      refine ⟨?_, ?_⟩
      · simp (disch := first | assumption | omega) only [rX11_plan, mX11_within, c1, c2, and_self, Option.bind_some, Option.toList_some, Option.toList_none, List.cons_append, List.nil_append, fk_b_0, nI_add, Nat.add_zero, Nat.zero_add, not_true_eq_false, not_false_eq_true, if_true, if_false, sI_le_t, sI_le_f, sI_lt_t, sI_lt_f, sI_eq_t, sI_eq_f, sI_rem, sI_div, sI_m1a, sI_m1b, sI_m1c, sI_m1d, sI_m1e, sI_m1f, sI_m2a, sI_m2b, sI_sub, pk_mul, sI_dec, fk_u_s, fk_u_o, sI_dec0, sI_z, sI_md, Bool.false_eq_true, Nat.reduceAdd, Nat.reduceMul, Nat.reduceSub, Nat.reduceMod, Nat.reduceDiv]
      · simp (disch := first | assumption | omega) only [rX12_plan, mX12_isOne, mX12_in, c1, c2b, and_self, Option.bind_some, Option.toList_some, Option.toList_none, List.cons_append, List.nil_append, fk_b_0, nI_add, Nat.add_zero, Nat.zero_add, not_true_eq_false, not_false_eq_true, if_true, if_false, sI_le_t, sI_le_f, sI_lt_t, sI_lt_f, sI_eq_t, sI_eq_f, sI_rem, sI_div, sI_m1a, sI_m1b, sI_m1c, sI_m1d, sI_m1e, sI_m1f, sI_m2a, sI_m2b, sI_sub, pk_mul, sI_dec, fk_u_s, fk_u_o, sI_dec0, sI_z, sI_md, Bool.false_eq_true, Nat.reduceAdd, Nat.reduceMul, Nat.reduceSub, Nat.reduceMod, Nat.reduceDiv]
  · refine ⟨?_, ?_⟩
    · simp (disch := first | assumption | omega) only [rX11_plan, mX11_within, c1, Option.bind_some, Option.toList_some, Option.toList_none, List.cons_append, List.nil_append, fk_b_0, nI_add, Nat.add_zero, Nat.zero_add, not_true_eq_false, not_false_eq_true, if_true, if_false, sI_le_t, sI_le_f, sI_lt_t, sI_lt_f, sI_eq_t, sI_eq_f, sI_rem, sI_div, sI_m1a, sI_m1b, sI_m1c, sI_m1d, sI_m1e, sI_m1f, sI_m2a, sI_m2b, sI_sub, pk_mul, sI_dec, fk_u_s, fk_u_o, sI_dec0, sI_z, sI_md, Bool.false_eq_true, Nat.reduceAdd, Nat.reduceMul, Nat.reduceSub, Nat.reduceMod, Nat.reduceDiv]
    · simp (disch := first | assumption | omega) only [rX12_plan, mX12_isOne, c1, Option.bind_some, Option.toList_some, Option.toList_none, List.cons_append, List.nil_append, fk_b_0, nI_add, Nat.add_zero, Nat.zero_add, not_true_eq_false, not_false_eq_true, if_true, if_false, sI_le_t, sI_le_f, sI_lt_t, sI_lt_f, sI_eq_t, sI_eq_f, sI_rem, sI_div, sI_m1a, sI_m1b, sI_m1c, sI_m1d, sI_m1e, sI_m1f, sI_m2a, sI_m2b, sI_sub, pk_mul, sI_dec, fk_u_s, fk_u_o, sI_dec0, sI_z, sI_md, Bool.false_eq_true, Nat.reduceAdd, Nat.reduceMul, Nat.reduceSub, Nat.reduceMod, Nat.reduceDiv]
end PLC
