/-! THE LAW: the class runs orders: signs, and the whole run -/
section LW5
variable {N : Nat} {y : Nat → Nat → Int32} {l : Nat → Nat → Int64} {d c : Nat} {b b0 e t : Nat} {x6 x7 x8 : Value} {o x : Nat}
theorem lz_ops (h1 : 2 ≤ o) (h2 : o ≤ 9) : o = 2 ∨ o = 3 ∨ o = 4 ∨ o = 5 ∨ o = 6 ∨ o = 7 ∨ o = 8 ∨ o = 9 := by omega
theorem lz_nz {r : Int32} (h : ¬ r = nI 0) : (r = nI 0) = False := eq_false h
theorem lz_nz2 {r : Int32} (h : ¬ r = nI 0) : (r = 0) = False := eq_false h
theorem mX3_run_ref (hc : c = 2 ∨ c = 10) (ho : o = 5 ∨ o = 6) (hb : b < e) (he : e ≤ 240) (hs : t + 1 < 32) (h1 : y (c + 1) b = nI (lz_ko o)) (h2 : y (c + 7) (t + 1) = nI 0) : fk_ev d qX3_run 6 [.ref c, .int (nI b0), .int (nI e), .ref 239, .int (nI (t + 1)), .int (nI b), x6, x7, x8] [] (fk_E N y l) = some (some (.int (nI 0)), fk_E N y l) := by
  obtain ⟨a0, a1, a2, a3, a4, a5, a6, a7⟩ := lz_law hc
  obtain ⟨b1, b2, b7, s1, s2, s7⟩ := lz_law2 hc
  rw [hX3_run_6]
  rcases ho with rfl | rfl
  · have h1 : y (c + 1) b = nI 47 := h1
    simp (disch := first | assumption | omega) only [rX3_run, a1, a2, a7, s1, s2, s7, h1, h2, Option.bind_some, Option.toList_some, Option.toList_none, List.cons_append, List.nil_append, fk_b_0, nI_add, Nat.add_zero, Nat.zero_add, not_true_eq_false, not_false_eq_true, if_true, if_false, sI_le_t, sI_le_f, sI_lt_t, sI_lt_f, sI_eq_t, sI_eq_f, sI_rem, sI_div, sI_m1a, sI_m1b, sI_m1c, sI_m1d, sI_m1e, sI_m1f, sI_m2a, sI_m2b, sI_sub, pk_mul, sI_dec, fk_u_s, fk_u_o, sI_dec0, sI_z, sI_md, Bool.false_eq_true, Nat.reduceAdd, Nat.reduceMul, Nat.reduceSub, Nat.reduceMod, Nat.reduceDiv]
  · have h1 : y (c + 1) b = nI 37 := h1
    simp (disch := first | assumption | omega) only [rX3_run, a1, a2, a7, s1, s2, s7, h1, h2, Option.bind_some, Option.toList_some, Option.toList_none, List.cons_append, List.nil_append, fk_b_0, nI_add, Nat.add_zero, Nat.zero_add, not_true_eq_false, not_false_eq_true, if_true, if_false, sI_le_t, sI_le_f, sI_lt_t, sI_lt_f, sI_eq_t, sI_eq_f, sI_rem, sI_div, sI_m1a, sI_m1b, sI_m1c, sI_m1d, sI_m1e, sI_m1f, sI_m2a, sI_m2b, sI_sub, pk_mul, sI_dec, fk_u_s, fk_u_o, sI_dec0, sI_z, sI_md, Bool.false_eq_true, Nat.reduceAdd, Nat.reduceMul, Nat.reduceSub, Nat.reduceMod, Nat.reduceDiv]
set_option maxRecDepth 10000 in
theorem mX3_run_op (hc : c = 2 ∨ c = 10) (g1 : 2 ≤ o) (g2 : o ≤ 9) (hb : b < e) (he : e ≤ 240) (hs : t + 1 < 32) {r z : Int32} (h1 : y (c + 1) b = nI (lz_ko o)) (h2 : y (c + 7) (t + 1) = r) (h3 : y (c + 7) t = z) (hr : ¬ ((o = 5 ∨ o = 6) ∧ r = nI 0)) : ∃ x6' x7' x8', fk_ev d qX3_run 6 [.ref c, .int (nI b0), .int (nI e), .ref 239, .int (nI (t + 1)), .int (nI b), x6, x7, x8] [] (fk_E N y l) = fk_ev d qX3_run 6 [.ref c, .int (nI b0), .int (nI e), .ref 239, .int (nI t), .int (nI (b + 1)), x6', x7', x8'] [] (fk_E N (fk_u y (c + 7) t (lz_o o z r)) l) := by
  obtain ⟨a0, a1, a2, a3, a4, a5, a6, a7⟩ := lz_law hc
  obtain ⟨b1, b2, b7, s1, s2, s7⟩ := lz_law2 hc
  refine ⟨.int (nI (lz_ko o)), .int r, .int z, ?_⟩
  conv => lhs; rw [hX3_run_6]
  rcases lz_ops g1 g2 with rfl | rfl | rfl | rfl | rfl | rfl | rfl | rfl
  · have h1 : y (c + 1) b = nI 43 := h1
    show _ = fk_ev d qX3_run 6 [_, _, _, _, _, _, .int (nI 43), _, _] [] (fk_E N (fk_u y (c + 7) t (z + r)) l)
    by_cases q : r = nI 0
    · subst q
      simp (disch := first | assumption | omega) only [rX3_run, a1, a2, a7, s1, s2, s7, h1, h2, h3, Nat.add_sub_cancel, Option.bind_some, Option.toList_some, Option.toList_none, List.cons_append, List.nil_append, fk_b_0, nI_add, Nat.add_zero, Nat.zero_add, not_true_eq_false, not_false_eq_true, if_true, if_false, sI_le_t, sI_le_f, sI_lt_t, sI_lt_f, sI_eq_t, sI_eq_f, sI_rem, sI_div, sI_m1a, sI_m1b, sI_m1c, sI_m1d, sI_m1e, sI_m1f, sI_m2a, sI_m2b, sI_sub, pk_mul, sI_dec, fk_u_s, fk_u_o, sI_dec0, sI_z, sI_md, Bool.false_eq_true, Nat.reduceAdd, Nat.reduceMul, Nat.reduceSub, Nat.reduceMod, Nat.reduceDiv]
    · simp (disch := first | assumption | omega) only [rX3_run, a1, a2, a7, s1, s2, s7, h1, h2, h3, lz_nz q, Nat.add_sub_cancel, Option.bind_some, Option.toList_some, Option.toList_none, List.cons_append, List.nil_append, fk_b_0, nI_add, Nat.add_zero, Nat.zero_add, not_true_eq_false, not_false_eq_true, if_true, if_false, sI_le_t, sI_le_f, sI_lt_t, sI_lt_f, sI_eq_t, sI_eq_f, sI_rem, sI_div, sI_m1a, sI_m1b, sI_m1c, sI_m1d, sI_m1e, sI_m1f, sI_m2a, sI_m2b, sI_sub, pk_mul, sI_dec, fk_u_s, fk_u_o, sI_dec0, sI_z, sI_md, Bool.false_eq_true, Nat.reduceAdd, Nat.reduceMul, Nat.reduceSub, Nat.reduceMod, Nat.reduceDiv]
  · have h1 : y (c + 1) b = nI 45 := h1
    show _ = fk_ev d qX3_run 6 [_, _, _, _, _, _, .int (nI 45), _, _] [] (fk_E N (fk_u y (c + 7) t (z - r)) l)
    generalize es : z - r = w
    by_cases q : r = nI 0
    · subst q
      simp (disch := first | assumption | omega) only [rX3_run, a1, a2, a7, s1, s2, s7, h1, h2, h3, es, Nat.add_sub_cancel, Option.bind_some, Option.toList_some, Option.toList_none, List.cons_append, List.nil_append, fk_b_0, nI_add, Nat.add_zero, Nat.zero_add, not_true_eq_false, not_false_eq_true, if_true, if_false, sI_le_t, sI_le_f, sI_lt_t, sI_lt_f, sI_eq_t, sI_eq_f, sI_rem, sI_div, sI_m1a, sI_m1b, sI_m1c, sI_m1d, sI_m1e, sI_m1f, sI_m2a, sI_m2b, sI_sub, pk_mul, sI_dec, fk_u_s, fk_u_o, sI_dec0, sI_z, sI_md, Bool.false_eq_true, Nat.reduceAdd, Nat.reduceMul, Nat.reduceSub, Nat.reduceMod, Nat.reduceDiv]
    · simp (disch := first | assumption | omega) only [rX3_run, a1, a2, a7, s1, s2, s7, h1, h2, h3, es, lz_nz q, Nat.add_sub_cancel, Option.bind_some, Option.toList_some, Option.toList_none, List.cons_append, List.nil_append, fk_b_0, nI_add, Nat.add_zero, Nat.zero_add, not_true_eq_false, not_false_eq_true, if_true, if_false, sI_le_t, sI_le_f, sI_lt_t, sI_lt_f, sI_eq_t, sI_eq_f, sI_rem, sI_div, sI_m1a, sI_m1b, sI_m1c, sI_m1d, sI_m1e, sI_m1f, sI_m2a, sI_m2b, sI_sub, pk_mul, sI_dec, fk_u_s, fk_u_o, sI_dec0, sI_z, sI_md, Bool.false_eq_true, Nat.reduceAdd, Nat.reduceMul, Nat.reduceSub, Nat.reduceMod, Nat.reduceDiv]
  · have h1 : y (c + 1) b = nI 42 := h1
    show _ = fk_ev d qX3_run 6 [_, _, _, _, _, _, .int (nI 42), _, _] [] (fk_E N (fk_u y (c + 7) t (z * r)) l)
    by_cases q : r = nI 0
    · subst q
      simp (disch := first | assumption | omega) only [rX3_run, a1, a2, a7, s1, s2, s7, h1, h2, h3, Nat.add_sub_cancel, Option.bind_some, Option.toList_some, Option.toList_none, List.cons_append, List.nil_append, fk_b_0, nI_add, Nat.add_zero, Nat.zero_add, not_true_eq_false, not_false_eq_true, if_true, if_false, sI_le_t, sI_le_f, sI_lt_t, sI_lt_f, sI_eq_t, sI_eq_f, sI_rem, sI_div, sI_m1a, sI_m1b, sI_m1c, sI_m1d, sI_m1e, sI_m1f, sI_m2a, sI_m2b, sI_sub, pk_mul, sI_dec, fk_u_s, fk_u_o, sI_dec0, sI_z, sI_md, Bool.false_eq_true, Nat.reduceAdd, Nat.reduceMul, Nat.reduceSub, Nat.reduceMod, Nat.reduceDiv]
    · simp (disch := first | assumption | omega) only [rX3_run, a1, a2, a7, s1, s2, s7, h1, h2, h3, lz_nz q, Nat.add_sub_cancel, Option.bind_some, Option.toList_some, Option.toList_none, List.cons_append, List.nil_append, fk_b_0, nI_add, Nat.add_zero, Nat.zero_add, not_true_eq_false, not_false_eq_true, if_true, if_false, sI_le_t, sI_le_f, sI_lt_t, sI_lt_f, sI_eq_t, sI_eq_f, sI_rem, sI_div, sI_m1a, sI_m1b, sI_m1c, sI_m1d, sI_m1e, sI_m1f, sI_m2a, sI_m2b, sI_sub, pk_mul, sI_dec, fk_u_s, fk_u_o, sI_dec0, sI_z, sI_md, Bool.false_eq_true, Nat.reduceAdd, Nat.reduceMul, Nat.reduceSub, Nat.reduceMod, Nat.reduceDiv]
  · have h1 : y (c + 1) b = nI 47 := h1
    have q : ¬ r = nI 0 := fun z => hr ⟨Or.inl rfl, z⟩
    show _ = fk_ev d qX3_run 6 [_, _, _, _, _, _, .int (nI 47), _, _] [] (fk_E N (fk_u y (c + 7) t (z / r)) l)
    simp (disch := first | assumption | omega) only [rX3_run, a1, a2, a7, s1, s2, s7, h1, h2, h3, lz_nz q, lz_nz2 q, Nat.add_sub_cancel, Option.bind_some, Option.toList_some, Option.toList_none, List.cons_append, List.nil_append, fk_b_0, nI_add, Nat.add_zero, Nat.zero_add, not_true_eq_false, not_false_eq_true, if_true, if_false, sI_le_t, sI_le_f, sI_lt_t, sI_lt_f, sI_eq_t, sI_eq_f, sI_rem, sI_div, sI_m1a, sI_m1b, sI_m1c, sI_m1d, sI_m1e, sI_m1f, sI_m2a, sI_m2b, sI_sub, pk_mul, sI_dec, fk_u_s, fk_u_o, sI_dec0, sI_z, sI_md, Bool.false_eq_true, Nat.reduceAdd, Nat.reduceMul, Nat.reduceSub, Nat.reduceMod, Nat.reduceDiv]
  · have h1 : y (c + 1) b = nI 37 := h1
    have q : ¬ r = nI 0 := fun z => hr ⟨Or.inr rfl, z⟩
    show _ = fk_ev d qX3_run 6 [_, _, _, _, _, _, .int (nI 37), _, _] [] (fk_E N (fk_u y (c + 7) t (z - z / r * r)) l)
    generalize es : z - z / r * r = w
    simp (disch := first | assumption | omega) only [rX3_run, a1, a2, a7, s1, s2, s7, h1, h2, h3, es, lz_nz q, lz_nz2 q, Nat.add_sub_cancel, Option.bind_some, Option.toList_some, Option.toList_none, List.cons_append, List.nil_append, fk_b_0, nI_add, Nat.add_zero, Nat.zero_add, not_true_eq_false, not_false_eq_true, if_true, if_false, sI_le_t, sI_le_f, sI_lt_t, sI_lt_f, sI_eq_t, sI_eq_f, sI_rem, sI_div, sI_m1a, sI_m1b, sI_m1c, sI_m1d, sI_m1e, sI_m1f, sI_m2a, sI_m2b, sI_sub, pk_mul, sI_dec, fk_u_s, fk_u_o, sI_dec0, sI_z, sI_md, Bool.false_eq_true, Nat.reduceAdd, Nat.reduceMul, Nat.reduceSub, Nat.reduceMod, Nat.reduceDiv]
  · have h1 : y (c + 1) b = nI 60 := h1
    show _ = fk_ev d qX3_run 6 [_, _, _, _, _, _, .int (nI 60), _, _] [] (fk_E N (fk_u y (c + 7) t (if z < r then nI 1 else nI 0)) l)
    by_cases k : z < r
    · have k2 : (r ≤ z) = False := eq_false (Int32.not_le.mpr k)
      rw [if_pos k]
      by_cases q : r = nI 0
      · subst q
        simp (disch := first | assumption | omega) only [rX3_run, a1, a2, a7, s1, s2, s7, h1, h2, h3, k2, Nat.add_sub_cancel, Option.bind_some, Option.toList_some, Option.toList_none, List.cons_append, List.nil_append, fk_b_0, nI_add, Nat.add_zero, Nat.zero_add, not_true_eq_false, not_false_eq_true, if_true, if_false, sI_le_t, sI_le_f, sI_lt_t, sI_lt_f, sI_eq_t, sI_eq_f, sI_rem, sI_div, sI_m1a, sI_m1b, sI_m1c, sI_m1d, sI_m1e, sI_m1f, sI_m2a, sI_m2b, sI_sub, pk_mul, sI_dec, fk_u_s, fk_u_o, sI_dec0, sI_z, sI_md, Bool.false_eq_true, Nat.reduceAdd, Nat.reduceMul, Nat.reduceSub, Nat.reduceMod, Nat.reduceDiv]
      · simp (disch := first | assumption | omega) only [rX3_run, a1, a2, a7, s1, s2, s7, h1, h2, h3, k2, lz_nz q, Nat.add_sub_cancel, Option.bind_some, Option.toList_some, Option.toList_none, List.cons_append, List.nil_append, fk_b_0, nI_add, Nat.add_zero, Nat.zero_add, not_true_eq_false, not_false_eq_true, if_true, if_false, sI_le_t, sI_le_f, sI_lt_t, sI_lt_f, sI_eq_t, sI_eq_f, sI_rem, sI_div, sI_m1a, sI_m1b, sI_m1c, sI_m1d, sI_m1e, sI_m1f, sI_m2a, sI_m2b, sI_sub, pk_mul, sI_dec, fk_u_s, fk_u_o, sI_dec0, sI_z, sI_md, Bool.false_eq_true, Nat.reduceAdd, Nat.reduceMul, Nat.reduceSub, Nat.reduceMod, Nat.reduceDiv]
    · have k2 : (r ≤ z) = True := eq_true (Int32.not_lt.mp k)
      rw [if_neg k]
      by_cases q : r = nI 0
      · subst q
        simp (disch := first | assumption | omega) only [rX3_run, a1, a2, a7, s1, s2, s7, h1, h2, h3, k2, Nat.add_sub_cancel, Option.bind_some, Option.toList_some, Option.toList_none, List.cons_append, List.nil_append, fk_b_0, nI_add, Nat.add_zero, Nat.zero_add, not_true_eq_false, not_false_eq_true, if_true, if_false, sI_le_t, sI_le_f, sI_lt_t, sI_lt_f, sI_eq_t, sI_eq_f, sI_rem, sI_div, sI_m1a, sI_m1b, sI_m1c, sI_m1d, sI_m1e, sI_m1f, sI_m2a, sI_m2b, sI_sub, pk_mul, sI_dec, fk_u_s, fk_u_o, sI_dec0, sI_z, sI_md, Bool.false_eq_true, Nat.reduceAdd, Nat.reduceMul, Nat.reduceSub, Nat.reduceMod, Nat.reduceDiv]
      · simp (disch := first | assumption | omega) only [rX3_run, a1, a2, a7, s1, s2, s7, h1, h2, h3, k2, lz_nz q, Nat.add_sub_cancel, Option.bind_some, Option.toList_some, Option.toList_none, List.cons_append, List.nil_append, fk_b_0, nI_add, Nat.add_zero, Nat.zero_add, not_true_eq_false, not_false_eq_true, if_true, if_false, sI_le_t, sI_le_f, sI_lt_t, sI_lt_f, sI_eq_t, sI_eq_f, sI_rem, sI_div, sI_m1a, sI_m1b, sI_m1c, sI_m1d, sI_m1e, sI_m1f, sI_m2a, sI_m2b, sI_sub, pk_mul, sI_dec, fk_u_s, fk_u_o, sI_dec0, sI_z, sI_md, Bool.false_eq_true, Nat.reduceAdd, Nat.reduceMul, Nat.reduceSub, Nat.reduceMod, Nat.reduceDiv]
  · have h1 : y (c + 1) b = nI 62 := h1
    show _ = fk_ev d qX3_run 6 [_, _, _, _, _, _, .int (nI 62), _, _] [] (fk_E N (fk_u y (c + 7) t (if r < z then nI 1 else nI 0)) l)
    by_cases k : r < z
    · have k2 : (z ≤ r) = False := eq_false (Int32.not_le.mpr k)
      rw [if_pos k]
      by_cases q : r = nI 0
      · subst q
        simp (disch := first | assumption | omega) only [rX3_run, a1, a2, a7, s1, s2, s7, h1, h2, h3, k2, Nat.add_sub_cancel, Option.bind_some, Option.toList_some, Option.toList_none, List.cons_append, List.nil_append, fk_b_0, nI_add, Nat.add_zero, Nat.zero_add, not_true_eq_false, not_false_eq_true, if_true, if_false, sI_le_t, sI_le_f, sI_lt_t, sI_lt_f, sI_eq_t, sI_eq_f, sI_rem, sI_div, sI_m1a, sI_m1b, sI_m1c, sI_m1d, sI_m1e, sI_m1f, sI_m2a, sI_m2b, sI_sub, pk_mul, sI_dec, fk_u_s, fk_u_o, sI_dec0, sI_z, sI_md, Bool.false_eq_true, Nat.reduceAdd, Nat.reduceMul, Nat.reduceSub, Nat.reduceMod, Nat.reduceDiv]
      · simp (disch := first | assumption | omega) only [rX3_run, a1, a2, a7, s1, s2, s7, h1, h2, h3, k2, lz_nz q, Nat.add_sub_cancel, Option.bind_some, Option.toList_some, Option.toList_none, List.cons_append, List.nil_append, fk_b_0, nI_add, Nat.add_zero, Nat.zero_add, not_true_eq_false, not_false_eq_true, if_true, if_false, sI_le_t, sI_le_f, sI_lt_t, sI_lt_f, sI_eq_t, sI_eq_f, sI_rem, sI_div, sI_m1a, sI_m1b, sI_m1c, sI_m1d, sI_m1e, sI_m1f, sI_m2a, sI_m2b, sI_sub, pk_mul, sI_dec, fk_u_s, fk_u_o, sI_dec0, sI_z, sI_md, Bool.false_eq_true, Nat.reduceAdd, Nat.reduceMul, Nat.reduceSub, Nat.reduceMod, Nat.reduceDiv]
    · have k2 : (z ≤ r) = True := eq_true (Int32.not_lt.mp k)
      rw [if_neg k]
      by_cases q : r = nI 0
      · subst q
        simp (disch := first | assumption | omega) only [rX3_run, a1, a2, a7, s1, s2, s7, h1, h2, h3, k2, Nat.add_sub_cancel, Option.bind_some, Option.toList_some, Option.toList_none, List.cons_append, List.nil_append, fk_b_0, nI_add, Nat.add_zero, Nat.zero_add, not_true_eq_false, not_false_eq_true, if_true, if_false, sI_le_t, sI_le_f, sI_lt_t, sI_lt_f, sI_eq_t, sI_eq_f, sI_rem, sI_div, sI_m1a, sI_m1b, sI_m1c, sI_m1d, sI_m1e, sI_m1f, sI_m2a, sI_m2b, sI_sub, pk_mul, sI_dec, fk_u_s, fk_u_o, sI_dec0, sI_z, sI_md, Bool.false_eq_true, Nat.reduceAdd, Nat.reduceMul, Nat.reduceSub, Nat.reduceMod, Nat.reduceDiv]
      · simp (disch := first | assumption | omega) only [rX3_run, a1, a2, a7, s1, s2, s7, h1, h2, h3, k2, lz_nz q, Nat.add_sub_cancel, Option.bind_some, Option.toList_some, Option.toList_none, List.cons_append, List.nil_append, fk_b_0, nI_add, Nat.add_zero, Nat.zero_add, not_true_eq_false, not_false_eq_true, if_true, if_false, sI_le_t, sI_le_f, sI_lt_t, sI_lt_f, sI_eq_t, sI_eq_f, sI_rem, sI_div, sI_m1a, sI_m1b, sI_m1c, sI_m1d, sI_m1e, sI_m1f, sI_m2a, sI_m2b, sI_sub, pk_mul, sI_dec, fk_u_s, fk_u_o, sI_dec0, sI_z, sI_md, Bool.false_eq_true, Nat.reduceAdd, Nat.reduceMul, Nat.reduceSub, Nat.reduceMod, Nat.reduceDiv]
  · have h1 : y (c + 1) b = nI 61 := h1
    have i61 : (nI 61).toInt = 61 := by decide
    show _ = fk_ev d qX3_run 6 [_, _, _, _, _, _, .int (nI 61), _, _] [] (fk_E N (fk_u y (c + 7) t (if z = r then nI 1 else nI 0)) l)
    by_cases k : z = r
    · subst k
      rw [if_pos rfl]
      by_cases q : z = nI 0
      · subst q
        simp (disch := first | assumption | omega) only [rX3_run, a1, a2, a7, s1, s2, s7, h1, h2, h3, Nat.add_sub_cancel, Option.bind_some, Option.toList_some, Option.toList_none, List.cons_append, List.nil_append, fk_b_0, nI_add, Nat.add_zero, Nat.zero_add, not_true_eq_false, not_false_eq_true, if_true, if_false, sI_le_t, sI_le_f, sI_lt_t, sI_lt_f, sI_eq_t, sI_eq_f, sI_rem, sI_div, sI_m1a, sI_m1b, sI_m1c, sI_m1d, sI_m1e, sI_m1f, sI_m2a, sI_m2b, sI_sub, pk_mul, sI_dec, fk_u_s, fk_u_o, sI_dec0, sI_z, sI_md, Bool.false_eq_true, Nat.reduceAdd, Nat.reduceMul, Nat.reduceSub, Nat.reduceMod, Nat.reduceDiv]
      · simp (disch := first | assumption | omega) only [rX3_run, a1, a2, a7, s1, s2, s7, h1, h2, h3, lz_nz q, Nat.add_sub_cancel, Option.bind_some, Option.toList_some, Option.toList_none, List.cons_append, List.nil_append, fk_b_0, nI_add, Nat.add_zero, Nat.zero_add, not_true_eq_false, not_false_eq_true, if_true, if_false, sI_le_t, sI_le_f, sI_lt_t, sI_lt_f, sI_eq_t, sI_eq_f, sI_rem, sI_div, sI_m1a, sI_m1b, sI_m1c, sI_m1d, sI_m1e, sI_m1f, sI_m2a, sI_m2b, sI_sub, pk_mul, sI_dec, fk_u_s, fk_u_o, sI_dec0, sI_z, sI_md, Bool.false_eq_true, Nat.reduceAdd, Nat.reduceMul, Nat.reduceSub, Nat.reduceMod, Nat.reduceDiv]
    · have k2 : (z = r) = False := eq_false k
      rw [if_neg k]
      by_cases q : r = nI 0
      · subst q
        simp (disch := first | assumption | omega) only [rX3_run, a1, a2, a7, s1, s2, s7, h1, h2, h3, k2, Nat.add_sub_cancel, Option.bind_some, Option.toList_some, Option.toList_none, List.cons_append, List.nil_append, fk_b_0, nI_add, Nat.add_zero, Nat.zero_add, not_true_eq_false, not_false_eq_true, if_true, if_false, sI_le_t, sI_le_f, sI_lt_t, sI_lt_f, sI_eq_t, sI_eq_f, sI_rem, sI_div, sI_m1a, sI_m1b, sI_m1c, sI_m1d, sI_m1e, sI_m1f, sI_m2a, sI_m2b, sI_sub, pk_mul, sI_dec, fk_u_s, fk_u_o, sI_dec0, sI_z, sI_md, Bool.false_eq_true, Nat.reduceAdd, Nat.reduceMul, Nat.reduceSub, Nat.reduceMod, Nat.reduceDiv]
      · simp (disch := first | assumption | omega) only [rX3_run, a1, a2, a7, s1, s2, s7, h1, h2, h3, k2, lz_nz q, Nat.add_sub_cancel, Option.bind_some, Option.toList_some, Option.toList_none, List.cons_append, List.nil_append, fk_b_0, nI_add, Nat.add_zero, Nat.zero_add, not_true_eq_false, not_false_eq_true, if_true, if_false, sI_le_t, sI_le_f, sI_lt_t, sI_lt_f, sI_eq_t, sI_eq_f, sI_rem, sI_div, sI_m1a, sI_m1b, sI_m1c, sI_m1d, sI_m1e, sI_m1f, sI_m2a, sI_m2b, sI_sub, pk_mul, sI_dec, fk_u_s, fk_u_o, sI_dec0, sI_z, sI_md, Bool.false_eq_true, Nat.reduceAdd, Nat.reduceMul, Nat.reduceSub, Nat.reduceMod, Nat.reduceDiv]
end LW5
