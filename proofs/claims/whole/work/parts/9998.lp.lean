/-! THE SCRIPT: a call after the other -/
section LP
variable {N i : Nat} {xs : Nat → Int32} {y : Nat → Nat → Int32} {l : Nat → Nat → Int64} {d : Nat}
theorem lp_cmp {x : Int64} : lg_cmp x x = nI 0 := by
  unfold lg_cmp
  rw [if_neg Int64.lt_irrefl, if_pos rfl]
  rfl
/-- one call: on with the next, the relation kept -/
def lp_ok (d N i : Nat) (xs : Nat → Int32) (y : Nat → Nat → Int32) (l : Nat → Nat → Int64) (pc : Nat) : Prop := ∃ y2 l2, fk_ev (d + 41) qL_law pc [.ref 0, .ref 1, .ref 246, .int (nI i)] [] (fk_E N y l) = fk_ev (d + 41) qL_law 18 [.ref 0, .ref 1, .ref 246, .int (nI (i + 6))] [] (fk_E N y2 l2) ∧ cR xs y2
theorem lp_road (hN : N ≤ 3072) (hi : i + 6 ≤ N) (hR : cR xs y) : lp_ok d N i xs y l 168 := by
  have N31 : N < 2 ^ 31 := by omega
  have i1 : i + 1 < N := by omega
  have i2 : i + 2 < N := by omega
  have i3 : i + 3 < N := by omega
  have i4 : i + 4 < N := by omega
  have i5 : i + 5 < N := by omega
  obtain ⟨u, y1, y2, e1, e2, hR2⟩ := cl_road (N := N) (l := l) (d := d + 32) (r := y 0 (i + 1)) (f := y 0 (i + 2)) (t := y 0 (i + 3)) (g := y 0 (i + 4)) hR
  have y10 : y1 0 = y 0 := fk_y0 e1
  refine ⟨y2, l, ?_, hR2⟩
  simp (disch := first | assumption | omega) only [rL_law_0, rL_law_1, rL_law_2, rL_law_3, rL_law_4, e1, y10, e2, eq_self, Option.bind_some, Option.toList_some, Option.toList_none, List.cons_append, List.nil_append, fk_b_0, nI_add, Nat.add_zero, Nat.zero_add, not_true_eq_false, not_false_eq_true, if_true, if_false, sI_le_t, sI_le_f, sI_lt_t, sI_lt_f, sI_eq_t, sI_eq_f, sI_rem, sI_div, sI_m1a, sI_m1b, sI_m1c, sI_m1d, sI_m1e, sI_m1f, sI_m2a, sI_m2b, sI_sub, pk_mul, sI_dec, fk_u_s, fk_u_o, sI_dec0, sI_z, sI_md, Bool.false_eq_true, Nat.reduceAdd, Nat.reduceMul, Nat.reduceSub, Nat.reduceMod, Nat.reduceDiv]
theorem lp_notice (hN : N ≤ 3072) (hi : i + 6 ≤ N) (hR : cR xs y) : lp_ok d N i xs y l 221 := by
  have N31 : N < 2 ^ 31 := by omega
  have i1 : i + 1 < N := by omega
  have i2 : i + 2 < N := by omega
  have i3 : i + 3 < N := by omega
  have i4 : i + 4 < N := by omega
  have i5 : i + 5 < N := by omega
  obtain ⟨s, hs, hs1⟩ : ∃ s : Int32, (s = nI 0 ∨ s = nI 1) ∧ s = (if y 0 (i + 3) = nI 0 then nI 0 else nI 1) := by
    by_cases z : y 0 (i + 3) = nI 0
    · exact ⟨nI 0, Or.inl rfl, by rw [if_pos z]⟩
    · exact ⟨nI 1, Or.inr rfl, by rw [if_neg z]⟩
  obtain ⟨u, y1, y2, e1, e2, hR2⟩ := cl_notice (N := N) (l := l) (d := d + 32) (q := y 0 (i + 1)) (f := y 0 (i + 2)) (so := s) hR hs
  have y10 : y1 0 = y 0 := fk_y0 e1
  refine ⟨y2, l, ?_, hR2⟩
  by_cases z : y 0 (i + 3) = nI 0
  · rw [if_pos z] at hs1
    subst hs1
    simp (disch := first | assumption | omega) only [rL_law_0, rL_law_1, rL_law_2, rL_law_3, rL_law_4, z, e1, y10, e2, eq_self, Option.bind_some, Option.toList_some, Option.toList_none, List.cons_append, List.nil_append, fk_b_0, nI_add, Nat.add_zero, Nat.zero_add, not_true_eq_false, not_false_eq_true, if_true, if_false, sI_le_t, sI_le_f, sI_lt_t, sI_lt_f, sI_eq_t, sI_eq_f, sI_rem, sI_div, sI_m1a, sI_m1b, sI_m1c, sI_m1d, sI_m1e, sI_m1f, sI_m2a, sI_m2b, sI_sub, pk_mul, sI_dec, fk_u_s, fk_u_o, sI_dec0, sI_z, sI_md, Bool.false_eq_true, Nat.reduceAdd, Nat.reduceMul, Nat.reduceSub, Nat.reduceMod, Nat.reduceDiv]
  · rw [if_neg z] at hs1
    subst hs1
    simp (disch := first | assumption | omega) only [rL_law_0, rL_law_1, rL_law_2, rL_law_3, rL_law_4, z, e1, y10, e2, eq_self, Option.bind_some, Option.toList_some, Option.toList_none, List.cons_append, List.nil_append, fk_b_0, nI_add, Nat.add_zero, Nat.zero_add, not_true_eq_false, not_false_eq_true, if_true, if_false, sI_le_t, sI_le_f, sI_lt_t, sI_lt_f, sI_eq_t, sI_eq_f, sI_rem, sI_div, sI_m1a, sI_m1b, sI_m1c, sI_m1d, sI_m1e, sI_m1f, sI_m2a, sI_m2b, sI_sub, pk_mul, sI_dec, fk_u_s, fk_u_o, sI_dec0, sI_z, sI_md, Bool.false_eq_true, Nat.reduceAdd, Nat.reduceMul, Nat.reduceSub, Nat.reduceMod, Nat.reduceDiv]
theorem lp_comes (hN : N ≤ 3072) (hi : i + 6 ≤ N) (hR : cR xs y) : lp_ok d N i xs y l 280 := by
  have N31 : N < 2 ^ 31 := by omega
  have i1 : i + 1 < N := by omega
  have i2 : i + 2 < N := by omega
  have i3 : i + 3 < N := by omega
  have i4 : i + 4 < N := by omega
  have i5 : i + 5 < N := by omega
  obtain ⟨u, y1, y2, e1, e2, hR2⟩ := cl_comes (N := N) (l := l) (d := d + 32) (one := y 0 (i + 1)) (q := y 0 (i + 2)) hR
  have y10 : y1 0 = y 0 := fk_y0 e1
  refine ⟨y2, l, ?_, hR2⟩
  simp (disch := first | assumption | omega) only [rL_law_0, rL_law_1, rL_law_2, rL_law_3, rL_law_4, e1, y10, e2, eq_self, Option.bind_some, Option.toList_some, Option.toList_none, List.cons_append, List.nil_append, fk_b_0, nI_add, Nat.add_zero, Nat.zero_add, not_true_eq_false, not_false_eq_true, if_true, if_false, sI_le_t, sI_le_f, sI_lt_t, sI_lt_f, sI_eq_t, sI_eq_f, sI_rem, sI_div, sI_m1a, sI_m1b, sI_m1c, sI_m1d, sI_m1e, sI_m1f, sI_m2a, sI_m2b, sI_sub, pk_mul, sI_dec, fk_u_s, fk_u_o, sI_dec0, sI_z, sI_md, Bool.false_eq_true, Nat.reduceAdd, Nat.reduceMul, Nat.reduceSub, Nat.reduceMod, Nat.reduceDiv]
theorem lp_learns (hN : N ≤ 3072) (hi : i + 6 ≤ N) (hR : cR xs y) : lp_ok d N i xs y l 313 := by
  have N31 : N < 2 ^ 31 := by omega
  have i1 : i + 1 < N := by omega
  have i2 : i + 2 < N := by omega
  have i3 : i + 3 < N := by omega
  have i4 : i + 4 < N := by omega
  have i5 : i + 5 < N := by omega
  obtain ⟨s, hs, hs1⟩ : ∃ s : Int32, (s = nI 0 ∨ s = nI 1) ∧ s = (if y 0 (i + 3) = nI 0 then nI 0 else nI 1) := by
    by_cases z : y 0 (i + 3) = nI 0
    · exact ⟨nI 0, Or.inl rfl, by rw [if_pos z]⟩
    · exact ⟨nI 1, Or.inr rfl, by rw [if_neg z]⟩
  obtain ⟨u, y1, y2, e1, e2, hR2⟩ := cl_learns (N := N) (l := l) (d := d + 32) (j := y 0 (i + 1)) (f := y 0 (i + 2)) (so := s) hR
  have y10 : y1 0 = y 0 := fk_y0 e1
  refine ⟨y2, l, ?_, hR2⟩
  by_cases z : y 0 (i + 3) = nI 0
  · rw [if_pos z] at hs1
    subst hs1
    simp (disch := first | assumption | omega) only [rL_law_0, rL_law_1, rL_law_2, rL_law_3, rL_law_4, z, e1, y10, e2, eq_self, Option.bind_some, Option.toList_some, Option.toList_none, List.cons_append, List.nil_append, fk_b_0, nI_add, Nat.add_zero, Nat.zero_add, not_true_eq_false, not_false_eq_true, if_true, if_false, sI_le_t, sI_le_f, sI_lt_t, sI_lt_f, sI_eq_t, sI_eq_f, sI_rem, sI_div, sI_m1a, sI_m1b, sI_m1c, sI_m1d, sI_m1e, sI_m1f, sI_m2a, sI_m2b, sI_sub, pk_mul, sI_dec, fk_u_s, fk_u_o, sI_dec0, sI_z, sI_md, Bool.false_eq_true, Nat.reduceAdd, Nat.reduceMul, Nat.reduceSub, Nat.reduceMod, Nat.reduceDiv]
  · rw [if_neg z] at hs1
    subst hs1
    simp (disch := first | assumption | omega) only [rL_law_0, rL_law_1, rL_law_2, rL_law_3, rL_law_4, z, e1, y10, e2, eq_self, Option.bind_some, Option.toList_some, Option.toList_none, List.cons_append, List.nil_append, fk_b_0, nI_add, Nat.add_zero, Nat.zero_add, not_true_eq_false, not_false_eq_true, if_true, if_false, sI_le_t, sI_le_f, sI_lt_t, sI_lt_f, sI_eq_t, sI_eq_f, sI_rem, sI_div, sI_m1a, sI_m1b, sI_m1c, sI_m1d, sI_m1e, sI_m1f, sI_m2a, sI_m2b, sI_sub, pk_mul, sI_dec, fk_u_s, fk_u_o, sI_dec0, sI_z, sI_md, Bool.false_eq_true, Nat.reduceAdd, Nat.reduceMul, Nat.reduceSub, Nat.reduceMod, Nat.reduceDiv]
theorem lp_owes (hN : N ≤ 3072) (hi : i + 6 ≤ N) (hR : cR xs y) : lp_ok d N i xs y l 372 := by
  have N31 : N < 2 ^ 31 := by omega
  have i1 : i + 1 < N := by omega
  have i2 : i + 2 < N := by omega
  have i3 : i + 3 < N := by omega
  have i4 : i + 4 < N := by omega
  have i5 : i + 5 < N := by omega
  obtain ⟨u, y1, y2, e1, e2, hR2⟩ := cl_owes (N := N) (l := l) (d := d + 32) (j := y 0 (i + 1)) (c := y 0 (i + 2)) hR
  have y10 : y1 0 = y 0 := fk_y0 e1
  refine ⟨y2, l, ?_, hR2⟩
  simp (disch := first | assumption | omega) only [rL_law_0, rL_law_1, rL_law_2, rL_law_3, rL_law_4, e1, y10, e2, eq_self, Option.bind_some, Option.toList_some, Option.toList_none, List.cons_append, List.nil_append, fk_b_0, nI_add, Nat.add_zero, Nat.zero_add, not_true_eq_false, not_false_eq_true, if_true, if_false, sI_le_t, sI_le_f, sI_lt_t, sI_lt_f, sI_eq_t, sI_eq_f, sI_rem, sI_div, sI_m1a, sI_m1b, sI_m1c, sI_m1d, sI_m1e, sI_m1f, sI_m2a, sI_m2b, sI_sub, pk_mul, sI_dec, fk_u_s, fk_u_o, sI_dec0, sI_z, sI_md, Bool.false_eq_true, Nat.reduceAdd, Nat.reduceMul, Nat.reduceSub, Nat.reduceMod, Nat.reduceDiv]
theorem lp_feed (hN : N ≤ 3072) (hi : i + 6 ≤ N) (hR : cR xs y) : lp_ok d N i xs y l 405 := by
  have N31 : N < 2 ^ 31 := by omega
  have i1 : i + 1 < N := by omega
  have i2 : i + 2 < N := by omega
  have i3 : i + 3 < N := by omega
  have i4 : i + 4 < N := by omega
  have i5 : i + 5 < N := by omega
  obtain ⟨u, y1, y2, e1, e2, hR2⟩ := cl_feed (N := N) (l := l) (d := d + 32) (a := y 0 (i + 1)) (b := y 0 (i + 2)) (c := y 0 (i + 3)) (e := y 0 (i + 4)) (f := y 0 (i + 5)) hR
  have y10 : y1 0 = y 0 := fk_y0 e1
  refine ⟨y2, l, ?_, hR2⟩
  simp (disch := first | assumption | omega) only [rL_law_0, rL_law_1, rL_law_2, rL_law_3, rL_law_4, e1, y10, e2, eq_self, Option.bind_some, Option.toList_some, Option.toList_none, List.cons_append, List.nil_append, fk_b_0, nI_add, Nat.add_zero, Nat.zero_add, not_true_eq_false, not_false_eq_true, if_true, if_false, sI_le_t, sI_le_f, sI_lt_t, sI_lt_f, sI_eq_t, sI_eq_f, sI_rem, sI_div, sI_m1a, sI_m1b, sI_m1c, sI_m1d, sI_m1e, sI_m1f, sI_m2a, sI_m2b, sI_sub, pk_mul, sI_dec, fk_u_s, fk_u_o, sI_dec0, sI_z, sI_md, Bool.false_eq_true, Nat.reduceAdd, Nat.reduceMul, Nat.reduceSub, Nat.reduceMod, Nat.reduceDiv]
theorem lp_law (hN : N ≤ 3072) (hi : i + 6 ≤ N) (hR : cR xs y) : lp_ok d N i xs y l 468 := by
  have N31 : N < 2 ^ 31 := by omega
  have i1 : i + 1 < N := by omega
  have i2 : i + 2 < N := by omega
  have i3 : i + 3 < N := by omega
  have i4 : i + 4 < N := by omega
  have i5 : i + 5 < N := by omega
  obtain ⟨u, y1, y2, e1, e2, hR2⟩ := cl_law (N := N) (l := l) (d := d + 0) (u := y 0 (i + 1)) hR
  have y10 : y1 0 = y 0 := fk_y0 e1
  refine ⟨y2, l, ?_, hR2⟩
  simp (disch := first | assumption | omega) only [rL_law_0, rL_law_1, rL_law_2, rL_law_3, rL_law_4, e1, y10, e2, eq_self, Option.bind_some, Option.toList_some, Option.toList_none, List.cons_append, List.nil_append, fk_b_0, nI_add, Nat.add_zero, Nat.zero_add, not_true_eq_false, not_false_eq_true, if_true, if_false, sI_le_t, sI_le_f, sI_lt_t, sI_lt_f, sI_eq_t, sI_eq_f, sI_rem, sI_div, sI_m1a, sI_m1b, sI_m1c, sI_m1d, sI_m1e, sI_m1f, sI_m2a, sI_m2b, sI_sub, pk_mul, sI_dec, fk_u_s, fk_u_o, sI_dec0, sI_z, sI_md, Bool.false_eq_true, Nat.reduceAdd, Nat.reduceMul, Nat.reduceSub, Nat.reduceMod, Nat.reduceDiv]
theorem lp_hours (hN : N ≤ 3072) (hi : i + 6 ≤ N) (hR : cR xs y) : lp_ok d N i xs y l 491 := by
  have N31 : N < 2 ^ 31 := by omega
  have i1 : i + 1 < N := by omega
  have i2 : i + 2 < N := by omega
  have i3 : i + 3 < N := by omega
  have i4 : i + 4 < N := by omega
  have i5 : i + 5 < N := by omega
  obtain ⟨u, y1, y2, e1, e2, hR2⟩ := cl_hours (N := N) (l := l) (d := d + 32) (k := y 0 (i + 1)) hR
  have y10 : y1 0 = y 0 := fk_y0 e1
  refine ⟨y2, l, ?_, hR2⟩
  simp (disch := first | assumption | omega) only [rL_law_0, rL_law_1, rL_law_2, rL_law_3, rL_law_4, e1, y10, e2, eq_self, Option.bind_some, Option.toList_some, Option.toList_none, List.cons_append, List.nil_append, fk_b_0, nI_add, Nat.add_zero, Nat.zero_add, not_true_eq_false, not_false_eq_true, if_true, if_false, sI_le_t, sI_le_f, sI_lt_t, sI_lt_f, sI_eq_t, sI_eq_f, sI_rem, sI_div, sI_m1a, sI_m1b, sI_m1c, sI_m1d, sI_m1e, sI_m1f, sI_m2a, sI_m2b, sI_sub, pk_mul, sI_dec, fk_u_s, fk_u_o, sI_dec0, sI_z, sI_md, Bool.false_eq_true, Nat.reduceAdd, Nat.reduceMul, Nat.reduceSub, Nat.reduceMod, Nat.reduceDiv]
theorem lp_tried (hN : N ≤ 3072) (hi : i + 6 ≤ N) (hR : cR xs y) : lp_ok d N i xs y l 514 := by
  have N31 : N < 2 ^ 31 := by omega
  have i1 : i + 1 < N := by omega
  have i2 : i + 2 < N := by omega
  have i3 : i + 3 < N := by omega
  have i4 : i + 4 < N := by omega
  have i5 : i + 5 < N := by omega
  obtain ⟨u, y1, y2, e1, e2, hR2⟩ := cl_tried (N := N) (l := l) (d := d + 32) (k := y 0 (i + 1)) (w := y 0 (i + 2)) hR
  have y10 : y1 0 = y 0 := fk_y0 e1
  refine ⟨y2, l, ?_, hR2⟩
  simp (disch := first | assumption | omega) only [rL_law_0, rL_law_1, rL_law_2, rL_law_3, rL_law_4, e1, y10, e2, eq_self, Option.bind_some, Option.toList_some, Option.toList_none, List.cons_append, List.nil_append, fk_b_0, nI_add, Nat.add_zero, Nat.zero_add, not_true_eq_false, not_false_eq_true, if_true, if_false, sI_le_t, sI_le_f, sI_lt_t, sI_lt_f, sI_eq_t, sI_eq_f, sI_rem, sI_div, sI_m1a, sI_m1b, sI_m1c, sI_m1d, sI_m1e, sI_m1f, sI_m2a, sI_m2b, sI_sub, pk_mul, sI_dec, fk_u_s, fk_u_o, sI_dec0, sI_z, sI_md, Bool.false_eq_true, Nat.reduceAdd, Nat.reduceMul, Nat.reduceSub, Nat.reduceMod, Nat.reduceDiv]
theorem lp_half (hN : N ≤ 3072) (hi : i + 6 ≤ N) (hR : cR xs y) : lp_ok d N i xs y l 547 := by
  have N31 : N < 2 ^ 31 := by omega
  have i1 : i + 1 < N := by omega
  have i2 : i + 2 < N := by omega
  have i3 : i + 3 < N := by omega
  have i4 : i + 4 < N := by omega
  have i5 : i + 5 < N := by omega
  obtain ⟨u, e1, e2⟩ := cl_half (N := N) (l := l) (d := d + 32) (j := y 0 (i + 1)) (w := y 0 (i + 2)) hR
  refine ⟨y, l, ?_, hR⟩
  simp (disch := first | assumption | omega) only [rL_law_0, rL_law_1, rL_law_2, rL_law_3, rL_law_4, e1, e2, eq_self, Option.bind_some, Option.toList_some, Option.toList_none, List.cons_append, List.nil_append, fk_b_0, nI_add, Nat.add_zero, Nat.zero_add, not_true_eq_false, not_false_eq_true, if_true, if_false, sI_le_t, sI_le_f, sI_lt_t, sI_lt_f, sI_eq_t, sI_eq_f, sI_rem, sI_div, sI_m1a, sI_m1b, sI_m1c, sI_m1d, sI_m1e, sI_m1f, sI_m2a, sI_m2b, sI_sub, pk_mul, sI_dec, fk_u_s, fk_u_o, sI_dec0, sI_z, sI_md, Bool.false_eq_true, Nat.reduceAdd, Nat.reduceMul, Nat.reduceSub, Nat.reduceMod, Nat.reduceDiv]
theorem lp_gladly (hN : N ≤ 3072) (hi : i + 6 ≤ N) (hR : cR xs y) : lp_ok d N i xs y l 580 := by
  have N31 : N < 2 ^ 31 := by omega
  have i1 : i + 1 < N := by omega
  have i2 : i + 2 < N := by omega
  have i3 : i + 3 < N := by omega
  have i4 : i + 4 < N := by omega
  have i5 : i + 5 < N := by omega
  obtain ⟨u, y1, y2, e1, e2, hR2⟩ := cl_gladly (N := N) (l := l) (d := d + 32) (j := y 0 (i + 1)) (r := y 0 (i + 2)) hR
  have y10 : y1 0 = y 0 := fk_y0 e1
  refine ⟨y2, l, ?_, hR2⟩
  simp (disch := first | assumption | omega) only [rL_law_0, rL_law_1, rL_law_2, rL_law_3, rL_law_4, e1, y10, e2, eq_self, Option.bind_some, Option.toList_some, Option.toList_none, List.cons_append, List.nil_append, fk_b_0, nI_add, Nat.add_zero, Nat.zero_add, not_true_eq_false, not_false_eq_true, if_true, if_false, sI_le_t, sI_le_f, sI_lt_t, sI_lt_f, sI_eq_t, sI_eq_f, sI_rem, sI_div, sI_m1a, sI_m1b, sI_m1c, sI_m1d, sI_m1e, sI_m1f, sI_m2a, sI_m2b, sI_sub, pk_mul, sI_dec, fk_u_s, fk_u_o, sI_dec0, sI_z, sI_md, Bool.false_eq_true, Nat.reduceAdd, Nat.reduceMul, Nat.reduceSub, Nat.reduceMod, Nat.reduceDiv]
theorem lp_halves (hN : N ≤ 3072) (hi : i + 6 ≤ N) (hR : cR xs y) : lp_ok d N i xs y l 613 := by
  have N31 : N < 2 ^ 31 := by omega
  have i1 : i + 1 < N := by omega
  have i2 : i + 2 < N := by omega
  have i3 : i + 3 < N := by omega
  have i4 : i + 4 < N := by omega
  have i5 : i + 5 < N := by omega
  obtain ⟨u, e1, e2⟩ := cl_halves (N := N) (l := l) (d := d + 32) (one := y 0 (i + 1)) (w := y 0 (i + 2)) hR
  refine ⟨y, l, ?_, hR⟩
  simp (disch := first | assumption | omega) only [rL_law_0, rL_law_1, rL_law_2, rL_law_3, rL_law_4, e1, e2, eq_self, Option.bind_some, Option.toList_some, Option.toList_none, List.cons_append, List.nil_append, fk_b_0, nI_add, Nat.add_zero, Nat.zero_add, not_true_eq_false, not_false_eq_true, if_true, if_false, sI_le_t, sI_le_f, sI_lt_t, sI_lt_f, sI_eq_t, sI_eq_f, sI_rem, sI_div, sI_m1a, sI_m1b, sI_m1c, sI_m1d, sI_m1e, sI_m1f, sI_m2a, sI_m2b, sI_sub, pk_mul, sI_dec, fk_u_s, fk_u_o, sI_dec0, sI_z, sI_md, Bool.false_eq_true, Nat.reduceAdd, Nat.reduceMul, Nat.reduceSub, Nat.reduceMod, Nat.reduceDiv]
theorem lp_was (hN : N ≤ 3072) (hi : i + 6 ≤ N) (hR : cR xs y) : lp_ok d N i xs y l 646 := by
  have N31 : N < 2 ^ 31 := by omega
  have i1 : i + 1 < N := by omega
  have i2 : i + 2 < N := by omega
  have i3 : i + 3 < N := by omega
  have i4 : i + 4 < N := by omega
  have i5 : i + 5 < N := by omega
  obtain ⟨u, e1, e2⟩ := cl_was (N := N) (l := l) (d := d + 32) (j := y 0 (i + 1)) (t := y 0 (i + 2)) hR
  refine ⟨y, l, ?_, hR⟩
  simp (disch := first | assumption | omega) only [rL_law_0, rL_law_1, rL_law_2, rL_law_3, rL_law_4, e1, e2, eq_self, Option.bind_some, Option.toList_some, Option.toList_none, List.cons_append, List.nil_append, fk_b_0, nI_add, Nat.add_zero, Nat.zero_add, not_true_eq_false, not_false_eq_true, if_true, if_false, sI_le_t, sI_le_f, sI_lt_t, sI_lt_f, sI_eq_t, sI_eq_f, sI_rem, sI_div, sI_m1a, sI_m1b, sI_m1c, sI_m1d, sI_m1e, sI_m1f, sI_m2a, sI_m2b, sI_sub, pk_mul, sI_dec, fk_u_s, fk_u_o, sI_dec0, sI_z, sI_md, Bool.false_eq_true, Nat.reduceAdd, Nat.reduceMul, Nat.reduceSub, Nat.reduceMod, Nat.reduceDiv]
theorem lp_byForks (hN : N ≤ 3072) (hi : i + 6 ≤ N) (hR : cR xs y) : lp_ok d N i xs y l 679 := by
  have N31 : N < 2 ^ 31 := by omega
  have i1 : i + 1 < N := by omega
  have i2 : i + 2 < N := by omega
  have i3 : i + 3 < N := by omega
  have i4 : i + 4 < N := by omega
  have i5 : i + 5 < N := by omega
  obtain ⟨u, l1, l2, e1, e2⟩ := cl_byForks (N := N) (l := l) (d := d + 32) (p := y 0 (i + 1)) (n := y 0 (i + 2)) hR
  refine ⟨y, l2, ?_, hR⟩
  simp (disch := first | assumption | omega) only [rL_law_0, rL_law_1, rL_law_2, rL_law_3, rL_law_4, e1, e2, lp_cmp, eq_self, Option.bind_some, Option.toList_some, Option.toList_none, List.cons_append, List.nil_append, fk_b_0, nI_add, Nat.add_zero, Nat.zero_add, not_true_eq_false, not_false_eq_true, if_true, if_false, sI_le_t, sI_le_f, sI_lt_t, sI_lt_f, sI_eq_t, sI_eq_f, sI_rem, sI_div, sI_m1a, sI_m1b, sI_m1c, sI_m1d, sI_m1e, sI_m1f, sI_m2a, sI_m2b, sI_sub, pk_mul, sI_dec, fk_u_s, fk_u_o, sI_dec0, sI_z, sI_md, Bool.false_eq_true, Nat.reduceAdd, Nat.reduceMul, Nat.reduceSub, Nat.reduceMod, Nat.reduceDiv]
theorem lp_plan (hN : N ≤ 3072) (hi : i + 6 ≤ N) (hR : cR xs y) : lp_ok d N i xs y l 713 := by
  have N31 : N < 2 ^ 31 := by omega
  have i1 : i + 1 < N := by omega
  have i2 : i + 2 < N := by omega
  have i3 : i + 3 < N := by omega
  have i4 : i + 4 < N := by omega
  have i5 : i + 5 < N := by omega
  obtain ⟨u, y1, y2, e1, e2, hR2⟩ := cl_plan (N := N) (l := l) (d := d + 31) (one := y 0 (i + 1)) (P := y 0 (i + 2)) (k := y 0 (i + 3)) (w := y 0 (i + 4)) hR
  have y10 : y1 0 = y 0 := fk_y0 e1
  refine ⟨y2, l, ?_, hR2⟩
  simp (disch := first | assumption | omega) only [rL_law_0, rL_law_1, rL_law_2, rL_law_3, rL_law_4, e1, y10, e2, eq_self, Option.bind_some, Option.toList_some, Option.toList_none, List.cons_append, List.nil_append, fk_b_0, nI_add, Nat.add_zero, Nat.zero_add, not_true_eq_false, not_false_eq_true, if_true, if_false, sI_le_t, sI_le_f, sI_lt_t, sI_lt_f, sI_eq_t, sI_eq_f, sI_rem, sI_div, sI_m1a, sI_m1b, sI_m1c, sI_m1d, sI_m1e, sI_m1f, sI_m2a, sI_m2b, sI_sub, pk_mul, sI_dec, fk_u_s, fk_u_o, sI_dec0, sI_z, sI_md, Bool.false_eq_true, Nat.reduceAdd, Nat.reduceMul, Nat.reduceSub, Nat.reduceMod, Nat.reduceDiv]
theorem lp_joined (hN : N ≤ 3072) (hi : i + 6 ≤ N) (hR : cR xs y) : lp_ok d N i xs y l 766 := by
  have N31 : N < 2 ^ 31 := by omega
  have i1 : i + 1 < N := by omega
  have i2 : i + 2 < N := by omega
  have i3 : i + 3 < N := by omega
  have i4 : i + 4 < N := by omega
  have i5 : i + 5 < N := by omega
  obtain ⟨u, y1, y2, e1, e2, hR2⟩ := cl_joined (N := N) (l := l) (d := d + 32) (u := y 0 (i + 1)) (w := y 0 (i + 2)) hR
  have y10 : y1 0 = y 0 := fk_y0 e1
  refine ⟨y2, l, ?_, hR2⟩
  simp (disch := first | assumption | omega) only [rL_law_0, rL_law_1, rL_law_2, rL_law_3, rL_law_4, e1, y10, e2, eq_self, Option.bind_some, Option.toList_some, Option.toList_none, List.cons_append, List.nil_append, fk_b_0, nI_add, Nat.add_zero, Nat.zero_add, not_true_eq_false, not_false_eq_true, if_true, if_false, sI_le_t, sI_le_f, sI_lt_t, sI_lt_f, sI_eq_t, sI_eq_f, sI_rem, sI_div, sI_m1a, sI_m1b, sI_m1c, sI_m1d, sI_m1e, sI_m1f, sI_m2a, sI_m2b, sI_sub, pk_mul, sI_dec, fk_u_s, fk_u_o, sI_dec0, sI_z, sI_md, Bool.false_eq_true, Nat.reduceAdd, Nat.reduceMul, Nat.reduceSub, Nat.reduceMod, Nat.reduceDiv]
theorem lp_chosen (hN : N ≤ 3072) (hi : i + 6 ≤ N) (hR : cR xs y) : lp_ok d N i xs y l 799 := by
  have N31 : N < 2 ^ 31 := by omega
  have i1 : i + 1 < N := by omega
  have i2 : i + 2 < N := by omega
  have i3 : i + 3 < N := by omega
  have i4 : i + 4 < N := by omega
  have i5 : i + 5 < N := by omega
  obtain ⟨u, y1, y2, e1, e2, hR2⟩ := cl_chosen (N := N) (l := l) (d := d + 32) (j := y 0 (i + 1)) (k := y 0 (i + 2)) (w := y 0 (i + 3)) hR
  have y10 : y1 0 = y 0 := fk_y0 e1
  refine ⟨y2, l, ?_, hR2⟩
  simp (disch := first | assumption | omega) only [rL_law_0, rL_law_1, rL_law_2, rL_law_3, rL_law_4, e1, y10, e2, eq_self, Option.bind_some, Option.toList_some, Option.toList_none, List.cons_append, List.nil_append, fk_b_0, nI_add, Nat.add_zero, Nat.zero_add, not_true_eq_false, not_false_eq_true, if_true, if_false, sI_le_t, sI_le_f, sI_lt_t, sI_lt_f, sI_eq_t, sI_eq_f, sI_rem, sI_div, sI_m1a, sI_m1b, sI_m1c, sI_m1d, sI_m1e, sI_m1f, sI_m2a, sI_m2b, sI_sub, pk_mul, sI_dec, fk_u_s, fk_u_o, sI_dec0, sI_z, sI_md, Bool.false_eq_true, Nat.reduceAdd, Nat.reduceMul, Nat.reduceSub, Nat.reduceMod, Nat.reduceDiv]
theorem lp_whoWas (hN : N ≤ 3072) (hi : i + 6 ≤ N) (hR : cR xs y) : lp_ok d N i xs y l 842 := by
  have N31 : N < 2 ^ 31 := by omega
  have i1 : i + 1 < N := by omega
  have i2 : i + 2 < N := by omega
  have i3 : i + 3 < N := by omega
  have i4 : i + 4 < N := by omega
  have i5 : i + 5 < N := by omega
  obtain ⟨u, y1, y2, e1, e2, hR2⟩ := cl_whoWas (N := N) (l := l) (d := d + 32) (u := y 0 (i + 1)) (w := y 0 (i + 2)) hR
  have y10 : y1 0 = y 0 := fk_y0 e1
  refine ⟨y2, l, ?_, hR2⟩
  simp (disch := first | assumption | omega) only [rL_law_0, rL_law_1, rL_law_2, rL_law_3, rL_law_4, e1, y10, e2, eq_self, Option.bind_some, Option.toList_some, Option.toList_none, List.cons_append, List.nil_append, fk_b_0, nI_add, Nat.add_zero, Nat.zero_add, not_true_eq_false, not_false_eq_true, if_true, if_false, sI_le_t, sI_le_f, sI_lt_t, sI_lt_f, sI_eq_t, sI_eq_f, sI_rem, sI_div, sI_m1a, sI_m1b, sI_m1c, sI_m1d, sI_m1e, sI_m1f, sI_m2a, sI_m2b, sI_sub, pk_mul, sI_dec, fk_u_s, fk_u_o, sI_dec0, sI_z, sI_md, Bool.false_eq_true, Nat.reduceAdd, Nat.reduceMul, Nat.reduceSub, Nat.reduceMod, Nat.reduceDiv]
theorem lp_meet (hN : N ≤ 3072) (hi : i + 6 ≤ N) (hR : cR xs y) : lp_ok d N i xs y l 875 := by
  have N31 : N < 2 ^ 31 := by omega
  have i1 : i + 1 < N := by omega
  have i2 : i + 2 < N := by omega
  have i3 : i + 3 < N := by omega
  have i4 : i + 4 < N := by omega
  have i5 : i + 5 < N := by omega
  obtain ⟨u, e1, e2⟩ := cl_meet (N := N) (l := l) (d := d + 32) (one := y 0 (i + 1)) hR
  refine ⟨y, l, ?_, hR⟩
  simp (disch := first | assumption | omega) only [rL_law_0, rL_law_1, rL_law_2, rL_law_3, rL_law_4, e1, e2, eq_self, Option.bind_some, Option.toList_some, Option.toList_none, List.cons_append, List.nil_append, fk_b_0, nI_add, Nat.add_zero, Nat.zero_add, not_true_eq_false, not_false_eq_true, if_true, if_false, sI_le_t, sI_le_f, sI_lt_t, sI_lt_f, sI_eq_t, sI_eq_f, sI_rem, sI_div, sI_m1a, sI_m1b, sI_m1c, sI_m1d, sI_m1e, sI_m1f, sI_m2a, sI_m2b, sI_sub, pk_mul, sI_dec, fk_u_s, fk_u_o, sI_dec0, sI_z, sI_md, Bool.false_eq_true, Nat.reduceAdd, Nat.reduceMul, Nat.reduceSub, Nat.reduceMod, Nat.reduceDiv]
theorem lp_built (hN : N ≤ 3072) (hi : i + 6 ≤ N) (hR : cR xs y) : lp_ok d N i xs y l 898 := by
  have N31 : N < 2 ^ 31 := by omega
  have i1 : i + 1 < N := by omega
  have i2 : i + 2 < N := by omega
  have i3 : i + 3 < N := by omega
  have i4 : i + 4 < N := by omega
  have i5 : i + 5 < N := by omega
  obtain ⟨u, e1, e2⟩ := cl_built (N := N) (l := l) (d := d + 32) (w := y 0 (i + 1)) hR
  refine ⟨y, l, ?_, hR⟩
  simp (disch := first | assumption | omega) only [rL_law_0, rL_law_1, rL_law_2, rL_law_3, rL_law_4, e1, e2, eq_self, Option.bind_some, Option.toList_some, Option.toList_none, List.cons_append, List.nil_append, fk_b_0, nI_add, Nat.add_zero, Nat.zero_add, not_true_eq_false, not_false_eq_true, if_true, if_false, sI_le_t, sI_le_f, sI_lt_t, sI_lt_f, sI_eq_t, sI_eq_f, sI_rem, sI_div, sI_m1a, sI_m1b, sI_m1c, sI_m1d, sI_m1e, sI_m1f, sI_m2a, sI_m2b, sI_sub, pk_mul, sI_dec, fk_u_s, fk_u_o, sI_dec0, sI_z, sI_md, Bool.false_eq_true, Nat.reduceAdd, Nat.reduceMul, Nat.reduceSub, Nat.reduceMod, Nat.reduceDiv]
theorem lp_closed (hN : N ≤ 3072) (hi : i + 6 ≤ N) (hR : cR xs y) : lp_ok d N i xs y l 921 := by
  have N31 : N < 2 ^ 31 := by omega
  have i1 : i + 1 < N := by omega
  have i2 : i + 2 < N := by omega
  have i3 : i + 3 < N := by omega
  have i4 : i + 4 < N := by omega
  have i5 : i + 5 < N := by omega
  obtain ⟨u, e1, e2⟩ := cl_closed (N := N) (l := l) (d := d + 32) (f := y 0 (i + 1)) (g := y 0 (i + 2)) (w := y 0 (i + 3)) hR
  refine ⟨y, l, ?_, hR⟩
  simp (disch := first | assumption | omega) only [rL_law_0, rL_law_1, rL_law_2, rL_law_3, rL_law_4, e1, e2, eq_self, Option.bind_some, Option.toList_some, Option.toList_none, List.cons_append, List.nil_append, fk_b_0, nI_add, Nat.add_zero, Nat.zero_add, not_true_eq_false, not_false_eq_true, if_true, if_false, sI_le_t, sI_le_f, sI_lt_t, sI_lt_f, sI_eq_t, sI_eq_f, sI_rem, sI_div, sI_m1a, sI_m1b, sI_m1c, sI_m1d, sI_m1e, sI_m1f, sI_m2a, sI_m2b, sI_sub, pk_mul, sI_dec, fk_u_s, fk_u_o, sI_dec0, sI_z, sI_md, Bool.false_eq_true, Nat.reduceAdd, Nat.reduceMul, Nat.reduceSub, Nat.reduceMod, Nat.reduceDiv]
theorem lp_history (hN : N ≤ 3072) (hi : i + 6 ≤ N) (hR : cR xs y) : lp_ok d N i xs y l 964 := by
  have N31 : N < 2 ^ 31 := by omega
  have i1 : i + 1 < N := by omega
  have i2 : i + 2 < N := by omega
  have i3 : i + 3 < N := by omega
  have i4 : i + 4 < N := by omega
  have i5 : i + 5 < N := by omega
  obtain ⟨u, y1, y2, e1, e2, hR2⟩ := cl_history (N := N) (l := l) (d := d + 32) (j := y 0 (i + 1)) (u := y 0 (i + 2)) hR
  have y10 : y1 0 = y 0 := fk_y0 e1
  refine ⟨y2, l, ?_, hR2⟩
  simp (disch := first | assumption | omega) only [rL_law_0, rL_law_1, rL_law_2, rL_law_3, rL_law_4, e1, y10, e2, eq_self, Option.bind_some, Option.toList_some, Option.toList_none, List.cons_append, List.nil_append, fk_b_0, nI_add, Nat.add_zero, Nat.zero_add, not_true_eq_false, not_false_eq_true, if_true, if_false, sI_le_t, sI_le_f, sI_lt_t, sI_lt_f, sI_eq_t, sI_eq_f, sI_rem, sI_div, sI_m1a, sI_m1b, sI_m1c, sI_m1d, sI_m1e, sI_m1f, sI_m2a, sI_m2b, sI_sub, pk_mul, sI_dec, fk_u_s, fk_u_o, sI_dec0, sI_z, sI_md, Bool.false_eq_true, Nat.reduceAdd, Nat.reduceMul, Nat.reduceSub, Nat.reduceMod, Nat.reduceDiv]
theorem lp_kin (hN : N ≤ 3072) (hi : i + 6 ≤ N) (hR : cR xs y) : lp_ok d N i xs y l 997 := by
  have N31 : N < 2 ^ 31 := by omega
  have i1 : i + 1 < N := by omega
  have i2 : i + 2 < N := by omega
  have i3 : i + 3 < N := by omega
  have i4 : i + 4 < N := by omega
  have i5 : i + 5 < N := by omega
  obtain ⟨u, e1, e2⟩ := cl_kin (N := N) (l := l) (d := d + 32) (j := y 0 (i + 1)) (o := y 0 (i + 2)) (w := y 0 (i + 3)) hR
  refine ⟨y, l, ?_, hR⟩
  simp (disch := first | assumption | omega) only [rL_law_0, rL_law_1, rL_law_2, rL_law_3, rL_law_4, e1, e2, eq_self, Option.bind_some, Option.toList_some, Option.toList_none, List.cons_append, List.nil_append, fk_b_0, nI_add, Nat.add_zero, Nat.zero_add, not_true_eq_false, not_false_eq_true, if_true, if_false, sI_le_t, sI_le_f, sI_lt_t, sI_lt_f, sI_eq_t, sI_eq_f, sI_rem, sI_div, sI_m1a, sI_m1b, sI_m1c, sI_m1d, sI_m1e, sI_m1f, sI_m2a, sI_m2b, sI_sub, pk_mul, sI_dec, fk_u_s, fk_u_o, sI_dec0, sI_z, sI_md, Bool.false_eq_true, Nat.reduceAdd, Nat.reduceMul, Nat.reduceSub, Nat.reduceMod, Nat.reduceDiv]
theorem lp_bread (hN : N ≤ 3072) (hi : i + 6 ≤ N) (hR : cR xs y) : lp_ok d N i xs y l 1040 := by
  have N31 : N < 2 ^ 31 := by omega
  have i1 : i + 1 < N := by omega
  have i2 : i + 2 < N := by omega
  have i3 : i + 3 < N := by omega
  have i4 : i + 4 < N := by omega
  have i5 : i + 5 < N := by omega
  obtain ⟨u, e1, e2⟩ := cl_bread (N := N) (l := l) (d := d + 32) (j := y 0 (i + 1)) (L := y 0 (i + 2)) hR
  refine ⟨y, l, ?_, hR⟩
  simp (disch := first | assumption | omega) only [rL_law_0, rL_law_1, rL_law_2, rL_law_3, rL_law_4, e1, e2, eq_self, Option.bind_some, Option.toList_some, Option.toList_none, List.cons_append, List.nil_append, fk_b_0, nI_add, Nat.add_zero, Nat.zero_add, not_true_eq_false, not_false_eq_true, if_true, if_false, sI_le_t, sI_le_f, sI_lt_t, sI_lt_f, sI_eq_t, sI_eq_f, sI_rem, sI_div, sI_m1a, sI_m1b, sI_m1c, sI_m1d, sI_m1e, sI_m1f, sI_m2a, sI_m2b, sI_sub, pk_mul, sI_dec, fk_u_s, fk_u_o, sI_dec0, sI_z, sI_md, Bool.false_eq_true, Nat.reduceAdd, Nat.reduceMul, Nat.reduceSub, Nat.reduceMod, Nat.reduceDiv]
theorem lp_vote (hN : N ≤ 3072) (hi : i + 6 ≤ N) (hR : cR xs y) : lp_ok d N i xs y l 1073 := by
  have N31 : N < 2 ^ 31 := by omega
  have i1 : i + 1 < N := by omega
  have i2 : i + 2 < N := by omega
  have i3 : i + 3 < N := by omega
  have i4 : i + 4 < N := by omega
  have i5 : i + 5 < N := by omega
  obtain ⟨u, e1, e2⟩ := cl_vote (N := N) (l := l) (d := d + 32) (one := y 0 (i + 1)) (f := y 0 (i + 2)) (w := y 0 (i + 3)) hR
  refine ⟨y, l, ?_, hR⟩
  simp (disch := first | assumption | omega) only [rL_law_0, rL_law_1, rL_law_2, rL_law_3, rL_law_4, e1, e2, eq_self, Option.bind_some, Option.toList_some, Option.toList_none, List.cons_append, List.nil_append, fk_b_0, nI_add, Nat.add_zero, Nat.zero_add, not_true_eq_false, not_false_eq_true, if_true, if_false, sI_le_t, sI_le_f, sI_lt_t, sI_lt_f, sI_eq_t, sI_eq_f, sI_rem, sI_div, sI_m1a, sI_m1b, sI_m1c, sI_m1d, sI_m1e, sI_m1f, sI_m2a, sI_m2b, sI_sub, pk_mul, sI_dec, fk_u_s, fk_u_o, sI_dec0, sI_z, sI_md, Bool.false_eq_true, Nat.reduceAdd, Nat.reduceMul, Nat.reduceSub, Nat.reduceMod, Nat.reduceDiv]
theorem lp_seed (hN : N ≤ 3072) (hi : i + 6 ≤ N) (hR : cR xs y) : lp_ok d N i xs y l 1116 := by
  have N31 : N < 2 ^ 31 := by omega
  have i1 : i + 1 < N := by omega
  have i2 : i + 2 < N := by omega
  have i3 : i + 3 < N := by omega
  have i4 : i + 4 < N := by omega
  have i5 : i + 5 < N := by omega
  obtain ⟨u, y1, y2, e1, e2, hR2⟩ := cl_seed (N := N) (l := l) (d := d + 32) (x := y 0 (i + 1)) hR
  have y10 : y1 0 = y 0 := fk_y0 e1
  refine ⟨y2, l, ?_, hR2⟩
  simp (disch := first | assumption | omega) only [rL_law_0, rL_law_1, rL_law_2, rL_law_3, rL_law_4, e1, y10, e2, eq_self, Option.bind_some, Option.toList_some, Option.toList_none, List.cons_append, List.nil_append, fk_b_0, nI_add, Nat.add_zero, Nat.zero_add, not_true_eq_false, not_false_eq_true, if_true, if_false, sI_le_t, sI_le_f, sI_lt_t, sI_lt_f, sI_eq_t, sI_eq_f, sI_rem, sI_div, sI_m1a, sI_m1b, sI_m1c, sI_m1d, sI_m1e, sI_m1f, sI_m2a, sI_m2b, sI_sub, pk_mul, sI_dec, fk_u_s, fk_u_o, sI_dec0, sI_z, sI_md, Bool.false_eq_true, Nat.reduceAdd, Nat.reduceMul, Nat.reduceSub, Nat.reduceMod, Nat.reduceDiv]
theorem lp_keep (hN : N ≤ 3072) (hi : i + 6 ≤ N) (hR : cR xs y) : lp_ok d N i xs y l 1139 := by
  have N31 : N < 2 ^ 31 := by omega
  have i1 : i + 1 < N := by omega
  have i2 : i + 2 < N := by omega
  have i3 : i + 3 < N := by omega
  have i4 : i + 4 < N := by omega
  have i5 : i + 5 < N := by omega
  obtain ⟨u, y1, y2, e1, e2, hR2⟩ := cl_keep (N := N) (l := l) (d := d + 32)  hR
  have y10 : y1 0 = y 0 := fk_y0 e1
  refine ⟨y2, l, ?_, hR2⟩
  simp (disch := first | assumption | omega) only [rL_law_0, rL_law_1, rL_law_2, rL_law_3, rL_law_4, e1, y10, e2, eq_self, Option.bind_some, Option.toList_some, Option.toList_none, List.cons_append, List.nil_append, fk_b_0, nI_add, Nat.add_zero, Nat.zero_add, not_true_eq_false, not_false_eq_true, if_true, if_false, sI_le_t, sI_le_f, sI_lt_t, sI_lt_f, sI_eq_t, sI_eq_f, sI_rem, sI_div, sI_m1a, sI_m1b, sI_m1c, sI_m1d, sI_m1e, sI_m1f, sI_m2a, sI_m2b, sI_sub, pk_mul, sI_dec, fk_u_s, fk_u_o, sI_dec0, sI_z, sI_md, Bool.false_eq_true, Nat.reduceAdd, Nat.reduceMul, Nat.reduceSub, Nat.reduceMod, Nat.reduceDiv]
theorem lp_undo (hN : N ≤ 3072) (hi : i + 6 ≤ N) (hR : cR xs y) : lp_ok d N i xs y l 1152 := by
  have N31 : N < 2 ^ 31 := by omega
  have i1 : i + 1 < N := by omega
  have i2 : i + 2 < N := by omega
  have i3 : i + 3 < N := by omega
  have i4 : i + 4 < N := by omega
  have i5 : i + 5 < N := by omega
  obtain ⟨u, y1, y2, e1, e2, hR2⟩ := cl_undo (N := N) (l := l) (d := d + 32)  hR
  have y10 : y1 0 = y 0 := fk_y0 e1
  refine ⟨y2, l, ?_, hR2⟩
  simp (disch := first | assumption | omega) only [rL_law_0, rL_law_1, rL_law_2, rL_law_3, rL_law_4, e1, y10, e2, eq_self, Option.bind_some, Option.toList_some, Option.toList_none, List.cons_append, List.nil_append, fk_b_0, nI_add, Nat.add_zero, Nat.zero_add, not_true_eq_false, not_false_eq_true, if_true, if_false, sI_le_t, sI_le_f, sI_lt_t, sI_lt_f, sI_eq_t, sI_eq_f, sI_rem, sI_div, sI_m1a, sI_m1b, sI_m1c, sI_m1d, sI_m1e, sI_m1f, sI_m2a, sI_m2b, sI_sub, pk_mul, sI_dec, fk_u_s, fk_u_o, sI_dec0, sI_z, sI_md, Bool.false_eq_true, Nat.reduceAdd, Nat.reduceMul, Nat.reduceSub, Nat.reduceMod, Nat.reduceDiv]
theorem lp_check (hN : N ≤ 3072) (hi : i + 6 ≤ N) (hR : cR xs y) : lp_ok d N i xs y l 1165 := by
  have N31 : N < 2 ^ 31 := by omega
  have i1 : i + 1 < N := by omega
  have i2 : i + 2 < N := by omega
  have i3 : i + 3 < N := by omega
  have i4 : i + 4 < N := by omega
  have i5 : i + 5 < N := by omega
  obtain ⟨u, y1, y2, e1, e2, hR2⟩ := cl_check (N := N) (l := l) (d := d + 32) (w := y 0 (i + 1)) hR
  have y10 : y1 0 = y 0 := fk_y0 e1
  refine ⟨y2, l, ?_, hR2⟩
  simp (disch := first | assumption | omega) only [rL_law_0, rL_law_1, rL_law_2, rL_law_3, rL_law_4, e1, y10, e2, eq_self, Option.bind_some, Option.toList_some, Option.toList_none, List.cons_append, List.nil_append, fk_b_0, nI_add, Nat.add_zero, Nat.zero_add, not_true_eq_false, not_false_eq_true, if_true, if_false, sI_le_t, sI_le_f, sI_lt_t, sI_lt_f, sI_eq_t, sI_eq_f, sI_rem, sI_div, sI_m1a, sI_m1b, sI_m1c, sI_m1d, sI_m1e, sI_m1f, sI_m2a, sI_m2b, sI_sub, pk_mul, sI_dec, fk_u_s, fk_u_o, sI_dec0, sI_z, sI_md, Bool.false_eq_true, Nat.reduceAdd, Nat.reduceMul, Nat.reduceSub, Nat.reduceMod, Nat.reduceDiv]
theorem lp_count (hN : N ≤ 3072) (hi : i + 6 ≤ N) (hR : cR xs y) : lp_ok d N i xs y l 1188 := by
  have N31 : N < 2 ^ 31 := by omega
  have i1 : i + 1 < N := by omega
  have i2 : i + 2 < N := by omega
  have i3 : i + 3 < N := by omega
  have i4 : i + 4 < N := by omega
  have i5 : i + 5 < N := by omega
  obtain ⟨u, e1, e2⟩ := cl_count (N := N) (l := l) (d := d + 32) (w := y 0 (i + 1)) hR
  refine ⟨y, l, ?_, hR⟩
  simp (disch := first | assumption | omega) only [rL_law_0, rL_law_1, rL_law_2, rL_law_3, rL_law_4, e1, e2, eq_self, Option.bind_some, Option.toList_some, Option.toList_none, List.cons_append, List.nil_append, fk_b_0, nI_add, Nat.add_zero, Nat.zero_add, not_true_eq_false, not_false_eq_true, if_true, if_false, sI_le_t, sI_le_f, sI_lt_t, sI_lt_f, sI_eq_t, sI_eq_f, sI_rem, sI_div, sI_m1a, sI_m1b, sI_m1c, sI_m1d, sI_m1e, sI_m1f, sI_m2a, sI_m2b, sI_sub, pk_mul, sI_dec, fk_u_s, fk_u_o, sI_dec0, sI_z, sI_md, Bool.false_eq_true, Nat.reduceAdd, Nat.reduceMul, Nat.reduceSub, Nat.reduceMod, Nat.reduceDiv]
end LP
