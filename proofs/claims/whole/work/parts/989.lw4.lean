/-! THE LAW: the class runs orders -/
section LW4
variable {N : Nat} {y : Nat → Nat → Int32} {l : Nat → Nat → Int64} {d c : Nat}
theorem lz_law (hc : c = 2 ∨ c = 10) : fk_at c 3 ∧ fk_cr c 0 = c + 1 ∧ fk_cr c 1 = c + 2 ∧ fk_cr c 2 = c + 3 ∧ fk_cr c 3 = c + 4 ∧ fk_cr c 4 = c + 5 ∧ fk_cr c 5 = c + 6 ∧ fk_cr c 6 = c + 7 := by
  rcases hc with rfl | rfl
  · exact ⟨⟨by decide, by decide, by decide +kernel⟩, rfl, rfl, rfl, rfl, rfl, rfl, rfl⟩
  · exact ⟨⟨by decide, by decide, by decide +kernel⟩, rfl, rfl, rfl, rfl, rfl, rfl, rfl⟩
theorem lz_law2 (hc : c = 2 ∨ c = 10) : fk_at (c + 1) 20 ∧ fk_at (c + 2) 20 ∧ fk_at (c + 7) 20 ∧ (fk_shp (c + 1)).2 = 240 ∧ (fk_shp (c + 2)).2 = 240 ∧ (fk_shp (c + 7)).2 = 32 := by
  rcases hc with rfl | rfl
  · exact ⟨⟨by decide, by decide, by decide +kernel⟩, ⟨by decide, by decide, by decide +kernel⟩, ⟨by decide, by decide, by decide +kernel⟩, by decide +kernel, by decide +kernel, by decide +kernel⟩
  · exact ⟨⟨by decide, by decide, by decide +kernel⟩, ⟨by decide, by decide, by decide +kernel⟩, ⟨by decide, by decide, by decide +kernel⟩, by decide +kernel, by decide +kernel, by decide +kernel⟩
theorem lz_law3 (hc : c = 2 ∨ c = 10) : fk_at (c + 3) 20 ∧ fk_at (c + 4) 20 ∧ fk_at (c + 5) 20 ∧ fk_at (c + 6) 20 ∧ (fk_shp (c + 3)).2 = 16 ∧ (fk_shp (c + 4)).2 = 16 ∧ (fk_shp (c + 5)).2 = 16 ∧ (fk_shp (c + 6)).2 = 16 := by
  rcases hc with rfl | rfl
  · exact ⟨⟨by decide, by decide, by decide +kernel⟩, ⟨by decide, by decide, by decide +kernel⟩, ⟨by decide, by decide, by decide +kernel⟩, ⟨by decide, by decide, by decide +kernel⟩, by decide +kernel, by decide +kernel, by decide +kernel, by decide +kernel⟩
  · exact ⟨⟨by decide, by decide, by decide +kernel⟩, ⟨by decide, by decide, by decide +kernel⟩, ⟨by decide, by decide, by decide +kernel⟩, ⟨by decide, by decide, by decide +kernel⟩, by decide +kernel, by decide +kernel, by decide +kernel, by decide +kernel⟩
theorem lz_at239 : fk_at 239 20 := ⟨by decide, by decide, by decide +kernel⟩
theorem lz_ln239 : (fk_shp 239).2 = 26 := by decide +kernel
theorem lz_tp_1 {s : List Int32} : lz_tp s + nI 1 = nI s.length := by
  cases s with
  | nil => decide
  | cons v s => rw [lz_tp_c, nI_add]; rfl
theorem ck_ix_lt : ∀ k, k < 14 → ck_ix k < 26 := by decide
section LW4a
variable {K : List (Nat × Nat)} {s : List Int32} {b b0 e : Nat} {x6 x7 x8 : Value} {o x : Nat}
theorem mX3_run_end (hc : c = 2 ∨ c = 10) (he : e ≤ 240) (hs : s.length ≤ 32) (h2 : lz_st (y (c + 7)) s) : fk_ev d qX3_run 6 [.ref c, .int (nI b0), .int (nI e), .ref 239, .int (lz_tp s), .int (nI e), x6, x7, x8] [] (fk_E N y l) = some (some (.int (lz_an (some s))), fk_E N y l) := by
  obtain ⟨a0, a1, a2, a3, a4, a5, a6, a7⟩ := lz_law hc
  obtain ⟨b1, b2, b7, s1, s2, s7⟩ := lz_law2 hc
  rw [hX3_run_6]
  cases s with
  | nil =>
    rw [lz_tp_n]
    simp (disch := first | assumption | omega) only [rX3_run, lz_an, Option.bind_some, Option.toList_some, Option.toList_none, List.cons_append, List.nil_append, fk_b_0, nI_add, Nat.add_zero, Nat.zero_add, not_true_eq_false, not_false_eq_true, if_true, if_false, sI_le_t, sI_le_f, sI_lt_t, sI_lt_f, sI_eq_t, sI_eq_f, sI_rem, sI_div, sI_m1a, sI_m1b, sI_m1c, sI_m1d, sI_m1e, sI_m1f, sI_m2a, sI_m2b, sI_sub, pk_mul, sI_dec, fk_u_s, fk_u_o, sI_dec0, sI_z, sI_md, Bool.false_eq_true, Nat.reduceAdd, Nat.reduceMul, Nat.reduceSub, Nat.reduceMod, Nat.reduceDiv]
  | cons v s =>
    have := h2.1
    rw [List.length_cons] at hs
    rw [lz_tp_c]
    simp (disch := first | assumption | omega) only [rX3_run, lz_an, a7, s7, this, Option.bind_some, Option.toList_some, Option.toList_none, List.cons_append, List.nil_append, fk_b_0, nI_add, Nat.add_zero, Nat.zero_add, not_true_eq_false, not_false_eq_true, if_true, if_false, sI_le_t, sI_le_f, sI_lt_t, sI_lt_f, sI_eq_t, sI_eq_f, sI_rem, sI_div, sI_m1a, sI_m1b, sI_m1c, sI_m1d, sI_m1e, sI_m1f, sI_m2a, sI_m2b, sI_sub, pk_mul, sI_dec, fk_u_s, fk_u_o, sI_dec0, sI_z, sI_md, Bool.false_eq_true, Nat.reduceAdd, Nat.reduceMul, Nat.reduceSub, Nat.reduceMod, Nat.reduceDiv]
theorem mX3_run_num (hc : c = 2 ∨ c = 10) (hb : b < e) (he : e ≤ 240) (hs : s.length < 32) (h1 : y (c + 1) b = nI 0) (h2 : y (c + 2) b = nI x) : ∃ x6' x7' x8', fk_ev d qX3_run 6 [.ref c, .int (nI b0), .int (nI e), .ref 239, .int (lz_tp s), .int (nI b), x6, x7, x8] [] (fk_E N y l) = fk_ev d qX3_run 6 [.ref c, .int (nI b0), .int (nI e), .ref 239, .int (nI s.length), .int (nI (b + 1)), x6', x7', x8'] [] (fk_E N (fk_u y (c + 7) s.length (nI x)) l) := by
  obtain ⟨a0, a1, a2, a3, a4, a5, a6, a7⟩ := lz_law hc
  obtain ⟨b1, b2, b7, s1, s2, s7⟩ := lz_law2 hc
  refine ⟨.int (nI 0), x7, x8, ?_⟩
  conv => lhs; rw [hX3_run_6]
  simp (disch := first | assumption | omega) only [rX3_run, a1, a2, a7, s1, s2, s7, h1, h2, lz_tp_1, Option.bind_some, Option.toList_some, Option.toList_none, List.cons_append, List.nil_append, fk_b_0, nI_add, Nat.add_zero, Nat.zero_add, not_true_eq_false, not_false_eq_true, if_true, if_false, sI_le_t, sI_le_f, sI_lt_t, sI_lt_f, sI_eq_t, sI_eq_f, sI_rem, sI_div, sI_m1a, sI_m1b, sI_m1c, sI_m1d, sI_m1e, sI_m1f, sI_m2a, sI_m2b, sI_sub, pk_mul, sI_dec, fk_u_s, fk_u_o, sI_dec0, sI_z, sI_md, Bool.false_eq_true, Nat.reduceAdd, Nat.reduceMul, Nat.reduceSub, Nat.reduceMod, Nat.reduceDiv]
theorem mX3_run_let (hc : c = 2 ∨ c = 10) (hb : b < e) (he : e ≤ 240) (hs : s.length < 32) (hx : x < 26) (h1 : y (c + 1) b = nI 1) (h2 : y (c + 2) b = nI x) : ∃ x6' x7' x8', fk_ev d qX3_run 6 [.ref c, .int (nI b0), .int (nI e), .ref 239, .int (lz_tp s), .int (nI b), x6, x7, x8] [] (fk_E N y l) = fk_ev d qX3_run 6 [.ref c, .int (nI b0), .int (nI e), .ref 239, .int (nI s.length), .int (nI (b + 1)), x6', x7', x8'] [] (fk_E N (fk_u y (c + 7) s.length (y 239 x)) l) := by
  obtain ⟨a0, a1, a2, a3, a4, a5, a6, a7⟩ := lz_law hc
  obtain ⟨b1, b2, b7, s1, s2, s7⟩ := lz_law2 hc
  have b9 := lz_at239
  have s9 := lz_ln239
  refine ⟨.int (nI 1), x7, x8, ?_⟩
  conv => lhs; rw [hX3_run_6]
  simp (disch := first | assumption | omega) only [rX3_run, a1, a2, a7, s1, s2, s7, s9, h1, h2, lz_tp_1, Option.bind_some, Option.toList_some, Option.toList_none, List.cons_append, List.nil_append, fk_b_0, nI_add, Nat.add_zero, Nat.zero_add, not_true_eq_false, not_false_eq_true, if_true, if_false, sI_le_t, sI_le_f, sI_lt_t, sI_lt_f, sI_eq_t, sI_eq_f, sI_rem, sI_div, sI_m1a, sI_m1b, sI_m1c, sI_m1d, sI_m1e, sI_m1f, sI_m2a, sI_m2b, sI_sub, pk_mul, sI_dec, fk_u_s, fk_u_o, sI_dec0, sI_z, sI_md, Bool.false_eq_true, Nat.reduceAdd, Nat.reduceMul, Nat.reduceSub, Nat.reduceMod, Nat.reduceDiv]
theorem mX3_run_not (hc : c = 2 ∨ c = 10) {t : Nat} (hb : b < e) (he : e ≤ 240) (hs : t < 32) (h1 : y (c + 1) b = nI 2) {q : Nat} (hq : q ≤ 1) (h2 : y (c + 7) t = nI q) : ∃ x6' x7' x8', fk_ev d qX3_run 6 [.ref c, .int (nI b0), .int (nI e), .ref 239, .int (nI t), .int (nI b), x6, x7, x8] [] (fk_E N y l) = fk_ev d qX3_run 6 [.ref c, .int (nI b0), .int (nI e), .ref 239, .int (nI t), .int (nI (b + 1)), x6', x7', x8'] [] (fk_E N (fk_u y (c + 7) t (nI (1 - q))) l) := by
  obtain ⟨a0, a1, a2, a3, a4, a5, a6, a7⟩ := lz_law hc
  obtain ⟨b1, b2, b7, s1, s2, s7⟩ := lz_law2 hc
  refine ⟨.int (nI 2), .int (nI q), x8, ?_⟩
  conv => lhs; rw [hX3_run_6]
  have : q = 0 ∨ q = 1 := by omega
  rcases this with rfl | rfl
  · simp (disch := first | assumption | omega) only [rX3_run, a1, a2, a7, s1, s2, s7, h1, h2, Option.bind_some, Option.toList_some, Option.toList_none, List.cons_append, List.nil_append, fk_b_0, nI_add, Nat.add_zero, Nat.zero_add, not_true_eq_false, not_false_eq_true, if_true, if_false, sI_le_t, sI_le_f, sI_lt_t, sI_lt_f, sI_eq_t, sI_eq_f, sI_rem, sI_div, sI_m1a, sI_m1b, sI_m1c, sI_m1d, sI_m1e, sI_m1f, sI_m2a, sI_m2b, sI_sub, pk_mul, sI_dec, fk_u_s, fk_u_o, sI_dec0, sI_z, sI_md, Bool.false_eq_true, Nat.reduceAdd, Nat.reduceMul, Nat.reduceSub, Nat.reduceMod, Nat.reduceDiv]
  · simp (disch := first | assumption | omega) only [rX3_run, a1, a2, a7, s1, s2, s7, h1, h2, Option.bind_some, Option.toList_some, Option.toList_none, List.cons_append, List.nil_append, fk_b_0, nI_add, Nat.add_zero, Nat.zero_add, not_true_eq_false, not_false_eq_true, if_true, if_false, sI_le_t, sI_le_f, sI_lt_t, sI_lt_f, sI_eq_t, sI_eq_f, sI_rem, sI_div, sI_m1a, sI_m1b, sI_m1c, sI_m1d, sI_m1e, sI_m1f, sI_m2a, sI_m2b, sI_sub, pk_mul, sI_dec, fk_u_s, fk_u_o, sI_dec0, sI_z, sI_md, Bool.false_eq_true, Nat.reduceAdd, Nat.reduceMul, Nat.reduceSub, Nat.reduceMod, Nat.reduceDiv]
theorem mX3_run_leap (hc : c = 2 ∨ c = 10) (ho : o = 11 ∨ o = 12) {t : Nat} (hb : b < e) (he : e ≤ 240) (hs : t < 32) (h1 : y (c + 1) b = nI (lz_ko o)) (hx0 : 0 < x) (hx : b + x ≤ 240) (h2 : y (c + 2) b = nI (b + x)) (h3 : y (c + 7) t = nI (lz_lp o)) : ∃ x6' x7' x8', fk_ev d qX3_run 6 [.ref c, .int (nI b0), .int (nI e), .ref 239, .int (nI t), .int (nI b), x6, x7, x8] [] (fk_E N y l) = fk_ev d qX3_run 6 [.ref c, .int (nI b0), .int (nI e), .ref 239, .int (nI t), .int (nI (b + x)), x6', x7', x8'] [] (fk_E N y l) := by
  obtain ⟨a0, a1, a2, a3, a4, a5, a6, a7⟩ := lz_law hc
  obtain ⟨b1, b2, b7, s1, s2, s7⟩ := lz_law2 hc
  refine ⟨.int (nI (lz_ko o)), .int (nI (lz_lp o)), x8, ?_⟩
  conv => lhs; rw [hX3_run_6]
  have ee : b + x - 1 + 1 = b + x := by omega
  rcases ho with rfl | rfl
  · show _ = fk_ev d qX3_run 6 [_, _, _, _, _, _, .int (nI 3), .int (nI 0), x8] [] _
    have h1 : y (c + 1) b = nI 3 := h1
    have h3 : y (c + 7) t = nI 0 := h3
    simp (disch := first | assumption | omega) only [rX3_run, a1, a2, a7, s1, s2, s7, h1, h2, h3, ee, Option.bind_some, Option.toList_some, Option.toList_none, List.cons_append, List.nil_append, fk_b_0, nI_add, Nat.add_zero, Nat.zero_add, not_true_eq_false, not_false_eq_true, if_true, if_false, sI_le_t, sI_le_f, sI_lt_t, sI_lt_f, sI_eq_t, sI_eq_f, sI_rem, sI_div, sI_m1a, sI_m1b, sI_m1c, sI_m1d, sI_m1e, sI_m1f, sI_m2a, sI_m2b, sI_sub, pk_mul, sI_dec, fk_u_s, fk_u_o, sI_dec0, sI_z, sI_md, Bool.false_eq_true, Nat.reduceAdd, Nat.reduceMul, Nat.reduceSub, Nat.reduceMod, Nat.reduceDiv]
  · show _ = fk_ev d qX3_run 6 [_, _, _, _, _, _, .int (nI 4), .int (nI 1), x8] [] _
    have h1 : y (c + 1) b = nI 4 := h1
    have h3 : y (c + 7) t = nI 1 := h3
    simp (disch := first | assumption | omega) only [rX3_run, a1, a2, a7, s1, s2, s7, h1, h2, h3, ee, Option.bind_some, Option.toList_some, Option.toList_none, List.cons_append, List.nil_append, fk_b_0, nI_add, Nat.add_zero, Nat.zero_add, not_true_eq_false, not_false_eq_true, if_true, if_false, sI_le_t, sI_le_f, sI_lt_t, sI_lt_f, sI_eq_t, sI_eq_f, sI_rem, sI_div, sI_m1a, sI_m1b, sI_m1c, sI_m1d, sI_m1e, sI_m1f, sI_m2a, sI_m2b, sI_sub, pk_mul, sI_dec, fk_u_s, fk_u_o, sI_dec0, sI_z, sI_md, Bool.false_eq_true, Nat.reduceAdd, Nat.reduceMul, Nat.reduceSub, Nat.reduceMod, Nat.reduceDiv]
theorem mX3_run_pop (hc : c = 2 ∨ c = 10) (ho : o = 11 ∨ o = 12) {t : Nat} (hb : b < e) (he : e ≤ 240) (hs : t < 32) (h1 : y (c + 1) b = nI (lz_ko o)) (h3 : y (c + 7) t = nI (1 - lz_lp o)) : ∃ x6' x7' x8', fk_ev d qX3_run 6 [.ref c, .int (nI b0), .int (nI e), .ref 239, .int (nI t), .int (nI b), x6, x7, x8] [] (fk_E N y l) = fk_ev d qX3_run 6 [.ref c, .int (nI b0), .int (nI e), .ref 239, .int (nI t + (-1)), .int (nI (b + 1)), x6', x7', x8'] [] (fk_E N y l) := by
  obtain ⟨a0, a1, a2, a3, a4, a5, a6, a7⟩ := lz_law hc
  obtain ⟨b1, b2, b7, s1, s2, s7⟩ := lz_law2 hc
  refine ⟨.int (nI (lz_ko o)), .int (nI (1 - lz_lp o)), x8, ?_⟩
  conv => lhs; rw [hX3_run_6]
  generalize et : nI t + (-1 : Int32) = t1
  rcases ho with rfl | rfl
  · show _ = fk_ev d qX3_run 6 [_, _, _, _, _, _, .int (nI 3), .int (nI 1), x8] [] _
    have h1 : y (c + 1) b = nI 3 := h1
    have h3 : y (c + 7) t = nI 1 := h3
    simp (disch := omega) only [rX3_run, a0, a1, a2, a7, b1, b2, b7, s1, s2, s7, h1, h3, et, nI_add, Nat.add_zero, Nat.zero_add, not_true_eq_false, not_false_eq_true, if_true, if_false, sI_le_t, sI_le_f, sI_lt_t, sI_lt_f, sI_eq_t, sI_eq_f, Nat.reduceAdd]
  · show _ = fk_ev d qX3_run 6 [_, _, _, _, _, _, .int (nI 4), .int (nI 0), x8] [] _
    have h1 : y (c + 1) b = nI 4 := h1
    have h3 : y (c + 7) t = nI 0 := h3
    simp (disch := omega) only [rX3_run, a0, a1, a2, a7, b1, b2, b7, s1, s2, s7, h1, h3, et, nI_add, Nat.add_zero, Nat.zero_add, not_true_eq_false, not_false_eq_true, if_true, if_false, sI_le_t, sI_le_f, sI_lt_t, sI_lt_f, sI_eq_t, sI_eq_f, Nat.reduceAdd]
end LW4a
end LW4
