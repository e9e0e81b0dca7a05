/-! THE LAW: the reference runs orders -/
section LW9
variable {N : Nat} {y : Nat → Nat → Int32} {l : Nat → Nat → Int64} {d : Nat} {h : fk_H} {o x b b0 e n t : Nat} {x6 x7 : Value} {r z v : Int32}
def lz_kr (i o x : Nat) : Nat := if o = 11 ∨ o = 12 then i + x else x
def lz_hr (y : Nat → Nat → Int32) (c : Nat) : Nat → List (Nat × Nat) → Prop
  | _, [] => True
  | b, k :: K => (y c b = nI (1048576 * k.1 + lz_kr b k.1 k.2) ∧ k.1 ≤ 12 ∧ lz_kr b k.1 k.2 < 1048576) ∧ lz_hr y c (b + 1) K
theorem lz_hr_c {y' : Nat → Nat → Int32} {c c' : Nat} : ∀ (K : List (Nat × Nat)) b, (∀ i, b ≤ i → i < b + K.length → y' c' i = y c i) → lz_hr y c b K → lz_hr y' c' b K := by
  intro K
  induction K with
  | nil => intro b _ _; trivial
  | cons k K ih =>
    intro b h hh
    have e := h b (Nat.le_refl _) (by rw [List.length_cons]; omega)
    exact ⟨⟨e.trans hh.1.1, hh.1.2⟩, ih (b + 1) (fun i h1 h2 => h i (by omega) (by rw [List.length_cons]; omega)) hh.2⟩
theorem lz_hr_d {c : Nat} : ∀ (j : Nat) (K : List (Nat × Nat)) b, lz_hr y c b K → lz_hr y c (b + j) (K.drop j) := by
  intro j
  induction j with
  | zero => intro K b h; exact h
  | succ j ih =>
    intro K b h
    cases K with
    | nil => trivial
    | cons k K =>
      have := ih K (b + 1) h.2
      rw [show b + 1 + j = b + (j + 1) by omega] at this
      exact this
theorem lz_hr_app {c : Nat} : ∀ (K1 : List (Nat × Nat)) {K2 : List (Nat × Nat)} {b : Nat}, lz_hr y c b K1 → lz_hr y c (b + K1.length) K2 → lz_hr y c b (K1 ++ K2) := by
  intro K1
  induction K1 with
  | nil => intro K2 b _ h; exact h
  | cons k K1 ih =>
    intro K2 b h1 h2
    refine ⟨h1.1, ih h1.2 ?_⟩
    rw [List.length_cons, show b + (K1.length + 1) = b + 1 + K1.length by omega] at h2
    exact h2
theorem lz_dv (hv : x < 1048576) : (1048576 * o + x) / 1048576 = o := by omega
theorem lz_md (hv : x < 1048576) : (1048576 * o + x) % 1048576 = x := by omega
theorem mX12_reckon (g1 : 2 ≤ o) (g2 : o ≤ 9) (hr : ¬ ((o = 5 ∨ o = 6) ∧ r = nI 0)) : fk_ev d qX12_reckon 0 [.int (nI o), .int z, .int r] [] h = some (some (.int (lz_o o z r)), h) := by
  rcases lz_ops g1 g2 with rfl | rfl | rfl | rfl | rfl | rfl | rfl | rfl
  · show _ = some (some (Value.int (z + r)), _)
    simp only [rX12_reckon]
  · show _ = some (some (Value.int (z - r)), _)
    simp only [rX12_reckon]
  · show _ = some (some (Value.int (z * r)), _)
    simp only [rX12_reckon]
  · have q : ¬ r = nI 0 := fun z => hr ⟨Or.inl rfl, z⟩
    show _ = some (some (Value.int (z / r)), _)
    simp only [rX12_reckon, lz_nz2 q, if_false]
  · have q : ¬ r = nI 0 := fun z => hr ⟨Or.inr rfl, z⟩
    show _ = some (some (Value.int (z - z / r * r)), _)
    simp only [rX12_reckon, lz_nz2 q, if_false]
  · show _ = some (some (Value.int (if z < r then nI 1 else nI 0)), _)
    by_cases k : z < r
    · have k2 : (r ≤ z) = False := eq_false (Int32.not_le.mpr k)
      rw [if_pos k]
      simp only [rX12_reckon, k2, if_false]
    · have k2 : (r ≤ z) = True := eq_true (Int32.not_lt.mp k)
      rw [if_neg k]
      simp only [rX12_reckon, k2, if_true]
  · show _ = some (some (Value.int (if r < z then nI 1 else nI 0)), _)
    by_cases k : r < z
    · have k2 : (z ≤ r) = False := eq_false (Int32.not_le.mpr k)
      rw [if_pos k]
      simp only [rX12_reckon, k2, if_false]
    · have k2 : (z ≤ r) = True := eq_true (Int32.not_lt.mp k)
      rw [if_neg k]
      simp only [rX12_reckon, k2, if_true]
  · show _ = some (some (Value.int (if z = r then nI 1 else nI 0)), _)
    have i9 : (nI 9).toInt < 2 ∨ 8 < (nI 9).toInt := by decide
    by_cases k : z = r
    · have k2 : (z = r) = True := eq_true k
      rw [if_pos k]
      simp only [rX12_reckon, i9, k2, if_false, not_true_eq_false]
    · have k2 : (z = r) = False := eq_false k
      rw [if_neg k]
      simp only [rX12_reckon, i9, k2, if_true, not_false_eq_true]
theorem mX12_ct_end (hb : e ≤ 260) : fk_ev d qX12_comesTo 16 [.ref 246, .int (nI b0), .int (nI e), .int (nI n), .int (nI 0), .int (nI e), x6, x7] [] (fk_E N y l) = some (some (.int (y 267 0)), fk_E N y l) := by
  rw [hX12_comesTo_16]
  simp (disch := first | assumption | omega) only [rX12_comesTo, Option.bind_some, Option.toList_some, Option.toList_none, List.cons_append, List.nil_append, fk_b_0, nI_add, Nat.add_zero, Nat.zero_add, not_true_eq_false, not_false_eq_true, if_true, if_false, sI_le_t, sI_le_f, sI_lt_t, sI_lt_f, sI_eq_t, sI_eq_f, sI_rem, sI_div, sI_m1a, sI_m1b, sI_m1c, sI_m1d, sI_m1e, sI_m1f, sI_m2a, sI_m2b, sI_sub, pk_mul, sI_dec, fk_u_s, fk_u_o, sI_dec0, sI_z, sI_md, Bool.false_eq_true, Nat.reduceAdd, Nat.reduceMul, Nat.reduceSub, Nat.reduceMod, Nat.reduceDiv]
theorem mX12_ct_num (hb : b < e) (he : e ≤ 260) (hn : n < 32) (hx : x < 1048576) (h1 : y 262 b = nI (1048576 * 0 + x)) : fk_ev (d + 1) qX12_comesTo 16 [.ref 246, .int (nI b0), .int (nI e), .int (nI n), .int (nI 0), .int (nI b), x6, x7] [] (fk_E N y l) = fk_ev (d + 1) qX12_comesTo 16 [.ref 246, .int (nI b0), .int (nI e), .int (nI (n + 1)), .int (nI 0), .int (nI (b + 1)), .int (nI 0), .int (nI x)] [] (fk_E N (fk_u y 267 n (nI x)) l) := by
  conv => lhs; rw [hX12_comesTo_16]
  have e1 := lz_dv (o := 0) hx
  have e2 := lz_md (o := 0) hx
  generalize 1048576 * 0 + x = w at h1 e1 e2
  have hw : w < 2147483648 := by omega
  have e3 : w - 0 = x := by omega
  simp (disch := first | assumption | omega) only [rX12_comesTo, h1, e1, e2, e3, Option.bind_some, Option.toList_some, Option.toList_none, List.cons_append, List.nil_append, fk_b_0, nI_add, Nat.add_zero, Nat.zero_add, not_true_eq_false, not_false_eq_true, if_true, if_false, sI_le_t, sI_le_f, sI_lt_t, sI_lt_f, sI_eq_t, sI_eq_f, sI_rem, sI_div, sI_m1a, sI_m1b, sI_m1c, sI_m1d, sI_m1e, sI_m1f, sI_m2a, sI_m2b, sI_sub, pk_mul, sI_dec, fk_u_s, fk_u_o, sI_dec0, sI_z, sI_md, Bool.false_eq_true, Nat.reduceAdd, Nat.reduceMul, Nat.reduceSub, Nat.reduceMod, Nat.reduceDiv]
theorem mX12_ct_let (hb : b < e) (he : e ≤ 260) (hn : n < 32) (hx : x < 14) (h1 : y 262 b = nI (1048576 * 1 + x)) : fk_ev (d + 1) qX12_comesTo 16 [.ref 246, .int (nI b0), .int (nI e), .int (nI n), .int (nI 0), .int (nI b), x6, x7] [] (fk_E N y l) = fk_ev (d + 1) qX12_comesTo 16 [.ref 246, .int (nI b0), .int (nI e), .int (nI (n + 1)), .int (nI 0), .int (nI (b + 1)), .int (nI 1), .int (nI x)] [] (fk_E N (fk_u y 267 n (y 268 x)) l) := by
  conv => lhs; rw [hX12_comesTo_16]
  have e1 := lz_dv (o := 1) (x := x) (by omega)
  have e2 := lz_md (o := 1) (x := x) (by omega)
  generalize 1048576 * 1 + x = w at h1 e1 e2
  have hw : w < 2147483648 := by omega
  have e3 : w - 1048576 = x := by omega
  simp (disch := first | assumption | omega) only [rX12_comesTo, h1, e1, e2, e3, Nat.one_mul, Option.bind_some, Option.toList_some, Option.toList_none, List.cons_append, List.nil_append, fk_b_0, nI_add, Nat.add_zero, Nat.zero_add, not_true_eq_false, not_false_eq_true, if_true, if_false, sI_le_t, sI_le_f, sI_lt_t, sI_lt_f, sI_eq_t, sI_eq_f, sI_rem, sI_div, sI_m1a, sI_m1b, sI_m1c, sI_m1d, sI_m1e, sI_m1f, sI_m2a, sI_m2b, sI_sub, pk_mul, sI_dec, fk_u_s, fk_u_o, sI_dec0, sI_z, sI_md, Bool.false_eq_true, Nat.reduceAdd, Nat.reduceMul, Nat.reduceSub, Nat.reduceMod, Nat.reduceDiv]
theorem mX12_ct_not (hb : b < e) (he : e ≤ 260) (ht : t < 32) (hx : x < 1048576) (h1 : y 262 b = nI (1048576 * 10 + x)) {q : Nat} (hq : q ≤ 1) (h2 : y 267 t = nI q) : fk_ev (d + 1) qX12_comesTo 16 [.ref 246, .int (nI b0), .int (nI e), .int (nI (t + 1)), .int (nI 0), .int (nI b), x6, x7] [] (fk_E N y l) = fk_ev (d + 1) qX12_comesTo 16 [.ref 246, .int (nI b0), .int (nI e), .int (nI (t + 1)), .int (nI 0), .int (nI (b + 1)), .int (nI 10), .int (nI x)] [] (fk_E N (fk_u y 267 t (nI (1 - q))) l) := by
  conv => lhs; rw [hX12_comesTo_16]
  have e1 := lz_dv (o := 10) hx
  have e2 := lz_md (o := 10) hx
  generalize 1048576 * 10 + x = w at h1 e1 e2
  have hw : w < 2147483648 := by omega
  have e3 : w - 10485760 = x := by omega
  simp (disch := first | assumption | omega) only [rX12_comesTo, h1, e1, e2, e3, h2, Nat.add_sub_cancel, Option.bind_some, Option.toList_some, Option.toList_none, List.cons_append, List.nil_append, fk_b_0, nI_add, Nat.add_zero, Nat.zero_add, not_true_eq_false, not_false_eq_true, if_true, if_false, sI_le_t, sI_le_f, sI_lt_t, sI_lt_f, sI_eq_t, sI_eq_f, sI_rem, sI_div, sI_m1a, sI_m1b, sI_m1c, sI_m1d, sI_m1e, sI_m1f, sI_m2a, sI_m2b, sI_sub, pk_mul, sI_dec, fk_u_s, fk_u_o, sI_dec0, sI_z, sI_md, Bool.false_eq_true, Nat.reduceAdd, Nat.reduceMul, Nat.reduceSub, Nat.reduceMod, Nat.reduceDiv]
theorem mX12_ct_leap (ho : o = 11 ∨ o = 12) (hb : b < e) (he : e ≤ 260) (ht : t < 32) (hx : x < 1048576) (h1 : y 262 b = nI (1048576 * o + x)) (h2 : y 267 t = nI (lz_lp o)) : fk_ev (d + 1) qX12_comesTo 16 [.ref 246, .int (nI b0), .int (nI e), .int (nI (t + 1)), .int (nI 0), .int (nI b), x6, x7] [] (fk_E N y l) = fk_ev (d + 1) qX12_comesTo 16 [.ref 246, .int (nI b0), .int (nI e), .int (nI (t + 1)), .int (nI 0), .int (nI x), .int (nI o), .int (nI x)] [] (fk_E N y l) := by
  conv => lhs; rw [hX12_comesTo_16]
  have e1 := lz_dv (o := o) hx
  have e2 := lz_md (o := o) hx
  have hw : 1048576 * o + x < 2147483648 := by omega
  generalize 1048576 * o + x = w at h1 e1 e2 hw
  rcases ho with rfl | rfl
  · have h2 : y 267 t = nI 0 := h2
    have e3 : w - 11534336 = x := by omega
    simp (disch := first | assumption | omega) only [rX12_comesTo, h1, e1, e2, e3, h2, Nat.add_sub_cancel, Option.bind_some, Option.toList_some, Option.toList_none, List.cons_append, List.nil_append, fk_b_0, nI_add, Nat.add_zero, Nat.zero_add, not_true_eq_false, not_false_eq_true, if_true, if_false, sI_le_t, sI_le_f, sI_lt_t, sI_lt_f, sI_eq_t, sI_eq_f, sI_rem, sI_div, sI_m1a, sI_m1b, sI_m1c, sI_m1d, sI_m1e, sI_m1f, sI_m2a, sI_m2b, sI_sub, pk_mul, sI_dec, fk_u_s, fk_u_o, sI_dec0, sI_z, sI_md, Bool.false_eq_true, Nat.reduceAdd, Nat.reduceMul, Nat.reduceSub, Nat.reduceMod, Nat.reduceDiv]
  · have h2 : y 267 t = nI 1 := h2
    have e3 : w - 12582912 = x := by omega
    simp (disch := first | assumption | omega) only [rX12_comesTo, h1, e1, e2, e3, h2, Nat.add_sub_cancel, Option.bind_some, Option.toList_some, Option.toList_none, List.cons_append, List.nil_append, fk_b_0, nI_add, Nat.add_zero, Nat.zero_add, not_true_eq_false, not_false_eq_true, if_true, if_false, sI_le_t, sI_le_f, sI_lt_t, sI_lt_f, sI_eq_t, sI_eq_f, sI_rem, sI_div, sI_m1a, sI_m1b, sI_m1c, sI_m1d, sI_m1e, sI_m1f, sI_m2a, sI_m2b, sI_sub, pk_mul, sI_dec, fk_u_s, fk_u_o, sI_dec0, sI_z, sI_md, Bool.false_eq_true, Nat.reduceAdd, Nat.reduceMul, Nat.reduceSub, Nat.reduceMod, Nat.reduceDiv]
theorem mX12_ct_pop (ho : o = 11 ∨ o = 12) (hb : b < e) (he : e ≤ 260) (ht : t < 32) (hx : x < 1048576) (h1 : y 262 b = nI (1048576 * o + x)) (h2 : y 267 t = nI (1 - lz_lp o)) : fk_ev (d + 1) qX12_comesTo 16 [.ref 246, .int (nI b0), .int (nI e), .int (nI (t + 1)), .int (nI 0), .int (nI b), x6, x7] [] (fk_E N y l) = fk_ev (d + 1) qX12_comesTo 16 [.ref 246, .int (nI b0), .int (nI e), .int (nI t), .int (nI 0), .int (nI (b + 1)), .int (nI o), .int (nI x)] [] (fk_E N y l) := by
  conv => lhs; rw [hX12_comesTo_16]
  have e1 := lz_dv (o := o) hx
  have e2 := lz_md (o := o) hx
  have hw : 1048576 * o + x < 2147483648 := by omega
  generalize 1048576 * o + x = w at h1 e1 e2 hw
  rcases ho with rfl | rfl
  · have h2 : y 267 t = nI 1 := h2
    have e3 : w - 11534336 = x := by omega
    simp (disch := first | assumption | omega) only [rX12_comesTo, h1, e1, e2, e3, h2, Nat.add_sub_cancel, Option.bind_some, Option.toList_some, Option.toList_none, List.cons_append, List.nil_append, fk_b_0, nI_add, Nat.add_zero, Nat.zero_add, not_true_eq_false, not_false_eq_true, if_true, if_false, sI_le_t, sI_le_f, sI_lt_t, sI_lt_f, sI_eq_t, sI_eq_f, sI_rem, sI_div, sI_m1a, sI_m1b, sI_m1c, sI_m1d, sI_m1e, sI_m1f, sI_m2a, sI_m2b, sI_sub, pk_mul, sI_dec, fk_u_s, fk_u_o, sI_dec0, sI_z, sI_md, Bool.false_eq_true, Nat.reduceAdd, Nat.reduceMul, Nat.reduceSub, Nat.reduceMod, Nat.reduceDiv]
  · have h2 : y 267 t = nI 0 := h2
    have e3 : w - 12582912 = x := by omega
    simp (disch := first | assumption | omega) only [rX12_comesTo, h1, e1, e2, e3, h2, Nat.add_sub_cancel, Option.bind_some, Option.toList_some, Option.toList_none, List.cons_append, List.nil_append, fk_b_0, nI_add, Nat.add_zero, Nat.zero_add, not_true_eq_false, not_false_eq_true, if_true, if_false, sI_le_t, sI_le_f, sI_lt_t, sI_lt_f, sI_eq_t, sI_eq_f, sI_rem, sI_div, sI_m1a, sI_m1b, sI_m1c, sI_m1d, sI_m1e, sI_m1f, sI_m2a, sI_m2b, sI_sub, pk_mul, sI_dec, fk_u_s, fk_u_o, sI_dec0, sI_z, sI_md, Bool.false_eq_true, Nat.reduceAdd, Nat.reduceMul, Nat.reduceSub, Nat.reduceMod, Nat.reduceDiv]
theorem mX12_ct_ref (ho : o = 5 ∨ o = 6) (hb : b < e) (he : e ≤ 260) (ht : t + 1 < 32) (hx : x < 1048576) (h1 : y 262 b = nI (1048576 * o + x)) (h2 : y 267 (t + 1) = nI 0) : fk_ev (d + 1) qX12_comesTo 16 [.ref 246, .int (nI b0), .int (nI e), .int (nI (t + 2)), .int (nI 0), .int (nI b), x6, x7] [] (fk_E N y l) = some (some (.int (nI 0)), fk_E N y l) := by
  rw [hX12_comesTo_16]
  have e1 := lz_dv (o := o) hx
  have e2 := lz_md (o := o) hx
  have hw : 1048576 * o + x < 2147483648 := by omega
  generalize 1048576 * o + x = w at h1 e1 e2 hw
  have et : t + 2 - 1 = t + 1 := by omega
  rcases ho with rfl | rfl
  · simp (disch := first | assumption | omega) only [rX12_comesTo, h1, e1, e2, h2, et, Option.bind_some, Option.toList_some, Option.toList_none, List.cons_append, List.nil_append, fk_b_0, nI_add, Nat.add_zero, Nat.zero_add, not_true_eq_false, not_false_eq_true, if_true, if_false, sI_le_t, sI_le_f, sI_lt_t, sI_lt_f, sI_eq_t, sI_eq_f, sI_rem, sI_div, sI_m1a, sI_m1b, sI_m1c, sI_m1d, sI_m1e, sI_m1f, sI_m2a, sI_m2b, sI_sub, pk_mul, sI_dec, fk_u_s, fk_u_o, sI_dec0, sI_z, sI_md, Bool.false_eq_true, Nat.reduceAdd, Nat.reduceMul, Nat.reduceSub, Nat.reduceMod, Nat.reduceDiv]
  · simp (disch := first | assumption | omega) only [rX12_comesTo, h1, e1, e2, h2, et, Option.bind_some, Option.toList_some, Option.toList_none, List.cons_append, List.nil_append, fk_b_0, nI_add, Nat.add_zero, Nat.zero_add, not_true_eq_false, not_false_eq_true, if_true, if_false, sI_le_t, sI_le_f, sI_lt_t, sI_lt_f, sI_eq_t, sI_eq_f, sI_rem, sI_div, sI_m1a, sI_m1b, sI_m1c, sI_m1d, sI_m1e, sI_m1f, sI_m2a, sI_m2b, sI_sub, pk_mul, sI_dec, fk_u_s, fk_u_o, sI_dec0, sI_z, sI_md, Bool.false_eq_true, Nat.reduceAdd, Nat.reduceMul, Nat.reduceSub, Nat.reduceMod, Nat.reduceDiv]
theorem mX12_ct_op (g1 : 2 ≤ o) (g2 : o ≤ 9) (hb : b < e) (he : e ≤ 260) (ht : t + 1 < 32) (hx : x < 1048576) (h1 : y 262 b = nI (1048576 * o + x)) (h2 : y 267 (t + 1) = r) (h3 : y 267 t = z) (hr : ¬ ((o = 5 ∨ o = 6) ∧ r = nI 0)) : fk_ev (d + 1) qX12_comesTo 16 [.ref 246, .int (nI b0), .int (nI e), .int (nI (t + 2)), .int (nI 0), .int (nI b), x6, x7] [] (fk_E N y l) = fk_ev (d + 1) qX12_comesTo 16 [.ref 246, .int (nI b0), .int (nI e), .int (nI (t + 1)), .int (nI 0), .int (nI (b + 1)), .int (nI o), .int (nI x)] [] (fk_E N (fk_u y 267 t (lz_o o z r)) l) := by
  conv => lhs; rw [hX12_comesTo_16]
  have e1 := lz_dv (o := o) hx
  have e2 := lz_md (o := o) hx
  have hw : 1048576 * o + x < 2147483648 := by omega
  generalize 1048576 * o + x = w at h1 e1 e2 hw
  have et : t + 2 - 1 = t + 1 := by omega
  have hk := mX12_reckon (d := d) (h := fk_E N y l) (z := z) g1 g2 hr
  by_cases q : o = 5 ∨ o = 6
  · have q0 : ¬ r = nI 0 := fun z => hr ⟨q, z⟩
    rcases q with rfl | rfl
    · have e3 : w - 5242880 = x := by omega
      simp (disch := first | assumption | omega) only [rX12_comesTo, h1, e1, e2, e3, h2, h3, et, hk, lz_nz q0, Nat.add_sub_cancel, Option.bind_some, Option.toList_some, Option.toList_none, List.cons_append, List.nil_append, fk_b_0, nI_add, Nat.add_zero, Nat.zero_add, not_true_eq_false, not_false_eq_true, if_true, if_false, sI_le_t, sI_le_f, sI_lt_t, sI_lt_f, sI_eq_t, sI_eq_f, sI_rem, sI_div, sI_m1a, sI_m1b, sI_m1c, sI_m1d, sI_m1e, sI_m1f, sI_m2a, sI_m2b, sI_sub, pk_mul, sI_dec, fk_u_s, fk_u_o, sI_dec0, sI_z, sI_md, Bool.false_eq_true, Nat.reduceAdd, Nat.reduceMul, Nat.reduceSub, Nat.reduceMod, Nat.reduceDiv]
    · have e3 : w - 6291456 = x := by omega
      simp (disch := first | assumption | omega) only [rX12_comesTo, h1, e1, e2, e3, h2, h3, et, hk, lz_nz q0, Nat.add_sub_cancel, Option.bind_some, Option.toList_some, Option.toList_none, List.cons_append, List.nil_append, fk_b_0, nI_add, Nat.add_zero, Nat.zero_add, not_true_eq_false, not_false_eq_true, if_true, if_false, sI_le_t, sI_le_f, sI_lt_t, sI_lt_f, sI_eq_t, sI_eq_f, sI_rem, sI_div, sI_m1a, sI_m1b, sI_m1c, sI_m1d, sI_m1e, sI_m1f, sI_m2a, sI_m2b, sI_sub, pk_mul, sI_dec, fk_u_s, fk_u_o, sI_dec0, sI_z, sI_md, Bool.false_eq_true, Nat.reduceAdd, Nat.reduceMul, Nat.reduceSub, Nat.reduceMod, Nat.reduceDiv]
  · have q5 : ¬ o = 5 := fun z => q (Or.inl z)
    have q6 : ¬ o = 6 := fun z => q (Or.inr z)
    have e3 : w - o * 1048576 = x := by omega
    simp (disch := first | assumption | omega) only [rX12_comesTo, h1, e1, e2, e3, h2, h3, et, hk, Nat.add_sub_cancel, Option.bind_some, Option.toList_some, Option.toList_none, List.cons_append, List.nil_append, fk_b_0, nI_add, Nat.add_zero, Nat.zero_add, not_true_eq_false, not_false_eq_true, if_true, if_false, sI_le_t, sI_le_f, sI_lt_t, sI_lt_f, sI_eq_t, sI_eq_f, sI_rem, sI_div, sI_m1a, sI_m1b, sI_m1c, sI_m1d, sI_m1e, sI_m1f, sI_m2a, sI_m2b, sI_sub, pk_mul, sI_dec, fk_u_s, fk_u_o, sI_dec0, sI_z, sI_md, Bool.false_eq_true, Nat.reduceAdd, Nat.reduceMul, Nat.reduceSub, Nat.reduceMod, Nat.reduceDiv]
end LW9
