section HI2
variable {N : Nat} {S : Nat → Int32} {v y y0 y1 y2 z z0 : Nat → Nat → Int32} {l : Nat → Nat → Int64} {d n H t k m a : Nat} {A : Nat → Int32} {bt : Nat → Nat}
/-- the reference reads a text: where it stands -/
def fk_tx (bt : Nat → Nat) (n a : Nat) (y : Nat → Nat → Int32) : Prop := y 246 11 = nI a ∧ y 246 12 = nI n ∧ (∀ i, i < n → y 255 i &&& nI 255 = nI (bt i)) ∧ (∀ i, bt i < 256) ∧ a ≤ n ∧ n ≤ 250
theorem mX12_here (h : fk_tx bt n a y) : fk_ev d qX12_here 0 [.ref 246] [] (fk_E N y l) = some (some (.int ((ab_pk bt n a))), fk_E N y l) := by
  obtain ⟨h1, h2, h3, h4, h5, h6⟩ := h
  unfold ab_pk
  by_cases c : a < n
  · rw [if_pos c]
    simp (disch := first | assumption | omega) only [rX12_here, h1, h2, h3 a c, Option.bind_some, Option.toList_some, Option.toList_none, List.cons_append, List.nil_append, fk_b_0, nI_add, Nat.add_zero, Nat.zero_add, not_true_eq_false, not_false_eq_true, if_true, if_false, sI_le_t, sI_le_f, sI_lt_t, sI_lt_f, sI_eq_t, sI_eq_f, sI_rem, sI_div, sI_m1a, sI_m1b, sI_m1c, sI_m1d, sI_m1e, sI_m1f, sI_m2a, sI_m2b, sI_sub, pk_mul, sI_dec, fk_u_s, fk_u_o, sI_dec0, sI_z, sI_md, Bool.false_eq_true, Nat.reduceAdd, Nat.reduceMul, Nat.reduceSub, Nat.reduceMod, Nat.reduceDiv]
  · rw [if_neg c]
    simp (disch := first | assumption | omega) only [rX12_here, h1, h2, Option.bind_some, Option.toList_some, Option.toList_none, List.cons_append, List.nil_append, fk_b_0, nI_add, Nat.add_zero, Nat.zero_add, not_true_eq_false, not_false_eq_true, if_true, if_false, sI_le_t, sI_le_f, sI_lt_t, sI_lt_f, sI_eq_t, sI_eq_f, sI_rem, sI_div, sI_m1a, sI_m1b, sI_m1c, sI_m1d, sI_m1e, sI_m1f, sI_m2a, sI_m2b, sI_sub, pk_mul, sI_dec, fk_u_s, fk_u_o, sI_dec0, sI_z, sI_md, Bool.false_eq_true, Nat.reduceAdd, Nat.reduceMul, Nat.reduceSub, Nat.reduceMod, Nat.reduceDiv]
theorem mX12_isDigit (h : fk_tx bt n a y) : fk_ev (d + 1) qX12_isDigit 0 [.ref 246] [] (fk_E N y l) = some (some (.int ((fk_b (ab_dd bt n a)))), fk_E N y l) := by
  have hh := mX12_here (N := N) (l := l) (d := d) h
  have b6 := h.2.2.2.1 a
  by_cases c : a < n
  · have ep : ab_pk bt n a = nI (bt a) := if_pos c
    rw [ep] at hh
    by_cases c1 : bt a < 48
    · rw [fk_b_f fun z => by omega]
      simp (disch := first | assumption | omega) only [rX12_isDigit, hh, Option.bind_some, Option.toList_some, Option.toList_none, List.cons_append, List.nil_append, fk_b_0, nI_add, Nat.add_zero, Nat.zero_add, not_true_eq_false, not_false_eq_true, if_true, if_false, sI_le_t, sI_le_f, sI_lt_t, sI_lt_f, sI_eq_t, sI_eq_f, sI_rem, sI_div, sI_m1a, sI_m1b, sI_m1c, sI_m1d, sI_m1e, sI_m1f, sI_m2a, sI_m2b, sI_sub, pk_mul, sI_dec, fk_u_s, fk_u_o, sI_dec0, sI_z, sI_md, Bool.false_eq_true, Nat.reduceAdd, Nat.reduceMul, Nat.reduceSub, Nat.reduceMod, Nat.reduceDiv]
    · by_cases c2 : 57 < bt a
      · rw [fk_b_f fun z => by omega]
        simp (disch := first | assumption | omega) only [rX12_isDigit, hh, Option.bind_some, Option.toList_some, Option.toList_none, List.cons_append, List.nil_append, fk_b_0, nI_add, Nat.add_zero, Nat.zero_add, not_true_eq_false, not_false_eq_true, if_true, if_false, sI_le_t, sI_le_f, sI_lt_t, sI_lt_f, sI_eq_t, sI_eq_f, sI_rem, sI_div, sI_m1a, sI_m1b, sI_m1c, sI_m1d, sI_m1e, sI_m1f, sI_m2a, sI_m2b, sI_sub, pk_mul, sI_dec, fk_u_s, fk_u_o, sI_dec0, sI_z, sI_md, Bool.false_eq_true, Nat.reduceAdd, Nat.reduceMul, Nat.reduceSub, Nat.reduceMod, Nat.reduceDiv]
      · rw [fk_b_t ⟨c, by omega, by omega⟩]
        simp (disch := first | assumption | omega) only [rX12_isDigit, hh, Option.bind_some, Option.toList_some, Option.toList_none, List.cons_append, List.nil_append, fk_b_0, nI_add, Nat.add_zero, Nat.zero_add, not_true_eq_false, not_false_eq_true, if_true, if_false, sI_le_t, sI_le_f, sI_lt_t, sI_lt_f, sI_eq_t, sI_eq_f, sI_rem, sI_div, sI_m1a, sI_m1b, sI_m1c, sI_m1d, sI_m1e, sI_m1f, sI_m2a, sI_m2b, sI_sub, pk_mul, sI_dec, fk_u_s, fk_u_o, sI_dec0, sI_z, sI_md, Bool.false_eq_true, Nat.reduceAdd, Nat.reduceMul, Nat.reduceSub, Nat.reduceMod, Nat.reduceDiv]
  · have ep : ab_pk bt n a = (-1) := if_neg c
    rw [ep] at hh
    rw [fk_b_f fun z => c z.1]
    simp (disch := first | assumption | omega) only [rX12_isDigit, hh, Option.bind_some, Option.toList_some, Option.toList_none, List.cons_append, List.nil_append, fk_b_0, nI_add, Nat.add_zero, Nat.zero_add, not_true_eq_false, not_false_eq_true, if_true, if_false, sI_le_t, sI_le_f, sI_lt_t, sI_lt_f, sI_eq_t, sI_eq_f, sI_rem, sI_div, sI_m1a, sI_m1b, sI_m1c, sI_m1d, sI_m1e, sI_m1f, sI_m2a, sI_m2b, sI_sub, pk_mul, sI_dec, fk_u_s, fk_u_o, sI_dec0, sI_z, sI_md, Bool.false_eq_true, Nat.reduceAdd, Nat.reduceMul, Nat.reduceSub, Nat.reduceMod, Nat.reduceDiv]
theorem mX12_takes_t {x : Nat} (h : fk_tx bt n a y) (hx : x < 256) (e : ab_pk bt n a = nI x) : fk_ev (d + 1) qX12_takes 0 [.ref 246, .int ((nI x))] [] (fk_E N y l) = some (some (.int ((nI 1))), fk_E N (fk_u y 246 11 (nI (a + 1))) l) := by
  have hh := mX12_here (N := N) (l := l) (d := d) h
  rw [e] at hh
  have h1 := h.1
  simp (disch := first | assumption | omega) only [rX12_takes, hh, h1, Option.bind_some, Option.toList_some, Option.toList_none, List.cons_append, List.nil_append, fk_b_0, nI_add, Nat.add_zero, Nat.zero_add, not_true_eq_false, not_false_eq_true, if_true, if_false, sI_le_t, sI_le_f, sI_lt_t, sI_lt_f, sI_eq_t, sI_eq_f, sI_rem, sI_div, sI_m1a, sI_m1b, sI_m1c, sI_m1d, sI_m1e, sI_m1f, sI_m2a, sI_m2b, sI_sub, pk_mul, sI_dec, fk_u_s, fk_u_o, sI_dec0, sI_z, sI_md, Bool.false_eq_true, Nat.reduceAdd, Nat.reduceMul, Nat.reduceSub, Nat.reduceMod, Nat.reduceDiv]
theorem mX12_takes_f {x : Nat} (h : fk_tx bt n a y) (hx : x < 256) (e : ¬ ab_pk bt n a = nI x) : fk_ev (d + 1) qX12_takes 0 [.ref 246, .int ((nI x))] [] (fk_E N y l) = some (some (.int ((nI 0))), fk_E N (fk_u y 246 13 (fk_flt 1 a)) l) := by
  have hh := mX12_here (N := N) (l := l) (d := d) h
  have h1 := h.1
  simp (disch := first | assumption | omega) only [rX12_takes, hh, h1, e, mX12_wrongAt, Option.bind_some, Option.toList_some, Option.toList_none, List.cons_append, List.nil_append, fk_b_0, nI_add, Nat.add_zero, Nat.zero_add, not_true_eq_false, not_false_eq_true, if_true, if_false, sI_le_t, sI_le_f, sI_lt_t, sI_lt_f, sI_eq_t, sI_eq_f, sI_rem, sI_div, sI_m1a, sI_m1b, sI_m1c, sI_m1d, sI_m1e, sI_m1f, sI_m2a, sI_m2b, sI_sub, pk_mul, sI_dec, fk_u_s, fk_u_o, sI_dec0, sI_z, sI_md, Bool.false_eq_true, Nat.reduceAdd, Nat.reduceMul, Nat.reduceSub, Nat.reduceMod, Nat.reduceDiv]
/-- as it was, but for where it stands, the number and the fault -/
def fk_s3 (y y' : Nat → Nat → Int32) : Prop := (∀ k, k ≠ 246 → y' k = y k) ∧ ∀ i, i ≠ 11 → i ≠ 13 → i ≠ 14 → y' 246 i = y 246 i
theorem fk_s3_t (h1 : fk_s3 y y1) (h2 : fk_s3 y1 y2) : fk_s3 y y2 := ⟨fun k hk => (h2.1 k hk).trans (h1.1 k hk), fun i i1 i2 i3 => (h2.2 i i1 i2 i3).trans (h1.2 i i1 i2 i3)⟩
theorem fk_s3_u {i : Nat} {x : Int32} (h : i = 11 ∨ i = 13 ∨ i = 14) : fk_s3 y (fk_u y 246 i x) := ⟨fun k hk => fk_u_rowo hk, fun j h1 h2 h3 => fk_u_o (by omega)⟩
theorem fk_s3_x {y' : Nat → Nat → Int32} (h : fk_s3 y y') (ht : fk_tx bt n a y) {b : Nat} (hb : b ≤ n) (e : y' 246 11 = nI b) : fk_tx bt n b y' := ⟨e, (h.2 12 (by omega) (by omega) (by omega)).trans ht.2.1, fun i hi => by rw [h.1 255 (by omega)]; exact ht.2.2.1 i hi, ht.2.2.2.1, hb, ht.2.2.2.2.2⟩
theorem mX12_rd_loop {a0 mo : Nat} (hmo : mo ≤ 3) : ∀ k i a c y, i + k = mo → a = a0 + i → c < 10 ^ i → fk_tx bt n a y → y 246 14 = nI c → ∃ y', fk_ev (d + 2) qX12_readsDigits 10 [.ref 246, .int (nI mo), .int (nI a0)] [] (fk_E N y l) = fk_ev (d + 2) qX12_readsDigits 59 [.ref 246, .int (nI mo), .int (nI a0)] [] (fk_E N y' l) ∧ fk_s3 y y' ∧ y' 246 11 = nI (ab_dg bt n k a c).1 ∧ y' 246 14 = nI (ab_dg bt n k a c).2 := by
  intro k
  induction k with
  | zero =>
    intro i a c y hi ea hc h e14
    have hi : i = mo := hi
    subst hi
    have hd := mX12_isDigit (N := N) (l := l) (d := d) h
    have h1 := h.1
    obtain ⟨_, _, _, _, h5, h6⟩ := id h
    refine ⟨y, ?_, ⟨fun _ _ => rfl, fun _ _ _ _ => rfl⟩, h1, e14⟩
    rw [hX12_readsDigits_10]
    by_cases cd : ab_dd bt n a
    · rw [fk_b_t cd] at hd
      simp (disch := first | assumption | omega) only [rX12_readsDigits, hd, h1, Option.bind_some, Option.toList_some, Option.toList_none, List.cons_append, List.nil_append, fk_b_0, nI_add, Nat.add_zero, Nat.zero_add, not_true_eq_false, not_false_eq_true, if_true, if_false, sI_le_t, sI_le_f, sI_lt_t, sI_lt_f, sI_eq_t, sI_eq_f, sI_rem, sI_div, sI_m1a, sI_m1b, sI_m1c, sI_m1d, sI_m1e, sI_m1f, sI_m2a, sI_m2b, sI_sub, pk_mul, sI_dec, fk_u_s, fk_u_o, sI_dec0, sI_z, sI_md, Bool.false_eq_true, Nat.reduceAdd, Nat.reduceMul, Nat.reduceSub, Nat.reduceMod, Nat.reduceDiv]
    · rw [fk_b_f cd] at hd
      simp (disch := first | assumption | omega) only [rX12_readsDigits, hd, Option.bind_some, Option.toList_some, Option.toList_none, List.cons_append, List.nil_append, fk_b_0, nI_add, Nat.add_zero, Nat.zero_add, not_true_eq_false, not_false_eq_true, if_true, if_false, sI_le_t, sI_le_f, sI_lt_t, sI_lt_f, sI_eq_t, sI_eq_f, sI_rem, sI_div, sI_m1a, sI_m1b, sI_m1c, sI_m1d, sI_m1e, sI_m1f, sI_m2a, sI_m2b, sI_sub, pk_mul, sI_dec, fk_u_s, fk_u_o, sI_dec0, sI_z, sI_md, Bool.false_eq_true, Nat.reduceAdd, Nat.reduceMul, Nat.reduceSub, Nat.reduceMod, Nat.reduceDiv]
  | succ k ih =>
    intro i a c y hi ea hc h e14
    have hd := mX12_isDigit (N := N) (l := l) (d := d) h
    have hh := mX12_here (N := N) (l := l) (d := d + 1) h
    have h1 := h.1
    have p3 := fk_10p (i := i) (by omega)
    obtain ⟨_, _, _, b6, h5, h6⟩ := id h
    have b6 := b6 a
    unfold ab_dg
    rw [hX12_readsDigits_10]
    by_cases cd : ab_dd bt n a
    · rw [fk_b_t cd] at hd
      obtain ⟨cd1, cd2, cd3⟩ := id cd
      have ep : ab_pk bt n a = nI (bt a) := if_pos cd.1
      rw [ep] at hh
      rw [if_pos cd]
      have s : fk_s3 y (fk_u (fk_u y 246 14 (nI (10 * c + (bt a - 48)))) 246 11 (nI (a + 1))) := fk_s3_t (fk_s3_u (by omega)) (fk_s3_u (by omega))
      obtain ⟨y', e, s1, q1, q2⟩ := ih (i + 1) (a + 1) (10 * c + (bt a - 48)) (fk_u (fk_u y 246 14 (nI (10 * c + (bt a - 48)))) 246 11 (nI (a + 1))) (by omega) (by omega) (by rw [Nat.pow_succ]; omega) (fk_s3_x s h (by omega) fk_u_s) (by rw [fk_u_o (by omega), fk_u_s])
      refine ⟨y', ?_, fk_s3_t s s1, q1, q2⟩
      rw [← e]
      have es : 10 * c + bt a - 48 = 10 * c + (bt a - 48) := by omega
      simp (disch := first | assumption | omega) only [rX12_readsDigits, hd, h1, e14, hh, es, Option.bind_some, Option.toList_some, Option.toList_none, List.cons_append, List.nil_append, fk_b_0, nI_add, Nat.add_zero, Nat.zero_add, not_true_eq_false, not_false_eq_true, if_true, if_false, sI_le_t, sI_le_f, sI_lt_t, sI_lt_f, sI_eq_t, sI_eq_f, sI_rem, sI_div, sI_m1a, sI_m1b, sI_m1c, sI_m1d, sI_m1e, sI_m1f, sI_m2a, sI_m2b, sI_sub, pk_mul, sI_dec, fk_u_s, fk_u_o, sI_dec0, sI_z, sI_md, Bool.false_eq_true, Nat.reduceAdd, Nat.reduceMul, Nat.reduceSub, Nat.reduceMod, Nat.reduceDiv]
    · rw [fk_b_f cd] at hd
      rw [if_neg cd]
      refine ⟨y, ?_, ⟨fun _ _ => rfl, fun _ _ _ _ => rfl⟩, h1, e14⟩
      simp (disch := first | assumption | omega) only [rX12_readsDigits, hd, Option.bind_some, Option.toList_some, Option.toList_none, List.cons_append, List.nil_append, fk_b_0, nI_add, Nat.add_zero, Nat.zero_add, not_true_eq_false, not_false_eq_true, if_true, if_false, sI_le_t, sI_le_f, sI_lt_t, sI_lt_f, sI_eq_t, sI_eq_f, sI_rem, sI_div, sI_m1a, sI_m1b, sI_m1c, sI_m1d, sI_m1e, sI_m1f, sI_m2a, sI_m2b, sI_sub, pk_mul, sI_dec, fk_u_s, fk_u_o, sI_dec0, sI_z, sI_md, Bool.false_eq_true, Nat.reduceAdd, Nat.reduceMul, Nat.reduceSub, Nat.reduceMod, Nat.reduceDiv]
theorem mX12_readsDigits {mo : Nat} (hmo : mo ≤ 3) (h1 : 1 ≤ mo) (h : fk_tx bt n a y) : ∃ y', fk_s3 y y' ∧ ((¬ (ab_dg bt n mo a 0).1 = a ∧ fk_ev (d + 2) qX12_readsDigits 0 [.ref 246, .int ((nI mo)), .null] [] (fk_E N y l) = some (some (.int ((nI 1))), fk_E N y' l) ∧ y' 246 11 = nI (ab_dg bt n mo a 0).1 ∧ y' 246 14 = nI (ab_dg bt n mo a 0).2) ∨ ((ab_dg bt n mo a 0).1 = a ∧ fk_ev (d + 2) qX12_readsDigits 0 [.ref 246, .int ((nI mo)), .null] [] (fk_E N y l) = some (some (.int ((nI 0))), fk_E N y' l) ∧ y' 246 13 = fk_flt 1 a)) := by
  have e11 := h.1
  obtain ⟨_, _, _, _, h5, h6⟩ := id h
  have s0 : fk_s3 y (fk_u y 246 14 (nI 0)) := fk_s3_u (by omega)
  obtain ⟨y', e, s1, q1, q2⟩ := mX12_rd_loop (N := N) (l := l) (d := d) (bt := bt) (n := n) (a0 := a) hmo mo 0 a 0 (fk_u y 246 14 (nI 0)) (by omega) (by omega) (by decide) (fk_s3_x s0 h h5 (by rw [fk_u_o (by omega)]; exact e11)) fk_u_s
  have le := ab_dg_le (bt := bt) (n := n) mo a 0 h5
  have st : fk_ev (d + 2) qX12_readsDigits 0 [.ref 246, .int ((nI mo)), .null] [] (fk_E N y l) = fk_ev (d + 2) qX12_readsDigits 10 [.ref 246, .int (nI mo), .int (nI a)] [] (fk_E N (fk_u y 246 14 (nI 0)) l) := by
    simp (disch := first | assumption | omega) only [rX12_readsDigits, e11, Option.bind_some, Option.toList_some, Option.toList_none, List.cons_append, List.nil_append, fk_b_0, nI_add, Nat.add_zero, Nat.zero_add, not_true_eq_false, not_false_eq_true, if_true, if_false, sI_le_t, sI_le_f, sI_lt_t, sI_lt_f, sI_eq_t, sI_eq_f, sI_rem, sI_div, sI_m1a, sI_m1b, sI_m1c, sI_m1d, sI_m1e, sI_m1f, sI_m2a, sI_m2b, sI_sub, pk_mul, sI_dec, fk_u_s, fk_u_o, sI_dec0, sI_z, sI_md, Bool.false_eq_true, Nat.reduceAdd, Nat.reduceMul, Nat.reduceSub, Nat.reduceMod, Nat.reduceDiv]
  by_cases c : (ab_dg bt n mo a 0).1 = a
  · rw [c] at q1
    refine ⟨fk_u y' 246 13 (fk_flt 1 a), fk_s3_t (fk_s3_t s0 s1) (fk_s3_u (by omega)), Or.inr ⟨c, ?_, fk_u_s⟩⟩
    rw [st, e]
    simp (disch := first | assumption | omega) only [rX12_readsDigits, q1, mX12_wrongAt, Option.bind_some, Option.toList_some, Option.toList_none, List.cons_append, List.nil_append, fk_b_0, nI_add, Nat.add_zero, Nat.zero_add, not_true_eq_false, not_false_eq_true, if_true, if_false, sI_le_t, sI_le_f, sI_lt_t, sI_lt_f, sI_eq_t, sI_eq_f, sI_rem, sI_div, sI_m1a, sI_m1b, sI_m1c, sI_m1d, sI_m1e, sI_m1f, sI_m2a, sI_m2b, sI_sub, pk_mul, sI_dec, fk_u_s, fk_u_o, sI_dec0, sI_z, sI_md, Bool.false_eq_true, Nat.reduceAdd, Nat.reduceMul, Nat.reduceSub, Nat.reduceMod, Nat.reduceDiv]
  · refine ⟨y', fk_s3_t s0 s1, Or.inl ⟨c, ?_, q1, q2⟩⟩
    rw [st, e]
    generalize (ab_dg bt n mo a 0).1 = b at *
    simp (disch := first | assumption | omega) only [rX12_readsDigits, q1, Option.bind_some, Option.toList_some, Option.toList_none, List.cons_append, List.nil_append, fk_b_0, nI_add, Nat.add_zero, Nat.zero_add, not_true_eq_false, not_false_eq_true, if_true, if_false, sI_le_t, sI_le_f, sI_lt_t, sI_lt_f, sI_eq_t, sI_eq_f, sI_rem, sI_div, sI_m1a, sI_m1b, sI_m1c, sI_m1d, sI_m1e, sI_m1f, sI_m2a, sI_m2b, sI_sub, pk_mul, sI_dec, fk_u_s, fk_u_o, sI_dec0, sI_z, sI_md, Bool.false_eq_true, Nat.reduceAdd, Nat.reduceMul, Nat.reduceSub, Nat.reduceMod, Nat.reduceDiv]
/-- the steps that the reference has read -/
def fk_rr (m : Nat) (P Q : Nat → Nat) (y : Nat → Nat → Int32) : Prop := y 246 45 = nI m ∧ y 246 46 = (if m = 0 then (-1) else nI (Q (m - 1))) ∧ ∀ i, i < m → y 273 i = nI (P i) ∧ y 274 i = nI (Q i)
/-- as it was, but for what a history's reading changes -/
def fk_s6 (y y' : Nat → Nat → Int32) : Prop := (∀ k, k ≠ 246 → k ≠ 273 → k ≠ 274 → y' k = y k) ∧ ∀ i, i ≠ 11 → i ≠ 13 → i ≠ 14 → i ≠ 45 → i ≠ 46 → y' 246 i = y 246 i
theorem fk_s6_3 (h : fk_s3 y y1) : fk_s6 y y1 := ⟨fun k h1 _ _ => h.1 k h1, fun i h1 h2 h3 _ _ => h.2 i h1 h2 h3⟩
theorem fk_s6_t (h1 : fk_s6 y y1) (h2 : fk_s6 y1 y2) : fk_s6 y y2 := ⟨fun k a b c => (h2.1 k a b c).trans (h1.1 k a b c), fun i a b c d e => (h2.2 i a b c d e).trans (h1.2 i a b c d e)⟩
theorem mX12_readsStep {P Q : Nat → Nat} (hm : m < 16) (hQ : ∀ i, Q i < 1000) (h : fk_tx bt n a y) (hr : fk_rr m P Q y) : ∃ y', fk_s6 y y' ∧ match ab_hst bt n a (ab_hl m Q) with
    | .inl f => fk_ev (d + 3) qX12_readsStep 0 [.ref 246, .null] [] (fk_E N y l) = some (some (.int ((nI 0))), fk_E N y' l) ∧ y' 246 13 = f
    | .inr x => fk_ev (d + 3) qX12_readsStep 0 [.ref 246, .null] [] (fk_E N y l) = some (some (.int ((nI 1))), fk_E N y' l) ∧ y' 246 11 = nI x.1 ∧ fk_rr (m + 1) (fk_wn P m x.2.1) (fk_wn Q m x.2.2) y' := by
  obtain ⟨e11, e12, hb, b6, h5, h6⟩ := id h
  have d1 := ab_dg_le (bt := bt) (n := n) 2 a 0 h5
  have v1 := ab_dg_v (bt := bt) (n := n) 2 a 0 1 (by omega)
  obtain ⟨y1, s1, hd1⟩ := mX12_readsDigits (N := N) (l := l) (d := d) (bt := bt) (n := n) (mo := 2) (by omega) (by omega) h
  unfold ab_hst
  generalize ab_dg bt n 2 a 0 = g at d1 v1 hd1
  obtain ⟨g1, g2⟩ := g
  try dsimp only at d1 v1 hd1 ⊢
  rcases hd1 with ⟨c1, e1, q1, q2⟩ | ⟨c1, e1, q1⟩
  · rw [if_neg c1]
    by_cases c2 : 16 ≤ g2
    · rw [if_pos c2]
      refine ⟨fk_u y1 246 13 (fk_flt 3 a), fk_s6_3 (fk_s3_t s1 (fk_s3_u (by omega))), ?_, fk_u_s⟩
      simp (disch := first | assumption | omega) only [rX12_readsStep, e11, e1, q2, mX12_isPlace, and_false, mX12_wrongAt, Option.bind_some, Option.toList_some, Option.toList_none, List.cons_append, List.nil_append, fk_b_0, nI_add, Nat.add_zero, Nat.zero_add, not_true_eq_false, not_false_eq_true, if_true, if_false, sI_le_t, sI_le_f, sI_lt_t, sI_lt_f, sI_eq_t, sI_eq_f, sI_rem, sI_div, sI_m1a, sI_m1b, sI_m1c, sI_m1d, sI_m1e, sI_m1f, sI_m2a, sI_m2b, sI_sub, pk_mul, sI_dec, fk_u_s, fk_u_o, sI_dec0, sI_z, sI_md, Bool.false_eq_true, Nat.reduceAdd, Nat.reduceMul, Nat.reduceSub, Nat.reduceMod, Nat.reduceDiv]
    · rw [if_neg c2]
      have t1 : fk_tx bt n g1 y1 := fk_s3_x s1 h (by omega) q1
      have r45 : y1 246 45 = nI m := (s1.2 45 (by omega) (by omega) (by omega)).trans hr.1
      have tu : fk_tx bt n g1 (fk_u y1 273 m (nI g2)) := ⟨by rw [fk_u_o (by omega)]; exact q1, by rw [fk_u_o (by omega)]; exact t1.2.1, fun i hi => by rw [fk_u_rowo (by omega)]; exact t1.2.2.1 i hi, b6, by omega, h6⟩
      have su : fk_s6 y (fk_u y1 273 m (nI g2)) := ⟨fun k k1 k2 k3 => by rw [fk_u_rowo k2]; exact s1.1 k k1, fun i i1 i2 i3 _ _ => by rw [fk_u_o (by omega)]; exact s1.2 i i1 i2 i3⟩
      by_cases c3 : ab_pk bt n g1 = nI 64
      · rw [if_neg (fun z => z c3)]
        have lt := ab_pk_lt c3 (by omega)
        have tk := mX12_takes_t (N := N) (l := l) (d := d + 1) tu (by omega) c3
        have su2 : fk_s6 y (fk_u (fk_u y1 273 m (nI g2)) 246 11 (nI (g1 + 1))) := fk_s6_t su (fk_s6_3 (fk_s3_u (by omega)))
        have t2 : fk_tx bt n (g1 + 1) (fk_u (fk_u y1 273 m (nI g2)) 246 11 (nI (g1 + 1))) := fk_s3_x (fk_s3_u (Or.inl rfl)) tu (by omega) fk_u_s
        have w2 := t2.1
        generalize eU : fk_u (fk_u y1 273 m (nI g2)) 246 11 (nI (g1 + 1)) = U at tk su2 t2 w2
        have d2 := ab_dg_le (bt := bt) (n := n) 3 (g1 + 1) 0 (by omega)
        have v2 := ab_dg_v (bt := bt) (n := n) 3 (g1 + 1) 0 1 (by omega)
        obtain ⟨y2, s2, hd2⟩ := mX12_readsDigits (N := N) (l := l) (d := d) (bt := bt) (n := n) (mo := 3) (by omega) (by omega) t2
        generalize ab_dg bt n 3 (g1 + 1) 0 = b at d2 v2 hd2
        obtain ⟨b1, b2⟩ := b
        try dsimp only at d2 v2 hd2 ⊢
        rcases hd2 with ⟨c4, e2, x1, x2⟩ | ⟨c4, e2, x1⟩
        · rw [if_neg c4]
          have s26 : fk_s6 y y2 := fk_s6_t su2 (fk_s6_3 s2)
          have r46 : y2 246 46 = (if m = 0 then (-1) else nI (Q (m - 1))) := by
            rw [s2.2 46 (by omega) (by omega) (by omega), ← eU, fk_u_o (by omega), fk_u_o (by omega), s1.2 46 (by omega) (by omega) (by omega)]
            exact hr.2.1
          have r45' : y2 246 45 = nI m := by
            rw [s2.2 45 (by omega) (by omega) (by omega), ← eU, fk_u_o (by omega), fk_u_o (by omega)]
            exact r45
          have r273 : y2 273 = fk_w (y 273) m (nI g2) := by rw [s2.1 273 (by omega), ← eU, fk_u_rowo (by omega), fk_u_row, s1.1 273 (by omega)]
          have r274 : y2 274 = y 274 := by rw [s2.1 274 (by omega), ← eU, fk_u_rowo (by omega), fk_u_rowo (by omega), s1.1 274 (by omega)]
          by_cases c5 : b2 < ab_hl m Q
          · rw [if_pos c5]
            have m0 : m ≠ 0 := fun z => by unfold ab_hl at c5; rw [if_pos z] at c5; omega
            have c5' : b2 ≤ Q (m - 1) := by unfold ab_hl at c5; rw [if_neg m0] at c5; omega
            have hq := hQ (m - 1)
            rw [if_neg m0] at r46
            refine ⟨fk_u y2 246 13 (fk_flt 6 (g1 + 1)), fk_s6_t s26 (fk_s6_3 (fk_s3_u (by omega))), ?_, fk_u_s⟩
            simp (disch := first | assumption | omega) only [rX12_readsStep, e11, e1, q2, mX12_isPlace, and_self, r45, tk, w2, e2, x2, r46, mX12_wrongAt, Option.bind_some, Option.toList_some, Option.toList_none, List.cons_append, List.nil_append, fk_b_0, nI_add, Nat.add_zero, Nat.zero_add, not_true_eq_false, not_false_eq_true, if_true, if_false, sI_le_t, sI_le_f, sI_lt_t, sI_lt_f, sI_eq_t, sI_eq_f, sI_rem, sI_div, sI_m1a, sI_m1b, sI_m1c, sI_m1d, sI_m1e, sI_m1f, sI_m2a, sI_m2b, sI_sub, pk_mul, sI_dec, fk_u_s, fk_u_o, sI_dec0, sI_z, sI_md, Bool.false_eq_true, Nat.reduceAdd, Nat.reduceMul, Nat.reduceSub, Nat.reduceMod, Nat.reduceDiv]
          · rw [if_neg c5]
            refine ⟨fk_u (fk_u (fk_u y2 246 46 (nI b2)) 274 m (nI b2)) 246 45 (nI (m + 1)), ⟨fun k k1 k2 k3 => by rw [fk_u_rowo k1, fk_u_rowo k3, fk_u_rowo k1]; exact s26.1 k k1 k2 k3, fun i i1 i2 i3 i4 i5 => by rw [fk_u_o (by omega), fk_u_o (by omega), fk_u_o (by omega)]; exact s26.2 i i1 i2 i3 i4 i5⟩, ?_, by rw [fk_u_o (by omega), fk_u_o (by omega), fk_u_o (by omega)]; exact x1, fk_u_s, ?_, fun i hi => ?_⟩
            · by_cases m0 : m = 0
              · rw [if_pos m0] at r46
                simp (disch := first | assumption | omega) only [rX12_readsStep, e11, e1, q2, mX12_isPlace, and_self, r45, r45', tk, w2, e2, x2, r46, Option.bind_some, Option.toList_some, Option.toList_none, List.cons_append, List.nil_append, fk_b_0, nI_add, Nat.add_zero, Nat.zero_add, not_true_eq_false, not_false_eq_true, if_true, if_false, sI_le_t, sI_le_f, sI_lt_t, sI_lt_f, sI_eq_t, sI_eq_f, sI_rem, sI_div, sI_m1a, sI_m1b, sI_m1c, sI_m1d, sI_m1e, sI_m1f, sI_m2a, sI_m2b, sI_sub, pk_mul, sI_dec, fk_u_s, fk_u_o, sI_dec0, sI_z, sI_md, Bool.false_eq_true, Nat.reduceAdd, Nat.reduceMul, Nat.reduceSub, Nat.reduceMod, Nat.reduceDiv]
              · have c5' : Q (m - 1) < b2 := by unfold ab_hl at c5; rw [if_neg m0] at c5; omega
                have hq := hQ (m - 1)
                rw [if_neg m0] at r46
                simp (disch := first | assumption | omega) only [rX12_readsStep, e11, e1, q2, mX12_isPlace, and_self, r45, r45', tk, w2, e2, x2, r46, Option.bind_some, Option.toList_some, Option.toList_none, List.cons_append, List.nil_append, fk_b_0, nI_add, Nat.add_zero, Nat.zero_add, not_true_eq_false, not_false_eq_true, if_true, if_false, sI_le_t, sI_le_f, sI_lt_t, sI_lt_f, sI_eq_t, sI_eq_f, sI_rem, sI_div, sI_m1a, sI_m1b, sI_m1c, sI_m1d, sI_m1e, sI_m1f, sI_m2a, sI_m2b, sI_sub, pk_mul, sI_dec, fk_u_s, fk_u_o, sI_dec0, sI_z, sI_md, Bool.false_eq_true, Nat.reduceAdd, Nat.reduceMul, Nat.reduceSub, Nat.reduceMod, Nat.reduceDiv]
            · rw [if_neg (by omega), fk_u_o (by omega), fk_u_o (by omega), fk_u_s]
              unfold fk_wn
              rw [if_pos (by omega)]
            · unfold fk_wn
              by_cases e : i = m
              · subst e
                rw [fk_u_o (by omega), fk_u_o (by omega), fk_u_o (by omega), r273, fk_w_s, fk_u_o (by omega), fk_u_s, if_pos rfl, if_pos rfl]
                exact ⟨rfl, rfl⟩
              · rw [fk_u_o (by omega), fk_u_o (by omega), fk_u_o (by omega), r273, fk_w_o e, fk_u_o (by omega), fk_u_o (by omega), fk_u_o (by omega), r274, if_neg e, if_neg e]
                exact hr.2.2 i (by omega)
        · rw [if_pos c4]
          refine ⟨y2, fk_s6_t su2 (fk_s6_3 s2), ?_, x1⟩
          simp (disch := first | assumption | omega) only [rX12_readsStep, e11, e1, q2, mX12_isPlace, and_self, r45, tk, w2, e2, Option.bind_some, Option.toList_some, Option.toList_none, List.cons_append, List.nil_append, fk_b_0, nI_add, Nat.add_zero, Nat.zero_add, not_true_eq_false, not_false_eq_true, if_true, if_false, sI_le_t, sI_le_f, sI_lt_t, sI_lt_f, sI_eq_t, sI_eq_f, sI_rem, sI_div, sI_m1a, sI_m1b, sI_m1c, sI_m1d, sI_m1e, sI_m1f, sI_m2a, sI_m2b, sI_sub, pk_mul, sI_dec, fk_u_s, fk_u_o, sI_dec0, sI_z, sI_md, Bool.false_eq_true, Nat.reduceAdd, Nat.reduceMul, Nat.reduceSub, Nat.reduceMod, Nat.reduceDiv]
      · rw [if_pos c3]
        have tk := mX12_takes_f (N := N) (l := l) (d := d + 1) tu (by omega) c3
        refine ⟨fk_u (fk_u y1 273 m (nI g2)) 246 13 (fk_flt 1 g1), fk_s6_t su (fk_s6_3 (fk_s3_u (by omega))), ?_, fk_u_s⟩
        simp (disch := first | assumption | omega) only [rX12_readsStep, e11, e1, q2, mX12_isPlace, and_self, r45, tk, Option.bind_some, Option.toList_some, Option.toList_none, List.cons_append, List.nil_append, fk_b_0, nI_add, Nat.add_zero, Nat.zero_add, not_true_eq_false, not_false_eq_true, if_true, if_false, sI_le_t, sI_le_f, sI_lt_t, sI_lt_f, sI_eq_t, sI_eq_f, sI_rem, sI_div, sI_m1a, sI_m1b, sI_m1c, sI_m1d, sI_m1e, sI_m1f, sI_m2a, sI_m2b, sI_sub, pk_mul, sI_dec, fk_u_s, fk_u_o, sI_dec0, sI_z, sI_md, Bool.false_eq_true, Nat.reduceAdd, Nat.reduceMul, Nat.reduceSub, Nat.reduceMod, Nat.reduceDiv]
  · rw [if_pos c1]
    refine ⟨y1, fk_s6_3 s1, ?_, q1⟩
    simp (disch := first | assumption | omega) only [rX12_readsStep, e11, e1, Option.bind_some, Option.toList_some, Option.toList_none, List.cons_append, List.nil_append, fk_b_0, nI_add, Nat.add_zero, Nat.zero_add, not_true_eq_false, not_false_eq_true, if_true, if_false, sI_le_t, sI_le_f, sI_lt_t, sI_lt_f, sI_eq_t, sI_eq_f, sI_rem, sI_div, sI_m1a, sI_m1b, sI_m1c, sI_m1d, sI_m1e, sI_m1f, sI_m2a, sI_m2b, sI_sub, pk_mul, sI_dec, fk_u_s, fk_u_o, sI_dec0, sI_z, sI_md, Bool.false_eq_true, Nat.reduceAdd, Nat.reduceMul, Nat.reduceSub, Nat.reduceMod, Nat.reduceDiv]
theorem fk_s6_x (h : fk_s6 y y1) (ht : fk_tx bt n a y) {b : Nat} (hb : b ≤ n) (e : y1 246 11 = nI b) : fk_tx bt n b y1 := ⟨e, (h.2 12 (by omega) (by omega) (by omega) (by omega) (by omega)).trans ht.2.1, fun i hi => by rw [h.1 255 (by omega) (by omega) (by omega)]; exact ht.2.2.1 i hi, ht.2.2.2.1, hb, ht.2.2.2.2.2⟩
theorem ab_hst_b {ls : Nat} {x : Nat × Nat × Nat} (ha : a ≤ n) (h : ab_hst bt n a ls = .inr x) : a + 3 ≤ x.1 ∧ x.1 ≤ n ∧ x.2.1 < 16 ∧ x.2.2 < 1000 := by
  unfold ab_hst at h
  have d1 := ab_dg_le (bt := bt) (n := n) 2 a 0 ha
  generalize ab_dg bt n 2 a 0 = g at d1 h
  obtain ⟨g1, g2⟩ := g
  try dsimp only at d1 h
  by_cases c1 : g1 = a
  · rw [if_pos c1] at h; cases h
  · rw [if_neg c1] at h
    by_cases c2 : 16 ≤ g2
    · rw [if_pos c2] at h; cases h
    · rw [if_neg c2] at h
      by_cases c3 : ab_pk bt n g1 = nI 64
      · rw [if_neg (fun z => z c3)] at h
        have lt := ab_pk_lt c3 (by omega)
        have d2 := ab_dg_le (bt := bt) (n := n) 3 (g1 + 1) 0 (by omega)
        have v2 := ab_dg_v (bt := bt) (n := n) 3 (g1 + 1) 0 1 (by omega)
        generalize ab_dg bt n 3 (g1 + 1) 0 = b at d2 v2 h
        obtain ⟨b1, b2⟩ := b
        try dsimp only at d2 v2 h
        by_cases c4 : b1 = g1 + 1
        · rw [if_pos c4] at h; cases h
        · rw [if_neg c4] at h
          by_cases c5 : b2 < ls
          · rw [if_pos c5] at h; cases h
          · rw [if_neg c5] at h
            cases h
            exact ⟨by dsimp only; omega, by dsimp only; omega, by dsimp only; omega, by dsimp only; omega⟩
      · rw [if_pos c3] at h; cases h
theorem mX12_hist_loop (hn : n ≤ 60) {j nn : Value} : ∀ k m a P Q y, m + k = 16 → 4 * m ≤ a → (∀ i, P i < 16) → (∀ i, Q i < 1000) → fk_tx bt n a y → fk_rr m P Q y → ∃ y1 y' g, fk_ev (d + 4) qX12_readsStep 0 [.ref 246, .null] [] (fk_E N y l) = some (some (.int g), fk_E N y1 l) ∧ fk_s6 y y' ∧ match ab_hs bt n k a m P Q with
    | .inl f => fk_ev (d + 5) qX12_history 53 [.ref 246, j, nn, .int g, .null] [] (fk_E N y1 l) = fk_ev (d + 5) qX12_history 93 [.ref 246, j, nn, .int (nI 0), .null] [] (fk_E N y' l) ∧ y' 246 13 = f
    | .inr x => fk_ev (d + 5) qX12_history 53 [.ref 246, j, nn, .int g, .null] [] (fk_E N y1 l) = fk_ev (d + 5) qX12_history 93 [.ref 246, j, nn, .int (nI 1), .null] [] (fk_E N y' l) ∧ fk_rr x.1 x.2.1 x.2.2 y' := by
  intro k
  induction k with
  | zero =>
    intro m a P Q y hm hma hP hQ h
    have := h.2.2.2.2.1
    omega
  | succ k ih =>
    intro m a P Q y hm hma hP hQ h hr
    have han := h.2.2.2.2.1
    obtain ⟨y1, s1, hst⟩ := mX12_readsStep (N := N) (l := l) (d := d + 1) (show m < 16 by omega) hQ h hr
    have bd := fun x => ab_hst_b (bt := bt) (n := n) (ls := ab_hl m Q) (x := x) han
    unfold ab_hs
    generalize ab_hst bt n a (ab_hl m Q) = o at hst bd
    cases o with
    | inl f =>
      try dsimp only at hst ⊢
      obtain ⟨e, f1⟩ := hst
      refine ⟨y1, y1, nI 0, e, s1, ?_, f1⟩
      rw [hX12_history_53]
      simp (disch := first | assumption | omega) only [rX12_history, Option.bind_some, Option.toList_some, Option.toList_none, List.cons_append, List.nil_append, fk_b_0, nI_add, Nat.add_zero, Nat.zero_add, not_true_eq_false, not_false_eq_true, if_true, if_false, sI_le_t, sI_le_f, sI_lt_t, sI_lt_f, sI_eq_t, sI_eq_f, sI_rem, sI_div, sI_m1a, sI_m1b, sI_m1c, sI_m1d, sI_m1e, sI_m1f, sI_m2a, sI_m2b, sI_sub, pk_mul, sI_dec, fk_u_s, fk_u_o, sI_dec0, sI_z, sI_md, Bool.false_eq_true, Nat.reduceAdd, Nat.reduceMul, Nat.reduceSub, Nat.reduceMod, Nat.reduceDiv]
    | inr o =>
      obtain ⟨b, p, q⟩ := o
      obtain ⟨bd1, bd2, bd3, bd4⟩ := bd _ rfl
      try dsimp only at hst bd1 bd2 bd3 bd4 ⊢
      obtain ⟨e, f1, f2⟩ := hst
      have t1 : fk_tx bt n b y1 := fk_s6_x s1 h bd2 f1
      have e12 := t1.2.1
      by_cases c1 : b = n
      · rw [if_pos c1]
        refine ⟨y1, y1, nI 1, e, s1, ?_, f2⟩
        subst c1
        rw [hX12_history_53]
        simp (disch := first | assumption | omega) only [rX12_history, f1, e12, Option.bind_some, Option.toList_some, Option.toList_none, List.cons_append, List.nil_append, fk_b_0, nI_add, Nat.add_zero, Nat.zero_add, not_true_eq_false, not_false_eq_true, if_true, if_false, sI_le_t, sI_le_f, sI_lt_t, sI_lt_f, sI_eq_t, sI_eq_f, sI_rem, sI_div, sI_m1a, sI_m1b, sI_m1c, sI_m1d, sI_m1e, sI_m1f, sI_m2a, sI_m2b, sI_sub, pk_mul, sI_dec, fk_u_s, fk_u_o, sI_dec0, sI_z, sI_md, Bool.false_eq_true, Nat.reduceAdd, Nat.reduceMul, Nat.reduceSub, Nat.reduceMod, Nat.reduceDiv]
      · rw [if_neg c1]
        by_cases c2 : ab_pk bt n b = nI 44
        · rw [if_neg (fun z => z c2)]
          have tk := mX12_takes_t (N := N) (l := l) (d := d + 3) t1 (by omega) c2
          have t2 : fk_tx bt n (b + 1) (fk_u y1 246 11 (nI (b + 1))) := fk_s3_x (fk_s3_u (Or.inl rfl)) t1 (by omega) fk_u_s
          have r2 : fk_rr (m + 1) (fk_wn P m p) (fk_wn Q m q) (fk_u y1 246 11 (nI (b + 1))) := ⟨by rw [fk_u_o (by omega)]; exact f2.1, by rw [fk_u_o (by omega)]; exact f2.2.1, fun i hi => by rw [fk_u_o (by omega), fk_u_o (by omega)]; exact f2.2.2 i hi⟩
          obtain ⟨z1, z', g, e2, s2, hl⟩ := ih (m + 1) (b + 1) (fk_wn P m p) (fk_wn Q m q) (fk_u y1 246 11 (nI (b + 1))) (by omega) (by omega) (fk_wn_lt hP bd3) (fk_wn_lt hQ bd4) t2 r2
          have hg : g = nI 0 ∨ g = nI 1 := by
            obtain ⟨_, _, h3⟩ := mX12_readsStep (N := N) (l := l) (d := d + 1) (show m + 1 < 16 by omega) (fk_wn_lt hQ bd4) t2 r2
            generalize ab_hst bt n (b + 1) (ab_hl (m + 1) (fk_wn Q m q)) = o at h3
            cases o with
            | inl _ =>
              try dsimp only at h3
              have := h3.1.symm.trans e2
              simp only [Option.some.injEq, Prod.mk.injEq, Value.int.injEq] at this
              exact Or.inl this.1.symm
            | inr _ =>
              try dsimp only at h3
              have := h3.1.symm.trans e2
              simp only [Option.some.injEq, Prod.mk.injEq, Value.int.injEq] at this
              exact Or.inr this.1.symm
          have ev : fk_ev (d + 5) qX12_history 53 [.ref 246, j, nn, .int (nI 1), .null] [] (fk_E N y1 l) = fk_ev (d + 5) qX12_history 53 [.ref 246, j, nn, .int g, .null] [] (fk_E N z1 l) := by
            rw [hX12_history_53]
            rcases hg with rfl | rfl
            · simp (disch := first | assumption | omega) only [rX12_history, f1, e12, tk, e2, Option.bind_some, Option.toList_some, Option.toList_none, List.cons_append, List.nil_append, fk_b_0, nI_add, Nat.add_zero, Nat.zero_add, not_true_eq_false, not_false_eq_true, if_true, if_false, sI_le_t, sI_le_f, sI_lt_t, sI_lt_f, sI_eq_t, sI_eq_f, sI_rem, sI_div, sI_m1a, sI_m1b, sI_m1c, sI_m1d, sI_m1e, sI_m1f, sI_m2a, sI_m2b, sI_sub, pk_mul, sI_dec, fk_u_s, fk_u_o, sI_dec0, sI_z, sI_md, Bool.false_eq_true, Nat.reduceAdd, Nat.reduceMul, Nat.reduceSub, Nat.reduceMod, Nat.reduceDiv]
            · simp (disch := first | assumption | omega) only [rX12_history, f1, e12, tk, e2, Option.bind_some, Option.toList_some, Option.toList_none, List.cons_append, List.nil_append, fk_b_0, nI_add, Nat.add_zero, Nat.zero_add, not_true_eq_false, not_false_eq_true, if_true, if_false, sI_le_t, sI_le_f, sI_lt_t, sI_lt_f, sI_eq_t, sI_eq_f, sI_rem, sI_div, sI_m1a, sI_m1b, sI_m1c, sI_m1d, sI_m1e, sI_m1f, sI_m2a, sI_m2b, sI_sub, pk_mul, sI_dec, fk_u_s, fk_u_o, sI_dec0, sI_z, sI_md, Bool.false_eq_true, Nat.reduceAdd, Nat.reduceMul, Nat.reduceSub, Nat.reduceMod, Nat.reduceDiv]
          refine ⟨y1, z', nI 1, e, fk_s6_t (fk_s6_t s1 (fk_s6_3 (fk_s3_u (by omega)))) s2, ?_⟩
          rw [ev]
          exact hl
        · rw [if_pos c2]
          have tk := mX12_takes_f (N := N) (l := l) (d := d + 3) t1 (by omega) c2
          refine ⟨y1, fk_u y1 246 13 (fk_flt 1 b), nI 1, e, fk_s6_t s1 (fk_s6_3 (fk_s3_u (by omega))), ?_, fk_u_s⟩
          rw [hX12_history_53]
          simp (disch := first | assumption | omega) only [rX12_history, f1, e12, tk, Option.bind_some, Option.toList_some, Option.toList_none, List.cons_append, List.nil_append, fk_b_0, nI_add, Nat.add_zero, Nat.zero_add, not_true_eq_false, not_false_eq_true, if_true, if_false, sI_le_t, sI_le_f, sI_lt_t, sI_lt_f, sI_eq_t, sI_eq_f, sI_rem, sI_div, sI_m1a, sI_m1b, sI_m1c, sI_m1d, sI_m1e, sI_m1f, sI_m2a, sI_m2b, sI_sub, pk_mul, sI_dec, fk_u_s, fk_u_o, sI_dec0, sI_z, sI_md, Bool.false_eq_true, Nat.reduceAdd, Nat.reduceMul, Nat.reduceSub, Nat.reduceMod, Nat.reduceDiv]
          rw [hX12_history_53]
          simp (disch := first | assumption | omega) only [rX12_history, Option.bind_some, Option.toList_some, Option.toList_none, List.cons_append, List.nil_append, fk_b_0, nI_add, Nat.add_zero, Nat.zero_add, not_true_eq_false, not_false_eq_true, if_true, if_false, sI_le_t, sI_le_f, sI_lt_t, sI_lt_f, sI_eq_t, sI_eq_f, sI_rem, sI_div, sI_m1a, sI_m1b, sI_m1c, sI_m1d, sI_m1e, sI_m1f, sI_m2a, sI_m2b, sI_sub, pk_mul, sI_dec, fk_u_s, fk_u_o, sI_dec0, sI_z, sI_md, Bool.false_eq_true, Nat.reduceAdd, Nat.reduceMul, Nat.reduceSub, Nat.reduceMod, Nat.reduceDiv]
end HI2
