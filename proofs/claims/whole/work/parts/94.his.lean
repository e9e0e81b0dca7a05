section HIS
variable {N : Nat} {S : Nat → Int32} {v y y0 y1 y2 z z0 : Nat → Nat → Int32} {l : Nat → Nat → Int64} {d n H t k m a : Nat} {A : Nat → Int32} {bt : Nat → Nat}
/-- the fault of a kind at a place -/
abbrev fk_flt (k p : Nat) : Int32 := (-1000 : Int32) * nI k - nI p
theorem fk_flt_1 : ∀ p, p < 300 → ¬ fk_flt 1 p = nI 0 := by decide +kernel
theorem fk_flt_3 : ∀ p, p < 300 → ¬ fk_flt 3 p = nI 0 := by decide +kernel
theorem fk_flt_6 : ∀ p, p < 300 → ¬ fk_flt 6 p = nI 0 := by decide +kernel
theorem mX11_faultAt {x p : Int32} {h : fk_H} : fk_ev d qX11_faultAt 0 [.int x, .int p] [] h = some (some (.int (((-1000 : Int32) * x - p))), h) := by
  simp only [rX11_faultAt]
theorem mX12_wrongAt {x p : Int32} : fk_ev d qX12_wrongAt 0 [.ref 246, .int x, .int p] [] (fk_E N y l) = some (some (.int ((nI 0))), fk_E N (fk_u y 246 13 ((-1000 : Int32) * x - p)) l) := by
  simp only [rX12_wrongAt]
/-- what stands at a place of a text -/
def ab_pk (bt : Nat → Nat) (n a : Nat) : Int32 := if a < n then nI (bt a) else (-1)
abbrev ab_dd (bt : Nat → Nat) (n a : Nat) : Prop := a < n ∧ 48 ≤ bt a ∧ bt a ≤ 57
def ab_dg (bt : Nat → Nat) (n : Nat) : Nat → Nat → Nat → Nat × Nat
  | 0, a, c => (a, c)
  | k + 1, a, c => if ab_dd bt n a then ab_dg bt n k (a + 1) (10 * c + (bt a - 48)) else (a, c)
theorem ab_dg_le : ∀ k a c, a ≤ n → a ≤ (ab_dg bt n k a c).1 ∧ (ab_dg bt n k a c).1 ≤ n ∧ (ab_dg bt n k a c).1 ≤ a + k := by
  intro k
  induction k with
  | zero => intro a c h; exact ⟨Nat.le_refl _, h, Nat.le_refl _⟩
  | succ k ih =>
    intro a c h
    unfold ab_dg
    by_cases hd : ab_dd bt n a
    · rw [if_pos hd]
      have := ih (a + 1) (10 * c + (bt a - 48)) (by omega)
      omega
    · rw [if_neg hd]
      exact ⟨Nat.le_refl _, h, by dsimp only; omega⟩
theorem ab_dg_v : ∀ k a c x, c < x → (ab_dg bt n k a c).2 < x * 10 ^ k := by
  intro k
  induction k with
  | zero => intro a c x h; rw [Nat.pow_zero, Nat.mul_one]; exact h
  | succ k ih =>
    intro a c x h
    unfold ab_dg
    by_cases hd : ab_dd bt n a
    · rw [if_pos hd]
      have := ih (a + 1) (10 * c + (bt a - 48)) (10 * x) (by omega)
      rw [Nat.pow_succ, Nat.mul_comm (10 ^ k) 10, ← Nat.mul_assoc, Nat.mul_comm x 10]
      exact this
    · rw [if_neg hd]
      exact Nat.lt_of_lt_of_le h (Nat.le_mul_of_pos_right x (Nat.pow_pos (by omega)))
/-- the class reads a history: where it stands -/
def ck_hc (y0 : Nat → Nat → Int32) (bt : Nat → Nat) (n a : Nat) (y : Nat → Nat → Int32) : Prop := (∀ k, k ≠ 30 → k ≠ 31 → k ≠ 32 → y k = y0 k) ∧ y 30 4 = nI n ∧ y 30 5 = nI a
def ck_h0 (y0 : Nat → Nat → Int32) (bt : Nat → Nat) (n : Nat) : Prop := ∃ t, t ≤ 260 ∧ n ≤ t ∧ n ≤ 250 ∧ y0 26 1 = nI t ∧ (∀ i, i < t → y0 27 i = nI (bt i)) ∧ ∀ i, bt i < 256
theorem mX1_peek (h0 : ck_h0 y0 bt n) (h : ck_hc y0 bt n a y) (ha : a ≤ n) : fk_ev (d + 2) qX1_peek 0 [.ref 30] [] (fk_E N y l) = some (some (.int ((ab_pk bt n a))), fk_E N y l) := by
  obtain ⟨t, t1, t2, t3, t4, t5, t6⟩ := h0
  obtain ⟨f, e4, e5⟩ := h
  unfold ab_pk
  by_cases c : a < n
  · have hb := mX10_byteAt (N := N) (l := l) (d := d) (y := y) (k := a) (t := t) (by rw [f 26 (by omega) (by omega) (by omega)]; exact t4) t1 (by omega)
    rw [f 27 (by omega) (by omega) (by omega), t5 a (by omega)] at hb
    rw [if_pos c]
    simp (disch := first | assumption | omega) only [rX1_peek, e5, e4, hb, Option.bind_some, Option.toList_some, Option.toList_none, List.cons_append, List.nil_append, fk_b_0, nI_add, Nat.add_zero, Nat.zero_add, not_true_eq_false, not_false_eq_true, if_true, if_false, sI_le_t, sI_le_f, sI_lt_t, sI_lt_f, sI_eq_t, sI_eq_f, sI_rem, sI_div, sI_m1a, sI_m1b, sI_m1c, sI_m1d, sI_m1e, sI_m1f, sI_m2a, sI_m2b, sI_sub, pk_mul, sI_dec, fk_u_s, fk_u_o, sI_dec0, sI_z, sI_md, Bool.false_eq_true, Nat.reduceAdd, Nat.reduceMul, Nat.reduceSub, Nat.reduceMod, Nat.reduceDiv]
  · rw [if_neg c]
    simp (disch := first | assumption | omega) only [rX1_peek, e5, e4, Option.bind_some, Option.toList_some, Option.toList_none, List.cons_append, List.nil_append, fk_b_0, nI_add, Nat.add_zero, Nat.zero_add, not_true_eq_false, not_false_eq_true, if_true, if_false, sI_le_t, sI_le_f, sI_lt_t, sI_lt_f, sI_eq_t, sI_eq_f, sI_rem, sI_div, sI_m1a, sI_m1b, sI_m1c, sI_m1d, sI_m1e, sI_m1f, sI_m2a, sI_m2b, sI_sub, pk_mul, sI_dec, fk_u_s, fk_u_o, sI_dec0, sI_z, sI_md, Bool.false_eq_true, Nat.reduceAdd, Nat.reduceMul, Nat.reduceSub, Nat.reduceMod, Nat.reduceDiv]
theorem fk_10p {i : Nat} (h : i ≤ 3) : 10 ^ i ≤ 1000 := Nat.le_trans (Nat.pow_le_pow_right (by omega) h) (by decide)
theorem mX1_digits_loop (h0 : ck_h0 y0 bt n) {a0 mo : Nat} (hmo : mo ≤ 3) : ∀ k i a c y, i + k = mo → a = a0 + i → c < 10 ^ i → a ≤ n → ck_hc y0 bt n a y → ∃ y', fk_ev (d + 3) qX1_digits 4 [.ref 30, .int (nI mo), .int (if i = 0 then (-1) else nI c), .int (nI i)] [] (fk_E N y l) = some (some (.int (if (ab_dg bt n k a c).1 = a0 then (-1) else nI (ab_dg bt n k a c).2)), fk_E N y' l) ∧ ck_hc y0 bt n (ab_dg bt n k a c).1 y' ∧ y' 31 = y 31 ∧ y' 32 = y 32 ∧ y' 30 3 = y 30 3 := by
  obtain ⟨t, t1, t2, t3, t4, t5, t6⟩ := id h0
  intro k
  induction k with
  | zero =>
    intro i a c y hi ea hc2 han h
    have hi : i = mo := hi
    subst hi
    refine ⟨y, ?_, h, rfl, rfl, rfl⟩
    rw [hX1_digits_4]
    unfold ab_dg
    try dsimp only
    by_cases z : i = 0
    · subst z
      rw [if_pos rfl, if_pos (by omega)]
      simp (disch := first | assumption | omega) only [rX1_digits, Option.bind_some, Option.toList_some, Option.toList_none, List.cons_append, List.nil_append, fk_b_0, nI_add, Nat.add_zero, Nat.zero_add, not_true_eq_false, not_false_eq_true, if_true, if_false, sI_le_t, sI_le_f, sI_lt_t, sI_lt_f, sI_eq_t, sI_eq_f, sI_rem, sI_div, sI_m1a, sI_m1b, sI_m1c, sI_m1d, sI_m1e, sI_m1f, sI_m2a, sI_m2b, sI_sub, pk_mul, sI_dec, fk_u_s, fk_u_o, sI_dec0, sI_z, sI_md, Bool.false_eq_true, Nat.reduceAdd, Nat.reduceMul, Nat.reduceSub, Nat.reduceMod, Nat.reduceDiv]
    · rw [if_neg z, if_neg (by omega)]
      simp (disch := first | assumption | omega) only [rX1_digits, Option.bind_some, Option.toList_some, Option.toList_none, List.cons_append, List.nil_append, fk_b_0, nI_add, Nat.add_zero, Nat.zero_add, not_true_eq_false, not_false_eq_true, if_true, if_false, sI_le_t, sI_le_f, sI_lt_t, sI_lt_f, sI_eq_t, sI_eq_f, sI_rem, sI_div, sI_m1a, sI_m1b, sI_m1c, sI_m1d, sI_m1e, sI_m1f, sI_m2a, sI_m2b, sI_sub, pk_mul, sI_dec, fk_u_s, fk_u_o, sI_dec0, sI_z, sI_md, Bool.false_eq_true, Nat.reduceAdd, Nat.reduceMul, Nat.reduceSub, Nat.reduceMod, Nat.reduceDiv]
  | succ k ih =>
    intro i a c y hi ea hc2 han h
    have hp := mX1_peek (N := N) (l := l) (d := d) h0 h han
    have b6 := t6 a
    have p3 := fk_10p (i := i) (by omega)
    unfold ab_dg
    rw [hX1_digits_4]
    by_cases cd : ab_dd bt n a
    · have ep : ab_pk bt n a = nI (bt a) := if_pos cd.1
      rw [ep] at hp
      rw [if_pos cd]
      obtain ⟨cd1, cd2, cd3⟩ := id cd
      obtain ⟨f, e4, e5⟩ := id h
      have hc' : ck_hc y0 bt n (a + 1) (fk_u y 30 5 (nI (a + 1))) := ⟨fun k k1 k2 k3 => by rw [fk_u_rowo k1, f k k1 k2 k3], by rw [fk_u_o (by omega)]; exact e4, fk_u_s⟩
      obtain ⟨y', e, g1, g2, g3, g4⟩ := ih (i + 1) (a + 1) (10 * c + (bt a - 48)) (fk_u y 30 5 (nI (a + 1))) (by omega) (by omega) (by rw [Nat.pow_succ]; omega) (by omega) hc'
      rw [if_neg (show ¬ i + 1 = 0 by omega)] at e
      refine ⟨y', ?_, g1, g2.trans (fk_u_rowo (by omega)), g3.trans (fk_u_rowo (by omega)), g4.trans (fk_u_o (by omega))⟩
      rw [← e]
      have es : 10 * c + bt a - 48 = 10 * c + (bt a - 48) := by omega
      by_cases i0 : i = 0
      · subst i0
        have c0 : c = 0 := by rw [Nat.pow_zero] at hc2; omega
        subst c0
        rw [if_pos rfl]
        simp (disch := first | assumption | omega) only [rX1_digits, hp, e5, Option.bind_some, Option.toList_some, Option.toList_none, List.cons_append, List.nil_append, fk_b_0, nI_add, Nat.add_zero, Nat.zero_add, not_true_eq_false, not_false_eq_true, if_true, if_false, sI_le_t, sI_le_f, sI_lt_t, sI_lt_f, sI_eq_t, sI_eq_f, sI_rem, sI_div, sI_m1a, sI_m1b, sI_m1c, sI_m1d, sI_m1e, sI_m1f, sI_m2a, sI_m2b, sI_sub, pk_mul, sI_dec, fk_u_s, fk_u_o, sI_dec0, sI_z, sI_md, Bool.false_eq_true, Nat.reduceAdd, Nat.reduceMul, Nat.reduceSub, Nat.reduceMod, Nat.reduceDiv]
      · rw [if_neg i0]
        simp (disch := first | assumption | omega) only [rX1_digits, hp, e5, es, Option.bind_some, Option.toList_some, Option.toList_none, List.cons_append, List.nil_append, fk_b_0, nI_add, Nat.add_zero, Nat.zero_add, not_true_eq_false, not_false_eq_true, if_true, if_false, sI_le_t, sI_le_f, sI_lt_t, sI_lt_f, sI_eq_t, sI_eq_f, sI_rem, sI_div, sI_m1a, sI_m1b, sI_m1c, sI_m1d, sI_m1e, sI_m1f, sI_m2a, sI_m2b, sI_sub, pk_mul, sI_dec, fk_u_s, fk_u_o, sI_dec0, sI_z, sI_md, Bool.false_eq_true, Nat.reduceAdd, Nat.reduceMul, Nat.reduceSub, Nat.reduceMod, Nat.reduceDiv]
    · rw [if_neg cd]
      refine ⟨y, ?_, h, rfl, rfl, rfl⟩
      try dsimp only
      have eq : (if i = 0 then (-1 : Int32) else nI c) = (if a = a0 then (-1) else nI c) := by
        by_cases z : i = 0
        · rw [if_pos z, if_pos (by omega)]
        · rw [if_neg z, if_neg (by omega)]
      rw [eq]
      generalize (if a = a0 then (-1 : Int32) else nI c) = X
      by_cases c1 : a < n
      · have ep : ab_pk bt n a = nI (bt a) := if_pos c1
        rw [ep] at hp
        by_cases c2 : bt a < 48
        · simp (disch := first | assumption | omega) only [rX1_digits, hp, Option.bind_some, Option.toList_some, Option.toList_none, List.cons_append, List.nil_append, fk_b_0, nI_add, Nat.add_zero, Nat.zero_add, not_true_eq_false, not_false_eq_true, if_true, if_false, sI_le_t, sI_le_f, sI_lt_t, sI_lt_f, sI_eq_t, sI_eq_f, sI_rem, sI_div, sI_m1a, sI_m1b, sI_m1c, sI_m1d, sI_m1e, sI_m1f, sI_m2a, sI_m2b, sI_sub, pk_mul, sI_dec, fk_u_s, fk_u_o, sI_dec0, sI_z, sI_md, Bool.false_eq_true, Nat.reduceAdd, Nat.reduceMul, Nat.reduceSub, Nat.reduceMod, Nat.reduceDiv]
        · have c3 : 57 < bt a := Classical.byContradiction fun z => cd ⟨c1, by omega, by omega⟩
          simp (disch := first | assumption | omega) only [rX1_digits, hp, Option.bind_some, Option.toList_some, Option.toList_none, List.cons_append, List.nil_append, fk_b_0, nI_add, Nat.add_zero, Nat.zero_add, not_true_eq_false, not_false_eq_true, if_true, if_false, sI_le_t, sI_le_f, sI_lt_t, sI_lt_f, sI_eq_t, sI_eq_f, sI_rem, sI_div, sI_m1a, sI_m1b, sI_m1c, sI_m1d, sI_m1e, sI_m1f, sI_m2a, sI_m2b, sI_sub, pk_mul, sI_dec, fk_u_s, fk_u_o, sI_dec0, sI_z, sI_md, Bool.false_eq_true, Nat.reduceAdd, Nat.reduceMul, Nat.reduceSub, Nat.reduceMod, Nat.reduceDiv]
      · have ep : ab_pk bt n a = (-1) := if_neg c1
        rw [ep] at hp
        simp (disch := first | assumption | omega) only [rX1_digits, hp, Option.bind_some, Option.toList_some, Option.toList_none, List.cons_append, List.nil_append, fk_b_0, nI_add, Nat.add_zero, Nat.zero_add, not_true_eq_false, not_false_eq_true, if_true, if_false, sI_le_t, sI_le_f, sI_lt_t, sI_lt_f, sI_eq_t, sI_eq_f, sI_rem, sI_div, sI_m1a, sI_m1b, sI_m1c, sI_m1d, sI_m1e, sI_m1f, sI_m2a, sI_m2b, sI_sub, pk_mul, sI_dec, fk_u_s, fk_u_o, sI_dec0, sI_z, sI_md, Bool.false_eq_true, Nat.reduceAdd, Nat.reduceMul, Nat.reduceSub, Nat.reduceMod, Nat.reduceDiv]
theorem mX1_digits (h0 : ck_h0 y0 bt n) {mo : Nat} (hmo : mo ≤ 3) (h1 : 1 ≤ mo) (ha : a ≤ n) (h : ck_hc y0 bt n a y) : ∃ y', fk_ev (d + 3) qX1_digits 0 [.ref 30, .int ((nI mo)), .null, .null] [] (fk_E N y l) = some (some (.int ((if (ab_dg bt n mo a 0).1 = a then (-1) else nI (ab_dg bt n mo a 0).2))), fk_E N y' l) ∧ ck_hc y0 bt n (ab_dg bt n mo a 0).1 y' ∧ y' 31 = y 31 ∧ y' 32 = y 32 ∧ y' 30 3 = y 30 3 := by
  obtain ⟨y', e, g⟩ := mX1_digits_loop (N := N) (l := l) (d := d) (a0 := a) h0 hmo mo 0 a 0 y (by omega) (by omega) (by decide) ha h
  refine ⟨y', ?_, g⟩
  rw [if_pos rfl] at e
  rw [← e]
  simp (disch := first | assumption | omega) only [rX1_digits, Option.bind_some, Option.toList_some, Option.toList_none, List.cons_append, List.nil_append, fk_b_0, nI_add, Nat.add_zero, Nat.zero_add, not_true_eq_false, not_false_eq_true, if_true, if_false, sI_le_t, sI_le_f, sI_lt_t, sI_lt_f, sI_eq_t, sI_eq_f, sI_rem, sI_div, sI_m1a, sI_m1b, sI_m1c, sI_m1d, sI_m1e, sI_m1f, sI_m2a, sI_m2b, sI_sub, pk_mul, sI_dec, fk_u_s, fk_u_o, sI_dec0, sI_z, sI_md, Bool.false_eq_true, Nat.reduceAdd, Nat.reduceMul, Nat.reduceSub, Nat.reduceMod, Nat.reduceDiv]
/-- a step of a history -/
def ab_hst (bt : Nat → Nat) (n a ls : Nat) : Int32 ⊕ (Nat × Nat × Nat) :=
  if (ab_dg bt n 2 a 0).1 = a then .inl (fk_flt 1 a) else if 16 ≤ (ab_dg bt n 2 a 0).2 then .inl (fk_flt 3 a) else if ¬ ab_pk bt n (ab_dg bt n 2 a 0).1 = nI 64 then .inl (fk_flt 1 (ab_dg bt n 2 a 0).1) else
  if (ab_dg bt n 3 ((ab_dg bt n 2 a 0).1 + 1) 0).1 = (ab_dg bt n 2 a 0).1 + 1 then .inl (fk_flt 1 ((ab_dg bt n 2 a 0).1 + 1)) else if (ab_dg bt n 3 ((ab_dg bt n 2 a 0).1 + 1) 0).2 < ls then .inl (fk_flt 6 ((ab_dg bt n 2 a 0).1 + 1)) else .inr ((ab_dg bt n 3 ((ab_dg bt n 2 a 0).1 + 1) 0).1, (ab_dg bt n 2 a 0).2, (ab_dg bt n 3 ((ab_dg bt n 2 a 0).1 + 1) 0).2)
def ab_hl (m : Nat) (Q : Nat → Nat) : Nat := if m = 0 then 0 else Q (m - 1) + 1
def fk_wn (A : Nat → Nat) (i v : Nat) : Nat → Nat := fun k => if k = i then v else A k
def ck_hr (m : Nat) (P Q : Nat → Nat) (y : Nat → Nat → Int32) : Prop := y 30 3 = nI m ∧ ∀ i, i < m → y 31 i = nI (P i) ∧ y 32 i = nI (Q i)
theorem ab_pk_lt {x : Nat} (h : ab_pk bt n a = nI x) (hx : x < 1000) : a < n := Classical.byContradiction fun z => by
  unfold ab_pk at h
  rw [if_neg z, sI_m1b (by omega)] at h
  exact h
theorem mX1_step (h0 : ck_h0 y0 bt n) {P Q : Nat → Nat} (hm : m < 16) (hQ : ∀ i, Q i < 1000) (ha : a ≤ n) (h : ck_hc y0 bt n a y) (hr : ck_hr m P Q y) : ∃ y', match ab_hst bt n a (ab_hl m Q) with
    | .inl f => fk_ev (d + 4) qX1_step 0 [.ref 30, .null, .null, .null] [] (fk_E N y l) = some (some (.int f), fk_E N y' l) ∧ (∀ k, k ≠ 30 → k ≠ 31 → k ≠ 32 → y' k = y0 k) ∧ ¬ f = nI 0
    | .inr x => fk_ev (d + 4) qX1_step 0 [.ref 30, .null, .null, .null] [] (fk_E N y l) = some (some (.int ((nI 0))), fk_E N y' l) ∧ ck_hc y0 bt n x.1 y' ∧ ck_hr (m + 1) (fk_wn P m x.2.1) (fk_wn Q m x.2.2) y' ∧ a + 3 ≤ x.1 ∧ x.1 ≤ n ∧ x.2.1 < 16 ∧ x.2.2 < 1000 := by
  obtain ⟨t, t1, t2, t3, t4, t5, t6⟩ := id h0
  have d1 := ab_dg_le (bt := bt) (n := n) 2 a 0 ha
  have v1 := ab_dg_v (bt := bt) (n := n) 2 a 0 1 (by omega)
  obtain ⟨y1, e1, h1, k1, k2, k3⟩ := mX1_digits (N := N) (l := l) (d := d) (mo := 2) h0 (by omega) (by omega) ha h
  have e5 := h.2.2
  unfold ab_hst
  generalize ab_dg bt n 2 a 0 = g at d1 v1 e1 h1
  obtain ⟨g1, g2⟩ := g
  try dsimp only at d1 v1 e1 h1 ⊢
  have e51 := h1.2.2
  by_cases c1 : g1 = a
  · rw [if_pos c1] at e1
    rw [if_pos c1]
    subst c1
    refine ⟨y1, ?_, h1.1, fk_flt_1 g1 (by omega)⟩
    simp (disch := first | assumption | omega) only [rX1_step, e5, e1, e51, mX11_faultAt, show (nI 0 ≤ (-1 : Int32)) = False from eq_false (by decide), Option.bind_some, Option.toList_some, Option.toList_none, List.cons_append, List.nil_append, fk_b_0, nI_add, Nat.add_zero, Nat.zero_add, not_true_eq_false, not_false_eq_true, if_true, if_false, sI_le_t, sI_le_f, sI_lt_t, sI_lt_f, sI_eq_t, sI_eq_f, sI_rem, sI_div, sI_m1a, sI_m1b, sI_m1c, sI_m1d, sI_m1e, sI_m1f, sI_m2a, sI_m2b, sI_sub, pk_mul, sI_dec, fk_u_s, fk_u_o, sI_dec0, sI_z, sI_md, Bool.false_eq_true, Nat.reduceAdd, Nat.reduceMul, Nat.reduceSub, Nat.reduceMod, Nat.reduceDiv]
  · rw [if_neg c1] at e1
    rw [if_neg c1]
    by_cases c2 : 16 ≤ g2
    · rw [if_pos c2]
      refine ⟨y1, ?_, h1.1, fk_flt_3 a (by omega)⟩
      simp (disch := first | assumption | omega) only [rX1_step, e5, e1, mX11_faultAt, Option.bind_some, Option.toList_some, Option.toList_none, List.cons_append, List.nil_append, fk_b_0, nI_add, Nat.add_zero, Nat.zero_add, not_true_eq_false, not_false_eq_true, if_true, if_false, sI_le_t, sI_le_f, sI_lt_t, sI_lt_f, sI_eq_t, sI_eq_f, sI_rem, sI_div, sI_m1a, sI_m1b, sI_m1c, sI_m1d, sI_m1e, sI_m1f, sI_m2a, sI_m2b, sI_sub, pk_mul, sI_dec, fk_u_s, fk_u_o, sI_dec0, sI_z, sI_md, Bool.false_eq_true, Nat.reduceAdd, Nat.reduceMul, Nat.reduceSub, Nat.reduceMod, Nat.reduceDiv]
    · rw [if_neg c2]
      have hp := mX1_peek (N := N) (l := l) (d := d + 1) h0 h1 (by omega)
      by_cases c3 : ab_pk bt n g1 = nI 64
      · rw [if_neg (fun z => z c3)]
        have lt := ab_pk_lt c3 (by omega)
        rw [c3] at hp
        have h1' : ck_hc y0 bt n (g1 + 1) (fk_u y1 30 5 (nI (g1 + 1))) := ⟨fun k q1 q2 q3 => by rw [fk_u_rowo q1, h1.1 k q1 q2 q3], by rw [fk_u_o (by omega)]; exact h1.2.1, fk_u_s⟩
        have d2 := ab_dg_le (bt := bt) (n := n) 3 (g1 + 1) 0 (by omega)
        have v2 := ab_dg_v (bt := bt) (n := n) 3 (g1 + 1) 0 1 (by omega)
        obtain ⟨y2, e2, h2, q1, q2, q3⟩ := mX1_digits (N := N) (l := l) (d := d) (mo := 3) h0 (by omega) (by omega) (by omega) h1'
        generalize ab_dg bt n 3 (g1 + 1) 0 = b at d2 v2 e2 h2
        obtain ⟨b1, b2⟩ := b
        try dsimp only at d2 v2 e2 h2 ⊢
        have e52 := h2.2.2
        rw [fk_u_rowo (by omega), k1] at q1
        rw [fk_u_rowo (by omega), k2] at q2
        rw [fk_u_o (by omega), k3] at q3
        have e3 := q3.trans hr.1
        by_cases c4 : b1 = g1 + 1
        · rw [if_pos c4] at e2
          rw [if_pos c4]
          subst c4
          refine ⟨y2, ?_, h2.1, fk_flt_1 (g1 + 1) (by omega)⟩
          simp (disch := first | assumption | omega) only [rX1_step, e5, e1, hp, e51, e2, e52, mX11_faultAt, show (nI 0 ≤ (-1 : Int32)) = False from eq_false (by decide), Option.bind_some, Option.toList_some, Option.toList_none, List.cons_append, List.nil_append, fk_b_0, nI_add, Nat.add_zero, Nat.zero_add, not_true_eq_false, not_false_eq_true, if_true, if_false, sI_le_t, sI_le_f, sI_lt_t, sI_lt_f, sI_eq_t, sI_eq_f, sI_rem, sI_div, sI_m1a, sI_m1b, sI_m1c, sI_m1d, sI_m1e, sI_m1f, sI_m2a, sI_m2b, sI_sub, pk_mul, sI_dec, fk_u_s, fk_u_o, sI_dec0, sI_z, sI_md, Bool.false_eq_true, Nat.reduceAdd, Nat.reduceMul, Nat.reduceSub, Nat.reduceMod, Nat.reduceDiv]
        · rw [if_neg c4] at e2
          rw [if_neg c4]
          by_cases c5 : b2 < ab_hl m Q
          · rw [if_pos c5]
            have m0 : m ≠ 0 := fun z => by unfold ab_hl at c5; rw [if_pos z] at c5; omega
            have c5' : b2 ≤ Q (m - 1) := by unfold ab_hl at c5; rw [if_neg m0] at c5; omega
            have hq := hQ (m - 1)
            have eq : y2 32 (m - 1) = nI (Q (m - 1)) := by rw [q2]; exact (hr.2 (m - 1) (by omega)).2
            refine ⟨y2, ?_, h2.1, fk_flt_6 (g1 + 1) (by omega)⟩
            simp (disch := first | assumption | omega) only [rX1_step, e5, e1, hp, e51, e2, e3, eq, mX11_faultAt, Option.bind_some, Option.toList_some, Option.toList_none, List.cons_append, List.nil_append, fk_b_0, nI_add, Nat.add_zero, Nat.zero_add, not_true_eq_false, not_false_eq_true, if_true, if_false, sI_le_t, sI_le_f, sI_lt_t, sI_lt_f, sI_eq_t, sI_eq_f, sI_rem, sI_div, sI_m1a, sI_m1b, sI_m1c, sI_m1d, sI_m1e, sI_m1f, sI_m2a, sI_m2b, sI_sub, pk_mul, sI_dec, fk_u_s, fk_u_o, sI_dec0, sI_z, sI_md, Bool.false_eq_true, Nat.reduceAdd, Nat.reduceMul, Nat.reduceSub, Nat.reduceMod, Nat.reduceDiv]
          · rw [if_neg c5]
            refine ⟨fk_u (fk_u (fk_u y2 31 m (nI g2)) 32 m (nI b2)) 30 3 (nI (m + 1)), ?_, ⟨fun k r1 r2 r3 => by rw [fk_u_rowo r1, fk_u_rowo r3, fk_u_rowo r2, h2.1 k r1 r2 r3], by rw [fk_u_o (by omega), fk_u_o (by omega), fk_u_o (by omega)]; exact h2.2.1, by rw [fk_u_o (by omega), fk_u_o (by omega), fk_u_o (by omega)]; exact h2.2.2⟩, ⟨fk_u_s, fun i hi => ?_⟩, by dsimp only; omega, by dsimp only; omega, by dsimp only; omega, by dsimp only; omega⟩
            · by_cases m0 : m = 0
              · subst m0
                simp (disch := first | assumption | omega) only [rX1_step, e5, e1, hp, e51, e2, e3, Option.bind_some, Option.toList_some, Option.toList_none, List.cons_append, List.nil_append, fk_b_0, nI_add, Nat.add_zero, Nat.zero_add, not_true_eq_false, not_false_eq_true, if_true, if_false, sI_le_t, sI_le_f, sI_lt_t, sI_lt_f, sI_eq_t, sI_eq_f, sI_rem, sI_div, sI_m1a, sI_m1b, sI_m1c, sI_m1d, sI_m1e, sI_m1f, sI_m2a, sI_m2b, sI_sub, pk_mul, sI_dec, fk_u_s, fk_u_o, sI_dec0, sI_z, sI_md, Bool.false_eq_true, Nat.reduceAdd, Nat.reduceMul, Nat.reduceSub, Nat.reduceMod, Nat.reduceDiv]
              · have c5' : Q (m - 1) < b2 := by unfold ab_hl at c5; rw [if_neg m0] at c5; omega
                have hq := hQ (m - 1)
                have eq : y2 32 (m - 1) = nI (Q (m - 1)) := by rw [q2]; exact (hr.2 (m - 1) (by omega)).2
                simp (disch := first | assumption | omega) only [rX1_step, e5, e1, hp, e51, e2, e3, eq, Option.bind_some, Option.toList_some, Option.toList_none, List.cons_append, List.nil_append, fk_b_0, nI_add, Nat.add_zero, Nat.zero_add, not_true_eq_false, not_false_eq_true, if_true, if_false, sI_le_t, sI_le_f, sI_lt_t, sI_lt_f, sI_eq_t, sI_eq_f, sI_rem, sI_div, sI_m1a, sI_m1b, sI_m1c, sI_m1d, sI_m1e, sI_m1f, sI_m2a, sI_m2b, sI_sub, pk_mul, sI_dec, fk_u_s, fk_u_o, sI_dec0, sI_z, sI_md, Bool.false_eq_true, Nat.reduceAdd, Nat.reduceMul, Nat.reduceSub, Nat.reduceMod, Nat.reduceDiv]
            · unfold fk_wn
              by_cases e : i = m
              · subst e
                rw [fk_u_o (by omega), fk_u_o (by omega), fk_u_s, fk_u_o (by omega), fk_u_s, if_pos rfl, if_pos rfl]
                exact ⟨rfl, rfl⟩
              · rw [fk_u_o (by omega), fk_u_o (by omega), fk_u_o (by omega), fk_u_o (by omega), fk_u_o (by omega), fk_u_o (by omega), if_neg e, if_neg e, q1, q2]
                exact hr.2 i (by omega)
      · rw [if_pos c3]
        refine ⟨y1, ?_, h1.1, fk_flt_1 g1 (by omega)⟩
        simp (disch := first | assumption | omega) only [rX1_step, e5, e1, hp, c3, e51, mX11_faultAt, Option.bind_some, Option.toList_some, Option.toList_none, List.cons_append, List.nil_append, fk_b_0, nI_add, Nat.add_zero, Nat.zero_add, not_true_eq_false, not_false_eq_true, if_true, if_false, sI_le_t, sI_le_f, sI_lt_t, sI_lt_f, sI_eq_t, sI_eq_f, sI_rem, sI_div, sI_m1a, sI_m1b, sI_m1c, sI_m1d, sI_m1e, sI_m1f, sI_m2a, sI_m2b, sI_sub, pk_mul, sI_dec, fk_u_s, fk_u_o, sI_dec0, sI_z, sI_md, Bool.false_eq_true, Nat.reduceAdd, Nat.reduceMul, Nat.reduceSub, Nat.reduceMod, Nat.reduceDiv]
/-- a history read: a fault, or its steps -/
def ab_hs (bt : Nat → Nat) (n : Nat) : Nat → Nat → Nat → (Nat → Nat) → (Nat → Nat) → Int32 ⊕ (Nat × (Nat → Nat) × (Nat → Nat))
  | 0, _, _, _, _ => .inl (nI 0)
  | k + 1, a, m, P, Q => match ab_hst bt n a (ab_hl m Q) with
    | .inl f => .inl f
    | .inr x => if x.1 = n then .inr (m + 1, fk_wn P m x.2.1, fk_wn Q m x.2.2) else if ¬ ab_pk bt n x.1 = nI 44 then .inl (fk_flt 1 x.1) else ab_hs bt n k (x.1 + 1) (m + 1) (fk_wn P m x.2.1) (fk_wn Q m x.2.2)
theorem fk_wn_lt {A : Nat → Nat} {i v x : Nat} (h : ∀ k, A k < x) (hv : v < x) : ∀ k, fk_wn A i v k < x := by
  intro k
  unfold fk_wn
  split
  · exact hv
  · exact h k
theorem mX1_read_loop (h0 : ck_h0 y0 bt n) (hn : n ≤ 60) {nn : Int32} : ∀ k m a P Q y, m + k = 16 → 4 * m ≤ a → a ≤ n → (∀ i, P i < 16) → (∀ i, Q i < 1000) → ck_hc y0 bt n a y → ck_hr m P Q y → ∀ x : Value, ∃ y', match ab_hs bt n k a m P Q with
    | .inl f => fk_ev (d + 5) qX1_read 17 [.ref 30, .int nn, .int (nI m), x] [] (fk_E N y l) = some (some (.int f), fk_E N y' l) ∧ (∀ k, k ≠ 30 → k ≠ 31 → k ≠ 32 → y' k = y0 k) ∧ ¬ f = nI 0
    | .inr x' => fk_ev (d + 5) qX1_read 17 [.ref 30, .int nn, .int (nI m), x] [] (fk_E N y l) = some (some (.int (nI 0)), fk_E N y' l) ∧ (∀ k, k ≠ 30 → k ≠ 31 → k ≠ 32 → y' k = y0 k) ∧ ck_hr x'.1 x'.2.1 x'.2.2 y' ∧ x'.1 ≤ 16 ∧ (∀ i, x'.2.1 i < 16) ∧ (∀ i, x'.2.2 i < 1000) := by
  intro k
  induction k with
  | zero => intro m a P Q y hm hma han; omega
  | succ k ih =>
    intro m a P Q y hm hma han hP hQ h hr x
    obtain ⟨y1, hst⟩ := mX1_step (N := N) (l := l) (d := d) h0 (show m < 16 by omega) hQ han h hr
    unfold ab_hs
    rw [hX1_read_17]
    generalize ab_hst bt n a (ab_hl m Q) = o at hst
    cases o with
    | inl f =>
      try dsimp only at hst ⊢
      obtain ⟨e, f1, f2⟩ := hst
      refine ⟨y1, ?_, f1, f2⟩
      simp (disch := first | assumption | omega) only [rX1_read, e, f2, Option.bind_some, Option.toList_some, Option.toList_none, List.cons_append, List.nil_append, fk_b_0, nI_add, Nat.add_zero, Nat.zero_add, not_true_eq_false, not_false_eq_true, if_true, if_false, sI_le_t, sI_le_f, sI_lt_t, sI_lt_f, sI_eq_t, sI_eq_f, sI_rem, sI_div, sI_m1a, sI_m1b, sI_m1c, sI_m1d, sI_m1e, sI_m1f, sI_m2a, sI_m2b, sI_sub, pk_mul, sI_dec, fk_u_s, fk_u_o, sI_dec0, sI_z, sI_md, Bool.false_eq_true, Nat.reduceAdd, Nat.reduceMul, Nat.reduceSub, Nat.reduceMod, Nat.reduceDiv]
    | inr o =>
      obtain ⟨b, p, q⟩ := o
      try dsimp only at hst ⊢
      obtain ⟨e, f1, f2, f3, f4, f5, f6⟩ := hst
      have e4 := f1.2.1
      have e5 := f1.2.2
      by_cases c1 : b = n
      · rw [if_pos c1]
        subst c1
        refine ⟨y1, ?_, f1.1, f2, by dsimp only; omega, fk_wn_lt hP f5, fk_wn_lt hQ f6⟩
        simp (disch := first | assumption | omega) only [rX1_read, e, e4, e5, Option.bind_some, Option.toList_some, Option.toList_none, List.cons_append, List.nil_append, fk_b_0, nI_add, Nat.add_zero, Nat.zero_add, not_true_eq_false, not_false_eq_true, if_true, if_false, sI_le_t, sI_le_f, sI_lt_t, sI_lt_f, sI_eq_t, sI_eq_f, sI_rem, sI_div, sI_m1a, sI_m1b, sI_m1c, sI_m1d, sI_m1e, sI_m1f, sI_m2a, sI_m2b, sI_sub, pk_mul, sI_dec, fk_u_s, fk_u_o, sI_dec0, sI_z, sI_md, Bool.false_eq_true, Nat.reduceAdd, Nat.reduceMul, Nat.reduceSub, Nat.reduceMod, Nat.reduceDiv]
      · rw [if_neg c1]
        have hp := mX1_peek (N := N) (l := l) (d := d + 2) h0 f1 f4
        by_cases c2 : ab_pk bt n b = nI 44
        · rw [if_neg (fun z => z c2)]
          rw [c2] at hp
          have h1' : ck_hc y0 bt n (b + 1) (fk_u y1 30 5 (nI (b + 1))) := ⟨fun k q1 q2 q3 => by rw [fk_u_rowo q1, f1.1 k q1 q2 q3], by rw [fk_u_o (by omega)]; exact e4, fk_u_s⟩
          have hr' : ck_hr (m + 1) (fk_wn P m p) (fk_wn Q m q) (fk_u y1 30 5 (nI (b + 1))) := ⟨by rw [fk_u_o (by omega)]; exact f2.1, fun i hi => by rw [fk_u_o (by omega), fk_u_o (by omega)]; exact f2.2 i hi⟩
          obtain ⟨y2, hl⟩ := ih (m + 1) (b + 1) (fk_wn P m p) (fk_wn Q m q) (fk_u y1 30 5 (nI (b + 1))) (by omega) (by omega) (by omega) (fk_wn_lt hP f5) (fk_wn_lt hQ f6) h1' hr' (.int (nI 0))
          have ev : fk_ev (d + 5) qX1_read 18 [.ref 30, .int nn, .int (nI m), x] [.int (nI m)] (fk_E N y l) = fk_ev (d + 5) qX1_read 17 [.ref 30, .int nn, .int (nI (m + 1)), .int (nI 0)] [] (fk_E N (fk_u y1 30 5 (nI (b + 1))) l) := by
            simp (disch := first | assumption | omega) only [rX1_read, e, e4, e5, hp, Option.bind_some, Option.toList_some, Option.toList_none, List.cons_append, List.nil_append, fk_b_0, nI_add, Nat.add_zero, Nat.zero_add, not_true_eq_false, not_false_eq_true, if_true, if_false, sI_le_t, sI_le_f, sI_lt_t, sI_lt_f, sI_eq_t, sI_eq_f, sI_rem, sI_div, sI_m1a, sI_m1b, sI_m1c, sI_m1d, sI_m1e, sI_m1f, sI_m2a, sI_m2b, sI_sub, pk_mul, sI_dec, fk_u_s, fk_u_o, sI_dec0, sI_z, sI_md, Bool.false_eq_true, Nat.reduceAdd, Nat.reduceMul, Nat.reduceSub, Nat.reduceMod, Nat.reduceDiv]
          refine ⟨y2, ?_⟩
          rw [ev]
          exact hl
        · rw [if_pos c2]
          refine ⟨y1, ?_, f1.1, fk_flt_1 b (by omega)⟩
          simp (disch := first | assumption | omega) only [rX1_read, e, e4, e5, hp, c2, mX11_faultAt, Option.bind_some, Option.toList_some, Option.toList_none, List.cons_append, List.nil_append, fk_b_0, nI_add, Nat.add_zero, Nat.zero_add, not_true_eq_false, not_false_eq_true, if_true, if_false, sI_le_t, sI_le_f, sI_lt_t, sI_lt_f, sI_eq_t, sI_eq_f, sI_rem, sI_div, sI_m1a, sI_m1b, sI_m1c, sI_m1d, sI_m1e, sI_m1f, sI_m2a, sI_m2b, sI_sub, pk_mul, sI_dec, fk_u_s, fk_u_o, sI_dec0, sI_z, sI_md, Bool.false_eq_true, Nat.reduceAdd, Nat.reduceMul, Nat.reduceSub, Nat.reduceMod, Nat.reduceDiv]
theorem mX1_read (h0 : ck_h0 y bt n) (hn : n ≤ 60) : ∃ y', match ab_hs bt n 16 0 0 (fun _ => 0) (fun _ => 0) with
    | .inl f => fk_ev (d + 5) qX1_read 0 [.ref 30, .int ((nI n)), .null, .null] [] (fk_E N y l) = some (some (.int f), fk_E N y' l) ∧ (∀ k, k ≠ 30 → k ≠ 31 → k ≠ 32 → y' k = y k) ∧ ¬ f = nI 0
    | .inr x' => fk_ev (d + 5) qX1_read 0 [.ref 30, .int ((nI n)), .null, .null] [] (fk_E N y l) = some (some (.int ((nI 0))), fk_E N y' l) ∧ (∀ k, k ≠ 30 → k ≠ 31 → k ≠ 32 → y' k = y k) ∧ ck_hr x'.1 x'.2.1 x'.2.2 y' ∧ x'.1 ≤ 16 ∧ (∀ i, x'.2.1 i < 16) ∧ (∀ i, x'.2.2 i < 1000) := by
  obtain ⟨y', h⟩ := mX1_read_loop (N := N) (l := l) (d := d) (nn := nI n) h0 hn 16 0 0 (fun _ => 0) (fun _ => 0) (fk_u (fk_u (fk_u y 30 4 (nI n)) 30 5 (nI 0)) 30 3 (nI 0)) rfl (by omega) (by omega) (fun _ => by omega) (fun _ => by omega) ⟨fun k q1 q2 q3 => by rw [fk_u_rowo q1, fk_u_rowo q1, fk_u_rowo q1], by rw [fk_u_o (by omega), fk_u_o (by omega), fk_u_s], by rw [fk_u_o (by omega), fk_u_s]⟩ ⟨fk_u_s, fun i hi => by omega⟩ .null
  refine ⟨y', ?_⟩
  have ev : fk_ev (d + 5) qX1_read 0 [.ref 30, .int ((nI n)), .null, .null] [] (fk_E N y l) = fk_ev (d + 5) qX1_read 17 [.ref 30, .int (nI n), .int (nI 0), .null] [] (fk_E N (fk_u (fk_u (fk_u y 30 4 (nI n)) 30 5 (nI 0)) 30 3 (nI 0)) l) := by
    simp (disch := first | assumption | omega) only [rX1_read, Option.bind_some, Option.toList_some, Option.toList_none, List.cons_append, List.nil_append, fk_b_0, nI_add, Nat.add_zero, Nat.zero_add, not_true_eq_false, not_false_eq_true, if_true, if_false, sI_le_t, sI_le_f, sI_lt_t, sI_lt_f, sI_eq_t, sI_eq_f, sI_rem, sI_div, sI_m1a, sI_m1b, sI_m1c, sI_m1d, sI_m1e, sI_m1f, sI_m2a, sI_m2b, sI_sub, pk_mul, sI_dec, fk_u_s, fk_u_o, sI_dec0, sI_z, sI_md, Bool.false_eq_true, Nat.reduceAdd, Nat.reduceMul, Nat.reduceSub, Nat.reduceMod, Nat.reduceDiv]
  rw [ev]
  exact h
end HIS
