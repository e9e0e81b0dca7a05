section JO3
variable {N : Nat} {y y1 y2 : Nat → Nat → Int32} {l : Nat → Nat → Int64} {d k m : Nat}
/-! the next row of the same halves -/
def jp_T (r : Nat → Nat) : Nat → Nat
  | 0 => 0
  | k + 1 => if r (k + 1) < r k then jp_T r k else k + 1
def jp_W (r : Nat → Nat) (t : Nat) : Nat → Nat
  | 0 => 0
  | w + 1 => if t < w + 1 ∧ r (w + 1) < r t then jp_W r t w else w + 1
def jp_sw (r : Nat → Nat) (a b : Nat) : Nat → Nat := fun i => if i = b then r a else if i = a then r b else r i
def jp_rv (r : Nat → Nat) : Nat → Nat → Nat → (Nat → Nat)
  | _, _, 0 => r
  | lo, hi, f + 1 => if lo < hi then jp_rv (jp_sw r lo hi) (lo + 1) (hi - 1) f else r
def jp_nx (r : Nat → Nat) (m : Nat) : Option (Nat → Nat) := if jp_T r (m - 1) = 0 then none else some (jp_rv (jp_sw r (jp_T r (m - 1) - 1) (jp_W r (jp_T r (m - 1) - 1) (m - 1))) (jp_T r (m - 1)) (m - 1) m)
theorem jp_T_le {r : Nat → Nat} : ∀ k, jp_T r k ≤ k := by
  intro k
  induction k with
  | zero => exact Nat.le_refl _
  | succ k ih =>
    unfold jp_T
    split
    · omega
    · exact Nat.le_refl _
theorem jp_W_le {r : Nat → Nat} {t : Nat} : ∀ k, jp_W r t k ≤ k := by
  intro k
  induction k with
  | zero => exact Nat.le_refl _
  | succ k ih =>
    unfold jp_W
    split
    · omega
    · exact Nat.le_refl _
/-- where rows are compared alike, they go on alike -/
theorem jp_T_c {r J : Nat → Nat} : ∀ k, (∀ i j, i ≤ k → j ≤ k → (J (r i) < J (r j) ↔ r i < r j)) → jp_T (fun i => J (r i)) k = jp_T r k := by
  intro k
  induction k with
  | zero => intro _; rfl
  | succ k ih =>
    intro h
    unfold jp_T
    rw [ih fun i j hi hj => h i j (by omega) (by omega)]
    by_cases c : r (k + 1) < r k
    · rw [if_pos ((h (k + 1) k (by omega) (by omega)).mpr c), if_pos c]
    · rw [if_neg fun z => c ((h (k + 1) k (by omega) (by omega)).mp z), if_neg c]
theorem jp_W_c {r J : Nat → Nat} {t n : Nat} (ht : t ≤ n) (h : ∀ i j, i ≤ n → j ≤ n → (J (r i) < J (r j) ↔ r i < r j)) : ∀ k, k ≤ n → jp_W (fun i => J (r i)) t k = jp_W r t k := by
  intro k
  induction k with
  | zero => intro _; rfl
  | succ k ih =>
    intro hk
    unfold jp_W
    rw [ih (by omega)]
    by_cases c : t < k + 1 ∧ r (k + 1) < r t
    · rw [if_pos ⟨c.1, (h (k + 1) t hk ht).mpr c.2⟩, if_pos c]
    · rw [if_neg fun z => c ⟨z.1, (h (k + 1) t hk ht).mp z.2⟩, if_neg c]
theorem jp_sw_c {r J : Nat → Nat} {a b : Nat} : jp_sw (fun i => J (r i)) a b = fun i => J (jp_sw r a b i) := by
  funext i
  unfold jp_sw
  by_cases c1 : i = b
  · rw [if_pos c1, if_pos c1]
  · rw [if_neg c1, if_neg c1]
    by_cases c2 : i = a
    · rw [if_pos c2, if_pos c2]
    · rw [if_neg c2, if_neg c2]
theorem jp_rv_c {J : Nat → Nat} : ∀ f (r : Nat → Nat) lo hi, jp_rv (fun i => J (r i)) lo hi f = fun i => J (jp_rv r lo hi f i) := by
  intro f
  induction f with
  | zero => intro r lo hi; rfl
  | succ f ih =>
    intro r lo hi
    unfold jp_rv
    by_cases c : lo < hi
    · rw [if_pos c, if_pos c, jp_sw_c, ih]
    · rw [if_neg c, if_neg c]
theorem jp_nx_c {r J : Nat → Nat} (h : ∀ i j, i ≤ m - 1 → j ≤ m - 1 → (J (r i) < J (r j) ↔ r i < r j)) : jp_nx (fun i => J (r i)) m = (jp_nx r m).map fun r' i => J (r' i) := by
  unfold jp_nx
  have le := jp_T_le (r := r) (m - 1)
  rw [jp_T_c (m - 1) h]
  by_cases c : jp_T r (m - 1) = 0
  · rw [if_pos c, if_pos c]; rfl
  · rw [if_neg c, if_neg c, jp_W_c (n := m - 1) (by omega) h (m - 1) (Nat.le_refl _), jp_sw_c, jp_rv_c]
    rfl
/-! rows as numbers -/
def jp_d (m c i : Nat) : Nat := c / m ^ (m - 1 - i) % m
def jp_ds (m c : Nat) : Nat → Bool
  | 0 => true
  | k + 1 => (List.range m).all (fun i => !(decide (k < i) && decide (jp_d m c i = jp_d m c k))) && jp_ds m c k
def jp_PL (m : Nat) : List Nat := (List.range (m ^ m)).filter fun c => jp_ds m c m
def jp_ok (m c c' : Nat) : Bool := match jp_nx (jp_d m c) m with
  | some r => (List.range m).all fun i => r i == jp_d m c' i
  | none => false
def jp_ch (m : Nat) : List Nat → Bool
  | [] => true
  | [c] => (jp_nx (jp_d m c) m).isNone
  | c :: c' :: r => jp_ok m c c' && jp_ch m (c' :: r)
def jp_st (m : Nat) : Bool := match jp_PL m with
  | [] => false
  | c :: _ => ((List.range m).all fun i => jp_d m c i == i) && jp_ch m (jp_PL m) && decide ((jp_PL m).length ≤ 120)
theorem jp_st2 : jp_st 2 = true := by decide +kernel
theorem jp_st3 : jp_st 3 = true := by decide +kernel
theorem jp_st4 : jp_st 4 = true := by decide +kernel
theorem jp_st5 : jp_st 5 = true := by decide +kernel
theorem jp_stm (h2 : 2 ≤ m) (h5 : m ≤ 5) : jp_st m = true := by
  have hh : m = 2 ∨ m = 3 ∨ m = 4 ∨ m = 5 := by omega
  rcases hh with rfl | rfl | rfl | rfl
  · exact jp_st2
  · exact jp_st3
  · exact jp_st4
  · exact jp_st5
theorem jp_d_lt {c i : Nat} (h : 1 ≤ m) : jp_d m c i < m := Nat.mod_lt _ (by omega)
/-! the class -/
theorem mX2_swap {r : Nat → Nat} {a b : Nat} (ha : a < m) (hb : b < m) (hm : m ≤ 5) (e : ∀ i, i < m → y 242 i = nI (r i)) : ∃ y', fk_ev d qX2_swap 0 [.ref 241, .int ((nI a)), .int ((nI b)), .null] [] (fk_E N y l) = some (none, fk_E N y' l) ∧ (∀ i, i < m → y' 242 i = nI (jp_sw r a b i)) ∧ ∀ k, k ≠ 242 → y' k = y k := by
  refine ⟨fk_u (fk_u y 242 a (y 242 b)) 242 b (y 242 a), ?_, fun i hi => ?_, fun k hk => by rw [fk_u_rowo hk, fk_u_rowo hk]⟩
  · simp (disch := first | assumption | omega) only [rX2_swap, Option.bind_some, Option.toList_some, Option.toList_none, List.cons_append, List.nil_append, fk_b_0, nI_add, Nat.add_zero, Nat.zero_add, not_true_eq_false, not_false_eq_true, if_true, if_false, sI_le_t, sI_le_f, sI_lt_t, sI_lt_f, sI_eq_t, sI_eq_f, sI_rem, sI_div, sI_m1a, sI_m1b, sI_m1c, sI_m1d, sI_m1e, sI_m1f, sI_m2a, sI_m2b, sI_sub, pk_mul, sI_dec, fk_u_s, fk_u_o, sI_dec0, sI_z, sI_md, Bool.false_eq_true, Nat.reduceAdd, Nat.reduceMul, Nat.reduceSub, Nat.reduceMod, Nat.reduceDiv]
  · unfold jp_sw
    by_cases c1 : i = b
    · rw [if_pos c1, c1, fk_u_s]
      exact e a ha
    · rw [if_neg c1, fk_u_o (by omega)]
      by_cases c2 : i = a
      · rw [if_pos c2, c2, fk_u_s]
        exact e b hb
      · rw [if_neg c2, fk_u_o (by omega)]
        exact e i hi
theorem mX2_go_rev (hm : m ≤ 5) {x1 x2 : Value} : ∀ f lo hi (r : Nat → Nat) y, hi ≤ lo + f → hi < m → lo ≤ m → (∀ i, i < m → y 242 i = nI (r i)) → ∃ y', fk_ev (d + 1) qX2_goOn 91 [.ref 241, x1, x2, .int (nI hi), .int (nI lo)] [] (fk_E N y l) = some (some (.int (nI 1)), fk_E N y' l) ∧ (∀ i, i < m → y' 242 i = nI (jp_rv r lo hi f i)) ∧ ∀ k, k ≠ 242 → y' k = y k := by
  intro f
  induction f with
  | zero =>
    intro lo hi r y h1 h2 h3 e
    refine ⟨y, ?_, e, fun _ _ => rfl⟩
    rw [hX2_goOn_91]
    simp (disch := first | assumption | omega) only [rX2_goOn, Option.bind_some, Option.toList_some, Option.toList_none, List.cons_append, List.nil_append, fk_b_0, nI_add, Nat.add_zero, Nat.zero_add, not_true_eq_false, not_false_eq_true, if_true, if_false, sI_le_t, sI_le_f, sI_lt_t, sI_lt_f, sI_eq_t, sI_eq_f, sI_rem, sI_div, sI_m1a, sI_m1b, sI_m1c, sI_m1d, sI_m1e, sI_m1f, sI_m2a, sI_m2b, sI_sub, pk_mul, sI_dec, fk_u_s, fk_u_o, sI_dec0, sI_z, sI_md, Bool.false_eq_true, Nat.reduceAdd, Nat.reduceMul, Nat.reduceSub, Nat.reduceMod, Nat.reduceDiv]
  | succ f ih =>
    intro lo hi r y h1 h2 h3 e
    unfold jp_rv
    rw [hX2_goOn_91]
    by_cases c : lo < hi
    · rw [if_pos c]
      obtain ⟨y1, e1, e2, e3⟩ := mX2_swap (N := N) (l := l) (d := d) (a := lo) (b := hi) (by omega) h2 hm e
      obtain ⟨y', g1, g2, g3⟩ := ih (lo + 1) (hi - 1) (jp_sw r lo hi) y1 (by omega) (by omega) (by omega) e2
      refine ⟨y', ?_, g2, fun k hk => (g3 k hk).trans (e3 k hk)⟩
      rw [← g1]
      simp (disch := first | assumption | omega) only [rX2_goOn, e1, Option.bind_some, Option.toList_some, Option.toList_none, List.cons_append, List.nil_append, fk_b_0, nI_add, Nat.add_zero, Nat.zero_add, not_true_eq_false, not_false_eq_true, if_true, if_false, sI_le_t, sI_le_f, sI_lt_t, sI_lt_f, sI_eq_t, sI_eq_f, sI_rem, sI_div, sI_m1a, sI_m1b, sI_m1c, sI_m1d, sI_m1e, sI_m1f, sI_m2a, sI_m2b, sI_sub, pk_mul, sI_dec, fk_u_s, fk_u_o, sI_dec0, sI_z, sI_md, Bool.false_eq_true, Nat.reduceAdd, Nat.reduceMul, Nat.reduceSub, Nat.reduceMod, Nat.reduceDiv]
    · rw [if_neg c]
      refine ⟨y, ?_, e, fun _ _ => rfl⟩
      simp (disch := first | assumption | omega) only [rX2_goOn, Option.bind_some, Option.toList_some, Option.toList_none, List.cons_append, List.nil_append, fk_b_0, nI_add, Nat.add_zero, Nat.zero_add, not_true_eq_false, not_false_eq_true, if_true, if_false, sI_le_t, sI_le_f, sI_lt_t, sI_lt_f, sI_eq_t, sI_eq_f, sI_rem, sI_div, sI_m1a, sI_m1b, sI_m1c, sI_m1d, sI_m1e, sI_m1f, sI_m2a, sI_m2b, sI_sub, pk_mul, sI_dec, fk_u_s, fk_u_o, sI_dec0, sI_z, sI_md, Bool.false_eq_true, Nat.reduceAdd, Nat.reduceMul, Nat.reduceSub, Nat.reduceMod, Nat.reduceDiv]
theorem mX2_go_T {r : Nat → Nat} (hm : m ≤ 5) (u : ∀ i, r i < 64) (e : ∀ i, i < m → y 242 i = nI (r i)) {x2 x3 x4 : Value} : ∀ k, k < m → fk_ev (d + 1) qX2_goOn 7 [.ref 241, .int (if k = 0 then (-1) else nI (k - 1)), x2, x3, x4] [] (fk_E N y l) = fk_ev (d + 1) qX2_goOn 34 [.ref 241, .int (if jp_T r k = 0 then (-1) else nI (jp_T r k - 1)), x2, x3, x4] [] (fk_E N y l) := by
  intro k
  induction k with
  | zero =>
    intro _
    rw [hX2_goOn_7]
    show fk_ev (d + 1) qX2_goOn 8 [.ref 241, .int (-1), x2, x3, x4] [.int (-1)] (fk_E N y l) = fk_ev (d + 1) qX2_goOn 34 [.ref 241, .int (-1), x2, x3, x4] [] (fk_E N y l)
    obtain ⟨q0, q1, q4, q5, q6, q8, _⟩ := rX2_goOn
    simp only [rX2_goOn, show ((-1 : Int32) < nI 0) = True from eq_true (by decide), if_true]
  | succ k ih =>
    intro hk
    have u1 := u k
    have u2 := u (k + 1)
    have i1 := ih (by omega)
    rw [hX2_goOn_7, if_neg (show ¬ k + 1 = 0 by omega), show k + 1 - 1 = k by omega]
    unfold jp_T
    by_cases c : r (k + 1) < r k
    · rw [if_pos c, ← i1]
      by_cases k0 : k = 0
      · subst k0
        rw [if_pos rfl]
        simp (disch := first | assumption | omega) only [rX2_goOn, e 0 (by omega), e 1 (by omega), Option.bind_some, Option.toList_some, Option.toList_none, List.cons_append, List.nil_append, fk_b_0, nI_add, Nat.add_zero, Nat.zero_add, not_true_eq_false, not_false_eq_true, if_true, if_false, sI_le_t, sI_le_f, sI_lt_t, sI_lt_f, sI_eq_t, sI_eq_f, sI_rem, sI_div, sI_m1a, sI_m1b, sI_m1c, sI_m1d, sI_m1e, sI_m1f, sI_m2a, sI_m2b, sI_sub, pk_mul, sI_dec, fk_u_s, fk_u_o, sI_dec0, sI_z, sI_md, Bool.false_eq_true, Nat.reduceAdd, Nat.reduceMul, Nat.reduceSub, Nat.reduceMod, Nat.reduceDiv]
      · rw [if_neg k0]
        simp (disch := first | assumption | omega) only [rX2_goOn, e k (by omega), e (k + 1) (by omega), Option.bind_some, Option.toList_some, Option.toList_none, List.cons_append, List.nil_append, fk_b_0, nI_add, Nat.add_zero, Nat.zero_add, not_true_eq_false, not_false_eq_true, if_true, if_false, sI_le_t, sI_le_f, sI_lt_t, sI_lt_f, sI_eq_t, sI_eq_f, sI_rem, sI_div, sI_m1a, sI_m1b, sI_m1c, sI_m1d, sI_m1e, sI_m1f, sI_m2a, sI_m2b, sI_sub, pk_mul, sI_dec, fk_u_s, fk_u_o, sI_dec0, sI_z, sI_md, Bool.false_eq_true, Nat.reduceAdd, Nat.reduceMul, Nat.reduceSub, Nat.reduceMod, Nat.reduceDiv]
    · rw [if_neg c, if_neg (show ¬ k + 1 = 0 by omega), show k + 1 - 1 = k by omega]
      simp (disch := first | assumption | omega) only [rX2_goOn, e k (by omega), e (k + 1) (by omega), Option.bind_some, Option.toList_some, Option.toList_none, List.cons_append, List.nil_append, fk_b_0, nI_add, Nat.add_zero, Nat.zero_add, not_true_eq_false, not_false_eq_true, if_true, if_false, sI_le_t, sI_le_f, sI_lt_t, sI_lt_f, sI_eq_t, sI_eq_f, sI_rem, sI_div, sI_m1a, sI_m1b, sI_m1c, sI_m1d, sI_m1e, sI_m1f, sI_m2a, sI_m2b, sI_sub, pk_mul, sI_dec, fk_u_s, fk_u_o, sI_dec0, sI_z, sI_md, Bool.false_eq_true, Nat.reduceAdd, Nat.reduceMul, Nat.reduceSub, Nat.reduceMod, Nat.reduceDiv]
theorem mX2_go_W {r : Nat → Nat} {t : Nat} (hm : m ≤ 5) (u : ∀ i, r i < 64) (ht : t < m) (e : ∀ i, i < m → y 242 i = nI (r i)) {x3 x4 : Value} : ∀ w, w < m → fk_ev (d + 1) qX2_goOn 47 [.ref 241, .int (nI t), .int (nI w), x3, x4] [] (fk_E N y l) = fk_ev (d + 1) qX2_goOn 73 [.ref 241, .int (nI t), .int (nI (jp_W r t w)), x3, x4] [] (fk_E N y l) := by
  intro w
  induction w with
  | zero =>
    intro _
    rw [hX2_goOn_47]
    unfold jp_W
    simp (disch := first | assumption | omega) only [rX2_goOn, Option.bind_some, Option.toList_some, Option.toList_none, List.cons_append, List.nil_append, fk_b_0, nI_add, Nat.add_zero, Nat.zero_add, not_true_eq_false, not_false_eq_true, if_true, if_false, sI_le_t, sI_le_f, sI_lt_t, sI_lt_f, sI_eq_t, sI_eq_f, sI_rem, sI_div, sI_m1a, sI_m1b, sI_m1c, sI_m1d, sI_m1e, sI_m1f, sI_m2a, sI_m2b, sI_sub, pk_mul, sI_dec, fk_u_s, fk_u_o, sI_dec0, sI_z, sI_md, Bool.false_eq_true, Nat.reduceAdd, Nat.reduceMul, Nat.reduceSub, Nat.reduceMod, Nat.reduceDiv]
  | succ w ih =>
    intro hw
    have u1 := u t
    have u2 := u (w + 1)
    rw [hX2_goOn_47]
    unfold jp_W
    by_cases c1 : t < w + 1
    · by_cases c2 : r (w + 1) < r t
      · rw [if_pos ⟨c1, c2⟩, ← ih (by omega)]
        simp (disch := first | assumption | omega) only [rX2_goOn, e t ht, e (w + 1) hw, show w + 1 - 1 = w by omega, Option.bind_some, Option.toList_some, Option.toList_none, List.cons_append, List.nil_append, fk_b_0, nI_add, Nat.add_zero, Nat.zero_add, not_true_eq_false, not_false_eq_true, if_true, if_false, sI_le_t, sI_le_f, sI_lt_t, sI_lt_f, sI_eq_t, sI_eq_f, sI_rem, sI_div, sI_m1a, sI_m1b, sI_m1c, sI_m1d, sI_m1e, sI_m1f, sI_m2a, sI_m2b, sI_sub, pk_mul, sI_dec, fk_u_s, fk_u_o, sI_dec0, sI_z, sI_md, Bool.false_eq_true, Nat.reduceAdd, Nat.reduceMul, Nat.reduceSub, Nat.reduceMod, Nat.reduceDiv]
      · rw [if_neg fun z => c2 z.2]
        simp (disch := first | assumption | omega) only [rX2_goOn, e t ht, e (w + 1) hw, Option.bind_some, Option.toList_some, Option.toList_none, List.cons_append, List.nil_append, fk_b_0, nI_add, Nat.add_zero, Nat.zero_add, not_true_eq_false, not_false_eq_true, if_true, if_false, sI_le_t, sI_le_f, sI_lt_t, sI_lt_f, sI_eq_t, sI_eq_f, sI_rem, sI_div, sI_m1a, sI_m1b, sI_m1c, sI_m1d, sI_m1e, sI_m1f, sI_m2a, sI_m2b, sI_sub, pk_mul, sI_dec, fk_u_s, fk_u_o, sI_dec0, sI_z, sI_md, Bool.false_eq_true, Nat.reduceAdd, Nat.reduceMul, Nat.reduceSub, Nat.reduceMod, Nat.reduceDiv]
    · rw [if_neg fun z => c1 z.1]
      simp (disch := first | assumption | omega) only [rX2_goOn, Option.bind_some, Option.toList_some, Option.toList_none, List.cons_append, List.nil_append, fk_b_0, nI_add, Nat.add_zero, Nat.zero_add, not_true_eq_false, not_false_eq_true, if_true, if_false, sI_le_t, sI_le_f, sI_lt_t, sI_lt_f, sI_eq_t, sI_eq_f, sI_rem, sI_div, sI_m1a, sI_m1b, sI_m1c, sI_m1d, sI_m1e, sI_m1f, sI_m2a, sI_m2b, sI_sub, pk_mul, sI_dec, fk_u_s, fk_u_o, sI_dec0, sI_z, sI_md, Bool.false_eq_true, Nat.reduceAdd, Nat.reduceMul, Nat.reduceSub, Nat.reduceMod, Nat.reduceDiv]
theorem mX2_goOn {r : Nat → Nat} (hm1 : 2 ≤ m) (hm : m ≤ 5) (u : ∀ i, r i < 64) (e : ∀ i, i < m → y 242 i = nI (r i)) (e241 : y 241 2 = nI m) : match jp_nx r m with
    | none => fk_ev (d + 1) qX2_goOn 0 [.ref 241, .null, .null, .null, .null] [] (fk_E N y l) = some (some (.int ((nI 0))), fk_E N y l)
    | some r' => ∃ y', fk_ev (d + 1) qX2_goOn 0 [.ref 241, .null, .null, .null, .null] [] (fk_E N y l) = some (some (.int ((nI 1))), fk_E N y' l) ∧ (∀ i, i < m → y' 242 i = nI (r' i)) ∧ ∀ k, k ≠ 242 → y' k = y k := by
  have eT := mX2_go_T (N := N) (l := l) (d := d) (x2 := .null) (x3 := .null) (x4 := .null) hm u e (m - 1) (by omega)
  have le := jp_T_le (r := r) (m - 1)
  have st : fk_ev (d + 1) qX2_goOn 0 [.ref 241, .null, .null, .null, .null] [] (fk_E N y l) = fk_ev (d + 1) qX2_goOn 7 [.ref 241, .int (if m - 1 = 0 then (-1) else nI (m - 1 - 1)), .null, .null, .null] [] (fk_E N y l) := by
    rw [if_neg (show ¬ m - 1 = 0 by omega), show m - 1 - 1 = m - 2 by omega]
    simp (disch := first | assumption | omega) only [rX2_goOn, e241, Option.bind_some, Option.toList_some, Option.toList_none, List.cons_append, List.nil_append, fk_b_0, nI_add, Nat.add_zero, Nat.zero_add, not_true_eq_false, not_false_eq_true, if_true, if_false, sI_le_t, sI_le_f, sI_lt_t, sI_lt_f, sI_eq_t, sI_eq_f, sI_rem, sI_div, sI_m1a, sI_m1b, sI_m1c, sI_m1d, sI_m1e, sI_m1f, sI_m2a, sI_m2b, sI_sub, pk_mul, sI_dec, fk_u_s, fk_u_o, sI_dec0, sI_z, sI_md, Bool.false_eq_true, Nat.reduceAdd, Nat.reduceMul, Nat.reduceSub, Nat.reduceMod, Nat.reduceDiv]
  unfold jp_nx
  by_cases c : jp_T r (m - 1) = 0
  · rw [if_pos c]
    try dsimp only
    rw [st, eT, if_pos c]
    simp (disch := first | assumption | omega) only [rX2_goOn, show (nI 0 ≤ (-1 : Int32)) = False from eq_false (by decide), Option.bind_some, Option.toList_some, Option.toList_none, List.cons_append, List.nil_append, fk_b_0, nI_add, Nat.add_zero, Nat.zero_add, not_true_eq_false, not_false_eq_true, if_true, if_false, sI_le_t, sI_le_f, sI_lt_t, sI_lt_f, sI_eq_t, sI_eq_f, sI_rem, sI_div, sI_m1a, sI_m1b, sI_m1c, sI_m1d, sI_m1e, sI_m1f, sI_m2a, sI_m2b, sI_sub, pk_mul, sI_dec, fk_u_s, fk_u_o, sI_dec0, sI_z, sI_md, Bool.false_eq_true, Nat.reduceAdd, Nat.reduceMul, Nat.reduceSub, Nat.reduceMod, Nat.reduceDiv]
  · rw [if_neg c]
    try dsimp only
    rw [if_neg c] at eT
    generalize et : jp_T r (m - 1) = t1 at c le eT
    have eW := mX2_go_W (N := N) (l := l) (d := d) (x3 := .null) (x4 := .null) (t := t1 - 1) hm u (by omega) e (m - 1) (by omega)
    have lw := jp_W_le (r := r) (t := t1 - 1) (m - 1)
    generalize jp_W r (t1 - 1) (m - 1) = w at eW lw
    obtain ⟨y1, s1, s2, s3⟩ := mX2_swap (N := N) (l := l) (d := d) (a := t1 - 1) (b := w) (by omega) (by omega) hm e
    have z241 : y1 241 2 = nI m := by rw [s3 241 (by omega)]; exact e241
    obtain ⟨y', g1, g2, g3⟩ := mX2_go_rev (N := N) (l := l) (d := d) (x1 := .int (nI (t1 - 1))) (x2 := .int (nI w)) hm m t1 (m - 1) (jp_sw r (t1 - 1) w) y1 (by omega) (by omega) (by omega) s2
    refine ⟨y', ?_, g2, fun k hk => (g3 k hk).trans (s3 k hk)⟩
    rw [st, eT]
    have a1 : fk_ev (d + 1) qX2_goOn 34 [.ref 241, .int (nI (t1 - 1)), .null, .null, .null] [] (fk_E N y l) = fk_ev (d + 1) qX2_goOn 47 [.ref 241, .int (nI (t1 - 1)), .int (nI (m - 1)), .null, .null] [] (fk_E N y l) := by
      simp (disch := first | assumption | omega) only [rX2_goOn, e241, Option.bind_some, Option.toList_some, Option.toList_none, List.cons_append, List.nil_append, fk_b_0, nI_add, Nat.add_zero, Nat.zero_add, not_true_eq_false, not_false_eq_true, if_true, if_false, sI_le_t, sI_le_f, sI_lt_t, sI_lt_f, sI_eq_t, sI_eq_f, sI_rem, sI_div, sI_m1a, sI_m1b, sI_m1c, sI_m1d, sI_m1e, sI_m1f, sI_m2a, sI_m2b, sI_sub, pk_mul, sI_dec, fk_u_s, fk_u_o, sI_dec0, sI_z, sI_md, Bool.false_eq_true, Nat.reduceAdd, Nat.reduceMul, Nat.reduceSub, Nat.reduceMod, Nat.reduceDiv]
    rw [a1, eW, ← g1]
    simp (disch := first | assumption | omega) only [rX2_goOn, s1, z241, show t1 - 1 + 1 = t1 by omega, Option.bind_some, Option.toList_some, Option.toList_none, List.cons_append, List.nil_append, fk_b_0, nI_add, Nat.add_zero, Nat.zero_add, not_true_eq_false, not_false_eq_true, if_true, if_false, sI_le_t, sI_le_f, sI_lt_t, sI_lt_f, sI_eq_t, sI_eq_f, sI_rem, sI_div, sI_m1a, sI_m1b, sI_m1c, sI_m1d, sI_m1e, sI_m1f, sI_m2a, sI_m2b, sI_sub, pk_mul, sI_dec, fk_u_s, fk_u_o, sI_dec0, sI_z, sI_md, Bool.false_eq_true, Nat.reduceAdd, Nat.reduceMul, Nat.reduceSub, Nat.reduceMod, Nat.reduceDiv]
end JO3
