/-! THE LAW: the reference reads a sum -/
section SR2
variable {N : Nat} {y y0 y1 y2 y' : Nat → Nat → Int32} {l : Nat → Nat → Int64} {d n a o k x c i b q : Nat} {bt : Nat → Nat} {R R2 w w0 : List (Nat × Nat)} {v : Int32} {u : List Nat}
def lz_pr (u : List Nat) : List (Nat × Nat) := u.map fun s => (s, 0)
theorem lz_pr_len : (lz_pr u).length = u.length := List.length_map ..
/-- no sign of a sum on top -/
def lz_nt (w : List (Nat × Nat)) : Prop := ∀ e v, w = e :: v → ¬ (2 ≤ e.1 ∧ e.1 ≤ 6)
theorem lz_cs_wt {all : Bool} : ∀ u : List Nat, (lz_cs all u).1.length + lz_wt (lz_pr (lz_cs all u).2) = lz_wt (lz_pr u) := by
  intro u
  induction u with
  | nil => rfl
  | cons s u ih =>
    unfold lz_cs
    by_cases c : (4 ≤ s ∧ s ≤ 6) ∨ (all = true ∧ (s = 2 ∨ s = 3))
    · rw [if_pos c]
      have e : lz_wt (lz_pr (s :: u)) = 1 + lz_wt (lz_pr u) := by
        show (if s ≤ 10 then 1 else 0) + lz_wt (lz_pr u) = _
        rw [if_pos (by omega)]
      rw [e]
      show (lz_cs all u).1.length + 1 + lz_wt (lz_pr (lz_cs all u).2) = 1 + lz_wt (lz_pr u)
      omega
    · rw [if_neg c]
      exact Nat.zero_add _
theorem lz_cs_len {all : Bool} : ∀ u : List Nat, (lz_cs all u).2.length ≤ u.length := by
  intro u
  induction u with
  | nil => exact Nat.le_refl _
  | cons s u ih =>
    unfold lz_cs
    by_cases c : (4 ≤ s ∧ s ≤ 6) ∨ (all = true ∧ (s = 2 ∨ s = 3))
    · rw [if_pos c]
      exact Nat.le_succ_of_le ih
    · rw [if_neg c]
      exact Nat.le_refl _
theorem lz_cs_sub {all : Bool} : ∀ (u : List Nat) s, s ∈ (lz_cs all u).2 → s ∈ u := by
  intro u
  induction u with
  | nil => intro s h; exact h
  | cons t u ih =>
    intro s
    unfold lz_cs
    by_cases c : (4 ≤ t ∧ t ≤ 6) ∨ (all = true ∧ (t = 2 ∨ t = 3))
    · rw [if_pos c]
      exact fun h => List.mem_cons_of_mem _ (ih s h)
    · rw [if_neg c]
      exact fun h => h
theorem mX12_closesSums {all : Bool} (hw0 : lz_nt w0) : ∀ (u : List Nat) (R : List (Nat × Nat)) (y : Nat → Nat → Int32), (∀ s ∈ u, s < 15) → R.length + lz_wt (lz_pr u) < 260 → u.length + w0.length ≤ 250 → lz_rc y0 bt n a R (lz_pr u ++ w0) o y → ∃ y', fk_ev (d + 1) qX12_closesSums 0 [.ref 246, .int ((if all = true then nI 1 else nI 0))] [] (fk_E N y l) = some (none, fk_E N y' l) ∧ lz_rc y0 bt n a (R ++ (lz_cs all u).1) (lz_pr (lz_cs all u).2 ++ w0) o y' := by
  intro u
  induction u with
  | nil =>
    intro R y _ _ hl h
    have hwt := mX12_waitTop (N := N) (l := l) (d := d) h (by show (lz_pr [] ++ w0).length ≤ 250; rw [List.length_append, lz_pr_len]; exact hl)
    refine ⟨y, ?_, by show lz_rc y0 bt n a (R ++ []) (lz_pr [] ++ w0) o y; rw [List.append_nil]; exact h⟩
    have hwt : fk_ev d qX12_waitTop 0 [.ref 246] [] (fk_E N y l) = some (some (.int ((lz_top w0))), fk_E N y l) := hwt
    rw [hX12_closesSums_0]
    cases w0 with
    | nil =>
      have hwt : fk_ev d qX12_waitTop 0 [.ref 246] [] (fk_E N y l) = some (some (.int ((-1))), fk_E N y l) := hwt
      cases all with
      | false => rw [if_neg (by decide)]; simp (disch := first | assumption | omega) only [rX12_closesSums, hwt, Option.bind_some, Option.toList_some, Option.toList_none, List.cons_append, List.nil_append, fk_b_0, nI_add, Nat.add_zero, Nat.zero_add, not_true_eq_false, not_false_eq_true, if_true, if_false, sI_le_t, sI_le_f, sI_lt_t, sI_lt_f, sI_eq_t, sI_eq_f, sI_rem, sI_div, sI_m1a, sI_m1b, sI_m1c, sI_m1d, sI_m1e, sI_m1f, sI_m2a, sI_m2b, sI_sub, pk_mul, sI_dec, fk_u_s, fk_u_o, sI_dec0, sI_z, sI_md, Bool.false_eq_true, Nat.reduceAdd, Nat.reduceMul, Nat.reduceSub, Nat.reduceMod, Nat.reduceDiv]
      | true => rw [if_pos rfl]; simp (disch := first | assumption | omega) only [rX12_closesSums, hwt, Option.bind_some, Option.toList_some, Option.toList_none, List.cons_append, List.nil_append, fk_b_0, nI_add, Nat.add_zero, Nat.zero_add, not_true_eq_false, not_false_eq_true, if_true, if_false, sI_le_t, sI_le_f, sI_lt_t, sI_lt_f, sI_eq_t, sI_eq_f, sI_rem, sI_div, sI_m1a, sI_m1b, sI_m1c, sI_m1d, sI_m1e, sI_m1f, sI_m2a, sI_m2b, sI_sub, pk_mul, sI_dec, fk_u_s, fk_u_o, sI_dec0, sI_z, sI_md, Bool.false_eq_true, Nat.reduceAdd, Nat.reduceMul, Nat.reduceSub, Nat.reduceMod, Nat.reduceDiv]
    | cons e w0 =>
      have hwt : fk_ev d qX12_waitTop 0 [.ref 246] [] (fk_E N y l) = some (some (.int ((nI e.1))), fk_E N y l) := hwt
      have h15 : e.1 < 15 := h.2.2.2.1.1.2.1
      have hn := hw0 e w0 rfl
      generalize e.1 = s at *
      by_cases s4 : s < 4
      · have n2 : s ≠ 2 := by omega
        have n3 : s ≠ 3 := by omega
        cases all with
        | false => rw [if_neg (by decide)]; simp (disch := first | assumption | omega) only [rX12_closesSums, hwt, Option.bind_some, Option.toList_some, Option.toList_none, List.cons_append, List.nil_append, fk_b_0, nI_add, Nat.add_zero, Nat.zero_add, not_true_eq_false, not_false_eq_true, if_true, if_false, sI_le_t, sI_le_f, sI_lt_t, sI_lt_f, sI_eq_t, sI_eq_f, sI_rem, sI_div, sI_m1a, sI_m1b, sI_m1c, sI_m1d, sI_m1e, sI_m1f, sI_m2a, sI_m2b, sI_sub, pk_mul, sI_dec, fk_u_s, fk_u_o, sI_dec0, sI_z, sI_md, Bool.false_eq_true, Nat.reduceAdd, Nat.reduceMul, Nat.reduceSub, Nat.reduceMod, Nat.reduceDiv]
        | true => rw [if_pos rfl]; simp (disch := first | assumption | omega) only [rX12_closesSums, hwt, Option.bind_some, Option.toList_some, Option.toList_none, List.cons_append, List.nil_append, fk_b_0, nI_add, Nat.add_zero, Nat.zero_add, not_true_eq_false, not_false_eq_true, if_true, if_false, sI_le_t, sI_le_f, sI_lt_t, sI_lt_f, sI_eq_t, sI_eq_f, sI_rem, sI_div, sI_m1a, sI_m1b, sI_m1c, sI_m1d, sI_m1e, sI_m1f, sI_m2a, sI_m2b, sI_sub, pk_mul, sI_dec, fk_u_s, fk_u_o, sI_dec0, sI_z, sI_md, Bool.false_eq_true, Nat.reduceAdd, Nat.reduceMul, Nat.reduceSub, Nat.reduceMod, Nat.reduceDiv]
      · have n6 : 6 < s := by omega
        cases all with
        | false => rw [if_neg (by decide)]; simp (disch := first | assumption | omega) only [rX12_closesSums, hwt, Option.bind_some, Option.toList_some, Option.toList_none, List.cons_append, List.nil_append, fk_b_0, nI_add, Nat.add_zero, Nat.zero_add, not_true_eq_false, not_false_eq_true, if_true, if_false, sI_le_t, sI_le_f, sI_lt_t, sI_lt_f, sI_eq_t, sI_eq_f, sI_rem, sI_div, sI_m1a, sI_m1b, sI_m1c, sI_m1d, sI_m1e, sI_m1f, sI_m2a, sI_m2b, sI_sub, pk_mul, sI_dec, fk_u_s, fk_u_o, sI_dec0, sI_z, sI_md, Bool.false_eq_true, Nat.reduceAdd, Nat.reduceMul, Nat.reduceSub, Nat.reduceMod, Nat.reduceDiv]
        | true => rw [if_pos rfl]; simp (disch := first | assumption | omega) only [rX12_closesSums, hwt, Option.bind_some, Option.toList_some, Option.toList_none, List.cons_append, List.nil_append, fk_b_0, nI_add, Nat.add_zero, Nat.zero_add, not_true_eq_false, not_false_eq_true, if_true, if_false, sI_le_t, sI_le_f, sI_lt_t, sI_lt_f, sI_eq_t, sI_eq_f, sI_rem, sI_div, sI_m1a, sI_m1b, sI_m1c, sI_m1d, sI_m1e, sI_m1f, sI_m2a, sI_m2b, sI_sub, pk_mul, sI_dec, fk_u_s, fk_u_o, sI_dec0, sI_z, sI_md, Bool.false_eq_true, Nat.reduceAdd, Nat.reduceMul, Nat.reduceSub, Nat.reduceMod, Nat.reduceDiv]
  | cons s u ih =>
    intro R y hu hR hl h
    have hl : u.length + 1 + w0.length ≤ 250 := hl
    have h15 := hu s (List.mem_cons_self ..)
    have hwt := mX12_waitTop (N := N) (l := l) (d := d) h (by rw [List.length_append, lz_pr_len]; exact hl)
    have hwt : fk_ev d qX12_waitTop 0 [.ref 246] [] (fk_E N y l) = some (some (.int ((nI s))), fk_E N y l) := hwt
    have e16 := h.2.2.1.2
    have e17 : y 246 17 = nI ((lz_pr u ++ w0).length + 1) := h.2.2.2.1.2
    have hwl : (lz_pr u ++ w0).length ≤ 250 := by rw [List.length_append, lz_pr_len]; omega
    by_cases c : (4 ≤ s ∧ s ≤ 6) ∨ (all = true ∧ (s = 2 ∨ s = 3))
    · have ew : lz_wt (lz_pr (s :: u)) = 1 + lz_wt (lz_pr u) := by
        show (if s ≤ 10 then 1 else 0) + lz_wt (lz_pr u) = _
        rw [if_pos (by omega)]
      have r1 := lz_rc_note (k := s) (x := 0) h (by omega) (by omega)
      have r2 := lz_rc_pop (e := (s, 0)) (w := lz_pr u ++ w0) r1
      obtain ⟨y', e, r3⟩ := ih (R ++ [(s, 0)]) _ (fun t ht => hu t (List.mem_cons_of_mem _ ht)) (by rw [List.length_append]; show R.length + 1 + _ < 260; omega) (by omega) r2
      refine ⟨y', ?_, ?_⟩
      · rw [← e, hX12_closesSums_0]
        have hno := fun Y hY => mX12_notes (N := N) (l := l) (d := d) (y := Y) (m := R.length) (k := s) (x := 0) hY (by omega) (by omega) (by omega)
        have hno := hno y e16
        have ea : (lz_pr u ++ w0).length + 1 - 1 = (lz_pr u ++ w0).length := rfl
        generalize (lz_pr u ++ w0).length = W at *
        generalize R.length = M at *
        rcases c with c | ⟨c0, c⟩
        · simp (disch := first | assumption | omega) only [rX12_closesSums, hwt, hno, e17, ea, Option.bind_some, Option.toList_some, Option.toList_none, List.cons_append, List.nil_append, fk_b_0, nI_add, Nat.add_zero, Nat.zero_add, not_true_eq_false, not_false_eq_true, if_true, if_false, sI_le_t, sI_le_f, sI_lt_t, sI_lt_f, sI_eq_t, sI_eq_f, sI_rem, sI_div, sI_m1a, sI_m1b, sI_m1c, sI_m1d, sI_m1e, sI_m1f, sI_m2a, sI_m2b, sI_sub, pk_mul, sI_dec, fk_u_s, fk_u_o, sI_dec0, sI_z, sI_md, Bool.false_eq_true, Nat.reduceAdd, Nat.reduceMul, Nat.reduceSub, Nat.reduceMod, Nat.reduceDiv]
        · subst c0
          rw [if_pos rfl]
          rcases c with rfl | rfl
          · simp (disch := first | assumption | omega) only [rX12_closesSums, hwt, hno, e17, ea, Option.bind_some, Option.toList_some, Option.toList_none, List.cons_append, List.nil_append, fk_b_0, nI_add, Nat.add_zero, Nat.zero_add, not_true_eq_false, not_false_eq_true, if_true, if_false, sI_le_t, sI_le_f, sI_lt_t, sI_lt_f, sI_eq_t, sI_eq_f, sI_rem, sI_div, sI_m1a, sI_m1b, sI_m1c, sI_m1d, sI_m1e, sI_m1f, sI_m2a, sI_m2b, sI_sub, pk_mul, sI_dec, fk_u_s, fk_u_o, sI_dec0, sI_z, sI_md, Bool.false_eq_true, Nat.reduceAdd, Nat.reduceMul, Nat.reduceSub, Nat.reduceMod, Nat.reduceDiv]
          · simp (disch := first | assumption | omega) only [rX12_closesSums, hwt, hno, e17, ea, Option.bind_some, Option.toList_some, Option.toList_none, List.cons_append, List.nil_append, fk_b_0, nI_add, Nat.add_zero, Nat.zero_add, not_true_eq_false, not_false_eq_true, if_true, if_false, sI_le_t, sI_le_f, sI_lt_t, sI_lt_f, sI_eq_t, sI_eq_f, sI_rem, sI_div, sI_m1a, sI_m1b, sI_m1c, sI_m1d, sI_m1e, sI_m1f, sI_m2a, sI_m2b, sI_sub, pk_mul, sI_dec, fk_u_s, fk_u_o, sI_dec0, sI_z, sI_md, Bool.false_eq_true, Nat.reduceAdd, Nat.reduceMul, Nat.reduceSub, Nat.reduceMod, Nat.reduceDiv]
      · have e1 : lz_cs all (s :: u) = ((s, 0) :: (lz_cs all u).1, (lz_cs all u).2) := if_pos c
        rw [e1]
        show lz_rc y0 bt n a (R ++ (s, 0) :: (lz_cs all u).1) _ o y'
        rw [List.append_assoc] at r3
        exact r3
    · have e1 : lz_cs all (s :: u) = ([], s :: u) := if_neg c
      rw [e1]
      refine ⟨y, ?_, by show lz_rc y0 bt n a (R ++ []) _ o y; rw [List.append_nil]; exact h⟩
      rw [hX12_closesSums_0]
      by_cases s4 : s < 4
      · cases all with
        | false => rw [if_neg (by decide)]; simp (disch := first | assumption | omega) only [rX12_closesSums, hwt, Option.bind_some, Option.toList_some, Option.toList_none, List.cons_append, List.nil_append, fk_b_0, nI_add, Nat.add_zero, Nat.zero_add, not_true_eq_false, not_false_eq_true, if_true, if_false, sI_le_t, sI_le_f, sI_lt_t, sI_lt_f, sI_eq_t, sI_eq_f, sI_rem, sI_div, sI_m1a, sI_m1b, sI_m1c, sI_m1d, sI_m1e, sI_m1f, sI_m2a, sI_m2b, sI_sub, pk_mul, sI_dec, fk_u_s, fk_u_o, sI_dec0, sI_z, sI_md, Bool.false_eq_true, Nat.reduceAdd, Nat.reduceMul, Nat.reduceSub, Nat.reduceMod, Nat.reduceDiv]
        | true =>
          have n2 : s ≠ 2 := fun z => c (Or.inr ⟨rfl, Or.inl z⟩)
          have n3 : s ≠ 3 := fun z => c (Or.inr ⟨rfl, Or.inr z⟩)
          rw [if_pos rfl]; simp (disch := first | assumption | omega) only [rX12_closesSums, hwt, Option.bind_some, Option.toList_some, Option.toList_none, List.cons_append, List.nil_append, fk_b_0, nI_add, Nat.add_zero, Nat.zero_add, not_true_eq_false, not_false_eq_true, if_true, if_false, sI_le_t, sI_le_f, sI_lt_t, sI_lt_f, sI_eq_t, sI_eq_f, sI_rem, sI_div, sI_m1a, sI_m1b, sI_m1c, sI_m1d, sI_m1e, sI_m1f, sI_m2a, sI_m2b, sI_sub, pk_mul, sI_dec, fk_u_s, fk_u_o, sI_dec0, sI_z, sI_md, Bool.false_eq_true, Nat.reduceAdd, Nat.reduceMul, Nat.reduceSub, Nat.reduceMod, Nat.reduceDiv]
      · have n6 : 6 < s := by omega
        cases all with
        | false => rw [if_neg (by decide)]; simp (disch := first | assumption | omega) only [rX12_closesSums, hwt, Option.bind_some, Option.toList_some, Option.toList_none, List.cons_append, List.nil_append, fk_b_0, nI_add, Nat.add_zero, Nat.zero_add, not_true_eq_false, not_false_eq_true, if_true, if_false, sI_le_t, sI_le_f, sI_lt_t, sI_lt_f, sI_eq_t, sI_eq_f, sI_rem, sI_div, sI_m1a, sI_m1b, sI_m1c, sI_m1d, sI_m1e, sI_m1f, sI_m2a, sI_m2b, sI_sub, pk_mul, sI_dec, fk_u_s, fk_u_o, sI_dec0, sI_z, sI_md, Bool.false_eq_true, Nat.reduceAdd, Nat.reduceMul, Nat.reduceSub, Nat.reduceMod, Nat.reduceDiv]
        | true => rw [if_pos rfl]; simp (disch := first | assumption | omega) only [rX12_closesSums, hwt, Option.bind_some, Option.toList_some, Option.toList_none, List.cons_append, List.nil_append, fk_b_0, nI_add, Nat.add_zero, Nat.zero_add, not_true_eq_false, not_false_eq_true, if_true, if_false, sI_le_t, sI_le_f, sI_lt_t, sI_lt_f, sI_eq_t, sI_eq_f, sI_rem, sI_div, sI_m1a, sI_m1b, sI_m1c, sI_m1d, sI_m1e, sI_m1f, sI_m2a, sI_m2b, sI_sub, pk_mul, sI_dec, fk_u_s, fk_u_o, sI_dec0, sI_z, sI_md, Bool.false_eq_true, Nat.reduceAdd, Nat.reduceMul, Nat.reduceSub, Nat.reduceMod, Nat.reduceDiv]
theorem lz_ws_at : ∀ (w1 : List (Nat × Nat)) (e : Nat × Nat) (w2 : List (Nat × Nat)), lz_ws y (w1 ++ e :: w2) → y 257 w2.length = nI (1048576 * e.1 + e.2) ∧ e.1 < 15 ∧ e.2 < 1048576 := by
  intro w1
  induction w1 with
  | nil => intro e w2 h; exact ⟨h.1, h.2.1, h.2.2.1⟩
  | cons c w1 ih => intro e w2 h; exact ih e w2 h.2.2.2
/-- is a sum open above the base -/
theorem mX12_hos (h : lz_rc y0 bt n a R (lz_pr u ++ w0) o y) (hl : u.length + w0.length ≤ 250) : ∀ (t2 t1 : List Nat), t1 ++ t2 = u.reverse → 14 ∉ t1 → fk_ev d qX12_hasOpenSum 2 [.ref 246, .int (nI w0.length), .int (nI (w0.length + t1.length))] [] (fk_E N y l) = some (some (.int (fk_b (14 ∈ t2))), fk_E N y l) := by
  have e17 : y 246 17 = nI (u.length + w0.length) := by
    have := h.2.2.2.1.2
    rw [List.length_append, lz_pr_len] at this
    exact this
  intro t2
  induction t2 with
  | nil =>
    intro t1 e hn
    rw [List.append_nil] at e
    have el : t1.length = u.length := by rw [e, List.length_reverse]
    rw [fk_b_f List.not_mem_nil, hX12_hasOpenSum_2]
    simp (disch := first | assumption | omega) only [rX12_hasOpenSum, e17, Option.bind_some, Option.toList_some, Option.toList_none, List.cons_append, List.nil_append, fk_b_0, nI_add, Nat.add_zero, Nat.zero_add, not_true_eq_false, not_false_eq_true, if_true, if_false, sI_le_t, sI_le_f, sI_lt_t, sI_lt_f, sI_eq_t, sI_eq_f, sI_rem, sI_div, sI_m1a, sI_m1b, sI_m1c, sI_m1d, sI_m1e, sI_m1f, sI_m2a, sI_m2b, sI_sub, pk_mul, sI_dec, fk_u_s, fk_u_o, sI_dec0, sI_z, sI_md, Bool.false_eq_true, Nat.reduceAdd, Nat.reduceMul, Nat.reduceSub, Nat.reduceMod, Nat.reduceDiv]
  | cons s t2 ih =>
    intro t1 e hn
    have el : t1.length + (t2.length + 1) = u.length := by rw [← List.length_reverse (as := u), ← e, List.length_append]; rfl
    have eu : u = t2.reverse ++ s :: t1.reverse := by
      rw [← List.reverse_reverse u, ← e, List.reverse_append, List.reverse_cons, List.append_assoc]
      rfl
    have hw := h.2.2.2.1.1
    have ep : lz_pr u ++ w0 = lz_pr t2.reverse ++ (s, 0) :: (lz_pr t1.reverse ++ w0) := by
      rw [eu]
      unfold lz_pr
      rw [List.map_append, List.append_assoc]
      rfl
    rw [ep] at hw
    obtain ⟨g1, g2, g3⟩ := lz_ws_at _ _ _ hw
    have g1 : y 257 (lz_pr t1.reverse ++ w0).length = nI (1048576 * s + 0) := g1
    have g2 : s < 15 := g2
    have ex : (lz_pr t1.reverse ++ w0).length = w0.length + t1.length := by rw [List.length_append, lz_pr_len, List.length_reverse]; omega
    rw [ex] at g1
    have e2 := lz_dv (o := s) (x := 0) (by omega)
    have e3 : (1048576 * s + 0) / 1048576 = s := e2
    rw [hX12_hasOpenSum_2]
    by_cases c : s = 14
    · rw [fk_b_t (by rw [c]; exact List.mem_cons_self ..)]
      have hW : w0.length + t1.length < u.length + w0.length := by omega
      generalize w0.length + t1.length = W at *
      simp (disch := first | assumption | omega) only [rX12_hasOpenSum, e17, g1, e3, Option.bind_some, Option.toList_some, Option.toList_none, List.cons_append, List.nil_append, fk_b_0, nI_add, Nat.add_zero, Nat.zero_add, not_true_eq_false, not_false_eq_true, if_true, if_false, sI_le_t, sI_le_f, sI_lt_t, sI_lt_f, sI_eq_t, sI_eq_f, sI_rem, sI_div, sI_m1a, sI_m1b, sI_m1c, sI_m1d, sI_m1e, sI_m1f, sI_m2a, sI_m2b, sI_sub, pk_mul, sI_dec, fk_u_s, fk_u_o, sI_dec0, sI_z, sI_md, Bool.false_eq_true, Nat.reduceAdd, Nat.reduceMul, Nat.reduceSub, Nat.reduceMod, Nat.reduceDiv]
    · have ihh := ih (t1 ++ [s]) (by rw [List.append_assoc]; exact e) (fun z => (List.mem_append.mp z).elim hn (fun z => c (List.mem_singleton.mp z).symm))
      have el2 : w0.length + (t1 ++ [s]).length = w0.length + t1.length + 1 := by rw [List.length_append]; rfl
      rw [el2] at ihh
      have em : fk_b (14 ∈ s :: t2) = fk_b (14 ∈ t2) := by
        by_cases cm : 14 ∈ t2
        · rw [fk_b_t cm, fk_b_t (List.mem_cons_of_mem _ cm)]
        · rw [fk_b_f cm, fk_b_f fun z => cm ((List.mem_cons.mp z).resolve_left fun z => c z.symm)]
      rw [em, ← ihh]
      have hW : w0.length + t1.length < u.length + w0.length := by omega
      generalize w0.length + t1.length = W at *
      simp (disch := first | assumption | omega) only [rX12_hasOpenSum, e17, g1, e3, Option.bind_some, Option.toList_some, Option.toList_none, List.cons_append, List.nil_append, fk_b_0, nI_add, Nat.add_zero, Nat.zero_add, not_true_eq_false, not_false_eq_true, if_true, if_false, sI_le_t, sI_le_f, sI_lt_t, sI_lt_f, sI_eq_t, sI_eq_f, sI_rem, sI_div, sI_m1a, sI_m1b, sI_m1c, sI_m1d, sI_m1e, sI_m1f, sI_m2a, sI_m2b, sI_sub, pk_mul, sI_dec, fk_u_s, fk_u_o, sI_dec0, sI_z, sI_md, Bool.false_eq_true, Nat.reduceAdd, Nat.reduceMul, Nat.reduceSub, Nat.reduceMod, Nat.reduceDiv]
theorem mX12_hasOpenSum (h : lz_rc y0 bt n a R (lz_pr u ++ w0) o y) (hl : u.length + w0.length ≤ 250) : fk_ev d qX12_hasOpenSum 0 [.ref 246, .int ((nI w0.length)), .null] [] (fk_E N y l) = some (some (.int ((fk_b (14 ∈ u)))), fk_E N y l) := by
  have := mX12_hos (N := N) (l := l) (d := d) h hl u.reverse [] rfl List.not_mem_nil
  have em : fk_b (14 ∈ u.reverse) = fk_b (14 ∈ u) := by
    by_cases cm : 14 ∈ u
    · rw [fk_b_t cm, fk_b_t (List.mem_reverse.mpr cm)]
    · rw [fk_b_f cm, fk_b_f fun z => cm (List.mem_reverse.mp z)]
  rw [em] at this
  rw [← this]
  show _ = fk_ev d qX12_hasOpenSum 2 [.ref 246, .int (nI w0.length), .int (nI w0.length)] [] (fk_E N y l)
  simp (disch := first | assumption | omega) only [rX12_hasOpenSum, Option.bind_some, Option.toList_some, Option.toList_none, List.cons_append, List.nil_append, fk_b_0, nI_add, Nat.add_zero, Nat.zero_add, not_true_eq_false, not_false_eq_true, if_true, if_false, sI_le_t, sI_le_f, sI_lt_t, sI_lt_f, sI_eq_t, sI_eq_f, sI_rem, sI_div, sI_m1a, sI_m1b, sI_m1c, sI_m1d, sI_m1e, sI_m1f, sI_m2a, sI_m2b, sI_sub, pk_mul, sI_dec, fk_u_s, fk_u_o, sI_dec0, sI_z, sI_md, Bool.false_eq_true, Nat.reduceAdd, Nat.reduceMul, Nat.reduceSub, Nat.reduceMod, Nat.reduceDiv]
/-- how a reading ends -/
def lz_end (N : Nat) (l : Nat → Nat → Int64) (y0 : Nat → Nat → Int32) (bt : Nat → Nat) (n : Nat) (w0 : List (Nat × Nat)) (ev : Option (Option Value × fk_H)) (r : Int32 ⊕ (Nat × List (Nat × Nat) × Nat)) : Prop := match r with
  | .inl e => ∃ y', ev = some (some (.int (nI 0)), fk_E N y' l) ∧ fk_s7 y0 y' ∧ y' 246 13 = e
  | .inr x => ∃ y', ev = some (some (.int (nI 1)), fk_E N y' l) ∧ lz_rc y0 bt n x.1 x.2.1 w0 x.2.2 y'
theorem lz_cs_all : ∀ u : List Nat, (∀ s ∈ u, (2 ≤ s ∧ s ≤ 6) ∨ s = 14) → 14 ∉ u → (lz_cs true u).2 = [] := by
  intro u
  induction u with
  | nil => intro _ _; rfl
  | cons s u ih =>
    intro h h14
    have hs := h s (List.mem_cons_self ..)
    have s14 : s ≠ 14 := fun z => h14 (by rw [z]; exact List.mem_cons_self ..)
    have e1 : lz_cs true (s :: u) = ((s, 0) :: (lz_cs true u).1, (lz_cs true u).2) := if_pos (Decidable.byCases (p := 4 ≤ s) (fun h4 => Or.inl ⟨h4, by omega⟩) (fun h4 => Or.inr ⟨rfl, by omega⟩))
    rw [e1]
    exact ih (fun t ht => h t (List.mem_cons_of_mem _ ht)) fun z => h14 (List.mem_cons_of_mem _ z)
theorem lz_cs_14 : ∀ u : List Nat, (∀ s ∈ u, (2 ≤ s ∧ s ≤ 6) ∨ s = 14) → 14 ∈ u → ∃ t, (lz_cs true u).2 = 14 :: t := by
  intro u
  induction u with
  | nil => intro _ h; exact absurd h List.not_mem_nil
  | cons s u ih =>
    intro h h14
    have hs := h s (List.mem_cons_self ..)
    by_cases s14 : s = 14
    · refine ⟨u, ?_⟩
      have e1 : lz_cs true (s :: u) = ([], s :: u) := if_neg (by omega)
      rw [e1, s14]
    · have e1 : lz_cs true (s :: u) = ((s, 0) :: (lz_cs true u).1, (lz_cs true u).2) := if_pos (Decidable.byCases (p := 4 ≤ s) (fun h4 => Or.inl ⟨h4, by omega⟩) (fun h4 => Or.inr ⟨rfl, by omega⟩))
      rw [e1]
      exact ih (fun t ht => h t (List.mem_cons_of_mem _ ht)) ((List.mem_cons.mp h14).resolve_left fun z => s14 z.symm)
def lz_nf : List Nat → Nat
  | [] => 0
  | s :: u => (if s = 14 then 1 else 0) + lz_nf u
theorem lz_cs_nf {all : Bool} : ∀ u : List Nat, lz_nf (lz_cs all u).2 = lz_nf u := by
  intro u
  induction u with
  | nil => rfl
  | cons s u ih =>
    unfold lz_cs
    by_cases c : (4 ≤ s ∧ s ≤ 6) ∨ (all = true ∧ (s = 2 ∨ s = 3))
    · rw [if_pos c]
      show lz_nf (lz_cs all u).2 = (if s = 14 then 1 else 0) + lz_nf u
      rw [ih, if_neg (by omega)]
      omega
    · rw [if_neg c]
theorem mX12_sum_sim (hw0 : lz_nt w0) : ∀ k m a R u o y r, lz_ms bt n k m a R u o = some r → (∀ s ∈ u, (2 ≤ s ∧ s ≤ 6) ∨ s = 14) → R.length + lz_wt (lz_pr u) ≤ a → u.length + w0.length ≤ a → lz_nf u ≤ o ∧ o ≤ 6 → lz_rc y0 bt n a R (lz_pr u ++ w0) o y →
    if m = true then ∃ g y1, fk_ev (d + 3) qX12_readsFactor 0 [.ref 246, .null] [] (fk_E N y l) = some (some (.int g), fk_E N y1 l) ∧ ((g = nI 0 ∧ ∃ e, r = .inl e ∧ fk_s7 y0 y1 ∧ y1 246 13 = e) ∨ (g = nI 1 ∧ ∀ x, lz_end N l y0 bt n w0 (fk_ev (d + 4) qX12_readsSum 14 [.ref 246, .int (nI w0.length), x] [] (fk_E N y1 l)) r))
    else ∀ x, lz_end N l y0 bt n w0 (fk_ev (d + 4) qX12_readsSum 14 [.ref 246, .int (nI w0.length), x] [] (fk_E N y l)) r := by
  intro k
  induction k with
  | zero => intro m a R u o y r h; cases h
  | succ k ih =>
    intro m a R u o y r h hu hR hl ho hr
    have htx := hr.2.1
    obtain ⟨e11, e12, hbt, b6, h5, h6⟩ := id htx
    have e16 := hr.2.2.1.2
    have e17 : y 246 17 = nI (u.length + w0.length) := by
      have := hr.2.2.2.1.2
      rw [List.length_append, lz_pr_len] at this
      exact this
    have e15 := hr.2.2.2.2
    have u15 : ∀ s ∈ u, s < 15 := fun s hs => by have := hu s hs; omega
    cases m with
    | true =>
      rw [if_pos rfl]
      rw [lz_ms_F] at h
      have hh := mX12_here (N := N) (l := l) (d := d + 2) htx
      have hh3 := mX12_here (N := N) (l := l) (d := d + 2) htx
      have hd := mX12_isDigit (N := N) (l := l) (d := d + 1) htx
      by_cases c1 : a < n ∧ bt a = 91
      · rw [if_pos c1] at h
        have ep : ab_pk bt n a = nI 91 := by rw [← c1.2]; exact if_pos c1.1
        rw [ep] at hh
        by_cases c2 : o = 6
        · rw [if_pos c2] at h
          cases h
          have hop := mX12_opens_f (N := N) (l := l) (d := d + 1) (v := nI 14) (by rw [e15, c2]) e11
          refine ⟨nI 0, _, ?_, Or.inl ⟨rfl, _, rfl, fk_s7_u hr.1 (by omega), fk_u_s⟩⟩
          rw [hX12_readsFactor_0]
          simp (disch := first | assumption | omega) only [rX12_readsFactor, hh, hop, Option.bind_some, Option.toList_some, Option.toList_none, List.cons_append, List.nil_append, fk_b_0, nI_add, Nat.add_zero, Nat.zero_add, not_true_eq_false, not_false_eq_true, if_true, if_false, sI_le_t, sI_le_f, sI_lt_t, sI_lt_f, sI_eq_t, sI_eq_f, sI_rem, sI_div, sI_m1a, sI_m1b, sI_m1c, sI_m1d, sI_m1e, sI_m1f, sI_m2a, sI_m2b, sI_sub, pk_mul, sI_dec, fk_u_s, fk_u_o, sI_dec0, sI_z, sI_md, Bool.false_eq_true, Nat.reduceAdd, Nat.reduceMul, Nat.reduceSub, Nat.reduceMod, Nat.reduceDiv]
        · rw [if_neg c2] at h
          obtain ⟨y1, hop, r1⟩ := mX12_opens (N := N) (l := l) (d := d + 1) (k := 14) hr (by omega) (by omega) (by rw [List.length_append, lz_pr_len]; omega) c1.1
          have r1 : lz_rc y0 bt n (a + 1) R (lz_pr (14 :: u) ++ w0) (o + 1) y1 := r1
          have hih := ih true (a + 1) R (14 :: u) (o + 1) y1 r h (fun s hs => (List.mem_cons.mp hs).elim Or.inr (hu s)) (by show R.length + ((if (14 : Nat) ≤ 10 then 1 else 0) + lz_wt (lz_pr u)) ≤ a + 1; rw [if_neg (by omega)]; omega) (by show u.length + 1 + w0.length ≤ a + 1; omega) (by show (if (14 : Nat) = 14 then 1 else 0) + lz_nf u ≤ o + 1 ∧ o + 1 ≤ 6; rw [if_pos rfl]; omega) r1
          rw [if_pos rfl] at hih
          obtain ⟨g, y2, h1, h2⟩ := hih
          refine ⟨g, y2, ?_, h2⟩
          rw [← h1, hX12_readsFactor_0]
          simp (disch := first | assumption | omega) only [rX12_readsFactor, hh, hop, Option.bind_some, Option.toList_some, Option.toList_none, List.cons_append, List.nil_append, fk_b_0, nI_add, Nat.add_zero, Nat.zero_add, not_true_eq_false, not_false_eq_true, if_true, if_false, sI_le_t, sI_le_f, sI_lt_t, sI_lt_f, sI_eq_t, sI_eq_f, sI_rem, sI_div, sI_m1a, sI_m1b, sI_m1c, sI_m1d, sI_m1e, sI_m1f, sI_m2a, sI_m2b, sI_sub, pk_mul, sI_dec, fk_u_s, fk_u_o, sI_dec0, sI_z, sI_md, Bool.false_eq_true, Nat.reduceAdd, Nat.reduceMul, Nat.reduceSub, Nat.reduceMod, Nat.reduceDiv]
      · rw [if_neg c1] at h
        have np : ¬ ab_pk bt n a = nI 91 := fun z => by
          have lt := ab_pk_lt z (by omega)
          have : ab_pk bt n a = nI (bt a) := if_pos lt
          rw [this] at z
          have := (nI_eq (by have := b6 a; omega) (by omega)).mp z
          exact c1 ⟨lt, this⟩
        by_cases c2 : ab_dd bt n a
        · rw [if_pos c2] at h
          rw [fk_b_t c2] at hd
          obtain ⟨y1, s1, hn⟩ := mX12_readsNumber (N := N) (l := l) (d := d) htx
          rcases hn with ⟨c3, e1, e13⟩ | ⟨c3, e1, e11', e14⟩
          · rw [if_pos c3] at h
            cases h
            refine ⟨nI 0, y1, ?_, Or.inl ⟨rfl, _, rfl, fk_s7_3 hr.1 s1, e13⟩⟩
            rw [hX12_readsFactor_0]
            simp (disch := first | assumption | omega) only [rX12_readsFactor, hh, np, hd, e1, Option.bind_some, Option.toList_some, Option.toList_none, List.cons_append, List.nil_append, fk_b_0, nI_add, Nat.add_zero, Nat.zero_add, not_true_eq_false, not_false_eq_true, if_true, if_false, sI_le_t, sI_le_f, sI_lt_t, sI_lt_f, sI_eq_t, sI_eq_f, sI_rem, sI_div, sI_m1a, sI_m1b, sI_m1c, sI_m1d, sI_m1e, sI_m1f, sI_m2a, sI_m2b, sI_sub, pk_mul, sI_dec, fk_u_s, fk_u_o, sI_dec0, sI_z, sI_md, Bool.false_eq_true, Nat.reduceAdd, Nat.reduceMul, Nat.reduceSub, Nat.reduceMod, Nat.reduceDiv]
          · rw [if_neg c3] at h
            have le := ab_dg_le (bt := bt) (n := n) 5 a 0 h5
            have vv := ab_dg_v (bt := bt) (n := n) 5 a 0 1 (by omega)
            have d2 : a + 1 ≤ (ab_dg bt n 5 a 0).1 := by
              unfold ab_dg
              rw [if_pos c2]
              exact (ab_dg_le (bt := bt) (n := n) 4 (a + 1) _ c2.1).1
            have r1 := lz_rc_3 hr s1 le.2.1 e11'
            generalize ab_dg bt n 5 a 0 = g at *
            have e16' : y1 246 16 = nI R.length := r1.2.2.1.2
            have r2 := lz_rc_note (k := 0) (x := g.2) r1 (by omega) (by omega)
            have hno := mX12_notes (N := N) (l := l) (d := d + 2) (k := 0) (x := g.2) e16' (by omega) (by omega) (by omega)
            have hih := ih false g.1 (R ++ [(0, g.2)]) u o _ r h hu (by rw [List.length_append]; show R.length + 1 + _ ≤ g.1; omega) (by omega) ho r2
            rw [if_neg (by decide)] at hih
            refine ⟨nI 1, _, ?_, Or.inr ⟨rfl, hih⟩⟩
            rw [hX12_readsFactor_0]
            simp (disch := first | assumption | omega) only [rX12_readsFactor, hh, np, hd, e1, e14, hno, Option.bind_some, Option.toList_some, Option.toList_none, List.cons_append, List.nil_append, fk_b_0, nI_add, Nat.add_zero, Nat.zero_add, not_true_eq_false, not_false_eq_true, if_true, if_false, sI_le_t, sI_le_f, sI_lt_t, sI_lt_f, sI_eq_t, sI_eq_f, sI_rem, sI_div, sI_m1a, sI_m1b, sI_m1c, sI_m1d, sI_m1e, sI_m1f, sI_m2a, sI_m2b, sI_sub, pk_mul, sI_dec, fk_u_s, fk_u_o, sI_dec0, sI_z, sI_md, Bool.false_eq_true, Nat.reduceAdd, Nat.reduceMul, Nat.reduceSub, Nat.reduceMod, Nat.reduceDiv]
        · rw [if_neg c2] at h
          rw [fk_b_f c2] at hd
          by_cases c3 : a < n ∧ lz_li (bt a) < 14
          · rw [if_pos c3] at h
            have ep : ab_pk bt n a = nI (bt a) := if_pos c3.1
            have hfa := mX12_factOf (d := d + 2) (b6 a) (h := fk_E N y l)
            rw [if_pos c3.2] at hfa
            have r1 := lz_rc_note (k := 1) (x := lz_li (bt a)) hr (by omega) (by omega)
            have r2 := lz_rc_at (b := a + 1) r1 c3.1
            have hno := mX12_notes (N := N) (l := l) (d := d + 2) (k := 1) (x := lz_li (bt a)) e16 (by omega) (by omega) (by omega)
            have hih := ih false (a + 1) (R ++ [(1, lz_li (bt a))]) u o _ r h hu (by rw [List.length_append]; show R.length + 1 + _ ≤ a + 1; omega) (by omega) ho r2
            rw [if_neg (by decide)] at hih
            refine ⟨nI 1, _, ?_, Or.inr ⟨rfl, hih⟩⟩
            rw [hX12_readsFactor_0]
            rw [ep] at hh np
            have li := c3.2
            generalize lz_li (bt a) = li at *
            simp (disch := first | assumption | omega) only [rX12_readsFactor, hh, np, hd, hfa, hno, e11, Option.bind_some, Option.toList_some, Option.toList_none, List.cons_append, List.nil_append, fk_b_0, nI_add, Nat.add_zero, Nat.zero_add, not_true_eq_false, not_false_eq_true, if_true, if_false, sI_le_t, sI_le_f, sI_lt_t, sI_lt_f, sI_eq_t, sI_eq_f, sI_rem, sI_div, sI_m1a, sI_m1b, sI_m1c, sI_m1d, sI_m1e, sI_m1f, sI_m2a, sI_m2b, sI_sub, pk_mul, sI_dec, fk_u_s, fk_u_o, sI_dec0, sI_z, sI_md, Bool.false_eq_true, Nat.reduceAdd, Nat.reduceMul, Nat.reduceSub, Nat.reduceMod, Nat.reduceDiv]
          · rw [if_neg c3] at h
            cases h
            have hfa : fk_ev (d + 2) qX12_factOf 0 [.int (ab_pk bt n a)] [] (fk_E N y l) = some (some (.int (-1)), fk_E N y l) := by
              by_cases lt : a < n
              · have ep : ab_pk bt n a = nI (bt a) := if_pos lt
                have hfa := mX12_factOf (d := d + 2) (b6 a) (h := fk_E N y l)
                rw [if_neg (fun z => c3 ⟨lt, z⟩)] at hfa
                rw [ep]
                exact hfa
              · have ep : ab_pk bt n a = (-1) := if_neg lt
                rw [ep]
                exact mX12_factOf_n
            refine ⟨nI 0, fk_u y 246 13 (fk_flt 1 a), ?_, Or.inl ⟨rfl, _, rfl, fk_s7_u hr.1 (by omega), fk_u_s⟩⟩
            rw [hX12_readsFactor_0]
            simp (disch := first | assumption | omega) only [rX12_readsFactor, hh, np, hd, hfa, e11, mX12_wrongAt, Option.bind_some, Option.toList_some, Option.toList_none, List.cons_append, List.nil_append, fk_b_0, nI_add, Nat.add_zero, Nat.zero_add, not_true_eq_false, not_false_eq_true, if_true, if_false, sI_le_t, sI_le_f, sI_lt_t, sI_lt_f, sI_eq_t, sI_eq_f, sI_rem, sI_div, sI_m1a, sI_m1b, sI_m1c, sI_m1d, sI_m1e, sI_m1f, sI_m2a, sI_m2b, sI_sub, pk_mul, sI_dec, fk_u_s, fk_u_o, sI_dec0, sI_z, sI_md, Bool.false_eq_true, Nat.reduceAdd, Nat.reduceMul, Nat.reduceSub, Nat.reduceMod, Nat.reduceDiv]
    | false =>
      rw [if_neg (by decide)]
      intro x
      rw [lz_ms_S] at h
      have hh := mX12_here (N := N) (l := l) (d := d + 3) htx
      have hos := mX12_hasOpenSum (N := N) (l := l) (d := d + 3) hr (by omega)
      rw [hX12_readsSum_14]
      by_cases c1 : a < n ∧ lz_sn (bt a) = true
      · rw [if_pos c1] at h
        have ep : ab_pk bt n a = nI (bt a) := if_pos c1.1
        have hsg := mX12_sumSign (d := d + 3) (b6 a) (h := fk_E N y l)
        rw [lz_sI_t c1.2] at hsg
        have sv := lz_sn_v _ c1.2
        obtain ⟨y1, hcl, r1⟩ := mX12_closesSums (N := N) (l := l) (d := d + 2) (all := decide (lz_sg (bt a) < 4)) hw0 u R y u15 (by omega) (by omega) hr
        have cw := lz_cs_wt (all := decide (lz_sg (bt a) < 4)) u
        have cl := lz_cs_len (all := decide (lz_sg (bt a) < 4)) u
        have csub := lz_cs_sub (all := decide (lz_sg (bt a) < 4)) u
        have cn := lz_cs_nf (all := decide (lz_sg (bt a) < 4)) u
        generalize lz_cs (decide (lz_sg (bt a) < 4)) u = p at *
        have e17' : y1 246 17 = nI (p.2.length + w0.length) := by
          have := r1.2.2.2.1.2
          rw [List.length_append, lz_pr_len] at this
          exact this
        have e11' : y1 246 11 = nI a := r1.2.1.1
        have r2 := lz_rc_push (k := lz_sg (bt a)) (x := 0) r1 (by omega) (by omega)
        have r3 := lz_rc_at (b := a + 1) r2 c1.1
        rw [show (lz_pr p.2 ++ w0).length = p.2.length + w0.length by rw [List.length_append, lz_pr_len]] at r3
        have r3 : lz_rc y0 bt n (a + 1) (R ++ p.1) (lz_pr (lz_sg (bt a) :: p.2) ++ w0) o _ := r3
        have hih := ih true (a + 1) (R ++ p.1) (lz_sg (bt a) :: p.2) o _ r h (fun s hs => (List.mem_cons.mp hs).elim (fun z => by omega) (fun z => hu s (csub s z))) (by rw [List.length_append]; show R.length + p.1.length + ((if lz_sg (bt a) ≤ 10 then 1 else 0) + lz_wt (lz_pr p.2)) ≤ a + 1; rw [if_pos (by omega)]; omega) (by show p.2.length + 1 + w0.length ≤ a + 1; omega) (by show (if lz_sg (bt a) = 14 then 1 else 0) + lz_nf p.2 ≤ o ∧ o ≤ 6; rw [if_neg (by omega), cn]; omega) r3
        rw [if_pos rfl] at hih
        obtain ⟨g, y2, f1, f2⟩ := hih
        rw [ep] at hh
        have e0 : 1048576 * lz_sg (bt a) + 0 = 1048576 * lz_sg (bt a) := rfl
        rw [e0] at f1
        have ev : ∀ (z : Prop), True := fun _ => trivial
        generalize lz_sg (bt a) = s at *
        have hW : p.2.length + w0.length < 260 := by omega
        generalize p.2.length + w0.length = W at *
        have step : fk_ev (d + 4) qX12_readsSum 15 [.ref 246, .int (nI w0.length), x] [.ref 246] (fk_E N y l) = fk_ev (d + 4) qX12_readsSum 78 [.ref 246, .int (nI w0.length), .int (nI s)] [.int g] (fk_E N y2 l) := by
          by_cases s4 : s < 4
          · rw [decide_eq_true s4, if_pos rfl] at hcl
            simp (disch := first | assumption | omega) only [rX12_readsSum, hh, hsg, hcl, e17', e11', f1, Option.bind_some, Option.toList_some, Option.toList_none, List.cons_append, List.nil_append, fk_b_0, nI_add, Nat.add_zero, Nat.zero_add, not_true_eq_false, not_false_eq_true, if_true, if_false, sI_le_t, sI_le_f, sI_lt_t, sI_lt_f, sI_eq_t, sI_eq_f, sI_rem, sI_div, sI_m1a, sI_m1b, sI_m1c, sI_m1d, sI_m1e, sI_m1f, sI_m2a, sI_m2b, sI_sub, pk_mul, sI_dec, fk_u_s, fk_u_o, sI_dec0, sI_z, sI_md, Bool.false_eq_true, Nat.reduceAdd, Nat.reduceMul, Nat.reduceSub, Nat.reduceMod, Nat.reduceDiv]
          · rw [decide_eq_false s4, if_neg (by decide)] at hcl
            simp (disch := first | assumption | omega) only [rX12_readsSum, hh, hsg, hcl, e17', e11', f1, Option.bind_some, Option.toList_some, Option.toList_none, List.cons_append, List.nil_append, fk_b_0, nI_add, Nat.add_zero, Nat.zero_add, not_true_eq_false, not_false_eq_true, if_true, if_false, sI_le_t, sI_le_f, sI_lt_t, sI_lt_f, sI_eq_t, sI_eq_f, sI_rem, sI_div, sI_m1a, sI_m1b, sI_m1c, sI_m1d, sI_m1e, sI_m1f, sI_m2a, sI_m2b, sI_sub, pk_mul, sI_dec, fk_u_s, fk_u_o, sI_dec0, sI_z, sI_md, Bool.false_eq_true, Nat.reduceAdd, Nat.reduceMul, Nat.reduceSub, Nat.reduceMod, Nat.reduceDiv]
        rw [step]
        rcases f2 with ⟨g0, e, re, q1, q2⟩ | ⟨g1, f2⟩
        · subst re
          subst g0
          refine ⟨y2, ?_, q1, q2⟩
          simp (disch := first | assumption | omega) only [rX12_readsSum, Option.bind_some, Option.toList_some, Option.toList_none, List.cons_append, List.nil_append, fk_b_0, nI_add, Nat.add_zero, Nat.zero_add, not_true_eq_false, not_false_eq_true, if_true, if_false, sI_le_t, sI_le_f, sI_lt_t, sI_lt_f, sI_eq_t, sI_eq_f, sI_rem, sI_div, sI_m1a, sI_m1b, sI_m1c, sI_m1d, sI_m1e, sI_m1f, sI_m2a, sI_m2b, sI_sub, pk_mul, sI_dec, fk_u_s, fk_u_o, sI_dec0, sI_z, sI_md, Bool.false_eq_true, Nat.reduceAdd, Nat.reduceMul, Nat.reduceSub, Nat.reduceMod, Nat.reduceDiv]
        · subst g1
          have := f2 (.int (nI s))
          have st2 : fk_ev (d + 4) qX12_readsSum 78 [.ref 246, .int (nI w0.length), .int (nI s)] [.int (nI 1)] (fk_E N y2 l) = fk_ev (d + 4) qX12_readsSum 14 [.ref 246, .int (nI w0.length), .int (nI s)] [] (fk_E N y2 l) := by
            simp (disch := first | assumption | omega) only [rX12_readsSum, Option.bind_some, Option.toList_some, Option.toList_none, List.cons_append, List.nil_append, fk_b_0, nI_add, Nat.add_zero, Nat.zero_add, not_true_eq_false, not_false_eq_true, if_true, if_false, sI_le_t, sI_le_f, sI_lt_t, sI_lt_f, sI_eq_t, sI_eq_f, sI_rem, sI_div, sI_m1a, sI_m1b, sI_m1c, sI_m1d, sI_m1e, sI_m1f, sI_m2a, sI_m2b, sI_sub, pk_mul, sI_dec, fk_u_s, fk_u_o, sI_dec0, sI_z, sI_md, Bool.false_eq_true, Nat.reduceAdd, Nat.reduceMul, Nat.reduceSub, Nat.reduceMod, Nat.reduceDiv]
          rw [st2]
          exact this
      · rw [if_neg c1] at h
        have hsg : fk_ev (d + 3) qX12_sumSign 0 [.int (ab_pk bt n a)] [] (fk_E N y l) = some (some (.int (-1)), fk_E N y l) := by
          by_cases lt : a < n
          · have ep : ab_pk bt n a = nI (bt a) := if_pos lt
            have hsg := mX12_sumSign (d := d + 3) (b6 a) (h := fk_E N y l)
            rw [lz_sI_f (fun z => c1 ⟨lt, z⟩)] at hsg
            rw [ep]
            exact hsg
          · have ep : ab_pk bt n a = (-1) := if_neg lt
            rw [ep]
            exact mX12_sumSign_n
        obtain ⟨y1, hcl, r1⟩ := mX12_closesSums (N := N) (l := l) (d := d + 2) (all := true) hw0 u R y u15 (by omega) (by omega) hr
        rw [if_pos rfl] at hcl
        by_cases c2 : a < n ∧ bt a = 93 ∧ 14 ∈ u
        · rw [if_pos c2] at h
          have ep : ab_pk bt n a = nI 93 := by rw [← c2.2.1]; exact if_pos c2.1
          rw [fk_b_t c2.2.2] at hos
          have cw := lz_cs_wt (all := true) u
          have cl := lz_cs_len (all := true) u
          have csub := lz_cs_sub (all := true) u
          have cn := lz_cs_nf (all := true) u
          obtain ⟨t, et⟩ := lz_cs_14 u hu c2.2.2
          generalize lz_cs true u = p at *
          obtain ⟨p1, p2⟩ := p
          have et : p2 = 14 :: t := et
          subst et
          have cw : p1.length + ((if (14 : Nat) ≤ 10 then 1 else 0) + lz_wt (lz_pr t)) = lz_wt (lz_pr u) := cw
          rw [if_neg (by omega)] at cw
          have cl : t.length + 1 ≤ u.length := cl
          have cn : (if (14 : Nat) = 14 then 1 else 0) + lz_nf t = lz_nf u := cn
          rw [if_pos rfl] at cn
          have o1 : 1 ≤ o := by omega
          have e17' : y1 246 17 = nI (t.length + w0.length + 1) := by
            have := r1.2.2.2.1.2
            rw [List.length_append, lz_pr_len] at this
            rw [this]
            show nI (t.length + 1 + w0.length) = _
            rw [show t.length + 1 + w0.length = t.length + w0.length + 1 by omega]
          have e15' : y1 246 15 = nI o := r1.2.2.2.2
          have e11' : y1 246 11 = nI a := r1.2.1.1
          have r1 : lz_rc y0 bt n a (R ++ p1) ((14, 0) :: (lz_pr t ++ w0)) o y1 := r1
          have r3 := lz_rc_at (b := a + 1) (lz_rc_open (b := o - 1) (lz_rc_pop r1)) c2.1
          rw [show (lz_pr t ++ w0).length = t.length + w0.length by rw [List.length_append, lz_pr_len]] at r3
          have hih := ih false (a + 1) (R ++ p1) t (o - 1) _ r h (fun s hs => hu s (csub s (List.mem_cons_of_mem _ hs))) (by rw [List.length_append]; omega) (by omega) (by omega) r3
          rw [if_neg (by decide)] at hih
          have hih := hih (.int (-1))
          rw [ep] at hh hsg
          have ea : t.length + w0.length + 1 - 1 = t.length + w0.length := rfl
          generalize t.length + w0.length = W at *
          have step : fk_ev (d + 4) qX12_readsSum 15 [.ref 246, .int (nI w0.length), x] [.ref 246] (fk_E N y l) = fk_ev (d + 4) qX12_readsSum 14 [.ref 246, .int (nI w0.length), .int (-1)] [] (fk_E N (fk_u (fk_u (fk_u y1 246 17 (nI W)) 246 15 (nI (o - 1))) 246 11 (nI (a + 1))) l) := by
            simp (disch := first | assumption | omega) only [rX12_readsSum, hh, hsg, hos, hcl, e17', e15', e11', ea, Option.bind_some, Option.toList_some, Option.toList_none, List.cons_append, List.nil_append, fk_b_0, nI_add, Nat.add_zero, Nat.zero_add, not_true_eq_false, not_false_eq_true, if_true, if_false, sI_le_t, sI_le_f, sI_lt_t, sI_lt_f, sI_eq_t, sI_eq_f, sI_rem, sI_div, sI_m1a, sI_m1b, sI_m1c, sI_m1d, sI_m1e, sI_m1f, sI_m2a, sI_m2b, sI_sub, pk_mul, sI_dec, fk_u_s, fk_u_o, sI_dec0, sI_z, sI_md, Bool.false_eq_true, Nat.reduceAdd, Nat.reduceMul, Nat.reduceSub, Nat.reduceMod, Nat.reduceDiv]
          rw [step]
          exact hih
        · rw [if_neg c2] at h
          by_cases c3 : 14 ∈ u
          · rw [if_pos c3] at h
            cases h
            rw [fk_b_t c3] at hos
            have np : ¬ ab_pk bt n a = nI 93 := fun z => by
              have lt := ab_pk_lt z (by omega)
              have : ab_pk bt n a = nI (bt a) := if_pos lt
              rw [this] at z
              have := (nI_eq (by have := b6 a; omega) (by omega)).mp z
              exact c2 ⟨lt, this, c3⟩
            refine ⟨fk_u y 246 13 (fk_flt 1 a), ?_, fk_s7_u hr.1 (by omega), fk_u_s⟩
            simp (disch := first | assumption | omega) only [rX12_readsSum, hh, hsg, hos, np, e11, mX12_wrongAt, Option.bind_some, Option.toList_some, Option.toList_none, List.cons_append, List.nil_append, fk_b_0, nI_add, Nat.add_zero, Nat.zero_add, not_true_eq_false, not_false_eq_true, if_true, if_false, sI_le_t, sI_le_f, sI_lt_t, sI_lt_f, sI_eq_t, sI_eq_f, sI_rem, sI_div, sI_m1a, sI_m1b, sI_m1c, sI_m1d, sI_m1e, sI_m1f, sI_m2a, sI_m2b, sI_sub, pk_mul, sI_dec, fk_u_s, fk_u_o, sI_dec0, sI_z, sI_md, Bool.false_eq_true, Nat.reduceAdd, Nat.reduceMul, Nat.reduceSub, Nat.reduceMod, Nat.reduceDiv]
          · rw [if_neg c3] at h
            cases h
            rw [fk_b_f c3] at hos
            have e2 := lz_cs_all u hu c3
            rw [e2] at r1
            refine ⟨y1, ?_, r1⟩
            by_cases np : ab_pk bt n a = nI 93
            · rw [np] at hh hsg
              simp (disch := first | assumption | omega) only [rX12_readsSum, hh, hsg, hos, hcl, Option.bind_some, Option.toList_some, Option.toList_none, List.cons_append, List.nil_append, fk_b_0, nI_add, Nat.add_zero, Nat.zero_add, not_true_eq_false, not_false_eq_true, if_true, if_false, sI_le_t, sI_le_f, sI_lt_t, sI_lt_f, sI_eq_t, sI_eq_f, sI_rem, sI_div, sI_m1a, sI_m1b, sI_m1c, sI_m1d, sI_m1e, sI_m1f, sI_m2a, sI_m2b, sI_sub, pk_mul, sI_dec, fk_u_s, fk_u_o, sI_dec0, sI_z, sI_md, Bool.false_eq_true, Nat.reduceAdd, Nat.reduceMul, Nat.reduceSub, Nat.reduceMod, Nat.reduceDiv]
            · simp (disch := first | assumption | omega) only [rX12_readsSum, hh, hsg, hos, np, hcl, Option.bind_some, Option.toList_some, Option.toList_none, List.cons_append, List.nil_append, fk_b_0, nI_add, Nat.add_zero, Nat.zero_add, not_true_eq_false, not_false_eq_true, if_true, if_false, sI_le_t, sI_le_f, sI_lt_t, sI_lt_f, sI_eq_t, sI_eq_f, sI_rem, sI_div, sI_m1a, sI_m1b, sI_m1c, sI_m1d, sI_m1e, sI_m1f, sI_m2a, sI_m2b, sI_sub, pk_mul, sI_dec, fk_u_s, fk_u_o, sI_dec0, sI_z, sI_md, Bool.false_eq_true, Nat.reduceAdd, Nat.reduceMul, Nat.reduceSub, Nat.reduceMod, Nat.reduceDiv]
/-- a whole sum -/
theorem mX12_readsSum (hw0 : lz_nt w0) (ho : q + o = 6) (hR : R.length + 0 ≤ a) (hl : w0.length ≤ a) (h : lz_rc y0 bt n a R w0 o y) : lz_end N l y0 bt n w0 (fk_ev (d + 4) qX12_readsSum 0 [.ref 246, .null, .null] [] (fk_E N y l)) (lz_fin R o (lz_S bt n q a)) := by
  have e17 := h.2.2.2.1.2
  obtain ⟨k, hk⟩ := lz_go_S (bt := bt) (n := n) (q := q) (o := o) (a := a) (R := R) ho h.2.1.2.2.2.2.1
  have hs := mX12_sum_sim (N := N) (l := l) (d := d) (y0 := y0) (bt := bt) (n := n) hw0 k true a R [] o y _ hk (fun s hs => absurd hs List.not_mem_nil) hR (by show 0 + w0.length ≤ a; omega) (by show 0 ≤ o ∧ o ≤ 6; omega) h
  rw [if_pos rfl] at hs
  obtain ⟨g, y1, e1, e2⟩ := hs
  generalize lz_fin R o (lz_S bt n q a) = r at *
  have step : fk_ev (d + 4) qX12_readsSum 0 [.ref 246, .null, .null] [] (fk_E N y l) = fk_ev (d + 4) qX12_readsSum 9 [.ref 246, .int (nI w0.length), .null] [.int g] (fk_E N y1 l) := by
    simp (disch := first | assumption | omega) only [rX12_readsSum, e17, e1, Option.bind_some, Option.toList_some, Option.toList_none, List.cons_append, List.nil_append, fk_b_0, nI_add, Nat.add_zero, Nat.zero_add, not_true_eq_false, not_false_eq_true, if_true, if_false, sI_le_t, sI_le_f, sI_lt_t, sI_lt_f, sI_eq_t, sI_eq_f, sI_rem, sI_div, sI_m1a, sI_m1b, sI_m1c, sI_m1d, sI_m1e, sI_m1f, sI_m2a, sI_m2b, sI_sub, pk_mul, sI_dec, fk_u_s, fk_u_o, sI_dec0, sI_z, sI_md, Bool.false_eq_true, Nat.reduceAdd, Nat.reduceMul, Nat.reduceSub, Nat.reduceMod, Nat.reduceDiv]
  rw [step]
  rcases e2 with ⟨g0, e, re, q1, q2⟩ | ⟨g1, f2⟩
  · subst re
    subst g0
    refine ⟨y1, ?_, q1, q2⟩
    simp (disch := first | assumption | omega) only [rX12_readsSum, Option.bind_some, Option.toList_some, Option.toList_none, List.cons_append, List.nil_append, fk_b_0, nI_add, Nat.add_zero, Nat.zero_add, not_true_eq_false, not_false_eq_true, if_true, if_false, sI_le_t, sI_le_f, sI_lt_t, sI_lt_f, sI_eq_t, sI_eq_f, sI_rem, sI_div, sI_m1a, sI_m1b, sI_m1c, sI_m1d, sI_m1e, sI_m1f, sI_m2a, sI_m2b, sI_sub, pk_mul, sI_dec, fk_u_s, fk_u_o, sI_dec0, sI_z, sI_md, Bool.false_eq_true, Nat.reduceAdd, Nat.reduceMul, Nat.reduceSub, Nat.reduceMod, Nat.reduceDiv]
  · subst g1
    have := f2 .null
    have st2 : fk_ev (d + 4) qX12_readsSum 9 [.ref 246, .int (nI w0.length), .null] [.int (nI 1)] (fk_E N y1 l) = fk_ev (d + 4) qX12_readsSum 14 [.ref 246, .int (nI w0.length), .null] [] (fk_E N y1 l) := by
      simp (disch := first | assumption | omega) only [rX12_readsSum, Option.bind_some, Option.toList_some, Option.toList_none, List.cons_append, List.nil_append, fk_b_0, nI_add, Nat.add_zero, Nat.zero_add, not_true_eq_false, not_false_eq_true, if_true, if_false, sI_le_t, sI_le_f, sI_lt_t, sI_lt_f, sI_eq_t, sI_eq_f, sI_rem, sI_div, sI_m1a, sI_m1b, sI_m1c, sI_m1d, sI_m1e, sI_m1f, sI_m2a, sI_m2b, sI_sub, pk_mul, sI_dec, fk_u_s, fk_u_o, sI_dec0, sI_z, sI_md, Bool.false_eq_true, Nat.reduceAdd, Nat.reduceMul, Nat.reduceSub, Nat.reduceMod, Nat.reduceDiv]
    rw [st2]
    exact this
end SR2
