section JO5
variable {N : Nat} {S : Nat → Int32} {v y y0 y1 y2 : Nat → Nat → Int32} {l : Nat → Nat → Int64} {d n H t c k m : Nat} {A : Nat → Int32} {W : Int32 → (Nat → Int32) → Int32}
/-- where a number belongs in a row of q; none: it is there -/
def jp_p (R : Nat → Nat) (j : Nat) : Nat → Option Nat
  | 0 => some 0
  | q + 1 => if R q < j then some (q + 1) else if R q = j then none else jp_p R j q
def jp_in (R : Nat → Nat) (p j : Nat) : Nat → Nat := fun i => if i < p then R i else if i = p then j else R (i - 1)
def jp_tk (b : Nat → Nat) (ok : Nat → Prop) [DecidablePred ok] : Nat → Nat → (Nat → Nat) → Option (Nat → Nat)
  | 0, _, R => some R
  | f + 1, i, R => if ok i then (match jp_p R (b i) i with
    | none => none
    | some p => jp_tk b ok f (i + 1) (jp_in R p (b i))) else none
def jp_so (n i : Nat) (R : Nat → Nat) : Prop := (∀ q, q < i → R q < n) ∧ ∀ q q', q < q' → q' < i → R q < R q'
theorem jp_p_le {R : Nat → Nat} {j p : Nat} : ∀ q, jp_p R j q = some p → p ≤ q ∧ (0 < p → R (p - 1) < j) ∧ ∀ i, p ≤ i → i < q → j < R i := by
  intro q
  induction q with
  | zero => intro h; cases h; exact ⟨Nat.le_refl _, fun h => by omega, fun i _ h => by omega⟩
  | succ q ih =>
    intro h
    unfold jp_p at h
    by_cases c1 : R q < j
    · rw [if_pos c1] at h
      cases h
      exact ⟨Nat.le_refl _, fun _ => c1, fun i h1 h2 => by omega⟩
    · rw [if_neg c1] at h
      by_cases c2 : R q = j
      · rw [if_pos c2] at h; cases h
      · rw [if_neg c2] at h
        obtain ⟨i1, i2, i3⟩ := ih h
        refine ⟨by omega, i2, fun i h1 h2 => ?_⟩
        by_cases e : i = q
        · subst e; omega
        · exact i3 i h1 (by omega)
theorem jp_so_in {R : Nat → Nat} {i j p : Nat} (h : jp_so n i R) (hj : j < n) (hp : jp_p R j i = some p) : jp_so n (i + 1) (jp_in R p j) := by
  obtain ⟨p1, p2, p3⟩ := jp_p_le i hp
  obtain ⟨h1, h2⟩ := h
  have mono : ∀ q, q < p → R q < j := fun q hq => by
    by_cases e : q = p - 1
    · rw [e]; exact p2 (by omega)
    · have a1 := h2 q (p - 1) (by omega) (by omega)
      have a2 := p2 (by omega)
      omega
  refine ⟨fun q hq => ?_, fun q q' h3 h4 => ?_⟩
  · unfold jp_in
    by_cases c1 : q < p
    · rw [if_pos c1]; exact h1 q (by omega)
    · rw [if_neg c1]
      by_cases c2 : q = p
      · rw [if_pos c2]; exact hj
      · rw [if_neg c2]; exact h1 (q - 1) (by omega)
  · unfold jp_in
    by_cases c1 : q < p
    · rw [if_pos c1]
      by_cases c2 : q' < p
      · rw [if_pos c2]; exact h2 q q' h3 (by omega)
      · rw [if_neg c2]
        by_cases c3 : q' = p
        · rw [if_pos c3]; exact mono q c1
        · rw [if_neg c3]
          have a1 := mono q c1
          have a2 := p3 (q' - 1) (by omega) (by omega)
          omega
    · rw [if_neg c1]
      by_cases c2 : q = p
      · rw [if_pos c2, if_neg (show ¬ q' < p by omega), if_neg (show ¬ q' = p by omega)]
        exact p3 (q' - 1) (by omega) (by omega)
      · rw [if_neg c2, if_neg (show ¬ q' < p by omega), if_neg (show ¬ q' = p by omega)]
        exact h2 (q - 1) (q' - 1) (by omega) (by omega)
theorem jp_tk_so {b : Nat → Nat} {ok : Nat → Prop} [DecidablePred ok] (hok : ∀ i, ok i → b i < n) : ∀ f i R R', jp_so n i R → jp_tk b ok f i R = some R' → jp_so n (i + f) R' := by
  intro f
  induction f with
  | zero => intro i R R' h e; cases e; exact h
  | succ f ih =>
    intro i R R' h e
    unfold jp_tk at e
    by_cases c : ok i
    · rw [if_pos c] at e
      cases hp : jp_p R (b i) i with
      | none => rw [hp] at e; cases e
      | some p =>
        rw [hp] at e
        have := ih (i + 1) _ R' (jp_so_in h (hok i c) hp) e
        rw [show i + (f + 1) = i + 1 + f by omega]
        exact this
    · rw [if_neg c] at e; cases e
/-! the class -/
theorem mX2_ins {R : Nat → Nat} {j i : Nat} (hi : i < 5) (hj : j < 256) (uR : ∀ q, q < i → R q < 256) {x1 x2 x3 x4 : Value} : ∀ q y, q ≤ i → (∀ a, a < q → y 242 a = nI (R a)) → (∀ a, q < a → a ≤ i → y 242 a = nI (R (a - 1))) → ∃ y', (∀ k, k ≠ 242 → y' k = y k) ∧ match jp_p R j q with
    | none => fk_ev d qX2_take 98 [.ref 241, x1, x2, x3, x4, .int (nI i), .int (nI j), .int (nI q), .int (if q = 0 then (-1) else nI (q - 1))] [] (fk_E N y l) = some (some (.int (nI 0)), fk_E N y' l)
    | some p => (∃ x : Value, fk_ev d qX2_take 98 [.ref 241, x1, x2, x3, x4, .int (nI i), .int (nI j), .int (nI q), .int (if q = 0 then (-1) else nI (q - 1))] [] (fk_E N y l) = fk_ev d qX2_take 155 [.ref 241, x1, x2, x3, x4, .int (nI i), .int (nI j), .int (nI p), x] [] (fk_E N y' l)) ∧ (∀ a, a < p → y' 242 a = nI (R a)) ∧ (∀ a, p < a → a ≤ i → y' 242 a = nI (R (a - 1))) := by
  intro q
  induction q with
  | zero =>
    intro y hq h1 h2
    refine ⟨y, fun _ _ => rfl, ⟨.int (-1), ?_⟩, h1, h2⟩
    rw [hX2_take_98, if_pos rfl]
    simp (disch := first | assumption | omega) only [rX2_take, show ((-1 : Int32) < nI 0) = True from eq_true (by decide), Option.bind_some, Option.toList_some, Option.toList_none, List.cons_append, List.nil_append, fk_b_0, nI_add, Nat.add_zero, Nat.zero_add, not_true_eq_false, not_false_eq_true, if_true, if_false, sI_le_t, sI_le_f, sI_lt_t, sI_lt_f, sI_eq_t, sI_eq_f, sI_rem, sI_div, sI_m1a, sI_m1b, sI_m1c, sI_m1d, sI_m1e, sI_m1f, sI_m2a, sI_m2b, sI_sub, pk_mul, sI_dec, fk_u_s, fk_u_o, sI_dec0, sI_z, sI_md, Bool.false_eq_true, Nat.reduceAdd, Nat.reduceMul, Nat.reduceSub, Nat.reduceMod, Nat.reduceDiv]
  | succ q ih =>
    intro y hq h1 h2
    have e0 := h1 q (by omega)
    have u0 := uR q (by omega)
    rw [if_neg (show ¬ q + 1 = 0 by omega), show q + 1 - 1 = q by omega]
    unfold jp_p
    by_cases c1 : R q < j
    · rw [if_pos c1]
      try dsimp only
      refine ⟨y, fun _ _ => rfl, ⟨.int (nI q), ?_⟩, h1, h2⟩
      rw [hX2_take_98]
      simp (disch := first | assumption | omega) only [rX2_take, e0, Option.bind_some, Option.toList_some, Option.toList_none, List.cons_append, List.nil_append, fk_b_0, nI_add, Nat.add_zero, Nat.zero_add, not_true_eq_false, not_false_eq_true, if_true, if_false, sI_le_t, sI_le_f, sI_lt_t, sI_lt_f, sI_eq_t, sI_eq_f, sI_rem, sI_div, sI_m1a, sI_m1b, sI_m1c, sI_m1d, sI_m1e, sI_m1f, sI_m2a, sI_m2b, sI_sub, pk_mul, sI_dec, fk_u_s, fk_u_o, sI_dec0, sI_z, sI_md, Bool.false_eq_true, Nat.reduceAdd, Nat.reduceMul, Nat.reduceSub, Nat.reduceMod, Nat.reduceDiv]
    · rw [if_neg c1]
      by_cases c2 : R q = j
      · rw [if_pos c2]
        try dsimp only
        refine ⟨y, fun _ _ => rfl, ?_⟩
        rw [hX2_take_98]
        simp (disch := first | assumption | omega) only [rX2_take, e0, Option.bind_some, Option.toList_some, Option.toList_none, List.cons_append, List.nil_append, fk_b_0, nI_add, Nat.add_zero, Nat.zero_add, not_true_eq_false, not_false_eq_true, if_true, if_false, sI_le_t, sI_le_f, sI_lt_t, sI_lt_f, sI_eq_t, sI_eq_f, sI_rem, sI_div, sI_m1a, sI_m1b, sI_m1c, sI_m1d, sI_m1e, sI_m1f, sI_m2a, sI_m2b, sI_sub, pk_mul, sI_dec, fk_u_s, fk_u_o, sI_dec0, sI_z, sI_md, Bool.false_eq_true, Nat.reduceAdd, Nat.reduceMul, Nat.reduceSub, Nat.reduceMod, Nat.reduceDiv]
      · rw [if_neg c2]
        obtain ⟨y', f, g⟩ := ih (fk_u y 242 (q + 1) (nI (R q))) (by omega) (fun a ha => by rw [fk_u_o (by omega)]; exact h1 a (by omega)) (fun a a1 a2 => by
          by_cases e : a = q + 1
          · subst e; rw [fk_u_s, show q + 1 - 1 = q by omega]
          · rw [fk_u_o (by omega)]; exact h2 a (by omega) a2)
        have ev : fk_ev d qX2_take 98 [.ref 241, x1, x2, x3, x4, .int (nI i), .int (nI j), .int (nI (q + 1)), .int (nI q)] [] (fk_E N y l) = fk_ev d qX2_take 98 [.ref 241, x1, x2, x3, x4, .int (nI i), .int (nI j), .int (nI q), .int (if q = 0 then (-1) else nI (q - 1))] [] (fk_E N (fk_u y 242 (q + 1) (nI (R q))) l) := by
          rw [hX2_take_98]
          by_cases k0 : q = 0
          · subst k0
            rw [if_pos rfl]
            simp (disch := first | assumption | omega) only [rX2_take, e0, Option.bind_some, Option.toList_some, Option.toList_none, List.cons_append, List.nil_append, fk_b_0, nI_add, Nat.add_zero, Nat.zero_add, not_true_eq_false, not_false_eq_true, if_true, if_false, sI_le_t, sI_le_f, sI_lt_t, sI_lt_f, sI_eq_t, sI_eq_f, sI_rem, sI_div, sI_m1a, sI_m1b, sI_m1c, sI_m1d, sI_m1e, sI_m1f, sI_m2a, sI_m2b, sI_sub, pk_mul, sI_dec, fk_u_s, fk_u_o, sI_dec0, sI_z, sI_md, Bool.false_eq_true, Nat.reduceAdd, Nat.reduceMul, Nat.reduceSub, Nat.reduceMod, Nat.reduceDiv]
          · rw [if_neg k0]
            simp (disch := first | assumption | omega) only [rX2_take, e0, Option.bind_some, Option.toList_some, Option.toList_none, List.cons_append, List.nil_append, fk_b_0, nI_add, Nat.add_zero, Nat.zero_add, not_true_eq_false, not_false_eq_true, if_true, if_false, sI_le_t, sI_le_f, sI_lt_t, sI_lt_f, sI_eq_t, sI_eq_f, sI_rem, sI_div, sI_m1a, sI_m1b, sI_m1c, sI_m1d, sI_m1e, sI_m1f, sI_m2a, sI_m2b, sI_sub, pk_mul, sI_dec, fk_u_s, fk_u_o, sI_dec0, sI_z, sI_md, Bool.false_eq_true, Nat.reduceAdd, Nat.reduceMul, Nat.reduceSub, Nat.reduceMod, Nat.reduceDiv]
        refine ⟨y', fun k hk => (f k hk).trans (fk_u_rowo hk), ?_⟩
        rw [ev]
        exact g
end JO5
