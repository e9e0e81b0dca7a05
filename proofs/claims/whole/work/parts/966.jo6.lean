section JO6
variable {N : Nat} {S : Nat → Int32} {v y y0 y1 y2 : Nat → Nat → Int32} {l : Nat → Nat → Int64} {d n H t c k m : Nat} {A : Nat → Int32} {W : Int32 → (Nat → Int32) → Int32} {b : Nat → Nat}
abbrev jp_lv (A : Nat → Int32) (n j : Nat) : Prop := j < n ∧ A (192 + j) = nI 1
abbrev jp_ok2 (A : Nat → Int32) (n : Nat) (b : Nat → Nat) (i : Nat) : Prop := jp_lv A n (b 0) ∧ jp_lv A n (b i) ∧ A (b i) = A (b 0)
theorem n_lvN {j : Nat} (hn : n ≤ 64) (hj : j < 256) (hm : A 833 = nI n) (hp : ck_pr 33 y (fun _ => nI 0) A) : fk_ev (d + 1) qX8_isLiving 0 [.ref 33, .int ((nI j))] [] (fk_E N y l) = some (some (.int ((fk_b (jp_lv A n j)))), fk_E N y l) := by
  rw [n_liv hn hm hp, nI_clamp (by omega)]
  by_cases h : jp_lv A n j
  · rw [fk_b_t h, fk_b_t ⟨⟨nI_le (by omega) (by omega), nI_lt h.1 (by omega)⟩, h.2⟩]
  · rw [fk_b_f h, fk_b_f fun z => h ⟨(nI_ltI (by omega) (by omega)).mp z.1.2, z.2⟩]
theorem r_lvN {j : Nat} (hn : n ≤ 64) (hj : j < 256) (hm : y 247 833 = nI n) : fk_ev (d + 1) qX12_isLiving 0 [.ref 246, .int ((nI j))] [] (fk_E N y l) = some (some (.int ((fk_b (jp_lv (y 247) n j)))), fk_E N y l) := by
  rw [mX12_isLiving hn hm, nI_clamp (by omega)]
  by_cases h : jp_lv (y 247) n j
  · rw [fk_b_t h, fk_b_t ⟨⟨nI_le (by omega) (by omega), nI_lt h.1 (by omega)⟩, h.2⟩]
  · rw [fk_b_f h, fk_b_f fun z => h ⟨(nI_ltI (by omega) (by omega)).mp z.1.2, z.2⟩]
theorem mX2_take_loop (ho : ab_ok v n H A) (hp : ck_pr 33 y0 (fun _ => nI 0) A) (e1 : y0 26 1 = nI t) (ht : t ≤ 260) (hmt : m ≤ t) (hm1 : 2 ≤ m) (hm : m ≤ 5) (e27 : ∀ i, i < t → y0 27 i = nI (b i)) (b6 : ∀ i, b i < 256) : ∀ f i (R : Nat → Nat) y, i + f = m → (∀ k, k ≠ 241 → k ≠ 242 → y k = y0 k) → y 241 2 = nI i → (∀ a, a < i → y 242 a = nI (R a)) → jp_so n i R → ∀ x6 x7 x8 : Value, ∃ y', (∀ k, k ≠ 241 → k ≠ 242 → y' k = y0 k) ∧ match jp_tk b (jp_ok2 A n b) f i R with
    | none => fk_ev (d + 2) qX2_take 15 [.ref 241, .ref 26, .int (nI m), .ref 33, .int (nI (b 0)), .int (nI i), x6, x7, x8] [] (fk_E N y l) = some (some (.int (nI 0)), fk_E N y' l)
    | some R' => fk_ev (d + 2) qX2_take 15 [.ref 241, .ref 26, .int (nI m), .ref 33, .int (nI (b 0)), .int (nI i), x6, x7, x8] [] (fk_E N y l) = some (some (.int (nI 1)), fk_E N y' l) ∧ y' 241 2 = nI m ∧ ∀ a, a < m → y' 242 a = nI (R' a) := by
  have h8 := n8
  have h24 := n24
  have h34 := n34
  have hn := ho.1
  intro f
  induction f with
  | zero =>
    intro i R y hi hf h2 hr hso x6 x7 x8
    have hi : i = m := hi
    subst hi
    refine ⟨y, hf, ?_, h2, hr⟩
    rw [hX2_take_15]
    simp (disch := first | assumption | omega) only [rX2_take, h2, Option.bind_some, Option.toList_some, Option.toList_none, List.cons_append, List.nil_append, fk_b_0, nI_add, Nat.add_zero, Nat.zero_add, not_true_eq_false, not_false_eq_true, if_true, if_false, sI_le_t, sI_le_f, sI_lt_t, sI_lt_f, sI_eq_t, sI_eq_f, sI_rem, sI_div, sI_m1a, sI_m1b, sI_m1c, sI_m1d, sI_m1e, sI_m1f, sI_m2a, sI_m2b, sI_sub, pk_mul, sI_dec, fk_u_s, fk_u_o, sI_dec0, sI_z, sI_md, Bool.false_eq_true, Nat.reduceAdd, Nat.reduceMul, Nat.reduceSub, Nat.reduceMod, Nat.reduceDiv]
  | succ f ih =>
    intro i R y hi hf h2 hr hso x6 x7 x8
    have pt : ck_pr 33 y (fun _ => nI 0) A := ck_pr_k hp fun k k1 k2 => hf k (by omega) (by omega)
    have bi := mX10_byteAt (N := N) (l := l) (d := d) (y := y) (k := i) (t := t) (by rw [hf 26 (by omega) (by omega)]; exact e1) ht (by omega)
    rw [hf 27 (by omega) (by omega), e27 i (by omega)] at bi
    have q0 := b6 0
    have qi := b6 i
    have l0 := n_lvN (N := N) (l := l) (d := d) hn q0 ho.2.1 pt
    have li := n_lvN (N := N) (l := l) (d := d) hn qi ho.2.1 pt
    unfold jp_tk
    by_cases c : jp_ok2 A n b i
    · rw [if_pos c]
      obtain ⟨c1, c2, c3⟩ := c
      rw [fk_b_t c1] at l0
      rw [fk_b_t c2] at li
      have hh0 := n_h (show b 0 < 64 by have := c1.1; omega)
      have hhi := n_h (show b i < 64 by have := c2.1; omega)
      have z0 : y (36 + b 0) 1 = A (b 0) := by rw [show 36 + b 0 = 33 + 3 + b 0 by omega]; exact (pt.2.2.1 (b 0) (by have := c1.1; omega) (by rw [ab_ok_n ho]; exact c1.1)).1
      have zi : y (36 + b i) 1 = A (b i) := by rw [show 36 + b i = 33 + 3 + b i by omega]; exact (pt.2.2.1 (b i) (by have := c2.1; omega) (by rw [ab_ok_n ho]; exact c2.1)).1
      obtain ⟨y1, f1, g1⟩ := mX2_ins (N := N) (l := l) (d := d + 2) (R := R) (j := b i) (i := i) (x1 := .ref 26) (x2 := .int (nI m)) (x3 := .ref 33) (x4 := .int (nI (b 0))) (by omega) qi (fun q hq => by have := hso.1 q hq; omega) i y (Nat.le_refl _) hr (fun a a1 a2 => by omega)
      have ev : fk_ev (d + 2) qX2_take 15 [.ref 241, .ref 26, .int (nI m), .ref 33, .int (nI (b 0)), .int (nI i), x6, x7, x8] [] (fk_E N y l) = fk_ev (d + 2) qX2_take 98 [.ref 241, .ref 26, .int (nI m), .ref 33, .int (nI (b 0)), .int (nI i), .int (nI (b i)), .int (nI i), .int (if i = 0 then (-1) else nI (i - 1))] [] (fk_E N y l) := by
        have lt0 := c1.1
        have lti := c2.1
        rw [hX2_take_15]
        by_cases i0 : i = 0
        · subst i0
          rw [if_pos rfl]
          simp (disch := first | assumption | omega) only [rX2_take, bi, l0, nc0, z0, h2, show nI 0 - nI 1 = (-1 : Int32) by decide, Option.bind_some, Option.toList_some, Option.toList_none, List.cons_append, List.nil_append, fk_b_0, nI_add, Nat.add_zero, Nat.zero_add, not_true_eq_false, not_false_eq_true, if_true, if_false, sI_le_t, sI_le_f, sI_lt_t, sI_lt_f, sI_eq_t, sI_eq_f, sI_rem, sI_div, sI_m1a, sI_m1b, sI_m1c, sI_m1d, sI_m1e, sI_m1f, sI_m2a, sI_m2b, sI_sub, pk_mul, sI_dec, fk_u_s, fk_u_o, sI_dec0, sI_z, sI_md, Bool.false_eq_true, Nat.reduceAdd, Nat.reduceMul, Nat.reduceSub, Nat.reduceMod, Nat.reduceDiv]
        · rw [if_neg i0]
          simp (disch := first | assumption | omega) only [rX2_take, bi, l0, li, nc0, z0, zi, c3, h2, Option.bind_some, Option.toList_some, Option.toList_none, List.cons_append, List.nil_append, fk_b_0, nI_add, Nat.add_zero, Nat.zero_add, not_true_eq_false, not_false_eq_true, if_true, if_false, sI_le_t, sI_le_f, sI_lt_t, sI_lt_f, sI_eq_t, sI_eq_f, sI_rem, sI_div, sI_m1a, sI_m1b, sI_m1c, sI_m1d, sI_m1e, sI_m1f, sI_m2a, sI_m2b, sI_sub, pk_mul, sI_dec, fk_u_s, fk_u_o, sI_dec0, sI_z, sI_md, Bool.false_eq_true, Nat.reduceAdd, Nat.reduceMul, Nat.reduceSub, Nat.reduceMod, Nat.reduceDiv]
      rw [ev]
      cases hpp : jp_p R (b i) i with
      | none =>
        rw [hpp] at g1
        try dsimp only at g1 ⊢
        exact ⟨y1, fun k k1 k2 => (f1 k k2).trans (hf k k1 k2), g1⟩
      | some p =>
        rw [hpp] at g1
        try dsimp only at g1 ⊢
        obtain ⟨⟨x, g1⟩, g2, g3⟩ := g1
        obtain ⟨pl, _, _⟩ := jp_p_le i hpp
        have w2 : y1 241 2 = nI i := by rw [f1 241 (by omega)]; exact h2
        obtain ⟨y', k1, k2⟩ := ih (i + 1) (jp_in R p (b i)) (fk_u (fk_u y1 242 p (nI (b i))) 241 2 (nI (i + 1))) (by omega) (fun k k1 k2 => by rw [fk_u_rowo k1, fk_u_rowo k2, f1 k k2, hf k k1 k2]) fk_u_s (fun a ha => by
          unfold jp_in
          rw [fk_u_o (by omega)]
          by_cases e1 : a < p
          · rw [if_pos e1, fk_u_o (by omega)]; exact g2 a e1
          · rw [if_neg e1]
            by_cases e2 : a = p
            · rw [if_pos e2, e2, fk_u_s]
            · rw [if_neg e2, fk_u_o (by omega)]; exact g3 a (by omega) (by omega)) (jp_so_in hso c2.1 hpp) (.int (nI (b i))) (.int (nI p)) x
        have ev2 : fk_ev (d + 2) qX2_take 155 [.ref 241, .ref 26, .int (nI m), .ref 33, .int (nI (b 0)), .int (nI i), .int (nI (b i)), .int (nI p), x] [] (fk_E N y1 l) = fk_ev (d + 2) qX2_take 15 [.ref 241, .ref 26, .int (nI m), .ref 33, .int (nI (b 0)), .int (nI (i + 1)), .int (nI (b i)), .int (nI p), x] [] (fk_E N (fk_u (fk_u y1 242 p (nI (b i))) 241 2 (nI (i + 1))) l) := by
          simp (disch := first | assumption | omega) only [rX2_take, w2, Option.bind_some, Option.toList_some, Option.toList_none, List.cons_append, List.nil_append, fk_b_0, nI_add, Nat.add_zero, Nat.zero_add, not_true_eq_false, not_false_eq_true, if_true, if_false, sI_le_t, sI_le_f, sI_lt_t, sI_lt_f, sI_eq_t, sI_eq_f, sI_rem, sI_div, sI_m1a, sI_m1b, sI_m1c, sI_m1d, sI_m1e, sI_m1f, sI_m2a, sI_m2b, sI_sub, pk_mul, sI_dec, fk_u_s, fk_u_o, sI_dec0, sI_z, sI_md, Bool.false_eq_true, Nat.reduceAdd, Nat.reduceMul, Nat.reduceSub, Nat.reduceMod, Nat.reduceDiv]
        refine ⟨y', k1, ?_⟩
        rw [g1, ev2]
        exact k2
    · rw [if_neg c]
      try dsimp only
      refine ⟨y, hf, ?_⟩
      rw [hX2_take_15]
      by_cases c1 : jp_lv A n (b 0)
      · rw [fk_b_t c1] at l0
        by_cases c2 : jp_lv A n (b i)
        · rw [fk_b_t c2] at li
          have c3 : ¬ A (b i) = A (b 0) := fun z => c ⟨c1, c2, z⟩
          have lt0 := c1.1
          have lti := c2.1
          have hh0 := n_h (show b 0 < 64 by omega)
          have hhi := n_h (show b i < 64 by omega)
          have z0 : y (36 + b 0) 1 = A (b 0) := by rw [show 36 + b 0 = 33 + 3 + b 0 by omega]; exact (pt.2.2.1 (b 0) (by omega) (by rw [ab_ok_n ho]; exact c1.1)).1
          have zi : y (36 + b i) 1 = A (b i) := by rw [show 36 + b i = 33 + 3 + b i by omega]; exact (pt.2.2.1 (b i) (by omega) (by rw [ab_ok_n ho]; exact c2.1)).1
          simp (disch := first | assumption | omega) only [rX2_take, bi, l0, li, nc0, z0, zi, c3, Option.bind_some, Option.toList_some, Option.toList_none, List.cons_append, List.nil_append, fk_b_0, nI_add, Nat.add_zero, Nat.zero_add, not_true_eq_false, not_false_eq_true, if_true, if_false, sI_le_t, sI_le_f, sI_lt_t, sI_lt_f, sI_eq_t, sI_eq_f, sI_rem, sI_div, sI_m1a, sI_m1b, sI_m1c, sI_m1d, sI_m1e, sI_m1f, sI_m2a, sI_m2b, sI_sub, pk_mul, sI_dec, fk_u_s, fk_u_o, sI_dec0, sI_z, sI_md, Bool.false_eq_true, Nat.reduceAdd, Nat.reduceMul, Nat.reduceSub, Nat.reduceMod, Nat.reduceDiv]
        · rw [fk_b_f c2] at li
          simp (disch := first | assumption | omega) only [rX2_take, bi, l0, li, Option.bind_some, Option.toList_some, Option.toList_none, List.cons_append, List.nil_append, fk_b_0, nI_add, Nat.add_zero, Nat.zero_add, not_true_eq_false, not_false_eq_true, if_true, if_false, sI_le_t, sI_le_f, sI_lt_t, sI_lt_f, sI_eq_t, sI_eq_f, sI_rem, sI_div, sI_m1a, sI_m1b, sI_m1c, sI_m1d, sI_m1e, sI_m1f, sI_m2a, sI_m2b, sI_sub, pk_mul, sI_dec, fk_u_s, fk_u_o, sI_dec0, sI_z, sI_md, Bool.false_eq_true, Nat.reduceAdd, Nat.reduceMul, Nat.reduceSub, Nat.reduceMod, Nat.reduceDiv]
      · rw [fk_b_f c1] at l0
        simp (disch := first | assumption | omega) only [rX2_take, bi, l0, Option.bind_some, Option.toList_some, Option.toList_none, List.cons_append, List.nil_append, fk_b_0, nI_add, Nat.add_zero, Nat.zero_add, not_true_eq_false, not_false_eq_true, if_true, if_false, sI_le_t, sI_le_f, sI_lt_t, sI_lt_f, sI_eq_t, sI_eq_f, sI_rem, sI_div, sI_m1a, sI_m1b, sI_m1c, sI_m1d, sI_m1e, sI_m1f, sI_m2a, sI_m2b, sI_sub, pk_mul, sI_dec, fk_u_s, fk_u_o, sI_dec0, sI_z, sI_md, Bool.false_eq_true, Nat.reduceAdd, Nat.reduceMul, Nat.reduceSub, Nat.reduceMod, Nat.reduceDiv]
theorem mX2_take (ho : ab_ok v n H A) (hp : ck_pr 33 y (fun _ => nI 0) A) (e1 : y 26 1 = nI t) (ht : t ≤ 260) (hmt : m ≤ t) (hm1 : 2 ≤ m) (hm : m ≤ 5) (e27 : ∀ i, i < t → y 27 i = nI (b i)) (b6 : ∀ i, b i < 256) : ∃ y', (∀ k, k ≠ 241 → k ≠ 242 → y' k = y k) ∧ match jp_tk b (jp_ok2 A n b) m 0 (fun _ => 0) with
    | none => fk_ev (d + 2) qX2_take 0 [.ref 241, .ref 26, .int ((nI m)), .ref 33, .null, .null, .null, .null, .null] [] (fk_E N y l) = some (some (.int ((nI 0))), fk_E N y' l)
    | some R' => fk_ev (d + 2) qX2_take 0 [.ref 241, .ref 26, .int ((nI m)), .ref 33, .null, .null, .null, .null, .null] [] (fk_E N y l) = some (some (.int ((nI 1))), fk_E N y' l) ∧ y' 241 2 = nI m ∧ ∀ a, a < m → y' 242 a = nI (R' a) := by
  obtain ⟨y', f, g⟩ := mX2_take_loop (N := N) (l := l) (d := d) (y0 := y) ho hp e1 ht hmt hm1 hm e27 b6 m 0 (fun _ => 0) (fk_u y 241 2 (nI 0)) (by omega) (fun k k1 _ => fk_u_rowo k1) fk_u_s (fun a ha => by omega) ⟨fun q hq => by omega, fun q q' _ h => by omega⟩ .null .null .null
  refine ⟨y', f, ?_⟩
  have b0 := mX10_byteAt (N := N) (l := l) (d := d) (y := fk_u y 241 2 (nI 0)) (k := 0) (t := t) (by rw [fk_u_o (by omega)]; exact e1) ht (by omega)
  rw [fk_u_o (by omega), e27 0 (by omega)] at b0
  have st : fk_ev (d + 2) qX2_take 0 [.ref 241, .ref 26, .int ((nI m)), .ref 33, .null, .null, .null, .null, .null] [] (fk_E N y l) = fk_ev (d + 2) qX2_take 15 [.ref 241, .ref 26, .int (nI m), .ref 33, .int (nI (b 0)), .int (nI 0), .null, .null, .null] [] (fk_E N (fk_u y 241 2 (nI 0)) l) := by
    simp (disch := first | assumption | omega) only [rX2_take, b0, Option.bind_some, Option.toList_some, Option.toList_none, List.cons_append, List.nil_append, fk_b_0, nI_add, Nat.add_zero, Nat.zero_add, not_true_eq_false, not_false_eq_true, if_true, if_false, sI_le_t, sI_le_f, sI_lt_t, sI_lt_f, sI_eq_t, sI_eq_f, sI_rem, sI_div, sI_m1a, sI_m1b, sI_m1c, sI_m1d, sI_m1e, sI_m1f, sI_m2a, sI_m2b, sI_sub, pk_mul, sI_dec, fk_u_s, fk_u_o, sI_dec0, sI_z, sI_md, Bool.false_eq_true, Nat.reduceAdd, Nat.reduceMul, Nat.reduceSub, Nat.reduceMod, Nat.reduceDiv]
  rw [st]
  exact g
/-! the reference -/
theorem jp_p_n {R : Nat → Nat} {j : Nat} : ∀ q, jp_p R j q = none → ∃ i, i < q ∧ R i = j := by
  intro q
  induction q with
  | zero => intro h; cases h
  | succ q ih =>
    intro h
    unfold jp_p at h
    by_cases c1 : R q < j
    · rw [if_pos c1] at h; cases h
    · rw [if_neg c1] at h
      by_cases c2 : R q = j
      · exact ⟨q, by omega, c2⟩
      · rw [if_neg c2] at h
        obtain ⟨i, i1, i2⟩ := ih h
        exact ⟨i, by omega, i2⟩
theorem jp_p_s {R : Nat → Nat} {i j p : Nat} (hso : jp_so n i R) (h : jp_p R j i = some p) : ∀ q, q < i → R q ≠ j := by
  obtain ⟨p1, p2, p3⟩ := jp_p_le i h
  intro q hq e
  by_cases c : q < p
  · have a2 := p2 (by omega)
    by_cases e2 : q = p - 1
    · rw [← e2] at a2; omega
    · have := hso.2 q (p - 1) (by omega) (by omega); omega
  · have := p3 q (by omega) hq; omega
theorem mX12_dup {R : Nat → Nat} {j i : Nat} (hi : i < 5) (hj : j < 256) (uR : ∀ q, q < i → R q < 256) (h271 : ∀ a, a < i → y 271 a = nI (R a)) {mm : Int32} : ∀ k q, q + k = i → (∀ a, a < q → R a ≠ j) → ((∀ a, a < i → R a ≠ j) → fk_ev d qX12_takesHalves 67 [.ref 246, .int mm, .int (nI i), .int (nI j), .int (nI i), .int (nI q)] [] (fk_E N y l) = fk_ev d qX12_takesHalves 92 [.ref 246, .int mm, .int (nI i), .int (nI j), .int (nI i), .int (nI i)] [] (fk_E N y l)) ∧ ((∃ a, a < i ∧ R a = j) → fk_ev d qX12_takesHalves 67 [.ref 246, .int mm, .int (nI i), .int (nI j), .int (nI i), .int (nI q)] [] (fk_E N y l) = some (some (.int (nI 0)), fk_E N y l)) := by
  intro k
  induction k with
  | zero =>
    intro q hq h
    have hq : q = i := hq
    subst hq
    refine ⟨fun _ => ?_, fun ⟨a, a1, a2⟩ => absurd a2 (h a a1)⟩
    rw [hX12_takesHalves_67]
    obtain ⟨q0, _⟩ := rX12_takesHalves
    simp (disch := first | assumption | omega) only [rX12_takesHalves, sI_le_t, if_true]
  | succ k ih =>
    intro q hq h
    have e := h271 q (by omega)
    have u := uR q (by omega)
    rw [hX12_takesHalves_67]
    by_cases c : R q = j
    · refine ⟨fun z => absurd c (z q (by omega)), fun _ => ?_⟩
      simp (disch := first | assumption | omega) only [rX12_takesHalves, e, Option.bind_some, Option.toList_some, Option.toList_none, List.cons_append, List.nil_append, fk_b_0, nI_add, Nat.add_zero, Nat.zero_add, not_true_eq_false, not_false_eq_true, if_true, if_false, sI_le_t, sI_le_f, sI_lt_t, sI_lt_f, sI_eq_t, sI_eq_f, sI_rem, sI_div, sI_m1a, sI_m1b, sI_m1c, sI_m1d, sI_m1e, sI_m1f, sI_m2a, sI_m2b, sI_sub, pk_mul, sI_dec, fk_u_s, fk_u_o, sI_dec0, sI_z, sI_md, Bool.false_eq_true, Nat.reduceAdd, Nat.reduceMul, Nat.reduceSub, Nat.reduceMod, Nat.reduceDiv]
    · obtain ⟨g1, g2⟩ := ih (q + 1) (by omega) fun a ha => by
        by_cases e : a = q
        · subst e; exact c
        · exact h a (by omega)
      refine ⟨fun z => ?_, fun z => ?_⟩
      · rw [← g1 z]
        simp (disch := first | assumption | omega) only [rX12_takesHalves, e, Option.bind_some, Option.toList_some, Option.toList_none, List.cons_append, List.nil_append, fk_b_0, nI_add, Nat.add_zero, Nat.zero_add, not_true_eq_false, not_false_eq_true, if_true, if_false, sI_le_t, sI_le_f, sI_lt_t, sI_lt_f, sI_eq_t, sI_eq_f, sI_rem, sI_div, sI_m1a, sI_m1b, sI_m1c, sI_m1d, sI_m1e, sI_m1f, sI_m2a, sI_m2b, sI_sub, pk_mul, sI_dec, fk_u_s, fk_u_o, sI_dec0, sI_z, sI_md, Bool.false_eq_true, Nat.reduceAdd, Nat.reduceMul, Nat.reduceSub, Nat.reduceMod, Nat.reduceDiv]
      · rw [← g2 z]
        simp (disch := first | assumption | omega) only [rX12_takesHalves, e, Option.bind_some, Option.toList_some, Option.toList_none, List.cons_append, List.nil_append, fk_b_0, nI_add, Nat.add_zero, Nat.zero_add, not_true_eq_false, not_false_eq_true, if_true, if_false, sI_le_t, sI_le_f, sI_lt_t, sI_lt_f, sI_eq_t, sI_eq_f, sI_rem, sI_div, sI_m1a, sI_m1b, sI_m1c, sI_m1d, sI_m1e, sI_m1f, sI_m2a, sI_m2b, sI_sub, pk_mul, sI_dec, fk_u_s, fk_u_o, sI_dec0, sI_z, sI_md, Bool.false_eq_true, Nat.reduceAdd, Nat.reduceMul, Nat.reduceSub, Nat.reduceMod, Nat.reduceDiv]
theorem mX12_shift {R : Nat → Nat} {j i p : Nat} (hi : i < 5) (hj : j < 256) (uR : ∀ q, q < i → R q < 256) {mm : Int32} {x : Value} : ∀ q y, q ≤ i → jp_p R j q = some p → (∀ a, a < q → y 271 a = nI (R a)) → (∀ a, q < a → a ≤ i → y 271 a = nI (R (a - 1))) → ∃ y', (∀ k, k ≠ 271 → y' k = y k) ∧ fk_ev d qX12_takesHalves 92 [.ref 246, .int mm, .int (nI i), .int (nI j), .int (nI q), x] [] (fk_E N y l) = fk_ev d qX12_takesHalves 135 [.ref 246, .int mm, .int (nI i), .int (nI j), .int (nI p), x] [] (fk_E N y' l) ∧ (∀ a, a < p → y' 271 a = nI (R a)) ∧ (∀ a, p < a → a ≤ i → y' 271 a = nI (R (a - 1))) := by
  intro q
  induction q with
  | zero =>
    intro y hq hp h1 h2
    cases hp
    refine ⟨y, fun _ _ => rfl, ?_, h1, h2⟩
    rw [hX12_takesHalves_92]
    simp (disch := first | assumption | omega) only [rX12_takesHalves, Option.bind_some, Option.toList_some, Option.toList_none, List.cons_append, List.nil_append, fk_b_0, nI_add, Nat.add_zero, Nat.zero_add, not_true_eq_false, not_false_eq_true, if_true, if_false, sI_le_t, sI_le_f, sI_lt_t, sI_lt_f, sI_eq_t, sI_eq_f, sI_rem, sI_div, sI_m1a, sI_m1b, sI_m1c, sI_m1d, sI_m1e, sI_m1f, sI_m2a, sI_m2b, sI_sub, pk_mul, sI_dec, fk_u_s, fk_u_o, sI_dec0, sI_z, sI_md, Bool.false_eq_true, Nat.reduceAdd, Nat.reduceMul, Nat.reduceSub, Nat.reduceMod, Nat.reduceDiv]
  | succ q ih =>
    intro y hq hp h1 h2
    have e0 := h1 q (by omega)
    have u0 := uR q (by omega)
    unfold jp_p at hp
    rw [hX12_takesHalves_92]
    by_cases c1 : R q < j
    · rw [if_pos c1] at hp
      cases hp
      refine ⟨y, fun _ _ => rfl, ?_, h1, h2⟩
      simp (disch := first | assumption | omega) only [rX12_takesHalves, e0, show q + 1 - 1 = q by omega, Option.bind_some, Option.toList_some, Option.toList_none, List.cons_append, List.nil_append, fk_b_0, nI_add, Nat.add_zero, Nat.zero_add, not_true_eq_false, not_false_eq_true, if_true, if_false, sI_le_t, sI_le_f, sI_lt_t, sI_lt_f, sI_eq_t, sI_eq_f, sI_rem, sI_div, sI_m1a, sI_m1b, sI_m1c, sI_m1d, sI_m1e, sI_m1f, sI_m2a, sI_m2b, sI_sub, pk_mul, sI_dec, fk_u_s, fk_u_o, sI_dec0, sI_z, sI_md, Bool.false_eq_true, Nat.reduceAdd, Nat.reduceMul, Nat.reduceSub, Nat.reduceMod, Nat.reduceDiv]
    · rw [if_neg c1] at hp
      by_cases c2 : R q = j
      · rw [if_pos c2] at hp; cases hp
      · rw [if_neg c2] at hp
        obtain ⟨y', f, g, g2, g3⟩ := ih (fk_u y 271 (q + 1) (nI (R q))) (by omega) hp (fun a ha => by rw [fk_u_o (by omega)]; exact h1 a (by omega)) (fun a a1 a2 => by
          by_cases e : a = q + 1
          · subst e; rw [fk_u_s, show q + 1 - 1 = q by omega]
          · rw [fk_u_o (by omega)]; exact h2 a (by omega) a2)
        refine ⟨y', fun k hk => (f k hk).trans (fk_u_rowo hk), ?_, g2, g3⟩
        rw [← g]
        simp (disch := first | assumption | omega) only [rX12_takesHalves, e0, show q + 1 - 1 = q by omega, Option.bind_some, Option.toList_some, Option.toList_none, List.cons_append, List.nil_append, fk_b_0, nI_add, Nat.add_zero, Nat.zero_add, not_true_eq_false, not_false_eq_true, if_true, if_false, sI_le_t, sI_le_f, sI_lt_t, sI_lt_f, sI_eq_t, sI_eq_f, sI_rem, sI_div, sI_m1a, sI_m1b, sI_m1c, sI_m1d, sI_m1e, sI_m1f, sI_m2a, sI_m2b, sI_sub, pk_mul, sI_dec, fk_u_s, fk_u_o, sI_dec0, sI_z, sI_md, Bool.false_eq_true, Nat.reduceAdd, Nat.reduceMul, Nat.reduceSub, Nat.reduceMod, Nat.reduceDiv]
theorem mX12_th_loop (ho : ab_ok v n H A) (hA : y0 247 = A) (hm1 : 2 ≤ m) (hm : m ≤ 5) (e255 : ∀ i, i < m → y0 255 i &&& nI 255 = nI (b i)) (b6 : ∀ i, b i < 256) : ∀ f i (R : Nat → Nat) y, i + f = m → (∀ k, k ≠ 271 → y k = y0 k) → (∀ a, a < i → y 271 a = nI (R a)) → jp_so n i R → (0 < i → jp_lv A n (b 0)) → ∀ x3 x4 x5 : Value, ∃ y', (∀ k, k ≠ 271 → y' k = y0 k) ∧ match jp_tk b (jp_ok2 A n b) f i R with
    | none => fk_ev (d + 2) qX12_takesHalves 7 [.ref 246, .int (nI m), .int (nI i), x3, x4, x5] [] (fk_E N y l) = some (some (.int (nI 0)), fk_E N y' l)
    | some R' => fk_ev (d + 2) qX12_takesHalves 7 [.ref 246, .int (nI m), .int (nI i), x3, x4, x5] [] (fk_E N y l) = some (some (.int (nI 1)), fk_E N y' l) ∧ ∀ a, a < m → y' 271 a = nI (R' a) := by
  have hn := ho.1
  intro f
  induction f with
  | zero =>
    intro i R y hi hf hr hso hl x3 x4 x5
    have hi : i = m := hi
    subst hi
    refine ⟨y, hf, ?_, hr⟩
    rw [hX12_takesHalves_7]
    simp (disch := first | assumption | omega) only [rX12_takesHalves, Option.bind_some, Option.toList_some, Option.toList_none, List.cons_append, List.nil_append, fk_b_0, nI_add, Nat.add_zero, Nat.zero_add, not_true_eq_false, not_false_eq_true, if_true, if_false, sI_le_t, sI_le_f, sI_lt_t, sI_lt_f, sI_eq_t, sI_eq_f, sI_rem, sI_div, sI_m1a, sI_m1b, sI_m1c, sI_m1d, sI_m1e, sI_m1f, sI_m2a, sI_m2b, sI_sub, pk_mul, sI_dec, fk_u_s, fk_u_o, sI_dec0, sI_z, sI_md, Bool.false_eq_true, Nat.reduceAdd, Nat.reduceMul, Nat.reduceSub, Nat.reduceMod, Nat.reduceDiv]
  | succ f ih =>
    intro i R y hi hf hr hso hl x3 x4 x5
    have q0 := b6 0
    have qi := b6 i
    have y7 : y 247 = A := by rw [hf 247 (by omega)]; exact hA
    have ei : y 255 i &&& nI 255 = nI (b i) := by rw [hf 255 (by omega)]; exact e255 i (by omega)
    have e0 : y 255 0 &&& nI 255 = nI (b 0) := by rw [hf 255 (by omega)]; exact e255 0 (by omega)
    have li := r_lvN (N := N) (y := y) (l := l) (d := d) (j := b i) hn qi (by rw [y7]; exact ho.2.1)
    rw [y7] at li
    unfold jp_tk
    rw [hX12_takesHalves_7]
    by_cases c2 : jp_lv A n (b i)
    · rw [fk_b_t c2] at li
      have c1 : jp_lv A n (b 0) := by
        by_cases i0 : i = 0
        · rw [i0] at c2; exact c2
        · exact hl (by omega)
      by_cases c3 : A (b i) = A (b 0)
      · rw [if_pos ⟨c1, c2, c3⟩]
        have dup := mX12_dup (N := N) (y := y) (l := l) (d := d + 2) (R := R) (j := b i) (i := i) (mm := nI m) (by omega) qi (fun q hq => by have := hso.1 q hq; omega) hr i 0 (by omega) (fun a ha => by omega)
        have ev : fk_ev (d + 2) qX12_takesHalves 8 [.ref 246, .int (nI m), .int (nI i), x3, x4, x5] [.int (nI i)] (fk_E N y l) = fk_ev (d + 2) qX12_takesHalves 67 [.ref 246, .int (nI m), .int (nI i), .int (nI (b i)), .int (nI i), .int (nI 0)] [] (fk_E N y l) := by
          simp (disch := first | assumption | omega) only [rX12_takesHalves, ei, e0, li, y7, c3, Option.bind_some, Option.toList_some, Option.toList_none, List.cons_append, List.nil_append, fk_b_0, nI_add, Nat.add_zero, Nat.zero_add, not_true_eq_false, not_false_eq_true, if_true, if_false, sI_le_t, sI_le_f, sI_lt_t, sI_lt_f, sI_eq_t, sI_eq_f, sI_rem, sI_div, sI_m1a, sI_m1b, sI_m1c, sI_m1d, sI_m1e, sI_m1f, sI_m2a, sI_m2b, sI_sub, pk_mul, sI_dec, fk_u_s, fk_u_o, sI_dec0, sI_z, sI_md, Bool.false_eq_true, Nat.reduceAdd, Nat.reduceMul, Nat.reduceSub, Nat.reduceMod, Nat.reduceDiv]
        rw [ev]
        cases hpp : jp_p R (b i) i with
        | none =>
          try dsimp only
          exact ⟨y, hf, dup.2 (jp_p_n i hpp)⟩
        | some p =>
          try dsimp only
          obtain ⟨pl, _, _⟩ := jp_p_le i hpp
          obtain ⟨y1, f1, g1, g2, g3⟩ := mX12_shift (N := N) (l := l) (d := d + 2) (R := R) (j := b i) (i := i) (mm := nI m) (x := .int (nI i)) (by omega) qi (fun q hq => by have := hso.1 q hq; omega) i y (Nat.le_refl _) hpp hr (fun a a1 a2 => by omega)
          obtain ⟨y', k1, k2⟩ := ih (i + 1) (jp_in R p (b i)) (fk_u y1 271 p (nI (b i))) (by omega) (fun k k1 => by rw [fk_u_rowo k1, f1 k k1, hf k k1]) (fun a ha => by
            unfold jp_in
            by_cases e1 : a < p
            · rw [if_pos e1, fk_u_o (by omega)]; exact g2 a e1
            · rw [if_neg e1]
              by_cases e2 : a = p
              · rw [if_pos e2, e2, fk_u_s]
              · rw [if_neg e2, fk_u_o (by omega)]; exact g3 a (by omega) (by omega)) (jp_so_in hso c2.1 hpp) (fun _ => c1) (.int (nI (b i))) (.int (nI p)) (.int (nI i))
          have ev2 : fk_ev (d + 2) qX12_takesHalves 135 [.ref 246, .int (nI m), .int (nI i), .int (nI (b i)), .int (nI p), .int (nI i)] [] (fk_E N y1 l) = fk_ev (d + 2) qX12_takesHalves 7 [.ref 246, .int (nI m), .int (nI (i + 1)), .int (nI (b i)), .int (nI p), .int (nI i)] [] (fk_E N (fk_u y1 271 p (nI (b i))) l) := by
            simp (disch := first | assumption | omega) only [rX12_takesHalves, Option.bind_some, Option.toList_some, Option.toList_none, List.cons_append, List.nil_append, fk_b_0, nI_add, Nat.add_zero, Nat.zero_add, not_true_eq_false, not_false_eq_true, if_true, if_false, sI_le_t, sI_le_f, sI_lt_t, sI_lt_f, sI_eq_t, sI_eq_f, sI_rem, sI_div, sI_m1a, sI_m1b, sI_m1c, sI_m1d, sI_m1e, sI_m1f, sI_m2a, sI_m2b, sI_sub, pk_mul, sI_dec, fk_u_s, fk_u_o, sI_dec0, sI_z, sI_md, Bool.false_eq_true, Nat.reduceAdd, Nat.reduceMul, Nat.reduceSub, Nat.reduceMod, Nat.reduceDiv]
          refine ⟨y', k1, ?_⟩
          rw [dup.1 (jp_p_s hso hpp), g1, ev2]
          exact k2
      · rw [if_neg fun z => c3 z.2.2]
        try dsimp only
        refine ⟨y, hf, ?_⟩
        simp (disch := first | assumption | omega) only [rX12_takesHalves, ei, e0, li, y7, c3, Option.bind_some, Option.toList_some, Option.toList_none, List.cons_append, List.nil_append, fk_b_0, nI_add, Nat.add_zero, Nat.zero_add, not_true_eq_false, not_false_eq_true, if_true, if_false, sI_le_t, sI_le_f, sI_lt_t, sI_lt_f, sI_eq_t, sI_eq_f, sI_rem, sI_div, sI_m1a, sI_m1b, sI_m1c, sI_m1d, sI_m1e, sI_m1f, sI_m2a, sI_m2b, sI_sub, pk_mul, sI_dec, fk_u_s, fk_u_o, sI_dec0, sI_z, sI_md, Bool.false_eq_true, Nat.reduceAdd, Nat.reduceMul, Nat.reduceSub, Nat.reduceMod, Nat.reduceDiv]
    · rw [fk_b_f c2] at li
      rw [if_neg fun z => c2 z.2.1]
      try dsimp only
      refine ⟨y, hf, ?_⟩
      simp (disch := first | assumption | omega) only [rX12_takesHalves, ei, li, Option.bind_some, Option.toList_some, Option.toList_none, List.cons_append, List.nil_append, fk_b_0, nI_add, Nat.add_zero, Nat.zero_add, not_true_eq_false, not_false_eq_true, if_true, if_false, sI_le_t, sI_le_f, sI_lt_t, sI_lt_f, sI_eq_t, sI_eq_f, sI_rem, sI_div, sI_m1a, sI_m1b, sI_m1c, sI_m1d, sI_m1e, sI_m1f, sI_m2a, sI_m2b, sI_sub, pk_mul, sI_dec, fk_u_s, fk_u_o, sI_dec0, sI_z, sI_md, Bool.false_eq_true, Nat.reduceAdd, Nat.reduceMul, Nat.reduceSub, Nat.reduceMod, Nat.reduceDiv]
theorem mX12_takesHalves (ho : ab_ok v n H A) (hA : y 247 = A) (hm1 : 2 ≤ m) (hm : m ≤ 5) (e255 : ∀ i, i < m → y 255 i &&& nI 255 = nI (b i)) (b6 : ∀ i, b i < 256) : ∃ y', (∀ k, k ≠ 271 → k ≠ 246 → y' k = y k) ∧ (∀ i, i ≠ 44 → y' 246 i = y 246 i) ∧ y' 246 44 = nI m ∧ match jp_tk b (jp_ok2 A n b) m 0 (fun _ => 0) with
    | none => fk_ev (d + 2) qX12_takesHalves 0 [.ref 246, .int ((nI m)), .null, .null, .null, .null] [] (fk_E N y l) = some (some (.int ((nI 0))), fk_E N y' l)
    | some R' => fk_ev (d + 2) qX12_takesHalves 0 [.ref 246, .int ((nI m)), .null, .null, .null, .null] [] (fk_E N y l) = some (some (.int ((nI 1))), fk_E N y' l) ∧ ∀ a, a < m → y' 271 a = nI (R' a) := by
  obtain ⟨y', f, g⟩ := mX12_th_loop (N := N) (l := l) (d := d) (y0 := fk_u y 246 44 (nI m)) (v := v) (A := A) (m := m) (b := b) ho (by rw [fk_u_rowo (by omega)]; exact hA) hm1 hm (fun i hi => by rw [fk_u_rowo (by omega)]; exact e255 i hi) b6 m 0 (fun _ => 0) (fk_u y 246 44 (nI m)) (by omega) (fun _ _ => rfl) (fun a ha => by omega) ⟨fun q hq => by omega, fun q q' _ h => by omega⟩ (fun h => by omega) .null .null .null
  refine ⟨y', fun k k1 k2 => (f k k1).trans (fk_u_rowo k2), fun i hi => by rw [f 246 (by omega), fk_u_o (by omega)], by rw [f 246 (by omega), fk_u_s], ?_⟩
  have st : fk_ev (d + 2) qX12_takesHalves 0 [.ref 246, .int ((nI m)), .null, .null, .null, .null] [] (fk_E N y l) = fk_ev (d + 2) qX12_takesHalves 7 [.ref 246, .int (nI m), .int (nI 0), .null, .null, .null] [] (fk_E N (fk_u y 246 44 (nI m)) l) := by
    simp (disch := first | assumption | omega) only [rX12_takesHalves, Option.bind_some, Option.toList_some, Option.toList_none, List.cons_append, List.nil_append, fk_b_0, nI_add, Nat.add_zero, Nat.zero_add, not_true_eq_false, not_false_eq_true, if_true, if_false, sI_le_t, sI_le_f, sI_lt_t, sI_lt_f, sI_eq_t, sI_eq_f, sI_rem, sI_div, sI_m1a, sI_m1b, sI_m1c, sI_m1d, sI_m1e, sI_m1f, sI_m2a, sI_m2b, sI_sub, pk_mul, sI_dec, fk_u_s, fk_u_o, sI_dec0, sI_z, sI_md, Bool.false_eq_true, Nat.reduceAdd, Nat.reduceMul, Nat.reduceSub, Nat.reduceMod, Nat.reduceDiv]
  rw [st]
  exact g
end JO6
