section PL4
variable {N : Nat} {S : Nat → Int32} {v y y0 y1 y2 : Nat → Nat → Int32} {l : Nat → Nat → Int64} {d n H c k m p o : Nat} {T A : Nat → Int32} {W : Int32 → (Nat → Int32) → Int32} {s : ab_S} {b0 P : Int32}
theorem fk_cf_0 {q : Nat → Bool} {j k i : Nat} (h : fk_cf q j k = 0) (h1 : j ≤ i) (h2 : i < j + k) : ¬ q i = true := fun z => by
  have := (fk_cf_pos (p := q) k j).mpr ⟨i, h1, h2, z⟩
  omega
theorem fk_cf_1 {q : Nat → Bool} : ∀ k, fk_cf q 0 k = 1 → ∃ j, j < k ∧ q j = true ∧ ∀ i, i < k → q i = true → i = j := by
  intro k
  induction k with
  | zero => intro h; exact absurd h (show ¬ (0 : Nat) = 1 by decide)
  | succ k ih =>
    intro h
    rw [fk_cf_succ, Nat.zero_add] at h
    by_cases c : q k = true
    · rw [if_pos c] at h
      refine ⟨k, by omega, c, fun i hi hq => ?_⟩
      by_cases e : i = k
      · exact e
      · exact absurd hq (fk_cf_0 (q := q) (j := 0) (k := k) (by omega) (by omega) (by omega))
    · rw [if_neg c] at h
      obtain ⟨j, h1, h2, h3⟩ := ih (by omega)
      refine ⟨j, by omega, h2, fun i hi hq => ?_⟩
      by_cases e : i = k
      · subst e; exact absurd hq c
      · exact h3 i (by omega) hq
/-- the only one of a gender -/
def ab_oo (A : Nat → Int32) (o n j : Nat) : Prop := j < n ∧ (A (192 + j) = nI 1 ∧ A j = nI o) ∧ ∀ i, i < n → A (192 + i) = nI 1 ∧ A i = nI o → i = j
theorem ab_oo_of (ho : ab_ok v n H A) (h : ab_lo A (nI o) = 1) : ∃ j, ab_oo A o n j := by
  unfold ab_lo at h
  rw [ab_ok_n ho] at h
  obtain ⟨j, h1, h2, h3⟩ := fk_cf_1 n h
  exact ⟨j, h1, of_decide_eq_true h2, fun i hi q => h3 i hi (decide_eq_true q)⟩
theorem mX8_onlyOneOf {j : Nat} (hp : ck_pp p) (hpr : ck_pr p y T A) (ho : ab_ok v n H A) (ho4 : o < 4) (h1 : ab_lo A (nI o) = 1) (hj : ab_oo A o n j) : fk_ev (d + 1) qX8_onlyOneOf 0 [.ref p, .int ((nI o)), .null] [] (fk_E N y l) = some (some (.int ((nI j))), fk_E N y l) := by
  obtain ⟨h8, c0, c1, h24, s24, h20, s20, p1, p2⟩ := ck_pp_at hp
  have hn := ho.1
  have e2 : y p 2 = nI n := hpr.1.1.trans ho.2.1
  have eo := hpr.2.2.2.2 o ho4
  rw [h1] at eo
  obtain ⟨j1, j2, j3⟩ := hj
  have hm : ∀ i, i < n → ck_hm (y (p + 3 + i)) A i := fun i hi => hpr.2.2.1 i (by omega) (by rw [ab_ok_n ho]; exact hi)
  have key := fk_loopr (σ := Unit) (fun k _ => fk_ev (d + 1) qX8_onlyOneOf 22 [.ref p, .int (nI o), .int (nI k)] [] (fk_E N y l)) (fun _ _ => True) j (by
    intro k _ hk _
    try dsimp only
    have hh := ck_pp_h hp (show k < 64 by omega)
    have a4 := (hm k (by omega)).2.2.2.1
    have a1 := (hm k (by omega)).1
    rw [hX8_onlyOneOf_22]
    refine ⟨(), ?_, trivial⟩
    by_cases q1 : A (192 + k) = nI 1
    · have q2 : ¬ A k = nI o := fun z => by
        have := j3 k (by omega) ⟨q1, z⟩
        omega
      rw [fk_b_t q1] at a4
      simp (disch := first | assumption | omega) only [rX8_onlyOneOf, e2, c0, ck_p3 (p := p), a4, a1, q2, Option.bind_some, Option.toList_some, Option.toList_none, List.cons_append, List.nil_append, fk_b_0, nI_add, Nat.add_zero, Nat.zero_add, not_true_eq_false, not_false_eq_true, if_true, if_false, sI_le_t, sI_le_f, sI_lt_t, sI_lt_f, sI_eq_t, sI_eq_f, sI_rem, sI_div, sI_m1a, sI_m1b, sI_m1c, sI_m1d, sI_m1e, sI_m1f, sI_m2a, sI_m2b, sI_sub, pk_mul, sI_dec, fk_u_s, fk_u_o, sI_dec0, sI_z, sI_md, Bool.false_eq_true, Nat.reduceAdd, Nat.reduceMul, Nat.reduceSub, Nat.reduceMod, Nat.reduceDiv]
    · rw [fk_b_f q1] at a4
      simp (disch := first | assumption | omega) only [rX8_onlyOneOf, e2, c0, ck_p3 (p := p), a4, Option.bind_some, Option.toList_some, Option.toList_none, List.cons_append, List.nil_append, fk_b_0, nI_add, Nat.add_zero, Nat.zero_add, not_true_eq_false, not_false_eq_true, if_true, if_false, sI_le_t, sI_le_f, sI_lt_t, sI_lt_f, sI_eq_t, sI_eq_f, sI_rem, sI_div, sI_m1a, sI_m1b, sI_m1c, sI_m1d, sI_m1e, sI_m1f, sI_m2a, sI_m2b, sI_sub, pk_mul, sI_dec, fk_u_s, fk_u_o, sI_dec0, sI_z, sI_md, Bool.false_eq_true, Nat.reduceAdd, Nat.reduceMul, Nat.reduceSub, Nat.reduceMod, Nat.reduceDiv]) j 0 () (Nat.zero_add j) trivial
  obtain ⟨_, e, _⟩ := key
  try dsimp only at e
  have hh := ck_pp_h hp (show j < 64 by omega)
  have a4 := (hm j j1).2.2.2.1
  have a1 := (hm j j1).1
  rw [fk_b_t j2.1] at a4
  rw [j2.2] at a1
  simp (disch := first | assumption | omega) only [rX8_onlyOneOf, mX11_within, and_self, c1, eo, Option.bind_some, Option.toList_some, Option.toList_none, List.cons_append, List.nil_append, fk_b_0, nI_add, Nat.add_zero, Nat.zero_add, not_true_eq_false, not_false_eq_true, if_true, if_false, sI_le_t, sI_le_f, sI_lt_t, sI_lt_f, sI_eq_t, sI_eq_f, sI_rem, sI_div, sI_m1a, sI_m1b, sI_m1c, sI_m1d, sI_m1e, sI_m1f, sI_m2a, sI_m2b, sI_sub, pk_mul, sI_dec, fk_u_s, fk_u_o, sI_dec0, sI_z, sI_md, Bool.false_eq_true, Nat.reduceAdd, Nat.reduceMul, Nat.reduceSub, Nat.reduceMod, Nat.reduceDiv]
  rw [e, hX8_onlyOneOf_22]
  simp (disch := first | assumption | omega) only [rX8_onlyOneOf, e2, c0, ck_p3 (p := p), a4, a1, Option.bind_some, Option.toList_some, Option.toList_none, List.cons_append, List.nil_append, fk_b_0, nI_add, Nat.add_zero, Nat.zero_add, not_true_eq_false, not_false_eq_true, if_true, if_false, sI_le_t, sI_le_f, sI_lt_t, sI_lt_f, sI_eq_t, sI_eq_f, sI_rem, sI_div, sI_m1a, sI_m1b, sI_m1c, sI_m1d, sI_m1e, sI_m1f, sI_m2a, sI_m2b, sI_sub, pk_mul, sI_dec, fk_u_s, fk_u_o, sI_dec0, sI_z, sI_md, Bool.false_eq_true, Nat.reduceAdd, Nat.reduceMul, Nat.reduceSub, Nat.reduceMod, Nat.reduceDiv]
theorem mX8_onlyOneOf_no (hp : ck_pp p) (hpr : ck_pr p y T A) (ho : ab_ok v n H A) (ho4 : o < 4) (h1 : ¬ ab_lo A (nI o) = 1) : fk_ev (d + 1) qX8_onlyOneOf 0 [.ref p, .int ((nI o)), .null] [] (fk_E N y l) = some (some (.int ((-1))), fk_E N y l) := by
  obtain ⟨h8, c0, c1, h24, s24, h20, s20, p1, p2⟩ := ck_pp_at hp
  have hn := ho.1
  have eo := hpr.2.2.2.2 o ho4
  have hl : ab_lo A (nI o) ≤ 64 := by
    have a := fk_cf_le (p := fun j => decide (A (192 + j) = nI 1 ∧ A j = nI o)) (ab_n A) 0
    have b := ab_ok_n ho
    unfold ab_lo
    omega
  have e3 : ¬ nI (ab_lo A (nI o)) = nI 1 := fun z => h1 ((nI_eq (by omega) (by omega)).mp z)
  simp (disch := first | assumption | omega) only [rX8_onlyOneOf, mX11_within, and_self, c1, eo, e3, Option.bind_some, Option.toList_some, Option.toList_none, List.cons_append, List.nil_append, fk_b_0, nI_add, Nat.add_zero, Nat.zero_add, not_true_eq_false, not_false_eq_true, if_true, if_false, sI_le_t, sI_le_f, sI_lt_t, sI_lt_f, sI_eq_t, sI_eq_f, sI_rem, sI_div, sI_m1a, sI_m1b, sI_m1c, sI_m1d, sI_m1e, sI_m1f, sI_m2a, sI_m2b, sI_sub, pk_mul, sI_dec, fk_u_s, fk_u_o, sI_dec0, sI_z, sI_md, Bool.false_eq_true, Nat.reduceAdd, Nat.reduceMul, Nat.reduceSub, Nat.reduceMod, Nat.reduceDiv]
theorem mX12_aliveOf {j : Nat} (ho : ab_ok v n H (y 247)) (hj : ab_oo (y 247) o n j) : fk_ev (d + 1) qX12_aliveOf 0 [.ref 246, .int ((nI o)), .null, .null] [] (fk_E N y l) = some (some (.int ((nI j))), fk_E N y l) := by
  have hn := ho.1
  have hm := ho.2.1
  obtain ⟨j1, j2, j3⟩ := hj
  have key := fk_loopr (σ := Int32) (fun k t => fk_ev (d + 1) qX12_aliveOf 4 [.ref 246, .int (nI o), .int t, .int (nI k)] [] (fk_E N y l)) (fun k t => t = if j < k then nI j else (-1)) n (by
    intro k t hk i1
    try dsimp only at i1 ⊢
    rw [hX12_aliveOf_4]
    by_cases q : k = j
    · subst q
      refine ⟨nI k, ?_, (if_pos (by omega)).symm⟩
      simp (disch := first | assumption | omega) only [rX12_aliveOf, hm, mX12_lives, j2.1, j2.2, Option.bind_some, Option.toList_some, Option.toList_none, List.cons_append, List.nil_append, fk_b_0, nI_add, Nat.add_zero, Nat.zero_add, not_true_eq_false, not_false_eq_true, if_true, if_false, sI_le_t, sI_le_f, sI_lt_t, sI_lt_f, sI_eq_t, sI_eq_f, sI_rem, sI_div, sI_m1a, sI_m1b, sI_m1c, sI_m1d, sI_m1e, sI_m1f, sI_m2a, sI_m2b, sI_sub, pk_mul, sI_dec, fk_u_s, fk_u_o, sI_dec0, sI_z, sI_md, Bool.false_eq_true, Nat.reduceAdd, Nat.reduceMul, Nat.reduceSub, Nat.reduceMod, Nat.reduceDiv]
    · refine ⟨t, ?_, ?_⟩
      · by_cases q1 : y 247 (192 + k) = nI 1
        · have q2 : ¬ y 247 k = nI o := fun z => q (j3 k hk ⟨q1, z⟩)
          simp (disch := first | assumption | omega) only [rX12_aliveOf, hm, mX12_lives, q1, q2, Option.bind_some, Option.toList_some, Option.toList_none, List.cons_append, List.nil_append, fk_b_0, nI_add, Nat.add_zero, Nat.zero_add, not_true_eq_false, not_false_eq_true, if_true, if_false, sI_le_t, sI_le_f, sI_lt_t, sI_lt_f, sI_eq_t, sI_eq_f, sI_rem, sI_div, sI_m1a, sI_m1b, sI_m1c, sI_m1d, sI_m1e, sI_m1f, sI_m2a, sI_m2b, sI_sub, pk_mul, sI_dec, fk_u_s, fk_u_o, sI_dec0, sI_z, sI_md, Bool.false_eq_true, Nat.reduceAdd, Nat.reduceMul, Nat.reduceSub, Nat.reduceMod, Nat.reduceDiv]
        · simp (disch := first | assumption | omega) only [rX12_aliveOf, hm, mX12_lives, q1, Option.bind_some, Option.toList_some, Option.toList_none, List.cons_append, List.nil_append, fk_b_0, nI_add, Nat.add_zero, Nat.zero_add, not_true_eq_false, not_false_eq_true, if_true, if_false, sI_le_t, sI_le_f, sI_lt_t, sI_lt_f, sI_eq_t, sI_eq_f, sI_rem, sI_div, sI_m1a, sI_m1b, sI_m1c, sI_m1d, sI_m1e, sI_m1f, sI_m2a, sI_m2b, sI_sub, pk_mul, sI_dec, fk_u_s, fk_u_o, sI_dec0, sI_z, sI_md, Bool.false_eq_true, Nat.reduceAdd, Nat.reduceMul, Nat.reduceSub, Nat.reduceMod, Nat.reduceDiv]
      · rw [i1]
        by_cases q3 : j < k
        · rw [if_pos q3, if_pos (by omega)]
        · rw [if_neg q3, if_neg (by omega)]) n 0 (-1) (Nat.zero_add n) (if_neg (by omega)).symm
  obtain ⟨t, e, i1⟩ := key
  try dsimp only at e i1
  rw [if_pos j1] at i1
  subst i1
  simp (disch := first | assumption | omega) only [rX12_aliveOf, Option.bind_some, Option.toList_some, Option.toList_none, List.cons_append, List.nil_append, fk_b_0, nI_add, Nat.add_zero, Nat.zero_add, not_true_eq_false, not_false_eq_true, if_true, if_false, sI_le_t, sI_le_f, sI_lt_t, sI_lt_f, sI_eq_t, sI_eq_f, sI_rem, sI_div, sI_m1a, sI_m1b, sI_m1c, sI_m1d, sI_m1e, sI_m1f, sI_m2a, sI_m2b, sI_sub, pk_mul, sI_dec, fk_u_s, fk_u_o, sI_dec0, sI_z, sI_md, Bool.false_eq_true, Nat.reduceAdd, Nat.reduceMul, Nat.reduceSub, Nat.reduceMod, Nat.reduceDiv]
  rw [e, hX12_aliveOf_4]
  simp (disch := first | assumption | omega) only [rX12_aliveOf, hm, Option.bind_some, Option.toList_some, Option.toList_none, List.cons_append, List.nil_append, fk_b_0, nI_add, Nat.add_zero, Nat.zero_add, not_true_eq_false, not_false_eq_true, if_true, if_false, sI_le_t, sI_le_f, sI_lt_t, sI_lt_f, sI_eq_t, sI_eq_f, sI_rem, sI_div, sI_m1a, sI_m1b, sI_m1c, sI_m1d, sI_m1e, sI_m1f, sI_m2a, sI_m2b, sI_sub, pk_mul, sI_dec, fk_u_s, fk_u_o, sI_dec0, sI_z, sI_md, Bool.false_eq_true, Nat.reduceAdd, Nat.reduceMul, Nat.reduceSub, Nat.reduceMod, Nat.reduceDiv]
end PL4
