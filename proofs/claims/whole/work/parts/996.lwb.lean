/-! THE LAW: the reference's isElder; its law, once its rows hold the clauses -/
section LWB
variable {N : Nat} {l : Nat → Nat → Int64} {d : Nat}
theorem mX12_isElder_l {nq : Nat} (hn : nq ≤ 16) : ∀ Q Ms j (y : Nat → Nat → Int32), j + Q.length = nq → y 246 19 = nI nq → lz_hs y 263 262 j Q → lz_mqs Q Ms → ∃ y', fk_ev (d + 2) qX12_isElder 2 [.ref 246, .int (nI j)] [] (fk_E N y l) = some (some (.int (fk_b (¬ lz_W Ms (nI 101) (y 268) = nI 0))), fk_E N y' l) ∧ ∀ k, k ≠ 267 → y' k = y k := by
  intro Q
  induction Q with
  | nil =>
    intro Ms j y hj h8 hq hM
    cases Ms with
    | cons M Ms => exact hM.elim
    | nil =>
      have hj : j = nq := hj
      subst hj
      refine ⟨y, ?_, fun _ _ => rfl⟩
      have e0 : fk_b (¬ lz_W [] (nI 101) (y 268) = nI 0) = nI 0 := if_neg (fun z => z rfl)
      rw [e0, hX12_isElder_2]
      simp (disch := first | assumption | omega) only [rX12_isElder, h8, Option.bind_some, Option.toList_some, Option.toList_none, List.cons_append, List.nil_append, fk_b_0, nI_add, Nat.add_zero, Nat.zero_add, not_true_eq_false, not_false_eq_true, if_true, if_false, sI_le_t, sI_le_f, sI_lt_t, sI_lt_f, sI_eq_t, sI_eq_f, sI_rem, sI_div, sI_m1a, sI_m1b, sI_m1c, sI_m1d, sI_m1e, sI_m1f, sI_m2a, sI_m2b, sI_sub, pk_mul, sI_dec, fk_u_s, fk_u_o, sI_dec0, sI_z, sI_md, Bool.false_eq_true, Nat.reduceAdd, Nat.reduceMul, Nat.reduceSub, Nat.reduceMod, Nat.reduceDiv]
  | cons q Q ih =>
    intro Ms j y hj h8 hq hM
    cases Ms with
    | nil => exact hM.elim
    | cons M Ms =>
      obtain ⟨⟨m1, m2, m3, m4, m5, m6, m7, m8⟩, m9⟩ := hM
      obtain ⟨⟨w, q1, q2, q3, q4, q5, q6, q7⟩, q8⟩ := id hq
      rw [List.length_cons] at hj
      have nx : ∀ (y1 : Nat → Nat → Int32), (∀ k, k ≠ 267 → y1 k = y k) → ∃ y', fk_ev (d + 2) qX12_isElder 2 [.ref 246, .int (nI (j + 1))] [] (fk_E N y1 l) = some (some (.int (fk_b (¬ lz_W Ms (nI 101) (y 268) = nI 0))), fk_E N y' l) ∧ ∀ k, k ≠ 267 → y' k = y k := by
        intro y1 k1
        obtain ⟨y', f1, f2⟩ := ih Ms (j + 1) y1 (by omega) (by rw [k1 246 (by omega)]; exact h8) (lz_hs_c Q (j + 1) (fun i _ => ⟨by rw [k1 263 (by omega)], by rw [k1 (263 + 1) (by omega)], by rw [k1 (263 + 2) (by omega)], by rw [k1 (263 + 3) (by omega)]⟩) (fun i _ => by rw [k1 262 (by omega)]) q8) m9
        rw [k1 268 (by omega)] at f1
        exact ⟨y', f1, fun k hk => (f2 k hk).trans (k1 k hk)⟩
      have q3 : y 265 j = nI (w + q.2.1.length) := q3
      have q4 : y 266 j = nI (w + q.2.1.length + q.2.2.2.length) := q4
      have eW : lz_W (M :: Ms) (nI 101) (y 268) = if nI M.1 = nI 101 ∧ M.2.2 (y 268) = some (nI 1) then (M.2.1 (y 268)).getD (nI 0) else lz_W Ms (nI 101) (y 268) := rfl
      rw [eW, m1]
      by_cases cl : q.1 = 101
      · have q1 : y 263 j = nI 101 := by rw [q1, cl]
        obtain ⟨y1, e1, k1⟩ := mX12_comesTo (N := N) (l := l) (d := d) (y := y) (b := w + q.2.1.length) m6 (by omega) (by omega) q7
        generalize eM : M.2.2 (y 268) = mv at e1
        have hmv : mv = none ∨ mv = some (nI 0) ∨ mv = some (nI 1) := by
          cases mv with
          | none => exact Or.inl rfl
          | some v =>
            rcases m7 _ v eM with rfl | rfl
            · exact Or.inr (Or.inl rfl)
            · exact Or.inr (Or.inr rfl)
        rcases hmv with rfl | rfl | rfl
        · have e1 : fk_ev (d + 1) qX12_comesTo 0 [.ref 246, .int (nI (w + q.2.1.length)), .int (nI (w + q.2.1.length + q.2.2.2.length)), .null, .null, .null, .null, .null] [] (fk_E N y l) = some (some (.int (nI 0)), fk_E N y1 l) := e1
          rw [if_neg (fun z => by cases z.2)]
          obtain ⟨y', f1, f2⟩ := nx y1 k1
          refine ⟨y', ?_, f2⟩
          rw [← f1]
          conv => lhs; rw [hX12_isElder_2]
          simp (disch := first | assumption | omega) only [rX12_isElder, h8, q1, q3, q4, e1, Option.bind_some, Option.toList_some, Option.toList_none, List.cons_append, List.nil_append, fk_b_0, nI_add, Nat.add_zero, Nat.zero_add, not_true_eq_false, not_false_eq_true, if_true, if_false, sI_le_t, sI_le_f, sI_lt_t, sI_lt_f, sI_eq_t, sI_eq_f, sI_rem, sI_div, sI_m1a, sI_m1b, sI_m1c, sI_m1d, sI_m1e, sI_m1f, sI_m2a, sI_m2b, sI_sub, pk_mul, sI_dec, fk_u_s, fk_u_o, sI_dec0, sI_z, sI_md, Bool.false_eq_true, Nat.reduceAdd, Nat.reduceMul, Nat.reduceSub, Nat.reduceMod, Nat.reduceDiv]
        · have e1 : fk_ev (d + 1) qX12_comesTo 0 [.ref 246, .int (nI (w + q.2.1.length)), .int (nI (w + q.2.1.length + q.2.2.2.length)), .null, .null, .null, .null, .null] [] (fk_E N y l) = some (some (.int (nI 0)), fk_E N y1 l) := e1
          rw [if_neg (fun z => absurd z.2 (by decide))]
          obtain ⟨y', f1, f2⟩ := nx y1 k1
          refine ⟨y', ?_, f2⟩
          rw [← f1]
          conv => lhs; rw [hX12_isElder_2]
          simp (disch := first | assumption | omega) only [rX12_isElder, h8, q1, q3, q4, e1, Option.bind_some, Option.toList_some, Option.toList_none, List.cons_append, List.nil_append, fk_b_0, nI_add, Nat.add_zero, Nat.zero_add, not_true_eq_false, not_false_eq_true, if_true, if_false, sI_le_t, sI_le_f, sI_lt_t, sI_lt_f, sI_eq_t, sI_eq_f, sI_rem, sI_div, sI_m1a, sI_m1b, sI_m1c, sI_m1d, sI_m1e, sI_m1f, sI_m2a, sI_m2b, sI_sub, pk_mul, sI_dec, fk_u_s, fk_u_o, sI_dec0, sI_z, sI_md, Bool.false_eq_true, Nat.reduceAdd, Nat.reduceMul, Nat.reduceSub, Nat.reduceMod, Nat.reduceDiv]
        · have e1 : fk_ev (d + 1) qX12_comesTo 0 [.ref 246, .int (nI (w + q.2.1.length)), .int (nI (w + q.2.1.length + q.2.2.2.length)), .null, .null, .null, .null, .null] [] (fk_E N y l) = some (some (.int (nI 1)), fk_E N y1 l) := e1
          rw [if_pos ⟨by rw [cl], rfl⟩, m8 cl]
          have e0 : fk_b (¬ (some (nI 1)).getD (nI 0) = nI 0) = nI 1 := if_pos (by decide)
          refine ⟨y1, ?_, k1⟩
          rw [e0, hX12_isElder_2]
          simp (disch := first | assumption | omega) only [rX12_isElder, h8, q1, q3, q4, e1, Option.bind_some, Option.toList_some, Option.toList_none, List.cons_append, List.nil_append, fk_b_0, nI_add, Nat.add_zero, Nat.zero_add, not_true_eq_false, not_false_eq_true, if_true, if_false, sI_le_t, sI_le_f, sI_lt_t, sI_lt_f, sI_eq_t, sI_eq_f, sI_rem, sI_div, sI_m1a, sI_m1b, sI_m1c, sI_m1d, sI_m1e, sI_m1f, sI_m2a, sI_m2b, sI_sub, pk_mul, sI_dec, fk_u_s, fk_u_o, sI_dec0, sI_z, sI_md, Bool.false_eq_true, Nat.reduceAdd, Nat.reduceMul, Nat.reduceSub, Nat.reduceMod, Nat.reduceDiv]
      · have ne : ¬ nI q.1 = nI 101 := fun z => cl ((nI_eq (by omega) (by omega)).mp z)
        rw [if_neg (fun z => ne z.1)]
        obtain ⟨y', f1, f2⟩ := nx y (fun _ _ => rfl)
        refine ⟨y', ?_, f2⟩
        rw [← f1]
        conv => lhs; rw [hX12_isElder_2]
        have cl' : (nI q.1 = nI 101) = False := eq_false ne
        simp (disch := first | assumption | omega) only [rX12_isElder, h8, q1, cl', Option.bind_some, Option.toList_some, Option.toList_none, List.cons_append, List.nil_append, fk_b_0, nI_add, Nat.add_zero, Nat.zero_add, not_true_eq_false, not_false_eq_true, if_true, if_false, sI_le_t, sI_le_f, sI_lt_t, sI_lt_f, sI_eq_t, sI_eq_f, sI_rem, sI_div, sI_m1a, sI_m1b, sI_m1c, sI_m1d, sI_m1e, sI_m1f, sI_m2a, sI_m2b, sI_sub, pk_mul, sI_dec, fk_u_s, fk_u_o, sI_dec0, sI_z, sI_md, Bool.false_eq_true, Nat.reduceAdd, Nat.reduceMul, Nat.reduceSub, Nat.reduceMod, Nat.reduceDiv]
theorem lz_LR {y : Nat → Nat → Int32} {Q : List (Nat × List (Nat × Nat) × List (Nat × Nat) × List (Nat × Nat))} {Ms : List (Nat × ((Nat → Int32) → Option Int32) × ((Nat → Int32) → Option Int32))} (hn : Q.length ≤ 16) (h8 : y 246 19 = nI Q.length) (hq : lz_hs y 263 262 0 Q) (hM : lz_mqs Q Ms) : fk_LR (lz_W Ms) y := by
  refine ⟨fun a F G hFG => lz_W_c hFG Q Ms hM, ?_, ?_⟩
  · intro N d y1 l a h g1 g2 ha h0
    have ha' : ¬ a = nI 101 := by rcases ha with rfl | rfl | rfl | rfl | rfl <;> decide
    obtain ⟨y', f1, f2⟩ := mX12_byLaw_l (N := N) (l := l) (d := d + 1) (a := a) ha' h0 hn Q Ms 0 y1 .null (Nat.zero_add _) (g2.trans h8) (lz_hs_c Q 0 (fun i _ => ⟨by rw [g1 263 (by omega) (by omega)], by rw [g1 (263 + 1) (by omega) (by omega)], by rw [g1 (263 + 2) (by omega) (by omega)], by rw [g1 (263 + 3) (by omega) (by omega)]⟩) (fun i _ => by rw [g1 262 (by omega) (by omega)]) hq) hM
    refine ⟨y', ?_, f2⟩
    rw [← f1]
    simp (disch := first | assumption | omega) only [rX12_byLaw, Option.bind_some, Option.toList_some, Option.toList_none, List.cons_append, List.nil_append, fk_b_0, nI_add, Nat.add_zero, Nat.zero_add, not_true_eq_false, not_false_eq_true, if_true, if_false, sI_le_t, sI_le_f, sI_lt_t, sI_lt_f, sI_eq_t, sI_eq_f, sI_rem, sI_div, sI_m1a, sI_m1b, sI_m1c, sI_m1d, sI_m1e, sI_m1f, sI_m2a, sI_m2b, sI_sub, pk_mul, sI_dec, fk_u_s, fk_u_o, sI_dec0, sI_z, sI_md, Bool.false_eq_true, Nat.reduceAdd, Nat.reduceMul, Nat.reduceSub, Nat.reduceMod, Nat.reduceDiv]
  · intro N d y1 l g1 g2
    obtain ⟨y', f1, f2⟩ := mX12_isElder_l (N := N) (l := l) (d := d + 1) hn Q Ms 0 y1 (Nat.zero_add _) (g2.trans h8) (lz_hs_c Q 0 (fun i _ => ⟨by rw [g1 263 (by omega) (by omega)], by rw [g1 (263 + 1) (by omega) (by omega)], by rw [g1 (263 + 2) (by omega) (by omega)], by rw [g1 (263 + 3) (by omega) (by omega)]⟩) (fun i _ => by rw [g1 262 (by omega) (by omega)]) hq) hM
    refine ⟨y', ?_, f2⟩
    rw [← f1]
    simp (disch := first | assumption | omega) only [rX12_isElder, Option.bind_some, Option.toList_some, Option.toList_none, List.cons_append, List.nil_append, fk_b_0, nI_add, Nat.add_zero, Nat.zero_add, not_true_eq_false, not_false_eq_true, if_true, if_false, sI_le_t, sI_le_f, sI_lt_t, sI_lt_f, sI_eq_t, sI_eq_f, sI_rem, sI_div, sI_m1a, sI_m1b, sI_m1c, sI_m1d, sI_m1e, sI_m1f, sI_m2a, sI_m2b, sI_sub, pk_mul, sI_dec, fk_u_s, fk_u_o, sI_dec0, sI_z, sI_md, Bool.false_eq_true, Nat.reduceAdd, Nat.reduceMul, Nat.reduceSub, Nat.reduceMod, Nat.reduceDiv]
end LWB
