/-! THE LAW: what the class says by its clauses -/
section LW8
variable {N : Nat} {y : Nat → Nat → Int32} {l : Nat → Nat → Int64} {d c : Nat} {a h : Int32}
def lz_hq (y : Nat → Nat → Int32) (c : Nat) : Nat → List (Nat × List (Nat × Nat) × List (Nat × Nat) × List (Nat × Nat)) → Prop
  | _, [] => True
  | j, q :: Q => (∃ w, y (c + 3) j = nI q.1 ∧ y (c + 4) j = nI w ∧ y (c + 5) j = nI (w + (lz_kw q).length) ∧ y (c + 6) j = nI (w + (lz_kw q).length + q.2.2.1.length) ∧ w + (lz_kw q).length + q.2.2.1.length ≤ 240 ∧ lz_hc y c w (lz_kw q) ∧ lz_hc y c (w + (lz_kw q).length) q.2.2.1) ∧ lz_hq y c (j + 1) Q
theorem lz_hq_c {y' : Nat → Nat → Int32} (hk : ∀ k, c < k → k < c + 7 → y' k = y k) : ∀ Q j, lz_hq y c j Q → lz_hq y' c j Q := by
  intro Q
  induction Q with
  | nil => intro j _; trivial
  | cons q Q ih =>
    intro j hq
    obtain ⟨⟨w, h1, h2, h3, h4, h5, h6, h7⟩, h8⟩ := hq
    refine ⟨⟨w, by rw [hk (c + 3) (by omega) (by omega)]; exact h1, by rw [hk (c + 4) (by omega) (by omega)]; exact h2, by rw [hk (c + 5) (by omega) (by omega)]; exact h3, by rw [hk (c + 6) (by omega) (by omega)]; exact h4, h5, lz_hc_c _ _ (fun i _ _ => ⟨by rw [hk (c + 1) (by omega) (by omega)], by rw [hk (c + 2) (by omega) (by omega)]⟩) h6, lz_hc_c _ _ (fun i _ _ => ⟨by rw [hk (c + 1) (by omega) (by omega)], by rw [hk (c + 2) (by omega) (by omega)]⟩) h7⟩, ih (j + 1) h8⟩
theorem mX3_value_l (hc : c = 2 ∨ c = 10) (h0 : nI 0 ≤ h) {nq : Nat} (hn : nq ≤ 16) : ∀ Q Ms j y, j + Q.length = nq → y c 8 = nI nq → lz_hq y c j Q → lz_mqs Q Ms → ∃ y', fk_ev (d + 1) qX3_value 3 [.ref c, .int a, .int h, .ref 239, .int (nI j)] [] (fk_E N y l) = some (some (.int (ab_cl h (lz_W Ms a (ck_lt (y 239))))), fk_E N y' l) ∧ ∀ k, k ≠ c + 7 → y' k = y k := by
  obtain ⟨a0, a1, a2, a3, a4, a5, a6, a7⟩ := lz_law hc
  obtain ⟨b3, b4, b5, b6, s3, s4, s5, s6⟩ := lz_law3 hc
  intro Q
  induction Q with
  | nil =>
    intro Ms j y hj h8 hq hM
    cases Ms with
    | cons M Ms => exact hM.elim
    | nil =>
      have hj : j = nq := hj
      subst hj
      refine ⟨y, ?_, fun _ _ => rfl⟩
      show _ = some (some (Value.int (ab_cl h (nI 0))), _)
      rw [ab_cl_0 h0, hX3_value_3]
      simp (disch := first | assumption | omega) only [rX3_value, h8, Option.bind_some, Option.toList_some, Option.toList_none, List.cons_append, List.nil_append, fk_b_0, nI_add, Nat.add_zero, Nat.zero_add, not_true_eq_false, not_false_eq_true, if_true, if_false, sI_le_t, sI_le_f, sI_lt_t, sI_lt_f, sI_eq_t, sI_eq_f, sI_rem, sI_div, sI_m1a, sI_m1b, sI_m1c, sI_m1d, sI_m1e, sI_m1f, sI_m2a, sI_m2b, sI_sub, pk_mul, sI_dec, fk_u_s, fk_u_o, sI_dec0, sI_z, sI_md, Bool.false_eq_true, Nat.reduceAdd, Nat.reduceMul, Nat.reduceSub, Nat.reduceMod, Nat.reduceDiv]
  | cons q Q ih =>
    intro Ms j y hj h8 hq hM
    cases Ms with
    | nil => exact hM.elim
    | cons M Ms =>
      obtain ⟨⟨m1, m2, m3, m4, m5, m6, m7, m8⟩, m9⟩ := hM
      obtain ⟨⟨w, q1, q2, q3, q4, q5, q6, q7⟩, q8⟩ := id hq
      rw [List.length_cons] at hj
      have nx : ∀ y1 : Nat → Nat → Int32, (∀ k, k ≠ c + 7 → y1 k = y k) → ∃ y', fk_ev (d + 1) qX3_value 3 [.ref c, .int a, .int h, .ref 239, .int (nI (j + 1))] [] (fk_E N y1 l) = some (some (.int (ab_cl h (lz_W Ms a (ck_lt (y 239))))), fk_E N y' l) ∧ ∀ k, k ≠ c + 7 → y' k = y k := by
        intro y1 k1
        obtain ⟨y', f1, f2⟩ := ih Ms (j + 1) y1 (by omega) (by rw [k1 c (by omega)]; exact h8) (lz_hq_c (fun k _ _ => k1 k (by omega)) Q (j + 1) q8) m9
        rw [k1 239 (by omega)] at f1
        exact ⟨y', f1, fun k hk => (f2 k hk).trans (k1 k hk)⟩
      unfold lz_W
      rw [m1]
      by_cases cl : nI q.1 = a
      · have q1 : y (c + 3) j = a := q1.trans cl
        obtain ⟨y1, e1, k1⟩ := mX3_run (N := N) (l := l) (d := d) (y := y) (b := w + (lz_kw q).length) hc m5 (by omega) (by omega) q7
        cases em : M.2.2 (ck_lt (y 239)) with
        | none =>
          rw [em] at e1
          have e1 : fk_ev d qX3_run 0 [.ref c, .int (nI (w + (lz_kw q).length)), .int (nI (w + (lz_kw q).length + q.2.2.1.length)), .ref 239, .null, .null, .null, .null, .null] [] (fk_E N y l) = some (some (.int (nI 0)), fk_E N y1 l) := e1
          rw [if_neg (fun z => by cases z.2)]
          obtain ⟨y', f1, f2⟩ := nx y1 k1
          refine ⟨y', ?_, f2⟩
          rw [← f1]
          conv => lhs; rw [hX3_value_3]
          simp (disch := first | assumption | omega) only [rX3_value, h8, a3, a4, a5, a6, s3, s4, s5, s6, q1, q2, q3, q4, e1, Option.bind_some, Option.toList_some, Option.toList_none, List.cons_append, List.nil_append, fk_b_0, nI_add, Nat.add_zero, Nat.zero_add, not_true_eq_false, not_false_eq_true, if_true, if_false, sI_le_t, sI_le_f, sI_lt_t, sI_lt_f, sI_eq_t, sI_eq_f, sI_rem, sI_div, sI_m1a, sI_m1b, sI_m1c, sI_m1d, sI_m1e, sI_m1f, sI_m2a, sI_m2b, sI_sub, pk_mul, sI_dec, fk_u_s, fk_u_o, sI_dec0, sI_z, sI_md, Bool.false_eq_true, Nat.reduceAdd, Nat.reduceMul, Nat.reduceSub, Nat.reduceMod, Nat.reduceDiv]
        | some v =>
          rw [em] at e1
          rcases m7 _ v em with rfl | rfl
          · have e1 : fk_ev d qX3_run 0 [.ref c, .int (nI (w + (lz_kw q).length)), .int (nI (w + (lz_kw q).length + q.2.2.1.length)), .ref 239, .null, .null, .null, .null, .null] [] (fk_E N y l) = some (some (.int (nI 0)), fk_E N y1 l) := e1
            rw [if_neg (fun z => absurd z.2 (by decide))]
            obtain ⟨y', f1, f2⟩ := nx y1 k1
            refine ⟨y', ?_, f2⟩
            rw [← f1]
            conv => lhs; rw [hX3_value_3]
            simp (disch := first | assumption | omega) only [rX3_value, h8, a3, a4, a5, a6, s3, s4, s5, s6, q1, q2, q3, q4, e1, Option.bind_some, Option.toList_some, Option.toList_none, List.cons_append, List.nil_append, fk_b_0, nI_add, Nat.add_zero, Nat.zero_add, not_true_eq_false, not_false_eq_true, if_true, if_false, sI_le_t, sI_le_f, sI_lt_t, sI_lt_f, sI_eq_t, sI_eq_f, sI_rem, sI_div, sI_m1a, sI_m1b, sI_m1c, sI_m1d, sI_m1e, sI_m1f, sI_m2a, sI_m2b, sI_sub, pk_mul, sI_dec, fk_u_s, fk_u_o, sI_dec0, sI_z, sI_md, Bool.false_eq_true, Nat.reduceAdd, Nat.reduceMul, Nat.reduceSub, Nat.reduceMod, Nat.reduceDiv]
          · have e1 : fk_ev d qX3_run 0 [.ref c, .int (nI (w + (lz_kw q).length)), .int (nI (w + (lz_kw q).length + q.2.2.1.length)), .ref 239, .null, .null, .null, .null, .null] [] (fk_E N y l) = some (some (.int (nI 1)), fk_E N y1 l) := e1
            rw [if_pos ⟨cl, rfl⟩]
            have q2' : y1 (c + 4) j = nI w := by rw [k1 (c + 4) (by omega)]; exact q2
            have q3' : y1 (c + 5) j = nI (w + (lz_kw q).length) := by rw [k1 (c + 5) (by omega)]; exact q3
            obtain ⟨y2, e2, k2⟩ := mX3_run (N := N) (l := l) (d := d) (y := y1) (b := w) hc m3 (by omega) (by omega) (lz_hc_c _ _ (fun i _ _ => ⟨by rw [k1 (c + 1) (by omega)], by rw [k1 (c + 2) (by omega)]⟩) q6)
            rw [k1 239 (by omega)] at e2
            refine ⟨y2, ?_, fun k hk => (k2 k hk).trans (k1 k hk)⟩
            generalize (M.2.1 (ck_lt (y 239))).getD (nI 0) = v at e2
            rw [← lz_clamp h0, hX3_value_3]
            simp (disch := first | assumption | omega) only [rX3_value, h8, a3, a4, a5, a6, s3, s4, s5, s6, q1, q2, q3, q4, e1, q2', q3', e2, Option.bind_some, Option.toList_some, Option.toList_none, List.cons_append, List.nil_append, fk_b_0, nI_add, Nat.add_zero, Nat.zero_add, not_true_eq_false, not_false_eq_true, if_true, if_false, sI_le_t, sI_le_f, sI_lt_t, sI_lt_f, sI_eq_t, sI_eq_f, sI_rem, sI_div, sI_m1a, sI_m1b, sI_m1c, sI_m1d, sI_m1e, sI_m1f, sI_m2a, sI_m2b, sI_sub, pk_mul, sI_dec, fk_u_s, fk_u_o, sI_dec0, sI_z, sI_md, Bool.false_eq_true, Nat.reduceAdd, Nat.reduceMul, Nat.reduceSub, Nat.reduceMod, Nat.reduceDiv]
      · rw [if_neg (fun z => cl z.1)]
        obtain ⟨y', f1, f2⟩ := nx y (fun _ _ => rfl)
        refine ⟨y', ?_, f2⟩
        rw [← f1]
        conv => lhs; rw [hX3_value_3]
        have cl' : (nI q.1 = a) = False := eq_false cl
        simp (disch := first | assumption | omega) only [rX3_value, h8, a3, a4, a5, a6, s3, s4, s5, s6, q1, cl', Option.bind_some, Option.toList_some, Option.toList_none, List.cons_append, List.nil_append, fk_b_0, nI_add, Nat.add_zero, Nat.zero_add, not_true_eq_false, not_false_eq_true, if_true, if_false, sI_le_t, sI_le_f, sI_lt_t, sI_lt_f, sI_eq_t, sI_eq_f, sI_rem, sI_div, sI_m1a, sI_m1b, sI_m1c, sI_m1d, sI_m1e, sI_m1f, sI_m2a, sI_m2b, sI_sub, pk_mul, sI_dec, fk_u_s, fk_u_o, sI_dec0, sI_z, sI_md, Bool.false_eq_true, Nat.reduceAdd, Nat.reduceMul, Nat.reduceSub, Nat.reduceMod, Nat.reduceDiv]
/-- the class's law, once its rows hold the clauses -/
theorem lz_LC {Q : List (Nat × List (Nat × Nat) × List (Nat × Nat) × List (Nat × Nat))} {Ms : List (Nat × ((Nat → Int32) → Option Int32) × ((Nat → Int32) → Option Int32))} (hc : c = 2 ∨ c = 10) (hn : Q.length ≤ 16) (h8 : y c 8 = nI Q.length) (hq : lz_hq y c 0 Q) (hM : lz_mqs Q Ms) : ck_LC (lz_W Ms) c y := by
  refine ⟨hc, fun a F G hFG => lz_W_c hFG Q Ms hM, fun F => lz_W_e Q Ms hM, ?_⟩
  intro N d y1 l a h g1 g2 g3 ha h0
  obtain ⟨y', f1, f2⟩ := mX3_value_l (N := N) (l := l) (d := d) (a := a) hc h0 hn Q Ms 0 y1 (Nat.zero_add _) (g3.trans h8) (lz_hq_c g1 Q 0 hq) hM
  refine ⟨y', ?_, f2⟩
  rw [← f1]
  simp (disch := first | assumption | omega) only [rX3_value, Option.bind_some, Option.toList_some, Option.toList_none, List.cons_append, List.nil_append, fk_b_0, nI_add, Nat.add_zero, Nat.zero_add, not_true_eq_false, not_false_eq_true, if_true, if_false, sI_le_t, sI_le_f, sI_lt_t, sI_lt_f, sI_eq_t, sI_eq_f, sI_rem, sI_div, sI_m1a, sI_m1b, sI_m1c, sI_m1d, sI_m1e, sI_m1f, sI_m2a, sI_m2b, sI_sub, pk_mul, sI_dec, fk_u_s, fk_u_o, sI_dec0, sI_z, sI_md, Bool.false_eq_true, Nat.reduceAdd, Nat.reduceMul, Nat.reduceSub, Nat.reduceMod, Nat.reduceDiv]
end LW8
