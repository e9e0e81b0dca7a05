section BLT
variable {N : Nat} {S : Nat → Int32} {v y y0 y1 y2 z : Nat → Nat → Int32} {l : Nat → Nat → Int64} {d p p' n H t c k m : Nat} {T A A' : Nat → Int32} {shut : Int32} {a : Nat}
theorem fk_least {P : Nat → Prop} : ∀ m, (∃ q, q < m ∧ P q) → ∃ p, P p ∧ ∀ q, P q → p ≤ q := by
  intro m
  induction m with
  | zero => rintro ⟨q, h, _⟩; omega
  | succ m ih =>
    intro h
    by_cases c : ∃ q, q < m ∧ P q
    · exact ih c
    · obtain ⟨q, h1, h2⟩ := h
      exact ⟨q, h2, fun r hr => Classical.byContradiction fun z => c ⟨r, by omega, hr⟩⟩
theorem ab_RC_tr {p q r : Nat} (h1 : ab_RC v (nI 0) p q) (h2 : ab_RC v (nI 0) q r) : ab_RC v (nI 0) p r := ab_RC_ind (P := fun r => ab_RC v (nI 0) p r) h1 (fun _ _ _ hp he hq => ab_RC_s hp he hq) r h2
def ab_on (v : Nat → Nat → Int32) (p : Nat) : Prop := ∃ q, ab_E v p q ∨ ab_E v q p
def ab_last (v : Nat → Nat → Int32) (p : Nat) : Prop := ∀ q, ab_RC v (nI 0) p q → ab_RC v (nI 0) q p
def ab_cnt (v : Nat → Nat → Int32) (p : Nat) : Prop := ab_on v p ∧ ab_last v p ∧ ∀ q, ab_RC v (nI 0) p q → p ≤ q
theorem ab_cnt_iff {k : Nat} (h1 : ab_on v k) (h2 : ab_last v k) : (¬ ∃ p, p < k ∧ ab_cnt v p ∧ ab_RC v (nI 0) p k) ↔ ∀ q, ab_RC v (nI 0) k q → k ≤ q := by
  constructor
  · intro hD q hq
    refine Classical.byContradiction fun hqk => hD ?_
    obtain ⟨p0, g1, g2⟩ := fk_least (P := fun q => ab_RC v (nI 0) k q) (q + 1) ⟨q, by omega, hq⟩
    have lt : p0 < k := by have := g2 q hq; omega
    refine ⟨p0, lt, ⟨?_, fun r hr => ?_, fun r hr => g2 r (ab_RC_tr g1 hr)⟩, h2 p0 g1⟩
    · obtain ⟨j, hj⟩ := g1
      cases j with
      | zero =>
        have hj : k = p0 := hj
        omega
      | succ j =>
        obtain ⟨p, _, e, _⟩ := hj
        exact ⟨p, Or.inr e⟩
    · exact ab_RC_tr (h2 r (ab_RC_tr g1 hr)) g1
  · rintro h ⟨p, g1, g2, g3⟩
    have := h p (g2.2.1 k g3)
    omega
noncomputable def ab_gp (v : Nat → Nat → Int32) (p : Nat) : Int32 := @ite Int32 (ab_on v p ∧ ab_last v p) (Classical.propDecidable _) (fk_sz (ab_RC v (nI 0) p)) (nI 0)
theorem mX5_groupOf (hN : ck_nt v y) (ha : a < 16) : fk_ev (d + 2) qX5_groupOf 0 [.ref 18, .int ((nI a)), .null, .null, .null] [] (fk_E N y l) = some (some (.int ((ab_gp v a))), fk_E N y l) := by
  have hself : fk_tb (fk_sz (ab_RC v (nI 0) a)) a = true := fk_sz_t.mpr ⟨ha, ab_RC_0⟩
  have key := fk_loopx (σ := Int32) (fun k s => fk_ev (d + 2) qX5_groupOf 25 [.ref 18, .int (nI a), .int (fk_sz (ab_RC v (nI 0) a)), .int s, .int (nI k)] [] (fk_E N y l)) (fun k s => (s = nI 0 ∨ s = nI 1) ∧ (¬ s = nI 0 ↔ ((∃ q, ab_E v a q) ∨ ∃ p, p < k ∧ ab_E v p a)) ∧ ∀ p, p < k → ab_RC v (nI 0) a p → ab_RC v (nI 0) p a) (fun r => r = some (some (.int (ab_gp v a)), fk_E N y l)) 16 (by
    rintro k s hk ⟨i1, i2, i3⟩
    try dsimp only
    have hs1 : ∃ s', (s' = nI 0 ∨ s' = nI 1) ∧ (¬ s' = nI 0 ↔ ((∃ q, ab_E v a q) ∨ ∃ p, p < k + 1 ∧ ab_E v p a)) ∧ fk_ev (d + 2) qX5_groupOf 25 [.ref 18, .int (nI a), .int (fk_sz (ab_RC v (nI 0) a)), .int s, .int (nI k)] [] (fk_E N y l) = fk_ev (d + 2) qX5_groupOf 56 [.ref 18, .int (nI a), .int (fk_sz (ab_RC v (nI 0) a)), .int s', .int (nI k)] [] (fk_E N y l) := by
      rw [hX5_groupOf_25]
      by_cases c : s = nI 0
      · by_cases c2 : fk_tb (y 24 k) a = true
        · refine ⟨nI 1, Or.inr rfl, ⟨fun _ => Or.inr ⟨k, by omega, (ck_nt_E hN hk).mp c2⟩, fun _ => by decide⟩, ?_⟩
          simp (disch := first | assumption | omega) only [rX5_groupOf, c, fk_has0, c2, Option.bind_some, Option.toList_some, Option.toList_none, List.cons_append, List.nil_append, fk_b_0, nI_add, Nat.add_zero, Nat.zero_add, not_true_eq_false, not_false_eq_true, if_true, if_false, sI_le_t, sI_le_f, sI_lt_t, sI_lt_f, sI_eq_t, sI_eq_f, sI_rem, sI_div, sI_m1a, sI_m1b, sI_m1c, sI_m1d, sI_m1e, sI_m1f, sI_m2a, sI_m2b, sI_sub, pk_mul, sI_dec, fk_u_s, fk_u_o, sI_dec0, sI_z, sI_md, Bool.false_eq_true, Nat.reduceAdd, Nat.reduceMul, Nat.reduceSub, Nat.reduceMod, Nat.reduceDiv]
        · refine ⟨nI 0, Or.inl rfl, ⟨fun h => absurd rfl h, fun h => ?_⟩, ?_⟩
          · rcases h with h | ⟨p, h, h2⟩
            · exact absurd c (i2.mpr (Or.inl h))
            · by_cases e : p = k
              · subst e; exact absurd ((ck_nt_E hN hk).mpr h2) c2
              · exact absurd c (i2.mpr (Or.inr ⟨p, by omega, h2⟩))
          · simp (disch := first | assumption | omega) only [rX5_groupOf, c, fk_has0, c2, Option.bind_some, Option.toList_some, Option.toList_none, List.cons_append, List.nil_append, fk_b_0, nI_add, Nat.add_zero, Nat.zero_add, not_true_eq_false, not_false_eq_true, if_true, if_false, sI_le_t, sI_le_f, sI_lt_t, sI_lt_f, sI_eq_t, sI_eq_f, sI_rem, sI_div, sI_m1a, sI_m1b, sI_m1c, sI_m1d, sI_m1e, sI_m1f, sI_m2a, sI_m2b, sI_sub, pk_mul, sI_dec, fk_u_s, fk_u_o, sI_dec0, sI_z, sI_md, Bool.false_eq_true, Nat.reduceAdd, Nat.reduceMul, Nat.reduceSub, Nat.reduceMod, Nat.reduceDiv]
      · refine ⟨nI 1, Or.inr rfl, ⟨fun _ => ?_, fun _ => by decide⟩, ?_⟩
        · rcases i2.mp c with h | ⟨p, h, h2⟩
          · exact Or.inl h
          · exact Or.inr ⟨p, by omega, h2⟩
        · simp (disch := first | assumption | omega) only [rX5_groupOf, c, Option.bind_some, Option.toList_some, Option.toList_none, List.cons_append, List.nil_append, fk_b_0, nI_add, Nat.add_zero, Nat.zero_add, not_true_eq_false, not_false_eq_true, if_true, if_false, sI_le_t, sI_le_f, sI_lt_t, sI_lt_f, sI_eq_t, sI_eq_f, sI_rem, sI_div, sI_m1a, sI_m1b, sI_m1c, sI_m1d, sI_m1e, sI_m1f, sI_m2a, sI_m2b, sI_sub, pk_mul, sI_dec, fk_u_s, fk_u_o, sI_dec0, sI_z, sI_md, Bool.false_eq_true, Nat.reduceAdd, Nat.reduceMul, Nat.reduceSub, Nat.reduceMod, Nat.reduceDiv]
    obtain ⟨s', j1, j2, e⟩ := hs1
    rw [e]
    by_cases c : ab_RC v (nI 0) a k
    · have b1 : fk_tb (fk_sz (ab_RC v (nI 0) a)) k = true := fk_sz_t.mpr ⟨hk, c⟩
      by_cases c2 : ab_RC v (nI 0) k a
      · have b2 : fk_tb (fk_sz (ab_RC v (nI 0) k)) a = true := fk_sz_t.mpr ⟨ha, c2⟩
        refine Or.inr ⟨s', ?_, j1, j2, fun p hp h => ?_⟩
        · simp (disch := first | assumption | omega) only [rX5_groupOf, fk_has0, b1, mX5_reach hN hk, b2, Option.bind_some, Option.toList_some, Option.toList_none, List.cons_append, List.nil_append, fk_b_0, nI_add, Nat.add_zero, Nat.zero_add, not_true_eq_false, not_false_eq_true, if_true, if_false, sI_le_t, sI_le_f, sI_lt_t, sI_lt_f, sI_eq_t, sI_eq_f, sI_rem, sI_div, sI_m1a, sI_m1b, sI_m1c, sI_m1d, sI_m1e, sI_m1f, sI_m2a, sI_m2b, sI_sub, pk_mul, sI_dec, fk_u_s, fk_u_o, sI_dec0, sI_z, sI_md, Bool.false_eq_true, Nat.reduceAdd, Nat.reduceMul, Nat.reduceSub, Nat.reduceMod, Nat.reduceDiv]
        · by_cases e : p = k
          · subst e; exact c2
          · exact i3 p (by omega) h
      · have b2 : ¬ fk_tb (fk_sz (ab_RC v (nI 0) k)) a = true := fun z => c2 (fk_sz_t.mp z).2
        refine Or.inl ?_
        unfold ab_gp
        rw [if_neg fun z => c2 (z.2 k c)]
        simp (disch := first | assumption | omega) only [rX5_groupOf, fk_has0, b1, mX5_reach hN hk, b2, Option.bind_some, Option.toList_some, Option.toList_none, List.cons_append, List.nil_append, fk_b_0, nI_add, Nat.add_zero, Nat.zero_add, not_true_eq_false, not_false_eq_true, if_true, if_false, sI_le_t, sI_le_f, sI_lt_t, sI_lt_f, sI_eq_t, sI_eq_f, sI_rem, sI_div, sI_m1a, sI_m1b, sI_m1c, sI_m1d, sI_m1e, sI_m1f, sI_m2a, sI_m2b, sI_sub, pk_mul, sI_dec, fk_u_s, fk_u_o, sI_dec0, sI_z, sI_md, Bool.false_eq_true, Nat.reduceAdd, Nat.reduceMul, Nat.reduceSub, Nat.reduceMod, Nat.reduceDiv]
    · have b1 : ¬ fk_tb (fk_sz (ab_RC v (nI 0) a)) k = true := fun z => c (fk_sz_t.mp z).2
      refine Or.inr ⟨s', ?_, j1, j2, fun p hp h => ?_⟩
      · simp (disch := first | assumption | omega) only [rX5_groupOf, fk_has0, b1, Option.bind_some, Option.toList_some, Option.toList_none, List.cons_append, List.nil_append, fk_b_0, nI_add, Nat.add_zero, Nat.zero_add, not_true_eq_false, not_false_eq_true, if_true, if_false, sI_le_t, sI_le_f, sI_lt_t, sI_lt_f, sI_eq_t, sI_eq_f, sI_rem, sI_div, sI_m1a, sI_m1b, sI_m1c, sI_m1d, sI_m1e, sI_m1f, sI_m2a, sI_m2b, sI_sub, pk_mul, sI_dec, fk_u_s, fk_u_o, sI_dec0, sI_z, sI_md, Bool.false_eq_true, Nat.reduceAdd, Nat.reduceMul, Nat.reduceSub, Nat.reduceMod, Nat.reduceDiv]
      · by_cases e : p = k
        · subst e; exact absurd h c
        · exact i3 p (by omega) h) (by
    rintro s ⟨i1, i2, i3⟩
    try dsimp only
    have hl : ab_last v a := fun q hq => i3 q (ab_RC_lt ha q hq) hq
    rw [hX5_groupOf_25]
    unfold ab_gp
    by_cases c : s = nI 0
    · rw [if_neg fun z => by
        obtain ⟨q, h | h⟩ := z.1
        · exact i2.mpr (Or.inl ⟨q, h⟩) c
        · exact i2.mpr (Or.inr ⟨q, h.1, h⟩) c]
      simp (disch := first | assumption | omega) only [rX5_groupOf, c, Option.bind_some, Option.toList_some, Option.toList_none, List.cons_append, List.nil_append, fk_b_0, nI_add, Nat.add_zero, Nat.zero_add, not_true_eq_false, not_false_eq_true, if_true, if_false, sI_le_t, sI_le_f, sI_lt_t, sI_lt_f, sI_eq_t, sI_eq_f, sI_rem, sI_div, sI_m1a, sI_m1b, sI_m1c, sI_m1d, sI_m1e, sI_m1f, sI_m2a, sI_m2b, sI_sub, pk_mul, sI_dec, fk_u_s, fk_u_o, sI_dec0, sI_z, sI_md, Bool.false_eq_true, Nat.reduceAdd, Nat.reduceMul, Nat.reduceSub, Nat.reduceMod, Nat.reduceDiv]
    · rw [if_pos ⟨by
        rcases i2.mp c with ⟨q, h⟩ | ⟨p, _, h⟩
        · exact ⟨q, Or.inl h⟩
        · exact ⟨p, Or.inr h⟩, hl⟩]
      simp (disch := first | assumption | omega) only [rX5_groupOf, c, Option.bind_some, Option.toList_some, Option.toList_none, List.cons_append, List.nil_append, fk_b_0, nI_add, Nat.add_zero, Nat.zero_add, not_true_eq_false, not_false_eq_true, if_true, if_false, sI_le_t, sI_le_f, sI_lt_t, sI_lt_f, sI_eq_t, sI_eq_f, sI_rem, sI_div, sI_m1a, sI_m1b, sI_m1c, sI_m1d, sI_m1e, sI_m1f, sI_m2a, sI_m2b, sI_sub, pk_mul, sI_dec, fk_u_s, fk_u_o, sI_dec0, sI_z, sI_md, Bool.false_eq_true, Nat.reduceAdd, Nat.reduceMul, Nat.reduceSub, Nat.reduceMod, Nat.reduceDiv])
  by_cases c0 : y 24 a = nI 0
  · have h0 := key 16 0 (nI 0) rfl ⟨Or.inl rfl, ⟨fun h => absurd rfl h, fun h => by
      rcases h with ⟨q, h⟩ | ⟨p, h, _⟩
      · have := (ck_nt_E hN ha).mpr h
        rw [c0, fk_tb_0] at this
        exact absurd this (by decide)
      · omega⟩, fun p hp => by omega⟩
    try dsimp only at h0
    simp (disch := first | assumption | omega) only [rX5_groupOf, mX5_reach hN ha, c0, Option.bind_some, Option.toList_some, Option.toList_none, List.cons_append, List.nil_append, fk_b_0, nI_add, Nat.add_zero, Nat.zero_add, not_true_eq_false, not_false_eq_true, if_true, if_false, sI_le_t, sI_le_f, sI_lt_t, sI_lt_f, sI_eq_t, sI_eq_f, sI_rem, sI_div, sI_m1a, sI_m1b, sI_m1c, sI_m1d, sI_m1e, sI_m1f, sI_m2a, sI_m2b, sI_sub, pk_mul, sI_dec, fk_u_s, fk_u_o, sI_dec0, sI_z, sI_md, Bool.false_eq_true, Nat.reduceAdd, Nat.reduceMul, Nat.reduceSub, Nat.reduceMod, Nat.reduceDiv]
    exact h0
  · have h0 := key 16 0 (nI 1) rfl ⟨Or.inr rfl, ⟨fun _ => by
      obtain ⟨q, hq⟩ := fk_nz c0
      exact Or.inl ⟨q, (ck_nt_E hN ha).mp hq⟩, fun _ => by decide⟩, fun p hp => by omega⟩
    try dsimp only at h0
    simp (disch := first | assumption | omega) only [rX5_groupOf, mX5_reach hN ha, c0, Option.bind_some, Option.toList_some, Option.toList_none, List.cons_append, List.nil_append, fk_b_0, nI_add, Nat.add_zero, Nat.zero_add, not_true_eq_false, not_false_eq_true, if_true, if_false, sI_le_t, sI_le_f, sI_lt_t, sI_lt_f, sI_eq_t, sI_eq_f, sI_rem, sI_div, sI_m1a, sI_m1b, sI_m1c, sI_m1d, sI_m1e, sI_m1f, sI_m2a, sI_m2b, sI_sub, pk_mul, sI_dec, fk_u_s, fk_u_o, sI_dec0, sI_z, sI_md, Bool.false_eq_true, Nat.reduceAdd, Nat.reduceMul, Nat.reduceSub, Nat.reduceMod, Nat.reduceDiv]
    exact h0
theorem fk_mask0 : ∀ p, p < 16 → ∀ q, q < 32 → fk_tb (nI 1 <<< (nI p &&& 31) - nI 1) q = decide (q < p) := by decide +kernel
theorem fk_mask {p q : Nat} (hp : p < 16) : fk_tb (nI 1 <<< (nI p &&& 31) - nI 1) q = true ↔ q < p := by
  by_cases h : q < 32
  · rw [fk_mask0 p hp q h, decide_eq_true_eq]
  · rw [fk_tb_ge (by omega)]
    exact ⟨fun z => absurd z (by decide), fun z => by omega⟩
noncomputable def ab_bl (v : Nat → Nat → Int32) (n : Nat) : Nat × Int32 := fk_it (fun p s => @ite (Nat × Int32) (ab_cnt v p) (Classical.propDecidable _) (s.1 + 1, if s.1 = 0 then fk_sz (ab_RC v (nI 0) p) else s.2) s) 0 n (0, nI 0)
theorem ab_bl_t (h : ab_cnt v k) : ab_bl v (k + 1) = ((ab_bl v k).1 + 1, if (ab_bl v k).1 = 0 then fk_sz (ab_RC v (nI 0) k) else (ab_bl v k).2) := by
  unfold ab_bl
  rw [fk_it_succ, Nat.zero_add, if_pos h]
theorem ab_bl_f (h : ¬ ab_cnt v k) : ab_bl v (k + 1) = ab_bl v k := by
  unfold ab_bl
  rw [fk_it_succ, Nat.zero_add, if_neg h]
theorem ab_bl_le : (ab_bl v k).1 ≤ k := by
  induction k with
  | zero => exact Nat.le_refl _
  | succ k ih =>
    by_cases c : ab_cnt v k
    · rw [ab_bl_t c]; show _ + 1 ≤ k + 1; omega
    · rw [ab_bl_f c]; omega
theorem mX11_built_loop (hN : ck_nt v y) {w : Value} : ∃ x : Value, fk_ev (d + 3) qX11_built 17 [.ref 1, w, .int (nI 0), .int (nI 0), .int (nI 0), .null] [] (fk_E N y l) = fk_ev (d + 3) qX11_built 17 [.ref 1, w, .int (nI (ab_bl v 16).1), .int (ab_bl v 16).2, .int (nI 16), x] [] (fk_E N y l) := by
  have key := fk_loopr (σ := (Nat × Int32) × Value) (fun k s => fk_ev (d + 3) qX11_built 17 [.ref 1, w, .int (nI s.1.1), .int s.1.2, .int (nI k), s.2] [] (fk_E N y l)) (fun k s => s.1 = ab_bl v k) 16 (by
    rintro k ⟨⟨g, f⟩, x⟩ hk i1
    try dsimp only at i1 ⊢
    have hg := mX5_groupOf (N := N) (l := l) (d := d) hN hk
    have le := ab_bl_le (v := v) (k := k)
    rw [← i1] at le
    try dsimp only at le
    rw [hX11_built_17]
    by_cases c : ab_on v k ∧ ab_last v k
    · have eg : ab_gp v k = fk_sz (ab_RC v (nI 0) k) := by unfold ab_gp; rw [if_pos c]
      rw [eg] at hg
      have g0 : ¬ fk_sz (ab_RC v (nI 0) k) = nI 0 := fun z => by
        have : fk_tb (fk_sz (ab_RC v (nI 0) k)) k = true := fk_sz_t.mpr ⟨hk, ab_RC_0⟩
        rw [z, fk_tb_0] at this
        exact absurd this (by decide)
      by_cases c2 : ∀ q, ab_RC v (nI 0) k q → k ≤ q
      · have em : fk_sz (ab_RC v (nI 0) k) &&& (nI 1 <<< (nI k &&& 31) - nI 1) = nI 0 := by
          refine Classical.byContradiction fun z => ?_
          obtain ⟨q, hq⟩ := fk_nz z
          rw [fk_tb_and, Bool.and_eq_true, fk_sz_t, fk_mask hk] at hq
          have := c2 q hq.1.2
          omega
        rw [ab_bl_t ⟨c.1, c.2, c2⟩] at *
        refine ⟨((g + 1, if g = 0 then fk_sz (ab_RC v (nI 0) k) else f), .int (fk_sz (ab_RC v (nI 0) k))), ?_, by rw [← i1]⟩
        by_cases c3 : g = 0
        · subst c3
          simp (disch := first | assumption | omega) only [rX11_built, hg, g0, em, eq_self, Option.bind_some, Option.toList_some, Option.toList_none, List.cons_append, List.nil_append, fk_b_0, nI_add, Nat.add_zero, Nat.zero_add, not_true_eq_false, not_false_eq_true, if_true, if_false, sI_le_t, sI_le_f, sI_lt_t, sI_lt_f, sI_eq_t, sI_eq_f, sI_rem, sI_div, sI_m1a, sI_m1b, sI_m1c, sI_m1d, sI_m1e, sI_m1f, sI_m2a, sI_m2b, sI_sub, pk_mul, sI_dec, fk_u_s, fk_u_o, sI_dec0, sI_z, sI_md, Bool.false_eq_true, Nat.reduceAdd, Nat.reduceMul, Nat.reduceSub, Nat.reduceMod, Nat.reduceDiv]
        · simp (disch := first | assumption | omega) only [rX11_built, hg, g0, em, c3, Option.bind_some, Option.toList_some, Option.toList_none, List.cons_append, List.nil_append, fk_b_0, nI_add, Nat.add_zero, Nat.zero_add, not_true_eq_false, not_false_eq_true, if_true, if_false, sI_le_t, sI_le_f, sI_lt_t, sI_lt_f, sI_eq_t, sI_eq_f, sI_rem, sI_div, sI_m1a, sI_m1b, sI_m1c, sI_m1d, sI_m1e, sI_m1f, sI_m2a, sI_m2b, sI_sub, pk_mul, sI_dec, fk_u_s, fk_u_o, sI_dec0, sI_z, sI_md, Bool.false_eq_true, Nat.reduceAdd, Nat.reduceMul, Nat.reduceSub, Nat.reduceMod, Nat.reduceDiv]
      · have em : ¬ fk_sz (ab_RC v (nI 0) k) &&& (nI 1 <<< (nI k &&& 31) - nI 1) = nI 0 := fun z => by
          refine c2 fun q hq => Classical.byContradiction fun hqk => ?_
          have : fk_tb (fk_sz (ab_RC v (nI 0) k) &&& (nI 1 <<< (nI k &&& 31) - nI 1)) q = true := by
            rw [fk_tb_and, Bool.and_eq_true, fk_sz_t, fk_mask hk]
            exact ⟨⟨ab_RC_lt hk q hq, hq⟩, by omega⟩
          rw [z, fk_tb_0] at this
          exact absurd this (by decide)
        refine ⟨((g, f), .int (fk_sz (ab_RC v (nI 0) k))), ?_, by rw [ab_bl_f fun z => c2 z.2.2]; exact i1⟩
        simp (disch := first | assumption | omega) only [rX11_built, hg, g0, em, Option.bind_some, Option.toList_some, Option.toList_none, List.cons_append, List.nil_append, fk_b_0, nI_add, Nat.add_zero, Nat.zero_add, not_true_eq_false, not_false_eq_true, if_true, if_false, sI_le_t, sI_le_f, sI_lt_t, sI_lt_f, sI_eq_t, sI_eq_f, sI_rem, sI_div, sI_m1a, sI_m1b, sI_m1c, sI_m1d, sI_m1e, sI_m1f, sI_m2a, sI_m2b, sI_sub, pk_mul, sI_dec, fk_u_s, fk_u_o, sI_dec0, sI_z, sI_md, Bool.false_eq_true, Nat.reduceAdd, Nat.reduceMul, Nat.reduceSub, Nat.reduceMod, Nat.reduceDiv]
    · have eg : ab_gp v k = nI 0 := by unfold ab_gp; rw [if_neg c]
      rw [eg] at hg
      refine ⟨((g, f), .int (nI 0)), ?_, by rw [ab_bl_f fun z => c ⟨z.1, z.2.1⟩]; exact i1⟩
      simp (disch := first | assumption | omega) only [rX11_built, hg, Option.bind_some, Option.toList_some, Option.toList_none, List.cons_append, List.nil_append, fk_b_0, nI_add, Nat.add_zero, Nat.zero_add, not_true_eq_false, not_false_eq_true, if_true, if_false, sI_le_t, sI_le_f, sI_lt_t, sI_lt_f, sI_eq_t, sI_eq_f, sI_rem, sI_div, sI_m1a, sI_m1b, sI_m1c, sI_m1d, sI_m1e, sI_m1f, sI_m2a, sI_m2b, sI_sub, pk_mul, sI_dec, fk_u_s, fk_u_o, sI_dec0, sI_z, sI_md, Bool.false_eq_true, Nat.reduceAdd, Nat.reduceMul, Nat.reduceSub, Nat.reduceMod, Nat.reduceDiv]) 16 0 ((0, nI 0), .null) rfl rfl
  obtain ⟨⟨s, x⟩, e, i1⟩ := key
  try dsimp only at e i1
  rw [i1] at e
  exact ⟨x, e⟩
noncomputable def ab_ls (v : Nat → Nat → Int32) (p : Nat) : Int32 := @ite Int32 (ab_last v p) (Classical.propDecidable _) (nI 1) (nI 0)
theorem mX12_isLast (hv : ab_rv y) (ha : a < 16) : fk_ev (d + 3) qX12_isLast 0 [.ref 246, .int ((nI a)), .null, .null] [] (fk_E N y l) = some (some (.int ((ab_ls y a))), fk_E N y l) := by
  have key := fk_loopx (σ := Unit) (fun k _ => fk_ev (d + 3) qX12_isLast 9 [.ref 246, .int (nI a), .int (fk_sz (ab_RC y (nI 0) a)), .int (nI k)] [] (fk_E N y l)) (fun k _ => ∀ p, p < k → ab_RC y (nI 0) a p → ab_RC y (nI 0) p a) (fun r => r = some (some (.int (ab_ls y a)), fk_E N y l)) 16 (by
    intro k _ hk i3
    try dsimp only
    rw [hX12_isLast_9]
    by_cases c : ab_RC y (nI 0) a k
    · have b1 : fk_tb (fk_sz (ab_RC y (nI 0) a)) k = true := fk_sz_t.mpr ⟨hk, c⟩
      by_cases c2 : ab_RC y (nI 0) k a
      · have b2 : fk_tb (fk_sz (ab_RC y (nI 0) k)) a = true := fk_sz_t.mpr ⟨ha, c2⟩
        refine Or.inr ⟨(), ?_, fun p hp h => ?_⟩
        · simp (disch := first | assumption | omega) only [rX12_isLast, mX12_has, fk_has1, b1, mX12_reachedFrom hv hk, b2, Option.bind_some, Option.toList_some, Option.toList_none, List.cons_append, List.nil_append, fk_b_0, nI_add, Nat.add_zero, Nat.zero_add, not_true_eq_false, not_false_eq_true, if_true, if_false, sI_le_t, sI_le_f, sI_lt_t, sI_lt_f, sI_eq_t, sI_eq_f, sI_rem, sI_div, sI_m1a, sI_m1b, sI_m1c, sI_m1d, sI_m1e, sI_m1f, sI_m2a, sI_m2b, sI_sub, pk_mul, sI_dec, fk_u_s, fk_u_o, sI_dec0, sI_z, sI_md, Bool.false_eq_true, Nat.reduceAdd, Nat.reduceMul, Nat.reduceSub, Nat.reduceMod, Nat.reduceDiv]
        · by_cases e : p = k
          · subst e; exact c2
          · exact i3 p (by omega) h
      · have b2 : ¬ fk_tb (fk_sz (ab_RC y (nI 0) k)) a = true := fun z => c2 (fk_sz_t.mp z).2
        refine Or.inl ?_
        unfold ab_ls
        rw [if_neg fun z => c2 (z k c)]
        simp (disch := first | assumption | omega) only [rX12_isLast, mX12_has, fk_has1, b1, mX12_reachedFrom hv hk, b2, Option.bind_some, Option.toList_some, Option.toList_none, List.cons_append, List.nil_append, fk_b_0, nI_add, Nat.add_zero, Nat.zero_add, not_true_eq_false, not_false_eq_true, if_true, if_false, sI_le_t, sI_le_f, sI_lt_t, sI_lt_f, sI_eq_t, sI_eq_f, sI_rem, sI_div, sI_m1a, sI_m1b, sI_m1c, sI_m1d, sI_m1e, sI_m1f, sI_m2a, sI_m2b, sI_sub, pk_mul, sI_dec, fk_u_s, fk_u_o, sI_dec0, sI_z, sI_md, Bool.false_eq_true, Nat.reduceAdd, Nat.reduceMul, Nat.reduceSub, Nat.reduceMod, Nat.reduceDiv]
    · have b1 : ¬ fk_tb (fk_sz (ab_RC y (nI 0) a)) k = true := fun z => c (fk_sz_t.mp z).2
      refine Or.inr ⟨(), ?_, fun p hp h => ?_⟩
      · simp (disch := first | assumption | omega) only [rX12_isLast, mX12_has, fk_has1, b1, Option.bind_some, Option.toList_some, Option.toList_none, List.cons_append, List.nil_append, fk_b_0, nI_add, Nat.add_zero, Nat.zero_add, not_true_eq_false, not_false_eq_true, if_true, if_false, sI_le_t, sI_le_f, sI_lt_t, sI_lt_f, sI_eq_t, sI_eq_f, sI_rem, sI_div, sI_m1a, sI_m1b, sI_m1c, sI_m1d, sI_m1e, sI_m1f, sI_m2a, sI_m2b, sI_sub, pk_mul, sI_dec, fk_u_s, fk_u_o, sI_dec0, sI_z, sI_md, Bool.false_eq_true, Nat.reduceAdd, Nat.reduceMul, Nat.reduceSub, Nat.reduceMod, Nat.reduceDiv]
      · by_cases e : p = k
        · subst e; exact absurd h c
        · exact i3 p (by omega) h) (by
    intro _ i3
    try dsimp only
    rw [hX12_isLast_9]
    unfold ab_ls
    rw [if_pos (show ab_last y a from fun q hq => i3 q (ab_RC_lt ha q hq) hq)]
    simp (disch := first | assumption | omega) only [rX12_isLast, Option.bind_some, Option.toList_some, Option.toList_none, List.cons_append, List.nil_append, fk_b_0, nI_add, Nat.add_zero, Nat.zero_add, not_true_eq_false, not_false_eq_true, if_true, if_false, sI_le_t, sI_le_f, sI_lt_t, sI_lt_f, sI_eq_t, sI_eq_f, sI_rem, sI_div, sI_m1a, sI_m1b, sI_m1c, sI_m1d, sI_m1e, sI_m1f, sI_m2a, sI_m2b, sI_sub, pk_mul, sI_dec, fk_u_s, fk_u_o, sI_dec0, sI_z, sI_md, Bool.false_eq_true, Nat.reduceAdd, Nat.reduceMul, Nat.reduceSub, Nat.reduceMod, Nat.reduceDiv]) 16 0 () rfl fun p hp => by omega
  try dsimp only at key
  simp (disch := first | assumption | omega) only [rX12_isLast, mX12_reachedFrom hv ha, Option.bind_some, Option.toList_some, Option.toList_none, List.cons_append, List.nil_append, fk_b_0, nI_add, Nat.add_zero, Nat.zero_add, not_true_eq_false, not_false_eq_true, if_true, if_false, sI_le_t, sI_le_f, sI_lt_t, sI_lt_f, sI_eq_t, sI_eq_f, sI_rem, sI_div, sI_m1a, sI_m1b, sI_m1c, sI_m1d, sI_m1e, sI_m1f, sI_m2a, sI_m2b, sI_sub, pk_mul, sI_dec, fk_u_s, fk_u_o, sI_dec0, sI_z, sI_md, Bool.false_eq_true, Nat.reduceAdd, Nat.reduceMul, Nat.reduceSub, Nat.reduceMod, Nat.reduceDiv]
  exact key
theorem mX12_built_on (hv : ab_rv y) {w : Value} : ∃ on, (∀ q, q < 16 → (fk_tb on q = true ↔ ab_on y q)) ∧ fk_ev (d + 2) qX12_built 15 [.ref 246, w, .int (nI 0), .int (nI 0), .null, .null, .null, .null] [] (fk_E N y l) = fk_ev (d + 2) qX12_built 15 [.ref 246, w, .int on, .int (nI 32), .null, .null, .null, .null] [] (fk_E N y l) := by
  have key := fk_loopr (σ := Int32) (fun k s => fk_ev (d + 2) qX12_built 15 [.ref 246, w, .int s, .int (nI k), .null, .null, .null, .null] [] (fk_E N y l)) (fun k s => ∀ q, q < 16 → (fk_tb s q = true ↔ ∃ r, r < k ∧ fk_tb (y 246 3) r = true ∧ (y 250 r = nI q ∨ y 251 r = nI q))) 32 (by
    intro k s hk i1
    try dsimp only
    have hr := mX12_isRoadN (N := N) (l := l) (d := d) (y := y) hk
    rw [hX12_built_15]
    by_cases c : fk_tb (y 246 3) k = true
    · rw [fk_b_t c] at hr
      obtain ⟨⟨f, hf, ef⟩, ⟨g, hg, eg⟩, _⟩ := hv.1 k hk c
      refine ⟨s ||| nI 1 <<< (nI f &&& 31) ||| nI 1 <<< (nI g &&& 31), ?_, fun q hq => ?_⟩
      · simp (disch := first | assumption | omega) only [rX12_built, hr, ef, eg, Option.bind_some, Option.toList_some, Option.toList_none, List.cons_append, List.nil_append, fk_b_0, nI_add, Nat.add_zero, Nat.zero_add, not_true_eq_false, not_false_eq_true, if_true, if_false, sI_le_t, sI_le_f, sI_lt_t, sI_lt_f, sI_eq_t, sI_eq_f, sI_rem, sI_div, sI_m1a, sI_m1b, sI_m1c, sI_m1d, sI_m1e, sI_m1f, sI_m2a, sI_m2b, sI_sub, pk_mul, sI_dec, fk_u_s, fk_u_o, sI_dec0, sI_z, sI_md, Bool.false_eq_true, Nat.reduceAdd, Nat.reduceMul, Nat.reduceSub, Nat.reduceMod, Nat.reduceDiv]
      · rw [fk_tb_or, fk_tb_or, Bool.or_eq_true, Bool.or_eq_true, fk_tb_bitI (by omega), fk_tb_bitI (by omega), i1 q hq]
        constructor
        · rintro ((⟨r, h1, h2⟩ | rfl) | rfl)
          · exact ⟨r, by omega, h2⟩
          · exact ⟨k, by omega, c, Or.inl ef⟩
          · exact ⟨k, by omega, c, Or.inr eg⟩
        · rintro ⟨r, h1, h2, h3⟩
          by_cases e : r = k
          · subst e
            rcases h3 with h3 | h3
            · rw [ef] at h3
              exact Or.inl (Or.inr ((nI_eq (by omega) (by omega)).mp h3).symm)
            · rw [eg] at h3
              exact Or.inr ((nI_eq (by omega) (by omega)).mp h3).symm
          · exact Or.inl (Or.inl ⟨r, by omega, h2, h3⟩)
    · rw [fk_b_f c] at hr
      refine ⟨s, ?_, fun q hq => ?_⟩
      · simp (disch := first | assumption | omega) only [rX12_built, hr, Option.bind_some, Option.toList_some, Option.toList_none, List.cons_append, List.nil_append, fk_b_0, nI_add, Nat.add_zero, Nat.zero_add, not_true_eq_false, not_false_eq_true, if_true, if_false, sI_le_t, sI_le_f, sI_lt_t, sI_lt_f, sI_eq_t, sI_eq_f, sI_rem, sI_div, sI_m1a, sI_m1b, sI_m1c, sI_m1d, sI_m1e, sI_m1f, sI_m2a, sI_m2b, sI_sub, pk_mul, sI_dec, fk_u_s, fk_u_o, sI_dec0, sI_z, sI_md, Bool.false_eq_true, Nat.reduceAdd, Nat.reduceMul, Nat.reduceSub, Nat.reduceMod, Nat.reduceDiv]
      · rw [i1 q hq]
        constructor
        · rintro ⟨r, h1, h2⟩; exact ⟨r, by omega, h2⟩
        · rintro ⟨r, h1, h2, h3⟩
          have : r ≠ k := fun e => c (e ▸ h2)
          exact ⟨r, by omega, h2, h3⟩) 32 0 (nI 0) rfl (fun q _ => by rw [fk_tb_0]; exact ⟨fun z => absurd z (by decide), fun ⟨r, h, _⟩ => by omega⟩)
  obtain ⟨on, e, i1⟩ := key
  refine ⟨on, fun q hq => ?_, e⟩
  rw [i1 q hq]
  constructor
  · rintro ⟨r, h1, h2, h3⟩
    obtain ⟨⟨f, hf, ef⟩, ⟨g, hg, eg⟩, _⟩ := hv.1 r h1 h2
    rcases h3 with h3 | h3
    · exact ⟨g, Or.inl ⟨hq, hg, r, h1, h2, h3, eg⟩⟩
    · exact ⟨f, Or.inr ⟨hf, hq, r, h1, h2, ef, h3⟩⟩
  · rintro ⟨q', ⟨_, _, r, h1, h2, h3, h4⟩ | ⟨_, _, r, h1, h2, h3, h4⟩⟩
    · exact ⟨r, h1, h2, Or.inl h3⟩
    · exact ⟨r, h1, h2, Or.inr h4⟩
theorem mX12_built_loop (hv : ab_rv y) {w : Value} {on : Int32} (hon : ∀ q, q < 16 → (fk_tb on q = true ↔ ab_on y q)) : ∃ x x' : Value, fk_ev (d + 4) qX12_built 66 [.ref 246, w, .int on, .int (nI 0), .int (nI 0), .int (nI 0), .int (nI 0), .null] [] (fk_E N y l) = fk_ev (d + 4) qX12_built 66 [.ref 246, w, .int on, .int (nI (ab_bl y 16).1), .int (ab_bl y 16).2, x, .int (nI 16), x'] [] (fk_E N y l) := by
  have key := fk_loopr (σ := (Nat × Int32) × Int32 × Value) (fun k s => fk_ev (d + 4) qX12_built 66 [.ref 246, w, .int on, .int (nI s.1.1), .int s.1.2, .int s.2.1, .int (nI k), s.2.2] [] (fk_E N y l)) (fun k s => s.1 = ab_bl y k ∧ ∀ q, fk_tb s.2.1 q = true ↔ ∃ p, p < k ∧ ab_cnt y p ∧ ab_RC y (nI 0) p q) 16 (by
    rintro k ⟨⟨g, f⟩, dn, x⟩ hk ⟨i1, i2⟩
    try dsimp only at i1 i2 ⊢
    have le := ab_bl_le (v := y) (k := k)
    rw [← i1] at le
    try dsimp only at le
    have keep : ¬ ab_cnt y k → ∀ q, fk_tb dn q = true ↔ ∃ p, p < k + 1 ∧ ab_cnt y p ∧ ab_RC y (nI 0) p q := fun hc q => by
      rw [i2]
      constructor
      · rintro ⟨p, h1, h2⟩; exact ⟨p, by omega, h2⟩
      · rintro ⟨p, h1, h2, h3⟩
        have : p ≠ k := fun e => hc (e ▸ h2)
        exact ⟨p, by omega, h2, h3⟩
    have hls := mX12_isLast (N := N) (l := l) (d := d) hv hk
    rw [hX12_built_66]
    by_cases c1 : ab_on y k
    · have b1 := (hon k hk).mpr c1
      by_cases c2 : fk_tb dn k = true
      · have nc : ¬ ab_cnt y k := fun z => (ab_cnt_iff z.1 z.2.1).mpr z.2.2 ((i2 k).mp c2)
        refine ⟨((g, f), dn, x), ?_, by rw [ab_bl_f nc]; exact i1, keep nc⟩
        simp (disch := first | assumption | omega) only [rX12_built, mX12_has, fk_has1, b1, c2, Option.bind_some, Option.toList_some, Option.toList_none, List.cons_append, List.nil_append, fk_b_0, nI_add, Nat.add_zero, Nat.zero_add, not_true_eq_false, not_false_eq_true, if_true, if_false, sI_le_t, sI_le_f, sI_lt_t, sI_lt_f, sI_eq_t, sI_eq_f, sI_rem, sI_div, sI_m1a, sI_m1b, sI_m1c, sI_m1d, sI_m1e, sI_m1f, sI_m2a, sI_m2b, sI_sub, pk_mul, sI_dec, fk_u_s, fk_u_o, sI_dec0, sI_z, sI_md, Bool.false_eq_true, Nat.reduceAdd, Nat.reduceMul, Nat.reduceSub, Nat.reduceMod, Nat.reduceDiv]
      · by_cases c3 : ab_last y k
        · have e1 : ab_ls y k = nI 1 := by unfold ab_ls; rw [if_pos c3]
          rw [e1] at hls
          have hc : ab_cnt y k := ⟨c1, c3, (ab_cnt_iff c1 c3).mp fun z => c2 ((i2 k).mpr z)⟩
          refine ⟨((g + 1, if g = 0 then fk_sz (ab_RC y (nI 0) k) else f), dn ||| fk_sz (ab_RC y (nI 0) k), .int (fk_sz (ab_RC y (nI 0) k))), ?_, by rw [ab_bl_t hc, ← i1], fun q => ?_⟩
          · by_cases c4 : g = 0
            · subst c4
              simp (disch := first | assumption | omega) only [rX12_built, mX12_has, fk_has1, b1, c2, hls, mX12_reachedFrom hv hk, eq_self, Option.bind_some, Option.toList_some, Option.toList_none, List.cons_append, List.nil_append, fk_b_0, nI_add, Nat.add_zero, Nat.zero_add, not_true_eq_false, not_false_eq_true, if_true, if_false, sI_le_t, sI_le_f, sI_lt_t, sI_lt_f, sI_eq_t, sI_eq_f, sI_rem, sI_div, sI_m1a, sI_m1b, sI_m1c, sI_m1d, sI_m1e, sI_m1f, sI_m2a, sI_m2b, sI_sub, pk_mul, sI_dec, fk_u_s, fk_u_o, sI_dec0, sI_z, sI_md, Bool.false_eq_true, Nat.reduceAdd, Nat.reduceMul, Nat.reduceSub, Nat.reduceMod, Nat.reduceDiv]
            · simp (disch := first | assumption | omega) only [rX12_built, mX12_has, fk_has1, b1, c2, hls, mX12_reachedFrom hv hk, c4, Option.bind_some, Option.toList_some, Option.toList_none, List.cons_append, List.nil_append, fk_b_0, nI_add, Nat.add_zero, Nat.zero_add, not_true_eq_false, not_false_eq_true, if_true, if_false, sI_le_t, sI_le_f, sI_lt_t, sI_lt_f, sI_eq_t, sI_eq_f, sI_rem, sI_div, sI_m1a, sI_m1b, sI_m1c, sI_m1d, sI_m1e, sI_m1f, sI_m2a, sI_m2b, sI_sub, pk_mul, sI_dec, fk_u_s, fk_u_o, sI_dec0, sI_z, sI_md, Bool.false_eq_true, Nat.reduceAdd, Nat.reduceMul, Nat.reduceSub, Nat.reduceMod, Nat.reduceDiv]
          · try dsimp only
            rw [fk_tb_or, Bool.or_eq_true, i2, fk_sz_t]
            constructor
            · rintro (⟨p, h1, h2⟩ | ⟨h1, h2⟩)
              · exact ⟨p, by omega, h2⟩
              · exact ⟨k, by omega, hc, h2⟩
            · rintro ⟨p, h1, h2, h3⟩
              by_cases e : p = k
              · subst e; exact Or.inr ⟨ab_RC_lt hk q h3, h3⟩
              · exact Or.inl ⟨p, by omega, h2, h3⟩
        · have e1 : ab_ls y k = nI 0 := by unfold ab_ls; rw [if_neg c3]
          rw [e1] at hls
          have nc : ¬ ab_cnt y k := fun z => c3 z.2.1
          refine ⟨((g, f), dn, x), ?_, by rw [ab_bl_f nc]; exact i1, keep nc⟩
          simp (disch := first | assumption | omega) only [rX12_built, mX12_has, fk_has1, b1, c2, hls, Option.bind_some, Option.toList_some, Option.toList_none, List.cons_append, List.nil_append, fk_b_0, nI_add, Nat.add_zero, Nat.zero_add, not_true_eq_false, not_false_eq_true, if_true, if_false, sI_le_t, sI_le_f, sI_lt_t, sI_lt_f, sI_eq_t, sI_eq_f, sI_rem, sI_div, sI_m1a, sI_m1b, sI_m1c, sI_m1d, sI_m1e, sI_m1f, sI_m2a, sI_m2b, sI_sub, pk_mul, sI_dec, fk_u_s, fk_u_o, sI_dec0, sI_z, sI_md, Bool.false_eq_true, Nat.reduceAdd, Nat.reduceMul, Nat.reduceSub, Nat.reduceMod, Nat.reduceDiv]
    · have b1 : ¬ fk_tb on k = true := fun z => c1 ((hon k hk).mp z)
      have nc : ¬ ab_cnt y k := fun z => c1 z.1
      refine ⟨((g, f), dn, x), ?_, by rw [ab_bl_f nc]; exact i1, keep nc⟩
      simp (disch := first | assumption | omega) only [rX12_built, mX12_has, fk_has1, b1, Option.bind_some, Option.toList_some, Option.toList_none, List.cons_append, List.nil_append, fk_b_0, nI_add, Nat.add_zero, Nat.zero_add, not_true_eq_false, not_false_eq_true, if_true, if_false, sI_le_t, sI_le_f, sI_lt_t, sI_lt_f, sI_eq_t, sI_eq_f, sI_rem, sI_div, sI_m1a, sI_m1b, sI_m1c, sI_m1d, sI_m1e, sI_m1f, sI_m2a, sI_m2b, sI_sub, pk_mul, sI_dec, fk_u_s, fk_u_o, sI_dec0, sI_z, sI_md, Bool.false_eq_true, Nat.reduceAdd, Nat.reduceMul, Nat.reduceSub, Nat.reduceMod, Nat.reduceDiv]) 16 0 ((0, nI 0), nI 0, .null) rfl ⟨rfl, fun q => by rw [fk_tb_0]; exact ⟨fun z => absurd z (by decide), fun ⟨r, h, _⟩ => by omega⟩⟩
  obtain ⟨⟨s, dn, x⟩, e, i1, i2⟩ := key
  try dsimp only at e i1
  rw [i1] at e
  exact ⟨.int dn, x, e⟩
theorem cl_built (hR : cR S y) {w : Int32} : ∃ a, fk_ev (d + 8) qX11_built 0 [.ref 1, .int w, .null, .null, .null, .null] [] (fk_E N y l) = some (some (.int a), fk_E N y l) ∧ fk_ev (d + 8) qX12_built 0 [.ref 246, .int w, .null, .null, .null, .null, .null, .null] [] (fk_E N y l) = some (some (.int a), fk_E N y l) := by
  obtain ⟨r0, r1, r2, _⟩ := id hR
  rcases fk_3c (w := w) with ⟨k, hk, rfl⟩ | ⟨w1, w2⟩
  · obtain ⟨x, e1⟩ := mX11_built_loop (N := N) (l := l) (d := d + 5) (w := .int (nI k)) r2
    obtain ⟨on, hon, e2⟩ := mX12_built_on (N := N) (l := l) (d := d + 6) (w := .int (nI k)) r1
    obtain ⟨x', x'', e3⟩ := mX12_built_loop (N := N) (l := l) (d := d + 4) (w := .int (nI k)) r1 hon
    have le := ab_bl_le (v := y) (k := 16)
    generalize ab_bl y 16 = s at e1 e3 le
    obtain ⟨g, f⟩ := s
    try dsimp only at e1 e3 le
    have hh : k = 0 ∨ k = 1 ∨ k = 2 := by omega
    rcases hh with rfl | rfl | rfl
    · refine ⟨nI (g - 1), ?_, ?_⟩
      · simp (disch := first | assumption | omega) only [rX11_built, mX11_within, and_self, Option.bind_some, Option.toList_some, Option.toList_none, List.cons_append, List.nil_append, fk_b_0, nI_add, Nat.add_zero, Nat.zero_add, not_true_eq_false, not_false_eq_true, if_true, if_false, sI_le_t, sI_le_f, sI_lt_t, sI_lt_f, sI_eq_t, sI_eq_f, sI_rem, sI_div, sI_m1a, sI_m1b, sI_m1c, sI_m1d, sI_m1e, sI_m1f, sI_m2a, sI_m2b, sI_sub, pk_mul, sI_dec, fk_u_s, fk_u_o, sI_dec0, sI_z, sI_md, Bool.false_eq_true, Nat.reduceAdd, Nat.reduceMul, Nat.reduceSub, Nat.reduceMod, Nat.reduceDiv]
        rw [e1, hX11_built_17]
        by_cases c : g = 0
        · subst c
          simp (disch := first | assumption | omega) only [rX11_built, show nI 0 - nI 1 = (-1 : Int32) by decide, Option.bind_some, Option.toList_some, Option.toList_none, List.cons_append, List.nil_append, fk_b_0, nI_add, Nat.add_zero, Nat.zero_add, not_true_eq_false, not_false_eq_true, if_true, if_false, sI_le_t, sI_le_f, sI_lt_t, sI_lt_f, sI_eq_t, sI_eq_f, sI_rem, sI_div, sI_m1a, sI_m1b, sI_m1c, sI_m1d, sI_m1e, sI_m1f, sI_m2a, sI_m2b, sI_sub, pk_mul, sI_dec, fk_u_s, fk_u_o, sI_dec0, sI_z, sI_md, Bool.false_eq_true, Nat.reduceAdd, Nat.reduceMul, Nat.reduceSub, Nat.reduceMod, Nat.reduceDiv]
        · simp (disch := first | assumption | omega) only [rX11_built, Option.bind_some, Option.toList_some, Option.toList_none, List.cons_append, List.nil_append, fk_b_0, nI_add, Nat.add_zero, Nat.zero_add, not_true_eq_false, not_false_eq_true, if_true, if_false, sI_le_t, sI_le_f, sI_lt_t, sI_lt_f, sI_eq_t, sI_eq_f, sI_rem, sI_div, sI_m1a, sI_m1b, sI_m1c, sI_m1d, sI_m1e, sI_m1f, sI_m2a, sI_m2b, sI_sub, pk_mul, sI_dec, fk_u_s, fk_u_o, sI_dec0, sI_z, sI_md, Bool.false_eq_true, Nat.reduceAdd, Nat.reduceMul, Nat.reduceSub, Nat.reduceMod, Nat.reduceDiv]
      · simp (disch := first | assumption | omega) only [rX12_built, mX12_in, and_self, Option.bind_some, Option.toList_some, Option.toList_none, List.cons_append, List.nil_append, fk_b_0, nI_add, Nat.add_zero, Nat.zero_add, not_true_eq_false, not_false_eq_true, if_true, if_false, sI_le_t, sI_le_f, sI_lt_t, sI_lt_f, sI_eq_t, sI_eq_f, sI_rem, sI_div, sI_m1a, sI_m1b, sI_m1c, sI_m1d, sI_m1e, sI_m1f, sI_m2a, sI_m2b, sI_sub, pk_mul, sI_dec, fk_u_s, fk_u_o, sI_dec0, sI_z, sI_md, Bool.false_eq_true, Nat.reduceAdd, Nat.reduceMul, Nat.reduceSub, Nat.reduceMod, Nat.reduceDiv]
        rw [e2, hX12_built_15]
        simp (disch := first | assumption | omega) only [rX12_built, Option.bind_some, Option.toList_some, Option.toList_none, List.cons_append, List.nil_append, fk_b_0, nI_add, Nat.add_zero, Nat.zero_add, not_true_eq_false, not_false_eq_true, if_true, if_false, sI_le_t, sI_le_f, sI_lt_t, sI_lt_f, sI_eq_t, sI_eq_f, sI_rem, sI_div, sI_m1a, sI_m1b, sI_m1c, sI_m1d, sI_m1e, sI_m1f, sI_m2a, sI_m2b, sI_sub, pk_mul, sI_dec, fk_u_s, fk_u_o, sI_dec0, sI_z, sI_md, Bool.false_eq_true, Nat.reduceAdd, Nat.reduceMul, Nat.reduceSub, Nat.reduceMod, Nat.reduceDiv]
        rw [e3, hX12_built_66]
        by_cases c : g = 0
        · subst c
          simp (disch := first | assumption | omega) only [rX12_built, show nI 0 - nI 1 = (-1 : Int32) by decide, mX12_max, Option.bind_some, Option.toList_some, Option.toList_none, List.cons_append, List.nil_append, fk_b_0, nI_add, Nat.add_zero, Nat.zero_add, not_true_eq_false, not_false_eq_true, if_true, if_false, sI_le_t, sI_le_f, sI_lt_t, sI_lt_f, sI_eq_t, sI_eq_f, sI_rem, sI_div, sI_m1a, sI_m1b, sI_m1c, sI_m1d, sI_m1e, sI_m1f, sI_m2a, sI_m2b, sI_sub, pk_mul, sI_dec, fk_u_s, fk_u_o, sI_dec0, sI_z, sI_md, Bool.false_eq_true, Nat.reduceAdd, Nat.reduceMul, Nat.reduceSub, Nat.reduceMod, Nat.reduceDiv]
        · simp (disch := first | assumption | omega) only [rX12_built, mX12_max, Option.bind_some, Option.toList_some, Option.toList_none, List.cons_append, List.nil_append, fk_b_0, nI_add, Nat.add_zero, Nat.zero_add, not_true_eq_false, not_false_eq_true, if_true, if_false, sI_le_t, sI_le_f, sI_lt_t, sI_lt_f, sI_eq_t, sI_eq_f, sI_rem, sI_div, sI_m1a, sI_m1b, sI_m1c, sI_m1d, sI_m1e, sI_m1f, sI_m2a, sI_m2b, sI_sub, pk_mul, sI_dec, fk_u_s, fk_u_o, sI_dec0, sI_z, sI_md, Bool.false_eq_true, Nat.reduceAdd, Nat.reduceMul, Nat.reduceSub, Nat.reduceMod, Nat.reduceDiv]
    · refine ⟨nI g, ?_, ?_⟩
      · simp (disch := first | assumption | omega) only [rX11_built, mX11_within, and_self, Option.bind_some, Option.toList_some, Option.toList_none, List.cons_append, List.nil_append, fk_b_0, nI_add, Nat.add_zero, Nat.zero_add, not_true_eq_false, not_false_eq_true, if_true, if_false, sI_le_t, sI_le_f, sI_lt_t, sI_lt_f, sI_eq_t, sI_eq_f, sI_rem, sI_div, sI_m1a, sI_m1b, sI_m1c, sI_m1d, sI_m1e, sI_m1f, sI_m2a, sI_m2b, sI_sub, pk_mul, sI_dec, fk_u_s, fk_u_o, sI_dec0, sI_z, sI_md, Bool.false_eq_true, Nat.reduceAdd, Nat.reduceMul, Nat.reduceSub, Nat.reduceMod, Nat.reduceDiv]
        rw [e1, hX11_built_17]
        simp (disch := first | assumption | omega) only [rX11_built, Option.bind_some, Option.toList_some, Option.toList_none, List.cons_append, List.nil_append, fk_b_0, nI_add, Nat.add_zero, Nat.zero_add, not_true_eq_false, not_false_eq_true, if_true, if_false, sI_le_t, sI_le_f, sI_lt_t, sI_lt_f, sI_eq_t, sI_eq_f, sI_rem, sI_div, sI_m1a, sI_m1b, sI_m1c, sI_m1d, sI_m1e, sI_m1f, sI_m2a, sI_m2b, sI_sub, pk_mul, sI_dec, fk_u_s, fk_u_o, sI_dec0, sI_z, sI_md, Bool.false_eq_true, Nat.reduceAdd, Nat.reduceMul, Nat.reduceSub, Nat.reduceMod, Nat.reduceDiv]
      · simp (disch := first | assumption | omega) only [rX12_built, mX12_in, and_self, Option.bind_some, Option.toList_some, Option.toList_none, List.cons_append, List.nil_append, fk_b_0, nI_add, Nat.add_zero, Nat.zero_add, not_true_eq_false, not_false_eq_true, if_true, if_false, sI_le_t, sI_le_f, sI_lt_t, sI_lt_f, sI_eq_t, sI_eq_f, sI_rem, sI_div, sI_m1a, sI_m1b, sI_m1c, sI_m1d, sI_m1e, sI_m1f, sI_m2a, sI_m2b, sI_sub, pk_mul, sI_dec, fk_u_s, fk_u_o, sI_dec0, sI_z, sI_md, Bool.false_eq_true, Nat.reduceAdd, Nat.reduceMul, Nat.reduceSub, Nat.reduceMod, Nat.reduceDiv]
        rw [e2, hX12_built_15]
        simp (disch := first | assumption | omega) only [rX12_built, Option.bind_some, Option.toList_some, Option.toList_none, List.cons_append, List.nil_append, fk_b_0, nI_add, Nat.add_zero, Nat.zero_add, not_true_eq_false, not_false_eq_true, if_true, if_false, sI_le_t, sI_le_f, sI_lt_t, sI_lt_f, sI_eq_t, sI_eq_f, sI_rem, sI_div, sI_m1a, sI_m1b, sI_m1c, sI_m1d, sI_m1e, sI_m1f, sI_m2a, sI_m2b, sI_sub, pk_mul, sI_dec, fk_u_s, fk_u_o, sI_dec0, sI_z, sI_md, Bool.false_eq_true, Nat.reduceAdd, Nat.reduceMul, Nat.reduceSub, Nat.reduceMod, Nat.reduceDiv]
        rw [e3, hX12_built_66]
        simp (disch := first | assumption | omega) only [rX12_built, Option.bind_some, Option.toList_some, Option.toList_none, List.cons_append, List.nil_append, fk_b_0, nI_add, Nat.add_zero, Nat.zero_add, not_true_eq_false, not_false_eq_true, if_true, if_false, sI_le_t, sI_le_f, sI_lt_t, sI_lt_f, sI_eq_t, sI_eq_f, sI_rem, sI_div, sI_m1a, sI_m1b, sI_m1c, sI_m1d, sI_m1e, sI_m1f, sI_m2a, sI_m2b, sI_sub, pk_mul, sI_dec, fk_u_s, fk_u_o, sI_dec0, sI_z, sI_md, Bool.false_eq_true, Nat.reduceAdd, Nat.reduceMul, Nat.reduceSub, Nat.reduceMod, Nat.reduceDiv]
    · have z0 : ¬ (0 : Int) = (nI 2).toInt := by decide
      have z1 : ¬ (1 : Int) = (nI 2).toInt := by decide
      refine ⟨f, ?_, ?_⟩
      · simp (disch := first | assumption | omega) only [rX11_built, mX11_within, and_self, Option.bind_some, Option.toList_some, Option.toList_none, List.cons_append, List.nil_append, fk_b_0, nI_add, Nat.add_zero, Nat.zero_add, not_true_eq_false, not_false_eq_true, if_true, if_false, sI_le_t, sI_le_f, sI_lt_t, sI_lt_f, sI_eq_t, sI_eq_f, sI_rem, sI_div, sI_m1a, sI_m1b, sI_m1c, sI_m1d, sI_m1e, sI_m1f, sI_m2a, sI_m2b, sI_sub, pk_mul, sI_dec, fk_u_s, fk_u_o, sI_dec0, sI_z, sI_md, Bool.false_eq_true, Nat.reduceAdd, Nat.reduceMul, Nat.reduceSub, Nat.reduceMod, Nat.reduceDiv]
        rw [e1, hX11_built_17]
        simp (disch := first | assumption | omega) only [rX11_built, Option.bind_some, Option.toList_some, Option.toList_none, List.cons_append, List.nil_append, fk_b_0, nI_add, Nat.add_zero, Nat.zero_add, not_true_eq_false, not_false_eq_true, if_true, if_false, sI_le_t, sI_le_f, sI_lt_t, sI_lt_f, sI_eq_t, sI_eq_f, sI_rem, sI_div, sI_m1a, sI_m1b, sI_m1c, sI_m1d, sI_m1e, sI_m1f, sI_m2a, sI_m2b, sI_sub, pk_mul, sI_dec, fk_u_s, fk_u_o, sI_dec0, sI_z, sI_md, Bool.false_eq_true, Nat.reduceAdd, Nat.reduceMul, Nat.reduceSub, Nat.reduceMod, Nat.reduceDiv]
      · simp (disch := first | assumption | omega) only [rX12_built, mX12_in, and_self, Option.bind_some, Option.toList_some, Option.toList_none, List.cons_append, List.nil_append, fk_b_0, nI_add, Nat.add_zero, Nat.zero_add, not_true_eq_false, not_false_eq_true, if_true, if_false, sI_le_t, sI_le_f, sI_lt_t, sI_lt_f, sI_eq_t, sI_eq_f, sI_rem, sI_div, sI_m1a, sI_m1b, sI_m1c, sI_m1d, sI_m1e, sI_m1f, sI_m2a, sI_m2b, sI_sub, pk_mul, sI_dec, fk_u_s, fk_u_o, sI_dec0, sI_z, sI_md, Bool.false_eq_true, Nat.reduceAdd, Nat.reduceMul, Nat.reduceSub, Nat.reduceMod, Nat.reduceDiv]
        rw [e2, hX12_built_15]
        simp (disch := first | assumption | omega) only [rX12_built, Option.bind_some, Option.toList_some, Option.toList_none, List.cons_append, List.nil_append, fk_b_0, nI_add, Nat.add_zero, Nat.zero_add, not_true_eq_false, not_false_eq_true, if_true, if_false, sI_le_t, sI_le_f, sI_lt_t, sI_lt_f, sI_eq_t, sI_eq_f, sI_rem, sI_div, sI_m1a, sI_m1b, sI_m1c, sI_m1d, sI_m1e, sI_m1f, sI_m2a, sI_m2b, sI_sub, pk_mul, sI_dec, fk_u_s, fk_u_o, sI_dec0, sI_z, sI_md, Bool.false_eq_true, Nat.reduceAdd, Nat.reduceMul, Nat.reduceSub, Nat.reduceMod, Nat.reduceDiv]
        rw [e3, hX12_built_66]
        simp (disch := first | assumption | omega) only [rX12_built, Option.bind_some, Option.toList_some, Option.toList_none, List.cons_append, List.nil_append, fk_b_0, nI_add, Nat.add_zero, Nat.zero_add, not_true_eq_false, not_false_eq_true, if_true, if_false, sI_le_t, sI_le_f, sI_lt_t, sI_lt_f, sI_eq_t, sI_eq_f, sI_rem, sI_div, sI_m1a, sI_m1b, sI_m1c, sI_m1d, sI_m1e, sI_m1f, sI_m2a, sI_m2b, sI_sub, pk_mul, sI_dec, fk_u_s, fk_u_o, sI_dec0, sI_z, sI_md, Bool.false_eq_true, Nat.reduceAdd, Nat.reduceMul, Nat.reduceSub, Nat.reduceMod, Nat.reduceDiv]
  · refine ⟨(-1), ?_, ?_⟩
    · simp (disch := first | assumption | omega) only [rX11_built, mX11_within, w1, Option.bind_some, Option.toList_some, Option.toList_none, List.cons_append, List.nil_append, fk_b_0, nI_add, Nat.add_zero, Nat.zero_add, not_true_eq_false, not_false_eq_true, if_true, if_false, sI_le_t, sI_le_f, sI_lt_t, sI_lt_f, sI_eq_t, sI_eq_f, sI_rem, sI_div, sI_m1a, sI_m1b, sI_m1c, sI_m1d, sI_m1e, sI_m1f, sI_m2a, sI_m2b, sI_sub, pk_mul, sI_dec, fk_u_s, fk_u_o, sI_dec0, sI_z, sI_md, Bool.false_eq_true, Nat.reduceAdd, Nat.reduceMul, Nat.reduceSub, Nat.reduceMod, Nat.reduceDiv]
    · simp (disch := first | assumption | omega) only [rX12_built, mX12_in, w2, Option.bind_some, Option.toList_some, Option.toList_none, List.cons_append, List.nil_append, fk_b_0, nI_add, Nat.add_zero, Nat.zero_add, not_true_eq_false, not_false_eq_true, if_true, if_false, sI_le_t, sI_le_f, sI_lt_t, sI_lt_f, sI_eq_t, sI_eq_f, sI_rem, sI_div, sI_m1a, sI_m1b, sI_m1c, sI_m1d, sI_m1e, sI_m1f, sI_m2a, sI_m2b, sI_sub, pk_mul, sI_dec, fk_u_s, fk_u_o, sI_dec0, sI_z, sI_md, Bool.false_eq_true, Nat.reduceAdd, Nat.reduceMul, Nat.reduceSub, Nat.reduceMod, Nat.reduceDiv]
end BLT
