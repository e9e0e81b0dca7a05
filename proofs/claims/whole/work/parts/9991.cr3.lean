/-! THE LAW: the class reads pieces -/
section CR3
variable {N : Nat} {y y0 y1 y2 y' : Nat → Nat → Int32} {l : Nat → Nat → Int64} {d n a c s q i o b e j jj : Nat} {bt : Nat → Nat} {v w : Int32} {B : Value}
theorem lz_cmp_ko (b : Nat) (h : lz_cmp b = true) : lz_ko (lz_sg b) = b ∧ 7 ≤ lz_sg b ∧ lz_sg b ≤ 9 := by
  unfold lz_cmp at h
  simp only [Bool.or_eq_true, beq_iff_eq] at h
  rcases h with (rfl | rfl) | rfl <;> decide
/-- what was read, and one order more -/
theorem lz_cR_add {r x : Nat} {K : List (Nat × Nat)} (hc : c = 2 ∨ c = 10) (h : lz_ct bt n c a (s + K.length) y1) (hK : lz_hc y1 c s K) (hrow : ∀ i, i < s → y1 (c + 1) i = y (c + 1) i ∧ y1 (c + 2) i = y (c + 2) i) (hs : s + K.length < 240) (e1 : v = nI (lz_ko r)) (e2 : w = nI (lz_kp (s + K.length) r x)) : lz_cR bt n c s y (fk_u (fk_u (fk_u y1 (c + 1) (s + K.length) v) (c + 2) (s + K.length) w) c 7 (nI (s + K.length + 1))) (nI 0) (.inr (a, K ++ [(r, x)])) := by
  refine ⟨rfl, ?_, ?_, fun i hi => ?_⟩
  · show lz_ct bt n c a (s + (K ++ [(r, x)]).length) _
    rw [List.length_append, ← Nat.add_assoc]
    exact lz_ct_add h hs
  · refine lz_hc_app K (lz_hc_c K s (fun i i1 i2 => ?_) hK) (lz_hc_1 ?_ ?_)
    · rw [fk_u_o (by omega), fk_u_o (by omega), fk_u_o (by omega), fk_u_o (by omega), fk_u_o (by omega), fk_u_o (by omega)]
      exact ⟨rfl, rfl⟩
    · rw [fk_u_o (by omega), fk_u_o (by omega), fk_u_s, e1]
    · rw [fk_u_o (by omega), fk_u_s, e2]
  · rw [fk_u_o (by omega), fk_u_o (by omega), fk_u_o (by omega), fk_u_o (by omega), fk_u_o (by omega), fk_u_o (by omega)]
    exact hrow i hi
theorem lz_av_row (h : ∀ i, i < s → y' (c + 1) i = lz_av bt n a y (c + 1) i ∧ y' (c + 2) i = lz_av bt n a y (c + 2) i) (hc : c = 2 ∨ c = 10) : ∀ i, i < s → y' (c + 1) i = y (c + 1) i ∧ y' (c + 2) i = y (c + 2) i := fun i hi => by
  have := h i hi
  unfold lz_av at this
  rw [fk_u_o (by omega), fk_u_o (by omega), fk_u_o (by omega), fk_u_o (by omega)] at this
  exact this
theorem lz_cR_adv {K : List (Nat × Nat)} (hc : c = 2 ∨ c = 10) (h : lz_ct bt n c a (s + K.length) y1) (lt : a < n) (hK : lz_hc y1 c s K) (hrow : ∀ i, i < s → y1 (c + 1) i = y (c + 1) i ∧ y1 (c + 2) i = y (c + 2) i) : lz_cR bt n c s y (lz_av bt n a y1) (nI 0) (.inr (a + 1, K)) := by
  refine ⟨rfl, lz_ct_adv h lt, lz_hc_c K s (fun i i1 i2 => ?_) hK, fun i hi => ?_⟩
  · unfold lz_av
    rw [fk_u_o (by omega), fk_u_o (by omega), fk_u_o (by omega), fk_u_o (by omega)]
    exact ⟨rfl, rfl⟩
  · unfold lz_av
    rw [fk_u_o (by omega), fk_u_o (by omega), fk_u_o (by omega), fk_u_o (by omega)]
    exact hrow i hi
set_option maxRecDepth 10000 in
theorem mX4_piece1 (hc : c = 2 ∨ c = 10) (hn : n ≤ 240) (hq : q ≤ 6) (hp : q ≠ 0 → lz_sp N l bt n c (d + 7) qX4_piece [.ref 28, .int (nI (6 - (q - 1))), .null, .null, .null] (fun a => lz_m1 (lz_P bt n (q - 1) a))) (hA : q ≠ 0 → lz_sp N l bt n c (d + 7) qX4_anyOf [.ref 28, .int (nI (6 - (q - 1))), .null, .null] (fun a => lz_m1 (lz_A bt n (q - 1) a))) (hS : lz_sp N l bt n c (d + 7) qX4_sum [.ref 28, .int (nI (6 - q)), .null, .null] (lz_S bt n q)) : lz_sp N l bt n c (d + 8) qX4_piece [.ref 28, .int (nI (6 - q)), .null, .null, .null] (fun a => lz_m1 (lz_P bt n q a)) := by
  have hat := (lz_law hc).1
  intro a s y h hs
  obtain ⟨h1, h2, h3, h4, h5, h6, h7, h8, h9, h10, h11⟩ := id h
  have b6 := h7 a
  have hcl : (y 28 2).toNatClampNeg = c := by rw [h2, nI_clamp (by omega)]
  show ∃ v y', fk_ev (d + 8) qX4_piece 0 [.ref 28, .int (nI (6 - q)), .null, .null, .null] [] (fk_E N y l) = some (some (.int v), fk_E N y' l) ∧ fk_s9 c y y' ∧ lz_cR bt n c s y y' v (lz_m1 (lz_P bt n q a))
  rw [lz_P_e]
  unfold lz_pc
  have eo : q ≠ 0 → 6 - q + 1 = 6 - (q - 1) := fun z => by omega
  have o6 : q ≠ 0 → 6 - q < 6 := fun z => by omega
  by_cases c1 : a < n ∧ bt a = 33
  · rw [if_pos c1]
    have ep : ab_pk bt n a = nI 33 := by rw [← c1.2]; exact if_pos c1.1
    rw [ep] at h5
    by_cases q0 : q = 0
    · rw [if_pos q0]
      subst q0
      refine ⟨fk_flt 5 a, y, ?_, fk_s9_0, rfl, fk_flt_5 5 (by omega) a (by omega) (by omega), s, h11, h10⟩
      simp (disch := first | assumption | omega) only [rX4_piece, h5, h4, mX11_faultAt, Option.bind_some, Option.toList_some, Option.toList_none, List.cons_append, List.nil_append, fk_b_0, nI_add, Nat.add_zero, Nat.zero_add, not_true_eq_false, not_false_eq_true, if_true, if_false, sI_le_t, sI_le_f, sI_lt_t, sI_lt_f, sI_eq_t, sI_eq_f, sI_rem, sI_div, sI_m1a, sI_m1b, sI_m1c, sI_m1d, sI_m1e, sI_m1f, sI_m2a, sI_m2b, sI_sub, pk_mul, sI_dec, fk_u_s, fk_u_o, sI_dec0, sI_z, sI_md, Bool.false_eq_true, Nat.reduceAdd, Nat.reduceMul, Nat.reduceSub, Nat.reduceMod, Nat.reduceDiv]
    · rw [if_neg q0]
      have hv := mX4_adv (N := N) (l := l) (d := d + 7) h c1.1
      have hct1 := lz_ct_adv h c1.1
      obtain ⟨v, y1, e1, e2, e3⟩ := hp q0 (a + 1) s _ hct1 (by omega)
      have e3 : lz_cR bt n c s (lz_av bt n a y) y1 v (lz_m1 (lz_P bt n (q - 1) (a + 1))) := e3
      have g := lz_PA_ok (bt := bt) hn (q - 1) (a + 1) c1.1
      have y12 : y1 28 2 = nI c := by rw [e2.2.1 2 (by omega) (by omega)]; exact hct1.2.1
      have hcl1 : (y1 28 2).toNatClampNeg = c := by rw [y12, nI_clamp (by omega)]
      rw [← eo q0] at e1
      have o6 := o6 q0
      generalize 6 - q = O at *
      dsimp only
      cases ef : lz_P bt n (q - 1) (a + 1) with
      | inl f =>
        rw [ef] at e3
        obtain ⟨rfl, e4, e5⟩ := e3
        obtain ⟨y2, q1, q2, q3⟩ := mX3_add_any (N := N) (l := l) (d := d + 7) (v := nI 2) (w := nI 0) hc e5
        refine ⟨v, y2, ?_, fk_s9_t (fk_s9_t (lz_s9_adv h) e2) q2, rfl, e4, q3⟩
        simp (disch := first | assumption | omega) only [rX4_piece, h5, hv, e1, hcl1, q1, Option.bind_some, Option.toList_some, Option.toList_none, List.cons_append, List.nil_append, fk_b_0, nI_add, Nat.add_zero, Nat.zero_add, not_true_eq_false, not_false_eq_true, if_true, if_false, sI_le_t, sI_le_f, sI_lt_t, sI_lt_f, sI_eq_t, sI_eq_f, sI_rem, sI_div, sI_m1a, sI_m1b, sI_m1c, sI_m1d, sI_m1e, sI_m1f, sI_m2a, sI_m2b, sI_sub, pk_mul, sI_dec, fk_u_s, fk_u_o, sI_dec0, sI_z, sI_md, Bool.false_eq_true, Nat.reduceAdd, Nat.reduceMul, Nat.reduceSub, Nat.reduceMod, Nat.reduceDiv]
      | inr x =>
        rw [ef] at e3 g
        obtain ⟨rfl, e4, e5, e6⟩ := e3
        obtain ⟨g1, g2, g3, _⟩ := g
        have hl : s + x.2.1.length < 240 := by omega
        have hadd := mX3_add (N := N) (l := l) (d := d + 7) (y := y1) (v := nI 2) (w := nI 0) hc e4.2.2.2.2.2.2.2.2.2.1 hl
        have rr := lz_cR_add (y := y) (r := 10) (x := 0) (v := nI 2) (w := nI 0) hc e4 e5 (lz_av_row e6 hc) hl rfl rfl
        refine ⟨nI 0, _, ?_, fk_s9_c hc (fk_s9_c hc (fk_s9_c hc (fk_s9_t (lz_s9_adv h) e2) (Or.inr (Or.inl rfl))) (Or.inr (Or.inr rfl))) (Or.inl ⟨rfl, rfl⟩), rr⟩
        simp (disch := first | assumption | omega) only [rX4_piece, h5, hv, e1, hcl1, hadd, Option.bind_some, Option.toList_some, Option.toList_none, List.cons_append, List.nil_append, fk_b_0, nI_add, Nat.add_zero, Nat.zero_add, not_true_eq_false, not_false_eq_true, if_true, if_false, sI_le_t, sI_le_f, sI_lt_t, sI_lt_f, sI_eq_t, sI_eq_f, sI_rem, sI_div, sI_m1a, sI_m1b, sI_m1c, sI_m1d, sI_m1e, sI_m1f, sI_m2a, sI_m2b, sI_sub, pk_mul, sI_dec, fk_u_s, fk_u_o, sI_dec0, sI_z, sI_md, Bool.false_eq_true, Nat.reduceAdd, Nat.reduceMul, Nat.reduceSub, Nat.reduceMod, Nat.reduceDiv]
  · rw [if_neg c1]
    have n33 := lz_pk_n (n := n) (x := 33) b6 (by omega) c1
    by_cases c2 : a < n ∧ bt a = 40
    · rw [if_pos c2]
      have ep : ab_pk bt n a = nI 40 := by rw [← c2.2]; exact if_pos c2.1
      rw [ep] at h5
      by_cases q0 : q = 0
      · rw [if_pos q0]
        subst q0
        refine ⟨fk_flt 5 a, y, ?_, fk_s9_0, rfl, fk_flt_5 5 (by omega) a (by omega) (by omega), s, h11, h10⟩
        simp (disch := first | assumption | omega) only [rX4_piece, h5, h4, mX11_faultAt, Option.bind_some, Option.toList_some, Option.toList_none, List.cons_append, List.nil_append, fk_b_0, nI_add, Nat.add_zero, Nat.zero_add, not_true_eq_false, not_false_eq_true, if_true, if_false, sI_le_t, sI_le_f, sI_lt_t, sI_lt_f, sI_eq_t, sI_eq_f, sI_rem, sI_div, sI_m1a, sI_m1b, sI_m1c, sI_m1d, sI_m1e, sI_m1f, sI_m2a, sI_m2b, sI_sub, pk_mul, sI_dec, fk_u_s, fk_u_o, sI_dec0, sI_z, sI_md, Bool.false_eq_true, Nat.reduceAdd, Nat.reduceMul, Nat.reduceSub, Nat.reduceMod, Nat.reduceDiv]
      · rw [if_neg q0]
        have hv := mX4_adv (N := N) (l := l) (d := d + 7) h c2.1
        have hct1 := lz_ct_adv h c2.1
        obtain ⟨v, y1, e1, e2, e3⟩ := hA q0 (a + 1) s _ hct1 (by omega)
        have e3 : lz_cR bt n c s (lz_av bt n a y) y1 v (lz_m1 (lz_A bt n (q - 1) (a + 1))) := e3
        have g := (lz_A_ok (bt := bt) (q := q - 1) (a := a + 1) hn c2.1).1
        rw [← eo q0] at e1
        have o6 := o6 q0
        generalize 6 - q = O at *
        dsimp only
        cases ef : lz_A bt n (q - 1) (a + 1) with
        | inl f =>
          rw [ef] at e3
          obtain ⟨rfl, e4, e5⟩ := e3
          refine ⟨v, y1, ?_, fk_s9_t (lz_s9_adv h) e2, rfl, e4, e5⟩
          simp (disch := first | assumption | omega) only [rX4_piece, h5, hv, e1, e4, Option.bind_some, Option.toList_some, Option.toList_none, List.cons_append, List.nil_append, fk_b_0, nI_add, Nat.add_zero, Nat.zero_add, not_true_eq_false, not_false_eq_true, if_true, if_false, sI_le_t, sI_le_f, sI_lt_t, sI_lt_f, sI_eq_t, sI_eq_f, sI_rem, sI_div, sI_m1a, sI_m1b, sI_m1c, sI_m1d, sI_m1e, sI_m1f, sI_m2a, sI_m2b, sI_sub, pk_mul, sI_dec, fk_u_s, fk_u_o, sI_dec0, sI_z, sI_md, Bool.false_eq_true, Nat.reduceAdd, Nat.reduceMul, Nat.reduceSub, Nat.reduceMod, Nat.reduceDiv]
        | inr x =>
          rw [ef] at e3 g
          obtain ⟨rfl, e4, e5, e6⟩ := e3
          obtain ⟨g1, g2, g3, _⟩ := g
          have e4 : lz_ct bt n c x.1 (s + x.2.1.length) y1 := e4
          dsimp only
          by_cases c4 : x.1 < n ∧ bt x.1 = 41
          · rw [if_pos c4]
            have hsg := mX4_sign_t (N := N) (l := l) (d := d + 6) e4 (show 41 < 256 by omega) c4
            refine ⟨nI 0, _, ?_, fk_s9_t (fk_s9_t (lz_s9_adv h) e2) (lz_s9_adv e4), lz_cR_adv hc e4 c4.1 e5 (lz_av_row e6 hc)⟩
            simp (disch := first | assumption | omega) only [rX4_piece, h5, hv, e1, hsg, Option.bind_some, Option.toList_some, Option.toList_none, List.cons_append, List.nil_append, fk_b_0, nI_add, Nat.add_zero, Nat.zero_add, not_true_eq_false, not_false_eq_true, if_true, if_false, sI_le_t, sI_le_f, sI_lt_t, sI_lt_f, sI_eq_t, sI_eq_f, sI_rem, sI_div, sI_m1a, sI_m1b, sI_m1c, sI_m1d, sI_m1e, sI_m1f, sI_m2a, sI_m2b, sI_sub, pk_mul, sI_dec, fk_u_s, fk_u_o, sI_dec0, sI_z, sI_md, Bool.false_eq_true, Nat.reduceAdd, Nat.reduceMul, Nat.reduceSub, Nat.reduceMod, Nat.reduceDiv]
          · rw [if_neg c4]
            have hsg := mX4_sign_f (N := N) (l := l) (d := d + 6) e4 (show 41 < 256 by omega) c4
            refine ⟨fk_flt 1 x.1, y1, ?_, fk_s9_t (lz_s9_adv h) e2, rfl, fk_flt_5 1 (by omega) x.1 (by omega) (by omega), _, e4.2.2.2.2.2.2.2.2.2.2, e4.2.2.2.2.2.2.2.2.2.1⟩
            simp (disch := first | assumption | omega) only [rX4_piece, h5, hv, e1, hsg, Option.bind_some, Option.toList_some, Option.toList_none, List.cons_append, List.nil_append, fk_b_0, nI_add, Nat.add_zero, Nat.zero_add, not_true_eq_false, not_false_eq_true, if_true, if_false, sI_le_t, sI_le_f, sI_lt_t, sI_lt_f, sI_eq_t, sI_eq_f, sI_rem, sI_div, sI_m1a, sI_m1b, sI_m1c, sI_m1d, sI_m1e, sI_m1f, sI_m2a, sI_m2b, sI_sub, pk_mul, sI_dec, fk_u_s, fk_u_o, sI_dec0, sI_z, sI_md, Bool.false_eq_true, Nat.reduceAdd, Nat.reduceMul, Nat.reduceSub, Nat.reduceMod, Nat.reduceDiv]
    · rw [if_neg c2]
      have n40 := lz_pk_n (n := n) (x := 40) b6 (by omega) c2
      obtain ⟨v, y1, e1, e2, e3⟩ := hS a s y h hs
      have g := lz_S_ok (bt := bt) (n := n) q a h8
      cases ef : lz_S bt n q a with
      | inl f =>
        rw [ef] at e3
        obtain ⟨rfl, e4, e5⟩ := e3
        refine ⟨v, y1, ?_, e2, rfl, e4, e5⟩
        simp (disch := first | assumption | omega) only [rX4_piece, h5, n33, n40, e1, e4, Option.bind_some, Option.toList_some, Option.toList_none, List.cons_append, List.nil_append, fk_b_0, nI_add, Nat.add_zero, Nat.zero_add, not_true_eq_false, not_false_eq_true, if_true, if_false, sI_le_t, sI_le_f, sI_lt_t, sI_lt_f, sI_eq_t, sI_eq_f, sI_rem, sI_div, sI_m1a, sI_m1b, sI_m1c, sI_m1d, sI_m1e, sI_m1f, sI_m2a, sI_m2b, sI_sub, pk_mul, sI_dec, fk_u_s, fk_u_o, sI_dec0, sI_z, sI_md, Bool.false_eq_true, Nat.reduceAdd, Nat.reduceMul, Nat.reduceSub, Nat.reduceMod, Nat.reduceDiv]
      | inr x =>
        rw [ef] at e3 g
        obtain ⟨rfl, e4, e5, e6⟩ := e3
        obtain ⟨g1, g2, g3, _⟩ := g
        dsimp only
        have b6x := h7 x.1
        have f5 := e4.2.2.2.2.1
        have f4 := e4.2.2.2.1
        have ho : fk_ev (d + 7) qX4_isOneOf 0 [.ref 28, .retAddr 6] [] (fk_E N y1 l) = some (some (.int (fk_b (x.1 < n ∧ lz_sc 3 (bt x.1) = true))), fk_E N y1 l) := mX4_isOneOf (d := d + 3) (i := 3) (by omega) f5 b6x
        by_cases c3 : x.1 < n ∧ lz_cmp (bt x.1) = true
        · rw [if_pos c3]
          rw [fk_b_t (show x.1 < n ∧ lz_sc 3 (bt x.1) = true from c3)] at ho
          have ep : ab_pk bt n x.1 = nI (bt x.1) := if_pos c3.1
          rw [ep] at f5
          have hv := mX4_adv (N := N) (l := l) (d := d + 7) e4 c3.1
          have hct2 := lz_ct_adv e4 c3.1
          obtain ⟨v2, y2, p1, p2, p3⟩ := hS (x.1 + 1) (s + x.2.length) _ hct2 (by omega)
          have g' := lz_S_ok (bt := bt) (n := n) q (x.1 + 1) c3.1
          have y22 : y2 28 2 = nI c := by rw [p2.2.1 2 (by omega) (by omega)]; exact hct2.2.1
          have hcl2 : (y2 28 2).toNatClampNeg = c := by rw [y22, nI_clamp (by omega)]
          cases eg : lz_S bt n q (x.1 + 1) with
          | inl f =>
            rw [eg] at p3
            obtain ⟨rfl, p4, p5⟩ := p3
            obtain ⟨y3, q1, q2, q3⟩ := mX3_add_any (N := N) (l := l) (d := d + 7) (v := nI (bt x.1)) (w := nI 0) hc p5
            refine ⟨v2, y3, ?_, fk_s9_t (fk_s9_t (fk_s9_t e2 (lz_s9_adv e4)) p2) q2, rfl, p4, q3⟩
            simp (disch := first | assumption | omega) only [rX4_piece, h5, n33, n40, e1, lX4_4, ho, f5, hv, p1, hcl2, q1, Option.bind_some, Option.toList_some, Option.toList_none, List.cons_append, List.nil_append, fk_b_0, nI_add, Nat.add_zero, Nat.zero_add, not_true_eq_false, not_false_eq_true, if_true, if_false, sI_le_t, sI_le_f, sI_lt_t, sI_lt_f, sI_eq_t, sI_eq_f, sI_rem, sI_div, sI_m1a, sI_m1b, sI_m1c, sI_m1d, sI_m1e, sI_m1f, sI_m2a, sI_m2b, sI_sub, pk_mul, sI_dec, fk_u_s, fk_u_o, sI_dec0, sI_z, sI_md, Bool.false_eq_true, Nat.reduceAdd, Nat.reduceMul, Nat.reduceSub, Nat.reduceMod, Nat.reduceDiv]
          | inr z =>
            rw [eg] at p3 g'
            obtain ⟨rfl, p4, p5, p6⟩ := p3
            obtain ⟨k1, k2, k3, _⟩ := g'
            have ko := lz_cmp_ko _ c3.2
            have el : s + (x.2 ++ z.2).length = s + x.2.length + z.2.length := by rw [List.length_append]; omega
            have hl : s + (x.2 ++ z.2).length < 240 := by omega
            have p4' : lz_ct bt n c z.1 (s + (x.2 ++ z.2).length) y2 := by rw [el]; exact p4
            have hadd := mX3_add (N := N) (l := l) (d := d + 7) (y := y2) (v := nI (bt x.1)) (w := nI 0) hc p4'.2.2.2.2.2.2.2.2.2.1 hl
            have rw2 := lz_av_row p6 hc
            have rr := lz_cR_add (y := y) (r := lz_sg (bt x.1)) (x := 0) (v := nI (bt x.1)) (w := nI 0) hc p4' (lz_hc_app x.2 (lz_hc_c x.2 s (fun i i1 i2 => rw2 i (by omega)) e5) p5) (fun i hi => ⟨(rw2 i (by omega)).1.trans (e6 i hi).1, (rw2 i (by omega)).2.trans (e6 i hi).2⟩) hl (by rw [ko.1]) (by unfold lz_kp; rw [if_neg (by omega), if_neg (by omega)])
            rw [List.append_assoc] at rr
            refine ⟨nI 0, _, ?_, fk_s9_c hc (fk_s9_c hc (fk_s9_c hc (fk_s9_t (fk_s9_t e2 (lz_s9_adv e4)) p2) (Or.inr (Or.inl rfl))) (Or.inr (Or.inr rfl))) (Or.inl ⟨rfl, rfl⟩), rr⟩
            simp (disch := first | assumption | omega) only [rX4_piece, h5, n33, n40, e1, lX4_4, ho, f5, hv, p1, hcl2, hadd, Option.bind_some, Option.toList_some, Option.toList_none, List.cons_append, List.nil_append, fk_b_0, nI_add, Nat.add_zero, Nat.zero_add, not_true_eq_false, not_false_eq_true, if_true, if_false, sI_le_t, sI_le_f, sI_lt_t, sI_lt_f, sI_eq_t, sI_eq_f, sI_rem, sI_div, sI_m1a, sI_m1b, sI_m1c, sI_m1d, sI_m1e, sI_m1f, sI_m2a, sI_m2b, sI_sub, pk_mul, sI_dec, fk_u_s, fk_u_o, sI_dec0, sI_z, sI_md, Bool.false_eq_true, Nat.reduceAdd, Nat.reduceMul, Nat.reduceSub, Nat.reduceMod, Nat.reduceDiv]
        · rw [if_neg c3]
          rw [fk_b_f (show ¬ (x.1 < n ∧ lz_sc 3 (bt x.1) = true) from c3)] at ho
          refine ⟨fk_flt 1 x.1, y1, ?_, e2, rfl, fk_flt_5 1 (by omega) x.1 (by omega) (by omega), _, e4.2.2.2.2.2.2.2.2.2.2, e4.2.2.2.2.2.2.2.2.2.1⟩
          simp (disch := first | assumption | omega) only [rX4_piece, h5, n33, n40, e1, lX4_4, ho, f4, mX11_faultAt, Option.bind_some, Option.toList_some, Option.toList_none, List.cons_append, List.nil_append, fk_b_0, nI_add, Nat.add_zero, Nat.zero_add, not_true_eq_false, not_false_eq_true, if_true, if_false, sI_le_t, sI_le_f, sI_lt_t, sI_lt_f, sI_eq_t, sI_eq_f, sI_rem, sI_div, sI_m1a, sI_m1b, sI_m1c, sI_m1d, sI_m1e, sI_m1f, sI_m2a, sI_m2b, sI_sub, pk_mul, sI_dec, fk_u_s, fk_u_o, sI_dec0, sI_z, sI_md, Bool.false_eq_true, Nat.reduceAdd, Nat.reduceMul, Nat.reduceSub, Nat.reduceMod, Nat.reduceDiv]
theorem mX4_piece (hc : c = 2 ∨ c = 10) (hn : n ≤ 240) : ∀ q, q ≤ 6 → ∀ d, lz_sp N l bt n c (d + 3 * q + 8) qX4_piece [.ref 28, .int (nI (6 - q)), .null, .null, .null] (fun a => lz_m1 (lz_P bt n q a)) := by
  intro q
  induction q with
  | zero =>
    intro _ d
    exact mX4_piece1 (q := 0) hc hn (by omega) (fun z => absurd rfl z) (fun z => absurd rfl z) (mX4_sum hc hn 0 (by omega) d)
  | succ q ih =>
    intro hq d
    have hp := ih (by omega) (d + 2)
    rw [show d + 2 + 3 * q + 8 = d + 3 * (q + 1) + 7 by omega] at hp
    have hp0 := ih (by omega) d
    have hB := mX4_allOf (D := d + 3 * q + 7) (nd := 2 * q + 4) hc hn (fun a ha => lz_PA_ok hn q a ha) hp0
    have hA := mX4_anyOf (D := d + 3 * q + 8) (nd := 2 * q + 4) hc hn (fun a ha => (lz_B_ok hn ha).1) hB
    rw [show d + 3 * q + 8 + 2 = d + 3 * (q + 1) + 7 by omega] at hA
    have hS := mX4_sum (N := N) (l := l) (bt := bt) hc hn (q + 1) hq d
    exact mX4_piece1 (d := d + 3 * (q + 1)) (q := q + 1) hc hn hq (fun _ => hp) (fun _ => hA) hS
theorem mX4_any (hc : c = 2 ∨ c = 10) (hn : n ≤ 240) (hq : q ≤ 6) (d : Nat) : lz_sp N l bt n c (d + 3 * q + 10) qX4_anyOf [.ref 28, .int (nI (6 - q)), .null, .null] (fun a => lz_m1 (lz_A bt n q a)) := by
  have hp0 := mX4_piece (N := N) (l := l) (bt := bt) hc hn q hq d
  have hB := mX4_allOf (D := d + 3 * q + 7) (nd := 2 * q + 4) hc hn (fun a ha => lz_PA_ok hn q a ha) hp0
  exact mX4_anyOf (D := d + 3 * q + 8) (nd := 2 * q + 4) hc hn (fun a ha => (lz_B_ok hn ha).1) hB
end CR3
