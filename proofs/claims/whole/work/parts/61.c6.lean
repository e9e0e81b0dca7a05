section C6
variable {N : Nat} {v y y0 : Nat → Nat → Int32} {l : Nat → Nat → Int64} {d p c n H m : Nat} {T A : Nat → Int32} {b0 : Int32} {W : Int32 → (Nat → Int32) → Int32} {s : ab_S}
theorem ab_mr_no {a : Nat} (h : ¬ ab_at s.1 a) : ∀ k j, fk_it (fun b s => ab_mr W a b s) j k s = s := by
  intro k
  induction k with
  | zero => intro j; rfl
  | succ k ih =>
    intro j
    show fk_it (fun b s => ab_mr W a b s) (j + 1) k (ab_mr W a j s) = s
    rw [show ab_mr W a j s = s from if_neg fun z => h z.1]
    exact ih (j + 1)
theorem fk_it_add {σ : Type} {f : Nat → σ → σ} : ∀ k i j s, fk_it f j (k + i) s = fk_it f (j + k) i (fk_it f j k s) := by
  intro k
  induction k with
  | zero => intro i j s; rw [Nat.zero_add, Nat.add_zero]; rfl
  | succ k ih =>
    intro i j s
    rw [show k + 1 + i = (k + i) + 1 by omega]
    show fk_it f (j + 1) (k + i) (f j s) = fk_it f (j + (k + 1)) i (fk_it f (j + 1) k (f j s))
    rw [ih i (j + 1), show j + 1 + k = j + (k + 1) by omega]
/-- a step of the class's inner loop where two meet, or not -/
theorem ck_meet1 (hL : ck_LC W c y0) (hp : ck_pp p) (hq2 : y0 238 2 = nI p) (hq3 : y0 238 3 = nI c) (hs : ck_cs y0 p c T b0 n y s) (ho : ab_ok v n H s.1) {a k : Nat} (ha : a < n) (hk : k < n) (hak : a < k) (hat : ab_at s.1 a) {x4 x5 : Value} : ∃ x4' x5' y', fk_ev (d + 3) qX6_meetAgain 27 [.ref 238, .int (nI a), .ref (p + 3 + a), .int (nI k), x4, x5] [] (fk_E N y l) = fk_ev (d + 3) qX6_meetAgain 27 [.ref 238, .int (nI a), .ref (p + 3 + a), .int (nI (k + 1)), x4', x5'] [] (fk_E N y' l) ∧ ck_cs y0 p c T b0 n y' (ab_mr W a k s) ∧ ab_ok v n H (ab_mr W a k s).1 := by
  obtain ⟨h8, c0, c1, h24, s24, h20, s20, p1, p2⟩ := ck_pp_at hp
  have hp' : p = 33 ∨ p = 100 ∨ p = 167 := hp
  have hn := ho.1
  have hNn := ab_ok_n ho
  have hc := hL.1
  obtain ⟨g1, g2, g3, g4, g5, g6⟩ := id hs
  have hha := ck_pp_h hp (show a < 64 by omega)
  have hhk := ck_pp_h hp (show k < 64 by omega)
  have e2 : y 238 2 = nI p := by rw [g5 2 (by omega) (by omega)]; exact hq2
  have eb : y p 2 = nI n := g1.1.1.trans ho.2.1
  obtain ⟨a1, a2, a3, a4, a5, a6, a7, a8, a9, a10, a11, a12, a13⟩ := id (g1.2.2.1 a (by omega) (by omega))
  obtain ⟨b1, b2, b3, b4, b5, b6, b7, b8, b9, b10, b11, b12, b13⟩ := id (g1.2.2.1 k (by omega) (by omega))
  obtain ⟨o, ho4, eo⟩ := (ho.2.2.2.2.2.1 a ha).1
  have hA := mX8_isAtPlaceN (N := N) (l := l) (d := d + 1) (P := s.1 (192 + a) = nI 1) hp hn eb ha a4
  have ca : s.1 (192 + a) = nI 1 ∧ nI 0 ≤ y (p + 3 + a) 6 := ⟨hat.1, by rw [a6]; exact hat.2⟩
  rw [hX6_meetAgain_27]
  by_cases c2 : s.1 (192 + k) = nI 1
  · by_cases c3 : s.1 k = s.1 a
    · by_cases c4 : s.1 (320 + k) = s.1 (320 + a)
      · have hmr : ab_mr W a k s = ab_mg W a k s := if_pos ⟨hat, ⟨c2, by rw [c4]; exact hat.2⟩, c3.symm, c4.symm⟩
        rw [hmr]
        obtain ⟨yb, e, kb⟩ := mX6_believed (N := N) (l := l) (d := d) (a := a) (b := k) (facts := ab_both s.1 a k) hL hp hq2 hq3 hs hn ho ha (show k < 64 by omega)
        have hsb := ck_cs_k hs hp hn kb hc
        have kn16 : ∀ i, fk_tb (ab_both s.1 a k) i = true → i < 16 := by
          intro i hi
          unfold ab_both at hi
          rw [fk_tb_and, fk_tb_and, Bool.and_eq_true, Bool.and_eq_true] at hi
          exact (ho.2.2.2.2.2.1 a ha).2.2.2.2.2.2.2.1 i hi.1.1
        have r' := ck_cs_mg (W := W) hp hc hsb ho ha hk (show a ≠ k by omega) hat.1 c2 eo ho4 c3
        have eo' : yb (p + 3 + a) 1 = nI o := by rw [(hsb.1.2.2.1 a (by omega) (by omega)).1]; exact eo
        refine ⟨.ref (p + 3 + k), .int (ab_both s.1 a k), _, ?_, r', ab_ok_mg ho ha hk (by omega) hat.1 c2⟩
        simp (disch := first | assumption | omega) only [rX6_meetAgain, e2, nI_clamp, eb, hA, hat.1, hat.2, c0, ck_p3 (p := p), b4, c2, b1, a1, c3, b6, a6, c4, eq_self, mX0_clash, a11, b11, a12, b12, and_self, Option.bind_some, Option.toList_some, Option.toList_none, List.cons_append, List.nil_append, fk_b_0, nI_add, Nat.add_zero, Nat.zero_add, not_true_eq_false, not_false_eq_true, if_true, if_false, sI_le_t, sI_le_f, sI_lt_t, sI_lt_f, sI_eq_t, sI_eq_f, sI_rem, sI_div, sI_m1a, sI_m1b, sI_m1c, sI_m1d, sI_m1e, sI_m1f, sI_m2a, sI_m2b, sI_sub, pk_mul, sI_dec, fk_u_s, fk_u_o, sI_dec0, sI_z, sI_md, Bool.false_eq_true, Nat.reduceAdd, Nat.reduceMul, Nat.reduceSub, Nat.reduceMod, Nat.reduceDiv]
        rw [show s.1 (704 + a) &&& s.1 (704 + k) &&& (s.1 (768 + a) ^^^ s.1 (768 + k)) = ab_both s.1 a k from rfl]
        simp (disch := first | assumption | omega) only [rX6_meetAgain, e, ck_bl_fg kn16, mX8_merge hp (show a < 64 by omega) (show k < 64 by omega) (show a ≠ k by omega) eo' ho4, Option.bind_some, Option.toList_some, Option.toList_none, List.cons_append, List.nil_append, fk_b_0, nI_add, Nat.add_zero, Nat.zero_add, not_true_eq_false, not_false_eq_true, if_true, if_false, sI_le_t, sI_le_f, sI_lt_t, sI_lt_f, sI_eq_t, sI_eq_f, sI_rem, sI_div, sI_m1a, sI_m1b, sI_m1c, sI_m1d, sI_m1e, sI_m1f, sI_m2a, sI_m2b, sI_sub, pk_mul, sI_dec, fk_u_s, fk_u_o, sI_dec0, sI_z, sI_md, Bool.false_eq_true, Nat.reduceAdd, Nat.reduceMul, Nat.reduceSub, Nat.reduceMod, Nat.reduceDiv]
      · have hmr : ab_mr W a k s = s := if_neg fun z => c4 z.2.2.2.symm
        rw [hmr]
        refine ⟨.ref (p + 3 + k), x5, y, ?_, hs, ho⟩
        simp (disch := first | assumption | omega) only [rX6_meetAgain, e2, nI_clamp, eb, hA, hat.1, hat.2, c0, ck_p3 (p := p), b4, c2, b1, a1, c3, b6, a6, c4, eq_self, and_self, Option.bind_some, Option.toList_some, Option.toList_none, List.cons_append, List.nil_append, fk_b_0, nI_add, Nat.add_zero, Nat.zero_add, not_true_eq_false, not_false_eq_true, if_true, if_false, sI_le_t, sI_le_f, sI_lt_t, sI_lt_f, sI_eq_t, sI_eq_f, sI_rem, sI_div, sI_m1a, sI_m1b, sI_m1c, sI_m1d, sI_m1e, sI_m1f, sI_m2a, sI_m2b, sI_sub, pk_mul, sI_dec, fk_u_s, fk_u_o, sI_dec0, sI_z, sI_md, Bool.false_eq_true, Nat.reduceAdd, Nat.reduceMul, Nat.reduceSub, Nat.reduceMod, Nat.reduceDiv]
    · have hmr : ab_mr W a k s = s := if_neg fun z => c3 z.2.2.1.symm
      rw [hmr]
      refine ⟨.ref (p + 3 + k), x5, y, ?_, hs, ho⟩
      simp (disch := first | assumption | omega) only [rX6_meetAgain, e2, nI_clamp, eb, hA, hat.1, hat.2, c0, ck_p3 (p := p), b4, c2, b1, a1, a6, c3, and_self, Option.bind_some, Option.toList_some, Option.toList_none, List.cons_append, List.nil_append, fk_b_0, nI_add, Nat.add_zero, Nat.zero_add, not_true_eq_false, not_false_eq_true, if_true, if_false, sI_le_t, sI_le_f, sI_lt_t, sI_lt_f, sI_eq_t, sI_eq_f, sI_rem, sI_div, sI_m1a, sI_m1b, sI_m1c, sI_m1d, sI_m1e, sI_m1f, sI_m2a, sI_m2b, sI_sub, pk_mul, sI_dec, fk_u_s, fk_u_o, sI_dec0, sI_z, sI_md, Bool.false_eq_true, Nat.reduceAdd, Nat.reduceMul, Nat.reduceSub, Nat.reduceMod, Nat.reduceDiv]
  · have hmr : ab_mr W a k s = s := if_neg fun z => c2 z.2.1.1
    rw [hmr]
    refine ⟨.ref (p + 3 + k), x5, y, ?_, hs, ho⟩
    simp (disch := first | assumption | omega) only [rX6_meetAgain, e2, nI_clamp, eb, hA, hat.1, hat.2, c0, ck_p3 (p := p), b4, c2, a6, and_self, Option.bind_some, Option.toList_some, Option.toList_none, List.cons_append, List.nil_append, fk_b_0, nI_add, Nat.add_zero, Nat.zero_add, not_true_eq_false, not_false_eq_true, if_true, if_false, sI_le_t, sI_le_f, sI_lt_t, sI_lt_f, sI_eq_t, sI_eq_f, sI_rem, sI_div, sI_m1a, sI_m1b, sI_m1c, sI_m1d, sI_m1e, sI_m1f, sI_m2a, sI_m2b, sI_sub, pk_mul, sI_dec, fk_u_s, fk_u_o, sI_dec0, sI_z, sI_md, Bool.false_eq_true, Nat.reduceAdd, Nat.reduceMul, Nat.reduceSub, Nat.reduceMod, Nat.reduceDiv]
theorem ck_meet2 (hL : ck_LC W c y0) (hp : ck_pp p) (hq2 : y0 238 2 = nI p) (hq3 : y0 238 3 = nI c) (hs : ck_cs y0 p c T b0 n y s) (ho : ab_ok v n H s.1) {a : Nat} (ha : a < n) {x4 x5 : Value} : ∃ x2 x3 x4' x5' y', fk_ev (d + 3) qX6_meetAgain 27 [.ref 238, .int (nI a), .ref (p + 3 + a), .int (nI (a + 1)), x4, x5] [] (fk_E N y l) = fk_ev (d + 3) qX6_meetAgain 2 [.ref 238, .int (nI (a + 1)), x2, x3, x4', x5'] [] (fk_E N y' l) ∧ ck_cs y0 p c T b0 n y' (fk_it (fun b s => ab_mr W a b s) (a + 1) (n - (a + 1)) s) ∧ ab_ok v n H (fk_it (fun b s => ab_mr W a b s) (a + 1) (n - (a + 1)) s).1 := by
  obtain ⟨h8, c0, c1, h24, s24, h20, s20, p1, p2⟩ := ck_pp_at hp
  have hn := ho.1
  refine fk_loopx (σ := Value × Value × (Nat → Nat → Int32)) (fun k t => fk_ev (d + 3) qX6_meetAgain 27 [.ref 238, .int (nI a), .ref (p + 3 + a), .int (nI k), t.1, t.2.1] [] (fk_E N t.2.2 l)) (fun k t => a + 1 ≤ k ∧ ck_cs y0 p c T b0 n t.2.2 (fk_it (fun b s => ab_mr W a b s) (a + 1) (k - (a + 1)) s) ∧ ab_ok v n H (fk_it (fun b s => ab_mr W a b s) (a + 1) (k - (a + 1)) s).1) (fun r => ∃ x2 x3 x4' x5' y', r = fk_ev (d + 3) qX6_meetAgain 2 [.ref 238, .int (nI (a + 1)), x2, x3, x4', x5'] [] (fk_E N y' l) ∧ ck_cs y0 p c T b0 n y' (fk_it (fun b s => ab_mr W a b s) (a + 1) (n - (a + 1)) s) ∧ ab_ok v n H (fk_it (fun b s => ab_mr W a b s) (a + 1) (n - (a + 1)) s).1) n ?_ ?_ (n - (a + 1)) (a + 1) (x4, x5, y) (by omega) ⟨Nat.le_refl _, by rw [Nat.sub_self]; exact hs, by rw [Nat.sub_self]; exact ho⟩
  · rintro k ⟨z4, z5, t⟩ hk ⟨i0, i1, i2⟩
    dsimp only at i1 i2 ⊢
    by_cases hat : ab_at (fk_it (fun b s => ab_mr W a b s) (a + 1) (k - (a + 1)) s).1 a
    · right
      have e1 : fk_it (fun b s => ab_mr W a b s) (a + 1) (k + 1 - (a + 1)) s = ab_mr W a k (fk_it (fun b s => ab_mr W a b s) (a + 1) (k - (a + 1)) s) := by
        rw [show k + 1 - (a + 1) = (k - (a + 1)) + 1 by omega, fk_it_succ, show a + 1 + (k - (a + 1)) = k by omega]
      rw [e1]
      obtain ⟨w4, w5, y', e, r, o'⟩ := ck_meet1 (N := N) (l := l) (d := d) (x4 := z4) (x5 := z5) hL hp hq2 hq3 i1 i2 ha hk (by omega) hat
      exact ⟨(w4, w5, y'), e, by omega, r, o'⟩
    · left
      have e1 : fk_it (fun b s => ab_mr W a b s) (a + 1) (n - (a + 1)) s = fk_it (fun b s => ab_mr W a b s) (a + 1) (k - (a + 1)) s := by
        rw [show n - (a + 1) = (k - (a + 1)) + (n - k) by omega, fk_it_add, ab_mr_no hat]
      rw [e1]
      generalize fk_it (fun b s => ab_mr W a b s) (a + 1) (k - (a + 1)) s = z at i1 i2 hat ⊢
      have e2 : t 238 2 = nI p := by rw [i1.2.2.2.2.1 2 (by omega) (by omega)]; exact hq2
      have eb : t p 2 = nI n := i1.1.1.1.trans i2.2.1
      obtain ⟨a1, a2, a3, a4, a5, a6, _⟩ := id (i1.1.2.2.1 a (by omega) (by rw [ab_ok_n i2]; exact ha))
      have hA := mX8_isAtPlaceN (N := N) (l := l) (d := d + 1) (P := z.1 (192 + a) = nI 1) hp hn eb ha a4
      have ca : ¬ (z.1 (192 + a) = nI 1 ∧ nI 0 ≤ t (p + 3 + a) 6) := by rw [a6]; exact hat
      refine ⟨.ref (p + 3 + a), .int (nI k), z4, z5, t, ?_, i1, i2⟩
      rw [hX6_meetAgain_27]
      simp (disch := first | assumption | omega) only [rX6_meetAgain, e2, nI_clamp, eb, hA, ca, Option.bind_some, Option.toList_some, Option.toList_none, List.cons_append, List.nil_append, fk_b_0, nI_add, Nat.add_zero, Nat.zero_add, not_true_eq_false, not_false_eq_true, if_true, if_false, sI_le_t, sI_le_f, sI_lt_t, sI_lt_f, sI_eq_t, sI_eq_f, sI_rem, sI_div, sI_m1a, sI_m1b, sI_m1c, sI_m1d, sI_m1e, sI_m1f, sI_m2a, sI_m2b, sI_sub, pk_mul, sI_dec, fk_u_s, fk_u_o, sI_dec0, sI_z, sI_md, Bool.false_eq_true, Nat.reduceAdd, Nat.reduceMul, Nat.reduceSub, Nat.reduceMod, Nat.reduceDiv]
  · rintro ⟨z4, z5, t⟩ ⟨i0, i1, i2⟩
    dsimp only at i1 i2 ⊢
    generalize fk_it (fun b s => ab_mr W a b s) (a + 1) (n - (a + 1)) s = z at i1 i2 ⊢
    have e2 : t 238 2 = nI p := by rw [i1.2.2.2.2.1 2 (by omega) (by omega)]; exact hq2
    have eb : t p 2 = nI n := i1.1.1.1.trans i2.2.1
    refine ⟨.ref (p + 3 + a), .int (nI n), z4, z5, t, ?_, i1, i2⟩
    rw [hX6_meetAgain_27]
    simp (disch := first | assumption | omega) only [rX6_meetAgain, e2, nI_clamp, eb, Option.bind_some, Option.toList_some, Option.toList_none, List.cons_append, List.nil_append, fk_b_0, nI_add, Nat.add_zero, Nat.zero_add, not_true_eq_false, not_false_eq_true, if_true, if_false, sI_le_t, sI_le_f, sI_lt_t, sI_lt_f, sI_eq_t, sI_eq_f, sI_rem, sI_div, sI_m1a, sI_m1b, sI_m1c, sI_m1d, sI_m1e, sI_m1f, sI_m2a, sI_m2b, sI_sub, pk_mul, sI_dec, fk_u_s, fk_u_o, sI_dec0, sI_z, sI_md, Bool.false_eq_true, Nat.reduceAdd, Nat.reduceMul, Nat.reduceSub, Nat.reduceMod, Nat.reduceDiv]
theorem mX6_meetAgain (hL : ck_LC W c y0) (hp : ck_pp p) (hq2 : y0 238 2 = nI p) (hq3 : y0 238 3 = nI c) (hs : ck_cs y0 p c T b0 n y s) (ho : ab_ok v n H s.1) : ∃ y', fk_ev (d + 3) qX6_meetAgain 0 [.ref 238, .null, .null, .null, .null, .null] [] (fk_E N y l) = some (none, fk_E N y' l) ∧ ck_cs y0 p c T b0 n y' (ab_p3 W s) ∧ ab_ok v n H (ab_p3 W s).1 := by
  obtain ⟨h8, c0, c1, h24, s24, h20, s20, p1, p2⟩ := ck_pp_at hp
  have hn := ho.1
  unfold ab_p3
  rw [ab_ok_n ho]
  have key := fk_loopr (σ := Value × Value × Value × Value × (Nat → Nat → Int32)) (fun k t => fk_ev (d + 3) qX6_meetAgain 2 [.ref 238, .int (nI k), t.1, t.2.1, t.2.2.1, t.2.2.2.1] [] (fk_E N t.2.2.2.2 l)) (fun k t => ck_cs y0 p c T b0 n t.2.2.2.2 (fk_it (fun a s => fk_it (fun b s => ab_mr W a b s) (a + 1) (ab_n s.1 - (a + 1)) s) 0 k s) ∧ ab_ok v n H (fk_it (fun a s => fk_it (fun b s => ab_mr W a b s) (a + 1) (ab_n s.1 - (a + 1)) s) 0 k s).1) n (by
    rintro k ⟨w2, w3, w4, w5, t⟩ hk ⟨i1, i2⟩
    dsimp only at i1 i2 ⊢
    rw [fk_it_succ, Nat.zero_add]
    generalize fk_it (fun a s => fk_it (fun b s => ab_mr W a b s) (a + 1) (ab_n s.1 - (a + 1)) s) 0 k s = z at i1 i2 ⊢
    rw [ab_ok_n i2]
    obtain ⟨x2, x3, x4, x5, y', e, r, o'⟩ := ck_meet2 (N := N) (l := l) (d := d) (x4 := w4) (x5 := w5) hL hp hq2 hq3 i1 i2 hk
    refine ⟨(x2, x3, x4, x5, y'), ?_, r, o'⟩
    have e2 : t 238 2 = nI p := by rw [i1.2.2.2.2.1 2 (by omega) (by omega)]; exact hq2
    have eb : t p 2 = nI n := i1.1.1.1.trans i2.2.1
    rw [hX6_meetAgain_2]
    dsimp only
    rw [← e]
    simp (disch := first | assumption | omega) only [rX6_meetAgain, e2, nI_clamp, eb, c0, ck_p3 (p := p), Option.bind_some, Option.toList_some, Option.toList_none, List.cons_append, List.nil_append, fk_b_0, nI_add, Nat.add_zero, Nat.zero_add, not_true_eq_false, not_false_eq_true, if_true, if_false, sI_le_t, sI_le_f, sI_lt_t, sI_lt_f, sI_eq_t, sI_eq_f, sI_rem, sI_div, sI_m1a, sI_m1b, sI_m1c, sI_m1d, sI_m1e, sI_m1f, sI_m2a, sI_m2b, sI_sub, pk_mul, sI_dec, fk_u_s, fk_u_o, sI_dec0, sI_z, sI_md, Bool.false_eq_true, Nat.reduceAdd, Nat.reduceMul, Nat.reduceSub, Nat.reduceMod, Nat.reduceDiv]) n 0 (.null, .null, .null, .null, y) (Nat.zero_add n) ⟨hs, ho⟩
  obtain ⟨⟨w2, w3, w4, w5, y'⟩, e, i1, i2⟩ := key
  dsimp only at e i1 i2
  refine ⟨y', ?_, i1, i2⟩
  have e2 : y' 238 2 = nI p := by rw [i1.2.2.2.2.1 2 (by omega) (by omega)]; exact hq2
  have eb : y' p 2 = nI n := i1.1.1.1.trans i2.2.1
  simp (disch := first | assumption | omega) only [rX6_meetAgain, Option.bind_some, Option.toList_some, Option.toList_none, List.cons_append, List.nil_append, fk_b_0, nI_add, Nat.add_zero, Nat.zero_add, not_true_eq_false, not_false_eq_true, if_true, if_false, sI_le_t, sI_le_f, sI_lt_t, sI_lt_f, sI_eq_t, sI_eq_f, sI_rem, sI_div, sI_m1a, sI_m1b, sI_m1c, sI_m1d, sI_m1e, sI_m1f, sI_m2a, sI_m2b, sI_sub, pk_mul, sI_dec, fk_u_s, fk_u_o, sI_dec0, sI_z, sI_md, Bool.false_eq_true, Nat.reduceAdd, Nat.reduceMul, Nat.reduceSub, Nat.reduceMod, Nat.reduceDiv]
  rw [e, hX6_meetAgain_2]
  simp (disch := first | assumption | omega) only [rX6_meetAgain, e2, nI_clamp, eb, Option.bind_some, Option.toList_some, Option.toList_none, List.cons_append, List.nil_append, fk_b_0, nI_add, Nat.add_zero, Nat.zero_add, not_true_eq_false, not_false_eq_true, if_true, if_false, sI_le_t, sI_le_f, sI_lt_t, sI_lt_f, sI_eq_t, sI_eq_f, sI_rem, sI_div, sI_m1a, sI_m1b, sI_m1c, sI_m1d, sI_m1e, sI_m1f, sI_m2a, sI_m2b, sI_sub, pk_mul, sI_dec, fk_u_s, fk_u_o, sI_dec0, sI_z, sI_md, Bool.false_eq_true, Nat.reduceAdd, Nat.reduceMul, Nat.reduceSub, Nat.reduceMod, Nat.reduceDiv]
end C6
