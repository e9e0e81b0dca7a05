section C12
variable {N : Nat} {v y y0 : Nat → Nat → Int32} {l : Nat → Nat → Int64} {d p c n H m : Nat} {T A : Nat → Int32} {b0 : Int32} {W : Int32 → (Nat → Int32) → Int32} {s : ab_S}
theorem ab_bk_best {G : Nat → Int32} {x : Int32} : ab_bk G x 32 = ab_best G x := rfl
/-- from the inner loop's end to the next half -/
theorem ck_set1 (hL : ck_LC W c y0) (hv : ab_rv v) (hN : ck_nt v y0) (hp : ck_pp p) (hq2 : y0 238 2 = nI p) (hq3 : y0 238 3 = nI c) (hs : ck_cs y0 p c T b0 0 y s) (ho : ab_ok v n H s.1) {j : Nat} (hj : j < n) (ha : ab_at s.1 j) (hw : s.1 (512 + j) = nI 0) {x1 x9 : Value} : ∃ x4 x5 x6 x7 x8 x9' y', fk_ev (d + 3) qX6_setOut 61 [.ref 238, x1, .int (nI j), .ref (p + 3 + j), .int (ab_best (ab_G v W s.1 j) (-1)).1, .int (ab_best (ab_G v W s.1 j) (ab_best (ab_G v W s.1 j) (-1)).1).1, .int (ab_best (ab_G v W s.1 j) (-1)).2, .int (ab_best (ab_G v W s.1 j) (ab_best (ab_G v W s.1 j) (-1)).1).2, .int (nI 32), x9] [] (fk_E N y l) = fk_ev (d + 3) qX6_setOut 10 [.ref 238, x1, .int (nI (j + 1)), .ref (p + 3 + j), x4, x5, x6, x7, x8, x9'] [] (fk_E N y' l) ∧ ck_cs y0 p c T b0 0 y' (ab_lv1 v W (y0 238 4) (y0 238 5) j (ab_best (ab_G v W s.1 j) (-1)) (ab_best (ab_G v W s.1 j) (ab_best (ab_G v W s.1 j) (-1)).1) s) := by
  obtain ⟨h8, c0, c1, h24, s24, h20, s20, p1, p2⟩ := ck_pp_at hp
  have hp' : p = 33 ∨ p = 100 ∨ p = 167 := hp
  have hn := ho.1
  have hc := hL.1
  have hh := ck_pp_h hp (show j < 64 by omega)
  obtain ⟨o, ho4, eo⟩ := (ho.2.2.2.2.2.1 j hj).1
  have hNn := ab_ok_n ho
  have hGr : ∀ r, nI 0 < ab_G v W s.1 j r → fk_tb (v 246 3) r = true := fun r h => (ab_G_rd h).1
  generalize ab_G v W s.1 j = G at hGr ⊢
  have e2 : y 238 2 = nI p := by rw [hs.2.2.2.2.1 2 (by omega) (by omega)]; exact hq2
  have eb : y p 2 = nI n := hs.1.1.1.trans ho.2.1
  obtain ⟨a1, a2, a3, a4, a5, a6, a7, a8, a9, a10, a11, a12, a13⟩ := id (hs.1.2.2.1 j (by omega) (by rw [ab_ok_n ho]; exact hj))
  rw [hX6_setOut_61]
  unfold ab_lv1
  rcases ab_best_is (G := G) (x := (-1)) with ⟨hb, hbb⟩ | ⟨r, hr, hb, hb2, hpos, _⟩
  · have hall := ab_bk_none (G := G) 32 (by omega) hb
    have hb3 : (ab_best G (-1)).1 = (-1) := hb
    rw [if_pos hb, hb3]
    rcases ab_best_is (G := G) (x := (-1)) with ⟨hc1, _⟩ | ⟨q, hq, _, _, hcpos, _⟩
    · refine ⟨.int (-1), .int (-1), .int (ab_best G (-1)).2, .int (ab_best G (-1)).2, .int (nI 0), x9, y, ?_, hs⟩
      rw [hc1]
      simp (disch := first | assumption | omega) only [rX6_setOut, show ((-1 : Int32) < nI 0) = True from eq_true (by decide), Option.bind_some, Option.toList_some, Option.toList_none, List.cons_append, List.nil_append, fk_b_0, nI_add, Nat.add_zero, Nat.zero_add, not_true_eq_false, not_false_eq_true, if_true, if_false, sI_le_t, sI_le_f, sI_lt_t, sI_lt_f, sI_eq_t, sI_eq_f, sI_rem, sI_div, sI_m1a, sI_m1b, sI_m1c, sI_m1d, sI_m1e, sI_m1f, sI_m2a, sI_m2b, sI_sub, pk_mul, sI_dec, fk_u_s, fk_u_o, sI_dec0, sI_z, sI_md, Bool.false_eq_true, Nat.reduceAdd, Nat.reduceMul, Nat.reduceSub, Nat.reduceMod, Nat.reduceDiv]
    · exact absurd hcpos (hall q hq)
  · rw [hb, if_neg (by rw [sI_m1a (by omega)]; exact id)]
    have htr := hGr r hpos
    rcases ab_best_is (G := G) (x := nI r) with ⟨hc1, hc2⟩ | ⟨q, hq, hc1, hc2, hcpos, _⟩
    · rw [hc1, if_neg (fun z => z.1.1 rfl), if_neg (fun z => z.1.1 rfl)]
      obtain ⟨f1, f2⟩ := ck_cs_st hN hp hc hs ho hj hr htr
      refine ⟨.int (nI r), .int (-1), .int (ab_best G (-1)).2, .int (ab_best G (nI r)).2, .int (nI 0), x9, _, ?_, f2⟩
      simp (disch := first | assumption | omega) only [rX6_setOut, show ((-1 : Int32) < nI 0) = True from eq_true (by decide), f1, mX0_goOn, Option.bind_some, Option.toList_some, Option.toList_none, List.cons_append, List.nil_append, fk_b_0, nI_add, Nat.add_zero, Nat.zero_add, not_true_eq_false, not_false_eq_true, if_true, if_false, sI_le_t, sI_le_f, sI_lt_t, sI_lt_f, sI_eq_t, sI_eq_f, sI_rem, sI_div, sI_m1a, sI_m1b, sI_m1c, sI_m1d, sI_m1e, sI_m1f, sI_m2a, sI_m2b, sI_sub, pk_mul, sI_dec, fk_u_s, fk_u_o, sI_dec0, sI_z, sI_md, Bool.false_eq_true, Nat.reduceAdd, Nat.reduceMul, Nat.reduceSub, Nat.reduceMod, Nat.reduceDiv]
    · have htq := hGr q hcpos
      rw [hc1]
      by_cases z2 : n < 64
      · by_cases z3 : s.1 (256 + j) ≤ nI 1
        · have no : ¬ ab_can s.1 j (nI q) := fun z => absurd z.2.2 (Int32.not_lt.mpr z3)
          rw [if_neg (fun z => no z.1), if_neg (fun z => no z.1)]
          obtain ⟨f1, f2⟩ := ck_cs_st hN hp hc hs ho hj hr htr
          refine ⟨.int (nI r), .int (nI q), .int (ab_best G (-1)).2, .int (ab_best G (nI r)).2, .int (nI 0), x9, _, ?_, f2⟩
          simp (disch := first | assumption | omega) only [rX6_setOut, e2, nI_clamp, eb, a5, z3, f1, mX0_goOn, Option.bind_some, Option.toList_some, Option.toList_none, List.cons_append, List.nil_append, fk_b_0, nI_add, Nat.add_zero, Nat.zero_add, not_true_eq_false, not_false_eq_true, if_true, if_false, sI_le_t, sI_le_f, sI_lt_t, sI_lt_f, sI_eq_t, sI_eq_f, sI_rem, sI_div, sI_m1a, sI_m1b, sI_m1c, sI_m1d, sI_m1e, sI_m1f, sI_m2a, sI_m2b, sI_sub, pk_mul, sI_dec, fk_u_s, fk_u_o, sI_dec0, sI_z, sI_md, Bool.false_eq_true, Nat.reduceAdd, Nat.reduceMul, Nat.reduceSub, Nat.reduceMod, Nat.reduceDiv]
        · have can : ab_can s.1 j (nI q) := ⟨by rw [sI_m1a (by omega)]; exact id, by rw [hNn]; exact z2, Int32.not_le.mp z3⟩
          obtain ⟨y5, e5, r5⟩ := mX6_doubt (N := N) (l := l) (d := d) hL hp hq2 hq3 hs ho hj ha
          have E2 : y5 238 2 = nI p := by rw [r5.2.2.2.2.1 2 (by omega) (by omega)]; exact hq2
          have ask : (if ab_can s.1 j (nI q) ∧ s.1 j = y0 238 4 then s.2.2.2 ||| nI 1 <<< (s.1 (320 + j) &&& 31) else s.2.2.2) = (if s.1 j = y0 238 4 then s.2.2.2 ||| nI 1 <<< (s.1 (320 + j) &&& 31) else s.2.2.2) := by
            by_cases h : s.1 j = y0 238 4
            · rw [if_pos ⟨can, h⟩, if_pos h]
            · rw [if_neg (fun z => h z.2), if_neg h]
          rw [ask]
          generalize (if s.1 j = y0 238 4 then s.2.2.2 ||| nI 1 <<< (s.1 (320 + j) &&& 31) else s.2.2.2) = ask' at r5 ⊢
          by_cases z1 : (ab_best G (-1)).2 - (ab_best G (nI r)).2 ≤ ab_dt W (y0 238 4) (y0 238 5) s.1 j
          · rw [if_pos ⟨can, z1⟩]
            have z1' := Int32.not_lt.mpr z1
            have B5 := r5.1.2.2.1 j (by omega) (by dsimp only; omega)
            have B14 := r5.1.2.2.2.1 j (by omega) (by dsimp only; omega)
            have eo5 : y5 (p + 3 + j) 1 = nI o := by rw [B5.1]; exact eo
            have b4 : y5 (p + 3 + j) 4 = nI 0 ∨ y5 (p + 3 + j) 4 = nI 1 := by rw [B5.2.2.2.1]; exact fk_b_01
            have eb5 : y5 p 2 = nI n := r5.1.1.1.trans ho.2.1
            have r6 := ck_cs_pt (v := v) (s := (s.1, s.2.1, s.2.2.1, ask')) (q := q) hp hc r5 ho hj z2 ha.1 hw eo ho4 hq
            have o6 := ab_ok_pt hv ho hj z2 can.2.2 ha.1 hq htq
            obtain ⟨f1, f2⟩ := ck_cs_st hN hp hc r6 o6 (show j < n + 1 by omega) hr htr
            have f21 : y5 21 q = v 252 q := (ck_cs_st hN hp hc r5 ho hj hq htq).1
            refine ⟨.int (nI r), .int (nI q), .int (ab_best G (-1)).2, .int (ab_best G (nI r)).2, .int (nI 1), x9, _, ?_, f2⟩
            simp (disch := first | assumption | omega) only [rX6_setOut, e2, nI_clamp, eb, a5, z3, e5, z1', E2, f21, mX8_part hp z2 hj eb5 eo5 ho4 b4 B14, f1, mX0_goOn, Option.bind_some, Option.toList_some, Option.toList_none, List.cons_append, List.nil_append, fk_b_0, nI_add, Nat.add_zero, Nat.zero_add, not_true_eq_false, not_false_eq_true, if_true, if_false, sI_le_t, sI_le_f, sI_lt_t, sI_lt_f, sI_eq_t, sI_eq_f, sI_rem, sI_div, sI_m1a, sI_m1b, sI_m1c, sI_m1d, sI_m1e, sI_m1f, sI_m2a, sI_m2b, sI_sub, pk_mul, sI_dec, fk_u_s, fk_u_o, sI_dec0, sI_z, sI_md, Bool.false_eq_true, Nat.reduceAdd, Nat.reduceMul, Nat.reduceSub, Nat.reduceMod, Nat.reduceDiv]
          · rw [if_neg (fun z => z1 z.2)]
            have z1' := Int32.not_le.mp z1
            obtain ⟨f1, f2⟩ := ck_cs_st (s := (s.1, s.2.1, s.2.2.1, ask')) hN hp hc r5 ho hj hr htr
            refine ⟨.int (nI r), .int (nI q), .int (ab_best G (-1)).2, .int (ab_best G (nI r)).2, .int (nI 1), x9, _, ?_, f2⟩
            simp (disch := first | assumption | omega) only [rX6_setOut, e2, nI_clamp, eb, a5, z3, e5, z1', f1, mX0_goOn, Option.bind_some, Option.toList_some, Option.toList_none, List.cons_append, List.nil_append, fk_b_0, nI_add, Nat.add_zero, Nat.zero_add, not_true_eq_false, not_false_eq_true, if_true, if_false, sI_le_t, sI_le_f, sI_lt_t, sI_lt_f, sI_eq_t, sI_eq_f, sI_rem, sI_div, sI_m1a, sI_m1b, sI_m1c, sI_m1d, sI_m1e, sI_m1f, sI_m2a, sI_m2b, sI_sub, pk_mul, sI_dec, fk_u_s, fk_u_o, sI_dec0, sI_z, sI_md, Bool.false_eq_true, Nat.reduceAdd, Nat.reduceMul, Nat.reduceSub, Nat.reduceMod, Nat.reduceDiv]
      · have no : ¬ ab_can s.1 j (nI q) := fun z => z2 (by have := z.2.1; rw [hNn] at this; exact this)
        rw [if_neg (fun z => no z.1), if_neg (fun z => no z.1)]
        obtain ⟨f1, f2⟩ := ck_cs_st hN hp hc hs ho hj hr htr
        refine ⟨.int (nI r), .int (nI q), .int (ab_best G (-1)).2, .int (ab_best G (nI r)).2, .int (nI 0), x9, _, ?_, f2⟩
        simp (disch := first | assumption | omega) only [rX6_setOut, e2, nI_clamp, eb, f1, mX0_goOn, Option.bind_some, Option.toList_some, Option.toList_none, List.cons_append, List.nil_append, fk_b_0, nI_add, Nat.add_zero, Nat.zero_add, not_true_eq_false, not_false_eq_true, if_true, if_false, sI_le_t, sI_le_f, sI_lt_t, sI_lt_f, sI_eq_t, sI_eq_f, sI_rem, sI_div, sI_m1a, sI_m1b, sI_m1c, sI_m1d, sI_m1e, sI_m1f, sI_m2a, sI_m2b, sI_sub, pk_mul, sI_dec, fk_u_s, fk_u_o, sI_dec0, sI_z, sI_md, Bool.false_eq_true, Nat.reduceAdd, Nat.reduceMul, Nat.reduceSub, Nat.reduceMod, Nat.reduceDiv]
theorem mX6_setOut (hL : ck_LC W c y0) (hv : ab_rv v) (hN : ck_nt v y0) (hp : ck_pp p) (hq2 : y0 238 2 = nI p) (hq3 : y0 238 3 = nI c) (hs : ck_cs y0 p c T b0 0 y s) (ho : ab_ok v n H s.1) : ∃ y', fk_ev (d + 3) qX6_setOut 0 [.ref 238, .null, .null, .null, .null, .null, .null, .null, .null, .null] [] (fk_E N y l) = some (none, fk_E N y' l) ∧ ck_cs y0 p c T b0 0 y' (ab_p6 v W (y0 238 4) (y0 238 5) s) ∧ ab_p6I v n H (ab_p6 v W (y0 238 4) (y0 238 5) s) := by
  obtain ⟨h8, c0, c1, h24, s24, h20, s20, p1, p2⟩ := ck_pp_at hp
  have hn := ho.1
  unfold ab_p6
  rw [ab_ok_n ho]
  have key := fk_loopr (σ := (Value × Value × Value × Value × Value × Value × Value) × (Nat → Nat → Int32)) (fun k t => fk_ev (d + 3) qX6_setOut 10 [.ref 238, .int (nI n), .int (nI k), t.1.1, t.1.2.1, t.1.2.2.1, t.1.2.2.2.1, t.1.2.2.2.2.1, t.1.2.2.2.2.2.1, t.1.2.2.2.2.2.2] [] (fk_E N t.2 l)) (fun k t => ck_cs y0 p c T b0 0 t.2 (fk_it (ab_lv v W (y0 238 4) (y0 238 5)) 0 k s) ∧ ab_p6I v n H (fk_it (ab_lv v W (y0 238 4) (y0 238 5)) 0 k s)) n (by
    rintro k ⟨⟨w3, w4, w5, w6, w7, w8, w9⟩, t⟩ hk ⟨i1, i2⟩
    dsimp only at i1 i2 ⊢
    have i2' := ab_p6_step (W := W) (po := y0 238 4) (ps := y0 238 5) hv hk i2
    rw [fk_it_succ, Nat.zero_add]
    generalize fk_it (ab_lv v W (y0 238 4) (y0 238 5)) 0 k s = z at i1 i2 i2' ⊢
    obtain ⟨m, hnm, om, _⟩ := i2
    have hmn := om.1
    have hkm : k < m := by omega
    have e2 : t 238 2 = nI p := by rw [i1.2.2.2.2.1 2 (by omega) (by omega)]; exact hq2
    have eb : t p 2 = nI m := i1.1.1.1.trans om.2.1
    have hh := ck_pp_h hp (show k < 64 by omega)
    obtain ⟨a1, a2, a3, a4, a5, a6, a7, a8, a9, _⟩ := id (i1.1.2.2.1 k (by omega) (by rw [ab_ok_n om]; exact hkm))
    have hA := mX8_isAtPlaceN (N := N) (l := l) (d := d + 1) (P := z.1 (192 + k) = nI 1) hp hmn eb hkm a4
    rw [a6] at hA
    rw [hX6_setOut_10]
    unfold ab_lv at i2' ⊢
    by_cases c1' : ab_at z.1 k
    · by_cases c2 : z.1 (512 + k) = nI 0
      · rw [if_pos ⟨c1', c2⟩] at i2' ⊢
        obtain ⟨x9, y1, e, r⟩ := ck_two (N := N) (l := l) (d := d) (x1 := .int (nI n)) (x9 := w9) hL hv hN hp hq2 hq3 i1 om hkm c1'
        rw [ab_bk_best, ab_bk_best] at e
        obtain ⟨x4, x5, x6, x7, x8, x9', y', e', r'⟩ := ck_set1 (N := N) (l := l) (d := d) (x1 := .int (nI n)) (x9 := x9) hL hv hN hp hq2 hq3 r om hkm c1' c2
        refine ⟨((.ref (p + 3 + k), x4, x5, x6, x7, x8, x9'), y'), ?_, r', i2'⟩
        dsimp only
        rw [← e', ← e]
        clear e e' r'
        have a9' : t (p + 3 + k) 9 = nI 0 := by rw [a9]; exact c2
        simp (disch := first | assumption | omega) only [rX6_setOut, e2, nI_clamp, c0, ck_p3 (p := p), hA, c1'.1, c1'.2, and_self, a9', Option.bind_some, Option.toList_some, Option.toList_none, List.cons_append, List.nil_append, fk_b_0, nI_add, Nat.add_zero, Nat.zero_add, not_true_eq_false, not_false_eq_true, if_true, if_false, sI_le_t, sI_le_f, sI_lt_t, sI_lt_f, sI_eq_t, sI_eq_f, sI_rem, sI_div, sI_m1a, sI_m1b, sI_m1c, sI_m1d, sI_m1e, sI_m1f, sI_m2a, sI_m2b, sI_sub, pk_mul, sI_dec, fk_u_s, fk_u_o, sI_dec0, sI_z, sI_md, Bool.false_eq_true, Nat.reduceAdd, Nat.reduceMul, Nat.reduceSub, Nat.reduceMod, Nat.reduceDiv]
      · rw [if_neg (fun q => c2 q.2)] at i2' ⊢
        refine ⟨((.ref (p + 3 + k), w4, w5, w6, w7, w8, w9), t), ?_, i1, i2'⟩
        obtain ⟨w, hw, ew⟩ := (om.2.2.2.2.2.1 k hkm).2.2.2.2.2.1
        have w0 : 0 < w := by
          rcases Nat.eq_zero_or_pos w with h | h
          · subst h; exact absurd ew c2
          · exact h
        have a9' : t (p + 3 + k) 9 = nI w := by rw [a9]; exact ew
        simp (disch := first | assumption | omega) only [rX6_setOut, e2, nI_clamp, c0, ck_p3 (p := p), hA, c1'.1, c1'.2, and_self, a9', Option.bind_some, Option.toList_some, Option.toList_none, List.cons_append, List.nil_append, fk_b_0, nI_add, Nat.add_zero, Nat.zero_add, not_true_eq_false, not_false_eq_true, if_true, if_false, sI_le_t, sI_le_f, sI_lt_t, sI_lt_f, sI_eq_t, sI_eq_f, sI_rem, sI_div, sI_m1a, sI_m1b, sI_m1c, sI_m1d, sI_m1e, sI_m1f, sI_m2a, sI_m2b, sI_sub, pk_mul, sI_dec, fk_u_s, fk_u_o, sI_dec0, sI_z, sI_md, Bool.false_eq_true, Nat.reduceAdd, Nat.reduceMul, Nat.reduceSub, Nat.reduceMod, Nat.reduceDiv]
    · rw [if_neg (fun q => c1' q.1)] at i2' ⊢
      refine ⟨((.ref (p + 3 + k), w4, w5, w6, w7, w8, w9), t), ?_, i1, i2'⟩
      have c1n : ¬ (z.1 (192 + k) = nI 1 ∧ nI 0 ≤ z.1 (320 + k)) := c1'
      simp (disch := first | assumption | omega) only [rX6_setOut, e2, nI_clamp, c0, ck_p3 (p := p), hA, c1n, Option.bind_some, Option.toList_some, Option.toList_none, List.cons_append, List.nil_append, fk_b_0, nI_add, Nat.add_zero, Nat.zero_add, not_true_eq_false, not_false_eq_true, if_true, if_false, sI_le_t, sI_le_f, sI_lt_t, sI_lt_f, sI_eq_t, sI_eq_f, sI_rem, sI_div, sI_m1a, sI_m1b, sI_m1c, sI_m1d, sI_m1e, sI_m1f, sI_m2a, sI_m2b, sI_sub, pk_mul, sI_dec, fk_u_s, fk_u_o, sI_dec0, sI_z, sI_md, Bool.false_eq_true, Nat.reduceAdd, Nat.reduceMul, Nat.reduceSub, Nat.reduceMod, Nat.reduceDiv]) n 0 ((.null, .null, .null, .null, .null, .null, .null), y) (Nat.zero_add n) ⟨hs, n, Nat.le_refl _, ho, fun i h1 h2 => by omega⟩
  obtain ⟨⟨⟨w3, w4, w5, w6, w7, w8, w9⟩, y'⟩, e, i1, i2⟩ := key
  dsimp only at e i1 i2
  refine ⟨y', ?_, i1, i2⟩
  have e2 : y 238 2 = nI p := by rw [hs.2.2.2.2.1 2 (by omega) (by omega)]; exact hq2
  have eb : y p 2 = nI n := hs.1.1.1.trans ho.2.1
  simp (disch := first | assumption | omega) only [rX6_setOut, e2, nI_clamp, eb, Option.bind_some, Option.toList_some, Option.toList_none, List.cons_append, List.nil_append, fk_b_0, nI_add, Nat.add_zero, Nat.zero_add, not_true_eq_false, not_false_eq_true, if_true, if_false, sI_le_t, sI_le_f, sI_lt_t, sI_lt_f, sI_eq_t, sI_eq_f, sI_rem, sI_div, sI_m1a, sI_m1b, sI_m1c, sI_m1d, sI_m1e, sI_m1f, sI_m2a, sI_m2b, sI_sub, pk_mul, sI_dec, fk_u_s, fk_u_o, sI_dec0, sI_z, sI_md, Bool.false_eq_true, Nat.reduceAdd, Nat.reduceMul, Nat.reduceSub, Nat.reduceMod, Nat.reduceDiv]
  rw [e, hX6_setOut_10]
  simp (disch := first | assumption | omega) only [rX6_setOut, Option.bind_some, Option.toList_some, Option.toList_none, List.cons_append, List.nil_append, fk_b_0, nI_add, Nat.add_zero, Nat.zero_add, not_true_eq_false, not_false_eq_true, if_true, if_false, sI_le_t, sI_le_f, sI_lt_t, sI_lt_f, sI_eq_t, sI_eq_f, sI_rem, sI_div, sI_m1a, sI_m1b, sI_m1c, sI_m1d, sI_m1e, sI_m1f, sI_m2a, sI_m2b, sI_sub, pk_mul, sI_dec, fk_u_s, fk_u_o, sI_dec0, sI_z, sI_md, Bool.false_eq_true, Nat.reduceAdd, Nat.reduceMul, Nat.reduceSub, Nat.reduceMod, Nat.reduceDiv]
end C12
