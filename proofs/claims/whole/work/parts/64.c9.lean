section C9
variable {N : Nat} {v y y0 : Nat → Nat → Int32} {l : Nat → Nat → Int64} {d p c n H m : Nat} {T A : Nat → Int32} {b0 : Int32} {W : Int32 → (Nat → Int32) → Int32} {s : ab_S}
set_option maxRecDepth 10000 in
theorem ck_die1 (hL : ck_LC W c y0) (hp : ck_pp p) (hq2 : y0 238 2 = nI p) (hq3 : y0 238 3 = nI c) (hs : ck_cs y0 p c T b0 n y s) (ho : ab_ok v n H s.1) {j : Nat} (hj : j < n) (ha : ab_at s.1 j) {x : Value} : ∃ x' y', fk_ev (d + 2) qX6_die 2 [.ref 238, .int (nI j), x] [] (fk_E N y l) = fk_ev (d + 2) qX6_die 2 [.ref 238, .int (nI (j + 1)), x'] [] (fk_E N y' l) ∧ ck_cs y0 p c T b0 n y' (ab_di1 W n j (fk_w s.1 834 (ab_lot (s.1 834))), s.2) := by
  obtain ⟨h8, c0, c1, h24, s24, h20, s20, p1, p2⟩ := ck_pp_at hp
  have hp' : p = 33 ∨ p = 100 ∨ p = 167 := hp
  have hn := ho.1
  have hc := hL.1
  have hlaw := fk_at_law hc
  have hh := ck_pp_h hp (show j < 64 by omega)
  obtain ⟨x0, hx, ex⟩ := ho.2.2.2.2.1
  obtain ⟨o, ho4, eo⟩ := (ho.2.2.2.2.2.1 j hj).1
  have e2 : y 238 2 = nI p := by rw [hs.2.2.2.2.1 2 (by omega) (by omega)]; exact hq2
  have eb : y p 2 = nI n := hs.1.1.1.trans ho.2.1
  have e4 : y p 4 = nI x0 := hs.1.1.2.2.1.trans ex
  obtain ⟨a1, a2, a3, a4, a5, a6, _⟩ := id (hs.1.2.2.1 j (by omega) (by rw [ab_ok_n ho]; exact hj))
  have hA := mX8_isAtPlaceN (N := N) (l := l) (d := d) (P := s.1 (192 + j) = nI 1) hp hn eb hj a4
  rw [a6] at hA
  have hlot : ab_lot (s.1 834) = nI ((25173 * x0 + 13849) % 65536) := by
    unfold ab_lot
    rw [ex, nI_clamp (by omega)]
  have hD := mX8_draw (N := N) (l := l) (d := d + 1) hp hx e4
  rw [hlot]
  generalize hz : (25173 * x0 + 13849) % 65536 = z at hD
  have hz2 : z < 65536 := by omega
  have r1 := ck_cs_lot (z := z) hp hs hn (ab_ok_n ho)
  have o1 : ab_ok v n H (fk_w s.1 834 (nI z)) := ab_ok_lot ho hz2
  have eo1 : (fk_w s.1 834 (nI z)) j = nI o := by rw [fk_w_o (by omega)]; exact eo
  have l1 : (fk_w s.1 834 (nI z)) (192 + j) = nI 1 := by rw [fk_w_o (by omega)]; exact ha.1
  have hzz : ((fk_w s.1 834 (nI z)) 834).toNatClampNeg = z := by rw [fk_w_s, nI_clamp (by omega)]
  generalize fk_w s.1 834 (nI z) = A1 at r1 o1 eo1 l1 hzz ⊢
  obtain ⟨y2, e2', k2⟩ := ck_ask (N := N) (l := l) (d := d) (a := nI 120) (h := nI 10) hL hp r1 hn o1 hj eo1 ho4 (by simp) (by decide)
  have r2 := ck_cs_k r1 hp hn k2 hc
  dsimp only at e2'
  generalize eY : fk_u y p 4 (nI z) = Y at r1 hD e2'
  have F1 : Y 238 2 = nI p := by rw [r1.2.2.2.2.1 2 (by omega) (by omega)]; exact hq2
  have F2 : Y 238 3 = nI c := by rw [r1.2.2.2.2.1 3 (by omega) (by omega)]; exact hq3
  have F3 : Y (p + 3 + j) 1 = nI o := by rw [(r1.1.2.2.1 j (by omega) (by rw [ab_ok_n o1]; exact hj)).1]; exact eo1
  have G1 : y2 238 2 = nI p := by rw [r2.2.2.2.2.1 2 (by omega) (by omega)]; exact hq2
  unfold ab_di1
  rw [hzz]
  have start : fk_ev (d + 2) qX6_die 2 [.ref 238, .int (nI j), x] [] (fk_E N y l) = fk_ev (d + 2) qX6_die 61 [.ref 238, .int (nI j), .int (nI (z % 10))] [.int (ab_cl (nI 10) (W (nI 120) (ab_fe A1 j))), .int (nI (z % 10))] (fk_E N y2 l) := by
    rw [hX6_die_2]
    have st2 : fk_ev (d + 2) qX6_die 61 [.ref 238, .int (nI j), .int (nI (z % 10))] [.int (ab_cl (nI 10) (W (nI 120) (ab_fe A1 j))), .int (nI (z % 10))] (fk_E N y2 l) = ((fk_ev (d + 1) qX3_value 0 [.ref c, .int (nI 120), .int (nI 10), .ref 239, .null] [] (fk_E N (ck_sp Y p (p + 3 + j) o) l)).bind fun q => fk_ev (d + 2) qX6_die 61 [.ref 238, .int (nI j), .int (nI (z % 10))] (q.1.toList ++ [.int (nI (z % 10))]) q.2) := by
      rw [e2']
      rfl
    rw [st2]
    clear st2 e2' k2 r2 G1
    simp (disch := first | assumption | omega) only [rX6_die, e2, nI_clamp, eb, hA, ha.1, ha.2, and_self, hD, c0, ck_p3 (p := p), F1, F2, mX6_speakOf hp F1 hh (show p + 3 + j ≠ 239 by omega) F3 ho4, ck_sp_o, Option.bind_some, Option.toList_some, Option.toList_none, List.cons_append, List.nil_append, fk_b_0, nI_add, Nat.add_zero, Nat.zero_add, not_true_eq_false, not_false_eq_true, if_true, if_false, sI_le_t, sI_le_f, sI_lt_t, sI_lt_f, sI_eq_t, sI_eq_f, sI_rem, sI_div, sI_m1a, sI_m1b, sI_m1c, sI_m1d, sI_m1e, sI_m1f, sI_m2a, sI_m2b, sI_sub, pk_mul, sI_dec, fk_u_s, fk_u_o, sI_dec0, sI_z, sI_md, Bool.false_eq_true, Nat.reduceAdd, Nat.reduceMul, Nat.reduceSub, Nat.reduceMod, Nat.reduceDiv]
  by_cases x1 : ab_cl (nI 10) (W (nI 120) (ab_fe A1 j)) ≤ nI (z % 10)
  · rw [if_pos x1]
    refine ⟨.int (nI (z % 10)), y2, ?_, r2⟩
    rw [start]
    simp (disch := first | assumption | omega) only [rX6_die, x1, Option.bind_some, Option.toList_some, Option.toList_none, List.cons_append, List.nil_append, fk_b_0, nI_add, Nat.add_zero, Nat.zero_add, not_true_eq_false, not_false_eq_true, if_true, if_false, sI_le_t, sI_le_f, sI_lt_t, sI_lt_f, sI_eq_t, sI_eq_f, sI_rem, sI_div, sI_m1a, sI_m1b, sI_m1c, sI_m1d, sI_m1e, sI_m1f, sI_m2a, sI_m2b, sI_sub, pk_mul, sI_dec, fk_u_s, fk_u_o, sI_dec0, sI_z, sI_md, Bool.false_eq_true, Nat.reduceAdd, Nat.reduceMul, Nat.reduceSub, Nat.reduceMod, Nat.reduceDiv]
  · rw [if_neg x1]
    obtain ⟨y3, e3, r3⟩ := mX8_bury (N := N) (l := l) (d := d + 1) hp hc r2 o1 hj l1
    refine ⟨.int (nI (z % 10)), y3, ?_, r3⟩
    rw [start]
    simp (disch := first | assumption | omega) only [rX6_die, x1, G1, nI_clamp, c0, ck_p3 (p := p), e3, Option.bind_some, Option.toList_some, Option.toList_none, List.cons_append, List.nil_append, fk_b_0, nI_add, Nat.add_zero, Nat.zero_add, not_true_eq_false, not_false_eq_true, if_true, if_false, sI_le_t, sI_le_f, sI_lt_t, sI_lt_f, sI_eq_t, sI_eq_f, sI_rem, sI_div, sI_m1a, sI_m1b, sI_m1c, sI_m1d, sI_m1e, sI_m1f, sI_m2a, sI_m2b, sI_sub, pk_mul, sI_dec, fk_u_s, fk_u_o, sI_dec0, sI_z, sI_md, Bool.false_eq_true, Nat.reduceAdd, Nat.reduceMul, Nat.reduceSub, Nat.reduceMod, Nat.reduceDiv]
theorem mX6_die (hL : ck_LC W c y0) (hp : ck_pp p) (hq2 : y0 238 2 = nI p) (hq3 : y0 238 3 = nI c) (hs : ck_cs y0 p c T b0 n y s) (ho : ab_ok v n H s.1) {nd : Prop} [Decidable nd] (hnd : ¬ nd) : ∃ y', fk_ev (d + 2) qX6_die 0 [.ref 238, .null, .null] [] (fk_E N y l) = some (none, fk_E N y' l) ∧ ck_cs y0 p c T b0 n y' (ab_p5 W nd s) ∧ ab_ok v n H (ab_p5 W nd s).1 := by
  obtain ⟨h8, c0, c1, h24, s24, h20, s20, p1, p2⟩ := ck_pp_at hp
  have hn := ho.1
  unfold ab_p5
  rw [ab_ok_n ho]
  have key := fk_loopr (σ := Value × (Nat → Nat → Int32)) (fun k t => fk_ev (d + 2) qX6_die 2 [.ref 238, .int (nI k), t.1] [] (fk_E N t.2 l)) (fun k t => ck_cs y0 p c T b0 n t.2 (fk_it (ab_di W nd n) 0 k s) ∧ ab_ok v n H (fk_it (ab_di W nd n) 0 k s).1) n (by
    rintro k ⟨x, t⟩ hk ⟨i1, i2⟩
    dsimp only at i1 i2 ⊢
    have i2' := ab_ok_di (W := W) (nd := nd) i2 hk
    rw [fk_it_succ, Nat.zero_add]
    generalize fk_it (ab_di W nd n) 0 k s = z at i1 i2 i2' ⊢
    by_cases c1' : ab_at z.1 k
    · unfold ab_di at i2' ⊢
      rw [if_pos ⟨c1', hnd⟩] at i2' ⊢
      obtain ⟨x', y', e, r⟩ := ck_die1 (N := N) (l := l) (d := d) (x := x) hL hp hq2 hq3 i1 i2 hk c1'
      exact ⟨(x', y'), e, r, i2'⟩
    · unfold ab_di at i2' ⊢
      rw [if_neg (fun q => c1' q.1)] at i2' ⊢
      refine ⟨(x, t), ?_, i1, i2⟩
      have e2 : t 238 2 = nI p := by rw [i1.2.2.2.2.1 2 (by omega) (by omega)]; exact hq2
      have eb : t p 2 = nI n := i1.1.1.1.trans i2.2.1
      obtain ⟨a1, a2, a3, a4, a5, a6, _⟩ := id (i1.1.2.2.1 k (by omega) (by rw [ab_ok_n i2]; exact hk))
      have hA := mX8_isAtPlaceN (N := N) (l := l) (d := d) (P := z.1 (192 + k) = nI 1) hp hn eb hk a4
      rw [a6] at hA
      have c1n : ¬ (z.1 (192 + k) = nI 1 ∧ nI 0 ≤ z.1 (320 + k)) := c1'
      rw [hX6_die_2]
      simp (disch := first | assumption | omega) only [rX6_die, e2, nI_clamp, eb, hA, c1n, Option.bind_some, Option.toList_some, Option.toList_none, List.cons_append, List.nil_append, fk_b_0, nI_add, Nat.add_zero, Nat.zero_add, not_true_eq_false, not_false_eq_true, if_true, if_false, sI_le_t, sI_le_f, sI_lt_t, sI_lt_f, sI_eq_t, sI_eq_f, sI_rem, sI_div, sI_m1a, sI_m1b, sI_m1c, sI_m1d, sI_m1e, sI_m1f, sI_m2a, sI_m2b, sI_sub, pk_mul, sI_dec, fk_u_s, fk_u_o, sI_dec0, sI_z, sI_md, Bool.false_eq_true, Nat.reduceAdd, Nat.reduceMul, Nat.reduceSub, Nat.reduceMod, Nat.reduceDiv]) n 0 (.null, y) (Nat.zero_add n) ⟨hs, ho⟩
  obtain ⟨⟨x', y'⟩, e, i1, i2⟩ := key
  dsimp only at e i1 i2
  refine ⟨y', ?_, i1, i2⟩
  have e2 : y' 238 2 = nI p := by rw [i1.2.2.2.2.1 2 (by omega) (by omega)]; exact hq2
  have eb : y' p 2 = nI n := i1.1.1.1.trans i2.2.1
  simp (disch := first | assumption | omega) only [rX6_die, Option.bind_some, Option.toList_some, Option.toList_none, List.cons_append, List.nil_append, fk_b_0, nI_add, Nat.add_zero, Nat.zero_add, not_true_eq_false, not_false_eq_true, if_true, if_false, sI_le_t, sI_le_f, sI_lt_t, sI_lt_f, sI_eq_t, sI_eq_f, sI_rem, sI_div, sI_m1a, sI_m1b, sI_m1c, sI_m1d, sI_m1e, sI_m1f, sI_m2a, sI_m2b, sI_sub, pk_mul, sI_dec, fk_u_s, fk_u_o, sI_dec0, sI_z, sI_md, Bool.false_eq_true, Nat.reduceAdd, Nat.reduceMul, Nat.reduceSub, Nat.reduceMod, Nat.reduceDiv]
  rw [e, hX6_die_2]
  simp (disch := first | assumption | omega) only [rX6_die, e2, nI_clamp, eb, Option.bind_some, Option.toList_some, Option.toList_none, List.cons_append, List.nil_append, fk_b_0, nI_add, Nat.add_zero, Nat.zero_add, not_true_eq_false, not_false_eq_true, if_true, if_false, sI_le_t, sI_le_f, sI_lt_t, sI_lt_f, sI_eq_t, sI_eq_f, sI_rem, sI_div, sI_m1a, sI_m1b, sI_m1c, sI_m1d, sI_m1e, sI_m1f, sI_m2a, sI_m2b, sI_sub, pk_mul, sI_dec, fk_u_s, fk_u_o, sI_dec0, sI_z, sI_md, Bool.false_eq_true, Nat.reduceAdd, Nat.reduceMul, Nat.reduceSub, Nat.reduceMod, Nat.reduceDiv]
theorem ab_p5_nd {nd : Prop} [Decidable nd] (h : nd) : ab_p5 W nd s = s := by
  unfold ab_p5
  have : ∀ k j, fk_it (ab_di W nd (ab_n s.1)) j k s = s := by
    intro k
    induction k with
    | zero => intro j; rfl
    | succ k ih =>
      intro j
      show fk_it (ab_di W nd (ab_n s.1)) (j + 1) k (ab_di W nd (ab_n s.1) j s) = s
      rw [show ab_di W nd (ab_n s.1) j s = s from if_neg fun z => z.2 h]
      exact ih (j + 1)
  exact this _ 0
end C9
