section RH1
variable {N : Nat} {v y : Nat → Nat → Int32} {l : Nat → Nat → Int64} {d : Nat} {W : Int32 → (Nat → Int32) → Int32} {s : ab_S}
theorem mX12_isRoadN {r : Nat} (hr : r < 32) : fk_ev (d + 1) qX12_isRoad 0 [.ref 246, .int ((nI r))] [] (fk_E N y l) = some (some (.int ((fk_b (fk_tb (y 246 3) r = true)))), fk_E N y l) := by
  rw [mX12_isRoad]
  simp (disch := first | assumption | omega) only [fk_has1, true_and, Option.bind_some, Option.toList_some, Option.toList_none, List.cons_append, List.nil_append, fk_b_0, nI_add, Nat.add_zero, Nat.zero_add, not_true_eq_false, not_false_eq_true, if_true, if_false, sI_le_t, sI_le_f, sI_lt_t, sI_lt_f, sI_eq_t, sI_eq_f, sI_rem, sI_div, sI_m1a, sI_m1b, sI_m1c, sI_m1d, sI_m1e, sI_m1f, sI_m2a, sI_m2b, sI_sub, pk_mul, sI_dec, fk_u_s, fk_u_o, sI_dec0, sI_z, sI_md, Bool.false_eq_true, Nat.reduceAdd, Nat.reduceMul, Nat.reduceSub, Nat.reduceMod, Nat.reduceDiv]
theorem ab_best_is {G : Nat → Int32} {x : Int32} : ((ab_best G x).1 = (-1) ∧ (ab_best G x).2 = nI 0) ∨ ∃ r, r < 32 ∧ (ab_best G x).1 = nI r ∧ (ab_best G x).2 = G r ∧ nI 0 < G r ∧ nI r ≠ x := by
  unfold ab_best
  have h := fk_it_inv (f := fun r s => if nI r ≠ x ∧ s.2 < G r then (nI r, G r) else s) (fun (_ : Nat) (s : Int32 × Int32) => nI 0 ≤ s.2 ∧ ((s.1 = (-1) ∧ s.2 = nI 0) ∨ ∃ r, r < 32 ∧ s.1 = nI r ∧ s.2 = G r ∧ nI 0 < G r ∧ nI r ≠ x)) 32 (by
    intro j s hj hi
    by_cases hc : nI j ≠ x ∧ s.2 < G j
    · rw [if_pos hc]
      have h0 : nI 0 < G j := Int32.lt_of_le_of_lt hi.1 hc.2
      exact ⟨Int32.le_of_lt h0, Or.inr ⟨j, hj, rfl, rfl, h0, hc.1⟩⟩
    · rw [if_neg hc]
      exact hi) 32 0 ((-1 : Int32), nI 0) rfl ⟨Int32.le_rfl, Or.inl ⟨rfl, rfl⟩⟩
  exact h.2
theorem mX12_bestRoad (HW : fk_LR W v) (hs : fk_rs v y s) {j n : Nat} {x : Int32} (hj : j < 64) (hn : n ≤ 64) (hm : s.1 833 = nI n) : ∃ y', fk_ev (d + 5) qX12_bestRoad 0 [.ref 246, .int ((nI j)), .int x, .null, .null, .null, .null] [] (fk_E N y l) = some (some (.int ((ab_best (ab_G v W s.1 j) x).1)), fk_E N y' l) ∧ fk_rs v y' s := by
  have key := fk_loopr (σ := Int32 × Int32 × Value × (Nat → Nat → Int32)) (fun k t => fk_ev (d + 5) qX12_bestRoad 8 [.ref 246, .int (nI j), .int x, .int t.1, .int t.2.1, .int (nI k), t.2.2.1] [] (fk_E N t.2.2.2 l)) (fun k t => (t.1, t.2.1) = fk_it (fun r s1 => if nI r ≠ x ∧ s1.2 < ab_G v W s.1 j r then (nI r, ab_G v W s.1 j r) else s1) 0 k ((-1 : Int32), nI 0) ∧ nI 0 ≤ t.2.1 ∧ fk_rs v t.2.2.2 s) 32 (by
    rintro k ⟨b, m, c, yy⟩ hk ⟨i1, i2, i3⟩
    try dsimp only at i1 i2 i3 ⊢
    obtain ⟨h1, h2, h3, h4, h5⟩ := id i3
    have e3 : yy 246 3 = v 246 3 := h4 3 (by omega)
    have e250 : yy 250 = v 250 := h5 250 (by omega) (by omega) (by omega) (by omega) (by omega)
    rw [hX12_bestRoad_8]
    by_cases x1 : nI k = x
    · refine ⟨(b, m, c, yy), ?_, ?_, i2, i3⟩
      · subst x1
        simp (disch := first | assumption | omega) only [rX12_bestRoad, Option.bind_some, Option.toList_some, Option.toList_none, List.cons_append, List.nil_append, fk_b_0, nI_add, Nat.add_zero, Nat.zero_add, not_true_eq_false, not_false_eq_true, if_true, if_false, sI_le_t, sI_le_f, sI_lt_t, sI_lt_f, sI_eq_t, sI_eq_f, sI_rem, sI_div, sI_m1a, sI_m1b, sI_m1c, sI_m1d, sI_m1e, sI_m1f, sI_m2a, sI_m2b, sI_sub, pk_mul, sI_dec, fk_u_s, fk_u_o, sI_dec0, sI_z, sI_md, Bool.false_eq_true, Nat.reduceAdd, Nat.reduceMul, Nat.reduceSub, Nat.reduceMod, Nat.reduceDiv]
      · rw [fk_it_succ, ← i1, Nat.zero_add, if_neg fun z => z.1 x1]
    · by_cases x2 : fk_tb (v 246 3) k = true
      · by_cases x3 : v 250 k = s.1 (320 + j)
        · obtain ⟨y', e, h'⟩ := mX12_gladlyFor (N := N) (l := l) (d := d) HW i3 hj hk hn hm
          have eG : ab_G v W s.1 j k = ab_gl v W s.1 j k := if_pos ⟨x2, x3⟩
          by_cases x4 : m < ab_gl v W s.1 j k
          · refine ⟨(nI k, ab_gl v W s.1 j k, .int (ab_gl v W s.1 j k), y'), ?_, ?_, Int32.le_of_lt (Int32.lt_of_le_of_lt i2 x4), h'⟩
            · simp (disch := first | assumption | omega) only [rX12_bestRoad, x1, mX12_isRoadN, e3, x2, e250, h1, x3, e, x4, Option.bind_some, Option.toList_some, Option.toList_none, List.cons_append, List.nil_append, fk_b_0, nI_add, Nat.add_zero, Nat.zero_add, not_true_eq_false, not_false_eq_true, if_true, if_false, sI_le_t, sI_le_f, sI_lt_t, sI_lt_f, sI_eq_t, sI_eq_f, sI_rem, sI_div, sI_m1a, sI_m1b, sI_m1c, sI_m1d, sI_m1e, sI_m1f, sI_m2a, sI_m2b, sI_sub, pk_mul, sI_dec, fk_u_s, fk_u_o, sI_dec0, sI_z, sI_md, Bool.false_eq_true, Nat.reduceAdd, Nat.reduceMul, Nat.reduceSub, Nat.reduceMod, Nat.reduceDiv]
            · rw [fk_it_succ, ← i1, Nat.zero_add, eG, if_pos ⟨x1, x4⟩]
          · refine ⟨(b, m, .int (ab_gl v W s.1 j k), y'), ?_, ?_, i2, h'⟩
            · simp (disch := first | assumption | omega) only [rX12_bestRoad, x1, mX12_isRoadN, e3, x2, e250, h1, x3, e, x4, Option.bind_some, Option.toList_some, Option.toList_none, List.cons_append, List.nil_append, fk_b_0, nI_add, Nat.add_zero, Nat.zero_add, not_true_eq_false, not_false_eq_true, if_true, if_false, sI_le_t, sI_le_f, sI_lt_t, sI_lt_f, sI_eq_t, sI_eq_f, sI_rem, sI_div, sI_m1a, sI_m1b, sI_m1c, sI_m1d, sI_m1e, sI_m1f, sI_m2a, sI_m2b, sI_sub, pk_mul, sI_dec, fk_u_s, fk_u_o, sI_dec0, sI_z, sI_md, Bool.false_eq_true, Nat.reduceAdd, Nat.reduceMul, Nat.reduceSub, Nat.reduceMod, Nat.reduceDiv]
            · rw [fk_it_succ, ← i1, Nat.zero_add, eG, if_neg fun z => x4 z.2]
        · have eG : ab_G v W s.1 j k = nI 0 := if_neg fun z => x3 z.2
          refine ⟨(b, m, c, yy), ?_, ?_, i2, i3⟩
          · simp (disch := first | assumption | omega) only [rX12_bestRoad, x1, mX12_isRoadN, e3, x2, e250, h1, x3, Option.bind_some, Option.toList_some, Option.toList_none, List.cons_append, List.nil_append, fk_b_0, nI_add, Nat.add_zero, Nat.zero_add, not_true_eq_false, not_false_eq_true, if_true, if_false, sI_le_t, sI_le_f, sI_lt_t, sI_lt_f, sI_eq_t, sI_eq_f, sI_rem, sI_div, sI_m1a, sI_m1b, sI_m1c, sI_m1d, sI_m1e, sI_m1f, sI_m2a, sI_m2b, sI_sub, pk_mul, sI_dec, fk_u_s, fk_u_o, sI_dec0, sI_z, sI_md, Bool.false_eq_true, Nat.reduceAdd, Nat.reduceMul, Nat.reduceSub, Nat.reduceMod, Nat.reduceDiv]
          · rw [fk_it_succ, ← i1, Nat.zero_add, eG, if_neg fun z => Int32.not_lt.mpr i2 z.2]
      · have eG : ab_G v W s.1 j k = nI 0 := if_neg fun z => x2 z.1
        refine ⟨(b, m, c, yy), ?_, ?_, i2, i3⟩
        · simp (disch := first | assumption | omega) only [rX12_bestRoad, x1, mX12_isRoadN, e3, x2, Option.bind_some, Option.toList_some, Option.toList_none, List.cons_append, List.nil_append, fk_b_0, nI_add, Nat.add_zero, Nat.zero_add, not_true_eq_false, not_false_eq_true, if_true, if_false, sI_le_t, sI_le_f, sI_lt_t, sI_lt_f, sI_eq_t, sI_eq_f, sI_rem, sI_div, sI_m1a, sI_m1b, sI_m1c, sI_m1d, sI_m1e, sI_m1f, sI_m2a, sI_m2b, sI_sub, pk_mul, sI_dec, fk_u_s, fk_u_o, sI_dec0, sI_z, sI_md, Bool.false_eq_true, Nat.reduceAdd, Nat.reduceMul, Nat.reduceSub, Nat.reduceMod, Nat.reduceDiv]
        · rw [fk_it_succ, ← i1, Nat.zero_add, eG, if_neg fun z => Int32.not_lt.mpr i2 z.2]) 32 0 ((-1 : Int32), nI 0, .null, y) rfl ⟨rfl, Int32.le_rfl, hs⟩
  obtain ⟨⟨b, m, c, yy⟩, e, i1, i2, i3⟩ := key
  try dsimp only at e i1 i2 i3
  refine ⟨yy, ?_, i3⟩
  simp (disch := first | assumption | omega) only [rX12_bestRoad, Option.bind_some, Option.toList_some, Option.toList_none, List.cons_append, List.nil_append, fk_b_0, nI_add, Nat.add_zero, Nat.zero_add, not_true_eq_false, not_false_eq_true, if_true, if_false, sI_le_t, sI_le_f, sI_lt_t, sI_lt_f, sI_eq_t, sI_eq_f, sI_rem, sI_div, sI_m1a, sI_m1b, sI_m1c, sI_m1d, sI_m1e, sI_m1f, sI_m2a, sI_m2b, sI_sub, pk_mul, sI_dec, fk_u_s, fk_u_o, sI_dec0, sI_z, sI_md, Bool.false_eq_true, Nat.reduceAdd, Nat.reduceMul, Nat.reduceSub, Nat.reduceMod, Nat.reduceDiv]
  rw [e, hX12_bestRoad_8]
  simp (disch := first | assumption | omega) only [rX12_bestRoad, Option.bind_some, Option.toList_some, Option.toList_none, List.cons_append, List.nil_append, fk_b_0, nI_add, Nat.add_zero, Nat.zero_add, not_true_eq_false, not_false_eq_true, if_true, if_false, sI_le_t, sI_le_f, sI_lt_t, sI_lt_f, sI_eq_t, sI_eq_f, sI_rem, sI_div, sI_m1a, sI_m1b, sI_m1c, sI_m1d, sI_m1e, sI_m1f, sI_m2a, sI_m2b, sI_sub, pk_mul, sI_dec, fk_u_s, fk_u_o, sI_dec0, sI_z, sI_md, Bool.false_eq_true, Nat.reduceAdd, Nat.reduceMul, Nat.reduceSub, Nat.reduceMod, Nat.reduceDiv]
  unfold ab_best
  rw [← i1]
theorem mX12_doubtOf (HW : fk_LR W v) (hs : fk_rs v y s) {j n p : Nat} (hj : j < 64) (hn : n ≤ 64) (hm : s.1 833 = nI n) (hp : p < 16) (ha : s.1 (320 + j) = nI p) : ∃ y', fk_ev (d + 4) qX12_doubtOf 0 [.ref 246, .int ((nI j))] [] (fk_E N y l) = some (some (.int ((ab_dt W (v 246 33) (v 246 34) s.1 j))), fk_E N y' l) ∧ fk_rs v y' s := by
  obtain ⟨h1, h2, h3, h4, h5⟩ := id hs
  have e33 : y 246 33 = v 246 33 := h4 33 (by omega)
  have e34 : y 246 34 = v 246 34 := h4 34 (by omega)
  have hm' : y 247 833 = nI n := by rw [h1]; exact hm
  by_cases x1 : s.1 j = v 246 33
  · refine ⟨y, ?_, hs⟩
    unfold ab_dt
    rw [if_pos x1, ha, nI_clamp (by omega)]
    simp (disch := first | assumption | omega) only [rX12_doubtOf, h1, e33, e34, x1, ha, mX12_has, fk_has1, Option.bind_some, Option.toList_some, Option.toList_none, List.cons_append, List.nil_append, fk_b_0, nI_add, Nat.add_zero, Nat.zero_add, not_true_eq_false, not_false_eq_true, if_true, if_false, sI_le_t, sI_le_f, sI_lt_t, sI_lt_f, sI_eq_t, sI_eq_f, sI_rem, sI_div, sI_m1a, sI_m1b, sI_m1c, sI_m1d, sI_m1e, sI_m1f, sI_m2a, sI_m2b, sI_sub, pk_mul, sI_dec, fk_u_s, fk_u_o, sI_dec0, sI_z, sI_md, Bool.false_eq_true, Nat.reduceAdd, Nat.reduceMul, Nat.reduceSub, Nat.reduceMod, Nat.reduceDiv]
    by_cases x2 : fk_tb (v 246 34) p = true
    · simp (disch := first | assumption | omega) only [x2, rX12_doubtOf, Option.bind_some, Option.toList_some, Option.toList_none, List.cons_append, List.nil_append, fk_b_0, nI_add, Nat.add_zero, Nat.zero_add, not_true_eq_false, not_false_eq_true, if_true, if_false, sI_le_t, sI_le_f, sI_lt_t, sI_lt_f, sI_eq_t, sI_eq_f, sI_rem, sI_div, sI_m1a, sI_m1b, sI_m1c, sI_m1d, sI_m1e, sI_m1f, sI_m2a, sI_m2b, sI_sub, pk_mul, sI_dec, fk_u_s, fk_u_o, sI_dec0, sI_z, sI_md, Bool.false_eq_true, Nat.reduceAdd, Nat.reduceMul, Nat.reduceSub, Nat.reduceMod, Nat.reduceDiv]
    · simp (disch := first | assumption | omega) only [x2, rX12_doubtOf, Option.bind_some, Option.toList_some, Option.toList_none, List.cons_append, List.nil_append, fk_b_0, nI_add, Nat.add_zero, Nat.zero_add, not_true_eq_false, not_false_eq_true, if_true, if_false, sI_le_t, sI_le_f, sI_lt_t, sI_lt_f, sI_eq_t, sI_eq_f, sI_rem, sI_div, sI_m1a, sI_m1b, sI_m1c, sI_m1d, sI_m1e, sI_m1f, sI_m2a, sI_m2b, sI_sub, pk_mul, sI_dec, fk_u_s, fk_u_o, sI_dec0, sI_z, sI_md, Bool.false_eq_true, Nat.reduceAdd, Nat.reduceMul, Nat.reduceSub, Nat.reduceMod, Nat.reduceDiv]
  · obtain ⟨y', e2, k2⟩ := HW.2.1 N d (fk_feel y j n) l (nI 100) (nI 99) (by
      intro c c1 c2
      funext i
      rw [fk_feel_o (by omega), h5 c (by omega) (by omega) (by omega) (by omega) (by omega)]) (by
      rw [fk_feel_o (by omega), h4 19 (by omega)]) (Or.inr (Or.inl rfl)) (by decide)
    have eW : W (nI 100) (fk_feel y j n 268) = W (nI 100) (ab_fe s.1 j) := HW.1 _ _ _ fun k hk => by rw [fk_feel_f hn hm' hk, h1]
    rw [eW] at e2
    refine ⟨y', ?_, fk_rs_k hs fun c c1 c2 => ?_⟩
    · unfold ab_dt
      rw [if_neg x1]
      simp (disch := first | assumption | omega) only [rX12_doubtOf, h1, e33, x1, mX12_feels hj hn hm', e2, Option.bind_some, Option.toList_some, Option.toList_none, List.cons_append, List.nil_append, fk_b_0, nI_add, Nat.add_zero, Nat.zero_add, not_true_eq_false, not_false_eq_true, if_true, if_false, sI_le_t, sI_le_f, sI_lt_t, sI_lt_f, sI_eq_t, sI_eq_f, sI_rem, sI_div, sI_m1a, sI_m1b, sI_m1c, sI_m1d, sI_m1e, sI_m1f, sI_m2a, sI_m2b, sI_sub, pk_mul, sI_dec, fk_u_s, fk_u_o, sI_dec0, sI_z, sI_md, Bool.false_eq_true, Nat.reduceAdd, Nat.reduceMul, Nat.reduceSub, Nat.reduceMod, Nat.reduceDiv]
    · rw [k2 c c1]
      funext i
      rw [fk_feel_o c2]
def fk_se (y : Nat → Nat → Int32) (j r : Nat) : Nat → Nat → Int32 := fk_u (fk_u (fk_u y 247 (320 + j) (-2)) 247 (384 + j) (nI r)) 247 (448 + j) (y 252 r)
theorem mX12_sets {j r : Nat} (hj : j < 64) (hr : r < 32) : fk_ev d qX12_sets 0 [.ref 246, .int ((nI j)), .int ((nI r))] [] (fk_E N y l) = some (none, fk_E N (fk_se y j r) l) := by
  simp (disch := first | assumption | omega) only [rX12_sets, Option.bind_some, Option.toList_some, Option.toList_none, List.cons_append, List.nil_append, fk_b_0, nI_add, Nat.add_zero, Nat.zero_add, not_true_eq_false, not_false_eq_true, if_true, if_false, sI_le_t, sI_le_f, sI_lt_t, sI_lt_f, sI_eq_t, sI_eq_f, sI_rem, sI_div, sI_m1a, sI_m1b, sI_m1c, sI_m1d, sI_m1e, sI_m1f, sI_m2a, sI_m2b, sI_sub, pk_mul, sI_dec, fk_u_s, fk_u_o, sI_dec0, sI_z, sI_md, Bool.false_eq_true, Nat.reduceAdd, Nat.reduceMul, Nat.reduceSub, Nat.reduceMod, Nat.reduceDiv]
  rfl
theorem fk_se_o {j r c : Nat} (h : c ≠ 247) : fk_se y j r c = y c := by
  unfold fk_se
  rw [fk_u_rowo h, fk_u_rowo h, fk_u_rowo h]
theorem fk_se_r {j r : Nat} (hr : r < 32) (h : y 252 = v 252) : fk_se y j r 247 = ab_st v (y 247) j (nI r) := by
  unfold fk_se ab_st
  rw [fk_u_row, fk_u_row, fk_u_row, nI_clamp (by omega), h]
theorem fk_bg_o {n c : Nat} {a b e : Int32} (h : c ≠ 247) : fk_bg y n a b e c = y c := by
  unfold fk_bg
  simp (disch := exact h) only [fk_u_rowo]
theorem fk_bg_r {n : Nat} {a b e : Int32} : fk_bg y n a b e 247 = ab_bg (y 247) n a b e := by
  unfold fk_bg ab_bg
  simp only [fk_u_row]
end RH1
