/-! THE SCRIPT: its end -/
section LP2
variable {N i : Nat} {xs : Nat → Int32} {y : Nat → Nat → Int32} {l : Nat → Nat → Int64} {d : Nat}
theorem lp_31 {z : Int32} : ∃ k, k < 32 ∧ z &&& nI 31 = nI k := by
  refine ⟨(z &&& nI 31).toBitVec.toNat, ?_, ?_⟩
  · have : (z &&& nI 31).toBitVec = z.toBitVec &&& 31#32 := rfl
    rw [this, BitVec.toNat_and]
    exact Nat.lt_of_le_of_lt Nat.and_le_right (by decide)
  · apply Int32.toBitVec.inj
    show _ = BitVec.ofNat 32 _
    rw [BitVec.ofNat_toNat, BitVec.setWidth_eq]
theorem lp_head (hN : N ≤ 3072) (hi : i + 6 ≤ N) {k : Nat} (hk : y 0 i &&& nI 31 = nI k) : fk_ev (d + 41) qL_law 18 [.ref 0, .ref 1, .ref 246, .int (nI i)] [] (fk_E N y l) = fk_ev (d + 41) qL_law 33 [.ref 0, .ref 1, .ref 246, .int (nI i)] [.int (nI k)] (fk_E N y l) := by
  have N31 : N < 2 ^ 31 := by omega
  have i0 : i < N := by omega
  rw [hL_law_18]
  simp (disch := first | assumption | omega) only [rL_law_0, hk, Option.bind_some, Option.toList_some, Option.toList_none, List.cons_append, List.nil_append, fk_b_0, nI_add, Nat.add_zero, Nat.zero_add, not_true_eq_false, not_false_eq_true, if_true, if_false, sI_le_t, sI_le_f, sI_lt_t, sI_lt_f, sI_eq_t, sI_eq_f, sI_rem, sI_div, sI_m1a, sI_m1b, sI_m1c, sI_m1d, sI_m1e, sI_m1f, sI_m2a, sI_m2b, sI_sub, pk_mul, sI_dec, fk_u_s, fk_u_o, sI_dec0, sI_z, sI_md, Bool.false_eq_true, Nat.reduceAdd, Nat.reduceMul, Nat.reduceSub, Nat.reduceMod, Nat.reduceDiv]
theorem lp_t0 {L : List Value} {h : fk_H} : fk_ev (d + 41) qL_law 33 L [.int (nI 0)] h = fk_ev (d + 41) qL_law 168 L [] h := rL_law_0.2.2.2.2.2.2.2.2.2.2.2.2.2.2.2.2.1 _ _ _ _
theorem lp_t1 {L : List Value} {h : fk_H} : fk_ev (d + 41) qL_law 33 L [.int (nI 1)] h = fk_ev (d + 41) qL_law 221 L [] h := rL_law_0.2.2.2.2.2.2.2.2.2.2.2.2.2.2.2.2.2.1 _ _ _ _
theorem lp_t2 {L : List Value} {h : fk_H} : fk_ev (d + 41) qL_law 33 L [.int (nI 2)] h = fk_ev (d + 41) qL_law 280 L [] h := rL_law_0.2.2.2.2.2.2.2.2.2.2.2.2.2.2.2.2.2.2.1 _ _ _ _
theorem lp_t3 {L : List Value} {h : fk_H} : fk_ev (d + 41) qL_law 33 L [.int (nI 3)] h = fk_ev (d + 41) qL_law 313 L [] h := rL_law_0.2.2.2.2.2.2.2.2.2.2.2.2.2.2.2.2.2.2.2.1 _ _ _ _
theorem lp_t4 {L : List Value} {h : fk_H} : fk_ev (d + 41) qL_law 33 L [.int (nI 4)] h = fk_ev (d + 41) qL_law 372 L [] h := rL_law_0.2.2.2.2.2.2.2.2.2.2.2.2.2.2.2.2.2.2.2.2.1 _ _ _ _
theorem lp_t5 {L : List Value} {h : fk_H} : fk_ev (d + 41) qL_law 33 L [.int (nI 5)] h = fk_ev (d + 41) qL_law 405 L [] h := rL_law_0.2.2.2.2.2.2.2.2.2.2.2.2.2.2.2.2.2.2.2.2.2.1 _ _ _ _
theorem lp_t6 {L : List Value} {h : fk_H} : fk_ev (d + 41) qL_law 33 L [.int (nI 6)] h = fk_ev (d + 41) qL_law 468 L [] h := rL_law_0.2.2.2.2.2.2.2.2.2.2.2.2.2.2.2.2.2.2.2.2.2.2.1 _ _ _ _
theorem lp_t7 {L : List Value} {h : fk_H} : fk_ev (d + 41) qL_law 33 L [.int (nI 7)] h = fk_ev (d + 41) qL_law 491 L [] h := rL_law_0.2.2.2.2.2.2.2.2.2.2.2.2.2.2.2.2.2.2.2.2.2.2.2.1 _ _ _ _
theorem lp_t8 {L : List Value} {h : fk_H} : fk_ev (d + 41) qL_law 33 L [.int (nI 8)] h = fk_ev (d + 41) qL_law 514 L [] h := rL_law_0.2.2.2.2.2.2.2.2.2.2.2.2.2.2.2.2.2.2.2.2.2.2.2.2.1 _ _ _ _
theorem lp_t9 {L : List Value} {h : fk_H} : fk_ev (d + 41) qL_law 33 L [.int (nI 9)] h = fk_ev (d + 41) qL_law 547 L [] h := rL_law_0.2.2.2.2.2.2.2.2.2.2.2.2.2.2.2.2.2.2.2.2.2.2.2.2.2.1 _ _ _ _
theorem lp_t10 {L : List Value} {h : fk_H} : fk_ev (d + 41) qL_law 33 L [.int (nI 10)] h = fk_ev (d + 41) qL_law 580 L [] h := rL_law_0.2.2.2.2.2.2.2.2.2.2.2.2.2.2.2.2.2.2.2.2.2.2.2.2.2.2.1 _ _ _ _
theorem lp_t11 {L : List Value} {h : fk_H} : fk_ev (d + 41) qL_law 33 L [.int (nI 11)] h = fk_ev (d + 41) qL_law 613 L [] h := rL_law_0.2.2.2.2.2.2.2.2.2.2.2.2.2.2.2.2.2.2.2.2.2.2.2.2.2.2.2.1 _ _ _ _
theorem lp_t12 {L : List Value} {h : fk_H} : fk_ev (d + 41) qL_law 33 L [.int (nI 12)] h = fk_ev (d + 41) qL_law 646 L [] h := rL_law_0.2.2.2.2.2.2.2.2.2.2.2.2.2.2.2.2.2.2.2.2.2.2.2.2.2.2.2.2.1 _ _ _ _
theorem lp_t13 {L : List Value} {h : fk_H} : fk_ev (d + 41) qL_law 33 L [.int (nI 13)] h = fk_ev (d + 41) qL_law 679 L [] h := rL_law_0.2.2.2.2.2.2.2.2.2.2.2.2.2.2.2.2.2.2.2.2.2.2.2.2.2.2.2.2.2.1 _ _ _ _
theorem lp_t14 {L : List Value} {h : fk_H} : fk_ev (d + 41) qL_law 33 L [.int (nI 14)] h = fk_ev (d + 41) qL_law 713 L [] h := rL_law_0.2.2.2.2.2.2.2.2.2.2.2.2.2.2.2.2.2.2.2.2.2.2.2.2.2.2.2.2.2.2.1 _ _ _ _
theorem lp_t15 {L : List Value} {h : fk_H} : fk_ev (d + 41) qL_law 33 L [.int (nI 15)] h = fk_ev (d + 41) qL_law 766 L [] h := rL_law_0.2.2.2.2.2.2.2.2.2.2.2.2.2.2.2.2.2.2.2.2.2.2.2.2.2.2.2.2.2.2.2.1 _ _ _ _
theorem lp_t16 {L : List Value} {h : fk_H} : fk_ev (d + 41) qL_law 33 L [.int (nI 16)] h = fk_ev (d + 41) qL_law 799 L [] h := rL_law_0.2.2.2.2.2.2.2.2.2.2.2.2.2.2.2.2.2.2.2.2.2.2.2.2.2.2.2.2.2.2.2.2.1 _ _ _ _
theorem lp_t17 {L : List Value} {h : fk_H} : fk_ev (d + 41) qL_law 33 L [.int (nI 17)] h = fk_ev (d + 41) qL_law 842 L [] h := rL_law_0.2.2.2.2.2.2.2.2.2.2.2.2.2.2.2.2.2.2.2.2.2.2.2.2.2.2.2.2.2.2.2.2.2.1 _ _ _ _
theorem lp_t18 {L : List Value} {h : fk_H} : fk_ev (d + 41) qL_law 33 L [.int (nI 18)] h = fk_ev (d + 41) qL_law 875 L [] h := rL_law_0.2.2.2.2.2.2.2.2.2.2.2.2.2.2.2.2.2.2.2.2.2.2.2.2.2.2.2.2.2.2.2.2.2.2.1 _ _ _ _
theorem lp_t19 {L : List Value} {h : fk_H} : fk_ev (d + 41) qL_law 33 L [.int (nI 19)] h = fk_ev (d + 41) qL_law 898 L [] h := rL_law_0.2.2.2.2.2.2.2.2.2.2.2.2.2.2.2.2.2.2.2.2.2.2.2.2.2.2.2.2.2.2.2.2.2.2.2.1 _ _ _ _
theorem lp_t20 {L : List Value} {h : fk_H} : fk_ev (d + 41) qL_law 33 L [.int (nI 20)] h = fk_ev (d + 41) qL_law 921 L [] h := rL_law_0.2.2.2.2.2.2.2.2.2.2.2.2.2.2.2.2.2.2.2.2.2.2.2.2.2.2.2.2.2.2.2.2.2.2.2.2.1 _ _ _ _
theorem lp_t21 {L : List Value} {h : fk_H} : fk_ev (d + 41) qL_law 33 L [.int (nI 21)] h = fk_ev (d + 41) qL_law 964 L [] h := rL_law_0.2.2.2.2.2.2.2.2.2.2.2.2.2.2.2.2.2.2.2.2.2.2.2.2.2.2.2.2.2.2.2.2.2.2.2.2.2.1 _ _ _ _
theorem lp_t22 {L : List Value} {h : fk_H} : fk_ev (d + 41) qL_law 33 L [.int (nI 22)] h = fk_ev (d + 41) qL_law 997 L [] h := rL_law_0.2.2.2.2.2.2.2.2.2.2.2.2.2.2.2.2.2.2.2.2.2.2.2.2.2.2.2.2.2.2.2.2.2.2.2.2.2.2.1 _ _ _ _
theorem lp_t23 {L : List Value} {h : fk_H} : fk_ev (d + 41) qL_law 33 L [.int (nI 23)] h = fk_ev (d + 41) qL_law 1040 L [] h := rL_law_0.2.2.2.2.2.2.2.2.2.2.2.2.2.2.2.2.2.2.2.2.2.2.2.2.2.2.2.2.2.2.2.2.2.2.2.2.2.2.2.1 _ _ _ _
theorem lp_t24 {L : List Value} {h : fk_H} : fk_ev (d + 41) qL_law 33 L [.int (nI 24)] h = fk_ev (d + 41) qL_law 1073 L [] h := rL_law_0.2.2.2.2.2.2.2.2.2.2.2.2.2.2.2.2.2.2.2.2.2.2.2.2.2.2.2.2.2.2.2.2.2.2.2.2.2.2.2.2.1 _ _ _ _
theorem lp_t25 {L : List Value} {h : fk_H} : fk_ev (d + 41) qL_law 33 L [.int (nI 25)] h = fk_ev (d + 41) qL_law 1116 L [] h := rL_law_0.2.2.2.2.2.2.2.2.2.2.2.2.2.2.2.2.2.2.2.2.2.2.2.2.2.2.2.2.2.2.2.2.2.2.2.2.2.2.2.2.2.1 _ _ _ _
theorem lp_t26 {L : List Value} {h : fk_H} : fk_ev (d + 41) qL_law 33 L [.int (nI 26)] h = fk_ev (d + 41) qL_law 1139 L [] h := rL_law_0.2.2.2.2.2.2.2.2.2.2.2.2.2.2.2.2.2.2.2.2.2.2.2.2.2.2.2.2.2.2.2.2.2.2.2.2.2.2.2.2.2.2.1 _ _ _ _
theorem lp_t27 {L : List Value} {h : fk_H} : fk_ev (d + 41) qL_law 33 L [.int (nI 27)] h = fk_ev (d + 41) qL_law 1152 L [] h := rL_law_0.2.2.2.2.2.2.2.2.2.2.2.2.2.2.2.2.2.2.2.2.2.2.2.2.2.2.2.2.2.2.2.2.2.2.2.2.2.2.2.2.2.2.2.1 _ _ _ _
theorem lp_t28 {L : List Value} {h : fk_H} : fk_ev (d + 41) qL_law 33 L [.int (nI 28)] h = fk_ev (d + 41) qL_law 1165 L [] h := rL_law_0.2.2.2.2.2.2.2.2.2.2.2.2.2.2.2.2.2.2.2.2.2.2.2.2.2.2.2.2.2.2.2.2.2.2.2.2.2.2.2.2.2.2.2.2.1 _ _ _ _
theorem lp_t29 {L : List Value} {h : fk_H} : fk_ev (d + 41) qL_law 33 L [.int (nI 29)] h = fk_ev (d + 41) qL_law 1188 L [] h := rL_law_0.2.2.2.2.2.2.2.2.2.2.2.2.2.2.2.2.2.2.2.2.2.2.2.2.2.2.2.2.2.2.2.2.2.2.2.2.2.2.2.2.2.2.2.2.2.1 _ _ _ _
theorem lp_rest (hi : i + 6 ≤ N) (hN : N ≤ 3072) {L : List Value} {h : fk_H} {k : Nat} (hk : k = 30 ∨ k = 31) : fk_ev (d + 41) qL_law 33 [.ref 0, .ref 1, .ref 246, .int (nI i)] [.int (nI k)] h = fk_ev (d + 41) qL_law 18 [.ref 0, .ref 1, .ref 246, .int (nI (i + 6))] [] h := by
  have e : (nI k).toInt < 0 ∨ 29 < (nI k).toInt := by
    rw [fk_toInt_nI (by omega)]
    omega
  rw [rL_law_0.2.2.2.2.2.2.2.2.2.2.2.2.2.2.2.2.2.2.2.2.2.2.2.2.2.2.2.2.2.2.2.2.2.2.2.2.2.2.2.2.2.2.2.2.2.2.1 _ _ _ _ _ e]
  simp (disch := first | assumption | omega) only [rL_law_0, rL_law_1, rL_law_2, rL_law_3, rL_law_4, Option.bind_some, Option.toList_some, Option.toList_none, List.cons_append, List.nil_append, fk_b_0, nI_add, Nat.add_zero, Nat.zero_add, not_true_eq_false, not_false_eq_true, if_true, if_false, sI_le_t, sI_le_f, sI_lt_t, sI_lt_f, sI_eq_t, sI_eq_f, sI_rem, sI_div, sI_m1a, sI_m1b, sI_m1c, sI_m1d, sI_m1e, sI_m1f, sI_m2a, sI_m2b, sI_sub, pk_mul, sI_dec, fk_u_s, fk_u_o, sI_dec0, sI_z, sI_md, Bool.false_eq_true, Nat.reduceAdd, Nat.reduceMul, Nat.reduceSub, Nat.reduceMod, Nat.reduceDiv]
theorem lp_step (hN : N ≤ 3072) (hi : i + 6 ≤ N) (hR : cR xs y) : lp_ok d N i xs y l 18 := by
  obtain ⟨k, hk, ek⟩ := lp_31 (z := y 0 i)
  have hh := lp_head (d := d) (l := l) hN hi ek
  have go : ∀ pc, fk_ev (d + 41) qL_law 33 [.ref 0, .ref 1, .ref 246, .int (nI i)] [.int (nI k)] (fk_E N y l) = fk_ev (d + 41) qL_law pc [.ref 0, .ref 1, .ref 246, .int (nI i)] [] (fk_E N y l) → lp_ok d N i xs y l pc → lp_ok d N i xs y l 18 := by
    rintro pc e ⟨y2, l2, e2, h2⟩
    exact ⟨y2, l2, by rw [hh, e, e2], h2⟩
  by_cases k0 : k = 0
  · subst k0
    exact go _ lp_t0 (lp_road hN hi hR)
  by_cases k1 : k = 1
  · subst k1
    exact go _ lp_t1 (lp_notice hN hi hR)
  by_cases k2 : k = 2
  · subst k2
    exact go _ lp_t2 (lp_comes hN hi hR)
  by_cases k3 : k = 3
  · subst k3
    exact go _ lp_t3 (lp_learns hN hi hR)
  by_cases k4 : k = 4
  · subst k4
    exact go _ lp_t4 (lp_owes hN hi hR)
  by_cases k5 : k = 5
  · subst k5
    exact go _ lp_t5 (lp_feed hN hi hR)
  by_cases k6 : k = 6
  · subst k6
    exact go _ lp_t6 (lp_law hN hi hR)
  by_cases k7 : k = 7
  · subst k7
    exact go _ lp_t7 (lp_hours hN hi hR)
  by_cases k8 : k = 8
  · subst k8
    exact go _ lp_t8 (lp_tried hN hi hR)
  by_cases k9 : k = 9
  · subst k9
    exact go _ lp_t9 (lp_half hN hi hR)
  by_cases k10 : k = 10
  · subst k10
    exact go _ lp_t10 (lp_gladly hN hi hR)
  by_cases k11 : k = 11
  · subst k11
    exact go _ lp_t11 (lp_halves hN hi hR)
  by_cases k12 : k = 12
  · subst k12
    exact go _ lp_t12 (lp_was hN hi hR)
  by_cases k13 : k = 13
  · subst k13
    exact go _ lp_t13 (lp_byForks hN hi hR)
  by_cases k14 : k = 14
  · subst k14
    exact go _ lp_t14 (lp_plan hN hi hR)
  by_cases k15 : k = 15
  · subst k15
    exact go _ lp_t15 (lp_joined hN hi hR)
  by_cases k16 : k = 16
  · subst k16
    exact go _ lp_t16 (lp_chosen hN hi hR)
  by_cases k17 : k = 17
  · subst k17
    exact go _ lp_t17 (lp_whoWas hN hi hR)
  by_cases k18 : k = 18
  · subst k18
    exact go _ lp_t18 (lp_meet hN hi hR)
  by_cases k19 : k = 19
  · subst k19
    exact go _ lp_t19 (lp_built hN hi hR)
  by_cases k20 : k = 20
  · subst k20
    exact go _ lp_t20 (lp_closed hN hi hR)
  by_cases k21 : k = 21
  · subst k21
    exact go _ lp_t21 (lp_history hN hi hR)
  by_cases k22 : k = 22
  · subst k22
    exact go _ lp_t22 (lp_kin hN hi hR)
  by_cases k23 : k = 23
  · subst k23
    exact go _ lp_t23 (lp_bread hN hi hR)
  by_cases k24 : k = 24
  · subst k24
    exact go _ lp_t24 (lp_vote hN hi hR)
  by_cases k25 : k = 25
  · subst k25
    exact go _ lp_t25 (lp_seed hN hi hR)
  by_cases k26 : k = 26
  · subst k26
    exact go _ lp_t26 (lp_keep hN hi hR)
  by_cases k27 : k = 27
  · subst k27
    exact go _ lp_t27 (lp_undo hN hi hR)
  by_cases k28 : k = 28
  · subst k28
    exact go _ lp_t28 (lp_check hN hi hR)
  by_cases k29 : k = 29
  · subst k29
    exact go _ lp_t29 (lp_count hN hi hR)
  exact ⟨y, l, by rw [hh, lp_rest (L := []) hi hN (by omega)], hR⟩
theorem lp_all (hN : N ≤ 3072) : ∀ m i y l, cR xs y → i ≤ 4000 → N < i + 6 * (m + 1) → ∃ y' l', fk_ev (d + 41) qL_law 18 [.ref 0, .ref 1, .ref 246, .int (nI i)] [] (fk_E N y l) = some (some (.int (nI 1)), fk_E N y' l') := by
  have out : ∀ i y l, i ≤ 4000 → N < i + 6 → fk_ev (d + 41) qL_law 18 [.ref 0, .ref 1, .ref 246, .int (nI i)] [] (fk_E N y l) = some (some (.int (nI 1)), fk_E N y l) := by
    intro i y l h4 hi
    have lt : nI N - nI 6 < nI i := by
      rw [Int32.lt_iff_toInt_lt, nI_subI (by omega) (by omega), fk_toInt_nI (by omega)]
      omega
    rw [hL_law_18]
    by_cases n6 : 6 ≤ N
    · have : N - 6 < i := by omega
      simp (disch := first | assumption | omega) only [rL_law_0, rL_law_1, rL_law_2, rL_law_3, rL_law_4, Option.bind_some, Option.toList_some, Option.toList_none, List.cons_append, List.nil_append, fk_b_0, nI_add, Nat.add_zero, Nat.zero_add, not_true_eq_false, not_false_eq_true, if_true, if_false, sI_le_t, sI_le_f, sI_lt_t, sI_lt_f, sI_eq_t, sI_eq_f, sI_rem, sI_div, sI_m1a, sI_m1b, sI_m1c, sI_m1d, sI_m1e, sI_m1f, sI_m2a, sI_m2b, sI_sub, pk_mul, sI_dec, fk_u_s, fk_u_o, sI_dec0, sI_z, sI_md, Bool.false_eq_true, Nat.reduceAdd, Nat.reduceMul, Nat.reduceSub, Nat.reduceMod, Nat.reduceDiv]
    · simp (disch := first | assumption | omega) only [rL_law_0, rL_law_1, rL_law_2, rL_law_3, rL_law_4, lt, Option.bind_some, Option.toList_some, Option.toList_none, List.cons_append, List.nil_append, fk_b_0, nI_add, Nat.add_zero, Nat.zero_add, not_true_eq_false, not_false_eq_true, if_true, if_false, sI_le_t, sI_le_f, sI_lt_t, sI_lt_f, sI_eq_t, sI_eq_f, sI_rem, sI_div, sI_m1a, sI_m1b, sI_m1c, sI_m1d, sI_m1e, sI_m1f, sI_m2a, sI_m2b, sI_sub, pk_mul, sI_dec, fk_u_s, fk_u_o, sI_dec0, sI_z, sI_md, Bool.false_eq_true, Nat.reduceAdd, Nat.reduceMul, Nat.reduceSub, Nat.reduceMod, Nat.reduceDiv]
  intro m
  induction m with
  | zero =>
    intro i y l hR h4 hi
    exact ⟨y, l, out i y l h4 (by omega)⟩
  | succ m ih =>
    intro i y l hR h4 hi
    by_cases c : i + 6 ≤ N
    · obtain ⟨y2, l2, e, h2⟩ := lp_step (d := d) (l := l) hN c hR
      obtain ⟨y', l', e2⟩ := ih (i + 6) y2 l2 h2 (by omega) (by omega)
      exact ⟨y', l', e.trans e2⟩
    · exact ⟨y, l, out i y l h4 (by omega)⟩
theorem fk_claimed : fk_claim := by
  intro L xs hL
  obtain ⟨y, e, hR⟩ := fk_started L xs
  obtain ⟨y', l', e2⟩ := lp_all (d := 959) hL L 0 y (fun _ _ => 0) hR (by omega) (by omega)
  obtain ⟨n, hn⟩ := fk_ev_iff.mp (e.trans e2)
  exact ⟨n, _, hn, by show 275 - 1 ≤ 600000; omega, by show 26683 ≤ 7302250; omega⟩
end LP2
