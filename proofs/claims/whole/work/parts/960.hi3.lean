section HI3
variable {N : Nat} {S : Nat → Int32} {v y y0 y1 y2 z z0 : Nat → Nat → Int32} {l : Nat → Nat → Int64} {d n H t k m a : Nat} {A : Nat → Int32} {bt : Nat → Nat}
theorem mX11_isSo {j p h : Nat} (ho : ab_ok v n H A) (hp : ck_pr 33 y (fun _ => nI 0) A) (hq : ∀ i, i < 3072 → y 235 i = A (840 + i)) (hj : j < n) (hp16 : p < 16) (hh : h < 1000) : fk_ev (d + 4) qX11_isSo 0 [.ref 1, .int ((nI j)), .int ((nI p)), .int ((nI h))] [] (fk_E N y l) = some (some (.int ((fk_b (h ≤ H ∧ (H < h + 48 → ab_was A H h j = nI p))))), fk_E N y l) := by
  have h8 := n8
  have h234 : fk_at 234 7 := ⟨by decide, by decide, by decide +kernel⟩
  have hH := ho.2.2.2.1
  have e3 : y 33 3 = nI H := hp.1.2.1.trans ho.2.2.1
  have hr := mX7_isRemembered (N := N) (l := l) (d := d + 3) (y := y) (t := nI h) e3 hH
  by_cases c1 : h ≤ H
  · by_cases c2 : H < h + 48
    · rw [fk_b_t ((ab_rb_n (by omega)).mpr ⟨c1, c2⟩)] at hr
      have ww := mX7_whereWas (N := N) (l := l) (d := d) ho hp hq hj c1 c2
      by_cases c3 : ab_was A H h j = nI p
      · rw [fk_b_t ⟨c1, fun _ => c3⟩]
        simp (disch := first | assumption | omega) only [rX11_isSo, e3, hr, ww, c3, Option.bind_some, Option.toList_some, Option.toList_none, List.cons_append, List.nil_append, fk_b_0, nI_add, Nat.add_zero, Nat.zero_add, not_true_eq_false, not_false_eq_true, if_true, if_false, sI_le_t, sI_le_f, sI_lt_t, sI_lt_f, sI_eq_t, sI_eq_f, sI_rem, sI_div, sI_m1a, sI_m1b, sI_m1c, sI_m1d, sI_m1e, sI_m1f, sI_m2a, sI_m2b, sI_sub, pk_mul, sI_dec, fk_u_s, fk_u_o, sI_dec0, sI_z, sI_md, Bool.false_eq_true, Nat.reduceAdd, Nat.reduceMul, Nat.reduceSub, Nat.reduceMod, Nat.reduceDiv]
      · rw [fk_b_f fun z => c3 (z.2 c2)]
        simp (disch := first | assumption | omega) only [rX11_isSo, e3, hr, ww, c3, Option.bind_some, Option.toList_some, Option.toList_none, List.cons_append, List.nil_append, fk_b_0, nI_add, Nat.add_zero, Nat.zero_add, not_true_eq_false, not_false_eq_true, if_true, if_false, sI_le_t, sI_le_f, sI_lt_t, sI_lt_f, sI_eq_t, sI_eq_f, sI_rem, sI_div, sI_m1a, sI_m1b, sI_m1c, sI_m1d, sI_m1e, sI_m1f, sI_m2a, sI_m2b, sI_sub, pk_mul, sI_dec, fk_u_s, fk_u_o, sI_dec0, sI_z, sI_md, Bool.false_eq_true, Nat.reduceAdd, Nat.reduceMul, Nat.reduceSub, Nat.reduceMod, Nat.reduceDiv]
    · rw [fk_b_f fun z => c2 ((ab_rb_n (by omega)).mp z).2] at hr
      rw [fk_b_t ⟨c1, fun z => absurd z c2⟩]
      simp (disch := first | assumption | omega) only [rX11_isSo, e3, hr, Option.bind_some, Option.toList_some, Option.toList_none, List.cons_append, List.nil_append, fk_b_0, nI_add, Nat.add_zero, Nat.zero_add, not_true_eq_false, not_false_eq_true, if_true, if_false, sI_le_t, sI_le_f, sI_lt_t, sI_lt_f, sI_eq_t, sI_eq_f, sI_rem, sI_div, sI_m1a, sI_m1b, sI_m1c, sI_m1d, sI_m1e, sI_m1f, sI_m2a, sI_m2b, sI_sub, pk_mul, sI_dec, fk_u_s, fk_u_o, sI_dec0, sI_z, sI_md, Bool.false_eq_true, Nat.reduceAdd, Nat.reduceMul, Nat.reduceSub, Nat.reduceMod, Nat.reduceDiv]
  · have hr2 := mX7_isRemembered (N := N) (l := l) (d := d + 2) (y := y) (t := nI h) e3 hH
    rw [fk_b_f fun z => c1 ((ab_rb_n (by omega)).mp z).1] at hr2
    have ww : fk_ev (d + 3) qX7_whereWas 0 [.ref 234, .ref 33, .int ((nI j)), .int ((nI h)), .null, .null] [] (fk_E N y l) = some (some (.int ((-3))), fk_E N y l) := by
      simp (disch := first | assumption | omega) only [rX7_whereWas, hr2, Option.bind_some, Option.toList_some, Option.toList_none, List.cons_append, List.nil_append, fk_b_0, nI_add, Nat.add_zero, Nat.zero_add, not_true_eq_false, not_false_eq_true, if_true, if_false, sI_le_t, sI_le_f, sI_lt_t, sI_lt_f, sI_eq_t, sI_eq_f, sI_rem, sI_div, sI_m1a, sI_m1b, sI_m1c, sI_m1d, sI_m1e, sI_m1f, sI_m2a, sI_m2b, sI_sub, pk_mul, sI_dec, fk_u_s, fk_u_o, sI_dec0, sI_z, sI_md, Bool.false_eq_true, Nat.reduceAdd, Nat.reduceMul, Nat.reduceSub, Nat.reduceMod, Nat.reduceDiv]
    have ne : ¬ (-3 : Int32) = nI p := fun z => by
      have := congrArg Int32.toInt z
      rw [fk_toInt_nI (by omega), show (-3 : Int32).toInt = -3 by decide] at this
      omega
    rw [fk_b_f fun z => c1 z.1]
    simp (disch := first | assumption | omega) only [rX11_isSo, e3, ww, ne, Option.bind_some, Option.toList_some, Option.toList_none, List.cons_append, List.nil_append, fk_b_0, nI_add, Nat.add_zero, Nat.zero_add, not_true_eq_false, not_false_eq_true, if_true, if_false, sI_le_t, sI_le_f, sI_lt_t, sI_lt_f, sI_eq_t, sI_eq_f, sI_rem, sI_div, sI_m1a, sI_m1b, sI_m1c, sI_m1d, sI_m1e, sI_m1f, sI_m2a, sI_m2b, sI_sub, pk_mul, sI_dec, fk_u_s, fk_u_o, sI_dec0, sI_z, sI_md, Bool.false_eq_true, Nat.reduceAdd, Nat.reduceMul, Nat.reduceSub, Nat.reduceMod, Nat.reduceDiv]
theorem cl_history (hR : cR S y) {j u : Int32} : ∃ a y1 y2, fk_ev (d + 8) qX11_history 0 [.ref 1, .int j, .int u, .null, .null] [] (fk_E N y l) = some (some (.int a), fk_E N y1 l) ∧ fk_ev (d + 8) qX12_history 0 [.ref 246, .int j, .int u, .null, .null] [] (fk_E N y1 l) = some (some (.int a), fk_E N y2 l) ∧ cR S y2 := by
  obtain ⟨r0, r1, r2, ⟨n, H, p1, p2, p3, p4⟩, r4, ⟨t, t1, t2, t3, t4⟩, r6, r7, r8, r9⟩ := id hR
  have hn := p1.1
  have hm := p1.2.1
  have hH := p1.2.2.2.1
  have h8 := n8
  have eb : y 33 2 = nI n := p3.1.1.trans hm
  have hb := mX8_hasBeen (N := N) (l := l) (d := d + 6) (j := j) (Or.inl rfl) eb
  have hi := mX12_isHalf (N := N) (l := l) (d := d + 7) (y := y) (j := j)
  rw [hm] at hi
  by_cases hj : nI 0 ≤ j ∧ j < nI n
  · rw [fk_b_t hj] at hb hi
    obtain ⟨jq1, jq2⟩ := hj
    obtain ⟨j, hj, rfl⟩ := fk_ixn jq1 jq2 (by omega)
    by_cases hu : nI 1 ≤ u ∧ u ≤ nI 60
    · obtain ⟨m, hm6, rfl⟩ := fk_ixn2 (Int32.le_trans (by decide) hu.1) hu.2 (by omega)
      have hm1 : 1 ≤ m := (nI_leI (by omega) (by omega)).mp hu.1
      by_cases hmt : m ≤ t
      · have h0 : ck_h0 y (fun i => fk_bn (y 255 i)) m := ⟨t, t1, hmt, by omega, t2, fun i hi => by rw [t4 i hi]; exact fk_bn_e, fun i => fk_bn_lt⟩
        obtain ⟨y1, hc⟩ := mX1_read (N := N) (l := l) (d := d + 2) h0 hm6
        -- the reference starts where the class has ended
        have start : ∀ Y : Nat → Nat → Int32, (∀ k, 246 ≤ k → Y k = y k) → ∃ Z, fk_tx (fun i => fk_bn (y 255 i)) m 0 Z ∧ fk_rr 0 (fun _ => 0) (fun _ => 0) Z ∧ fk_s6 (fk_u Y 246 12 (nI m)) Z ∧ fk_ev (d + 8) qX12_history 0 [.ref 246, .int ((nI j)), .int ((nI m)), .null, .null] [] (fk_E N Y l) = (fk_ev (d + 7) qX12_readsStep 0 [.ref 246, .null] [] (fk_E N Z l)).bind fun o => fk_ev (d + 8) qX12_history 52 [.ref 246, .int (nI j), .int (nI m), .null, .null] (o.1.toList ++ []) o.2 := by
          intro Y hY
          refine ⟨fk_u (fk_u (fk_u (fk_u Y 246 11 (nI 0)) 246 12 (nI m)) 246 45 (nI 0)) 246 46 (-1), ⟨by rw [fk_u_o (by omega), fk_u_o (by omega), fk_u_o (by omega), fk_u_s], by rw [fk_u_o (by omega), fk_u_o (by omega), fk_u_s], fun i hi => by rw [fk_u_rowo (by omega), fk_u_rowo (by omega), fk_u_rowo (by omega), fk_u_rowo (by omega), hY 255 (by omega)]; exact fk_bn_e, fun i => fk_bn_lt, by omega, by omega⟩, ⟨by rw [fk_u_o (by omega), fk_u_s], by rw [fk_u_s]; rfl, fun i hi => by omega⟩, ⟨fun k k1 _ _ => by rw [fk_u_rowo k1, fk_u_rowo k1, fk_u_rowo k1, fk_u_rowo k1, fk_u_rowo k1], fun i i1 i2 i3 i4 i5 => ?_⟩, ?_⟩
          · by_cases e : i = 12
            · subst e; rw [fk_u_o (by omega), fk_u_o (by omega), fk_u_s, fk_u_s]
            · rw [fk_u_o (by omega), fk_u_o (by omega), fk_u_o (by omega), fk_u_o (by omega), fk_u_o (by omega)]
          · have hi2 := mX12_isHalfN (N := N) (l := l) (d := d + 7) (y := Y) hn (by rw [hY 247 (by omega)]; exact hm) hj
            have e10 : Y 246 10 = nI t := by rw [hY 246 (by omega)]; exact t3
            simp (disch := first | assumption | omega) only [rX12_history, hi2, mX12_in, and_self, e10, Option.bind_some, Option.toList_some, Option.toList_none, List.cons_append, List.nil_append, fk_b_0, nI_add, Nat.add_zero, Nat.zero_add, not_true_eq_false, not_false_eq_true, if_true, if_false, sI_le_t, sI_le_f, sI_lt_t, sI_lt_f, sI_eq_t, sI_eq_f, sI_rem, sI_div, sI_m1a, sI_m1b, sI_m1c, sI_m1d, sI_m1e, sI_m1f, sI_m2a, sI_m2b, sI_sub, pk_mul, sI_dec, fk_u_s, fk_u_o, sI_dec0, sI_z, sI_md, Bool.false_eq_true, Nat.reduceAdd, Nat.reduceMul, Nat.reduceSub, Nat.reduceMod, Nat.reduceDiv]
        have fin : ∀ Y Z : Nat → Nat → Int32, (∀ k, k ≠ 26 → k ≠ 30 → k ≠ 31 → k ≠ 32 → Y k = y k) → fk_s6 (fk_u Y 246 12 (nI m)) Z → Y 26 1 = nI 0 → cR S (fk_u Z 246 10 (nI 0)) := by
          intro Y Z hY hZ h26
          refine cR_clr hR (fun k hk => ?_) (fun i hi => ?_) ?_ fk_u_s
          · rw [fk_u_rowo (by omega), hZ.1 k (by omega) (by omega) (by omega), fk_u_rowo (by omega), hY k (by omega) (by omega) (by omega) (by omega)]
          · rw [fk_u_o (by omega), hZ.2 i (by omega) (by omega) (by omega) (by omega) (by omega), fk_u_o (by omega), hY 246 (by omega) (by omega) (by omega) (by omega)]
          · rw [fk_u_rowo (by omega), hZ.1 26 (by omega) (by omega) (by omega), fk_u_rowo (by omega)]
            exact h26
        have F1 : (∀ k, k ≠ 30 → k ≠ 31 → k ≠ 32 → y1 k = y k) := by
          generalize ab_hs (fun i => fk_bn (y 255 i)) m 16 0 0 (fun _ => 0) (fun _ => 0) = o at hc
          cases o with
          | inl f => exact hc.2.1
          | inr x => exact hc.2.1
        generalize eY : fk_u y1 26 1 (nI 0) = Y
        have YF : ∀ k, k ≠ 26 → k ≠ 30 → k ≠ 31 → k ≠ 32 → Y k = y k := fun k k1 k2 k3 k4 => by rw [← eY, fk_u_rowo k1, F1 k k2 k3 k4]
        have Y26 : Y 26 1 = nI 0 := by rw [← eY, fk_u_s]
        obtain ⟨Z, z1, z2, z3, z4⟩ := start Y fun k hk => YF k (by omega) (by omega) (by omega) (by omega)
        obtain ⟨Z1, Z', g, e1, s2, hrd⟩ := mX12_hist_loop (N := N) (l := l) (d := d + 3) (j := .int (nI j)) (nn := .int (nI m)) hm6 16 0 0 (fun _ => 0) (fun _ => 0) Z rfl (by omega) (fun _ => by omega) (fun _ => by omega) z1 z2
        have hcR := fin Y Z' YF (fk_s6_t z3 s2) Y26
        have hZ47 : Z' 247 = y 247 := by rw [s2.1 247 (by omega) (by omega) (by omega), z3.1 247 (by omega) (by omega) (by omega), fk_u_rowo (by omega), YF 247 (by omega) (by omega) (by omega) (by omega)]
        have E2 : fk_ev (d + 8) qX12_history 0 [.ref 246, .int ((nI j)), .int ((nI m)), .null, .null] [] (fk_E N Y l) = fk_ev (d + 8) qX12_history 53 [.ref 246, .int (nI j), .int (nI m), .int g, .null] [] (fk_E N Z1 l) := by
          rw [z4, e1]
          simp (disch := first | assumption | omega) only [rX12_history, Option.bind_some, Option.toList_some, Option.toList_none, List.cons_append, List.nil_append, fk_b_0, nI_add, Nat.add_zero, Nat.zero_add, not_true_eq_false, not_false_eq_true, if_true, if_false, sI_le_t, sI_le_f, sI_lt_t, sI_lt_f, sI_eq_t, sI_eq_f, sI_rem, sI_div, sI_m1a, sI_m1b, sI_m1c, sI_m1d, sI_m1e, sI_m1f, sI_m2a, sI_m2b, sI_sub, pk_mul, sI_dec, fk_u_s, fk_u_o, sI_dec0, sI_z, sI_md, Bool.false_eq_true, Nat.reduceAdd, Nat.reduceMul, Nat.reduceSub, Nat.reduceMod, Nat.reduceDiv]
        generalize ab_hs (fun i => fk_bn (y 255 i)) m 16 0 0 (fun _ => 0) (fun _ => 0) = o at hc hrd
        cases o with
        | inl f =>
          try dsimp only at hc hrd
          obtain ⟨c1, c2, c3⟩ := hc
          obtain ⟨g1, g2⟩ := hrd
          refine ⟨f, Y, fk_u Z' 246 10 (nI 0), ?_, ?_, hcR⟩
          · simp (disch := first | assumption | omega) only [rX11_history, hb, t2, c1, mX10_clear, eY, c3, Option.bind_some, Option.toList_some, Option.toList_none, List.cons_append, List.nil_append, fk_b_0, nI_add, Nat.add_zero, Nat.zero_add, not_true_eq_false, not_false_eq_true, if_true, if_false, sI_le_t, sI_le_f, sI_lt_t, sI_lt_f, sI_eq_t, sI_eq_f, sI_rem, sI_div, sI_m1a, sI_m1b, sI_m1c, sI_m1d, sI_m1e, sI_m1f, sI_m2a, sI_m2b, sI_sub, pk_mul, sI_dec, fk_u_s, fk_u_o, sI_dec0, sI_z, sI_md, Bool.false_eq_true, Nat.reduceAdd, Nat.reduceMul, Nat.reduceSub, Nat.reduceMod, Nat.reduceDiv]
          · rw [E2, g1]
            simp (disch := first | assumption | omega) only [rX12_history, g2, Option.bind_some, Option.toList_some, Option.toList_none, List.cons_append, List.nil_append, fk_b_0, nI_add, Nat.add_zero, Nat.zero_add, not_true_eq_false, not_false_eq_true, if_true, if_false, sI_le_t, sI_le_f, sI_lt_t, sI_lt_f, sI_eq_t, sI_eq_f, sI_rem, sI_div, sI_m1a, sI_m1b, sI_m1c, sI_m1d, sI_m1e, sI_m1f, sI_m2a, sI_m2b, sI_sub, pk_mul, sI_dec, fk_u_s, fk_u_o, sI_dec0, sI_z, sI_md, Bool.false_eq_true, Nat.reduceAdd, Nat.reduceMul, Nat.reduceSub, Nat.reduceMod, Nat.reduceDiv]
        | inr x =>
          obtain ⟨c, P, Q⟩ := x
          try dsimp only at hc hrd
          obtain ⟨c1, c2, ⟨c3, c4⟩, c5, c6, c7⟩ := hc
          obtain ⟨g1, g2, g3, g4⟩ := hrd
          have Y30 : Y 30 3 = nI c := by rw [← eY, fk_u_o (by omega)]; exact c3
          have Y31 : ∀ i, i < c → Y 31 i = nI (P i) := fun i hi => by rw [← eY, fk_u_o (by omega)]; exact (c4 i hi).1
          have Y32 : ∀ i, i < c → Y 32 i = nI (Q i) := fun i hi => by rw [← eY, fk_u_o (by omega)]; exact (c4 i hi).2
          have pY : ck_pr 33 Y (fun _ => nI 0) (y 247) := ck_pr_k p3 fun k k1 k2 => YF k (by omega) (by omega) (by omega) (by omega)
          have qY : ∀ i, i < 3072 → Y 235 i = y 247 (840 + i) := fun i hi => by rw [YF 235 (by omega) (by omega) (by omega) (by omega)]; exact p4 i hi
          generalize eZ : fk_u Z' 246 10 (nI 0) = Z2 at hcR
          have z45 : Z2 246 45 = nI c := by rw [← eZ, fk_u_o (by omega)]; exact g2
          have z273 : ∀ i, i < c → Z2 273 i = nI (P i) := fun i hi => by rw [← eZ, fk_u_o (by omega)]; exact (g4 i hi).1
          have z274 : ∀ i, i < c → Z2 274 i = nI (Q i) := fun i hi => by rw [← eZ, fk_u_o (by omega)]; exact (g4 i hi).2
          have z247 : Z2 247 = y 247 := by rw [← eZ, fk_u_rowo (by omega)]; exact hZ47
          have z832 : Z2 247 832 = nI H := by rw [z247]; exact p1.2.2.1
          have key : ∀ k i, i + k = c → ∃ a, fk_ev (d + 8) qX11_history 60 [.ref 1, .int (nI j), .int (nI m), .int (nI 0), .int (nI i)] [] (fk_E N Y l) = some (some (.int a), fk_E N Y l) ∧ fk_ev (d + 8) qX12_history 110 [.ref 246, .int (nI j), .int (nI m), .int (nI 1), .int (nI i)] [] (fk_E N Z2 l) = some (some (.int a), fk_E N Z2 l) := by
            intro k
            induction k with
            | zero =>
              intro i hi
              have hi : i = c := hi
              subst hi
              refine ⟨nI i, ?_, ?_⟩
              · rw [hX11_history_60]
                simp (disch := first | assumption | omega) only [rX11_history, Y30, Option.bind_some, Option.toList_some, Option.toList_none, List.cons_append, List.nil_append, fk_b_0, nI_add, Nat.add_zero, Nat.zero_add, not_true_eq_false, not_false_eq_true, if_true, if_false, sI_le_t, sI_le_f, sI_lt_t, sI_lt_f, sI_eq_t, sI_eq_f, sI_rem, sI_div, sI_m1a, sI_m1b, sI_m1c, sI_m1d, sI_m1e, sI_m1f, sI_m2a, sI_m2b, sI_sub, pk_mul, sI_dec, fk_u_s, fk_u_o, sI_dec0, sI_z, sI_md, Bool.false_eq_true, Nat.reduceAdd, Nat.reduceMul, Nat.reduceSub, Nat.reduceMod, Nat.reduceDiv]
              · rw [hX12_history_110]
                simp (disch := first | assumption | omega) only [rX12_history, z45, Option.bind_some, Option.toList_some, Option.toList_none, List.cons_append, List.nil_append, fk_b_0, nI_add, Nat.add_zero, Nat.zero_add, not_true_eq_false, not_false_eq_true, if_true, if_false, sI_le_t, sI_le_f, sI_lt_t, sI_lt_f, sI_eq_t, sI_eq_f, sI_rem, sI_div, sI_m1a, sI_m1b, sI_m1c, sI_m1d, sI_m1e, sI_m1f, sI_m2a, sI_m2b, sI_sub, pk_mul, sI_dec, fk_u_s, fk_u_o, sI_dec0, sI_z, sI_md, Bool.false_eq_true, Nat.reduceAdd, Nat.reduceMul, Nat.reduceSub, Nat.reduceMod, Nat.reduceDiv]
            | succ k ih =>
              intro i hi
              have hp16 := c6 i
              have hq10 := c7 i
              have so := mX11_isSo (N := N) (l := l) (d := d + 3) p1 pY qY hj hp16 hq10
              have y31 := Y31 i (by omega)
              have y32 := Y32 i (by omega)
              have w273 := z273 i (by omega)
              have w274 := z274 i (by omega)
              have hr := mX12_isRemembered (N := N) (l := l) (d := d + 6) (y := Z2) (t := nI (Q i)) z832 hH
              rw [hX11_history_60, hX12_history_110]
              by_cases d1 : Q i ≤ H
              · by_cases d2 : H < Q i + 48
                · rw [fk_b_t ((ab_rb_n (by omega)).mpr ⟨d1, d2⟩)] at hr
                  have wa := mX12_wasAt (N := N) (l := l) (d := d + 4) p1 p2 z247 hj d1 d2
                  by_cases d3 : ab_was (y 247) H (Q i) j = nI (P i)
                  · rw [fk_b_t ⟨d1, fun _ => d3⟩] at so
                    obtain ⟨a, b1, b2⟩ := ih (i + 1) (by omega)
                    refine ⟨a, ?_, ?_⟩
                    · rw [← b1]
                      simp (disch := first | assumption | omega) only [rX11_history, Y30, y31, y32, so, Option.bind_some, Option.toList_some, Option.toList_none, List.cons_append, List.nil_append, fk_b_0, nI_add, Nat.add_zero, Nat.zero_add, not_true_eq_false, not_false_eq_true, if_true, if_false, sI_le_t, sI_le_f, sI_lt_t, sI_lt_f, sI_eq_t, sI_eq_f, sI_rem, sI_div, sI_m1a, sI_m1b, sI_m1c, sI_m1d, sI_m1e, sI_m1f, sI_m2a, sI_m2b, sI_sub, pk_mul, sI_dec, fk_u_s, fk_u_o, sI_dec0, sI_z, sI_md, Bool.false_eq_true, Nat.reduceAdd, Nat.reduceMul, Nat.reduceSub, Nat.reduceMod, Nat.reduceDiv]
                    · rw [← b2]
                      simp (disch := first | assumption | omega) only [rX12_history, z45, w273, w274, z832, hr, wa, d3, Option.bind_some, Option.toList_some, Option.toList_none, List.cons_append, List.nil_append, fk_b_0, nI_add, Nat.add_zero, Nat.zero_add, not_true_eq_false, not_false_eq_true, if_true, if_false, sI_le_t, sI_le_f, sI_lt_t, sI_lt_f, sI_eq_t, sI_eq_f, sI_rem, sI_div, sI_m1a, sI_m1b, sI_m1c, sI_m1d, sI_m1e, sI_m1f, sI_m2a, sI_m2b, sI_sub, pk_mul, sI_dec, fk_u_s, fk_u_o, sI_dec0, sI_z, sI_md, Bool.false_eq_true, Nat.reduceAdd, Nat.reduceMul, Nat.reduceSub, Nat.reduceMod, Nat.reduceDiv]
                  · rw [fk_b_f fun z => d3 (z.2 d2)] at so
                    refine ⟨nI i, ?_, ?_⟩
                    · simp (disch := first | assumption | omega) only [rX11_history, Y30, y31, y32, so, Option.bind_some, Option.toList_some, Option.toList_none, List.cons_append, List.nil_append, fk_b_0, nI_add, Nat.add_zero, Nat.zero_add, not_true_eq_false, not_false_eq_true, if_true, if_false, sI_le_t, sI_le_f, sI_lt_t, sI_lt_f, sI_eq_t, sI_eq_f, sI_rem, sI_div, sI_m1a, sI_m1b, sI_m1c, sI_m1d, sI_m1e, sI_m1f, sI_m2a, sI_m2b, sI_sub, pk_mul, sI_dec, fk_u_s, fk_u_o, sI_dec0, sI_z, sI_md, Bool.false_eq_true, Nat.reduceAdd, Nat.reduceMul, Nat.reduceSub, Nat.reduceMod, Nat.reduceDiv]
                    · simp (disch := first | assumption | omega) only [rX12_history, z45, w273, w274, z832, hr, wa, d3, Option.bind_some, Option.toList_some, Option.toList_none, List.cons_append, List.nil_append, fk_b_0, nI_add, Nat.add_zero, Nat.zero_add, not_true_eq_false, not_false_eq_true, if_true, if_false, sI_le_t, sI_le_f, sI_lt_t, sI_lt_f, sI_eq_t, sI_eq_f, sI_rem, sI_div, sI_m1a, sI_m1b, sI_m1c, sI_m1d, sI_m1e, sI_m1f, sI_m2a, sI_m2b, sI_sub, pk_mul, sI_dec, fk_u_s, fk_u_o, sI_dec0, sI_z, sI_md, Bool.false_eq_true, Nat.reduceAdd, Nat.reduceMul, Nat.reduceSub, Nat.reduceMod, Nat.reduceDiv]
                · rw [fk_b_f fun z => d2 ((ab_rb_n (by omega)).mp z).2] at hr
                  rw [fk_b_t ⟨d1, fun z => absurd z d2⟩] at so
                  obtain ⟨a, b1, b2⟩ := ih (i + 1) (by omega)
                  refine ⟨a, ?_, ?_⟩
                  · rw [← b1]
                    simp (disch := first | assumption | omega) only [rX11_history, Y30, y31, y32, so, Option.bind_some, Option.toList_some, Option.toList_none, List.cons_append, List.nil_append, fk_b_0, nI_add, Nat.add_zero, Nat.zero_add, not_true_eq_false, not_false_eq_true, if_true, if_false, sI_le_t, sI_le_f, sI_lt_t, sI_lt_f, sI_eq_t, sI_eq_f, sI_rem, sI_div, sI_m1a, sI_m1b, sI_m1c, sI_m1d, sI_m1e, sI_m1f, sI_m2a, sI_m2b, sI_sub, pk_mul, sI_dec, fk_u_s, fk_u_o, sI_dec0, sI_z, sI_md, Bool.false_eq_true, Nat.reduceAdd, Nat.reduceMul, Nat.reduceSub, Nat.reduceMod, Nat.reduceDiv]
                  · rw [← b2]
                    simp (disch := first | assumption | omega) only [rX12_history, z45, w274, z832, hr, Option.bind_some, Option.toList_some, Option.toList_none, List.cons_append, List.nil_append, fk_b_0, nI_add, Nat.add_zero, Nat.zero_add, not_true_eq_false, not_false_eq_true, if_true, if_false, sI_le_t, sI_le_f, sI_lt_t, sI_lt_f, sI_eq_t, sI_eq_f, sI_rem, sI_div, sI_m1a, sI_m1b, sI_m1c, sI_m1d, sI_m1e, sI_m1f, sI_m2a, sI_m2b, sI_sub, pk_mul, sI_dec, fk_u_s, fk_u_o, sI_dec0, sI_z, sI_md, Bool.false_eq_true, Nat.reduceAdd, Nat.reduceMul, Nat.reduceSub, Nat.reduceMod, Nat.reduceDiv]
              · rw [fk_b_f fun z => d1 z.1] at so
                refine ⟨nI i, ?_, ?_⟩
                · simp (disch := first | assumption | omega) only [rX11_history, Y30, y31, y32, so, Option.bind_some, Option.toList_some, Option.toList_none, List.cons_append, List.nil_append, fk_b_0, nI_add, Nat.add_zero, Nat.zero_add, not_true_eq_false, not_false_eq_true, if_true, if_false, sI_le_t, sI_le_f, sI_lt_t, sI_lt_f, sI_eq_t, sI_eq_f, sI_rem, sI_div, sI_m1a, sI_m1b, sI_m1c, sI_m1d, sI_m1e, sI_m1f, sI_m2a, sI_m2b, sI_sub, pk_mul, sI_dec, fk_u_s, fk_u_o, sI_dec0, sI_z, sI_md, Bool.false_eq_true, Nat.reduceAdd, Nat.reduceMul, Nat.reduceSub, Nat.reduceMod, Nat.reduceDiv]
                · simp (disch := first | assumption | omega) only [rX12_history, z45, w274, z832, Option.bind_some, Option.toList_some, Option.toList_none, List.cons_append, List.nil_append, fk_b_0, nI_add, Nat.add_zero, Nat.zero_add, not_true_eq_false, not_false_eq_true, if_true, if_false, sI_le_t, sI_le_f, sI_lt_t, sI_lt_f, sI_eq_t, sI_eq_f, sI_rem, sI_div, sI_m1a, sI_m1b, sI_m1c, sI_m1d, sI_m1e, sI_m1f, sI_m2a, sI_m2b, sI_sub, pk_mul, sI_dec, fk_u_s, fk_u_o, sI_dec0, sI_z, sI_md, Bool.false_eq_true, Nat.reduceAdd, Nat.reduceMul, Nat.reduceSub, Nat.reduceMod, Nat.reduceDiv]
          obtain ⟨a, b1, b2⟩ := key c 0 (Nat.zero_add c)
          refine ⟨a, Y, Z2, ?_, ?_, hcR⟩
          · simp (disch := first | assumption | omega) only [rX11_history, hb, t2, c1, mX10_clear, eY, Option.bind_some, Option.toList_some, Option.toList_none, List.cons_append, List.nil_append, fk_b_0, nI_add, Nat.add_zero, Nat.zero_add, not_true_eq_false, not_false_eq_true, if_true, if_false, sI_le_t, sI_le_f, sI_lt_t, sI_lt_f, sI_eq_t, sI_eq_f, sI_rem, sI_div, sI_m1a, sI_m1b, sI_m1c, sI_m1d, sI_m1e, sI_m1f, sI_m2a, sI_m2b, sI_sub, pk_mul, sI_dec, fk_u_s, fk_u_o, sI_dec0, sI_z, sI_md, Bool.false_eq_true, Nat.reduceAdd, Nat.reduceMul, Nat.reduceSub, Nat.reduceMod, Nat.reduceDiv]
            exact b1
          · rw [E2, g1]
            simp (disch := first | assumption | omega) only [rX12_history, eZ, Option.bind_some, Option.toList_some, Option.toList_none, List.cons_append, List.nil_append, fk_b_0, nI_add, Nat.add_zero, Nat.zero_add, not_true_eq_false, not_false_eq_true, if_true, if_false, sI_le_t, sI_le_f, sI_lt_t, sI_lt_f, sI_eq_t, sI_eq_f, sI_rem, sI_div, sI_m1a, sI_m1b, sI_m1c, sI_m1d, sI_m1e, sI_m1f, sI_m2a, sI_m2b, sI_sub, pk_mul, sI_dec, fk_u_s, fk_u_o, sI_dec0, sI_z, sI_md, Bool.false_eq_true, Nat.reduceAdd, Nat.reduceMul, Nat.reduceSub, Nat.reduceMod, Nat.reduceDiv]
            exact b2
      · refine ⟨(-1), y, y, ?_, ?_, hR⟩
        · simp (disch := first | assumption | omega) only [rX11_history, hb, t2, Option.bind_some, Option.toList_some, Option.toList_none, List.cons_append, List.nil_append, fk_b_0, nI_add, Nat.add_zero, Nat.zero_add, not_true_eq_false, not_false_eq_true, if_true, if_false, sI_le_t, sI_le_f, sI_lt_t, sI_lt_f, sI_eq_t, sI_eq_f, sI_rem, sI_div, sI_m1a, sI_m1b, sI_m1c, sI_m1d, sI_m1e, sI_m1f, sI_m2a, sI_m2b, sI_sub, pk_mul, sI_dec, fk_u_s, fk_u_o, sI_dec0, sI_z, sI_md, Bool.false_eq_true, Nat.reduceAdd, Nat.reduceMul, Nat.reduceSub, Nat.reduceMod, Nat.reduceDiv]
        · simp (disch := first | assumption | omega) only [rX12_history, hi, mX12_in, and_self, t3, Option.bind_some, Option.toList_some, Option.toList_none, List.cons_append, List.nil_append, fk_b_0, nI_add, Nat.add_zero, Nat.zero_add, not_true_eq_false, not_false_eq_true, if_true, if_false, sI_le_t, sI_le_f, sI_lt_t, sI_lt_f, sI_eq_t, sI_eq_f, sI_rem, sI_div, sI_m1a, sI_m1b, sI_m1c, sI_m1d, sI_m1e, sI_m1f, sI_m2a, sI_m2b, sI_sub, pk_mul, sI_dec, fk_u_s, fk_u_o, sI_dec0, sI_z, sI_md, Bool.false_eq_true, Nat.reduceAdd, Nat.reduceMul, Nat.reduceSub, Nat.reduceMod, Nat.reduceDiv]
    · refine ⟨(-1), y, y, ?_, ?_, hR⟩
      · by_cases c1 : u < nI 1
        · simp (disch := first | assumption | omega) only [rX11_history, hb, c1, Option.bind_some, Option.toList_some, Option.toList_none, List.cons_append, List.nil_append, fk_b_0, nI_add, Nat.add_zero, Nat.zero_add, not_true_eq_false, not_false_eq_true, if_true, if_false, sI_le_t, sI_le_f, sI_lt_t, sI_lt_f, sI_eq_t, sI_eq_f, sI_rem, sI_div, sI_m1a, sI_m1b, sI_m1c, sI_m1d, sI_m1e, sI_m1f, sI_m2a, sI_m2b, sI_sub, pk_mul, sI_dec, fk_u_s, fk_u_o, sI_dec0, sI_z, sI_md, Bool.false_eq_true, Nat.reduceAdd, Nat.reduceMul, Nat.reduceSub, Nat.reduceMod, Nat.reduceDiv]
        · have c2 : nI 60 < u := Int32.not_le.mp fun z => hu ⟨Int32.not_lt.mp c1, z⟩
          simp (disch := first | assumption | omega) only [rX11_history, hb, c1, c2, Option.bind_some, Option.toList_some, Option.toList_none, List.cons_append, List.nil_append, fk_b_0, nI_add, Nat.add_zero, Nat.zero_add, not_true_eq_false, not_false_eq_true, if_true, if_false, sI_le_t, sI_le_f, sI_lt_t, sI_lt_f, sI_eq_t, sI_eq_f, sI_rem, sI_div, sI_m1a, sI_m1b, sI_m1c, sI_m1d, sI_m1e, sI_m1f, sI_m2a, sI_m2b, sI_sub, pk_mul, sI_dec, fk_u_s, fk_u_o, sI_dec0, sI_z, sI_md, Bool.false_eq_true, Nat.reduceAdd, Nat.reduceMul, Nat.reduceSub, Nat.reduceMod, Nat.reduceDiv]
      · simp (disch := first | assumption | omega) only [rX12_history, hi, mX12_in, hu, Option.bind_some, Option.toList_some, Option.toList_none, List.cons_append, List.nil_append, fk_b_0, nI_add, Nat.add_zero, Nat.zero_add, not_true_eq_false, not_false_eq_true, if_true, if_false, sI_le_t, sI_le_f, sI_lt_t, sI_lt_f, sI_eq_t, sI_eq_f, sI_rem, sI_div, sI_m1a, sI_m1b, sI_m1c, sI_m1d, sI_m1e, sI_m1f, sI_m2a, sI_m2b, sI_sub, pk_mul, sI_dec, fk_u_s, fk_u_o, sI_dec0, sI_z, sI_md, Bool.false_eq_true, Nat.reduceAdd, Nat.reduceMul, Nat.reduceSub, Nat.reduceMod, Nat.reduceDiv]
  · rw [fk_b_f hj] at hb hi
    refine ⟨(-1), y, y, ?_, ?_, hR⟩
    · simp (disch := first | assumption | omega) only [rX11_history, hb, Option.bind_some, Option.toList_some, Option.toList_none, List.cons_append, List.nil_append, fk_b_0, nI_add, Nat.add_zero, Nat.zero_add, not_true_eq_false, not_false_eq_true, if_true, if_false, sI_le_t, sI_le_f, sI_lt_t, sI_lt_f, sI_eq_t, sI_eq_f, sI_rem, sI_div, sI_m1a, sI_m1b, sI_m1c, sI_m1d, sI_m1e, sI_m1f, sI_m2a, sI_m2b, sI_sub, pk_mul, sI_dec, fk_u_s, fk_u_o, sI_dec0, sI_z, sI_md, Bool.false_eq_true, Nat.reduceAdd, Nat.reduceMul, Nat.reduceSub, Nat.reduceMod, Nat.reduceDiv]
    · simp (disch := first | assumption | omega) only [rX12_history, hi, Option.bind_some, Option.toList_some, Option.toList_none, List.cons_append, List.nil_append, fk_b_0, nI_add, Nat.add_zero, Nat.zero_add, not_true_eq_false, not_false_eq_true, if_true, if_false, sI_le_t, sI_le_f, sI_lt_t, sI_lt_f, sI_eq_t, sI_eq_f, sI_rem, sI_div, sI_m1a, sI_m1b, sI_m1c, sI_m1d, sI_m1e, sI_m1f, sI_m2a, sI_m2b, sI_sub, pk_mul, sI_dec, fk_u_s, fk_u_o, sI_dec0, sI_z, sI_md, Bool.false_eq_true, Nat.reduceAdd, Nat.reduceMul, Nat.reduceSub, Nat.reduceMod, Nat.reduceDiv]
end HI3
