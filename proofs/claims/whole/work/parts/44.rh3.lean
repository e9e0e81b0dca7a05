section RH3
variable {N : Nat} {v y : Nat → Nat → Int32} {l : Nat → Nat → Int64} {d : Nat} {W : Int32 → (Nat → Int32) → Int32} {s : ab_S}
theorem fk_nar1 : vp_nar .boolean (nI 1) = nI 1 := by decide
theorem fk_nar0 : vp_nar .boolean (nI 0) = nI 0 := by decide
/-- the reference's numbers within an hour, all changed as said -/
theorem fk_rs_all {y' : Nat → Nat → Int32} {s' : ab_S} (hs : fk_rs v y s) (hA : y' 247 = s'.1) (hc : ∀ j, j < 64 → y' 269 j = s'.2.1 j) (h35 : y' 246 35 = s'.2.2.1) (hi : ∀ i, i ≠ 35 → y' 246 i = y 246 i) (h : ∀ c, c ≠ 246 → c ≠ 247 → c ≠ 267 → c ≠ 268 → c ≠ 269 → y' c = y c) : fk_rs v y' s' := by
  obtain ⟨h1, h2, h3, h4, h5⟩ := hs
  exact ⟨hA, hc, h35, fun i q => (hi i q).trans (h4 i q), fun c c1 c2 c3 c4 c5 => (h c c1 c2 c3 c4 c5).trans (h5 c c1 c2 c3 c4 c5)⟩
theorem mX12_goesOn (hs : fk_rs v y s) {j r : Nat} (hj : j < 64) (hr : r < 32) (ho : s.1 (384 + j) = nI r) : ∃ y', fk_ev d qX12_goesOn 0 [.ref 246, .int ((nI j))] [] (fk_E N y l) = some (none, fk_E N y' l) ∧ fk_rs v y' (ab_go1 v (v 246 33) j s) := by
  obtain ⟨h1, h2, h3, h4, h5⟩ := id hs
  have e33 : y 246 33 = v 246 33 := h4 33 (by omega)
  have e251 : y 251 = v 251 := h5 251 (by omega) (by omega) (by omega) (by omega) (by omega)
  unfold ab_go1
  by_cases x1 : nI 0 < s.1 (448 + j) - nI 1
  · rw [if_pos x1]
    refine ⟨fk_u y 247 (448 + j) (s.1 (448 + j) - nI 1), ?_, fk_rs_A hs (by rw [fk_u_row, h1]) fun c hc => fk_u_rowo hc⟩
    simp (disch := first | assumption | omega) only [rX12_goesOn, h1, Int32.not_le.mpr x1, Option.bind_some, Option.toList_some, Option.toList_none, List.cons_append, List.nil_append, fk_b_0, nI_add, Nat.add_zero, Nat.zero_add, not_true_eq_false, not_false_eq_true, if_true, if_false, sI_le_t, sI_le_f, sI_lt_t, sI_lt_f, sI_eq_t, sI_eq_f, sI_rem, sI_div, sI_m1a, sI_m1b, sI_m1c, sI_m1d, sI_m1e, sI_m1f, sI_m2a, sI_m2b, sI_sub, pk_mul, sI_dec, fk_u_s, fk_u_o, sI_dec0, sI_z, sI_md, Bool.false_eq_true, Nat.reduceAdd, Nat.reduceMul, Nat.reduceSub, Nat.reduceMod, Nat.reduceDiv]
  · rw [if_neg x1, ho, nI_clamp (by omega)]
    have x1' := Int32.not_lt.mp x1
    by_cases x2 : s.1 j = v 246 33
    · refine ⟨fk_u (fk_u (fk_u (fk_u (fk_u y 247 (448 + j) (s.1 (448 + j) - nI 1)) 247 (320 + j) (v 251 r)) 247 (384 + j) (-2)) 269 j (nI 1)) 246 35 (y 246 35 ||| nI 1 <<< (v 251 r &&& 31)), ?_, ?_⟩
      · simp (disch := first | assumption | omega) only [rX12_goesOn, h1, x1', ho, e251, e33, x2, fk_nar1, Option.bind_some, Option.toList_some, Option.toList_none, List.cons_append, List.nil_append, fk_b_0, nI_add, Nat.add_zero, Nat.zero_add, not_true_eq_false, not_false_eq_true, if_true, if_false, sI_le_t, sI_le_f, sI_lt_t, sI_lt_f, sI_eq_t, sI_eq_f, sI_rem, sI_div, sI_m1a, sI_m1b, sI_m1c, sI_m1d, sI_m1e, sI_m1f, sI_m2a, sI_m2b, sI_sub, pk_mul, sI_dec, fk_u_s, fk_u_o, sI_dec0, sI_z, sI_md, Bool.false_eq_true, Nat.reduceAdd, Nat.reduceMul, Nat.reduceSub, Nat.reduceMod, Nat.reduceDiv]
      · refine fk_rs_all hs ?_ (fun i hi => ?_) ?_ (fun i hi => ?_) fun c c1 c2 c3 c4 c5 => ?_
        · rw [fk_u_rowo (by decide), fk_u_rowo (by decide), fk_u_row, fk_u_row, fk_u_row, h1]
        · rw [fk_u_rowo (by decide), fk_u_row]
          show fk_w _ j (nI 1) i = fk_w s.2.1 j (nI 1) i
          by_cases hij : i = j
          · subst hij; rw [fk_w_s, fk_w_s]
          · rw [fk_w_o hij, fk_w_o hij, fk_u_rowo (by decide), fk_u_rowo (by decide), fk_u_rowo (by decide)]
            exact h2 i hi
        · rw [fk_u_s, if_pos x2, h3]
        · rw [fk_u_o (by omega), fk_u_o (by omega), fk_u_o (by omega), fk_u_o (by omega), fk_u_o (by omega)]
        · rw [fk_u_rowo c1, fk_u_rowo c5, fk_u_rowo c2, fk_u_rowo c2, fk_u_rowo c2]
    · refine ⟨fk_u (fk_u (fk_u (fk_u y 247 (448 + j) (s.1 (448 + j) - nI 1)) 247 (320 + j) (v 251 r)) 247 (384 + j) (-2)) 269 j (nI 1), ?_, ?_⟩
      · simp (disch := first | assumption | omega) only [rX12_goesOn, h1, x1', ho, e251, e33, x2, fk_nar1, Option.bind_some, Option.toList_some, Option.toList_none, List.cons_append, List.nil_append, fk_b_0, nI_add, Nat.add_zero, Nat.zero_add, not_true_eq_false, not_false_eq_true, if_true, if_false, sI_le_t, sI_le_f, sI_lt_t, sI_lt_f, sI_eq_t, sI_eq_f, sI_rem, sI_div, sI_m1a, sI_m1b, sI_m1c, sI_m1d, sI_m1e, sI_m1f, sI_m2a, sI_m2b, sI_sub, pk_mul, sI_dec, fk_u_s, fk_u_o, sI_dec0, sI_z, sI_md, Bool.false_eq_true, Nat.reduceAdd, Nat.reduceMul, Nat.reduceSub, Nat.reduceMod, Nat.reduceDiv]
      · refine fk_rs_all hs ?_ (fun i hi => ?_) ?_ (fun i hi => ?_) fun c c1 c2 c3 c4 c5 => ?_
        · rw [fk_u_rowo (by decide), fk_u_row, fk_u_row, fk_u_row, h1]
        · rw [fk_u_row]
          show fk_w _ j (nI 1) i = fk_w s.2.1 j (nI 1) i
          by_cases hij : i = j
          · subst hij; rw [fk_w_s, fk_w_s]
          · rw [fk_w_o hij, fk_w_o hij, fk_u_rowo (by decide), fk_u_rowo (by decide), fk_u_rowo (by decide)]
            exact h2 i hi
        · rw [fk_u_o (by omega), fk_u_o (by omega), fk_u_o (by omega), fk_u_o (by omega), if_neg x2, h3]
        · rw [fk_u_o (by omega), fk_u_o (by omega), fk_u_o (by omega), fk_u_o (by omega)]
        · rw [fk_u_rowo c5, fk_u_rowo c2, fk_u_rowo c2, fk_u_rowo c2]
theorem mX12_arrives (HW : fk_LR W v) (hs : fk_rs v y s) {j n p : Nat} (hj : j < 64) (hn : n ≤ 64) (hm : s.1 833 = nI n) (hp : p < 16) (ha : s.1 (320 + j) = nI p) : ∃ y', fk_ev (d + 4) qX12_arrives 0 [.ref 246, .int ((nI j)), .null] [] (fk_E N y l) = some (none, fk_E N y' l) ∧ fk_rs v y' (ab_ar2 W j (ab_ar1 W j (ab_ar0 v j s.1)), s.2) := by
  obtain ⟨h1, h2, h3, h4, h5⟩ := id hs
  have e253 : y 253 = v 253 := h5 253 (by omega) (by omega) (by omega) (by omega) (by omega)
  have e254 : y 254 = v 254 := h5 254 (by omega) (by omega) (by omega) (by omega) (by omega)
  have st : ∃ y1, (∀ yz : Nat → Nat → Int32, fk_ev (d + 4) qX12_arrives 38 [.ref 246, .int ((nI j)), .int ((nI p))] [] (fk_E N y1 l) = some (none, fk_E N yz l) → fk_ev (d + 4) qX12_arrives 0 [.ref 246, .int ((nI j)), .null] [] (fk_E N y l) = some (none, fk_E N yz l)) ∧ fk_rs v y1 (ab_ar0 v j s.1, s.2) := by
    unfold ab_ar0
    rw [ha, nI_clamp (by omega)]
    by_cases x1 : v 253 p = (-1)
    · rw [if_pos x1]
      refine ⟨y, fun yz hz => ?_, hs⟩
      rw [← hz]
      simp (disch := first | assumption | omega) only [rX12_arrives, h1, ha, e253, x1, Option.bind_some, Option.toList_some, Option.toList_none, List.cons_append, List.nil_append, fk_b_0, nI_add, Nat.add_zero, Nat.zero_add, not_true_eq_false, not_false_eq_true, if_true, if_false, sI_le_t, sI_le_f, sI_lt_t, sI_lt_f, sI_eq_t, sI_eq_f, sI_rem, sI_div, sI_m1a, sI_m1b, sI_m1c, sI_m1d, sI_m1e, sI_m1f, sI_m2a, sI_m2b, sI_sub, pk_mul, sI_dec, fk_u_s, fk_u_o, sI_dec0, sI_z, sI_md, Bool.false_eq_true, Nat.reduceAdd, Nat.reduceMul, Nat.reduceSub, Nat.reduceMod, Nat.reduceDiv]
    · rw [if_neg x1]
      refine ⟨fk_kn y j (v 253 p) (v 254 p), fun yz hz => ?_, ?_⟩
      · rw [← hz]
        simp (disch := first | assumption | omega) only [rX12_arrives, h1, ha, e253, e254, x1, mX12_knows, Option.bind_some, Option.toList_some, Option.toList_none, List.cons_append, List.nil_append, fk_b_0, nI_add, Nat.add_zero, Nat.zero_add, not_true_eq_false, not_false_eq_true, if_true, if_false, sI_le_t, sI_le_f, sI_lt_t, sI_lt_f, sI_eq_t, sI_eq_f, sI_rem, sI_div, sI_m1a, sI_m1b, sI_m1c, sI_m1d, sI_m1e, sI_m1f, sI_m2a, sI_m2b, sI_sub, pk_mul, sI_dec, fk_u_s, fk_u_o, sI_dec0, sI_z, sI_md, Bool.false_eq_true, Nat.reduceAdd, Nat.reduceMul, Nat.reduceSub, Nat.reduceMod, Nat.reduceDiv]
      · refine fk_rs_A hs ?_ fun c hc => ?_
        · unfold fk_kn ab_kn
          rw [fk_u_row, fk_u_row, h1]
        · unfold fk_kn
          rw [fk_u_rowo hc, fk_u_rowo hc]
  obtain ⟨y1, st, r1⟩ := st
  have hm1 : (ab_ar0 v j s.1) 833 = nI n := by
    unfold ab_ar0
    split
    · exact hm
    · unfold ab_kn
      rw [fk_w_o (by omega), fk_w_o (by omega)]
      exact hm
  generalize ab_ar0 v j s.1 = A1 at r1 hm1 ⊢
  obtain ⟨g1, _, _, _, _⟩ := id r1
  have hm1' : y1 247 833 = nI n := by rw [g1]; exact hm1
  obtain ⟨y2, e2, k2⟩ := fk_ask (N := N) (l := l) (d := d) (j := j) (a := nI 98) (h := nI 999) HW r1 hn hm1 (Or.inr (Or.inr (Or.inl rfl))) (by decide)
  have r2 := fk_rs_k r1 k2
  have g2 : y2 247 = A1 := r2.1
  have r3 : fk_rs v (fk_u y2 247 (576 + j) (ab_mn (nI 99999) (A1 (576 + j) + ab_cl (nI 999) (W (nI 98) (ab_fe A1 j))))) (ab_ar1 W j A1, s.2) := fk_rs_A (s := (A1, s.2)) (q := s.2.2.2) r2 (by rw [fk_u_row, g2]; rfl) fun c hc => fk_u_rowo hc
  have hm3 : (ab_ar1 W j A1) 833 = nI n := by
    unfold ab_ar1
    rw [fk_w_o (by omega)]
    exact hm1
  have hm3' : (fk_u y2 247 (576 + j) (ab_mn (nI 99999) (A1 (576 + j) + ab_cl (nI 999) (W (nI 98) (ab_fe A1 j))))) 247 833 = nI n := by rw [r3.1]; exact hm3
  obtain ⟨y4, e4, k4⟩ := fk_ask (N := N) (l := l) (d := d) (j := j) (a := nI 119) (h := nI 9) HW r3 hn hm3 (Or.inr (Or.inr (Or.inr (Or.inl rfl)))) (by decide)
  have r4 := fk_rs_k r3 k4
  have g4 : y4 247 = ab_ar1 W j A1 := r4.1
  have g3 : (fk_u y2 247 (576 + j) (ab_mn (nI 99999) (A1 (576 + j) + ab_cl (nI 999) (W (nI 98) (ab_fe A1 j))))) 247 = ab_ar1 W j A1 := r3.1
  refine ⟨fk_u y4 247 (512 + j) (ab_mx (ab_ar1 W j A1 (512 + j)) (ab_cl (nI 9) (W (nI 119) (ab_fe (ab_ar1 W j A1) j)))), st _ ?_, fk_rs_A (s := (ab_ar1 W j A1, s.2)) (q := s.2.2.2) r4 (by rw [fk_u_row, g4]; rfl) fun c hc => fk_u_rowo hc⟩
  generalize eY : fk_u y2 247 (576 + j) (ab_mn (nI 99999) (A1 (576 + j) + ab_cl (nI 999) (W (nI 98) (ab_fe A1 j)))) = Y at e4 hm3' g3
  simp (disch := first | assumption | omega) only [rX12_arrives, mX12_feels hj hn hm1', fk_feel_o, g1, e2, mX12_min, Option.bind_some, Option.toList_some, Option.toList_none, List.cons_append, List.nil_append, fk_b_0, nI_add, Nat.add_zero, Nat.zero_add, not_true_eq_false, not_false_eq_true, if_true, if_false, sI_le_t, sI_le_f, sI_lt_t, sI_lt_f, sI_eq_t, sI_eq_f, sI_rem, sI_div, sI_m1a, sI_m1b, sI_m1c, sI_m1d, sI_m1e, sI_m1f, sI_m2a, sI_m2b, sI_sub, pk_mul, sI_dec, fk_u_s, fk_u_o, sI_dec0, sI_z, sI_md, Bool.false_eq_true, Nat.reduceAdd, Nat.reduceMul, Nat.reduceSub, Nat.reduceMod, Nat.reduceDiv]
  rw [show (if nI 99999 < A1 (576 + j) + ab_cl (nI 999) (W (nI 98) (ab_fe A1 j)) then nI 99999 else A1 (576 + j) + ab_cl (nI 999) (W (nI 98) (ab_fe A1 j))) = ab_mn (nI 99999) (A1 (576 + j) + ab_cl (nI 999) (W (nI 98) (ab_fe A1 j))) from rfl, eY]
  simp (disch := first | assumption | omega) only [rX12_arrives, mX12_feels hj hn hm3', fk_feel_o, g3, e4, mX12_max, Option.bind_some, Option.toList_some, Option.toList_none, List.cons_append, List.nil_append, fk_b_0, nI_add, Nat.add_zero, Nat.zero_add, not_true_eq_false, not_false_eq_true, if_true, if_false, sI_le_t, sI_le_f, sI_lt_t, sI_lt_f, sI_eq_t, sI_eq_f, sI_rem, sI_div, sI_m1a, sI_m1b, sI_m1c, sI_m1d, sI_m1e, sI_m1f, sI_m2a, sI_m2b, sI_sub, pk_mul, sI_dec, fk_u_s, fk_u_o, sI_dec0, sI_z, sI_md, Bool.false_eq_true, Nat.reduceAdd, Nat.reduceMul, Nat.reduceSub, Nat.reduceMod, Nat.reduceDiv]
  rfl
end RH3
