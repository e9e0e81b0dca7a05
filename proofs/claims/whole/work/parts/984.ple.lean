section PLE
variable {N : Nat} {S : Nat → Int32} {y : Nat → Nat → Int32} {l : Nat → Nat → Int64} {d : Nat}
theorem cl_plan (hR : cR S y) {one P k w : Int32} : ∃ a y1 y2, fk_ev (d + 9) qX11_plan 0 [.ref 1, .int one, .int P, .int k, .int w, .null] [] (fk_E N y l) = some (some (.int a), fk_E N y1 l) ∧ fk_ev (d + 9) qX12_plan 0 [.ref 246, .int one, .int P, .int k, .int w, .null, .null] [] (fk_E N y1 l) = some (some (.int a), fk_E N y2 l) ∧ cR S y2 := by
  obtain ⟨r0, r1, r2, ⟨q, H, p1, p2, p3, p4⟩, r4, r5, ⟨c, W, q1, q2, q3, q4, q5, q6⟩, r7, r8, r9⟩ := id hR
  have hq := p1.1
  have hm := p1.2.1
  have e3 : y 33 3 = nI H := p3.1.2.1.trans p1.2.2.1
  have e2 : y 33 2 = nI q := p3.1.1.trans hm
  have e832 := p1.2.2.1
  have h8 := n8
  have hp33 : ck_pp 33 := Or.inl rfl
  by_cases hg : (nI 0 ≤ one ∧ one < nI 4) ∧ (nI 0 ≤ P ∧ P < nI 65536) ∧ (nI 0 ≤ w ∧ w < nI 3) ∧ (nI 1 ≤ k ∧ k ≤ nI 48 ∧ nI H + k ≤ nI 999)
  · obtain ⟨c1, c2, c3, c4⟩ := hg
    have hcp := mX11_canPass (N := N) (l := l) (d := d + 8) (k := k) e3
    rw [fk_b_t c4] at hcp
    have c2b : nI 0 ≤ P ∧ P ≤ nI 65535 := (fk_inb (by omega)).mpr c2
    have c3b : nI 0 ≤ w ∧ w ≤ nI 2 := (fk_inb (by omega)).mpr c3
    obtain ⟨o, o4, rfl⟩ := fk_ixn c1.1 c1.2 (by omega)
    obtain ⟨n, hn, rfl⟩ := fk_ixn2 (Int32.le_trans (by decide) c4.1) c4.2.1 (by omega)
    have hn1 : 1 ≤ n := (nI_leI (by omega) (by omega)).mp c4.1
    have hl : H + n ≤ 999 := by
      have := c4.2.2
      rw [nI_add] at this
      exact (nI_leI (by have := p1.2.2.2.1; omega) (by omega)).mp this
    by_cases h1 : ab_lo (y 247) (nI o) = 1
    · obtain ⟨j, hj⟩ := ab_oo_of p1 h1
      have hj1 := hj.1
      have eoo := mX8_onlyOneOf (N := N) (l := l) (d := d + 7) hp33 p3 p1 o4 h1 hj
      have hhm := p3.2.2.1 j (by omega) (by rw [ab_ok_n p1]; exact hj1)
      have eat := mX8_isAtPlaceN (N := N) (l := l) (d := d + 7) (P := y 247 (192 + j) = nI 1) hp33 hq e2 hj1 hhm.2.2.2.1
      rw [hhm.2.2.2.2.2.1] at eat
      by_cases hat : nI 0 ≤ y 247 (320 + j)
      · rw [fk_b_t ⟨hj.2.1.1, hat⟩] at eat
        obtain ⟨F, hF, eF⟩ := fk_num (s := ab_fo y) (ab_fo_ok (v := y)).1
        obtain ⟨y1, f1, sq, r3⟩ := mX9_seek (N := N) (l := l) (d := d + 2) (P := P) r1 r2 q4 p3 p1 hj hat h1 o4 hF eF hn hl r9
        obtain ⟨y2, g1, g2, ⟨⟨g3, g4⟩, _⟩, g5⟩ := mX12_plan_all (N := N) (l := l) (d := d) (P := P) hR q5 q1 sq p1 hj h1 hat c1 o4 c2b c3b hn1 hn hl hF eF
        generalize ab_fd y W P (nI o) (ab_s0 (y 247) j) n F (F + 1) = st at r3 g3 g4 g5
        have E1 : fk_ev (d + 9) qX11_plan 0 [.ref 1, .int (nI o), .int P, .int (nI n), .int w, .null] [] (fk_E N y l) = fk_ev (d + 9) qX11_plan 80 [.ref 1, .int (nI o), .int P, .int (nI n), .int w, .int (nI j)] [] (fk_E N y1 l) := by
          simp (disch := first | assumption | omega) only [rX11_plan, mX11_within, c1, c2, c3, and_self, hcp, eoo, eat, q2, nI_clamp, f1, Option.bind_some, Option.toList_some, Option.toList_none, List.cons_append, List.nil_append, fk_b_0, nI_add, Nat.add_zero, Nat.zero_add, not_true_eq_false, not_false_eq_true, if_true, if_false, sI_le_t, sI_le_f, sI_lt_t, sI_lt_f, sI_eq_t, sI_eq_f, sI_rem, sI_div, sI_m1a, sI_m1b, sI_m1c, sI_m1d, sI_m1e, sI_m1f, sI_m2a, sI_m2b, sI_sub, pk_mul, sI_dec, fk_u_s, fk_u_o, sI_dec0, sI_z, sI_md, Bool.false_eq_true, Nat.reduceAdd, Nat.reduceMul, Nat.reduceSub, Nat.reduceMod, Nat.reduceDiv]
        rw [E1]
        obtain ⟨ww, hww, rfl⟩ := fk_ixn c3.1 c3.2 (by omega)
        rcases r3 with ⟨t1, t2⟩ | ⟨t1, t2, t3, t4⟩
        · refine ⟨(-2), y1, y2, ?_, ?_, g2⟩
          · simp (disch := first | assumption | omega) only [rX11_plan, t2, Option.bind_some, Option.toList_some, Option.toList_none, List.cons_append, List.nil_append, fk_b_0, nI_add, Nat.add_zero, Nat.zero_add, not_true_eq_false, not_false_eq_true, if_true, if_false, sI_le_t, sI_le_f, sI_lt_t, sI_lt_f, sI_eq_t, sI_eq_f, sI_rem, sI_div, sI_m1a, sI_m1b, sI_m1c, sI_m1d, sI_m1e, sI_m1f, sI_m2a, sI_m2b, sI_sub, pk_mul, sI_dec, fk_u_s, fk_u_o, sI_dec0, sI_z, sI_md, Bool.false_eq_true, Nat.reduceAdd, Nat.reduceMul, Nat.reduceSub, Nat.reduceMod, Nat.reduceDiv]
          · rw [t1] at g3
            rw [g1]
            simp (disch := first | assumption | omega) only [rX12_plan, g3, Option.bind_some, Option.toList_some, Option.toList_none, List.cons_append, List.nil_append, fk_b_0, nI_add, Nat.add_zero, Nat.zero_add, not_true_eq_false, not_false_eq_true, if_true, if_false, sI_le_t, sI_le_f, sI_lt_t, sI_lt_f, sI_eq_t, sI_eq_f, sI_rem, sI_div, sI_m1a, sI_m1b, sI_m1c, sI_m1d, sI_m1e, sI_m1f, sI_m2a, sI_m2b, sI_sub, pk_mul, sI_dec, fk_u_s, fk_u_o, sI_dec0, sI_z, sI_md, Bool.false_eq_true, Nat.reduceAdd, Nat.reduceMul, Nat.reduceSub, Nat.reduceMod, Nat.reduceDiv]
        · obtain ⟨g6, g7⟩ := g4 (by omega)
          have hw : ww = 0 ∨ ww = 1 ∨ ww = 2 := by omega
          rcases hw with rfl | rfl | rfl
          · refine ⟨nI st.1, y1, y2, ?_, ?_, g2⟩
            · simp (disch := first | assumption | omega) only [rX11_plan, t2, Option.bind_some, Option.toList_some, Option.toList_none, List.cons_append, List.nil_append, fk_b_0, nI_add, Nat.add_zero, Nat.zero_add, not_true_eq_false, not_false_eq_true, if_true, if_false, sI_le_t, sI_le_f, sI_lt_t, sI_lt_f, sI_eq_t, sI_eq_f, sI_rem, sI_div, sI_m1a, sI_m1b, sI_m1c, sI_m1d, sI_m1e, sI_m1f, sI_m2a, sI_m2b, sI_sub, pk_mul, sI_dec, fk_u_s, fk_u_o, sI_dec0, sI_z, sI_md, Bool.false_eq_true, Nat.reduceAdd, Nat.reduceMul, Nat.reduceSub, Nat.reduceMod, Nat.reduceDiv]
            · rw [g1]
              simp (disch := first | assumption | omega) only [rX12_plan, g3, Option.bind_some, Option.toList_some, Option.toList_none, List.cons_append, List.nil_append, fk_b_0, nI_add, Nat.add_zero, Nat.zero_add, not_true_eq_false, not_false_eq_true, if_true, if_false, sI_le_t, sI_le_f, sI_lt_t, sI_lt_f, sI_eq_t, sI_eq_f, sI_rem, sI_div, sI_m1a, sI_m1b, sI_m1c, sI_m1d, sI_m1e, sI_m1f, sI_m2a, sI_m2b, sI_sub, pk_mul, sI_dec, fk_u_s, fk_u_o, sI_dec0, sI_z, sI_md, Bool.false_eq_true, Nat.reduceAdd, Nat.reduceMul, Nat.reduceSub, Nat.reduceMod, Nat.reduceDiv]
          · refine ⟨nI st.2.1, y1, y2, ?_, ?_, g2⟩
            · simp (disch := first | assumption | omega) only [rX11_plan, t2, t3, Option.bind_some, Option.toList_some, Option.toList_none, List.cons_append, List.nil_append, fk_b_0, nI_add, Nat.add_zero, Nat.zero_add, not_true_eq_false, not_false_eq_true, if_true, if_false, sI_le_t, sI_le_f, sI_lt_t, sI_lt_f, sI_eq_t, sI_eq_f, sI_rem, sI_div, sI_m1a, sI_m1b, sI_m1c, sI_m1d, sI_m1e, sI_m1f, sI_m2a, sI_m2b, sI_sub, pk_mul, sI_dec, fk_u_s, fk_u_o, sI_dec0, sI_z, sI_md, Bool.false_eq_true, Nat.reduceAdd, Nat.reduceMul, Nat.reduceSub, Nat.reduceMod, Nat.reduceDiv]
            · rw [g1]
              simp (disch := first | assumption | omega) only [rX12_plan, g3, g6, Option.bind_some, Option.toList_some, Option.toList_none, List.cons_append, List.nil_append, fk_b_0, nI_add, Nat.add_zero, Nat.zero_add, not_true_eq_false, not_false_eq_true, if_true, if_false, sI_le_t, sI_le_f, sI_lt_t, sI_lt_f, sI_eq_t, sI_eq_f, sI_rem, sI_div, sI_m1a, sI_m1b, sI_m1c, sI_m1d, sI_m1e, sI_m1f, sI_m2a, sI_m2b, sI_sub, pk_mul, sI_dec, fk_u_s, fk_u_o, sI_dec0, sI_z, sI_md, Bool.false_eq_true, Nat.reduceAdd, Nat.reduceMul, Nat.reduceSub, Nat.reduceMod, Nat.reduceDiv]
          · have k1 : ¬ (0 : Int) = (nI 2).toInt := by decide
            have k2 : ¬ (1 : Int) = (nI 2).toInt := by decide
            refine ⟨nI st.2.2, y1, y2, ?_, ?_, g2⟩
            · simp (disch := first | assumption | omega) only [rX11_plan, t2, t4, Option.bind_some, Option.toList_some, Option.toList_none, List.cons_append, List.nil_append, fk_b_0, nI_add, Nat.add_zero, Nat.zero_add, not_true_eq_false, not_false_eq_true, if_true, if_false, sI_le_t, sI_le_f, sI_lt_t, sI_lt_f, sI_eq_t, sI_eq_f, sI_rem, sI_div, sI_m1a, sI_m1b, sI_m1c, sI_m1d, sI_m1e, sI_m1f, sI_m2a, sI_m2b, sI_sub, pk_mul, sI_dec, fk_u_s, fk_u_o, sI_dec0, sI_z, sI_md, Bool.false_eq_true, Nat.reduceAdd, Nat.reduceMul, Nat.reduceSub, Nat.reduceMod, Nat.reduceDiv]
            · rw [g1]
              simp (disch := first | assumption | omega) only [rX12_plan, g3, g7, Option.bind_some, Option.toList_some, Option.toList_none, List.cons_append, List.nil_append, fk_b_0, nI_add, Nat.add_zero, Nat.zero_add, not_true_eq_false, not_false_eq_true, if_true, if_false, sI_le_t, sI_le_f, sI_lt_t, sI_lt_f, sI_eq_t, sI_eq_f, sI_rem, sI_div, sI_m1a, sI_m1b, sI_m1c, sI_m1d, sI_m1e, sI_m1f, sI_m2a, sI_m2b, sI_sub, pk_mul, sI_dec, fk_u_s, fk_u_o, sI_dec0, sI_z, sI_md, Bool.false_eq_true, Nat.reduceAdd, Nat.reduceMul, Nat.reduceSub, Nat.reduceMod, Nat.reduceDiv]
      · rw [fk_b_f fun z => hat z.2] at eat
        refine ⟨(-1), y, y, ?_, ?_, hR⟩
        · simp (disch := first | assumption | omega) only [rX11_plan, mX11_within, c1, c2, c3, and_self, hcp, eoo, eat, Option.bind_some, Option.toList_some, Option.toList_none, List.cons_append, List.nil_append, fk_b_0, nI_add, Nat.add_zero, Nat.zero_add, not_true_eq_false, not_false_eq_true, if_true, if_false, sI_le_t, sI_le_f, sI_lt_t, sI_lt_f, sI_eq_t, sI_eq_f, sI_rem, sI_div, sI_m1a, sI_m1b, sI_m1c, sI_m1d, sI_m1e, sI_m1f, sI_m2a, sI_m2b, sI_sub, pk_mul, sI_dec, fk_u_s, fk_u_o, sI_dec0, sI_z, sI_md, Bool.false_eq_true, Nat.reduceAdd, Nat.reduceMul, Nat.reduceSub, Nat.reduceMod, Nat.reduceDiv]
        · have eli := mX12_livOf (N := N) (l := l) (d := d + 7) p1 (w := nI o)
          rw [h1] at eli
          have eal := mX12_aliveOf (N := N) (l := l) (d := d + 7) p1 hj
          have ea2 := mX12_isAt (N := N) (l := l) (d := d + 6) (y := y) (j := nI j) hq hm
          rw [fk_b_f (by rw [nI_clamp (by omega)]; exact fun z => hat z.2.2)] at ea2
          simp (disch := first | assumption | omega) only [rX12_plan, mX12_isOne, mX12_in, c1, c2b, c3b, and_self, e832, eli, eal, ea2, Option.bind_some, Option.toList_some, Option.toList_none, List.cons_append, List.nil_append, fk_b_0, nI_add, Nat.add_zero, Nat.zero_add, not_true_eq_false, not_false_eq_true, if_true, if_false, sI_le_t, sI_le_f, sI_lt_t, sI_lt_f, sI_eq_t, sI_eq_f, sI_rem, sI_div, sI_m1a, sI_m1b, sI_m1c, sI_m1d, sI_m1e, sI_m1f, sI_m2a, sI_m2b, sI_sub, pk_mul, sI_dec, fk_u_s, fk_u_o, sI_dec0, sI_z, sI_md, Bool.false_eq_true, Nat.reduceAdd, Nat.reduceMul, Nat.reduceSub, Nat.reduceMod, Nat.reduceDiv]
    · have eoo := mX8_onlyOneOf_no (N := N) (l := l) (d := d + 7) hp33 p3 p1 o4 h1
      have eat := mX8_isAtPlace_no (N := N) (l := l) (d := d + 7) (j := (-1)) hp33 e2 fun z => absurd z.1 (by decide)
      have eli := mX12_livOf (N := N) (l := l) (d := d + 7) p1 (w := nI o)
      have l64 := ab_lo_64 p1 (w := nI o)
      have e1 : ¬ nI (ab_lo (y 247) (nI o)) = nI 1 := fun z => h1 ((nI_eq (by omega) (by omega)).mp z)
      refine ⟨(-1), y, y, ?_, ?_, hR⟩
      · simp (disch := first | assumption | omega) only [rX11_plan, mX11_within, c1, c2, c3, and_self, hcp, eoo, eat, Option.bind_some, Option.toList_some, Option.toList_none, List.cons_append, List.nil_append, fk_b_0, nI_add, Nat.add_zero, Nat.zero_add, not_true_eq_false, not_false_eq_true, if_true, if_false, sI_le_t, sI_le_f, sI_lt_t, sI_lt_f, sI_eq_t, sI_eq_f, sI_rem, sI_div, sI_m1a, sI_m1b, sI_m1c, sI_m1d, sI_m1e, sI_m1f, sI_m2a, sI_m2b, sI_sub, pk_mul, sI_dec, fk_u_s, fk_u_o, sI_dec0, sI_z, sI_md, Bool.false_eq_true, Nat.reduceAdd, Nat.reduceMul, Nat.reduceSub, Nat.reduceMod, Nat.reduceDiv]
      · simp (disch := first | assumption | omega) only [rX12_plan, mX12_isOne, mX12_in, c1, c2b, c3b, and_self, e832, eli, e1, Option.bind_some, Option.toList_some, Option.toList_none, List.cons_append, List.nil_append, fk_b_0, nI_add, Nat.add_zero, Nat.zero_add, not_true_eq_false, not_false_eq_true, if_true, if_false, sI_le_t, sI_le_f, sI_lt_t, sI_lt_f, sI_eq_t, sI_eq_f, sI_rem, sI_div, sI_m1a, sI_m1b, sI_m1c, sI_m1d, sI_m1e, sI_m1f, sI_m2a, sI_m2b, sI_sub, pk_mul, sI_dec, fk_u_s, fk_u_o, sI_dec0, sI_z, sI_md, Bool.false_eq_true, Nat.reduceAdd, Nat.reduceMul, Nat.reduceSub, Nat.reduceMod, Nat.reduceDiv]
  · obtain ⟨a1, a2⟩ := cl_plan_no (N := N) (l := l) (d := d) hR e3 e832 hg
    exact ⟨(-1), y, y, a1, a2, hR⟩
end PLE
