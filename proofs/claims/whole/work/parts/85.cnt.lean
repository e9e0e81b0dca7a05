section CNT
variable {N : Nat} {S : Nat → Int32} {v y y1 y2 z : Nat → Nat → Int32} {l : Nat → Nat → Int64} {d p p' n H t : Nat} {T A A' : Nat → Int32}
theorem fk_wi {w : Int32} {a m : Nat} (ha : a < 1000) (hm : m < 1000) : (nI 0 ≤ w - nI a ∧ w - nI a < nI m) ↔ ∃ k, k < m ∧ w = nI (a + k) := by
  constructor
  · rintro ⟨h1, h2⟩
    obtain ⟨k, hk, e⟩ := fk_ixn h1 h2 (by omega)
    refine ⟨k, hk, ?_⟩
    rw [← nI_add, Int32.add_comm, ← e, Int32.sub_add_cancel]
  · rintro ⟨k, hk, rfl⟩
    rw [sI_sub (by omega), show a + k - a = k by omega]
    exact ⟨nI_le (by omega) (by omega), nI_lt hk (by omega)⟩
theorem fk_wi2 {w : Int32} {a b m : Nat} (hab : a + m = b + 1) (hb : b < 1000) : (nI a ≤ w ∧ w ≤ nI b) ↔ ∃ k, k < m ∧ w = nI (a + k) := by
  constructor
  · rintro ⟨h1, h2⟩
    obtain ⟨k, hk, rfl⟩ := fk_ixn2 (Int32.le_trans (nI_le (by omega) (by omega)) h1) h2 (by omega)
    have := (nI_leI (by omega) (by omega)).mp h1
    exact ⟨k - a, by omega, by rw [show a + (k - a) = k by omega]⟩
  · rintro ⟨k, hk, rfl⟩
    exact ⟨nI_le (by omega) (by omega), nI_le (by omega) (by omega)⟩
theorem n_nt {w : Int32} {a : Nat} (ha : a < 1000) (hno : ¬ ∃ k, k < 32 ∧ w = nI (a + k)) : fk_ev (d + 1) qX5_isTold 0 [.ref 18, .int ((w - nI a))] [] (fk_E N y l) = some (some (.int ((nI 0))), fk_E N y l) := by
  have h : ¬ (nI 0 ≤ w - nI a ∧ w - nI a < nI 32) := fun z => hno ((fk_wi ha (by omega)).mp z)
  simp (disch := first | assumption | omega) only [rX5_isTold, mX11_within, h, Option.bind_some, Option.toList_some, Option.toList_none, List.cons_append, List.nil_append, fk_b_0, nI_add, Nat.add_zero, Nat.zero_add, not_true_eq_false, not_false_eq_true, if_true, if_false, sI_le_t, sI_le_f, sI_lt_t, sI_lt_f, sI_eq_t, sI_eq_f, sI_rem, sI_div, sI_m1a, sI_m1b, sI_m1c, sI_m1d, sI_m1e, sI_m1f, sI_m2a, sI_m2b, sI_sub, pk_mul, sI_dec, fk_u_s, fk_u_o, sI_dec0, sI_z, sI_md, Bool.false_eq_true, Nat.reduceAdd, Nat.reduceMul, Nat.reduceSub, Nat.reduceMod, Nat.reduceDiv]
/-- a told road, in the class -/
theorem n_td (hv : ab_rv v) (hN : ck_nt v y) {r : Nat} (hr : r < 32) : fk_ev (d + 1) qX5_isTold 0 [.ref 18, .int ((nI r))] [] (fk_E N y l) = some (some (.int ((fk_b (fk_tb (v 246 3) r = true)))), fk_E N y l) := by
  rw [mX5_isToldN hr]
  by_cases ht : fk_tb (v 246 3) r = true
  · obtain ⟨n1, _⟩ := hN.1 r hr ht
    obtain ⟨⟨q, hq, e⟩, _⟩ := hv.1 r hr ht
    rw [fk_b_t ht, n1, e, fk_b_t (nI_le (by omega) (by omega))]
  · rw [fk_b_f ht, hN.2.1 r hr ht, fk_b_f (by decide)]
theorem mX5_toldRoads (hv : ab_rv v) (hN : ck_nt v y) : fk_ev (d + 2) qX5_toldRoads 0 [.ref 18, .null, .null] [] (fk_E N y l) = some (some (.int ((nI (fk_cf (fun r => fk_tb (v 246 3) r) 0 32)))), fk_E N y l) := by
  have key := fk_loopr (σ := Nat) (fun k t => fk_ev (d + 2) qX5_toldRoads 4 [.ref 18, .int (nI t), .int (nI k)] [] (fk_E N y l)) (fun k t => t = fk_cf (fun r => fk_tb (v 246 3) r) 0 k) 32 (by
    intro k s hk i1
    try dsimp only at i1 ⊢
    have ht := n_td (N := N) (l := l) (d := d) hv hN hk
    rw [hX5_toldRoads_4]
    by_cases c : fk_tb (v 246 3) k = true
    · rw [fk_b_t c] at ht
      refine ⟨s + 1, ?_, by rw [fk_cf_succ, ← i1, Nat.zero_add, if_pos c]⟩
      simp (disch := first | assumption | omega) only [rX5_toldRoads, ht, Option.bind_some, Option.toList_some, Option.toList_none, List.cons_append, List.nil_append, fk_b_0, nI_add, Nat.add_zero, Nat.zero_add, not_true_eq_false, not_false_eq_true, if_true, if_false, sI_le_t, sI_le_f, sI_lt_t, sI_lt_f, sI_eq_t, sI_eq_f, sI_rem, sI_div, sI_m1a, sI_m1b, sI_m1c, sI_m1d, sI_m1e, sI_m1f, sI_m2a, sI_m2b, sI_sub, pk_mul, sI_dec, fk_u_s, fk_u_o, sI_dec0, sI_z, sI_md, Bool.false_eq_true, Nat.reduceAdd, Nat.reduceMul, Nat.reduceSub, Nat.reduceMod, Nat.reduceDiv]
    · rw [fk_b_f c] at ht
      refine ⟨s, ?_, by rw [fk_cf_succ, ← i1, Nat.zero_add, if_neg c, Nat.add_zero]⟩
      simp (disch := first | assumption | omega) only [rX5_toldRoads, ht, Option.bind_some, Option.toList_some, Option.toList_none, List.cons_append, List.nil_append, fk_b_0, nI_add, Nat.add_zero, Nat.zero_add, not_true_eq_false, not_false_eq_true, if_true, if_false, sI_le_t, sI_le_f, sI_lt_t, sI_lt_f, sI_eq_t, sI_eq_f, sI_rem, sI_div, sI_m1a, sI_m1b, sI_m1c, sI_m1d, sI_m1e, sI_m1f, sI_m2a, sI_m2b, sI_sub, pk_mul, sI_dec, fk_u_s, fk_u_o, sI_dec0, sI_z, sI_md, Bool.false_eq_true, Nat.reduceAdd, Nat.reduceMul, Nat.reduceSub, Nat.reduceMod, Nat.reduceDiv]) 32 0 0 rfl rfl
  obtain ⟨s, e, i1⟩ := key
  try dsimp only at e i1
  simp (disch := first | assumption | omega) only [rX5_toldRoads, Option.bind_some, Option.toList_some, Option.toList_none, List.cons_append, List.nil_append, fk_b_0, nI_add, Nat.add_zero, Nat.zero_add, not_true_eq_false, not_false_eq_true, if_true, if_false, sI_le_t, sI_le_f, sI_lt_t, sI_lt_f, sI_eq_t, sI_eq_f, sI_rem, sI_div, sI_m1a, sI_m1b, sI_m1c, sI_m1d, sI_m1e, sI_m1f, sI_m2a, sI_m2b, sI_sub, pk_mul, sI_dec, fk_u_s, fk_u_o, sI_dec0, sI_z, sI_md, Bool.false_eq_true, Nat.reduceAdd, Nat.reduceMul, Nat.reduceSub, Nat.reduceMod, Nat.reduceDiv]
  rw [e, hX5_toldRoads_4]
  simp (disch := first | assumption | omega) only [rX5_toldRoads, Option.bind_some, Option.toList_some, Option.toList_none, List.cons_append, List.nil_append, fk_b_0, nI_add, Nat.add_zero, Nat.zero_add, not_true_eq_false, not_false_eq_true, if_true, if_false, sI_le_t, sI_le_f, sI_lt_t, sI_lt_f, sI_eq_t, sI_eq_f, sI_rem, sI_div, sI_m1a, sI_m1b, sI_m1c, sI_m1d, sI_m1e, sI_m1f, sI_m2a, sI_m2b, sI_sub, pk_mul, sI_dec, fk_u_s, fk_u_o, sI_dec0, sI_z, sI_md, Bool.false_eq_true, Nat.reduceAdd, Nat.reduceMul, Nat.reduceSub, Nat.reduceMod, Nat.reduceDiv]
  rw [i1]
theorem mX12_roadMany : fk_ev (d + 2) qX12_roadMany 0 [.ref 246, .null, .null] [] (fk_E N y l) = some (some (.int ((nI (fk_cf (fun r => fk_tb (y 246 3) r) 0 32)))), fk_E N y l) := by
  have key := fk_loopr (σ := Nat) (fun k t => fk_ev (d + 2) qX12_roadMany 4 [.ref 246, .int (nI t), .int (nI k)] [] (fk_E N y l)) (fun k t => t = fk_cf (fun r => fk_tb (y 246 3) r) 0 k) 32 (by
    intro k s hk i1
    try dsimp only at i1 ⊢
    have ht := mX12_isRoadN (N := N) (y := y) (l := l) (d := d) hk
    rw [hX12_roadMany_4]
    by_cases c : fk_tb (y 246 3) k = true
    · rw [fk_b_t c] at ht
      refine ⟨s + 1, ?_, by rw [fk_cf_succ, ← i1, Nat.zero_add, if_pos c]⟩
      simp (disch := first | assumption | omega) only [rX12_roadMany, ht, Option.bind_some, Option.toList_some, Option.toList_none, List.cons_append, List.nil_append, fk_b_0, nI_add, Nat.add_zero, Nat.zero_add, not_true_eq_false, not_false_eq_true, if_true, if_false, sI_le_t, sI_le_f, sI_lt_t, sI_lt_f, sI_eq_t, sI_eq_f, sI_rem, sI_div, sI_m1a, sI_m1b, sI_m1c, sI_m1d, sI_m1e, sI_m1f, sI_m2a, sI_m2b, sI_sub, pk_mul, sI_dec, fk_u_s, fk_u_o, sI_dec0, sI_z, sI_md, Bool.false_eq_true, Nat.reduceAdd, Nat.reduceMul, Nat.reduceSub, Nat.reduceMod, Nat.reduceDiv]
    · rw [fk_b_f c] at ht
      refine ⟨s, ?_, by rw [fk_cf_succ, ← i1, Nat.zero_add, if_neg c, Nat.add_zero]⟩
      simp (disch := first | assumption | omega) only [rX12_roadMany, ht, Option.bind_some, Option.toList_some, Option.toList_none, List.cons_append, List.nil_append, fk_b_0, nI_add, Nat.add_zero, Nat.zero_add, not_true_eq_false, not_false_eq_true, if_true, if_false, sI_le_t, sI_le_f, sI_lt_t, sI_lt_f, sI_eq_t, sI_eq_f, sI_rem, sI_div, sI_m1a, sI_m1b, sI_m1c, sI_m1d, sI_m1e, sI_m1f, sI_m2a, sI_m2b, sI_sub, pk_mul, sI_dec, fk_u_s, fk_u_o, sI_dec0, sI_z, sI_md, Bool.false_eq_true, Nat.reduceAdd, Nat.reduceMul, Nat.reduceSub, Nat.reduceMod, Nat.reduceDiv]) 32 0 0 rfl rfl
  obtain ⟨s, e, i1⟩ := key
  try dsimp only at e i1
  simp (disch := first | assumption | omega) only [rX12_roadMany, Option.bind_some, Option.toList_some, Option.toList_none, List.cons_append, List.nil_append, fk_b_0, nI_add, Nat.add_zero, Nat.zero_add, not_true_eq_false, not_false_eq_true, if_true, if_false, sI_le_t, sI_le_f, sI_lt_t, sI_lt_f, sI_eq_t, sI_eq_f, sI_rem, sI_div, sI_m1a, sI_m1b, sI_m1c, sI_m1d, sI_m1e, sI_m1f, sI_m2a, sI_m2b, sI_sub, pk_mul, sI_dec, fk_u_s, fk_u_o, sI_dec0, sI_z, sI_md, Bool.false_eq_true, Nat.reduceAdd, Nat.reduceMul, Nat.reduceSub, Nat.reduceMod, Nat.reduceDiv]
  rw [e, hX12_roadMany_4]
  simp (disch := first | assumption | omega) only [rX12_roadMany, Option.bind_some, Option.toList_some, Option.toList_none, List.cons_append, List.nil_append, fk_b_0, nI_add, Nat.add_zero, Nat.zero_add, not_true_eq_false, not_false_eq_true, if_true, if_false, sI_le_t, sI_le_f, sI_lt_t, sI_lt_f, sI_eq_t, sI_eq_f, sI_rem, sI_div, sI_m1a, sI_m1b, sI_m1c, sI_m1d, sI_m1e, sI_m1f, sI_m2a, sI_m2b, sI_sub, pk_mul, sI_dec, fk_u_s, fk_u_o, sI_dec0, sI_z, sI_md, Bool.false_eq_true, Nat.reduceAdd, Nat.reduceMul, Nat.reduceSub, Nat.reduceMod, Nat.reduceDiv]
  rw [i1]
theorem fk_10c {w : Int32} : (w.toInt < 0 ∨ 9 < w.toInt) ∨ ∃ k : Nat, k < 10 ∧ w = nI k := by
  by_cases h : nI 0 ≤ w ∧ w < nI 10
  · exact Or.inr (fk_ixn h.1 h.2 (by omega))
  · exact Or.inl (fk_ixo (n := 9) (by omega) h (by omega))
theorem fk_dis {a b k m j m' : Nat} (hk : k < m) (h : a + m ≤ b ∨ b + m' ≤ a) (ha : a + m < 1000) (hb : b + m' < 1000) : ¬ ∃ j, j < m' ∧ nI (a + k) = nI (b + j) := by
  rintro ⟨j, hj, e⟩
  have := (nI_eq (by omega) (by omega)).mp e
  omega
theorem cl_count (hR : cR S y) {w : Int32} : ∃ a, fk_ev (d + 8) qX11_count 0 [.ref 1, .int w] [] (fk_E N y l) = some (some (.int a), fk_E N y l) ∧ fk_ev (d + 8) qX12_count 0 [.ref 246, .int w] [] (fk_E N y l) = some (some (.int a), fk_E N y l) := by
  obtain ⟨r0, r1, r2, ⟨n, H, p1, p2, p3, p4⟩, r4, ⟨t, t1, t2, t3, t4⟩, ⟨c, W, q1, q2, q3, q4, q5, q6⟩, r7, r8, r9⟩ := id hR
  have hn := p1.1
  have hm := p1.2.1
  have h8 := n8
  have hlaw := fk_at_law q1
  obtain ⟨⟨g1, g2, g3, g4, g5, g6, g7⟩, _⟩ := id p3
  rw [fk_add0] at g4 g5 g6 g7
  rcases fk_10c (w := w) with hw | ⟨k, hk, rfl⟩
  · by_cases c20 : ∃ k, k < 32 ∧ w = nI (20 + k)
    · obtain ⟨k, hk, rfl⟩ := c20
      have d60 := n_nt (N := N) (y := y) (l := l) (d := d + 5) (a := 60) (by omega) (fk_dis (a := 20) (m := 32) (j := 0) hk (by omega) (by omega) (by omega))
      have d100 := n_nt (N := N) (y := y) (l := l) (d := d + 5) (a := 100) (by omega) (fk_dis (a := 20) (m := 32) (j := 0) hk (by omega) (by omega) (by omega))
      have d140 : ¬ (nI 0 ≤ nI (20 + k) - nI 140 ∧ nI (20 + k) - nI 140 < nI 16) := fun z => fk_dis (a := 20) (m := 32) (m' := 16) (b := 140) (j := 0) hk (by omega) (by omega) (by omega) ((fk_wi (by omega) (by omega)).mp z)
      have d20 := n_td (N := N) (l := l) (d := d + 5) r1 r2 hk
      have i20 := mX12_isRoadN (N := N) (y := y) (l := l) (d := d + 6) hk
      by_cases ct : fk_tb (y 246 3) k = true
      · rw [fk_b_t ct] at d20 i20
        refine ⟨y 250 k, ?_, ?_⟩
        · simp (disch := first | assumption | omega) only [rX11_count, rX5_tell, show 20 + k - 20 = k by omega, d20, (r2.1 k hk ct).1, Option.bind_some, Option.toList_some, Option.toList_none, List.cons_append, List.nil_append, fk_b_0, nI_add, Nat.add_zero, Nat.zero_add, not_true_eq_false, not_false_eq_true, if_true, if_false, sI_le_t, sI_le_f, sI_lt_t, sI_lt_f, sI_eq_t, sI_eq_f, sI_rem, sI_div, sI_m1a, sI_m1b, sI_m1c, sI_m1d, sI_m1e, sI_m1f, sI_m2a, sI_m2b, sI_sub, pk_mul, sI_dec, fk_u_s, fk_u_o, sI_dec0, sI_z, sI_md, Bool.false_eq_true, Nat.reduceAdd, Nat.reduceMul, Nat.reduceSub, Nat.reduceMod, Nat.reduceDiv]
        · simp (disch := first | assumption | omega) only [rX12_count, mX12_in, and_self, show 20 + k - 20 = k by omega, i20, Option.bind_some, Option.toList_some, Option.toList_none, List.cons_append, List.nil_append, fk_b_0, nI_add, Nat.add_zero, Nat.zero_add, not_true_eq_false, not_false_eq_true, if_true, if_false, sI_le_t, sI_le_f, sI_lt_t, sI_lt_f, sI_eq_t, sI_eq_f, sI_rem, sI_div, sI_m1a, sI_m1b, sI_m1c, sI_m1d, sI_m1e, sI_m1f, sI_m2a, sI_m2b, sI_sub, pk_mul, sI_dec, fk_u_s, fk_u_o, sI_dec0, sI_z, sI_md, Bool.false_eq_true, Nat.reduceAdd, Nat.reduceMul, Nat.reduceSub, Nat.reduceMod, Nat.reduceDiv]
      · rw [fk_b_f ct] at d20 i20
        have e1 : ¬ (nI 60 ≤ nI (20 + k) ∧ nI (20 + k) ≤ nI 91) := fun z => by rw [fk_wi2 (m := 32) (by omega) (by omega)] at z; exact fk_dis (a := 20) (m := 32) (j := 0) hk (by omega) (by omega) (by omega) z
        have e2 : ¬ (nI 100 ≤ nI (20 + k) ∧ nI (20 + k) ≤ nI 131) := fun z => by rw [fk_wi2 (m := 32) (by omega) (by omega)] at z; exact fk_dis (a := 20) (m := 32) (j := 0) hk (by omega) (by omega) (by omega) z
        have e3 : ¬ (nI 140 ≤ nI (20 + k) ∧ nI (20 + k) ≤ nI 155) := fun z => by rw [fk_wi2 (m := 16) (by omega) (by omega)] at z; exact fk_dis (a := 20) (m := 32) (j := 0) hk (by omega) (by omega) (by omega) z
        refine ⟨(-1), ?_, ?_⟩
        · have s20 : nI (20 + k) - nI 20 = nI k := by rw [sI_sub (by omega), show 20 + k - 20 = k by omega]
          have tl : fk_ev (d + 7) qX5_tell 0 [.ref 18, .int ((nI (20 + k))), .null] [] (fk_E N y l) = some (some (.int ((-1))), fk_E N y l) := by
            simp (disch := first | assumption | omega) only [rX5_tell, s20, d20, d60, d100, mX11_within, d140, Option.bind_some, Option.toList_some, Option.toList_none, List.cons_append, List.nil_append, fk_b_0, not_true_eq_false, not_false_eq_true, if_true, if_false]
          simp (disch := first | assumption | omega) only [rX11_count, tl, Option.bind_some, Option.toList_some, Option.toList_none, List.cons_append, List.nil_append, fk_b_0, nI_add, Nat.add_zero, Nat.zero_add, not_true_eq_false, not_false_eq_true, if_true, if_false, sI_le_t, sI_le_f, sI_lt_t, sI_lt_f, sI_eq_t, sI_eq_f, sI_rem, sI_div, sI_m1a, sI_m1b, sI_m1c, sI_m1d, sI_m1e, sI_m1f, sI_m2a, sI_m2b, sI_sub, pk_mul, sI_dec, fk_u_s, fk_u_o, sI_dec0, sI_z, sI_md, Bool.false_eq_true, Nat.reduceAdd, Nat.reduceMul, Nat.reduceSub, Nat.reduceMod, Nat.reduceDiv]
        · have e0 : nI 20 ≤ nI (20 + k) ∧ nI (20 + k) ≤ nI 51 := ⟨nI_le (by omega) (by omega), nI_le (by omega) (by omega)⟩
          have s20 : nI (20 + k) - nI 20 = nI k := by rw [sI_sub (by omega), show 20 + k - 20 = k by omega]
          simp (disch := first | assumption | omega) only [rX12_count, mX12_in, e0, e1, e2, e3, s20, i20, and_self, Option.bind_some, Option.toList_some, Option.toList_none, List.cons_append, List.nil_append, fk_b_0, not_true_eq_false, not_false_eq_true, if_true, if_false]
    · have d20 := n_nt (N := N) (y := y) (l := l) (d := d + 5) (a := 20) (by omega) c20
      have e0 : ¬ (nI 20 ≤ w ∧ w ≤ nI 51) := fun z => c20 ((fk_wi2 (m := 32) (by omega) (by omega)).mp z)
      by_cases c60 : ∃ k, k < 32 ∧ w = nI (60 + k)
      · obtain ⟨k, hk, ek⟩ := c60
        have nd : ∀ b m', (b = 100 ∧ m' = 32) ∨ (b = 140 ∧ m' = 16) → ¬ ∃ j, j < m' ∧ w = nI (b + j) := fun b m' h => by
          rw [ek]
          exact fk_dis (a := 60) (m := 32) (j := 0) hk (by omega) (by omega) (by omega)
        have d100 := n_nt (N := N) (y := y) (l := l) (d := d + 5) (a := 100) (by omega) (nd 100 32 (by omega))
        have d140 : ¬ (nI 0 ≤ w - nI 140 ∧ w - nI 140 < nI 16) := fun z => nd 140 16 (by omega) ((fk_wi (by omega) (by omega)).mp z)
        have s60 : w - nI 60 = nI k := by rw [ek, sI_sub (by omega), show 60 + k - 60 = k by omega]
        have d60 := n_td (N := N) (l := l) (d := d + 5) r1 r2 hk
        have i60 := mX12_isRoadN (N := N) (y := y) (l := l) (d := d + 6) hk
        have e1 : nI 60 ≤ w ∧ w ≤ nI 91 := (fk_wi2 (m := 32) (by omega) (by omega)).mpr ⟨k, hk, ek⟩
        have e2 : ¬ (nI 100 ≤ w ∧ w ≤ nI 131) := fun z => nd 100 32 (by omega) ((fk_wi2 (m := 32) (by omega) (by omega)).mp z)
        have e3 : ¬ (nI 140 ≤ w ∧ w ≤ nI 155) := fun z => nd 140 16 (by omega) ((fk_wi2 (m := 16) (by omega) (by omega)).mp z)
        by_cases ct : fk_tb (y 246 3) k = true
        · rw [fk_b_t ct] at d60 i60
          refine ⟨y 251 k, ?_, ?_⟩
          · have tl : fk_ev (d + 7) qX5_tell 0 [.ref 18, .int w, .null] [] (fk_E N y l) = some (some (.int ((y 251 k))), fk_E N y l) := by
              simp (disch := first | assumption | omega) only [rX5_tell, d20, s60, d60, (r2.1 k hk ct).2.1, Option.bind_some, Option.toList_some, Option.toList_none, List.cons_append, List.nil_append, fk_b_0, nI_add, Nat.add_zero, Nat.zero_add, not_true_eq_false, not_false_eq_true, if_true, if_false, sI_le_t, sI_le_f, sI_lt_t, sI_lt_f, sI_eq_t, sI_eq_f, sI_rem, sI_div, sI_m1a, sI_m1b, sI_m1c, sI_m1d, sI_m1e, sI_m1f, sI_m2a, sI_m2b, sI_sub, pk_mul, sI_dec, fk_u_s, fk_u_o, sI_dec0, sI_z, sI_md, Bool.false_eq_true, Nat.reduceAdd, Nat.reduceMul, Nat.reduceSub, Nat.reduceMod, Nat.reduceDiv]
            simp (disch := first | assumption | omega) only [rX11_count, tl, Option.bind_some, Option.toList_some, Option.toList_none, List.cons_append, List.nil_append, fk_b_0, nI_add, Nat.add_zero, Nat.zero_add, not_true_eq_false, not_false_eq_true, if_true, if_false, sI_le_t, sI_le_f, sI_lt_t, sI_lt_f, sI_eq_t, sI_eq_f, sI_rem, sI_div, sI_m1a, sI_m1b, sI_m1c, sI_m1d, sI_m1e, sI_m1f, sI_m2a, sI_m2b, sI_sub, pk_mul, sI_dec, fk_u_s, fk_u_o, sI_dec0, sI_z, sI_md, Bool.false_eq_true, Nat.reduceAdd, Nat.reduceMul, Nat.reduceSub, Nat.reduceMod, Nat.reduceDiv]
          · simp (disch := first | assumption | omega) only [rX12_count, mX12_in, e0, e1, and_self, s60, i60, Option.bind_some, Option.toList_some, Option.toList_none, List.cons_append, List.nil_append, fk_b_0, nI_add, Nat.add_zero, Nat.zero_add, not_true_eq_false, not_false_eq_true, if_true, if_false, sI_le_t, sI_le_f, sI_lt_t, sI_lt_f, sI_eq_t, sI_eq_f, sI_rem, sI_div, sI_m1a, sI_m1b, sI_m1c, sI_m1d, sI_m1e, sI_m1f, sI_m2a, sI_m2b, sI_sub, pk_mul, sI_dec, fk_u_s, fk_u_o, sI_dec0, sI_z, sI_md, Bool.false_eq_true, Nat.reduceAdd, Nat.reduceMul, Nat.reduceSub, Nat.reduceMod, Nat.reduceDiv]
        · rw [fk_b_f ct] at d60 i60
          refine ⟨(-1), ?_, ?_⟩
          · have tl : fk_ev (d + 7) qX5_tell 0 [.ref 18, .int w, .null] [] (fk_E N y l) = some (some (.int ((-1))), fk_E N y l) := by
              simp (disch := first | assumption | omega) only [rX5_tell, d20, s60, d60, d100, mX11_within, d140, Option.bind_some, Option.toList_some, Option.toList_none, List.cons_append, List.nil_append, fk_b_0, nI_add, Nat.add_zero, Nat.zero_add, not_true_eq_false, not_false_eq_true, if_true, if_false, sI_le_t, sI_le_f, sI_lt_t, sI_lt_f, sI_eq_t, sI_eq_f, sI_rem, sI_div, sI_m1a, sI_m1b, sI_m1c, sI_m1d, sI_m1e, sI_m1f, sI_m2a, sI_m2b, sI_sub, pk_mul, sI_dec, fk_u_s, fk_u_o, sI_dec0, sI_z, sI_md, Bool.false_eq_true, Nat.reduceAdd, Nat.reduceMul, Nat.reduceSub, Nat.reduceMod, Nat.reduceDiv]
            simp (disch := first | assumption | omega) only [rX11_count, tl, Option.bind_some, Option.toList_some, Option.toList_none, List.cons_append, List.nil_append, fk_b_0, nI_add, Nat.add_zero, Nat.zero_add, not_true_eq_false, not_false_eq_true, if_true, if_false, sI_le_t, sI_le_f, sI_lt_t, sI_lt_f, sI_eq_t, sI_eq_f, sI_rem, sI_div, sI_m1a, sI_m1b, sI_m1c, sI_m1d, sI_m1e, sI_m1f, sI_m2a, sI_m2b, sI_sub, pk_mul, sI_dec, fk_u_s, fk_u_o, sI_dec0, sI_z, sI_md, Bool.false_eq_true, Nat.reduceAdd, Nat.reduceMul, Nat.reduceSub, Nat.reduceMod, Nat.reduceDiv]
          · simp (disch := first | assumption | omega) only [rX12_count, mX12_in, e0, e1, e2, e3, and_self, s60, i60, Option.bind_some, Option.toList_some, Option.toList_none, List.cons_append, List.nil_append, fk_b_0, nI_add, Nat.add_zero, Nat.zero_add, not_true_eq_false, not_false_eq_true, if_true, if_false, sI_le_t, sI_le_f, sI_lt_t, sI_lt_f, sI_eq_t, sI_eq_f, sI_rem, sI_div, sI_m1a, sI_m1b, sI_m1c, sI_m1d, sI_m1e, sI_m1f, sI_m2a, sI_m2b, sI_sub, pk_mul, sI_dec, fk_u_s, fk_u_o, sI_dec0, sI_z, sI_md, Bool.false_eq_true, Nat.reduceAdd, Nat.reduceMul, Nat.reduceSub, Nat.reduceMod, Nat.reduceDiv]
      · have d60 := n_nt (N := N) (y := y) (l := l) (d := d + 5) (a := 60) (by omega) c60
        have e1 : ¬ (nI 60 ≤ w ∧ w ≤ nI 91) := fun z => c60 ((fk_wi2 (m := 32) (by omega) (by omega)).mp z)
        by_cases c100 : ∃ k, k < 32 ∧ w = nI (100 + k)
        · obtain ⟨k, hk, ek⟩ := c100
          have nd : ¬ ∃ j, j < 16 ∧ w = nI (140 + j) := by
            rw [ek]
            exact fk_dis (a := 100) (m := 32) (j := 0) hk (by omega) (by omega) (by omega)
          have d140 : ¬ (nI 0 ≤ w - nI 140 ∧ w - nI 140 < nI 16) := fun z => nd ((fk_wi (by omega) (by omega)).mp z)
          have s100 : w - nI 100 = nI k := by rw [ek, sI_sub (by omega), show 100 + k - 100 = k by omega]
          have d100 := n_td (N := N) (l := l) (d := d + 5) r1 r2 hk
          have i100 := mX12_isRoadN (N := N) (y := y) (l := l) (d := d + 6) hk
          have e2 : nI 100 ≤ w ∧ w ≤ nI 131 := (fk_wi2 (m := 32) (by omega) (by omega)).mpr ⟨k, hk, ek⟩
          have e3 : ¬ (nI 140 ≤ w ∧ w ≤ nI 155) := fun z => nd ((fk_wi2 (m := 16) (by omega) (by omega)).mp z)
          by_cases ct : fk_tb (y 246 3) k = true
          · rw [fk_b_t ct] at d100 i100
            refine ⟨y 252 k, ?_, ?_⟩
            · have tl : fk_ev (d + 7) qX5_tell 0 [.ref 18, .int w, .null] [] (fk_E N y l) = some (some (.int ((y 252 k))), fk_E N y l) := by
                simp (disch := first | assumption | omega) only [rX5_tell, d20, d60, s100, d100, (r2.1 k hk ct).2.2, Option.bind_some, Option.toList_some, Option.toList_none, List.cons_append, List.nil_append, fk_b_0, nI_add, Nat.add_zero, Nat.zero_add, not_true_eq_false, not_false_eq_true, if_true, if_false, sI_le_t, sI_le_f, sI_lt_t, sI_lt_f, sI_eq_t, sI_eq_f, sI_rem, sI_div, sI_m1a, sI_m1b, sI_m1c, sI_m1d, sI_m1e, sI_m1f, sI_m2a, sI_m2b, sI_sub, pk_mul, sI_dec, fk_u_s, fk_u_o, sI_dec0, sI_z, sI_md, Bool.false_eq_true, Nat.reduceAdd, Nat.reduceMul, Nat.reduceSub, Nat.reduceMod, Nat.reduceDiv]
              simp (disch := first | assumption | omega) only [rX11_count, tl, Option.bind_some, Option.toList_some, Option.toList_none, List.cons_append, List.nil_append, fk_b_0, nI_add, Nat.add_zero, Nat.zero_add, not_true_eq_false, not_false_eq_true, if_true, if_false, sI_le_t, sI_le_f, sI_lt_t, sI_lt_f, sI_eq_t, sI_eq_f, sI_rem, sI_div, sI_m1a, sI_m1b, sI_m1c, sI_m1d, sI_m1e, sI_m1f, sI_m2a, sI_m2b, sI_sub, pk_mul, sI_dec, fk_u_s, fk_u_o, sI_dec0, sI_z, sI_md, Bool.false_eq_true, Nat.reduceAdd, Nat.reduceMul, Nat.reduceSub, Nat.reduceMod, Nat.reduceDiv]
            · simp (disch := first | assumption | omega) only [rX12_count, mX12_in, e0, e1, e2, and_self, s100, i100, Option.bind_some, Option.toList_some, Option.toList_none, List.cons_append, List.nil_append, fk_b_0, nI_add, Nat.add_zero, Nat.zero_add, not_true_eq_false, not_false_eq_true, if_true, if_false, sI_le_t, sI_le_f, sI_lt_t, sI_lt_f, sI_eq_t, sI_eq_f, sI_rem, sI_div, sI_m1a, sI_m1b, sI_m1c, sI_m1d, sI_m1e, sI_m1f, sI_m2a, sI_m2b, sI_sub, pk_mul, sI_dec, fk_u_s, fk_u_o, sI_dec0, sI_z, sI_md, Bool.false_eq_true, Nat.reduceAdd, Nat.reduceMul, Nat.reduceSub, Nat.reduceMod, Nat.reduceDiv]
          · rw [fk_b_f ct] at d100 i100
            refine ⟨(-1), ?_, ?_⟩
            · have tl : fk_ev (d + 7) qX5_tell 0 [.ref 18, .int w, .null] [] (fk_E N y l) = some (some (.int ((-1))), fk_E N y l) := by
                simp (disch := first | assumption | omega) only [rX5_tell, d20, d60, s100, d100, mX11_within, d140, Option.bind_some, Option.toList_some, Option.toList_none, List.cons_append, List.nil_append, fk_b_0, nI_add, Nat.add_zero, Nat.zero_add, not_true_eq_false, not_false_eq_true, if_true, if_false, sI_le_t, sI_le_f, sI_lt_t, sI_lt_f, sI_eq_t, sI_eq_f, sI_rem, sI_div, sI_m1a, sI_m1b, sI_m1c, sI_m1d, sI_m1e, sI_m1f, sI_m2a, sI_m2b, sI_sub, pk_mul, sI_dec, fk_u_s, fk_u_o, sI_dec0, sI_z, sI_md, Bool.false_eq_true, Nat.reduceAdd, Nat.reduceMul, Nat.reduceSub, Nat.reduceMod, Nat.reduceDiv]
              simp (disch := first | assumption | omega) only [rX11_count, tl, Option.bind_some, Option.toList_some, Option.toList_none, List.cons_append, List.nil_append, fk_b_0, nI_add, Nat.add_zero, Nat.zero_add, not_true_eq_false, not_false_eq_true, if_true, if_false, sI_le_t, sI_le_f, sI_lt_t, sI_lt_f, sI_eq_t, sI_eq_f, sI_rem, sI_div, sI_m1a, sI_m1b, sI_m1c, sI_m1d, sI_m1e, sI_m1f, sI_m2a, sI_m2b, sI_sub, pk_mul, sI_dec, fk_u_s, fk_u_o, sI_dec0, sI_z, sI_md, Bool.false_eq_true, Nat.reduceAdd, Nat.reduceMul, Nat.reduceSub, Nat.reduceMod, Nat.reduceDiv]
            · simp (disch := first | assumption | omega) only [rX12_count, mX12_in, e0, e1, e2, e3, and_self, s100, i100, Option.bind_some, Option.toList_some, Option.toList_none, List.cons_append, List.nil_append, fk_b_0, nI_add, Nat.add_zero, Nat.zero_add, not_true_eq_false, not_false_eq_true, if_true, if_false, sI_le_t, sI_le_f, sI_lt_t, sI_lt_f, sI_eq_t, sI_eq_f, sI_rem, sI_div, sI_m1a, sI_m1b, sI_m1c, sI_m1d, sI_m1e, sI_m1f, sI_m2a, sI_m2b, sI_sub, pk_mul, sI_dec, fk_u_s, fk_u_o, sI_dec0, sI_z, sI_md, Bool.false_eq_true, Nat.reduceAdd, Nat.reduceMul, Nat.reduceSub, Nat.reduceMod, Nat.reduceDiv]
        · have d100 := n_nt (N := N) (y := y) (l := l) (d := d + 5) (a := 100) (by omega) c100
          have e2 : ¬ (nI 100 ≤ w ∧ w ≤ nI 131) := fun z => c100 ((fk_wi2 (m := 32) (by omega) (by omega)).mp z)
          by_cases c140 : ∃ k, k < 16 ∧ w = nI (140 + k)
          · obtain ⟨k, hk, ek⟩ := c140
            have s140 : w - nI 140 = nI k := by rw [ek, sI_sub (by omega), show 140 + k - 140 = k by omega]
            have e3 : nI 140 ≤ w ∧ w ≤ nI 155 := (fk_wi2 (m := 16) (by omega) (by omega)).mpr ⟨k, hk, ek⟩
            obtain ⟨f1, f2⟩ := r2.2.2.1 k hk
            have hso := r1.2.2 k hk
            rcases r1.2.1 k hk with ef | ⟨f, hf, ef⟩
            · refine ⟨(-2), ?_, ?_⟩
              · have tl : fk_ev (d + 7) qX5_tell 0 [.ref 18, .int w, .null] [] (fk_E N y l) = some (some (.int ((-2))), fk_E N y l) := by
                  simp (disch := first | assumption | omega) only [rX5_tell, d20, d60, d100, s140, mX11_within, and_self, f1, ef, show (nI 0 ≤ (-1 : Int32)) = False from eq_false (by decide), Option.bind_some, Option.toList_some, Option.toList_none, List.cons_append, List.nil_append, fk_b_0, nI_add, Nat.add_zero, Nat.zero_add, not_true_eq_false, not_false_eq_true, if_true, if_false, sI_le_t, sI_le_f, sI_lt_t, sI_lt_f, sI_eq_t, sI_eq_f, sI_rem, sI_div, sI_m1a, sI_m1b, sI_m1c, sI_m1d, sI_m1e, sI_m1f, sI_m2a, sI_m2b, sI_sub, pk_mul, sI_dec, fk_u_s, fk_u_o, sI_dec0, sI_z, sI_md, Bool.false_eq_true, Nat.reduceAdd, Nat.reduceMul, Nat.reduceSub, Nat.reduceMod, Nat.reduceDiv]
                simp (disch := first | assumption | omega) only [rX11_count, tl, Option.bind_some, Option.toList_some, Option.toList_none, List.cons_append, List.nil_append, fk_b_0, nI_add, Nat.add_zero, Nat.zero_add, not_true_eq_false, not_false_eq_true, if_true, if_false, sI_le_t, sI_le_f, sI_lt_t, sI_lt_f, sI_eq_t, sI_eq_f, sI_rem, sI_div, sI_m1a, sI_m1b, sI_m1c, sI_m1d, sI_m1e, sI_m1f, sI_m2a, sI_m2b, sI_sub, pk_mul, sI_dec, fk_u_s, fk_u_o, sI_dec0, sI_z, sI_md, Bool.false_eq_true, Nat.reduceAdd, Nat.reduceMul, Nat.reduceSub, Nat.reduceMod, Nat.reduceDiv]
              · simp (disch := first | assumption | omega) only [rX12_count, mX12_in, e0, e1, e2, e3, and_self, s140, ef, Option.bind_some, Option.toList_some, Option.toList_none, List.cons_append, List.nil_append, fk_b_0, nI_add, Nat.add_zero, Nat.zero_add, not_true_eq_false, not_false_eq_true, if_true, if_false, sI_le_t, sI_le_f, sI_lt_t, sI_lt_f, sI_eq_t, sI_eq_f, sI_rem, sI_div, sI_m1a, sI_m1b, sI_m1c, sI_m1d, sI_m1e, sI_m1f, sI_m2a, sI_m2b, sI_sub, pk_mul, sI_dec, fk_u_s, fk_u_o, sI_dec0, sI_z, sI_md, Bool.false_eq_true, Nat.reduceAdd, Nat.reduceMul, Nat.reduceSub, Nat.reduceMod, Nat.reduceDiv]
            · rcases hso with es | es
              · refine ⟨nI f, ?_, ?_⟩
                · have tl : fk_ev (d + 7) qX5_tell 0 [.ref 18, .int w, .null] [] (fk_E N y l) = some (some (.int ((nI f))), fk_E N y l) := by
                    simp (disch := first | assumption | omega) only [rX5_tell, d20, d60, d100, s140, mX11_within, and_self, f1, f2, ef, es, Option.bind_some, Option.toList_some, Option.toList_none, List.cons_append, List.nil_append, fk_b_0, nI_add, Nat.add_zero, Nat.zero_add, not_true_eq_false, not_false_eq_true, if_true, if_false, sI_le_t, sI_le_f, sI_lt_t, sI_lt_f, sI_eq_t, sI_eq_f, sI_rem, sI_div, sI_m1a, sI_m1b, sI_m1c, sI_m1d, sI_m1e, sI_m1f, sI_m2a, sI_m2b, sI_sub, pk_mul, sI_dec, fk_u_s, fk_u_o, sI_dec0, sI_z, sI_md, Bool.false_eq_true, Nat.reduceAdd, Nat.reduceMul, Nat.reduceSub, Nat.reduceMod, Nat.reduceDiv]
                  simp (disch := first | assumption | omega) only [rX11_count, tl, Option.bind_some, Option.toList_some, Option.toList_none, List.cons_append, List.nil_append, fk_b_0, nI_add, Nat.add_zero, Nat.zero_add, not_true_eq_false, not_false_eq_true, if_true, if_false, sI_le_t, sI_le_f, sI_lt_t, sI_lt_f, sI_eq_t, sI_eq_f, sI_rem, sI_div, sI_m1a, sI_m1b, sI_m1c, sI_m1d, sI_m1e, sI_m1f, sI_m2a, sI_m2b, sI_sub, pk_mul, sI_dec, fk_u_s, fk_u_o, sI_dec0, sI_z, sI_md, Bool.false_eq_true, Nat.reduceAdd, Nat.reduceMul, Nat.reduceSub, Nat.reduceMod, Nat.reduceDiv]
                · simp (disch := first | assumption | omega) only [rX12_count, mX12_in, e0, e1, e2, e3, and_self, s140, ef, es, Option.bind_some, Option.toList_some, Option.toList_none, List.cons_append, List.nil_append, fk_b_0, nI_add, Nat.add_zero, Nat.zero_add, not_true_eq_false, not_false_eq_true, if_true, if_false, sI_le_t, sI_le_f, sI_lt_t, sI_lt_f, sI_eq_t, sI_eq_f, sI_rem, sI_div, sI_m1a, sI_m1b, sI_m1c, sI_m1d, sI_m1e, sI_m1f, sI_m2a, sI_m2b, sI_sub, pk_mul, sI_dec, fk_u_s, fk_u_o, sI_dec0, sI_z, sI_md, Bool.false_eq_true, Nat.reduceAdd, Nat.reduceMul, Nat.reduceSub, Nat.reduceMod, Nat.reduceDiv]
              · refine ⟨nI (f + 100), ?_, ?_⟩
                · have tl : fk_ev (d + 7) qX5_tell 0 [.ref 18, .int w, .null] [] (fk_E N y l) = some (some (.int ((nI (f + 100)))), fk_E N y l) := by
                    simp (disch := first | assumption | omega) only [rX5_tell, d20, d60, d100, s140, mX11_within, and_self, f1, f2, ef, es, Option.bind_some, Option.toList_some, Option.toList_none, List.cons_append, List.nil_append, fk_b_0, nI_add, Nat.add_zero, Nat.zero_add, not_true_eq_false, not_false_eq_true, if_true, if_false, sI_le_t, sI_le_f, sI_lt_t, sI_lt_f, sI_eq_t, sI_eq_f, sI_rem, sI_div, sI_m1a, sI_m1b, sI_m1c, sI_m1d, sI_m1e, sI_m1f, sI_m2a, sI_m2b, sI_sub, pk_mul, sI_dec, fk_u_s, fk_u_o, sI_dec0, sI_z, sI_md, Bool.false_eq_true, Nat.reduceAdd, Nat.reduceMul, Nat.reduceSub, Nat.reduceMod, Nat.reduceDiv]
                  simp (disch := first | assumption | omega) only [rX11_count, tl, Option.bind_some, Option.toList_some, Option.toList_none, List.cons_append, List.nil_append, fk_b_0, nI_add, Nat.add_zero, Nat.zero_add, not_true_eq_false, not_false_eq_true, if_true, if_false, sI_le_t, sI_le_f, sI_lt_t, sI_lt_f, sI_eq_t, sI_eq_f, sI_rem, sI_div, sI_m1a, sI_m1b, sI_m1c, sI_m1d, sI_m1e, sI_m1f, sI_m2a, sI_m2b, sI_sub, pk_mul, sI_dec, fk_u_s, fk_u_o, sI_dec0, sI_z, sI_md, Bool.false_eq_true, Nat.reduceAdd, Nat.reduceMul, Nat.reduceSub, Nat.reduceMod, Nat.reduceDiv]
                · simp (disch := first | assumption | omega) only [rX12_count, mX12_in, e0, e1, e2, e3, and_self, s140, ef, es, Option.bind_some, Option.toList_some, Option.toList_none, List.cons_append, List.nil_append, fk_b_0, nI_add, Nat.add_zero, Nat.zero_add, not_true_eq_false, not_false_eq_true, if_true, if_false, sI_le_t, sI_le_f, sI_lt_t, sI_lt_f, sI_eq_t, sI_eq_f, sI_rem, sI_div, sI_m1a, sI_m1b, sI_m1c, sI_m1d, sI_m1e, sI_m1f, sI_m2a, sI_m2b, sI_sub, pk_mul, sI_dec, fk_u_s, fk_u_o, sI_dec0, sI_z, sI_md, Bool.false_eq_true, Nat.reduceAdd, Nat.reduceMul, Nat.reduceSub, Nat.reduceMod, Nat.reduceDiv]
          · have d140 : ¬ (nI 0 ≤ w - nI 140 ∧ w - nI 140 < nI 16) := fun z => c140 ((fk_wi (by omega) (by omega)).mp z)
            have e3 : ¬ (nI 140 ≤ w ∧ w ≤ nI 155) := fun z => c140 ((fk_wi2 (m := 16) (by omega) (by omega)).mp z)
            refine ⟨(-1), ?_, ?_⟩
            · have tl : fk_ev (d + 7) qX5_tell 0 [.ref 18, .int w, .null] [] (fk_E N y l) = some (some (.int ((-1))), fk_E N y l) := by
                simp (disch := first | assumption | omega) only [rX5_tell, d20, d60, d100, mX11_within, d140, Option.bind_some, Option.toList_some, Option.toList_none, List.cons_append, List.nil_append, fk_b_0, nI_add, Nat.add_zero, Nat.zero_add, not_true_eq_false, not_false_eq_true, if_true, if_false, sI_le_t, sI_le_f, sI_lt_t, sI_lt_f, sI_eq_t, sI_eq_f, sI_rem, sI_div, sI_m1a, sI_m1b, sI_m1c, sI_m1d, sI_m1e, sI_m1f, sI_m2a, sI_m2b, sI_sub, pk_mul, sI_dec, fk_u_s, fk_u_o, sI_dec0, sI_z, sI_md, Bool.false_eq_true, Nat.reduceAdd, Nat.reduceMul, Nat.reduceSub, Nat.reduceMod, Nat.reduceDiv]
              simp (disch := first | assumption | omega) only [rX11_count, tl, Option.bind_some, Option.toList_some, Option.toList_none, List.cons_append, List.nil_append, fk_b_0, nI_add, Nat.add_zero, Nat.zero_add, not_true_eq_false, not_false_eq_true, if_true, if_false, sI_le_t, sI_le_f, sI_lt_t, sI_lt_f, sI_eq_t, sI_eq_f, sI_rem, sI_div, sI_m1a, sI_m1b, sI_m1c, sI_m1d, sI_m1e, sI_m1f, sI_m2a, sI_m2b, sI_sub, pk_mul, sI_dec, fk_u_s, fk_u_o, sI_dec0, sI_z, sI_md, Bool.false_eq_true, Nat.reduceAdd, Nat.reduceMul, Nat.reduceSub, Nat.reduceMod, Nat.reduceDiv]
            · simp (disch := first | assumption | omega) only [rX12_count, mX12_in, e0, e1, e2, e3, Option.bind_some, Option.toList_some, Option.toList_none, List.cons_append, List.nil_append, fk_b_0, nI_add, Nat.add_zero, Nat.zero_add, not_true_eq_false, not_false_eq_true, if_true, if_false, sI_le_t, sI_le_f, sI_lt_t, sI_lt_f, sI_eq_t, sI_eq_f, sI_rem, sI_div, sI_m1a, sI_m1b, sI_m1c, sI_m1d, sI_m1e, sI_m1f, sI_m2a, sI_m2b, sI_sub, pk_mul, sI_dec, fk_u_s, fk_u_o, sI_dec0, sI_z, sI_md, Bool.false_eq_true, Nat.reduceAdd, Nat.reduceMul, Nat.reduceSub, Nat.reduceMod, Nat.reduceDiv]
  · have hh : k = 0 ∨ k = 1 ∨ k = 2 ∨ k = 3 ∨ k = 4 ∨ k = 5 ∨ k = 6 ∨ k = 7 ∨ k = 8 ∨ k = 9 := by omega
    rcases hh with rfl | rfl | rfl | rfl | rfl | rfl | rfl | rfl | rfl | rfl
    · refine ⟨y 247 832, ?_, ?_⟩
      · simp (disch := first | assumption | omega) only [rX11_count, g2, Option.bind_some, Option.toList_some, Option.toList_none, List.cons_append, List.nil_append, fk_b_0, nI_add, Nat.add_zero, Nat.zero_add, not_true_eq_false, not_false_eq_true, if_true, if_false, sI_le_t, sI_le_f, sI_lt_t, sI_lt_f, sI_eq_t, sI_eq_f, sI_rem, sI_div, sI_m1a, sI_m1b, sI_m1c, sI_m1d, sI_m1e, sI_m1f, sI_m2a, sI_m2b, sI_sub, pk_mul, sI_dec, fk_u_s, fk_u_o, sI_dec0, sI_z, sI_md, Bool.false_eq_true, Nat.reduceAdd, Nat.reduceMul, Nat.reduceSub, Nat.reduceMod, Nat.reduceDiv]
      · simp (disch := first | assumption | omega) only [rX12_count, Option.bind_some, Option.toList_some, Option.toList_none, List.cons_append, List.nil_append, fk_b_0, nI_add, Nat.add_zero, Nat.zero_add, not_true_eq_false, not_false_eq_true, if_true, if_false, sI_le_t, sI_le_f, sI_lt_t, sI_lt_f, sI_eq_t, sI_eq_f, sI_rem, sI_div, sI_m1a, sI_m1b, sI_m1c, sI_m1d, sI_m1e, sI_m1f, sI_m2a, sI_m2b, sI_sub, pk_mul, sI_dec, fk_u_s, fk_u_o, sI_dec0, sI_z, sI_md, Bool.false_eq_true, Nat.reduceAdd, Nat.reduceMul, Nat.reduceSub, Nat.reduceMod, Nat.reduceDiv]
    · refine ⟨y 247 833, ?_, ?_⟩
      · simp (disch := first | assumption | omega) only [rX11_count, g1, Option.bind_some, Option.toList_some, Option.toList_none, List.cons_append, List.nil_append, fk_b_0, nI_add, Nat.add_zero, Nat.zero_add, not_true_eq_false, not_false_eq_true, if_true, if_false, sI_le_t, sI_le_f, sI_lt_t, sI_lt_f, sI_eq_t, sI_eq_f, sI_rem, sI_div, sI_m1a, sI_m1b, sI_m1c, sI_m1d, sI_m1e, sI_m1f, sI_m2a, sI_m2b, sI_sub, pk_mul, sI_dec, fk_u_s, fk_u_o, sI_dec0, sI_z, sI_md, Bool.false_eq_true, Nat.reduceAdd, Nat.reduceMul, Nat.reduceSub, Nat.reduceMod, Nat.reduceDiv]
      · simp (disch := first | assumption | omega) only [rX12_count, Option.bind_some, Option.toList_some, Option.toList_none, List.cons_append, List.nil_append, fk_b_0, nI_add, Nat.add_zero, Nat.zero_add, not_true_eq_false, not_false_eq_true, if_true, if_false, sI_le_t, sI_le_f, sI_lt_t, sI_lt_f, sI_eq_t, sI_eq_f, sI_rem, sI_div, sI_m1a, sI_m1b, sI_m1c, sI_m1d, sI_m1e, sI_m1f, sI_m2a, sI_m2b, sI_sub, pk_mul, sI_dec, fk_u_s, fk_u_o, sI_dec0, sI_z, sI_md, Bool.false_eq_true, Nat.reduceAdd, Nat.reduceMul, Nat.reduceSub, Nat.reduceMod, Nat.reduceDiv]
    · refine ⟨nI (fk_cf (fun j => decide (y 247 (192 + j) = nI 1)) 0 n), ?_, ?_⟩
      · simp (disch := first | assumption | omega) only [rX11_count, mX8_livingInAll (p := 33) (Or.inl rfl) p3 p1, Option.bind_some, Option.toList_some, Option.toList_none, List.cons_append, List.nil_append, fk_b_0, nI_add, Nat.add_zero, Nat.zero_add, not_true_eq_false, not_false_eq_true, if_true, if_false, sI_le_t, sI_le_f, sI_lt_t, sI_lt_f, sI_eq_t, sI_eq_f, sI_rem, sI_div, sI_m1a, sI_m1b, sI_m1c, sI_m1d, sI_m1e, sI_m1f, sI_m2a, sI_m2b, sI_sub, pk_mul, sI_dec, fk_u_s, fk_u_o, sI_dec0, sI_z, sI_md, Bool.false_eq_true, Nat.reduceAdd, Nat.reduceMul, Nat.reduceSub, Nat.reduceMod, Nat.reduceDiv]
      · simp (disch := first | assumption | omega) only [rX12_count, mX12_living hn hm, Option.bind_some, Option.toList_some, Option.toList_none, List.cons_append, List.nil_append, fk_b_0, nI_add, Nat.add_zero, Nat.zero_add, not_true_eq_false, not_false_eq_true, if_true, if_false, sI_le_t, sI_le_f, sI_lt_t, sI_lt_f, sI_eq_t, sI_eq_f, sI_rem, sI_div, sI_m1a, sI_m1b, sI_m1c, sI_m1d, sI_m1e, sI_m1f, sI_m2a, sI_m2b, sI_sub, pk_mul, sI_dec, fk_u_s, fk_u_o, sI_dec0, sI_z, sI_md, Bool.false_eq_true, Nat.reduceAdd, Nat.reduceMul, Nat.reduceSub, Nat.reduceMod, Nat.reduceDiv]
    · refine ⟨y 246 19, ?_, ?_⟩
      · simp (disch := first | assumption | omega) only [rX11_count, q2, nI_clamp, q6, Option.bind_some, Option.toList_some, Option.toList_none, List.cons_append, List.nil_append, fk_b_0, nI_add, Nat.add_zero, Nat.zero_add, not_true_eq_false, not_false_eq_true, if_true, if_false, sI_le_t, sI_le_f, sI_lt_t, sI_lt_f, sI_eq_t, sI_eq_f, sI_rem, sI_div, sI_m1a, sI_m1b, sI_m1c, sI_m1d, sI_m1e, sI_m1f, sI_m2a, sI_m2b, sI_sub, pk_mul, sI_dec, fk_u_s, fk_u_o, sI_dec0, sI_z, sI_md, Bool.false_eq_true, Nat.reduceAdd, Nat.reduceMul, Nat.reduceSub, Nat.reduceMod, Nat.reduceDiv]
      · simp (disch := first | assumption | omega) only [rX12_count, Option.bind_some, Option.toList_some, Option.toList_none, List.cons_append, List.nil_append, fk_b_0, nI_add, Nat.add_zero, Nat.zero_add, not_true_eq_false, not_false_eq_true, if_true, if_false, sI_le_t, sI_le_f, sI_lt_t, sI_lt_f, sI_eq_t, sI_eq_f, sI_rem, sI_div, sI_m1a, sI_m1b, sI_m1c, sI_m1d, sI_m1e, sI_m1f, sI_m2a, sI_m2b, sI_sub, pk_mul, sI_dec, fk_u_s, fk_u_o, sI_dec0, sI_z, sI_md, Bool.false_eq_true, Nat.reduceAdd, Nat.reduceMul, Nat.reduceSub, Nat.reduceMod, Nat.reduceDiv]
    · refine ⟨nI t, ?_, ?_⟩
      · simp (disch := first | assumption | omega) only [rX11_count, t2, Option.bind_some, Option.toList_some, Option.toList_none, List.cons_append, List.nil_append, fk_b_0, nI_add, Nat.add_zero, Nat.zero_add, not_true_eq_false, not_false_eq_true, if_true, if_false, sI_le_t, sI_le_f, sI_lt_t, sI_lt_f, sI_eq_t, sI_eq_f, sI_rem, sI_div, sI_m1a, sI_m1b, sI_m1c, sI_m1d, sI_m1e, sI_m1f, sI_m2a, sI_m2b, sI_sub, pk_mul, sI_dec, fk_u_s, fk_u_o, sI_dec0, sI_z, sI_md, Bool.false_eq_true, Nat.reduceAdd, Nat.reduceMul, Nat.reduceSub, Nat.reduceMod, Nat.reduceDiv]
      · simp (disch := first | assumption | omega) only [rX12_count, t3, Option.bind_some, Option.toList_some, Option.toList_none, List.cons_append, List.nil_append, fk_b_0, nI_add, Nat.add_zero, Nat.zero_add, not_true_eq_false, not_false_eq_true, if_true, if_false, sI_le_t, sI_le_f, sI_lt_t, sI_lt_f, sI_eq_t, sI_eq_f, sI_rem, sI_div, sI_m1a, sI_m1b, sI_m1c, sI_m1d, sI_m1e, sI_m1f, sI_m2a, sI_m2b, sI_sub, pk_mul, sI_dec, fk_u_s, fk_u_o, sI_dec0, sI_z, sI_md, Bool.false_eq_true, Nat.reduceAdd, Nat.reduceMul, Nat.reduceSub, Nat.reduceMod, Nat.reduceDiv]
    · refine ⟨y 247 834, ?_, ?_⟩
      · simp (disch := first | assumption | omega) only [rX11_count, g3, Option.bind_some, Option.toList_some, Option.toList_none, List.cons_append, List.nil_append, fk_b_0, nI_add, Nat.add_zero, Nat.zero_add, not_true_eq_false, not_false_eq_true, if_true, if_false, sI_le_t, sI_le_f, sI_lt_t, sI_lt_f, sI_eq_t, sI_eq_f, sI_rem, sI_div, sI_m1a, sI_m1b, sI_m1c, sI_m1d, sI_m1e, sI_m1f, sI_m2a, sI_m2b, sI_sub, pk_mul, sI_dec, fk_u_s, fk_u_o, sI_dec0, sI_z, sI_md, Bool.false_eq_true, Nat.reduceAdd, Nat.reduceMul, Nat.reduceSub, Nat.reduceMod, Nat.reduceDiv]
      · simp (disch := first | assumption | omega) only [rX12_count, Option.bind_some, Option.toList_some, Option.toList_none, List.cons_append, List.nil_append, fk_b_0, nI_add, Nat.add_zero, Nat.zero_add, not_true_eq_false, not_false_eq_true, if_true, if_false, sI_le_t, sI_le_f, sI_lt_t, sI_lt_f, sI_eq_t, sI_eq_f, sI_rem, sI_div, sI_m1a, sI_m1b, sI_m1c, sI_m1d, sI_m1e, sI_m1f, sI_m2a, sI_m2b, sI_sub, pk_mul, sI_dec, fk_u_s, fk_u_o, sI_dec0, sI_z, sI_md, Bool.false_eq_true, Nat.reduceAdd, Nat.reduceMul, Nat.reduceSub, Nat.reduceMod, Nat.reduceDiv]
    · refine ⟨nI (fk_cf (fun r => fk_tb (y 246 3) r) 0 32), ?_, ?_⟩
      · simp (disch := first | assumption | omega) only [rX11_count, mX5_toldRoads r1 r2, Option.bind_some, Option.toList_some, Option.toList_none, List.cons_append, List.nil_append, fk_b_0, nI_add, Nat.add_zero, Nat.zero_add, not_true_eq_false, not_false_eq_true, if_true, if_false, sI_le_t, sI_le_f, sI_lt_t, sI_lt_f, sI_eq_t, sI_eq_f, sI_rem, sI_div, sI_m1a, sI_m1b, sI_m1c, sI_m1d, sI_m1e, sI_m1f, sI_m2a, sI_m2b, sI_sub, pk_mul, sI_dec, fk_u_s, fk_u_o, sI_dec0, sI_z, sI_md, Bool.false_eq_true, Nat.reduceAdd, Nat.reduceMul, Nat.reduceSub, Nat.reduceMod, Nat.reduceDiv]
      · simp (disch := first | assumption | omega) only [rX12_count, mX12_roadMany, Option.bind_some, Option.toList_some, Option.toList_none, List.cons_append, List.nil_append, fk_b_0, nI_add, Nat.add_zero, Nat.zero_add, not_true_eq_false, not_false_eq_true, if_true, if_false, sI_le_t, sI_le_f, sI_lt_t, sI_lt_f, sI_eq_t, sI_eq_f, sI_rem, sI_div, sI_m1a, sI_m1b, sI_m1c, sI_m1d, sI_m1e, sI_m1f, sI_m2a, sI_m2b, sI_sub, pk_mul, sI_dec, fk_u_s, fk_u_o, sI_dec0, sI_z, sI_md, Bool.false_eq_true, Nat.reduceAdd, Nat.reduceMul, Nat.reduceSub, Nat.reduceMod, Nat.reduceDiv]
    · refine ⟨y 247 835, ?_, ?_⟩
      · simp (disch := first | assumption | omega) only [rX11_count, g7, Option.bind_some, Option.toList_some, Option.toList_none, List.cons_append, List.nil_append, fk_b_0, nI_add, Nat.add_zero, Nat.zero_add, not_true_eq_false, not_false_eq_true, if_true, if_false, sI_le_t, sI_le_f, sI_lt_t, sI_lt_f, sI_eq_t, sI_eq_f, sI_rem, sI_div, sI_m1a, sI_m1b, sI_m1c, sI_m1d, sI_m1e, sI_m1f, sI_m2a, sI_m2b, sI_sub, pk_mul, sI_dec, fk_u_s, fk_u_o, sI_dec0, sI_z, sI_md, Bool.false_eq_true, Nat.reduceAdd, Nat.reduceMul, Nat.reduceSub, Nat.reduceMod, Nat.reduceDiv]
      · simp (disch := first | assumption | omega) only [rX12_count, Option.bind_some, Option.toList_some, Option.toList_none, List.cons_append, List.nil_append, fk_b_0, nI_add, Nat.add_zero, Nat.zero_add, not_true_eq_false, not_false_eq_true, if_true, if_false, sI_le_t, sI_le_f, sI_lt_t, sI_lt_f, sI_eq_t, sI_eq_f, sI_rem, sI_div, sI_m1a, sI_m1b, sI_m1c, sI_m1d, sI_m1e, sI_m1f, sI_m2a, sI_m2b, sI_sub, pk_mul, sI_dec, fk_u_s, fk_u_o, sI_dec0, sI_z, sI_md, Bool.false_eq_true, Nat.reduceAdd, Nat.reduceMul, Nat.reduceSub, Nat.reduceMod, Nat.reduceDiv]
    · refine ⟨y 247 836, ?_, ?_⟩
      · simp (disch := first | assumption | omega) only [rX11_count, g6, Option.bind_some, Option.toList_some, Option.toList_none, List.cons_append, List.nil_append, fk_b_0, nI_add, Nat.add_zero, Nat.zero_add, not_true_eq_false, not_false_eq_true, if_true, if_false, sI_le_t, sI_le_f, sI_lt_t, sI_lt_f, sI_eq_t, sI_eq_f, sI_rem, sI_div, sI_m1a, sI_m1b, sI_m1c, sI_m1d, sI_m1e, sI_m1f, sI_m2a, sI_m2b, sI_sub, pk_mul, sI_dec, fk_u_s, fk_u_o, sI_dec0, sI_z, sI_md, Bool.false_eq_true, Nat.reduceAdd, Nat.reduceMul, Nat.reduceSub, Nat.reduceMod, Nat.reduceDiv]
      · simp (disch := first | assumption | omega) only [rX12_count, Option.bind_some, Option.toList_some, Option.toList_none, List.cons_append, List.nil_append, fk_b_0, nI_add, Nat.add_zero, Nat.zero_add, not_true_eq_false, not_false_eq_true, if_true, if_false, sI_le_t, sI_le_f, sI_lt_t, sI_lt_f, sI_eq_t, sI_eq_f, sI_rem, sI_div, sI_m1a, sI_m1b, sI_m1c, sI_m1d, sI_m1e, sI_m1f, sI_m2a, sI_m2b, sI_sub, pk_mul, sI_dec, fk_u_s, fk_u_o, sI_dec0, sI_z, sI_md, Bool.false_eq_true, Nat.reduceAdd, Nat.reduceMul, Nat.reduceSub, Nat.reduceMod, Nat.reduceDiv]
    · refine ⟨y 247 837, ?_, ?_⟩
      · simp (disch := first | assumption | omega) only [rX11_count, g5, Option.bind_some, Option.toList_some, Option.toList_none, List.cons_append, List.nil_append, fk_b_0, nI_add, Nat.add_zero, Nat.zero_add, not_true_eq_false, not_false_eq_true, if_true, if_false, sI_le_t, sI_le_f, sI_lt_t, sI_lt_f, sI_eq_t, sI_eq_f, sI_rem, sI_div, sI_m1a, sI_m1b, sI_m1c, sI_m1d, sI_m1e, sI_m1f, sI_m2a, sI_m2b, sI_sub, pk_mul, sI_dec, fk_u_s, fk_u_o, sI_dec0, sI_z, sI_md, Bool.false_eq_true, Nat.reduceAdd, Nat.reduceMul, Nat.reduceSub, Nat.reduceMod, Nat.reduceDiv]
      · simp (disch := first | assumption | omega) only [rX12_count, Option.bind_some, Option.toList_some, Option.toList_none, List.cons_append, List.nil_append, fk_b_0, nI_add, Nat.add_zero, Nat.zero_add, not_true_eq_false, not_false_eq_true, if_true, if_false, sI_le_t, sI_le_f, sI_lt_t, sI_lt_f, sI_eq_t, sI_eq_f, sI_rem, sI_div, sI_m1a, sI_m1b, sI_m1c, sI_m1d, sI_m1e, sI_m1f, sI_m2a, sI_m2b, sI_sub, pk_mul, sI_dec, fk_u_s, fk_u_o, sI_dec0, sI_z, sI_md, Bool.false_eq_true, Nat.reduceAdd, Nat.reduceMul, Nat.reduceSub, Nat.reduceMod, Nat.reduceDiv]
end CNT
section CHK
variable {N : Nat} {S : Nat → Int32} {v y y1 y2 z : Nat → Nat → Int32} {l : Nat → Nat → Int64} {d p p' n H t : Nat} {T A A' : Nat → Int32}
theorem fk_255 {x : Int32} : x &&& nI 255 &&& nI 255 = x &&& nI 255 := by rw [Int32.and_assoc, show nI 255 &&& nI 255 = nI 255 by decide]
theorem mX10_byteAt {k : Nat} (e1 : y 26 1 = nI t) (ht : t ≤ 260) (hk : k < t) : fk_ev (d + 1) qX10_byteAt 0 [.ref 26, .int ((nI k))] [] (fk_E N y l) = some (some (.int ((y 27 k))), fk_E N y l) := by
  simp (disch := first | assumption | omega) only [rX10_byteAt, mX11_within, e1, and_self, Option.bind_some, Option.toList_some, Option.toList_none, List.cons_append, List.nil_append, fk_b_0, nI_add, Nat.add_zero, Nat.zero_add, not_true_eq_false, not_false_eq_true, if_true, if_false, sI_le_t, sI_le_f, sI_lt_t, sI_lt_f, sI_eq_t, sI_eq_f, sI_rem, sI_div, sI_m1a, sI_m1b, sI_m1c, sI_m1d, sI_m1e, sI_m1f, sI_m2a, sI_m2b, sI_sub, pk_mul, sI_dec, fk_u_s, fk_u_o, sI_dec0, sI_z, sI_md, Bool.false_eq_true, Nat.reduceAdd, Nat.reduceMul, Nat.reduceSub, Nat.reduceMod, Nat.reduceDiv]
def ab_n4 (b : Nat → Int32) (k : Nat) : Int32 := (((nI 0 <<< (nI 8 &&& 31) ||| (b k &&& nI 255)) <<< (nI 8 &&& 31) ||| (b (k + 1) &&& nI 255)) <<< (nI 8 &&& 31) ||| (b (k + 2) &&& nI 255)) <<< (nI 8 &&& 31) ||| (b (k + 3) &&& nI 255)
theorem mX10_numberAt {k : Nat} (e1 : y 26 1 = nI t) (ht : t ≤ 260) (hk : k + 3 < t) (e27 : ∀ i, i < t → y 27 i = y 255 i &&& nI 255) : fk_ev (d + 2) qX10_numberAt 0 [.ref 26, .int ((nI k)), .null, .null] [] (fk_E N y l) = some (some (.int ((ab_n4 (y 255) k))), fk_E N y l) := by
  have b0 := mX10_byteAt (N := N) (l := l) (d := d) (k := k) e1 ht (by omega)
  have b1 := mX10_byteAt (N := N) (l := l) (d := d) (k := k + 1) e1 ht (by omega)
  have b2 := mX10_byteAt (N := N) (l := l) (d := d) (k := k + 2) e1 ht (by omega)
  have b3 := mX10_byteAt (N := N) (l := l) (d := d) (k := k + 3) e1 ht (by omega)
  rw [e27 _ (by omega)] at b0 b1 b2 b3
  simp (disch := first | assumption | omega) only [rX10_numberAt, hX10_numberAt_4, b0, b1, b2, b3, fk_255, Option.bind_some, Option.toList_some, Option.toList_none, List.cons_append, List.nil_append, fk_b_0, nI_add, Nat.add_zero, Nat.zero_add, not_true_eq_false, not_false_eq_true, if_true, if_false, sI_le_t, sI_le_f, sI_lt_t, sI_lt_f, sI_eq_t, sI_eq_f, sI_rem, sI_div, sI_m1a, sI_m1b, sI_m1c, sI_m1d, sI_m1e, sI_m1f, sI_m2a, sI_m2b, sI_sub, pk_mul, sI_dec, fk_u_s, fk_u_o, sI_dec0, sI_z, sI_md, Bool.false_eq_true, Nat.reduceAdd, Nat.reduceMul, Nat.reduceSub, Nat.reduceMod, Nat.reduceDiv]
  rfl
set_option maxRecDepth 10000 in
theorem mX12_tapeNumber {k : Nat} (hk : k < 60) : fk_ev d qX12_tapeNumber 0 [.ref 246, .int ((nI k)), .null, .null] [] (fk_E N y l) = some (some (.int ((ab_n4 (y 255) (4 * k)))), fk_E N y l) := by
  simp (disch := first | assumption | omega) only [rX12_tapeNumber, hX12_tapeNumber_6, Nat.add_assoc, Option.bind_some, Option.toList_some, Option.toList_none, List.cons_append, List.nil_append, fk_b_0, nI_add, Nat.add_zero, Nat.zero_add, not_true_eq_false, not_false_eq_true, if_true, if_false, sI_le_t, sI_le_f, sI_lt_t, sI_lt_f, sI_eq_t, sI_eq_f, sI_rem, sI_div, sI_m1a, sI_m1b, sI_m1c, sI_m1d, sI_m1e, sI_m1f, sI_m2a, sI_m2b, sI_sub, pk_mul, sI_dec, fk_u_s, fk_u_o, sI_dec0, sI_z, sI_md, Bool.false_eq_true, Nat.reduceAdd, Nat.reduceMul, Nat.reduceSub, Nat.reduceMod, Nat.reduceDiv]
  rfl
/-- the tapes are cleared -/
theorem cR_clr (hR : cR S y) (h1 : ∀ k, (k ≤ 8 ∨ (10 ≤ k ∧ k ≤ 16) ∨ (19 ≤ k ∧ k ≤ 24) ∨ (33 ≤ k ∧ k ≤ 233) ∨ k = 235 ∨ k = 237 ∨ k = 247 ∨ k = 249 ∨ (250 ≤ k ∧ k ≤ 254) ∨ (262 ≤ k ∧ k ≤ 266)) → y2 k = y k) (h2 : ∀ i, (i = 3 ∨ i = 19 ∨ i = 33 ∨ i = 36 ∨ i = 49) → y2 246 i = y 246 i) (h3 : y2 26 1 = nI 0) (h4 : y2 246 10 = nI 0) : cR S y2 := cR_tape hR h1 h2 ⟨0, by omega, h3, h4, fun i hi => by omega⟩
theorem mX10_clear : fk_ev d qX10_clear 0 [.ref 26] [] (fk_E N y l) = some (none, fk_E N (fk_u y 26 1 (nI 0)) l) := by
  simp (disch := first | assumption | omega) only [rX10_clear, Option.bind_some, Option.toList_some, Option.toList_none, List.cons_append, List.nil_append, fk_b_0, nI_add, Nat.add_zero, Nat.zero_add, not_true_eq_false, not_false_eq_true, if_true, if_false, sI_le_t, sI_le_f, sI_lt_t, sI_lt_f, sI_eq_t, sI_eq_f, sI_rem, sI_div, sI_m1a, sI_m1b, sI_m1c, sI_m1d, sI_m1e, sI_m1f, sI_m2a, sI_m2b, sI_sub, pk_mul, sI_dec, fk_u_s, fk_u_o, sI_dec0, sI_z, sI_md, Bool.false_eq_true, Nat.reduceAdd, Nat.reduceMul, Nat.reduceSub, Nat.reduceMod, Nat.reduceDiv]
theorem cl_check (hR : cR S y) {w : Int32} : ∃ a y1 y2, fk_ev (d + 8) qX11_check 0 [.ref 1, .int w, .null, .null, .null] [] (fk_E N y l) = some (some (.int a), fk_E N y1 l) ∧ fk_ev (d + 8) qX12_check 0 [.ref 246, .int w, .null] [] (fk_E N y1 l) = some (some (.int a), fk_E N y2 l) ∧ cR S y2 := by
  obtain ⟨r0, r1, r2, ⟨n, H, p1, p2, p3, p4⟩, r4, ⟨t, t1, t2, t3, t4⟩, r6, r7, r8, r9⟩ := id hR
  have hn := p1.1
  have hm := p1.2.1
  have h8 := n8
  by_cases hw : nI 0 ≤ w ∧ w ≤ nI 20
  · obtain ⟨m, hm20, rfl⟩ := fk_ixn2 hw.1 hw.2 (by omega)
    by_cases hmt : 4 * m ≤ t
    · generalize ez : fk_u (fk_u y 26 1 (nI 0)) 246 10 (nI 0) = z
      have zo : ∀ k, k ≠ 26 → k ≠ 246 → z k = y k := fun k k1 k2 => by rw [← ez, fk_u_rowo k2, fk_u_rowo k1]
      have zi : ∀ i, i ≠ 10 → z 246 i = y 246 i := fun i hi => by rw [← ez, fk_u_o (by omega), fk_u_o (by omega)]
      have key : ∀ k j, j + k = m → ∃ a, (∀ x : Value, ∃ x1 x2 : Value, fk_ev (d + 8) qX11_check 30 [.ref 1, .int (nI m), .int (-1), .int (nI j), x] [] (fk_E N y l) = fk_ev (d + 8) qX11_check 92 [.ref 1, .int (nI m), .int a, x1, x2] [] (fk_E N y l)) ∧ fk_ev (d + 8) qX12_check 30 [.ref 246, .int (nI m), .int (nI j)] [] (fk_E N z l) = some (some (.int a), fk_E N z l) := by
        intro k
        induction k with
        | zero =>
          intro j hj
          have hj : j = m := hj
          subst hj
          refine ⟨(-1), fun x => ⟨.int (nI j), x, ?_⟩, ?_⟩
          · rw [hX11_check_30]
            simp (disch := first | assumption | omega) only [rX11_check, Option.bind_some, Option.toList_some, Option.toList_none, List.cons_append, List.nil_append, fk_b_0, nI_add, Nat.add_zero, Nat.zero_add, not_true_eq_false, not_false_eq_true, if_true, if_false, sI_le_t, sI_le_f, sI_lt_t, sI_lt_f, sI_eq_t, sI_eq_f, sI_rem, sI_div, sI_m1a, sI_m1b, sI_m1c, sI_m1d, sI_m1e, sI_m1f, sI_m2a, sI_m2b, sI_sub, pk_mul, sI_dec, fk_u_s, fk_u_o, sI_dec0, sI_z, sI_md, Bool.false_eq_true, Nat.reduceAdd, Nat.reduceMul, Nat.reduceSub, Nat.reduceMod, Nat.reduceDiv]
          · rw [hX12_check_30]
            simp (disch := first | assumption | omega) only [rX12_check, Option.bind_some, Option.toList_some, Option.toList_none, List.cons_append, List.nil_append, fk_b_0, nI_add, Nat.add_zero, Nat.zero_add, not_true_eq_false, not_false_eq_true, if_true, if_false, sI_le_t, sI_le_f, sI_lt_t, sI_lt_f, sI_eq_t, sI_eq_f, sI_rem, sI_div, sI_m1a, sI_m1b, sI_m1c, sI_m1d, sI_m1e, sI_m1f, sI_m2a, sI_m2b, sI_sub, pk_mul, sI_dec, fk_u_s, fk_u_o, sI_dec0, sI_z, sI_md, Bool.false_eq_true, Nat.reduceAdd, Nat.reduceMul, Nat.reduceSub, Nat.reduceMod, Nat.reduceDiv]
        | succ k ih =>
          intro j hj
          have hl := n_liv (N := N) (l := l) (d := d + 6) (j := nI j) hn hm p3
          have hl2 := mX12_isLiving (N := N) (l := l) (d := d + 6) (y := z) (j := nI j) hn (by rw [zo 247 (by omega) (by omega)]; exact hm)
          rw [zo 247 (by omega) (by omega), nI_clamp (by omega)] at hl2
          rw [nI_clamp (by omega)] at hl
          have nu := mX10_numberAt (N := N) (l := l) (d := d + 5) (k := 4 * j) t2 t1 (by omega) t4
          have nu2 := mX12_tapeNumber (N := N) (l := l) (d := d + 7) (y := z) (k := j) (by omega)
          rw [zo 255 (by omega) (by omega)] at nu2
          generalize ab_n4 (y 255) (4 * j) = u at nu nu2
          have wt : ∃ wt : Int32, (∀ x : Value, fk_ev (d + 8) qX11_check 30 [.ref 1, .int (nI m), .int (-1), .int (nI j), x] [] (fk_E N y l) = fk_ev (d + 8) qX11_check 69 [.ref 1, .int (nI m), .int (-1), .int (nI j), .int wt] [] (fk_E N y l)) ∧ fk_ev (d + 8) qX12_check 30 [.ref 246, .int (nI m), .int (nI j)] [] (fk_E N z l) = fk_ev (d + 8) qX12_check 62 [.ref 246, .int (nI m), .int (nI j)] [.int wt, .int u] (fk_E N z l) := by
            by_cases c : (nI 0 ≤ nI j ∧ nI j < nI n) ∧ y 247 (192 + j) = nI 1
            · rw [fk_b_t c] at hl hl2
              have cj : j < n := (nI_ltI (by omega) (by omega)).mp c.1.2
              have hh := n_h (show j < 64 by omega)
              have a5 := (p3.2.2.1 j (by omega) (by rw [ab_ok_n p1]; exact cj)).2.2.2.2.1
              rw [show 33 + 3 + j = 36 + j by omega] at a5
              refine ⟨y 247 (256 + j), fun x => ?_, ?_⟩
              · rw [hX11_check_30]
                simp (disch := first | assumption | omega) only [rX11_check, hl, nc0, a5, Option.bind_some, Option.toList_some, Option.toList_none, List.cons_append, List.nil_append, fk_b_0, nI_add, Nat.add_zero, Nat.zero_add, not_true_eq_false, not_false_eq_true, if_true, if_false, sI_le_t, sI_le_f, sI_lt_t, sI_lt_f, sI_eq_t, sI_eq_f, sI_rem, sI_div, sI_m1a, sI_m1b, sI_m1c, sI_m1d, sI_m1e, sI_m1f, sI_m2a, sI_m2b, sI_sub, pk_mul, sI_dec, fk_u_s, fk_u_o, sI_dec0, sI_z, sI_md, Bool.false_eq_true, Nat.reduceAdd, Nat.reduceMul, Nat.reduceSub, Nat.reduceMod, Nat.reduceDiv]
              · rw [hX12_check_30]
                simp (disch := first | assumption | omega) only [rX12_check, nu2, hl2, zo 247 (by omega) (by omega), Option.bind_some, Option.toList_some, Option.toList_none, List.cons_append, List.nil_append, fk_b_0, nI_add, Nat.add_zero, Nat.zero_add, not_true_eq_false, not_false_eq_true, if_true, if_false, sI_le_t, sI_le_f, sI_lt_t, sI_lt_f, sI_eq_t, sI_eq_f, sI_rem, sI_div, sI_m1a, sI_m1b, sI_m1c, sI_m1d, sI_m1e, sI_m1f, sI_m2a, sI_m2b, sI_sub, pk_mul, sI_dec, fk_u_s, fk_u_o, sI_dec0, sI_z, sI_md, Bool.false_eq_true, Nat.reduceAdd, Nat.reduceMul, Nat.reduceSub, Nat.reduceMod, Nat.reduceDiv]
            · rw [fk_b_f c] at hl hl2
              refine ⟨nI 0, fun x => ?_, ?_⟩
              · rw [hX11_check_30]
                simp (disch := first | assumption | omega) only [rX11_check, hl, Option.bind_some, Option.toList_some, Option.toList_none, List.cons_append, List.nil_append, fk_b_0, nI_add, Nat.add_zero, Nat.zero_add, not_true_eq_false, not_false_eq_true, if_true, if_false, sI_le_t, sI_le_f, sI_lt_t, sI_lt_f, sI_eq_t, sI_eq_f, sI_rem, sI_div, sI_m1a, sI_m1b, sI_m1c, sI_m1d, sI_m1e, sI_m1f, sI_m2a, sI_m2b, sI_sub, pk_mul, sI_dec, fk_u_s, fk_u_o, sI_dec0, sI_z, sI_md, Bool.false_eq_true, Nat.reduceAdd, Nat.reduceMul, Nat.reduceSub, Nat.reduceMod, Nat.reduceDiv]
              · rw [hX12_check_30]
                simp (disch := first | assumption | omega) only [rX12_check, nu2, hl2, Option.bind_some, Option.toList_some, Option.toList_none, List.cons_append, List.nil_append, fk_b_0, nI_add, Nat.add_zero, Nat.zero_add, not_true_eq_false, not_false_eq_true, if_true, if_false, sI_le_t, sI_le_f, sI_lt_t, sI_lt_f, sI_eq_t, sI_eq_f, sI_rem, sI_div, sI_m1a, sI_m1b, sI_m1c, sI_m1d, sI_m1e, sI_m1f, sI_m2a, sI_m2b, sI_sub, pk_mul, sI_dec, fk_u_s, fk_u_o, sI_dec0, sI_z, sI_md, Bool.false_eq_true, Nat.reduceAdd, Nat.reduceMul, Nat.reduceSub, Nat.reduceMod, Nat.reduceDiv]
          obtain ⟨wt, w1, w2⟩ := wt
          by_cases c : u = wt
          · obtain ⟨a, g1, g2⟩ := ih (j + 1) (by omega)
            refine ⟨a, fun x => ?_, ?_⟩
            · obtain ⟨x1, x2, g⟩ := g1 (.int wt)
              refine ⟨x1, x2, ?_⟩
              rw [w1 x, ← g]
              simp (disch := first | assumption | omega) only [rX11_check, nu, c, Option.bind_some, Option.toList_some, Option.toList_none, List.cons_append, List.nil_append, fk_b_0, nI_add, Nat.add_zero, Nat.zero_add, not_true_eq_false, not_false_eq_true, if_true, if_false, sI_le_t, sI_le_f, sI_lt_t, sI_lt_f, sI_eq_t, sI_eq_f, sI_rem, sI_div, sI_m1a, sI_m1b, sI_m1c, sI_m1d, sI_m1e, sI_m1f, sI_m2a, sI_m2b, sI_sub, pk_mul, sI_dec, fk_u_s, fk_u_o, sI_dec0, sI_z, sI_md, Bool.false_eq_true, Nat.reduceAdd, Nat.reduceMul, Nat.reduceSub, Nat.reduceMod, Nat.reduceDiv]
            · rw [w2, ← g2]
              simp (disch := first | assumption | omega) only [rX12_check, c, Option.bind_some, Option.toList_some, Option.toList_none, List.cons_append, List.nil_append, fk_b_0, nI_add, Nat.add_zero, Nat.zero_add, not_true_eq_false, not_false_eq_true, if_true, if_false, sI_le_t, sI_le_f, sI_lt_t, sI_lt_f, sI_eq_t, sI_eq_f, sI_rem, sI_div, sI_m1a, sI_m1b, sI_m1c, sI_m1d, sI_m1e, sI_m1f, sI_m2a, sI_m2b, sI_sub, pk_mul, sI_dec, fk_u_s, fk_u_o, sI_dec0, sI_z, sI_md, Bool.false_eq_true, Nat.reduceAdd, Nat.reduceMul, Nat.reduceSub, Nat.reduceMod, Nat.reduceDiv]
          · refine ⟨nI j, fun x => ⟨.int (nI (j + 1)), .int wt, ?_⟩, ?_⟩
            · rw [w1 x]
              simp (disch := first | assumption | omega) only [rX11_check, nu, c, Option.bind_some, Option.toList_some, Option.toList_none, List.cons_append, List.nil_append, fk_b_0, nI_add, Nat.add_zero, Nat.zero_add, not_true_eq_false, not_false_eq_true, if_true, if_false, sI_le_t, sI_le_f, sI_lt_t, sI_lt_f, sI_eq_t, sI_eq_f, sI_rem, sI_div, sI_m1a, sI_m1b, sI_m1c, sI_m1d, sI_m1e, sI_m1f, sI_m2a, sI_m2b, sI_sub, pk_mul, sI_dec, fk_u_s, fk_u_o, sI_dec0, sI_z, sI_md, Bool.false_eq_true, Nat.reduceAdd, Nat.reduceMul, Nat.reduceSub, Nat.reduceMod, Nat.reduceDiv]
              rw [hX11_check_30]
              by_cases cm : j + 1 < m
              · simp (disch := first | assumption | omega) only [rX11_check, Option.bind_some, Option.toList_some, Option.toList_none, List.cons_append, List.nil_append, fk_b_0, nI_add, Nat.add_zero, Nat.zero_add, not_true_eq_false, not_false_eq_true, if_true, if_false, sI_le_t, sI_le_f, sI_lt_t, sI_lt_f, sI_eq_t, sI_eq_f, sI_rem, sI_div, sI_m1a, sI_m1b, sI_m1c, sI_m1d, sI_m1e, sI_m1f, sI_m2a, sI_m2b, sI_sub, pk_mul, sI_dec, fk_u_s, fk_u_o, sI_dec0, sI_z, sI_md, Bool.false_eq_true, Nat.reduceAdd, Nat.reduceMul, Nat.reduceSub, Nat.reduceMod, Nat.reduceDiv]
              · simp (disch := first | assumption | omega) only [rX11_check, Option.bind_some, Option.toList_some, Option.toList_none, List.cons_append, List.nil_append, fk_b_0, nI_add, Nat.add_zero, Nat.zero_add, not_true_eq_false, not_false_eq_true, if_true, if_false, sI_le_t, sI_le_f, sI_lt_t, sI_lt_f, sI_eq_t, sI_eq_f, sI_rem, sI_div, sI_m1a, sI_m1b, sI_m1c, sI_m1d, sI_m1e, sI_m1f, sI_m2a, sI_m2b, sI_sub, pk_mul, sI_dec, fk_u_s, fk_u_o, sI_dec0, sI_z, sI_md, Bool.false_eq_true, Nat.reduceAdd, Nat.reduceMul, Nat.reduceSub, Nat.reduceMod, Nat.reduceDiv]
            · rw [w2]
              simp (disch := first | assumption | omega) only [rX12_check, c, Option.bind_some, Option.toList_some, Option.toList_none, List.cons_append, List.nil_append, fk_b_0, nI_add, Nat.add_zero, Nat.zero_add, not_true_eq_false, not_false_eq_true, if_true, if_false, sI_le_t, sI_le_f, sI_lt_t, sI_lt_f, sI_eq_t, sI_eq_f, sI_rem, sI_div, sI_m1a, sI_m1b, sI_m1c, sI_m1d, sI_m1e, sI_m1f, sI_m2a, sI_m2b, sI_sub, pk_mul, sI_dec, fk_u_s, fk_u_o, sI_dec0, sI_z, sI_md, Bool.false_eq_true, Nat.reduceAdd, Nat.reduceMul, Nat.reduceSub, Nat.reduceMod, Nat.reduceDiv]
      obtain ⟨a, g1, g2⟩ := key m 0 (Nat.zero_add m)
      obtain ⟨x1, x2, g⟩ := g1 .null
      refine ⟨a, fk_u y 26 1 (nI 0), z, ?_, ?_, cR_clr hR (fun k hk => zo k (by omega) (by omega)) (fun i hi => zi i (by omega)) ?_ ?_⟩
      · simp (disch := first | assumption | omega) only [rX11_check, t2, Option.bind_some, Option.toList_some, Option.toList_none, List.cons_append, List.nil_append, fk_b_0, nI_add, Nat.add_zero, Nat.zero_add, not_true_eq_false, not_false_eq_true, if_true, if_false, sI_le_t, sI_le_f, sI_lt_t, sI_lt_f, sI_eq_t, sI_eq_f, sI_rem, sI_div, sI_m1a, sI_m1b, sI_m1c, sI_m1d, sI_m1e, sI_m1f, sI_m2a, sI_m2b, sI_sub, pk_mul, sI_dec, fk_u_s, fk_u_o, sI_dec0, sI_z, sI_md, Bool.false_eq_true, Nat.reduceAdd, Nat.reduceMul, Nat.reduceSub, Nat.reduceMod, Nat.reduceDiv]
        rw [g]
        simp (disch := first | assumption | omega) only [rX11_check, mX10_clear, Option.bind_some, Option.toList_some, Option.toList_none, List.cons_append, List.nil_append, fk_b_0, nI_add, Nat.add_zero, Nat.zero_add, not_true_eq_false, not_false_eq_true, if_true, if_false, sI_le_t, sI_le_f, sI_lt_t, sI_lt_f, sI_eq_t, sI_eq_f, sI_rem, sI_div, sI_m1a, sI_m1b, sI_m1c, sI_m1d, sI_m1e, sI_m1f, sI_m2a, sI_m2b, sI_sub, pk_mul, sI_dec, fk_u_s, fk_u_o, sI_dec0, sI_z, sI_md, Bool.false_eq_true, Nat.reduceAdd, Nat.reduceMul, Nat.reduceSub, Nat.reduceMod, Nat.reduceDiv]
      · have e10 : fk_u y 26 1 (nI 0) 246 10 = nI t := by rw [fk_u_o (by omega)]; exact t3
        simp (disch := first | assumption | omega) only [rX12_check, mX12_in, and_self, t3, ez, Option.bind_some, Option.toList_some, Option.toList_none, List.cons_append, List.nil_append, fk_b_0, nI_add, Nat.add_zero, Nat.zero_add, not_true_eq_false, not_false_eq_true, if_true, if_false, sI_le_t, sI_le_f, sI_lt_t, sI_lt_f, sI_eq_t, sI_eq_f, sI_rem, sI_div, sI_m1a, sI_m1b, sI_m1c, sI_m1d, sI_m1e, sI_m1f, sI_m2a, sI_m2b, sI_sub, pk_mul, sI_dec, fk_u_s, fk_u_o, sI_dec0, sI_z, sI_md, Bool.false_eq_true, Nat.reduceAdd, Nat.reduceMul, Nat.reduceSub, Nat.reduceMod, Nat.reduceDiv]
        exact g2
      · rw [← ez, fk_u_o (by omega), fk_u_s]
      · rw [← ez, fk_u_s]
    · refine ⟨(-2), y, y, ?_, ?_, hR⟩
      · simp (disch := first | assumption | omega) only [rX11_check, t2, Option.bind_some, Option.toList_some, Option.toList_none, List.cons_append, List.nil_append, fk_b_0, nI_add, Nat.add_zero, Nat.zero_add, not_true_eq_false, not_false_eq_true, if_true, if_false, sI_le_t, sI_le_f, sI_lt_t, sI_lt_f, sI_eq_t, sI_eq_f, sI_rem, sI_div, sI_m1a, sI_m1b, sI_m1c, sI_m1d, sI_m1e, sI_m1f, sI_m2a, sI_m2b, sI_sub, pk_mul, sI_dec, fk_u_s, fk_u_o, sI_dec0, sI_z, sI_md, Bool.false_eq_true, Nat.reduceAdd, Nat.reduceMul, Nat.reduceSub, Nat.reduceMod, Nat.reduceDiv]
      · simp (disch := first | assumption | omega) only [rX12_check, mX12_in, and_self, t3, Option.bind_some, Option.toList_some, Option.toList_none, List.cons_append, List.nil_append, fk_b_0, nI_add, Nat.add_zero, Nat.zero_add, not_true_eq_false, not_false_eq_true, if_true, if_false, sI_le_t, sI_le_f, sI_lt_t, sI_lt_f, sI_eq_t, sI_eq_f, sI_rem, sI_div, sI_m1a, sI_m1b, sI_m1c, sI_m1d, sI_m1e, sI_m1f, sI_m2a, sI_m2b, sI_sub, pk_mul, sI_dec, fk_u_s, fk_u_o, sI_dec0, sI_z, sI_md, Bool.false_eq_true, Nat.reduceAdd, Nat.reduceMul, Nat.reduceSub, Nat.reduceMod, Nat.reduceDiv]
  · refine ⟨(-2), y, y, ?_, ?_, hR⟩
    · by_cases c1 : w < nI 0
      · simp (disch := first | assumption | omega) only [rX11_check, c1, Option.bind_some, Option.toList_some, Option.toList_none, List.cons_append, List.nil_append, fk_b_0, nI_add, Nat.add_zero, Nat.zero_add, not_true_eq_false, not_false_eq_true, if_true, if_false, sI_le_t, sI_le_f, sI_lt_t, sI_lt_f, sI_eq_t, sI_eq_f, sI_rem, sI_div, sI_m1a, sI_m1b, sI_m1c, sI_m1d, sI_m1e, sI_m1f, sI_m2a, sI_m2b, sI_sub, pk_mul, sI_dec, fk_u_s, fk_u_o, sI_dec0, sI_z, sI_md, Bool.false_eq_true, Nat.reduceAdd, Nat.reduceMul, Nat.reduceSub, Nat.reduceMod, Nat.reduceDiv]
      · have c2 : nI 20 < w := Int32.not_le.mp fun z => hw ⟨Int32.not_lt.mp c1, z⟩
        simp (disch := first | assumption | omega) only [rX11_check, c1, c2, Option.bind_some, Option.toList_some, Option.toList_none, List.cons_append, List.nil_append, fk_b_0, nI_add, Nat.add_zero, Nat.zero_add, not_true_eq_false, not_false_eq_true, if_true, if_false, sI_le_t, sI_le_f, sI_lt_t, sI_lt_f, sI_eq_t, sI_eq_f, sI_rem, sI_div, sI_m1a, sI_m1b, sI_m1c, sI_m1d, sI_m1e, sI_m1f, sI_m2a, sI_m2b, sI_sub, pk_mul, sI_dec, fk_u_s, fk_u_o, sI_dec0, sI_z, sI_md, Bool.false_eq_true, Nat.reduceAdd, Nat.reduceMul, Nat.reduceSub, Nat.reduceMod, Nat.reduceDiv]
    · simp (disch := first | assumption | omega) only [rX12_check, mX12_in, hw, Option.bind_some, Option.toList_some, Option.toList_none, List.cons_append, List.nil_append, fk_b_0, nI_add, Nat.add_zero, Nat.zero_add, not_true_eq_false, not_false_eq_true, if_true, if_false, sI_le_t, sI_le_f, sI_lt_t, sI_lt_f, sI_eq_t, sI_eq_f, sI_rem, sI_div, sI_m1a, sI_m1b, sI_m1c, sI_m1d, sI_m1e, sI_m1f, sI_m2a, sI_m2b, sI_sub, pk_mul, sI_dec, fk_u_s, fk_u_o, sI_dec0, sI_z, sI_md, Bool.false_eq_true, Nat.reduceAdd, Nat.reduceMul, Nat.reduceSub, Nat.reduceMod, Nat.reduceDiv]
end CHK
