section CM0
variable {N : Nat} {S : Nat → Int32} {v y y1 y2 : Nat → Nat → Int32} {l : Nat → Nat → Int64} {d p p' n H t : Nat} {T A A' : Nat → Int32}
/-- the weight of those of a one who know a fact so -/
def ab_vt (A : Nat → Int32) (one : Int32) (f : Nat) (b : Bool) (n : Nat) : Int32 := fk_it (fun j s => if (A (192 + j) = nI 1 ∧ A j = one) ∧ fk_tb (A (704 + j)) f = true ∧ fk_tb (A (768 + j)) f = b then s + A (256 + j) else s) 0 n (nI 0)
theorem ab_vt_s {one s : Int32} {f k : Nat} {b : Bool} (h : s = ab_vt A one f b k) : ab_vt A one f b (k + 1) = if (A (192 + k) = nI 1 ∧ A k = one) ∧ fk_tb (A (704 + k)) f = true ∧ fk_tb (A (768 + k)) f = b then s + A (256 + k) else s := by
  rw [h]
  unfold ab_vt
  rw [fk_it_succ, Nat.zero_add]
theorem mX8_weightOf {one ans : Int32} {f : Nat} {b : Bool} (hb : ans = if b = true then nI 1 else nI 0) (ho : ab_ok v n H A) (hp : ck_pr 33 y (fun _ => nI 0) A) (hf : f < 32) : fk_ev (d + 1) qX8_weightOf 0 [.ref 33, .int one, .int ((nI f)), .int ans, .null, .null, .null] [] (fk_E N y l) = some (some (.int ((ab_vt A one f b n))), fk_E N y l) := by
  have h8 := n8
  have h24 := n24
  have h34 := n34
  have hn := ho.1
  have eb : y 33 2 = nI n := hp.1.1.trans ho.2.1
  have key := fk_loopr (σ := Int32 × Value) (fun k t => fk_ev (d + 1) qX8_weightOf 6 [.ref 33, .int one, .int (nI f), .int ans, .int t.1, .int (nI k), t.2] [] (fk_E N y l)) (fun k t => t.1 = ab_vt A one f b k) n (by
    rintro k ⟨s, x⟩ hk i1
    try dsimp only at i1 ⊢
    have hh := n_h (show k < 64 by omega)
    obtain ⟨a1, a2, a3, a4, a5, a6, a7, a8, a9, a10, a11, a12, a13⟩ := hp.2.2.1 k (by omega) (by rw [ab_ok_n ho]; exact hk)
    rw [show 33 + 3 + k = 36 + k by omega] at a1 a4 a5 a11 a12
    have st := ab_vt_s i1
    rw [hX8_weightOf_6]
    by_cases c1 : A (192 + k) = nI 1
    · by_cases c2 : A k = one
      · by_cases c3 : fk_tb (A (704 + k)) f = true
        · by_cases c4 : fk_tb (A (768 + k)) f = true
          · cases b
            · have hb : ans = nI 0 := by rw [hb]; rfl
              subst hb
              refine ⟨(s, .ref (36 + k)), ?_, by rw [st, if_neg fun z => by rw [c4] at z; exact absurd z.2.2 (by decide)]⟩
              simp (disch := first | assumption | omega) only [rX8_weightOf, eb, nc0, a4, c1, a1, c2, mX0_knows hh hf, a11, a12, c3, c4, Option.bind_some, Option.toList_some, Option.toList_none, List.cons_append, List.nil_append, fk_b_0, nI_add, Nat.add_zero, Nat.zero_add, not_true_eq_false, not_false_eq_true, if_true, if_false, sI_le_t, sI_le_f, sI_lt_t, sI_lt_f, sI_eq_t, sI_eq_f, sI_rem, sI_div, sI_m1a, sI_m1b, sI_m1c, sI_m1d, sI_m1e, sI_m1f, sI_m2a, sI_m2b, sI_sub, pk_mul, sI_dec, fk_u_s, fk_u_o, sI_dec0, sI_z, sI_md, Bool.false_eq_true, Nat.reduceAdd, Nat.reduceMul, Nat.reduceSub, Nat.reduceMod, Nat.reduceDiv]
            · have hb : ans = nI 1 := by rw [hb]; rfl
              subst hb
              refine ⟨(s + A (256 + k), .ref (36 + k)), ?_, by rw [st, if_pos ⟨⟨c1, c2⟩, c3, c4⟩]⟩
              simp (disch := first | assumption | omega) only [rX8_weightOf, eb, nc0, a4, c1, a1, c2, mX0_knows hh hf, a11, a12, c3, c4, a5, Option.bind_some, Option.toList_some, Option.toList_none, List.cons_append, List.nil_append, fk_b_0, nI_add, Nat.add_zero, Nat.zero_add, not_true_eq_false, not_false_eq_true, if_true, if_false, sI_le_t, sI_le_f, sI_lt_t, sI_lt_f, sI_eq_t, sI_eq_f, sI_rem, sI_div, sI_m1a, sI_m1b, sI_m1c, sI_m1d, sI_m1e, sI_m1f, sI_m2a, sI_m2b, sI_sub, pk_mul, sI_dec, fk_u_s, fk_u_o, sI_dec0, sI_z, sI_md, Bool.false_eq_true, Nat.reduceAdd, Nat.reduceMul, Nat.reduceSub, Nat.reduceMod, Nat.reduceDiv]
          · cases b
            · have hb : ans = nI 0 := by rw [hb]; rfl
              subst hb
              refine ⟨(s + A (256 + k), .ref (36 + k)), ?_, by rw [st, if_pos ⟨⟨c1, c2⟩, c3, Bool.eq_false_iff.mpr c4⟩]⟩
              simp (disch := first | assumption | omega) only [rX8_weightOf, eb, nc0, a4, c1, a1, c2, mX0_knows hh hf, a11, a12, c3, c4, a5, Option.bind_some, Option.toList_some, Option.toList_none, List.cons_append, List.nil_append, fk_b_0, nI_add, Nat.add_zero, Nat.zero_add, not_true_eq_false, not_false_eq_true, if_true, if_false, sI_le_t, sI_le_f, sI_lt_t, sI_lt_f, sI_eq_t, sI_eq_f, sI_rem, sI_div, sI_m1a, sI_m1b, sI_m1c, sI_m1d, sI_m1e, sI_m1f, sI_m2a, sI_m2b, sI_sub, pk_mul, sI_dec, fk_u_s, fk_u_o, sI_dec0, sI_z, sI_md, Bool.false_eq_true, Nat.reduceAdd, Nat.reduceMul, Nat.reduceSub, Nat.reduceMod, Nat.reduceDiv]
            · have hb : ans = nI 1 := by rw [hb]; rfl
              subst hb
              refine ⟨(s, .ref (36 + k)), ?_, by rw [st, if_neg fun z => c4 z.2.2]⟩
              simp (disch := first | assumption | omega) only [rX8_weightOf, eb, nc0, a4, c1, a1, c2, mX0_knows hh hf, a11, a12, c3, c4, Option.bind_some, Option.toList_some, Option.toList_none, List.cons_append, List.nil_append, fk_b_0, nI_add, Nat.add_zero, Nat.zero_add, not_true_eq_false, not_false_eq_true, if_true, if_false, sI_le_t, sI_le_f, sI_lt_t, sI_lt_f, sI_eq_t, sI_eq_f, sI_rem, sI_div, sI_m1a, sI_m1b, sI_m1c, sI_m1d, sI_m1e, sI_m1f, sI_m2a, sI_m2b, sI_sub, pk_mul, sI_dec, fk_u_s, fk_u_o, sI_dec0, sI_z, sI_md, Bool.false_eq_true, Nat.reduceAdd, Nat.reduceMul, Nat.reduceSub, Nat.reduceMod, Nat.reduceDiv]
        · have z2 : ¬ (-2 : Int32) = ans := by
            cases b
            · rw [hb]; decide
            · rw [hb]; decide
          refine ⟨(s, .ref (36 + k)), ?_, by rw [st, if_neg fun z => c3 z.2.1]⟩
          simp (disch := first | assumption | omega) only [rX8_weightOf, eb, nc0, a4, c1, a1, c2, mX0_knows hh hf, a11, a12, c3, z2, Option.bind_some, Option.toList_some, Option.toList_none, List.cons_append, List.nil_append, fk_b_0, nI_add, Nat.add_zero, Nat.zero_add, not_true_eq_false, not_false_eq_true, if_true, if_false, sI_le_t, sI_le_f, sI_lt_t, sI_lt_f, sI_eq_t, sI_eq_f, sI_rem, sI_div, sI_m1a, sI_m1b, sI_m1c, sI_m1d, sI_m1e, sI_m1f, sI_m2a, sI_m2b, sI_sub, pk_mul, sI_dec, fk_u_s, fk_u_o, sI_dec0, sI_z, sI_md, Bool.false_eq_true, Nat.reduceAdd, Nat.reduceMul, Nat.reduceSub, Nat.reduceMod, Nat.reduceDiv]
      · refine ⟨(s, .ref (36 + k)), ?_, by rw [st, if_neg fun z => c2 z.1.2]⟩
        simp (disch := first | assumption | omega) only [rX8_weightOf, eb, nc0, a4, c1, a1, c2, Option.bind_some, Option.toList_some, Option.toList_none, List.cons_append, List.nil_append, fk_b_0, nI_add, Nat.add_zero, Nat.zero_add, not_true_eq_false, not_false_eq_true, if_true, if_false, sI_le_t, sI_le_f, sI_lt_t, sI_lt_f, sI_eq_t, sI_eq_f, sI_rem, sI_div, sI_m1a, sI_m1b, sI_m1c, sI_m1d, sI_m1e, sI_m1f, sI_m2a, sI_m2b, sI_sub, pk_mul, sI_dec, fk_u_s, fk_u_o, sI_dec0, sI_z, sI_md, Bool.false_eq_true, Nat.reduceAdd, Nat.reduceMul, Nat.reduceSub, Nat.reduceMod, Nat.reduceDiv]
    · refine ⟨(s, .ref (36 + k)), ?_, by rw [st, if_neg fun z => c1 z.1.1]⟩
      simp (disch := first | assumption | omega) only [rX8_weightOf, eb, nc0, a4, c1, Option.bind_some, Option.toList_some, Option.toList_none, List.cons_append, List.nil_append, fk_b_0, nI_add, Nat.add_zero, Nat.zero_add, not_true_eq_false, not_false_eq_true, if_true, if_false, sI_le_t, sI_le_f, sI_lt_t, sI_lt_f, sI_eq_t, sI_eq_f, sI_rem, sI_div, sI_m1a, sI_m1b, sI_m1c, sI_m1d, sI_m1e, sI_m1f, sI_m2a, sI_m2b, sI_sub, pk_mul, sI_dec, fk_u_s, fk_u_o, sI_dec0, sI_z, sI_md, Bool.false_eq_true, Nat.reduceAdd, Nat.reduceMul, Nat.reduceSub, Nat.reduceMod, Nat.reduceDiv]) n 0 (nI 0, .null) (Nat.zero_add n) rfl
  obtain ⟨⟨s, x⟩, e, i1⟩ := key
  try dsimp only at e i1
  simp (disch := first | assumption | omega) only [rX8_weightOf, Option.bind_some, Option.toList_some, Option.toList_none, List.cons_append, List.nil_append, fk_b_0, nI_add, Nat.add_zero, Nat.zero_add, not_true_eq_false, not_false_eq_true, if_true, if_false, sI_le_t, sI_le_f, sI_lt_t, sI_lt_f, sI_eq_t, sI_eq_f, sI_rem, sI_div, sI_m1a, sI_m1b, sI_m1c, sI_m1d, sI_m1e, sI_m1f, sI_m2a, sI_m2b, sI_sub, pk_mul, sI_dec, fk_u_s, fk_u_o, sI_dec0, sI_z, sI_md, Bool.false_eq_true, Nat.reduceAdd, Nat.reduceMul, Nat.reduceSub, Nat.reduceMod, Nat.reduceDiv]
  rw [e, hX8_weightOf_6]
  simp (disch := first | assumption | omega) only [rX8_weightOf, eb, Option.bind_some, Option.toList_some, Option.toList_none, List.cons_append, List.nil_append, fk_b_0, nI_add, Nat.add_zero, Nat.zero_add, not_true_eq_false, not_false_eq_true, if_true, if_false, sI_le_t, sI_le_f, sI_lt_t, sI_lt_f, sI_eq_t, sI_eq_f, sI_rem, sI_div, sI_m1a, sI_m1b, sI_m1c, sI_m1d, sI_m1e, sI_m1f, sI_m2a, sI_m2b, sI_sub, pk_mul, sI_dec, fk_u_s, fk_u_o, sI_dec0, sI_z, sI_md, Bool.false_eq_true, Nat.reduceAdd, Nat.reduceMul, Nat.reduceSub, Nat.reduceMod, Nat.reduceDiv]
  rw [i1]
theorem mX12_weightFor {one ans : Int32} {f : Nat} {b : Bool} (hb : ans = if b = true then nI 1 else nI 0) (hn : n ≤ 64) (hm : y 247 833 = nI n) (hf : f < 32) : fk_ev (d + 1) qX12_weightFor 0 [.ref 246, .int one, .int ((nI f)), .int ans, .null, .null] [] (fk_E N y l) = some (some (.int ((ab_vt (y 247) one f b n))), fk_E N y l) := by
  have key := fk_loopr (σ := Int32) (fun k t => fk_ev (d + 1) qX12_weightFor 6 [.ref 246, .int one, .int (nI f), .int ans, .int t, .int (nI k)] [] (fk_E N y l)) (fun k t => t = ab_vt (y 247) one f b k) n (by
    intro k s hk i1
    try dsimp only at i1 ⊢
    have st := ab_vt_s i1
    rw [hX12_weightFor_6]
    by_cases c1 : y 247 (192 + k) = nI 1
    · by_cases c2 : y 247 k = one
      · by_cases c3 : fk_tb (y 247 (704 + k)) f = true
        · by_cases c4 : fk_tb (y 247 (768 + k)) f = true
          · cases b
            · have hb : ans = nI 0 := by rw [hb]; rfl
              subst hb
              refine ⟨s, ?_, by rw [st, if_neg fun z => by rw [c4] at z; exact absurd z.2.2 (by decide)]⟩
              simp (disch := first | assumption | omega) only [rX12_weightFor, hm, mX12_lives, c1, c2, mX12_has, fk_has1, c3, c4, Option.bind_some, Option.toList_some, Option.toList_none, List.cons_append, List.nil_append, fk_b_0, nI_add, Nat.add_zero, Nat.zero_add, not_true_eq_false, not_false_eq_true, if_true, if_false, sI_le_t, sI_le_f, sI_lt_t, sI_lt_f, sI_eq_t, sI_eq_f, sI_rem, sI_div, sI_m1a, sI_m1b, sI_m1c, sI_m1d, sI_m1e, sI_m1f, sI_m2a, sI_m2b, sI_sub, pk_mul, sI_dec, fk_u_s, fk_u_o, sI_dec0, sI_z, sI_md, Bool.false_eq_true, Nat.reduceAdd, Nat.reduceMul, Nat.reduceSub, Nat.reduceMod, Nat.reduceDiv]
            · have hb : ans = nI 1 := by rw [hb]; rfl
              subst hb
              refine ⟨s + y 247 (256 + k), ?_, by rw [st, if_pos ⟨⟨c1, c2⟩, c3, c4⟩]⟩
              have f1 : fk_b (fk_tb (y 247 (768 + k)) f = true) = nI 1 := fk_b_t c4
              have hs := mX12_has (h := fk_E N y l) (d := d) (a := y 247 (768 + k)) (k := nI f)
              rw [fk_b_t ((fk_has1 hf).mpr c4)] at hs
              have hk2 := mX12_has (h := fk_E N y l) (d := d) (a := y 247 (704 + k)) (k := nI f)
              rw [fk_b_t ((fk_has1 hf).mpr c3)] at hk2
              simp (disch := first | assumption | omega) only [rX12_weightFor, hm, mX12_lives, c1, c2, hk2, hs, Option.bind_some, Option.toList_some, Option.toList_none, List.cons_append, List.nil_append, fk_b_0, nI_add, Nat.add_zero, Nat.zero_add, not_true_eq_false, not_false_eq_true, if_true, if_false, sI_le_t, sI_le_f, sI_lt_t, sI_lt_f, sI_eq_t, sI_eq_f, sI_rem, sI_div, sI_m1a, sI_m1b, sI_m1c, sI_m1d, sI_m1e, sI_m1f, sI_m2a, sI_m2b, sI_sub, pk_mul, sI_dec, fk_u_s, fk_u_o, sI_dec0, sI_z, sI_md, Bool.false_eq_true, Nat.reduceAdd, Nat.reduceMul, Nat.reduceSub, Nat.reduceMod, Nat.reduceDiv]
          · have hs := mX12_has (h := fk_E N y l) (d := d) (a := y 247 (768 + k)) (k := nI f)
            rw [fk_b_f fun z => c4 ((fk_has1 hf).mp z)] at hs
            have hk2 := mX12_has (h := fk_E N y l) (d := d) (a := y 247 (704 + k)) (k := nI f)
            rw [fk_b_t ((fk_has1 hf).mpr c3)] at hk2
            cases b
            · have hb : ans = nI 0 := by rw [hb]; rfl
              subst hb
              refine ⟨s + y 247 (256 + k), ?_, by rw [st, if_pos ⟨⟨c1, c2⟩, c3, Bool.eq_false_iff.mpr c4⟩]⟩
              simp (disch := first | assumption | omega) only [rX12_weightFor, hm, mX12_lives, c1, c2, hk2, hs, Option.bind_some, Option.toList_some, Option.toList_none, List.cons_append, List.nil_append, fk_b_0, nI_add, Nat.add_zero, Nat.zero_add, not_true_eq_false, not_false_eq_true, if_true, if_false, sI_le_t, sI_le_f, sI_lt_t, sI_lt_f, sI_eq_t, sI_eq_f, sI_rem, sI_div, sI_m1a, sI_m1b, sI_m1c, sI_m1d, sI_m1e, sI_m1f, sI_m2a, sI_m2b, sI_sub, pk_mul, sI_dec, fk_u_s, fk_u_o, sI_dec0, sI_z, sI_md, Bool.false_eq_true, Nat.reduceAdd, Nat.reduceMul, Nat.reduceSub, Nat.reduceMod, Nat.reduceDiv]
            · have hb : ans = nI 1 := by rw [hb]; rfl
              subst hb
              refine ⟨s, ?_, by rw [st, if_neg fun z => c4 z.2.2]⟩
              simp (disch := first | assumption | omega) only [rX12_weightFor, hm, mX12_lives, c1, c2, hk2, hs, Option.bind_some, Option.toList_some, Option.toList_none, List.cons_append, List.nil_append, fk_b_0, nI_add, Nat.add_zero, Nat.zero_add, not_true_eq_false, not_false_eq_true, if_true, if_false, sI_le_t, sI_le_f, sI_lt_t, sI_lt_f, sI_eq_t, sI_eq_f, sI_rem, sI_div, sI_m1a, sI_m1b, sI_m1c, sI_m1d, sI_m1e, sI_m1f, sI_m2a, sI_m2b, sI_sub, pk_mul, sI_dec, fk_u_s, fk_u_o, sI_dec0, sI_z, sI_md, Bool.false_eq_true, Nat.reduceAdd, Nat.reduceMul, Nat.reduceSub, Nat.reduceMod, Nat.reduceDiv]
        · refine ⟨s, ?_, by rw [st, if_neg fun z => c3 z.2.1]⟩
          simp (disch := first | assumption | omega) only [rX12_weightFor, hm, mX12_lives, c1, c2, mX12_has, fk_has1, c3, Option.bind_some, Option.toList_some, Option.toList_none, List.cons_append, List.nil_append, fk_b_0, nI_add, Nat.add_zero, Nat.zero_add, not_true_eq_false, not_false_eq_true, if_true, if_false, sI_le_t, sI_le_f, sI_lt_t, sI_lt_f, sI_eq_t, sI_eq_f, sI_rem, sI_div, sI_m1a, sI_m1b, sI_m1c, sI_m1d, sI_m1e, sI_m1f, sI_m2a, sI_m2b, sI_sub, pk_mul, sI_dec, fk_u_s, fk_u_o, sI_dec0, sI_z, sI_md, Bool.false_eq_true, Nat.reduceAdd, Nat.reduceMul, Nat.reduceSub, Nat.reduceMod, Nat.reduceDiv]
      · refine ⟨s, ?_, by rw [st, if_neg fun z => c2 z.1.2]⟩
        simp (disch := first | assumption | omega) only [rX12_weightFor, hm, mX12_lives, c1, c2, Option.bind_some, Option.toList_some, Option.toList_none, List.cons_append, List.nil_append, fk_b_0, nI_add, Nat.add_zero, Nat.zero_add, not_true_eq_false, not_false_eq_true, if_true, if_false, sI_le_t, sI_le_f, sI_lt_t, sI_lt_f, sI_eq_t, sI_eq_f, sI_rem, sI_div, sI_m1a, sI_m1b, sI_m1c, sI_m1d, sI_m1e, sI_m1f, sI_m2a, sI_m2b, sI_sub, pk_mul, sI_dec, fk_u_s, fk_u_o, sI_dec0, sI_z, sI_md, Bool.false_eq_true, Nat.reduceAdd, Nat.reduceMul, Nat.reduceSub, Nat.reduceMod, Nat.reduceDiv]
    · refine ⟨s, ?_, by rw [st, if_neg fun z => c1 z.1.1]⟩
      simp (disch := first | assumption | omega) only [rX12_weightFor, hm, mX12_lives, c1, Option.bind_some, Option.toList_some, Option.toList_none, List.cons_append, List.nil_append, fk_b_0, nI_add, Nat.add_zero, Nat.zero_add, not_true_eq_false, not_false_eq_true, if_true, if_false, sI_le_t, sI_le_f, sI_lt_t, sI_lt_f, sI_eq_t, sI_eq_f, sI_rem, sI_div, sI_m1a, sI_m1b, sI_m1c, sI_m1d, sI_m1e, sI_m1f, sI_m2a, sI_m2b, sI_sub, pk_mul, sI_dec, fk_u_s, fk_u_o, sI_dec0, sI_z, sI_md, Bool.false_eq_true, Nat.reduceAdd, Nat.reduceMul, Nat.reduceSub, Nat.reduceMod, Nat.reduceDiv]) n 0 (nI 0) (Nat.zero_add n) rfl
  obtain ⟨s, e, i1⟩ := key
  try dsimp only at e i1
  simp (disch := first | assumption | omega) only [rX12_weightFor, Option.bind_some, Option.toList_some, Option.toList_none, List.cons_append, List.nil_append, fk_b_0, nI_add, Nat.add_zero, Nat.zero_add, not_true_eq_false, not_false_eq_true, if_true, if_false, sI_le_t, sI_le_f, sI_lt_t, sI_lt_f, sI_eq_t, sI_eq_f, sI_rem, sI_div, sI_m1a, sI_m1b, sI_m1c, sI_m1d, sI_m1e, sI_m1f, sI_m2a, sI_m2b, sI_sub, pk_mul, sI_dec, fk_u_s, fk_u_o, sI_dec0, sI_z, sI_md, Bool.false_eq_true, Nat.reduceAdd, Nat.reduceMul, Nat.reduceSub, Nat.reduceMod, Nat.reduceDiv]
  rw [e, hX12_weightFor_6]
  simp (disch := first | assumption | omega) only [rX12_weightFor, hm, Option.bind_some, Option.toList_some, Option.toList_none, List.cons_append, List.nil_append, fk_b_0, nI_add, Nat.add_zero, Nat.zero_add, not_true_eq_false, not_false_eq_true, if_true, if_false, sI_le_t, sI_le_f, sI_lt_t, sI_lt_f, sI_eq_t, sI_eq_f, sI_rem, sI_div, sI_m1a, sI_m1b, sI_m1c, sI_m1d, sI_m1e, sI_m1f, sI_m2a, sI_m2b, sI_sub, pk_mul, sI_dec, fk_u_s, fk_u_o, sI_dec0, sI_z, sI_md, Bool.false_eq_true, Nat.reduceAdd, Nat.reduceMul, Nat.reduceSub, Nat.reduceMod, Nat.reduceDiv]
  rw [i1]
theorem fk_3c {w : Int32} : (∃ k : Nat, k < 3 ∧ w = nI k) ∨ ¬ (nI 0 ≤ w ∧ w < nI 3) ∧ ¬ (nI 0 ≤ w ∧ w ≤ nI 2) := by
  by_cases h : nI 0 ≤ w ∧ w < nI 3
  · exact Or.inl (fk_ixn h.1 h.2 (by omega))
  · exact Or.inr ⟨h, fun z => h ⟨z.1, Int32.lt_of_le_of_lt z.2 (by decide)⟩⟩
theorem cl_vote (hR : cR S y) {one f w : Int32} : ∃ a, fk_ev (d + 8) qX11_vote 0 [.ref 1, .int one, .int f, .int w, .null, .null] [] (fk_E N y l) = some (some (.int a), fk_E N y l) ∧ fk_ev (d + 8) qX12_vote 0 [.ref 246, .int one, .int f, .int w, .null, .null] [] (fk_E N y l) = some (some (.int a), fk_E N y l) := by
  obtain ⟨r0, r1, r2, ⟨n, H, p1, p2, p3, p4⟩, r4, r5, r6, r7, r8, r9⟩ := id hR
  have hn := p1.1
  have hm := p1.2.1
  have h8 := n8
  by_cases h1 : nI 0 ≤ one ∧ one < nI 4
  · by_cases h2 : nI 0 ≤ f ∧ f < nI 16
    · obtain ⟨f, hf, rfl⟩ := fk_ixn h2.1 h2.2 (by omega)
      have e1 := mX8_weightOf (N := N) (l := l) (d := d + 6) (one := one) (ans := nI 1) (b := true) (f := f) rfl p1 p3 (by omega)
      have e2 := mX8_weightOf (N := N) (l := l) (d := d + 6) (one := one) (ans := nI 0) (b := false) (f := f) rfl p1 p3 (by omega)
      have g1 := mX12_weightFor (N := N) (l := l) (d := d + 6) (y := y) (one := one) (ans := nI 1) (b := true) (f := f) rfl hn hm (by omega)
      have g2 := mX12_weightFor (N := N) (l := l) (d := d + 6) (y := y) (one := one) (ans := nI 0) (b := false) (f := f) rfl hn hm (by omega)
      generalize ab_vt (y 247) one f true n = a at e1 g1
      generalize ab_vt (y 247) one f false n = b at e2 g2
      rcases fk_3c (w := w) with ⟨k, hk, rfl⟩ | ⟨w1, w2⟩
      · have hh : k = 0 ∨ k = 1 ∨ k = 2 := by omega
        rcases hh with rfl | rfl | rfl
        · refine ⟨a, ?_, ?_⟩
          · simp (disch := first | assumption | omega) only [rX11_vote, mX11_within, h1, and_self, e1, e2, Option.bind_some, Option.toList_some, Option.toList_none, List.cons_append, List.nil_append, fk_b_0, nI_add, Nat.add_zero, Nat.zero_add, not_true_eq_false, not_false_eq_true, if_true, if_false, sI_le_t, sI_le_f, sI_lt_t, sI_lt_f, sI_eq_t, sI_eq_f, sI_rem, sI_div, sI_m1a, sI_m1b, sI_m1c, sI_m1d, sI_m1e, sI_m1f, sI_m2a, sI_m2b, sI_sub, pk_mul, sI_dec, fk_u_s, fk_u_o, sI_dec0, sI_z, sI_md, Bool.false_eq_true, Nat.reduceAdd, Nat.reduceMul, Nat.reduceSub, Nat.reduceMod, Nat.reduceDiv]
          · simp (disch := first | assumption | omega) only [rX12_vote, mX12_isOne, mX12_isFact, mX12_in, h1, and_self, g1, g2, Option.bind_some, Option.toList_some, Option.toList_none, List.cons_append, List.nil_append, fk_b_0, nI_add, Nat.add_zero, Nat.zero_add, not_true_eq_false, not_false_eq_true, if_true, if_false, sI_le_t, sI_le_f, sI_lt_t, sI_lt_f, sI_eq_t, sI_eq_f, sI_rem, sI_div, sI_m1a, sI_m1b, sI_m1c, sI_m1d, sI_m1e, sI_m1f, sI_m2a, sI_m2b, sI_sub, pk_mul, sI_dec, fk_u_s, fk_u_o, sI_dec0, sI_z, sI_md, Bool.false_eq_true, Nat.reduceAdd, Nat.reduceMul, Nat.reduceSub, Nat.reduceMod, Nat.reduceDiv]
        · refine ⟨b, ?_, ?_⟩
          · simp (disch := first | assumption | omega) only [rX11_vote, mX11_within, h1, and_self, e1, e2, Option.bind_some, Option.toList_some, Option.toList_none, List.cons_append, List.nil_append, fk_b_0, nI_add, Nat.add_zero, Nat.zero_add, not_true_eq_false, not_false_eq_true, if_true, if_false, sI_le_t, sI_le_f, sI_lt_t, sI_lt_f, sI_eq_t, sI_eq_f, sI_rem, sI_div, sI_m1a, sI_m1b, sI_m1c, sI_m1d, sI_m1e, sI_m1f, sI_m2a, sI_m2b, sI_sub, pk_mul, sI_dec, fk_u_s, fk_u_o, sI_dec0, sI_z, sI_md, Bool.false_eq_true, Nat.reduceAdd, Nat.reduceMul, Nat.reduceSub, Nat.reduceMod, Nat.reduceDiv]
          · simp (disch := first | assumption | omega) only [rX12_vote, mX12_isOne, mX12_isFact, mX12_in, h1, and_self, g1, g2, Option.bind_some, Option.toList_some, Option.toList_none, List.cons_append, List.nil_append, fk_b_0, nI_add, Nat.add_zero, Nat.zero_add, not_true_eq_false, not_false_eq_true, if_true, if_false, sI_le_t, sI_le_f, sI_lt_t, sI_lt_f, sI_eq_t, sI_eq_f, sI_rem, sI_div, sI_m1a, sI_m1b, sI_m1c, sI_m1d, sI_m1e, sI_m1f, sI_m2a, sI_m2b, sI_sub, pk_mul, sI_dec, fk_u_s, fk_u_o, sI_dec0, sI_z, sI_md, Bool.false_eq_true, Nat.reduceAdd, Nat.reduceMul, Nat.reduceSub, Nat.reduceMod, Nat.reduceDiv]
        · by_cases c1 : a = b
          · refine ⟨(-2), ?_, ?_⟩
            · simp (disch := first | assumption | omega) only [rX11_vote, mX11_within, h1, and_self, e1, e2, c1, Option.bind_some, Option.toList_some, Option.toList_none, List.cons_append, List.nil_append, fk_b_0, nI_add, Nat.add_zero, Nat.zero_add, not_true_eq_false, not_false_eq_true, if_true, if_false, sI_le_t, sI_le_f, sI_lt_t, sI_lt_f, sI_eq_t, sI_eq_f, sI_rem, sI_div, sI_m1a, sI_m1b, sI_m1c, sI_m1d, sI_m1e, sI_m1f, sI_m2a, sI_m2b, sI_sub, pk_mul, sI_dec, fk_u_s, fk_u_o, sI_dec0, sI_z, sI_md, Bool.false_eq_true, Nat.reduceAdd, Nat.reduceMul, Nat.reduceSub, Nat.reduceMod, Nat.reduceDiv]
            · simp (disch := first | assumption | omega) only [rX12_vote, mX12_isOne, mX12_isFact, mX12_in, h1, and_self, g1, g2, c1, Option.bind_some, Option.toList_some, Option.toList_none, List.cons_append, List.nil_append, fk_b_0, nI_add, Nat.add_zero, Nat.zero_add, not_true_eq_false, not_false_eq_true, if_true, if_false, sI_le_t, sI_le_f, sI_lt_t, sI_lt_f, sI_eq_t, sI_eq_f, sI_rem, sI_div, sI_m1a, sI_m1b, sI_m1c, sI_m1d, sI_m1e, sI_m1f, sI_m2a, sI_m2b, sI_sub, pk_mul, sI_dec, fk_u_s, fk_u_o, sI_dec0, sI_z, sI_md, Bool.false_eq_true, Nat.reduceAdd, Nat.reduceMul, Nat.reduceSub, Nat.reduceMod, Nat.reduceDiv]
          · by_cases c2 : b < a
            · have c3 : ¬ a ≤ b := Int32.not_le.mpr c2
              refine ⟨nI 1, ?_, ?_⟩
              · simp (disch := first | assumption | omega) only [rX11_vote, mX11_within, h1, and_self, e1, e2, c1, c3, Option.bind_some, Option.toList_some, Option.toList_none, List.cons_append, List.nil_append, fk_b_0, nI_add, Nat.add_zero, Nat.zero_add, not_true_eq_false, not_false_eq_true, if_true, if_false, sI_le_t, sI_le_f, sI_lt_t, sI_lt_f, sI_eq_t, sI_eq_f, sI_rem, sI_div, sI_m1a, sI_m1b, sI_m1c, sI_m1d, sI_m1e, sI_m1f, sI_m2a, sI_m2b, sI_sub, pk_mul, sI_dec, fk_u_s, fk_u_o, sI_dec0, sI_z, sI_md, Bool.false_eq_true, Nat.reduceAdd, Nat.reduceMul, Nat.reduceSub, Nat.reduceMod, Nat.reduceDiv]
              · simp (disch := first | assumption | omega) only [rX12_vote, mX12_isOne, mX12_isFact, mX12_in, h1, and_self, g1, g2, c1, c3, Option.bind_some, Option.toList_some, Option.toList_none, List.cons_append, List.nil_append, fk_b_0, nI_add, Nat.add_zero, Nat.zero_add, not_true_eq_false, not_false_eq_true, if_true, if_false, sI_le_t, sI_le_f, sI_lt_t, sI_lt_f, sI_eq_t, sI_eq_f, sI_rem, sI_div, sI_m1a, sI_m1b, sI_m1c, sI_m1d, sI_m1e, sI_m1f, sI_m2a, sI_m2b, sI_sub, pk_mul, sI_dec, fk_u_s, fk_u_o, sI_dec0, sI_z, sI_md, Bool.false_eq_true, Nat.reduceAdd, Nat.reduceMul, Nat.reduceSub, Nat.reduceMod, Nat.reduceDiv]
            · have c3 : a ≤ b := Int32.not_lt.mp c2
              refine ⟨nI 0, ?_, ?_⟩
              · simp (disch := first | assumption | omega) only [rX11_vote, mX11_within, h1, and_self, e1, e2, c1, c3, Option.bind_some, Option.toList_some, Option.toList_none, List.cons_append, List.nil_append, fk_b_0, nI_add, Nat.add_zero, Nat.zero_add, not_true_eq_false, not_false_eq_true, if_true, if_false, sI_le_t, sI_le_f, sI_lt_t, sI_lt_f, sI_eq_t, sI_eq_f, sI_rem, sI_div, sI_m1a, sI_m1b, sI_m1c, sI_m1d, sI_m1e, sI_m1f, sI_m2a, sI_m2b, sI_sub, pk_mul, sI_dec, fk_u_s, fk_u_o, sI_dec0, sI_z, sI_md, Bool.false_eq_true, Nat.reduceAdd, Nat.reduceMul, Nat.reduceSub, Nat.reduceMod, Nat.reduceDiv]
              · simp (disch := first | assumption | omega) only [rX12_vote, mX12_isOne, mX12_isFact, mX12_in, h1, and_self, g1, g2, c1, c3, Option.bind_some, Option.toList_some, Option.toList_none, List.cons_append, List.nil_append, fk_b_0, nI_add, Nat.add_zero, Nat.zero_add, not_true_eq_false, not_false_eq_true, if_true, if_false, sI_le_t, sI_le_f, sI_lt_t, sI_lt_f, sI_eq_t, sI_eq_f, sI_rem, sI_div, sI_m1a, sI_m1b, sI_m1c, sI_m1d, sI_m1e, sI_m1f, sI_m2a, sI_m2b, sI_sub, pk_mul, sI_dec, fk_u_s, fk_u_o, sI_dec0, sI_z, sI_md, Bool.false_eq_true, Nat.reduceAdd, Nat.reduceMul, Nat.reduceSub, Nat.reduceMod, Nat.reduceDiv]
      · refine ⟨(-1), ?_, ?_⟩
        · simp (disch := first | assumption | omega) only [rX11_vote, mX11_within, h1, and_self, w1, Option.bind_some, Option.toList_some, Option.toList_none, List.cons_append, List.nil_append, fk_b_0, nI_add, Nat.add_zero, Nat.zero_add, not_true_eq_false, not_false_eq_true, if_true, if_false, sI_le_t, sI_le_f, sI_lt_t, sI_lt_f, sI_eq_t, sI_eq_f, sI_rem, sI_div, sI_m1a, sI_m1b, sI_m1c, sI_m1d, sI_m1e, sI_m1f, sI_m2a, sI_m2b, sI_sub, pk_mul, sI_dec, fk_u_s, fk_u_o, sI_dec0, sI_z, sI_md, Bool.false_eq_true, Nat.reduceAdd, Nat.reduceMul, Nat.reduceSub, Nat.reduceMod, Nat.reduceDiv]
        · simp (disch := first | assumption | omega) only [rX12_vote, mX12_isOne, mX12_isFact, mX12_in, h1, and_self, w2, Option.bind_some, Option.toList_some, Option.toList_none, List.cons_append, List.nil_append, fk_b_0, nI_add, Nat.add_zero, Nat.zero_add, not_true_eq_false, not_false_eq_true, if_true, if_false, sI_le_t, sI_le_f, sI_lt_t, sI_lt_f, sI_eq_t, sI_eq_f, sI_rem, sI_div, sI_m1a, sI_m1b, sI_m1c, sI_m1d, sI_m1e, sI_m1f, sI_m2a, sI_m2b, sI_sub, pk_mul, sI_dec, fk_u_s, fk_u_o, sI_dec0, sI_z, sI_md, Bool.false_eq_true, Nat.reduceAdd, Nat.reduceMul, Nat.reduceSub, Nat.reduceMod, Nat.reduceDiv]
    · refine ⟨(-1), ?_, ?_⟩
      · simp (disch := first | assumption | omega) only [rX11_vote, mX11_within, h1, and_self, h2, Option.bind_some, Option.toList_some, Option.toList_none, List.cons_append, List.nil_append, fk_b_0, nI_add, Nat.add_zero, Nat.zero_add, not_true_eq_false, not_false_eq_true, if_true, if_false, sI_le_t, sI_le_f, sI_lt_t, sI_lt_f, sI_eq_t, sI_eq_f, sI_rem, sI_div, sI_m1a, sI_m1b, sI_m1c, sI_m1d, sI_m1e, sI_m1f, sI_m2a, sI_m2b, sI_sub, pk_mul, sI_dec, fk_u_s, fk_u_o, sI_dec0, sI_z, sI_md, Bool.false_eq_true, Nat.reduceAdd, Nat.reduceMul, Nat.reduceSub, Nat.reduceMod, Nat.reduceDiv]
      · simp (disch := first | assumption | omega) only [rX12_vote, mX12_isOne, mX12_isFact, mX12_in, h1, and_self, h2, Option.bind_some, Option.toList_some, Option.toList_none, List.cons_append, List.nil_append, fk_b_0, nI_add, Nat.add_zero, Nat.zero_add, not_true_eq_false, not_false_eq_true, if_true, if_false, sI_le_t, sI_le_f, sI_lt_t, sI_lt_f, sI_eq_t, sI_eq_f, sI_rem, sI_div, sI_m1a, sI_m1b, sI_m1c, sI_m1d, sI_m1e, sI_m1f, sI_m2a, sI_m2b, sI_sub, pk_mul, sI_dec, fk_u_s, fk_u_o, sI_dec0, sI_z, sI_md, Bool.false_eq_true, Nat.reduceAdd, Nat.reduceMul, Nat.reduceSub, Nat.reduceMod, Nat.reduceDiv]
  · refine ⟨(-1), ?_, ?_⟩
    · simp (disch := first | assumption | omega) only [rX11_vote, mX11_within, h1, Option.bind_some, Option.toList_some, Option.toList_none, List.cons_append, List.nil_append, fk_b_0, nI_add, Nat.add_zero, Nat.zero_add, not_true_eq_false, not_false_eq_true, if_true, if_false, sI_le_t, sI_le_f, sI_lt_t, sI_lt_f, sI_eq_t, sI_eq_f, sI_rem, sI_div, sI_m1a, sI_m1b, sI_m1c, sI_m1d, sI_m1e, sI_m1f, sI_m2a, sI_m2b, sI_sub, pk_mul, sI_dec, fk_u_s, fk_u_o, sI_dec0, sI_z, sI_md, Bool.false_eq_true, Nat.reduceAdd, Nat.reduceMul, Nat.reduceSub, Nat.reduceMod, Nat.reduceDiv]
    · simp (disch := first | assumption | omega) only [rX12_vote, mX12_isOne, h1, Option.bind_some, Option.toList_some, Option.toList_none, List.cons_append, List.nil_append, fk_b_0, nI_add, Nat.add_zero, Nat.zero_add, not_true_eq_false, not_false_eq_true, if_true, if_false, sI_le_t, sI_le_f, sI_lt_t, sI_lt_f, sI_eq_t, sI_eq_f, sI_rem, sI_div, sI_m1a, sI_m1b, sI_m1c, sI_m1d, sI_m1e, sI_m1f, sI_m2a, sI_m2b, sI_sub, pk_mul, sI_dec, fk_u_s, fk_u_o, sI_dec0, sI_z, sI_md, Bool.false_eq_true, Nat.reduceAdd, Nat.reduceMul, Nat.reduceSub, Nat.reduceMod, Nat.reduceDiv]
end CM0
section CM1
variable {N : Nat} {S : Nat → Int32} {v y y1 y2 : Nat → Nat → Int32} {l : Nat → Nat → Int64} {d p p' n H t : Nat} {T A A' : Nat → Int32}
theorem fk_add0 {s : Int32} : s + nI 0 = s := by rw [nI_0, Int32.add_zero]
/-- something added up over those of a one who live -/
def ab_tg (A : Nat → Int32) (g : Nat → Int32) (one : Int32) (n : Nat) : Int32 := fk_it (fun j s => if A (192 + j) = nI 1 ∧ A j = one then s + g j else s) 0 n (nI 0)
theorem ab_tg_s {g : Nat → Int32} {one s : Int32} {k : Nat} (h : s = ab_tg A g one k) : ab_tg A g one (k + 1) = if A (192 + k) = nI 1 ∧ A k = one then s + g k else s := by
  rw [h]
  unfold ab_tg
  rw [fk_it_succ, Nat.zero_add]
theorem mX8_together {one : Int32} {w : Nat} (hpp : ck_pp p) (ho : ab_ok v n H A) (hp : ck_pr p y T A) (hw : w < 4) : fk_ev d qX8_together 0 [.ref p, .int one, .int ((nI w)), .null, .null, .null] [] (fk_E N y l) = some (some (.int ((ab_tg A (fun j => if w = 1 then nI 1 else if w = 2 then A (256 + j) else A (576 + j)) one n))), fk_E N y l) := by
  obtain ⟨h8, c0, c1, h24, s24, h20, s20, q1, q2⟩ := ck_pp_at hpp
  have hn := ho.1
  have eb : y p 2 = nI n := hp.1.1.trans ho.2.1
  have key := fk_loopr (σ := Int32 × Value) (fun k t => fk_ev d qX8_together 5 [.ref p, .int one, .int (nI w), .int t.1, .int (nI k), t.2] [] (fk_E N y l)) (fun k t => t.1 = ab_tg A (fun j => if w = 1 then nI 1 else if w = 2 then A (256 + j) else A (576 + j)) one k) n (by
    rintro k ⟨s, x⟩ hk i1
    try dsimp only at i1 ⊢
    have hh := ck_pp_h hpp (show k < 64 by omega)
    obtain ⟨a1, a2, a3, a4, a5, a6, a7, a8, a9, a10, a11, a12, a13⟩ := hp.2.2.1 k (by omega) (by rw [ab_ok_n ho]; exact hk)
    have st := ab_tg_s i1
    rw [hX8_together_5]
    by_cases c1 : A (192 + k) = nI 1
    · by_cases c2 : A k = one
      · rw [if_pos ⟨c1, c2⟩] at st
        by_cases w1 : w = 1
        · subst w1
          refine ⟨(s + nI 1, .ref (p + 3 + k)), ?_, by rw [st]; rfl⟩
          simp (disch := first | assumption | omega) only [rX8_together, eb, c0, ck_p3 (p := p), a4, c1, a1, c2, Option.bind_some, Option.toList_some, Option.toList_none, List.cons_append, List.nil_append, fk_b_0, nI_add, Nat.add_zero, Nat.zero_add, not_true_eq_false, not_false_eq_true, if_true, if_false, sI_le_t, sI_le_f, sI_lt_t, sI_lt_f, sI_eq_t, sI_eq_f, sI_rem, sI_div, sI_m1a, sI_m1b, sI_m1c, sI_m1d, sI_m1e, sI_m1f, sI_m2a, sI_m2b, sI_sub, pk_mul, sI_dec, fk_u_s, fk_u_o, sI_dec0, sI_z, sI_md, Bool.false_eq_true, Nat.reduceAdd, Nat.reduceMul, Nat.reduceSub, Nat.reduceMod, Nat.reduceDiv]
        · by_cases w2 : w = 2
          · subst w2
            refine ⟨(s + A (256 + k), .ref (p + 3 + k)), ?_, by rw [st]; rfl⟩
            simp (disch := first | assumption | omega) only [rX8_together, eb, c0, ck_p3 (p := p), a4, c1, a1, c2, a5, Option.bind_some, Option.toList_some, Option.toList_none, List.cons_append, List.nil_append, fk_b_0, nI_add, Nat.add_zero, Nat.zero_add, not_true_eq_false, not_false_eq_true, if_true, if_false, sI_le_t, sI_le_f, sI_lt_t, sI_lt_f, sI_eq_t, sI_eq_f, sI_rem, sI_div, sI_m1a, sI_m1b, sI_m1c, sI_m1d, sI_m1e, sI_m1f, sI_m2a, sI_m2b, sI_sub, pk_mul, sI_dec, fk_u_s, fk_u_o, sI_dec0, sI_z, sI_md, Bool.false_eq_true, Nat.reduceAdd, Nat.reduceMul, Nat.reduceSub, Nat.reduceMod, Nat.reduceDiv]
          · refine ⟨(s + A (576 + k), .ref (p + 3 + k)), ?_, by rw [st, if_neg w1, if_neg w2]⟩
            simp (disch := first | assumption | omega) only [rX8_together, eb, c0, ck_p3 (p := p), a4, c1, a1, c2, a10, Option.bind_some, Option.toList_some, Option.toList_none, List.cons_append, List.nil_append, fk_b_0, nI_add, Nat.add_zero, Nat.zero_add, not_true_eq_false, not_false_eq_true, if_true, if_false, sI_le_t, sI_le_f, sI_lt_t, sI_lt_f, sI_eq_t, sI_eq_f, sI_rem, sI_div, sI_m1a, sI_m1b, sI_m1c, sI_m1d, sI_m1e, sI_m1f, sI_m2a, sI_m2b, sI_sub, pk_mul, sI_dec, fk_u_s, fk_u_o, sI_dec0, sI_z, sI_md, Bool.false_eq_true, Nat.reduceAdd, Nat.reduceMul, Nat.reduceSub, Nat.reduceMod, Nat.reduceDiv]
      · refine ⟨(s, .ref (p + 3 + k)), ?_, by rw [st, if_neg fun z => c2 z.2]⟩
        simp (disch := first | assumption | omega) only [rX8_together, eb, c0, ck_p3 (p := p), a4, c1, a1, c2, Option.bind_some, Option.toList_some, Option.toList_none, List.cons_append, List.nil_append, fk_b_0, nI_add, Nat.add_zero, Nat.zero_add, not_true_eq_false, not_false_eq_true, if_true, if_false, sI_le_t, sI_le_f, sI_lt_t, sI_lt_f, sI_eq_t, sI_eq_f, sI_rem, sI_div, sI_m1a, sI_m1b, sI_m1c, sI_m1d, sI_m1e, sI_m1f, sI_m2a, sI_m2b, sI_sub, pk_mul, sI_dec, fk_u_s, fk_u_o, sI_dec0, sI_z, sI_md, Bool.false_eq_true, Nat.reduceAdd, Nat.reduceMul, Nat.reduceSub, Nat.reduceMod, Nat.reduceDiv]
    · refine ⟨(s, .ref (p + 3 + k)), ?_, by rw [st, if_neg fun z => c1 z.1]⟩
      simp (disch := first | assumption | omega) only [rX8_together, eb, c0, ck_p3 (p := p), a4, c1, Option.bind_some, Option.toList_some, Option.toList_none, List.cons_append, List.nil_append, fk_b_0, nI_add, Nat.add_zero, Nat.zero_add, not_true_eq_false, not_false_eq_true, if_true, if_false, sI_le_t, sI_le_f, sI_lt_t, sI_lt_f, sI_eq_t, sI_eq_f, sI_rem, sI_div, sI_m1a, sI_m1b, sI_m1c, sI_m1d, sI_m1e, sI_m1f, sI_m2a, sI_m2b, sI_sub, pk_mul, sI_dec, fk_u_s, fk_u_o, sI_dec0, sI_z, sI_md, Bool.false_eq_true, Nat.reduceAdd, Nat.reduceMul, Nat.reduceSub, Nat.reduceMod, Nat.reduceDiv]) n 0 (nI 0, .null) (Nat.zero_add n) rfl
  obtain ⟨⟨s, x⟩, e, i1⟩ := key
  try dsimp only at e i1
  simp (disch := first | assumption | omega) only [rX8_together, Option.bind_some, Option.toList_some, Option.toList_none, List.cons_append, List.nil_append, fk_b_0, nI_add, Nat.add_zero, Nat.zero_add, not_true_eq_false, not_false_eq_true, if_true, if_false, sI_le_t, sI_le_f, sI_lt_t, sI_lt_f, sI_eq_t, sI_eq_f, sI_rem, sI_div, sI_m1a, sI_m1b, sI_m1c, sI_m1d, sI_m1e, sI_m1f, sI_m2a, sI_m2b, sI_sub, pk_mul, sI_dec, fk_u_s, fk_u_o, sI_dec0, sI_z, sI_md, Bool.false_eq_true, Nat.reduceAdd, Nat.reduceMul, Nat.reduceSub, Nat.reduceMod, Nat.reduceDiv]
  rw [e, hX8_together_5]
  simp (disch := first | assumption | omega) only [rX8_together, eb, Option.bind_some, Option.toList_some, Option.toList_none, List.cons_append, List.nil_append, fk_b_0, nI_add, Nat.add_zero, Nat.zero_add, not_true_eq_false, not_false_eq_true, if_true, if_false, sI_le_t, sI_le_f, sI_lt_t, sI_lt_f, sI_eq_t, sI_eq_f, sI_rem, sI_div, sI_m1a, sI_m1b, sI_m1c, sI_m1d, sI_m1e, sI_m1f, sI_m2a, sI_m2b, sI_sub, pk_mul, sI_dec, fk_u_s, fk_u_o, sI_dec0, sI_z, sI_md, Bool.false_eq_true, Nat.reduceAdd, Nat.reduceMul, Nat.reduceSub, Nat.reduceMod, Nat.reduceDiv]
  rw [i1]
theorem mX12_sumFor {one : Int32} {col : Nat} (hc : col < 1000) (hn : n ≤ 64) (hm : y 247 833 = nI n) : fk_ev (d + 1) qX12_sumFor 0 [.ref 246, .int ((nI col)), .int one, .null, .null] [] (fk_E N y l) = some (some (.int ((ab_tg (y 247) (fun j => y 247 (col + j)) one n))), fk_E N y l) := by
  have key := fk_loopr (σ := Int32) (fun k t => fk_ev (d + 1) qX12_sumFor 5 [.ref 246, .int (nI col), .int one, .int t, .int (nI k)] [] (fk_E N y l)) (fun k t => t = ab_tg (y 247) (fun j => y 247 (col + j)) one k) n (by
    intro k s hk i1
    try dsimp only at i1 ⊢
    have st := ab_tg_s i1
    rw [hX12_sumFor_5]
    by_cases c1 : y 247 (192 + k) = nI 1
    · by_cases c2 : y 247 k = one
      · rw [if_pos ⟨c1, c2⟩] at st
        refine ⟨s + y 247 (col + k), ?_, st.symm⟩
        simp (disch := first | assumption | omega) only [rX12_sumFor, hm, mX12_lives, c1, c2, Option.bind_some, Option.toList_some, Option.toList_none, List.cons_append, List.nil_append, fk_b_0, nI_add, Nat.add_zero, Nat.zero_add, not_true_eq_false, not_false_eq_true, if_true, if_false, sI_le_t, sI_le_f, sI_lt_t, sI_lt_f, sI_eq_t, sI_eq_f, sI_rem, sI_div, sI_m1a, sI_m1b, sI_m1c, sI_m1d, sI_m1e, sI_m1f, sI_m2a, sI_m2b, sI_sub, pk_mul, sI_dec, fk_u_s, fk_u_o, sI_dec0, sI_z, sI_md, Bool.false_eq_true, Nat.reduceAdd, Nat.reduceMul, Nat.reduceSub, Nat.reduceMod, Nat.reduceDiv]
      · refine ⟨s, ?_, by rw [st, if_neg fun z => c2 z.2]⟩
        simp (disch := first | assumption | omega) only [rX12_sumFor, hm, mX12_lives, c1, c2, fk_add0, Option.bind_some, Option.toList_some, Option.toList_none, List.cons_append, List.nil_append, fk_b_0, nI_add, Nat.add_zero, Nat.zero_add, not_true_eq_false, not_false_eq_true, if_true, if_false, sI_le_t, sI_le_f, sI_lt_t, sI_lt_f, sI_eq_t, sI_eq_f, sI_rem, sI_div, sI_m1a, sI_m1b, sI_m1c, sI_m1d, sI_m1e, sI_m1f, sI_m2a, sI_m2b, sI_sub, pk_mul, sI_dec, fk_u_s, fk_u_o, sI_dec0, sI_z, sI_md, Bool.false_eq_true, Nat.reduceAdd, Nat.reduceMul, Nat.reduceSub, Nat.reduceMod, Nat.reduceDiv]
    · refine ⟨s, ?_, by rw [st, if_neg fun z => c1 z.1]⟩
      simp (disch := first | assumption | omega) only [rX12_sumFor, hm, mX12_lives, c1, fk_add0, Option.bind_some, Option.toList_some, Option.toList_none, List.cons_append, List.nil_append, fk_b_0, nI_add, Nat.add_zero, Nat.zero_add, not_true_eq_false, not_false_eq_true, if_true, if_false, sI_le_t, sI_le_f, sI_lt_t, sI_lt_f, sI_eq_t, sI_eq_f, sI_rem, sI_div, sI_m1a, sI_m1b, sI_m1c, sI_m1d, sI_m1e, sI_m1f, sI_m2a, sI_m2b, sI_sub, pk_mul, sI_dec, fk_u_s, fk_u_o, sI_dec0, sI_z, sI_md, Bool.false_eq_true, Nat.reduceAdd, Nat.reduceMul, Nat.reduceSub, Nat.reduceMod, Nat.reduceDiv]) n 0 (nI 0) (Nat.zero_add n) rfl
  obtain ⟨s, e, i1⟩ := key
  try dsimp only at e i1
  simp (disch := first | assumption | omega) only [rX12_sumFor, Option.bind_some, Option.toList_some, Option.toList_none, List.cons_append, List.nil_append, fk_b_0, nI_add, Nat.add_zero, Nat.zero_add, not_true_eq_false, not_false_eq_true, if_true, if_false, sI_le_t, sI_le_f, sI_lt_t, sI_lt_f, sI_eq_t, sI_eq_f, sI_rem, sI_div, sI_m1a, sI_m1b, sI_m1c, sI_m1d, sI_m1e, sI_m1f, sI_m2a, sI_m2b, sI_sub, pk_mul, sI_dec, fk_u_s, fk_u_o, sI_dec0, sI_z, sI_md, Bool.false_eq_true, Nat.reduceAdd, Nat.reduceMul, Nat.reduceSub, Nat.reduceMod, Nat.reduceDiv]
  rw [e, hX12_sumFor_5]
  simp (disch := first | assumption | omega) only [rX12_sumFor, hm, Option.bind_some, Option.toList_some, Option.toList_none, List.cons_append, List.nil_append, fk_b_0, nI_add, Nat.add_zero, Nat.zero_add, not_true_eq_false, not_false_eq_true, if_true, if_false, sI_le_t, sI_le_f, sI_lt_t, sI_lt_f, sI_eq_t, sI_eq_f, sI_rem, sI_div, sI_m1a, sI_m1b, sI_m1c, sI_m1d, sI_m1e, sI_m1f, sI_m2a, sI_m2b, sI_sub, pk_mul, sI_dec, fk_u_s, fk_u_o, sI_dec0, sI_z, sI_md, Bool.false_eq_true, Nat.reduceAdd, Nat.reduceMul, Nat.reduceSub, Nat.reduceMod, Nat.reduceDiv]
  rw [i1]
/-- their weight together is a number from 1 on -/
theorem ab_tg_w {one : Int32} {j : Nat} (ho : ab_ok v n H A) (hj : j < n) (h1 : A (192 + j) = nI 1) (h2 : A j = one) : ∃ W, 1 ≤ W ∧ W ≤ 262144 ∧ ab_tg A (fun j => A (256 + j)) one n = nI W := by
  have hw : ∀ i, i < n → ∃ w : Nat, 1 ≤ w ∧ w ≤ 262144 ∧ A (256 + i) = nI w := fun i hi => (ho.2.2.2.2.2.1 i hi).2.2.2.1
  have hn := ho.1
  refine ⟨fk_sf (fun i => if A (192 + i) = nI 1 ∧ A i = one then (A (256 + i)).toNatClampNeg else 0) 0 n, ?_, ?_, ?_⟩
  · refine Nat.le_trans ?_ (fk_sf_one (i := j) n 0 (by omega) (by omega))
    obtain ⟨w, g1, g2, g3⟩ := hw j hj
    rw [if_pos ⟨h1, h2⟩, g3, nI_clamp (by omega)]
    exact g1
  · have := fk_sf_le (p := fun i => if A (192 + i) = nI 1 ∧ A i = one then (A (256 + i)).toNatClampNeg else 0) (q := ab_wj A) n 0 (by
      intro i _ hi
      try dsimp only
      unfold ab_wj
      by_cases c : A (192 + i) = nI 1
      · rw [if_pos c]
        split
        · exact Nat.le_refl _
        · exact Nat.zero_le _
      · rw [if_neg c, if_neg fun z => c z.1]
        exact Nat.le_refl _)
    have h7 := ho.2.2.2.2.2.2
    omega
  · clear h1 h2 ho hj hn
    induction n with
    | zero => rfl
    | succ n ih =>
      have ih := ih fun i hi => hw i (by omega)
      rw [ab_tg_s rfl, ih, fk_sf_succ, Nat.zero_add]
      obtain ⟨w, g1, g2, g3⟩ := hw n (by omega)
      by_cases c : A (192 + n) = nI 1 ∧ A n = one
      · rw [if_pos c, if_pos c, g3, nI_clamp (by omega), nI_add]
      · rw [if_neg c, if_neg c, Nat.add_zero]
/-- how a loaf is shared: what is left, and who is ahead -/
def ab_sh (A : Nat → Int32) (one q L : Int32) (W j n : Nat) : Int32 × Int32 := fk_it (fun k s => if A (192 + k) = nI 1 ∧ A k = one then (s.1 - L * A (256 + k) / nI W, if q < L * A (256 + k) - L * A (256 + k) / nI W * nI W ∨ (L * A (256 + k) - L * A (256 + k) / nI W * nI W = q ∧ k < j) then s.2 + nI 1 else s.2) else s) 0 n (L, nI 0)
theorem ab_sh_s {one q L : Int32} {W j k : Nat} {s : Int32 × Int32} (h : s = ab_sh A one q L W j k) : ab_sh A one q L W j (k + 1) = if A (192 + k) = nI 1 ∧ A k = one then (s.1 - L * A (256 + k) / nI W, if q < L * A (256 + k) - L * A (256 + k) / nI W * nI W ∨ (L * A (256 + k) - L * A (256 + k) / nI W * nI W = q ∧ k < j) then s.2 + nI 1 else s.2) else s := by
  rw [h]
  unfold ab_sh
  rw [fk_it_succ, Nat.zero_add]
def ab_bd (A : Nat → Int32) (L : Int32) (W j n : Nat) : Int32 := L * A (256 + j) / nI W + (if (ab_sh A (A j) (L * A (256 + j) - L * A (256 + j) / nI W * nI W) L W j n).2 < (ab_sh A (A j) (L * A (256 + j) - L * A (256 + j) / nI W * nI W) L W j n).1 then nI 1 else nI 0)
theorem mX8_shareOf {L : Int32} {W j : Nat} (ho : ab_ok v n H A) (hp : ck_pr 33 y (fun _ => nI 0) A) (hj : j < n) (hW : 1 ≤ W) (hW2 : W ≤ 262144) (eW : ab_tg A (fun j => A (256 + j)) (A j) n = nI W) : fk_ev (d + 1) qX8_shareOf 0 [.ref 33, .ref ((36 + j)), .int L, .null, .null, .null, .null, .null, .null, .null] [] (fk_E N y l) = some (some (.int ((ab_bd A L W j n))), fk_E N y l) := by
  have h8 := n8
  have h24 := n24
  have h34 := n34
  have hn := ho.1
  have eb : y 33 2 = nI n := hp.1.1.trans ho.2.1
  have hh := n_h (show j < 64 by omega)
  obtain ⟨a1, a2, a3, a4, a5, a6, a7, a8, a9, a10, a11, a12, a13⟩ := hp.2.2.1 j (by omega) (by rw [ab_ok_n ho]; exact hj)
  have a0 := hp.2.1 j (by omega)
  rw [show 33 + 3 + j = 36 + j by omega] at a0 a1 a4 a5
  have tg := mX8_together (N := N) (l := l) (d := d) (one := A j) (w := 2) (p := 33) (Or.inl rfl) ho hp (by omega)
  have eW' : ab_tg A (fun j => if (2 : Nat) = 1 then nI 1 else if (2 : Nat) = 2 then A (256 + j) else A (576 + j)) (A j) n = nI W := eW
  rw [eW'] at tg
  have w0 : ¬ nI W = (0 : Int32) := nI_ne0 (by omega) (by omega)
  have key := fk_loopr (σ := (Int32 × Int32) × Value × Value) (fun k t => fk_ev (d + 1) qX8_shareOf 35 [.ref 33, .ref (36 + j), .int L, .int (nI W), .int (L * A (256 + j) - L * A (256 + j) / nI W * nI W), .int t.1.1, .int t.1.2, .int (nI k), t.2.1, t.2.2] [] (fk_E N y l)) (fun k t => t.1 = ab_sh A (A j) (L * A (256 + j) - L * A (256 + j) / nI W * nI W) L W j k) n (by
    rintro k ⟨⟨s1, s2⟩, x, x'⟩ hk i1
    try dsimp only at i1 ⊢
    have hk' := n_h (show k < 64 by omega)
    obtain ⟨b1, b2, b3, b4, b5, b6, b7, b8, b9, b10, b11, b12, b13⟩ := hp.2.2.1 k (by omega) (by rw [ab_ok_n ho]; exact hk)
    rw [show 33 + 3 + k = 36 + k by omega] at b1 b4 b5
    have st := ab_sh_s i1
    rw [hX8_shareOf_35]
    by_cases c1 : A (192 + k) = nI 1
    · by_cases c2 : A k = A j
      · rw [if_pos ⟨c1, c2⟩] at st
        try dsimp only at st
        generalize L * A (256 + j) - L * A (256 + j) / nI W * nI W = q at st ⊢
        by_cases c3 : q < L * A (256 + k) - L * A (256 + k) / nI W * nI W
        · rw [if_pos (Or.inl c3)] at st
          refine ⟨((s1 - L * A (256 + k) / nI W, s2 + nI 1), .ref (36 + k), .int (L * A (256 + k) - L * A (256 + k) / nI W * nI W)), ?_, st.symm⟩
          simp (disch := first | assumption | omega) only [rX8_shareOf, eb, nc0, b4, c1, b1, a1, c2, b5, w0, c3, Option.bind_some, Option.toList_some, Option.toList_none, List.cons_append, List.nil_append, fk_b_0, nI_add, Nat.add_zero, Nat.zero_add, not_true_eq_false, not_false_eq_true, if_true, if_false, sI_le_t, sI_le_f, sI_lt_t, sI_lt_f, sI_eq_t, sI_eq_f, sI_rem, sI_div, sI_m1a, sI_m1b, sI_m1c, sI_m1d, sI_m1e, sI_m1f, sI_m2a, sI_m2b, sI_sub, pk_mul, sI_dec, fk_u_s, fk_u_o, sI_dec0, sI_z, sI_md, Bool.false_eq_true, Nat.reduceAdd, Nat.reduceMul, Nat.reduceSub, Nat.reduceMod, Nat.reduceDiv]
        · by_cases c4 : L * A (256 + k) - L * A (256 + k) / nI W * nI W = q
          · by_cases c5 : k < j
            · rw [if_pos (Or.inr ⟨c4, c5⟩)] at st
              refine ⟨((s1 - L * A (256 + k) / nI W, s2 + nI 1), .ref (36 + k), .int (L * A (256 + k) - L * A (256 + k) / nI W * nI W)), ?_, st.symm⟩
              simp (disch := first | assumption | omega) only [rX8_shareOf, eb, nc0, b4, c1, b1, a1, c2, b5, w0, c3, c4, a0, Int32.lt_irrefl, Option.bind_some, Option.toList_some, Option.toList_none, List.cons_append, List.nil_append, fk_b_0, nI_add, Nat.add_zero, Nat.zero_add, not_true_eq_false, not_false_eq_true, if_true, if_false, sI_le_t, sI_le_f, sI_lt_t, sI_lt_f, sI_eq_t, sI_eq_f, sI_rem, sI_div, sI_m1a, sI_m1b, sI_m1c, sI_m1d, sI_m1e, sI_m1f, sI_m2a, sI_m2b, sI_sub, pk_mul, sI_dec, fk_u_s, fk_u_o, sI_dec0, sI_z, sI_md, Bool.false_eq_true, Nat.reduceAdd, Nat.reduceMul, Nat.reduceSub, Nat.reduceMod, Nat.reduceDiv]
            · rw [if_neg fun z => by rcases z with z | z; exact c3 z; exact c5 z.2] at st
              refine ⟨((s1 - L * A (256 + k) / nI W, s2), .ref (36 + k), .int (L * A (256 + k) - L * A (256 + k) / nI W * nI W)), ?_, st.symm⟩
              simp (disch := first | assumption | omega) only [rX8_shareOf, eb, nc0, b4, c1, b1, a1, c2, b5, w0, c3, c4, a0, Int32.lt_irrefl, Option.bind_some, Option.toList_some, Option.toList_none, List.cons_append, List.nil_append, fk_b_0, nI_add, Nat.add_zero, Nat.zero_add, not_true_eq_false, not_false_eq_true, if_true, if_false, sI_le_t, sI_le_f, sI_lt_t, sI_lt_f, sI_eq_t, sI_eq_f, sI_rem, sI_div, sI_m1a, sI_m1b, sI_m1c, sI_m1d, sI_m1e, sI_m1f, sI_m2a, sI_m2b, sI_sub, pk_mul, sI_dec, fk_u_s, fk_u_o, sI_dec0, sI_z, sI_md, Bool.false_eq_true, Nat.reduceAdd, Nat.reduceMul, Nat.reduceSub, Nat.reduceMod, Nat.reduceDiv]
          · rw [if_neg fun z => by rcases z with z | z; exact c3 z; exact c4 z.1] at st
            refine ⟨((s1 - L * A (256 + k) / nI W, s2), .ref (36 + k), .int (L * A (256 + k) - L * A (256 + k) / nI W * nI W)), ?_, st.symm⟩
            simp (disch := first | assumption | omega) only [rX8_shareOf, eb, nc0, b4, c1, b1, a1, c2, b5, w0, c3, c4, Option.bind_some, Option.toList_some, Option.toList_none, List.cons_append, List.nil_append, fk_b_0, nI_add, Nat.add_zero, Nat.zero_add, not_true_eq_false, not_false_eq_true, if_true, if_false, sI_le_t, sI_le_f, sI_lt_t, sI_lt_f, sI_eq_t, sI_eq_f, sI_rem, sI_div, sI_m1a, sI_m1b, sI_m1c, sI_m1d, sI_m1e, sI_m1f, sI_m2a, sI_m2b, sI_sub, pk_mul, sI_dec, fk_u_s, fk_u_o, sI_dec0, sI_z, sI_md, Bool.false_eq_true, Nat.reduceAdd, Nat.reduceMul, Nat.reduceSub, Nat.reduceMod, Nat.reduceDiv]
      · refine ⟨((s1, s2), .ref (36 + k), x'), ?_, by rw [st, if_neg fun z => c2 z.2]⟩
        simp (disch := first | assumption | omega) only [rX8_shareOf, eb, nc0, b4, c1, b1, a1, c2, Option.bind_some, Option.toList_some, Option.toList_none, List.cons_append, List.nil_append, fk_b_0, nI_add, Nat.add_zero, Nat.zero_add, not_true_eq_false, not_false_eq_true, if_true, if_false, sI_le_t, sI_le_f, sI_lt_t, sI_lt_f, sI_eq_t, sI_eq_f, sI_rem, sI_div, sI_m1a, sI_m1b, sI_m1c, sI_m1d, sI_m1e, sI_m1f, sI_m2a, sI_m2b, sI_sub, pk_mul, sI_dec, fk_u_s, fk_u_o, sI_dec0, sI_z, sI_md, Bool.false_eq_true, Nat.reduceAdd, Nat.reduceMul, Nat.reduceSub, Nat.reduceMod, Nat.reduceDiv]
    · refine ⟨((s1, s2), .ref (36 + k), x'), ?_, by rw [st, if_neg fun z => c1 z.1]⟩
      simp (disch := first | assumption | omega) only [rX8_shareOf, eb, nc0, b4, c1, Option.bind_some, Option.toList_some, Option.toList_none, List.cons_append, List.nil_append, fk_b_0, nI_add, Nat.add_zero, Nat.zero_add, not_true_eq_false, not_false_eq_true, if_true, if_false, sI_le_t, sI_le_f, sI_lt_t, sI_lt_f, sI_eq_t, sI_eq_f, sI_rem, sI_div, sI_m1a, sI_m1b, sI_m1c, sI_m1d, sI_m1e, sI_m1f, sI_m2a, sI_m2b, sI_sub, pk_mul, sI_dec, fk_u_s, fk_u_o, sI_dec0, sI_z, sI_md, Bool.false_eq_true, Nat.reduceAdd, Nat.reduceMul, Nat.reduceSub, Nat.reduceMod, Nat.reduceDiv]) n 0 ((L, nI 0), .null, .null) (Nat.zero_add n) rfl
  obtain ⟨⟨⟨s1, s2⟩, x, x'⟩, e, i1⟩ := key
  try dsimp only at e i1
  have hpos : nI 0 < nI W := nI_lt (by omega) (by omega)
  unfold ab_bd
  rw [← i1]
  simp (disch := first | assumption | omega) only [rX8_shareOf, a1, tg, a5, w0, Option.bind_some, Option.toList_some, Option.toList_none, List.cons_append, List.nil_append, fk_b_0, nI_add, Nat.add_zero, Nat.zero_add, not_true_eq_false, not_false_eq_true, if_true, if_false, sI_le_t, sI_le_f, sI_lt_t, sI_lt_f, sI_eq_t, sI_eq_f, sI_rem, sI_div, sI_m1a, sI_m1b, sI_m1c, sI_m1d, sI_m1e, sI_m1f, sI_m2a, sI_m2b, sI_sub, pk_mul, sI_dec, fk_u_s, fk_u_o, sI_dec0, sI_z, sI_md, Bool.false_eq_true, Nat.reduceAdd, Nat.reduceMul, Nat.reduceSub, Nat.reduceMod, Nat.reduceDiv]
  rw [e, hX8_shareOf_35]
  try dsimp only
  by_cases c : s2 < s1
  · have c' : ¬ s1 ≤ s2 := Int32.not_le.mpr c
    rw [if_pos c]
    simp (disch := first | assumption | omega) only [rX8_shareOf, eb, a5, w0, c', Option.bind_some, Option.toList_some, Option.toList_none, List.cons_append, List.nil_append, fk_b_0, nI_add, Nat.add_zero, Nat.zero_add, not_true_eq_false, not_false_eq_true, if_true, if_false, sI_le_t, sI_le_f, sI_lt_t, sI_lt_f, sI_eq_t, sI_eq_f, sI_rem, sI_div, sI_m1a, sI_m1b, sI_m1c, sI_m1d, sI_m1e, sI_m1f, sI_m2a, sI_m2b, sI_sub, pk_mul, sI_dec, fk_u_s, fk_u_o, sI_dec0, sI_z, sI_md, Bool.false_eq_true, Nat.reduceAdd, Nat.reduceMul, Nat.reduceSub, Nat.reduceMod, Nat.reduceDiv]
  · have c' : s1 ≤ s2 := Int32.not_lt.mp c
    rw [if_neg c]
    simp (disch := first | assumption | omega) only [rX8_shareOf, eb, a5, w0, c', Option.bind_some, Option.toList_some, Option.toList_none, List.cons_append, List.nil_append, fk_b_0, nI_add, Nat.add_zero, Nat.zero_add, not_true_eq_false, not_false_eq_true, if_true, if_false, sI_le_t, sI_le_f, sI_lt_t, sI_lt_f, sI_eq_t, sI_eq_f, sI_rem, sI_div, sI_m1a, sI_m1b, sI_m1c, sI_m1d, sI_m1e, sI_m1f, sI_m2a, sI_m2b, sI_sub, pk_mul, sI_dec, fk_u_s, fk_u_o, sI_dec0, sI_z, sI_md, Bool.false_eq_true, Nat.reduceAdd, Nat.reduceMul, Nat.reduceSub, Nat.reduceMod, Nat.reduceDiv]
theorem mX12_bread_ok {L : Nat} {W j : Nat} (ho : ab_ok v n H (y 247)) (hj : j < n) (hl : y 247 (192 + j) = nI 1) (hL : 1 ≤ L) (hL2 : L ≤ 999) (hW : 1 ≤ W) (hW2 : W ≤ 262144) (eW : ab_tg (y 247) (fun j => y 247 (256 + j)) (y 247 j) n = nI W) : fk_ev (d + 2) qX12_bread 0 [.ref 246, .int ((nI j)), .int ((nI L)), .null, .null, .null, .null, .null, .null, .null] [] (fk_E N y l) = some (some (.int ((ab_bd (y 247) (nI L) W j n))), fk_E N y l) := by
  have hn := ho.1
  have hm := ho.2.1
  have w0 : ¬ nI W = (0 : Int32) := nI_ne0 (by omega) (by omega)
  have hsum := mX12_sumFor (N := N) (l := l) (d := d) (y := y) (one := y 247 j) (col := 256) (by omega) hn hm
  rw [eW] at hsum
  generalize eq : nI L * y 247 (256 + j) - nI L * y 247 (256 + j) / nI W * nI W = q
  have key := fk_loopr (σ := (Int32 × Int32) × Value) (fun k t => fk_ev (d + 2) qX12_bread 66 [.ref 246, .int (nI j), .int (nI L), .int (y 247 j), .int (nI W), .int q, .int t.1.1, .int t.1.2, .int (nI k), t.2] [] (fk_E N y l)) (fun k t => t.1 = ab_sh (y 247) (y 247 j) q (nI L) W j k) n (by
    rintro k ⟨⟨s1, s2⟩, x⟩ hk i1
    try dsimp only at i1 ⊢
    have st := ab_sh_s i1
    rw [hX12_bread_66]
    by_cases c1 : y 247 (192 + k) = nI 1
    · by_cases c2 : y 247 k = y 247 j
      · rw [if_pos ⟨c1, c2⟩] at st
        try dsimp only at st
        by_cases c3 : q < nI L * y 247 (256 + k) - nI L * y 247 (256 + k) / nI W * nI W
        · rw [if_pos (Or.inl c3)] at st
          refine ⟨((s1 - nI L * y 247 (256 + k) / nI W, s2 + nI 1), .int (nI L * y 247 (256 + k) - nI L * y 247 (256 + k) / nI W * nI W)), ?_, st.symm⟩
          simp (disch := first | assumption | omega) only [rX12_bread, hm, mX12_lives, c1, c2, w0, c3, Option.bind_some, Option.toList_some, Option.toList_none, List.cons_append, List.nil_append, fk_b_0, nI_add, Nat.add_zero, Nat.zero_add, not_true_eq_false, not_false_eq_true, if_true, if_false, sI_le_t, sI_le_f, sI_lt_t, sI_lt_f, sI_eq_t, sI_eq_f, sI_rem, sI_div, sI_m1a, sI_m1b, sI_m1c, sI_m1d, sI_m1e, sI_m1f, sI_m2a, sI_m2b, sI_sub, pk_mul, sI_dec, fk_u_s, fk_u_o, sI_dec0, sI_z, sI_md, Bool.false_eq_true, Nat.reduceAdd, Nat.reduceMul, Nat.reduceSub, Nat.reduceMod, Nat.reduceDiv]
        · by_cases c4 : nI L * y 247 (256 + k) - nI L * y 247 (256 + k) / nI W * nI W = q
          · by_cases c5 : k < j
            · rw [if_pos (Or.inr ⟨c4, c5⟩)] at st
              refine ⟨((s1 - nI L * y 247 (256 + k) / nI W, s2 + nI 1), .int (nI L * y 247 (256 + k) - nI L * y 247 (256 + k) / nI W * nI W)), ?_, st.symm⟩
              simp (disch := first | assumption | omega) only [rX12_bread, hm, mX12_lives, c1, c2, w0, c3, c4, Int32.lt_irrefl, Option.bind_some, Option.toList_some, Option.toList_none, List.cons_append, List.nil_append, fk_b_0, nI_add, Nat.add_zero, Nat.zero_add, not_true_eq_false, not_false_eq_true, if_true, if_false, sI_le_t, sI_le_f, sI_lt_t, sI_lt_f, sI_eq_t, sI_eq_f, sI_rem, sI_div, sI_m1a, sI_m1b, sI_m1c, sI_m1d, sI_m1e, sI_m1f, sI_m2a, sI_m2b, sI_sub, pk_mul, sI_dec, fk_u_s, fk_u_o, sI_dec0, sI_z, sI_md, Bool.false_eq_true, Nat.reduceAdd, Nat.reduceMul, Nat.reduceSub, Nat.reduceMod, Nat.reduceDiv]
            · rw [if_neg fun z => by rcases z with z | z; exact c3 z; exact c5 z.2] at st
              refine ⟨((s1 - nI L * y 247 (256 + k) / nI W, s2), .int (nI L * y 247 (256 + k) - nI L * y 247 (256 + k) / nI W * nI W)), ?_, st.symm⟩
              simp (disch := first | assumption | omega) only [rX12_bread, hm, mX12_lives, c1, c2, w0, c3, c4, Int32.lt_irrefl, Option.bind_some, Option.toList_some, Option.toList_none, List.cons_append, List.nil_append, fk_b_0, nI_add, Nat.add_zero, Nat.zero_add, not_true_eq_false, not_false_eq_true, if_true, if_false, sI_le_t, sI_le_f, sI_lt_t, sI_lt_f, sI_eq_t, sI_eq_f, sI_rem, sI_div, sI_m1a, sI_m1b, sI_m1c, sI_m1d, sI_m1e, sI_m1f, sI_m2a, sI_m2b, sI_sub, pk_mul, sI_dec, fk_u_s, fk_u_o, sI_dec0, sI_z, sI_md, Bool.false_eq_true, Nat.reduceAdd, Nat.reduceMul, Nat.reduceSub, Nat.reduceMod, Nat.reduceDiv]
          · rw [if_neg fun z => by rcases z with z | z; exact c3 z; exact c4 z.1] at st
            refine ⟨((s1 - nI L * y 247 (256 + k) / nI W, s2), .int (nI L * y 247 (256 + k) - nI L * y 247 (256 + k) / nI W * nI W)), ?_, st.symm⟩
            simp (disch := first | assumption | omega) only [rX12_bread, hm, mX12_lives, c1, c2, w0, c3, c4, Option.bind_some, Option.toList_some, Option.toList_none, List.cons_append, List.nil_append, fk_b_0, nI_add, Nat.add_zero, Nat.zero_add, not_true_eq_false, not_false_eq_true, if_true, if_false, sI_le_t, sI_le_f, sI_lt_t, sI_lt_f, sI_eq_t, sI_eq_f, sI_rem, sI_div, sI_m1a, sI_m1b, sI_m1c, sI_m1d, sI_m1e, sI_m1f, sI_m2a, sI_m2b, sI_sub, pk_mul, sI_dec, fk_u_s, fk_u_o, sI_dec0, sI_z, sI_md, Bool.false_eq_true, Nat.reduceAdd, Nat.reduceMul, Nat.reduceSub, Nat.reduceMod, Nat.reduceDiv]
      · refine ⟨((s1, s2), x), ?_, by rw [st, if_neg fun z => c2 z.2]⟩
        simp (disch := first | assumption | omega) only [rX12_bread, hm, mX12_lives, c1, c2, Option.bind_some, Option.toList_some, Option.toList_none, List.cons_append, List.nil_append, fk_b_0, nI_add, Nat.add_zero, Nat.zero_add, not_true_eq_false, not_false_eq_true, if_true, if_false, sI_le_t, sI_le_f, sI_lt_t, sI_lt_f, sI_eq_t, sI_eq_f, sI_rem, sI_div, sI_m1a, sI_m1b, sI_m1c, sI_m1d, sI_m1e, sI_m1f, sI_m2a, sI_m2b, sI_sub, pk_mul, sI_dec, fk_u_s, fk_u_o, sI_dec0, sI_z, sI_md, Bool.false_eq_true, Nat.reduceAdd, Nat.reduceMul, Nat.reduceSub, Nat.reduceMod, Nat.reduceDiv]
    · refine ⟨((s1, s2), x), ?_, by rw [st, if_neg fun z => c1 z.1]⟩
      simp (disch := first | assumption | omega) only [rX12_bread, hm, mX12_lives, c1, Option.bind_some, Option.toList_some, Option.toList_none, List.cons_append, List.nil_append, fk_b_0, nI_add, Nat.add_zero, Nat.zero_add, not_true_eq_false, not_false_eq_true, if_true, if_false, sI_le_t, sI_le_f, sI_lt_t, sI_lt_f, sI_eq_t, sI_eq_f, sI_rem, sI_div, sI_m1a, sI_m1b, sI_m1c, sI_m1d, sI_m1e, sI_m1f, sI_m2a, sI_m2b, sI_sub, pk_mul, sI_dec, fk_u_s, fk_u_o, sI_dec0, sI_z, sI_md, Bool.false_eq_true, Nat.reduceAdd, Nat.reduceMul, Nat.reduceSub, Nat.reduceMod, Nat.reduceDiv]) n 0 ((nI L, nI 0), .null) (Nat.zero_add n) rfl
  obtain ⟨⟨⟨s1, s2⟩, x⟩, e, i1⟩ := key
  try dsimp only at e i1
  have hl2 := mX12_isLivingN (N := N) (l := l) (d := d) (y := y) hn hm hj
  rw [fk_b_t hl] at hl2
  unfold ab_bd
  rw [eq, ← i1]
  simp (disch := first | assumption | omega) only [rX12_bread, hl2, mX12_in, and_self, hsum, w0, eq, Option.bind_some, Option.toList_some, Option.toList_none, List.cons_append, List.nil_append, fk_b_0, nI_add, Nat.add_zero, Nat.zero_add, not_true_eq_false, not_false_eq_true, if_true, if_false, sI_le_t, sI_le_f, sI_lt_t, sI_lt_f, sI_eq_t, sI_eq_f, sI_rem, sI_div, sI_m1a, sI_m1b, sI_m1c, sI_m1d, sI_m1e, sI_m1f, sI_m2a, sI_m2b, sI_sub, pk_mul, sI_dec, fk_u_s, fk_u_o, sI_dec0, sI_z, sI_md, Bool.false_eq_true, Nat.reduceAdd, Nat.reduceMul, Nat.reduceSub, Nat.reduceMod, Nat.reduceDiv]
  rw [e, hX12_bread_66]
  try dsimp only
  by_cases c : s2 < s1
  · have c' : ¬ s1 ≤ s2 := Int32.not_le.mpr c
    rw [if_pos c]
    simp (disch := first | assumption | omega) only [rX12_bread, hm, w0, c', Option.bind_some, Option.toList_some, Option.toList_none, List.cons_append, List.nil_append, fk_b_0, nI_add, Nat.add_zero, Nat.zero_add, not_true_eq_false, not_false_eq_true, if_true, if_false, sI_le_t, sI_le_f, sI_lt_t, sI_lt_f, sI_eq_t, sI_eq_f, sI_rem, sI_div, sI_m1a, sI_m1b, sI_m1c, sI_m1d, sI_m1e, sI_m1f, sI_m2a, sI_m2b, sI_sub, pk_mul, sI_dec, fk_u_s, fk_u_o, sI_dec0, sI_z, sI_md, Bool.false_eq_true, Nat.reduceAdd, Nat.reduceMul, Nat.reduceSub, Nat.reduceMod, Nat.reduceDiv]
  · have c' : s1 ≤ s2 := Int32.not_lt.mp c
    rw [if_neg c]
    simp (disch := first | assumption | omega) only [rX12_bread, hm, w0, c', Option.bind_some, Option.toList_some, Option.toList_none, List.cons_append, List.nil_append, fk_b_0, nI_add, Nat.add_zero, Nat.zero_add, not_true_eq_false, not_false_eq_true, if_true, if_false, sI_le_t, sI_le_f, sI_lt_t, sI_lt_f, sI_eq_t, sI_eq_f, sI_rem, sI_div, sI_m1a, sI_m1b, sI_m1c, sI_m1d, sI_m1e, sI_m1f, sI_m2a, sI_m2b, sI_sub, pk_mul, sI_dec, fk_u_s, fk_u_o, sI_dec0, sI_z, sI_md, Bool.false_eq_true, Nat.reduceAdd, Nat.reduceMul, Nat.reduceSub, Nat.reduceMod, Nat.reduceDiv]
theorem cl_bread (hR : cR S y) {j L : Int32} : ∃ a, fk_ev (d + 8) qX11_bread 0 [.ref 1, .int j, .int L] [] (fk_E N y l) = some (some (.int a), fk_E N y l) ∧ fk_ev (d + 8) qX12_bread 0 [.ref 246, .int j, .int L, .null, .null, .null, .null, .null, .null, .null] [] (fk_E N y l) = some (some (.int a), fk_E N y l) := by
  obtain ⟨r0, r1, r2, ⟨n, H, p1, p2, p3, p4⟩, r4, r5, r6, r7, r8, r9⟩ := id hR
  have hn := p1.1
  have hm := p1.2.1
  have h8 := n8
  have ha1 := n_liv (N := N) (l := l) (d := d + 6) (j := j) hn hm p3
  have ha2 := mX12_isLiving (N := N) (l := l) (d := d + 6) (y := y) (j := j) hn hm
  by_cases hj : (nI 0 ≤ j ∧ j < nI n) ∧ y 247 (192 + j.toNatClampNeg) = nI 1
  · rw [fk_b_t hj] at ha1 ha2
    by_cases hl : nI 1 ≤ L ∧ L ≤ nI 999
    · obtain ⟨⟨j1, j2⟩, j3⟩ := hj
      obtain ⟨j, hj, rfl⟩ := fk_ixn j1 j2 (by omega)
      rw [nI_clamp (by omega)] at j3
      obtain ⟨L, hL2, rfl⟩ := fk_ixn2 (Int32.le_trans (by decide) hl.1) hl.2 (by omega)
      have hL : 1 ≤ L := (nI_leI (by omega) (by omega)).mp hl.1
      obtain ⟨W, w1, w2, w3⟩ := ab_tg_w p1 hj j3 rfl
      refine ⟨ab_bd (y 247) (nI L) W j n, ?_, mX12_bread_ok (d := d + 6) p1 hj j3 hL hL2 w1 w2 w3⟩
      have e := mX8_shareOf (N := N) (l := l) (d := d + 6) (L := nI L) p1 p3 hj w1 w2 w3
      simp (disch := first | assumption | omega) only [rX11_bread, ha1, nc0, e, Option.bind_some, Option.toList_some, Option.toList_none, List.cons_append, List.nil_append, fk_b_0, nI_add, Nat.add_zero, Nat.zero_add, not_true_eq_false, not_false_eq_true, if_true, if_false, sI_le_t, sI_le_f, sI_lt_t, sI_lt_f, sI_eq_t, sI_eq_f, sI_rem, sI_div, sI_m1a, sI_m1b, sI_m1c, sI_m1d, sI_m1e, sI_m1f, sI_m2a, sI_m2b, sI_sub, pk_mul, sI_dec, fk_u_s, fk_u_o, sI_dec0, sI_z, sI_md, Bool.false_eq_true, Nat.reduceAdd, Nat.reduceMul, Nat.reduceSub, Nat.reduceMod, Nat.reduceDiv]
    · refine ⟨(-1), ?_, ?_⟩
      · by_cases c : L < nI 1
        · simp (disch := first | assumption | omega) only [rX11_bread, ha1, c, Option.bind_some, Option.toList_some, Option.toList_none, List.cons_append, List.nil_append, fk_b_0, nI_add, Nat.add_zero, Nat.zero_add, not_true_eq_false, not_false_eq_true, if_true, if_false, sI_le_t, sI_le_f, sI_lt_t, sI_lt_f, sI_eq_t, sI_eq_f, sI_rem, sI_div, sI_m1a, sI_m1b, sI_m1c, sI_m1d, sI_m1e, sI_m1f, sI_m2a, sI_m2b, sI_sub, pk_mul, sI_dec, fk_u_s, fk_u_o, sI_dec0, sI_z, sI_md, Bool.false_eq_true, Nat.reduceAdd, Nat.reduceMul, Nat.reduceSub, Nat.reduceMod, Nat.reduceDiv]
        · have c2 : ¬ L ≤ nI 999 := fun z => hl ⟨Int32.not_lt.mp c, z⟩
          simp (disch := first | assumption | omega) only [rX11_bread, ha1, c, c2, Option.bind_some, Option.toList_some, Option.toList_none, List.cons_append, List.nil_append, fk_b_0, nI_add, Nat.add_zero, Nat.zero_add, not_true_eq_false, not_false_eq_true, if_true, if_false, sI_le_t, sI_le_f, sI_lt_t, sI_lt_f, sI_eq_t, sI_eq_f, sI_rem, sI_div, sI_m1a, sI_m1b, sI_m1c, sI_m1d, sI_m1e, sI_m1f, sI_m2a, sI_m2b, sI_sub, pk_mul, sI_dec, fk_u_s, fk_u_o, sI_dec0, sI_z, sI_md, Bool.false_eq_true, Nat.reduceAdd, Nat.reduceMul, Nat.reduceSub, Nat.reduceMod, Nat.reduceDiv]
      · simp (disch := first | assumption | omega) only [rX12_bread, ha2, mX12_in, hl, Option.bind_some, Option.toList_some, Option.toList_none, List.cons_append, List.nil_append, fk_b_0, nI_add, Nat.add_zero, Nat.zero_add, not_true_eq_false, not_false_eq_true, if_true, if_false, sI_le_t, sI_le_f, sI_lt_t, sI_lt_f, sI_eq_t, sI_eq_f, sI_rem, sI_div, sI_m1a, sI_m1b, sI_m1c, sI_m1d, sI_m1e, sI_m1f, sI_m2a, sI_m2b, sI_sub, pk_mul, sI_dec, fk_u_s, fk_u_o, sI_dec0, sI_z, sI_md, Bool.false_eq_true, Nat.reduceAdd, Nat.reduceMul, Nat.reduceSub, Nat.reduceMod, Nat.reduceDiv]
  · rw [fk_b_f hj] at ha1 ha2
    refine ⟨(-1), ?_, ?_⟩
    · simp (disch := first | assumption | omega) only [rX11_bread, ha1, Option.bind_some, Option.toList_some, Option.toList_none, List.cons_append, List.nil_append, fk_b_0, nI_add, Nat.add_zero, Nat.zero_add, not_true_eq_false, not_false_eq_true, if_true, if_false, sI_le_t, sI_le_f, sI_lt_t, sI_lt_f, sI_eq_t, sI_eq_f, sI_rem, sI_div, sI_m1a, sI_m1b, sI_m1c, sI_m1d, sI_m1e, sI_m1f, sI_m2a, sI_m2b, sI_sub, pk_mul, sI_dec, fk_u_s, fk_u_o, sI_dec0, sI_z, sI_md, Bool.false_eq_true, Nat.reduceAdd, Nat.reduceMul, Nat.reduceSub, Nat.reduceMod, Nat.reduceDiv]
    · simp (disch := first | assumption | omega) only [rX12_bread, ha2, Option.bind_some, Option.toList_some, Option.toList_none, List.cons_append, List.nil_append, fk_b_0, nI_add, Nat.add_zero, Nat.zero_add, not_true_eq_false, not_false_eq_true, if_true, if_false, sI_le_t, sI_le_f, sI_lt_t, sI_lt_f, sI_eq_t, sI_eq_f, sI_rem, sI_div, sI_m1a, sI_m1b, sI_m1c, sI_m1d, sI_m1e, sI_m1f, sI_m2a, sI_m2b, sI_sub, pk_mul, sI_dec, fk_u_s, fk_u_o, sI_dec0, sI_z, sI_md, Bool.false_eq_true, Nat.reduceAdd, Nat.reduceMul, Nat.reduceSub, Nat.reduceMod, Nat.reduceDiv]
end CM1
