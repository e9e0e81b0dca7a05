section C3
variable {N : Nat} {v y y0 : Nat → Nat → Int32} {l : Nat → Nat → Int64} {d p c n H m : Nat} {T A : Nat → Int32} {b0 : Int32} {W : Int32 → (Nat → Int32) → Int32} {s : ab_S}
theorem mX5_isTold_m2 : fk_ev (d + 1) qX5_isTold 0 [.ref 18, .int ((-2))] [] (fk_E N y l) = some (some (.int ((nI 0))), fk_E N y l) := by
  simp (disch := first | assumption | omega) only [rX5_isTold, mX11_within, show ¬ (nI 0 ≤ (-2 : Int32) ∧ (-2 : Int32) < nI 32) by decide, Option.bind_some, Option.toList_some, Option.toList_none, List.cons_append, List.nil_append, fk_b_0, nI_add, Nat.add_zero, Nat.zero_add, not_true_eq_false, not_false_eq_true, if_true, if_false, sI_le_t, sI_le_f, sI_lt_t, sI_lt_f, sI_eq_t, sI_eq_f, sI_rem, sI_div, sI_m1a, sI_m1b, sI_m1c, sI_m1d, sI_m1e, sI_m1f, sI_m2a, sI_m2b, sI_sub, pk_mul, sI_dec, fk_u_s, fk_u_o, sI_dec0, sI_z, sI_md, Bool.false_eq_true, Nat.reduceAdd, Nat.reduceMul, Nat.reduceSub, Nat.reduceMod, Nat.reduceDiv]
theorem mX5_isToldN {r : Nat} (hr : r < 32) : fk_ev (d + 1) qX5_isTold 0 [.ref 18, .int ((nI r))] [] (fk_E N y l) = some (some (.int ((fk_b (nI 0 ≤ y 19 r)))), fk_E N y l) := by
  simp (disch := first | assumption | omega) only [rX5_isTold, mX11_within, and_self, Option.bind_some, Option.toList_some, Option.toList_none, List.cons_append, List.nil_append, fk_b_0, nI_add, Nat.add_zero, Nat.zero_add, not_true_eq_false, not_false_eq_true, if_true, if_false, sI_le_t, sI_le_f, sI_lt_t, sI_lt_f, sI_eq_t, sI_eq_f, sI_rem, sI_div, sI_m1a, sI_m1b, sI_m1c, sI_m1d, sI_m1e, sI_m1f, sI_m2a, sI_m2b, sI_sub, pk_mul, sI_dec, fk_u_s, fk_u_o, sI_dec0, sI_z, sI_md, Bool.false_eq_true, Nat.reduceAdd, Nat.reduceMul, Nat.reduceSub, Nat.reduceMod, Nat.reduceDiv]
  by_cases h : y 19 r < nI 0
  · simp (disch := first | assumption | omega) only [rX5_isTold, h, Option.bind_some, Option.toList_some, Option.toList_none, List.cons_append, List.nil_append, fk_b_0, nI_add, Nat.add_zero, Nat.zero_add, not_true_eq_false, not_false_eq_true, if_true, if_false, sI_le_t, sI_le_f, sI_lt_t, sI_lt_f, sI_eq_t, sI_eq_f, sI_rem, sI_div, sI_m1a, sI_m1b, sI_m1c, sI_m1d, sI_m1e, sI_m1f, sI_m2a, sI_m2b, sI_sub, pk_mul, sI_dec, fk_u_s, fk_u_o, sI_dec0, sI_z, sI_md, Bool.false_eq_true, Nat.reduceAdd, Nat.reduceMul, Nat.reduceSub, Nat.reduceMod, Nat.reduceDiv]
    rw [fk_b_f (Int32.not_le.mpr h)]
  · simp (disch := first | assumption | omega) only [rX5_isTold, h, Option.bind_some, Option.toList_some, Option.toList_none, List.cons_append, List.nil_append, fk_b_0, nI_add, Nat.add_zero, Nat.zero_add, not_true_eq_false, not_false_eq_true, if_true, if_false, sI_le_t, sI_le_f, sI_lt_t, sI_lt_f, sI_eq_t, sI_eq_f, sI_rem, sI_div, sI_m1a, sI_m1b, sI_m1c, sI_m1d, sI_m1e, sI_m1f, sI_m2a, sI_m2b, sI_sub, pk_mul, sI_dec, fk_u_s, fk_u_o, sI_dec0, sI_z, sI_md, Bool.false_eq_true, Nat.reduceAdd, Nat.reduceMul, Nat.reduceSub, Nat.reduceMod, Nat.reduceDiv]
    rw [fk_b_t (Int32.not_lt.mp h)]
theorem ck_told (hv : ab_rv v) (hN : ck_nt v y0) {r : Nat} (hr : r < 32) : nI 0 ≤ y0 19 r ↔ fk_tb (v 246 3) r = true := by
  by_cases h : fk_tb (v 246 3) r = true
  · obtain ⟨q, hq, e⟩ := (hv.1 r hr h).1
    rw [(hN.1 r hr h).1, e]
    exact ⟨fun _ => h, fun _ => nI_le (by omega) (by omega)⟩
  · rw [hN.2.1 r hr h]
    exact ⟨fun z => absurd z (by decide), fun z => absurd z h⟩
/-- one half of the class has changed, and comeTo, asked -/
theorem ck_cs_one {y' : Nat → Nat → Int32} {s' : ab_S} {j : Nat} (hs : ck_cs y0 p c T b0 m y s) (hp : ck_pp p) (hn : ab_n s.1 ≤ 64) (hj : j < ab_n s.1) (hm : m ≤ ab_n s.1) {m' : Nat} (hm' : m' ≤ ab_n s.1)
    (hy : ∀ k, k ≠ p + 3 + j → k ≠ 238 → y' k = y k) (hy2 : ∀ i, i ≠ 6 → i ≠ 7 → y' 238 i = y 238 i) (h7 : y' 238 7 ||| b0 = s'.2.2.1) (h6 : y' 238 6 = s'.2.2.2)
    (hA : ∀ i, i < 839 → (∀ c, (c = 256 ∨ c = 320 ∨ c = 384 ∨ c = 448 ∨ c = 512 ∨ c = 576 ∨ c = 704 ∨ c = 768) → i ≠ c + j) → s'.1 i = s.1 i) (h0 : y' (p + 3 + j) 0 = y (p + 3 + j) 0) (h14 : y' (p + 3 + j) 14 = nI 0 ∨ y' (p + 3 + j) 14 = nI 1) (hh : ck_hm (y' (p + 3 + j)) s'.1 j) (hc : ∀ i, i < m' → y' (p + 3 + i) 14 = s'.2.1 i) : ck_cs y0 p c T b0 m' y' s' := by
  obtain ⟨g1, g2, g3, g4, g5, g6⟩ := hs
  have hp' : p = 33 ∨ p = 100 ∨ p = 167 := hp
  refine ⟨ck_pr_one g1 hn hj (fun k k1 k2 k3 => hy k k3 (by omega)) hA h0 h14 hh, hc, h7, h6, fun i i1 i2 => (hy2 i i1 i2).trans (g5 i i1 i2), fun k k1 k2 k3 k4 => by rw [hy k (by omega) k2]; exact g6 k k1 k2 k3 k4⟩
def ab_wg (v : Nat → Nat → Int32) (po : Int32) (j : Nat) (s : ab_S) : ab_S := ab_go v po j (ab_wt j s)
set_option maxRecDepth 10000 in
theorem ck_near {j : Nat} (hv : ab_rv v) (hN : ck_nt v y0) (hp : ck_pp p) (hc : c = 2 ∨ c = 10) (hq2 : y0 238 2 = nI p) (hs : ck_cs y0 p c T b0 j y s) (ho : ab_ok v n H s.1) (hj : j < n) (h0 : s.2.1 j = nI 0) : ∃ y' x', (∀ x, fk_ev (d + 2) qX6_comeNearer 2 [.ref 238, .int (nI j), x] [] (fk_E N y l) = fk_ev (d + 2) qX6_comeNearer 2 [.ref 238, .int (nI (j + 1)), x'] [] (fk_E N y' l)) ∧ ck_cs y0 p c T b0 (j + 1) y' (ab_wg v (y0 238 4) j s) := by
  obtain ⟨h8, c0, c1, h24, s24, h20, s20, p1, p2⟩ := ck_pp_at hp
  have hp' : p = 33 ∨ p = 100 ∨ p = 167 := hp
  have hn := ho.1
  have hNn := ab_ok_n ho
  obtain ⟨g1, g2, g3, g4, g5, g6⟩ := id hs
  have hh := ck_pp_h hp (show j < 64 by omega)
  have e2 : y 238 2 = nI p := by rw [g5 2 (by omega) (by omega)]; exact hq2
  have e4 : y 238 4 = y0 238 4 := g5 4 (by omega) (by omega)
  have eb : y p 2 = nI n := g1.1.1.trans ho.2.1
  have e19 : y 19 = y0 19 := g6 19 (by omega) (by omega) (by omega) (by omega)
  have e20 : y 20 = y0 20 := g6 20 (by omega) (by omega) (by omega) (by omega)
  obtain ⟨a1, a2, a3, a4, a5, a6, a7, a8, a9, a10, a11, a12, a13⟩ := id (g1.2.2.1 j (by omega) (by omega))
  have hoj := ho.2.2.2.2.2.1 j hj
  have hcm : ∀ z : Int32, ∀ y' : Nat → Nat → Int32, (∀ k, k ≠ p + 3 + j → k ≠ 238 → y' k = y k) → y' (p + 3 + j) 14 = z → ∀ cm : Nat → Int32, cm j = z → (∀ i, i ≠ j → cm i = s.2.1 i) → ∀ i, i < j + 1 → y' (p + 3 + i) 14 = cm i := by
    intro z y' hy h14 cm hcj hci i hi
    by_cases e : i = j
    · subst e; rw [h14, hcj]
    · rw [hy _ (by omega) (by omega), hci i e]; exact g2 i (by omega)
  by_cases lv : s.1 (192 + j) = nI 1
  · by_cases at' : s.1 (320 + j) < nI 0
    · have hr : ∃ r q : Nat, r < 32 ∧ s.1 (384 + j) = nI r ∧ fk_tb (v 246 3) r = true ∧ 1 ≤ q ∧ q ≤ 9 ∧ s.1 (448 + j) = nI q := by
        obtain ⟨_, _, _, _, h5, _⟩ := hoj
        rcases h5 with ⟨q, hq, e, _⟩ | ⟨_, h5⟩
        · rw [e, sI_lt_f (by omega) (by omega)] at at'
          exact at'.elim
        · exact h5
      obtain ⟨r, q, hr, er, ht, q1, q2, eq⟩ := hr
      have told := (ck_told hv hN hr).mpr ht
      obtain ⟨n1, n2, n3⟩ := hN.1 r hr ht
      have ew : ab_wt j s = s := by
        unfold ab_wt
        rw [if_neg fun z => Int32.not_le.mpr at' z.1.2]
      unfold ab_wg
      rw [ew]
      unfold ab_go ab_go1
      rw [if_pos ⟨lv, at'⟩, er, nI_clamp (by omega), eq, pk_sub q1]
      by_cases hq0 : 1 < q
      · rw [if_pos (nI_lt (by omega) (by omega))]
        refine ⟨fk_u (fk_u y (p + 3 + j) 14 (nI 0)) (p + 3 + j) 8 (nI (q - 1)), .ref (p + 3 + j), fun x => ?_, ?_⟩
        · rw [hX6_comeNearer_2]
          simp (disch := first | assumption | omega) only [rX6_comeNearer, e2, nI_clamp, eb, c0, ck_p3 (p := p), a4, lv, mX5_isToldN, a7, er, e19, told, a8, eq, Option.bind_some, Option.toList_some, Option.toList_none, List.cons_append, List.nil_append, fk_b_0, nI_add, Nat.add_zero, Nat.zero_add, not_true_eq_false, not_false_eq_true, if_true, if_false, sI_le_t, sI_le_f, sI_lt_t, sI_lt_f, sI_eq_t, sI_eq_f, sI_rem, sI_div, sI_m1a, sI_m1b, sI_m1c, sI_m1d, sI_m1e, sI_m1f, sI_m2a, sI_m2b, sI_sub, pk_mul, sI_dec, fk_u_s, fk_u_o, sI_dec0, sI_z, sI_md, Bool.false_eq_true, Nat.reduceAdd, Nat.reduceMul, Nat.reduceSub, Nat.reduceMod, Nat.reduceDiv]
        · refine ck_cs_one (j := j) hs hp (by omega) (by omega) (by omega) (by omega) (fun k k1 k2 => by rw [fk_u_rowo k1, fk_u_rowo k1]) (fun i i1 i2 => by rw [fk_u_o (by omega), fk_u_o (by omega)]) (by rw [fk_u_o (by omega), fk_u_o (by omega)]; exact g3) (by rw [fk_u_o (by omega), fk_u_o (by omega)]; exact g4) (fun i _ hi => fk_w_o (hi 448 (by omega))) (by rw [fk_u_o (by omega), fk_u_o (by omega)]) (by rw [fk_u_o (by omega), fk_u_s]; exact Or.inl rfl) ?_ ?_
          · unfold ck_hm
            dsimp only
            simp (disch := omega) only [fk_u_o, fk_u_s, fk_w_o, fk_w_s]
            exact ⟨a1, a2, a3, a4, a5, a6, a7, trivial, a9, a10, a11, a12, a13⟩
          · exact hcm (nI 0) _ (fun k k1 k2 => by rw [fk_u_rowo k1, fk_u_rowo k1]) (by rw [fk_u_o (by omega), fk_u_s]) s.2.1 h0 fun _ _ => rfl
      · have q0 : q = 1 := by omega
        subst q0
        rw [if_neg (by rw [sI_lt_f (by omega) (by omega)]; exact id)]
        by_cases po : s.1 j = y0 238 4
        · refine ⟨fk_u (fk_u (fk_u (fk_u (fk_u (fk_u (fk_u y (p + 3 + j) 14 (nI 0)) (p + 3 + j) 8 (nI 0)) (p + 3 + j) 6 (v 251 r)) (p + 3 + j) 7 (-2)) (p + 3 + j) 8 (nI 0)) (p + 3 + j) 14 (nI 1)) 238 7 (y 238 7 ||| nI 1 <<< (v 251 r &&& 31)), .ref (p + 3 + j), fun x => ?_, ?_⟩
          · rw [hX6_comeNearer_2]
            simp (disch := first | assumption | omega) only [rX6_comeNearer, e2, nI_clamp, eb, c0, ck_p3 (p := p), a4, lv, mX5_isToldN, a7, er, e19, told, a8, eq, e20, n2, mX0_standAt, e4, a1, po, eq_self, Option.bind_some, Option.toList_some, Option.toList_none, List.cons_append, List.nil_append, fk_b_0, nI_add, Nat.add_zero, Nat.zero_add, not_true_eq_false, not_false_eq_true, if_true, if_false, sI_le_t, sI_le_f, sI_lt_t, sI_lt_f, sI_eq_t, sI_eq_f, sI_rem, sI_div, sI_m1a, sI_m1b, sI_m1c, sI_m1d, sI_m1e, sI_m1f, sI_m2a, sI_m2b, sI_sub, pk_mul, sI_dec, fk_u_s, fk_u_o, sI_dec0, sI_z, sI_md, Bool.false_eq_true, Nat.reduceAdd, Nat.reduceMul, Nat.reduceSub, Nat.reduceMod, Nat.reduceDiv]
          · refine ck_cs_one (j := j) hs hp (by omega) (by omega) (by omega) (by omega) (fun k k1 k2 => by simp (disch := assumption) only [fk_u_rowo]) (fun i i1 i2 => by simp (disch := omega) only [fk_u_o]) ?_ (by simp (disch := omega) only [fk_u_o]; exact g4) (fun i _ hi => by dsimp only; rw [fk_w_o (hi 384 (by omega)), fk_w_o (hi 320 (by omega)), fk_w_o (hi 448 (by omega))]) (by simp (disch := omega) only [fk_u_o]) (by simp (disch := omega) only [fk_u_o, fk_u_s]; exact Or.inr trivial) ?_ ?_
            · dsimp only
              rw [if_pos po, fk_u_s, ← g3, Int32.or_assoc, Int32.or_comm (nI 1 <<< _), ← Int32.or_assoc]
            · unfold ck_hm
              dsimp only
              simp (disch := omega) only [fk_u_o, fk_u_s, fk_w_o, fk_w_s]
              exact ⟨a1, a2, a3, a4, a5, trivial, trivial, trivial, a9, a10, a11, a12, a13⟩
            · exact hcm (nI 1) _ (fun k k1 k2 => by simp (disch := assumption) only [fk_u_rowo]) (by simp (disch := omega) only [fk_u_o, fk_u_s]) (fk_w s.2.1 j (nI 1)) fk_w_s fun i hi => fk_w_o hi
        · refine ⟨fk_u (fk_u (fk_u (fk_u (fk_u (fk_u (fk_u y (p + 3 + j) 14 (nI 0)) (p + 3 + j) 8 (nI 0)) (p + 3 + j) 6 (v 251 r)) (p + 3 + j) 7 (-2)) (p + 3 + j) 8 (nI 0)) (p + 3 + j) 14 (nI 1)) 238 7 (y 238 7 ||| nI 0), .ref (p + 3 + j), fun x => ?_, ?_⟩
          · rw [hX6_comeNearer_2]
            simp (disch := first | assumption | omega) only [rX6_comeNearer, e2, nI_clamp, eb, c0, ck_p3 (p := p), a4, lv, mX5_isToldN, a7, er, e19, told, a8, eq, e20, n2, mX0_standAt, e4, a1, po, Option.bind_some, Option.toList_some, Option.toList_none, List.cons_append, List.nil_append, fk_b_0, nI_add, Nat.add_zero, Nat.zero_add, not_true_eq_false, not_false_eq_true, if_true, if_false, sI_le_t, sI_le_f, sI_lt_t, sI_lt_f, sI_eq_t, sI_eq_f, sI_rem, sI_div, sI_m1a, sI_m1b, sI_m1c, sI_m1d, sI_m1e, sI_m1f, sI_m2a, sI_m2b, sI_sub, pk_mul, sI_dec, fk_u_s, fk_u_o, sI_dec0, sI_z, sI_md, Bool.false_eq_true, Nat.reduceAdd, Nat.reduceMul, Nat.reduceSub, Nat.reduceMod, Nat.reduceDiv]
          · refine ck_cs_one (j := j) hs hp (by omega) (by omega) (by omega) (by omega) (fun k k1 k2 => by simp (disch := assumption) only [fk_u_rowo]) (fun i i1 i2 => by simp (disch := omega) only [fk_u_o]) ?_ (by simp (disch := omega) only [fk_u_o]; exact g4) (fun i _ hi => by dsimp only; rw [fk_w_o (hi 384 (by omega)), fk_w_o (hi 320 (by omega)), fk_w_o (hi 448 (by omega))]) (by simp (disch := omega) only [fk_u_o]) (by simp (disch := omega) only [fk_u_o, fk_u_s]; exact Or.inr trivial) ?_ ?_
            · dsimp only
              rw [if_neg po, fk_u_s, nI_0, Int32.or_zero]
              exact g3
            · unfold ck_hm
              dsimp only
              simp (disch := omega) only [fk_u_o, fk_u_s, fk_w_o, fk_w_s]
              exact ⟨a1, a2, a3, a4, a5, trivial, trivial, trivial, a9, a10, a11, a12, a13⟩
            · exact hcm (nI 1) _ (fun k k1 k2 => by simp (disch := assumption) only [fk_u_rowo]) (by simp (disch := omega) only [fk_u_o, fk_u_s]) (fk_w s.2.1 j (nI 1)) fk_w_s fun i hi => fk_w_o hi
    · have at2 : ab_at s.1 j := ⟨lv, Int32.not_lt.mp at'⟩
      obtain ⟨q, hq, eq, er, el⟩ := ab_at_place hoj at2
      unfold ab_wg ab_wt
      by_cases w0 : nI 0 < s.1 (512 + j)
      · rw [if_pos ⟨at2, w0⟩]
        unfold ab_go
        dsimp only
        rw [if_neg (by rw [fk_w_o (by omega), fk_w_o (by omega)]; exact fun z => at' z.2)]
        refine ⟨fk_u (fk_u y (p + 3 + j) 14 (nI 0)) (p + 3 + j) 9 (s.1 (512 + j) - nI 1), .ref (p + 3 + j), fun x => ?_, ?_⟩
        · rw [hX6_comeNearer_2]
          simp (disch := first | assumption | omega) only [rX6_comeNearer, e2, nI_clamp, eb, c0, ck_p3 (p := p), a4, lv, a7, er, mX5_isTold_m2, a9, Int32.not_le.mpr w0, Option.bind_some, Option.toList_some, Option.toList_none, List.cons_append, List.nil_append, fk_b_0, nI_add, Nat.add_zero, Nat.zero_add, not_true_eq_false, not_false_eq_true, if_true, if_false, sI_le_t, sI_le_f, sI_lt_t, sI_lt_f, sI_eq_t, sI_eq_f, sI_rem, sI_div, sI_m1a, sI_m1b, sI_m1c, sI_m1d, sI_m1e, sI_m1f, sI_m2a, sI_m2b, sI_sub, pk_mul, sI_dec, fk_u_s, fk_u_o, sI_dec0, sI_z, sI_md, Bool.false_eq_true, Nat.reduceAdd, Nat.reduceMul, Nat.reduceSub, Nat.reduceMod, Nat.reduceDiv]
        · refine ck_cs_one (j := j) hs hp (by omega) (by omega) (by omega) (by omega) (fun k k1 k2 => by rw [fk_u_rowo k1, fk_u_rowo k1]) (fun i i1 i2 => by rw [fk_u_o (by omega), fk_u_o (by omega)]) (by rw [fk_u_o (by omega), fk_u_o (by omega)]; exact g3) (by rw [fk_u_o (by omega), fk_u_o (by omega)]; exact g4) (fun i _ hi => fk_w_o (hi 512 (by omega))) (by rw [fk_u_o (by omega), fk_u_o (by omega)]) (by rw [fk_u_o (by omega), fk_u_s]; exact Or.inl rfl) ?_ ?_
          · unfold ck_hm
            dsimp only
            simp (disch := omega) only [fk_u_o, fk_u_s, fk_w_o, fk_w_s]
            exact ⟨a1, a2, a3, a4, a5, a6, a7, a8, trivial, a10, a11, a12, a13⟩
          · exact hcm (nI 0) _ (fun k k1 k2 => by rw [fk_u_rowo k1, fk_u_rowo k1]) (by rw [fk_u_o (by omega), fk_u_s]) s.2.1 h0 fun _ _ => rfl
      · rw [if_neg fun z => w0 z.2]
        unfold ab_go
        rw [if_neg fun z => at' z.2]
        refine ⟨fk_u y (p + 3 + j) 14 (nI 0), .ref (p + 3 + j), fun x => ?_, ?_⟩
        · rw [hX6_comeNearer_2]
          simp (disch := first | assumption | omega) only [rX6_comeNearer, e2, nI_clamp, eb, c0, ck_p3 (p := p), a4, lv, a7, er, mX5_isTold_m2, a9, Int32.not_lt.mp w0, Option.bind_some, Option.toList_some, Option.toList_none, List.cons_append, List.nil_append, fk_b_0, nI_add, Nat.add_zero, Nat.zero_add, not_true_eq_false, not_false_eq_true, if_true, if_false, sI_le_t, sI_le_f, sI_lt_t, sI_lt_f, sI_eq_t, sI_eq_f, sI_rem, sI_div, sI_m1a, sI_m1b, sI_m1c, sI_m1d, sI_m1e, sI_m1f, sI_m2a, sI_m2b, sI_sub, pk_mul, sI_dec, fk_u_s, fk_u_o, sI_dec0, sI_z, sI_md, Bool.false_eq_true, Nat.reduceAdd, Nat.reduceMul, Nat.reduceSub, Nat.reduceMod, Nat.reduceDiv]
        · refine ck_cs_one (j := j) hs hp (by omega) (by omega) (by omega) (by omega) (fun k k1 k2 => fk_u_rowo k1) (fun i i1 i2 => fk_u_o (by omega)) (by rw [fk_u_o (by omega)]; exact g3) (by rw [fk_u_o (by omega)]; exact g4) (fun i _ hi => rfl) (by rw [fk_u_o (by omega)]) (by rw [fk_u_s]; exact Or.inl rfl) ?_ ?_
          · unfold ck_hm
            simp (disch := omega) only [fk_u_o]
            exact ⟨a1, a2, a3, a4, a5, a6, a7, a8, a9, a10, a11, a12, a13⟩
          · exact hcm (nI 0) _ (fun k k1 k2 => fk_u_rowo k1) fk_u_s s.2.1 h0 fun _ _ => rfl
  · have ew : ab_wg v (y0 238 4) j s = s := by
      unfold ab_wg
      rw [show ab_wt j s = s from if_neg fun z => lv z.1.1]
      exact if_neg fun z => lv z.1
    rw [ew]
    refine ⟨fk_u y (p + 3 + j) 14 (nI 0), .ref (p + 3 + j), fun x => ?_, ?_⟩
    · rw [hX6_comeNearer_2]
      simp (disch := first | assumption | omega) only [rX6_comeNearer, e2, nI_clamp, eb, c0, ck_p3 (p := p), a4, lv, Option.bind_some, Option.toList_some, Option.toList_none, List.cons_append, List.nil_append, fk_b_0, nI_add, Nat.add_zero, Nat.zero_add, not_true_eq_false, not_false_eq_true, if_true, if_false, sI_le_t, sI_le_f, sI_lt_t, sI_lt_f, sI_eq_t, sI_eq_f, sI_rem, sI_div, sI_m1a, sI_m1b, sI_m1c, sI_m1d, sI_m1e, sI_m1f, sI_m2a, sI_m2b, sI_sub, pk_mul, sI_dec, fk_u_s, fk_u_o, sI_dec0, sI_z, sI_md, Bool.false_eq_true, Nat.reduceAdd, Nat.reduceMul, Nat.reduceSub, Nat.reduceMod, Nat.reduceDiv]
    · refine ck_cs_one (j := j) hs hp (by omega) (by omega) (by omega) (by omega) (fun k k1 k2 => fk_u_rowo k1) (fun i i1 i2 => fk_u_o (by omega)) (by rw [fk_u_o (by omega)]; exact g3) (by rw [fk_u_o (by omega)]; exact g4) (fun i _ hi => rfl) (by rw [fk_u_o (by omega)]) (by rw [fk_u_s]; exact Or.inl rfl) ?_ ?_
      · unfold ck_hm
        simp (disch := omega) only [fk_u_o]
        exact ⟨a1, a2, a3, a4, a5, a6, a7, a8, a9, a10, a11, a12, a13⟩
      · exact hcm (nI 0) _ (fun k k1 k2 => fk_u_rowo k1) fk_u_s s.2.1 h0 fun _ _ => rfl
end C3
