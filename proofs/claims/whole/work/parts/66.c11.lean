section C11
variable {N : Nat} {v y y0 : Nat → Nat → Int32} {l : Nat → Nat → Int64} {d p c n H m : Nat} {T A : Nat → Int32} {b0 : Int32} {W : Int32 → (Nat → Int32) → Int32} {s : ab_S}
theorem ck_cs0_slot {A' : Nat → Int32} {y' : Nat → Nat → Int32} {j : Nat} (hs : ck_cs y0 p c T b0 0 y s) (hp : ck_pp p) (hn : n ≤ 64) (hNn : ab_n s.1 = n) (hj : j < n) (hy : ∀ k, k ≠ p + 3 + j → y' k = y k) (hA : ∀ i, i < 839 → (∀ c, (c = 256 ∨ c = 320 ∨ c = 384 ∨ c = 448 ∨ c = 512 ∨ c = 576 ∨ c = 704 ∨ c = 768) → i ≠ c + j) → A' i = s.1 i) (h0 : y' (p + 3 + j) 0 = y (p + 3 + j) 0) (h14 : y' (p + 3 + j) 14 = y (p + 3 + j) 14) (hh : ck_hm (y' (p + 3 + j)) A' j) : ck_cs y0 p c T b0 0 y' (A', s.2) := by
  obtain ⟨g1, g2, g3, g4, g5, g6⟩ := id hs
  have hp' : p = 33 ∨ p = 100 ∨ p = 167 := hp
  exact ck_cs_one (j := j) hs hp (by omega) (by omega) (by omega) (by omega) (fun k k1 _ => hy k k1) (fun i _ _ => by rw [hy 238 (by omega)]) (by rw [hy 238 (by omega)]; exact g3) (by rw [hy 238 (by omega)]; exact g4) hA h0 (by rw [h14]; exact g1.2.2.2.1 j (by omega) (by omega)) hh fun i hi => by omega
theorem ck_cs_st {j r : Nat} (hN : ck_nt v y0) (hp : ck_pp p) (hc : c = 2 ∨ c = 10) (hs : ck_cs y0 p c T b0 0 y s) (ho : ab_ok v n H s.1) (hj : j < n) (hr : r < 32) (ht : fk_tb (v 246 3) r = true) : y 21 r = v 252 r ∧ ck_cs y0 p c T b0 0 (fk_u (fk_u (fk_u y (p + 3 + j) 6 (-2)) (p + 3 + j) 7 (nI r)) (p + 3 + j) 8 (v 252 r)) (ab_st v s.1 j (nI r), s.2) := by
  have hp' : p = 33 ∨ p = 100 ∨ p = 167 := hp
  have hn := ho.1
  obtain ⟨g1, g2, g3, g4, g5, g6⟩ := id hs
  obtain ⟨a1, a2, a3, a4, a5, a6, a7, a8, a9, a10, a11, a12, a13⟩ := id (g1.2.2.1 j (by omega) (by rw [ab_ok_n ho]; exact hj))
  refine ⟨by rw [g6 21 (by omega) (by omega) (by omega) (by omega)]; exact (hN.1 r hr ht).2.2, ?_⟩
  refine ck_cs0_slot (j := j) hs hp hn (ab_ok_n ho) hj (fun k k1 => by rw [fk_u_rowo k1, fk_u_rowo k1, fk_u_rowo k1]) (fun i _ hi => by unfold ab_st; rw [fk_w_o (hi 448 (by omega)), fk_w_o (hi 384 (by omega)), fk_w_o (hi 320 (by omega))]) (by simp (disch := omega) only [fk_u_o]) (by simp (disch := omega) only [fk_u_o]) ?_
  unfold ck_hm ab_st
  rw [nI_clamp (by omega)]
  simp (disch := omega) only [fk_u_o, fk_u_s, fk_w_o, fk_w_s]
  exact ⟨a1, a2, a3, a4, a5, trivial, trivial, trivial, a9, a10, a11, a12, a13⟩
set_option maxRecDepth 10000 in
theorem ck_cs_pt {j o q : Nat} (hp : ck_pp p) (hc : c = 2 ∨ c = 10) (hs : ck_cs y0 p c T b0 0 y s) (ho : ab_ok v n H s.1) (hj : j < n) (hn : n < 64) (lj : s.1 (192 + j) = nI 1) (wj : s.1 (512 + j) = nI 0) (eo : s.1 j = nI o) (ho4 : o < 4) (hq : q < 32) : ck_cs y0 p c T b0 0 (ck_pt y p n j o (nI q) (v 252 q)) (ab_pt v s.1 j (nI q), s.2) := by
  have hp' : p = 33 ∨ p = 100 ∨ p = 167 := hp
  have hNn := ab_ok_n ho
  have mj : s.1 (640 + j) = (-2) := (ho.2.2.2.2.2.1 j hj).2.2.2.2.2.2.1 lj
  have at' := ab_pt_at (v := v) (q := nI q) hn ho.2.1 hj
  rw [nI_clamp (show q < 2 ^ 31 by omega)] at at'
  obtain ⟨g1, g2, g3, g4, g5, g6⟩ := hs
  obtain ⟨⟨q1, q2, q3, q4, q5, q6, q7⟩, q8, q9, q10, q11⟩ := g1
  obtain ⟨a1, a2, a3, a4, a5, a6, a7, a8, a9, a10, a11, a12, a13⟩ := q9 j (by omega) (by omega)
  generalize ab_pt v s.1 j (nI q) = B at at' ⊢
  have B833 : B 833 = nI (n + 1) := by rw [at']; simp (disch := omega) only [if_neg, if_true]
  have eN : ab_n B = n + 1 := ab_n_of (by omega) B833
  have hlo : ∀ o' : Int32, ab_lo B o' = ab_lo s.1 o' + (if s.1 j = o' then 1 else 0) := by
    intro o'
    unfold ab_lo
    rw [eN, hNn, fk_cf_succ, Nat.zero_add]
    have e1 : B (192 + n) = nI 1 := by rw [at']; simp (disch := omega) only [if_neg, if_true]
    have e2 : B n = s.1 j := by rw [at']; simp (disch := omega) only [if_neg, if_true]
    congr 1
    · refine fk_cf_congr n 0 fun i _ hi => ?_
      have e3 : B (192 + i) = s.1 (192 + i) := by rw [at']; simp (disch := omega) only [if_neg, if_true]
      have e4 : B i = s.1 i := by rw [at']; simp (disch := omega) only [if_neg, if_true]
      rw [e3, e4]
    · rw [e1, e2]
      by_cases h : s.1 j = o'
      · simp [h]
      · simp [h]
  unfold ck_pt
  rw [a5, q8 j (by omega), q2]
  refine ⟨⟨⟨?_, ?_, ?_, ?_, ?_, ?_, ?_⟩, fun i hi => ?_, fun i hi hi2 => ?_, fun i hi hi2 => ?_, fun o' ho' => ?_⟩, fun i hi => by omega, ?_, ?_, fun i i1 i2 => ?_, fun k k1 k2 k3 k4 => ?_⟩
  · dsimp only; rw [B833]; simp (disch := omega) only [fk_u_o, fk_u_s]
  · dsimp only; rw [at']; simp (disch := omega) only [fk_u_o, fk_u_s, if_neg, if_true, ck_hcp_o]; exact q2
  · dsimp only; rw [at']; simp (disch := omega) only [fk_u_o, fk_u_s, if_neg, if_true, ck_hcp_o]; exact q3
  · dsimp only; rw [at']; simp (disch := omega) only [fk_u_o, fk_u_s, if_neg, if_true, ck_hcp_o]; rw [ck_addr, q4]
  · dsimp only; rw [at']; simp (disch := omega) only [fk_u_o, fk_u_s, if_neg, if_true, ck_hcp_o]; exact q5
  · dsimp only; rw [at']; simp (disch := omega) only [fk_u_o, fk_u_s, if_neg, if_true, ck_hcp_o]; exact q6
  · dsimp only; rw [at']; simp (disch := omega) only [fk_u_o, fk_u_s, if_neg, if_true, ck_hcp_o]; exact q7
  · by_cases i_n : i = n
    · subst i_n
      simp (disch := omega) only [fk_u_o, ck_hcp_0]; exact q8 i hi
    · simp (disch := omega) only [fk_u_o, ck_hcp_o]; exact q8 i hi
  · rw [eN] at hi2
    by_cases i_n : i = n
    · subst i_n
      unfold ck_hm
      simp only [at']
      simp (disch := omega) only [fk_u_o, fk_u_s, if_neg, if_true, ck_hcp_s]
      exact ⟨a1, trivial, trivial, by rw [a4, lj]; rfl, trivial, trivial, trivial, trivial, by rw [a9, wj], a10, a11, a12, by rw [a13, mj]⟩
    · by_cases ij : i = j
      · subst ij
        unfold ck_hm
        simp only [at']
        simp (disch := omega) only [fk_u_o, fk_u_s, if_neg, if_true, ck_hcp_o]
        exact ⟨a1, a2, a3, a4, trivial, a6, a7, a8, a9, a10, a11, a12, a13⟩
      · refine ck_hm_congr ?_ (fun c' hc' => ?_) (q9 i hi (by omega))
        · simp (disch := omega) only [fk_u_rowo, ck_hcp_o]
        · show B (c' + i) = _
          rw [at']
          simp (disch := omega) only [if_neg]
  · rw [eN] at hi2
    by_cases i_n : i = n
    · subst i_n
      simp (disch := omega) only [fk_u_o, fk_u_s]
      exact Or.inl trivial
    · simp (disch := omega) only [fk_u_o, ck_hcp_o]
      exact q10 i hi (by omega)
  · have z := hlo (nI o')
    rw [eo] at z
    by_cases e : o' = o
    · subst e
      rw [if_pos rfl] at z
      simp (disch := omega) only [fk_u_o, fk_u_s]
      rw [q11 o' ho', z, nI_add]
    · rw [if_neg (by rw [sI_eq_f (by omega) (by omega) (by omega)]; exact id), Nat.add_zero] at z
      simp (disch := omega) only [fk_u_o, ck_hcp_o]
      rw [q11 o' ho', z]
  · simp (disch := omega) only [fk_u_o, ck_hcp_o]; exact g3
  · simp (disch := omega) only [fk_u_o, ck_hcp_o]; exact g4
  · simp (disch := omega) only [fk_u_o, ck_hcp_o]; exact g5 i i1 i2
  · simp (disch := omega) only [fk_u_rowo, ck_hcp_o]; exact g6 k k1 k2 k3 k4
/-- the inner loop: the two roads taken most gladly -/
theorem ck_two (hL : ck_LC W c y0) (hv : ab_rv v) (hN : ck_nt v y0) (hp : ck_pp p) (hq2 : y0 238 2 = nI p) (hq3 : y0 238 3 = nI c) (hs : ck_cs y0 p c T b0 0 y s) (ho : ab_ok v n H s.1) {j : Nat} (hj : j < n) (ha : ab_at s.1 j) {x1 : Value} {x9 : Value} : ∃ x9' y', fk_ev (d + 3) qX6_setOut 61 [.ref 238, x1, .int (nI j), .ref (p + 3 + j), .int (-1), .int (-1), .int (nI 0), .int (nI 0), .int (nI 0), x9] [] (fk_E N y l) = fk_ev (d + 3) qX6_setOut 61 [.ref 238, x1, .int (nI j), .ref (p + 3 + j), .int (ab_bk (ab_G v W s.1 j) (-1) 32).1, .int (ab_bk (ab_G v W s.1 j) (ab_bk (ab_G v W s.1 j) (-1) 32).1 32).1, .int (ab_bk (ab_G v W s.1 j) (-1) 32).2, .int (ab_bk (ab_G v W s.1 j) (ab_bk (ab_G v W s.1 j) (-1) 32).1 32).2, .int (nI 32), x9'] [] (fk_E N y' l) ∧ ck_cs y0 p c T b0 0 y' s := by
  have hp' : p = 33 ∨ p = 100 ∨ p = 167 := hp
  have hn := ho.1
  have hc := hL.1
  have hh := ck_pp_h hp (show j < 64 by omega)
  obtain ⟨q, hq, eq, _, _⟩ := ab_at_place (ho.2.2.2.2.2.1 j hj) ha
  generalize hG : ab_G v W s.1 j = G
  have key := fk_loopr (σ := Value × (Nat → Nat → Int32)) (fun k t => fk_ev (d + 3) qX6_setOut 61 [.ref 238, x1, .int (nI j), .ref (p + 3 + j), .int (ab_bk G (-1) k).1, .int (ab_bk G (ab_bk G (-1) k).1 k).1, .int (ab_bk G (-1) k).2, .int (ab_bk G (ab_bk G (-1) k).1 k).2, .int (nI k), t.1] [] (fk_E N t.2 l)) (fun k t => ck_cs y0 p c T b0 0 t.2 s) 32 (by
    rintro k ⟨x, t⟩ hk i1
    dsimp only at i1 ⊢
    obtain ⟨g1, g2, g3, g4, g5, g6⟩ := id i1
    obtain ⟨a1, a2, a3, a4, a5, a6, _⟩ := id (g1.2.2.1 j (by omega) (by rw [ab_ok_n ho]; exact hj))
    have e19 : t 19 k = y0 19 k := by rw [g6 19 (by omega) (by omega) (by omega) (by omega)]
    have pre : ∃ y', (∀ R, fk_ev (d + 3) qX6_setOut 96 [.ref 238, x1, .int (nI j), .ref (p + 3 + j), .int (ab_bk G (-1) k).1, .int (ab_bk G (ab_bk G (-1) k).1 k).1, .int (ab_bk G (-1) k).2, .int (ab_bk G (ab_bk G (-1) k).1 k).2, .int (nI k), x] [.int (G k)] (fk_E N y' l) = R → fk_ev (d + 3) qX6_setOut 61 [.ref 238, x1, .int (nI j), .ref (p + 3 + j), .int (ab_bk G (-1) k).1, .int (ab_bk G (ab_bk G (-1) k).1 k).1, .int (ab_bk G (-1) k).2, .int (ab_bk G (ab_bk G (-1) k).1 k).2, .int (nI k), x] [] (fk_E N t l) = R) ∧ ck_cs y0 p c T b0 0 y' s := by
      generalize (ab_bk G (-1) k).1 = f1
      generalize (ab_bk G (-1) k).2 = f2
      generalize (ab_bk G f1 k).1 = f3
      generalize (ab_bk G f1 k).2 = f4
      by_cases ht : fk_tb (v 246 3) k = true
      · obtain ⟨n1, n2, n3⟩ := hN.1 k hk ht
        by_cases hf : v 250 k = s.1 (320 + j)
        · have eG : G k = ab_gl v W s.1 j k := by rw [← hG]; exact if_pos ⟨ht, hf⟩
          obtain ⟨y', e, r⟩ := mX6_gladness (N := N) (l := l) (d := d) hL hN hp hq2 hq3 i1 (by omega) ho hj hk ht
          refine ⟨y', fun R hR => ?_, r⟩
          rw [hX6_setOut_61, ← hR, eG]
          clear hR
          generalize ab_gl v W s.1 j k = gg at e
          have st : fk_ev (d + 3) qX6_setOut 96 [.ref 238, x1, .int (nI j), .ref (p + 3 + j), .int f1, .int f3, .int f2, .int f4, .int (nI k), x] [.int gg] (fk_E N y' l) = ((fk_ev (d + 2) qX6_gladness 0 [.ref 238, .ref (p + 3 + j), .int (nI k)] [] (fk_E N t l)).bind fun q => fk_ev (d + 3) qX6_setOut 92 [.ref 238, x1, .int (nI j), .ref (p + 3 + j), .int f1, .int f3, .int f2, .int f4, .int (nI k), x] (q.1.toList ++ []) q.2) := by
            rw [e]
            show _ = fk_ev (d + 3) qX6_setOut 92 _ [.int gg] (fk_E N y' l)
            have r92 := rX6_setOut
            exact ((show fk_ev (d + 3) qX6_setOut 92 [.ref 238, x1, .int (nI j), .ref (p + 3 + j), .int f1, .int f3, .int f2, .int f4, .int (nI k), x] [.int gg] (fk_E N y' l) = fk_ev (d + 3) qX6_setOut 96 [.ref 238, x1, .int (nI j), .ref (p + 3 + j), .int f1, .int f3, .int f2, .int f4, .int (nI k), x] [.int gg] (fk_E N y' l) by simp (disch := first | assumption | omega) only [rX6_setOut, Option.bind_some, Option.toList_some, Option.toList_none, List.cons_append, List.nil_append, fk_b_0, nI_add, Nat.add_zero, Nat.zero_add, not_true_eq_false, not_false_eq_true, if_true, if_false, sI_le_t, sI_le_f, sI_lt_t, sI_lt_f, sI_eq_t, sI_eq_f, sI_rem, sI_div, sI_m1a, sI_m1b, sI_m1c, sI_m1d, sI_m1e, sI_m1f, sI_m2a, sI_m2b, sI_sub, pk_mul, sI_dec, fk_u_s, fk_u_o, sI_dec0, sI_z, sI_md, Bool.false_eq_true, Nat.reduceAdd, Nat.reduceMul, Nat.reduceSub, Nat.reduceMod, Nat.reduceDiv])).symm
          rw [st]
          clear st e
          simp (disch := first | assumption | omega) only [rX6_setOut, e19, n1, hf, a6, Option.bind_some, Option.toList_some, Option.toList_none, List.cons_append, List.nil_append, fk_b_0, nI_add, Nat.add_zero, Nat.zero_add, not_true_eq_false, not_false_eq_true, if_true, if_false, sI_le_t, sI_le_f, sI_lt_t, sI_lt_f, sI_eq_t, sI_eq_f, sI_rem, sI_div, sI_m1a, sI_m1b, sI_m1c, sI_m1d, sI_m1e, sI_m1f, sI_m2a, sI_m2b, sI_sub, pk_mul, sI_dec, fk_u_s, fk_u_o, sI_dec0, sI_z, sI_md, Bool.false_eq_true, Nat.reduceAdd, Nat.reduceMul, Nat.reduceSub, Nat.reduceMod, Nat.reduceDiv]
        · have eG : G k = nI 0 := by rw [← hG]; exact if_neg fun z => hf z.2
          refine ⟨t, fun R hR => ?_, i1⟩
          rw [hX6_setOut_61, ← hR, eG]
          clear hR
          simp (disch := first | assumption | omega) only [rX6_setOut, e19, n1, hf, a6, Option.bind_some, Option.toList_some, Option.toList_none, List.cons_append, List.nil_append, fk_b_0, nI_add, Nat.add_zero, Nat.zero_add, not_true_eq_false, not_false_eq_true, if_true, if_false, sI_le_t, sI_le_f, sI_lt_t, sI_lt_f, sI_eq_t, sI_eq_f, sI_rem, sI_div, sI_m1a, sI_m1b, sI_m1c, sI_m1d, sI_m1e, sI_m1f, sI_m2a, sI_m2b, sI_sub, pk_mul, sI_dec, fk_u_s, fk_u_o, sI_dec0, sI_z, sI_md, Bool.false_eq_true, Nat.reduceAdd, Nat.reduceMul, Nat.reduceSub, Nat.reduceMod, Nat.reduceDiv]
      · have eG : G k = nI 0 := by rw [← hG]; exact if_neg fun z => ht z.1
        have n1 := hN.2.1 k hk ht
        have hf : ¬ (-1 : Int32) = s.1 (320 + j) := by rw [eq, sI_m1b (by omega)]; exact id
        refine ⟨t, fun R hR => ?_, i1⟩
        rw [hX6_setOut_61, ← hR, eG]
        clear hR
        simp (disch := first | assumption | omega) only [rX6_setOut, e19, n1, hf, a6, Option.bind_some, Option.toList_some, Option.toList_none, List.cons_append, List.nil_append, fk_b_0, nI_add, Nat.add_zero, Nat.zero_add, not_true_eq_false, not_false_eq_true, if_true, if_false, sI_le_t, sI_le_f, sI_lt_t, sI_lt_f, sI_eq_t, sI_eq_f, sI_rem, sI_div, sI_m1a, sI_m1b, sI_m1c, sI_m1d, sI_m1e, sI_m1f, sI_m2a, sI_m2b, sI_sub, pk_mul, sI_dec, fk_u_s, fk_u_o, sI_dec0, sI_z, sI_md, Bool.false_eq_true, Nat.reduceAdd, Nat.reduceMul, Nat.reduceSub, Nat.reduceMod, Nat.reduceDiv]
    obtain ⟨y', pre, r⟩ := pre
    refine ⟨(.int (G k), y'), pre _ ?_, r⟩
    clear pre
    dsimp only
    have h2 : nI k ≠ (-1) := fun z => of_eq_false (sI_m1a (by omega)) z
    by_cases b1 : (ab_bk G (-1) k).2 < G k
    · have f1 : ab_bk G (-1) (k + 1) = (nI k, G k) := by rw [ab_bk_s, if_pos ⟨h2, b1⟩]
      have f2 : ab_bk G (nI k) (k + 1) = ab_bk G (-1) k := by rw [ab_bk_s, if_neg (fun z => z.1 rfl), ab_bk_far (by omega) k (Nat.le_refl _)]
      rw [f1]
      dsimp only
      rw [f2]
      have b1' := Int32.not_le.mpr b1
      simp (disch := first | assumption | omega) only [rX6_setOut, b1', Option.bind_some, Option.toList_some, Option.toList_none, List.cons_append, List.nil_append, fk_b_0, nI_add, Nat.add_zero, Nat.zero_add, not_true_eq_false, not_false_eq_true, if_true, if_false, sI_le_t, sI_le_f, sI_lt_t, sI_lt_f, sI_eq_t, sI_eq_f, sI_rem, sI_div, sI_m1a, sI_m1b, sI_m1c, sI_m1d, sI_m1e, sI_m1f, sI_m2a, sI_m2b, sI_sub, pk_mul, sI_dec, fk_u_s, fk_u_o, sI_dec0, sI_z, sI_md, Bool.false_eq_true, Nat.reduceAdd, Nat.reduceMul, Nat.reduceSub, Nat.reduceMod, Nat.reduceDiv]
    · have f1 : ab_bk G (-1) (k + 1) = ab_bk G (-1) k := by rw [ab_bk_s, if_neg (fun z => b1 z.2)]
      rw [f1]
      have hne : nI k ≠ (ab_bk G (-1) k).1 := by
        rcases (ab_bk_is (G := G) (x := (-1)) k).2 with h | ⟨r, hr, h⟩
        · rw [h]; exact h2
        · rw [h]; exact fun z => by have := (nI_eq (by omega) (by omega)).mp z; omega
      have b1' := Int32.not_lt.mp b1
      generalize (ab_bk G (-1) k).2 = m2 at b1' ⊢
      generalize (ab_bk G (-1) k).1 = m1 at hne ⊢
      by_cases b2 : (ab_bk G m1 k).2 < G k
      · have f2 : ab_bk G m1 (k + 1) = (nI k, G k) := by rw [ab_bk_s, if_pos ⟨hne, b2⟩]
        rw [f2]
        have b2' := Int32.not_le.mpr b2
        simp (disch := first | assumption | omega) only [rX6_setOut, b1', b2', Option.bind_some, Option.toList_some, Option.toList_none, List.cons_append, List.nil_append, fk_b_0, nI_add, Nat.add_zero, Nat.zero_add, not_true_eq_false, not_false_eq_true, if_true, if_false, sI_le_t, sI_le_f, sI_lt_t, sI_lt_f, sI_eq_t, sI_eq_f, sI_rem, sI_div, sI_m1a, sI_m1b, sI_m1c, sI_m1d, sI_m1e, sI_m1f, sI_m2a, sI_m2b, sI_sub, pk_mul, sI_dec, fk_u_s, fk_u_o, sI_dec0, sI_z, sI_md, Bool.false_eq_true, Nat.reduceAdd, Nat.reduceMul, Nat.reduceSub, Nat.reduceMod, Nat.reduceDiv]
      · have f2 : ab_bk G m1 (k + 1) = ab_bk G m1 k := by rw [ab_bk_s, if_neg (fun z => b2 z.2)]
        rw [f2]
        have b2' := Int32.not_lt.mp b2
        simp (disch := first | assumption | omega) only [rX6_setOut, b1', b2', Option.bind_some, Option.toList_some, Option.toList_none, List.cons_append, List.nil_append, fk_b_0, nI_add, Nat.add_zero, Nat.zero_add, not_true_eq_false, not_false_eq_true, if_true, if_false, sI_le_t, sI_le_f, sI_lt_t, sI_lt_f, sI_eq_t, sI_eq_f, sI_rem, sI_div, sI_m1a, sI_m1b, sI_m1c, sI_m1d, sI_m1e, sI_m1f, sI_m2a, sI_m2b, sI_sub, pk_mul, sI_dec, fk_u_s, fk_u_o, sI_dec0, sI_z, sI_md, Bool.false_eq_true, Nat.reduceAdd, Nat.reduceMul, Nat.reduceSub, Nat.reduceMod, Nat.reduceDiv]) 32 0 (x9, y) rfl hs
  obtain ⟨⟨x9', y'⟩, e, i1⟩ := key
  exact ⟨x9', y', e, i1⟩
end C11
