section C7
variable {N : Nat} {v y y0 : Nat → Nat → Int32} {l : Nat → Nat → Int64} {d p c n H m : Nat} {T A : Nat → Int32} {b0 : Int32} {W : Int32 → (Nat → Int32) → Int32} {s : ab_S}
theorem ab_ok_ar0 {j : Nat} (hv : ab_rv v) (ho : ab_ok v n H A) (hj : j < n) (ha : ab_at A j) : ab_ok v n H (ab_ar0 v j A) := by
  obtain ⟨p, hp, e1, _, _⟩ := ab_at_place (ho.2.2.2.2.2.1 j hj) ha
  unfold ab_ar0
  rw [e1, nI_clamp (by omega)]
  rcases hv.2.1 p hp with h | h
  · rw [if_pos h]; exact ho
  · rw [if_neg (by obtain ⟨f, hf, e⟩ := h; rw [e, sI_m1a (by omega)]; exact id)]
    exact ab_ok_kn ho hj h
/-- some numbers of one half of the class have changed, in one step -/
theorem ck_cs_slot {A' : Nat → Int32} {y' : Nat → Nat → Int32} {j : Nat} (hs : ck_cs y0 p c T b0 n y s) (hp : ck_pp p) (hn : n ≤ 64) (hNn : ab_n s.1 = n) (hj : j < n) (hy : ∀ k, k ≠ p + 3 + j → y' k = y k) (hA : ∀ i, i < 839 → (∀ c, (c = 256 ∨ c = 320 ∨ c = 384 ∨ c = 448 ∨ c = 512 ∨ c = 576 ∨ c = 704 ∨ c = 768) → i ≠ c + j) → A' i = s.1 i) (h0 : y' (p + 3 + j) 0 = y (p + 3 + j) 0) (h14 : y' (p + 3 + j) 14 = y (p + 3 + j) 14) (hh : ck_hm (y' (p + 3 + j)) A' j) : ck_cs y0 p c T b0 n y' (A', s.2) := by
  obtain ⟨g1, g2, g3, g4, g5, g6⟩ := id hs
  have hp' : p = 33 ∨ p = 100 ∨ p = 167 := hp
  refine ck_cs_one (j := j) hs hp (by omega) (by omega) (by omega) (by omega) (fun k k1 _ => hy k k1) (fun i _ _ => by rw [hy 238 (by omega)]) (by rw [hy 238 (by omega)]; exact g3) (by rw [hy 238 (by omega)]; exact g4) hA h0 (by rw [h14]; exact g1.2.2.2.1 j (by omega) (by omega)) hh fun i hi => ?_
  by_cases e : i = j
  · subst e; rw [h14]; exact g2 i hi
  · rw [hy _ (by omega)]; exact g2 i hi
set_option maxRecDepth 10000 in
theorem ck_arr (hL : ck_LC W c y0) (hv : ab_rv v) (hN : ck_nt v y0) (hp : ck_pp p) (hq2 : y0 238 2 = nI p) (hq3 : y0 238 3 = nI c) (hs : ck_cs y0 p c T b0 n y s) (ho : ab_ok v n H s.1) {j : Nat} (hj : j < n) (ha : ab_at s.1 j) : ∃ y', fk_ev (d + 2) qX6_arrive 41 [.ref 238, .int (nI j), .ref (p + 3 + j)] [] (fk_E N y l) = fk_ev (d + 2) qX6_arrive 2 [.ref 238, .int (nI (j + 1)), .ref (p + 3 + j)] [] (fk_E N y' l) ∧ ck_cs y0 p c T b0 n y' (ab_ar2 W j (ab_ar1 W j (ab_ar0 v j s.1)), s.2) := by
  have hp' : p = 33 ∨ p = 100 ∨ p = 167 := hp
  have hn := ho.1
  have hc := hL.1
  have hlaw := fk_at_law hc
  have hh := ck_pp_h hp (show j < 64 by omega)
  obtain ⟨q, hq, eq, _, _⟩ := ab_at_place (ho.2.2.2.2.2.1 j hj) ha
  obtain ⟨o, ho4, eo⟩ := (ho.2.2.2.2.2.1 j hj).1
  have st : ∃ y1, fk_ev (d + 2) qX6_arrive 41 [.ref 238, .int (nI j), .ref (p + 3 + j)] [] (fk_E N y l) = fk_ev (d + 2) qX6_arrive 92 [.ref 238, .int (nI j), .ref (p + 3 + j)] [] (fk_E N y1 l) ∧ ck_cs y0 p c T b0 n y1 (ab_ar0 v j s.1, s.2) := by
    obtain ⟨g1, g2, g3, g4, g5, g6⟩ := id hs
    obtain ⟨a1, a2, a3, a4, a5, a6, a7, a8, a9, a10, a11, a12, a13⟩ := id (g1.2.2.1 j (by omega) (by rw [ab_ok_n ho]; exact hj))
    have e22 : y 22 q = v 253 q := by rw [g6 22 (by omega) (by omega) (by omega) (by omega)]; exact (hN.2.2.1 q hq).1
    have e23 : y 23 q = v 254 q := by rw [g6 23 (by omega) (by omega) (by omega) (by omega)]; exact (hN.2.2.1 q hq).2
    unfold ab_ar0
    rw [eq, nI_clamp (by omega)]
    rcases hv.2.1 q hq with h | ⟨f, hf, h⟩
    · rw [if_pos h]
      refine ⟨y, ?_, hs⟩
      simp (disch := first | assumption | omega) only [rX6_arrive, a6, eq, e22, h, show ((-1 : Int32) < nI 0) = True from eq_true (by decide), Option.bind_some, Option.toList_some, Option.toList_none, List.cons_append, List.nil_append, fk_b_0, nI_add, Nat.add_zero, Nat.zero_add, not_true_eq_false, not_false_eq_true, if_true, if_false, sI_le_t, sI_le_f, sI_lt_t, sI_lt_f, sI_eq_t, sI_eq_f, sI_rem, sI_div, sI_m1a, sI_m1b, sI_m1c, sI_m1d, sI_m1e, sI_m1f, sI_m2a, sI_m2b, sI_sub, pk_mul, sI_dec, fk_u_s, fk_u_o, sI_dec0, sI_z, sI_md, Bool.false_eq_true, Nat.reduceAdd, Nat.reduceMul, Nat.reduceSub, Nat.reduceMod, Nat.reduceDiv]
    · rw [if_neg (by rw [h, sI_m1a (by omega)]; exact id), h]
      refine ⟨fk_u (fk_u y (p + 3 + j) 11 (s.1 (704 + j) ||| nI 1 <<< (nI f &&& 31))) (p + 3 + j) 12 (if v 254 q = nI 0 then s.1 (768 + j) &&& (nI 1 <<< (nI f &&& 31) ^^^ (-1)) else s.1 (768 + j) ||| nI 1 <<< (nI f &&& 31)), ?_, ?_⟩
      · rcases hv.2.2 q hq with h2 | h2
        · simp (disch := first | assumption | omega) only [rX6_arrive, a6, eq, e22, h, e23, h2, mX0_know, a11, a12, Option.bind_some, Option.toList_some, Option.toList_none, List.cons_append, List.nil_append, fk_b_0, nI_add, Nat.add_zero, Nat.zero_add, not_true_eq_false, not_false_eq_true, if_true, if_false, sI_le_t, sI_le_f, sI_lt_t, sI_lt_f, sI_eq_t, sI_eq_f, sI_rem, sI_div, sI_m1a, sI_m1b, sI_m1c, sI_m1d, sI_m1e, sI_m1f, sI_m2a, sI_m2b, sI_sub, pk_mul, sI_dec, fk_u_s, fk_u_o, sI_dec0, sI_z, sI_md, Bool.false_eq_true, Nat.reduceAdd, Nat.reduceMul, Nat.reduceSub, Nat.reduceMod, Nat.reduceDiv]
        · simp (disch := first | assumption | omega) only [rX6_arrive, a6, eq, e22, h, e23, h2, mX0_know, a11, a12, Option.bind_some, Option.toList_some, Option.toList_none, List.cons_append, List.nil_append, fk_b_0, nI_add, Nat.add_zero, Nat.zero_add, not_true_eq_false, not_false_eq_true, if_true, if_false, sI_le_t, sI_le_f, sI_lt_t, sI_lt_f, sI_eq_t, sI_eq_f, sI_rem, sI_div, sI_m1a, sI_m1b, sI_m1c, sI_m1d, sI_m1e, sI_m1f, sI_m2a, sI_m2b, sI_sub, pk_mul, sI_dec, fk_u_s, fk_u_o, sI_dec0, sI_z, sI_md, Bool.false_eq_true, Nat.reduceAdd, Nat.reduceMul, Nat.reduceSub, Nat.reduceMod, Nat.reduceDiv]
      · refine ck_cs_slot (j := j) hs hp hn (ab_ok_n ho) hj (fun k k1 => by rw [fk_u_rowo k1, fk_u_rowo k1]) (fun i _ hi => by unfold ab_kn; rw [fk_w_o (hi 768 (by omega)), fk_w_o (hi 704 (by omega))]) (by rw [fk_u_o (by omega), fk_u_o (by omega)]) (by rw [fk_u_o (by omega), fk_u_o (by omega)]) ?_
        unfold ck_hm ab_kn
        simp (disch := omega) only [fk_u_o, fk_u_s, fk_w_o, fk_w_s]
        exact ⟨a1, a2, a3, a4, a5, a6, a7, a8, a9, a10, trivial, trivial, a13⟩
  obtain ⟨y1, e1, r1⟩ := st
  have o1 := ab_ok_ar0 hv ho hj ha
  have eo1 : (ab_ar0 v j s.1) j = nI o := by
    unfold ab_ar0
    split
    · exact eo
    · unfold ab_kn; rw [fk_w_o (by omega), fk_w_o (by omega)]; exact eo
  rw [e1]
  clear e1 hs
  generalize ab_ar0 v j s.1 = A1 at r1 o1 eo1 ⊢
  obtain ⟨y2, e2, k2⟩ := ck_ask (N := N) (l := l) (d := d) (a := nI 98) (h := nI 999) hL hp r1 hn o1 hj eo1 ho4 (by simp) (by decide)
  have r2 := ck_cs_k r1 hp hn k2 hc
  dsimp only at e2
  have r3 : ck_cs y0 p c T b0 n (fk_u y2 (p + 3 + j) 10 (ab_mn (nI 99999) (A1 (576 + j) + ab_cl (nI 999) (W (nI 98) (ab_fe A1 j))))) (ab_ar1 W j A1, s.2) := by
    obtain ⟨a1, a2, a3, a4, a5, a6, a7, a8, a9, a10, a11, a12, a13⟩ := id (r2.1.2.2.1 j (by omega) (by rw [ab_ok_n o1]; exact hj))
    refine ck_cs_slot (s := (A1, s.2)) (j := j) r2 hp hn (ab_ok_n o1) hj (fun k k1 => fk_u_rowo k1) (fun i _ hi => fk_w_o (hi 576 (by omega))) (fk_u_o (by omega)) (fk_u_o (by omega)) ?_
    unfold ck_hm ab_ar1
    simp (disch := omega) only [fk_u_o, fk_u_s, fk_w_o, fk_w_s]
    exact ⟨a1, a2, a3, a4, a5, a6, a7, a8, a9, trivial, a11, a12, a13⟩
  have o3 : ab_ok v n H (ab_ar1 W j A1) := ab_ok_coin o1 hj
  have eo3 : (ab_ar1 W j A1) j = nI o := by unfold ab_ar1; rw [fk_w_o (by omega)]; exact eo1
  obtain ⟨y4, e4, k4⟩ := ck_ask (N := N) (l := l) (d := d) (a := nI 119) (h := nI 9) hL hp r3 hn o3 hj eo3 ho4 (by simp) (by decide)
  have r4 := ck_cs_k r3 hp hn k4 hc
  dsimp only at e4
  refine ⟨fk_u y4 (p + 3 + j) 9 (ab_mx ((ab_ar1 W j A1) (512 + j)) (ab_cl (nI 9) (W (nI 119) (ab_fe (ab_ar1 W j A1) j)))), ?_, ?_⟩
  · have f1 : y1 238 2 = nI p := by rw [r1.2.2.2.2.1 2 (by omega) (by omega)]; exact hq2
    have f2 : y1 238 3 = nI c := by rw [r1.2.2.2.2.1 3 (by omega) (by omega)]; exact hq3
    have f3 : y1 (p + 3 + j) 1 = nI o := by rw [(r1.1.2.2.1 j (by omega) (by rw [ab_ok_n o1]; exact hj)).1]; exact eo1
    have f4 : y1 (p + 3 + j) 10 = A1 (576 + j) := (r1.1.2.2.1 j (by omega) (by rw [ab_ok_n o1]; exact hj)).2.2.2.2.2.2.2.2.2.1
    generalize eY : fk_u y2 (p + 3 + j) 10 (ab_mn (nI 99999) (A1 (576 + j) + ab_cl (nI 999) (W (nI 98) (ab_fe A1 j)))) = Y at e4 r3
    have F1 : Y 238 2 = nI p := by rw [r3.2.2.2.2.1 2 (by omega) (by omega)]; exact hq2
    have F2 : Y 238 3 = nI c := by rw [r3.2.2.2.2.1 3 (by omega) (by omega)]; exact hq3
    have F3 : Y (p + 3 + j) 1 = nI o := by rw [(r3.1.2.2.1 j (by omega) (by rw [ab_ok_n o3]; exact hj)).1]; exact eo3
    have F4 : Y (p + 3 + j) 9 = (ab_ar1 W j A1) (512 + j) := (r3.1.2.2.1 j (by omega) (by rw [ab_ok_n o3]; exact hj)).2.2.2.2.2.2.2.2.1
    simp (disch := first | assumption | omega) only [rX6_arrive, mX6_speakOf hp f1 hh (show p + 3 + j ≠ 239 by omega) f3 ho4, ck_sp_o, f4, f2, nI_clamp, e2, ab_mn_c, eY, Option.bind_some, Option.toList_some, Option.toList_none, List.cons_append, List.nil_append, fk_b_0, nI_add, Nat.add_zero, Nat.zero_add, not_true_eq_false, not_false_eq_true, if_true, if_false, sI_le_t, sI_le_f, sI_lt_t, sI_lt_f, sI_eq_t, sI_eq_f, sI_rem, sI_div, sI_m1a, sI_m1b, sI_m1c, sI_m1d, sI_m1e, sI_m1f, sI_m2a, sI_m2b, sI_sub, pk_mul, sI_dec, fk_u_s, fk_u_o, sI_dec0, sI_z, sI_md, Bool.false_eq_true, Nat.reduceAdd, Nat.reduceMul, Nat.reduceSub, Nat.reduceMod, Nat.reduceDiv]
    simp (disch := first | assumption | omega) only [rX6_arrive, mX6_speakOf hp F1 hh (show p + 3 + j ≠ 239 by omega) F3 ho4, ck_sp_o, F4, F2, nI_clamp, e4, ab_mx_c, Option.bind_some, Option.toList_some, Option.toList_none, List.cons_append, List.nil_append, fk_b_0, nI_add, Nat.add_zero, Nat.zero_add, not_true_eq_false, not_false_eq_true, if_true, if_false, sI_le_t, sI_le_f, sI_lt_t, sI_lt_f, sI_eq_t, sI_eq_f, sI_rem, sI_div, sI_m1a, sI_m1b, sI_m1c, sI_m1d, sI_m1e, sI_m1f, sI_m2a, sI_m2b, sI_sub, pk_mul, sI_dec, fk_u_s, fk_u_o, sI_dec0, sI_z, sI_md, Bool.false_eq_true, Nat.reduceAdd, Nat.reduceMul, Nat.reduceSub, Nat.reduceMod, Nat.reduceDiv]
  · obtain ⟨a1, a2, a3, a4, a5, a6, a7, a8, a9, a10, a11, a12, a13⟩ := id (r4.1.2.2.1 j (by omega) (by rw [ab_ok_n o3]; exact hj))
    refine ck_cs_slot (s := (ab_ar1 W j A1, s.2)) (j := j) r4 hp hn (ab_ok_n o3) hj (fun k k1 => fk_u_rowo k1) (fun i _ hi => fk_w_o (hi 512 (by omega))) (fk_u_o (by omega)) (fk_u_o (by omega)) ?_
    unfold ck_hm ab_ar2
    simp (disch := omega) only [fk_u_o, fk_u_s, fk_w_o, fk_w_s]
    exact ⟨a1, a2, a3, a4, a5, a6, a7, a8, trivial, a10, a11, a12, a13⟩
theorem mX6_arrive (hL : ck_LC W c y0) (hv : ab_rv v) (hN : ck_nt v y0) (hp : ck_pp p) (hq2 : y0 238 2 = nI p) (hq3 : y0 238 3 = nI c) (hs : ck_cs y0 p c T b0 n y s) (ho : ab_ok v n H s.1) : ∃ y', fk_ev (d + 2) qX6_arrive 0 [.ref 238, .null, .null] [] (fk_E N y l) = some (none, fk_E N y' l) ∧ ck_cs y0 p c T b0 n y' (ab_p4 v W s) ∧ ab_ok v n H (ab_p4 v W s).1 := by
  obtain ⟨h8, c0, c1, h24, s24, h20, s20, p1, p2⟩ := ck_pp_at hp
  have hn := ho.1
  unfold ab_p4
  rw [ab_ok_n ho]
  have key := fk_loopr (σ := Value × (Nat → Nat → Int32)) (fun k t => fk_ev (d + 2) qX6_arrive 2 [.ref 238, .int (nI k), t.1] [] (fk_E N t.2 l)) (fun k t => ck_cs y0 p c T b0 n t.2 (fk_it (ab_ar v W) 0 k s) ∧ ab_ok v n H (fk_it (ab_ar v W) 0 k s).1) n (by
    rintro k ⟨x, t⟩ hk ⟨i1, i2⟩
    dsimp only at i1 i2 ⊢
    have i2' := ab_ok_ar (W := W) hv i2 hk
    rw [fk_it_succ, Nat.zero_add]
    generalize fk_it (ab_ar v W) 0 k s = z at i1 i2 i2' ⊢
    have e2 : t 238 2 = nI p := by rw [i1.2.2.2.2.1 2 (by omega) (by omega)]; exact hq2
    have eb : t p 2 = nI n := i1.1.1.1.trans i2.2.1
    have hh := ck_pp_h hp (show k < 64 by omega)
    obtain ⟨a1, a2, a3, a4, a5, a6, _⟩ := id (i1.1.2.2.1 k (by omega) (by rw [ab_ok_n i2]; exact hk))
    have a14 := i1.2.1 k hk
    have hA := mX8_isAtPlaceN (N := N) (l := l) (d := d) (P := z.1 (192 + k) = nI 1) hp hn eb hk a4
    rw [a6] at hA
    rw [hX6_arrive_2]
    unfold ab_ar at i2' ⊢
    by_cases c1' : ab_at z.1 k
    · by_cases c2 : z.2.1 k = nI 0
      · rw [if_neg (fun q => q.2 c2)] at i2' ⊢
        refine ⟨(.ref (p + 3 + k), t), ?_, i1, i2⟩
        simp (disch := first | assumption | omega) only [rX6_arrive, e2, nI_clamp, eb, c0, ck_p3 (p := p), hA, c1'.1, c1'.2, and_self, a14, c2, eq_self, Option.bind_some, Option.toList_some, Option.toList_none, List.cons_append, List.nil_append, fk_b_0, nI_add, Nat.add_zero, Nat.zero_add, not_true_eq_false, not_false_eq_true, if_true, if_false, sI_le_t, sI_le_f, sI_lt_t, sI_lt_f, sI_eq_t, sI_eq_f, sI_rem, sI_div, sI_m1a, sI_m1b, sI_m1c, sI_m1d, sI_m1e, sI_m1f, sI_m2a, sI_m2b, sI_sub, pk_mul, sI_dec, fk_u_s, fk_u_o, sI_dec0, sI_z, sI_md, Bool.false_eq_true, Nat.reduceAdd, Nat.reduceMul, Nat.reduceSub, Nat.reduceMod, Nat.reduceDiv]
      · rw [if_pos ⟨c1', c2⟩] at i2' ⊢
        obtain ⟨y', e, r⟩ := ck_arr (N := N) (l := l) (d := d) hL hv hN hp hq2 hq3 i1 i2 hk c1'
        refine ⟨(.ref (p + 3 + k), y'), ?_, r, i2'⟩
        have c2' : ¬ t (p + 3 + k) 14 = nI 0 := by rw [a14]; exact c2
        dsimp only
        rw [← e]
        have stop : ∀ R, (fk_ev (d + 2) qX6_arrive 38 [.ref 238, .int (nI k), .ref (p + 3 + k)] [.int (t (p + 3 + k) 14)] (fk_E N t l) = R) → (fk_ev (d + 2) qX6_arrive 3 [.ref 238, .int (nI k), x] [.int (nI k)] (fk_E N t l) = R) := by
          intro R hR
          rw [← hR]
          simp (disch := first | assumption | omega) only [rX6_arrive, e2, nI_clamp, eb, c0, ck_p3 (p := p), hA, c1'.1, c1'.2, and_self, Option.bind_some, Option.toList_some, Option.toList_none, List.cons_append, List.nil_append, fk_b_0, nI_add, Nat.add_zero, Nat.zero_add, not_true_eq_false, not_false_eq_true, if_true, if_false, sI_le_t, sI_le_f, sI_lt_t, sI_lt_f, sI_eq_t, sI_eq_f, sI_rem, sI_div, sI_m1a, sI_m1b, sI_m1c, sI_m1d, sI_m1e, sI_m1f, sI_m2a, sI_m2b, sI_sub, pk_mul, sI_dec, fk_u_s, fk_u_o, sI_dec0, sI_z, sI_md, Bool.false_eq_true, Nat.reduceAdd, Nat.reduceMul, Nat.reduceSub, Nat.reduceMod, Nat.reduceDiv]
        refine stop _ ?_
        have row := rX6_arrive
        simp (disch := first | assumption | omega) only [rX6_arrive, c2', Option.bind_some, Option.toList_some, Option.toList_none, List.cons_append, List.nil_append, fk_b_0, nI_add, Nat.add_zero, Nat.zero_add, not_true_eq_false, not_false_eq_true, if_true, if_false, sI_le_t, sI_le_f, sI_lt_t, sI_lt_f, sI_eq_t, sI_eq_f, sI_rem, sI_div, sI_m1a, sI_m1b, sI_m1c, sI_m1d, sI_m1e, sI_m1f, sI_m2a, sI_m2b, sI_sub, pk_mul, sI_dec, fk_u_s, fk_u_o, sI_dec0, sI_z, sI_md, Bool.false_eq_true, Nat.reduceAdd, Nat.reduceMul, Nat.reduceSub, Nat.reduceMod, Nat.reduceDiv]
    · rw [if_neg (fun q => c1' q.1)] at i2' ⊢
      refine ⟨(.ref (p + 3 + k), t), ?_, i1, i2⟩
      have c1n : ¬ (z.1 (192 + k) = nI 1 ∧ nI 0 ≤ z.1 (320 + k)) := c1'
      simp (disch := first | assumption | omega) only [rX6_arrive, e2, nI_clamp, eb, c0, ck_p3 (p := p), hA, c1n, Option.bind_some, Option.toList_some, Option.toList_none, List.cons_append, List.nil_append, fk_b_0, nI_add, Nat.add_zero, Nat.zero_add, not_true_eq_false, not_false_eq_true, if_true, if_false, sI_le_t, sI_le_f, sI_lt_t, sI_lt_f, sI_eq_t, sI_eq_f, sI_rem, sI_div, sI_m1a, sI_m1b, sI_m1c, sI_m1d, sI_m1e, sI_m1f, sI_m2a, sI_m2b, sI_sub, pk_mul, sI_dec, fk_u_s, fk_u_o, sI_dec0, sI_z, sI_md, Bool.false_eq_true, Nat.reduceAdd, Nat.reduceMul, Nat.reduceSub, Nat.reduceMod, Nat.reduceDiv]) n 0 (.null, y) (Nat.zero_add n) ⟨hs, ho⟩
  obtain ⟨⟨x', y'⟩, e, i1, i2⟩ := key
  dsimp only at e i1 i2
  refine ⟨y', ?_, i1, i2⟩
  have e2 : y' 238 2 = nI p := by rw [i1.2.2.2.2.1 2 (by omega) (by omega)]; exact hq2
  have eb : y' p 2 = nI n := i1.1.1.1.trans i2.2.1
  simp (disch := first | assumption | omega) only [rX6_arrive, Option.bind_some, Option.toList_some, Option.toList_none, List.cons_append, List.nil_append, fk_b_0, nI_add, Nat.add_zero, Nat.zero_add, not_true_eq_false, not_false_eq_true, if_true, if_false, sI_le_t, sI_le_f, sI_lt_t, sI_lt_f, sI_eq_t, sI_eq_f, sI_rem, sI_div, sI_m1a, sI_m1b, sI_m1c, sI_m1d, sI_m1e, sI_m1f, sI_m2a, sI_m2b, sI_sub, pk_mul, sI_dec, fk_u_s, fk_u_o, sI_dec0, sI_z, sI_md, Bool.false_eq_true, Nat.reduceAdd, Nat.reduceMul, Nat.reduceSub, Nat.reduceMod, Nat.reduceDiv]
  rw [e, hX6_arrive_2]
  simp (disch := first | assumption | omega) only [rX6_arrive, e2, nI_clamp, eb, Option.bind_some, Option.toList_some, Option.toList_none, List.cons_append, List.nil_append, fk_b_0, nI_add, Nat.add_zero, Nat.zero_add, not_true_eq_false, not_false_eq_true, if_true, if_false, sI_le_t, sI_le_f, sI_lt_t, sI_lt_f, sI_eq_t, sI_eq_f, sI_rem, sI_div, sI_m1a, sI_m1b, sI_m1c, sI_m1d, sI_m1e, sI_m1f, sI_m2a, sI_m2b, sI_sub, pk_mul, sI_dec, fk_u_s, fk_u_o, sI_dec0, sI_z, sI_md, Bool.false_eq_true, Nat.reduceAdd, Nat.reduceMul, Nat.reduceSub, Nat.reduceMod, Nat.reduceDiv]
end C7
