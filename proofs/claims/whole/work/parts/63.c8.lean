section C8
variable {N : Nat} {v y y0 : Nat → Nat → Int32} {l : Nat → Nat → Int64} {d p c n H m : Nat} {T A : Nat → Int32} {b0 : Int32} {W : Int32 → (Nat → Int32) → Int32} {s : ab_S}
theorem ck_and16 {a : Nat} (h : a < 2147483648) : nI a &&& nI 65535 = nI (a % 65536) := pk_andN (by omega) 16 (by decide)
theorem mX8_draw {x : Nat} (hp : ck_pp p) (hx : x < 65536) (e : y p 4 = nI x) : fk_ev d qX8_draw 0 [.ref p] [] (fk_E N y l) = some (some (.int ((nI ((25173 * x + 13849) % 65536 % 10)))), fk_E N (fk_u y p 4 (nI ((25173 * x + 13849) % 65536))) l) := by
  obtain ⟨h8, c0, c1, h24, s24, h20, s20, p1, p2⟩ := ck_pp_at hp
  simp (disch := first | assumption | omega) only [rX8_draw, e, ck_and16, Option.bind_some, Option.toList_some, Option.toList_none, List.cons_append, List.nil_append, fk_b_0, nI_add, Nat.add_zero, Nat.zero_add, not_true_eq_false, not_false_eq_true, if_true, if_false, sI_le_t, sI_le_f, sI_lt_t, sI_lt_f, sI_eq_t, sI_eq_f, sI_rem, sI_div, sI_m1a, sI_m1b, sI_m1c, sI_m1d, sI_m1e, sI_m1f, sI_m2a, sI_m2b, sI_sub, pk_mul, sI_dec, fk_u_s, fk_u_o, sI_dec0, sI_z, sI_md, Bool.false_eq_true, Nat.reduceAdd, Nat.reduceMul, Nat.reduceSub, Nat.reduceMod, Nat.reduceDiv]
def ck_bu (y : Nat → Nat → Int32) (p j o : Nat) : Nat → Nat → Int32 := fk_u (fk_u (fk_u y (p + 3 + j) 4 (nI 0)) (p + 2) o (y (p + 2) o - nI 1)) p 7 (y p 7 + nI 1)
theorem ck_cs_bu {j o : Nat} (hp : ck_pp p) (hc : c = 2 ∨ c = 10) (hs : ck_cs y0 p c T b0 n y s) (ho : ab_ok v n H s.1) (hj : j < n) (lj : s.1 (192 + j) = nI 1) (eo : s.1 j = nI o) (ho4 : o < 4) : ck_cs y0 p c T b0 n (ck_bu y p j o) (fk_w (fk_w s.1 (192 + j) (nI 2)) 836 (s.1 836 + nI 1), s.2) := by
  have hp' : p = 33 ∨ p = 100 ∨ p = 167 := hp
  have hn := ho.1
  have hNn := ab_ok_n ho
  obtain ⟨g1, g2, g3, g4, g5, g6⟩ := hs
  obtain ⟨⟨q1, q2, q3, q4, q5, q6, q7⟩, q8, q9, q10, q11⟩ := g1
  obtain ⟨a1, a2, a3, a4, a5, a6, a7, a8, a9, a10, a11, a12, a13⟩ := q9 j (by omega) (by omega)
  have hlo := ab_lo_dead (A := s.1) (A' := fk_w (fk_w s.1 (192 + j) (nI 2)) 836 (s.1 836 + nI 1)) (b := j) (by omega) (by simp (disch := omega) only [fk_w_o]) lj (by simp (disch := omega) only [fk_w_o, fk_w_s]; decide) (fun i hi hij => by simp (disch := omega) only [fk_w_o]) (fun i hi => by simp (disch := omega) only [fk_w_o])
  have e833 : fk_w (fk_w s.1 (192 + j) (nI 2)) 836 (s.1 836 + nI 1) 833 = s.1 833 := by simp (disch := omega) only [fk_w_o]
  have eN : ab_n (fk_w (fk_w s.1 (192 + j) (nI 2)) 836 (s.1 836 + nI 1)) = n := by unfold ab_n; rw [e833]; exact hNn
  unfold ck_bu
  refine ⟨⟨⟨?_, ?_, ?_, ?_, ?_, ?_, ?_⟩, fun i hi => ?_, fun i hi hi2 => ?_, fun i hi hi2 => ?_, fun o' ho' => ?_⟩, fun i hi => ?_, ?_, ?_, fun i i1 i2 => ?_, fun k k1 k2 k3 k4 => ?_⟩
  · dsimp only; simp (disch := omega) only [fk_u_o, fk_u_s, fk_w_o, fk_w_s]; exact q1
  · dsimp only; simp (disch := omega) only [fk_u_o, fk_u_s, fk_w_o, fk_w_s]; exact q2
  · dsimp only; simp (disch := omega) only [fk_u_o, fk_u_s, fk_w_o, fk_w_s]; exact q3
  · dsimp only; simp (disch := omega) only [fk_u_o, fk_u_s, fk_w_o, fk_w_s]; exact q4
  · dsimp only; simp (disch := omega) only [fk_u_o, fk_u_s, fk_w_o, fk_w_s]; exact q5
  · dsimp only; simp (disch := omega) only [fk_u_o, fk_u_s, fk_w_o, fk_w_s]; rw [ck_addr, q6]
  · dsimp only; simp (disch := omega) only [fk_u_o, fk_u_s, fk_w_o, fk_w_s]; exact q7
  · simp (disch := omega) only [fk_u_o]; exact q8 i hi
  · rw [eN] at hi2
    by_cases ia : i = j
    · subst ia
      unfold ck_hm
      simp (disch := omega) only [fk_u_o, fk_u_s, fk_w_o, fk_w_s]
      exact ⟨a1, a2, a3, by rw [fk_b_f (by decide)], a5, a6, a7, a8, a9, a10, a11, a12, a13⟩
    · refine ck_hm_congr ?_ (fun c' hc' => ?_) (q9 i hi (by omega))
      · simp (disch := omega) only [fk_u_rowo]
      · simp (disch := omega) only [fk_w_o]
  · rw [eN] at hi2
    simp (disch := omega) only [fk_u_o]
    exact q10 i hi (by omega)
  · have z := hlo (nI o')
    rw [eo] at z
    by_cases e : o' = o
    · subst e
      rw [if_pos rfl] at z
      simp (disch := omega) only [fk_u_o, fk_u_s]
      rw [q11 o' ho', ← z, pk_sub (by omega), Nat.add_sub_cancel]
    · rw [if_neg (by rw [sI_eq_f (by omega) (by omega) (by omega)]; exact id), Nat.add_zero] at z
      simp (disch := omega) only [fk_u_o]
      rw [q11 o' ho', z]
  · simp (disch := omega) only [fk_u_o]
    exact g2 i hi
  · simp (disch := omega) only [fk_u_o]; exact g3
  · simp (disch := omega) only [fk_u_o]; exact g4
  · simp (disch := omega) only [fk_u_o]; exact g5 i i1 i2
  · simp (disch := omega) only [fk_u_rowo]; exact g6 k k1 k2 k3 k4
theorem mX8_bury (hp : ck_pp p) (hc : c = 2 ∨ c = 10) (hs : ck_cs y0 p c T b0 n y s) (ho : ab_ok v n H s.1) {j : Nat} (hj : j < n) (lj : s.1 (192 + j) = nI 1) : ∃ y', fk_ev d qX8_bury 0 [.ref p, .ref ((p + 3 + j)), .null, .null] [] (fk_E N y l) = some (none, fk_E N y' l) ∧ ck_cs y0 p c T b0 n y' (ab_mo n (s.1 j) (fk_w (fk_w s.1 (192 + j) (nI 2)) 836 (s.1 836 + nI 1)), s.2) := by
  obtain ⟨h8, c0, c1, h24, s24, h20, s20, p1, p2⟩ := ck_pp_at hp
  have hp' : p = 33 ∨ p = 100 ∨ p = 167 := hp
  have hn := ho.1
  obtain ⟨o, ho4, eo⟩ := (ho.2.2.2.2.2.1 j hj).1
  have r1 := ck_cs_bu hp hc hs ho hj lj eo ho4
  have o1 : ab_ok v n H (fk_w (fk_w s.1 (192 + j) (nI 2)) 836 (s.1 836 + nI 1)) := ab_ok_hi (ab_ok_dead ho hj) fun k hk => fk_w_o (by omega)
  have ej : (fk_w (fk_w s.1 (192 + j) (nI 2)) 836 (s.1 836 + nI 1)) j = s.1 j := by rw [fk_w_o (by omega), fk_w_o (by omega)]
  have hh := ck_pp_h hp (show j < 64 by omega)
  have ey1 : y (p + 3 + j) 1 = nI o := by rw [(hs.1.2.2.1 j (by omega) (by rw [ab_ok_n ho]; exact hj)).1]; exact eo
  have key := fk_loopr (σ := Value × (Nat → Nat → Int32)) (fun k t => fk_ev d qX8_bury 30 [.ref p, .ref (p + 3 + j), .int (nI k), t.1] [] (fk_E N t.2 l)) (fun k t => ck_cs y0 p c T b0 n t.2 (fk_it (fun k A => if A (192 + k) = nI 1 ∧ A k = s.1 j then fk_w A (512 + k) (ab_mn (nI 99) (A (512 + k) + nI 3)) else A) 0 k (fk_w (fk_w s.1 (192 + j) (nI 2)) 836 (s.1 836 + nI 1)), s.2) ∧ ab_n (fk_it (fun k A => if A (192 + k) = nI 1 ∧ A k = s.1 j then fk_w A (512 + k) (ab_mn (nI 99) (A (512 + k) + nI 3)) else A) 0 k (fk_w (fk_w s.1 (192 + j) (nI 2)) 836 (s.1 836 + nI 1))) = n ∧ (fk_it (fun k A => if A (192 + k) = nI 1 ∧ A k = s.1 j then fk_w A (512 + k) (ab_mn (nI 99) (A (512 + k) + nI 3)) else A) 0 k (fk_w (fk_w s.1 (192 + j) (nI 2)) 836 (s.1 836 + nI 1))) 833 = nI n ∧ (fk_it (fun k A => if A (192 + k) = nI 1 ∧ A k = s.1 j then fk_w A (512 + k) (ab_mn (nI 99) (A (512 + k) + nI 3)) else A) 0 k (fk_w (fk_w s.1 (192 + j) (nI 2)) 836 (s.1 836 + nI 1))) j = s.1 j) n (by
    rintro k ⟨x, t⟩ hk ⟨i1, i2, i3, i4⟩
    dsimp only at i1 i2 i3 i4 ⊢
    rw [fk_it_succ, Nat.zero_add]
    generalize fk_it (fun k A => if A (192 + k) = nI 1 ∧ A k = s.1 j then fk_w A (512 + k) (ab_mn (nI 99) (A (512 + k) + nI 3)) else A) 0 k (fk_w (fk_w s.1 (192 + j) (nI 2)) 836 (s.1 836 + nI 1)) = B at i1 i2 i3 i4 ⊢
    have eb : t p 2 = nI n := i1.1.1.1.trans i3
    have hk' := ck_pp_h hp (show k < 64 by omega)
    obtain ⟨a1, a2, a3, a4, a5, a6, a7, a8, a9, a10, a11, a12, a13⟩ := id (i1.1.2.2.1 k (by omega) (by dsimp only; omega))
    dsimp only at a1 a2 a3 a4 a5 a6 a7 a8 a9 a10 a11 a12 a13
    have j1 : t (p + 3 + j) 1 = s.1 j := by rw [(i1.1.2.2.1 j (by omega) (by dsimp only; omega)).1]; exact i4
    rw [hX8_bury_30]
    by_cases c1' : B (192 + k) = nI 1
    · by_cases c2 : B k = s.1 j
      · rw [if_pos ⟨c1', c2⟩]
        refine ⟨(.ref (p + 3 + k), fk_u t (p + 3 + k) 9 (ab_mn (nI 99) (B (512 + k) + nI 3))), ?_, ?_, ?_, ?_, ?_⟩
        · simp (disch := first | assumption | omega) only [rX8_bury, eb, c0, ck_p3 (p := p), a4, c1', a1, c2, j1, eq_self, a9, ab_mn_c, Option.bind_some, Option.toList_some, Option.toList_none, List.cons_append, List.nil_append, fk_b_0, nI_add, Nat.add_zero, Nat.zero_add, not_true_eq_false, not_false_eq_true, if_true, if_false, sI_le_t, sI_le_f, sI_lt_t, sI_lt_f, sI_eq_t, sI_eq_f, sI_rem, sI_div, sI_m1a, sI_m1b, sI_m1c, sI_m1d, sI_m1e, sI_m1f, sI_m2a, sI_m2b, sI_sub, pk_mul, sI_dec, fk_u_s, fk_u_o, sI_dec0, sI_z, sI_md, Bool.false_eq_true, Nat.reduceAdd, Nat.reduceMul, Nat.reduceSub, Nat.reduceMod, Nat.reduceDiv]
        · refine ck_cs_slot (s := (B, s.2)) (j := k) i1 hp hn i2 hk (fun q q1 => fk_u_rowo q1) (fun i _ hi => fk_w_o (hi 512 (by omega))) (fk_u_o (by omega)) (fk_u_o (by omega)) ?_
          unfold ck_hm
          simp (disch := omega) only [fk_u_o, fk_u_s, fk_w_o, fk_w_s]
          exact ⟨a1, a2, a3, a4, a5, a6, a7, a8, trivial, a10, a11, a12, a13⟩
        · unfold ab_n; rw [fk_w_o (by omega)]; exact i2
        · rw [fk_w_o (by omega)]; exact i3
        · rw [fk_w_o (by omega)]; exact i4
      · rw [if_neg fun z => c2 z.2]
        refine ⟨(.ref (p + 3 + k), t), ?_, i1, i2, i3, i4⟩
        simp (disch := first | assumption | omega) only [rX8_bury, eb, c0, ck_p3 (p := p), a4, c1', a1, c2, j1, Option.bind_some, Option.toList_some, Option.toList_none, List.cons_append, List.nil_append, fk_b_0, nI_add, Nat.add_zero, Nat.zero_add, not_true_eq_false, not_false_eq_true, if_true, if_false, sI_le_t, sI_le_f, sI_lt_t, sI_lt_f, sI_eq_t, sI_eq_f, sI_rem, sI_div, sI_m1a, sI_m1b, sI_m1c, sI_m1d, sI_m1e, sI_m1f, sI_m2a, sI_m2b, sI_sub, pk_mul, sI_dec, fk_u_s, fk_u_o, sI_dec0, sI_z, sI_md, Bool.false_eq_true, Nat.reduceAdd, Nat.reduceMul, Nat.reduceSub, Nat.reduceMod, Nat.reduceDiv]
    · rw [if_neg fun z => c1' z.1]
      refine ⟨(.ref (p + 3 + k), t), ?_, i1, i2, i3, i4⟩
      simp (disch := first | assumption | omega) only [rX8_bury, eb, c0, ck_p3 (p := p), a4, c1', Option.bind_some, Option.toList_some, Option.toList_none, List.cons_append, List.nil_append, fk_b_0, nI_add, Nat.add_zero, Nat.zero_add, not_true_eq_false, not_false_eq_true, if_true, if_false, sI_le_t, sI_le_f, sI_lt_t, sI_lt_f, sI_eq_t, sI_eq_f, sI_rem, sI_div, sI_m1a, sI_m1b, sI_m1c, sI_m1d, sI_m1e, sI_m1f, sI_m2a, sI_m2b, sI_sub, pk_mul, sI_dec, fk_u_s, fk_u_o, sI_dec0, sI_z, sI_md, Bool.false_eq_true, Nat.reduceAdd, Nat.reduceMul, Nat.reduceSub, Nat.reduceMod, Nat.reduceDiv]) n 0 (.null, ck_bu y p j o) (Nat.zero_add n) ⟨r1, ab_ok_n o1, o1.2.1, ej⟩
  obtain ⟨⟨x', y'⟩, e, i1, i2, i3, i4⟩ := key
  dsimp only at e i1 i2 i3 i4
  refine ⟨y', ?_, i1⟩
  have eb : y' p 2 = nI n := i1.1.1.1.trans i3
  unfold ck_bu at e
  simp (disch := first | assumption | omega) only [rX8_bury, c1, ey1, Option.bind_some, Option.toList_some, Option.toList_none, List.cons_append, List.nil_append, fk_b_0, nI_add, Nat.add_zero, Nat.zero_add, not_true_eq_false, not_false_eq_true, if_true, if_false, sI_le_t, sI_le_f, sI_lt_t, sI_lt_f, sI_eq_t, sI_eq_f, sI_rem, sI_div, sI_m1a, sI_m1b, sI_m1c, sI_m1d, sI_m1e, sI_m1f, sI_m2a, sI_m2b, sI_sub, pk_mul, sI_dec, fk_u_s, fk_u_o, sI_dec0, sI_z, sI_md, Bool.false_eq_true, Nat.reduceAdd, Nat.reduceMul, Nat.reduceSub, Nat.reduceMod, Nat.reduceDiv]
  rw [e, hX8_bury_30]
  simp (disch := first | assumption | omega) only [rX8_bury, eb, Option.bind_some, Option.toList_some, Option.toList_none, List.cons_append, List.nil_append, fk_b_0, nI_add, Nat.add_zero, Nat.zero_add, not_true_eq_false, not_false_eq_true, if_true, if_false, sI_le_t, sI_le_f, sI_lt_t, sI_lt_f, sI_eq_t, sI_eq_f, sI_rem, sI_div, sI_m1a, sI_m1b, sI_m1c, sI_m1d, sI_m1e, sI_m1f, sI_m2a, sI_m2b, sI_sub, pk_mul, sI_dec, fk_u_s, fk_u_o, sI_dec0, sI_z, sI_md, Bool.false_eq_true, Nat.reduceAdd, Nat.reduceMul, Nat.reduceSub, Nat.reduceMod, Nat.reduceDiv]
theorem ck_cs_lot {z : Nat} (hp : ck_pp p) (hs : ck_cs y0 p c T b0 n y s) (hn : n ≤ 64) (hNn : ab_n s.1 = n) : ck_cs y0 p c T b0 n (fk_u y p 4 (nI z)) (fk_w s.1 834 (nI z), s.2) := by
  have hp' : p = 33 ∨ p = 100 ∨ p = 167 := hp
  obtain ⟨⟨⟨q1, q2, q3, q4, q5, q6, q7⟩, q8, q9, q10, q11⟩, g2, g3, g4, g5, g6⟩ := hs
  have eN : ab_n (fk_w s.1 834 (nI z)) = ab_n s.1 := by unfold ab_n; rw [fk_w_o (by omega)]
  refine ⟨⟨⟨?_, ?_, ?_, ?_, ?_, ?_, ?_⟩, fun i hi => ?_, fun i hi hi2 => ?_, fun i hi hi2 => ?_, fun o' ho' => ?_⟩, fun i hi => ?_, ?_, ?_, fun i i1 i2 => ?_, fun k k1 k2 k3 k4 => ?_⟩
  · dsimp only; simp (disch := omega) only [fk_u_o, fk_u_s, fk_w_o, fk_w_s]; exact q1
  · dsimp only; simp (disch := omega) only [fk_u_o, fk_u_s, fk_w_o, fk_w_s]; exact q2
  · dsimp only; simp (disch := omega) only [fk_u_o, fk_u_s, fk_w_o, fk_w_s]
  · dsimp only; simp (disch := omega) only [fk_u_o, fk_u_s, fk_w_o, fk_w_s]; exact q4
  · dsimp only; simp (disch := omega) only [fk_u_o, fk_u_s, fk_w_o, fk_w_s]; exact q5
  · dsimp only; simp (disch := omega) only [fk_u_o, fk_u_s, fk_w_o, fk_w_s]; exact q6
  · dsimp only; simp (disch := omega) only [fk_u_o, fk_u_s, fk_w_o, fk_w_s]; exact q7
  · rw [fk_u_o (by omega)]; exact q8 i hi
  · rw [eN] at hi2
    exact ck_hm_congr (fk_u_rowo (by omega)) (fun c' hc' => fk_w_o (by omega)) (q9 i hi hi2)
  · rw [eN] at hi2
    rw [fk_u_o (by omega)]; exact q10 i hi hi2
  · rw [fk_u_o (by omega), q11 o' ho', ab_lo_congr (A := s.1) (fk_w_o (by omega)) fun i hi => ?_]

    exact ⟨fk_w_o (by omega), fk_w_o (by omega)⟩
  · rw [fk_u_o (by omega)]; exact g2 i hi
  · rw [fk_u_o (by omega)]; exact g3
  · rw [fk_u_o (by omega)]; exact g4
  · rw [fk_u_o (by omega)]; exact g5 i i1 i2
  · rw [fk_u_rowo (by omega)]; exact g6 k k1 k2 k3 k4
end C8
