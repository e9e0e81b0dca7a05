section RH4
variable {N : Nat} {v y : Nat → Nat → Int32} {l : Nat → Nat → Int64} {d : Nat} {W : Int32 → (Nat → Int32) → Int32} {s : ab_S}
theorem mX12_merges (HW : fk_LR W v) (hs : fk_rs v y s) {a b n : Nat} (ha : a < 64) (hb : b < 64) (hab : a ≠ b) (hn : n ≤ 64) (hm : s.1 833 = nI n) : ∃ y', fk_ev (d + 4) qX12_merges 0 [.ref 246, .int ((nI a)), .int ((nI b)), .null, .null, .null] [] (fk_E N y l) = some (none, fk_E N y' l) ∧ fk_rs v y' (ab_mg W a b s) := by
  obtain ⟨h1, h2, h3, h4, h5⟩ := id hs
  have hm' : y 247 833 = nI n := by rw [h1]; exact hm
  have key := fk_loopr (σ := Int32 × (Nat → Nat → Int32)) (fun k t => fk_ev (d + 4) qX12_merges 55 [.ref 246, .int (nI a), .int (nI b), .int (ab_both s.1 a b), .int t.1, .int (nI k)] [] (fk_E N t.2 l)) (fun k t => t.1 = fk_it (fun f s1 => if fk_tb (ab_both s.1 a b) f = true ∧ W (nI 101) (ab_ff s.1 a b f) = nI 0 then s1 ||| nI 1 <<< (nI f &&& 31) else s1) 0 k (nI 0) ∧ (∀ c, c ≠ 267 → c ≠ 268 → t.2 c = y c) ∧ (∀ i, i < 12 → t.2 268 i = ab_fe s.1 a i)) 16 (by
    rintro k ⟨fg, yy⟩ hk ⟨i1, i2, i3⟩
    try dsimp only at i1 i2 i3 ⊢
    rw [hX12_merges_55]
    by_cases x1 : fk_tb (ab_both s.1 a b) k = true
    · obtain ⟨y', e2, k2⟩ := HW.2.2 N d (fk_u (fk_u yy 268 12 (nI k)) 268 13 (nI b)) l (by
        intro c c1 c2
        rw [fk_u_rowo (by omega), fk_u_rowo (by omega), i2 c (by omega) (by omega), h5 c (by omega) (by omega) (by omega) (by omega) (by omega)]) (by
        rw [fk_u_o (by omega), fk_u_o (by omega), i2 246 (by omega) (by omega), h4 19 (by omega)])
      have eW : W (nI 101) (fk_u (fk_u yy 268 12 (nI k)) 268 13 (nI b) 268) = W (nI 101) (ab_ff s.1 a b k) := by
        refine HW.1 _ _ _ fun i hi => ?_
        unfold ab_ff
        by_cases k12 : i = 12
        · subst k12; simp [fk_u]
        · by_cases k13 : i = 13
          · subst k13; simp [fk_u]
          · rw [fk_u_o (by omega), fk_u_o (by omega), if_neg k12, if_neg k13, i3 i (by omega)]
      rw [eW] at e2
      have kk : ∀ c, c ≠ 267 → c ≠ 268 → y' c = y c := fun c c1 c2 => by rw [k2 c c1, fk_u_rowo c2, fk_u_rowo c2, i2 c c1 c2]
      have k3 : ∀ i, i < 12 → y' 268 i = ab_fe s.1 a i := fun i hi => by rw [k2 268 (by decide), fk_u_o (by omega), fk_u_o (by omega), i3 i hi]
      by_cases x2 : W (nI 101) (ab_ff s.1 a b k) = nI 0
      · refine ⟨(fg ||| nI 1 <<< (nI k &&& 31), y'), ?_, ?_, kk, k3⟩
        · rw [x2] at e2
          simp (disch := first | assumption | omega) only [rX12_merges, mX12_has, fk_has1, x1, e2, not_true_eq_false, not_false_eq_true, eq_self, Option.bind_some, Option.toList_some, Option.toList_none, List.cons_append, List.nil_append, fk_b_0, nI_add, Nat.add_zero, Nat.zero_add, not_true_eq_false, not_false_eq_true, if_true, if_false, sI_le_t, sI_le_f, sI_lt_t, sI_lt_f, sI_eq_t, sI_eq_f, sI_rem, sI_div, sI_m1a, sI_m1b, sI_m1c, sI_m1d, sI_m1e, sI_m1f, sI_m2a, sI_m2b, sI_sub, pk_mul, sI_dec, fk_u_s, fk_u_o, sI_dec0, sI_z, sI_md, Bool.false_eq_true, Nat.reduceAdd, Nat.reduceMul, Nat.reduceSub, Nat.reduceMod, Nat.reduceDiv]
        · rw [fk_it_succ, ← i1, Nat.zero_add, if_pos ⟨x1, x2⟩]
      · refine ⟨(fg, y'), ?_, ?_, kk, k3⟩
        · simp (disch := first | assumption | omega) only [rX12_merges, mX12_has, fk_has1, x1, e2, x2, not_true_eq_false, not_false_eq_true, Option.bind_some, Option.toList_some, Option.toList_none, List.cons_append, List.nil_append, fk_b_0, nI_add, Nat.add_zero, Nat.zero_add, not_true_eq_false, not_false_eq_true, if_true, if_false, sI_le_t, sI_le_f, sI_lt_t, sI_lt_f, sI_eq_t, sI_eq_f, sI_rem, sI_div, sI_m1a, sI_m1b, sI_m1c, sI_m1d, sI_m1e, sI_m1f, sI_m2a, sI_m2b, sI_sub, pk_mul, sI_dec, fk_u_s, fk_u_o, sI_dec0, sI_z, sI_md, Bool.false_eq_true, Nat.reduceAdd, Nat.reduceMul, Nat.reduceSub, Nat.reduceMod, Nat.reduceDiv]
        · rw [fk_it_succ, ← i1, Nat.zero_add, if_neg fun z => x2 z.2]
    · refine ⟨(fg, yy), ?_, ?_, i2, i3⟩
      · simp (disch := first | assumption | omega) only [rX12_merges, mX12_has, fk_has1, x1, Option.bind_some, Option.toList_some, Option.toList_none, List.cons_append, List.nil_append, fk_b_0, nI_add, Nat.add_zero, Nat.zero_add, not_true_eq_false, not_false_eq_true, if_true, if_false, sI_le_t, sI_le_f, sI_lt_t, sI_lt_f, sI_eq_t, sI_eq_f, sI_rem, sI_div, sI_m1a, sI_m1b, sI_m1c, sI_m1d, sI_m1e, sI_m1f, sI_m2a, sI_m2b, sI_sub, pk_mul, sI_dec, fk_u_s, fk_u_o, sI_dec0, sI_z, sI_md, Bool.false_eq_true, Nat.reduceAdd, Nat.reduceMul, Nat.reduceSub, Nat.reduceMod, Nat.reduceDiv]
      · rw [fk_it_succ, ← i1, Nat.zero_add, if_neg fun z => x1 z.1]) 16 0 (nI 0, fk_feel y a n) rfl ⟨rfl, fun c c1 c2 => funext fun i => fk_feel_o c2, fun i hi => by show fk_feel y a n 268 i = _; rw [fk_feel_f hn hm' (by omega), h1]⟩
  obtain ⟨⟨fg, yy⟩, e, i1, i2, i3⟩ := key
  try dsimp only at e i1 i2 i3
  have hfg : fg = ab_fg W s.1 (ab_both s.1 a b) a b := i1
  have g1 : yy 247 = s.1 := by rw [i2 247 (by decide) (by decide), h1]
  have g2 : ∀ j, j < 64 → yy 269 j = s.2.1 j := fun j hj => by rw [i2 269 (by decide) (by decide)]; exact h2 j hj
  refine ⟨fk_u (fk_u (fk_u (fk_u (fk_u (fk_u (fk_u (fk_u (fk_u (fk_u yy 247 835 (s.1 835 + fk_bits fg)) 247 (768 + a) ((s.1 (768 + a) ||| s.1 (768 + b) &&& (s.1 (704 + a) ^^^ (-1))) &&& (fg ^^^ (-1)))) 247 (704 + a) ((s.1 (704 + a) ||| s.1 (704 + b)) &&& (fg ^^^ (-1)))) 247 (256 + a) (s.1 (256 + a) + s.1 (256 + b))) 247 (576 + a) (ab_mn (nI 99999) (s.1 (576 + a) + s.1 (576 + b)))) 247 (512 + a) (ab_mx (s.1 (512 + a)) (s.1 (512 + b)))) 247 (192 + b) (nI 3)) 247 (640 + b) (nI a)) 247 837 (s.1 837 + nI 1)) 269 a (if s.2.1 a = nI 0 ∧ s.2.1 b = nI 0 then nI 0 else nI 1), ?_, ?_⟩
  · simp (disch := first | assumption | omega) only [rX12_merges, h1, mX12_feels ha hn hm', Option.bind_some, Option.toList_some, Option.toList_none, List.cons_append, List.nil_append, fk_b_0, nI_add, Nat.add_zero, Nat.zero_add, not_true_eq_false, not_false_eq_true, if_true, if_false, sI_le_t, sI_le_f, sI_lt_t, sI_lt_f, sI_eq_t, sI_eq_f, sI_rem, sI_div, sI_m1a, sI_m1b, sI_m1c, sI_m1d, sI_m1e, sI_m1f, sI_m2a, sI_m2b, sI_sub, pk_mul, sI_dec, fk_u_s, fk_u_o, sI_dec0, sI_z, sI_md, Bool.false_eq_true, Nat.reduceAdd, Nat.reduceMul, Nat.reduceSub, Nat.reduceMod, Nat.reduceDiv]
    rw [show s.1 (704 + a) &&& s.1 (704 + b) &&& (s.1 (768 + a) ^^^ s.1 (768 + b)) = ab_both s.1 a b from rfl, e, hX12_merges_55]
    unfold ab_mn ab_mx
    by_cases c1 : s.2.1 a = nI 0
    · by_cases c2 : s.2.1 b = nI 0
      · simp (disch := first | assumption | omega) only [rX12_merges, g1, mX12_bits, mX12_min, mX12_max, g2, c1, c2, and_self, eq_self, fk_nar0, Option.bind_some, Option.toList_some, Option.toList_none, List.cons_append, List.nil_append, fk_b_0, nI_add, Nat.add_zero, Nat.zero_add, not_true_eq_false, not_false_eq_true, if_true, if_false, sI_le_t, sI_le_f, sI_lt_t, sI_lt_f, sI_eq_t, sI_eq_f, sI_rem, sI_div, sI_m1a, sI_m1b, sI_m1c, sI_m1d, sI_m1e, sI_m1f, sI_m2a, sI_m2b, sI_sub, pk_mul, sI_dec, fk_u_s, fk_u_o, sI_dec0, sI_z, sI_md, Bool.false_eq_true, Nat.reduceAdd, Nat.reduceMul, Nat.reduceSub, Nat.reduceMod, Nat.reduceDiv]
      · simp (disch := first | assumption | omega) only [rX12_merges, g1, mX12_bits, mX12_min, mX12_max, g2, c1, c2, and_false, eq_self, fk_nar1, Option.bind_some, Option.toList_some, Option.toList_none, List.cons_append, List.nil_append, fk_b_0, nI_add, Nat.add_zero, Nat.zero_add, not_true_eq_false, not_false_eq_true, if_true, if_false, sI_le_t, sI_le_f, sI_lt_t, sI_lt_f, sI_eq_t, sI_eq_f, sI_rem, sI_div, sI_m1a, sI_m1b, sI_m1c, sI_m1d, sI_m1e, sI_m1f, sI_m2a, sI_m2b, sI_sub, pk_mul, sI_dec, fk_u_s, fk_u_o, sI_dec0, sI_z, sI_md, Bool.false_eq_true, Nat.reduceAdd, Nat.reduceMul, Nat.reduceSub, Nat.reduceMod, Nat.reduceDiv]
    · simp (disch := first | assumption | omega) only [rX12_merges, g1, mX12_bits, mX12_min, mX12_max, g2, c1, false_and, fk_nar1, Option.bind_some, Option.toList_some, Option.toList_none, List.cons_append, List.nil_append, fk_b_0, nI_add, Nat.add_zero, Nat.zero_add, not_true_eq_false, not_false_eq_true, if_true, if_false, sI_le_t, sI_le_f, sI_lt_t, sI_lt_f, sI_eq_t, sI_eq_f, sI_rem, sI_div, sI_m1a, sI_m1b, sI_m1c, sI_m1d, sI_m1e, sI_m1f, sI_m2a, sI_m2b, sI_sub, pk_mul, sI_dec, fk_u_s, fk_u_o, sI_dec0, sI_z, sI_md, Bool.false_eq_true, Nat.reduceAdd, Nat.reduceMul, Nat.reduceSub, Nat.reduceMod, Nat.reduceDiv]
  · refine fk_rs_all hs ?_ (fun i hi => ?_) ?_ (fun i hi => ?_) fun c c1 c2 c3 c4 c5 => ?_
    · rw [fk_u_rowo (by decide)]
      simp only [fk_u_row, g1]
      unfold ab_mg ab_mg1
      rw [← hfg]
    · rw [fk_u_row]
      show fk_w _ a _ i = fk_w s.2.1 a _ i
      by_cases hij : i = a
      · subst hij; rw [fk_w_s, fk_w_s]
      · rw [fk_w_o hij, fk_w_o hij]
        simp (disch := decide) only [fk_u_rowo]
        exact g2 i hi
    · simp (disch := omega) only [fk_u_o]
      rw [i2 246 (by decide) (by decide), h3]
      rfl
    · simp (disch := omega) only [fk_u_o]
      rw [i2 246 (by decide) (by decide)]
    · rw [fk_u_rowo c5]
      simp (disch := assumption) only [fk_u_rowo]
      exact i2 c c3 c4
theorem mX12_mayDie_no (hs : fk_rs v y s) {j : Nat} (hd : ¬ v 246 36 = nI 0) : fk_ev (d + 4) qX12_mayDie 0 [.ref 246, .int ((nI j)), .null] [] (fk_E N y l) = some (none, fk_E N y l) := by
  obtain ⟨h1, h2, h3, h4, h5⟩ := id hs
  have e36 : y 246 36 = v 246 36 := h4 36 (by omega)
  simp (disch := first | assumption | omega) only [rX12_mayDie, e36, hd, Option.bind_some, Option.toList_some, Option.toList_none, List.cons_append, List.nil_append, fk_b_0, nI_add, Nat.add_zero, Nat.zero_add, not_true_eq_false, not_false_eq_true, if_true, if_false, sI_le_t, sI_le_f, sI_lt_t, sI_lt_f, sI_eq_t, sI_eq_f, sI_rem, sI_div, sI_m1a, sI_m1b, sI_m1c, sI_m1d, sI_m1e, sI_m1f, sI_m2a, sI_m2b, sI_sub, pk_mul, sI_dec, fk_u_s, fk_u_o, sI_dec0, sI_z, sI_md, Bool.false_eq_true, Nat.reduceAdd, Nat.reduceMul, Nat.reduceSub, Nat.reduceMod, Nat.reduceDiv]
theorem mX12_mayDie (HW : fk_LR W v) (hs : fk_rs v y s) {j n x : Nat} (hj : j < 64) (hn : n ≤ 64) (hm : s.1 833 = nI n) (hx : x < 65536) (hl : s.1 834 = nI x) (hd : v 246 36 = nI 0) : ∃ y', fk_ev (d + 4) qX12_mayDie 0 [.ref 246, .int ((nI j)), .null] [] (fk_E N y l) = some (none, fk_E N y' l) ∧ fk_rs v y' (ab_di1 W n j (fk_w s.1 834 (ab_lot (s.1 834))), s.2) := by
  obtain ⟨h1, h2, h3, h4, h5⟩ := id hs
  have e36 : y 246 36 = nI 0 := (h4 36 (by omega)).trans hd
  have hlot : ab_lot (s.1 834) = nI ((25173 * x + 13849) % 65536) := by
    unfold ab_lot
    rw [hl, nI_clamp (by omega)]
  have r1 : fk_rs v (fk_u y 247 834 (nI ((25173 * x + 13849) % 65536))) (fk_w s.1 834 (nI ((25173 * x + 13849) % 65536)), s.2) := fk_rs_A hs (by rw [fk_u_row, h1]) fun c hc => fk_u_rowo hc
  rw [hlot]
  generalize hz : (25173 * x + 13849) % 65536 = z at r1
  have hz2 : z < 65536 := by omega
  have hm1 : (fk_w s.1 834 (nI z)) 833 = nI n := by rw [fk_w_o (by omega)]; exact hm
  have hl1 : (fk_w s.1 834 (nI z)) 834 = nI z := fk_w_s
  generalize eA : fk_w s.1 834 (nI z) = A1 at r1 hm1 hl1 ⊢
  have hm1' : (fk_u y 247 834 (nI z)) 247 833 = nI n := by rw [r1.1]; exact hm1
  obtain ⟨y2, e2, k2⟩ := fk_ask (N := N) (l := l) (d := d) (j := j) (a := nI 120) (h := nI 10) HW r1 hn hm1 (Or.inr (Or.inr (Or.inr (Or.inr rfl)))) (by decide)
  have r2 := fk_rs_k r1 k2
  have g2 : y2 247 = A1 := r2.1
  have hzz : (A1 834).toNatClampNeg = z := by rw [hl1, nI_clamp (by omega)]
  unfold ab_di1
  rw [hzz]
  try dsimp only at e2
  have start : ∀ yz : Nat → Nat → Int32, fk_ev (d + 4) qX12_mayDie 60 [.ref 246, .int (nI j), .null] [.int (ab_cl (nI 10) (W (nI 120) (ab_fe A1 j))), .int (nI (z % 10))] (fk_E N y2 l) = some (none, fk_E N yz l) → fk_ev (d + 4) qX12_mayDie 0 [.ref 246, .int ((nI j)), .null] [] (fk_E N y l) = some (none, fk_E N yz l) := by
    intro yz hh
    rw [← hh]
    simp (disch := first | assumption | omega) only [rX12_mayDie, e36, h1, hl, hz, mX12_feels hj hn hm1', fk_feel_o, e2, Option.bind_some, Option.toList_some, Option.toList_none, List.cons_append, List.nil_append, fk_b_0, nI_add, Nat.add_zero, Nat.zero_add, not_true_eq_false, not_false_eq_true, if_true, if_false, sI_le_t, sI_le_f, sI_lt_t, sI_lt_f, sI_eq_t, sI_eq_f, sI_rem, sI_div, sI_m1a, sI_m1b, sI_m1c, sI_m1d, sI_m1e, sI_m1f, sI_m2a, sI_m2b, sI_sub, pk_mul, sI_dec, fk_u_s, fk_u_o, sI_dec0, sI_z, sI_md, Bool.false_eq_true, Nat.reduceAdd, Nat.reduceMul, Nat.reduceSub, Nat.reduceMod, Nat.reduceDiv]
  by_cases x1 : ab_cl (nI 10) (W (nI 120) (ab_fe A1 j)) ≤ nI (z % 10)
  · rw [if_pos x1]
    refine ⟨y2, start _ ?_, r2⟩
    simp (disch := first | assumption | omega) only [rX12_mayDie, Int32.not_lt.mpr x1, Option.bind_some, Option.toList_some, Option.toList_none, List.cons_append, List.nil_append, fk_b_0, nI_add, Nat.add_zero, Nat.zero_add, not_true_eq_false, not_false_eq_true, if_true, if_false, sI_le_t, sI_le_f, sI_lt_t, sI_lt_f, sI_eq_t, sI_eq_f, sI_rem, sI_div, sI_m1a, sI_m1b, sI_m1c, sI_m1d, sI_m1e, sI_m1f, sI_m2a, sI_m2b, sI_sub, pk_mul, sI_dec, fk_u_s, fk_u_o, sI_dec0, sI_z, sI_md, Bool.false_eq_true, Nat.reduceAdd, Nat.reduceMul, Nat.reduceSub, Nat.reduceMod, Nat.reduceDiv]
  · rw [if_neg x1]
    have key := fk_loop (σ := Nat → Nat → Int32) (fun k t => fk_ev (d + 4) qX12_mayDie 95 [.ref 246, .int (nI j), .int (nI k)] [] (fk_E N t l)) (fun k t => if t 247 (192 + k) = nI 1 ∧ t 247 k = A1 j then fk_u t 247 (512 + k) (ab_mn (nI 99) (t 247 (512 + k) + nI 3)) else t) (fun k t => t 247 833 = nI n ∧ t 247 j = A1 j ∧ t 247 = fk_it (fun k A => if A (192 + k) = nI 1 ∧ A k = A1 j then fk_w A (512 + k) (ab_mn (nI 99) (A (512 + k) + nI 3)) else A) 0 k (fk_w (fk_w A1 (192 + j) (nI 2)) 836 (A1 836 + nI 1)) ∧ ∀ c, c ≠ 247 → t c = y2 c) n (by
      rintro k t hk ⟨i1, i2, i3, i4⟩
      try dsimp only
      rw [hX12_mayDie_95]
      by_cases c1 : t 247 (192 + k) = nI 1
      · by_cases c2 : t 247 k = A1 j
        · rw [if_pos ⟨c1, c2⟩]
          refine ⟨?_, ?_, ?_, ?_, fun c hc => by rw [fk_u_rowo hc, i4 c hc]⟩
          · simp (disch := first | assumption | omega) only [rX12_mayDie, i1, mX12_lives, c1, c2, i2, mX12_min, Option.bind_some, Option.toList_some, Option.toList_none, List.cons_append, List.nil_append, fk_b_0, nI_add, Nat.add_zero, Nat.zero_add, not_true_eq_false, not_false_eq_true, if_true, if_false, sI_le_t, sI_le_f, sI_lt_t, sI_lt_f, sI_eq_t, sI_eq_f, sI_rem, sI_div, sI_m1a, sI_m1b, sI_m1c, sI_m1d, sI_m1e, sI_m1f, sI_m2a, sI_m2b, sI_sub, pk_mul, sI_dec, fk_u_s, fk_u_o, sI_dec0, sI_z, sI_md, Bool.false_eq_true, Nat.reduceAdd, Nat.reduceMul, Nat.reduceSub, Nat.reduceMod, Nat.reduceDiv]
            rfl
          · rw [fk_u_o (by omega)]; exact i1
          · rw [fk_u_o (by omega)]; exact i2
          · rw [fk_u_row, fk_it_succ, ← i3, Nat.zero_add, if_pos ⟨c1, c2⟩]
        · rw [if_neg fun q => c2 q.2]
          refine ⟨?_, i1, i2, ?_, i4⟩
          · simp (disch := first | assumption | omega) only [rX12_mayDie, i1, mX12_lives, c1, c2, i2, Option.bind_some, Option.toList_some, Option.toList_none, List.cons_append, List.nil_append, fk_b_0, nI_add, Nat.add_zero, Nat.zero_add, not_true_eq_false, not_false_eq_true, if_true, if_false, sI_le_t, sI_le_f, sI_lt_t, sI_lt_f, sI_eq_t, sI_eq_f, sI_rem, sI_div, sI_m1a, sI_m1b, sI_m1c, sI_m1d, sI_m1e, sI_m1f, sI_m2a, sI_m2b, sI_sub, pk_mul, sI_dec, fk_u_s, fk_u_o, sI_dec0, sI_z, sI_md, Bool.false_eq_true, Nat.reduceAdd, Nat.reduceMul, Nat.reduceSub, Nat.reduceMod, Nat.reduceDiv]
          · rw [fk_it_succ, ← i3, Nat.zero_add, if_neg fun q => c2 q.2]
      · rw [if_neg fun q => c1 q.1]
        refine ⟨?_, i1, i2, ?_, i4⟩
        · simp (disch := first | assumption | omega) only [rX12_mayDie, i1, mX12_lives, c1, Option.bind_some, Option.toList_some, Option.toList_none, List.cons_append, List.nil_append, fk_b_0, nI_add, Nat.add_zero, Nat.zero_add, not_true_eq_false, not_false_eq_true, if_true, if_false, sI_le_t, sI_le_f, sI_lt_t, sI_lt_f, sI_eq_t, sI_eq_f, sI_rem, sI_div, sI_m1a, sI_m1b, sI_m1c, sI_m1d, sI_m1e, sI_m1f, sI_m2a, sI_m2b, sI_sub, pk_mul, sI_dec, fk_u_s, fk_u_o, sI_dec0, sI_z, sI_md, Bool.false_eq_true, Nat.reduceAdd, Nat.reduceMul, Nat.reduceSub, Nat.reduceMod, Nat.reduceDiv]
        · rw [fk_it_succ, ← i3, Nat.zero_add, if_neg fun q => c1 q.1]) n 0 (fk_u (fk_u y2 247 (192 + j) (nI 2)) 247 836 (A1 836 + nI 1)) (Nat.zero_add n) ⟨by rw [fk_u_o (by omega), fk_u_o (by omega), g2]; exact hm1, by rw [fk_u_o (by omega), fk_u_o (by omega), g2], by rw [fk_u_row, fk_u_row, g2]; rfl, fun c hc => by rw [fk_u_rowo hc, fk_u_rowo hc]⟩
    obtain ⟨e, i1, i2, i3, i4⟩ := key
    try dsimp only at e
    generalize fk_it (fun k t => if t 247 (192 + k) = nI 1 ∧ t 247 k = A1 j then fk_u t 247 (512 + k) (ab_mn (nI 99) (t 247 (512 + k) + nI 3)) else t) 0 n (fk_u (fk_u y2 247 (192 + j) (nI 2)) 247 836 (A1 836 + nI 1)) = yz at e i1 i2 i3 i4
    refine ⟨yz, start _ ?_, fk_rs_A (s := (A1, s.2)) (q := s.2.2.2) r2 i3 i4⟩
    simp (disch := first | assumption | omega) only [rX12_mayDie, Int32.not_le.mp x1, g2, Option.bind_some, Option.toList_some, Option.toList_none, List.cons_append, List.nil_append, fk_b_0, nI_add, Nat.add_zero, Nat.zero_add, not_true_eq_false, not_false_eq_true, if_true, if_false, sI_le_t, sI_le_f, sI_lt_t, sI_lt_f, sI_eq_t, sI_eq_f, sI_rem, sI_div, sI_m1a, sI_m1b, sI_m1c, sI_m1d, sI_m1e, sI_m1f, sI_m2a, sI_m2b, sI_sub, pk_mul, sI_dec, fk_u_s, fk_u_o, sI_dec0, sI_z, sI_md, Bool.false_eq_true, Nat.reduceAdd, Nat.reduceMul, Nat.reduceSub, Nat.reduceMod, Nat.reduceDiv]
    rw [e, hX12_mayDie_95]
    simp (disch := first | assumption | omega) only [rX12_mayDie, i1, Option.bind_some, Option.toList_some, Option.toList_none, List.cons_append, List.nil_append, fk_b_0, nI_add, Nat.add_zero, Nat.zero_add, not_true_eq_false, not_false_eq_true, if_true, if_false, sI_le_t, sI_le_f, sI_lt_t, sI_lt_f, sI_eq_t, sI_eq_f, sI_rem, sI_div, sI_m1a, sI_m1b, sI_m1c, sI_m1d, sI_m1e, sI_m1f, sI_m2a, sI_m2b, sI_sub, pk_mul, sI_dec, fk_u_s, fk_u_o, sI_dec0, sI_z, sI_md, Bool.false_eq_true, Nat.reduceAdd, Nat.reduceMul, Nat.reduceSub, Nat.reduceMod, Nat.reduceDiv]
end RH4
