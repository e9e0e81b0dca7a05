section PL2
variable {N : Nat} {S : Nat → Int32} {v y y0 y1 y2 : Nat → Nat → Int32} {l : Nat → Nat → Int64} {d n H c k m : Nat} {T A : Nat → Int32} {W : Int32 → (Nat → Int32) → Int32} {s : ab_S} {b0 : Int32}
/-- the lowest eight forks -/
def ab_rc (v : Nat → Nat → Int32) (p : Nat) : Nat := fk_cf (fun r => decide (ab_rd v r (nI p))) 0 32
def ab_f1 (v : Nat → Nat → Int32) (p : Nat) (s : Int32) : Int32 := if fk_cd s < 8 then (if 2 ≤ ab_rc v p then s ||| nI 1 <<< (nI p &&& 31) else s) else s
def ab_fo (v : Nat → Nat → Int32) : Int32 := fk_it (ab_f1 v) 0 16 (nI 0)
theorem ab_f1_st {s : Int32} (h : ¬ fk_cd s < 8) : ∀ k p, fk_it (ab_f1 v) p k s = s := by
  intro k
  induction k with
  | zero => intro p; rfl
  | succ k ih =>
    intro p
    show fk_it (ab_f1 v) (p + 1) k (ab_f1 v p s) = s
    rw [show ab_f1 v p s = s from if_neg h]
    exact ih (p + 1)
theorem fk_cd_bit {s : Int32} {p : Nat} (hp : p < 16) : fk_cd (s ||| nI 1 <<< (nI p &&& 31)) ≤ fk_cd s + 1 := by
  unfold fk_cd
  by_cases c : fk_tb s p = true
  · have : fk_cf (fun q => fk_tb (s ||| nI 1 <<< (nI p &&& 31)) q) 0 16 = fk_cf (fun q => fk_tb s q) 0 16 := fk_cf_congr 16 0 fun q _ _ => by
      rw [fk_tb_or, fk_tb_bit (by omega)]
      by_cases e : q = p
      · subst e; rw [c]; rfl
      · rw [decide_eq_false e, Bool.or_false]
    omega
  · have := fk_cf_upd (p := fun q => fk_tb s q) (q := fun q => fk_tb (s ||| nI 1 <<< (nI p &&& 31)) q) (i := p) 16 0 (by omega) (by omega) fun q _ _ hq => by
      rw [fk_tb_or, fk_tb_bit (by omega), decide_eq_false hq, Bool.or_false]
    rw [if_neg c] at this
    split at this <;> omega
theorem ab_fo_ok : (∀ q, fk_tb (ab_fo v) q = true → q < 16) ∧ fk_cd (ab_fo v) ≤ 8 := by
  have key := fk_it_inv (f := ab_f1 v) (fun p s => (∀ q, fk_tb s q = true → q < 16) ∧ fk_cd s ≤ 8) 16 (fun p s hp h => by
    unfold ab_f1
    split
    · split
      · refine ⟨fun q hq => ?_, ?_⟩
        · rw [fk_tb_or, Bool.or_eq_true, fk_tb_bitI (by omega)] at hq
          rcases hq with hq | rfl
          · exact h.1 q hq
          · exact hp
        · have := fk_cd_bit (s := s) hp
          omega
      · exact h
    · exact h) 16 0 (nI 0) rfl ⟨fun q hq => by rw [fk_tb_0] at hq; exact absurd hq (by decide), by decide⟩
  exact key
theorem mX5_fp_roads (hv : ab_rv v) (hN : ck_nt v y) {p : Nat} (hp : p < 16) {x : Int32} {xx : Value} : fk_ev d qX5_forkPlaces 24 [.ref 18, .int x, .int (nI p), .int (nI 0), .int (nI 0)] [] (fk_E N y l) = fk_ev d qX5_forkPlaces 24 [.ref 18, .int x, .int (nI p), .int (nI (ab_rc v p)), .int (nI 32)] [] (fk_E N y l) := by
  have key := fk_loopr (σ := Nat) (fun k t => fk_ev d qX5_forkPlaces 24 [.ref 18, .int x, .int (nI p), .int (nI t), .int (nI k)] [] (fk_E N y l)) (fun k t => t = fk_cf (fun r => decide (ab_rd v r (nI p))) 0 k) 32 (by
    intro k t hk i1
    try dsimp only at i1 ⊢
    rw [hX5_forkPlaces_24]
    by_cases c : ab_rd v k (nI p)
    · have e19 : y 19 k = nI p := (hN.1 k hk c.1).1.trans c.2
      refine ⟨t + 1, ?_, by rw [fk_cf_succ, ← i1, Nat.zero_add, if_pos (decide_eq_true c)]⟩
      simp (disch := first | assumption | omega) only [rX5_forkPlaces, e19, Option.bind_some, Option.toList_some, Option.toList_none, List.cons_append, List.nil_append, fk_b_0, nI_add, Nat.add_zero, Nat.zero_add, not_true_eq_false, not_false_eq_true, if_true, if_false, sI_le_t, sI_le_f, sI_lt_t, sI_lt_f, sI_eq_t, sI_eq_f, sI_rem, sI_div, sI_m1a, sI_m1b, sI_m1c, sI_m1d, sI_m1e, sI_m1f, sI_m2a, sI_m2b, sI_sub, pk_mul, sI_dec, fk_u_s, fk_u_o, sI_dec0, sI_z, sI_md, Bool.false_eq_true, Nat.reduceAdd, Nat.reduceMul, Nat.reduceSub, Nat.reduceMod, Nat.reduceDiv]
    · have e19 : ¬ y 19 k = nI p := fun z => by
        by_cases ct : fk_tb (v 246 3) k = true
        · exact c ⟨ct, (hN.1 k hk ct).1.symm.trans z⟩
        · rw [hN.2.1 k hk ct] at z
          exact absurd z (by rw [sI_m1b (by omega)]; exact id)
      refine ⟨t, ?_, by rw [fk_cf_succ, ← i1, Nat.zero_add, if_neg (by rw [decide_eq_true_eq]; exact c), Nat.add_zero]⟩
      simp (disch := first | assumption | omega) only [rX5_forkPlaces, e19, Option.bind_some, Option.toList_some, Option.toList_none, List.cons_append, List.nil_append, fk_b_0, nI_add, Nat.add_zero, Nat.zero_add, not_true_eq_false, not_false_eq_true, if_true, if_false, sI_le_t, sI_le_f, sI_lt_t, sI_lt_f, sI_eq_t, sI_eq_f, sI_rem, sI_div, sI_m1a, sI_m1b, sI_m1c, sI_m1d, sI_m1e, sI_m1f, sI_m2a, sI_m2b, sI_sub, pk_mul, sI_dec, fk_u_s, fk_u_o, sI_dec0, sI_z, sI_md, Bool.false_eq_true, Nat.reduceAdd, Nat.reduceMul, Nat.reduceSub, Nat.reduceMod, Nat.reduceDiv]) 32 0 0 rfl rfl
  obtain ⟨t, e, i1⟩ := key
  try dsimp only at e i1
  rw [i1] at e
  exact e
theorem ab_rc_le {p : Nat} : ab_rc v p ≤ 32 := fk_cf_le 32 0
theorem mX5_forkPlaces (hv : ab_rv v) (hN : ck_nt v y) : fk_ev (d + 1) qX5_forkPlaces 0 [.ref 18, .null, .null, .null, .null] [] (fk_E N y l) = some (some (.int ((ab_fo v))), fk_E N y l) := by
  have key : ∀ k p (s : Int32), p + k = 16 → (∀ q, fk_tb s q = true → q < 16) → ∀ x3 x4 : Value, fk_ev (d + 1) qX5_forkPlaces 4 [.ref 18, .int s, .int (nI p), x3, x4] [] (fk_E N y l) = some (some (.int (fk_it (ab_f1 v) p k s)), fk_E N y l) := by
    intro k
    induction k with
    | zero =>
      intro p s hp hs x3 x4
      have hp : p = 16 := hp
      subst hp
      rw [hX5_forkPlaces_4, fk_it_0]
      simp (disch := first | assumption | omega) only [rX5_forkPlaces, Option.bind_some, Option.toList_some, Option.toList_none, List.cons_append, List.nil_append, fk_b_0, nI_add, Nat.add_zero, Nat.zero_add, not_true_eq_false, not_false_eq_true, if_true, if_false, sI_le_t, sI_le_f, sI_lt_t, sI_lt_f, sI_eq_t, sI_eq_f, sI_rem, sI_div, sI_m1a, sI_m1b, sI_m1c, sI_m1d, sI_m1e, sI_m1f, sI_m2a, sI_m2b, sI_sub, pk_mul, sI_dec, fk_u_s, fk_u_o, sI_dec0, sI_z, sI_md, Bool.false_eq_true, Nat.reduceAdd, Nat.reduceMul, Nat.reduceSub, Nat.reduceMod, Nat.reduceDiv]
    | succ k ih =>
      intro p s hp hs x3 x4
      have eb : ck_bc s = nI (fk_cd s) := by rw [ck_bc_16 hs, fk_bits_cd]
      have cl := fk_cd_le (s := s)
      have rl := ab_rc_le (v := v) (p := p)
      rw [hX5_forkPlaces_4]
      by_cases c1 : fk_cd s < 8
      · have st : fk_it (ab_f1 v) p (k + 1) s = fk_it (ab_f1 v) (p + 1) k (if 2 ≤ ab_rc v p then s ||| nI 1 <<< (nI p &&& 31) else s) := by
          show fk_it (ab_f1 v) (p + 1) k (ab_f1 v p s) = _
          rw [show ab_f1 v p s = (if 2 ≤ ab_rc v p then s ||| nI 1 <<< (nI p &&& 31) else s) from if_pos c1]
        have er := mX5_fp_roads (N := N) (l := l) (d := d + 1) (x := s) (xx := .null) hv hN (show p < 16 by omega)
        have st2 : fk_ev (d + 1) qX5_forkPlaces 5 [.ref 18, .int s, .int (nI p), x3, x4] [.int (nI p)] (fk_E N y l) = fk_ev (d + 1) qX5_forkPlaces 24 [.ref 18, .int s, .int (nI p), .int (nI 0), .int (nI 0)] [] (fk_E N y l) := by
          simp (disch := first | assumption | omega) only [rX5_forkPlaces, mJ6_bitCount, eb, Option.bind_some, Option.toList_some, Option.toList_none, List.cons_append, List.nil_append, fk_b_0, nI_add, Nat.add_zero, Nat.zero_add, not_true_eq_false, not_false_eq_true, if_true, if_false, sI_le_t, sI_le_f, sI_lt_t, sI_lt_f, sI_eq_t, sI_eq_f, sI_rem, sI_div, sI_m1a, sI_m1b, sI_m1c, sI_m1d, sI_m1e, sI_m1f, sI_m2a, sI_m2b, sI_sub, pk_mul, sI_dec, fk_u_s, fk_u_o, sI_dec0, sI_z, sI_md, Bool.false_eq_true, Nat.reduceAdd, Nat.reduceMul, Nat.reduceSub, Nat.reduceMod, Nat.reduceDiv]
        rw [st, st2, er, hX5_forkPlaces_24]
        by_cases c2 : 2 ≤ ab_rc v p
        · rw [if_pos c2, ← ih (p + 1) (s ||| nI 1 <<< (nI p &&& 31)) (by omega) (fun q hq => by
            rw [fk_tb_or, Bool.or_eq_true, fk_tb_bitI (by omega)] at hq
            rcases hq with hq | rfl
            · exact hs q hq
            · omega) (.int (nI (ab_rc v p))) (.int (nI 32))]
          simp (disch := first | assumption | omega) only [rX5_forkPlaces, Option.bind_some, Option.toList_some, Option.toList_none, List.cons_append, List.nil_append, fk_b_0, nI_add, Nat.add_zero, Nat.zero_add, not_true_eq_false, not_false_eq_true, if_true, if_false, sI_le_t, sI_le_f, sI_lt_t, sI_lt_f, sI_eq_t, sI_eq_f, sI_rem, sI_div, sI_m1a, sI_m1b, sI_m1c, sI_m1d, sI_m1e, sI_m1f, sI_m2a, sI_m2b, sI_sub, pk_mul, sI_dec, fk_u_s, fk_u_o, sI_dec0, sI_z, sI_md, Bool.false_eq_true, Nat.reduceAdd, Nat.reduceMul, Nat.reduceSub, Nat.reduceMod, Nat.reduceDiv]
        · rw [if_neg c2, ← ih (p + 1) s (by omega) hs (.int (nI (ab_rc v p))) (.int (nI 32))]
          simp (disch := first | assumption | omega) only [rX5_forkPlaces, fk_or0, Option.bind_some, Option.toList_some, Option.toList_none, List.cons_append, List.nil_append, fk_b_0, nI_add, Nat.add_zero, Nat.zero_add, not_true_eq_false, not_false_eq_true, if_true, if_false, sI_le_t, sI_le_f, sI_lt_t, sI_lt_f, sI_eq_t, sI_eq_f, sI_rem, sI_div, sI_m1a, sI_m1b, sI_m1c, sI_m1d, sI_m1e, sI_m1f, sI_m2a, sI_m2b, sI_sub, pk_mul, sI_dec, fk_u_s, fk_u_o, sI_dec0, sI_z, sI_md, Bool.false_eq_true, Nat.reduceAdd, Nat.reduceMul, Nat.reduceSub, Nat.reduceMod, Nat.reduceDiv]
      · rw [ab_f1_st c1]
        simp (disch := first | assumption | omega) only [rX5_forkPlaces, mJ6_bitCount, eb, Option.bind_some, Option.toList_some, Option.toList_none, List.cons_append, List.nil_append, fk_b_0, nI_add, Nat.add_zero, Nat.zero_add, not_true_eq_false, not_false_eq_true, if_true, if_false, sI_le_t, sI_le_f, sI_lt_t, sI_lt_f, sI_eq_t, sI_eq_f, sI_rem, sI_div, sI_m1a, sI_m1b, sI_m1c, sI_m1d, sI_m1e, sI_m1f, sI_m2a, sI_m2b, sI_sub, pk_mul, sI_dec, fk_u_s, fk_u_o, sI_dec0, sI_z, sI_md, Bool.false_eq_true, Nat.reduceAdd, Nat.reduceMul, Nat.reduceSub, Nat.reduceMod, Nat.reduceDiv]
  have := key 16 0 (nI 0) rfl (fun q hq => by rw [fk_tb_0] at hq; exact absurd hq (by decide)) .null .null
  simp (disch := first | assumption | omega) only [rX5_forkPlaces, Option.bind_some, Option.toList_some, Option.toList_none, List.cons_append, List.nil_append, fk_b_0, nI_add, Nat.add_zero, Nat.zero_add, not_true_eq_false, not_false_eq_true, if_true, if_false, sI_le_t, sI_le_f, sI_lt_t, sI_lt_f, sI_eq_t, sI_eq_f, sI_rem, sI_div, sI_m1a, sI_m1b, sI_m1c, sI_m1d, sI_m1e, sI_m1f, sI_m2a, sI_m2b, sI_sub, pk_mul, sI_dec, fk_u_s, fk_u_o, sI_dec0, sI_z, sI_md, Bool.false_eq_true, Nat.reduceAdd, Nat.reduceMul, Nat.reduceSub, Nat.reduceMod, Nat.reduceDiv]
  exact this
theorem mX12_fo_roads {p : Nat} (hp : p < 16) {x : Int32} : fk_ev (d + 2) qX12_forksOf 24 [.ref 246, .int x, .int (nI p), .int (nI 0), .int (nI 0)] [] (fk_E N y l) = fk_ev (d + 2) qX12_forksOf 24 [.ref 246, .int x, .int (nI p), .int (nI (ab_rc y p)), .int (nI 32)] [] (fk_E N y l) := by
  have key := fk_loopr (σ := Nat) (fun k t => fk_ev (d + 2) qX12_forksOf 24 [.ref 246, .int x, .int (nI p), .int (nI t), .int (nI k)] [] (fk_E N y l)) (fun k t => t = fk_cf (fun r => decide (ab_rd y r (nI p))) 0 k) 32 (by
    intro k t hk i1
    try dsimp only at i1 ⊢
    have ht := mX12_isRoadN (N := N) (y := y) (l := l) (d := d) hk
    rw [hX12_forksOf_24]
    by_cases c0 : fk_tb (y 246 3) k = true
    · rw [fk_b_t c0] at ht
      by_cases c1 : y 250 k = nI p
      · refine ⟨t + 1, ?_, by rw [fk_cf_succ, ← i1, Nat.zero_add, if_pos (decide_eq_true ⟨c0, c1⟩)]⟩
        simp (disch := first | assumption | omega) only [rX12_forksOf, ht, c1, Option.bind_some, Option.toList_some, Option.toList_none, List.cons_append, List.nil_append, fk_b_0, nI_add, Nat.add_zero, Nat.zero_add, not_true_eq_false, not_false_eq_true, if_true, if_false, sI_le_t, sI_le_f, sI_lt_t, sI_lt_f, sI_eq_t, sI_eq_f, sI_rem, sI_div, sI_m1a, sI_m1b, sI_m1c, sI_m1d, sI_m1e, sI_m1f, sI_m2a, sI_m2b, sI_sub, pk_mul, sI_dec, fk_u_s, fk_u_o, sI_dec0, sI_z, sI_md, Bool.false_eq_true, Nat.reduceAdd, Nat.reduceMul, Nat.reduceSub, Nat.reduceMod, Nat.reduceDiv]
      · refine ⟨t, ?_, by rw [fk_cf_succ, ← i1, Nat.zero_add, if_neg (by rw [decide_eq_true_eq]; exact fun z => c1 z.2), Nat.add_zero]⟩
        simp (disch := first | assumption | omega) only [rX12_forksOf, ht, c1, Option.bind_some, Option.toList_some, Option.toList_none, List.cons_append, List.nil_append, fk_b_0, nI_add, Nat.add_zero, Nat.zero_add, not_true_eq_false, not_false_eq_true, if_true, if_false, sI_le_t, sI_le_f, sI_lt_t, sI_lt_f, sI_eq_t, sI_eq_f, sI_rem, sI_div, sI_m1a, sI_m1b, sI_m1c, sI_m1d, sI_m1e, sI_m1f, sI_m2a, sI_m2b, sI_sub, pk_mul, sI_dec, fk_u_s, fk_u_o, sI_dec0, sI_z, sI_md, Bool.false_eq_true, Nat.reduceAdd, Nat.reduceMul, Nat.reduceSub, Nat.reduceMod, Nat.reduceDiv]
    · rw [fk_b_f c0] at ht
      refine ⟨t, ?_, by rw [fk_cf_succ, ← i1, Nat.zero_add, if_neg (by rw [decide_eq_true_eq]; exact fun z => c0 z.1), Nat.add_zero]⟩
      simp (disch := first | assumption | omega) only [rX12_forksOf, ht, Option.bind_some, Option.toList_some, Option.toList_none, List.cons_append, List.nil_append, fk_b_0, nI_add, Nat.add_zero, Nat.zero_add, not_true_eq_false, not_false_eq_true, if_true, if_false, sI_le_t, sI_le_f, sI_lt_t, sI_lt_f, sI_eq_t, sI_eq_f, sI_rem, sI_div, sI_m1a, sI_m1b, sI_m1c, sI_m1d, sI_m1e, sI_m1f, sI_m2a, sI_m2b, sI_sub, pk_mul, sI_dec, fk_u_s, fk_u_o, sI_dec0, sI_z, sI_md, Bool.false_eq_true, Nat.reduceAdd, Nat.reduceMul, Nat.reduceSub, Nat.reduceMod, Nat.reduceDiv]) 32 0 0 rfl rfl
  obtain ⟨t, e, i1⟩ := key
  try dsimp only at e i1
  rw [i1] at e
  exact e
theorem mX12_forksOf : fk_ev (d + 2) qX12_forksOf 0 [.ref 246, .null, .null, .null, .null] [] (fk_E N y l) = some (some (.int ((ab_fo y))), fk_E N y l) := by
  have key : ∀ k p (s : Int32), p + k = 16 → (∀ q, fk_tb s q = true → q < 16) → ∀ x3 x4 : Value, fk_ev (d + 2) qX12_forksOf 4 [.ref 246, .int s, .int (nI p), x3, x4] [] (fk_E N y l) = some (some (.int (fk_it (ab_f1 y) p k s)), fk_E N y l) := by
    intro k
    induction k with
    | zero =>
      intro p s hp hs x3 x4
      have hp : p = 16 := hp
      subst hp
      rw [hX12_forksOf_4, fk_it_0]
      simp (disch := first | assumption | omega) only [rX12_forksOf, Option.bind_some, Option.toList_some, Option.toList_none, List.cons_append, List.nil_append, fk_b_0, nI_add, Nat.add_zero, Nat.zero_add, not_true_eq_false, not_false_eq_true, if_true, if_false, sI_le_t, sI_le_f, sI_lt_t, sI_lt_f, sI_eq_t, sI_eq_f, sI_rem, sI_div, sI_m1a, sI_m1b, sI_m1c, sI_m1d, sI_m1e, sI_m1f, sI_m2a, sI_m2b, sI_sub, pk_mul, sI_dec, fk_u_s, fk_u_o, sI_dec0, sI_z, sI_md, Bool.false_eq_true, Nat.reduceAdd, Nat.reduceMul, Nat.reduceSub, Nat.reduceMod, Nat.reduceDiv]
    | succ k ih =>
      intro p s hp hs x3 x4
      have eb : fk_bits s = nI (fk_cd s) := fk_bits_cd
      have cl := fk_cd_le (s := s)
      have rl := ab_rc_le (v := y) (p := p)
      rw [hX12_forksOf_4]
      by_cases c1 : fk_cd s < 8
      · have st : fk_it (ab_f1 y) p (k + 1) s = fk_it (ab_f1 y) (p + 1) k (if 2 ≤ ab_rc y p then s ||| nI 1 <<< (nI p &&& 31) else s) := by
          show fk_it (ab_f1 y) (p + 1) k (ab_f1 y p s) = _
          rw [show ab_f1 y p s = (if 2 ≤ ab_rc y p then s ||| nI 1 <<< (nI p &&& 31) else s) from if_pos c1]
        have er := mX12_fo_roads (N := N) (l := l) (y := y) (d := d) (x := s) (show p < 16 by omega)
        have st2 : fk_ev (d + 2) qX12_forksOf 5 [.ref 246, .int s, .int (nI p), x3, x4] [.int (nI p)] (fk_E N y l) = fk_ev (d + 2) qX12_forksOf 24 [.ref 246, .int s, .int (nI p), .int (nI 0), .int (nI 0)] [] (fk_E N y l) := by
          simp (disch := first | assumption | omega) only [rX12_forksOf, mX12_bits, eb, Option.bind_some, Option.toList_some, Option.toList_none, List.cons_append, List.nil_append, fk_b_0, nI_add, Nat.add_zero, Nat.zero_add, not_true_eq_false, not_false_eq_true, if_true, if_false, sI_le_t, sI_le_f, sI_lt_t, sI_lt_f, sI_eq_t, sI_eq_f, sI_rem, sI_div, sI_m1a, sI_m1b, sI_m1c, sI_m1d, sI_m1e, sI_m1f, sI_m2a, sI_m2b, sI_sub, pk_mul, sI_dec, fk_u_s, fk_u_o, sI_dec0, sI_z, sI_md, Bool.false_eq_true, Nat.reduceAdd, Nat.reduceMul, Nat.reduceSub, Nat.reduceMod, Nat.reduceDiv]
        rw [st, st2, er, hX12_forksOf_24]
        by_cases c2 : 2 ≤ ab_rc y p
        · have c3 : ¬ ab_rc y p ≤ 1 := by omega
          rw [if_pos c2, ← ih (p + 1) (s ||| nI 1 <<< (nI p &&& 31)) (by omega) (fun q hq => by
            rw [fk_tb_or, Bool.or_eq_true, fk_tb_bitI (by omega)] at hq
            rcases hq with hq | rfl
            · exact hs q hq
            · omega) (.int (nI (ab_rc y p))) (.int (nI 32))]
          simp (disch := first | assumption | omega) only [rX12_forksOf, c3, Option.bind_some, Option.toList_some, Option.toList_none, List.cons_append, List.nil_append, fk_b_0, nI_add, Nat.add_zero, Nat.zero_add, not_true_eq_false, not_false_eq_true, if_true, if_false, sI_le_t, sI_le_f, sI_lt_t, sI_lt_f, sI_eq_t, sI_eq_f, sI_rem, sI_div, sI_m1a, sI_m1b, sI_m1c, sI_m1d, sI_m1e, sI_m1f, sI_m2a, sI_m2b, sI_sub, pk_mul, sI_dec, fk_u_s, fk_u_o, sI_dec0, sI_z, sI_md, Bool.false_eq_true, Nat.reduceAdd, Nat.reduceMul, Nat.reduceSub, Nat.reduceMod, Nat.reduceDiv]
        · have c3 : ab_rc y p ≤ 1 := by omega
          rw [if_neg c2, ← ih (p + 1) s (by omega) hs (.int (nI (ab_rc y p))) (.int (nI 32))]
          simp (disch := first | assumption | omega) only [rX12_forksOf, c3, Option.bind_some, Option.toList_some, Option.toList_none, List.cons_append, List.nil_append, fk_b_0, nI_add, Nat.add_zero, Nat.zero_add, not_true_eq_false, not_false_eq_true, if_true, if_false, sI_le_t, sI_le_f, sI_lt_t, sI_lt_f, sI_eq_t, sI_eq_f, sI_rem, sI_div, sI_m1a, sI_m1b, sI_m1c, sI_m1d, sI_m1e, sI_m1f, sI_m2a, sI_m2b, sI_sub, pk_mul, sI_dec, fk_u_s, fk_u_o, sI_dec0, sI_z, sI_md, Bool.false_eq_true, Nat.reduceAdd, Nat.reduceMul, Nat.reduceSub, Nat.reduceMod, Nat.reduceDiv]
      · rw [ab_f1_st c1]
        simp (disch := first | assumption | omega) only [rX12_forksOf, mX12_bits, eb, Option.bind_some, Option.toList_some, Option.toList_none, List.cons_append, List.nil_append, fk_b_0, nI_add, Nat.add_zero, Nat.zero_add, not_true_eq_false, not_false_eq_true, if_true, if_false, sI_le_t, sI_le_f, sI_lt_t, sI_lt_f, sI_eq_t, sI_eq_f, sI_rem, sI_div, sI_m1a, sI_m1b, sI_m1c, sI_m1d, sI_m1e, sI_m1f, sI_m2a, sI_m2b, sI_sub, pk_mul, sI_dec, fk_u_s, fk_u_o, sI_dec0, sI_z, sI_md, Bool.false_eq_true, Nat.reduceAdd, Nat.reduceMul, Nat.reduceSub, Nat.reduceMod, Nat.reduceDiv]
  have := key 16 0 (nI 0) rfl (fun q hq => by rw [fk_tb_0] at hq; exact absurd hq (by decide)) .null .null
  simp (disch := first | assumption | omega) only [rX12_forksOf, Option.bind_some, Option.toList_some, Option.toList_none, List.cons_append, List.nil_append, fk_b_0, nI_add, Nat.add_zero, Nat.zero_add, not_true_eq_false, not_false_eq_true, if_true, if_false, sI_le_t, sI_le_f, sI_lt_t, sI_lt_f, sI_eq_t, sI_eq_f, sI_rem, sI_div, sI_m1a, sI_m1b, sI_m1c, sI_m1d, sI_m1e, sI_m1f, sI_m2a, sI_m2b, sI_sub, pk_mul, sI_dec, fk_u_s, fk_u_o, sI_dec0, sI_z, sI_md, Bool.false_eq_true, Nat.reduceAdd, Nat.reduceMul, Nat.reduceSub, Nat.reduceMod, Nat.reduceDiv]
  exact this
end PL2
