section RH5
variable {N : Nat} {v y : Nat → Nat → Int32} {l : Nat → Nat → Int64} {d : Nat} {W : Int32 → (Nat → Int32) → Int32} {s : ab_S} {n H : Nat}
theorem ab_rm_lo {A : Nat → Int32} {i : Nat} (hi : i < 840) : ab_rm A i = A i := by
  unfold ab_rm
  refine fk_it_inv (fun _ (B : Nat → Int32) => B i = A i) 64 ?_ 64 0 A rfl rfl
  intro j B hj hB
  rw [fk_w_o (by omega)]
  exact hB
theorem mX12_remembers (hs : fk_rs v y s) (ho : ab_ok v n H s.1) : ∃ y', fk_ev (d + 3) qX12_remembers 0 [.ref 246, .null, .null] [] (fk_E N y l) = some (none, fk_E N y' l) ∧ fk_rs v y' (ab_rm s.1, s.2) := by
  obtain ⟨hn, hm, hH, hH2, _⟩ := id ho
  have key := fk_loopr (σ := Nat → Nat → Int32) (fun k t => fk_ev (d + 3) qX12_remembers 21 [.ref 246, .int (nI (840 + 64 * (H % 48))), .int (nI k)] [] (fk_E N t l)) (fun k t => t 247 = fk_it (fun j B => fk_w B (840 + 64 * ((s.1 832).toNatClampNeg % 48) + j) (if j < ab_n s.1 ∧ ab_at s.1 j then s.1 (320 + j) else (-2))) 0 k s.1 ∧ (∀ i, i < 840 → t 247 i = s.1 i) ∧ ∀ c, c ≠ 247 → t c = y c) 64 (by
    rintro k t hk ⟨i1, i2, i3⟩
    try dsimp only
    have hm' : t 247 833 = nI n := by rw [i2 833 (by omega)]; exact hm
    have hL : (s.1 832).toNatClampNeg = H := by rw [hH, nI_clamp (by omega)]
    have hN : ab_n s.1 = n := ab_n_of hn hm
    rw [hX12_remembers_21]
    by_cases c1 : k < n
    · by_cases c2 : ab_at s.1 k
      · refine ⟨fk_u t 247 (840 + 64 * (H % 48) + k) (s.1 (320 + k)), ?_, ?_, fun i hi => ?_, fun c hc => ?_⟩
        · have c2' : t 247 (192 + k) = nI 1 ∧ nI 0 ≤ t 247 (320 + k) := by rw [i2 _ (by omega), i2 _ (by omega)]; exact c2
          simp (disch := first | assumption | omega) only [rX12_remembers, hm', mX12_isAtN hn hm' c1, c2', and_self, Option.bind_some, Option.toList_some, Option.toList_none, List.cons_append, List.nil_append, fk_b_0, nI_add, Nat.add_zero, Nat.zero_add, not_true_eq_false, not_false_eq_true, if_true, if_false, sI_le_t, sI_le_f, sI_lt_t, sI_lt_f, sI_eq_t, sI_eq_f, sI_rem, sI_div, sI_m1a, sI_m1b, sI_m1c, sI_m1d, sI_m1e, sI_m1f, sI_m2a, sI_m2b, sI_sub, pk_mul, sI_dec, fk_u_s, fk_u_o, sI_dec0, sI_z, sI_md, Bool.false_eq_true, Nat.reduceAdd, Nat.reduceMul, Nat.reduceSub, Nat.reduceMod, Nat.reduceDiv]
          rw [i2 (320 + k) (by omega)]
        · rw [fk_it_succ, ← i1, Nat.zero_add, hL, hN, if_pos ⟨c1, c2⟩, fk_u_row]
        · rw [fk_u_o (by omega)]; exact i2 i hi
        · rw [fk_u_rowo hc, i3 c hc]
      · refine ⟨fk_u t 247 (840 + 64 * (H % 48) + k) (-2), ?_, ?_, fun i hi => ?_, fun c hc => ?_⟩
        · have c2' : ¬ (t 247 (192 + k) = nI 1 ∧ nI 0 ≤ t 247 (320 + k)) := by rw [i2 _ (by omega), i2 _ (by omega)]; exact c2
          simp (disch := first | assumption | omega) only [rX12_remembers, hm', mX12_isAtN hn hm' c1, c2', Option.bind_some, Option.toList_some, Option.toList_none, List.cons_append, List.nil_append, fk_b_0, nI_add, Nat.add_zero, Nat.zero_add, not_true_eq_false, not_false_eq_true, if_true, if_false, sI_le_t, sI_le_f, sI_lt_t, sI_lt_f, sI_eq_t, sI_eq_f, sI_rem, sI_div, sI_m1a, sI_m1b, sI_m1c, sI_m1d, sI_m1e, sI_m1f, sI_m2a, sI_m2b, sI_sub, pk_mul, sI_dec, fk_u_s, fk_u_o, sI_dec0, sI_z, sI_md, Bool.false_eq_true, Nat.reduceAdd, Nat.reduceMul, Nat.reduceSub, Nat.reduceMod, Nat.reduceDiv]
        · rw [fk_it_succ, ← i1, Nat.zero_add, hL, hN, if_neg (fun z => c2 z.2), fk_u_row]
        · rw [fk_u_o (by omega)]; exact i2 i hi
        · rw [fk_u_rowo hc, i3 c hc]
    · refine ⟨fk_u t 247 (840 + 64 * (H % 48) + k) (-2), ?_, ?_, fun i hi => ?_, fun c hc => ?_⟩
      · simp (disch := first | assumption | omega) only [rX12_remembers, hm', Option.bind_some, Option.toList_some, Option.toList_none, List.cons_append, List.nil_append, fk_b_0, nI_add, Nat.add_zero, Nat.zero_add, not_true_eq_false, not_false_eq_true, if_true, if_false, sI_le_t, sI_le_f, sI_lt_t, sI_lt_f, sI_eq_t, sI_eq_f, sI_rem, sI_div, sI_m1a, sI_m1b, sI_m1c, sI_m1d, sI_m1e, sI_m1f, sI_m2a, sI_m2b, sI_sub, pk_mul, sI_dec, fk_u_s, fk_u_o, sI_dec0, sI_z, sI_md, Bool.false_eq_true, Nat.reduceAdd, Nat.reduceMul, Nat.reduceSub, Nat.reduceMod, Nat.reduceDiv]
      · rw [fk_it_succ, ← i1, Nat.zero_add, hL, hN, if_neg (fun z => c1 z.1), fk_u_row]
      · rw [fk_u_o (by omega)]; exact i2 i hi
      · rw [fk_u_rowo hc, i3 c hc]) 64 0 y rfl ⟨hs.1, fun i _ => by rw [hs.1], fun _ _ => rfl⟩
  obtain ⟨y', e, i1, i2, i3⟩ := key
  refine ⟨y', ?_, fk_rs_A hs i1 i3⟩
  have hH' : y 247 832 = nI H := by rw [hs.1]; exact hH
  simp (disch := first | assumption | omega) only [rX12_remembers, hH', Option.bind_some, Option.toList_some, Option.toList_none, List.cons_append, List.nil_append, fk_b_0, nI_add, Nat.add_zero, Nat.zero_add, not_true_eq_false, not_false_eq_true, if_true, if_false, sI_le_t, sI_le_f, sI_lt_t, sI_lt_f, sI_eq_t, sI_eq_f, sI_rem, sI_div, sI_m1a, sI_m1b, sI_m1c, sI_m1d, sI_m1e, sI_m1f, sI_m2a, sI_m2b, sI_sub, pk_mul, sI_dec, fk_u_s, fk_u_o, sI_dec0, sI_z, sI_md, Bool.false_eq_true, Nat.reduceAdd, Nat.reduceMul, Nat.reduceSub, Nat.reduceMod, Nat.reduceDiv]
  rw [e, hX12_remembers_21]
  simp (disch := first | assumption | omega) only [rX12_remembers, Option.bind_some, Option.toList_some, Option.toList_none, List.cons_append, List.nil_append, fk_b_0, nI_add, Nat.add_zero, Nat.zero_add, not_true_eq_false, not_false_eq_true, if_true, if_false, sI_le_t, sI_le_f, sI_lt_t, sI_lt_f, sI_eq_t, sI_eq_f, sI_rem, sI_div, sI_m1a, sI_m1b, sI_m1c, sI_m1d, sI_m1e, sI_m1f, sI_m2a, sI_m2b, sI_sub, pk_mul, sI_dec, fk_u_s, fk_u_o, sI_dec0, sI_z, sI_md, Bool.false_eq_true, Nat.reduceAdd, Nat.reduceMul, Nat.reduceSub, Nat.reduceMod, Nat.reduceDiv]
/-- a loop over the halves at one of hourGoes' heads -/
theorem hr_p1 {x : Value} (hs : fk_rs v y s) (ho : ab_ok v n H s.1) : ∃ y', fk_ev (d + 7) qX12_hourGoes 27 [.ref 246, .int (nI 0), x] [] (fk_E N y l) = fk_ev (d + 7) qX12_hourGoes 90 [.ref 246, .int (nI 0), x] [] (fk_E N y' l) ∧ fk_rs v y' (ab_p1 s) ∧ ab_ok v n H (ab_p1 s).1 := by
  have hn := ho.1
  have key := fk_loopr (σ := Nat → Nat → Int32) (fun k t => fk_ev (d + 7) qX12_hourGoes 27 [.ref 246, .int (nI k), x] [] (fk_E N t l)) (fun k t => fk_rs v t (fk_it ab_wt 0 k s) ∧ ab_ok v n H (fk_it ab_wt 0 k s).1) n (by
    rintro k t hk ⟨i1, i2⟩
    try dsimp only
    have i2' := ab_ok_wt i2 hk
    rw [fk_it_succ, Nat.zero_add]
    generalize fk_it ab_wt 0 k s = z at i1 i2 i2' ⊢
    have g1 := i1.1
    have hm' : t 247 833 = nI n := by rw [g1]; exact i2.2.1
    rw [hX12_hourGoes_27]
    unfold ab_wt at i2' ⊢
    by_cases c1 : ab_at z.1 k
    · by_cases c2 : nI 0 < z.1 (512 + k)
      · rw [if_pos ⟨c1, c2⟩] at i2' ⊢
        refine ⟨fk_u t 247 (512 + k) (z.1 (512 + k) - nI 1), ?_, fk_rs_A i1 (by rw [fk_u_row, g1]) fun c hc => fk_u_rowo hc, i2'⟩
        simp (disch := first | assumption | omega) only [rX12_hourGoes, hm', mX12_isAtN hn hm' hk, g1, c1, Int32.not_le.mpr c2, and_self, Option.bind_some, Option.toList_some, Option.toList_none, List.cons_append, List.nil_append, fk_b_0, nI_add, Nat.add_zero, Nat.zero_add, not_true_eq_false, not_false_eq_true, if_true, if_false, sI_le_t, sI_le_f, sI_lt_t, sI_lt_f, sI_eq_t, sI_eq_f, sI_rem, sI_div, sI_m1a, sI_m1b, sI_m1c, sI_m1d, sI_m1e, sI_m1f, sI_m2a, sI_m2b, sI_sub, pk_mul, sI_dec, fk_u_s, fk_u_o, sI_dec0, sI_z, sI_md, Bool.false_eq_true, Nat.reduceAdd, Nat.reduceMul, Nat.reduceSub, Nat.reduceMod, Nat.reduceDiv]
      · rw [if_neg (fun q => c2 q.2)] at i2' ⊢
        refine ⟨t, ?_, i1, i2⟩
        simp (disch := first | assumption | omega) only [rX12_hourGoes, hm', mX12_isAtN hn hm' hk, g1, c1, Int32.not_lt.mp c2, and_self, Option.bind_some, Option.toList_some, Option.toList_none, List.cons_append, List.nil_append, fk_b_0, nI_add, Nat.add_zero, Nat.zero_add, not_true_eq_false, not_false_eq_true, if_true, if_false, sI_le_t, sI_le_f, sI_lt_t, sI_lt_f, sI_eq_t, sI_eq_f, sI_rem, sI_div, sI_m1a, sI_m1b, sI_m1c, sI_m1d, sI_m1e, sI_m1f, sI_m2a, sI_m2b, sI_sub, pk_mul, sI_dec, fk_u_s, fk_u_o, sI_dec0, sI_z, sI_md, Bool.false_eq_true, Nat.reduceAdd, Nat.reduceMul, Nat.reduceSub, Nat.reduceMod, Nat.reduceDiv]
    · rw [if_neg (fun q => c1 q.1)] at i2' ⊢
      refine ⟨t, ?_, i1, i2⟩
      simp (disch := first | assumption | omega) only [rX12_hourGoes, hm', mX12_isAtN hn hm' hk, g1, c1, Option.bind_some, Option.toList_some, Option.toList_none, List.cons_append, List.nil_append, fk_b_0, nI_add, Nat.add_zero, Nat.zero_add, not_true_eq_false, not_false_eq_true, if_true, if_false, sI_le_t, sI_le_f, sI_lt_t, sI_lt_f, sI_eq_t, sI_eq_f, sI_rem, sI_div, sI_m1a, sI_m1b, sI_m1c, sI_m1d, sI_m1e, sI_m1f, sI_m2a, sI_m2b, sI_sub, pk_mul, sI_dec, fk_u_s, fk_u_o, sI_dec0, sI_z, sI_md, Bool.false_eq_true, Nat.reduceAdd, Nat.reduceMul, Nat.reduceSub, Nat.reduceMod, Nat.reduceDiv]) n 0 y (Nat.zero_add n) ⟨hs, ho⟩
  obtain ⟨y', e, i1, i2⟩ := key
  unfold ab_p1
  rw [ab_ok_n ho]
  refine ⟨y', ?_, i1, i2⟩
  have hm' : y' 247 833 = nI n := by rw [i1.1]; exact i2.2.1
  rw [e, hX12_hourGoes_27]
  simp (disch := first | assumption | omega) only [rX12_hourGoes, hm', Option.bind_some, Option.toList_some, Option.toList_none, List.cons_append, List.nil_append, fk_b_0, nI_add, Nat.add_zero, Nat.zero_add, not_true_eq_false, not_false_eq_true, if_true, if_false, sI_le_t, sI_le_f, sI_lt_t, sI_lt_f, sI_eq_t, sI_eq_f, sI_rem, sI_div, sI_m1a, sI_m1b, sI_m1c, sI_m1d, sI_m1e, sI_m1f, sI_m2a, sI_m2b, sI_sub, pk_mul, sI_dec, fk_u_s, fk_u_o, sI_dec0, sI_z, sI_md, Bool.false_eq_true, Nat.reduceAdd, Nat.reduceMul, Nat.reduceSub, Nat.reduceMod, Nat.reduceDiv]
theorem hr_p2 {x : Value} (hv : ab_rv v) (hs : fk_rs v y s) (ho : ab_ok v n H s.1) : ∃ y', fk_ev (d + 7) qX12_hourGoes 90 [.ref 246, .int (nI 0), x] [] (fk_E N y l) = fk_ev (d + 7) qX12_hourGoes 136 [.ref 246, .int (nI 0), x] [] (fk_E N y' l) ∧ fk_rs v y' (ab_p2 v (v 246 33) s) ∧ ab_ok v n H (ab_p2 v (v 246 33) s).1 := by
  have hn := ho.1
  have key := fk_loopr (σ := Nat → Nat → Int32) (fun k t => fk_ev (d + 7) qX12_hourGoes 90 [.ref 246, .int (nI k), x] [] (fk_E N t l)) (fun k t => fk_rs v t (fk_it (ab_go v (v 246 33)) 0 k s) ∧ ab_ok v n H (fk_it (ab_go v (v 246 33)) 0 k s).1) n (by
    rintro k t hk ⟨i1, i2⟩
    try dsimp only
    have i2' := ab_ok_go (po := v 246 33) hv i2 hk
    rw [fk_it_succ, Nat.zero_add]
    generalize fk_it (ab_go v (v 246 33)) 0 k s = z at i1 i2 i2' ⊢
    have g1 := i1.1
    have hm' : t 247 833 = nI n := by rw [g1]; exact i2.2.1
    rw [hX12_hourGoes_90]
    unfold ab_go at i2' ⊢
    by_cases c1 : z.1 (192 + k) = nI 1
    · by_cases c2 : z.1 (320 + k) < nI 0
      · rw [if_pos ⟨c1, c2⟩] at i2' ⊢
        have hr : ∃ r : Nat, r < 32 ∧ z.1 (384 + k) = nI r := by
          obtain ⟨_, _, _, _, h5, _⟩ := i2.2.2.2.2.2.1 k hk
          rcases h5 with ⟨p, hp, e, _⟩ | ⟨_, r, _, hr, e, _⟩
          · rw [e, sI_lt_f (by omega) (by omega)] at c2
            exact c2.elim
          · exact ⟨r, hr, e⟩
        obtain ⟨r, hr, er⟩ := hr
        obtain ⟨y', e, r'⟩ := mX12_goesOn (N := N) (l := l) (d := d + 6) i1 (show k < 64 by omega) hr er
        refine ⟨y', ?_, r', i2'⟩
        simp (disch := first | assumption | omega) only [rX12_hourGoes, hm', mX12_lives, g1, c1, Int32.not_le.mpr c2, e, Option.bind_some, Option.toList_some, Option.toList_none, List.cons_append, List.nil_append, fk_b_0, nI_add, Nat.add_zero, Nat.zero_add, not_true_eq_false, not_false_eq_true, if_true, if_false, sI_le_t, sI_le_f, sI_lt_t, sI_lt_f, sI_eq_t, sI_eq_f, sI_rem, sI_div, sI_m1a, sI_m1b, sI_m1c, sI_m1d, sI_m1e, sI_m1f, sI_m2a, sI_m2b, sI_sub, pk_mul, sI_dec, fk_u_s, fk_u_o, sI_dec0, sI_z, sI_md, Bool.false_eq_true, Nat.reduceAdd, Nat.reduceMul, Nat.reduceSub, Nat.reduceMod, Nat.reduceDiv]
      · rw [if_neg (fun q => c2 q.2)] at i2' ⊢
        refine ⟨t, ?_, i1, i2⟩
        simp (disch := first | assumption | omega) only [rX12_hourGoes, hm', mX12_lives, g1, c1, Int32.not_lt.mp c2, Option.bind_some, Option.toList_some, Option.toList_none, List.cons_append, List.nil_append, fk_b_0, nI_add, Nat.add_zero, Nat.zero_add, not_true_eq_false, not_false_eq_true, if_true, if_false, sI_le_t, sI_le_f, sI_lt_t, sI_lt_f, sI_eq_t, sI_eq_f, sI_rem, sI_div, sI_m1a, sI_m1b, sI_m1c, sI_m1d, sI_m1e, sI_m1f, sI_m2a, sI_m2b, sI_sub, pk_mul, sI_dec, fk_u_s, fk_u_o, sI_dec0, sI_z, sI_md, Bool.false_eq_true, Nat.reduceAdd, Nat.reduceMul, Nat.reduceSub, Nat.reduceMod, Nat.reduceDiv]
    · rw [if_neg (fun q => c1 q.1)] at i2' ⊢
      refine ⟨t, ?_, i1, i2⟩
      simp (disch := first | assumption | omega) only [rX12_hourGoes, hm', mX12_lives, g1, c1, Option.bind_some, Option.toList_some, Option.toList_none, List.cons_append, List.nil_append, fk_b_0, nI_add, Nat.add_zero, Nat.zero_add, not_true_eq_false, not_false_eq_true, if_true, if_false, sI_le_t, sI_le_f, sI_lt_t, sI_lt_f, sI_eq_t, sI_eq_f, sI_rem, sI_div, sI_m1a, sI_m1b, sI_m1c, sI_m1d, sI_m1e, sI_m1f, sI_m2a, sI_m2b, sI_sub, pk_mul, sI_dec, fk_u_s, fk_u_o, sI_dec0, sI_z, sI_md, Bool.false_eq_true, Nat.reduceAdd, Nat.reduceMul, Nat.reduceSub, Nat.reduceMod, Nat.reduceDiv]) n 0 y (Nat.zero_add n) ⟨hs, ho⟩
  obtain ⟨y', e, i1, i2⟩ := key
  unfold ab_p2
  rw [ab_ok_n ho]
  refine ⟨y', ?_, i1, i2⟩
  have hm' : y' 247 833 = nI n := by rw [i1.1]; exact i2.2.1
  rw [e, hX12_hourGoes_90]
  simp (disch := first | assumption | omega) only [rX12_hourGoes, hm', Option.bind_some, Option.toList_some, Option.toList_none, List.cons_append, List.nil_append, fk_b_0, nI_add, Nat.add_zero, Nat.zero_add, not_true_eq_false, not_false_eq_true, if_true, if_false, sI_le_t, sI_le_f, sI_lt_t, sI_lt_f, sI_eq_t, sI_eq_f, sI_rem, sI_div, sI_m1a, sI_m1b, sI_m1c, sI_m1d, sI_m1e, sI_m1f, sI_m2a, sI_m2b, sI_sub, pk_mul, sI_dec, fk_u_s, fk_u_o, sI_dec0, sI_z, sI_md, Bool.false_eq_true, Nat.reduceAdd, Nat.reduceMul, Nat.reduceSub, Nat.reduceMod, Nat.reduceDiv]
theorem hr_p3i (HW : fk_LR W v) {a : Nat} (ha : a < n) (hs : fk_rs v y s) (ho : ab_ok v n H s.1) : ∃ y', fk_ev (d + 7) qX12_hourGoes 152 [.ref 246, .int (nI a), .int (nI (a + 1))] [] (fk_E N y l) = fk_ev (d + 7) qX12_hourGoes 136 [.ref 246, .int (nI (a + 1)), .int (nI n)] [] (fk_E N y' l) ∧ fk_rs v y' (fk_it (fun b s => ab_mr W a b s) (a + 1) (n - (a + 1)) s) ∧ ab_ok v n H (fk_it (fun b s => ab_mr W a b s) (a + 1) (n - (a + 1)) s).1 := by
  have hn := ho.1
  have key := fk_loopr (σ := Nat → Nat → Int32) (fun k t => fk_ev (d + 7) qX12_hourGoes 152 [.ref 246, .int (nI a), .int (nI k)] [] (fk_E N t l)) (fun k t => a + 1 ≤ k ∧ fk_rs v t (fk_it (fun b s => ab_mr W a b s) (a + 1) (k - (a + 1)) s) ∧ ab_ok v n H (fk_it (fun b s => ab_mr W a b s) (a + 1) (k - (a + 1)) s).1) n (by
    rintro k t hk ⟨i0, i1, i2⟩
    try dsimp only
    rw [show k + 1 - (a + 1) = (k - (a + 1)) + 1 by omega, fk_it_succ, show a + 1 + (k - (a + 1)) = k by omega]
    generalize fk_it (fun b s => ab_mr W a b s) (a + 1) (k - (a + 1)) s = z at i1 i2 ⊢
    have g1 := i1.1
    have hm' : t 247 833 = nI n := by rw [g1]; exact i2.2.1
    rw [hX12_hourGoes_152]
    unfold ab_mr
    by_cases c1 : ab_at z.1 a
    · by_cases c2 : ab_at z.1 k
      · by_cases c3 : z.1 a = z.1 k
        · by_cases c4 : z.1 (320 + a) = z.1 (320 + k)
          · rw [if_pos ⟨c1, c2, c3, c4⟩]
            obtain ⟨y', e, r'⟩ := mX12_merges (N := N) (l := l) (d := d + 2) HW i1 (show a < 64 by omega) (show k < 64 by omega) (show a ≠ k by omega) hn i2.2.1
            refine ⟨y', ?_, by omega, r', ab_ok_mg i2 ha hk (by omega) c1.1 c2.1⟩
            simp (disch := first | assumption | omega) only [rX12_hourGoes, hm', mX12_isAtN hn hm' ha, mX12_isAtN hn hm' hk, g1, c1, c2, c3, c4, and_self, eq_self, e, Option.bind_some, Option.toList_some, Option.toList_none, List.cons_append, List.nil_append, fk_b_0, nI_add, Nat.add_zero, Nat.zero_add, not_true_eq_false, not_false_eq_true, if_true, if_false, sI_le_t, sI_le_f, sI_lt_t, sI_lt_f, sI_eq_t, sI_eq_f, sI_rem, sI_div, sI_m1a, sI_m1b, sI_m1c, sI_m1d, sI_m1e, sI_m1f, sI_m2a, sI_m2b, sI_sub, pk_mul, sI_dec, fk_u_s, fk_u_o, sI_dec0, sI_z, sI_md, Bool.false_eq_true, Nat.reduceAdd, Nat.reduceMul, Nat.reduceSub, Nat.reduceMod, Nat.reduceDiv]
          · rw [if_neg (fun q => c4 q.2.2.2)]
            refine ⟨t, ?_, by omega, i1, i2⟩
            simp (disch := first | assumption | omega) only [rX12_hourGoes, hm', mX12_isAtN hn hm' ha, mX12_isAtN hn hm' hk, g1, c1, c2, c3, c4, and_self, eq_self, Option.bind_some, Option.toList_some, Option.toList_none, List.cons_append, List.nil_append, fk_b_0, nI_add, Nat.add_zero, Nat.zero_add, not_true_eq_false, not_false_eq_true, if_true, if_false, sI_le_t, sI_le_f, sI_lt_t, sI_lt_f, sI_eq_t, sI_eq_f, sI_rem, sI_div, sI_m1a, sI_m1b, sI_m1c, sI_m1d, sI_m1e, sI_m1f, sI_m2a, sI_m2b, sI_sub, pk_mul, sI_dec, fk_u_s, fk_u_o, sI_dec0, sI_z, sI_md, Bool.false_eq_true, Nat.reduceAdd, Nat.reduceMul, Nat.reduceSub, Nat.reduceMod, Nat.reduceDiv]
        · rw [if_neg (fun q => c3 q.2.2.1)]
          refine ⟨t, ?_, by omega, i1, i2⟩
          simp (disch := first | assumption | omega) only [rX12_hourGoes, hm', mX12_isAtN hn hm' ha, mX12_isAtN hn hm' hk, g1, c1, c2, c3, and_self, eq_self, Option.bind_some, Option.toList_some, Option.toList_none, List.cons_append, List.nil_append, fk_b_0, nI_add, Nat.add_zero, Nat.zero_add, not_true_eq_false, not_false_eq_true, if_true, if_false, sI_le_t, sI_le_f, sI_lt_t, sI_lt_f, sI_eq_t, sI_eq_f, sI_rem, sI_div, sI_m1a, sI_m1b, sI_m1c, sI_m1d, sI_m1e, sI_m1f, sI_m2a, sI_m2b, sI_sub, pk_mul, sI_dec, fk_u_s, fk_u_o, sI_dec0, sI_z, sI_md, Bool.false_eq_true, Nat.reduceAdd, Nat.reduceMul, Nat.reduceSub, Nat.reduceMod, Nat.reduceDiv]
      · rw [if_neg (fun q => c2 q.2.1)]
        refine ⟨t, ?_, by omega, i1, i2⟩
        simp (disch := first | assumption | omega) only [rX12_hourGoes, hm', mX12_isAtN hn hm' ha, mX12_isAtN hn hm' hk, g1, c1, c2, and_self, eq_self, Option.bind_some, Option.toList_some, Option.toList_none, List.cons_append, List.nil_append, fk_b_0, nI_add, Nat.add_zero, Nat.zero_add, not_true_eq_false, not_false_eq_true, if_true, if_false, sI_le_t, sI_le_f, sI_lt_t, sI_lt_f, sI_eq_t, sI_eq_f, sI_rem, sI_div, sI_m1a, sI_m1b, sI_m1c, sI_m1d, sI_m1e, sI_m1f, sI_m2a, sI_m2b, sI_sub, pk_mul, sI_dec, fk_u_s, fk_u_o, sI_dec0, sI_z, sI_md, Bool.false_eq_true, Nat.reduceAdd, Nat.reduceMul, Nat.reduceSub, Nat.reduceMod, Nat.reduceDiv]
    · rw [if_neg (fun q => c1 q.1)]
      refine ⟨t, ?_, by omega, i1, i2⟩
      simp (disch := first | assumption | omega) only [rX12_hourGoes, hm', mX12_isAtN hn hm' ha, g1, c1, Option.bind_some, Option.toList_some, Option.toList_none, List.cons_append, List.nil_append, fk_b_0, nI_add, Nat.add_zero, Nat.zero_add, not_true_eq_false, not_false_eq_true, if_true, if_false, sI_le_t, sI_le_f, sI_lt_t, sI_lt_f, sI_eq_t, sI_eq_f, sI_rem, sI_div, sI_m1a, sI_m1b, sI_m1c, sI_m1d, sI_m1e, sI_m1f, sI_m2a, sI_m2b, sI_sub, pk_mul, sI_dec, fk_u_s, fk_u_o, sI_dec0, sI_z, sI_md, Bool.false_eq_true, Nat.reduceAdd, Nat.reduceMul, Nat.reduceSub, Nat.reduceMod, Nat.reduceDiv]) (n - (a + 1)) (a + 1) y (by omega) ⟨Nat.le_refl _, by rw [Nat.sub_self]; exact hs, by rw [Nat.sub_self]; exact ho⟩
  obtain ⟨y', e, i0, i1, i2⟩ := key
  refine ⟨y', ?_, i1, i2⟩
  have hm' : y' 247 833 = nI n := by rw [i1.1]; exact i2.2.1
  rw [e, hX12_hourGoes_152]
  simp (disch := first | assumption | omega) only [rX12_hourGoes, hm', Option.bind_some, Option.toList_some, Option.toList_none, List.cons_append, List.nil_append, fk_b_0, nI_add, Nat.add_zero, Nat.zero_add, not_true_eq_false, not_false_eq_true, if_true, if_false, sI_le_t, sI_le_f, sI_lt_t, sI_lt_f, sI_eq_t, sI_eq_f, sI_rem, sI_div, sI_m1a, sI_m1b, sI_m1c, sI_m1d, sI_m1e, sI_m1f, sI_m2a, sI_m2b, sI_sub, pk_mul, sI_dec, fk_u_s, fk_u_o, sI_dec0, sI_z, sI_md, Bool.false_eq_true, Nat.reduceAdd, Nat.reduceMul, Nat.reduceSub, Nat.reduceMod, Nat.reduceDiv]
theorem hr_p3 (HW : fk_LR W v) {x : Value} (hs : fk_rs v y s) (ho : ab_ok v n H s.1) : ∃ y' x', fk_ev (d + 7) qX12_hourGoes 136 [.ref 246, .int (nI 0), x] [] (fk_E N y l) = fk_ev (d + 7) qX12_hourGoes 242 [.ref 246, .int (nI 0), x'] [] (fk_E N y' l) ∧ fk_rs v y' (ab_p3 W s) ∧ ab_ok v n H (ab_p3 W s).1 := by
  have hn := ho.1
  have key := fk_loopr (σ := Value × (Nat → Nat → Int32)) (fun k t => fk_ev (d + 7) qX12_hourGoes 136 [.ref 246, .int (nI k), t.1] [] (fk_E N t.2 l)) (fun k t => fk_rs v t.2 (fk_it (fun a s => fk_it (fun b s => ab_mr W a b s) (a + 1) (ab_n s.1 - (a + 1)) s) 0 k s) ∧ ab_ok v n H (fk_it (fun a s => fk_it (fun b s => ab_mr W a b s) (a + 1) (ab_n s.1 - (a + 1)) s) 0 k s).1) n (by
    rintro k ⟨x, t⟩ hk ⟨i1, i2⟩
    dsimp only at i1 i2 ⊢
    rw [fk_it_succ, Nat.zero_add]
    generalize fk_it (fun a s => fk_it (fun b s => ab_mr W a b s) (a + 1) (ab_n s.1 - (a + 1)) s) 0 k s = z at i1 i2 ⊢
    rw [ab_ok_n i2]
    have g1 := i1.1
    have hm' : t 247 833 = nI n := by rw [g1]; exact i2.2.1
    obtain ⟨y', e, r', o'⟩ := hr_p3i (N := N) (l := l) (d := d) HW hk i1 i2
    refine ⟨(.int (nI n), y'), ?_, r', o'⟩
    rw [hX12_hourGoes_136, ← e]
    simp (disch := first | assumption | omega) only [rX12_hourGoes, hm', Option.bind_some, Option.toList_some, Option.toList_none, List.cons_append, List.nil_append, fk_b_0, nI_add, Nat.add_zero, Nat.zero_add, not_true_eq_false, not_false_eq_true, if_true, if_false, sI_le_t, sI_le_f, sI_lt_t, sI_lt_f, sI_eq_t, sI_eq_f, sI_rem, sI_div, sI_m1a, sI_m1b, sI_m1c, sI_m1d, sI_m1e, sI_m1f, sI_m2a, sI_m2b, sI_sub, pk_mul, sI_dec, fk_u_s, fk_u_o, sI_dec0, sI_z, sI_md, Bool.false_eq_true, Nat.reduceAdd, Nat.reduceMul, Nat.reduceSub, Nat.reduceMod, Nat.reduceDiv]) n 0 (x, y) (Nat.zero_add n) ⟨hs, ho⟩
  obtain ⟨⟨x', y'⟩, e, i1, i2⟩ := key
  dsimp only at e i1 i2
  unfold ab_p3
  rw [ab_ok_n ho]
  refine ⟨y', x', ?_, i1, i2⟩
  have hm' : y' 247 833 = nI n := by rw [i1.1]; exact i2.2.1
  rw [e, hX12_hourGoes_136]
  simp (disch := first | assumption | omega) only [rX12_hourGoes, hm', Option.bind_some, Option.toList_some, Option.toList_none, List.cons_append, List.nil_append, fk_b_0, nI_add, Nat.add_zero, Nat.zero_add, not_true_eq_false, not_false_eq_true, if_true, if_false, sI_le_t, sI_le_f, sI_lt_t, sI_lt_f, sI_eq_t, sI_eq_f, sI_rem, sI_div, sI_m1a, sI_m1b, sI_m1c, sI_m1d, sI_m1e, sI_m1f, sI_m2a, sI_m2b, sI_sub, pk_mul, sI_dec, fk_u_s, fk_u_o, sI_dec0, sI_z, sI_md, Bool.false_eq_true, Nat.reduceAdd, Nat.reduceMul, Nat.reduceSub, Nat.reduceMod, Nat.reduceDiv]
theorem hr_p4 (HW : fk_LR W v) {x : Value} (hv : ab_rv v) (hs : fk_rs v y s) (ho : ab_ok v n H s.1) : ∃ y', fk_ev (d + 7) qX12_hourGoes 242 [.ref 246, .int (nI 0), x] [] (fk_E N y l) = fk_ev (d + 7) qX12_hourGoes 284 [.ref 246, .int (nI 0), x] [] (fk_E N y' l) ∧ fk_rs v y' (ab_p4 v W s) ∧ ab_ok v n H (ab_p4 v W s).1 := by
  have hn := ho.1
  have key := fk_loopr (σ := Nat → Nat → Int32) (fun k t => fk_ev (d + 7) qX12_hourGoes 242 [.ref 246, .int (nI k), x] [] (fk_E N t l)) (fun k t => fk_rs v t (fk_it (ab_ar v W) 0 k s) ∧ ab_ok v n H (fk_it (ab_ar v W) 0 k s).1) n (by
    rintro k t hk ⟨i1, i2⟩
    try dsimp only
    have i2' := ab_ok_ar (W := W) hv i2 hk
    rw [fk_it_succ, Nat.zero_add]
    generalize fk_it (ab_ar v W) 0 k s = z at i1 i2 i2' ⊢
    have g1 := i1.1
    have g2 := i1.2.1 k (by omega)
    have hm' : t 247 833 = nI n := by rw [g1]; exact i2.2.1
    rw [hX12_hourGoes_242]
    unfold ab_ar at i2' ⊢
    by_cases c1 : ab_at z.1 k
    · by_cases c2 : z.2.1 k = nI 0
      · rw [if_neg (fun q => q.2 c2)] at i2' ⊢
        refine ⟨t, ?_, i1, i2⟩
        simp (disch := first | assumption | omega) only [rX12_hourGoes, hm', mX12_isAtN hn hm' hk, g1, c1, and_self, g2, c2, eq_self, Option.bind_some, Option.toList_some, Option.toList_none, List.cons_append, List.nil_append, fk_b_0, nI_add, Nat.add_zero, Nat.zero_add, not_true_eq_false, not_false_eq_true, if_true, if_false, sI_le_t, sI_le_f, sI_lt_t, sI_lt_f, sI_eq_t, sI_eq_f, sI_rem, sI_div, sI_m1a, sI_m1b, sI_m1c, sI_m1d, sI_m1e, sI_m1f, sI_m2a, sI_m2b, sI_sub, pk_mul, sI_dec, fk_u_s, fk_u_o, sI_dec0, sI_z, sI_md, Bool.false_eq_true, Nat.reduceAdd, Nat.reduceMul, Nat.reduceSub, Nat.reduceMod, Nat.reduceDiv]
      · rw [if_pos ⟨c1, c2⟩] at i2' ⊢
        obtain ⟨p, hp, e1, _, _⟩ := ab_at_place (i2.2.2.2.2.2.1 k hk) c1
        obtain ⟨y', e, r'⟩ := mX12_arrives (N := N) (l := l) (d := d + 2) HW i1 (show k < 64 by omega) hn i2.2.1 hp e1
        refine ⟨y', ?_, r', i2'⟩
        simp (disch := first | assumption | omega) only [rX12_hourGoes, hm', mX12_isAtN hn hm' hk, g1, c1, and_self, g2, c2, e, Option.bind_some, Option.toList_some, Option.toList_none, List.cons_append, List.nil_append, fk_b_0, nI_add, Nat.add_zero, Nat.zero_add, not_true_eq_false, not_false_eq_true, if_true, if_false, sI_le_t, sI_le_f, sI_lt_t, sI_lt_f, sI_eq_t, sI_eq_f, sI_rem, sI_div, sI_m1a, sI_m1b, sI_m1c, sI_m1d, sI_m1e, sI_m1f, sI_m2a, sI_m2b, sI_sub, pk_mul, sI_dec, fk_u_s, fk_u_o, sI_dec0, sI_z, sI_md, Bool.false_eq_true, Nat.reduceAdd, Nat.reduceMul, Nat.reduceSub, Nat.reduceMod, Nat.reduceDiv]
    · rw [if_neg (fun q => c1 q.1)] at i2' ⊢
      refine ⟨t, ?_, i1, i2⟩
      simp (disch := first | assumption | omega) only [rX12_hourGoes, hm', mX12_isAtN hn hm' hk, g1, c1, Option.bind_some, Option.toList_some, Option.toList_none, List.cons_append, List.nil_append, fk_b_0, nI_add, Nat.add_zero, Nat.zero_add, not_true_eq_false, not_false_eq_true, if_true, if_false, sI_le_t, sI_le_f, sI_lt_t, sI_lt_f, sI_eq_t, sI_eq_f, sI_rem, sI_div, sI_m1a, sI_m1b, sI_m1c, sI_m1d, sI_m1e, sI_m1f, sI_m2a, sI_m2b, sI_sub, pk_mul, sI_dec, fk_u_s, fk_u_o, sI_dec0, sI_z, sI_md, Bool.false_eq_true, Nat.reduceAdd, Nat.reduceMul, Nat.reduceSub, Nat.reduceMod, Nat.reduceDiv]) n 0 y (Nat.zero_add n) ⟨hs, ho⟩
  obtain ⟨y', e, i1, i2⟩ := key
  unfold ab_p4
  rw [ab_ok_n ho]
  refine ⟨y', ?_, i1, i2⟩
  have hm' : y' 247 833 = nI n := by rw [i1.1]; exact i2.2.1
  rw [e, hX12_hourGoes_242]
  simp (disch := first | assumption | omega) only [rX12_hourGoes, hm', Option.bind_some, Option.toList_some, Option.toList_none, List.cons_append, List.nil_append, fk_b_0, nI_add, Nat.add_zero, Nat.zero_add, not_true_eq_false, not_false_eq_true, if_true, if_false, sI_le_t, sI_le_f, sI_lt_t, sI_lt_f, sI_eq_t, sI_eq_f, sI_rem, sI_div, sI_m1a, sI_m1b, sI_m1c, sI_m1d, sI_m1e, sI_m1f, sI_m2a, sI_m2b, sI_sub, pk_mul, sI_dec, fk_u_s, fk_u_o, sI_dec0, sI_z, sI_md, Bool.false_eq_true, Nat.reduceAdd, Nat.reduceMul, Nat.reduceSub, Nat.reduceMod, Nat.reduceDiv]
end RH5
