section RH6
variable {N : Nat} {v y : Nat → Nat → Int32} {l : Nat → Nat → Int64} {d : Nat} {W : Int32 → (Nat → Int32) → Int32} {s : ab_S} {n H : Nat}
theorem hr_p5 (HW : fk_LR W v) {x : Value} (hs : fk_rs v y s) (ho : ab_ok v n H s.1) : ∃ y', fk_ev (d + 7) qX12_hourGoes 284 [.ref 246, .int (nI 0), x] [] (fk_E N y l) = fk_ev (d + 7) qX12_hourGoes 317 [.ref 246, .int (nI 0), x] [] (fk_E N y' l) ∧ fk_rs v y' (ab_p5 W (¬ v 246 36 = nI 0) s) ∧ ab_ok v n H (ab_p5 W (¬ v 246 36 = nI 0) s).1 := by
  have hn := ho.1
  have key := fk_loopr (σ := Nat → Nat → Int32) (fun k t => fk_ev (d + 7) qX12_hourGoes 284 [.ref 246, .int (nI k), x] [] (fk_E N t l)) (fun k t => fk_rs v t (fk_it (ab_di W (¬ v 246 36 = nI 0) n) 0 k s) ∧ ab_ok v n H (fk_it (ab_di W (¬ v 246 36 = nI 0) n) 0 k s).1) n (by
    rintro k t hk ⟨i1, i2⟩
    try dsimp only
    have i2' := ab_ok_di (W := W) (nd := ¬ v 246 36 = nI 0) i2 hk
    rw [fk_it_succ, Nat.zero_add]
    generalize fk_it (ab_di W (¬ v 246 36 = nI 0) n) 0 k s = z at i1 i2 i2' ⊢
    have g1 := i1.1
    have hm' : t 247 833 = nI n := by rw [g1]; exact i2.2.1
    rw [hX12_hourGoes_284]
    unfold ab_di at i2' ⊢
    by_cases c1 : ab_at z.1 k
    · by_cases c2 : v 246 36 = nI 0
      · rw [if_pos ⟨c1, fun q => q c2⟩] at i2' ⊢
        obtain ⟨x, hx, ex⟩ := i2.2.2.2.2.1
        obtain ⟨y', e, r'⟩ := mX12_mayDie (N := N) (l := l) (d := d + 2) HW i1 (show k < 64 by omega) hn i2.2.1 hx ex c2
        refine ⟨y', ?_, r', i2'⟩
        simp (disch := first | assumption | omega) only [rX12_hourGoes, hm', mX12_isAtN hn hm' hk, g1, c1, and_self, e, Option.bind_some, Option.toList_some, Option.toList_none, List.cons_append, List.nil_append, fk_b_0, nI_add, Nat.add_zero, Nat.zero_add, not_true_eq_false, not_false_eq_true, if_true, if_false, sI_le_t, sI_le_f, sI_lt_t, sI_lt_f, sI_eq_t, sI_eq_f, sI_rem, sI_div, sI_m1a, sI_m1b, sI_m1c, sI_m1d, sI_m1e, sI_m1f, sI_m2a, sI_m2b, sI_sub, pk_mul, sI_dec, fk_u_s, fk_u_o, sI_dec0, sI_z, sI_md, Bool.false_eq_true, Nat.reduceAdd, Nat.reduceMul, Nat.reduceSub, Nat.reduceMod, Nat.reduceDiv]
      · rw [if_neg (fun q => q.2 c2)] at i2' ⊢
        refine ⟨t, ?_, i1, i2⟩
        simp (disch := first | assumption | omega) only [rX12_hourGoes, hm', mX12_isAtN hn hm' hk, g1, c1, and_self, mX12_mayDie_no i1 c2, Option.bind_some, Option.toList_some, Option.toList_none, List.cons_append, List.nil_append, fk_b_0, nI_add, Nat.add_zero, Nat.zero_add, not_true_eq_false, not_false_eq_true, if_true, if_false, sI_le_t, sI_le_f, sI_lt_t, sI_lt_f, sI_eq_t, sI_eq_f, sI_rem, sI_div, sI_m1a, sI_m1b, sI_m1c, sI_m1d, sI_m1e, sI_m1f, sI_m2a, sI_m2b, sI_sub, pk_mul, sI_dec, fk_u_s, fk_u_o, sI_dec0, sI_z, sI_md, Bool.false_eq_true, Nat.reduceAdd, Nat.reduceMul, Nat.reduceSub, Nat.reduceMod, Nat.reduceDiv]
    · rw [if_neg (fun q => c1 q.1)] at i2' ⊢
      refine ⟨t, ?_, i1, i2⟩
      simp (disch := first | assumption | omega) only [rX12_hourGoes, hm', mX12_isAtN hn hm' hk, g1, c1, Option.bind_some, Option.toList_some, Option.toList_none, List.cons_append, List.nil_append, fk_b_0, nI_add, Nat.add_zero, Nat.zero_add, not_true_eq_false, not_false_eq_true, if_true, if_false, sI_le_t, sI_le_f, sI_lt_t, sI_lt_f, sI_eq_t, sI_eq_f, sI_rem, sI_div, sI_m1a, sI_m1b, sI_m1c, sI_m1d, sI_m1e, sI_m1f, sI_m2a, sI_m2b, sI_sub, pk_mul, sI_dec, fk_u_s, fk_u_o, sI_dec0, sI_z, sI_md, Bool.false_eq_true, Nat.reduceAdd, Nat.reduceMul, Nat.reduceSub, Nat.reduceMod, Nat.reduceDiv]) n 0 y (Nat.zero_add n) ⟨hs, ho⟩
  obtain ⟨y', e, i1, i2⟩ := key
  unfold ab_p5
  rw [ab_ok_n ho]
  refine ⟨y', ?_, i1, i2⟩
  have hm' : y' 247 833 = nI n := by rw [i1.1]; exact i2.2.1
  rw [e, hX12_hourGoes_284]
  simp (disch := first | assumption | omega) only [rX12_hourGoes, hm', Option.bind_some, Option.toList_some, Option.toList_none, List.cons_append, List.nil_append, fk_b_0, nI_add, Nat.add_zero, Nat.zero_add, not_true_eq_false, not_false_eq_true, if_true, if_false, sI_le_t, sI_le_f, sI_lt_t, sI_lt_f, sI_eq_t, sI_eq_f, sI_rem, sI_div, sI_m1a, sI_m1b, sI_m1c, sI_m1d, sI_m1e, sI_m1f, sI_m2a, sI_m2b, sI_sub, pk_mul, sI_dec, fk_u_s, fk_u_o, sI_dec0, sI_z, sI_md, Bool.false_eq_true, Nat.reduceAdd, Nat.reduceMul, Nat.reduceSub, Nat.reduceMod, Nat.reduceDiv]
/-- who sets out: all along -/
def ab_p6I (v : Nat → Nat → Int32) (n H : Nat) (s : ab_S) : Prop := ∃ m, n ≤ m ∧ ab_ok v m H s.1 ∧ ∀ i, n ≤ i → i < m → s.1 (320 + i) = (-2)
theorem ab_p6_step {po ps : Int32} {k : Nat} (hv : ab_rv v) (hk : k < n) (hI : ab_p6I v n H s) : ab_p6I v n H (ab_lv v W po ps k s) := by
  obtain ⟨m, hm, ho, hx⟩ := hI
  obtain ⟨m', hm', ho', h1, h2, h3⟩ := ab_ok_lv (W := W) (po := po) (ps := ps) hv ho (show k < m by omega)
  refine ⟨m', by omega, ho', fun i hi hi' => ?_⟩
  by_cases e : i < m
  · rw [h2 i e (by omega)]
    exact hx i hi e
  · have : i = m := by omega
    subst this
    exact h1 (by omega)
theorem hr_p6 (HW : fk_LR W v) {x : Value} (hv : ab_rv v) (hs : fk_rs v y s) (ho : ab_ok v n H s.1) : ∃ y', fk_ev (d + 7) qX12_hourGoes 317 [.ref 246, .int (nI 0), x] [] (fk_E N y l) = some (none, fk_E N (fk_u y' 247 832 ((ab_p6 v W (v 246 33) (v 246 34) s).1 832 + nI 1)) l) ∧ fk_rs v y' (ab_p6 v W (v 246 33) (v 246 34) s) ∧ ab_p6I v n H (ab_p6 v W (v 246 33) (v 246 34) s) := by
  have hn := ho.1
  have key := fk_loopr (σ := Nat → Nat → Int32) (fun k t => fk_ev (d + 7) qX12_hourGoes 317 [.ref 246, .int (nI k), x] [] (fk_E N t l)) (fun k t => fk_rs v t (fk_it (ab_lv v W (v 246 33) (v 246 34)) 0 k s) ∧ ab_p6I v n H (fk_it (ab_lv v W (v 246 33) (v 246 34)) 0 k s)) n (by
    rintro k t hk ⟨i1, i2⟩
    try dsimp only
    have i2' := ab_p6_step (W := W) (po := v 246 33) (ps := v 246 34) hv hk i2
    rw [fk_it_succ, Nat.zero_add]
    generalize fk_it (ab_lv v W (v 246 33) (v 246 34)) 0 k s = z at i1 i2 i2' ⊢
    obtain ⟨m, hnm, om, _⟩ := i2
    have hmn := om.1
    have hkm : k < m := by omega
    have g1 := i1.1
    have hm' : t 247 833 = nI m := by rw [g1]; exact om.2.1
    rw [hX12_hourGoes_317]
    unfold ab_lv at i2' ⊢
    by_cases c1 : ab_at z.1 k
    · by_cases c2 : z.1 (512 + k) = nI 0
      · rw [if_pos ⟨c1, c2⟩] at i2' ⊢
        obtain ⟨p, hp, e1, _, _⟩ := ab_at_place (om.2.2.2.2.2.1 k hkm) c1
        obtain ⟨y', e, r'⟩ := mX12_leaves (N := N) (l := l) (d := d) HW i1 hkm hmn om.2.1 hp e1
        refine ⟨y', ?_, r', i2'⟩
        simp (disch := first | assumption | omega) only [rX12_hourGoes, hm', mX12_isAtN hmn hm' hkm, g1, c1, and_self, c2, eq_self, e, Option.bind_some, Option.toList_some, Option.toList_none, List.cons_append, List.nil_append, fk_b_0, nI_add, Nat.add_zero, Nat.zero_add, not_true_eq_false, not_false_eq_true, if_true, if_false, sI_le_t, sI_le_f, sI_lt_t, sI_lt_f, sI_eq_t, sI_eq_f, sI_rem, sI_div, sI_m1a, sI_m1b, sI_m1c, sI_m1d, sI_m1e, sI_m1f, sI_m2a, sI_m2b, sI_sub, pk_mul, sI_dec, fk_u_s, fk_u_o, sI_dec0, sI_z, sI_md, Bool.false_eq_true, Nat.reduceAdd, Nat.reduceMul, Nat.reduceSub, Nat.reduceMod, Nat.reduceDiv]
      · rw [if_neg (fun q => c2 q.2)] at i2' ⊢
        refine ⟨t, ?_, i1, i2'⟩
        simp (disch := first | assumption | omega) only [rX12_hourGoes, hm', mX12_isAtN hmn hm' hkm, g1, c1, and_self, c2, Option.bind_some, Option.toList_some, Option.toList_none, List.cons_append, List.nil_append, fk_b_0, nI_add, Nat.add_zero, Nat.zero_add, not_true_eq_false, not_false_eq_true, if_true, if_false, sI_le_t, sI_le_f, sI_lt_t, sI_lt_f, sI_eq_t, sI_eq_f, sI_rem, sI_div, sI_m1a, sI_m1b, sI_m1c, sI_m1d, sI_m1e, sI_m1f, sI_m2a, sI_m2b, sI_sub, pk_mul, sI_dec, fk_u_s, fk_u_o, sI_dec0, sI_z, sI_md, Bool.false_eq_true, Nat.reduceAdd, Nat.reduceMul, Nat.reduceSub, Nat.reduceMod, Nat.reduceDiv]
    · rw [if_neg (fun q => c1 q.1)] at i2' ⊢
      refine ⟨t, ?_, i1, i2'⟩
      simp (disch := first | assumption | omega) only [rX12_hourGoes, hm', mX12_isAtN hmn hm' hkm, g1, c1, Option.bind_some, Option.toList_some, Option.toList_none, List.cons_append, List.nil_append, fk_b_0, nI_add, Nat.add_zero, Nat.zero_add, not_true_eq_false, not_false_eq_true, if_true, if_false, sI_le_t, sI_le_f, sI_lt_t, sI_lt_f, sI_eq_t, sI_eq_f, sI_rem, sI_div, sI_m1a, sI_m1b, sI_m1c, sI_m1d, sI_m1e, sI_m1f, sI_m2a, sI_m2b, sI_sub, pk_mul, sI_dec, fk_u_s, fk_u_o, sI_dec0, sI_z, sI_md, Bool.false_eq_true, Nat.reduceAdd, Nat.reduceMul, Nat.reduceSub, Nat.reduceMod, Nat.reduceDiv]) n 0 y (Nat.zero_add n) ⟨hs, n, Nat.le_refl _, ho, fun i h1 h2 => by omega⟩
  obtain ⟨y', e, i1, i2⟩ := key
  unfold ab_p6
  rw [ab_ok_n ho]
  refine ⟨y', ?_, i1, i2⟩
  generalize fk_it (ab_lv v W (v 246 33) (v 246 34)) 0 n s = z at i1 i2 ⊢
  obtain ⟨m, hnm, om, hx⟩ := i2
  have hmn := om.1
  have g1 := i1.1
  have hm' : y' 247 833 = nI m := by rw [g1]; exact om.2.1
  have key2 := fk_loop (σ := Unit) (fun k _ => fk_ev (d + 7) qX12_hourGoes 317 [.ref 246, .int (nI k), x] [] (fk_E N y' l)) (fun _ s => s) (fun k _ => n ≤ k) m (by
    intro k t hk hI
    try dsimp only
    refine ⟨?_, by omega⟩
    rw [hX12_hourGoes_317]
    have c1 : ¬ (z.1 (192 + k) = nI 1 ∧ nI 0 ≤ z.1 (320 + k)) := by
      rw [hx k hI hk]
      exact fun q => absurd q.2 (by decide)
    simp (disch := first | assumption | omega) only [rX12_hourGoes, hm', mX12_isAtN hmn hm' hk, g1, c1, Option.bind_some, Option.toList_some, Option.toList_none, List.cons_append, List.nil_append, fk_b_0, nI_add, Nat.add_zero, Nat.zero_add, not_true_eq_false, not_false_eq_true, if_true, if_false, sI_le_t, sI_le_f, sI_lt_t, sI_lt_f, sI_eq_t, sI_eq_f, sI_rem, sI_div, sI_m1a, sI_m1b, sI_m1c, sI_m1d, sI_m1e, sI_m1f, sI_m2a, sI_m2b, sI_sub, pk_mul, sI_dec, fk_u_s, fk_u_o, sI_dec0, sI_z, sI_md, Bool.false_eq_true, Nat.reduceAdd, Nat.reduceMul, Nat.reduceSub, Nat.reduceMod, Nat.reduceDiv]) (m - n) n () (by omega) (Nat.le_refl _)
  rw [e, key2.1, hX12_hourGoes_317]
  simp (disch := first | assumption | omega) only [rX12_hourGoes, hm', g1, Option.bind_some, Option.toList_some, Option.toList_none, List.cons_append, List.nil_append, fk_b_0, nI_add, Nat.add_zero, Nat.zero_add, not_true_eq_false, not_false_eq_true, if_true, if_false, sI_le_t, sI_le_f, sI_lt_t, sI_lt_f, sI_eq_t, sI_eq_f, sI_rem, sI_div, sI_m1a, sI_m1b, sI_m1c, sI_m1d, sI_m1e, sI_m1f, sI_m2a, sI_m2b, sI_sub, pk_mul, sI_dec, fk_u_s, fk_u_o, sI_dec0, sI_z, sI_md, Bool.false_eq_true, Nat.reduceAdd, Nat.reduceMul, Nat.reduceSub, Nat.reduceMod, Nat.reduceDiv]
theorem mX12_hourGoes (HW : fk_LR W v) (hv : ab_rv v) (hs : fk_rs v y s) (ho : ab_ok v n H s.1) (hH : H < 999) : ∃ y' m, fk_ev (d + 7) qX12_hourGoes 0 [.ref 246, .null, .null] [] (fk_E N y l) = some (none, fk_E N y' l) ∧ fk_rs v y' (ab_hh v W (v 246 33) (v 246 34) (¬ v 246 36 = nI 0) s) ∧ n ≤ m ∧ ab_ok v m (H + 1) (ab_hh v W (v 246 33) (v 246 34) (¬ v 246 36 = nI 0) s).1 := by
  obtain ⟨y0, e0, r0⟩ := mX12_remembers (N := N) (l := l) (d := d + 3) hs ho
  have o0 : ab_ok v n H (ab_rm s.1) := ab_ok_hi ho fun k hk => ab_rm_lo (by omega)
  have e1 := fk_loop0 (fun k (_ : Unit) => fk_ev (d + 7) qX12_hourGoes 6 [.ref 246, .int (nI k), .null] [] (fk_E N (fk_zf y0 269 k) l)) (fun _ s => s) 64 (by
    intro k c hk
    try dsimp only
    rw [hX12_hourGoes_6]
    simp (disch := first | assumption | omega) only [rX12_hourGoes, fk_nar0, fk_zf_s, Option.bind_some, Option.toList_some, Option.toList_none, List.cons_append, List.nil_append, fk_b_0, nI_add, Nat.add_zero, Nat.zero_add, not_true_eq_false, not_false_eq_true, if_true, if_false, sI_le_t, sI_le_f, sI_lt_t, sI_lt_f, sI_eq_t, sI_eq_f, sI_rem, sI_div, sI_m1a, sI_m1b, sI_m1c, sI_m1d, sI_m1e, sI_m1f, sI_m2a, sI_m2b, sI_sub, pk_mul, sI_dec, fk_u_s, fk_u_o, sI_dec0, sI_z, sI_md, Bool.false_eq_true, Nat.reduceAdd, Nat.reduceMul, Nat.reduceSub, Nat.reduceMod, Nat.reduceDiv]) ()
  try dsimp only at e1
  rw [fk_zf_z] at e1
  have r1 : fk_rs v (fk_zf y0 269 64) (ab_rm s.1, fun _ => nI 0, s.2.2) := by
    refine fk_rs_all r0 ?_ (fun j hj => ?_) ?_ (fun i hi => ?_) fun c c1 c2 c3 c4 c5 => ?_
    · rw [← r0.1]
      funext i
      exact fk_zf_o (by decide)
    · exact if_pos ⟨rfl, hj⟩
    · rw [fk_zf_o (by decide)]; exact r0.2.2.1
    · rw [fk_zf_o (by decide)]
    · funext i
      exact fk_zf_o c5
  have o1 : ab_ok v n H ((ab_rm s.1, fun _ => nI 0, s.2.2) : ab_S).1 := o0
  obtain ⟨y1, e2, r2, o2⟩ := hr_p1 (N := N) (l := l) (d := d) (x := .null) r1 o1
  obtain ⟨y2, e3, r3, o3⟩ := hr_p2 (N := N) (l := l) (d := d) (x := .null) hv r2 o2
  obtain ⟨y3, x3, e4, r4, o4⟩ := hr_p3 (N := N) (l := l) (d := d) (x := .null) HW r3 o3
  obtain ⟨y4, e5, r5, o5⟩ := hr_p4 (N := N) (l := l) (d := d) (x := x3) HW hv r4 o4
  obtain ⟨y5, e6, r6, o6⟩ := hr_p5 (N := N) (l := l) (d := d) (x := x3) HW r5 o5
  obtain ⟨y6, e7, r7, ⟨m, hm, o7, _⟩⟩ := hr_p6 (N := N) (l := l) (d := d) (x := x3) HW hv r6 o6
  unfold ab_hh ab_hr
  try dsimp only
  generalize ab_p6 v W (v 246 33) (v 246 34) (ab_p5 W (¬ v 246 36 = nI 0) (ab_p4 v W (ab_p3 W (ab_p2 v (v 246 33) (ab_p1 (ab_rm s.1, fun _ => nI 0, s.2.2)))))) = z at e7 r7 o7 ⊢
  refine ⟨_, m, ?_, fk_rs_A (q := z.2.2.2) r7 (by rw [fk_u_row, r7.1]) fun c hc => fk_u_rowo hc, hm, ?_⟩
  · rw [← e7, ← e6, ← e5, ← e4, ← e3, ← e2]
    have step : fk_ev (d + 7) qX12_hourGoes 6 [.ref 246, .int (nI 64), .null] [] (fk_E N (fk_zf y0 269 64) l) = fk_ev (d + 7) qX12_hourGoes 27 [.ref 246, .int (nI 0), .null] [] (fk_E N (fk_zf y0 269 64) l) := by
      rw [hX12_hourGoes_6]
      simp (disch := first | assumption | omega) only [rX12_hourGoes, Option.bind_some, Option.toList_some, Option.toList_none, List.cons_append, List.nil_append, fk_b_0, nI_add, Nat.add_zero, Nat.zero_add, not_true_eq_false, not_false_eq_true, if_true, if_false, sI_le_t, sI_le_f, sI_lt_t, sI_lt_f, sI_eq_t, sI_eq_f, sI_rem, sI_div, sI_m1a, sI_m1b, sI_m1c, sI_m1d, sI_m1e, sI_m1f, sI_m2a, sI_m2b, sI_sub, pk_mul, sI_dec, fk_u_s, fk_u_o, sI_dec0, sI_z, sI_md, Bool.false_eq_true, Nat.reduceAdd, Nat.reduceMul, Nat.reduceSub, Nat.reduceMod, Nat.reduceDiv]
    rw [← step, ← e1]
    simp (disch := first | assumption | omega) only [rX12_hourGoes, e0, Option.bind_some, Option.toList_some, Option.toList_none, List.cons_append, List.nil_append, fk_b_0, nI_add, Nat.add_zero, Nat.zero_add, not_true_eq_false, not_false_eq_true, if_true, if_false, sI_le_t, sI_le_f, sI_lt_t, sI_lt_f, sI_eq_t, sI_eq_f, sI_rem, sI_div, sI_m1a, sI_m1b, sI_m1c, sI_m1d, sI_m1e, sI_m1f, sI_m2a, sI_m2b, sI_sub, pk_mul, sI_dec, fk_u_s, fk_u_o, sI_dec0, sI_z, sI_md, Bool.false_eq_true, Nat.reduceAdd, Nat.reduceMul, Nat.reduceSub, Nat.reduceMod, Nat.reduceDiv]
  · obtain ⟨h1, h2, h3, h4, ⟨x, hx, h5⟩, h6, h7⟩ := o7
    refine ⟨h1, ?_, ?_, by omega, ⟨x, hx, ?_⟩, fun i hi => ab_oj_congr (fun c hc => fk_w_o (by omega)) (h6 i hi), ?_⟩
    · rw [fk_w_o (by omega)]; exact h2
    · rw [fk_w_s, h3, nI_add]
    · rw [fk_w_o (by omega)]; exact h5
    · rw [fk_sf_congr m 0 fun i _ hi => ab_wj_congr (A := z.1) (j := i) (fk_w_o (by omega)) (fk_w_o (by omega))]
      exact h7
end RH6
