section HS1
variable {N : Nat} {v y y0 : Nat → Nat → Int32} {l : Nat → Nat → Int64} {d p c n H m : Nat} {T A A' : Nat → Int32} {b0 : Int32} {W : Int32 → (Nat → Int32) → Int32} {s : ab_S}
/-- an hour, for the row of halves alone -/
def ab_KA (v : Nat → Nat → Int32) (W : Int32 → (Nat → Int32) → Int32) (A : Nat → Int32) : Nat → Int32 := (ab_hh v W (-1) (nI 0) False (A, fun _ => nI 0, nI 0, nI 0)).1
theorem ab_KA_eq {ps : Int32} {nd : Prop} {inst : Decidable nd} (hnd : ¬ nd) (hv : ab_rv v) (ho : ab_ok v n H s.1) : (@ab_hh v W (-1) ps nd inst s).1 = ab_KA v W s.1 := by
  have o0 : ab_ok v n H (ab_rm s.1) := ab_ok_hi ho fun k hk => ab_rm_lo (by omega)
  unfold ab_KA ab_hh
  rw [ab_hr_ps (s := (ab_rm s.1, s.2)) (ps' := nI 0) (nd' := False) (i2 := instDecidableFalse) ⟨hnd, False.elim⟩ hv o0]
  exact ab_pj_hr rfl
theorem fk_it_kk {σ : Type} {f : σ → σ} {k : Nat} {s : σ} : fk_it (fun _ t => f t) 0 (k + 1) s = f (fk_it (fun _ t => f t) 0 k s) := fk_it_succ k 0 s
/-- the class's people after hours -/
def ck_fr (p c : Nat) (y y' : Nat → Nat → Int32) : Prop := ∀ k, ¬ (p ≤ k ∧ k < p + 67) → k ≠ 235 → k ≠ 238 → k ≠ 239 → k ≠ c + 7 → y' k = y k
theorem mX11_hours (hv : ab_rv v) (hN : ck_nt v y) (hL : ck_LC W c y) (e10 : y 1 0 = nI c) (ho : ab_ok v n H A) (hw : ab_wp n H A) (hpr : ck_pr 33 y (fun _ => nI 0) A) (hq : ∀ i, i < 3072 → y 235 i = A (840 + i)) {k : Nat} (hk1 : 1 ≤ k) (hk2 : k ≤ 48) (hk3 : H + k ≤ 999) : ∃ y1 n1, fk_ev (d + 6) qX11_hours 0 [.ref 1, .int ((nI k)), .null] [] (fk_E N y l) = some (some (.int ((nI (fk_cf (fun j => decide (fk_it (fun _ A => ab_KA v W A) 0 k A (192 + j) = nI 1)) 0 n1)))), fk_E N y1 l) ∧ ab_ok v n1 (H + k) (fk_it (fun _ A => ab_KA v W A) 0 k A) ∧ ab_wp n1 (H + k) (fk_it (fun _ A => ab_KA v W A) 0 k A) ∧ ck_pr 33 y1 (fun _ => nI 0) (fk_it (fun _ A => ab_KA v W A) 0 k A) ∧ (∀ i, i < 3072 → y1 235 i = fk_it (fun _ A => ab_KA v W A) 0 k A (840 + i)) ∧ ck_fr 33 c y y1 := by
  have hp : ck_pp 33 := Or.inl rfl
  have hc := hL.1
  have h33 : fk_at 33 8 := (ck_pp_at hp).1
  have h234 : fk_at 234 7 := ⟨by decide, by decide, by decide +kernel⟩
  have key := fk_loopr (σ := Nat → Nat → Int32) (fun g t => fk_ev (d + 6) qX11_hours 27 [.ref 1, .int (nI k), .int (nI g)] [] (fk_E N t l)) (fun g t => ∃ y0 s n1, ck_cs y0 33 c (fun _ => nI 0) (nI 0) 0 t s ∧ s.1 = fk_it (fun _ A => ab_KA v W A) 0 g A ∧ ab_ok v n1 (H + g) s.1 ∧ ab_wp n1 (H + g) s.1 ∧ (∀ i, i < 3072 → t 235 i = s.1 (840 + i)) ∧ y0 238 2 = nI 33 ∧ y0 238 3 = nI c ∧ y0 238 4 = (-1) ∧ ck_LC W c y0 ∧ ck_nt v y0 ∧ ck_fr 33 c y t) k (by
    rintro g t hg ⟨y0, s, n1, i1, i2, i3, i4, i5, i6, i7, i8, i9, i10, i11⟩
    try dsimp only
    obtain ⟨y1, e1, q1, q2⟩ := mX7_remember (N := N) (l := l) (d := d + 3) hp i1.1 i3 i5
    have o1 : ab_ok v n1 (H + g) (ab_rm s.1) := ab_ok_hi i3 fun k hk => ab_rm_lo (by omega)
    have r1 : ck_cs (fk_ur y0 235 (y1 235)) 33 c (fun _ => nI 0) (nI 0) 0 y1 (ab_rm s.1, s.2) := by
      obtain ⟨g1, g2, g3, g4, g5, g6⟩ := i1
      refine ⟨ck_pr_hi (ck_pr_k g1 fun k k1 k2 => q2 k (by omega)) (by rw [ab_ok_n i3]; exact i3.1) fun i hi => ab_rm_lo (by omega), fun j hj => by omega, by rw [q2 238 (by omega)]; exact g3, by rw [q2 238 (by omega)]; exact g4, fun i h1 h2 => by rw [q2 238 (by omega), fk_ur_o (by omega)]; exact g5 i h1 h2, fun k k1 k2 k3 k4 => ?_⟩
      by_cases e : k = 235
      · subst e; rw [fk_ur_s]
      · rw [fk_ur_o e, q2 k e]; exact g6 k k1 k2 k3 k4
    have L1 : ck_LC W c (fk_ur y0 235 (y1 235)) := ck_LC_c (fun k k1 k2 => fk_ur_o (by omega)) (by rw [fk_ur_o (by omega)]) (by rw [fk_ur_o (by omega)]) i9
    have N1 : ck_nt v (fk_ur y0 235 (y1 235)) := ck_nt_c rfl (fun _ _ _ => rfl) (fun c' h1 h2 => fk_ur_o (by omega)) i10
    have E2 : fk_ur y0 235 (y1 235) 238 2 = nI 33 := by rw [fk_ur_o (by omega)]; exact i6
    have E3 : fk_ur y0 235 (y1 235) 238 3 = nI c := by rw [fk_ur_o (by omega)]; exact i7
    have E4 : fk_ur y0 235 (y1 235) 238 4 = (-1) := by rw [fk_ur_o (by omega)]; exact i8
    obtain ⟨y2, m, e2, r2, hnm, o2⟩ := mX6_goBy (N := N) (l := l) (d := d + 1) L1 hv N1 hp E2 E3 r1 o1 (show H + g < 999 by omega)
    generalize hz : ab_hr v W (fk_ur y0 235 (y1 235) 238 4) (fk_ur y0 235 (y1 235) 238 5) (¬ fk_ur y0 235 (y1 235) 238 4 = (-1)) (ab_rm s.1, s.2) = z at r2 o2
    have hz2 : z = ab_hh v W (-1) (fk_ur y0 235 (y1 235) 238 5) (¬ (-1 : Int32) = (-1)) s := by
      unfold ab_hh
      rw [← hz, E4]
    have hzA : z.1 = ab_KA v W s.1 := by rw [hz2]; exact ab_KA_eq (fun h => h rfl) hv i3
    have w2 : ab_wp m (H + g + 1) z.1 := by
      rw [hz2]
      exact ab_wp_hh hv i3 i4 (by rw [← hz2]; exact o2) hnm
    have K := ab_kq_hr (W := W) (po := (-1)) (ps := fk_ur y0 235 (y1 235) 238 5) (nd := ¬ (-1 : Int32) = (-1)) (s := (ab_rm s.1, s.2)) hv o1
    refine ⟨y2, ?_, fk_ur y0 235 (y1 235), z, m, r2, ?_, o2, w2, fun i hi => ?_, E2, E3, E4, L1, N1, fun k' k1 k2 k3 k4 k5 => ?_⟩
    · rw [hX11_hours_27]
      simp (disch := first | assumption | omega) only [rX11_hours, e1, e2, Option.bind_some, Option.toList_some, Option.toList_none, List.cons_append, List.nil_append, fk_b_0, nI_add, Nat.add_zero, Nat.zero_add, not_true_eq_false, not_false_eq_true, if_true, if_false, sI_le_t, sI_le_f, sI_lt_t, sI_lt_f, sI_eq_t, sI_eq_f, sI_rem, sI_div, sI_m1a, sI_m1b, sI_m1c, sI_m1d, sI_m1e, sI_m1f, sI_m2a, sI_m2b, sI_sub, pk_mul, sI_dec, fk_u_s, fk_u_o, sI_dec0, sI_z, sI_md, Bool.false_eq_true, Nat.reduceAdd, Nat.reduceMul, Nat.reduceSub, Nat.reduceMod, Nat.reduceDiv]
    · rw [hzA, i2]
      exact (fk_it_kk (f := ab_KA v W)).symm
    · have e0 : y2 235 = y1 235 := by rw [r2.2.2.2.2.2 235 (by omega) (by omega) (by omega) (by omega), fk_ur_s]
      rw [e0, q1 i hi]
      have := K.1 (840 + i) (by omega)
      rw [hz2]
      unfold ab_hh
      exact this.symm
    · rw [r2.2.2.2.2.2 k' k1 k3 k4 k5, fk_ur_o k2, ← i11 k' k1 k2 k3 k4 k5]
      exact (i1.2.2.2.2.2 k' k1 k3 k4 k5).symm) k 0 (fk_u (fk_u (fk_u y 238 2 (nI 33)) 238 3 (nI c)) 238 4 (-1)) (Nat.zero_add k) (by
    refine ⟨fk_u (fk_u (fk_u y 238 2 (nI 33)) 238 3 (nI c)) 238 4 (-1), (A, fun _ => nI 0, y 238 7, y 238 6), n, ⟨ck_pr_k hpr fun k k1 k2 => by rw [fk_u_rowo (by omega), fk_u_rowo (by omega), fk_u_rowo (by omega)], fun j hj => by omega, ?_, ?_, fun _ _ _ => rfl, fun _ _ _ _ _ => rfl⟩, rfl, ho, hw, fun i hi => ?_, ?_, ?_, fk_u_s, ?_, ?_, fun k' k1 k2 k3 k4 k5 => ?_⟩
    · rw [fk_u_o (by omega), fk_u_o (by omega), fk_u_o (by omega), nI_0, Int32.or_zero]
    · rw [fk_u_o (by omega), fk_u_o (by omega), fk_u_o (by omega)]
    · rw [fk_u_o (by omega), fk_u_o (by omega), fk_u_o (by omega)]; exact hq i hi
    · rw [fk_u_o (by omega), fk_u_o (by omega), fk_u_s]
    · rw [fk_u_o (by omega), fk_u_s]
    · exact ck_LC_c (fun k k1 k2 => by rw [fk_u_rowo (by omega), fk_u_rowo (by omega), fk_u_rowo (by omega)]) (by rw [fk_u_o (by omega), fk_u_o (by omega), fk_u_o (by omega)]) (by rw [fk_u_o (by omega), fk_u_o (by omega), fk_u_o (by omega)]) hL
    · exact ck_nt_c rfl (fun _ _ _ => rfl) (fun c' h1 h2 => by rw [fk_u_rowo (by omega), fk_u_rowo (by omega), fk_u_rowo (by omega)]) hN
    · rw [fk_u_rowo k3, fk_u_rowo k3, fk_u_rowo k3])
  obtain ⟨y1, e, y0, s, n1, i1, i2, i3, i4, i5, i6, i7, i8, i9, i10, i11⟩ := key
  try dsimp only at e
  rw [i2] at i3 i4 i5
  have r1 := i1.1
  rw [i2] at r1
  refine ⟨y1, n1, ?_, i3, i4, r1, i5, i11⟩
  have e3 : y 33 3 = nI H := hpr.1.2.1.trans ho.2.2.1
  have hg : nI 1 ≤ nI k ∧ nI k ≤ nI 48 ∧ nI H + nI k ≤ nI 999 := ⟨nI_le hk1 (by omega), nI_le hk2 (by omega), by rw [nI_add]; exact nI_le hk3 (by omega)⟩
  have hcp := mX11_canPass (N := N) (l := l) (d := d + 5) (k := nI k) e3
  rw [fk_b_t hg] at hcp
  simp (disch := first | assumption | omega) only [rX11_hours, hcp, e10, nI_clamp, mX6_begin, Option.bind_some, Option.toList_some, Option.toList_none, List.cons_append, List.nil_append, fk_b_0, nI_add, Nat.add_zero, Nat.zero_add, not_true_eq_false, not_false_eq_true, if_true, if_false, sI_le_t, sI_le_f, sI_lt_t, sI_lt_f, sI_eq_t, sI_eq_f, sI_rem, sI_div, sI_m1a, sI_m1b, sI_m1c, sI_m1d, sI_m1e, sI_m1f, sI_m2a, sI_m2b, sI_sub, pk_mul, sI_dec, fk_u_s, fk_u_o, sI_dec0, sI_z, sI_md, Bool.false_eq_true, Nat.reduceAdd, Nat.reduceMul, Nat.reduceSub, Nat.reduceMod, Nat.reduceDiv]
  rw [e, hX11_hours_27]
  simp (disch := first | assumption | omega) only [rX11_hours, mX8_livingInAll hp r1 i3, Option.bind_some, Option.toList_some, Option.toList_none, List.cons_append, List.nil_append, fk_b_0, nI_add, Nat.add_zero, Nat.zero_add, not_true_eq_false, not_false_eq_true, if_true, if_false, sI_le_t, sI_le_f, sI_lt_t, sI_lt_f, sI_eq_t, sI_eq_f, sI_rem, sI_div, sI_m1a, sI_m1b, sI_m1c, sI_m1d, sI_m1e, sI_m1f, sI_m2a, sI_m2b, sI_sub, pk_mul, sI_dec, fk_u_s, fk_u_o, sI_dec0, sI_z, sI_md, Bool.false_eq_true, Nat.reduceAdd, Nat.reduceMul, Nat.reduceSub, Nat.reduceMod, Nat.reduceDiv]
theorem mX11_hours_no {k : Int32} (e3 : y 33 3 = nI H) (hg : ¬ (nI 1 ≤ k ∧ k ≤ nI 48 ∧ nI H + k ≤ nI 999)) : fk_ev (d + 6) qX11_hours 0 [.ref 1, .int k, .null] [] (fk_E N y l) = some (some (.int ((-1))), fk_E N y l) := by
  simp (disch := first | assumption | omega) only [rX11_hours, mX11_canPass e3, hg, Option.bind_some, Option.toList_some, Option.toList_none, List.cons_append, List.nil_append, fk_b_0, nI_add, Nat.add_zero, Nat.zero_add, not_true_eq_false, not_false_eq_true, if_true, if_false, sI_le_t, sI_le_f, sI_lt_t, sI_lt_f, sI_eq_t, sI_eq_f, sI_rem, sI_div, sI_m1a, sI_m1b, sI_m1c, sI_m1d, sI_m1e, sI_m1f, sI_m2a, sI_m2b, sI_sub, pk_mul, sI_dec, fk_u_s, fk_u_o, sI_dec0, sI_z, sI_md, Bool.false_eq_true, Nat.reduceAdd, Nat.reduceMul, Nat.reduceSub, Nat.reduceMod, Nat.reduceDiv]
theorem mX12_hours_no {k : Int32} (e3 : y 247 832 = nI H) (hg : ¬ (nI 1 ≤ k ∧ k ≤ nI 48 ∧ nI H + k ≤ nI 999)) : fk_ev (d + 8) qX12_hours 0 [.ref 246, .int k, .null] [] (fk_E N y l) = some (some (.int ((-1))), fk_E N y l) := by
  simp (disch := first | assumption | omega) only [rX12_hours, mX12_in, e3, Option.bind_some, Option.toList_some, Option.toList_none, List.cons_append, List.nil_append, fk_b_0, nI_add, Nat.add_zero, Nat.zero_add, not_true_eq_false, not_false_eq_true, if_true, if_false, sI_le_t, sI_le_f, sI_lt_t, sI_lt_f, sI_eq_t, sI_eq_f, sI_rem, sI_div, sI_m1a, sI_m1b, sI_m1c, sI_m1d, sI_m1e, sI_m1f, sI_m2a, sI_m2b, sI_sub, pk_mul, sI_dec, fk_u_s, fk_u_o, sI_dec0, sI_z, sI_md, Bool.false_eq_true, Nat.reduceAdd, Nat.reduceMul, Nat.reduceSub, Nat.reduceMod, Nat.reduceDiv]
  by_cases h1 : nI 1 ≤ k ∧ k ≤ nI 48
  · have h2 : ¬ nI H + k ≤ nI 999 := fun z => hg ⟨h1.1, h1.2, z⟩
    simp [h1, h2]
  · simp only [h1, not_false_eq_true, if_true]
theorem mX12_hours (HW : fk_LR W v) (hv : ab_rv v) (hs : fk_rs v y s) (ho : ab_ok v n H s.1) (hw : ab_wp n H s.1) (h33 : v 246 33 = (-1)) (h36 : v 246 36 = nI 0) {k : Nat} (hk1 : 1 ≤ k) (hk2 : k ≤ 48) (hk3 : H + k ≤ 999) : ∃ y1 s1 n1, fk_ev (d + 8) qX12_hours 0 [.ref 246, .int ((nI k)), .null] [] (fk_E N y l) = some (some (.int ((nI (fk_cf (fun j => decide (fk_it (fun _ A => ab_KA v W A) 0 k s.1 (192 + j) = nI 1)) 0 n1)))), fk_E N y1 l) ∧ fk_rs v y1 s1 ∧ s1.1 = fk_it (fun _ A => ab_KA v W A) 0 k s.1 ∧ ab_ok v n1 (H + k) s1.1 := by
  have key := fk_loopr (σ := Nat → Nat → Int32) (fun g t => fk_ev (d + 8) qX12_hours 30 [.ref 246, .int (nI k), .int (nI g)] [] (fk_E N t l)) (fun g t => ∃ s1 n1, fk_rs v t s1 ∧ s1.1 = fk_it (fun _ A => ab_KA v W A) 0 g s.1 ∧ ab_ok v n1 (H + g) s1.1) k (by
    rintro g t hg ⟨s1, n1, i1, i2, i3⟩
    try dsimp only
    obtain ⟨y', m, e, r, hm, o⟩ := mX12_hourGoes (N := N) (l := l) (d := d) HW hv i1 i3 (show H + g < 999 by omega)
    refine ⟨y', ?_, _, m, r, ?_, o⟩
    · rw [hX12_hours_30]
      simp (disch := first | assumption | omega) only [rX12_hours, e, Option.bind_some, Option.toList_some, Option.toList_none, List.cons_append, List.nil_append, fk_b_0, nI_add, Nat.add_zero, Nat.zero_add, not_true_eq_false, not_false_eq_true, if_true, if_false, sI_le_t, sI_le_f, sI_lt_t, sI_lt_f, sI_eq_t, sI_eq_f, sI_rem, sI_div, sI_m1a, sI_m1b, sI_m1c, sI_m1d, sI_m1e, sI_m1f, sI_m2a, sI_m2b, sI_sub, pk_mul, sI_dec, fk_u_s, fk_u_o, sI_dec0, sI_z, sI_md, Bool.false_eq_true, Nat.reduceAdd, Nat.reduceMul, Nat.reduceSub, Nat.reduceMod, Nat.reduceDiv]
    · rw [fk_it_kk (f := ab_KA v W), ← i2, h33]
      exact ab_KA_eq (fun h => h h36) hv i3) k 0 y (Nat.zero_add k) ⟨s, n, hs, rfl, ho⟩
  obtain ⟨y1, e, s1, n1, i1, i2, i3⟩ := key
  refine ⟨y1, s1, n1, ?_, i1, i2, i3⟩
  have e832 : y 247 832 = nI H := by rw [hs.1]; exact ho.2.2.1
  have g2 : ∀ j, y1 247 j = fk_it (fun _ A => ab_KA v W A) 0 k s.1 j := fun j => by rw [i1.1, i2]
  have hm : y1 247 833 = nI n1 := by rw [i1.1]; exact i3.2.1
  simp (disch := first | assumption | omega) only [rX12_hours, mX12_in, e832, and_self, Option.bind_some, Option.toList_some, Option.toList_none, List.cons_append, List.nil_append, fk_b_0, nI_add, Nat.add_zero, Nat.zero_add, not_true_eq_false, not_false_eq_true, if_true, if_false, sI_le_t, sI_le_f, sI_lt_t, sI_lt_f, sI_eq_t, sI_eq_f, sI_rem, sI_div, sI_m1a, sI_m1b, sI_m1c, sI_m1d, sI_m1e, sI_m1f, sI_m2a, sI_m2b, sI_sub, pk_mul, sI_dec, fk_u_s, fk_u_o, sI_dec0, sI_z, sI_md, Bool.false_eq_true, Nat.reduceAdd, Nat.reduceMul, Nat.reduceSub, Nat.reduceMod, Nat.reduceDiv]
  rw [e, hX12_hours_30]
  simp (disch := first | assumption | omega) only [rX12_hours, mX12_living i3.1 hm, g2, Option.bind_some, Option.toList_some, Option.toList_none, List.cons_append, List.nil_append, fk_b_0, nI_add, Nat.add_zero, Nat.zero_add, not_true_eq_false, not_false_eq_true, if_true, if_false, sI_le_t, sI_le_f, sI_lt_t, sI_lt_f, sI_eq_t, sI_eq_f, sI_rem, sI_div, sI_m1a, sI_m1b, sI_m1c, sI_m1d, sI_m1e, sI_m1f, sI_m2a, sI_m2b, sI_sub, pk_mul, sI_dec, fk_u_s, fk_u_o, sI_dec0, sI_z, sI_md, Bool.false_eq_true, Nat.reduceAdd, Nat.reduceMul, Nat.reduceSub, Nat.reduceMod, Nat.reduceDiv]
end HS1
