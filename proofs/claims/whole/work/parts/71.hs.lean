section HS
variable {N : Nat} {v y y0 : Nat → Nat → Int32} {l : Nat → Nat → Int64} {d p c n H m : Nat} {T A A' : Nat → Int32} {b0 : Int32} {W : Int32 → (Nat → Int32) → Int32} {s : ab_S}
theorem ck_pr_hi (h : ck_pr p y T A) (hn : ab_n A ≤ 64) (hA : ∀ i, i < 839 → A' i = A i) : ck_pr p y T A' := by
  obtain ⟨h1, h2, h3, h4, h5⟩ := h
  have eN : ab_n A' = ab_n A := by unfold ab_n; rw [hA _ (by omega)]
  refine ⟨?_, h2, fun j hj hj2 => ?_, fun j hj hj2 => ?_, fun o ho => ?_⟩
  · rw [hA 833 (by omega), hA 832 (by omega), hA 834 (by omega), hA 838 (by omega), hA 837 (by omega), hA 836 (by omega), hA 835 (by omega)]
    exact h1
  · rw [eN] at hj2
    exact ck_hm_congr rfl (fun c hc => hA _ (by omega)) (h3 j hj hj2)
  · rw [eN] at hj2
    exact h4 j hj hj2
  · rw [h5 o ho, ab_lo_congr (A := A) (hA _ (by omega)) fun j hj => ⟨hA _ (by omega), hA _ (by omega)⟩]
theorem mX7_remember (hp : ck_pp p) (h : ck_pr p y T A) (ho : ab_ok v n H A) (hq : ∀ i, i < 3072 → y 235 i = A (840 + i)) : ∃ y', fk_ev (d + 2) qX7_remember 0 [.ref 234, .ref p, .null, .null] [] (fk_E N y l) = some (none, fk_E N y' l) ∧ (∀ i, i < 3072 → y' 235 i = ab_rm A (840 + i)) ∧ ∀ k, k ≠ 235 → y' k = y k := by
  obtain ⟨h8, c0, c1, h24, s24, h20, s20, p1, p2⟩ := ck_pp_at hp
  obtain ⟨hn, hm, hH, hH2, _⟩ := id ho
  have hN : ab_n A = n := ab_n_of hn hm
  have h7 : fk_at 234 7 := ⟨by decide, by decide, by decide +kernel⟩
  have h235 : fk_at 235 20 := ⟨by decide, by decide, by decide +kernel⟩
  have s235 : (fk_shp 235).2 = 3072 := by decide +kernel
  have c234 : fk_cr 234 0 = 235 := by decide
  have e3 : y p 3 = nI H := h.1.2.1.trans hH
  have key := fk_loopr (σ := Nat → Nat → Int32) (fun k t => fk_ev (d + 2) qX7_remember 13 [.ref 234, .ref p, .int (nI (H % 48 * 64)), .int (nI k)] [] (fk_E N t l)) (fun k t => (∀ i, i < 3072 → t 235 i = fk_it (fun j B => fk_w B (840 + 64 * ((A 832).toNatClampNeg % 48) + j) (if j < ab_n A ∧ ab_at A j then A (320 + j) else (-2))) 0 k A (840 + i)) ∧ ∀ k, k ≠ 235 → t k = y k) 64 (by
    rintro k t hk ⟨i1, i2⟩
    try dsimp only
    have eb : t p 2 = nI n := by rw [i2 p (by omega)]; exact h.1.1.trans hm
    have hL : (A 832).toNatClampNeg = H := by rw [hH, nI_clamp (by omega)]
    have upd : ∀ x : Int32, (if k < ab_n A ∧ ab_at A k then A (320 + k) else (-2)) = x → (∀ i, i < 3072 → fk_u t 235 (H % 48 * 64 + k) x 235 i = fk_it (fun j B => fk_w B (840 + 64 * ((A 832).toNatClampNeg % 48) + j) (if j < ab_n A ∧ ab_at A j then A (320 + j) else (-2))) 0 (k + 1) A (840 + i)) ∧ ∀ k', k' ≠ 235 → fk_u t 235 (H % 48 * 64 + k) x k' = y k' := by
      intro x hx
      refine ⟨fun i hi => ?_, fun k' hk' => by rw [fk_u_rowo hk', i2 k' hk']⟩
      rw [fk_it_succ, Nat.zero_add, hx]
      by_cases e : i = H % 48 * 64 + k
      · subst e
        rw [fk_u_s, show 840 + (H % 48 * 64 + k) = 840 + 64 * ((A 832).toNatClampNeg % 48) + k by rw [hL]; omega, fk_w_s]
      · rw [fk_u_o (by omega), fk_w_o (by rw [hL]; omega), i1 i hi]
    rw [hX7_remember_13]
    by_cases c1' : k < n
    · obtain ⟨a1, a2, a3, a4, a5, a6, _⟩ := h.2.2.1 k (by omega) (by omega)
      have b4 : t (p + 3 + k) 4 = fk_b (A (192 + k) = nI 1) := by rw [i2 _ (by omega)]; exact a4
      have b6 : t (p + 3 + k) 6 = A (320 + k) := by rw [i2 _ (by omega)]; exact a6
      have hA := mX8_isAtPlaceN (N := N) (l := l) (d := d) (P := A (192 + k) = nI 1) hp hn eb c1' b4
      rw [b6] at hA
      have hh := ck_pp_h hp hk
      by_cases c2 : ab_at A k
      · refine ⟨_, ?_, upd _ (if_pos ⟨by omega, c2⟩)⟩
        simp (disch := first | assumption | omega) only [rX7_remember, c234, hA, c2.1, c2.2, and_self, c0, ck_p3 (p := p), b6, Option.bind_some, Option.toList_some, Option.toList_none, List.cons_append, List.nil_append, fk_b_0, nI_add, Nat.add_zero, Nat.zero_add, not_true_eq_false, not_false_eq_true, if_true, if_false, sI_le_t, sI_le_f, sI_lt_t, sI_lt_f, sI_eq_t, sI_eq_f, sI_rem, sI_div, sI_m1a, sI_m1b, sI_m1c, sI_m1d, sI_m1e, sI_m1f, sI_m2a, sI_m2b, sI_sub, pk_mul, sI_dec, fk_u_s, fk_u_o, sI_dec0, sI_z, sI_md, Bool.false_eq_true, Nat.reduceAdd, Nat.reduceMul, Nat.reduceSub, Nat.reduceMod, Nat.reduceDiv]
      · have c2n : ¬ (A (192 + k) = nI 1 ∧ nI 0 ≤ A (320 + k)) := c2
        refine ⟨_, ?_, upd _ (if_neg fun z => c2 z.2)⟩
        simp (disch := first | assumption | omega) only [rX7_remember, c234, hA, c2n, Option.bind_some, Option.toList_some, Option.toList_none, List.cons_append, List.nil_append, fk_b_0, nI_add, Nat.add_zero, Nat.zero_add, not_true_eq_false, not_false_eq_true, if_true, if_false, sI_le_t, sI_le_f, sI_lt_t, sI_lt_f, sI_eq_t, sI_eq_f, sI_rem, sI_div, sI_m1a, sI_m1b, sI_m1c, sI_m1d, sI_m1e, sI_m1f, sI_m2a, sI_m2b, sI_sub, pk_mul, sI_dec, fk_u_s, fk_u_o, sI_dec0, sI_z, sI_md, Bool.false_eq_true, Nat.reduceAdd, Nat.reduceMul, Nat.reduceSub, Nat.reduceMod, Nat.reduceDiv]
    · have hno := mX8_isAtPlace_no (N := N) (l := l) (d := d) (j := nI k) hp eb (by rw [sI_lt_f (by omega) (by omega)]; exact fun z => z.2)
      refine ⟨_, ?_, upd _ (if_neg fun z => by omega)⟩
      simp (disch := first | assumption | omega) only [rX7_remember, c234, hno, Option.bind_some, Option.toList_some, Option.toList_none, List.cons_append, List.nil_append, fk_b_0, nI_add, Nat.add_zero, Nat.zero_add, not_true_eq_false, not_false_eq_true, if_true, if_false, sI_le_t, sI_le_f, sI_lt_t, sI_lt_f, sI_eq_t, sI_eq_f, sI_rem, sI_div, sI_m1a, sI_m1b, sI_m1c, sI_m1d, sI_m1e, sI_m1f, sI_m2a, sI_m2b, sI_sub, pk_mul, sI_dec, fk_u_s, fk_u_o, sI_dec0, sI_z, sI_md, Bool.false_eq_true, Nat.reduceAdd, Nat.reduceMul, Nat.reduceSub, Nat.reduceMod, Nat.reduceDiv]) 64 0 y rfl ⟨fun i hi => hq i hi, fun _ _ => rfl⟩
  obtain ⟨y', e, i1, i2⟩ := key
  refine ⟨y', ?_, i1, i2⟩
  simp (disch := first | assumption | omega) only [rX7_remember, e3, Option.bind_some, Option.toList_some, Option.toList_none, List.cons_append, List.nil_append, fk_b_0, nI_add, Nat.add_zero, Nat.zero_add, not_true_eq_false, not_false_eq_true, if_true, if_false, sI_le_t, sI_le_f, sI_lt_t, sI_lt_f, sI_eq_t, sI_eq_f, sI_rem, sI_div, sI_m1a, sI_m1b, sI_m1c, sI_m1d, sI_m1e, sI_m1f, sI_m2a, sI_m2b, sI_sub, pk_mul, sI_dec, fk_u_s, fk_u_o, sI_dec0, sI_z, sI_md, Bool.false_eq_true, Nat.reduceAdd, Nat.reduceMul, Nat.reduceSub, Nat.reduceMod, Nat.reduceDiv]
  rw [e, hX7_remember_13]
  simp (disch := first | assumption | omega) only [rX7_remember, Option.bind_some, Option.toList_some, Option.toList_none, List.cons_append, List.nil_append, fk_b_0, nI_add, Nat.add_zero, Nat.zero_add, not_true_eq_false, not_false_eq_true, if_true, if_false, sI_le_t, sI_le_f, sI_lt_t, sI_lt_f, sI_eq_t, sI_eq_f, sI_rem, sI_div, sI_m1a, sI_m1b, sI_m1c, sI_m1d, sI_m1e, sI_m1f, sI_m2a, sI_m2b, sI_sub, pk_mul, sI_dec, fk_u_s, fk_u_o, sI_dec0, sI_z, sI_md, Bool.false_eq_true, Nat.reduceAdd, Nat.reduceMul, Nat.reduceSub, Nat.reduceMod, Nat.reduceDiv]
theorem ab_lo_sum (ho : ab_ok v n H A) : ab_lo A (nI 0) + ab_lo A (nI 1) + ab_lo A (nI 2) + ab_lo A (nI 3) = fk_cf (fun j => decide (A (192 + j) = nI 1)) 0 n := by
  have h1 : ∀ j, j < n → ∃ o : Nat, o < 4 ∧ A j = nI o := fun j hj => (ho.2.2.2.2.2.1 j hj).1
  have hN := ab_ok_n ho
  unfold ab_lo
  rw [hN]
  clear ho hN
  induction n with
  | zero => rfl
  | succ n ih =>
    have ih := ih fun j hj => h1 j (by omega)
    obtain ⟨o, ho, e⟩ := h1 n (by omega)
    rw [fk_cf_succ, fk_cf_succ, fk_cf_succ, fk_cf_succ, fk_cf_succ, ← ih, Nat.zero_add, e]
    by_cases hl : A (192 + n) = nI 1
    · have hh : o = 0 ∨ o = 1 ∨ o = 2 ∨ o = 3 := by omega
      rcases hh with rfl | rfl | rfl | rfl
      · simp [hl, show ¬ nI 0 = nI 1 by decide, show ¬ nI 0 = nI 2 by decide, show ¬ nI 0 = nI 3 by decide]; omega
      · simp [hl, show ¬ nI 1 = nI 0 by decide, show ¬ nI 1 = nI 2 by decide, show ¬ nI 1 = nI 3 by decide]; omega
      · simp [hl, show ¬ nI 2 = nI 0 by decide, show ¬ nI 2 = nI 1 by decide, show ¬ nI 2 = nI 3 by decide]; omega
      · simp [hl, show ¬ nI 3 = nI 0 by decide, show ¬ nI 3 = nI 1 by decide, show ¬ nI 3 = nI 2 by decide]; omega
    · simp [hl]
theorem mX8_livingInAll (hp : ck_pp p) (h : ck_pr p y T A) (ho : ab_ok v n H A) : fk_ev d qX8_livingInAll 0 [.ref p] [] (fk_E N y l) = some (some (.int ((nI (fk_cf (fun j => decide (A (192 + j) = nI 1)) 0 n)))), fk_E N y l) := by
  obtain ⟨h8, c0, c1, h24, s24, h20, s20, p1, p2⟩ := ck_pp_at hp
  have e0 := h.2.2.2.2 0 (by omega)
  have e1 := h.2.2.2.2 1 (by omega)
  have e2 := h.2.2.2.2 2 (by omega)
  have e3 := h.2.2.2.2 3 (by omega)
  simp (disch := first | assumption | omega) only [rX8_livingInAll, c1, e0, e1, e2, e3, Option.bind_some, Option.toList_some, Option.toList_none, List.cons_append, List.nil_append, fk_b_0, nI_add, Nat.add_zero, Nat.zero_add, not_true_eq_false, not_false_eq_true, if_true, if_false, sI_le_t, sI_le_f, sI_lt_t, sI_lt_f, sI_eq_t, sI_eq_f, sI_rem, sI_div, sI_m1a, sI_m1b, sI_m1c, sI_m1d, sI_m1e, sI_m1f, sI_m2a, sI_m2b, sI_sub, pk_mul, sI_dec, fk_u_s, fk_u_o, sI_dec0, sI_z, sI_md, Bool.false_eq_true, Nat.reduceAdd, Nat.reduceMul, Nat.reduceSub, Nat.reduceMod, Nat.reduceDiv]
  rw [ab_lo_sum ho]
theorem mX11_canPass {k : Int32} (e3 : y 33 3 = nI H) : fk_ev d qX11_canPass 0 [.ref 1, .int k] [] (fk_E N y l) = some (some (.int ((fk_b (nI 1 ≤ k ∧ k ≤ nI 48 ∧ nI H + k ≤ nI 999)))), fk_E N y l) := by
  have h33 : fk_at 33 8 := (ck_pp_at (Or.inl rfl)).1
  simp (disch := first | assumption | omega) only [rX11_canPass, Option.bind_some, Option.toList_some, Option.toList_none, List.cons_append, List.nil_append, fk_b_0, nI_add, Nat.add_zero, Nat.zero_add, not_true_eq_false, not_false_eq_true, if_true, if_false, sI_le_t, sI_le_f, sI_lt_t, sI_lt_f, sI_eq_t, sI_eq_f, sI_rem, sI_div, sI_m1a, sI_m1b, sI_m1c, sI_m1d, sI_m1e, sI_m1f, sI_m2a, sI_m2b, sI_sub, pk_mul, sI_dec, fk_u_s, fk_u_o, sI_dec0, sI_z, sI_md, Bool.false_eq_true, Nat.reduceAdd, Nat.reduceMul, Nat.reduceSub, Nat.reduceMod, Nat.reduceDiv]
  by_cases h1 : k < nI 1
  · simp (disch := first | assumption | omega) only [h1, rX11_canPass, Option.bind_some, Option.toList_some, Option.toList_none, List.cons_append, List.nil_append, fk_b_0, nI_add, Nat.add_zero, Nat.zero_add, not_true_eq_false, not_false_eq_true, if_true, if_false, sI_le_t, sI_le_f, sI_lt_t, sI_lt_f, sI_eq_t, sI_eq_f, sI_rem, sI_div, sI_m1a, sI_m1b, sI_m1c, sI_m1d, sI_m1e, sI_m1f, sI_m2a, sI_m2b, sI_sub, pk_mul, sI_dec, fk_u_s, fk_u_o, sI_dec0, sI_z, sI_md, Bool.false_eq_true, Nat.reduceAdd, Nat.reduceMul, Nat.reduceSub, Nat.reduceMod, Nat.reduceDiv]
    rw [fk_b_f fun z => Int32.not_le.mpr h1 z.1]
  · by_cases h2 : nI 48 < k
    · simp (disch := first | assumption | omega) only [h1, h2, rX11_canPass, Option.bind_some, Option.toList_some, Option.toList_none, List.cons_append, List.nil_append, fk_b_0, nI_add, Nat.add_zero, Nat.zero_add, not_true_eq_false, not_false_eq_true, if_true, if_false, sI_le_t, sI_le_f, sI_lt_t, sI_lt_f, sI_eq_t, sI_eq_f, sI_rem, sI_div, sI_m1a, sI_m1b, sI_m1c, sI_m1d, sI_m1e, sI_m1f, sI_m2a, sI_m2b, sI_sub, pk_mul, sI_dec, fk_u_s, fk_u_o, sI_dec0, sI_z, sI_md, Bool.false_eq_true, Nat.reduceAdd, Nat.reduceMul, Nat.reduceSub, Nat.reduceMod, Nat.reduceDiv]
      rw [fk_b_f fun z => Int32.not_le.mpr h2 z.2.1]
    · simp (disch := first | assumption | omega) only [h1, h2, rX11_canPass, e3, Option.bind_some, Option.toList_some, Option.toList_none, List.cons_append, List.nil_append, fk_b_0, nI_add, Nat.add_zero, Nat.zero_add, not_true_eq_false, not_false_eq_true, if_true, if_false, sI_le_t, sI_le_f, sI_lt_t, sI_lt_f, sI_eq_t, sI_eq_f, sI_rem, sI_div, sI_m1a, sI_m1b, sI_m1c, sI_m1d, sI_m1e, sI_m1f, sI_m2a, sI_m2b, sI_sub, pk_mul, sI_dec, fk_u_s, fk_u_o, sI_dec0, sI_z, sI_md, Bool.false_eq_true, Nat.reduceAdd, Nat.reduceMul, Nat.reduceSub, Nat.reduceMod, Nat.reduceDiv]
      by_cases h3 : nI 999 < nI H + k
      · simp (disch := first | assumption | omega) only [h3, rX11_canPass, Option.bind_some, Option.toList_some, Option.toList_none, List.cons_append, List.nil_append, fk_b_0, nI_add, Nat.add_zero, Nat.zero_add, not_true_eq_false, not_false_eq_true, if_true, if_false, sI_le_t, sI_le_f, sI_lt_t, sI_lt_f, sI_eq_t, sI_eq_f, sI_rem, sI_div, sI_m1a, sI_m1b, sI_m1c, sI_m1d, sI_m1e, sI_m1f, sI_m2a, sI_m2b, sI_sub, pk_mul, sI_dec, fk_u_s, fk_u_o, sI_dec0, sI_z, sI_md, Bool.false_eq_true, Nat.reduceAdd, Nat.reduceMul, Nat.reduceSub, Nat.reduceMod, Nat.reduceDiv]
        rw [fk_b_f fun z => Int32.not_le.mpr h3 z.2.2]
      · simp (disch := first | assumption | omega) only [h3, rX11_canPass, Option.bind_some, Option.toList_some, Option.toList_none, List.cons_append, List.nil_append, fk_b_0, nI_add, Nat.add_zero, Nat.zero_add, not_true_eq_false, not_false_eq_true, if_true, if_false, sI_le_t, sI_le_f, sI_lt_t, sI_lt_f, sI_eq_t, sI_eq_f, sI_rem, sI_div, sI_m1a, sI_m1b, sI_m1c, sI_m1d, sI_m1e, sI_m1f, sI_m2a, sI_m2b, sI_sub, pk_mul, sI_dec, fk_u_s, fk_u_o, sI_dec0, sI_z, sI_md, Bool.false_eq_true, Nat.reduceAdd, Nat.reduceMul, Nat.reduceSub, Nat.reduceMod, Nat.reduceDiv]
        rw [fk_b_t ⟨Int32.not_lt.mp h1, Int32.not_lt.mp h2, Int32.not_lt.mp h3⟩]
theorem mX6_begin (hp : p < 1000) (hc : c < 1000) : fk_ev d qX6_begin 0 [.ref 238, .ref p, .ref c] [] (fk_E N y l) = some (none, fk_E N (fk_u (fk_u (fk_u y 238 2 (nI p)) 238 3 (nI c)) 238 4 (-1)) l) := by
  simp (disch := first | assumption | omega) only [rX6_begin, Option.bind_some, Option.toList_some, Option.toList_none, List.cons_append, List.nil_append, fk_b_0, nI_add, Nat.add_zero, Nat.zero_add, not_true_eq_false, not_false_eq_true, if_true, if_false, sI_le_t, sI_le_f, sI_lt_t, sI_lt_f, sI_eq_t, sI_eq_f, sI_rem, sI_div, sI_m1a, sI_m1b, sI_m1c, sI_m1d, sI_m1e, sI_m1f, sI_m2a, sI_m2b, sI_sub, pk_mul, sI_dec, fk_u_s, fk_u_o, sI_dec0, sI_z, sI_md, Bool.false_eq_true, Nat.reduceAdd, Nat.reduceMul, Nat.reduceSub, Nat.reduceMod, Nat.reduceDiv]
theorem ab_hr_ps {ps ps' : Int32} {nd nd' : Prop} {i1 : Decidable nd} {i2 : Decidable nd'} (hn : nd ↔ nd') (hv : ab_rv v) (ho : ab_ok v n H s.1) : @ab_hr v W (-1) ps nd i1 s = @ab_hr v W (-1) ps' nd' i2 s := by
  have e : nd = nd' := propext hn
  subst e
  have e2 : i1 = i2 := Subsingleton.elim _ _
  subst e2
  unfold ab_hr
  dsimp only
  have o0 : ab_ok v n H ((s.1, fun _ => nI 0, s.2.2) : ab_S).1 := ho
  generalize ((s.1, fun _ => nI 0, s.2.2) : ab_S) = s0 at o0 ⊢
  have k1 : ab_ok v n H (ab_p1 s0).1 := by
    unfold ab_p1
    rw [ab_ok_n o0]
    exact fk_it_inv (f := ab_wt) (fun _ (t : ab_S) => ab_ok v n H t.1) n (fun j t hj ht => ab_ok_wt ht hj) n 0 s0 (Nat.zero_add n) o0
  generalize ab_p1 s0 = s1 at k1 ⊢
  have k2 : ab_ok v n H (ab_p2 v (-1) s1).1 := by
    unfold ab_p2
    rw [ab_ok_n k1]
    exact fk_it_inv (f := ab_go v (-1)) (fun _ (t : ab_S) => ab_ok v n H t.1) n (fun j t hj ht => ab_ok_go hv ht hj) n 0 s1 (Nat.zero_add n) k1
  generalize ab_p2 v (-1) s1 = s2 at k2 ⊢
  have k3 : ab_ok v n H (ab_p3 W s2).1 := by
    unfold ab_p3
    rw [ab_ok_n k2]
    refine fk_it_inv (f := fun a s => fk_it (fun b s => ab_mr W a b s) (a + 1) (ab_n s.1 - (a + 1)) s) (fun _ (t : ab_S) => ab_ok v n H t.1) n (fun a t ha ht => ?_) n 0 s2 (Nat.zero_add n) k2
    rw [ab_ok_n ht]
    refine (fk_it_inv (f := fun b s => ab_mr W a b s) (fun b (t : ab_S) => a + 1 ≤ b ∧ ab_ok v n H t.1) n (fun b t hb ht => ⟨by omega, ?_⟩) (n - (a + 1)) (a + 1) t (by omega) ⟨Nat.le_refl _, ht⟩).2
    unfold ab_mr
    split
    · rename_i hc
      exact ab_ok_mg ht.2 ha hb (by omega) hc.1.1 hc.2.1.1
    · exact ht.2
  generalize ab_p3 W s2 = s3 at k3 ⊢
  have k4 : ab_ok v n H (ab_p4 v W s3).1 := by
    unfold ab_p4
    rw [ab_ok_n k3]
    exact fk_it_inv (f := ab_ar v W) (fun _ (t : ab_S) => ab_ok v n H t.1) n (fun j t hj ht => ab_ok_ar hv ht hj) n 0 s3 (Nat.zero_add n) k3
  generalize ab_p4 v W s3 = s4 at k4 ⊢
  have k5 : ab_ok v n H (ab_p5 W nd s4).1 := by
    unfold ab_p5
    rw [ab_ok_n k4]
    exact fk_it_inv (f := ab_di W nd n) (fun _ (t : ab_S) => ab_ok v n H t.1) n (fun j t hj ht => ab_ok_di ht hj) n 0 s4 (Nat.zero_add n) k4
  generalize ab_p5 W nd s4 = s5 at k5 ⊢
  have k6 : ab_p6 v W (-1) ps s5 = ab_p6 v W (-1) ps' s5 := by
    unfold ab_p6
    rw [ab_ok_n k5]
    refine (fk_it_rel (f := ab_lv v W (-1) ps) (g := ab_lv v W (-1) ps') (fun _ (t t' : ab_S) => t = t' ∧ ab_p6I v n H t) n (fun j t t' hj ht => ?_) n 0 s5 s5 (Nat.zero_add n) ⟨rfl, n, Nat.le_refl _, k5, fun i h1 h2 => by omega⟩).1
    obtain ⟨rfl, hI⟩ := ht
    refine ⟨?_, ab_p6_step hv hj hI⟩
    obtain ⟨m, hm, om, _⟩ := hI
    obtain ⟨o, ho4, eo⟩ := (om.2.2.2.2.2.1 j (by omega)).1
    have hne : ¬ t.1 j = (-1) := by rw [eo, sI_m1a (by omega)]; exact id
    have ed : ab_dt W (-1) ps t.1 j = ab_dt W (-1) ps' t.1 j := by
      unfold ab_dt
      rw [if_neg hne, if_neg hne]
    unfold ab_lv ab_lv1
    rw [ed]
  rw [k6]
end HS
