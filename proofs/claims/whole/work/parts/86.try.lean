section TRY
variable {N : Nat} {S : Nat → Int32} {v y y0 y1 y2 z : Nat → Nat → Int32} {l : Nat → Nat → Int64} {d p p' n H t c k : Nat} {T A A' : Nat → Int32} {W : Int32 → (Nat → Int32) → Int32} {s : ab_S}
abbrev ab_TP (w : Int32) : Prop := ∃ k : Nat, k < 40 ∧ w = nI k ∧ (k < 5 ∨ (10 ≤ k ∧ k % 10 < 4))
theorem mX11_isTriable_t {w : Int32} {h : fk_H} (hw : ab_TP w) : fk_ev (d + 1) qX11_isTriable 0 [.int w] [] h = some (some (.int ((nI 1))), h) := by
  obtain ⟨k, hk, rfl, h5 | ⟨h10, h4⟩⟩ := hw
  · simp (disch := first | assumption | omega) only [rX11_isTriable, mX11_within, and_self, Option.bind_some, Option.toList_some, Option.toList_none, List.cons_append, List.nil_append, fk_b_0, nI_add, Nat.add_zero, Nat.zero_add, not_true_eq_false, not_false_eq_true, if_true, if_false, sI_le_t, sI_le_f, sI_lt_t, sI_lt_f, sI_eq_t, sI_eq_f, sI_rem, sI_div, sI_m1a, sI_m1b, sI_m1c, sI_m1d, sI_m1e, sI_m1f, sI_m2a, sI_m2b, sI_sub, pk_mul, sI_dec, fk_u_s, fk_u_o, sI_dec0, sI_z, sI_md, Bool.false_eq_true, Nat.reduceAdd, Nat.reduceMul, Nat.reduceSub, Nat.reduceMod, Nat.reduceDiv]
  · have e : ¬ (nI 0 ≤ nI k ∧ nI k < nI 5) := fun z => by
      have := (nI_ltI (by omega) (by omega)).mp z.2
      omega
    simp (disch := first | assumption | omega) only [rX11_isTriable, mX11_within, e, and_false, Option.bind_some, Option.toList_some, Option.toList_none, List.cons_append, List.nil_append, fk_b_0, nI_add, Nat.add_zero, Nat.zero_add, not_true_eq_false, not_false_eq_true, if_true, if_false, sI_le_t, sI_le_f, sI_lt_t, sI_lt_f, sI_eq_t, sI_eq_f, sI_rem, sI_div, sI_m1a, sI_m1b, sI_m1c, sI_m1d, sI_m1e, sI_m1f, sI_m2a, sI_m2b, sI_sub, pk_mul, sI_dec, fk_u_s, fk_u_o, sI_dec0, sI_z, sI_md, Bool.false_eq_true, Nat.reduceAdd, Nat.reduceMul, Nat.reduceSub, Nat.reduceMod, Nat.reduceDiv]
theorem mX11_isTriable_f {w : Int32} {h : fk_H} (hw : ¬ ab_TP w) : fk_ev (d + 1) qX11_isTriable 0 [.int w] [] h = some (some (.int ((nI 0))), h) := by
  by_cases h1 : nI 0 ≤ w ∧ w < nI 40
  · obtain ⟨k, hk, rfl⟩ := fk_ixn h1.1 h1.2 (by omega)
    have h5 : ¬ k < 5 := fun z => hw ⟨k, hk, rfl, Or.inl z⟩
    have e : ¬ (nI 0 ≤ nI k ∧ nI k < nI 5) := fun z => h5 ((nI_ltI (by omega) (by omega)).mp z.2)
    by_cases h10 : 10 ≤ k
    · have h4 : 4 ≤ k % 10 := by
        have : ¬ k % 10 < 4 := fun z => hw ⟨k, hk, rfl, Or.inr ⟨h10, z⟩⟩
        omega
      simp (disch := first | assumption | omega) only [rX11_isTriable, mX11_within, e, and_false, Option.bind_some, Option.toList_some, Option.toList_none, List.cons_append, List.nil_append, fk_b_0, nI_add, Nat.add_zero, Nat.zero_add, not_true_eq_false, not_false_eq_true, if_true, if_false, sI_le_t, sI_le_f, sI_lt_t, sI_lt_f, sI_eq_t, sI_eq_f, sI_rem, sI_div, sI_m1a, sI_m1b, sI_m1c, sI_m1d, sI_m1e, sI_m1f, sI_m2a, sI_m2b, sI_sub, pk_mul, sI_dec, fk_u_s, fk_u_o, sI_dec0, sI_z, sI_md, Bool.false_eq_true, Nat.reduceAdd, Nat.reduceMul, Nat.reduceSub, Nat.reduceMod, Nat.reduceDiv]
    · simp (disch := first | assumption | omega) only [rX11_isTriable, mX11_within, e, and_false, Option.bind_some, Option.toList_some, Option.toList_none, List.cons_append, List.nil_append, fk_b_0, nI_add, Nat.add_zero, Nat.zero_add, not_true_eq_false, not_false_eq_true, if_true, if_false, sI_le_t, sI_le_f, sI_lt_t, sI_lt_f, sI_eq_t, sI_eq_f, sI_rem, sI_div, sI_m1a, sI_m1b, sI_m1c, sI_m1d, sI_m1e, sI_m1f, sI_m2a, sI_m2b, sI_sub, pk_mul, sI_dec, fk_u_s, fk_u_o, sI_dec0, sI_z, sI_md, Bool.false_eq_true, Nat.reduceAdd, Nat.reduceMul, Nat.reduceSub, Nat.reduceMod, Nat.reduceDiv]
  · have e : ¬ (nI 0 ≤ w ∧ w < nI 5) := fun z => h1 ⟨z.1, Int32.lt_of_lt_of_le z.2 (by decide)⟩
    by_cases c1 : w < nI 10
    · simp (disch := first | assumption | omega) only [rX11_isTriable, mX11_within, e, c1, Option.bind_some, Option.toList_some, Option.toList_none, List.cons_append, List.nil_append, fk_b_0, nI_add, Nat.add_zero, Nat.zero_add, not_true_eq_false, not_false_eq_true, if_true, if_false, sI_le_t, sI_le_f, sI_lt_t, sI_lt_f, sI_eq_t, sI_eq_f, sI_rem, sI_div, sI_m1a, sI_m1b, sI_m1c, sI_m1d, sI_m1e, sI_m1f, sI_m2a, sI_m2b, sI_sub, pk_mul, sI_dec, fk_u_s, fk_u_o, sI_dec0, sI_z, sI_md, Bool.false_eq_true, Nat.reduceAdd, Nat.reduceMul, Nat.reduceSub, Nat.reduceMod, Nat.reduceDiv]
    · have c2 : nI 40 ≤ w := Int32.not_lt.mp fun z => h1 ⟨Int32.le_trans (by decide) (Int32.not_lt.mp c1), z⟩
      simp (disch := first | assumption | omega) only [rX11_isTriable, mX11_within, e, c1, c2, Option.bind_some, Option.toList_some, Option.toList_none, List.cons_append, List.nil_append, fk_b_0, nI_add, Nat.add_zero, Nat.zero_add, not_true_eq_false, not_false_eq_true, if_true, if_false, sI_le_t, sI_le_f, sI_lt_t, sI_lt_f, sI_eq_t, sI_eq_f, sI_rem, sI_div, sI_m1a, sI_m1b, sI_m1c, sI_m1d, sI_m1e, sI_m1f, sI_m2a, sI_m2b, sI_sub, pk_mul, sI_dec, fk_u_s, fk_u_o, sI_dec0, sI_z, sI_md, Bool.false_eq_true, Nat.reduceAdd, Nat.reduceMul, Nat.reduceSub, Nat.reduceMod, Nat.reduceDiv]
theorem mX12_tried_t {m w : Int32} {h : fk_H} (hw : ab_TP w) : fk_ev (d + 1) qX12_tried 0 [.ref 246, .int m, .int w, .null, .null] [] h = fk_ev (d + 1) qX12_tried 34 [.ref 246, .int m, .int w, .int (nI 1), .null] [] h := by
  obtain ⟨k, hk, rfl, h5 | ⟨h10, h4⟩⟩ := hw
  · have e : nI 0 ≤ nI k ∧ nI k ≤ nI 4 := ⟨nI_le (by omega) (by omega), nI_le (by omega) (by omega)⟩
    simp (disch := first | assumption | omega) only [rX12_tried, mX12_in, e, and_self, Option.bind_some, Option.toList_some, Option.toList_none, List.cons_append, List.nil_append, fk_b_0, nI_add, Nat.add_zero, Nat.zero_add, not_true_eq_false, not_false_eq_true, if_true, if_false, sI_le_t, sI_le_f, sI_lt_t, sI_lt_f, sI_eq_t, sI_eq_f, sI_rem, sI_div, sI_m1a, sI_m1b, sI_m1c, sI_m1d, sI_m1e, sI_m1f, sI_m2a, sI_m2b, sI_sub, pk_mul, sI_dec, fk_u_s, fk_u_o, sI_dec0, sI_z, sI_md, Bool.false_eq_true, Nat.reduceAdd, Nat.reduceMul, Nat.reduceSub, Nat.reduceMod, Nat.reduceDiv]
  · have e : ¬ (nI 0 ≤ nI k ∧ nI k ≤ nI 4) := fun z => by
      have := (nI_leI (by omega) (by omega)).mp z.2
      omega
    have e2 : nI 10 ≤ nI k ∧ nI k ≤ nI 39 := ⟨nI_le (by omega) (by omega), nI_le (by omega) (by omega)⟩
    simp (disch := first | assumption | omega) only [rX12_tried, mX12_in, e, e2, and_self, and_false, Option.bind_some, Option.toList_some, Option.toList_none, List.cons_append, List.nil_append, fk_b_0, nI_add, Nat.add_zero, Nat.zero_add, not_true_eq_false, not_false_eq_true, if_true, if_false, sI_le_t, sI_le_f, sI_lt_t, sI_lt_f, sI_eq_t, sI_eq_f, sI_rem, sI_div, sI_m1a, sI_m1b, sI_m1c, sI_m1d, sI_m1e, sI_m1f, sI_m2a, sI_m2b, sI_sub, pk_mul, sI_dec, fk_u_s, fk_u_o, sI_dec0, sI_z, sI_md, Bool.false_eq_true, Nat.reduceAdd, Nat.reduceMul, Nat.reduceSub, Nat.reduceMod, Nat.reduceDiv]
theorem mX12_tried_f {m w : Int32} {h : fk_H} (hw : ¬ ab_TP w) : fk_ev (d + 1) qX12_tried 0 [.ref 246, .int m, .int w, .null, .null] [] h = fk_ev (d + 1) qX12_tried 34 [.ref 246, .int m, .int w, .int (nI 0), .null] [] h := by
  have e : ¬ (nI 0 ≤ w ∧ w ≤ nI 4) := fun z => by
    obtain ⟨k, hk, rfl⟩ := fk_ixn2 z.1 z.2 (by omega)
    exact hw ⟨k, by omega, rfl, Or.inl (by omega)⟩
  by_cases h1 : nI 10 ≤ w ∧ w ≤ nI 39
  · obtain ⟨k, hk, rfl⟩ := (fk_wi2 (a := 10) (b := 39) (m := 30) (by omega) (by omega)).mp h1
    have h4 : 4 ≤ (10 + k) % 10 := by
      have : ¬ (10 + k) % 10 < 4 := fun z => hw ⟨10 + k, by omega, rfl, Or.inr ⟨by omega, z⟩⟩
      omega
    simp (disch := first | assumption | omega) only [rX12_tried, mX12_in, e, h1, and_self, and_false, Option.bind_some, Option.toList_some, Option.toList_none, List.cons_append, List.nil_append, fk_b_0, nI_add, Nat.add_zero, Nat.zero_add, not_true_eq_false, not_false_eq_true, if_true, if_false, sI_le_t, sI_le_f, sI_lt_t, sI_lt_f, sI_eq_t, sI_eq_f, sI_rem, sI_div, sI_m1a, sI_m1b, sI_m1c, sI_m1d, sI_m1e, sI_m1f, sI_m2a, sI_m2b, sI_sub, pk_mul, sI_dec, fk_u_s, fk_u_o, sI_dec0, sI_z, sI_md, Bool.false_eq_true, Nat.reduceAdd, Nat.reduceMul, Nat.reduceSub, Nat.reduceMod, Nat.reduceDiv]
  · simp (disch := first | assumption | omega) only [rX12_tried, mX12_in, e, h1, Option.bind_some, Option.toList_some, Option.toList_none, List.cons_append, List.nil_append, fk_b_0, nI_add, Nat.add_zero, Nat.zero_add, not_true_eq_false, not_false_eq_true, if_true, if_false, sI_le_t, sI_le_f, sI_lt_t, sI_lt_f, sI_eq_t, sI_eq_f, sI_rem, sI_div, sI_m1a, sI_m1b, sI_m1c, sI_m1d, sI_m1e, sI_m1f, sI_m2a, sI_m2b, sI_sub, pk_mul, sI_dec, fk_u_s, fk_u_o, sI_dec0, sI_z, sI_md, Bool.false_eq_true, Nat.reduceAdd, Nat.reduceMul, Nat.reduceSub, Nat.reduceMod, Nat.reduceDiv]
theorem ab_tg_1 {one : Int32} : ab_tg A (fun _ => nI 1) one n = nI (fk_cf (fun j => decide (A (192 + j) = nI 1 ∧ A j = one)) 0 n) := by
  induction n with
  | zero => rfl
  | succ n ih =>
    rw [ab_tg_s rfl, ih, fk_cf_succ, Nat.zero_add]
    by_cases c : A (192 + n) = nI 1 ∧ A n = one
    · rw [if_pos c, nI_add, if_pos (decide_eq_true c)]
    · rw [if_neg c, if_neg (by rw [decide_eq_true_eq]; exact c), Nat.add_zero]
/-- hours tried on people 167 -/
theorem mX11_tried_loop (hv : ab_rv v) (hN : ck_nt v y) (hL : ck_LC W c y) (g2 : y 238 2 = nI 167) (g3 : y 238 3 = nI c) (g4 : y 238 4 = (-1)) (ho : ab_ok v n H A) (hpr : ck_pr 167 y T A) {w : Value} (hk3 : H + k ≤ 999) (hk : k ≤ 48) : ∃ y1 n1, fk_ev (d + 8) qX11_tried 52 [.ref 1, .int (nI k), w, .int (nI 0)] [] (fk_E N y l) = fk_ev (d + 8) qX11_tried 52 [.ref 1, .int (nI k), w, .int (nI k)] [] (fk_E N y1 l) ∧ ab_ok v n1 (H + k) (fk_it (fun _ A => ab_KA v W A) 0 k A) ∧ ck_pr 167 y1 T (fk_it (fun _ A => ab_KA v W A) 0 k A) ∧ ∀ k', ¬ (167 ≤ k' ∧ k' < 167 + 67) → k' ≠ 238 → k' ≠ 239 → k' ≠ c + 7 → y1 k' = y k' := by
  have hp : ck_pp 167 := Or.inr (Or.inr rfl)
  have key := fk_loopr (σ := Nat → Nat → Int32) (fun g t => fk_ev (d + 8) qX11_tried 52 [.ref 1, .int (nI k), w, .int (nI g)] [] (fk_E N t l)) (fun g t => ∃ s n1, ck_cs y 167 c T (nI 0) 0 t s ∧ s.1 = fk_it (fun _ A => ab_KA v W A) 0 g A ∧ ab_ok v n1 (H + g) s.1) k (by
    rintro g t hg ⟨s, n1, i1, i2, i3⟩
    try dsimp only
    have o1 : ab_ok v n1 (H + g) (ab_rm s.1) := ab_ok_hi i3 fun k hk => ab_rm_lo (by omega)
    have r1 : ck_cs y 167 c T (nI 0) 0 t (ab_rm s.1, s.2) := ⟨ck_pr_hi i1.1 (by rw [ab_ok_n i3]; exact i3.1) fun i hi => ab_rm_lo (by omega), i1.2⟩
    obtain ⟨y2, m, e2, r2, hnm, o2⟩ := mX6_goBy (N := N) (l := l) (d := d + 3) hL hv hN hp g2 g3 r1 o1 (show H + g < 999 by omega)
    generalize hz : ab_hr v W (y 238 4) (y 238 5) (¬ y 238 4 = (-1)) (ab_rm s.1, s.2) = z at r2 o2
    have hz2 : z = ab_hh v W (-1) (y 238 5) (¬ (-1 : Int32) = (-1)) s := by
      unfold ab_hh
      rw [← hz, g4]
    have hzA : z.1 = ab_KA v W s.1 := by rw [hz2]; exact ab_KA_eq (fun h => h rfl) hv i3
    refine ⟨y2, ?_, z, m, r2, ?_, o2⟩
    · rw [hX11_tried_52]
      simp (disch := first | assumption | omega) only [rX11_tried, e2, Option.bind_some, Option.toList_some, Option.toList_none, List.cons_append, List.nil_append, fk_b_0, nI_add, Nat.add_zero, Nat.zero_add, not_true_eq_false, not_false_eq_true, if_true, if_false, sI_le_t, sI_le_f, sI_lt_t, sI_lt_f, sI_eq_t, sI_eq_f, sI_rem, sI_div, sI_m1a, sI_m1b, sI_m1c, sI_m1d, sI_m1e, sI_m1f, sI_m2a, sI_m2b, sI_sub, pk_mul, sI_dec, fk_u_s, fk_u_o, sI_dec0, sI_z, sI_md, Bool.false_eq_true, Nat.reduceAdd, Nat.reduceMul, Nat.reduceSub, Nat.reduceMod, Nat.reduceDiv]
    · rw [hzA, i2]
      exact (fk_it_kk (f := ab_KA v W)).symm) k 0 y (Nat.zero_add k) ⟨(A, fun j => y (167 + 3 + j) 14, y 238 7 ||| nI 0, y 238 6), n, ck_cs_of hpr, rfl, ho⟩
  obtain ⟨y1, e, s, n1, i1, i2, i3⟩ := key
  have r1 := i1.1
  rw [i2] at i3 r1
  exact ⟨y1, n1, e, i3, r1, i1.2.2.2.2.2⟩
theorem mX12_tried_loop (HW : fk_LR W v) (hv : ab_rv v) (hs : fk_rs v y s) (ho : ab_ok v n H s.1) (h33 : v 246 33 = (-1)) (h36 : v 246 36 = nI 0) {w x : Value} (hk3 : H + k ≤ 999) (hk : k ≤ 48) : ∃ y1 s1 n1, fk_ev (d + 8) qX12_tried 73 [.ref 246, .int (nI k), w, x, .int (nI 0)] [] (fk_E N y l) = fk_ev (d + 8) qX12_tried 73 [.ref 246, .int (nI k), w, x, .int (nI k)] [] (fk_E N y1 l) ∧ fk_rs v y1 s1 ∧ s1.1 = fk_it (fun _ A => ab_KA v W A) 0 k s.1 ∧ ab_ok v n1 (H + k) s1.1 := by
  have key := fk_loopr (σ := Nat → Nat → Int32) (fun g t => fk_ev (d + 8) qX12_tried 73 [.ref 246, .int (nI k), w, x, .int (nI g)] [] (fk_E N t l)) (fun g t => ∃ s1 n1, fk_rs v t s1 ∧ s1.1 = fk_it (fun _ A => ab_KA v W A) 0 g s.1 ∧ ab_ok v n1 (H + g) s1.1) k (by
    rintro g t hg ⟨s1, n1, i1, i2, i3⟩
    try dsimp only
    obtain ⟨y', m, e, r, hm, o⟩ := mX12_hourGoes (N := N) (l := l) (d := d) HW hv i1 i3 (show H + g < 999 by omega)
    refine ⟨y', ?_, _, m, r, ?_, o⟩
    · rw [hX12_tried_73]
      simp (disch := first | assumption | omega) only [rX12_tried, e, Option.bind_some, Option.toList_some, Option.toList_none, List.cons_append, List.nil_append, fk_b_0, nI_add, Nat.add_zero, Nat.zero_add, not_true_eq_false, not_false_eq_true, if_true, if_false, sI_le_t, sI_le_f, sI_lt_t, sI_lt_f, sI_eq_t, sI_eq_f, sI_rem, sI_div, sI_m1a, sI_m1b, sI_m1c, sI_m1d, sI_m1e, sI_m1f, sI_m2a, sI_m2b, sI_sub, pk_mul, sI_dec, fk_u_s, fk_u_o, sI_dec0, sI_z, sI_md, Bool.false_eq_true, Nat.reduceAdd, Nat.reduceMul, Nat.reduceSub, Nat.reduceMod, Nat.reduceDiv]
    · rw [fk_it_kk (f := ab_KA v W), ← i2, h33]
      exact ab_KA_eq (fun h => h h36) hv i3) k 0 y (Nat.zero_add k) ⟨s, n, hs, rfl, ho⟩
  obtain ⟨y1, e, s1, n1, i1, i2, i3⟩ := key
  exact ⟨y1, s1, n1, e, i1, i2, i3⟩
/-- what is told of hours that were tried: A before, B behind -/
def ab_td (A B : Nat → Int32) (n k : Nat) : Int32 := if k = 0 then nI (fk_cf (fun j => decide (B (192 + j) = nI 1)) 0 n) else if k = 1 then B 838 - A 838 else if k = 2 then B 837 - A 837 else if k = 3 then B 836 - A 836 else if k = 4 then B 835 - A 835 else if k / 10 = 1 then nI (fk_cf (fun j => decide (B (192 + j) = nI 1 ∧ B j = nI (k % 10))) 0 n) else if k / 10 = 2 then ab_tg B (fun j => B (256 + j)) (nI (k % 10)) n else ab_tg B (fun j => B (576 + j)) (nI (k % 10)) n
theorem mX12_triedBy {B : Nat → Int32} (ho : ab_ok v n H B) (e1 : y 247 = B) (e2 : ∀ i, i < 839 → y 248 i = A i) (hk : k < 5 ∨ (10 ≤ k ∧ k < 40 ∧ k % 10 < 4)) : fk_ev (d + 2) qX12_triedBy 0 [.ref 246, .int ((nI k))] [] (fk_E N y l) = some (some (.int ((ab_td A B n k))), fk_E N y l) := by
  subst e1
  have hn := ho.1
  have hm := ho.2.1
  rcases hk with h5 | ⟨h10, h40, h4⟩
  · have hh : k = 0 ∨ k = 1 ∨ k = 2 ∨ k = 3 ∨ k = 4 := by omega
    rcases hh with rfl | rfl | rfl | rfl | rfl
    · simp (disch := first | assumption | omega) only [rX12_triedBy, mX12_living hn hm, Option.bind_some, Option.toList_some, Option.toList_none, List.cons_append, List.nil_append, fk_b_0, nI_add, Nat.add_zero, Nat.zero_add, not_true_eq_false, not_false_eq_true, if_true, if_false, sI_le_t, sI_le_f, sI_lt_t, sI_lt_f, sI_eq_t, sI_eq_f, sI_rem, sI_div, sI_m1a, sI_m1b, sI_m1c, sI_m1d, sI_m1e, sI_m1f, sI_m2a, sI_m2b, sI_sub, pk_mul, sI_dec, fk_u_s, fk_u_o, sI_dec0, sI_z, sI_md, Bool.false_eq_true, Nat.reduceAdd, Nat.reduceMul, Nat.reduceSub, Nat.reduceMod, Nat.reduceDiv]
      rfl
    · simp (disch := first | assumption | omega) only [rX12_triedBy, e2 838 (by omega), Option.bind_some, Option.toList_some, Option.toList_none, List.cons_append, List.nil_append, fk_b_0, nI_add, Nat.add_zero, Nat.zero_add, not_true_eq_false, not_false_eq_true, if_true, if_false, sI_le_t, sI_le_f, sI_lt_t, sI_lt_f, sI_eq_t, sI_eq_f, sI_rem, sI_div, sI_m1a, sI_m1b, sI_m1c, sI_m1d, sI_m1e, sI_m1f, sI_m2a, sI_m2b, sI_sub, pk_mul, sI_dec, fk_u_s, fk_u_o, sI_dec0, sI_z, sI_md, Bool.false_eq_true, Nat.reduceAdd, Nat.reduceMul, Nat.reduceSub, Nat.reduceMod, Nat.reduceDiv]
      rfl
    · simp (disch := first | assumption | omega) only [rX12_triedBy, e2 837 (by omega), Option.bind_some, Option.toList_some, Option.toList_none, List.cons_append, List.nil_append, fk_b_0, nI_add, Nat.add_zero, Nat.zero_add, not_true_eq_false, not_false_eq_true, if_true, if_false, sI_le_t, sI_le_f, sI_lt_t, sI_lt_f, sI_eq_t, sI_eq_f, sI_rem, sI_div, sI_m1a, sI_m1b, sI_m1c, sI_m1d, sI_m1e, sI_m1f, sI_m2a, sI_m2b, sI_sub, pk_mul, sI_dec, fk_u_s, fk_u_o, sI_dec0, sI_z, sI_md, Bool.false_eq_true, Nat.reduceAdd, Nat.reduceMul, Nat.reduceSub, Nat.reduceMod, Nat.reduceDiv]
      rfl
    · simp (disch := first | assumption | omega) only [rX12_triedBy, e2 836 (by omega), Option.bind_some, Option.toList_some, Option.toList_none, List.cons_append, List.nil_append, fk_b_0, nI_add, Nat.add_zero, Nat.zero_add, not_true_eq_false, not_false_eq_true, if_true, if_false, sI_le_t, sI_le_f, sI_lt_t, sI_lt_f, sI_eq_t, sI_eq_f, sI_rem, sI_div, sI_m1a, sI_m1b, sI_m1c, sI_m1d, sI_m1e, sI_m1f, sI_m2a, sI_m2b, sI_sub, pk_mul, sI_dec, fk_u_s, fk_u_o, sI_dec0, sI_z, sI_md, Bool.false_eq_true, Nat.reduceAdd, Nat.reduceMul, Nat.reduceSub, Nat.reduceMod, Nat.reduceDiv]
      rfl
    · simp (disch := first | assumption | omega) only [rX12_triedBy, e2 835 (by omega), Option.bind_some, Option.toList_some, Option.toList_none, List.cons_append, List.nil_append, fk_b_0, nI_add, Nat.add_zero, Nat.zero_add, not_true_eq_false, not_false_eq_true, if_true, if_false, sI_le_t, sI_le_f, sI_lt_t, sI_lt_f, sI_eq_t, sI_eq_f, sI_rem, sI_div, sI_m1a, sI_m1b, sI_m1c, sI_m1d, sI_m1e, sI_m1f, sI_m2a, sI_m2b, sI_sub, pk_mul, sI_dec, fk_u_s, fk_u_o, sI_dec0, sI_z, sI_md, Bool.false_eq_true, Nat.reduceAdd, Nat.reduceMul, Nat.reduceSub, Nat.reduceMod, Nat.reduceDiv]
      rfl
  · have ht : (nI k).toInt < 0 ∨ 4 < (nI k).toInt := by rw [fk_toInt_nI (by omega)]; omega
    have td : ab_td A (y 247) n k = if k / 10 = 1 then nI (fk_cf (fun j => decide (y 247 (192 + j) = nI 1 ∧ y 247 j = nI (k % 10))) 0 n) else if k / 10 = 2 then ab_tg (y 247) (fun j => y 247 (256 + j)) (nI (k % 10)) n else ab_tg (y 247) (fun j => y 247 (576 + j)) (nI (k % 10)) n := by
      unfold ab_td
      rw [if_neg (by omega), if_neg (by omega), if_neg (by omega), if_neg (by omega), if_neg (by omega)]
    rw [td]
    have hh : k / 10 = 1 ∨ k / 10 = 2 ∨ k / 10 = 3 := by omega
    rcases hh with h | h | h
    · rw [if_pos h]
      simp (disch := first | assumption | omega) only [rX12_triedBy, show k - 10 = k % 10 by omega, mX12_livingOf hn hm, Option.bind_some, Option.toList_some, Option.toList_none, List.cons_append, List.nil_append, fk_b_0, nI_add, Nat.add_zero, Nat.zero_add, not_true_eq_false, not_false_eq_true, if_true, if_false, sI_le_t, sI_le_f, sI_lt_t, sI_lt_f, sI_eq_t, sI_eq_f, sI_rem, sI_div, sI_m1a, sI_m1b, sI_m1c, sI_m1d, sI_m1e, sI_m1f, sI_m2a, sI_m2b, sI_sub, pk_mul, sI_dec, fk_u_s, fk_u_o, sI_dec0, sI_z, sI_md, Bool.false_eq_true, Nat.reduceAdd, Nat.reduceMul, Nat.reduceSub, Nat.reduceMod, Nat.reduceDiv]
    · rw [if_neg (by omega), if_pos h]
      simp (disch := first | assumption | omega) only [rX12_triedBy, show k - 20 = k % 10 by omega, mX12_sumFor (col := 256) (by omega) hn hm, Option.bind_some, Option.toList_some, Option.toList_none, List.cons_append, List.nil_append, fk_b_0, nI_add, Nat.add_zero, Nat.zero_add, not_true_eq_false, not_false_eq_true, if_true, if_false, sI_le_t, sI_le_f, sI_lt_t, sI_lt_f, sI_eq_t, sI_eq_f, sI_rem, sI_div, sI_m1a, sI_m1b, sI_m1c, sI_m1d, sI_m1e, sI_m1f, sI_m2a, sI_m2b, sI_sub, pk_mul, sI_dec, fk_u_s, fk_u_o, sI_dec0, sI_z, sI_md, Bool.false_eq_true, Nat.reduceAdd, Nat.reduceMul, Nat.reduceSub, Nat.reduceMod, Nat.reduceDiv]
    · rw [if_neg (by omega), if_neg (by omega)]
      simp (disch := first | assumption | omega) only [rX12_triedBy, show k - 30 = k % 10 by omega, mX12_sumFor (col := 576) (by omega) hn hm, Option.bind_some, Option.toList_some, Option.toList_none, List.cons_append, List.nil_append, fk_b_0, nI_add, Nat.add_zero, Nat.zero_add, not_true_eq_false, not_false_eq_true, if_true, if_false, sI_le_t, sI_le_f, sI_lt_t, sI_lt_f, sI_eq_t, sI_eq_f, sI_rem, sI_div, sI_m1a, sI_m1b, sI_m1c, sI_m1d, sI_m1e, sI_m1f, sI_m2a, sI_m2b, sI_sub, pk_mul, sI_dec, fk_u_s, fk_u_o, sI_dec0, sI_z, sI_md, Bool.false_eq_true, Nat.reduceAdd, Nat.reduceMul, Nat.reduceSub, Nat.reduceMod, Nat.reduceDiv]
theorem mX11_tried_end {B : Nat → Int32} {x x' : Value} (ho : ab_ok v n H B) (hp : ck_pr 167 y A B) {g : Nat} (hg : g < 1000) (hk : k < 5 ∨ (10 ≤ k ∧ k < 40 ∧ k % 10 < 4)) : fk_ev (d + 8) qX11_tried 52 [.ref 1, .int (nI g), .int (nI k), .int (nI g)] [] (fk_E N y l) = some (some (.int (ab_td A B n k)), fk_E N y l) := by
  have hpp : ck_pp 167 := Or.inr (Or.inr rfl)
  have h8 := (ck_pp_at hpp).1
  obtain ⟨q1, q2, q3, q4, q5, q6, q7⟩ := hp.1
  rw [hX11_tried_52]
  rcases hk with h5 | ⟨h10, h40, h4⟩
  · have hh : k = 0 ∨ k = 1 ∨ k = 2 ∨ k = 3 ∨ k = 4 := by omega
    rcases hh with rfl | rfl | rfl | rfl | rfl
    · simp (disch := first | assumption | omega) only [rX11_tried, mX8_livingInAll hpp hp ho, Option.bind_some, Option.toList_some, Option.toList_none, List.cons_append, List.nil_append, fk_b_0, nI_add, Nat.add_zero, Nat.zero_add, not_true_eq_false, not_false_eq_true, if_true, if_false, sI_le_t, sI_le_f, sI_lt_t, sI_lt_f, sI_eq_t, sI_eq_f, sI_rem, sI_div, sI_m1a, sI_m1b, sI_m1c, sI_m1d, sI_m1e, sI_m1f, sI_m2a, sI_m2b, sI_sub, pk_mul, sI_dec, fk_u_s, fk_u_o, sI_dec0, sI_z, sI_md, Bool.false_eq_true, Nat.reduceAdd, Nat.reduceMul, Nat.reduceSub, Nat.reduceMod, Nat.reduceDiv]
      rfl
    · have e : ab_td A B n 1 = y 167 5 := by
        show B 838 - A 838 = y 167 5
        rw [← q4, Int32.add_sub_cancel]
      rw [e]
      simp (disch := first | assumption | omega) only [rX11_tried, Option.bind_some, Option.toList_some, Option.toList_none, List.cons_append, List.nil_append, fk_b_0, nI_add, Nat.add_zero, Nat.zero_add, not_true_eq_false, not_false_eq_true, if_true, if_false, sI_le_t, sI_le_f, sI_lt_t, sI_lt_f, sI_eq_t, sI_eq_f, sI_rem, sI_div, sI_m1a, sI_m1b, sI_m1c, sI_m1d, sI_m1e, sI_m1f, sI_m2a, sI_m2b, sI_sub, pk_mul, sI_dec, fk_u_s, fk_u_o, sI_dec0, sI_z, sI_md, Bool.false_eq_true, Nat.reduceAdd, Nat.reduceMul, Nat.reduceSub, Nat.reduceMod, Nat.reduceDiv]
    · have e : ab_td A B n 2 = y 167 6 := by
        show B 837 - A 837 = y 167 6
        rw [← q5, Int32.add_sub_cancel]
      rw [e]
      simp (disch := first | assumption | omega) only [rX11_tried, Option.bind_some, Option.toList_some, Option.toList_none, List.cons_append, List.nil_append, fk_b_0, nI_add, Nat.add_zero, Nat.zero_add, not_true_eq_false, not_false_eq_true, if_true, if_false, sI_le_t, sI_le_f, sI_lt_t, sI_lt_f, sI_eq_t, sI_eq_f, sI_rem, sI_div, sI_m1a, sI_m1b, sI_m1c, sI_m1d, sI_m1e, sI_m1f, sI_m2a, sI_m2b, sI_sub, pk_mul, sI_dec, fk_u_s, fk_u_o, sI_dec0, sI_z, sI_md, Bool.false_eq_true, Nat.reduceAdd, Nat.reduceMul, Nat.reduceSub, Nat.reduceMod, Nat.reduceDiv]
    · have e : ab_td A B n 3 = y 167 7 := by
        show B 836 - A 836 = y 167 7
        rw [← q6, Int32.add_sub_cancel]
      rw [e]
      simp (disch := first | assumption | omega) only [rX11_tried, Option.bind_some, Option.toList_some, Option.toList_none, List.cons_append, List.nil_append, fk_b_0, nI_add, Nat.add_zero, Nat.zero_add, not_true_eq_false, not_false_eq_true, if_true, if_false, sI_le_t, sI_le_f, sI_lt_t, sI_lt_f, sI_eq_t, sI_eq_f, sI_rem, sI_div, sI_m1a, sI_m1b, sI_m1c, sI_m1d, sI_m1e, sI_m1f, sI_m2a, sI_m2b, sI_sub, pk_mul, sI_dec, fk_u_s, fk_u_o, sI_dec0, sI_z, sI_md, Bool.false_eq_true, Nat.reduceAdd, Nat.reduceMul, Nat.reduceSub, Nat.reduceMod, Nat.reduceDiv]
    · have e : ab_td A B n 4 = y 167 8 := by
        show B 835 - A 835 = y 167 8
        rw [← q7, Int32.add_sub_cancel]
      rw [e]
      simp (disch := first | assumption | omega) only [rX11_tried, Option.bind_some, Option.toList_some, Option.toList_none, List.cons_append, List.nil_append, fk_b_0, nI_add, Nat.add_zero, Nat.zero_add, not_true_eq_false, not_false_eq_true, if_true, if_false, sI_le_t, sI_le_f, sI_lt_t, sI_lt_f, sI_eq_t, sI_eq_f, sI_rem, sI_div, sI_m1a, sI_m1b, sI_m1c, sI_m1d, sI_m1e, sI_m1f, sI_m2a, sI_m2b, sI_sub, pk_mul, sI_dec, fk_u_s, fk_u_o, sI_dec0, sI_z, sI_md, Bool.false_eq_true, Nat.reduceAdd, Nat.reduceMul, Nat.reduceSub, Nat.reduceMod, Nat.reduceDiv]
  · have ht : (nI k).toInt < 0 ∨ 4 < (nI k).toInt := by rw [fk_toInt_nI (by omega)]; omega
    have td : ab_td A B n k = ab_tg B (fun j => if k / 10 = 1 then nI 1 else if k / 10 = 2 then B (256 + j) else B (576 + j)) (nI (k % 10)) n := by
      unfold ab_td
      rw [if_neg (by omega), if_neg (by omega), if_neg (by omega), if_neg (by omega), if_neg (by omega)]
      have hh : k / 10 = 1 ∨ k / 10 = 2 ∨ k / 10 = 3 := by omega
      rcases hh with h | h | h
      · simp only [h, if_true]
        exact ab_tg_1.symm
      · simp only [h, if_true, show ((2 : Nat) = 1) = False from eq_false (by decide), if_false]
      · simp only [h, if_true, show ((3 : Nat) = 1) = False from eq_false (by decide), show ((3 : Nat) = 2) = False from eq_false (by decide), if_false]
    rw [td]
    simp (disch := first | assumption | omega) only [rX11_tried, mX8_together hpp ho hp (show k / 10 < 4 by omega), Option.bind_some, Option.toList_some, Option.toList_none, List.cons_append, List.nil_append, fk_b_0, nI_add, Nat.add_zero, Nat.zero_add, not_true_eq_false, not_false_eq_true, if_true, if_false, sI_le_t, sI_le_f, sI_lt_t, sI_lt_f, sI_eq_t, sI_eq_f, sI_rem, sI_div, sI_m1a, sI_m1b, sI_m1c, sI_m1d, sI_m1e, sI_m1f, sI_m2a, sI_m2b, sI_sub, pk_mul, sI_dec, fk_u_s, fk_u_o, sI_dec0, sI_z, sI_md, Bool.false_eq_true, Nat.reduceAdd, Nat.reduceMul, Nat.reduceSub, Nat.reduceMod, Nat.reduceDiv]
theorem cl_tried (hR : cR S y) {k w : Int32} : ∃ a y1 y2, fk_ev (d + 8) qX11_tried 0 [.ref 1, .int k, .int w, .null] [] (fk_E N y l) = some (some (.int a), fk_E N y1 l) ∧ fk_ev (d + 8) qX12_tried 0 [.ref 246, .int k, .int w, .null, .null] [] (fk_E N y1 l) = some (some (.int a), fk_E N y2 l) ∧ cR S y2 := by
  obtain ⟨r0, r1, r2, ⟨n, H, p1, p2, p3, p4⟩, r4, r5, ⟨c, W, q1, q2, q3, q4, q5, q6⟩, r7, r8, r9⟩ := id hR
  have hn := p1.1
  have hH := p1.2.2.2.1
  have e3 : y 33 3 = nI H := p3.1.2.1.trans p1.2.2.1
  have e832 := p1.2.2.1
  have hcp := mX11_canPass (N := N) (l := l) (d := d + 7) (k := k) e3
  by_cases hg : nI 1 ≤ k ∧ k ≤ nI 48 ∧ nI H + k ≤ nI 999
  · rw [fk_b_t hg] at hcp
    by_cases hw : ab_TP w
    · have hit := mX11_isTriable_t (d := d + 6) (h := fk_E N y l) hw
      obtain ⟨w', hw40, rfl, hw2⟩ := id hw
      have hw3 : w' < 5 ∨ (10 ≤ w' ∧ w' < 40 ∧ w' % 10 < 4) := by omega
      obtain ⟨k, hk48, rfl⟩ := fk_ixn2 (Int32.le_trans (by decide) hg.1) hg.2.1 (by omega)
      have hk1 : 1 ≤ k := (nI_leI (by omega) (by omega)).mp hg.1
      have hk3 : H + k ≤ 999 := by
        have := hg.2.2
        rw [nI_add] at this
        exact (nI_leI (by omega) (by omega)).mp this
      have hp167 : ck_pp 167 := Or.inr (Or.inr rfl)
      have h167 := (ck_pp_at hp167).1
      have h33 := n8
      obtain ⟨z, e1, z1, z2⟩ := mX8_copyFrom (N := N) (l := l) (d := d + 6) (p := 167) (p' := 33) hp167 (Or.inl rfl) (by omega) p3 p1 r9
      generalize eu : fk_u (fk_u (fk_u (fk_u z 167 5 (nI 0)) 167 6 (nI 0)) 167 7 (nI 0)) 167 8 (nI 0) = u
      have uo : ∀ k, k ≠ 167 → u k = z k := fun k hk => by rw [← eu, fk_u_rowo hk, fk_u_rowo hk, fk_u_rowo hk, fk_u_rowo hk]
      have ui : ∀ i, i < 5 → u 167 i = z 167 i := fun i hi => by rw [← eu, fk_u_o (by omega), fk_u_o (by omega), fk_u_o (by omega), fk_u_o (by omega)]
      have u5 : u 167 5 = nI 0 := by rw [← eu, fk_u_o (by omega), fk_u_o (by omega), fk_u_o (by omega), fk_u_s]
      have u6 : u 167 6 = nI 0 := by rw [← eu, fk_u_o (by omega), fk_u_o (by omega), fk_u_s]
      have u7 : u 167 7 = nI 0 := by rw [← eu, fk_u_o (by omega), fk_u_s]
      have u8 : u 167 8 = nI 0 := by rw [← eu, fk_u_s]
      have pu : ck_pr 167 u (y 247) (y 247) := by
        obtain ⟨⟨g1, g2, g3, g4, g5, g6, g7⟩, h2, h3, h4, h5⟩ := z1
        refine ⟨⟨by rw [ui 2 (by omega)]; exact g1, by rw [ui 3 (by omega)]; exact g2, by rw [ui 4 (by omega)]; exact g3, ?_, ?_, ?_, ?_⟩, fun j hj => by rw [uo _ (by omega)]; exact h2 j hj, fun j hj hj2 => by rw [uo _ (by omega)]; exact h3 j hj hj2, fun j hj hj2 => by rw [uo _ (by omega)]; exact h4 j hj hj2, fun o ho => by rw [uo _ (by omega)]; exact h5 o ho⟩
        · rw [u5, nI_0, Int32.zero_add]
        · rw [u6, nI_0, Int32.zero_add]
        · rw [u7, nI_0, Int32.zero_add]
        · rw [u8, nI_0, Int32.zero_add]
      generalize ex : fk_u (fk_u (fk_u u 238 2 (nI 167)) 238 3 (nI c)) 238 4 (-1) = x
      have xo : ∀ k, k ≠ 238 → x k = u k := fun k hk => by rw [← ex, fk_u_rowo hk, fk_u_rowo hk, fk_u_rowo hk]
      have xf : ∀ k, ¬ (167 ≤ k ∧ k < 234) → k ≠ 238 → x k = y k := fun k h1 h2 => by rw [xo k h2, uo k (by omega), z2 k (by omega)]
      obtain ⟨y1, n1, f1, f2, f3, f4⟩ := mX11_tried_loop (N := N) (l := l) (d := d) (v := y) (y := x) (c := c) (W := W) (w := .int (nI w')) (k := k) r1 (ck_nt_c rfl (fun _ _ _ => rfl) (fun k h1 h2 => xf k (by omega) (by omega)) r2) (ck_LC_c (fun k h1 h2 => xf k (by omega) (by omega)) (by rw [xf c (by omega) (by omega)]) (by rw [xf c (by omega) (by omega)]) q4) (by rw [← ex, fk_u_o (by omega), fk_u_o (by omega), fk_u_s]) (by rw [← ex, fk_u_o (by omega), fk_u_s]) (by rw [← ex, fk_u_s]) p1 (ck_pr_k pu fun k h1 h2 => xo k (by omega)) hk3 hk48
      have y1f : ∀ k, ¬ (167 ≤ k ∧ k < 234) → k ≠ 238 → k ≠ 239 → k ≠ c + 7 → y1 k = y k := fun k h1 h2 h3 h4 => by rw [f4 k (by omega) h2 h3 h4, xf k h1 h2]
      have f : ∀ k', 246 ≤ k' → y1 k' = y k' := fun k' h => y1f k' (by omega) (by omega) (by omega) (by omega)
      have E1 : fk_ev (d + 8) qX11_tried 0 [.ref 1, .int ((nI k)), .int ((nI w')), .null] [] (fk_E N y l) = some (some (.int ((ab_td (y 247) (fk_it (fun _ A => ab_KA y W A) 0 k (y 247)) n1 w'))), fk_E N y1 l) := by
        have b0 := mX6_begin (N := N) (l := l) (d := d + 7) (y := u) (p := 167) (c := c) (by omega) (by omega)
        rw [ex] at b0
        have c0 : fk_ev (d + 7) qX8_clearTallies 0 [.ref 167] [] (fk_E N z l) = some (none, fk_E N u l) := by
          simp (disch := first | assumption | omega) only [rX8_clearTallies, eu, Option.bind_some, Option.toList_some, Option.toList_none, List.cons_append, List.nil_append, fk_b_0, nI_add, Nat.add_zero, Nat.zero_add, not_true_eq_false, not_false_eq_true, if_true, if_false, sI_le_t, sI_le_f, sI_lt_t, sI_lt_f, sI_eq_t, sI_eq_f, sI_rem, sI_div, sI_m1a, sI_m1b, sI_m1c, sI_m1d, sI_m1e, sI_m1f, sI_m2a, sI_m2b, sI_sub, pk_mul, sI_dec, fk_u_s, fk_u_o, sI_dec0, sI_z, sI_md, Bool.false_eq_true, Nat.reduceAdd, Nat.reduceMul, Nat.reduceSub, Nat.reduceMod, Nat.reduceDiv]
        have eU : u 1 0 = nI c := by rw [uo 1 (by omega), z2 1 (by omega)]; exact q2
        simp (disch := first | assumption | omega) only [rX11_tried, hcp, hit, e1, c0, eU, nI_clamp, b0, Option.bind_some, Option.toList_some, Option.toList_none, List.cons_append, List.nil_append, fk_b_0, nI_add, Nat.add_zero, Nat.zero_add, not_true_eq_false, not_false_eq_true, if_true, if_false, sI_le_t, sI_le_f, sI_lt_t, sI_lt_f, sI_eq_t, sI_eq_f, sI_rem, sI_div, sI_m1a, sI_m1b, sI_m1c, sI_m1d, sI_m1e, sI_m1f, sI_m2a, sI_m2b, sI_sub, pk_mul, sI_dec, fk_u_s, fk_u_o, sI_dec0, sI_z, sI_md, Bool.false_eq_true, Nat.reduceAdd, Nat.reduceMul, Nat.reduceSub, Nat.reduceMod, Nat.reduceDiv]
        rw [f1]
        exact mX11_tried_end (x := .null) (x' := .null) f2 f3 (by omega) hw3
      generalize eV : fk_cp y1 247 248 3912 = V
      have Vo : ∀ k, k ≠ 248 → V k = y1 k := fun k hk => by
        rw [← eV]
        funext i
        exact if_neg fun q => hk q.1
      have V8 : ∀ i, i < 3912 → V 248 i = y 247 i := fun i hi => by
        rw [← eV]
        unfold fk_cp
        rw [if_pos ⟨rfl, hi⟩, f 247 (by omega)]
      have Vf : ∀ k', 246 ≤ k' → k' ≠ 248 → V k' = y k' := fun k' h1 h2 => by rw [Vo k' h2, f k' h1]
      have eK : ab_KA V W = ab_KA y W := ab_KA_env (by rw [Vf 246 (by omega) (by omega)]) fun c h1 h2 => Vf c (by omega) (by omega)
      obtain ⟨y2, s2, n2, g1, g2, g3, g4⟩ := mX12_tried_loop (N := N) (l := l) (d := d) (v := V) (y := V) (s := (V 247, V 269, V 246 35, nI 0)) (W := W) (k := k) (w := .int (nI w')) (x := .int (nI 1)) (fk_LR_c (fun k' h1 h2 => Vf k' (by omega) (by omega)) (by rw [Vf 246 (by omega) (by omega)]) q5) (ab_rv_c (by rw [Vf 246 (by omega) (by omega)]) (fun c h1 h2 => Vf c (by omega) (by omega)) r1) fk_rs_of (H := H) (n := n) (by rw [Vf 247 (by omega) (by omega)]; exact ab_ok_c (by rw [Vf 246 (by omega) (by omega)]) p1) (by rw [Vf 246 (by omega) (by omega)]; exact r7) (by rw [Vf 246 (by omega) (by omega)]; exact r8) hk3 hk48
      try dsimp only at g3
      rw [eK, Vf 247 (by omega) (by omega)] at g3
      rw [g3] at g4
      have en : n2 = n1 := (ab_ok_n g4).symm.trans (ab_ok_n f2)
      subst en
      have F2 : ∀ k, k ≠ 246 → k ≠ 247 → k ≠ 267 → k ≠ 268 → k ≠ 269 → y2 k = V k := g2.2.2.2.2
      have hT := mX12_triedBy (N := N) (l := l) (d := d + 5) (y := y2) (A := y 247) (k := w') g4 (g2.1.trans g3) (fun i hi => by rw [F2 248 (by omega) (by omega) (by omega) (by omega) (by omega)]; exact V8 i (by omega)) hw3
      have E2 : fk_ev (d + 8) qX12_tried 0 [.ref 246, .int ((nI k)), .int ((nI w')), .null, .null] [] (fk_E N y1 l) = some (some (.int ((ab_td (y 247) (fk_it (fun _ A => ab_KA y W A) 0 k (y 247)) n2 w'))), fk_E N (fk_cp y2 248 247 3912) l) := by
        rw [mX12_tried_t hw]
        have b0 := mX12_begins (N := N) (l := l) (d := d + 6) (y := y1)
        rw [eV] at b0
        have z832 : y1 247 832 = nI H := by rw [f 247 (by omega)]; exact e832
        simp (disch := first | assumption | omega) only [rX12_tried, mX12_in, and_self, z832, b0, Option.bind_some, Option.toList_some, Option.toList_none, List.cons_append, List.nil_append, fk_b_0, nI_add, Nat.add_zero, Nat.zero_add, not_true_eq_false, not_false_eq_true, if_true, if_false, sI_le_t, sI_le_f, sI_lt_t, sI_lt_f, sI_eq_t, sI_eq_f, sI_rem, sI_div, sI_m1a, sI_m1b, sI_m1c, sI_m1d, sI_m1e, sI_m1f, sI_m2a, sI_m2b, sI_sub, pk_mul, sI_dec, fk_u_s, fk_u_o, sI_dec0, sI_z, sI_md, Bool.false_eq_true, Nat.reduceAdd, Nat.reduceMul, Nat.reduceSub, Nat.reduceMod, Nat.reduceDiv]
        rw [g1, hX12_tried_73]
        simp (disch := first | assumption | omega) only [rX12_tried, hT, mX12_again, Option.bind_some, Option.toList_some, Option.toList_none, List.cons_append, List.nil_append, fk_b_0, nI_add, Nat.add_zero, Nat.zero_add, not_true_eq_false, not_false_eq_true, if_true, if_false, sI_le_t, sI_le_f, sI_lt_t, sI_lt_f, sI_eq_t, sI_eq_f, sI_rem, sI_div, sI_m1a, sI_m1b, sI_m1c, sI_m1d, sI_m1e, sI_m1f, sI_m2a, sI_m2b, sI_sub, pk_mul, sI_dec, fk_u_s, fk_u_o, sI_dec0, sI_z, sI_md, Bool.false_eq_true, Nat.reduceAdd, Nat.reduceMul, Nat.reduceSub, Nat.reduceMod, Nat.reduceDiv]
      generalize eY : fk_cp y2 248 247 3912 = Y at E2
      have Yo : ∀ k, k ≠ 247 → Y k = y2 k := fun k hk => by
        rw [← eY]
        funext i
        exact if_neg fun q => hk q.1
      have Y7 : ∀ i, i < 3912 → Y 247 i = y 247 i := fun i hi => by
        rw [← eY]
        unfold fk_cp
        rw [if_pos ⟨rfl, hi⟩, F2 248 (by omega) (by omega) (by omega) (by omega) (by omega), V8 i hi]
      have Yf : ∀ k, k ≠ 246 → k ≠ 247 → k ≠ 248 → k ≠ 267 → k ≠ 268 → k ≠ 269 → Y k = y1 k := fun k h1 h2 h3 h4 h5 h6 => by rw [Yo k h2, F2 k h1 h2 h4 h5 h6, Vo k h3]
      refine ⟨_, y1, Y, E1, E2, cR_q hR (fun k hk => ?_) (fun i hi => ?_) (fun j hj => ?_) (fun i hi => ?_) ?_ Y7⟩
      · rw [Yf k (by omega) (by omega) (by omega) (by omega) (by omega) (by omega), y1f k (by omega) (by omega) (by omega) (by omega)]
      · rw [Yo 246 (by omega), g2.2.2.2.1 i (by omega), Vf 246 (by omega) (by omega)]
      · rw [Yf _ (by omega) (by omega) (by omega) (by omega) (by omega) (by omega)]
        exact f3.2.1 j hj
      · rw [Yf 235 (by omega) (by omega) (by omega) (by omega) (by omega) (by omega), y1f 235 (by omega) (by omega) (by omega) (by omega)]
      · exact ck_pr_k p3 fun k h1 h2 => by rw [Yf k (by omega) (by omega) (by omega) (by omega) (by omega) (by omega), y1f k (by omega) (by omega) (by omega) (by omega)]
    · have hit := mX11_isTriable_f (d := d + 6) (h := fk_E N y l) hw
      have hg2 : nI 1 ≤ k ∧ k ≤ nI 48 := ⟨hg.1, hg.2.1⟩
      have hg3 : ¬ nI 999 < nI H + k := Int32.not_lt.mpr hg.2.2
      refine ⟨(-1), y, y, ?_, ?_, hR⟩
      · simp (disch := first | assumption | omega) only [rX11_tried, hcp, hit, Option.bind_some, Option.toList_some, Option.toList_none, List.cons_append, List.nil_append, fk_b_0, nI_add, Nat.add_zero, Nat.zero_add, not_true_eq_false, not_false_eq_true, if_true, if_false, sI_le_t, sI_le_f, sI_lt_t, sI_lt_f, sI_eq_t, sI_eq_f, sI_rem, sI_div, sI_m1a, sI_m1b, sI_m1c, sI_m1d, sI_m1e, sI_m1f, sI_m2a, sI_m2b, sI_sub, pk_mul, sI_dec, fk_u_s, fk_u_o, sI_dec0, sI_z, sI_md, Bool.false_eq_true, Nat.reduceAdd, Nat.reduceMul, Nat.reduceSub, Nat.reduceMod, Nat.reduceDiv]
      · rw [mX12_tried_f hw]
        simp (disch := first | assumption | omega) only [rX12_tried, mX12_in, hg2, and_self, e832, hg3, Option.bind_some, Option.toList_some, Option.toList_none, List.cons_append, List.nil_append, fk_b_0, nI_add, Nat.add_zero, Nat.zero_add, not_true_eq_false, not_false_eq_true, if_true, if_false, sI_le_t, sI_le_f, sI_lt_t, sI_lt_f, sI_eq_t, sI_eq_f, sI_rem, sI_div, sI_m1a, sI_m1b, sI_m1c, sI_m1d, sI_m1e, sI_m1f, sI_m2a, sI_m2b, sI_sub, pk_mul, sI_dec, fk_u_s, fk_u_o, sI_dec0, sI_z, sI_md, Bool.false_eq_true, Nat.reduceAdd, Nat.reduceMul, Nat.reduceSub, Nat.reduceMod, Nat.reduceDiv]
  · rw [fk_b_f hg] at hcp
    refine ⟨(-1), y, y, ?_, ?_, hR⟩
    · simp (disch := first | assumption | omega) only [rX11_tried, hcp, Option.bind_some, Option.toList_some, Option.toList_none, List.cons_append, List.nil_append, fk_b_0, nI_add, Nat.add_zero, Nat.zero_add, not_true_eq_false, not_false_eq_true, if_true, if_false, sI_le_t, sI_le_f, sI_lt_t, sI_lt_f, sI_eq_t, sI_eq_f, sI_rem, sI_div, sI_m1a, sI_m1b, sI_m1c, sI_m1d, sI_m1e, sI_m1f, sI_m2a, sI_m2b, sI_sub, pk_mul, sI_dec, fk_u_s, fk_u_o, sI_dec0, sI_z, sI_md, Bool.false_eq_true, Nat.reduceAdd, Nat.reduceMul, Nat.reduceSub, Nat.reduceMod, Nat.reduceDiv]
    · have key : ∀ b : Int32, fk_ev (d + 8) qX12_tried 34 [.ref 246, .int k, .int w, .int b, .null] [] (fk_E N y l) = some (some (.int (-1)), fk_E N y l) := by
        intro b
        by_cases h1 : nI 1 ≤ k ∧ k ≤ nI 48
        · have h2 : nI 999 < nI H + k := Int32.not_le.mp fun z => hg ⟨h1.1, h1.2, z⟩
          simp (disch := first | assumption | omega) only [rX12_tried, mX12_in, h1, and_self, e832, h2, Option.bind_some, Option.toList_some, Option.toList_none, List.cons_append, List.nil_append, fk_b_0, nI_add, Nat.add_zero, Nat.zero_add, not_true_eq_false, not_false_eq_true, if_true, if_false, sI_le_t, sI_le_f, sI_lt_t, sI_lt_f, sI_eq_t, sI_eq_f, sI_rem, sI_div, sI_m1a, sI_m1b, sI_m1c, sI_m1d, sI_m1e, sI_m1f, sI_m2a, sI_m2b, sI_sub, pk_mul, sI_dec, fk_u_s, fk_u_o, sI_dec0, sI_z, sI_md, Bool.false_eq_true, Nat.reduceAdd, Nat.reduceMul, Nat.reduceSub, Nat.reduceMod, Nat.reduceDiv]
        · simp (disch := first | assumption | omega) only [rX12_tried, mX12_in, h1, Option.bind_some, Option.toList_some, Option.toList_none, List.cons_append, List.nil_append, fk_b_0, nI_add, Nat.add_zero, Nat.zero_add, not_true_eq_false, not_false_eq_true, if_true, if_false, sI_le_t, sI_le_f, sI_lt_t, sI_lt_f, sI_eq_t, sI_eq_f, sI_rem, sI_div, sI_m1a, sI_m1b, sI_m1c, sI_m1d, sI_m1e, sI_m1f, sI_m2a, sI_m2b, sI_sub, pk_mul, sI_dec, fk_u_s, fk_u_o, sI_dec0, sI_z, sI_md, Bool.false_eq_true, Nat.reduceAdd, Nat.reduceMul, Nat.reduceSub, Nat.reduceMod, Nat.reduceDiv]
      by_cases hw : ab_TP w
      · rw [mX12_tried_t hw]; exact key _
      · rw [mX12_tried_f hw]; exact key _
end TRY
