/-! THE CLASS: halves and people -/
def ck_pp (p : Nat) : Prop := p = 33 ∨ p = 100 ∨ p = 167
theorem ck_pp_at {p : Nat} (h : ck_pp p) : fk_at p 8 ∧ fk_cr p 0 = p + 1 ∧ fk_cr p 1 = p + 2 ∧ fk_at (p + 1) 24 ∧ (fk_shp (p + 1)).2 = 64 ∧ fk_at (p + 2) 20 ∧ (fk_shp (p + 2)).2 = 4 ∧ p ≤ 167 ∧ 33 ≤ p := by
  rcases h with rfl | rfl | rfl
  · exact ⟨⟨by decide, by decide, by decide +kernel⟩, by decide, by decide, ⟨by decide, by decide, by decide +kernel⟩, by decide +kernel, ⟨by decide, by decide, by decide +kernel⟩, by decide +kernel, by decide, by decide⟩
  · exact ⟨⟨by decide, by decide, by decide +kernel⟩, by decide, by decide, ⟨by decide, by decide, by decide +kernel⟩, by decide +kernel, ⟨by decide, by decide, by decide +kernel⟩, by decide +kernel, by decide, by decide⟩
  · exact ⟨⟨by decide, by decide, by decide +kernel⟩, by decide, by decide, ⟨by decide, by decide, by decide +kernel⟩, by decide +kernel, ⟨by decide, by decide, by decide +kernel⟩, by decide +kernel, by decide, by decide⟩
theorem ck_shp_33 : ∀ j : Nat, j < 64 → (fk_shp (33 + 3 + j)).1 = 0 := by decide +kernel
theorem ck_shp_100 : ∀ j : Nat, j < 64 → (fk_shp (100 + 3 + j)).1 = 0 := by decide +kernel
theorem ck_shp_167 : ∀ j : Nat, j < 64 → (fk_shp (167 + 3 + j)).1 = 0 := by decide +kernel
theorem ck_pp_h {p j : Nat} (h : ck_pp p) (hj : j < 64) : fk_at (p + 3 + j) 0 := by
  rcases h with rfl | rfl | rfl
  · exact ⟨by omega, by omega, ck_shp_33 j hj⟩
  · exact ⟨by omega, by omega, ck_shp_100 j hj⟩
  · exact ⟨by omega, by omega, ck_shp_167 j hj⟩
theorem ck_p3 {p i : Nat} : p + 1 + 2 + i = p + 3 + i := by omega
theorem ab_mn_c {a b : Int32} : (if b < a then b else a) = ab_mn a b := by
  unfold ab_mn
  by_cases h1 : b < a
  · rw [if_pos h1, if_neg (Int32.not_lt.mpr (Int32.le_of_lt h1))]
  · rw [if_neg h1]
    by_cases h2 : a < b
    · rw [if_pos h2]
    · rw [if_neg h2]
      exact Int32.le_antisymm (Int32.not_lt.mp h1) (Int32.not_lt.mp h2)
theorem ab_mx_c {a b : Int32} : (if a < b then b else a) = ab_mx a b := by
  unfold ab_mx
  by_cases h1 : a < b
  · rw [if_pos h1, if_neg (Int32.not_lt.mpr (Int32.le_of_lt h1))]
  · rw [if_neg h1]
    by_cases h2 : b < a
    · rw [if_pos h2]
    · rw [if_neg h2]
      exact Int32.le_antisymm (Int32.not_lt.mp h2) (Int32.not_lt.mp h1)
section C0
variable {N : Nat} {y : Nat → Nat → Int32} {l : Nat → Nat → Int64} {d c c' : Nat} {h : fk_H}
theorem mX11_within {v b : Int32} : fk_ev d qX11_within 0 [.int v, .int b] [] h = some (some (.int ((fk_b (nI 0 ≤ v ∧ v < b)))), h) := by
  simp only [rX11_within]
  by_cases h1 : v < nI 0
  · have h2 : ¬ nI 0 ≤ v := Int32.not_le.mpr h1
    simp [rX11_within, h1, h2, fk_b]
  · have h2 : nI 0 ≤ v := Int32.not_lt.mp h1
    by_cases h3 : b ≤ v
    · have h4 : ¬ v < b := Int32.not_lt.mpr h3
      simp [rX11_within, h1, h2, h3, h4, fk_b]
    · have h4 : v < b := Int32.not_le.mp h3
      simp [rX11_within, h1, h2, h3, h4, fk_b]
theorem mX0_know {f so : Int32} (hc : fk_at c 0) : fk_ev d qX0_know 0 [.ref c, .int f, .int so, .null] [] (fk_E N y l) = some (none, fk_E N (fk_u (fk_u y c 11 (y c 11 ||| nI 1 <<< (f &&& 31))) c 12 (if so = nI 0 then y c 12 &&& (nI 1 <<< (f &&& 31) ^^^ (-1)) else y c 12 ||| nI 1 <<< (f &&& 31))) l) := by
  by_cases h : so = nI 0
  · simp (disch := first | assumption | omega) only [rX0_know, h, Option.bind_some, Option.toList_some, Option.toList_none, List.cons_append, List.nil_append, fk_b_0, nI_add, Nat.add_zero, Nat.zero_add, not_true_eq_false, not_false_eq_true, if_true, if_false, sI_le_t, sI_le_f, sI_lt_t, sI_lt_f, sI_eq_t, sI_eq_f, sI_rem, sI_div, sI_m1a, sI_m1b, sI_m1c, sI_m1d, sI_m1e, sI_m1f, sI_m2a, sI_m2b, sI_sub, pk_mul, sI_dec, fk_u_s, fk_u_o, sI_dec0, sI_z, sI_md, Bool.false_eq_true, Nat.reduceAdd, Nat.reduceMul, Nat.reduceSub, Nat.reduceMod, Nat.reduceDiv]
  · simp (disch := first | assumption | omega) only [rX0_know, h, Option.bind_some, Option.toList_some, Option.toList_none, List.cons_append, List.nil_append, fk_b_0, nI_add, Nat.add_zero, Nat.zero_add, not_true_eq_false, not_false_eq_true, if_true, if_false, sI_le_t, sI_le_f, sI_lt_t, sI_lt_f, sI_eq_t, sI_eq_f, sI_rem, sI_div, sI_m1a, sI_m1b, sI_m1c, sI_m1d, sI_m1e, sI_m1f, sI_m2a, sI_m2b, sI_sub, pk_mul, sI_dec, fk_u_s, fk_u_o, sI_dec0, sI_z, sI_md, Bool.false_eq_true, Nat.reduceAdd, Nat.reduceMul, Nat.reduceSub, Nat.reduceMod, Nat.reduceDiv]
theorem mX0_standAt {x : Int32} (hc : fk_at c 0) : fk_ev d qX0_standAt 0 [.ref c, .int x] [] (fk_E N y l) = some (none, fk_E N (fk_u (fk_u (fk_u y c 6 x) c 7 (-2)) c 8 (nI 0)) l) := by
  simp (disch := first | assumption | omega) only [rX0_standAt, Option.bind_some, Option.toList_some, Option.toList_none, List.cons_append, List.nil_append, fk_b_0, nI_add, Nat.add_zero, Nat.zero_add, not_true_eq_false, not_false_eq_true, if_true, if_false, sI_le_t, sI_le_f, sI_lt_t, sI_lt_f, sI_eq_t, sI_eq_f, sI_rem, sI_div, sI_m1a, sI_m1b, sI_m1c, sI_m1d, sI_m1e, sI_m1f, sI_m2a, sI_m2b, sI_sub, pk_mul, sI_dec, fk_u_s, fk_u_o, sI_dec0, sI_z, sI_md, Bool.false_eq_true, Nat.reduceAdd, Nat.reduceMul, Nat.reduceSub, Nat.reduceMod, Nat.reduceDiv]
theorem mX0_goOn {x z : Int32} (hc : fk_at c 0) : fk_ev d qX0_goOn 0 [.ref c, .int x, .int z] [] (fk_E N y l) = some (none, fk_E N (fk_u (fk_u (fk_u y c 6 (-2)) c 7 x) c 8 z) l) := by
  simp (disch := first | assumption | omega) only [rX0_goOn, Option.bind_some, Option.toList_some, Option.toList_none, List.cons_append, List.nil_append, fk_b_0, nI_add, Nat.add_zero, Nat.zero_add, not_true_eq_false, not_false_eq_true, if_true, if_false, sI_le_t, sI_le_f, sI_lt_t, sI_lt_f, sI_eq_t, sI_eq_f, sI_rem, sI_div, sI_m1a, sI_m1b, sI_m1c, sI_m1d, sI_m1e, sI_m1f, sI_m2a, sI_m2b, sI_sub, pk_mul, sI_dec, fk_u_s, fk_u_o, sI_dec0, sI_z, sI_md, Bool.false_eq_true, Nat.reduceAdd, Nat.reduceMul, Nat.reduceSub, Nat.reduceMod, Nat.reduceDiv]
theorem mX0_clash (hc : fk_at c 0) (hc' : fk_at c' 0) : fk_ev d qX0_clash 0 [.ref c, .ref c'] [] (fk_E N y l) = some (some (.int ((y c 11 &&& y c' 11 &&& (y c 12 ^^^ y c' 12)))), fk_E N y l) := by
  simp (disch := first | assumption | omega) only [rX0_clash, Option.bind_some, Option.toList_some, Option.toList_none, List.cons_append, List.nil_append, fk_b_0, nI_add, Nat.add_zero, Nat.zero_add, not_true_eq_false, not_false_eq_true, if_true, if_false, sI_le_t, sI_le_f, sI_lt_t, sI_lt_f, sI_eq_t, sI_eq_f, sI_rem, sI_div, sI_m1a, sI_m1b, sI_m1c, sI_m1d, sI_m1e, sI_m1f, sI_m2a, sI_m2b, sI_sub, pk_mul, sI_dec, fk_u_s, fk_u_o, sI_dec0, sI_z, sI_md, Bool.false_eq_true, Nat.reduceAdd, Nat.reduceMul, Nat.reduceSub, Nat.reduceMod, Nat.reduceDiv]
theorem mX0_beNew {o p t : Int32} (hc : fk_at c 0) : fk_ev (d + 1) qX0_beNew 0 [.ref c, .int o, .int p, .int t] [] (fk_E N y l) = some (none, fk_E N (fk_u (fk_u (fk_u (fk_u (fk_u (fk_u (fk_u (fk_u (fk_u (fk_u (fk_u (fk_u (fk_u (fk_u y c 1 o) c 2 (-2)) c 3 t) c 4 (nI 1)) c 5 (nI 4096)) c 6 p) c 7 (-2)) c 8 (nI 0)) c 9 (nI 0)) c 10 (nI 0)) c 11 (nI 0)) c 12 (nI 0)) c 13 (-2)) c 14 (nI 0)) l) := by
  simp (disch := first | assumption | omega) only [rX0_beNew, mX0_standAt, Option.bind_some, Option.toList_some, Option.toList_none, List.cons_append, List.nil_append, fk_b_0, nI_add, Nat.add_zero, Nat.zero_add, not_true_eq_false, not_false_eq_true, if_true, if_false, sI_le_t, sI_le_f, sI_lt_t, sI_lt_f, sI_eq_t, sI_eq_f, sI_rem, sI_div, sI_m1a, sI_m1b, sI_m1c, sI_m1d, sI_m1e, sI_m1f, sI_m2a, sI_m2b, sI_sub, pk_mul, sI_dec, fk_u_s, fk_u_o, sI_dec0, sI_z, sI_md, Bool.false_eq_true, Nat.reduceAdd, Nat.reduceMul, Nat.reduceSub, Nat.reduceMod, Nat.reduceDiv]
theorem mX0_takeIn {g : Int32} (hc : fk_at c 0) (hc' : fk_at c' 0) (hcc : c ≠ c') : fk_ev d qX0_takeIn 0 [.ref c, .ref c', .int g] [] (fk_E N y l) = some (none, fk_E N (fk_u (fk_u (fk_u (fk_u (fk_u (fk_u (fk_u (fk_u y c 12 ((y c 12 ||| y c' 12 &&& (y c 11 ^^^ (-1))) &&& (g ^^^ (-1)))) c 11 ((y c 11 ||| y c' 11) &&& (g ^^^ (-1)))) c 5 (y c 5 + y c' 5)) c 10 (ab_mn (nI 99999) (y c 10 + y c' 10))) c 9 (ab_mx (y c 9) (y c' 9))) c 14 (if y c 14 = nI 0 ∧ y c' 14 = nI 0 then nI 0 else nI 1)) c' 4 (nI 0)) c' 13 (y c 0)) l) := by
  by_cases h1 : y c 14 = nI 0
  · by_cases h2 : y c' 14 = nI 0
    · simp (disch := first | assumption | omega) only [rX0_takeIn, h1, h2, ab_mn_c, ab_mx_c, and_self, eq_self, Option.bind_some, Option.toList_some, Option.toList_none, List.cons_append, List.nil_append, fk_b_0, nI_add, Nat.add_zero, Nat.zero_add, not_true_eq_false, not_false_eq_true, if_true, if_false, sI_le_t, sI_le_f, sI_lt_t, sI_lt_f, sI_eq_t, sI_eq_f, sI_rem, sI_div, sI_m1a, sI_m1b, sI_m1c, sI_m1d, sI_m1e, sI_m1f, sI_m2a, sI_m2b, sI_sub, pk_mul, sI_dec, fk_u_s, fk_u_o, sI_dec0, sI_z, sI_md, Bool.false_eq_true, Nat.reduceAdd, Nat.reduceMul, Nat.reduceSub, Nat.reduceMod, Nat.reduceDiv]
    · simp (disch := first | assumption | omega) only [rX0_takeIn, h1, h2, ab_mn_c, ab_mx_c, and_false, eq_self, Option.bind_some, Option.toList_some, Option.toList_none, List.cons_append, List.nil_append, fk_b_0, nI_add, Nat.add_zero, Nat.zero_add, not_true_eq_false, not_false_eq_true, if_true, if_false, sI_le_t, sI_le_f, sI_lt_t, sI_lt_f, sI_eq_t, sI_eq_f, sI_rem, sI_div, sI_m1a, sI_m1b, sI_m1c, sI_m1d, sI_m1e, sI_m1f, sI_m2a, sI_m2b, sI_sub, pk_mul, sI_dec, fk_u_s, fk_u_o, sI_dec0, sI_z, sI_md, Bool.false_eq_true, Nat.reduceAdd, Nat.reduceMul, Nat.reduceSub, Nat.reduceMod, Nat.reduceDiv]
  · simp (disch := first | assumption | omega) only [rX0_takeIn, h1, ab_mn_c, ab_mx_c, false_and, Option.bind_some, Option.toList_some, Option.toList_none, List.cons_append, List.nil_append, fk_b_0, nI_add, Nat.add_zero, Nat.zero_add, not_true_eq_false, not_false_eq_true, if_true, if_false, sI_le_t, sI_le_f, sI_lt_t, sI_lt_f, sI_eq_t, sI_eq_f, sI_rem, sI_div, sI_m1a, sI_m1b, sI_m1c, sI_m1d, sI_m1e, sI_m1f, sI_m2a, sI_m2b, sI_sub, pk_mul, sI_dec, fk_u_s, fk_u_o, sI_dec0, sI_z, sI_md, Bool.false_eq_true, Nat.reduceAdd, Nat.reduceMul, Nat.reduceSub, Nat.reduceMod, Nat.reduceDiv]
def ck_hcp (y : Nat → Nat → Int32) (c c' : Nat) : Nat → Nat → Int32 := fk_u (fk_u (fk_u (fk_u (fk_u (fk_u (fk_u (fk_u (fk_u (fk_u (fk_u (fk_u (fk_u (fk_u y c 1 (y c' 1)) c 2 (y c' 2)) c 3 (y c' 3)) c 4 (y c' 4)) c 5 (y c' 5)) c 6 (y c' 6)) c 7 (y c' 7)) c 8 (y c' 8)) c 9 (y c' 9)) c 10 (y c' 10)) c 11 (y c' 11)) c 12 (y c' 12)) c 13 (y c' 13)) c 14 (y c' 14)
theorem mX0_copyFrom (hc : fk_at c 0) (hc' : fk_at c' 0) (hcc : c ≠ c') (h4 : y c' 4 = nI 0 ∨ y c' 4 = nI 1) (h14 : y c' 14 = nI 0 ∨ y c' 14 = nI 1) : fk_ev d qX0_copyFrom 0 [.ref c, .ref c'] [] (fk_E N y l) = some (none, fk_E N (ck_hcp y c c') l) := by
  unfold ck_hcp
  simp (disch := first | assumption | omega) only [rX0_copyFrom, Option.bind_some, Option.toList_some, Option.toList_none, List.cons_append, List.nil_append, fk_b_0, nI_add, Nat.add_zero, Nat.zero_add, not_true_eq_false, not_false_eq_true, if_true, if_false, sI_le_t, sI_le_f, sI_lt_t, sI_lt_f, sI_eq_t, sI_eq_f, sI_rem, sI_div, sI_m1a, sI_m1b, sI_m1c, sI_m1d, sI_m1e, sI_m1f, sI_m2a, sI_m2b, sI_sub, pk_mul, sI_dec, fk_u_s, fk_u_o, sI_dec0, sI_z, sI_md, Bool.false_eq_true, Nat.reduceAdd, Nat.reduceMul, Nat.reduceSub, Nat.reduceMod, Nat.reduceDiv]
theorem mX0_knows {f : Nat} (hc : fk_at c 0) (hf : f < 32) : fk_ev d qX0_knows 0 [.ref c, .int ((nI f))] [] (fk_E N y l) = some (some (.int ((if fk_tb (y c 11) f = true then (if fk_tb (y c 12) f = true then nI 1 else nI 0) else (-2)))), fk_E N y l) := by
  simp (disch := first | assumption | omega) only [rX0_knows, fk_has0, Option.bind_some, Option.toList_some, Option.toList_none, List.cons_append, List.nil_append, fk_b_0, nI_add, Nat.add_zero, Nat.zero_add, not_true_eq_false, not_false_eq_true, if_true, if_false, sI_le_t, sI_le_f, sI_lt_t, sI_lt_f, sI_eq_t, sI_eq_f, sI_rem, sI_div, sI_m1a, sI_m1b, sI_m1c, sI_m1d, sI_m1e, sI_m1f, sI_m2a, sI_m2b, sI_sub, pk_mul, sI_dec, fk_u_s, fk_u_o, sI_dec0, sI_z, sI_md, Bool.false_eq_true, Nat.reduceAdd, Nat.reduceMul, Nat.reduceSub, Nat.reduceMod, Nat.reduceDiv]
  by_cases h1 : fk_tb (y c 11) f = true
  · simp (disch := first | assumption | omega) only [h1, rX0_knows, fk_has, Option.bind_some, Option.toList_some, Option.toList_none, List.cons_append, List.nil_append, fk_b_0, nI_add, Nat.add_zero, Nat.zero_add, not_true_eq_false, not_false_eq_true, if_true, if_false, sI_le_t, sI_le_f, sI_lt_t, sI_lt_f, sI_eq_t, sI_eq_f, sI_rem, sI_div, sI_m1a, sI_m1b, sI_m1c, sI_m1d, sI_m1e, sI_m1f, sI_m2a, sI_m2b, sI_sub, pk_mul, sI_dec, fk_u_s, fk_u_o, sI_dec0, sI_z, sI_md, Bool.false_eq_true, Nat.reduceAdd, Nat.reduceMul, Nat.reduceSub, Nat.reduceMod, Nat.reduceDiv]
  · simp (disch := first | assumption | omega) only [h1, rX0_knows, Option.bind_some, Option.toList_some, Option.toList_none, List.cons_append, List.nil_append, fk_b_0, nI_add, Nat.add_zero, Nat.zero_add, not_true_eq_false, not_false_eq_true, if_true, if_false, sI_le_t, sI_le_f, sI_lt_t, sI_lt_f, sI_eq_t, sI_eq_f, sI_rem, sI_div, sI_m1a, sI_m1b, sI_m1c, sI_m1d, sI_m1e, sI_m1f, sI_m2a, sI_m2b, sI_sub, pk_mul, sI_dec, fk_u_s, fk_u_o, sI_dec0, sI_z, sI_md, Bool.false_eq_true, Nat.reduceAdd, Nat.reduceMul, Nat.reduceSub, Nat.reduceMod, Nat.reduceDiv]
end C0
section C1
variable {N : Nat} {y : Nat → Nat → Int32} {l : Nat → Nat → Int64} {d p n : Nat} {A : Nat → Int32}
/-- a half as the reference's columns say -/
def ck_hm (u : Nat → Int32) (A : Nat → Int32) (j : Nat) : Prop := u 1 = A j ∧ u 2 = A (64 + j) ∧ u 3 = A (128 + j) ∧ u 4 = fk_b (A (192 + j) = nI 1) ∧ u 5 = A (256 + j) ∧ u 6 = A (320 + j) ∧ u 7 = A (384 + j) ∧ u 8 = A (448 + j) ∧ u 9 = A (512 + j) ∧ u 10 = A (576 + j) ∧ u 11 = A (704 + j) ∧ u 12 = A (768 + j) ∧ u 13 = A (640 + j)
/-- people as the reference's row says, tallies but for T -/
def ck_pr (p : Nat) (y : Nat → Nat → Int32) (T A : Nat → Int32) : Prop :=
  (y p 2 = A 833 ∧ y p 3 = A 832 ∧ y p 4 = A 834 ∧ y p 5 + T 838 = A 838 ∧ y p 6 + T 837 = A 837 ∧ y p 7 + T 836 = A 836 ∧ y p 8 + T 835 = A 835) ∧ (∀ j, j < 64 → y (p + 3 + j) 0 = nI j) ∧ (∀ j, j < 64 → j < ab_n A → ck_hm (y (p + 3 + j)) A j) ∧ (∀ j, j < 64 → j < ab_n A → y (p + 3 + j) 14 = nI 0 ∨ y (p + 3 + j) 14 = nI 1) ∧ (∀ o, o < 4 → y (p + 2) o = nI (ab_lo A (nI o)))
theorem mX8_hasBeen {j : Int32} (hp : ck_pp p) (hb : y p 2 = nI n) : fk_ev (d + 1) qX8_hasBeen 0 [.ref p, .int j] [] (fk_E N y l) = some (some (.int ((fk_b (nI 0 ≤ j ∧ j < nI n)))), fk_E N y l) := by
  obtain ⟨h8, c0, c1, h24, s24, h20, s20, p1, p2⟩ := ck_pp_at hp
  simp (disch := first | assumption | omega) only [rX8_hasBeen, mX11_within, hb, Option.bind_some, Option.toList_some, Option.toList_none, List.cons_append, List.nil_append, fk_b_0, nI_add, Nat.add_zero, Nat.zero_add, not_true_eq_false, not_false_eq_true, if_true, if_false, sI_le_t, sI_le_f, sI_lt_t, sI_lt_f, sI_eq_t, sI_eq_f, sI_rem, sI_div, sI_m1a, sI_m1b, sI_m1c, sI_m1d, sI_m1e, sI_m1f, sI_m2a, sI_m2b, sI_sub, pk_mul, sI_dec, fk_u_s, fk_u_o, sI_dec0, sI_z, sI_md, Bool.false_eq_true, Nat.reduceAdd, Nat.reduceMul, Nat.reduceSub, Nat.reduceMod, Nat.reduceDiv]
theorem mX8_isLivingN {j : Nat} {P : Prop} [Decidable P] (hp : ck_pp p) (hn : n ≤ 64) (hb : y p 2 = nI n) (hj : j < n) (hl : y (p + 3 + j) 4 = fk_b P) : fk_ev (d + 1) qX8_isLiving 0 [.ref p, .int ((nI j))] [] (fk_E N y l) = some (some (.int ((fk_b P))), fk_E N y l) := by
  obtain ⟨h8, c0, c1, h24, s24, h20, s20, p1, p2⟩ := ck_pp_at hp
  have hh := ck_pp_h hp (show j < 64 by omega)
  simp (disch := first | assumption | omega) only [rX8_isLiving, mX11_within, hb, and_self, c0, ck_p3 (p := p), hl, Option.bind_some, Option.toList_some, Option.toList_none, List.cons_append, List.nil_append, fk_b_0, nI_add, Nat.add_zero, Nat.zero_add, not_true_eq_false, not_false_eq_true, if_true, if_false, sI_le_t, sI_le_f, sI_lt_t, sI_lt_f, sI_eq_t, sI_eq_f, sI_rem, sI_div, sI_m1a, sI_m1b, sI_m1c, sI_m1d, sI_m1e, sI_m1f, sI_m2a, sI_m2b, sI_sub, pk_mul, sI_dec, fk_u_s, fk_u_o, sI_dec0, sI_z, sI_md, Bool.false_eq_true, Nat.reduceAdd, Nat.reduceMul, Nat.reduceSub, Nat.reduceMod, Nat.reduceDiv]
  by_cases h2 : P
  · simp (disch := first | assumption | omega) only [h2, rX8_isLiving, Option.bind_some, Option.toList_some, Option.toList_none, List.cons_append, List.nil_append, fk_b_0, nI_add, Nat.add_zero, Nat.zero_add, not_true_eq_false, not_false_eq_true, if_true, if_false, sI_le_t, sI_le_f, sI_lt_t, sI_lt_f, sI_eq_t, sI_eq_f, sI_rem, sI_div, sI_m1a, sI_m1b, sI_m1c, sI_m1d, sI_m1e, sI_m1f, sI_m2a, sI_m2b, sI_sub, pk_mul, sI_dec, fk_u_s, fk_u_o, sI_dec0, sI_z, sI_md, Bool.false_eq_true, Nat.reduceAdd, Nat.reduceMul, Nat.reduceSub, Nat.reduceMod, Nat.reduceDiv]
    rw [fk_b_t trivial]
  · simp (disch := first | assumption | omega) only [h2, rX8_isLiving, Option.bind_some, Option.toList_some, Option.toList_none, List.cons_append, List.nil_append, fk_b_0, nI_add, Nat.add_zero, Nat.zero_add, not_true_eq_false, not_false_eq_true, if_true, if_false, sI_le_t, sI_le_f, sI_lt_t, sI_lt_f, sI_eq_t, sI_eq_f, sI_rem, sI_div, sI_m1a, sI_m1b, sI_m1c, sI_m1d, sI_m1e, sI_m1f, sI_m2a, sI_m2b, sI_sub, pk_mul, sI_dec, fk_u_s, fk_u_o, sI_dec0, sI_z, sI_md, Bool.false_eq_true, Nat.reduceAdd, Nat.reduceMul, Nat.reduceSub, Nat.reduceMod, Nat.reduceDiv]
    rw [fk_b_f id]
theorem mX8_isLiving_no {j : Int32} (hp : ck_pp p) (hb : y p 2 = nI n) (hj : ¬ (nI 0 ≤ j ∧ j < nI n)) : fk_ev (d + 1) qX8_isLiving 0 [.ref p, .int j] [] (fk_E N y l) = some (some (.int ((nI 0))), fk_E N y l) := by
  obtain ⟨h8, c0, c1, h24, s24, h20, s20, p1, p2⟩ := ck_pp_at hp
  simp (disch := first | assumption | omega) only [rX8_isLiving, mX11_within, hb, hj, Option.bind_some, Option.toList_some, Option.toList_none, List.cons_append, List.nil_append, fk_b_0, nI_add, Nat.add_zero, Nat.zero_add, not_true_eq_false, not_false_eq_true, if_true, if_false, sI_le_t, sI_le_f, sI_lt_t, sI_lt_f, sI_eq_t, sI_eq_f, sI_rem, sI_div, sI_m1a, sI_m1b, sI_m1c, sI_m1d, sI_m1e, sI_m1f, sI_m2a, sI_m2b, sI_sub, pk_mul, sI_dec, fk_u_s, fk_u_o, sI_dec0, sI_z, sI_md, Bool.false_eq_true, Nat.reduceAdd, Nat.reduceMul, Nat.reduceSub, Nat.reduceMod, Nat.reduceDiv]
theorem mX8_isAtPlaceN {j : Nat} {P : Prop} [Decidable P] (hp : ck_pp p) (hn : n ≤ 64) (hb : y p 2 = nI n) (hj : j < n) (hl : y (p + 3 + j) 4 = fk_b P) : fk_ev (d + 1) qX8_isAtPlace 0 [.ref p, .int ((nI j))] [] (fk_E N y l) = some (some (.int ((fk_b (P ∧ nI 0 ≤ y (p + 3 + j) 6)))), fk_E N y l) := by
  obtain ⟨h8, c0, c1, h24, s24, h20, s20, p1, p2⟩ := ck_pp_at hp
  have hh := ck_pp_h hp (show j < 64 by omega)
  simp (disch := first | assumption | omega) only [rX8_isAtPlace, mX11_within, hb, and_self, c0, ck_p3 (p := p), hl, Option.bind_some, Option.toList_some, Option.toList_none, List.cons_append, List.nil_append, fk_b_0, nI_add, Nat.add_zero, Nat.zero_add, not_true_eq_false, not_false_eq_true, if_true, if_false, sI_le_t, sI_le_f, sI_lt_t, sI_lt_f, sI_eq_t, sI_eq_f, sI_rem, sI_div, sI_m1a, sI_m1b, sI_m1c, sI_m1d, sI_m1e, sI_m1f, sI_m2a, sI_m2b, sI_sub, pk_mul, sI_dec, fk_u_s, fk_u_o, sI_dec0, sI_z, sI_md, Bool.false_eq_true, Nat.reduceAdd, Nat.reduceMul, Nat.reduceSub, Nat.reduceMod, Nat.reduceDiv]
  by_cases h2 : P
  · simp (disch := first | assumption | omega) only [h2, rX8_isAtPlace, true_and, Option.bind_some, Option.toList_some, Option.toList_none, List.cons_append, List.nil_append, fk_b_0, nI_add, Nat.add_zero, Nat.zero_add, not_true_eq_false, not_false_eq_true, if_true, if_false, sI_le_t, sI_le_f, sI_lt_t, sI_lt_f, sI_eq_t, sI_eq_f, sI_rem, sI_div, sI_m1a, sI_m1b, sI_m1c, sI_m1d, sI_m1e, sI_m1f, sI_m2a, sI_m2b, sI_sub, pk_mul, sI_dec, fk_u_s, fk_u_o, sI_dec0, sI_z, sI_md, Bool.false_eq_true, Nat.reduceAdd, Nat.reduceMul, Nat.reduceSub, Nat.reduceMod, Nat.reduceDiv]
    by_cases h3 : y (p + 3 + j) 6 < nI 0
    · simp (disch := first | assumption | omega) only [h3, rX8_isAtPlace, Option.bind_some, Option.toList_some, Option.toList_none, List.cons_append, List.nil_append, fk_b_0, nI_add, Nat.add_zero, Nat.zero_add, not_true_eq_false, not_false_eq_true, if_true, if_false, sI_le_t, sI_le_f, sI_lt_t, sI_lt_f, sI_eq_t, sI_eq_f, sI_rem, sI_div, sI_m1a, sI_m1b, sI_m1c, sI_m1d, sI_m1e, sI_m1f, sI_m2a, sI_m2b, sI_sub, pk_mul, sI_dec, fk_u_s, fk_u_o, sI_dec0, sI_z, sI_md, Bool.false_eq_true, Nat.reduceAdd, Nat.reduceMul, Nat.reduceSub, Nat.reduceMod, Nat.reduceDiv]
      rw [fk_b_f (Int32.not_le.mpr h3)]
    · simp (disch := first | assumption | omega) only [h3, rX8_isAtPlace, Option.bind_some, Option.toList_some, Option.toList_none, List.cons_append, List.nil_append, fk_b_0, nI_add, Nat.add_zero, Nat.zero_add, not_true_eq_false, not_false_eq_true, if_true, if_false, sI_le_t, sI_le_f, sI_lt_t, sI_lt_f, sI_eq_t, sI_eq_f, sI_rem, sI_div, sI_m1a, sI_m1b, sI_m1c, sI_m1d, sI_m1e, sI_m1f, sI_m2a, sI_m2b, sI_sub, pk_mul, sI_dec, fk_u_s, fk_u_o, sI_dec0, sI_z, sI_md, Bool.false_eq_true, Nat.reduceAdd, Nat.reduceMul, Nat.reduceSub, Nat.reduceMod, Nat.reduceDiv]
      rw [fk_b_t (Int32.not_lt.mp h3)]
  · simp (disch := first | assumption | omega) only [h2, rX8_isAtPlace, false_and, Option.bind_some, Option.toList_some, Option.toList_none, List.cons_append, List.nil_append, fk_b_0, nI_add, Nat.add_zero, Nat.zero_add, not_true_eq_false, not_false_eq_true, if_true, if_false, sI_le_t, sI_le_f, sI_lt_t, sI_lt_f, sI_eq_t, sI_eq_f, sI_rem, sI_div, sI_m1a, sI_m1b, sI_m1c, sI_m1d, sI_m1e, sI_m1f, sI_m2a, sI_m2b, sI_sub, pk_mul, sI_dec, fk_u_s, fk_u_o, sI_dec0, sI_z, sI_md, Bool.false_eq_true, Nat.reduceAdd, Nat.reduceMul, Nat.reduceSub, Nat.reduceMod, Nat.reduceDiv]
    rw [fk_b_f id]
theorem mX8_isAtPlace_no {j : Int32} (hp : ck_pp p) (hb : y p 2 = nI n) (hj : ¬ (nI 0 ≤ j ∧ j < nI n)) : fk_ev (d + 1) qX8_isAtPlace 0 [.ref p, .int j] [] (fk_E N y l) = some (some (.int ((nI 0))), fk_E N y l) := by
  obtain ⟨h8, c0, c1, h24, s24, h20, s20, p1, p2⟩ := ck_pp_at hp
  simp (disch := first | assumption | omega) only [rX8_isAtPlace, mX11_within, hb, hj, Option.bind_some, Option.toList_some, Option.toList_none, List.cons_append, List.nil_append, fk_b_0, nI_add, Nat.add_zero, Nat.zero_add, not_true_eq_false, not_false_eq_true, if_true, if_false, sI_le_t, sI_le_f, sI_lt_t, sI_lt_f, sI_eq_t, sI_eq_f, sI_rem, sI_div, sI_m1a, sI_m1b, sI_m1c, sI_m1d, sI_m1e, sI_m1f, sI_m2a, sI_m2b, sI_sub, pk_mul, sI_dec, fk_u_s, fk_u_o, sI_dec0, sI_z, sI_md, Bool.false_eq_true, Nat.reduceAdd, Nat.reduceMul, Nat.reduceSub, Nat.reduceMod, Nat.reduceDiv]
end C1
