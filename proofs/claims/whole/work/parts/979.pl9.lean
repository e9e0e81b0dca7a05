section PL9
variable {N : Nat} {v y t : Nat → Nat → Int32} {l : Nat → Nat → Int64} {d n H c j o x q L : Nat} {T A : Nat → Int32} {W : Int32 → (Nat → Int32) → Int32} {P : Int32}
/-- what the class keeps while it seeks -/
def ck_sq (c : Nat) (y t : Nat → Nat → Int32) : Prop := (∀ k, ¬ (167 ≤ k ∧ k < 234) → k ≠ 238 → k ≠ 239 → k ≠ c + 7 → k ≠ 240 → t k = y k) ∧ ∀ j, j < 64 → t (167 + 3 + j) 0 = nI j
theorem mX9_try (hv : ab_rv v) (hN : ck_nt v y) (hL : ck_LC W c y) (hpr : ck_pr 33 y T A) (ho : ab_ok v q H A) (hj : ab_oo A o q j) (ho4 : o < 4) (hx : x < 65536) (hl : H + L ≤ 999) (ht : ck_sq c y t) {a3 a4 a5 a8 a11 a12 a13 : Value} {fi : Nat} (hfi : fi = fk_fi (fun k => decide (ab_gd P (nI o) (ab_rn v W (nI o) (nI x) (ab_s0 A j) k))) 1 L) : ∃ y1, fk_ev (d + 6) qX9_seek 102 [.ref 240, .ref 33, .ref c, a3, a4, a5, .ref (36 + j), .int (P &&& (nI 1 <<< (A (320 + j) &&& 31) ^^^ (-1))), a8, .int (nI x), .int (nI L), a11, a12, a13] [] (fk_E N t l) = fk_ev (d + 6) qX9_seek 149 [.ref 240, .ref 33, .ref c, a3, a4, a5, .ref (36 + j), .int (P &&& (nI 1 <<< (A (320 + j) &&& 31) ^^^ (-1))), a8, .int (nI x), .int (nI L), a11, a12, a13] [.int (if fi < L + 1 then nI fi else (-1))] (fk_E N y1 l) ∧ ck_sq c y y1 ∧ (∀ i, i ≠ 6 → y1 240 i = t 240 i) ∧ y1 240 6 = nI (ab_mm v W (nI o) (ab_s0 A j) x (if fi < L + 1 then fi else L)) ∧ y1 238 6 = (ab_rn v W (nI o) (nI x) (ab_s0 A j) (if fi < L + 1 then fi else L)).2.2.2 := by
  have hc := hL.1
  have hq := ho.1
  have hj1 := hj.1
  have h8 := n8
  have hp167 : ck_pp 167 := Or.inr (Or.inr rfl)
  have h167 := (ck_pp_at hp167).1
  have hh := n_h (show j < 64 by omega)
  obtain ⟨t1, t2⟩ := ht
  have eo : y (36 + j) 1 = nI o := by
    have := (hpr.2.2.1 j (by omega) (by rw [ab_ok_n ho]; exact hj1)).1
    rw [show 33 + 3 + j = 36 + j by omega] at this
    rw [this]
    exact hj.2.1.2
  obtain ⟨u, e1, z1, z2⟩ := mX8_copyFrom (N := N) (l := l) (d := d + 4) (y := t) (T := T) (p := 167) (p' := 33) hp167 (Or.inl rfl) (by omega) (ck_pr_k hpr fun k k1 k2 => t1 k (by omega) (by omega) (by omega) (by omega) (by omega)) ho t2
  have b0 := mX6_begin (N := N) (l := l) (d := d + 5) (y := u) (p := 167) (c := c) (by omega) (by omega)
  generalize eb : fk_u (fk_u (fk_u u 238 2 (nI 167)) 238 3 (nI c)) 238 4 (-1) = b at b0
  have bo : ∀ k, k ≠ 238 → b k = u k := fun k hk => by rw [← eb, fk_u_rowo hk, fk_u_rowo hk, fk_u_rowo hk]
  generalize ew : fk_u (fk_u (fk_u (fk_u b 238 4 (nI o)) 238 5 (nI x)) 238 6 (nI 0)) 238 7 (nI 0) = w
  have b1 : fk_ev (d + 5) qX6_beginPlan 0 [.ref 238, .int ((nI o)), .int ((nI x))] [] (fk_E N b l) = some (none, fk_E N w l) := by
    simp (disch := first | assumption | omega) only [rX6_beginPlan, ew, Option.bind_some, Option.toList_some, Option.toList_none, List.cons_append, List.nil_append, fk_b_0, nI_add, Nat.add_zero, Nat.zero_add, not_true_eq_false, not_false_eq_true, if_true, if_false, sI_le_t, sI_le_f, sI_lt_t, sI_lt_f, sI_eq_t, sI_eq_f, sI_rem, sI_div, sI_m1a, sI_m1b, sI_m1c, sI_m1d, sI_m1e, sI_m1f, sI_m2a, sI_m2b, sI_sub, pk_mul, sI_dec, fk_u_s, fk_u_o, sI_dec0, sI_z, sI_md, Bool.false_eq_true, Nat.reduceAdd, Nat.reduceMul, Nat.reduceSub, Nat.reduceMod, Nat.reduceDiv]
  have wo : ∀ k, k ≠ 238 → w k = u k := fun k hk => by rw [← ew, fk_u_rowo hk, fk_u_rowo hk, fk_u_rowo hk, fk_u_rowo hk, bo k hk]
  have wf : ∀ k, ¬ (167 ≤ k ∧ k < 234) → k ≠ 238 → w k = t k := fun k k1 k2 => by rw [wo k k2, z2 k (by omega)]
  have wy : ∀ k, ¬ (167 ≤ k ∧ k < 234) → k ≠ 238 → k ≠ 239 → k ≠ c + 7 → k ≠ 240 → w k = y k := fun k k1 k2 k3 k4 k5 => by rw [wf k k1 k2, t1 k k1 k2 k3 k4 k5]
  have w2 : w 238 2 = nI 167 := by rw [← ew, fk_u_o (by omega), fk_u_o (by omega), fk_u_o (by omega), fk_u_o (by omega), ← eb, fk_u_o (by omega), fk_u_o (by omega), fk_u_s]
  have w3 : w 238 3 = nI c := by rw [← ew, fk_u_o (by omega), fk_u_o (by omega), fk_u_o (by omega), fk_u_o (by omega), ← eb, fk_u_o (by omega), fk_u_s]
  have w4 : w 238 4 = nI o := by rw [← ew, fk_u_o (by omega), fk_u_o (by omega), fk_u_o (by omega), fk_u_s]
  have w5 : w 238 5 = nI x := by rw [← ew, fk_u_o (by omega), fk_u_o (by omega), fk_u_s]
  have w6 : w 238 6 = nI 0 := by rw [← ew, fk_u_o (by omega), fk_u_s]
  have w7 : w 238 7 = nI 0 := by rw [← ew, fk_u_s]
  have Lw : ck_LC W c w := ck_LC_c (fun k k1 k2 => wy k (by omega) (by omega) (by omega) (by omega) (by omega)) (by rw [wy c (by omega) (by omega) (by omega) (by omega) (by omega)]) (by rw [wy c (by omega) (by omega) (by omega) (by omega) (by omega)]) hL
  have Nw : ck_nt v w := ck_nt_c rfl (fun _ _ _ => rfl) (fun c' h1 h2 => wy c' (by omega) (by omega) (by omega) (by omega) (by omega)) hN
  have cs : ck_cs w 167 c T (nI 1 <<< (A (320 + j) &&& 31)) 0 w (ab_s0 A j) := ⟨ck_pr_k z1 fun k k1 k2 => wo k (by omega), fun i hi => by omega, by rw [w7, nI_0, Int32.zero_or], w6, fun _ _ _ => rfl, fun _ _ _ _ _ => rfl⟩
  obtain ⟨y1, f1, f2⟩ := mX9_attempt (N := N) (l := l) (d := d) (P := P) hv Nw Lw w2 w3 ho4 w4 w5 cs ho hl hx hfi
  obtain ⟨⟨s2, g1, g2⟩, _, g3, _, g4⟩ := f2
  have eb1 : b (36 + j) 1 = nI o := by rw [bo _ (by omega), z2 _ (by omega), t1 _ (by omega) (by omega) (by omega) (by omega) (by omega)]; exact eo
  have ew1 : w (36 + j) 1 = nI o := by rw [wo _ (by omega), z2 _ (by omega), t1 _ (by omega) (by omega) (by omega) (by omega) (by omega)]; exact eo
  refine ⟨y1, ?_, ⟨fun k k1 k2 k3 k4 k5 => ?_, g1.1.2.1⟩, fun i hi => ?_, g3, ?_⟩
  · simp (disch := first | assumption | omega) only [rX9_seek, e1, b0, b1, eb1, ew1, f1, Option.bind_some, Option.toList_some, Option.toList_none, List.cons_append, List.nil_append, fk_b_0, nI_add, Nat.add_zero, Nat.zero_add, not_true_eq_false, not_false_eq_true, if_true, if_false, sI_le_t, sI_le_f, sI_lt_t, sI_lt_f, sI_eq_t, sI_eq_f, sI_rem, sI_div, sI_m1a, sI_m1b, sI_m1c, sI_m1d, sI_m1e, sI_m1f, sI_m2a, sI_m2b, sI_sub, pk_mul, sI_dec, fk_u_s, fk_u_o, sI_dec0, sI_z, sI_md, Bool.false_eq_true, Nat.reduceAdd, Nat.reduceMul, Nat.reduceSub, Nat.reduceMod, Nat.reduceDiv]
  · rw [g1.2.2.2.2.2 k (by omega) k2 k3 k4, fk_ur_o k5, fk_u_rowo k5]
    exact wy k k1 k2 k3 k4 k5
  · rw [g4 i hi, fk_u_o (by omega), wf 240 (by omega) (by omega)]
  · rw [g1.2.2.2.1, g2]
end PL9
