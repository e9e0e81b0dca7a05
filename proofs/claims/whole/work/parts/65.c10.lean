/-! who sets out, in the class -/
def ab_bk (G : Nat → Int32) (x : Int32) (k : Nat) : Int32 × Int32 := fk_it (fun r s => if nI r ≠ x ∧ s.2 < G r then (nI r, G r) else s) 0 k ((-1 : Int32), nI 0)
theorem ab_bk_s {G : Nat → Int32} {x : Int32} {k : Nat} : ab_bk G x (k + 1) = if nI k ≠ x ∧ (ab_bk G x k).2 < G k then (nI k, G k) else ab_bk G x k := by
  unfold ab_bk
  rw [fk_it_succ, Nat.zero_add]
theorem ab_bk_is {G : Nat → Int32} {x : Int32} : ∀ k, nI 0 ≤ (ab_bk G x k).2 ∧ ((ab_bk G x k).1 = (-1) ∨ ∃ r, r < k ∧ (ab_bk G x k).1 = nI r) := by
  intro k
  induction k with
  | zero => exact ⟨Int32.le_rfl, Or.inl rfl⟩
  | succ k ih =>
    rw [ab_bk_s]
    by_cases hc : nI k ≠ x ∧ (ab_bk G x k).2 < G k
    · rw [if_pos hc]
      exact ⟨Int32.le_of_lt (Int32.lt_of_le_of_lt ih.1 hc.2), Or.inr ⟨k, by omega, rfl⟩⟩
    · rw [if_neg hc]
      refine ⟨ih.1, ?_⟩
      rcases ih.2 with h | ⟨r, hr, h⟩
      · exact Or.inl h
      · exact Or.inr ⟨r, by omega, h⟩
theorem ab_bk_far {G : Nat → Int32} {j : Nat} (hj : j < 2147483648) : ∀ k, k ≤ j → ab_bk G (nI j) k = ab_bk G (-1) k := by
  intro k
  induction k with
  | zero => intro _; rfl
  | succ k ih =>
    intro hk
    rw [ab_bk_s, ab_bk_s, ih (by omega)]
    have h1 : nI k ≠ nI j := fun z => by have := (nI_eq (by omega) (by omega)).mp z; omega
    have h2 : nI k ≠ (-1) := fun z => of_eq_false (sI_m1a (by omega)) z
    by_cases hc : (ab_bk G (-1) k).2 < G k
    · rw [if_pos ⟨h1, hc⟩, if_pos ⟨h2, hc⟩]
    · rw [if_neg (fun z => hc z.2), if_neg (fun z => hc z.2)]
theorem ab_bk_none {G : Nat → Int32} : ∀ k, k < 2147483648 → (ab_bk G (-1) k).1 = (-1) → ∀ r, r < k → ¬ nI 0 < G r := by
  intro k
  induction k with
  | zero => intro _ _ r hr; omega
  | succ k ih =>
    intro hk h r hr
    rw [ab_bk_s] at h
    have h2 : nI k ≠ (-1) := fun z => of_eq_false (sI_m1a (by omega)) z
    by_cases hc : (ab_bk G (-1) k).2 < G k
    · rw [if_pos ⟨h2, hc⟩] at h
      exact absurd h h2
    · rw [if_neg (fun z => hc z.2)] at h
      by_cases e : r = k
      · subst e
        intro z
        have e0 : (ab_bk G (-1) r).2 = nI 0 := by
          have : ∀ k, k < 2147483648 → (ab_bk G (-1) k).1 = (-1) → (ab_bk G (-1) k).2 = nI 0 := by
            intro k
            induction k with
            | zero => intro _ _; rfl
            | succ k ih2 =>
              intro hk h
              rw [ab_bk_s] at h ⊢
              have h2 : nI k ≠ (-1) := fun z => of_eq_false (sI_m1a (by omega)) z
              by_cases hc : nI k ≠ (-1) ∧ (ab_bk G (-1) k).2 < G k
              · rw [if_pos hc] at h
                exact absurd h h2
              · rw [if_neg hc] at h ⊢
                exact ih2 (by omega) h
          exact this r (by omega) h
        rw [e0] at hc
        exact hc z
      · exact ih (by omega) h r (by omega)
section C10
variable {N : Nat} {v y y0 : Nat → Nat → Int32} {l : Nat → Nat → Int64} {d p c n H m : Nat} {T A : Nat → Int32} {b0 : Int32} {W : Int32 → (Nat → Int32) → Int32} {s : ab_S}
theorem ck_cs_0 (hs : ck_cs y0 p c T b0 m y s) : ck_cs y0 p c T b0 0 y s := ⟨hs.1, fun j hj => by omega, hs.2.2⟩
theorem mX6_doubt (hL : ck_LC W c y0) (hp : ck_pp p) (hq2 : y0 238 2 = nI p) (hq3 : y0 238 3 = nI c) (hs : ck_cs y0 p c T b0 0 y s) (ho : ab_ok v n H s.1) {j : Nat} (hj : j < n) (ha : ab_at s.1 j) : ∃ y', fk_ev (d + 2) qX6_doubt 0 [.ref 238, .ref ((p + 3 + j))] [] (fk_E N y l) = some (some (.int ((ab_dt W (y0 238 4) (y0 238 5) s.1 j))), fk_E N y' l) ∧ ck_cs y0 p c T b0 0 y' (s.1, s.2.1, s.2.2.1, if s.1 j = y0 238 4 then s.2.2.2 ||| nI 1 <<< (s.1 (320 + j) &&& 31) else s.2.2.2) := by
  have hp' : p = 33 ∨ p = 100 ∨ p = 167 := hp
  have hn := ho.1
  have hc := hL.1
  have hlaw := fk_at_law hc
  have hh := ck_pp_h hp (show j < 64 by omega)
  obtain ⟨q, hq, eq, _, _⟩ := ab_at_place (ho.2.2.2.2.2.1 j hj) ha
  obtain ⟨o, ho4, eo⟩ := (ho.2.2.2.2.2.1 j hj).1
  obtain ⟨g1, g2, g3, g4, g5, g6⟩ := id hs
  have e2 : y 238 2 = nI p := by rw [g5 2 (by omega) (by omega)]; exact hq2
  have e3 : y 238 3 = nI c := by rw [g5 3 (by omega) (by omega)]; exact hq3
  have e4 : y 238 4 = y0 238 4 := g5 4 (by omega) (by omega)
  have e5 : y 238 5 = y0 238 5 := g5 5 (by omega) (by omega)
  obtain ⟨a1, a2, a3, a4, a5, a6, _⟩ := id (g1.2.2.1 j (by omega) (by rw [ab_ok_n ho]; exact hj))
  unfold ab_dt
  by_cases x1 : s.1 j = y0 238 4
  · rw [if_pos x1, if_pos x1, eq, nI_clamp (by omega)]
    refine ⟨fk_u y 238 6 (s.2.2.2 ||| nI 1 <<< (nI q &&& 31)), ?_, ?_⟩
    · simp (disch := first | assumption | omega) only [rX6_doubt, a1, e4, x1, eq_self, a6, eq, g4, e5, fk_has0, Option.bind_some, Option.toList_some, Option.toList_none, List.cons_append, List.nil_append, fk_b_0, nI_add, Nat.add_zero, Nat.zero_add, not_true_eq_false, not_false_eq_true, if_true, if_false, sI_le_t, sI_le_f, sI_lt_t, sI_lt_f, sI_eq_t, sI_eq_f, sI_rem, sI_div, sI_m1a, sI_m1b, sI_m1c, sI_m1d, sI_m1e, sI_m1f, sI_m2a, sI_m2b, sI_sub, pk_mul, sI_dec, fk_u_s, fk_u_o, sI_dec0, sI_z, sI_md, Bool.false_eq_true, Nat.reduceAdd, Nat.reduceMul, Nat.reduceSub, Nat.reduceMod, Nat.reduceDiv]
      by_cases x2 : fk_tb (y0 238 5) q = true
      · simp (disch := first | assumption | omega) only [x2, rX6_doubt, Option.bind_some, Option.toList_some, Option.toList_none, List.cons_append, List.nil_append, fk_b_0, nI_add, Nat.add_zero, Nat.zero_add, not_true_eq_false, not_false_eq_true, if_true, if_false, sI_le_t, sI_le_f, sI_lt_t, sI_lt_f, sI_eq_t, sI_eq_f, sI_rem, sI_div, sI_m1a, sI_m1b, sI_m1c, sI_m1d, sI_m1e, sI_m1f, sI_m2a, sI_m2b, sI_sub, pk_mul, sI_dec, fk_u_s, fk_u_o, sI_dec0, sI_z, sI_md, Bool.false_eq_true, Nat.reduceAdd, Nat.reduceMul, Nat.reduceSub, Nat.reduceMod, Nat.reduceDiv]
      · simp (disch := first | assumption | omega) only [x2, rX6_doubt, Option.bind_some, Option.toList_some, Option.toList_none, List.cons_append, List.nil_append, fk_b_0, nI_add, Nat.add_zero, Nat.zero_add, not_true_eq_false, not_false_eq_true, if_true, if_false, sI_le_t, sI_le_f, sI_lt_t, sI_lt_f, sI_eq_t, sI_eq_f, sI_rem, sI_div, sI_m1a, sI_m1b, sI_m1c, sI_m1d, sI_m1e, sI_m1f, sI_m2a, sI_m2b, sI_sub, pk_mul, sI_dec, fk_u_s, fk_u_o, sI_dec0, sI_z, sI_md, Bool.false_eq_true, Nat.reduceAdd, Nat.reduceMul, Nat.reduceSub, Nat.reduceMod, Nat.reduceDiv]
    · refine ⟨ck_pr_k g1 fun k k1 k2 => fk_u_rowo (by omega), fun i hi => by omega, ?_, fk_u_s, fun i i1 i2 => by rw [fk_u_o (by omega)]; exact g5 i i1 i2, fun k k1 k2 k3 k4 => by rw [fk_u_rowo k2]; exact g6 k k1 k2 k3 k4⟩
      rw [fk_u_o (by omega)]; exact g3
  · rw [if_neg x1, if_neg x1]
    obtain ⟨y', e, k⟩ := ck_ask (N := N) (l := l) (d := d) (a := nI 100) (h := nI 99) hL hp hs (by omega) ho hj eo ho4 (by simp) (by decide)
    have ey1 : y (p + 3 + j) 1 = nI o := by rw [a1]; exact eo
    have x1' : ¬ nI o = y0 238 4 := by rw [← eo]; exact x1
    refine ⟨y', ?_, ck_cs_k hs hp (by omega) k hc⟩
    simp (disch := first | assumption | omega) only [rX6_doubt, ey1, e4, x1', mX6_speakOf hp e2 hh (show p + 3 + j ≠ 239 by omega) ey1 ho4, ck_sp_o, e3, nI_clamp, e, Option.bind_some, Option.toList_some, Option.toList_none, List.cons_append, List.nil_append, fk_b_0, nI_add, Nat.add_zero, Nat.zero_add, not_true_eq_false, not_false_eq_true, if_true, if_false, sI_le_t, sI_le_f, sI_lt_t, sI_lt_f, sI_eq_t, sI_eq_f, sI_rem, sI_div, sI_m1a, sI_m1b, sI_m1c, sI_m1d, sI_m1e, sI_m1f, sI_m2a, sI_m2b, sI_sub, pk_mul, sI_dec, fk_u_s, fk_u_o, sI_dec0, sI_z, sI_md, Bool.false_eq_true, Nat.reduceAdd, Nat.reduceMul, Nat.reduceSub, Nat.reduceMod, Nat.reduceDiv]
theorem ck_hcp_o {c1 c2 k : Nat} (h : k ≠ c1) : ck_hcp y c1 c2 k = y k := by
  unfold ck_hcp
  simp (disch := exact h) only [fk_u_rowo]
theorem ck_hcp_0 {c1 c2 : Nat} : ck_hcp y c1 c2 c1 0 = y c1 0 := by
  unfold ck_hcp
  simp (disch := omega) only [fk_u_o]
theorem ck_hcp_s {c1 c2 i : Nat} (h1 : 1 ≤ i) (h2 : i ≤ 14) : ck_hcp y c1 c2 c1 i = y c2 i := by
  unfold ck_hcp
  have hh : i = 1 ∨ i = 2 ∨ i = 3 ∨ i = 4 ∨ i = 5 ∨ i = 6 ∨ i = 7 ∨ i = 8 ∨ i = 9 ∨ i = 10 ∨ i = 11 ∨ i = 12 ∨ i = 13 ∨ i = 14 := by omega
  rcases hh with rfl | rfl | rfl | rfl | rfl | rfl | rfl | rfl | rfl | rfl | rfl | rfl | rfl | rfl
  all_goals simp [fk_u]
def ck_pt (y : Nat → Nat → Int32) (p n j o : Nat) (r z : Int32) : Nat → Nat → Int32 :=
  fk_u (fk_u (fk_u (fk_u (fk_u (fk_u (fk_u (fk_u (fk_u (fk_u (fk_u (ck_hcp y (p + 3 + n) (p + 3 + j)) (p + 3 + n) 2 (y (p + 3 + j) 0)) (p + 3 + n) 3 (y p 3)) (p + 3 + n) 5 (y (p + 3 + j) 5 / nI 2)) (p + 3 + n) 14 (nI 0)) (p + 3 + n) 6 (-2)) (p + 3 + n) 7 r) (p + 3 + n) 8 z) (p + 3 + j) 5 (y (p + 3 + j) 5 - y (p + 3 + j) 5 / nI 2)) p 2 (nI (n + 1))) (p + 2) o (y (p + 2) o + nI 1)) p 5 (y p 5 + nI 1)
set_option maxRecDepth 10000 in
theorem mX8_part {j o : Nat} {r z : Int32} (hp : ck_pp p) (hn : n < 64) (hj : j < n) (eb : y p 2 = nI n) (eo : y (p + 3 + j) 1 = nI o) (ho4 : o < 4) (h4 : y (p + 3 + j) 4 = nI 0 ∨ y (p + 3 + j) 4 = nI 1) (h14 : y (p + 3 + j) 14 = nI 0 ∨ y (p + 3 + j) 14 = nI 1) : fk_ev (d + 1) qX8_part 0 [.ref p, .ref ((p + 3 + j)), .int r, .int z, .null] [] (fk_E N y l) = some (none, fk_E N (ck_pt y p n j o r z) l) := by
  obtain ⟨h8, c0, c1, h24, s24, h20, s20, p1, p2⟩ := ck_pp_at hp
  have hp' : p = 33 ∨ p = 100 ∨ p = 167 := hp
  have hhj := ck_pp_h hp (show j < 64 by omega)
  have hhn := ck_pp_h hp hn
  have hcc : p + 3 + n ≠ p + 3 + j := by omega
  simp (disch := first | assumption | omega) only [rX8_part, eb, c0, ck_p3 (p := p), mX0_copyFrom hhn hhj hcc h4 h14, ck_hcp_o, mX0_goOn, c1, eo, Option.bind_some, Option.toList_some, Option.toList_none, List.cons_append, List.nil_append, fk_b_0, nI_add, Nat.add_zero, Nat.zero_add, not_true_eq_false, not_false_eq_true, if_true, if_false, sI_le_t, sI_le_f, sI_lt_t, sI_lt_f, sI_eq_t, sI_eq_f, sI_rem, sI_div, sI_m1a, sI_m1b, sI_m1c, sI_m1d, sI_m1e, sI_m1f, sI_m2a, sI_m2b, sI_sub, pk_mul, sI_dec, fk_u_s, fk_u_o, sI_dec0, sI_z, sI_md, Bool.false_eq_true, Nat.reduceAdd, Nat.reduceMul, Nat.reduceSub, Nat.reduceMod, Nat.reduceDiv]
  rfl
end C10
