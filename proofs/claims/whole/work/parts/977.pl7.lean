section PL7
variable {N : Nat} {S : Nat → Int32} {v v' y y0 y1 y2 : Nat → Nat → Int32} {l : Nat → Nat → Int64} {d n H c k m p o z F x j q : Nat} {T A : Nat → Int32} {W : Int32 → (Nat → Int32) → Int32} {b0 P po ps : Int32}
/-- where a plan begins -/
abbrev ab_s0 (A : Nat → Int32) (j : Nat) : ab_S := (A, fun _ => nI 0, nI 1 <<< (A (320 + j) &&& 31), nI 0)
theorem mX12_triesPlan (HW : fk_LR W y) (hv : ab_rv y) (h33 : y 246 33 = nI o) (h34 : y 246 34 = nI z) (h36 : y 246 36 = nI 1) {st : Nat × Nat × Nat} (h39 : y 246 39 = nI st.1) (hst : st.1 ≤ 1000000000) (h40 : st.1 < 1000000000 → y 246 40 = nI st.2.1 ∧ y 246 41 = nI st.2.2) (hn : H + n ≤ 999) (hA : y 247 = A) (ho : ab_ok y q H A) (hj : ab_oo A o q j) : ∃ y1, fk_ev (d + 8) qX12_triesPlan 0 [.ref 246, .int ((nI o)), .int P, .int ((nI n)), .null, .null] [] (fk_E N y l) = some (none, fk_E N y1 l) ∧ ab_tP y y1 (ab_up y W P (nI o) (ab_s0 A j) n st z) ∧ ∃ g, H + g ≤ 999 ∧ y1 247 = (ab_rn y W (nI o) (nI z) (ab_s0 A j) g).1 := by
  subst hA
  have hq := ho.1
  have hj1 := hj.1
  have ea := mX12_aliveOf (N := N) (l := l) (d := d + 6) ho hj
  have t0 : ab_tI y W (nI o) z H (ab_s0 (y 247) j) 0 (fk_u y 246 35 (nI 1 <<< (y 247 (320 + j) &&& 31))) := by
    refine ⟨⟨y 269, ?_, fun i hi => ?_, ?_, fun i hi => ?_, fun c c1 _ _ _ _ => fk_u_rowo c1⟩, ⟨q, ?_⟩, ?_⟩
    · rw [ab_rn_0, fk_u_rowo (by omega)]
    · rw [fk_u_rowo (by omega)]
    · rw [ab_rn_0, fk_u_s]
    · exact fk_u_o (by omega)
    · rw [ab_rn_0]; exact ho
    · rw [ab_mm_0]; omega
  obtain ⟨y1, e1, e2, e3⟩ := mX12_tries_loop (N := N) (l := l) (d := d) (P := P) HW hv h33 h34 h36 h39 hst h40 hn (ab_K n st) 0 _ (Nat.zero_add _) t0 (fun i hi => by omega)
  refine ⟨y1, ?_, e2, e3⟩
  rw [ab_mm_0] at e1
  rw [← e1]
  simp (disch := first | assumption | omega) only [rX12_triesPlan, ea, Option.bind_some, Option.toList_some, Option.toList_none, List.cons_append, List.nil_append, fk_b_0, nI_add, Nat.add_zero, Nat.zero_add, not_true_eq_false, not_false_eq_true, if_true, if_false, sI_le_t, sI_le_f, sI_lt_t, sI_lt_f, sI_eq_t, sI_eq_f, sI_rem, sI_div, sI_m1a, sI_m1b, sI_m1c, sI_m1d, sI_m1e, sI_m1f, sI_m2a, sI_m2b, sI_sub, pk_mul, sI_dec, fk_u_s, fk_u_o, sI_dec0, sI_z, sI_md, Bool.false_eq_true, Nat.reduceAdd, Nat.reduceMul, Nat.reduceSub, Nat.reduceMod, Nat.reduceDiv]
/-- the reference in the midst of its plans -/
def ab_pJ (y0 t : Nat → Nat → Int32) (A : Nat → Int32) (st : Nat × Nat × Nat) : Prop :=
  (st.1 ≤ 1000000000 ∧ t 246 39 = nI st.1 ∧ (st.1 < 1000000000 → t 246 40 = nI st.2.1 ∧ t 246 41 = nI st.2.2)) ∧ (∀ i, i ≠ 34 → i ≠ 35 → i ≠ 39 → i ≠ 40 → i ≠ 41 → t 246 i = y0 246 i) ∧ (∀ c, c ≠ 246 → c ≠ 247 → c ≠ 267 → c ≠ 268 → c ≠ 269 → t c = y0 c) ∧ ∀ i, 3912 ≤ i → t 247 i = A i
theorem ab_up_le {s : ab_S} {st : Nat × Nat × Nat} : (ab_up v W P po s n st z).1 ≤ st.1 := by
  have := ab_K_le (n := n) (st := st)
  unfold ab_up
  split
  · rename_i h
    show ab_fk v W P po s z (ab_K n st) ≤ st.1
    omega
  · omega
theorem mX12_plan_step (HW : fk_LR W y0) (hv : ab_rv y0) (h33 : y0 246 33 = nI o) (h36 : y0 246 36 = nI 1) (hn : H + n ≤ 999) (h8 : ∀ i, i < 3912 → y0 248 i = A i) (ho : ab_ok y0 q H A) (hj : ab_oo A o q j) {t : Nat → Nat → Int32} {st : Nat × Nat × Nat} (hi : ab_pJ y0 t A st) : ∃ y1, fk_ev (d + 8) qX12_triesPlan 0 [.ref 246, .int ((nI o)), .int P, .int ((nI n)), .null, .null] [] (fk_E N (fk_cp (fk_u t 246 34 (nI z)) 248 247 3912) l) = some (none, fk_E N y1 l) ∧ ab_pJ y0 y1 A (ab_up y0 W P (nI o) (ab_s0 A j) n st z) := by
  obtain ⟨⟨i0, i1, i2⟩, i3, i4, i5⟩ := hi
  generalize ew : fk_cp (fk_u t 246 34 (nI z)) 248 247 3912 = w
  have wo : ∀ c, c ≠ 246 → c ≠ 247 → w c = t c := fun c c1 c2 => by
    rw [← ew]
    funext i
    exact (if_neg fun q => c2 q.1).trans (congrFun (fk_u_rowo c1) i)
  have w6 : ∀ i, i ≠ 34 → w 246 i = t 246 i := fun i hi => by
    rw [← ew]
    exact (if_neg fun q => absurd q.1 (by decide)).trans (fk_u_o (by omega))
  have w34 : w 246 34 = nI z := by
    rw [← ew]
    exact (if_neg fun q => absurd q.1 (by decide)).trans fk_u_s
  have w7 : w 247 = A := by
    funext i
    rw [← ew]
    by_cases hi : i < 3912
    · refine (if_pos ⟨rfl, hi⟩).trans ?_
      rw [fk_u_rowo (by omega), i4 248 (by omega) (by omega) (by omega) (by omega) (by omega)]
      exact h8 i hi
    · refine (if_neg fun q => hi q.2).trans ?_
      rw [fk_u_rowo (by omega)]
      exact i5 i (by omega)
  have e3 : w 246 3 = y0 246 3 := by rw [w6 3 (by omega)]; exact i3 3 (by omega) (by omega) (by omega) (by omega) (by omega)
  have e25 : ∀ c, 250 ≤ c → c ≤ 254 → w c = y0 c := fun c c1 c2 => by rw [wo c (by omega) (by omega)]; exact i4 c (by omega) (by omega) (by omega) (by omega) (by omega)
  have HW2 : fk_LR W w := fk_LR_c (fun k h1 h2 => by rw [wo k (by omega) (by omega)]; exact i4 k (by omega) (by omega) (by omega) (by omega) (by omega)) (by rw [w6 19 (by omega)]; exact i3 19 (by omega) (by omega) (by omega) (by omega) (by omega)) HW
  obtain ⟨y1, f1, f2, g, f3, f4⟩ := mX12_triesPlan (N := N) (l := l) (d := d) (P := P) (st := st) (n := n) HW2 (ab_rv_c e3 e25 hv) (by rw [w6 33 (by omega), i3 33 (by omega) (by omega) (by omega) (by omega) (by omega)]; exact h33) w34 (by rw [w6 36 (by omega), i3 36 (by omega) (by omega) (by omega) (by omega) (by omega)]; exact h36) (by rw [w6 39 (by omega)]; exact i1) i0 (fun h => by rw [w6 40 (by omega), w6 41 (by omega)]; exact i2 h) hn w7 (ab_ok_c e3 ho) hj
  rw [ab_up_env e3 e25] at f2
  obtain ⟨⟨g1, g2⟩, g3, g4⟩ := f2
  have hle := ab_up_le (v := y0) (W := W) (P := P) (po := nI o) (n := n) (z := z) (s := ab_s0 A j) (st := st)
  refine ⟨y1, f1, ⟨by omega, g1, g2⟩, fun i a1 a2 a3 a4 a5 => ?_, fun c c1 c2 c3 c4 c5 => ?_, fun i hi => ?_⟩
  · rw [g3 i a2 a3 a4 a5, w6 i a1]
    exact i3 i a1 a2 a3 a4 a5
  · rw [g4 c c1 c2 c3 c4 c5, wo c c1 c2]
    exact i4 c c1 c2 c3 c4 c5
  · rw [f4, ab_rn_top (ab_rv_c e3 e25 hv) (ab_ok_c e3 ho) hi g f3]
theorem mX12_plan_loop (HW : fk_LR W y0) (hv : ab_rv y0) (h33 : y0 246 33 = nI o) (h36 : y0 246 36 = nI 1) (hn : H + n ≤ 999) (h8 : ∀ i, i < 3912 → y0 248 i = A i) (ho : ab_ok y0 q H A) (hj : ab_oo A o q j) (hF : F < 65536) {wh : Value} {t : Nat → Nat → Int32} (hi : ab_pJ y0 t A (1000000000, 0, 0)) : ∃ y1, fk_ev (d + 9) qX12_plan 107 [.ref 246, .int (nI o), .int P, .int (nI n), wh, .int (nI F), .int (nI 0)] [] (fk_E N t l) = fk_ev (d + 9) qX12_plan 107 [.ref 246, .int (nI o), .int P, .int (nI n), wh, .int (nI F), .int (nI (F + 1))] [] (fk_E N y1 l) ∧ ab_pJ y0 y1 A (ab_fd y0 W P (nI o) (ab_s0 A j) n F (F + 1)) := by
  have key := fk_loopr (σ := Nat → Nat → Int32) (fun x t => fk_ev (d + 9) qX12_plan 107 [.ref 246, .int (nI o), .int P, .int (nI n), wh, .int (nI F), .int (nI x)] [] (fk_E N t l)) (fun x t => ab_pJ y0 t A (ab_fd y0 W P (nI o) (ab_s0 A j) n F x)) (F + 1) (by
    intro x t hx hi
    try dsimp only at hi ⊢
    rw [hX12_plan_107]
    by_cases cs : ab_sF F x
    · obtain ⟨y1, f1, f2⟩ := mX12_plan_step (N := N) (l := l) (d := d) (P := P) (z := x) HW hv h33 h36 hn h8 ho hj hi
      refine ⟨y1, ?_, ?_⟩
      · have ag := mX12_again (N := N) (l := l) (d := d + 7) (y := fk_u t 246 34 (nI x))
        simp (disch := first | assumption | omega) only [rX12_plan, cs, ag, f1, Option.bind_some, Option.toList_some, Option.toList_none, List.cons_append, List.nil_append, fk_b_0, nI_add, Nat.add_zero, Nat.zero_add, not_true_eq_false, not_false_eq_true, if_true, if_false, sI_le_t, sI_le_f, sI_lt_t, sI_lt_f, sI_eq_t, sI_eq_f, sI_rem, sI_div, sI_m1a, sI_m1b, sI_m1c, sI_m1d, sI_m1e, sI_m1f, sI_m2a, sI_m2b, sI_sub, pk_mul, sI_dec, fk_u_s, fk_u_o, sI_dec0, sI_z, sI_md, Bool.false_eq_true, Nat.reduceAdd, Nat.reduceMul, Nat.reduceSub, Nat.reduceMod, Nat.reduceDiv]
      · rw [ab_fd_s, if_pos cs]
        exact f2
    · refine ⟨t, ?_, ?_⟩
      · simp (disch := first | assumption | omega) only [rX12_plan, cs, Option.bind_some, Option.toList_some, Option.toList_none, List.cons_append, List.nil_append, fk_b_0, nI_add, Nat.add_zero, Nat.zero_add, not_true_eq_false, not_false_eq_true, if_true, if_false, sI_le_t, sI_le_f, sI_lt_t, sI_lt_f, sI_eq_t, sI_eq_f, sI_rem, sI_div, sI_m1a, sI_m1b, sI_m1c, sI_m1d, sI_m1e, sI_m1f, sI_m2a, sI_m2b, sI_sub, pk_mul, sI_dec, fk_u_s, fk_u_o, sI_dec0, sI_z, sI_md, Bool.false_eq_true, Nat.reduceAdd, Nat.reduceMul, Nat.reduceSub, Nat.reduceMod, Nat.reduceDiv]
      · rw [ab_fd_s, if_neg cs]
        exact hi) (F + 1) 0 t (Nat.zero_add _) hi
  obtain ⟨y1, e, i1⟩ := key
  exact ⟨y1, e, i1⟩
end PL7
