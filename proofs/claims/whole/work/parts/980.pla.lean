section PLA
variable {N : Nat} {v y t : Nat → Nat → Int32} {l : Nat → Nat → Int64} {d n H c j o x q L F : Nat} {T A : Nat → Int32} {W : Int32 → (Nat → Int32) → Int32} {P : Int32}
def ck_r3 (n : Nat) (t : Nat → Nat → Int32) (st : Nat × Nat × Nat) : Prop := (st.1 = 1000000000 ∧ t 240 3 = (-1)) ∨ (st.1 ≤ n ∧ t 240 3 = nI st.1 ∧ t 240 4 = nI st.2.1 ∧ t 240 5 = nI st.2.2)
/-- one try, and what is written down of it -/
theorem mX9_noted (hv : ab_rv v) (hN : ck_nt v y) (hL : ck_LC W c y) (hpr : ck_pr 33 y T A) (ho : ab_ok v q H A) (hj : ab_oo A o q j) (ho4 : o < 4) (hx : x < 65536) (hn : n ≤ 48) (hl : H + n ≤ 999) (ht : ck_sq c y t) (h0 : ¬ P &&& (nI 1 <<< (A (320 + j) &&& 31) ^^^ (-1)) = nI 0) {st : Nat × Nat × Nat} (hK : L + 1 = ab_K n st) (h3 : ck_r3 n t st) {a3 a4 a5 a8 a11 a12 a13 : Value} : ∃ y1 L' a12', fk_ev (d + 6) qX9_seek 102 [.ref 240, .ref 33, .ref c, a3, a4, a5, .ref (36 + j), .int (P &&& (nI 1 <<< (A (320 + j) &&& 31) ^^^ (-1))), a8, .int (nI x), .int (nI L), a11, a12, a13] [] (fk_E N t l) = fk_ev (d + 6) qX9_seek 182 [.ref 240, .ref 33, .ref c, a3, a4, a5, .ref (36 + j), .int (P &&& (nI 1 <<< (A (320 + j) &&& 31) ^^^ (-1))), a8, .int (nI x), .int (nI L'), a11, a12', a13] [] (fk_E N y1 l) ∧ ck_sq c y y1 ∧ ck_r3 n y1 (ab_up v W P (nI o) (ab_s0 A j) n st x) ∧ L' + 1 = ab_K n (ab_up v W P (nI o) (ab_s0 A j) n st x) ∧ ∀ z, (∀ i, i < 16 → fk_tb (y1 238 6) i = true → fk_tb (nI x) i = fk_tb (nI z) i) → ab_up v W P (nI o) (ab_s0 A j) n (ab_up v W P (nI o) (ab_s0 A j) n st x) z = ab_up v W P (nI o) (ab_s0 A j) n st x := by
  have hKn : ab_K n st ≤ n + 1 := by unfold ab_K; split <;> omega
  obtain ⟨fi, hfi⟩ : ∃ fi, fi = fk_fi (fun k => decide (ab_gd P (nI o) (ab_rn v W (nI o) (nI x) (ab_s0 A j) k))) 1 L := ⟨_, rfl⟩
  have le := fk_fi_le (p := fun k => decide (ab_gd P (nI o) (ab_rn v W (nI o) (nI x) (ab_s0 A j) k))) L 1
  rw [← hfi] at le
  have efk : ab_fk v W P (nI o) (ab_s0 A j) x (ab_K n st) = fi := by
    unfold ab_fk
    rw [← hK, hfi]
    refine fk_fi_1 ?_
    rw [decide_eq_true_eq, ab_rn_0]
    exact fun z => h0 z.1
  obtain ⟨y1, e1, e2, e3, e4, e5⟩ := mX9_try (N := N) (l := l) (d := d) (P := P) (a3 := a3) (a4 := a4) (a5 := a5) (a8 := a8) (a11 := a11) (a12 := a12) (a13 := a13) hv hN hL hpr ho hj ho4 hx (show H + L ≤ 999 by omega) ht hfi
  have hsame : ∀ w : Nat → Nat → Int32, w 238 6 = y1 238 6 → ∀ z, (∀ i, i < 16 → fk_tb (w 238 6) i = true → fk_tb (nI x) i = fk_tb (nI z) i) → ab_up v W P (nI o) (ab_s0 A j) n (ab_up v W P (nI o) (ab_s0 A j) n st x) z = ab_up v W P (nI o) (ab_s0 A j) n st x := fun w hw z hz => by
    rw [hw, e5] at hz
    refine ab_up_same (kk := if fi < L + 1 then fi else L) hv (ab_rn_rk hv ho ?_) ?_ hz
    · split <;> omega
    · rw [efk, ← hK, Nat.add_sub_cancel]
  rw [e1]
  by_cases cf : fi < L + 1
  · have eu : ab_up v W P (nI o) (ab_s0 A j) n st x = (fi, x, ab_mm v W (nI o) (ab_s0 A j) x fi) := by
      unfold ab_up
      rw [efk, ← hK, if_pos cf]
    rw [if_pos cf] at e4
    refine ⟨fk_u (fk_u (fk_u y1 240 3 (nI fi)) 240 4 (nI x)) 240 5 (nI (ab_mm v W (nI o) (ab_s0 A j) x fi)), fi - 1, .int (nI fi), ?_, ⟨fun k k1 k2 k3 k4 k5 => ?_, fun i hi => ?_⟩, ?_, ?_, hsame _ ?_⟩
    · rw [if_pos cf]
      have c1 : ¬ fi ≤ 0 := by omega
      simp (disch := first | assumption | omega) only [rX9_seek, c1, e4, Option.bind_some, Option.toList_some, Option.toList_none, List.cons_append, List.nil_append, fk_b_0, nI_add, Nat.add_zero, Nat.zero_add, not_true_eq_false, not_false_eq_true, if_true, if_false, sI_le_t, sI_le_f, sI_lt_t, sI_lt_f, sI_eq_t, sI_eq_f, sI_rem, sI_div, sI_m1a, sI_m1b, sI_m1c, sI_m1d, sI_m1e, sI_m1f, sI_m2a, sI_m2b, sI_sub, pk_mul, sI_dec, fk_u_s, fk_u_o, sI_dec0, sI_z, sI_md, Bool.false_eq_true, Nat.reduceAdd, Nat.reduceMul, Nat.reduceSub, Nat.reduceMod, Nat.reduceDiv]
    · rw [fk_u_rowo k5, fk_u_rowo k5, fk_u_rowo k5]
      exact e2.1 k k1 k2 k3 k4 k5
    · rw [fk_u_rowo (by omega), fk_u_rowo (by omega), fk_u_rowo (by omega)]
      exact e2.2 i hi
    · rw [eu]
      refine Or.inr ⟨?_, ?_, ?_, ?_⟩
      · show fi ≤ n
        omega
      · rw [fk_u_o (by omega), fk_u_o (by omega), fk_u_s]
      · rw [fk_u_o (by omega), fk_u_s]
      · rw [fk_u_s]
    · rw [eu]
      unfold ab_K
      rw [if_pos (show (fi, x, ab_mm v W (nI o) (ab_s0 A j) x fi).1 ≤ n from by show fi ≤ n; omega)]
      show fi - 1 + 1 = fi
      omega
    · rw [fk_u_rowo (by omega), fk_u_rowo (by omega), fk_u_rowo (by omega)]
  · have eu : ab_up v W P (nI o) (ab_s0 A j) n st x = st := by
      unfold ab_up
      rw [efk, ← hK, if_neg cf]
    refine ⟨y1, L, .int (-1), ?_, e2, ?_, by rw [eu]; exact hK, hsame y1 rfl⟩
    · rw [if_neg cf]
      simp (disch := first | assumption | omega) only [rX9_seek, Option.bind_some, Option.toList_some, Option.toList_none, List.cons_append, List.nil_append, fk_b_0, nI_add, Nat.add_zero, Nat.zero_add, not_true_eq_false, not_false_eq_true, if_true, if_false, sI_le_t, sI_le_f, sI_lt_t, sI_lt_f, sI_eq_t, sI_eq_f, sI_rem, sI_div, sI_m1a, sI_m1b, sI_m1c, sI_m1d, sI_m1e, sI_m1f, sI_m2a, sI_m2b, sI_sub, pk_mul, sI_dec, fk_u_s, fk_u_o, sI_dec0, sI_z, sI_md, Bool.false_eq_true, Nat.reduceAdd, Nat.reduceMul, Nat.reduceSub, Nat.reduceMod, Nat.reduceDiv]
    · rw [eu]
      unfold ck_r3
      rw [e3 3 (by omega), e3 4 (by omega), e3 5 (by omega)]
      exact h3
theorem mX9_seek_loop (hv : ab_rv v) (hN : ck_nt v y) (hL : ck_LC W c y) (hpr : ck_pr 33 y T A) (ho : ab_ok v q H A) (hj : ab_oo A o q j) (ho4 : o < 4) (hF : F < 65536) (hF8 : fk_cd (nI F) ≤ 8) (hn : n ≤ 48) (hl : H + n ≤ 999) (h0 : ¬ P &&& (nI 1 <<< (A (320 + j) &&& 31) ^^^ (-1)) = nI 0) {a3 a4 a5 : Value} : ∀ f x r L st t, F < x + f → fk_su x F → r ≤ ab_rk2 F x → L + 1 = ab_K n st → ab_fd v W P (nI o) (ab_s0 A j) n F x = st → ck_sq c y t → ck_r3 n t st → ∀ a12 a13 : Value, ∃ y1, fk_ev (d + 6) qX9_seek 89 [.ref 240, .ref 33, .ref c, a3, a4, a5, .ref (36 + j), .int (P &&& (nI 1 <<< (A (320 + j) &&& 31) ^^^ (-1))), .int (nI F), .int (nI x), .int (nI L), .int (nI r), a12, a13] [] (fk_E N t l) = some (none, fk_E N y1 l) ∧ ck_sq c y y1 ∧ ck_r3 n y1 (ab_fd v W P (nI o) (ab_s0 A j) n F (F + 1)) := by
  intro f
  induction f with
  | zero =>
    intro x r L st t hf hx
    have := fk_su_le hx
    omega
  | succ f ih =>
    intro x r L st t hf hx hr hK hst ht h3 a12 a13
    have xl := fk_su_le hx
    have r256 := ab_rk2_lt hF hF8 hx
    have hKn : ab_K n st ≤ n + 1 := by unfold ab_K; split <;> omega
    rw [hX9_seek_89]
    by_cases cL : L = 0
    · have e : ab_fd v W P (nI o) (ab_s0 A j) n F (F + 1) = st := ab_fd_skip (x := x) (by omega) hst fun z z1 z2 z3 => by
        have e := fk_fi_no (p := fun k => decide (ab_gd P (nI o) (ab_rn v W (nI o) (nI z) (ab_s0 A j) k))) (j := 0) (k := ab_K n st) fun i i1 i2 => by
          have : i = 0 := by omega
          subst this
          rw [decide_eq_true_eq, ab_rn_0]
          exact fun z => h0 z.1
        unfold ab_up
        exact if_neg (by unfold ab_fk; omega)
      rw [e]
      refine ⟨t, ?_, ht, h3⟩
      subst cL
      simp (disch := first | assumption | omega) only [rX9_seek, Option.bind_some, Option.toList_some, Option.toList_none, List.cons_append, List.nil_append, fk_b_0, nI_add, Nat.add_zero, Nat.zero_add, not_true_eq_false, not_false_eq_true, if_true, if_false, sI_le_t, sI_le_f, sI_lt_t, sI_lt_f, sI_eq_t, sI_eq_f, sI_rem, sI_div, sI_m1a, sI_m1b, sI_m1c, sI_m1d, sI_m1e, sI_m1f, sI_m2a, sI_m2b, sI_sub, pk_mul, sI_dec, fk_u_s, fk_u_o, sI_dec0, sI_z, sI_md, Bool.false_eq_true, Nat.reduceAdd, Nat.reduceMul, Nat.reduceSub, Nat.reduceMod, Nat.reduceDiv]
    · obtain ⟨w, L', b12, e1, e2, e3, e4, e5⟩ := mX9_noted (N := N) (l := l) (d := d) (a3 := a3) (a4 := a4) (a5 := a5) (a8 := .int (nI F)) (a11 := .int (nI r)) (a12 := a12) (a13 := a13) hv hN hL hpr ho hj ho4 (show x < 65536 by omega) hn hl ht h0 hK h3
      have efd : ab_fd v W P (nI o) (ab_s0 A j) n F (x + 1) = ab_up v W P (nI o) (ab_s0 A j) n st x := by rw [ab_fd_s, if_pos ((ab_sF_su hF (by omega)).mpr hx), hst]
      obtain ⟨B, hB, sB, xB, eB, skip⟩ := ab_skip hF hx efd e5
      have hK2 : ab_K n (ab_up v W P (nI o) (ab_s0 A j) n st x) ≤ n + 1 := by unfold ab_K; split <;> omega
      have st1 : fk_ev (d + 6) qX9_seek 91 [.ref 240, .ref 33, .ref c, a3, a4, a5, .ref (36 + j), .int (P &&& (nI 1 <<< (A (320 + j) &&& 31) ^^^ (-1))), .int (nI F), .int (nI x), .int (nI L), .int (nI r), a12, a13] [.int (nI r)] (fk_E N t l) = fk_ev (d + 6) qX9_seek 102 [.ref 240, .ref 33, .ref c, a3, a4, a5, .ref (36 + j), .int (P &&& (nI 1 <<< (A (320 + j) &&& 31) ^^^ (-1))), .int (nI F), .int (nI x), .int (nI L), .int (nI r), a12, a13] [] (fk_E N t l) := by
        have q1 : r < 256 := by omega
        have q2 : 0 < L ∧ L ≤ 48 := by omega
        simp (disch := first | assumption | omega) only [rX9_seek, Option.bind_some, Option.toList_some, Option.toList_none, List.cons_append, List.nil_append, fk_b_0, nI_add, Nat.add_zero, Nat.zero_add, not_true_eq_false, not_false_eq_true, if_true, if_false, sI_le_t, sI_le_f, sI_lt_t, sI_lt_f, sI_eq_t, sI_eq_f, sI_rem, sI_div, sI_m1a, sI_m1b, sI_m1c, sI_m1d, sI_m1e, sI_m1f, sI_m2a, sI_m2b, sI_sub, pk_mul, sI_dec, fk_u_s, fk_u_o, sI_dec0, sI_z, sI_md, Bool.false_eq_true, Nat.reduceAdd, Nat.reduceMul, Nat.reduceSub, Nat.reduceMod, Nat.reduceDiv]
      have st2 : fk_ev (d + 6) qX9_seek 182 [.ref 240, .ref 33, .ref c, a3, a4, a5, .ref (36 + j), .int (P &&& (nI 1 <<< (A (320 + j) &&& 31) ^^^ (-1))), .int (nI F), .int (nI x), .int (nI L'), .int (nI r), b12, a13] [] (fk_E N w l) = fk_ev (d + 6) qX9_seek 220 [.ref 240, .ref 33, .ref c, a3, a4, a5, .ref (36 + j), .int (P &&& (nI 1 <<< (A (320 + j) &&& 31) ^^^ (-1))), .int (nI F), .int (nI B), .int (nI L'), .int (nI r), b12, .int (w 238 6 &&& nI F)] [] (fk_E N w l) := by
        by_cases ca : w 238 6 &&& nI F = nI 0
        · rw [if_pos ca] at eB
          simp (disch := first | assumption | omega) only [rX9_seek, ca, eB, Option.bind_some, Option.toList_some, Option.toList_none, List.cons_append, List.nil_append, fk_b_0, nI_add, Nat.add_zero, Nat.zero_add, not_true_eq_false, not_false_eq_true, if_true, if_false, sI_le_t, sI_le_f, sI_lt_t, sI_lt_f, sI_eq_t, sI_eq_f, sI_rem, sI_div, sI_m1a, sI_m1b, sI_m1c, sI_m1d, sI_m1e, sI_m1f, sI_m2a, sI_m2b, sI_sub, pk_mul, sI_dec, fk_u_s, fk_u_o, sI_dec0, sI_z, sI_md, Bool.false_eq_true, Nat.reduceAdd, Nat.reduceMul, Nat.reduceSub, Nat.reduceMod, Nat.reduceDiv]
        · rw [if_neg ca] at eB
          simp (disch := first | assumption | omega) only [rX9_seek, ca, eB, Option.bind_some, Option.toList_some, Option.toList_none, List.cons_append, List.nil_append, fk_b_0, nI_add, Nat.add_zero, Nat.zero_add, not_true_eq_false, not_false_eq_true, if_true, if_false, sI_le_t, sI_le_f, sI_lt_t, sI_lt_f, sI_eq_t, sI_eq_f, sI_rem, sI_div, sI_m1a, sI_m1b, sI_m1c, sI_m1d, sI_m1e, sI_m1f, sI_m2a, sI_m2b, sI_sub, pk_mul, sI_dec, fk_u_s, fk_u_o, sI_dec0, sI_z, sI_md, Bool.false_eq_true, Nat.reduceAdd, Nat.reduceMul, Nat.reduceSub, Nat.reduceMod, Nat.reduceDiv]
      rw [st1, e1, st2]
      obtain ⟨nx1, nx2⟩ := fk_nxt hF sB
      have Bl := fk_su_le sB
      by_cases cB : B = F
      · rw [skip (F + 1) (fun z hz _ => by rw [cB]; exact fk_su_le hz) (by omega) (Nat.le_refl _)]
        refine ⟨w, ?_, e2, e3⟩
        have e0 := nx1 cB
        have e0b : nI (B - F) &&& nI F = nI 0 := by rw [cB, Nat.sub_self, nI_0, Int32.zero_and]
        simp (disch := first | assumption | omega) only [rX9_seek, e0, e0b, Option.bind_some, Option.toList_some, Option.toList_none, List.cons_append, List.nil_append, fk_b_0, nI_add, Nat.add_zero, Nat.zero_add, not_true_eq_false, not_false_eq_true, if_true, if_false, sI_le_t, sI_le_f, sI_lt_t, sI_lt_f, sI_eq_t, sI_eq_f, sI_rem, sI_div, sI_m1a, sI_m1b, sI_m1c, sI_m1d, sI_m1e, sI_m1f, sI_m2a, sI_m2b, sI_sub, pk_mul, sI_dec, fk_u_s, fk_u_o, sI_dec0, sI_z, sI_md, Bool.false_eq_true, Nat.reduceAdd, Nat.reduceMul, Nat.reduceSub, Nat.reduceMod, Nat.reduceDiv]
      · obtain ⟨x', hx', ex', sx', lt', mn'⟩ := nx2 cB
        have xl' := fk_su_le sx'
        obtain ⟨y1, g1, g2, g3⟩ := ih x' (r + 1) L' _ w (by omega) sx' (by have := ab_rk2_up hF hx (show x < x' by omega); omega) e4 (skip x' (fun z hz hz2 => by
          refine Decidable.byContradiction fun hh => ?_
          have := mn' z hz (by omega)
          omega) (by omega) (by omega)) e2 e3 b12 (.int (w 238 6 &&& nI F))
        refine ⟨y1, ?_, g2, g3⟩
        rw [← g1]
        have n0 : ¬ nI x' = nI 0 := fun z => by
          have := (nI_eq (by omega) (by omega)).mp z
          omega
        simp (disch := first | assumption | omega) only [rX9_seek, ex', n0, Option.bind_some, Option.toList_some, Option.toList_none, List.cons_append, List.nil_append, fk_b_0, nI_add, Nat.add_zero, Nat.zero_add, not_true_eq_false, not_false_eq_true, if_true, if_false, sI_le_t, sI_le_f, sI_lt_t, sI_lt_f, sI_eq_t, sI_eq_f, sI_rem, sI_div, sI_m1a, sI_m1b, sI_m1c, sI_m1d, sI_m1e, sI_m1f, sI_m2a, sI_m2b, sI_sub, pk_mul, sI_dec, fk_u_s, fk_u_o, sI_dec0, sI_z, sI_md, Bool.false_eq_true, Nat.reduceAdd, Nat.reduceMul, Nat.reduceSub, Nat.reduceMod, Nat.reduceDiv]
end PLA
