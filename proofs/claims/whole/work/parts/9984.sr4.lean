/-! THE LAW: the reference reads a condition -/
section SR4
variable {N : Nat} {y y0 y1 y2 y' : Nat → Nat → Int32} {l : Nat → Nat → Int64} {d n a o k x c i b q j : Nat} {bt : Nat → Nat} {R R2 w w0 : List (Nat × Nat)} {v : Int32}
def lz_no : List (Nat × Nat) → Nat
  | [] => 0
  | e :: w => (if e.1 = 10 ∨ e.1 = 13 then 1 else 0) + lz_no w
def lz_wv (m : Nat) (w : List (Nat × Nat)) : Prop := ∀ e ∈ w, 10 ≤ e.1 ∧ e.1 ≤ 13 ∧ (e.1 = 11 ∨ e.1 = 12 → e.2 < m)
def lz_bt : List (Nat × Nat) → Prop
  | [] => False
  | e :: w => (w = [] ∧ e.1 = 13) ∨ lz_bt w
theorem lz_bt_no : ∀ w : List (Nat × Nat), lz_bt w → 1 ≤ lz_no w := by
  intro w
  induction w with
  | nil => intro h; exact h.elim
  | cons e w ih =>
    intro h
    show 1 ≤ (if e.1 = 10 ∨ e.1 = 13 then 1 else 0) + lz_no w
    rcases h with h | h
    · rw [if_pos (Or.inr h.2)]; omega
    · have := ih h; omega
/-- what holds all along -/
def lz_iv (a : Nat) (R w : List (Nat × Nat)) (o : Nat) : Prop := R.length + lz_wt w ≤ a ∧ w.length ≤ a ∧ lz_no w = o ∧ o ≤ 6 ∧ lz_wv R.length w ∧ lz_bt w
theorem lz_wv_le {m m2 : Nat} (h : lz_wv m w) (hm : m ≤ m2) : lz_wv m2 w := fun e he => ⟨(h e he).1, (h e he).2.1, fun z => Nat.lt_of_lt_of_le ((h e he).2.2 z) hm⟩
theorem mX12_endsPiece : ∀ (w R : List (Nat × Nat)) o y, a ≤ 250 → lz_iv a R w o → lz_rc y0 bt n a R w o y → ∃ y' R' w' o', fk_ev (d + 1) qX12_endsPiece 0 [.ref 246] [] (fk_E N y l) = some (none, fk_E N y' l) ∧ lz_rc y0 bt n a R' w' o' y' ∧ (∀ f : List (Nat × Nat) → List (Nat × Nat) → Nat → Option (Int32 ⊕ (Nat × List (Nat × Nat) × Nat)), lz_ee f w R o = f R' w' o') ∧ lz_iv a R' w' o' := by
  intro w
  induction w with
  | nil => intro R o y ha hi; exact hi.2.2.2.2.2.elim
  | cons e w ih =>
    intro R o y ha hi h
    obtain ⟨i1, i2, i3, i4, i5, i6⟩ := id hi
    have i2 : w.length + 1 ≤ a := i2
    have i1 : R.length + ((if e.1 ≤ 10 then 1 else 0) + lz_wt w) ≤ a := i1
    have i3 : (if e.1 = 10 ∨ e.1 = 13 then 1 else 0) + lz_no w = o := i3
    have hwt := mX12_waitTop (N := N) (l := l) (d := d) h (by show w.length + 1 ≤ 250; omega)
    have hwt : fk_ev d qX12_waitTop 0 [.ref 246] [] (fk_E N y l) = some (some (.int ((nI e.1))), fk_E N y l) := hwt
    have i5e := i5 e (List.mem_cons_self ..)
    have e16 := h.2.2.1.2
    have e17 : y 246 17 = nI (w.length + 1) := h.2.2.2.1.2
    have e15 := h.2.2.2.2
    by_cases c : e.1 = 10
    · rw [if_pos (by omega)] at i1
      rw [if_pos (Or.inl c)] at i3
      have hno := mX12_notes (N := N) (l := l) (d := d) (y := y) (m := R.length) (k := 10) (x := 0) e16 (by omega) (by omega) (by omega)
      have r1 := lz_rc_open (b := o - 1) (lz_rc_pop (lz_rc_note (k := 10) (x := 0) h (by omega) (by omega)))
      have hl : (R ++ [((10 : Nat), (0 : Nat))]).length = R.length + 1 := by rw [List.length_append]; rfl
      obtain ⟨y', R', w', o', g1, g2, g3, g4⟩ := ih (R ++ [(10, 0)]) (o - 1) _ ha ⟨by rw [hl]; omega, by omega, by omega, by omega, by rw [hl]; exact lz_wv_le (fun e he => i5 e (List.mem_cons_of_mem _ he)) (by omega), i6.resolve_left (by omega)⟩ r1
      refine ⟨y', R', w', o', ?_, g2, fun f => ?_, g4⟩
      · rw [← g1, hX12_endsPiece_0]
        rw [c] at hwt
        have ea : w.length + 1 - 1 = w.length := rfl
        generalize w.length = W at *
        generalize R.length = M at *
        simp (disch := first | assumption | omega) only [rX12_endsPiece, hwt, hno, e17, e15, ea, Option.bind_some, Option.toList_some, Option.toList_none, List.cons_append, List.nil_append, fk_b_0, nI_add, Nat.add_zero, Nat.zero_add, not_true_eq_false, not_false_eq_true, if_true, if_false, sI_le_t, sI_le_f, sI_lt_t, sI_lt_f, sI_eq_t, sI_eq_f, sI_rem, sI_div, sI_m1a, sI_m1b, sI_m1c, sI_m1d, sI_m1e, sI_m1f, sI_m2a, sI_m2b, sI_sub, pk_mul, sI_dec, fk_u_s, fk_u_o, sI_dec0, sI_z, sI_md, Bool.false_eq_true, Nat.reduceAdd, Nat.reduceMul, Nat.reduceSub, Nat.reduceMod, Nat.reduceDiv]
      · rw [← g3 f]
        exact if_pos c
    · refine ⟨y, R, e :: w, o, ?_, h, fun f => if_neg c, hi⟩
      rw [hX12_endsPiece_0]
      have c15 : e.1 < 15 := by omega
      simp (disch := first | assumption | omega) only [rX12_endsPiece, hwt, Option.bind_some, Option.toList_some, Option.toList_none, List.cons_append, List.nil_append, fk_b_0, nI_add, Nat.add_zero, Nat.zero_add, not_true_eq_false, not_false_eq_true, if_true, if_false, sI_le_t, sI_le_f, sI_lt_t, sI_lt_f, sI_eq_t, sI_eq_f, sI_rem, sI_div, sI_m1a, sI_m1b, sI_m1c, sI_m1d, sI_m1e, sI_m1f, sI_m2a, sI_m2b, sI_sub, pk_mul, sI_dec, fk_u_s, fk_u_o, sI_dec0, sI_z, sI_md, Bool.false_eq_true, Nat.reduceAdd, Nat.reduceMul, Nat.reduceSub, Nat.reduceMod, Nat.reduceDiv]
theorem mX12_lands_l {all : Bool} : ∀ (w R : List (Nat × Nat)) y (x3 : Value), a ≤ 250 → lz_iv a R w o → lz_rc y0 bt n a R w o y → ∃ y' R' w', fk_ev (d + 1) qX12_lands 0 [.ref 246, .int (if all = true then nI 1 else nI 0), x3] [] (fk_E N y l) = some (none, fk_E N y' l) ∧ lz_rc y0 bt n a R' w' o y' ∧ (∀ f : List (Nat × Nat) → List (Nat × Nat) → Option (Int32 ⊕ (Nat × List (Nat × Nat) × Nat)), lz_ll f all w R = f R' w') ∧ lz_iv a R' w' o ∧ ∃ e v, w' = e :: v ∧ ¬ (e.1 = 11 ∨ (all = true ∧ e.1 = 12)) := by
  intro w
  induction w with
  | nil => intro R y x3 ha hi; exact hi.2.2.2.2.2.elim
  | cons e w ih =>
    intro R y x3 ha hi h
    obtain ⟨i1, i2, i3, i4, i5, i6⟩ := id hi
    have i2 : w.length + 1 ≤ a := i2
    have i1 : R.length + ((if e.1 ≤ 10 then 1 else 0) + lz_wt w) ≤ a := i1
    have i3 : (if e.1 = 10 ∨ e.1 = 13 then 1 else 0) + lz_no w = o := i3
    have hwt := mX12_waitTop (N := N) (l := l) (d := d) h (by show w.length + 1 ≤ 250; omega)
    have hwt : fk_ev d qX12_waitTop 0 [.ref 246] [] (fk_E N y l) = some (some (.int ((nI e.1))), fk_E N y l) := hwt
    have i5e := i5 e (List.mem_cons_self ..)
    have e16 := h.2.2.1.2
    have e17 : y 246 17 = nI (w.length + 1) := h.2.2.2.1.2
    obtain ⟨w1, w2, w3, _⟩ := h.2.2.2.1.1
    by_cases c : e.1 = 11 ∨ (all = true ∧ e.1 = 12)
    · have c' : e.1 = 11 ∨ e.1 = 12 := c.imp id (fun z => z.2)
      rw [if_neg (by omega)] at i1 i3
      have hf := i5e.2.2 c'
      obtain ⟨q1, q2, q3⟩ := lz_cd_get R 0 e.2 hf h.2.2.1.1
      rw [Nat.zero_add] at q1
      have r1 := lz_rc_pop (lz_rc_set (q := ((R.getD e.2 (0, 0)).1, R.length)) h q2 (by dsimp only; omega) hf)
      obtain ⟨y', R', w', g1, g2, g3, g4, g5⟩ := ih (R.set e.2 ((R.getD e.2 (0, 0)).1, R.length)) _ (.int (nI e.2)) ha ⟨by rw [List.length_set]; omega, by omega, by omega, i4, by rw [List.length_set]; exact fun e he => i5 e (List.mem_cons_of_mem _ he), i6.resolve_left (by omega)⟩ r1
      refine ⟨y', R', w', ?_, g2, fun f => ?_, g4, g5⟩
      · rw [← g1, hX12_lands_0]
        have ea : w.length + 1 - 1 = w.length := rfl
        have m1 := lz_md (o := e.1) (x := e.2) w3
        have d1 := lz_dv (o := (R.getD e.2 (0, 0)).1) (x := (R.getD e.2 (0, 0)).2) q3
        have hf260 : e.2 < 260 := by omega
        dsimp only
        generalize R.getD e.2 (0, 0) = C at *
        generalize w.length = W at *
        generalize R.length = M at *
        rcases c with c | ⟨c0, c⟩
        · rw [c] at hwt w1 m1
          simp (disch := first | assumption | omega) only [rX12_lands, hwt, e17, ea, w1, m1, q1, d1, e16, Option.bind_some, Option.toList_some, Option.toList_none, List.cons_append, List.nil_append, fk_b_0, nI_add, Nat.add_zero, Nat.zero_add, not_true_eq_false, not_false_eq_true, if_true, if_false, sI_le_t, sI_le_f, sI_lt_t, sI_lt_f, sI_eq_t, sI_eq_f, sI_rem, sI_div, sI_m1a, sI_m1b, sI_m1c, sI_m1d, sI_m1e, sI_m1f, sI_m2a, sI_m2b, sI_sub, pk_mul, sI_dec, fk_u_s, fk_u_o, sI_dec0, sI_z, sI_md, Bool.false_eq_true, Nat.reduceAdd, Nat.reduceMul, Nat.reduceSub, Nat.reduceMod, Nat.reduceDiv]
        · subst c0
          rw [if_pos rfl]
          rw [c] at hwt w1 m1
          simp (disch := first | assumption | omega) only [rX12_lands, hwt, e17, ea, w1, m1, q1, d1, e16, Option.bind_some, Option.toList_some, Option.toList_none, List.cons_append, List.nil_append, fk_b_0, nI_add, Nat.add_zero, Nat.zero_add, not_true_eq_false, not_false_eq_true, if_true, if_false, sI_le_t, sI_le_f, sI_lt_t, sI_lt_f, sI_eq_t, sI_eq_f, sI_rem, sI_div, sI_m1a, sI_m1b, sI_m1c, sI_m1d, sI_m1e, sI_m1f, sI_m2a, sI_m2b, sI_sub, pk_mul, sI_dec, fk_u_s, fk_u_o, sI_dec0, sI_z, sI_md, Bool.false_eq_true, Nat.reduceAdd, Nat.reduceMul, Nat.reduceSub, Nat.reduceMod, Nat.reduceDiv]
      · rw [← g3 f]
        exact if_pos c
    · refine ⟨y, R, e :: w, ?_, h, fun f => if_neg c, hi, e, w, rfl, c⟩
      rw [hX12_lands_0]
      have c11 : e.1 ≠ 11 := fun z => c (Or.inl z)
      have c15 : e.1 < 15 := by omega
      cases all with
      | false => rw [if_neg (by decide)]; simp (disch := first | assumption | omega) only [rX12_lands, hwt, Option.bind_some, Option.toList_some, Option.toList_none, List.cons_append, List.nil_append, fk_b_0, nI_add, Nat.add_zero, Nat.zero_add, not_true_eq_false, not_false_eq_true, if_true, if_false, sI_le_t, sI_le_f, sI_lt_t, sI_lt_f, sI_eq_t, sI_eq_f, sI_rem, sI_div, sI_m1a, sI_m1b, sI_m1c, sI_m1d, sI_m1e, sI_m1f, sI_m2a, sI_m2b, sI_sub, pk_mul, sI_dec, fk_u_s, fk_u_o, sI_dec0, sI_z, sI_md, Bool.false_eq_true, Nat.reduceAdd, Nat.reduceMul, Nat.reduceSub, Nat.reduceMod, Nat.reduceDiv]
      | true =>
        have c12 : e.1 ≠ 12 := fun z => c (Or.inr ⟨rfl, z⟩)
        rw [if_pos rfl]
        simp (disch := first | assumption | omega) only [rX12_lands, hwt, Option.bind_some, Option.toList_some, Option.toList_none, List.cons_append, List.nil_append, fk_b_0, nI_add, Nat.add_zero, Nat.zero_add, not_true_eq_false, not_false_eq_true, if_true, if_false, sI_le_t, sI_le_f, sI_lt_t, sI_lt_f, sI_eq_t, sI_eq_f, sI_rem, sI_div, sI_m1a, sI_m1b, sI_m1c, sI_m1d, sI_m1e, sI_m1f, sI_m2a, sI_m2b, sI_sub, pk_mul, sI_dec, fk_u_s, fk_u_o, sI_dec0, sI_z, sI_md, Bool.false_eq_true, Nat.reduceAdd, Nat.reduceMul, Nat.reduceSub, Nat.reduceMod, Nat.reduceDiv]
theorem mX12_lands {all : Bool} (w R : List (Nat × Nat)) (y : Nat → Nat → Int32) (ha : a ≤ 250) (hi : lz_iv a R w o) (h : lz_rc y0 bt n a R w o y) : ∃ y' R' w', fk_ev (d + 1) qX12_lands 0 [.ref 246, .int ((if all = true then nI 1 else nI 0)), .null] [] (fk_E N y l) = some (none, fk_E N y' l) ∧ lz_rc y0 bt n a R' w' o y' ∧ (∀ f : List (Nat × Nat) → List (Nat × Nat) → Option (Int32 ⊕ (Nat × List (Nat × Nat) × Nat)), lz_ll f all w R = f R' w') ∧ lz_iv a R' w' o ∧ ∃ e v, w' = e :: v ∧ ¬ (e.1 = 11 ∨ (all = true ∧ e.1 = 12)) := mX12_lands_l w R y .null ha hi h
theorem mX12_jumps (h : lz_rc y0 bt n a R w o y) (hj : j < 13) (hR : R.length ≤ 250) (hw : w.length ≤ 250) (hn : a < n) : ∃ y', fk_ev (d + 1) qX12_jumps 0 [.ref 246, .int ((nI j))] [] (fk_E N y l) = some (none, fk_E N y' l) ∧ lz_rc y0 bt n (a + 1) (R ++ [(j, 0)]) ((j, R.length) :: w) o y' := by
  have e11 := h.2.1.1
  have n25 := h.2.1.2.2.2.2.2
  have e17 := h.2.2.2.1.2
  have e16 := h.2.2.1.2
  have r1 := lz_rc_push (k := j) (x := R.length) h (by omega) (by omega)
  have r2 := lz_rc_note (k := j) (x := 0) r1 (by omega) (by omega)
  have r3 := lz_rc_at (b := a + 1) r2 hn
  have hno := mX12_notes (N := N) (l := l) (d := d) (y := fk_u (fk_u y 257 w.length (nI (1048576 * j + R.length))) 246 17 (nI (w.length + 1))) (m := R.length) (k := j) (x := 0) (by rw [fk_u_o (by omega), fk_u_o (by omega)]; exact e16) (by omega) (by omega) (by omega)
  refine ⟨_, ?_, r3⟩
  generalize w.length = W at *
  generalize R.length = M at *
  simp (disch := first | assumption | omega) only [rX12_jumps, e17, e16, e11, hno, Option.bind_some, Option.toList_some, Option.toList_none, List.cons_append, List.nil_append, fk_b_0, nI_add, Nat.add_zero, Nat.zero_add, not_true_eq_false, not_false_eq_true, if_true, if_false, sI_le_t, sI_le_f, sI_lt_t, sI_lt_f, sI_eq_t, sI_eq_f, sI_rem, sI_div, sI_m1a, sI_m1b, sI_m1c, sI_m1d, sI_m1e, sI_m1f, sI_m2a, sI_m2b, sI_sub, pk_mul, sI_dec, fk_u_s, fk_u_o, sI_dec0, sI_z, sI_md, Bool.false_eq_true, Nat.reduceAdd, Nat.reduceMul, Nat.reduceSub, Nat.reduceMod, Nat.reduceDiv]
theorem lz_nt_wv {m : Nat} (h : lz_wv m w) : lz_nt w := fun e v q z => by
  have := (h e (by rw [q]; exact List.mem_cons_self ..)).1
  omega
theorem lz_cmp_e (c : Nat) (h : lz_cmp c = true) : (c = 60 ∧ lz_sg c = 7) ∨ (c = 62 ∧ lz_sg c = 8) ∨ (c = 61 ∧ lz_sg c = 9) := by
  unfold lz_cmp at h
  simp only [Bool.or_eq_true, beq_iff_eq] at h
  rcases h with (rfl | rfl) | rfl
  · exact Or.inl ⟨rfl, rfl⟩
  · exact Or.inr (Or.inl ⟨rfl, rfl⟩)
  · exact Or.inr (Or.inr ⟨rfl, rfl⟩)
theorem lz_cmp_f {c : Nat} (h : ¬ lz_cmp c = true) : c ≠ 60 ∧ c ≠ 62 ∧ c ≠ 61 := by
  unfold lz_cmp at h
  simp only [Bool.or_eq_true, beq_iff_eq] at h
  omega
theorem mX12_readsCompared (hi : lz_iv a R w o) (c : ¬ (a < n ∧ (bt a = 33 ∨ bt a = 40))) (h : lz_rc y0 bt n a R w o y) : ∃ y', (∃ e, fk_ev (d + 5) qX12_readsCompared 0 [.ref 246, .null] [] (fk_E N y l) = some (some (.int ((nI 0))), fk_E N y' l) ∧ fk_s7 y0 y' ∧ y' 246 13 = e ∧ ∀ k, lz_mc bt n (k + 1) true a R w o = some (.inl e)) ∨ (∃ z R' w' o', fk_ev (d + 5) qX12_readsCompared 0 [.ref 246, .null] [] (fk_E N y l) = some (some (.int ((nI 1))), fk_E N y' l) ∧ lz_rc y0 bt n z R' w' o' y' ∧ lz_iv z R' w' o' ∧ ∀ k, lz_mc bt n (k + 1) true a R w o = lz_mc bt n k false z R' w' o') := by
  obtain ⟨i1, i2, i3, i4, i5, i6⟩ := id hi
  have han := h.2.1.2.2.2.2.1
  have hn25 := h.2.1.2.2.2.2.2
  have s1 := mX12_readsSum (N := N) (l := l) (d := d) (q := 6 - o) (lz_nt_wv i5) (by omega) (by omega) i2 h
  have g1 := lz_S_ok (bt := bt) (n := n) (6 - o) a han
  cases e : lz_S bt n (6 - o) a with
  | inl f =>
    rw [e] at s1
    obtain ⟨y', q1, q2, q3⟩ := s1
    refine ⟨y', Or.inl ⟨f, ?_, q2, q3, fun k => by rw [lz_mc_C, if_neg c, e]⟩⟩
    simp (disch := first | assumption | omega) only [rX12_readsCompared, q1, Option.bind_some, Option.toList_some, Option.toList_none, List.cons_append, List.nil_append, fk_b_0, nI_add, Nat.add_zero, Nat.zero_add, not_true_eq_false, not_false_eq_true, if_true, if_false, sI_le_t, sI_le_f, sI_lt_t, sI_lt_f, sI_eq_t, sI_eq_f, sI_rem, sI_div, sI_m1a, sI_m1b, sI_m1c, sI_m1d, sI_m1e, sI_m1f, sI_m2a, sI_m2b, sI_sub, pk_mul, sI_dec, fk_u_s, fk_u_o, sI_dec0, sI_z, sI_md, Bool.false_eq_true, Nat.reduceAdd, Nat.reduceMul, Nat.reduceSub, Nat.reduceMod, Nat.reduceDiv]
  | inr x =>
    rw [e] at s1 g1
    obtain ⟨y1, q1, q2⟩ := s1
    have q2 : lz_rc y0 bt n x.1 (R ++ x.2) w o y1 := q2
    obtain ⟨k1, k2, k3, _⟩ := g1
    have hh := mX12_here (N := N) (l := l) (d := d + 4) q2.2.1
    have e11 := q2.2.1.1
    have b6 := q2.2.1.2.2.2.1 x.1
    by_cases c2 : x.1 < n ∧ lz_cmp (bt x.1) = true
    · have ep : ab_pk bt n x.1 = nI (bt x.1) := if_pos c2.1
      rw [ep] at hh
      have r2 := lz_rc_at (b := x.1 + 1) q2 c2.1
      have hl1 : (R ++ x.2).length = R.length + x.2.length := List.length_append ..
      have s2 := mX12_readsSum (N := N) (l := l) (d := d) (q := 6 - o) (lz_nt_wv i5) (by omega) (by rw [hl1]; omega) (by omega) r2
      have g2 := lz_S_ok (bt := bt) (n := n) (6 - o) (x.1 + 1) c2.1
      have ce := lz_cmp_e _ c2.2
      cases e2 : lz_S bt n (6 - o) (x.1 + 1) with
      | inl f =>
        rw [e2] at s2
        obtain ⟨y', p1, p2, p3⟩ := s2
        refine ⟨y', Or.inl ⟨f, ?_, p2, p3, fun k => by rw [lz_mc_C, if_neg c, e]; dsimp only; rw [if_pos c2, e2]⟩⟩
        rcases ce with ⟨cb, _⟩ | ⟨cb, _⟩ | ⟨cb, _⟩
        · rw [cb] at hh; simp (disch := first | assumption | omega) only [rX12_readsCompared, q1, hh, e11, p1, Option.bind_some, Option.toList_some, Option.toList_none, List.cons_append, List.nil_append, fk_b_0, nI_add, Nat.add_zero, Nat.zero_add, not_true_eq_false, not_false_eq_true, if_true, if_false, sI_le_t, sI_le_f, sI_lt_t, sI_lt_f, sI_eq_t, sI_eq_f, sI_rem, sI_div, sI_m1a, sI_m1b, sI_m1c, sI_m1d, sI_m1e, sI_m1f, sI_m2a, sI_m2b, sI_sub, pk_mul, sI_dec, fk_u_s, fk_u_o, sI_dec0, sI_z, sI_md, Bool.false_eq_true, Nat.reduceAdd, Nat.reduceMul, Nat.reduceSub, Nat.reduceMod, Nat.reduceDiv]
        · rw [cb] at hh; simp (disch := first | assumption | omega) only [rX12_readsCompared, q1, hh, e11, p1, Option.bind_some, Option.toList_some, Option.toList_none, List.cons_append, List.nil_append, fk_b_0, nI_add, Nat.add_zero, Nat.zero_add, not_true_eq_false, not_false_eq_true, if_true, if_false, sI_le_t, sI_le_f, sI_lt_t, sI_lt_f, sI_eq_t, sI_eq_f, sI_rem, sI_div, sI_m1a, sI_m1b, sI_m1c, sI_m1d, sI_m1e, sI_m1f, sI_m2a, sI_m2b, sI_sub, pk_mul, sI_dec, fk_u_s, fk_u_o, sI_dec0, sI_z, sI_md, Bool.false_eq_true, Nat.reduceAdd, Nat.reduceMul, Nat.reduceSub, Nat.reduceMod, Nat.reduceDiv]
        · rw [cb] at hh; simp (disch := first | assumption | omega) only [rX12_readsCompared, q1, hh, e11, p1, Option.bind_some, Option.toList_some, Option.toList_none, List.cons_append, List.nil_append, fk_b_0, nI_add, Nat.add_zero, Nat.zero_add, not_true_eq_false, not_false_eq_true, if_true, if_false, sI_le_t, sI_le_f, sI_lt_t, sI_lt_f, sI_eq_t, sI_eq_f, sI_rem, sI_div, sI_m1a, sI_m1b, sI_m1c, sI_m1d, sI_m1e, sI_m1f, sI_m2a, sI_m2b, sI_sub, pk_mul, sI_dec, fk_u_s, fk_u_o, sI_dec0, sI_z, sI_md, Bool.false_eq_true, Nat.reduceAdd, Nat.reduceMul, Nat.reduceSub, Nat.reduceMod, Nat.reduceDiv]
      | inr z =>
        rw [e2] at s2 g2
        obtain ⟨y2, p1, p2⟩ := s2
        have p2 : lz_rc y0 bt n z.1 (R ++ x.2 ++ z.2) w o y2 := p2
        obtain ⟨m1, m2, m3, _⟩ := g2
        have sg := lz_sg_le (bt x.1)
        have hl2 : (R ++ x.2 ++ z.2).length = R.length + x.2.length + z.2.length := by rw [List.length_append, hl1]
        have r3 := lz_rc_note (k := lz_sg (bt x.1)) (x := 0) p2 (by omega) (by omega)
        have e16 := p2.2.2.1.2
        have hno := mX12_notes (N := N) (l := l) (d := d + 4) (y := y2) (m := (R ++ x.2 ++ z.2).length) (k := lz_sg (bt x.1)) (x := 0) e16 (by rw [hl2]; omega) (by omega) (by omega)
        have hl3 : (R ++ x.2 ++ z.2 ++ [(lz_sg (bt x.1), (0 : Nat))]).length = R.length + x.2.length + z.2.length + 1 := by rw [List.length_append, hl2]; rfl
        obtain ⟨y', R', w', o', t1, t2, t3, t4⟩ := mX12_endsPiece (N := N) (l := l) (d := d + 3) w _ o _ (by omega) ⟨by rw [hl3]; omega, by omega, i3, i4, lz_wv_le i5 (by rw [hl3]; omega), i6⟩ r3
        refine ⟨y', Or.inr ⟨z.1, R', w', o', ?_, t2, t4, fun k => ?_⟩⟩
        · rcases ce with ⟨cb, cs⟩ | ⟨cb, cs⟩ | ⟨cb, cs⟩
          · rw [cb] at hh; rw [cs] at hno t1; simp (disch := first | assumption | omega) only [rX12_readsCompared, q1, hh, e11, p1, hno, t1, Option.bind_some, Option.toList_some, Option.toList_none, List.cons_append, List.nil_append, fk_b_0, nI_add, Nat.add_zero, Nat.zero_add, not_true_eq_false, not_false_eq_true, if_true, if_false, sI_le_t, sI_le_f, sI_lt_t, sI_lt_f, sI_eq_t, sI_eq_f, sI_rem, sI_div, sI_m1a, sI_m1b, sI_m1c, sI_m1d, sI_m1e, sI_m1f, sI_m2a, sI_m2b, sI_sub, pk_mul, sI_dec, fk_u_s, fk_u_o, sI_dec0, sI_z, sI_md, Bool.false_eq_true, Nat.reduceAdd, Nat.reduceMul, Nat.reduceSub, Nat.reduceMod, Nat.reduceDiv]
          · rw [cb] at hh; rw [cs] at hno t1; simp (disch := first | assumption | omega) only [rX12_readsCompared, q1, hh, e11, p1, hno, t1, Option.bind_some, Option.toList_some, Option.toList_none, List.cons_append, List.nil_append, fk_b_0, nI_add, Nat.add_zero, Nat.zero_add, not_true_eq_false, not_false_eq_true, if_true, if_false, sI_le_t, sI_le_f, sI_lt_t, sI_lt_f, sI_eq_t, sI_eq_f, sI_rem, sI_div, sI_m1a, sI_m1b, sI_m1c, sI_m1d, sI_m1e, sI_m1f, sI_m2a, sI_m2b, sI_sub, pk_mul, sI_dec, fk_u_s, fk_u_o, sI_dec0, sI_z, sI_md, Bool.false_eq_true, Nat.reduceAdd, Nat.reduceMul, Nat.reduceSub, Nat.reduceMod, Nat.reduceDiv]
          · rw [cb] at hh; rw [cs] at hno t1; simp (disch := first | assumption | omega) only [rX12_readsCompared, q1, hh, e11, p1, hno, t1, Option.bind_some, Option.toList_some, Option.toList_none, List.cons_append, List.nil_append, fk_b_0, nI_add, Nat.add_zero, Nat.zero_add, not_true_eq_false, not_false_eq_true, if_true, if_false, sI_le_t, sI_le_f, sI_lt_t, sI_lt_f, sI_eq_t, sI_eq_f, sI_rem, sI_div, sI_m1a, sI_m1b, sI_m1c, sI_m1d, sI_m1e, sI_m1f, sI_m2a, sI_m2b, sI_sub, pk_mul, sI_dec, fk_u_s, fk_u_o, sI_dec0, sI_z, sI_md, Bool.false_eq_true, Nat.reduceAdd, Nat.reduceMul, Nat.reduceSub, Nat.reduceMod, Nat.reduceDiv]
        · rw [lz_mc_C, if_neg c, e]
          dsimp only
          rw [if_pos c2, e2, ← t3 (lz_mc bt n k false z.1)]
          simp only [List.append_assoc]
    · refine ⟨fk_u y1 246 13 (fk_flt 1 x.1), Or.inl ⟨fk_flt 1 x.1, ?_, fk_s7_u q2.1 (by omega), fk_u_s, fun k => by rw [lz_mc_C, if_neg c, e]; dsimp only; rw [if_neg c2]⟩⟩
      by_cases lt : x.1 < n
      · have ep : ab_pk bt n x.1 = nI (bt x.1) := if_pos lt
        rw [ep] at hh
        obtain ⟨n1, n2, n3⟩ := lz_cmp_f (fun z => c2 ⟨lt, z⟩)
        simp (disch := first | assumption | omega) only [rX12_readsCompared, q1, hh, e11, mX12_wrongAt, Option.bind_some, Option.toList_some, Option.toList_none, List.cons_append, List.nil_append, fk_b_0, nI_add, Nat.add_zero, Nat.zero_add, not_true_eq_false, not_false_eq_true, if_true, if_false, sI_le_t, sI_le_f, sI_lt_t, sI_lt_f, sI_eq_t, sI_eq_f, sI_rem, sI_div, sI_m1a, sI_m1b, sI_m1c, sI_m1d, sI_m1e, sI_m1f, sI_m2a, sI_m2b, sI_sub, pk_mul, sI_dec, fk_u_s, fk_u_o, sI_dec0, sI_z, sI_md, Bool.false_eq_true, Nat.reduceAdd, Nat.reduceMul, Nat.reduceSub, Nat.reduceMod, Nat.reduceDiv]
      · have ep : ab_pk bt n x.1 = (-1) := if_neg lt
        rw [ep] at hh
        simp (disch := first | assumption | omega) only [rX12_readsCompared, q1, hh, e11, mX12_wrongAt, Option.bind_some, Option.toList_some, Option.toList_none, List.cons_append, List.nil_append, fk_b_0, nI_add, Nat.add_zero, Nat.zero_add, not_true_eq_false, not_false_eq_true, if_true, if_false, sI_le_t, sI_le_f, sI_lt_t, sI_lt_f, sI_eq_t, sI_eq_f, sI_rem, sI_div, sI_m1a, sI_m1b, sI_m1c, sI_m1d, sI_m1e, sI_m1f, sI_m2a, sI_m2b, sI_sub, pk_mul, sI_dec, fk_u_s, fk_u_o, sI_dec0, sI_z, sI_md, Bool.false_eq_true, Nat.reduceAdd, Nat.reduceMul, Nat.reduceSub, Nat.reduceMod, Nat.reduceDiv]
theorem lz_pk_n {x : Nat} (b6 : bt a < 256) (hx : x < 256) (h : ¬ (a < n ∧ bt a = x)) : ¬ ab_pk bt n a = nI x := fun z => by
  have lt := ab_pk_lt z (by omega)
  have : ab_pk bt n a = nI (bt a) := if_pos lt
  rw [this] at z
  exact h ⟨lt, (nI_eq (by omega) (by omega)).mp z⟩
theorem mX12_cond_sim (hn : n ≤ 240) : ∀ k m a R w o y r, lz_mc bt n k m a R w o = some r → lz_iv a R w o → lz_rc y0 bt n a R w o y → lz_end N l y0 bt n [] (fk_ev (d + 6) qX12_readsCondition (if m = true then 40 else 92) [.ref 246] [] (fk_E N y l)) r := by
  intro k
  induction k with
  | zero => intro m a R w o y r h; cases h
  | succ k ih =>
    intro m a R w o y r h hi hr
    obtain ⟨i1, i2, i3, i4, i5, i6⟩ := id hi
    have htx := hr.2.1
    obtain ⟨e11, e12, hbt, b6, h5, h6⟩ := id htx
    have hh := mX12_here (N := N) (l := l) (d := d + 5) htx
    cases m with
    | true =>
      rw [if_pos rfl, hX12_readsCondition_40]
      by_cases c1 : a < n ∧ (bt a = 33 ∨ bt a = 40)
      · rw [lz_mc_C, if_pos c1] at h
        have ep : ab_pk bt n a = nI (bt a) := if_pos c1.1
        rw [ep] at hh
        by_cases c2 : o = 6
        · rw [if_pos c2] at h
          cases h
          have hop := fun v => mX12_opens_f (N := N) (l := l) (d := d + 4) (v := v) (by rw [hr.2.2.2.2, c2]) e11
          refine ⟨_, ?_, fk_s7_u (v := fk_flt 5 a) (c := 246) (i := 13) hr.1 (by omega), fk_u_s⟩
          rcases c1.2 with cb | cb
          · rw [cb] at hh
            simp (disch := first | assumption | omega) only [rX12_readsCondition, hh, hop, Option.bind_some, Option.toList_some, Option.toList_none, List.cons_append, List.nil_append, fk_b_0, nI_add, Nat.add_zero, Nat.zero_add, not_true_eq_false, not_false_eq_true, if_true, if_false, sI_le_t, sI_le_f, sI_lt_t, sI_lt_f, sI_eq_t, sI_eq_f, sI_rem, sI_div, sI_m1a, sI_m1b, sI_m1c, sI_m1d, sI_m1e, sI_m1f, sI_m2a, sI_m2b, sI_sub, pk_mul, sI_dec, fk_u_s, fk_u_o, sI_dec0, sI_z, sI_md, Bool.false_eq_true, Nat.reduceAdd, Nat.reduceMul, Nat.reduceSub, Nat.reduceMod, Nat.reduceDiv]
          · rw [cb] at hh
            simp (disch := first | assumption | omega) only [rX12_readsCondition, hh, hop, Option.bind_some, Option.toList_some, Option.toList_none, List.cons_append, List.nil_append, fk_b_0, nI_add, Nat.add_zero, Nat.zero_add, not_true_eq_false, not_false_eq_true, if_true, if_false, sI_le_t, sI_le_f, sI_lt_t, sI_lt_f, sI_eq_t, sI_eq_f, sI_rem, sI_div, sI_m1a, sI_m1b, sI_m1c, sI_m1d, sI_m1e, sI_m1f, sI_m2a, sI_m2b, sI_sub, pk_mul, sI_dec, fk_u_s, fk_u_o, sI_dec0, sI_z, sI_md, Bool.false_eq_true, Nat.reduceAdd, Nat.reduceMul, Nat.reduceSub, Nat.reduceMod, Nat.reduceDiv]
        · rw [if_neg c2] at h
          obtain ⟨y1, hop, r1⟩ := mX12_opens (N := N) (l := l) (d := d + 4) (k := if bt a = 33 then 10 else 13) hr (by omega) (by split <;> omega) (by omega) c1.1
          have hiv : lz_iv (a + 1) R ((if bt a = 33 then 10 else 13, 0) :: w) (o + 1) := by
            rcases c1.2 with cb | cb
            · rw [if_pos cb]
              refine ⟨?_, by show w.length + 1 ≤ a + 1; omega, ?_, by omega, fun e he => (List.mem_cons.mp he).elim (fun z => by rw [z]; exact ⟨by decide, by decide, fun z => by omega⟩) (i5 e), Or.inr i6⟩
              · show R.length + ((if (10 : Nat) ≤ 10 then 1 else 0) + lz_wt w) ≤ a + 1
                rw [if_pos (by omega)]; omega
              · show (if (10 : Nat) = 10 ∨ (10 : Nat) = 13 then 1 else 0) + lz_no w = o + 1
                rw [if_pos (by omega)]; omega
            · rw [if_neg (by omega)]
              refine ⟨?_, by show w.length + 1 ≤ a + 1; omega, ?_, by omega, fun e he => (List.mem_cons.mp he).elim (fun z => by rw [z]; exact ⟨by decide, by decide, fun z => by omega⟩) (i5 e), Or.inr i6⟩
              · show R.length + ((if (13 : Nat) ≤ 10 then 1 else 0) + lz_wt w) ≤ a + 1
                rw [if_neg (by omega)]; omega
              · show (if (13 : Nat) = 10 ∨ (13 : Nat) = 13 then 1 else 0) + lz_no w = o + 1
                rw [if_pos (by omega)]; omega
          have hih := ih true (a + 1) R _ (o + 1) y1 r h hiv r1
          rw [if_pos rfl] at hih
          have step : fk_ev (d + 6) qX12_readsCondition 41 [.ref 246] [.ref 246] (fk_E N y l) = fk_ev (d + 6) qX12_readsCondition 40 [.ref 246] [] (fk_E N y1 l) := by
            rcases c1.2 with cb | cb
            · rw [if_pos cb] at hop
              rw [cb] at hh
              simp (disch := first | assumption | omega) only [rX12_readsCondition, hh, hop, Option.bind_some, Option.toList_some, Option.toList_none, List.cons_append, List.nil_append, fk_b_0, nI_add, Nat.add_zero, Nat.zero_add, not_true_eq_false, not_false_eq_true, if_true, if_false, sI_le_t, sI_le_f, sI_lt_t, sI_lt_f, sI_eq_t, sI_eq_f, sI_rem, sI_div, sI_m1a, sI_m1b, sI_m1c, sI_m1d, sI_m1e, sI_m1f, sI_m2a, sI_m2b, sI_sub, pk_mul, sI_dec, fk_u_s, fk_u_o, sI_dec0, sI_z, sI_md, Bool.false_eq_true, Nat.reduceAdd, Nat.reduceMul, Nat.reduceSub, Nat.reduceMod, Nat.reduceDiv]
            · rw [if_neg (by omega)] at hop
              rw [cb] at hh
              simp (disch := first | assumption | omega) only [rX12_readsCondition, hh, hop, Option.bind_some, Option.toList_some, Option.toList_none, List.cons_append, List.nil_append, fk_b_0, nI_add, Nat.add_zero, Nat.zero_add, not_true_eq_false, not_false_eq_true, if_true, if_false, sI_le_t, sI_le_f, sI_lt_t, sI_lt_f, sI_eq_t, sI_eq_f, sI_rem, sI_div, sI_m1a, sI_m1b, sI_m1c, sI_m1d, sI_m1e, sI_m1f, sI_m2a, sI_m2b, sI_sub, pk_mul, sI_dec, fk_u_s, fk_u_o, sI_dec0, sI_z, sI_md, Bool.false_eq_true, Nat.reduceAdd, Nat.reduceMul, Nat.reduceSub, Nat.reduceMod, Nat.reduceDiv]
          rw [step]
          exact hih
      · obtain ⟨y1, hc⟩ := mX12_readsCompared (N := N) (l := l) (d := d) hi c1 hr
        have n33 := lz_pk_n (n := n) (x := 33) (b6 a) (by omega) (fun z => c1 ⟨z.1, Or.inl z.2⟩)
        have n40 := lz_pk_n (n := n) (x := 40) (b6 a) (by omega) (fun z => c1 ⟨z.1, Or.inr z.2⟩)
        rcases hc with ⟨e, q1, q2, q3, q4⟩ | ⟨z, R', w', o', q1, q2, q3, q4⟩
        · rw [q4] at h
          cases h
          refine ⟨y1, ?_, q2, q3⟩
          simp (disch := first | assumption | omega) only [rX12_readsCondition, hh, n33, n40, q1, Option.bind_some, Option.toList_some, Option.toList_none, List.cons_append, List.nil_append, fk_b_0, nI_add, Nat.add_zero, Nat.zero_add, not_true_eq_false, not_false_eq_true, if_true, if_false, sI_le_t, sI_le_f, sI_lt_t, sI_lt_f, sI_eq_t, sI_eq_f, sI_rem, sI_div, sI_m1a, sI_m1b, sI_m1c, sI_m1d, sI_m1e, sI_m1f, sI_m2a, sI_m2b, sI_sub, pk_mul, sI_dec, fk_u_s, fk_u_o, sI_dec0, sI_z, sI_md, Bool.false_eq_true, Nat.reduceAdd, Nat.reduceMul, Nat.reduceSub, Nat.reduceMod, Nat.reduceDiv]
        · rw [q4] at h
          have hih := ih false z R' w' o' y1 r h q3 q2
          rw [if_neg (by decide)] at hih
          have step : fk_ev (d + 6) qX12_readsCondition 41 [.ref 246] [.ref 246] (fk_E N y l) = fk_ev (d + 6) qX12_readsCondition 92 [.ref 246] [] (fk_E N y1 l) := by
            simp (disch := first | assumption | omega) only [rX12_readsCondition, hh, n33, n40, q1, Option.bind_some, Option.toList_some, Option.toList_none, List.cons_append, List.nil_append, fk_b_0, nI_add, Nat.add_zero, Nat.zero_add, not_true_eq_false, not_false_eq_true, if_true, if_false, sI_le_t, sI_le_f, sI_lt_t, sI_lt_f, sI_eq_t, sI_eq_f, sI_rem, sI_div, sI_m1a, sI_m1b, sI_m1c, sI_m1d, sI_m1e, sI_m1f, sI_m2a, sI_m2b, sI_sub, pk_mul, sI_dec, fk_u_s, fk_u_o, sI_dec0, sI_z, sI_md, Bool.false_eq_true, Nat.reduceAdd, Nat.reduceMul, Nat.reduceSub, Nat.reduceMod, Nat.reduceDiv]
          rw [step]
          exact hih
    | false =>
      rw [if_neg (by decide), hX12_readsCondition_92]
      rw [lz_mc_D] at h
      by_cases c1 : a < n ∧ bt a = 41
      · rw [if_pos c1] at h
        have ep : ab_pk bt n a = nI 41 := by rw [← c1.2]; exact if_pos c1.1
        rw [ep] at hh
        obtain ⟨y1, R', w', hla, r1, f1, iv1, e, v, ew, hne⟩ := mX12_lands (N := N) (l := l) (d := d + 4) (all := true) w R y (by omega) hi hr
        rw [if_pos rfl] at hla
        rw [f1] at h
        subst ew
        obtain ⟨j1, j2, j3, j4, j5, j6⟩ := id iv1
        have j1 : R'.length + ((if e.1 ≤ 10 then 1 else 0) + lz_wt v) ≤ a := j1
        have j2 : v.length + 1 ≤ a := j2
        have j3 : (if e.1 = 10 ∨ e.1 = 13 then 1 else 0) + lz_no v = o := j3
        have j5e := j5 e (List.mem_cons_self ..)
        have e1013 : e.1 = 10 ∨ e.1 = 13 := by
          apply Decidable.byContradiction
          intro z
          exact hne (by rcases (show e.1 = 11 ∨ e.1 = 12 by omega) with z | z; exact Or.inl z; exact Or.inr ⟨rfl, z⟩)
        rw [if_pos e1013] at j3
        have e17 : y1 246 17 = nI (v.length + 1) := r1.2.2.2.1.2
        have e15 := r1.2.2.2.2
        have e11' := r1.2.1.1
        have r2 := lz_rc_at (b := a + 1) (lz_rc_open (b := o - 1) (lz_rc_pop r1)) c1.1
        have h : (if v = [] then some (Sum.inr (a + 1, R', o - 1)) else lz_ee (lz_mc bt n k false (a + 1)) v R' (o - 1)) = some r := h
        have ea : v.length + 1 - 1 = v.length := rfl
        by_cases cv : v = []
        · rw [if_pos cv] at h
          cases h
          subst cv
          refine ⟨_, ?_, r2⟩
          have e17 : y1 246 17 = nI 1 := e17
          show _ = some (some (Value.int (nI 1)), fk_E N (fk_u (fk_u (fk_u y1 246 17 (nI 0)) 246 15 (nI (o - 1))) 246 11 (nI (a + 1))) l)
          simp (disch := first | assumption | omega) only [rX12_readsCondition, hh, hla, e17, e15, e11', Option.bind_some, Option.toList_some, Option.toList_none, List.cons_append, List.nil_append, fk_b_0, nI_add, Nat.add_zero, Nat.zero_add, not_true_eq_false, not_false_eq_true, if_true, if_false, sI_le_t, sI_le_f, sI_lt_t, sI_lt_f, sI_eq_t, sI_eq_f, sI_rem, sI_div, sI_m1a, sI_m1b, sI_m1c, sI_m1d, sI_m1e, sI_m1f, sI_m2a, sI_m2b, sI_sub, pk_mul, sI_dec, fk_u_s, fk_u_o, sI_dec0, sI_z, sI_md, Bool.false_eq_true, Nat.reduceAdd, Nat.reduceMul, Nat.reduceSub, Nat.reduceMod, Nat.reduceDiv]
        · rw [if_neg cv] at h
          have lv : 0 < v.length := List.length_pos_iff.mpr cv
          have jb : lz_bt v := j6.resolve_left (fun z => cv z.1)
          obtain ⟨y2, R2, w2, o2, t1, t2, t3, t4⟩ := mX12_endsPiece (N := N) (l := l) (d := d + 4) v R' (o - 1) _ (by omega) ⟨by omega, by omega, by omega, by omega, fun e he => j5 e (List.mem_cons_of_mem _ he), jb⟩ r2
          rw [t3] at h
          have hih := ih false (a + 1) R2 w2 o2 y2 r h t4 t2
          rw [if_neg (by decide)] at hih
          have step : fk_ev (d + 6) qX12_readsCondition 93 [.ref 246] [.ref 246] (fk_E N y l) = fk_ev (d + 6) qX12_readsCondition 92 [.ref 246] [] (fk_E N y2 l) := by
            have l250 : v.length < 250 := by omega
            generalize v.length = W at *
            simp (disch := first | assumption | omega) only [rX12_readsCondition, hh, hla, e17, e15, e11', ea, t1, Option.bind_some, Option.toList_some, Option.toList_none, List.cons_append, List.nil_append, fk_b_0, nI_add, Nat.add_zero, Nat.zero_add, not_true_eq_false, not_false_eq_true, if_true, if_false, sI_le_t, sI_le_f, sI_lt_t, sI_lt_f, sI_eq_t, sI_eq_f, sI_rem, sI_div, sI_m1a, sI_m1b, sI_m1c, sI_m1d, sI_m1e, sI_m1f, sI_m2a, sI_m2b, sI_sub, pk_mul, sI_dec, fk_u_s, fk_u_o, sI_dec0, sI_z, sI_md, Bool.false_eq_true, Nat.reduceAdd, Nat.reduceMul, Nat.reduceSub, Nat.reduceMod, Nat.reduceDiv]
          rw [step]
          exact hih
      · rw [if_neg c1] at h
        have n41 := lz_pk_n (n := n) (x := 41) (b6 a) (by omega) c1
        by_cases c2 : a < n ∧ bt a = 38
        · rw [if_pos c2] at h
          have ep : ab_pk bt n a = nI 38 := by rw [← c2.2]; exact if_pos c2.1
          rw [ep] at hh
          obtain ⟨y1, R', w', hla, r1, f1, iv1, _⟩ := mX12_lands (N := N) (l := l) (d := d + 4) (all := false) w R y (by omega) hi hr
          rw [if_neg (by decide)] at hla
          rw [f1] at h
          obtain ⟨j1, j2, j3, j4, j5, j6⟩ := id iv1
          have hh1 := mX12_here (N := N) (l := l) (d := d + 5) r1.2.1
          rw [ep] at hh1
          obtain ⟨y2, hj, r2⟩ := mX12_jumps (N := N) (l := l) (d := d + 4) (j := 11) r1 (by omega) (by omega) (by omega) c2.1
          have hl : (R' ++ [((11 : Nat), (0 : Nat))]).length = R'.length + 1 := by rw [List.length_append]; rfl
          have hih := ih true (a + 1) _ _ o y2 r h ⟨by rw [hl]; show R'.length + 1 + ((if (11 : Nat) ≤ 10 then 1 else 0) + lz_wt w') ≤ a + 1; rw [if_neg (by omega)]; omega, by show w'.length + 1 ≤ a + 1; omega, by show (if (11 : Nat) = 10 ∨ (11 : Nat) = 13 then 1 else 0) + lz_no w' = o; rw [if_neg (by omega)]; omega, j4, fun e he => (List.mem_cons.mp he).elim (fun z => by rw [z, hl]; exact ⟨(by decide : (10 : Nat) ≤ 11), (by decide : (11 : Nat) ≤ 13), fun _ => Nat.lt_succ_self _⟩) (lz_wv_le j5 (by rw [hl]; omega) e), Or.inr j6⟩ r2
          rw [if_pos rfl] at hih
          have step : fk_ev (d + 6) qX12_readsCondition 93 [.ref 246] [.ref 246] (fk_E N y l) = fk_ev (d + 6) qX12_readsCondition 40 [.ref 246] [] (fk_E N y2 l) := by
            simp (disch := first | assumption | omega) only [rX12_readsCondition, hh, hla, hh1, hj, Option.bind_some, Option.toList_some, Option.toList_none, List.cons_append, List.nil_append, fk_b_0, nI_add, Nat.add_zero, Nat.zero_add, not_true_eq_false, not_false_eq_true, if_true, if_false, sI_le_t, sI_le_f, sI_lt_t, sI_lt_f, sI_eq_t, sI_eq_f, sI_rem, sI_div, sI_m1a, sI_m1b, sI_m1c, sI_m1d, sI_m1e, sI_m1f, sI_m2a, sI_m2b, sI_sub, pk_mul, sI_dec, fk_u_s, fk_u_o, sI_dec0, sI_z, sI_md, Bool.false_eq_true, Nat.reduceAdd, Nat.reduceMul, Nat.reduceSub, Nat.reduceMod, Nat.reduceDiv]
          rw [step]
          exact hih
        · rw [if_neg c2] at h
          have n38 := lz_pk_n (n := n) (x := 38) (b6 a) (by omega) c2
          by_cases c3 : a < n ∧ bt a = 124
          · rw [if_pos c3] at h
            have ep : ab_pk bt n a = nI 124 := by rw [← c3.2]; exact if_pos c3.1
            rw [ep] at hh
            obtain ⟨y1, R', w', hla, r1, f1, iv1, _⟩ := mX12_lands (N := N) (l := l) (d := d + 4) (all := true) w R y (by omega) hi hr
            rw [if_pos rfl] at hla
            rw [f1] at h
            obtain ⟨j1, j2, j3, j4, j5, j6⟩ := id iv1
            have hh1 := mX12_here (N := N) (l := l) (d := d + 5) r1.2.1
            rw [ep] at hh1
            obtain ⟨y2, hj, r2⟩ := mX12_jumps (N := N) (l := l) (d := d + 4) (j := 12) r1 (by omega) (by omega) (by omega) c3.1
            have hl : (R' ++ [((12 : Nat), (0 : Nat))]).length = R'.length + 1 := by rw [List.length_append]; rfl
            have hih := ih true (a + 1) _ _ o y2 r h ⟨by rw [hl]; show R'.length + 1 + ((if (12 : Nat) ≤ 10 then 1 else 0) + lz_wt w') ≤ a + 1; rw [if_neg (by omega)]; omega, by show w'.length + 1 ≤ a + 1; omega, by show (if (12 : Nat) = 10 ∨ (12 : Nat) = 13 then 1 else 0) + lz_no w' = o; rw [if_neg (by omega)]; omega, j4, fun e he => (List.mem_cons.mp he).elim (fun z => by rw [z, hl]; exact ⟨(by decide : (10 : Nat) ≤ 12), (by decide : (12 : Nat) ≤ 13), fun _ => Nat.lt_succ_self _⟩) (lz_wv_le j5 (by rw [hl]; omega) e), Or.inr j6⟩ r2
            rw [if_pos rfl] at hih
            have step : fk_ev (d + 6) qX12_readsCondition 93 [.ref 246] [.ref 246] (fk_E N y l) = fk_ev (d + 6) qX12_readsCondition 40 [.ref 246] [] (fk_E N y2 l) := by
              simp (disch := first | assumption | omega) only [rX12_readsCondition, hh, hla, hh1, hj, Option.bind_some, Option.toList_some, Option.toList_none, List.cons_append, List.nil_append, fk_b_0, nI_add, Nat.add_zero, Nat.zero_add, not_true_eq_false, not_false_eq_true, if_true, if_false, sI_le_t, sI_le_f, sI_lt_t, sI_lt_f, sI_eq_t, sI_eq_f, sI_rem, sI_div, sI_m1a, sI_m1b, sI_m1c, sI_m1d, sI_m1e, sI_m1f, sI_m2a, sI_m2b, sI_sub, pk_mul, sI_dec, fk_u_s, fk_u_o, sI_dec0, sI_z, sI_md, Bool.false_eq_true, Nat.reduceAdd, Nat.reduceMul, Nat.reduceSub, Nat.reduceMod, Nat.reduceDiv]
            rw [step]
            exact hih
          · rw [if_neg c3] at h
            have n124 := lz_pk_n (n := n) (x := 124) (b6 a) (by omega) c3
            cases h
            refine ⟨fk_u y 246 13 (fk_flt 1 a), ?_, fk_s7_u hr.1 (by omega), fk_u_s⟩
            simp (disch := first | assumption | omega) only [rX12_readsCondition, hh, n41, n38, n124, e11, mX12_wrongAt, Option.bind_some, Option.toList_some, Option.toList_none, List.cons_append, List.nil_append, fk_b_0, nI_add, Nat.add_zero, Nat.zero_add, not_true_eq_false, not_false_eq_true, if_true, if_false, sI_le_t, sI_le_f, sI_lt_t, sI_lt_f, sI_eq_t, sI_eq_f, sI_rem, sI_div, sI_m1a, sI_m1b, sI_m1c, sI_m1d, sI_m1e, sI_m1f, sI_m2a, sI_m2b, sI_sub, pk_mul, sI_dec, fk_u_s, fk_u_o, sI_dec0, sI_z, sI_md, Bool.false_eq_true, Nat.reduceAdd, Nat.reduceMul, Nat.reduceSub, Nat.reduceMod, Nat.reduceDiv]
theorem lz_rc_w0 (h : lz_rc y0 bt n a R w o y) : lz_rc y0 bt n a R [] o (fk_u y 246 17 (nI 0)) := by
  obtain ⟨h1, h2, ⟨h3, h4⟩, ⟨h5, h6⟩, h7⟩ := h
  exact ⟨fk_s7_u h1 (by omega), fk_tx_k h2 (by rw [fk_u_o (by omega)]; exact h2.1) h2.2.2.2.2.1 (fk_u_o (by omega)) (fk_u_rowo (by omega)), ⟨lz_cd_c R 0 (fun i _ _ => fk_u_o (by omega)) h3, by rw [fk_u_o (by omega)]; exact h4⟩, ⟨trivial, fk_u_s⟩, by rw [fk_u_o (by omega)]; exact h7⟩
theorem mX12_readsCondition (hn : n ≤ 240) (hR : R.length ≤ a) (h : lz_rc y0 bt n a R w o y) : lz_end N l y0 bt n [] (fk_ev (d + 6) qX12_readsCondition 0 [.ref 246] [] (fk_E N y l)) (if a < n ∧ bt a = 40 then lz_fc bt n R (lz_A bt n 5 (a + 1)) else .inl (fk_flt 1 a)) := by
  have htx := h.2.1
  obtain ⟨e11, e12, hbt, b6, h5, h6⟩ := id htx
  have hh := mX12_here (N := N) (l := l) (d := d + 5) htx
  by_cases c : a < n ∧ bt a = 40
  · rw [if_pos c]
    have ep : ab_pk bt n a = nI 40 := by rw [← c.2]; exact if_pos c.1
    rw [ep] at hh
    have r1 := lz_rc_w0 (lz_rc_open (b := 0) h)
    obtain ⟨y1, hop, r2⟩ := mX12_opens (N := N) (l := l) (d := d + 4) (k := 13) r1 (by omega) (by omega) (by show 0 ≤ 250; omega) c.1
    obtain ⟨k, hk⟩ := lz_gc_top (bt := bt) (n := n) (a := a + 1) (R := R) hn c.1
    have hs := mX12_cond_sim (N := N) (l := l) (d := d) hn k true (a + 1) R [(13, 0)] 1 y1 _ hk ⟨by show R.length + ((if (13 : Nat) ≤ 10 then 1 else 0) + 0) ≤ a + 1; rw [if_neg (by omega)]; omega, by show 1 ≤ a + 1; omega, rfl, by omega, fun e he => by rw [List.mem_singleton.mp he]; exact ⟨by decide, by decide, fun z => by omega⟩, Or.inl ⟨rfl, rfl⟩⟩ r2
    rw [if_pos rfl] at hs
    have step : fk_ev (d + 6) qX12_readsCondition 0 [.ref 246] [] (fk_E N y l) = fk_ev (d + 6) qX12_readsCondition 40 [.ref 246] [] (fk_E N y1 l) := by
      simp (disch := first | assumption | omega) only [rX12_readsCondition, hh, hop, Option.bind_some, Option.toList_some, Option.toList_none, List.cons_append, List.nil_append, fk_b_0, nI_add, Nat.add_zero, Nat.zero_add, not_true_eq_false, not_false_eq_true, if_true, if_false, sI_le_t, sI_le_f, sI_lt_t, sI_lt_f, sI_eq_t, sI_eq_f, sI_rem, sI_div, sI_m1a, sI_m1b, sI_m1c, sI_m1d, sI_m1e, sI_m1f, sI_m2a, sI_m2b, sI_sub, pk_mul, sI_dec, fk_u_s, fk_u_o, sI_dec0, sI_z, sI_md, Bool.false_eq_true, Nat.reduceAdd, Nat.reduceMul, Nat.reduceSub, Nat.reduceMod, Nat.reduceDiv]
    rw [step]
    exact hs
  · rw [if_neg c]
    have n40 := lz_pk_n (n := n) (x := 40) (b6 a) (by omega) c
    refine ⟨fk_u y 246 13 (fk_flt 1 a), ?_, fk_s7_u h.1 (by omega), fk_u_s⟩
    simp (disch := first | assumption | omega) only [rX12_readsCondition, hh, n40, e11, mX12_wrongAt, Option.bind_some, Option.toList_some, Option.toList_none, List.cons_append, List.nil_append, fk_b_0, nI_add, Nat.add_zero, Nat.zero_add, not_true_eq_false, not_false_eq_true, if_true, if_false, sI_le_t, sI_le_f, sI_lt_t, sI_lt_f, sI_eq_t, sI_eq_f, sI_rem, sI_div, sI_m1a, sI_m1b, sI_m1c, sI_m1d, sI_m1e, sI_m1f, sI_m2a, sI_m2b, sI_sub, pk_mul, sI_dec, fk_u_s, fk_u_o, sI_dec0, sI_z, sI_md, Bool.false_eq_true, Nat.reduceAdd, Nat.reduceMul, Nat.reduceSub, Nat.reduceMod, Nat.reduceDiv]
end SR4
