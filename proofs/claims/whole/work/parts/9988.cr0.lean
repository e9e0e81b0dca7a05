/-! THE LAW: the class's reader: its state, small steps -/
section CR0
variable {N : Nat} {y y0 y1 y2 y' : Nat → Nat → Int32} {l : Nat → Nat → Int64} {d n a c s q i : Nat} {bt : Nat → Nat} {v w : Int32}
def fk_s9 (c : Nat) (y y' : Nat → Nat → Int32) : Prop := (∀ k, k ≠ 28 → k ≠ c → k ≠ c + 1 → k ≠ c + 2 → y' k = y k) ∧ (∀ i, i ≠ 4 → i ≠ 5 → y' 28 i = y 28 i) ∧ ∀ i, i ≠ 7 → y' c i = y c i
theorem fk_s9_0 : fk_s9 c y y := ⟨fun _ _ _ _ _ => rfl, fun _ _ _ => rfl, fun _ _ => rfl⟩
theorem fk_s9_t (h1 : fk_s9 c y y1) (h2 : fk_s9 c y1 y2) : fk_s9 c y y2 := ⟨fun k a b d e => (h2.1 k a b d e).trans (h1.1 k a b d e), fun i a b => (h2.2.1 i a b).trans (h1.2.1 i a b), fun i a => (h2.2.2 i a).trans (h1.2.2 i a)⟩
theorem fk_s9_28 (hc : c = 2 ∨ c = 10) (h : fk_s9 c y0 y) (hi : i = 4 ∨ i = 5) : fk_s9 c y0 (fk_u y 28 i v) := ⟨fun k k1 k2 k3 k4 => by rw [fk_u_rowo (by omega)]; exact h.1 k k1 k2 k3 k4, fun j j1 j2 => by rw [fk_u_o (by omega)]; exact h.2.1 j j1 j2, fun j j1 => by rw [fk_u_o (by omega)]; exact h.2.2 j j1⟩
theorem fk_s9_c {k : Nat} (hc : c = 2 ∨ c = 10) (h : fk_s9 c y0 y) (hk : (k = c ∧ i = 7) ∨ k = c + 1 ∨ k = c + 2) : fk_s9 c y0 (fk_u y k i v) := ⟨fun j k1 k2 k3 k4 => by rw [fk_u_rowo (by omega)]; exact h.1 j k1 k2 k3 k4, fun j j1 j2 => by rw [fk_u_o (by omega)]; exact h.2.1 j j1 j2, fun j j1 => by rw [fk_u_o (by omega)]; exact h.2.2 j j1⟩
/-- the class within a text -/
def lz_ct (bt : Nat → Nat) (n c a s : Nat) (y : Nat → Nat → Int32) : Prop := (c = 2 ∨ c = 10) ∧ y 28 2 = nI c ∧ y 28 3 = nI n ∧ y 28 4 = nI a ∧ y 28 5 = ab_pk bt n a ∧ (∀ i, i ≤ n → y 29 i = ab_pk bt n i) ∧ (∀ i, bt i < 256) ∧ a ≤ n ∧ n ≤ 240 ∧ y c 7 = nI s ∧ s ≤ 240
def lz_cR (bt : Nat → Nat) (n c s : Nat) (y y' : Nat → Nat → Int32) (v : Int32) (r : Int32 ⊕ (Nat × List (Nat × Nat))) : Prop := match r with
  | .inl e => v = e ∧ ¬ e = nI 0 ∧ ∃ s', s' ≤ 240 ∧ y' c 7 = nI s'
  | .inr x => v = nI 0 ∧ lz_ct bt n c x.1 (s + x.2.length) y' ∧ lz_hc y' c s x.2 ∧ ∀ i, i < s → y' (c + 1) i = y (c + 1) i ∧ y' (c + 2) i = y (c + 2) i
/-- what a method of the reader does -/
def lz_sp (N : Nat) (l : Nat → Nat → Int64) (bt : Nat → Nat) (n c D : Nat) (q : fk_Me) (L : List Value) (f : Nat → Int32 ⊕ (Nat × List (Nat × Nat))) : Prop := ∀ a s y, lz_ct bt n c a s y → s ≤ a → ∃ v y', fk_ev D q 0 L [] (fk_E N y l) = some (some (.int v), fk_E N y' l) ∧ fk_s9 c y y' ∧ lz_cR bt n c s y y' v (f a)
theorem mX3_add (hc : c = 2 ∨ c = 10) (h7 : y c 7 = nI s) (hs : s < 240) : fk_ev d qX3_add 0 [.ref c, .int v, .int w] [] (fk_E N y l) = some (none, fk_E N (fk_u (fk_u (fk_u y (c + 1) s v) (c + 2) s w) c 7 (nI (s + 1))) l) := by
  obtain ⟨a0, a1, a2, _⟩ := lz_law hc
  obtain ⟨b1, b2, _, b4, b5, _⟩ := lz_law2 hc
  have l1 : s < (fk_shp (c + 1)).2 := by omega
  have l2 : s < (fk_shp (c + 2)).2 := by omega
  have l3 : (fk_shp (c + 1)).2 < 2 ^ 31 := by omega
  have l4 : (fk_shp (c + 2)).2 < 2 ^ 31 := by omega
  simp (disch := first | assumption | omega) only [rX3_add, h7, a1, a2, b4, Option.bind_some, Option.toList_some, Option.toList_none, List.cons_append, List.nil_append, fk_b_0, nI_add, Nat.add_zero, Nat.zero_add, not_true_eq_false, not_false_eq_true, if_true, if_false, sI_le_t, sI_le_f, sI_lt_t, sI_lt_f, sI_eq_t, sI_eq_f, sI_rem, sI_div, sI_m1a, sI_m1b, sI_m1c, sI_m1d, sI_m1e, sI_m1f, sI_m2a, sI_m2b, sI_sub, pk_mul, sI_dec, fk_u_s, fk_u_o, sI_dec0, sI_z, sI_md, Bool.false_eq_true, Nat.reduceAdd, Nat.reduceMul, Nat.reduceSub, Nat.reduceMod, Nat.reduceDiv]
theorem mX3_add_full (hc : c = 2 ∨ c = 10) (h7 : y c 7 = nI 240) : fk_ev d qX3_add 0 [.ref c, .int v, .int w] [] (fk_E N y l) = some (none, fk_E N y l) := by
  obtain ⟨a0, a1, a2, _⟩ := lz_law hc
  obtain ⟨b1, b2, _, b4, b5, _⟩ := lz_law2 hc
  simp (disch := first | assumption | omega) only [rX3_add, h7, a1, a2, b4, Option.bind_some, Option.toList_some, Option.toList_none, List.cons_append, List.nil_append, fk_b_0, nI_add, Nat.add_zero, Nat.zero_add, not_true_eq_false, not_false_eq_true, if_true, if_false, sI_le_t, sI_le_f, sI_lt_t, sI_lt_f, sI_eq_t, sI_eq_f, sI_rem, sI_div, sI_m1a, sI_m1b, sI_m1c, sI_m1d, sI_m1e, sI_m1f, sI_m2a, sI_m2b, sI_sub, pk_mul, sI_dec, fk_u_s, fk_u_o, sI_dec0, sI_z, sI_md, Bool.false_eq_true, Nat.reduceAdd, Nat.reduceMul, Nat.reduceSub, Nat.reduceMod, Nat.reduceDiv]
theorem mX3_add_any (hc : c = 2 ∨ c = 10) (h : ∃ s', s' ≤ 240 ∧ y c 7 = nI s') : ∃ y', fk_ev d qX3_add 0 [.ref c, .int v, .int w] [] (fk_E N y l) = some (none, fk_E N y' l) ∧ fk_s9 c y y' ∧ ∃ s', s' ≤ 240 ∧ y' c 7 = nI s' := by
  obtain ⟨s, h1, h2⟩ := h
  by_cases e : s = 240
  · subst e
    exact ⟨y, mX3_add_full hc h2, fk_s9_0, 240, by omega, h2⟩
  · exact ⟨_, mX3_add hc h2 (by omega), fk_s9_c hc (fk_s9_c hc (fk_s9_c hc fk_s9_0 (by omega)) (by omega)) (by omega), s + 1, by omega, fk_u_s⟩
theorem lz_ct_add (h : lz_ct bt n c a s y) (hs : s < 240) : lz_ct bt n c a (s + 1) (fk_u (fk_u (fk_u y (c + 1) s v) (c + 2) s w) c 7 (nI (s + 1))) := by
  obtain ⟨h1, h2, h3, h4, h5, h6, h7, h8, h9, h10, h11⟩ := h
  exact ⟨h1, by rw [fk_u_o (by omega), fk_u_o (by omega), fk_u_o (by omega)]; exact h2, by rw [fk_u_o (by omega), fk_u_o (by omega), fk_u_o (by omega)]; exact h3, by rw [fk_u_o (by omega), fk_u_o (by omega), fk_u_o (by omega)]; exact h4, by rw [fk_u_o (by omega), fk_u_o (by omega), fk_u_o (by omega)]; exact h5, fun i hi => by rw [fk_u_o (by omega), fk_u_o (by omega), fk_u_o (by omega)]; exact h6 i hi, h7, h8, h9, fk_u_s, by omega⟩
theorem mX4_adv (h : lz_ct bt n c a s y) (ha : a < n) : fk_ev d qX4_advance 0 [.ref 28] [] (fk_E N y l) = some (none, fk_E N (fk_u (fk_u y 28 4 (nI (a + 1))) 28 5 (ab_pk bt n (a + 1))) l) := by
  obtain ⟨h1, h2, h3, h4, h5, h6, h7, h8, h9, h10, h11⟩ := h
  rw [← h6 (a + 1) ha]
  exact mX4_advance h4 h3 ha h9
theorem lz_ct_adv (h : lz_ct bt n c a s y) (ha : a < n) : lz_ct bt n c (a + 1) s (fk_u (fk_u y 28 4 (nI (a + 1))) 28 5 (ab_pk bt n (a + 1))) := by
  obtain ⟨h1, h2, h3, h4, h5, h6, h7, h8, h9, h10, h11⟩ := h
  exact ⟨h1, by rw [fk_u_o (by omega), fk_u_o (by omega)]; exact h2, by rw [fk_u_o (by omega), fk_u_o (by omega)]; exact h3, by rw [fk_u_o (by omega), fk_u_s], fk_u_s, fun i hi => by rw [fk_u_o (by omega), fk_u_o (by omega)]; exact h6 i hi, h7, ha, h9, by rw [fk_u_o (by omega), fk_u_o (by omega)]; exact h10, h11⟩
theorem lz_s9_adv (h : lz_ct bt n c a s y) : fk_s9 c y (fk_u (fk_u y 28 4 (nI (a + 1))) 28 5 (ab_pk bt n (a + 1))) := fk_s9_28 h.1 (fk_s9_28 h.1 fk_s9_0 (by omega)) (by omega)
theorem mX4_sign_t {x : Nat} (h : lz_ct bt n c a s y) (hx : x < 256) (ha : a < n ∧ bt a = x) : fk_ev (d + 1) qX4_sign 0 [.ref 28, .int ((nI x))] [] (fk_E N y l) = some (some (.int ((nI 0))), fk_E N (fk_u (fk_u y 28 4 (nI (a + 1))) 28 5 (ab_pk bt n (a + 1))) l) := by
  have hv := mX4_adv (N := N) (l := l) (d := d) h ha.1
  have h5 := h.2.2.2.2.1
  have ep : ab_pk bt n a = nI x := by rw [← ha.2]; exact if_pos ha.1
  rw [ep] at h5
  simp (disch := first | assumption | omega) only [rX4_sign, h5, hv, Option.bind_some, Option.toList_some, Option.toList_none, List.cons_append, List.nil_append, fk_b_0, nI_add, Nat.add_zero, Nat.zero_add, not_true_eq_false, not_false_eq_true, if_true, if_false, sI_le_t, sI_le_f, sI_lt_t, sI_lt_f, sI_eq_t, sI_eq_f, sI_rem, sI_div, sI_m1a, sI_m1b, sI_m1c, sI_m1d, sI_m1e, sI_m1f, sI_m2a, sI_m2b, sI_sub, pk_mul, sI_dec, fk_u_s, fk_u_o, sI_dec0, sI_z, sI_md, Bool.false_eq_true, Nat.reduceAdd, Nat.reduceMul, Nat.reduceSub, Nat.reduceMod, Nat.reduceDiv]
theorem mX4_sign_f {x : Nat} (h : lz_ct bt n c a s y) (hx : x < 256) (ha : ¬ (a < n ∧ bt a = x)) : fk_ev (d + 1) qX4_sign 0 [.ref 28, .int ((nI x))] [] (fk_E N y l) = some (some (.int ((fk_flt 1 a))), fk_E N y l) := by
  have h5 := h.2.2.2.2.1
  have h4 := h.2.2.2.1
  have np := lz_pk_n (n := n) (x := x) (h.2.2.2.2.2.2.1 a) hx ha
  simp (disch := first | assumption | omega) only [rX4_sign, h5, np, h4, mX11_faultAt, Option.bind_some, Option.toList_some, Option.toList_none, List.cons_append, List.nil_append, fk_b_0, nI_add, Nat.add_zero, Nat.zero_add, not_true_eq_false, not_false_eq_true, if_true, if_false, sI_le_t, sI_le_f, sI_lt_t, sI_lt_f, sI_eq_t, sI_eq_f, sI_rem, sI_div, sI_m1a, sI_m1b, sI_m1c, sI_m1d, sI_m1e, sI_m1f, sI_m2a, sI_m2b, sI_sub, pk_mul, sI_dec, fk_u_s, fk_u_o, sI_dec0, sI_z, sI_md, Bool.false_eq_true, Nat.reduceAdd, Nat.reduceMul, Nat.reduceSub, Nat.reduceMod, Nat.reduceDiv]
theorem lz_hc_1 {o x : Nat} (e1 : y (c + 1) s = nI (lz_ko o)) (e2 : y (c + 2) s = nI (lz_kp s o x)) : lz_hc y c s [(o, x)] := ⟨⟨e1, e2⟩, trivial⟩
theorem mX4_number_l {a0 : Nat} (hc : c = 2 ∨ c = 10) : ∀ k i a v y, i + k = 5 → a = a0 + i → v < 10 ^ i → s ≤ a0 → 0 < i ∨ ab_dd bt n a → lz_ct bt n c a s y → ∃ r y', fk_ev (d + 1) qX4_number 4 [.ref 28, .int (nI v), .int (nI i)] [] (fk_E N y l) = some (some (.int r), fk_E N y' l) ∧ fk_s9 c y y' ∧ lz_cR bt n c s y y' r (if ab_dd bt n (ab_dg bt n k a v).1 then .inl (fk_flt 2 (ab_dg bt n k a v).1) else .inr ((ab_dg bt n k a v).1, [(0, (ab_dg bt n k a v).2)])) := by
  have hat := (lz_law hc).1
  intro k
  induction k with
  | zero =>
    intro i a v y hi ea hv hs0 hpos h
    obtain ⟨h1, h2, h3, h4, h5, h6, h7, h8, h9, h10, h11⟩ := id h
    have hcl : (y 28 2).toNatClampNeg = c := by rw [h2, nI_clamp (by omega)]
    have hi : i = 5 := hi
    subst hi
    have b6 := h7 a
    have p5 : (10 : Nat) ^ 5 = 100000 := by decide
    unfold ab_dg
    dsimp only
    by_cases cd : ab_dd bt n a
    · rw [if_pos cd]
      have ep : ab_pk bt n a = nI (bt a) := if_pos cd.1
      rw [ep] at h5
      obtain ⟨c1, c2, c3⟩ := cd
      refine ⟨fk_flt 2 a, y, ?_, fk_s9_0, rfl, fk_flt_5 2 (by omega) a (by omega) (by omega), s, h11, h10⟩
      rw [hX4_number_4]
      simp (disch := first | assumption | omega) only [rX4_number, h5, h4, h3, mX11_faultAt, Option.bind_some, Option.toList_some, Option.toList_none, List.cons_append, List.nil_append, fk_b_0, nI_add, Nat.add_zero, Nat.zero_add, not_true_eq_false, not_false_eq_true, if_true, if_false, sI_le_t, sI_le_f, sI_lt_t, sI_lt_f, sI_eq_t, sI_eq_f, sI_rem, sI_div, sI_m1a, sI_m1b, sI_m1c, sI_m1d, sI_m1e, sI_m1f, sI_m2a, sI_m2b, sI_sub, pk_mul, sI_dec, fk_u_s, fk_u_o, sI_dec0, sI_z, sI_md, Bool.false_eq_true, Nat.reduceAdd, Nat.reduceMul, Nat.reduceSub, Nat.reduceMod, Nat.reduceDiv]
    · rw [if_neg cd]
      have hadd := mX3_add (N := N) (l := l) (d := d) (y := y) (v := nI 0) (w := nI v) hc h10 (by omega)
      refine ⟨nI 0, fk_u (fk_u (fk_u y (c + 1) s (nI 0)) (c + 2) s (nI v)) c 7 (nI (s + 1)), ?_, fk_s9_c hc (fk_s9_c hc (fk_s9_c hc fk_s9_0 (by omega)) (by omega)) (by omega), rfl, lz_ct_add h (by omega), lz_hc_1 (by rw [fk_u_o (by omega), fk_u_o (by omega), fk_u_s]; rfl) (by rw [fk_u_o (by omega), fk_u_s]; rfl), fun i hi => ⟨by rw [fk_u_o (by omega), fk_u_o (by omega), fk_u_o (by omega)], by rw [fk_u_o (by omega), fk_u_o (by omega), fk_u_o (by omega)]⟩⟩
      rw [hX4_number_4]
      by_cases lt : a < n
      · have ep : ab_pk bt n a = nI (bt a) := if_pos lt
        rw [ep] at h5
        by_cases c2 : bt a < 48
        · simp (disch := first | assumption | omega) only [rX4_number, h5, hcl, hadd, Option.bind_some, Option.toList_some, Option.toList_none, List.cons_append, List.nil_append, fk_b_0, nI_add, Nat.add_zero, Nat.zero_add, not_true_eq_false, not_false_eq_true, if_true, if_false, sI_le_t, sI_le_f, sI_lt_t, sI_lt_f, sI_eq_t, sI_eq_f, sI_rem, sI_div, sI_m1a, sI_m1b, sI_m1c, sI_m1d, sI_m1e, sI_m1f, sI_m2a, sI_m2b, sI_sub, pk_mul, sI_dec, fk_u_s, fk_u_o, sI_dec0, sI_z, sI_md, Bool.false_eq_true, Nat.reduceAdd, Nat.reduceMul, Nat.reduceSub, Nat.reduceMod, Nat.reduceDiv]
        · have c3 : 57 < bt a := Classical.byContradiction fun z => cd ⟨lt, by omega, by omega⟩
          simp (disch := first | assumption | omega) only [rX4_number, h5, hcl, hadd, Option.bind_some, Option.toList_some, Option.toList_none, List.cons_append, List.nil_append, fk_b_0, nI_add, Nat.add_zero, Nat.zero_add, not_true_eq_false, not_false_eq_true, if_true, if_false, sI_le_t, sI_le_f, sI_lt_t, sI_lt_f, sI_eq_t, sI_eq_f, sI_rem, sI_div, sI_m1a, sI_m1b, sI_m1c, sI_m1d, sI_m1e, sI_m1f, sI_m2a, sI_m2b, sI_sub, pk_mul, sI_dec, fk_u_s, fk_u_o, sI_dec0, sI_z, sI_md, Bool.false_eq_true, Nat.reduceAdd, Nat.reduceMul, Nat.reduceSub, Nat.reduceMod, Nat.reduceDiv]
      · have ep : ab_pk bt n a = (-1) := if_neg lt
        rw [ep] at h5
        simp (disch := first | assumption | omega) only [rX4_number, h5, hcl, hadd, Option.bind_some, Option.toList_some, Option.toList_none, List.cons_append, List.nil_append, fk_b_0, nI_add, Nat.add_zero, Nat.zero_add, not_true_eq_false, not_false_eq_true, if_true, if_false, sI_le_t, sI_le_f, sI_lt_t, sI_lt_f, sI_eq_t, sI_eq_f, sI_rem, sI_div, sI_m1a, sI_m1b, sI_m1c, sI_m1d, sI_m1e, sI_m1f, sI_m2a, sI_m2b, sI_sub, pk_mul, sI_dec, fk_u_s, fk_u_o, sI_dec0, sI_z, sI_md, Bool.false_eq_true, Nat.reduceAdd, Nat.reduceMul, Nat.reduceSub, Nat.reduceMod, Nat.reduceDiv]
  | succ k ih =>
    intro i a v y hi ea hv hs0 hpos h
    obtain ⟨h1, h2, h3, h4, h5, h6, h7, h8, h9, h10, h11⟩ := id h
    have hcl : (y 28 2).toNatClampNeg = c := by rw [h2, nI_clamp (by omega)]
    have b6 := h7 a
    have p3 := fk_10q (i := i) (by omega)
    unfold ab_dg
    by_cases cd : ab_dd bt n a
    · rw [if_pos cd]
      have ep : ab_pk bt n a = nI (bt a) := if_pos cd.1
      rw [ep] at h5
      obtain ⟨c1, c2, c3⟩ := id cd
      have hadv := mX4_adv (N := N) (l := l) (d := d) h cd.1
      obtain ⟨r, y', e1, e2, e3⟩ := ih (i + 1) (a + 1) (10 * v + (bt a - 48)) _ (by omega) (by omega) (by rw [Nat.pow_succ]; omega) hs0 (Or.inl (by omega)) (lz_ct_adv h cd.1)
      refine ⟨r, y', ?_, fk_s9_t (lz_s9_adv h) e2, ?_⟩
      · rw [← e1, hX4_number_4]
        have es : 10 * v + bt a - 48 = 10 * v + (bt a - 48) := by omega
        simp (disch := first | assumption | omega) only [rX4_number, h5, h4, h3, hadv, es, Option.bind_some, Option.toList_some, Option.toList_none, List.cons_append, List.nil_append, fk_b_0, nI_add, Nat.add_zero, Nat.zero_add, not_true_eq_false, not_false_eq_true, if_true, if_false, sI_le_t, sI_le_f, sI_lt_t, sI_lt_f, sI_eq_t, sI_eq_f, sI_rem, sI_div, sI_m1a, sI_m1b, sI_m1c, sI_m1d, sI_m1e, sI_m1f, sI_m2a, sI_m2b, sI_sub, pk_mul, sI_dec, fk_u_s, fk_u_o, sI_dec0, sI_z, sI_md, Bool.false_eq_true, Nat.reduceAdd, Nat.reduceMul, Nat.reduceSub, Nat.reduceMod, Nat.reduceDiv]
      · generalize (if ab_dd bt n (ab_dg bt n k (a + 1) (10 * v + (bt a - 48))).1 then (Sum.inl (fk_flt 2 (ab_dg bt n k (a + 1) (10 * v + (bt a - 48))).1) : Int32 ⊕ (Nat × List (Nat × Nat))) else .inr ((ab_dg bt n k (a + 1) (10 * v + (bt a - 48))).1, [(0, (ab_dg bt n k (a + 1) (10 * v + (bt a - 48))).2)])) = R at e3 ⊢
        cases R with
        | inl f => exact e3
        | inr x =>
          obtain ⟨g1, g2, g3, g4⟩ := e3
          refine ⟨g1, g2, g3, fun i hi => ?_⟩
          have := g4 i hi
          rw [fk_u_o (by omega), fk_u_o (by omega), fk_u_o (by omega), fk_u_o (by omega)] at this
          exact this
    · rw [if_neg cd]
      dsimp only
      rw [if_neg cd]
      have i0 : 0 < i := hpos.resolve_right cd
      have hadd := mX3_add (N := N) (l := l) (d := d) (y := y) (v := nI 0) (w := nI v) hc h10 (by omega)
      refine ⟨nI 0, fk_u (fk_u (fk_u y (c + 1) s (nI 0)) (c + 2) s (nI v)) c 7 (nI (s + 1)), ?_, fk_s9_c hc (fk_s9_c hc (fk_s9_c hc fk_s9_0 (by omega)) (by omega)) (by omega), rfl, lz_ct_add h (by omega), lz_hc_1 (by rw [fk_u_o (by omega), fk_u_o (by omega), fk_u_s]; rfl) (by rw [fk_u_o (by omega), fk_u_s]; rfl), fun i hi => ⟨by rw [fk_u_o (by omega), fk_u_o (by omega), fk_u_o (by omega)], by rw [fk_u_o (by omega), fk_u_o (by omega), fk_u_o (by omega)]⟩⟩
      rw [hX4_number_4]
      by_cases lt : a < n
      · have ep : ab_pk bt n a = nI (bt a) := if_pos lt
        rw [ep] at h5
        by_cases c2 : bt a < 48
        · simp (disch := first | assumption | omega) only [rX4_number, h5, hcl, hadd, Option.bind_some, Option.toList_some, Option.toList_none, List.cons_append, List.nil_append, fk_b_0, nI_add, Nat.add_zero, Nat.zero_add, not_true_eq_false, not_false_eq_true, if_true, if_false, sI_le_t, sI_le_f, sI_lt_t, sI_lt_f, sI_eq_t, sI_eq_f, sI_rem, sI_div, sI_m1a, sI_m1b, sI_m1c, sI_m1d, sI_m1e, sI_m1f, sI_m2a, sI_m2b, sI_sub, pk_mul, sI_dec, fk_u_s, fk_u_o, sI_dec0, sI_z, sI_md, Bool.false_eq_true, Nat.reduceAdd, Nat.reduceMul, Nat.reduceSub, Nat.reduceMod, Nat.reduceDiv]
        · have c3 : 57 < bt a := Classical.byContradiction fun z => cd ⟨lt, by omega, by omega⟩
          simp (disch := first | assumption | omega) only [rX4_number, h5, hcl, hadd, Option.bind_some, Option.toList_some, Option.toList_none, List.cons_append, List.nil_append, fk_b_0, nI_add, Nat.add_zero, Nat.zero_add, not_true_eq_false, not_false_eq_true, if_true, if_false, sI_le_t, sI_le_f, sI_lt_t, sI_lt_f, sI_eq_t, sI_eq_f, sI_rem, sI_div, sI_m1a, sI_m1b, sI_m1c, sI_m1d, sI_m1e, sI_m1f, sI_m2a, sI_m2b, sI_sub, pk_mul, sI_dec, fk_u_s, fk_u_o, sI_dec0, sI_z, sI_md, Bool.false_eq_true, Nat.reduceAdd, Nat.reduceMul, Nat.reduceSub, Nat.reduceMod, Nat.reduceDiv]
      · have ep : ab_pk bt n a = (-1) := if_neg lt
        rw [ep] at h5
        simp (disch := first | assumption | omega) only [rX4_number, h5, hcl, hadd, Option.bind_some, Option.toList_some, Option.toList_none, List.cons_append, List.nil_append, fk_b_0, nI_add, Nat.add_zero, Nat.zero_add, not_true_eq_false, not_false_eq_true, if_true, if_false, sI_le_t, sI_le_f, sI_lt_t, sI_lt_f, sI_eq_t, sI_eq_f, sI_rem, sI_div, sI_m1a, sI_m1b, sI_m1c, sI_m1d, sI_m1e, sI_m1f, sI_m2a, sI_m2b, sI_sub, pk_mul, sI_dec, fk_u_s, fk_u_o, sI_dec0, sI_z, sI_md, Bool.false_eq_true, Nat.reduceAdd, Nat.reduceMul, Nat.reduceSub, Nat.reduceMod, Nat.reduceDiv]
theorem mX4_number (h : lz_ct bt n c a s y) (hs : s ≤ a) (hd : ab_dd bt n a) : ∃ r y', fk_ev (d + 1) qX4_number 0 [.ref 28, .null, .null] [] (fk_E N y l) = some (some (.int r), fk_E N y' l) ∧ fk_s9 c y y' ∧ lz_cR bt n c s y y' r (if ab_dd bt n (ab_dg bt n 5 a 0).1 then .inl (fk_flt 2 (ab_dg bt n 5 a 0).1) else .inr ((ab_dg bt n 5 a 0).1, [(0, (ab_dg bt n 5 a 0).2)])) := by
  obtain ⟨r, y', e1, e2⟩ := mX4_number_l (N := N) (l := l) (d := d) h.1 5 0 a 0 y rfl rfl (by decide) hs (Or.inr hd) h
  refine ⟨r, y', ?_, e2⟩
  rw [← e1]
  simp (disch := first | assumption | omega) only [rX4_number, Option.bind_some, Option.toList_some, Option.toList_none, List.cons_append, List.nil_append, fk_b_0, nI_add, Nat.add_zero, Nat.zero_add, not_true_eq_false, not_false_eq_true, if_true, if_false, sI_le_t, sI_le_f, sI_lt_t, sI_lt_f, sI_eq_t, sI_eq_f, sI_rem, sI_div, sI_m1a, sI_m1b, sI_m1c, sI_m1d, sI_m1e, sI_m1f, sI_m2a, sI_m2b, sI_sub, pk_mul, sI_dec, fk_u_s, fk_u_o, sI_dec0, sI_z, sI_md, Bool.false_eq_true, Nat.reduceAdd, Nat.reduceMul, Nat.reduceSub, Nat.reduceMod, Nat.reduceDiv]
/-- Strings on the way to isOneOf -/
theorem lX4_1 {L : List Value} : fk_ev (d + 1) qX4_clause 1 L [.ref 28] (fk_E N y l) = (fk_ev d qX4_isOneOf 0 [.ref 28, .retAddr 0] [] (fk_E N y l)).bind fun o => fk_ev (d + 1) qX4_clause 6 L (o.1.toList ++ []) o.2 := by
  have s1 : fk_ev (d + 1) qX4_clause 1 L [.ref 28] (fk_E N y l) = fk_ev (d + 1) qX4_clause 3 L [.retAddr 0, .ref 28] (fk_E N y l) := (fk_r_ldcs (i := 0) dX4_clause_1 (show fk_ct 4 71 = none by decide +kernel) (show fk_sx 4 71 = some 0 by decide +kernel))
  rw [s1]
  exact fk_g_call [.retAddr 0] [] rfl lm_4_73 dX4_clause_3 rfl ⟨rfl, by decide⟩ (by simp) fk_at_28
theorem lX4_2 {L : List Value} : fk_ev (d + 1) qX4_factor 24 L [.ref 28] (fk_E N y l) = (fk_ev d qX4_isOneOf 0 [.ref 28, .retAddr 2] [] (fk_E N y l)).bind fun o => fk_ev (d + 1) qX4_factor 29 L (o.1.toList ++ []) o.2 := by
  have s1 : fk_ev (d + 1) qX4_factor 24 L [.ref 28] (fk_E N y l) = fk_ev (d + 1) qX4_factor 26 L [.retAddr 2, .ref 28] (fk_E N y l) := (fk_r_ldcs (i := 1) dX4_factor_24 (show fk_ct 4 133 = none by decide +kernel) (show fk_sx 4 133 = some 1 by decide +kernel))
  rw [s1]
  exact fk_g_call [.retAddr 2] [] rfl lm_4_73 dX4_factor_26 rfl ⟨rfl, by decide⟩ (by simp) fk_at_28
theorem lX4_3 {L : List Value} : fk_ev (d + 1) qX4_product 22 L [.ref 28] (fk_E N y l) = (fk_ev d qX4_isOneOf 0 [.ref 28, .retAddr 4] [] (fk_E N y l)).bind fun o => fk_ev (d + 1) qX4_product 27 L (o.1.toList ++ []) o.2 := by
  have s1 : fk_ev (d + 1) qX4_product 22 L [.ref 28] (fk_E N y l) = fk_ev (d + 1) qX4_product 24 L [.retAddr 4, .ref 28] (fk_E N y l) := (fk_r_ldcs (i := 2) dX4_product_22 (show fk_ct 4 128 = none by decide +kernel) (show fk_sx 4 128 = some 2 by decide +kernel))
  rw [s1]
  exact fk_g_call [.retAddr 4] [] rfl lm_4_73 dX4_product_24 rfl ⟨rfl, by decide⟩ (by simp) fk_at_28
theorem lX4_4 {L : List Value} : fk_ev (d + 1) qX4_piece 112 L [.ref 28] (fk_E N y l) = (fk_ev d qX4_isOneOf 0 [.ref 28, .retAddr 6] [] (fk_E N y l)).bind fun o => fk_ev (d + 1) qX4_piece 117 L (o.1.toList ++ []) o.2 := by
  have s1 : fk_ev (d + 1) qX4_piece 112 L [.ref 28] (fk_E N y l) = fk_ev (d + 1) qX4_piece 114 L [.retAddr 6, .ref 28] (fk_E N y l) := (fk_r_ldcs (i := 3) dX4_piece_112 (show fk_ct 4 120 = none by decide +kernel) (show fk_sx 4 120 = some 3 by decide +kernel))
  rw [s1]
  exact fk_g_call [.retAddr 6] [] rfl lm_4_73 dX4_piece_114 rfl ⟨rfl, by decide⟩ (by simp) fk_at_28
end CR0
