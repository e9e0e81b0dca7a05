section CHO
variable {N : Nat} {S : Nat → Int32} {v y y0 y1 y2 z : Nat → Nat → Int32} {l : Nat → Nat → Int64} {d p n H t c k m : Nat} {T A A' : Nat → Int32} {b0 : Int32} {W : Int32 → (Nat → Int32) → Int32} {s : ab_S}
theorem ab_cl_n {x : Int32} {n : Nat} (hn : n < 1000000) : ∃ g, g ≤ n ∧ ab_cl (nI n) x = nI g := by
  unfold ab_cl
  by_cases h1 : x < nI 0
  · exact ⟨0, by omega, if_pos h1⟩
  · rw [if_neg h1]
    by_cases h2 : nI n < x
    · exact ⟨n, Nat.le_refl _, if_pos h2⟩
    · rw [if_neg h2]
      obtain ⟨g, hg, e⟩ := fk_ixn2 (Int32.not_lt.mp h1) (Int32.not_lt.mp h2) (by omega)
      exact ⟨g, hg, e⟩
/-- how gladly, a number up to 99 -/
def ab_g (v : Nat → Nat → Int32) (W : Int32 → (Nat → Int32) → Int32) (A : Nat → Int32) (j r : Nat) : Nat := (ab_G v W A j r).toNatClampNeg
theorem ab_g_e {j r : Nat} : ab_G v W A j r = nI (ab_g v W A j r) ∧ ab_g v W A j r ≤ 99 := by
  have : ∃ g, g ≤ 99 ∧ ab_G v W A j r = nI g := by
    unfold ab_G
    by_cases h : ab_rd v r (A (320 + j))
    · rw [if_pos h]
      exact ab_cl_n (by omega)
    · rw [if_neg h]
      exact ⟨0, by omega, rfl⟩
  obtain ⟨g, hg, e⟩ := this
  unfold ab_g
  rw [e, nI_clamp (by omega)]
  exact ⟨rfl, hg⟩
theorem ab_g_t {j r : Nat} (h : ab_rd v r (A (320 + j))) : ab_gl v W A j r = nI (ab_g v W A j r) := by
  rw [← ab_g_e.1]
  unfold ab_G
  rw [if_pos h]
theorem ab_g_f {j r : Nat} (h : ¬ ab_rd v r (A (320 + j))) : ab_g v W A j r = 0 := by
  unfold ab_g ab_G
  rw [if_neg h]
  exact nI_clamp (by omega)
theorem ab_g_env {v' : Nat → Nat → Int32} (h3 : v' 246 3 = v 246 3) (h : ∀ c, 250 ≤ c → c ≤ 254 → v' c = v c) : ab_g v' W = ab_g v W := by
  have h0 := h 250 (by omega) (by omega)
  have h1 := h 251 (by omega) (by omega)
  have h2 := h 252 (by omega) (by omega)
  have gfr : ab_fr v' = ab_fr v := by
    funext A j r k
    simp only [ab_fr, h1, h2]
  funext A j r
  simp only [ab_g, ab_G, ab_rd, ab_gl, gfr, h3, h0]
def ab_o (g : Nat → Nat) (r x : Nat) : Nat := if r = x then g r / 2 else g r
theorem ab_o_le {g : Nat → Nat} {r x : Nat} (h : g r ≤ 99) : ab_o g r x ≤ 99 := by
  unfold ab_o
  split <;> omega
abbrev ab_bad (g1 g2 : Nat → Nat) (a b r : Nat) : Bool := decide (ab_o g1 a b < ab_o g1 r b ∨ ab_o g2 b a < ab_o g2 r a)
abbrev ab_stl (g1 g2 : Nat → Nat) (a b : Nat) : Prop := (0 < g1 a ∧ 0 < g2 b) ∧ fk_cf (ab_bad g1 g2 a b) 0 32 = 0
theorem fk_cf_c {p : Nat → Bool} {i k : Nat} : fk_cf p i (k + 1) = (if p i then 1 else 0) + fk_cf p (i + 1) k := rfl
theorem mX11_set_loop {g1 g2 : Nat → Nat} {a b : Nat} (q1 : ∀ r, r < 32 → y 244 r = nI (g1 r)) (q2 : ∀ r, r < 32 → y 245 r = nI (g2 r)) (u1 : ∀ r, g1 r ≤ 99) (u2 : ∀ r, g2 r ≤ 99) (ha : a < 32) (hb : b < 32) : ∀ k r, r + k = 32 → ∀ x x' : Value, fk_ev d qX11_isSettled 88 [.ref 1, .int (nI a), .int (nI b), .int (nI (ab_o g1 a b)), .int (nI (ab_o g2 b a)), .int (nI r), x, x'] [] (fk_E N y l) = some (some (.int (fk_b (fk_cf (ab_bad g1 g2 a b) r k = 0))), fk_E N y l) := by
  have w1 := ab_o_le (x := b) (u1 a)
  have w2 := ab_o_le (x := a) (u2 b)
  intro k
  induction k with
  | zero =>
    intro r hr x x'
    have hr : r = 32 := hr
    subst hr
    rw [hX11_isSettled_88, fk_b_t (show fk_cf (ab_bad g1 g2 a b) 32 0 = 0 from rfl)]
    simp (disch := first | assumption | omega) only [rX11_isSettled, Option.bind_some, Option.toList_some, Option.toList_none, List.cons_append, List.nil_append, fk_b_0, nI_add, Nat.add_zero, Nat.zero_add, not_true_eq_false, not_false_eq_true, if_true, if_false, sI_le_t, sI_le_f, sI_lt_t, sI_lt_f, sI_eq_t, sI_eq_f, sI_rem, sI_div, sI_m1a, sI_m1b, sI_m1c, sI_m1d, sI_m1e, sI_m1f, sI_m2a, sI_m2b, sI_sub, pk_mul, sI_dec, fk_u_s, fk_u_o, sI_dec0, sI_z, sI_md, Bool.false_eq_true, Nat.reduceAdd, Nat.reduceMul, Nat.reduceSub, Nat.reduceMod, Nat.reduceDiv]
  | succ k ih =>
    intro r hr x x'
    have w3 := ab_o_le (x := b) (u1 r)
    have w4 := ab_o_le (x := a) (u2 r)
    have v1 := u1 r
    have v2 := u2 r
    have st1 : fk_ev d qX11_isSettled 88 [.ref 1, .int (nI a), .int (nI b), .int (nI (ab_o g1 a b)), .int (nI (ab_o g2 b a)), .int (nI r), x, x'] [] (fk_E N y l) = fk_ev d qX11_isSettled 149 [.ref 1, .int (nI a), .int (nI b), .int (nI (ab_o g1 a b)), .int (nI (ab_o g2 b a)), .int (nI r), .int (nI (ab_o g1 r b)), .int (nI (ab_o g2 r a))] [] (fk_E N y l) := by
      have f1 : ∀ x : Value, fk_ev d qX11_isSettled 88 [.ref 1, .int (nI a), .int (nI b), .int (nI (ab_o g1 a b)), .int (nI (ab_o g2 b a)), .int (nI r), x, x'] [] (fk_E N y l) = fk_ev d qX11_isSettled 122 [.ref 1, .int (nI a), .int (nI b), .int (nI (ab_o g1 a b)), .int (nI (ab_o g2 b a)), .int (nI r), .int (nI (ab_o g1 r b)), x'] [] (fk_E N y l) := by
        intro x
        rw [hX11_isSettled_88]
        by_cases c : r = b
        · have e : ab_o g1 r b = g1 r / 2 := if_pos c
          rw [e]
          simp (disch := first | assumption | omega) only [rX11_isSettled, q1, Option.bind_some, Option.toList_some, Option.toList_none, List.cons_append, List.nil_append, fk_b_0, nI_add, Nat.add_zero, Nat.zero_add, not_true_eq_false, not_false_eq_true, if_true, if_false, sI_le_t, sI_le_f, sI_lt_t, sI_lt_f, sI_eq_t, sI_eq_f, sI_rem, sI_div, sI_m1a, sI_m1b, sI_m1c, sI_m1d, sI_m1e, sI_m1f, sI_m2a, sI_m2b, sI_sub, pk_mul, sI_dec, fk_u_s, fk_u_o, sI_dec0, sI_z, sI_md, Bool.false_eq_true, Nat.reduceAdd, Nat.reduceMul, Nat.reduceSub, Nat.reduceMod, Nat.reduceDiv]
        · have e : ab_o g1 r b = g1 r := if_neg c
          rw [e]
          simp (disch := first | assumption | omega) only [rX11_isSettled, q1, Option.bind_some, Option.toList_some, Option.toList_none, List.cons_append, List.nil_append, fk_b_0, nI_add, Nat.add_zero, Nat.zero_add, not_true_eq_false, not_false_eq_true, if_true, if_false, sI_le_t, sI_le_f, sI_lt_t, sI_lt_f, sI_eq_t, sI_eq_f, sI_rem, sI_div, sI_m1a, sI_m1b, sI_m1c, sI_m1d, sI_m1e, sI_m1f, sI_m2a, sI_m2b, sI_sub, pk_mul, sI_dec, fk_u_s, fk_u_o, sI_dec0, sI_z, sI_md, Bool.false_eq_true, Nat.reduceAdd, Nat.reduceMul, Nat.reduceSub, Nat.reduceMod, Nat.reduceDiv]
      rw [f1]
      by_cases c : r = a
      · have e : ab_o g2 r a = g2 r / 2 := if_pos c
        rw [e]
        simp (disch := first | assumption | omega) only [rX11_isSettled, q2, Option.bind_some, Option.toList_some, Option.toList_none, List.cons_append, List.nil_append, fk_b_0, nI_add, Nat.add_zero, Nat.zero_add, not_true_eq_false, not_false_eq_true, if_true, if_false, sI_le_t, sI_le_f, sI_lt_t, sI_lt_f, sI_eq_t, sI_eq_f, sI_rem, sI_div, sI_m1a, sI_m1b, sI_m1c, sI_m1d, sI_m1e, sI_m1f, sI_m2a, sI_m2b, sI_sub, pk_mul, sI_dec, fk_u_s, fk_u_o, sI_dec0, sI_z, sI_md, Bool.false_eq_true, Nat.reduceAdd, Nat.reduceMul, Nat.reduceSub, Nat.reduceMod, Nat.reduceDiv]
      · have e : ab_o g2 r a = g2 r := if_neg c
        rw [e]
        simp (disch := first | assumption | omega) only [rX11_isSettled, q2, Option.bind_some, Option.toList_some, Option.toList_none, List.cons_append, List.nil_append, fk_b_0, nI_add, Nat.add_zero, Nat.zero_add, not_true_eq_false, not_false_eq_true, if_true, if_false, sI_le_t, sI_le_f, sI_lt_t, sI_lt_f, sI_eq_t, sI_eq_f, sI_rem, sI_div, sI_m1a, sI_m1b, sI_m1c, sI_m1d, sI_m1e, sI_m1f, sI_m2a, sI_m2b, sI_sub, pk_mul, sI_dec, fk_u_s, fk_u_o, sI_dec0, sI_z, sI_md, Bool.false_eq_true, Nat.reduceAdd, Nat.reduceMul, Nat.reduceSub, Nat.reduceMod, Nat.reduceDiv]
    rw [st1, fk_cf_c]
    by_cases c1 : ab_o g1 a b < ab_o g1 r b
    · rw [if_pos (decide_eq_true (Or.inl c1)), fk_b_f (by omega)]
      simp (disch := first | assumption | omega) only [rX11_isSettled, Option.bind_some, Option.toList_some, Option.toList_none, List.cons_append, List.nil_append, fk_b_0, nI_add, Nat.add_zero, Nat.zero_add, not_true_eq_false, not_false_eq_true, if_true, if_false, sI_le_t, sI_le_f, sI_lt_t, sI_lt_f, sI_eq_t, sI_eq_f, sI_rem, sI_div, sI_m1a, sI_m1b, sI_m1c, sI_m1d, sI_m1e, sI_m1f, sI_m2a, sI_m2b, sI_sub, pk_mul, sI_dec, fk_u_s, fk_u_o, sI_dec0, sI_z, sI_md, Bool.false_eq_true, Nat.reduceAdd, Nat.reduceMul, Nat.reduceSub, Nat.reduceMod, Nat.reduceDiv]
    · by_cases c2 : ab_o g2 b a < ab_o g2 r a
      · rw [if_pos (decide_eq_true (Or.inr c2)), fk_b_f (by omega)]
        simp (disch := first | assumption | omega) only [rX11_isSettled, Option.bind_some, Option.toList_some, Option.toList_none, List.cons_append, List.nil_append, fk_b_0, nI_add, Nat.add_zero, Nat.zero_add, not_true_eq_false, not_false_eq_true, if_true, if_false, sI_le_t, sI_le_f, sI_lt_t, sI_lt_f, sI_eq_t, sI_eq_f, sI_rem, sI_div, sI_m1a, sI_m1b, sI_m1c, sI_m1d, sI_m1e, sI_m1f, sI_m2a, sI_m2b, sI_sub, pk_mul, sI_dec, fk_u_s, fk_u_o, sI_dec0, sI_z, sI_md, Bool.false_eq_true, Nat.reduceAdd, Nat.reduceMul, Nat.reduceSub, Nat.reduceMod, Nat.reduceDiv]
      · rw [if_neg (by rw [decide_eq_true_eq]; omega), Nat.zero_add, ← ih (r + 1) (by omega) (.int (nI (ab_o g1 r b))) (.int (nI (ab_o g2 r a)))]
        simp (disch := first | assumption | omega) only [rX11_isSettled, Option.bind_some, Option.toList_some, Option.toList_none, List.cons_append, List.nil_append, fk_b_0, nI_add, Nat.add_zero, Nat.zero_add, not_true_eq_false, not_false_eq_true, if_true, if_false, sI_le_t, sI_le_f, sI_lt_t, sI_lt_f, sI_eq_t, sI_eq_f, sI_rem, sI_div, sI_m1a, sI_m1b, sI_m1c, sI_m1d, sI_m1e, sI_m1f, sI_m2a, sI_m2b, sI_sub, pk_mul, sI_dec, fk_u_s, fk_u_o, sI_dec0, sI_z, sI_md, Bool.false_eq_true, Nat.reduceAdd, Nat.reduceMul, Nat.reduceSub, Nat.reduceMod, Nat.reduceDiv]
theorem mX11_isSettled {g1 g2 : Nat → Nat} {a b : Nat} (q1 : ∀ r, r < 32 → y 244 r = nI (g1 r)) (q2 : ∀ r, r < 32 → y 245 r = nI (g2 r)) (u1 : ∀ r, g1 r ≤ 99) (u2 : ∀ r, g2 r ≤ 99) (ha : a < 32) (hb : b < 32) : fk_ev (d + 1) qX11_isSettled 0 [.ref 1, .int ((nI a)), .int ((nI b)), .null, .null, .null, .null, .null] [] (fk_E N y l) = some (some (.int ((fk_b (ab_stl g1 g2 a b)))), fk_E N y l) := by
  have v1 := u1 a
  have v2 := u2 b
  by_cases c1 : g1 a = 0
  · rw [fk_b_f fun z => by omega]
    simp (disch := first | assumption | omega) only [rX11_isSettled, mX11_within, and_self, q1, c1, Option.bind_some, Option.toList_some, Option.toList_none, List.cons_append, List.nil_append, fk_b_0, nI_add, Nat.add_zero, Nat.zero_add, not_true_eq_false, not_false_eq_true, if_true, if_false, sI_le_t, sI_le_f, sI_lt_t, sI_lt_f, sI_eq_t, sI_eq_f, sI_rem, sI_div, sI_m1a, sI_m1b, sI_m1c, sI_m1d, sI_m1e, sI_m1f, sI_m2a, sI_m2b, sI_sub, pk_mul, sI_dec, fk_u_s, fk_u_o, sI_dec0, sI_z, sI_md, Bool.false_eq_true, Nat.reduceAdd, Nat.reduceMul, Nat.reduceSub, Nat.reduceMod, Nat.reduceDiv]
  · by_cases c2 : g2 b = 0
    · rw [fk_b_f fun z => by omega]
      simp (disch := first | assumption | omega) only [rX11_isSettled, mX11_within, and_self, q1, q2, c2, Option.bind_some, Option.toList_some, Option.toList_none, List.cons_append, List.nil_append, fk_b_0, nI_add, Nat.add_zero, Nat.zero_add, not_true_eq_false, not_false_eq_true, if_true, if_false, sI_le_t, sI_le_f, sI_lt_t, sI_lt_f, sI_eq_t, sI_eq_f, sI_rem, sI_div, sI_m1a, sI_m1b, sI_m1c, sI_m1d, sI_m1e, sI_m1f, sI_m2a, sI_m2b, sI_sub, pk_mul, sI_dec, fk_u_s, fk_u_o, sI_dec0, sI_z, sI_md, Bool.false_eq_true, Nat.reduceAdd, Nat.reduceMul, Nat.reduceSub, Nat.reduceMod, Nat.reduceDiv]
    · have e := mX11_set_loop (N := N) (l := l) (d := d + 1) q1 q2 u1 u2 ha hb 32 0 rfl .null .null
      have eq : fk_b (fk_cf (ab_bad g1 g2 a b) 0 32 = 0) = fk_b (ab_stl g1 g2 a b) := by
        by_cases h : fk_cf (ab_bad g1 g2 a b) 0 32 = 0
        · rw [fk_b_t h, fk_b_t ⟨⟨by omega, by omega⟩, h⟩]
        · rw [fk_b_f h, fk_b_f fun z => h z.2]
      rw [← eq, ← e]
      by_cases c3 : a = b
      · have e1 : ab_o g1 a b = g1 a / 2 := if_pos c3
        have e2 : ab_o g2 b a = g2 b / 2 := if_pos c3.symm
        rw [e1, e2]
        simp (disch := first | assumption | omega) only [rX11_isSettled, mX11_within, and_self, q1, q2, Option.bind_some, Option.toList_some, Option.toList_none, List.cons_append, List.nil_append, fk_b_0, nI_add, Nat.add_zero, Nat.zero_add, not_true_eq_false, not_false_eq_true, if_true, if_false, sI_le_t, sI_le_f, sI_lt_t, sI_lt_f, sI_eq_t, sI_eq_f, sI_rem, sI_div, sI_m1a, sI_m1b, sI_m1c, sI_m1d, sI_m1e, sI_m1f, sI_m2a, sI_m2b, sI_sub, pk_mul, sI_dec, fk_u_s, fk_u_o, sI_dec0, sI_z, sI_md, Bool.false_eq_true, Nat.reduceAdd, Nat.reduceMul, Nat.reduceSub, Nat.reduceMod, Nat.reduceDiv]
      · have e1 : ab_o g1 a b = g1 a := if_neg c3
        have e2 : ab_o g2 b a = g2 b := if_neg fun z => c3 z.symm
        rw [e1, e2]
        simp (disch := first | assumption | omega) only [rX11_isSettled, mX11_within, and_self, q1, q2, Option.bind_some, Option.toList_some, Option.toList_none, List.cons_append, List.nil_append, fk_b_0, nI_add, Nat.add_zero, Nat.zero_add, not_true_eq_false, not_false_eq_true, if_true, if_false, sI_le_t, sI_le_f, sI_lt_t, sI_lt_f, sI_eq_t, sI_eq_f, sI_rem, sI_div, sI_m1a, sI_m1b, sI_m1c, sI_m1d, sI_m1e, sI_m1f, sI_m2a, sI_m2b, sI_sub, pk_mul, sI_dec, fk_u_s, fk_u_o, sI_dec0, sI_z, sI_md, Bool.false_eq_true, Nat.reduceAdd, Nat.reduceMul, Nat.reduceSub, Nat.reduceMod, Nat.reduceDiv]
theorem ck_cs_row {q i : Nat} {x : Int32} {R : Nat → Int32} (hq : 240 ≤ q) (hc : c = 2 ∨ c = 10) (h : ck_cs (fk_ur y0 q R) 33 c T b0 0 y s) : ck_cs (fk_ur y0 q (fk_u y q i x q)) 33 c T b0 0 (fk_u y q i x) s := by
  obtain ⟨h1, h2, h3, h4, h5, h6⟩ := h
  refine ⟨ck_pr_k h1 fun k k1 k2 => fk_u_rowo (by omega), fun j hj => by omega, by rw [fk_u_rowo (by omega)]; exact h3, by rw [fk_u_rowo (by omega)]; exact h4, fun i' i1 i2 => by rw [fk_u_rowo (by omega), h5 i' i1 i2, fk_ur_o (by omega), fk_ur_o (by omega)], fun k k1 k2 k3 k4 => ?_⟩
  by_cases e : k = q
  · subst e; rw [fk_ur_s]
  · rw [fk_u_rowo e, fk_ur_o e, h6 k k1 k2 k3 k4, fk_ur_o e]
theorem mX6_fillGladness (hL : ck_LC W c y0) (hv : ab_rv v) (hN : ck_nt v y0) (hq2 : y0 238 2 = nI 33) (hq3 : y0 238 3 = nI c) (hs : ck_cs y0 33 c T b0 0 y s) (ho : ab_ok v n H s.1) {j q : Nat} (hj : j < n) (hat : s.1 (192 + j) = nI 1 ∧ nI 0 ≤ s.1 (320 + j)) (hq : q = 244 ∨ q = 245) : ∃ y', fk_ev (d + 3) qX6_fillGladness 0 [.ref 238, .ref ((36 + j)), .ref q, .null] [] (fk_E N y l) = some (none, fk_E N y' l) ∧ ck_cs (fk_ur y0 q (y' q)) 33 c T b0 0 y' s ∧ ∀ r, r < 32 → y' q r = nI (ab_g v W s.1 j r) := by
  have hc := hL.1
  have hn := ho.1
  have hq20 : fk_at q 20 := by
    rcases hq with rfl | rfl
    · exact ⟨by decide, by decide, by decide +kernel⟩
    · exact ⟨by decide, by decide, by decide +kernel⟩
  have sq : (fk_shp q).2 = 32 := by
    rcases hq with rfl | rfl
    · decide +kernel
    · decide +kernel
  have hh := n_h (show j < 64 by omega)
  have key := fk_loopr (σ := Nat → Nat → Int32) (fun k t => fk_ev (d + 3) qX6_fillGladness 2 [.ref 238, .ref (36 + j), .ref q, .int (nI k)] [] (fk_E N t l)) (fun k t => ck_cs (fk_ur y0 q (t q)) 33 c T b0 0 t s ∧ ∀ r, r < k → t q r = nI (ab_g v W s.1 j r)) 32 (by
    rintro k t hk ⟨i1, i2⟩
    try dsimp only
    have a6 := (i1.1.2.2.1 j (by omega) (by rw [ab_ok_n ho]; exact hj)).2.2.2.2.2.1
    rw [show 33 + 3 + j = 36 + j by omega] at a6
    have e19 : t 19 = y0 19 := by rw [i1.2.2.2.2.2 19 (by omega) (by omega) (by omega) (by omega), fk_ur_o (by omega)]
    rw [hX6_fillGladness_2]
    by_cases cr : ab_rd v k (s.1 (320 + j))
    · have L1 : ck_LC W c (fk_ur y0 q (t q)) := ck_LC_c (fun k k1 k2 => fk_ur_o (by omega)) (by rw [fk_ur_o (by omega)]) (by rw [fk_ur_o (by omega)]) hL
      have N1 : ck_nt v (fk_ur y0 q (t q)) := ck_nt_c rfl (fun _ _ _ => rfl) (fun c' h1 h2 => fk_ur_o (by omega)) hN
      obtain ⟨y1, e1, c1⟩ := mX6_gladness (N := N) (l := l) (d := d) L1 N1 (Or.inl rfl) (by rw [fk_ur_o (by omega)]; exact hq2) (by rw [fk_ur_o (by omega)]; exact hq3) i1 (by omega) ho hj hk cr.1
      rw [show 33 + 3 + j = 36 + j by omega, ab_g_t cr] at e1
      have e0 : y0 19 k = s.1 (320 + j) := (hN.1 k hk cr.1).1.trans cr.2
      refine ⟨fk_u y1 q k (nI (ab_g v W s.1 j k)), ?_, ck_cs_row (by omega) hc c1, fun r hr => ?_⟩
      · simp (disch := first | assumption | omega) only [rX6_fillGladness, sq, e19, e0, a6, e1, Option.bind_some, Option.toList_some, Option.toList_none, List.cons_append, List.nil_append, fk_b_0, nI_add, Nat.add_zero, Nat.zero_add, not_true_eq_false, not_false_eq_true, if_true, if_false, sI_le_t, sI_le_f, sI_lt_t, sI_lt_f, sI_eq_t, sI_eq_f, sI_rem, sI_div, sI_m1a, sI_m1b, sI_m1c, sI_m1d, sI_m1e, sI_m1f, sI_m2a, sI_m2b, sI_sub, pk_mul, sI_dec, fk_u_s, fk_u_o, sI_dec0, sI_z, sI_md, Bool.false_eq_true, Nat.reduceAdd, Nat.reduceMul, Nat.reduceSub, Nat.reduceMod, Nat.reduceDiv]
      · by_cases e : r = k
        · subst e; rw [fk_u_s]
        · rw [fk_u_o (by omega), c1.2.2.2.2.2 q (by omega) (by omega) (by omega) (by omega), fk_ur_s]
          exact i2 r (by omega)
    · have e0 : ¬ y0 19 k = s.1 (320 + j) := fun z => by
        by_cases ct : fk_tb (v 246 3) k = true
        · exact cr ⟨ct, (hN.1 k hk ct).1.symm.trans z⟩
        · rw [hN.2.1 k hk ct] at z
          have := hat.2
          rw [← z] at this
          exact absurd this (by decide)
      refine ⟨fk_u t q k (nI 0), ?_, ck_cs_row (by omega) hc i1, fun r hr => ?_⟩
      · simp (disch := first | assumption | omega) only [rX6_fillGladness, sq, e19, e0, a6, Option.bind_some, Option.toList_some, Option.toList_none, List.cons_append, List.nil_append, fk_b_0, nI_add, Nat.add_zero, Nat.zero_add, not_true_eq_false, not_false_eq_true, if_true, if_false, sI_le_t, sI_le_f, sI_lt_t, sI_lt_f, sI_eq_t, sI_eq_f, sI_rem, sI_div, sI_m1a, sI_m1b, sI_m1c, sI_m1d, sI_m1e, sI_m1f, sI_m2a, sI_m2b, sI_sub, pk_mul, sI_dec, fk_u_s, fk_u_o, sI_dec0, sI_z, sI_md, Bool.false_eq_true, Nat.reduceAdd, Nat.reduceMul, Nat.reduceSub, Nat.reduceMod, Nat.reduceDiv]
      · by_cases e : r = k
        · subst e; rw [fk_u_s, ab_g_f cr]
        · rw [fk_u_o (by omega)]
          exact i2 r (by omega)) 32 0 y rfl ⟨by
      refine ⟨hs.1, hs.2.1, hs.2.2.1, hs.2.2.2.1, fun i h1 h2 => by rw [hs.2.2.2.2.1 i h1 h2, fk_ur_o (by omega)], fun k k1 k2 k3 k4 => ?_⟩
      by_cases e : k = q
      · subst e; rw [fk_ur_s]
      · rw [fk_ur_o e]; exact hs.2.2.2.2.2 k k1 k2 k3 k4, fun r hr => by omega⟩
  obtain ⟨y', e, i1, i2⟩ := key
  try dsimp only at e
  refine ⟨y', ?_, i1, i2⟩
  simp (disch := first | assumption | omega) only [rX6_fillGladness, Option.bind_some, Option.toList_some, Option.toList_none, List.cons_append, List.nil_append, fk_b_0, nI_add, Nat.add_zero, Nat.zero_add, not_true_eq_false, not_false_eq_true, if_true, if_false, sI_le_t, sI_le_f, sI_lt_t, sI_lt_f, sI_eq_t, sI_eq_f, sI_rem, sI_div, sI_m1a, sI_m1b, sI_m1c, sI_m1d, sI_m1e, sI_m1f, sI_m2a, sI_m2b, sI_sub, pk_mul, sI_dec, fk_u_s, fk_u_o, sI_dec0, sI_z, sI_md, Bool.false_eq_true, Nat.reduceAdd, Nat.reduceMul, Nat.reduceSub, Nat.reduceMod, Nat.reduceDiv]
  rw [e, hX6_fillGladness_2]
  simp (disch := first | assumption | omega) only [rX6_fillGladness, Option.bind_some, Option.toList_some, Option.toList_none, List.cons_append, List.nil_append, fk_b_0, nI_add, Nat.add_zero, Nat.zero_add, not_true_eq_false, not_false_eq_true, if_true, if_false, sI_le_t, sI_le_f, sI_lt_t, sI_lt_f, sI_eq_t, sI_eq_f, sI_rem, sI_div, sI_m1a, sI_m1b, sI_m1c, sI_m1d, sI_m1e, sI_m1f, sI_m2a, sI_m2b, sI_sub, pk_mul, sI_dec, fk_u_s, fk_u_o, sI_dec0, sI_z, sI_md, Bool.false_eq_true, Nat.reduceAdd, Nat.reduceMul, Nat.reduceSub, Nat.reduceMod, Nat.reduceDiv]
theorem mX12_isGlad (HW : fk_LR W v) (hs : fk_rs v y s) {j r : Nat} (hj : j < 64) (hr : r < 32) (hn : n ≤ 64) (hm : s.1 833 = nI n) : ∃ y', fk_ev (d + 5) qX12_isGlad 0 [.ref 246, .int ((nI j)), .int ((nI r))] [] (fk_E N y l) = some (some (.int ((fk_b (0 < ab_g v W s.1 j r)))), fk_E N y' l) ∧ fk_rs v y' s := by
  have hrd := mX12_isRoadN (N := N) (l := l) (d := d + 3) (y := y) hr
  have e3 : y 246 3 = v 246 3 := hs.2.2.2.1 3 (by omega)
  have e250 : y 250 = v 250 := hs.2.2.2.2 250 (by omega) (by omega) (by omega) (by omega) (by omega)
  rw [e3] at hrd
  by_cases ct : fk_tb (v 246 3) r = true
  · rw [fk_b_t ct] at hrd
    by_cases cf : v 250 r = s.1 (320 + j)
    · obtain ⟨y', e, h⟩ := mX12_gladlyFor (N := N) (l := l) (d := d) HW hs hj hr hn hm
      rw [ab_g_t ⟨ct, cf⟩] at e
      have le := (ab_g_e (v := v) (W := W) (A := s.1) (j := j) (r := r)).2
      refine ⟨y', ?_, h⟩
      by_cases cg : 0 < ab_g v W s.1 j r
      · rw [fk_b_t cg]
        simp (disch := first | assumption | omega) only [rX12_isGlad, hrd, e250, hs.1, cf, e, Option.bind_some, Option.toList_some, Option.toList_none, List.cons_append, List.nil_append, fk_b_0, nI_add, Nat.add_zero, Nat.zero_add, not_true_eq_false, not_false_eq_true, if_true, if_false, sI_le_t, sI_le_f, sI_lt_t, sI_lt_f, sI_eq_t, sI_eq_f, sI_rem, sI_div, sI_m1a, sI_m1b, sI_m1c, sI_m1d, sI_m1e, sI_m1f, sI_m2a, sI_m2b, sI_sub, pk_mul, sI_dec, fk_u_s, fk_u_o, sI_dec0, sI_z, sI_md, Bool.false_eq_true, Nat.reduceAdd, Nat.reduceMul, Nat.reduceSub, Nat.reduceMod, Nat.reduceDiv]
      · rw [fk_b_f cg]
        simp (disch := first | assumption | omega) only [rX12_isGlad, hrd, e250, hs.1, cf, e, Option.bind_some, Option.toList_some, Option.toList_none, List.cons_append, List.nil_append, fk_b_0, nI_add, Nat.add_zero, Nat.zero_add, not_true_eq_false, not_false_eq_true, if_true, if_false, sI_le_t, sI_le_f, sI_lt_t, sI_lt_f, sI_eq_t, sI_eq_f, sI_rem, sI_div, sI_m1a, sI_m1b, sI_m1c, sI_m1d, sI_m1e, sI_m1f, sI_m2a, sI_m2b, sI_sub, pk_mul, sI_dec, fk_u_s, fk_u_o, sI_dec0, sI_z, sI_md, Bool.false_eq_true, Nat.reduceAdd, Nat.reduceMul, Nat.reduceSub, Nat.reduceMod, Nat.reduceDiv]
    · refine ⟨y, ?_, hs⟩
      rw [fk_b_f (by rw [ab_g_f fun z => cf z.2]; omega)]
      simp (disch := first | assumption | omega) only [rX12_isGlad, hrd, e250, hs.1, cf, Option.bind_some, Option.toList_some, Option.toList_none, List.cons_append, List.nil_append, fk_b_0, nI_add, Nat.add_zero, Nat.zero_add, not_true_eq_false, not_false_eq_true, if_true, if_false, sI_le_t, sI_le_f, sI_lt_t, sI_lt_f, sI_eq_t, sI_eq_f, sI_rem, sI_div, sI_m1a, sI_m1b, sI_m1c, sI_m1d, sI_m1e, sI_m1f, sI_m2a, sI_m2b, sI_sub, pk_mul, sI_dec, fk_u_s, fk_u_o, sI_dec0, sI_z, sI_md, Bool.false_eq_true, Nat.reduceAdd, Nat.reduceMul, Nat.reduceSub, Nat.reduceMod, Nat.reduceDiv]
  · rw [fk_b_f ct] at hrd
    refine ⟨y, ?_, hs⟩
    rw [fk_b_f (by rw [ab_g_f fun z => ct z.1]; omega)]
    simp (disch := first | assumption | omega) only [rX12_isGlad, hrd, Option.bind_some, Option.toList_some, Option.toList_none, List.cons_append, List.nil_append, fk_b_0, nI_add, Nat.add_zero, Nat.zero_add, not_true_eq_false, not_false_eq_true, if_true, if_false, sI_le_t, sI_le_f, sI_lt_t, sI_lt_f, sI_eq_t, sI_eq_f, sI_rem, sI_div, sI_m1a, sI_m1b, sI_m1c, sI_m1d, sI_m1e, sI_m1f, sI_m2a, sI_m2b, sI_sub, pk_mul, sI_dec, fk_u_s, fk_u_o, sI_dec0, sI_z, sI_md, Bool.false_eq_true, Nat.reduceAdd, Nat.reduceMul, Nat.reduceSub, Nat.reduceMod, Nat.reduceDiv]
theorem mX12_gainOf (HW : fk_LR W v) (hs : fk_rs v y s) {j r o : Nat} (hj : j < 64) (hr : r < 32) (ho : o < 32) (hn : n ≤ 64) (hm : s.1 833 = nI n) (hg : 0 < ab_g v W s.1 j r) : ∃ y', fk_ev (d + 5) qX12_gainOf 0 [.ref 246, .int ((nI j)), .int ((nI r)), .int ((nI o)), .null] [] (fk_E N y l) = some (some (.int ((nI (ab_o (ab_g v W s.1 j) r o)))), fk_E N y' l) ∧ fk_rs v y' s := by
  have cr : ab_rd v r (s.1 (320 + j)) := Classical.byContradiction fun z => by rw [ab_g_f z] at hg; omega
  obtain ⟨y', e, h⟩ := mX12_gladlyFor (N := N) (l := l) (d := d) HW hs hj hr hn hm
  rw [ab_g_t cr] at e
  have le := (ab_g_e (v := v) (W := W) (A := s.1) (j := j) (r := r)).2
  refine ⟨y', ?_, h⟩
  by_cases c : r = o
  · have e1 : ab_o (ab_g v W s.1 j) r o = ab_g v W s.1 j r / 2 := if_pos c
    rw [e1]
    simp (disch := first | assumption | omega) only [rX12_gainOf, e, Option.bind_some, Option.toList_some, Option.toList_none, List.cons_append, List.nil_append, fk_b_0, nI_add, Nat.add_zero, Nat.zero_add, not_true_eq_false, not_false_eq_true, if_true, if_false, sI_le_t, sI_le_f, sI_lt_t, sI_lt_f, sI_eq_t, sI_eq_f, sI_rem, sI_div, sI_m1a, sI_m1b, sI_m1c, sI_m1d, sI_m1e, sI_m1f, sI_m2a, sI_m2b, sI_sub, pk_mul, sI_dec, fk_u_s, fk_u_o, sI_dec0, sI_z, sI_md, Bool.false_eq_true, Nat.reduceAdd, Nat.reduceMul, Nat.reduceSub, Nat.reduceMod, Nat.reduceDiv]
  · have e1 : ab_o (ab_g v W s.1 j) r o = ab_g v W s.1 j r := if_neg c
    rw [e1]
    simp (disch := first | assumption | omega) only [rX12_gainOf, e, Option.bind_some, Option.toList_some, Option.toList_none, List.cons_append, List.nil_append, fk_b_0, nI_add, Nat.add_zero, Nat.zero_add, not_true_eq_false, not_false_eq_true, if_true, if_false, sI_le_t, sI_le_f, sI_lt_t, sI_lt_f, sI_eq_t, sI_eq_f, sI_rem, sI_div, sI_m1a, sI_m1b, sI_m1c, sI_m1d, sI_m1e, sI_m1f, sI_m2a, sI_m2b, sI_sub, pk_mul, sI_dec, fk_u_s, fk_u_o, sI_dec0, sI_z, sI_md, Bool.false_eq_true, Nat.reduceAdd, Nat.reduceMul, Nat.reduceSub, Nat.reduceMod, Nat.reduceDiv]
theorem mX12_rests (HW : fk_LR W v) {j k' a b : Nat} (hj : j < 64) (hk' : k' < 64) (ha : a < 32) (hb : b < 32) (hn : n ≤ 64) (hm : s.1 833 = nI n) (ga : 0 < ab_g v W s.1 j a) (gb : 0 < ab_g v W s.1 k' b) : ∀ k r, r + k = 32 → ∀ y, fk_rs v y s → ∃ y', fk_ev (d + 6) qX12_rests 3 [.ref 246, .int (nI j), .int (nI k'), .int (nI a), .int (nI b), .int (nI r)] [] (fk_E N y l) = some (some (.int (fk_b (fk_cf (ab_bad (ab_g v W s.1 j) (ab_g v W s.1 k') a b) r k = 0))), fk_E N y' l) ∧ fk_rs v y' s := by
  have U1 : ∀ r, ab_g v W s.1 j r ≤ 99 := fun r => ab_g_e.2
  have U2 : ∀ r, ab_g v W s.1 k' r ≤ 99 := fun r => ab_g_e.2
  have w1 := ab_o_le (x := b) (U1 a)
  have w2 := ab_o_le (x := a) (U2 b)
  intro k
  induction k with
  | zero =>
    intro r hr y hs
    have hr : r = 32 := hr
    subst hr
    refine ⟨y, ?_, hs⟩
    rw [hX12_rests_3, fk_b_t (show fk_cf (ab_bad (ab_g v W s.1 j) (ab_g v W s.1 k') a b) 32 0 = 0 from rfl)]
    simp (disch := first | assumption | omega) only [rX12_rests, Option.bind_some, Option.toList_some, Option.toList_none, List.cons_append, List.nil_append, fk_b_0, nI_add, Nat.add_zero, Nat.zero_add, not_true_eq_false, not_false_eq_true, if_true, if_false, sI_le_t, sI_le_f, sI_lt_t, sI_lt_f, sI_eq_t, sI_eq_f, sI_rem, sI_div, sI_m1a, sI_m1b, sI_m1c, sI_m1d, sI_m1e, sI_m1f, sI_m2a, sI_m2b, sI_sub, pk_mul, sI_dec, fk_u_s, fk_u_o, sI_dec0, sI_z, sI_md, Bool.false_eq_true, Nat.reduceAdd, Nat.reduceMul, Nat.reduceSub, Nat.reduceMod, Nat.reduceDiv]
  | succ k ih =>
    intro r hr y hs
    have w3 := ab_o_le (x := b) (U1 r)
    have w4 := ab_o_le (x := a) (U2 r)
    have r32 : r < 32 := by omega
    rw [hX12_rests_3, fk_cf_c]
    have part2 : ¬ ab_o (ab_g v W s.1 j) a b < ab_o (ab_g v W s.1 j) r b → ∀ y, fk_rs v y s → ∃ y', fk_ev (d + 6) qX12_rests 42 [.ref 246, .int (nI j), .int (nI k'), .int (nI a), .int (nI b), .int (nI r)] [] (fk_E N y l) = some (some (.int (fk_b ((if ab_bad (ab_g v W s.1 j) (ab_g v W s.1 k') a b r then 1 else 0) + fk_cf (ab_bad (ab_g v W s.1 j) (ab_g v W s.1 k') a b) (r + 1) k = 0))), fk_E N y' l) ∧ fk_rs v y' s := by
      intro n1 y hs
      obtain ⟨y3, e3, s3⟩ := mX12_isGlad (N := N) (l := l) (d := d) HW hs hk' r32 hn hm
      by_cases g2 : 0 < ab_g v W s.1 k' r
      · rw [fk_b_t g2] at e3
        obtain ⟨y4, e4, s4⟩ := mX12_gainOf (N := N) (l := l) (d := d) (o := a) HW s3 hk' r32 ha hn hm g2
        obtain ⟨y5, e5, s5⟩ := mX12_gainOf (N := N) (l := l) (d := d) (o := a) HW s4 hk' hb ha hn hm gb
        by_cases c2 : ab_o (ab_g v W s.1 k') b a < ab_o (ab_g v W s.1 k') r a
        · refine ⟨y5, ?_, s5⟩
          rw [if_pos (decide_eq_true (Or.inr c2)), fk_b_f (by omega)]
          simp (disch := first | assumption | omega) only [rX12_rests, e3, e4, e5, Option.bind_some, Option.toList_some, Option.toList_none, List.cons_append, List.nil_append, fk_b_0, nI_add, Nat.add_zero, Nat.zero_add, not_true_eq_false, not_false_eq_true, if_true, if_false, sI_le_t, sI_le_f, sI_lt_t, sI_lt_f, sI_eq_t, sI_eq_f, sI_rem, sI_div, sI_m1a, sI_m1b, sI_m1c, sI_m1d, sI_m1e, sI_m1f, sI_m2a, sI_m2b, sI_sub, pk_mul, sI_dec, fk_u_s, fk_u_o, sI_dec0, sI_z, sI_md, Bool.false_eq_true, Nat.reduceAdd, Nat.reduceMul, Nat.reduceSub, Nat.reduceMod, Nat.reduceDiv]
        · obtain ⟨y6, e6, s6⟩ := ih (r + 1) (by omega) y5 s5
          refine ⟨y6, ?_, s6⟩
          rw [if_neg (by rw [decide_eq_true_eq]; omega), Nat.zero_add, ← e6]
          simp (disch := first | assumption | omega) only [rX12_rests, e3, e4, e5, Option.bind_some, Option.toList_some, Option.toList_none, List.cons_append, List.nil_append, fk_b_0, nI_add, Nat.add_zero, Nat.zero_add, not_true_eq_false, not_false_eq_true, if_true, if_false, sI_le_t, sI_le_f, sI_lt_t, sI_lt_f, sI_eq_t, sI_eq_f, sI_rem, sI_div, sI_m1a, sI_m1b, sI_m1c, sI_m1d, sI_m1e, sI_m1f, sI_m2a, sI_m2b, sI_sub, pk_mul, sI_dec, fk_u_s, fk_u_o, sI_dec0, sI_z, sI_md, Bool.false_eq_true, Nat.reduceAdd, Nat.reduceMul, Nat.reduceSub, Nat.reduceMod, Nat.reduceDiv]
      · rw [fk_b_f g2] at e3
        have z : ab_o (ab_g v W s.1 k') r a = 0 := by
          unfold ab_o
          split <;> omega
        obtain ⟨y6, e6, s6⟩ := ih (r + 1) (by omega) y3 s3
        refine ⟨y6, ?_, s6⟩
        rw [if_neg (by rw [decide_eq_true_eq]; omega), Nat.zero_add, ← e6]
        simp (disch := first | assumption | omega) only [rX12_rests, e3, Option.bind_some, Option.toList_some, Option.toList_none, List.cons_append, List.nil_append, fk_b_0, nI_add, Nat.add_zero, Nat.zero_add, not_true_eq_false, not_false_eq_true, if_true, if_false, sI_le_t, sI_le_f, sI_lt_t, sI_lt_f, sI_eq_t, sI_eq_f, sI_rem, sI_div, sI_m1a, sI_m1b, sI_m1c, sI_m1d, sI_m1e, sI_m1f, sI_m2a, sI_m2b, sI_sub, pk_mul, sI_dec, fk_u_s, fk_u_o, sI_dec0, sI_z, sI_md, Bool.false_eq_true, Nat.reduceAdd, Nat.reduceMul, Nat.reduceSub, Nat.reduceMod, Nat.reduceDiv]
    obtain ⟨y1, e1, s1⟩ := mX12_isGlad (N := N) (l := l) (d := d) HW hs hj r32 hn hm
    by_cases g1 : 0 < ab_g v W s.1 j r
    · rw [fk_b_t g1] at e1
      obtain ⟨y2, e2, s2⟩ := mX12_gainOf (N := N) (l := l) (d := d) (o := b) HW s1 hj r32 hb hn hm g1
      obtain ⟨y3, e3, s3⟩ := mX12_gainOf (N := N) (l := l) (d := d) (o := b) HW s2 hj ha hb hn hm ga
      by_cases c1 : ab_o (ab_g v W s.1 j) a b < ab_o (ab_g v W s.1 j) r b
      · refine ⟨y3, ?_, s3⟩
        rw [if_pos (decide_eq_true (Or.inl c1)), fk_b_f (by omega)]
        simp (disch := first | assumption | omega) only [rX12_rests, e1, e2, e3, Option.bind_some, Option.toList_some, Option.toList_none, List.cons_append, List.nil_append, fk_b_0, nI_add, Nat.add_zero, Nat.zero_add, not_true_eq_false, not_false_eq_true, if_true, if_false, sI_le_t, sI_le_f, sI_lt_t, sI_lt_f, sI_eq_t, sI_eq_f, sI_rem, sI_div, sI_m1a, sI_m1b, sI_m1c, sI_m1d, sI_m1e, sI_m1f, sI_m2a, sI_m2b, sI_sub, pk_mul, sI_dec, fk_u_s, fk_u_o, sI_dec0, sI_z, sI_md, Bool.false_eq_true, Nat.reduceAdd, Nat.reduceMul, Nat.reduceSub, Nat.reduceMod, Nat.reduceDiv]
      · obtain ⟨y', e, h⟩ := part2 c1 y3 s3
        refine ⟨y', ?_, h⟩
        rw [← e]
        simp (disch := first | assumption | omega) only [rX12_rests, e1, e2, e3, Option.bind_some, Option.toList_some, Option.toList_none, List.cons_append, List.nil_append, fk_b_0, nI_add, Nat.add_zero, Nat.zero_add, not_true_eq_false, not_false_eq_true, if_true, if_false, sI_le_t, sI_le_f, sI_lt_t, sI_lt_f, sI_eq_t, sI_eq_f, sI_rem, sI_div, sI_m1a, sI_m1b, sI_m1c, sI_m1d, sI_m1e, sI_m1f, sI_m2a, sI_m2b, sI_sub, pk_mul, sI_dec, fk_u_s, fk_u_o, sI_dec0, sI_z, sI_md, Bool.false_eq_true, Nat.reduceAdd, Nat.reduceMul, Nat.reduceSub, Nat.reduceMod, Nat.reduceDiv]
    · rw [fk_b_f g1] at e1
      have z : ab_o (ab_g v W s.1 j) r b = 0 := by
        unfold ab_o
        split <;> omega
      obtain ⟨y', e, h⟩ := part2 (by omega) y1 s1
      refine ⟨y', ?_, h⟩
      rw [← e]
      simp (disch := first | assumption | omega) only [rX12_rests, e1, Option.bind_some, Option.toList_some, Option.toList_none, List.cons_append, List.nil_append, fk_b_0, nI_add, Nat.add_zero, Nat.zero_add, not_true_eq_false, not_false_eq_true, if_true, if_false, sI_le_t, sI_le_f, sI_lt_t, sI_lt_f, sI_eq_t, sI_eq_f, sI_rem, sI_div, sI_m1a, sI_m1b, sI_m1c, sI_m1d, sI_m1e, sI_m1f, sI_m2a, sI_m2b, sI_sub, pk_mul, sI_dec, fk_u_s, fk_u_o, sI_dec0, sI_z, sI_md, Bool.false_eq_true, Nat.reduceAdd, Nat.reduceMul, Nat.reduceSub, Nat.reduceMod, Nat.reduceDiv]
/-- how many pairs, and the first -/
def ab_pr (g1 g2 : Nat → Nat) (n : Nat) : Nat × Nat := fk_it (fun x s => if ab_stl g1 g2 (x / 32) (x % 32) then (s.1 + 1, if s.1 = 0 then x else s.2) else s) 0 n (0, 0)
theorem ab_pr_s {g1 g2 : Nat → Nat} : ab_pr g1 g2 (k + 1) = if ab_stl g1 g2 (k / 32) (k % 32) then ((ab_pr g1 g2 k).1 + 1, if (ab_pr g1 g2 k).1 = 0 then k else (ab_pr g1 g2 k).2) else ab_pr g1 g2 k := by
  unfold ab_pr
  rw [fk_it_succ, Nat.zero_add]
theorem ab_pr_le {g1 g2 : Nat → Nat} : (ab_pr g1 g2 k).1 ≤ k ∧ (ab_pr g1 g2 k).2 ≤ k := by
  induction k with
  | zero => exact ⟨Nat.le_refl _, Nat.le_refl _⟩
  | succ k ih =>
    rw [ab_pr_s]
    split
    · refine ⟨by dsimp only; omega, ?_⟩
      dsimp only
      split <;> omega
    · omega
theorem cl_chosen (hR : cR S y) {j k w : Int32} : ∃ a y1 y2, fk_ev (d + 8) qX11_chosen 0 [.ref 1, .int j, .int k, .int w, .null, .null, .null] [] (fk_E N y l) = some (some (.int a), fk_E N y1 l) ∧ fk_ev (d + 8) qX12_chosen 0 [.ref 246, .int j, .int k, .int w, .null, .null, .null] [] (fk_E N y1 l) = some (some (.int a), fk_E N y2 l) ∧ cR S y2 := by
  obtain ⟨r0, r1, r2, ⟨n, H, p1, p2, p3, p4⟩, r4, r5, ⟨c, W, q1, q2, q3, q4, q5, q6⟩, r7, r8, r9⟩ := id hR
  have hn := p1.1
  have hm := p1.2.1
  have h8 := n8
  have ha1 := n_at (N := N) (l := l) (d := d + 6) (j := j) hn hm p3
  have ha2 := mX12_isAt (N := N) (l := l) (d := d + 5) (y := y) (j := j) hn hm
  by_cases hj : (nI 0 ≤ j ∧ j < nI n) ∧ y 247 (192 + j.toNatClampNeg) = nI 1 ∧ nI 0 ≤ y 247 (320 + j.toNatClampNeg)
  · rw [fk_b_t hj] at ha1 ha2
    have hb1 := n_at (N := N) (l := l) (d := d + 6) (j := k) hn hm p3
    have hb2 := mX12_isAt (N := N) (l := l) (d := d + 5) (y := y) (j := k) hn hm
    by_cases hk : (nI 0 ≤ k ∧ k < nI n) ∧ y 247 (192 + k.toNatClampNeg) = nI 1 ∧ nI 0 ≤ y 247 (320 + k.toNatClampNeg)
    · rw [fk_b_t hk] at hb1 hb2
      obtain ⟨⟨j1, j2⟩, j3⟩ := hj
      obtain ⟨⟨k1, k2⟩, k3⟩ := hk
      obtain ⟨j, hj, rfl⟩ := fk_ixn j1 j2 (by omega)
      obtain ⟨k, hk, rfl⟩ := fk_ixn k1 k2 (by omega)
      rw [nI_clamp (by omega)] at j3 k3
      have hhj := n_h (show j < 64 by omega)
      have hhk := n_h (show k < 64 by omega)
      have aj := (p3.2.2.1 j (by omega) (by rw [ab_ok_n p1]; exact hj)).2.2.2.2.2.1
      have ak := (p3.2.2.1 k (by omega) (by rw [ab_ok_n p1]; exact hk)).2.2.2.2.2.1
      rw [show 33 + 3 + j = 36 + j by omega] at aj
      rw [show 33 + 3 + k = 36 + k by omega] at ak
      by_cases hjk : j = k
      · refine ⟨(-1), y, y, ?_, ?_, hR⟩
        · simp (disch := first | assumption | omega) only [rX11_chosen, ha1, hb1, Option.bind_some, Option.toList_some, Option.toList_none, List.cons_append, List.nil_append, fk_b_0, nI_add, Nat.add_zero, Nat.zero_add, not_true_eq_false, not_false_eq_true, if_true, if_false, sI_le_t, sI_le_f, sI_lt_t, sI_lt_f, sI_eq_t, sI_eq_f, sI_rem, sI_div, sI_m1a, sI_m1b, sI_m1c, sI_m1d, sI_m1e, sI_m1f, sI_m2a, sI_m2b, sI_sub, pk_mul, sI_dec, fk_u_s, fk_u_o, sI_dec0, sI_z, sI_md, Bool.false_eq_true, Nat.reduceAdd, Nat.reduceMul, Nat.reduceSub, Nat.reduceMod, Nat.reduceDiv]
        · simp (disch := first | assumption | omega) only [rX12_chosen, ha2, hb2, Option.bind_some, Option.toList_some, Option.toList_none, List.cons_append, List.nil_append, fk_b_0, nI_add, Nat.add_zero, Nat.zero_add, not_true_eq_false, not_false_eq_true, if_true, if_false, sI_le_t, sI_le_f, sI_lt_t, sI_lt_f, sI_eq_t, sI_eq_f, sI_rem, sI_div, sI_m1a, sI_m1b, sI_m1c, sI_m1d, sI_m1e, sI_m1f, sI_m2a, sI_m2b, sI_sub, pk_mul, sI_dec, fk_u_s, fk_u_o, sI_dec0, sI_z, sI_md, Bool.false_eq_true, Nat.reduceAdd, Nat.reduceMul, Nat.reduceSub, Nat.reduceMod, Nat.reduceDiv]
      · rcases fk_3c (w := w) with ⟨w, hw, rfl⟩ | ⟨w1, w2⟩
        · by_cases hpl : y 247 (320 + j) = y 247 (320 + k)
          · obtain ⟨y1, e1, c1, g1⟩ := mX6_fillGladness (N := N) (l := l) (d := d + 4) (v := y) (j := j) (q := 244) (ck_by_L q4) r1 (ck_by_N r2) ck_by_2 ck_by_3 (ck_by_cs (n := 0) p3) p1 hj j3 (Or.inl rfl)
            obtain ⟨y2, e2, c2, g2⟩ := mX6_fillGladness (N := N) (l := l) (d := d + 4) (v := y) (j := k) (q := 245) (ck_LC_c (fun k k1 k2 => fk_ur_o (by omega)) (by rw [fk_ur_o (by omega)]) (by rw [fk_ur_o (by omega)]) (ck_by_L q4)) r1 (ck_nt_c rfl (fun _ _ _ => rfl) (fun c' h1 h2 => fk_ur_o (by omega)) (ck_by_N r2)) (by rw [fk_ur_o (by omega)]; exact ck_by_2) (by rw [fk_ur_o (by omega)]; exact ck_by_3) c1 p1 hk k3 (Or.inr rfl)
            try dsimp only at g1 g2
            have U1 : ∀ r, ab_g y W (y 247) j r ≤ 99 := fun r => ab_g_e.2
            have U2 : ∀ r, ab_g y W (y 247) k r ≤ 99 := fun r => ab_g_e.2
            have F2 : ∀ k', ¬ (33 ≤ k' ∧ k' < 100) → k' ≠ 238 → k' ≠ 239 → k' ≠ c + 7 → k' ≠ 244 → k' ≠ 245 → y2 k' = y k' := fun k' h1 h2 h3 h4 h5 h6 => by
              rw [c2.2.2.2.2.2 k' h1 h2 h3 h4, fk_ur_o h6, fk_ur_o h5, ck_by_o h2]
            have g1' : ∀ r, r < 32 → y2 244 r = nI (ab_g y W (y 247) j r) := fun r hr => by
              rw [c2.2.2.2.2.2 244 (by omega) (by omega) (by omega) (by omega), fk_ur_o (by omega), fk_ur_s]
              exact g1 r hr
            have ea : y2 1 0 = nI c := by rw [F2 1 (by omega) (by omega) (by omega) (by omega) (by omega) (by omega)]; exact q2
            generalize eG1 : ab_g y W (y 247) j = G1 at U1 g1'
            generalize eG2 : ab_g y W (y 247) k = G2 at U2 g2
            have L1 := fk_loopr (σ := Nat × Nat) (fun x s => fk_ev (d + 8) qX11_chosen 131 [.ref 1, .int (nI j), .int (nI k), .int (nI w), .int (nI s.1), .int (if s.1 = 0 then (-2) else nI s.2), .int (nI x)] [] (fk_E N y2 l)) (fun x s => s = ab_pr G1 G2 x) 1024 (by
              intro x s hx i1
              try dsimp only at i1 ⊢
              have le := ab_pr_le (g1 := G1) (g2 := G2) (k := x)
              rw [← i1] at le
              have se := mX11_isSettled (N := N) (l := l) (d := d + 6) (a := x / 32) (b := x % 32) g1' g2 U1 U2 (by omega) (by omega)
              refine ⟨ab_pr G1 G2 (x + 1), ?_, rfl⟩
              rw [ab_pr_s, ← i1, hX11_chosen_131]
              by_cases cs : ab_stl G1 G2 (x / 32) (x % 32)
              · rw [fk_b_t cs] at se
                rw [if_pos cs]
                try dsimp only
                rw [if_neg (show ¬ s.1 + 1 = 0 by omega)]
                by_cases c0 : s.1 = 0
                · rw [if_pos c0, if_pos c0, c0]
                  simp (disch := first | assumption | omega) only [rX11_chosen, se, Option.bind_some, Option.toList_some, Option.toList_none, List.cons_append, List.nil_append, fk_b_0, nI_add, Nat.add_zero, Nat.zero_add, not_true_eq_false, not_false_eq_true, if_true, if_false, sI_le_t, sI_le_f, sI_lt_t, sI_lt_f, sI_eq_t, sI_eq_f, sI_rem, sI_div, sI_m1a, sI_m1b, sI_m1c, sI_m1d, sI_m1e, sI_m1f, sI_m2a, sI_m2b, sI_sub, pk_mul, sI_dec, fk_u_s, fk_u_o, sI_dec0, sI_z, sI_md, Bool.false_eq_true, Nat.reduceAdd, Nat.reduceMul, Nat.reduceSub, Nat.reduceMod, Nat.reduceDiv]
                · rw [if_neg c0, if_neg c0]
                  simp (disch := first | assumption | omega) only [rX11_chosen, se, Option.bind_some, Option.toList_some, Option.toList_none, List.cons_append, List.nil_append, fk_b_0, nI_add, Nat.add_zero, Nat.zero_add, not_true_eq_false, not_false_eq_true, if_true, if_false, sI_le_t, sI_le_f, sI_lt_t, sI_lt_f, sI_eq_t, sI_eq_f, sI_rem, sI_div, sI_m1a, sI_m1b, sI_m1c, sI_m1d, sI_m1e, sI_m1f, sI_m2a, sI_m2b, sI_sub, pk_mul, sI_dec, fk_u_s, fk_u_o, sI_dec0, sI_z, sI_md, Bool.false_eq_true, Nat.reduceAdd, Nat.reduceMul, Nat.reduceSub, Nat.reduceMod, Nat.reduceDiv]
              · rw [fk_b_f cs] at se
                rw [if_neg cs]
                simp (disch := first | assumption | omega) only [rX11_chosen, se, Option.bind_some, Option.toList_some, Option.toList_none, List.cons_append, List.nil_append, fk_b_0, nI_add, Nat.add_zero, Nat.zero_add, not_true_eq_false, not_false_eq_true, if_true, if_false, sI_le_t, sI_le_f, sI_lt_t, sI_lt_f, sI_eq_t, sI_eq_f, sI_rem, sI_div, sI_m1a, sI_m1b, sI_m1c, sI_m1d, sI_m1e, sI_m1f, sI_m2a, sI_m2b, sI_sub, pk_mul, sI_dec, fk_u_s, fk_u_o, sI_dec0, sI_z, sI_md, Bool.false_eq_true, Nat.reduceAdd, Nat.reduceMul, Nat.reduceSub, Nat.reduceMod, Nat.reduceDiv]) 1024 0 (0, 0) rfl rfl
            obtain ⟨⟨m1, m2⟩, eL1, iL1⟩ := L1
            try dsimp only at eL1 iL1
            have le := ab_pr_le (g1 := G1) (g2 := G2) (k := 1024)
            rw [← iL1] at le
            try dsimp only at le
            have f : ∀ k', 246 ≤ k' → y2 k' = y k' := fun k' h => F2 k' (by omega) (by omega) (by omega) (by omega) (by omega) (by omega)
            have HW2 : fk_LR W y2 := fk_LR_c (fun k' h1 h2 => f k' (by omega)) (by rw [f 246 (by omega)]) q5
            have eGe : ab_g y2 W = ab_g y W := ab_g_env (by rw [f 246 (by omega)]) fun c' h1 h2 => f c' (by omega)
            have hm2 : (y2 247) 833 = nI n := by rw [f 247 (by omega)]; exact hm
            have L2 := fk_loopr (σ := (Nat × Nat) × (Nat → Nat → Int32)) (fun x s => fk_ev (d + 8) qX12_chosen 64 [.ref 246, .int (nI j), .int (nI k), .int (nI w), .int (nI s.1.1), .int (if s.1.1 = 0 then (-1) else nI s.1.2), .int (nI x)] [] (fk_E N s.2 l)) (fun x s => s.1 = ab_pr G1 G2 x ∧ fk_rs y2 s.2 (y2 247, y2 269, y2 246 35, nI 0)) 1024 (by
              rintro x ⟨s, t⟩ hx ⟨i1, i2⟩
              try dsimp only at i1 i2 ⊢
              have le := ab_pr_le (g1 := G1) (g2 := G2) (k := x)
              rw [← i1] at le
              obtain ⟨t1, e1, s1⟩ := mX12_isGlad (N := N) (l := l) (d := d + 2) (j := j) (r := x / 32) HW2 i2 (by omega) (by omega) hn hm2
              try dsimp only at e1
              rw [eGe, f 247 (by omega), eG1] at e1
              rw [hX12_chosen_64]
              by_cases gA : 0 < G1 (x / 32)
              · rw [fk_b_t gA] at e1
                obtain ⟨t2, e2, s2⟩ := mX12_isGlad (N := N) (l := l) (d := d + 2) (j := k) (r := x % 32) HW2 s1 (by omega) (by omega) hn hm2
                try dsimp only at e2
                rw [eGe, f 247 (by omega), eG2] at e2
                by_cases gB : 0 < G2 (x % 32)
                · rw [fk_b_t gB] at e2
                  obtain ⟨t3, e3, s3⟩ := mX12_rests (N := N) (l := l) (d := d + 1) (s := (y2 247, y2 269, y2 246 35, nI 0)) (j := j) (k' := k) (a := x / 32) (b := x % 32) HW2 (by omega) (by omega) (by omega) (by omega) hn hm2 (by dsimp only; rw [eGe, f 247 (by omega), eG1]; exact gA) (by dsimp only; rw [eGe, f 247 (by omega), eG2]; exact gB) 32 0 rfl t2 s2
                  try dsimp only at e3
                  rw [eGe, f 247 (by omega), eG1, eG2] at e3
                  have e30 : fk_ev (d + 7) qX12_rests 0 [.ref 246, .int ((nI j)), .int ((nI k)), .int ((nI (x / 32))), .int ((nI (x % 32))), .null] [] (fk_E N t2 l) = some (some (.int ((fk_b (fk_cf (ab_bad G1 G2 (x / 32) (x % 32)) 0 32 = 0)))), fk_E N t3 l) := by
                    simp (disch := first | assumption | omega) only [rX12_rests, Option.bind_some, Option.toList_some, Option.toList_none, List.cons_append, List.nil_append, fk_b_0, nI_add, Nat.add_zero, Nat.zero_add, not_true_eq_false, not_false_eq_true, if_true, if_false, sI_le_t, sI_le_f, sI_lt_t, sI_lt_f, sI_eq_t, sI_eq_f, sI_rem, sI_div, sI_m1a, sI_m1b, sI_m1c, sI_m1d, sI_m1e, sI_m1f, sI_m2a, sI_m2b, sI_sub, pk_mul, sI_dec, fk_u_s, fk_u_o, sI_dec0, sI_z, sI_md, Bool.false_eq_true, Nat.reduceAdd, Nat.reduceMul, Nat.reduceSub, Nat.reduceMod, Nat.reduceDiv]
                    exact e3
                  refine ⟨(ab_pr G1 G2 (x + 1), t3), ?_, rfl, s3⟩
                  rw [ab_pr_s, ← i1]
                  by_cases cs : fk_cf (ab_bad G1 G2 (x / 32) (x % 32)) 0 32 = 0
                  · rw [fk_b_t cs] at e30
                    rw [if_pos (show ab_stl G1 G2 (x / 32) (x % 32) from ⟨⟨gA, gB⟩, cs⟩)]
                    try dsimp only
                    rw [if_neg (show ¬ s.1 + 1 = 0 by omega)]
                    by_cases c0 : s.1 = 0
                    · rw [if_pos c0, if_pos c0, c0]
                      simp (disch := first | assumption | omega) only [rX12_chosen, e1, e2, e30, Option.bind_some, Option.toList_some, Option.toList_none, List.cons_append, List.nil_append, fk_b_0, nI_add, Nat.add_zero, Nat.zero_add, not_true_eq_false, not_false_eq_true, if_true, if_false, sI_le_t, sI_le_f, sI_lt_t, sI_lt_f, sI_eq_t, sI_eq_f, sI_rem, sI_div, sI_m1a, sI_m1b, sI_m1c, sI_m1d, sI_m1e, sI_m1f, sI_m2a, sI_m2b, sI_sub, pk_mul, sI_dec, fk_u_s, fk_u_o, sI_dec0, sI_z, sI_md, Bool.false_eq_true, Nat.reduceAdd, Nat.reduceMul, Nat.reduceSub, Nat.reduceMod, Nat.reduceDiv]
                    · rw [if_neg c0, if_neg c0]
                      simp (disch := first | assumption | omega) only [rX12_chosen, e1, e2, e30, Option.bind_some, Option.toList_some, Option.toList_none, List.cons_append, List.nil_append, fk_b_0, nI_add, Nat.add_zero, Nat.zero_add, not_true_eq_false, not_false_eq_true, if_true, if_false, sI_le_t, sI_le_f, sI_lt_t, sI_lt_f, sI_eq_t, sI_eq_f, sI_rem, sI_div, sI_m1a, sI_m1b, sI_m1c, sI_m1d, sI_m1e, sI_m1f, sI_m2a, sI_m2b, sI_sub, pk_mul, sI_dec, fk_u_s, fk_u_o, sI_dec0, sI_z, sI_md, Bool.false_eq_true, Nat.reduceAdd, Nat.reduceMul, Nat.reduceSub, Nat.reduceMod, Nat.reduceDiv]
                  · rw [fk_b_f cs] at e30
                    rw [if_neg (show ¬ ab_stl G1 G2 (x / 32) (x % 32) from fun z => cs z.2)]
                    simp (disch := first | assumption | omega) only [rX12_chosen, e1, e2, e30, Option.bind_some, Option.toList_some, Option.toList_none, List.cons_append, List.nil_append, fk_b_0, nI_add, Nat.add_zero, Nat.zero_add, not_true_eq_false, not_false_eq_true, if_true, if_false, sI_le_t, sI_le_f, sI_lt_t, sI_lt_f, sI_eq_t, sI_eq_f, sI_rem, sI_div, sI_m1a, sI_m1b, sI_m1c, sI_m1d, sI_m1e, sI_m1f, sI_m2a, sI_m2b, sI_sub, pk_mul, sI_dec, fk_u_s, fk_u_o, sI_dec0, sI_z, sI_md, Bool.false_eq_true, Nat.reduceAdd, Nat.reduceMul, Nat.reduceSub, Nat.reduceMod, Nat.reduceDiv]
                · rw [fk_b_f gB] at e2
                  refine ⟨(ab_pr G1 G2 (x + 1), t2), ?_, rfl, s2⟩
                  rw [ab_pr_s, ← i1, if_neg (show ¬ ab_stl G1 G2 (x / 32) (x % 32) from fun z => gB z.1.2)]
                  simp (disch := first | assumption | omega) only [rX12_chosen, e1, e2, Option.bind_some, Option.toList_some, Option.toList_none, List.cons_append, List.nil_append, fk_b_0, nI_add, Nat.add_zero, Nat.zero_add, not_true_eq_false, not_false_eq_true, if_true, if_false, sI_le_t, sI_le_f, sI_lt_t, sI_lt_f, sI_eq_t, sI_eq_f, sI_rem, sI_div, sI_m1a, sI_m1b, sI_m1c, sI_m1d, sI_m1e, sI_m1f, sI_m2a, sI_m2b, sI_sub, pk_mul, sI_dec, fk_u_s, fk_u_o, sI_dec0, sI_z, sI_md, Bool.false_eq_true, Nat.reduceAdd, Nat.reduceMul, Nat.reduceSub, Nat.reduceMod, Nat.reduceDiv]
              · rw [fk_b_f gA] at e1
                refine ⟨(ab_pr G1 G2 (x + 1), t1), ?_, rfl, s1⟩
                rw [ab_pr_s, ← i1, if_neg (show ¬ ab_stl G1 G2 (x / 32) (x % 32) from fun z => gA z.1.1)]
                simp (disch := first | assumption | omega) only [rX12_chosen, e1, Option.bind_some, Option.toList_some, Option.toList_none, List.cons_append, List.nil_append, fk_b_0, nI_add, Nat.add_zero, Nat.zero_add, not_true_eq_false, not_false_eq_true, if_true, if_false, sI_le_t, sI_le_f, sI_lt_t, sI_lt_f, sI_eq_t, sI_eq_f, sI_rem, sI_div, sI_m1a, sI_m1b, sI_m1c, sI_m1d, sI_m1e, sI_m1f, sI_m2a, sI_m2b, sI_sub, pk_mul, sI_dec, fk_u_s, fk_u_o, sI_dec0, sI_z, sI_md, Bool.false_eq_true, Nat.reduceAdd, Nat.reduceMul, Nat.reduceSub, Nat.reduceMod, Nat.reduceDiv]) 1024 0 ((0, 0), y2) rfl ⟨rfl, fk_rs_of⟩
            obtain ⟨⟨⟨m3, m4⟩, y3⟩, eL2, iL2, iL3⟩ := L2
            try dsimp only at eL2 iL2 iL3
            rw [← iL1] at iL2
            obtain ⟨rfl, rfl⟩ := Prod.mk.inj iL2
            have hcR : cR S y3 := by
              have F3 : ∀ k, k ≠ 246 → k ≠ 247 → k ≠ 267 → k ≠ 268 → k ≠ 269 → y3 k = y2 k := iL3.2.2.2.2
              refine cR_q hR (fun k hk => ?_) (fun i hi => ?_) (fun j hj => ?_) (fun i hi => ?_) ?_ fun i hi => ?_
              · rw [F3 k (by omega) (by omega) (by omega) (by omega) (by omega), F2 k (by omega) (by omega) (by omega) (by omega) (by omega) (by omega)]
              · rw [iL3.2.2.2.1 i (by omega), f 246 (by omega)]
              · rw [F3 _ (by omega) (by omega) (by omega) (by omega) (by omega), F2 _ (by omega) (by omega) (by omega) (by omega) (by omega) (by omega)]
                exact r9 j hj
              · rw [F3 235 (by omega) (by omega) (by omega) (by omega) (by omega), F2 235 (by omega) (by omega) (by omega) (by omega) (by omega) (by omega)]
              · exact ck_pr_k c2.1 fun k k1 k2 => F3 k (by omega) (by omega) (by omega) (by omega) (by omega)
              · rw [iL3.1, f 247 (by omega)]
            have E1 : fk_ev (d + 8) qX11_chosen 0 [.ref 1, .int (nI j), .int (nI k), .int (nI w), .null, .null, .null] [] (fk_E N y l) = fk_ev (d + 8) qX11_chosen 179 [.ref 1, .int (nI j), .int (nI k), .int (nI w), .int (nI m3), .int (if m3 = 0 then (-2) else nI m4), .int (nI 1024)] [] (fk_E N y2 l) := by
              have st : fk_ev (d + 8) qX11_chosen 0 [.ref 1, .int (nI j), .int (nI k), .int (nI w), .null, .null, .null] [] (fk_E N y l) = fk_ev (d + 8) qX11_chosen 131 [.ref 1, .int (nI j), .int (nI k), .int (nI w), .int (nI 0), .int (if 0 = 0 then (-2) else nI 0), .int (nI 0)] [] (fk_E N y2 l) := by
                rw [if_pos rfl]
                simp (disch := first | assumption | omega) only [rX11_chosen, ha1, hb1, mX11_within, and_self, nc0, aj, ak, hpl, q2, nI_clamp, mX6_by, e1, e2, Option.bind_some, Option.toList_some, Option.toList_none, List.cons_append, List.nil_append, fk_b_0, nI_add, Nat.add_zero, Nat.zero_add, not_true_eq_false, not_false_eq_true, if_true, if_false, sI_le_t, sI_le_f, sI_lt_t, sI_lt_f, sI_eq_t, sI_eq_f, sI_rem, sI_div, sI_m1a, sI_m1b, sI_m1c, sI_m1d, sI_m1e, sI_m1f, sI_m2a, sI_m2b, sI_sub, pk_mul, sI_dec, fk_u_s, fk_u_o, sI_dec0, sI_z, sI_md, Bool.false_eq_true, Nat.reduceAdd, Nat.reduceMul, Nat.reduceSub, Nat.reduceMod, Nat.reduceDiv]
              rw [st, eL1, hX11_chosen_131]
              simp (disch := first | assumption | omega) only [rX11_chosen, Option.bind_some, Option.toList_some, Option.toList_none, List.cons_append, List.nil_append, fk_b_0, nI_add, Nat.add_zero, Nat.zero_add, not_true_eq_false, not_false_eq_true, if_true, if_false, sI_le_t, sI_le_f, sI_lt_t, sI_lt_f, sI_eq_t, sI_eq_f, sI_rem, sI_div, sI_m1a, sI_m1b, sI_m1c, sI_m1d, sI_m1e, sI_m1f, sI_m2a, sI_m2b, sI_sub, pk_mul, sI_dec, fk_u_s, fk_u_o, sI_dec0, sI_z, sI_md, Bool.false_eq_true, Nat.reduceAdd, Nat.reduceMul, Nat.reduceSub, Nat.reduceMod, Nat.reduceDiv]
            have E2 : fk_ev (d + 8) qX12_chosen 0 [.ref 246, .int (nI j), .int (nI k), .int (nI w), .null, .null, .null] [] (fk_E N y2 l) = fk_ev (d + 8) qX12_chosen 147 [.ref 246, .int (nI j), .int (nI k), .int (nI w), .int (nI m3), .int (if m3 = 0 then (-1) else nI m4), .int (nI 1024)] [] (fk_E N y3 l) := by
              have i1 := mX12_isAtN (N := N) (l := l) (d := d + 5) (y := y2) hn hm2 hj
              rw [f 247 (by omega), fk_b_t j3] at i1
              have i2 := mX12_isAtN (N := N) (l := l) (d := d + 5) (y := y2) hn hm2 hk
              rw [f 247 (by omega), fk_b_t k3] at i2
              have e0 : y2 247 (320 + j) = y2 247 (320 + k) := by rw [f 247 (by omega)]; exact hpl
              have st : fk_ev (d + 8) qX12_chosen 0 [.ref 246, .int (nI j), .int (nI k), .int (nI w), .null, .null, .null] [] (fk_E N y2 l) = fk_ev (d + 8) qX12_chosen 64 [.ref 246, .int (nI j), .int (nI k), .int (nI w), .int (nI 0), .int (if 0 = 0 then (-1) else nI 0), .int (nI 0)] [] (fk_E N y2 l) := by
                rw [if_pos rfl]
                have wle : nI 0 ≤ nI w ∧ nI w ≤ nI 2 := ⟨nI_le (by omega) (by omega), nI_le (by omega) (by omega)⟩
                simp (disch := first | assumption | omega) only [rX12_chosen, i1, i2, e0, mX12_in, and_self, Option.bind_some, Option.toList_some, Option.toList_none, List.cons_append, List.nil_append, fk_b_0, nI_add, Nat.add_zero, Nat.zero_add, not_true_eq_false, not_false_eq_true, if_true, if_false, sI_le_t, sI_le_f, sI_lt_t, sI_lt_f, sI_eq_t, sI_eq_f, sI_rem, sI_div, sI_m1a, sI_m1b, sI_m1c, sI_m1d, sI_m1e, sI_m1f, sI_m2a, sI_m2b, sI_sub, pk_mul, sI_dec, fk_u_s, fk_u_o, sI_dec0, sI_z, sI_md, Bool.false_eq_true, Nat.reduceAdd, Nat.reduceMul, Nat.reduceSub, Nat.reduceMod, Nat.reduceDiv]
              rw [st, eL2, hX12_chosen_64]
              simp (disch := first | assumption | omega) only [rX12_chosen, Option.bind_some, Option.toList_some, Option.toList_none, List.cons_append, List.nil_append, fk_b_0, nI_add, Nat.add_zero, Nat.zero_add, not_true_eq_false, not_false_eq_true, if_true, if_false, sI_le_t, sI_le_f, sI_lt_t, sI_lt_f, sI_eq_t, sI_eq_f, sI_rem, sI_div, sI_m1a, sI_m1b, sI_m1c, sI_m1d, sI_m1e, sI_m1f, sI_m2a, sI_m2b, sI_sub, pk_mul, sI_dec, fk_u_s, fk_u_o, sI_dec0, sI_z, sI_md, Bool.false_eq_true, Nat.reduceAdd, Nat.reduceMul, Nat.reduceSub, Nat.reduceMod, Nat.reduceDiv]
            have hh : w = 0 ∨ w = 1 ∨ w = 2 := by omega
            by_cases c0 : m3 = 0
            · rw [if_pos c0] at E1 E2
              rcases hh with rfl | rfl | rfl
              · refine ⟨nI 0, y2, y3, ?_, ?_, hcR⟩
                · rw [E1, c0]
                  simp (disch := first | assumption | omega) only [rX11_chosen, Option.bind_some, Option.toList_some, Option.toList_none, List.cons_append, List.nil_append, fk_b_0, nI_add, Nat.add_zero, Nat.zero_add, not_true_eq_false, not_false_eq_true, if_true, if_false, sI_le_t, sI_le_f, sI_lt_t, sI_lt_f, sI_eq_t, sI_eq_f, sI_rem, sI_div, sI_m1a, sI_m1b, sI_m1c, sI_m1d, sI_m1e, sI_m1f, sI_m2a, sI_m2b, sI_sub, pk_mul, sI_dec, fk_u_s, fk_u_o, sI_dec0, sI_z, sI_md, Bool.false_eq_true, Nat.reduceAdd, Nat.reduceMul, Nat.reduceSub, Nat.reduceMod, Nat.reduceDiv]
                · rw [E2, c0]
                  simp (disch := first | assumption | omega) only [rX12_chosen, Option.bind_some, Option.toList_some, Option.toList_none, List.cons_append, List.nil_append, fk_b_0, nI_add, Nat.add_zero, Nat.zero_add, not_true_eq_false, not_false_eq_true, if_true, if_false, sI_le_t, sI_le_f, sI_lt_t, sI_lt_f, sI_eq_t, sI_eq_f, sI_rem, sI_div, sI_m1a, sI_m1b, sI_m1c, sI_m1d, sI_m1e, sI_m1f, sI_m2a, sI_m2b, sI_sub, pk_mul, sI_dec, fk_u_s, fk_u_o, sI_dec0, sI_z, sI_md, Bool.false_eq_true, Nat.reduceAdd, Nat.reduceMul, Nat.reduceSub, Nat.reduceMod, Nat.reduceDiv]
              · refine ⟨(-2), y2, y3, ?_, ?_, hcR⟩
                · rw [E1, c0]
                  simp (disch := first | assumption | omega) only [rX11_chosen, Option.bind_some, Option.toList_some, Option.toList_none, List.cons_append, List.nil_append, fk_b_0, nI_add, Nat.add_zero, Nat.zero_add, not_true_eq_false, not_false_eq_true, if_true, if_false, sI_le_t, sI_le_f, sI_lt_t, sI_lt_f, sI_eq_t, sI_eq_f, sI_rem, sI_div, sI_m1a, sI_m1b, sI_m1c, sI_m1d, sI_m1e, sI_m1f, sI_m2a, sI_m2b, sI_sub, pk_mul, sI_dec, fk_u_s, fk_u_o, sI_dec0, sI_z, sI_md, Bool.false_eq_true, Nat.reduceAdd, Nat.reduceMul, Nat.reduceSub, Nat.reduceMod, Nat.reduceDiv]
                · rw [E2, c0]
                  simp (disch := first | assumption | omega) only [rX12_chosen, Option.bind_some, Option.toList_some, Option.toList_none, List.cons_append, List.nil_append, fk_b_0, nI_add, Nat.add_zero, Nat.zero_add, not_true_eq_false, not_false_eq_true, if_true, if_false, sI_le_t, sI_le_f, sI_lt_t, sI_lt_f, sI_eq_t, sI_eq_f, sI_rem, sI_div, sI_m1a, sI_m1b, sI_m1c, sI_m1d, sI_m1e, sI_m1f, sI_m2a, sI_m2b, sI_sub, pk_mul, sI_dec, fk_u_s, fk_u_o, sI_dec0, sI_z, sI_md, Bool.false_eq_true, Nat.reduceAdd, Nat.reduceMul, Nat.reduceSub, Nat.reduceMod, Nat.reduceDiv]
              · refine ⟨(-2), y2, y3, ?_, ?_, hcR⟩
                · rw [E1, c0]
                  simp (disch := first | assumption | omega) only [rX11_chosen, Option.bind_some, Option.toList_some, Option.toList_none, List.cons_append, List.nil_append, fk_b_0, nI_add, Nat.add_zero, Nat.zero_add, not_true_eq_false, not_false_eq_true, if_true, if_false, sI_le_t, sI_le_f, sI_lt_t, sI_lt_f, sI_eq_t, sI_eq_f, sI_rem, sI_div, sI_m1a, sI_m1b, sI_m1c, sI_m1d, sI_m1e, sI_m1f, sI_m2a, sI_m2b, sI_sub, pk_mul, sI_dec, fk_u_s, fk_u_o, sI_dec0, sI_z, sI_md, Bool.false_eq_true, Nat.reduceAdd, Nat.reduceMul, Nat.reduceSub, Nat.reduceMod, Nat.reduceDiv]
                · rw [E2, c0]
                  simp (disch := first | assumption | omega) only [rX12_chosen, Option.bind_some, Option.toList_some, Option.toList_none, List.cons_append, List.nil_append, fk_b_0, nI_add, Nat.add_zero, Nat.zero_add, not_true_eq_false, not_false_eq_true, if_true, if_false, sI_le_t, sI_le_f, sI_lt_t, sI_lt_f, sI_eq_t, sI_eq_f, sI_rem, sI_div, sI_m1a, sI_m1b, sI_m1c, sI_m1d, sI_m1e, sI_m1f, sI_m2a, sI_m2b, sI_sub, pk_mul, sI_dec, fk_u_s, fk_u_o, sI_dec0, sI_z, sI_md, Bool.false_eq_true, Nat.reduceAdd, Nat.reduceMul, Nat.reduceSub, Nat.reduceMod, Nat.reduceDiv]
            · rw [if_neg c0] at E1 E2
              rcases hh with rfl | rfl | rfl
              · refine ⟨nI m3, y2, y3, ?_, ?_, hcR⟩
                · rw [E1]
                  simp (disch := first | assumption | omega) only [rX11_chosen, Option.bind_some, Option.toList_some, Option.toList_none, List.cons_append, List.nil_append, fk_b_0, nI_add, Nat.add_zero, Nat.zero_add, not_true_eq_false, not_false_eq_true, if_true, if_false, sI_le_t, sI_le_f, sI_lt_t, sI_lt_f, sI_eq_t, sI_eq_f, sI_rem, sI_div, sI_m1a, sI_m1b, sI_m1c, sI_m1d, sI_m1e, sI_m1f, sI_m2a, sI_m2b, sI_sub, pk_mul, sI_dec, fk_u_s, fk_u_o, sI_dec0, sI_z, sI_md, Bool.false_eq_true, Nat.reduceAdd, Nat.reduceMul, Nat.reduceSub, Nat.reduceMod, Nat.reduceDiv]
                · rw [E2]
                  simp (disch := first | assumption | omega) only [rX12_chosen, Option.bind_some, Option.toList_some, Option.toList_none, List.cons_append, List.nil_append, fk_b_0, nI_add, Nat.add_zero, Nat.zero_add, not_true_eq_false, not_false_eq_true, if_true, if_false, sI_le_t, sI_le_f, sI_lt_t, sI_lt_f, sI_eq_t, sI_eq_f, sI_rem, sI_div, sI_m1a, sI_m1b, sI_m1c, sI_m1d, sI_m1e, sI_m1f, sI_m2a, sI_m2b, sI_sub, pk_mul, sI_dec, fk_u_s, fk_u_o, sI_dec0, sI_z, sI_md, Bool.false_eq_true, Nat.reduceAdd, Nat.reduceMul, Nat.reduceSub, Nat.reduceMod, Nat.reduceDiv]
              · refine ⟨nI (m4 / 32), y2, y3, ?_, ?_, hcR⟩
                · rw [E1]
                  simp (disch := first | assumption | omega) only [rX11_chosen, Option.bind_some, Option.toList_some, Option.toList_none, List.cons_append, List.nil_append, fk_b_0, nI_add, Nat.add_zero, Nat.zero_add, not_true_eq_false, not_false_eq_true, if_true, if_false, sI_le_t, sI_le_f, sI_lt_t, sI_lt_f, sI_eq_t, sI_eq_f, sI_rem, sI_div, sI_m1a, sI_m1b, sI_m1c, sI_m1d, sI_m1e, sI_m1f, sI_m2a, sI_m2b, sI_sub, pk_mul, sI_dec, fk_u_s, fk_u_o, sI_dec0, sI_z, sI_md, Bool.false_eq_true, Nat.reduceAdd, Nat.reduceMul, Nat.reduceSub, Nat.reduceMod, Nat.reduceDiv]
                · rw [E2]
                  simp (disch := first | assumption | omega) only [rX12_chosen, Option.bind_some, Option.toList_some, Option.toList_none, List.cons_append, List.nil_append, fk_b_0, nI_add, Nat.add_zero, Nat.zero_add, not_true_eq_false, not_false_eq_true, if_true, if_false, sI_le_t, sI_le_f, sI_lt_t, sI_lt_f, sI_eq_t, sI_eq_f, sI_rem, sI_div, sI_m1a, sI_m1b, sI_m1c, sI_m1d, sI_m1e, sI_m1f, sI_m2a, sI_m2b, sI_sub, pk_mul, sI_dec, fk_u_s, fk_u_o, sI_dec0, sI_z, sI_md, Bool.false_eq_true, Nat.reduceAdd, Nat.reduceMul, Nat.reduceSub, Nat.reduceMod, Nat.reduceDiv]
              · refine ⟨nI (m4 % 32), y2, y3, ?_, ?_, hcR⟩
                · rw [E1]
                  simp (disch := first | assumption | omega) only [rX11_chosen, Option.bind_some, Option.toList_some, Option.toList_none, List.cons_append, List.nil_append, fk_b_0, nI_add, Nat.add_zero, Nat.zero_add, not_true_eq_false, not_false_eq_true, if_true, if_false, sI_le_t, sI_le_f, sI_lt_t, sI_lt_f, sI_eq_t, sI_eq_f, sI_rem, sI_div, sI_m1a, sI_m1b, sI_m1c, sI_m1d, sI_m1e, sI_m1f, sI_m2a, sI_m2b, sI_sub, pk_mul, sI_dec, fk_u_s, fk_u_o, sI_dec0, sI_z, sI_md, Bool.false_eq_true, Nat.reduceAdd, Nat.reduceMul, Nat.reduceSub, Nat.reduceMod, Nat.reduceDiv]
                · rw [E2]
                  simp (disch := first | assumption | omega) only [rX12_chosen, Option.bind_some, Option.toList_some, Option.toList_none, List.cons_append, List.nil_append, fk_b_0, nI_add, Nat.add_zero, Nat.zero_add, not_true_eq_false, not_false_eq_true, if_true, if_false, sI_le_t, sI_le_f, sI_lt_t, sI_lt_f, sI_eq_t, sI_eq_f, sI_rem, sI_div, sI_m1a, sI_m1b, sI_m1c, sI_m1d, sI_m1e, sI_m1f, sI_m2a, sI_m2b, sI_sub, pk_mul, sI_dec, fk_u_s, fk_u_o, sI_dec0, sI_z, sI_md, Bool.false_eq_true, Nat.reduceAdd, Nat.reduceMul, Nat.reduceSub, Nat.reduceMod, Nat.reduceDiv]
          · refine ⟨(-1), y, y, ?_, ?_, hR⟩
            · simp (disch := first | assumption | omega) only [rX11_chosen, ha1, hb1, mX11_within, and_self, nc0, aj, ak, hpl, Option.bind_some, Option.toList_some, Option.toList_none, List.cons_append, List.nil_append, fk_b_0, nI_add, Nat.add_zero, Nat.zero_add, not_true_eq_false, not_false_eq_true, if_true, if_false, sI_le_t, sI_le_f, sI_lt_t, sI_lt_f, sI_eq_t, sI_eq_f, sI_rem, sI_div, sI_m1a, sI_m1b, sI_m1c, sI_m1d, sI_m1e, sI_m1f, sI_m2a, sI_m2b, sI_sub, pk_mul, sI_dec, fk_u_s, fk_u_o, sI_dec0, sI_z, sI_md, Bool.false_eq_true, Nat.reduceAdd, Nat.reduceMul, Nat.reduceSub, Nat.reduceMod, Nat.reduceDiv]
            · simp (disch := first | assumption | omega) only [rX12_chosen, ha2, hb2, hpl, Option.bind_some, Option.toList_some, Option.toList_none, List.cons_append, List.nil_append, fk_b_0, nI_add, Nat.add_zero, Nat.zero_add, not_true_eq_false, not_false_eq_true, if_true, if_false, sI_le_t, sI_le_f, sI_lt_t, sI_lt_f, sI_eq_t, sI_eq_f, sI_rem, sI_div, sI_m1a, sI_m1b, sI_m1c, sI_m1d, sI_m1e, sI_m1f, sI_m2a, sI_m2b, sI_sub, pk_mul, sI_dec, fk_u_s, fk_u_o, sI_dec0, sI_z, sI_md, Bool.false_eq_true, Nat.reduceAdd, Nat.reduceMul, Nat.reduceSub, Nat.reduceMod, Nat.reduceDiv]
        · refine ⟨(-1), y, y, ?_, ?_, hR⟩
          · simp (disch := first | assumption | omega) only [rX11_chosen, ha1, hb1, mX11_within, w1, Option.bind_some, Option.toList_some, Option.toList_none, List.cons_append, List.nil_append, fk_b_0, nI_add, Nat.add_zero, Nat.zero_add, not_true_eq_false, not_false_eq_true, if_true, if_false, sI_le_t, sI_le_f, sI_lt_t, sI_lt_f, sI_eq_t, sI_eq_f, sI_rem, sI_div, sI_m1a, sI_m1b, sI_m1c, sI_m1d, sI_m1e, sI_m1f, sI_m2a, sI_m2b, sI_sub, pk_mul, sI_dec, fk_u_s, fk_u_o, sI_dec0, sI_z, sI_md, Bool.false_eq_true, Nat.reduceAdd, Nat.reduceMul, Nat.reduceSub, Nat.reduceMod, Nat.reduceDiv]
          · by_cases hpl : y 247 (320 + j) = y 247 (320 + k)
            · simp (disch := first | assumption | omega) only [rX12_chosen, ha2, hb2, hpl, mX12_in, w2, Option.bind_some, Option.toList_some, Option.toList_none, List.cons_append, List.nil_append, fk_b_0, nI_add, Nat.add_zero, Nat.zero_add, not_true_eq_false, not_false_eq_true, if_true, if_false, sI_le_t, sI_le_f, sI_lt_t, sI_lt_f, sI_eq_t, sI_eq_f, sI_rem, sI_div, sI_m1a, sI_m1b, sI_m1c, sI_m1d, sI_m1e, sI_m1f, sI_m2a, sI_m2b, sI_sub, pk_mul, sI_dec, fk_u_s, fk_u_o, sI_dec0, sI_z, sI_md, Bool.false_eq_true, Nat.reduceAdd, Nat.reduceMul, Nat.reduceSub, Nat.reduceMod, Nat.reduceDiv]
            · simp (disch := first | assumption | omega) only [rX12_chosen, ha2, hb2, hpl, Option.bind_some, Option.toList_some, Option.toList_none, List.cons_append, List.nil_append, fk_b_0, nI_add, Nat.add_zero, Nat.zero_add, not_true_eq_false, not_false_eq_true, if_true, if_false, sI_le_t, sI_le_f, sI_lt_t, sI_lt_f, sI_eq_t, sI_eq_f, sI_rem, sI_div, sI_m1a, sI_m1b, sI_m1c, sI_m1d, sI_m1e, sI_m1f, sI_m2a, sI_m2b, sI_sub, pk_mul, sI_dec, fk_u_s, fk_u_o, sI_dec0, sI_z, sI_md, Bool.false_eq_true, Nat.reduceAdd, Nat.reduceMul, Nat.reduceSub, Nat.reduceMod, Nat.reduceDiv]
    · rw [fk_b_f hk] at hb1 hb2
      refine ⟨(-1), y, y, ?_, ?_, hR⟩
      · simp (disch := first | assumption | omega) only [rX11_chosen, ha1, hb1, Option.bind_some, Option.toList_some, Option.toList_none, List.cons_append, List.nil_append, fk_b_0, nI_add, Nat.add_zero, Nat.zero_add, not_true_eq_false, not_false_eq_true, if_true, if_false, sI_le_t, sI_le_f, sI_lt_t, sI_lt_f, sI_eq_t, sI_eq_f, sI_rem, sI_div, sI_m1a, sI_m1b, sI_m1c, sI_m1d, sI_m1e, sI_m1f, sI_m2a, sI_m2b, sI_sub, pk_mul, sI_dec, fk_u_s, fk_u_o, sI_dec0, sI_z, sI_md, Bool.false_eq_true, Nat.reduceAdd, Nat.reduceMul, Nat.reduceSub, Nat.reduceMod, Nat.reduceDiv]
      · simp (disch := first | assumption | omega) only [rX12_chosen, ha2, hb2, Option.bind_some, Option.toList_some, Option.toList_none, List.cons_append, List.nil_append, fk_b_0, nI_add, Nat.add_zero, Nat.zero_add, not_true_eq_false, not_false_eq_true, if_true, if_false, sI_le_t, sI_le_f, sI_lt_t, sI_lt_f, sI_eq_t, sI_eq_f, sI_rem, sI_div, sI_m1a, sI_m1b, sI_m1c, sI_m1d, sI_m1e, sI_m1f, sI_m2a, sI_m2b, sI_sub, pk_mul, sI_dec, fk_u_s, fk_u_o, sI_dec0, sI_z, sI_md, Bool.false_eq_true, Nat.reduceAdd, Nat.reduceMul, Nat.reduceSub, Nat.reduceMod, Nat.reduceDiv]
  · rw [fk_b_f hj] at ha1 ha2
    refine ⟨(-1), y, y, ?_, ?_, hR⟩
    · simp (disch := first | assumption | omega) only [rX11_chosen, ha1, Option.bind_some, Option.toList_some, Option.toList_none, List.cons_append, List.nil_append, fk_b_0, nI_add, Nat.add_zero, Nat.zero_add, not_true_eq_false, not_false_eq_true, if_true, if_false, sI_le_t, sI_le_f, sI_lt_t, sI_lt_f, sI_eq_t, sI_eq_f, sI_rem, sI_div, sI_m1a, sI_m1b, sI_m1c, sI_m1d, sI_m1e, sI_m1f, sI_m2a, sI_m2b, sI_sub, pk_mul, sI_dec, fk_u_s, fk_u_o, sI_dec0, sI_z, sI_md, Bool.false_eq_true, Nat.reduceAdd, Nat.reduceMul, Nat.reduceSub, Nat.reduceMod, Nat.reduceDiv]
    · simp (disch := first | assumption | omega) only [rX12_chosen, ha2, Option.bind_some, Option.toList_some, Option.toList_none, List.cons_append, List.nil_append, fk_b_0, nI_add, Nat.add_zero, Nat.zero_add, not_true_eq_false, not_false_eq_true, if_true, if_false, sI_le_t, sI_le_f, sI_lt_t, sI_lt_f, sI_eq_t, sI_eq_f, sI_rem, sI_div, sI_m1a, sI_m1b, sI_m1c, sI_m1d, sI_m1e, sI_m1f, sI_m2a, sI_m2b, sI_sub, pk_mul, sI_dec, fk_u_s, fk_u_o, sI_dec0, sI_z, sI_md, Bool.false_eq_true, Nat.reduceAdd, Nat.reduceMul, Nat.reduceSub, Nat.reduceMod, Nat.reduceDiv]
end CHO
