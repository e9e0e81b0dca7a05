section JO2
variable {N : Nat} {S : Nat → Int32} {v y y0 y1 y2 z : Nat → Nat → Int32} {l : Nat → Nat → Int64} {d n H t c k m : Nat} {T A : Nat → Int32} {W : Int32 → (Nat → Int32) → Int32}
theorem mX12_k_in (HW : fk_LR W v) (hv : ∀ c, 262 ≤ c → c ≤ 266 → y c = v c) (h19 : y 246 19 = v 246 19) (h1 : y 247 = A) (hn : n ≤ 64) (hm : A 833 = nI n) {w o e b : Nat} {both kn so es is oo kk : Int32} (he : e < 64) (hw : w < 64) (ho : o < 64) (hb : b = if w < o then o else w) : ∃ yy, fk_ev (d + 4) qX12_knownBy 144 [.ref 246, .int (nI w), .int kn, .int so, .int kk, .int (nI o), .int is, .int oo, .int es, .int both, .int (nI 0), .int (nI 0)] [] (fk_E N (fk_feel y e n) l) = fk_ev (d + 4) qX12_knownBy 144 [.ref 246, .int (nI w), .int kn, .int so, .int kk, .int (nI o), .int is, .int oo, .int es, .int both, .int (ab_fg W A both e b), .int (nI 16)] [] (fk_E N yy l) ∧ ∀ c, c ≠ 267 → c ≠ 268 → yy c = y c := by
  have hm' : y 247 833 = nI n := by rw [h1]; exact hm
  have emx : ∀ h : fk_H, fk_ev (d + 3) qX12_max 0 [.int (nI w), .int (nI o)] [] h = some (some (.int (nI b)), h) := fun h => by
    rw [mX12_max, hb]
    by_cases q : w < o
    · rw [if_pos q, if_neg (Int32.not_lt.mpr (Int32.le_of_lt (nI_lt q (by omega))))]
    · rw [if_neg q]
      by_cases q2 : o < w
      · rw [if_pos (nI_lt q2 (by omega))]
      · rw [show o = w by omega, if_neg (Int32.lt_irrefl)]
  have key := fk_loopr (σ := Int32 × (Nat → Nat → Int32)) (fun k t => fk_ev (d + 4) qX12_knownBy 144 [.ref 246, .int (nI w), .int kn, .int so, .int kk, .int (nI o), .int is, .int oo, .int es, .int both, .int t.1, .int (nI k)] [] (fk_E N t.2 l)) (fun k t => t.1 = fk_it (fun f s1 => if fk_tb both f = true ∧ W (nI 101) (ab_ff A e b f) = nI 0 then s1 ||| nI 1 <<< (nI f &&& 31) else s1) 0 k (nI 0) ∧ (∀ c, c ≠ 267 → c ≠ 268 → t.2 c = y c) ∧ (∀ i, i < 12 → t.2 268 i = ab_fe A e i)) 16 (by
    rintro k ⟨fg, yy⟩ hk ⟨i1, i2, i3⟩
    try dsimp only at i1 i2 i3 ⊢
    rw [hX12_knownBy_144]
    by_cases x1 : fk_tb both k = true
    · obtain ⟨y', e2, k2⟩ := HW.2.2 N d (fk_u (fk_u yy 268 12 (nI k)) 268 13 (nI b)) l (by
        intro c c1 c2
        rw [fk_u_rowo (by omega), fk_u_rowo (by omega), i2 c (by omega) (by omega), hv c c1 c2]) (by
        rw [fk_u_o (by omega), fk_u_o (by omega), i2 246 (by omega) (by omega), h19])
      have eW : W (nI 101) (fk_u (fk_u yy 268 12 (nI k)) 268 13 (nI b) 268) = W (nI 101) (ab_ff A e b k) := by
        refine HW.1 _ _ _ fun i hi => ?_
        unfold ab_ff
        by_cases k12 : i = 12
        · subst k12; simp [fk_u]
        · by_cases k13 : i = 13
          · subst k13; simp [fk_u]
          · rw [fk_u_o (by omega), fk_u_o (by omega), if_neg k12, if_neg k13, i3 i (by omega)]
      rw [eW] at e2
      have kk : ∀ c, c ≠ 267 → c ≠ 268 → y' c = y c := fun c c1 c2 => by rw [k2 c c1, fk_u_rowo c2, fk_u_rowo c2, i2 c c1 c2]
      have k3 : ∀ i, i < 12 → y' 268 i = ab_fe A e i := fun i hi => by rw [k2 268 (by decide), fk_u_o (by omega), fk_u_o (by omega), i3 i hi]
      by_cases x2 : W (nI 101) (ab_ff A e b k) = nI 0
      · refine ⟨(fg ||| nI 1 <<< (nI k &&& 31), y'), ?_, ?_, kk, k3⟩
        · rw [x2] at e2
          simp (disch := first | assumption | omega) only [rX12_knownBy, mX12_has, fk_has1, x1, emx, e2, not_true_eq_false, not_false_eq_true, eq_self, Option.bind_some, Option.toList_some, Option.toList_none, List.cons_append, List.nil_append, fk_b_0, nI_add, Nat.add_zero, Nat.zero_add, not_true_eq_false, not_false_eq_true, if_true, if_false, sI_le_t, sI_le_f, sI_lt_t, sI_lt_f, sI_eq_t, sI_eq_f, sI_rem, sI_div, sI_m1a, sI_m1b, sI_m1c, sI_m1d, sI_m1e, sI_m1f, sI_m2a, sI_m2b, sI_sub, pk_mul, sI_dec, fk_u_s, fk_u_o, sI_dec0, sI_z, sI_md, Bool.false_eq_true, Nat.reduceAdd, Nat.reduceMul, Nat.reduceSub, Nat.reduceMod, Nat.reduceDiv]
        · rw [fk_it_succ, ← i1, Nat.zero_add, if_pos ⟨x1, x2⟩]
      · refine ⟨(fg, y'), ?_, ?_, kk, k3⟩
        · simp (disch := first | assumption | omega) only [rX12_knownBy, mX12_has, fk_has1, x1, emx, e2, x2, not_true_eq_false, not_false_eq_true, Option.bind_some, Option.toList_some, Option.toList_none, List.cons_append, List.nil_append, fk_b_0, nI_add, Nat.add_zero, Nat.zero_add, not_true_eq_false, not_false_eq_true, if_true, if_false, sI_le_t, sI_le_f, sI_lt_t, sI_lt_f, sI_eq_t, sI_eq_f, sI_rem, sI_div, sI_m1a, sI_m1b, sI_m1c, sI_m1d, sI_m1e, sI_m1f, sI_m2a, sI_m2b, sI_sub, pk_mul, sI_dec, fk_u_s, fk_u_o, sI_dec0, sI_z, sI_md, Bool.false_eq_true, Nat.reduceAdd, Nat.reduceMul, Nat.reduceSub, Nat.reduceMod, Nat.reduceDiv]
        · rw [fk_it_succ, ← i1, Nat.zero_add, if_neg fun z => x2 z.2]
    · refine ⟨(fg, yy), ?_, ?_, i2, i3⟩
      · simp (disch := first | assumption | omega) only [rX12_knownBy, mX12_has, fk_has1, x1, Option.bind_some, Option.toList_some, Option.toList_none, List.cons_append, List.nil_append, fk_b_0, nI_add, Nat.add_zero, Nat.zero_add, not_true_eq_false, not_false_eq_true, if_true, if_false, sI_le_t, sI_le_f, sI_lt_t, sI_lt_f, sI_eq_t, sI_eq_f, sI_rem, sI_div, sI_m1a, sI_m1b, sI_m1c, sI_m1d, sI_m1e, sI_m1f, sI_m2a, sI_m2b, sI_sub, pk_mul, sI_dec, fk_u_s, fk_u_o, sI_dec0, sI_z, sI_md, Bool.false_eq_true, Nat.reduceAdd, Nat.reduceMul, Nat.reduceSub, Nat.reduceMod, Nat.reduceDiv]
      · rw [fk_it_succ, ← i1, Nat.zero_add, if_neg fun z => x1 z.1]) 16 0 (nI 0, fk_feel y e n) rfl ⟨rfl, fun c c1 c2 => funext fun i => fk_feel_o c2, fun i hi => by show fk_feel y e n 268 i = _; rw [fk_feel_f hn hm' (by omega), h1]⟩
  obtain ⟨⟨fg, yy⟩, e', i1, i2, i3⟩ := key
  try dsimp only at e' i1 i2 i3
  rw [show fg = ab_fg W A both e b from i1] at e'
  exact ⟨yy, e', i2⟩
theorem mX12_k1 (HW : fk_LR W v) (hv : ∀ c, 262 ≤ c → c ≤ 266 → y c = v c) (h19 : y 246 19 = v 246 19) (h1 : y 247 = A) (hn : n ≤ 64) (hm : A 833 = nI n) {w o i q : Nat} {kn so : Int32} (hm5 : m ≤ 5) (hi : i < m) (hw : w < 64) (ho1 : o < 64) (hq : q < 5) (w272 : y 272 i = nI q) (w271 : y 271 q = nI o) (w44 : y 246 44 = nI m) {x1 x2 x3 x4 x5 x6 x7 : Value} : ∃ y' x1' x2' x3' x4' x5' x6' x7', fk_ev (d + 4) qX12_knownBy 37 [.ref 246, .int (nI w), .int kn, .int so, .int (nI i), x1, x2, x3, x4, x5, x6, x7] [] (fk_E N y l) = fk_ev (d + 4) qX12_knownBy 37 [.ref 246, .int (nI (ab_j1 W A (w, kn, so) o).1), .int (ab_j1 W A (w, kn, so) o).2.1, .int (ab_j1 W A (w, kn, so) o).2.2, .int (nI (i + 1)), x1', x2', x3', x4', x5', x6', x7'] [] (fk_E N y' l) ∧ ∀ c, c ≠ 267 → c ≠ 268 → y' c = y c := by
  have hm' : y 247 833 = nI n := by rw [h1]; exact hm
  by_cases c1 : w < o
  · obtain ⟨yy, e, f⟩ := mX12_k_in (N := N) (l := l) (d := d) (e := w) (b := o) (w := w) (o := o) (both := kn &&& A (704 + o) &&& (so ^^^ A (768 + o))) (kn := kn) (so := so) (es := so) (is := nI 1) (oo := nI w) (kk := nI i) HW hv h19 h1 hn hm hw hw ho1 (by rw [if_pos c1])
    have z7 : yy 247 = A := by rw [f 247 (by omega) (by omega)]; exact h1
    refine ⟨yy, .int (nI o), .int (nI 1), .int (nI w), .int so, .int (kn &&& A (704 + o) &&& (so ^^^ A (768 + o))), .int (ab_fg W A (kn &&& A (704 + o) &&& (so ^^^ A (768 + o))) w o), .int (nI 16), ?_, f⟩
    have j1 : ab_j1 W A (w, kn, so) o = (w, (kn ||| A (704 + o)) &&& (ab_fg W A (kn &&& A (704 + o) &&& (so ^^^ A (768 + o))) w o ^^^ (-1)), ((so &&& kn ||| A (768 + o) &&& A (704 + o)) &&& (kn &&& A (704 + o) &&& (so ^^^ A (768 + o)) ^^^ (-1)) ||| so &&& (kn &&& A (704 + o) &&& (so ^^^ A (768 + o)))) &&& (ab_fg W A (kn &&& A (704 + o) &&& (so ^^^ A (768 + o))) w o ^^^ (-1))) := by
      unfold ab_j1
      rw [show ab_je (w, kn, so) o = w from if_pos c1, show ab_jx (w, kn, so) o = o from if_pos c1, if_pos (show (w, kn, so).1 < o from c1)]
    rw [j1, hX12_knownBy_37]
    try dsimp only
    simp (disch := first | assumption | omega) only [rX12_knownBy, w44, w272, w271, mX12_min, h1, mX12_feels hw hn hm', Option.bind_some, Option.toList_some, Option.toList_none, List.cons_append, List.nil_append, fk_b_0, nI_add, Nat.add_zero, Nat.zero_add, not_true_eq_false, not_false_eq_true, if_true, if_false, sI_le_t, sI_le_f, sI_lt_t, sI_lt_f, sI_eq_t, sI_eq_f, sI_rem, sI_div, sI_m1a, sI_m1b, sI_m1c, sI_m1d, sI_m1e, sI_m1f, sI_m2a, sI_m2b, sI_sub, pk_mul, sI_dec, fk_u_s, fk_u_o, sI_dec0, sI_z, sI_md, Bool.false_eq_true, Nat.reduceAdd, Nat.reduceMul, Nat.reduceSub, Nat.reduceMod, Nat.reduceDiv]
    rw [e, hX12_knownBy_144]
    simp (disch := first | assumption | omega) only [rX12_knownBy, z7, Option.bind_some, Option.toList_some, Option.toList_none, List.cons_append, List.nil_append, fk_b_0, nI_add, Nat.add_zero, Nat.zero_add, not_true_eq_false, not_false_eq_true, if_true, if_false, sI_le_t, sI_le_f, sI_lt_t, sI_lt_f, sI_eq_t, sI_eq_f, sI_rem, sI_div, sI_m1a, sI_m1b, sI_m1c, sI_m1d, sI_m1e, sI_m1f, sI_m2a, sI_m2b, sI_sub, pk_mul, sI_dec, fk_u_s, fk_u_o, sI_dec0, sI_z, sI_md, Bool.false_eq_true, Nat.reduceAdd, Nat.reduceMul, Nat.reduceSub, Nat.reduceMod, Nat.reduceDiv]
  · obtain ⟨yy, e, f⟩ := mX12_k_in (N := N) (l := l) (d := d) (e := o) (b := w) (w := w) (o := o) (both := kn &&& A (704 + o) &&& (so ^^^ A (768 + o))) (kn := kn) (so := so) (es := A (768 + o)) (is := nI 0) (oo := nI o) (kk := nI i) HW hv h19 h1 hn hm ho1 hw ho1 (by rw [if_neg c1])
    have z7 : yy 247 = A := by rw [f 247 (by omega) (by omega)]; exact h1
    refine ⟨yy, .int (nI o), .int (nI 0), .int (nI o), .int (A (768 + o)), .int (kn &&& A (704 + o) &&& (so ^^^ A (768 + o))), .int (ab_fg W A (kn &&& A (704 + o) &&& (so ^^^ A (768 + o))) o w), .int (nI 16), ?_, f⟩
    have j1 : ab_j1 W A (w, kn, so) o = (o, (kn ||| A (704 + o)) &&& (ab_fg W A (kn &&& A (704 + o) &&& (so ^^^ A (768 + o))) o w ^^^ (-1)), ((so &&& kn ||| A (768 + o) &&& A (704 + o)) &&& (kn &&& A (704 + o) &&& (so ^^^ A (768 + o)) ^^^ (-1)) ||| A (768 + o) &&& (kn &&& A (704 + o) &&& (so ^^^ A (768 + o)))) &&& (ab_fg W A (kn &&& A (704 + o) &&& (so ^^^ A (768 + o))) o w ^^^ (-1))) := by
      unfold ab_j1
      rw [show ab_je (w, kn, so) o = o from if_neg c1, show ab_jx (w, kn, so) o = w from if_neg c1, if_neg (show ¬ (w, kn, so).1 < o from c1)]
    have emn : (if nI w < nI o then nI w else nI o) = nI o := if_neg (Int32.not_lt.mpr (nI_le (by omega) (by omega)))
    rw [j1, hX12_knownBy_37]
    try dsimp only
    simp (disch := first | assumption | omega) only [rX12_knownBy, w44, w272, w271, mX12_min, emn, h1, mX12_feels ho1 hn hm', Option.bind_some, Option.toList_some, Option.toList_none, List.cons_append, List.nil_append, fk_b_0, nI_add, Nat.add_zero, Nat.zero_add, not_true_eq_false, not_false_eq_true, if_true, if_false, sI_le_t, sI_le_f, sI_lt_t, sI_lt_f, sI_eq_t, sI_eq_f, sI_rem, sI_div, sI_m1a, sI_m1b, sI_m1c, sI_m1d, sI_m1e, sI_m1f, sI_m2a, sI_m2b, sI_sub, pk_mul, sI_dec, fk_u_s, fk_u_o, sI_dec0, sI_z, sI_md, Bool.false_eq_true, Nat.reduceAdd, Nat.reduceMul, Nat.reduceSub, Nat.reduceMod, Nat.reduceDiv]
    rw [e, hX12_knownBy_144]
    simp (disch := first | assumption | omega) only [rX12_knownBy, z7, Option.bind_some, Option.toList_some, Option.toList_none, List.cons_append, List.nil_append, fk_b_0, nI_add, Nat.add_zero, Nat.zero_add, not_true_eq_false, not_false_eq_true, if_true, if_false, sI_le_t, sI_le_f, sI_lt_t, sI_lt_f, sI_eq_t, sI_eq_f, sI_rem, sI_div, sI_m1a, sI_m1b, sI_m1c, sI_m1d, sI_m1e, sI_m1f, sI_m2a, sI_m2b, sI_sub, pk_mul, sI_dec, fk_u_s, fk_u_o, sI_dec0, sI_z, sI_md, Bool.false_eq_true, Nat.reduceAdd, Nat.reduceMul, Nat.reduceSub, Nat.reduceMod, Nat.reduceDiv]
theorem mX12_knownBy (HW : fk_LR W v) (hv : ∀ c, 262 ≤ c → c ≤ 266 → y c = v c) (h19 : y 246 19 = v 246 19) (h1 : y 247 = A) (ho : ab_ok v n H A) {r P : Nat → Nat} (hm1 : 1 ≤ m) (hm5 : m ≤ 5) (hr : ∀ i, i < m → r i < n) (hP : ∀ i, i < m → P i < 5) (w272 : ∀ i, i < m → y 272 i = nI (P i)) (w271 : ∀ i, i < m → y 271 (P i) = nI (r i)) (w44 : y 246 44 = nI m) : ∃ y', fk_ev (d + 4) qX12_knownBy 0 [.ref 246, .null, .null, .null, .null, .null, .null, .null, .null, .null, .null, .null] [] (fk_E N y l) = some (some (.int ((nI (fk_cd (ab_jv W A r (m - 1)).2.1)))), fk_E N y' l) ∧ ∀ c, c ≠ 267 → c ≠ 268 → y' c = y c := by
  have hn := ho.1
  have hm := ho.2.1
  have r0 := hr 0 (by omega)
  have key := fk_loopr (σ := (Nat → Nat → Int32) × Value × Value × Value × Value × Value × Value × Value) (fun k t => fk_ev (d + 4) qX12_knownBy 37 [.ref 246, .int (nI (ab_jv W A r k).1), .int (ab_jv W A r k).2.1, .int (ab_jv W A r k).2.2, .int (nI (k + 1)), t.2.1, t.2.2.1, t.2.2.2.1, t.2.2.2.2.1, t.2.2.2.2.2.1, t.2.2.2.2.2.2.1, t.2.2.2.2.2.2.2] [] (fk_E N t.1 l)) (fun k t => ∀ c, c ≠ 267 → c ≠ 268 → t.1 c = y c) (m - 1) (by
    rintro k ⟨t, x1, x2, x3, x4, x5, x6, x7⟩ hk i1
    try dsimp only at i1 ⊢
    have ji := ab_ji_v (W := W) ho k fun i hi => hr i (by omega)
    have jw := ji.1
    have rk := hr (k + 1) (by omega)
    obtain ⟨t', y1, y2, y3, y4, y5, y6, y7, e, f⟩ := mX12_k1 (N := N) (l := l) (d := d) (W := W) (A := A) (y := t) (m := m) (i := k + 1) (o := r (k + 1)) (q := P (k + 1)) (w := (ab_jv W A r k).1) (kn := (ab_jv W A r k).2.1) (so := (ab_jv W A r k).2.2) (x1 := x1) (x2 := x2) (x3 := x3) (x4 := x4) (x5 := x5) (x6 := x6) (x7 := x7) HW (fun c c1 c2 => by rw [i1 c (by omega) (by omega)]; exact hv c c1 c2) (by rw [i1 246 (by omega) (by omega)]; exact h19) (by rw [i1 247 (by omega) (by omega)]; exact h1) hn hm hm5 (by omega) (by omega) (by omega) (hP (k + 1) (by omega)) (by rw [i1 272 (by omega) (by omega)]; exact w272 (k + 1) (by omega)) (by rw [i1 271 (by omega) (by omega)]; exact w271 (k + 1) (by omega)) (by rw [i1 246 (by omega) (by omega)]; exact w44)
    refine ⟨(t', y1, y2, y3, y4, y5, y6, y7), ?_, fun k k1 k2 => (f k k1 k2).trans (i1 k k1 k2)⟩
    rw [ab_jv_s]
    exact e) (m - 1) 0 (y, .null, .null, .null, .null, .null, .null, .null) (Nat.zero_add _) fun _ _ _ => rfl
  obtain ⟨⟨t, x1, x2, x3, x4, x5, x6, x7⟩, e, i1⟩ := key
  try dsimp only at e i1
  have z44 : t 246 44 = nI m := by rw [i1 246 (by omega) (by omega)]; exact w44
  refine ⟨t, ?_, i1⟩
  have p0 := hP 0 (by omega)
  have st : fk_ev (d + 4) qX12_knownBy 0 [.ref 246, .null, .null, .null, .null, .null, .null, .null, .null, .null, .null, .null] [] (fk_E N y l) = fk_ev (d + 4) qX12_knownBy 37 [.ref 246, .int (nI (ab_jv W A r 0).1), .int (ab_jv W A r 0).2.1, .int (ab_jv W A r 0).2.2, .int (nI (0 + 1)), .null, .null, .null, .null, .null, .null, .null] [] (fk_E N y l) := by
    show _ = fk_ev (d + 4) qX12_knownBy 37 [.ref 246, .int (nI (r 0)), .int (A (704 + r 0)), .int (A (768 + r 0)), .int (nI (0 + 1)), .null, .null, .null, .null, .null, .null, .null] [] (fk_E N y l)
    simp (disch := first | assumption | omega) only [rX12_knownBy, w272 0 (by omega), w271 0 (by omega), h1, Option.bind_some, Option.toList_some, Option.toList_none, List.cons_append, List.nil_append, fk_b_0, nI_add, Nat.add_zero, Nat.zero_add, not_true_eq_false, not_false_eq_true, if_true, if_false, sI_le_t, sI_le_f, sI_lt_t, sI_lt_f, sI_eq_t, sI_eq_f, sI_rem, sI_div, sI_m1a, sI_m1b, sI_m1c, sI_m1d, sI_m1e, sI_m1f, sI_m2a, sI_m2b, sI_sub, pk_mul, sI_dec, fk_u_s, fk_u_o, sI_dec0, sI_z, sI_md, Bool.false_eq_true, Nat.reduceAdd, Nat.reduceMul, Nat.reduceSub, Nat.reduceMod, Nat.reduceDiv]
  rw [st, e, hX12_knownBy_37, show m - 1 + 1 = m by omega]
  simp (disch := first | assumption | omega) only [rX12_knownBy, z44, mX12_bits, fk_bits_cd, Option.bind_some, Option.toList_some, Option.toList_none, List.cons_append, List.nil_append, fk_b_0, nI_add, Nat.add_zero, Nat.zero_add, not_true_eq_false, not_false_eq_true, if_true, if_false, sI_le_t, sI_le_f, sI_lt_t, sI_lt_f, sI_eq_t, sI_eq_f, sI_rem, sI_div, sI_m1a, sI_m1b, sI_m1c, sI_m1d, sI_m1e, sI_m1f, sI_m2a, sI_m2b, sI_sub, pk_mul, sI_dec, fk_u_s, fk_u_o, sI_dec0, sI_z, sI_md, Bool.false_eq_true, Nat.reduceAdd, Nat.reduceMul, Nat.reduceSub, Nat.reduceMod, Nat.reduceDiv]
end JO2
