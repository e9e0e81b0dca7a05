section JO1
variable {N : Nat} {S : Nat → Int32} {v y y0 y1 y2 z : Nat → Nat → Int32} {l : Nat → Nat → Int64} {d n H t c k m : Nat} {T A : Nat → Int32} {W : Int32 → (Nat → Int32) → Int32} {s : ab_S}
abbrev ab_jb (A : Nat → Int32) (s : Nat × Int32 × Int32) (o : Nat) : Int32 := s.2.1 &&& A (704 + o) &&& (s.2.2 ^^^ A (768 + o))
abbrev ab_je (s : Nat × Int32 × Int32) (o : Nat) : Nat := if s.1 < o then s.1 else o
abbrev ab_jx (s : Nat × Int32 × Int32) (o : Nat) : Nat := if s.1 < o then o else s.1
/-- one more is joined -/
def ab_j1 (W : Int32 → (Nat → Int32) → Int32) (A : Nat → Int32) (s : Nat × Int32 × Int32) (o : Nat) : Nat × Int32 × Int32 :=
  (ab_je s o, (s.2.1 ||| A (704 + o)) &&& (ab_fg W A (ab_jb A s o) (ab_je s o) (ab_jx s o) ^^^ (-1)), ((s.2.2 &&& s.2.1 ||| A (768 + o) &&& A (704 + o)) &&& (ab_jb A s o ^^^ (-1)) ||| (if s.1 < o then s.2.2 else A (768 + o)) &&& ab_jb A s o) &&& (ab_fg W A (ab_jb A s o) (ab_je s o) (ab_jx s o) ^^^ (-1)))
def ab_jv (W : Int32 → (Nat → Int32) → Int32) (A : Nat → Int32) (r : Nat → Nat) (k : Nat) : Nat × Int32 × Int32 := fk_it (fun i s => ab_j1 W A s (r (i + 1))) 0 k (r 0, A (704 + r 0), A (768 + r 0))
theorem ab_jv_s {r : Nat → Nat} : ab_jv W A r (k + 1) = ab_j1 W A (ab_jv W A r k) (r (k + 1)) := by
  unfold ab_jv
  rw [fk_it_succ, Nat.zero_add]
def ab_ji (n : Nat) (s : Nat × Int32 × Int32) : Prop := s.1 < n ∧ (∀ i, fk_tb s.2.1 i = true → i < 16) ∧ ∀ i, fk_tb s.2.2 i = true → fk_tb s.2.1 i = true
theorem ab_ji_0 (ho : ab_ok v n H A) {o : Nat} (hon : o < n) : ab_ji n (o, A (704 + o), A (768 + o)) := ⟨hon, (ho.2.2.2.2.2.1 o hon).2.2.2.2.2.2.2.1, (ho.2.2.2.2.2.1 o hon).2.2.2.2.2.2.2.2⟩
theorem ab_j_so1 {k s nk ns f : Int32} (hs : ∀ i, fk_tb s i = true → fk_tb k i = true) (hn : ∀ i, fk_tb ns i = true → fk_tb nk i = true) : (s ||| ns &&& (k ^^^ (-1))) &&& ((k ||| nk) &&& (f ^^^ (-1))) = ((s &&& k ||| ns &&& nk) &&& ((k &&& nk &&& (s ^^^ ns)) ^^^ (-1)) ||| s &&& (k &&& nk &&& (s ^^^ ns))) &&& (f ^^^ (-1)) := by
  apply fk_tb_ext
  intro i hi
  have h1 := hs i
  have h2 := hn i
  simp only [fk_tb_and, fk_tb_or, fk_tb_not hi, fk_tb_xor (a := s)]
  revert h1 h2
  cases fk_tb s i <;> cases fk_tb k i <;> cases fk_tb ns i <;> cases fk_tb nk i <;> cases fk_tb f i <;> decide
theorem ab_j_so2 {k s nk ns f : Int32} (hs : ∀ i, fk_tb s i = true → fk_tb k i = true) (hn : ∀ i, fk_tb ns i = true → fk_tb nk i = true) : (ns ||| s &&& (nk ^^^ (-1))) &&& ((k ||| nk) &&& (f ^^^ (-1))) = ((s &&& k ||| ns &&& nk) &&& ((k &&& nk &&& (s ^^^ ns)) ^^^ (-1)) ||| ns &&& (k &&& nk &&& (s ^^^ ns))) &&& (f ^^^ (-1)) := by
  apply fk_tb_ext
  intro i hi
  have h1 := hs i
  have h2 := hn i
  simp only [fk_tb_and, fk_tb_or, fk_tb_not hi, fk_tb_xor (a := s)]
  revert h1 h2
  cases fk_tb s i <;> cases fk_tb k i <;> cases fk_tb ns i <;> cases fk_tb nk i <;> cases fk_tb f i <;> decide
theorem ab_ji_s (ho : ab_ok v n H A) {s : Nat × Int32 × Int32} {o : Nat} (hs : ab_ji n s) (hon : o < n) : ab_ji n (ab_j1 W A s o) := by
  obtain ⟨h1, h2, h3⟩ := hs
  have k1 := (ho.2.2.2.2.2.1 o hon).2.2.2.2.2.2.2.1
  have k2 := (ho.2.2.2.2.2.1 o hon).2.2.2.2.2.2.2.2
  unfold ab_j1
  refine ⟨?_, fun i hi => ?_, fun i hi => ?_⟩
  · show (if s.1 < o then s.1 else o) < n
    split <;> omega
  · try dsimp only at hi
    rw [fk_tb_and, Bool.and_eq_true, fk_tb_or, Bool.or_eq_true] at hi
    rcases hi.1 with h | h
    · exact h2 i h
    · exact k1 i h
  · try dsimp only at hi ⊢
    have key : fk_tb (s.2.1 ||| A (704 + o)) i = true := by
      by_cases c : s.1 < o
      · rw [if_pos c, ← ab_j_so1 h3 k2, fk_tb_and, Bool.and_eq_true, fk_tb_and, Bool.and_eq_true] at hi
        exact hi.2.1
      · rw [if_neg c, ← ab_j_so2 h3 k2, fk_tb_and, Bool.and_eq_true, fk_tb_and, Bool.and_eq_true] at hi
        exact hi.2.1
    rw [fk_tb_and, Bool.and_eq_true] at hi ⊢
    exact ⟨key, hi.2⟩
theorem ab_ji_v (ho : ab_ok v n H A) {r : Nat → Nat} : ∀ k, (∀ i, i ≤ k → r i < n) → ab_ji n (ab_jv W A r k) := by
  intro k
  induction k with
  | zero => intro h; exact ab_ji_0 ho (h 0 (Nat.le_refl _))
  | succ k ih =>
    intro h
    rw [ab_jv_s]
    exact ab_ji_s ho (ih fun i hi => h i (by omega)) (h (k + 1) (Nat.le_refl _))
theorem ab_jb_16 {s : Nat × Int32 × Int32} {o : Nat} (hs : ab_ji n s) : ∀ k, fk_tb (ab_jb A s o) k = true → k < 16 := fun k hk => by
  rw [ab_jb, fk_tb_and, Bool.and_eq_true, fk_tb_and, Bool.and_eq_true] at hk
  exact hs.2.1 k hk.1.1
theorem ab_fg_0 {a b : Nat} : ab_fg W A (nI 0) a b = nI 0 := by
  apply fk_tb_ext
  intro k _
  rw [fk_tb_0]
  refine Bool.eq_false_iff.mpr fun h => ?_
  have := (ab_fg_16 h).2
  rw [fk_tb_0] at this
  exact absurd this (by decide)
theorem mX2_f1 (hL : ck_LC W c y) (e2 : y 238 2 = nI 33) (e3 : y 238 3 = nI c) (hp : ck_pr 33 y (fun _ => nI 0) A) (ho : ab_ok v n H A) {w o i : Nat} {kn so : Int32} (hm5 : m ≤ 5) (hi : i < m) (ji : ab_ji n (w, kn, so)) (ho1 : o < n) (w242 : y 242 i = nI o) (w241 : y 241 2 = nI m) {x1 x2 x3 x4 x5 : Value} : ∃ y' x1' x2' x3' x4' x5', fk_ev (d + 3) qX2_factsOf 32 [.ref 241, .ref 238, .ref 33, .int (nI w), .int kn, .int so, .int (nI i), x1, x2, x3, x4, x5] [] (fk_E N y l) = fk_ev (d + 3) qX2_factsOf 32 [.ref 241, .ref 238, .ref 33, .int (nI (ab_j1 W A (w, kn, so) o).1), .int (ab_j1 W A (w, kn, so) o).2.1, .int (ab_j1 W A (w, kn, so) o).2.2, .int (nI (i + 1)), x1', x2', x3', x4', x5'] [] (fk_E N y' l) ∧ ∀ k, k ≠ 239 → k ≠ c + 7 → y' k = y k := by
  have hc := hL.1
  have hn := ho.1
  have h8 := n8
  have h24 := n24
  have h34 := n34
  have hw : w < n := ji.1
  have hho := n_h (show o < 64 by omega)
  have hhw := n_h (show w < 64 by omega)
  have ao := hp.2.2.1 o (by omega) (by rw [ab_ok_n ho]; exact ho1)
  have a11 : y (36 + o) 11 = A (704 + o) := by rw [show 36 + o = 33 + 3 + o by omega]; exact ao.2.2.2.2.2.2.2.2.2.2.1
  have a12 : y (36 + o) 12 = A (768 + o) := by rw [show 36 + o = 33 + 3 + o by omega]; exact ao.2.2.2.2.2.2.2.2.2.2.2.1
  have a0 : y (36 + o) 0 = nI o := by rw [show 36 + o = 33 + 3 + o by omega]; exact hp.2.1 o (by omega)
  have aw : y (36 + w) 0 = nI w := by rw [show 36 + w = 33 + 3 + w by omega]; exact hp.2.1 w (by omega)
  have k2 := (ho.2.2.2.2.2.1 o ho1).2.2.2.2.2.2.2.2
  have so1 := ab_j_so1 (f := ab_fg W A (kn &&& A (704 + o) &&& (so ^^^ A (768 + o))) w o) ji.2.2 k2
  have so2 := ab_j_so2 (f := ab_fg W A (kn &&& A (704 + o) &&& (so ^^^ A (768 + o))) o w) ji.2.2 k2
  have b16 := ab_jb_16 (A := A) (o := o) ji
  try dsimp only at so1 so2 b16
  rw [hX2_factsOf_32]
  by_cases c1 : w < o
  · have j1 : ab_j1 W A (w, kn, so) o = (w, (kn ||| A (704 + o)) &&& (ab_fg W A (kn &&& A (704 + o) &&& (so ^^^ A (768 + o))) w o ^^^ (-1)), (so ||| A (768 + o) &&& (kn ^^^ (-1))) &&& ((kn ||| A (704 + o)) &&& (ab_fg W A (kn &&& A (704 + o) &&& (so ^^^ A (768 + o))) w o ^^^ (-1)))) := by
      rw [so1]
      unfold ab_j1
      rw [show ab_je (w, kn, so) o = w from if_pos c1, show ab_jx (w, kn, so) o = o from if_pos c1, if_pos (show (w, kn, so).1 < o from c1)]
    rw [j1]
    try dsimp only
    by_cases c2 : kn &&& A (704 + o) &&& (so ^^^ A (768 + o)) = nI 0
    · rw [c2, ab_fg_0]
      refine ⟨y, .ref (36 + o), .int (nI 0), .ref (36 + w), .ref (36 + o), .int (nI 0), ?_, fun _ _ _ => rfl⟩
      simp (disch := first | assumption | omega) only [rX2_factsOf, w241, nc0, w242, a11, a12, c2, a0, aw, Option.bind_some, Option.toList_some, Option.toList_none, List.cons_append, List.nil_append, fk_b_0, nI_add, Nat.add_zero, Nat.zero_add, not_true_eq_false, not_false_eq_true, if_true, if_false, sI_le_t, sI_le_f, sI_lt_t, sI_lt_f, sI_eq_t, sI_eq_f, sI_rem, sI_div, sI_m1a, sI_m1b, sI_m1c, sI_m1d, sI_m1e, sI_m1f, sI_m2a, sI_m2b, sI_sub, pk_mul, sI_dec, fk_u_s, fk_u_o, sI_dec0, sI_z, sI_md, Bool.false_eq_true, Nat.reduceAdd, Nat.reduceMul, Nat.reduceSub, Nat.reduceMod, Nat.reduceDiv]
    · obtain ⟨y', e, f⟩ := mX6_believed (N := N) (l := l) (d := d) (p := 33) (m := 0) (T := fun _ => nI 0) (a := w) (b := o) (facts := kn &&& A (704 + o) &&& (so ^^^ A (768 + o))) hL (Or.inl rfl) e2 e3 (ck_cs_of hp) (by omega) ho hw (by omega)
      try dsimp only at e
      rw [show 33 + 3 + w = 36 + w by omega, show 33 + 3 + o = 36 + o by omega] at e
      have fg := ck_bl_fg (W := W) (A := A) (a := w) (b := o) b16
      have z11 : y' (36 + o) 11 = A (704 + o) := by rw [f _ (by omega) (by omega)]; exact a11
      have z12 : y' (36 + o) 12 = A (768 + o) := by rw [f _ (by omega) (by omega)]; exact a12
      have z0 : y' (36 + o) 0 = nI o := by rw [f _ (by omega) (by omega)]; exact a0
      have zw : y' (36 + w) 0 = nI w := by rw [f _ (by omega) (by omega)]; exact aw
      refine ⟨y', .ref (36 + o), .int (kn &&& A (704 + o) &&& (so ^^^ A (768 + o))), .ref (36 + w), .ref (36 + o), .int (ab_fg W A (kn &&& A (704 + o) &&& (so ^^^ A (768 + o))) w o), ?_, f⟩
      simp (disch := first | assumption | omega) only [rX2_factsOf, w241, nc0, w242, a11, a12, c2, a0, e, fg, z11, z12, z0, zw, Option.bind_some, Option.toList_some, Option.toList_none, List.cons_append, List.nil_append, fk_b_0, nI_add, Nat.add_zero, Nat.zero_add, not_true_eq_false, not_false_eq_true, if_true, if_false, sI_le_t, sI_le_f, sI_lt_t, sI_lt_f, sI_eq_t, sI_eq_f, sI_rem, sI_div, sI_m1a, sI_m1b, sI_m1c, sI_m1d, sI_m1e, sI_m1f, sI_m2a, sI_m2b, sI_sub, pk_mul, sI_dec, fk_u_s, fk_u_o, sI_dec0, sI_z, sI_md, Bool.false_eq_true, Nat.reduceAdd, Nat.reduceMul, Nat.reduceSub, Nat.reduceMod, Nat.reduceDiv]
  · have j1 : ab_j1 W A (w, kn, so) o = (o, (kn ||| A (704 + o)) &&& (ab_fg W A (kn &&& A (704 + o) &&& (so ^^^ A (768 + o))) o w ^^^ (-1)), (A (768 + o) ||| so &&& (A (704 + o) ^^^ (-1))) &&& ((kn ||| A (704 + o)) &&& (ab_fg W A (kn &&& A (704 + o) &&& (so ^^^ A (768 + o))) o w ^^^ (-1)))) := by
      rw [so2]
      unfold ab_j1
      rw [show ab_je (w, kn, so) o = o from if_neg c1, show ab_jx (w, kn, so) o = w from if_neg c1, if_neg (show ¬ (w, kn, so).1 < o from c1)]
    rw [j1]
    try dsimp only
    have emn : (if nI o < nI w then nI o else nI w) = nI o := by
      by_cases e : o < w
      · rw [if_pos (nI_lt e (by omega))]
      · rw [show o = w by omega]
        exact ite_self _
    have emx : (if nI w < nI o then nI o else nI w) = nI w := if_neg (Int32.not_lt.mpr (nI_le (by omega) (by omega)))
    by_cases c2 : kn &&& A (704 + o) &&& (so ^^^ A (768 + o)) = nI 0
    · rw [c2, ab_fg_0]
      refine ⟨y, .ref (36 + o), .int (nI 0), .ref (36 + o), .ref (36 + w), .int (nI 0), ?_, fun _ _ _ => rfl⟩
      simp (disch := first | assumption | omega) only [rX2_factsOf, w241, nc0, w242, a11, a12, c2, a0, aw, emn, emx, not_true_eq_false, not_false_eq_true, if_true, if_false, sI_le_t, sI_le_f, nI_add, Nat.reduceAdd]
    · obtain ⟨y', e, f⟩ := mX6_believed (N := N) (l := l) (d := d) (p := 33) (m := 0) (T := fun _ => nI 0) (a := o) (b := w) (facts := kn &&& A (704 + o) &&& (so ^^^ A (768 + o))) hL (Or.inl rfl) e2 e3 (ck_cs_of hp) (by omega) ho ho1 (by omega)
      try dsimp only at e
      rw [show 33 + 3 + w = 36 + w by omega, show 33 + 3 + o = 36 + o by omega] at e
      have fg := ck_bl_fg (W := W) (A := A) (a := o) (b := w) b16
      have z11 : y' (36 + o) 11 = A (704 + o) := by rw [f _ (by omega) (by omega)]; exact a11
      have z12 : y' (36 + o) 12 = A (768 + o) := by rw [f _ (by omega) (by omega)]; exact a12
      have z0 : y' (36 + o) 0 = nI o := by rw [f _ (by omega) (by omega)]; exact a0
      refine ⟨y', .ref (36 + o), .int (kn &&& A (704 + o) &&& (so ^^^ A (768 + o))), .ref (36 + o), .ref (36 + w), .int (ab_fg W A (kn &&& A (704 + o) &&& (so ^^^ A (768 + o))) o w), ?_, f⟩
      simp (disch := first | assumption | omega) only [rX2_factsOf, w241, nc0, w242, a11, a12, c2, a0, e, fg, z11, z12, z0, emn, emx, Option.bind_some, Option.toList_some, List.cons_append, List.nil_append, not_true_eq_false, not_false_eq_true, if_true, if_false, sI_le_t, sI_le_f, nI_add, Nat.reduceAdd]
theorem mX2_factsOf (hL : ck_LC W c y) (e2 : y 238 2 = nI 33) (e3 : y 238 3 = nI c) (hp : ck_pr 33 y (fun _ => nI 0) A) (ho : ab_ok v n H A) {r : Nat → Nat} (hm1 : 1 ≤ m) (hm5 : m ≤ 5) (hr : ∀ i, i < m → r i < n) (e242 : ∀ i, i < m → y 242 i = nI (r i)) (e241 : y 241 2 = nI m) : ∃ y', fk_ev (d + 3) qX2_factsOf 0 [.ref 241, .ref 238, .ref 33, .null, .null, .null, .null, .null, .null, .null, .null, .null] [] (fk_E N y l) = some (some (.int ((nI (fk_cd (ab_jv W A r (m - 1)).2.1)))), fk_E N y' l) ∧ ∀ k, k ≠ 239 → k ≠ c + 7 → y' k = y k := by
  have hc := hL.1
  have hn := ho.1
  have h8 := n8
  have h24 := n24
  have h34 := n34
  have r0 := hr 0 (by omega)
  have hh0 := n_h (show r 0 < 64 by omega)
  have a0 := hp.2.2.1 (r 0) (by omega) (by rw [ab_ok_n ho]; exact r0)
  have a11 : y (36 + r 0) 11 = A (704 + r 0) := by rw [show 36 + r 0 = 33 + 3 + r 0 by omega]; exact a0.2.2.2.2.2.2.2.2.2.2.1
  have a12 : y (36 + r 0) 12 = A (768 + r 0) := by rw [show 36 + r 0 = 33 + 3 + r 0 by omega]; exact a0.2.2.2.2.2.2.2.2.2.2.2.1
  have key := fk_loopr (σ := (Nat → Nat → Int32) × Value × Value × Value × Value × Value) (fun k t => fk_ev (d + 3) qX2_factsOf 32 [.ref 241, .ref 238, .ref 33, .int (nI (ab_jv W A r k).1), .int (ab_jv W A r k).2.1, .int (ab_jv W A r k).2.2, .int (nI (k + 1)), t.2.1, t.2.2.1, t.2.2.2.1, t.2.2.2.2.1, t.2.2.2.2.2] [] (fk_E N t.1 l)) (fun k t => ∀ k, k ≠ 239 → k ≠ c + 7 → t.1 k = y k) (m - 1) (by
    rintro k ⟨t, x1, x2, x3, x4, x5⟩ hk i1
    try dsimp only at i1 ⊢
    have ji := ab_ji_v (W := W) ho k fun i hi => hr i (by omega)
    obtain ⟨t', y1, y2, y3, y4, y5, e, f⟩ := mX2_f1 (N := N) (l := l) (d := d) (W := W) (y := t) (m := m) (i := k + 1) (o := r (k + 1)) (w := (ab_jv W A r k).1) (kn := (ab_jv W A r k).2.1) (so := (ab_jv W A r k).2.2) (x1 := x1) (x2 := x2) (x3 := x3) (x4 := x4) (x5 := x5) (ck_LC_c (fun k k1 k2 => i1 k (by omega) (by omega)) (by rw [i1 c (by omega) (by omega)]) (by rw [i1 c (by omega) (by omega)]) hL) (by rw [i1 238 (by omega) (by omega)]; exact e2) (by rw [i1 238 (by omega) (by omega)]; exact e3) (ck_pr_k hp fun k k1 k2 => i1 k (by omega) (by omega)) ho hm5 (by omega) ji (hr (k + 1) (by omega)) (by rw [i1 242 (by omega) (by omega)]; exact e242 (k + 1) (by omega)) (by rw [i1 241 (by omega) (by omega)]; exact e241)
    refine ⟨(t', y1, y2, y3, y4, y5), ?_, fun k k1 k2 => (f k k1 k2).trans (i1 k k1 k2)⟩
    rw [ab_jv_s]
    exact e) (m - 1) 0 (y, .null, .null, .null, .null, .null) (Nat.zero_add _) fun _ _ _ => rfl
  obtain ⟨⟨t, x1, x2, x3, x4, x5⟩, e, i1⟩ := key
  try dsimp only at e i1
  have w241 : t 241 2 = nI m := by rw [i1 241 (by omega) (by omega)]; exact e241
  have ji := ab_ji_v (W := W) ho (m - 1) fun i hi => hr i (by omega)
  refine ⟨t, ?_, i1⟩
  have st : fk_ev (d + 3) qX2_factsOf 0 [.ref 241, .ref 238, .ref 33, .null, .null, .null, .null, .null, .null, .null, .null, .null] [] (fk_E N y l) = fk_ev (d + 3) qX2_factsOf 32 [.ref 241, .ref 238, .ref 33, .int (nI (ab_jv W A r 0).1), .int (ab_jv W A r 0).2.1, .int (ab_jv W A r 0).2.2, .int (nI (0 + 1)), .null, .null, .null, .null, .null] [] (fk_E N y l) := by
    show _ = fk_ev (d + 3) qX2_factsOf 32 [.ref 241, .ref 238, .ref 33, .int (nI (r 0)), .int (A (704 + r 0)), .int (A (768 + r 0)), .int (nI (0 + 1)), .null, .null, .null, .null, .null] [] (fk_E N y l)
    simp (disch := first | assumption | omega) only [rX2_factsOf, e242 0 (by omega), nc0, a11, a12, Option.bind_some, Option.toList_some, Option.toList_none, List.cons_append, List.nil_append, fk_b_0, nI_add, Nat.add_zero, Nat.zero_add, not_true_eq_false, not_false_eq_true, if_true, if_false, sI_le_t, sI_le_f, sI_lt_t, sI_lt_f, sI_eq_t, sI_eq_f, sI_rem, sI_div, sI_m1a, sI_m1b, sI_m1c, sI_m1d, sI_m1e, sI_m1f, sI_m2a, sI_m2b, sI_sub, pk_mul, sI_dec, fk_u_s, fk_u_o, sI_dec0, sI_z, sI_md, Bool.false_eq_true, Nat.reduceAdd, Nat.reduceMul, Nat.reduceSub, Nat.reduceMod, Nat.reduceDiv]
  rw [st, e, hX2_factsOf_32, show m - 1 + 1 = m by omega]
  have eb : ck_bc (ab_jv W A r (m - 1)).2.1 = nI (fk_cd (ab_jv W A r (m - 1)).2.1) := by rw [ck_bc_16 ji.2.1, fk_bits_cd]
  simp (disch := first | assumption | omega) only [rX2_factsOf, w241, mJ6_bitCount, eb, Option.bind_some, Option.toList_some, Option.toList_none, List.cons_append, List.nil_append, fk_b_0, nI_add, Nat.add_zero, Nat.zero_add, not_true_eq_false, not_false_eq_true, if_true, if_false, sI_le_t, sI_le_f, sI_lt_t, sI_lt_f, sI_eq_t, sI_eq_f, sI_rem, sI_div, sI_m1a, sI_m1b, sI_m1c, sI_m1d, sI_m1e, sI_m1f, sI_m2a, sI_m2b, sI_sub, pk_mul, sI_dec, fk_u_s, fk_u_o, sI_dec0, sI_z, sI_md, Bool.false_eq_true, Nat.reduceAdd, Nat.reduceMul, Nat.reduceSub, Nat.reduceMod, Nat.reduceDiv]
end JO1
