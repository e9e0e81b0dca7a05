/-! THE LAW: the class's run, whole -/
section LW6
variable {N : Nat} {l : Nat → Nat → Int64} {d c : Nat}
theorem lz_tp_m {v : Int32} {t : List Int32} (ht : t.length < 2147483648) : nI t.length + (-1) = lz_tp t := by
  cases t with
  | nil => exact sI_dec0
  | cons w t => rw [lz_tp_c, List.length_cons, sI_dec (by omega), Nat.add_sub_cancel]
theorem lz_ko_0 : lz_ko 0 = 0 := rfl
theorem lz_ko_1 : lz_ko 1 = 1 := rfl
theorem lz_ko_10 : lz_ko 10 = 2 := rfl
theorem mX3_run_all (hc : c = 2 ∨ c = 10) {e b0 : Nat} (he : e ≤ 240) : ∀ k (K : List (Nat × Nat)) (s : List Int32) b (y : Nat → Nat → Int32) (x6 x7 x8 : Value) res, K.length ≤ k → b + K.length = e → lz_hc y c b K → lz_st (y (c + 7)) s → s.length ≤ 32 → lz_rn (ck_lt (y 239)) K s = some res → ∃ y', fk_ev d qX3_run 6 [.ref c, .int (nI b0), .int (nI e), .ref 239, .int (lz_tp s), .int (nI b), x6, x7, x8] [] (fk_E N y l) = some (some (.int (lz_an res)), fk_E N y' l) ∧ ∀ k, k ≠ c + 7 → y' k = y k := by
  intro k
  induction k with
  | zero =>
    intro K s b y x6 x7 x8 res hk hb hK hs hl hr
    cases K with
    | nil =>
      have hb : b = e := hb
      subst hb
      rw [lz_rn_nil] at hr
      cases hr
      exact ⟨y, mX3_run_end hc he hl hs, fun _ _ => rfl⟩
    | cons q K => exact absurd hk (Nat.not_succ_le_zero _)
  | succ k ih =>
    intro K s b y x6 x7 x8 res hk hb hK hs hl hr
    cases K with
    | nil =>
      have hb : b = e := hb
      subst hb
      rw [lz_rn_nil] at hr
      cases hr
      exact ⟨y, mX3_run_end hc he hl hs, fun _ _ => rfl⟩
    | cons q K =>
      obtain ⟨o, x⟩ := q
      have hk1 : K.length ≤ k := Nat.le_of_succ_le_succ hk
      rw [List.length_cons] at hb
      have hb1 : b + 1 + K.length = e := by omega
      have hbe : b < e := by omega
      obtain ⟨⟨r1, r2⟩, hK1⟩ := hK
      have r1 : y (c + 1) b = nI (lz_ko o) := r1
      have r2 : y (c + 2) b = nI (lz_kp b o x) := r2
      -- one step that leaves orders alone
      have go : ∀ (s' : List Int32) (i : Nat) (v : Int32), lz_st (fk_w (y (c + 7)) i v) s' → s'.length ≤ 32 → lz_rn (ck_lt (y 239)) K s' = some res → ∀ a6 a7 a8, ∃ y', fk_ev d qX3_run 6 [.ref c, .int (nI b0), .int (nI e), .ref 239, .int (lz_tp s'), .int (nI (b + 1)), a6, a7, a8] [] (fk_E N (fk_u y (c + 7) i v) l) = some (some (.int (lz_an res)), fk_E N y' l) ∧ ∀ k, k ≠ c + 7 → y' k = y k := by
        intro s' i v g1 g2 g3 a6 a7 a8
        obtain ⟨y', f1, f2⟩ := ih K s' (b + 1) (fk_u y (c + 7) i v) a6 a7 a8 res hk1 hb1 (lz_hc_c K (b + 1) (fun i _ _ => ⟨by rw [fk_u_rowo (by omega)], by rw [fk_u_rowo (by omega)]⟩) hK1) (by rw [fk_u_row]; exact g1) g2 (by rw [fk_u_rowo (by omega)]; exact g3)
        exact ⟨y', f1, fun k hk => (f2 k hk).trans (fk_u_rowo hk)⟩
      rcases lz_rn_inv hr with ⟨rfl, h1, h2⟩ | ⟨rfl, h1, h3, h2⟩ | ⟨rfl, t, h⟩ | ⟨ho, t, h⟩ | ⟨g1, g2, r, z, u, hsu, h⟩
      · obtain ⟨a6, a7, a8, e1⟩ := mX3_run_num (N := N) (l := l) (d := d) (c := c) (y := y) (s := s) (b := b) (b0 := b0) (e := e) (x6 := x6) (x7 := x7) (x8 := x8) (x := x) hc hbe he h1 r1 r2
        rw [e1, ← lz_tp_c (v := nI x)]
        exact go (nI x :: s) s.length (nI x) ⟨fk_w_s, lz_st_c s (fun i hi => fk_w_o (by omega)) hs⟩ (by rw [List.length_cons]; omega) h2 a6 a7 a8
      · have r2 : y (c + 2) b = nI (ck_ix x) := r2
        obtain ⟨a6, a7, a8, e1⟩ := mX3_run_let (N := N) (l := l) (d := d) (c := c) (y := y) (s := s) (b := b) (b0 := b0) (e := e) (x6 := x6) (x7 := x7) (x8 := x8) (x := ck_ix x) hc hbe he h1 (ck_ix_lt x h3) r1 r2
        rw [e1, ← lz_tp_c (v := y 239 (ck_ix x))]
        exact go (y 239 (ck_ix x) :: s) s.length (y 239 (ck_ix x)) ⟨fk_w_s, lz_st_c s (fun i hi => fk_w_o (by omega)) hs⟩ (by rw [List.length_cons]; omega) h2 a6 a7 a8
      · rcases h with ⟨rfl, h2⟩ | ⟨rfl, h2⟩
        · rw [List.length_cons] at hl
          obtain ⟨a6, a7, a8, e1⟩ := mX3_run_not (N := N) (l := l) (d := d) (c := c) (y := y) (t := t.length) (b := b) (b0 := b0) (e := e) (x6 := x6) (x7 := x7) (x8 := x8) (q := 0) hc hbe he (by omega) r1 (by omega) hs.1
          rw [lz_tp_c, e1, ← lz_tp_c (v := nI 1)]
          exact go (nI 1 :: t) t.length (nI 1) ⟨fk_w_s, lz_st_c t (fun i hi => fk_w_o (by omega)) hs.2⟩ (by rw [List.length_cons]; omega) h2 a6 a7 a8
        · rw [List.length_cons] at hl
          obtain ⟨a6, a7, a8, e1⟩ := mX3_run_not (N := N) (l := l) (d := d) (c := c) (y := y) (t := t.length) (b := b) (b0 := b0) (e := e) (x6 := x6) (x7 := x7) (x8 := x8) (q := 1) hc hbe he (by omega) r1 (by omega) hs.1
          rw [lz_tp_c, e1, ← lz_tp_c (v := nI 0)]
          exact go (nI 0 :: t) t.length (nI 0) ⟨fk_w_s, lz_st_c t (fun i hi => fk_w_o (by omega)) hs.2⟩ (by rw [List.length_cons]; omega) h2 a6 a7 a8
      · have r2 : y (c + 2) b = nI (b + x) := by
          rw [r2]
          unfold lz_kp
          rw [if_neg (by omega), if_pos ho]
        rcases h with ⟨rfl, h3, h4, h2⟩ | ⟨rfl, h2⟩
        · rw [List.length_cons] at hl
          obtain ⟨a6, a7, a8, e1⟩ := mX3_run_leap (N := N) (l := l) (d := d) (c := c) (y := y) (t := t.length) (b := b) (b0 := b0) (e := e) (x6 := x6) (x7 := x7) (x8 := x8) (x := x) hc ho hbe he (by omega) r1 h4 (by omega) r2 hs.1
          rw [lz_tp_c, e1, ← lz_tp_c (v := nI (lz_lp o))]
          have hd := lz_hc_d (x - 1) K (b + 1) hK1
          rw [show b + 1 + (x - 1) = b + x by omega] at hd
          exact ih (K.drop (x - 1)) _ (b + x) y a6 a7 a8 res (by rw [List.length_drop]; omega) (by rw [List.length_drop]; omega) hd hs (by rw [List.length_cons]; omega) h2
        · rw [List.length_cons] at hl
          obtain ⟨a6, a7, a8, e1⟩ := mX3_run_pop (N := N) (l := l) (d := d) (c := c) (y := y) (t := t.length) (b := b) (b0 := b0) (e := e) (x6 := x6) (x7 := x7) (x8 := x8) hc ho hbe he (by omega) r1 hs.1
          rw [lz_tp_c, e1, lz_tp_m (v := nI 0) (by omega)]
          exact ih K t (b + 1) y a6 a7 a8 res hk1 hb1 hK1 hs.2 (by omega) h2
      · subst hsu
        rw [List.length_cons, List.length_cons] at hl
        have t1 : y (c + 7) (u.length + 1) = r := hs.1
        rcases h with ⟨h1, rfl, rfl⟩ | ⟨h1, h2⟩
        · rw [lz_tp_c]
          exact ⟨y, mX3_run_ref hc h1 hbe he (by omega) r1 t1, fun _ _ => rfl⟩
        · obtain ⟨a6, a7, a8, e1⟩ := mX3_run_op (N := N) (l := l) (d := d) (c := c) (y := y) (t := u.length) (b := b) (b0 := b0) (e := e) (x6 := x6) (x7 := x7) (x8 := x8) hc g1 g2 hbe he (by omega) r1 t1 hs.2.1 h1
          rw [lz_tp_c]
          show ∃ y', fk_ev d qX3_run 6 [_, _, _, _, .int (nI (u.length + 1)), _, _, _, _] [] _ = _ ∧ _
          rw [e1, ← lz_tp_c (v := lz_o o z r)]
          exact go (lz_o o z r :: u) u.length (lz_o o z r) ⟨fk_w_s, lz_st_c u (fun i hi => fk_w_o (by omega)) hs.2.2⟩ (by rw [List.length_cons]; omega) h2 a6 a7 a8
/-- orders with a meaning -/
theorem mX3_run {K : List (Nat × Nat)} {m : (Nat → Int32) → Option Int32} {nd b : Nat} {y : Nat → Nat → Int32} (hc : c = 2 ∨ c = 10) (hm : lz_mn K m nd) (hn : nd ≤ 32) (hb : b + K.length ≤ 240) (hK : lz_hc y c b K) : ∃ y', fk_ev d qX3_run 0 [.ref c, .int ((nI b)), .int ((nI (b + K.length))), .ref 239, .null, .null, .null, .null, .null] [] (fk_E N y l) = some (some (.int (((m (ck_lt (y 239))).getD (nI 0)))), fk_E N y' l) ∧ ∀ k, k ≠ c + 7 → y' k = y k := by
  have h := hm (ck_lt (y 239)) [] [] (by show 0 + nd ≤ 32; omega)
  rw [List.append_nil] at h
  cases e : m (ck_lt (y 239)) with
  | none =>
    rw [e] at h
    obtain ⟨y', f1, f2⟩ := mX3_run_all (N := N) (l := l) (d := d) (b0 := b) hc hb K.length K [] b y .null .null .null none (Nat.le_refl _) rfl hK trivial (by decide) h
    refine ⟨y', ?_, f2⟩
    rw [lz_tp_n] at f1
    refine Eq.trans ?_ f1
    simp (disch := first | assumption | omega) only [rX3_run, Option.bind_some, Option.toList_some, Option.toList_none, List.cons_append, List.nil_append, fk_b_0, nI_add, Nat.add_zero, Nat.zero_add, not_true_eq_false, not_false_eq_true, if_true, if_false, sI_le_t, sI_le_f, sI_lt_t, sI_lt_f, sI_eq_t, sI_eq_f, sI_rem, sI_div, sI_m1a, sI_m1b, sI_m1c, sI_m1d, sI_m1e, sI_m1f, sI_m2a, sI_m2b, sI_sub, pk_mul, sI_dec, fk_u_s, fk_u_o, sI_dec0, sI_z, sI_md, Bool.false_eq_true, Nat.reduceAdd, Nat.reduceMul, Nat.reduceSub, Nat.reduceMod, Nat.reduceDiv]
  | some v =>
    rw [e] at h
    obtain ⟨y', f1, f2⟩ := mX3_run_all (N := N) (l := l) (d := d) (b0 := b) hc hb K.length K [] b y .null .null .null (some [v]) (Nat.le_refl _) rfl hK trivial (by decide) h
    refine ⟨y', ?_, f2⟩
    rw [lz_tp_n] at f1
    refine Eq.trans ?_ f1
    simp (disch := first | assumption | omega) only [rX3_run, Option.bind_some, Option.toList_some, Option.toList_none, List.cons_append, List.nil_append, fk_b_0, nI_add, Nat.add_zero, Nat.zero_add, not_true_eq_false, not_false_eq_true, if_true, if_false, sI_le_t, sI_le_f, sI_lt_t, sI_lt_f, sI_eq_t, sI_eq_f, sI_rem, sI_div, sI_m1a, sI_m1b, sI_m1c, sI_m1d, sI_m1e, sI_m1f, sI_m2a, sI_m2b, sI_sub, pk_mul, sI_dec, fk_u_s, fk_u_o, sI_dec0, sI_z, sI_md, Bool.false_eq_true, Nat.reduceAdd, Nat.reduceMul, Nat.reduceSub, Nat.reduceMod, Nat.reduceDiv]
end LW6
