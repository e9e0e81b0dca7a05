/-! THE LAW: the reference's run, whole; what it says by its clauses -/
section LWA
variable {N : Nat} {l : Nat → Nat → Int64} {d : Nat}
theorem mX12_ct_all {e b0 : Nat} (he : e ≤ 260) : ∀ k (K : List (Nat × Nat)) (s : List Int32) b (y : Nat → Nat → Int32) (x6 x7 : Value) res, K.length ≤ k → b + K.length = e → lz_hr y 262 b K → lz_st (y 267) s → s.length ≤ 32 → lz_rn (y 268) K s = some res → ∃ y' v, fk_ev (d + 1) qX12_comesTo 16 [.ref 246, .int (nI b0), .int (nI e), .int (nI s.length), .int (nI 0), .int (nI b), x6, x7] [] (fk_E N y l) = some (some (.int v), fk_E N y' l) ∧ (res = none → v = nI 0) ∧ (∀ w, res = some [w] → v = w) ∧ ∀ k, k ≠ 267 → y' k = y k := by
  have fin : ∀ (s : List Int32) (y : Nat → Nat → Int32) (x6 x7 : Value) res, lz_st (y 267) s → lz_rn (y 268) [] s = some res → ∃ y' v, fk_ev (d + 1) qX12_comesTo 16 [.ref 246, .int (nI b0), .int (nI e), .int (nI s.length), .int (nI 0), .int (nI e), x6, x7] [] (fk_E N y l) = some (some (.int v), fk_E N y' l) ∧ (res = none → v = nI 0) ∧ (∀ w, res = some [w] → v = w) ∧ ∀ k, k ≠ 267 → y' k = y k := by
    intro s y x6 x7 res hs hr
    rw [lz_rn_nil] at hr
    cases hr
    refine ⟨y, y 267 0, mX12_ct_end he, (fun z => by cases z), fun w hw => ?_, fun _ _ => rfl⟩
    cases hw
    exact hs.1
  intro k
  induction k with
  | zero =>
    intro K s b y x6 x7 res hk hb hK hs hl hr
    cases K with
    | nil =>
      have hb : b = e := hb
      subst hb
      exact fin s y x6 x7 res hs hr
    | cons q K => exact absurd hk (Nat.not_succ_le_zero _)
  | succ k ih =>
    intro K s b y x6 x7 res hk hb hK hs hl hr
    cases K with
    | nil =>
      have hb : b = e := hb
      subst hb
      exact fin s y x6 x7 res hs hr
    | cons q K =>
      obtain ⟨o, x⟩ := q
      have hk1 : K.length ≤ k := Nat.le_of_succ_le_succ hk
      rw [List.length_cons] at hb
      have hb1 : b + 1 + K.length = e := by omega
      have hbe : b < e := by omega
      obtain ⟨⟨r1, r2, r3⟩, hK1⟩ := hK
      have r1 : y 262 b = nI (1048576 * o + lz_kr b o x) := r1
      have r3 : lz_kr b o x < 1048576 := r3
      have go : ∀ (s' : List Int32) (i : Nat) (v : Int32), lz_st (fk_w (y 267) i v) s' → s'.length ≤ 32 → lz_rn (y 268) K s' = some res → ∀ a6 a7, ∃ y' v', fk_ev (d + 1) qX12_comesTo 16 [.ref 246, .int (nI b0), .int (nI e), .int (nI s'.length), .int (nI 0), .int (nI (b + 1)), a6, a7] [] (fk_E N (fk_u y 267 i v) l) = some (some (.int v'), fk_E N y' l) ∧ (res = none → v' = nI 0) ∧ (∀ w, res = some [w] → v' = w) ∧ ∀ k, k ≠ 267 → y' k = y k := by
        intro s' i v g1 g2 g3 a6 a7
        obtain ⟨y', v', f1, f2, f3, f4⟩ := ih K s' (b + 1) (fk_u y 267 i v) a6 a7 res hk1 hb1 (lz_hr_c K (b + 1) (fun i _ _ => by rw [fk_u_rowo (by omega)]) hK1) (by rw [fk_u_row]; exact g1) g2 (by rw [fk_u_rowo (by omega)]; exact g3)
        exact ⟨y', v', f1, f2, f3, fun k hk => (f4 k hk).trans (fk_u_rowo hk)⟩
      rcases lz_rn_inv hr with ⟨rfl, h1, h2⟩ | ⟨rfl, h1, h3, h2⟩ | ⟨rfl, t, h⟩ | ⟨ho, t, h⟩ | ⟨g1, g2, r, z, u, hsu, h⟩
      · rw [mX12_ct_num hbe he h1 r3 r1]
        exact go (nI x :: s) s.length (nI x) ⟨fk_w_s, lz_st_c s (fun i hi => fk_w_o (by omega)) hs⟩ (by rw [List.length_cons]; omega) h2 _ _
      · rw [mX12_ct_let hbe he h1 (x := x) h3 r1]
        exact go (y 268 x :: s) s.length (y 268 x) ⟨fk_w_s, lz_st_c s (fun i hi => fk_w_o (by omega)) hs⟩ (by rw [List.length_cons]; omega) h2 _ _
      · rcases h with ⟨rfl, h2⟩ | ⟨rfl, h2⟩
        · rw [List.length_cons] at hl ⊢
          rw [mX12_ct_not (q := 0) hbe he (by omega) r3 r1 (by omega) hs.1]
          exact go (nI 1 :: t) t.length (nI 1) ⟨fk_w_s, lz_st_c t (fun i hi => fk_w_o (by omega)) hs.2⟩ (by rw [List.length_cons]; omega) h2 _ _
        · rw [List.length_cons] at hl ⊢
          rw [mX12_ct_not (q := 1) hbe he (by omega) r3 r1 (by omega) hs.1]
          exact go (nI 0 :: t) t.length (nI 0) ⟨fk_w_s, lz_st_c t (fun i hi => fk_w_o (by omega)) hs.2⟩ (by rw [List.length_cons]; omega) h2 _ _
      · have ek : lz_kr b o x = b + x := if_pos ho
        rw [ek] at r1 r3
        rcases h with ⟨rfl, h3, h4, h2⟩ | ⟨rfl, h2⟩
        · rw [List.length_cons] at hl ⊢
          rw [mX12_ct_leap ho hbe he (by omega) r3 r1 hs.1]
          have hd := lz_hr_d (x - 1) K (b + 1) hK1
          rw [show b + 1 + (x - 1) = b + x by omega] at hd
          exact ih (K.drop (x - 1)) (nI (lz_lp o) :: t) (b + x) y _ _ res (by rw [List.length_drop]; omega) (by rw [List.length_drop]; omega) hd hs (by rw [List.length_cons]; omega) h2
        · rw [List.length_cons] at hl ⊢
          rw [mX12_ct_pop ho hbe he (by omega) r3 r1 hs.1]
          exact ih K t (b + 1) y _ _ res hk1 hb1 hK1 hs.2 (by omega) h2
      · subst hsu
        rw [List.length_cons, List.length_cons] at hl
        have t1 : y 267 (u.length + 1) = r := hs.1
        show ∃ y' v, fk_ev (d + 1) qX12_comesTo 16 [_, _, _, .int (nI (u.length + 2)), _, _, _, _] [] _ = _ ∧ _
        rcases h with ⟨h1, rfl, rfl⟩ | ⟨h1, h2⟩
        · exact ⟨y, nI 0, mX12_ct_ref h1 hbe he (by omega) r3 r1 t1, fun _ => rfl, (fun w hw => by cases hw), fun _ _ => rfl⟩
        · rw [mX12_ct_op g1 g2 hbe he (by omega) r3 r1 t1 hs.2.1 h1]
          exact go (lz_o o z r :: u) u.length (lz_o o z r) ⟨fk_w_s, lz_st_c u (fun i hi => fk_w_o (by omega)) hs.2.2⟩ (by rw [List.length_cons]; omega) h2 _ _
theorem mX12_comesTo {K : List (Nat × Nat)} {m : (Nat → Int32) → Option Int32} {nd b : Nat} {y : Nat → Nat → Int32} (hm : lz_mn K m nd) (hn : nd ≤ 32) (hb : b + K.length < 260) (hK : lz_hr y 262 b K) : ∃ y', fk_ev (d + 1) qX12_comesTo 0 [.ref 246, .int ((nI b)), .int ((nI (b + K.length))), .null, .null, .null, .null, .null] [] (fk_E N y l) = some (some (.int (((m (y 268)).getD (nI 0)))), fk_E N y' l) ∧ ∀ k, k ≠ 267 → y' k = y k := by
  have h := hm (y 268) [] [] (by show 0 + nd ≤ 32; omega)
  rw [List.append_nil] at h
  have b0 : b / 260 = 0 := by omega
  cases e : m (y 268) with
  | none =>
    rw [e] at h
    obtain ⟨y', v, f1, f2, f3, f4⟩ := mX12_ct_all (N := N) (l := l) (d := d) (b0 := b) (Nat.le_of_lt hb) K.length K [] b y .null .null none (Nat.le_refl _) rfl hK trivial (by decide) h
    refine ⟨y', ?_, f4⟩
    rw [f2 rfl] at f1
    refine Eq.trans ?_ f1
    simp (disch := first | assumption | omega) only [rX12_comesTo, b0, List.length_nil, Option.bind_some, Option.toList_some, Option.toList_none, List.cons_append, List.nil_append, fk_b_0, nI_add, Nat.add_zero, Nat.zero_add, not_true_eq_false, not_false_eq_true, if_true, if_false, sI_le_t, sI_le_f, sI_lt_t, sI_lt_f, sI_eq_t, sI_eq_f, sI_rem, sI_div, sI_m1a, sI_m1b, sI_m1c, sI_m1d, sI_m1e, sI_m1f, sI_m2a, sI_m2b, sI_sub, pk_mul, sI_dec, fk_u_s, fk_u_o, sI_dec0, sI_z, sI_md, Bool.false_eq_true, Nat.reduceAdd, Nat.reduceMul, Nat.reduceSub, Nat.reduceMod, Nat.reduceDiv]
  | some v =>
    rw [e] at h
    obtain ⟨y', v', f1, f2, f3, f4⟩ := mX12_ct_all (N := N) (l := l) (d := d) (b0 := b) (Nat.le_of_lt hb) K.length K [] b y .null .null (some [v]) (Nat.le_refl _) rfl hK trivial (by decide) h
    refine ⟨y', ?_, f4⟩
    rw [f3 v rfl] at f1
    refine Eq.trans ?_ f1
    simp (disch := first | assumption | omega) only [rX12_comesTo, b0, List.length_nil, Option.bind_some, Option.toList_some, Option.toList_none, List.cons_append, List.nil_append, fk_b_0, nI_add, Nat.add_zero, Nat.zero_add, not_true_eq_false, not_false_eq_true, if_true, if_false, sI_le_t, sI_le_f, sI_lt_t, sI_lt_f, sI_eq_t, sI_eq_f, sI_rem, sI_div, sI_m1a, sI_m1b, sI_m1c, sI_m1d, sI_m1e, sI_m1f, sI_m2a, sI_m2b, sI_sub, pk_mul, sI_dec, fk_u_s, fk_u_o, sI_dec0, sI_z, sI_md, Bool.false_eq_true, Nat.reduceAdd, Nat.reduceMul, Nat.reduceSub, Nat.reduceMod, Nat.reduceDiv]
/-- clauses in the reference's rows: their first at cell c (letters), then from, half, to; orders in cell k -/
def lz_hs (y : Nat → Nat → Int32) (c k : Nat) : Nat → List (Nat × List (Nat × Nat) × List (Nat × Nat) × List (Nat × Nat)) → Prop
  | _, [] => True
  | j, q :: Q => (∃ w, y c j = nI q.1 ∧ y (c + 1) j = nI w ∧ y (c + 2) j = nI (w + q.2.1.length) ∧ y (c + 3) j = nI (w + q.2.1.length + q.2.2.2.length) ∧ w + q.2.1.length + q.2.2.2.length ≤ 240 ∧ lz_hr y k w q.2.1 ∧ lz_hr y k (w + q.2.1.length) q.2.2.2) ∧ lz_hs y c k (j + 1) Q
theorem lz_hs_c {y y' : Nat → Nat → Int32} {c c' k k' : Nat} : ∀ Q j, (∀ i, i < j + Q.length → y' c' i = y c i ∧ y' (c' + 1) i = y (c + 1) i ∧ y' (c' + 2) i = y (c + 2) i ∧ y' (c' + 3) i = y (c + 3) i) → (∀ i, i < 240 → y' k' i = y k i) → lz_hs y c k j Q → lz_hs y' c' k' j Q := by
  intro Q
  induction Q with
  | nil => intro j _ _ _; trivial
  | cons q Q ih =>
    intro j hk h2 hq
    obtain ⟨⟨w, h1, h2', h3, h4, h5, h6, h7⟩, h8⟩ := hq
    obtain ⟨e0, e1, e2, e3⟩ := hk j (by rw [List.length_cons]; omega)
    exact ⟨⟨w, e0.trans h1, e1.trans h2', e2.trans h3, e3.trans h4, h5, lz_hr_c _ _ (fun i _ hi => h2 i (by omega)) h6, lz_hr_c _ _ (fun i _ hi => h2 i (by omega)) h7⟩, ih (j + 1) (fun i hi => hk i (by rw [List.length_cons]; omega)) h2 h8⟩
theorem mX12_byLaw_l {a h : Int32} (ha : ¬ a = nI 101) {nq : Nat} (h0 : nI 0 ≤ h) (hn : nq ≤ 16) : ∀ Q Ms j (y : Nat → Nat → Int32) (x4 : Value), j + Q.length = nq → y 246 19 = nI nq → lz_hs y 263 262 j Q → lz_mqs Q Ms → ∃ y', fk_ev (d + 2) qX12_byLaw 2 [.ref 246, .int a, .int h, .int (nI j), x4] [] (fk_E N y l) = some (some (.int (ab_cl h (lz_W Ms a (y 268)))), fk_E N y' l) ∧ ∀ k, k ≠ 267 → y' k = y k := by
  intro Q
  induction Q with
  | nil =>
    intro Ms j y x4 hj h8 hq hM
    cases Ms with
    | cons M Ms => exact hM.elim
    | nil =>
      have hj : j = nq := hj
      subst hj
      refine ⟨y, ?_, fun _ _ => rfl⟩
      show _ = some (some (Value.int (ab_cl h (nI 0))), _)
      rw [ab_cl_0 h0, hX12_byLaw_2]
      simp (disch := first | assumption | omega) only [rX12_byLaw, h8, Option.bind_some, Option.toList_some, Option.toList_none, List.cons_append, List.nil_append, fk_b_0, nI_add, Nat.add_zero, Nat.zero_add, not_true_eq_false, not_false_eq_true, if_true, if_false, sI_le_t, sI_le_f, sI_lt_t, sI_lt_f, sI_eq_t, sI_eq_f, sI_rem, sI_div, sI_m1a, sI_m1b, sI_m1c, sI_m1d, sI_m1e, sI_m1f, sI_m2a, sI_m2b, sI_sub, pk_mul, sI_dec, fk_u_s, fk_u_o, sI_dec0, sI_z, sI_md, Bool.false_eq_true, Nat.reduceAdd, Nat.reduceMul, Nat.reduceSub, Nat.reduceMod, Nat.reduceDiv]
  | cons q Q ih =>
    intro Ms j y x4 hj h8 hq hM
    cases Ms with
    | nil => exact hM.elim
    | cons M Ms =>
      obtain ⟨⟨m1, m2, m3, m4, m5, m6, m7, m8⟩, m9⟩ := hM
      obtain ⟨⟨w, q1, q2, q3, q4, q5, q6, q7⟩, q8⟩ := id hq
      rw [List.length_cons] at hj
      have nx : ∀ (y1 : Nat → Nat → Int32) (x4 : Value), (∀ k, k ≠ 267 → y1 k = y k) → ∃ y', fk_ev (d + 2) qX12_byLaw 2 [.ref 246, .int a, .int h, .int (nI (j + 1)), x4] [] (fk_E N y1 l) = some (some (.int (ab_cl h (lz_W Ms a (y 268)))), fk_E N y' l) ∧ ∀ k, k ≠ 267 → y' k = y k := by
        intro y1 x4 k1
        obtain ⟨y', f1, f2⟩ := ih Ms (j + 1) y1 x4 (by omega) (by rw [k1 246 (by omega)]; exact h8) (lz_hs_c Q (j + 1) (fun i _ => ⟨by rw [k1 263 (by omega)], by rw [k1 (263 + 1) (by omega)], by rw [k1 (263 + 2) (by omega)], by rw [k1 (263 + 3) (by omega)]⟩) (fun i _ => by rw [k1 262 (by omega)]) q8) m9
        rw [k1 268 (by omega)] at f1
        exact ⟨y', f1, fun k hk => (f2 k hk).trans (k1 k hk)⟩
      have q2 : y 264 j = nI w := q2
      have q3 : y 265 j = nI (w + q.2.1.length) := q3
      have q4 : y 266 j = nI (w + q.2.1.length + q.2.2.2.length) := q4
      unfold lz_W
      rw [m1]
      by_cases cl : nI q.1 = a
      · have q1 : y 263 j = a := q1.trans cl
        have ne : q.1 ≠ 101 := fun z => ha (by rw [← cl, z])
        obtain ⟨y1, e1, k1⟩ := mX12_comesTo (N := N) (l := l) (d := d) (y := y) (b := w + q.2.1.length) m6 (by omega) (by omega) q7
        generalize eM : M.2.2 (y 268) = mv at e1
        have hmv : mv = none ∨ mv = some (nI 0) ∨ mv = some (nI 1) := by
          cases mv with
          | none => exact Or.inl rfl
          | some v =>
            rcases m7 _ v eM with rfl | rfl
            · exact Or.inr (Or.inl rfl)
            · exact Or.inr (Or.inr rfl)
        rcases hmv with rfl | rfl | rfl
        · have e1 : fk_ev (d + 1) qX12_comesTo 0 [.ref 246, .int (nI (w + q.2.1.length)), .int (nI (w + q.2.1.length + q.2.2.2.length)), .null, .null, .null, .null, .null] [] (fk_E N y l) = some (some (.int (nI 0)), fk_E N y1 l) := e1
          rw [if_neg (fun z => by cases z.2)]
          obtain ⟨y', f1, f2⟩ := nx y1 x4 k1
          refine ⟨y', ?_, f2⟩
          rw [← f1]
          conv => lhs; rw [hX12_byLaw_2]
          simp (disch := first | assumption | omega) only [rX12_byLaw, h8, q1, q2, q3, q4, e1, Option.bind_some, Option.toList_some, Option.toList_none, List.cons_append, List.nil_append, fk_b_0, nI_add, Nat.add_zero, Nat.zero_add, not_true_eq_false, not_false_eq_true, if_true, if_false, sI_le_t, sI_le_f, sI_lt_t, sI_lt_f, sI_eq_t, sI_eq_f, sI_rem, sI_div, sI_m1a, sI_m1b, sI_m1c, sI_m1d, sI_m1e, sI_m1f, sI_m2a, sI_m2b, sI_sub, pk_mul, sI_dec, fk_u_s, fk_u_o, sI_dec0, sI_z, sI_md, Bool.false_eq_true, Nat.reduceAdd, Nat.reduceMul, Nat.reduceSub, Nat.reduceMod, Nat.reduceDiv]
        · have e1 : fk_ev (d + 1) qX12_comesTo 0 [.ref 246, .int (nI (w + q.2.1.length)), .int (nI (w + q.2.1.length + q.2.2.2.length)), .null, .null, .null, .null, .null] [] (fk_E N y l) = some (some (.int (nI 0)), fk_E N y1 l) := e1
          rw [if_neg (fun z => absurd z.2 (by decide))]
          obtain ⟨y', f1, f2⟩ := nx y1 x4 k1
          refine ⟨y', ?_, f2⟩
          rw [← f1]
          conv => lhs; rw [hX12_byLaw_2]
          simp (disch := first | assumption | omega) only [rX12_byLaw, h8, q1, q2, q3, q4, e1, Option.bind_some, Option.toList_some, Option.toList_none, List.cons_append, List.nil_append, fk_b_0, nI_add, Nat.add_zero, Nat.zero_add, not_true_eq_false, not_false_eq_true, if_true, if_false, sI_le_t, sI_le_f, sI_lt_t, sI_lt_f, sI_eq_t, sI_eq_f, sI_rem, sI_div, sI_m1a, sI_m1b, sI_m1c, sI_m1d, sI_m1e, sI_m1f, sI_m2a, sI_m2b, sI_sub, pk_mul, sI_dec, fk_u_s, fk_u_o, sI_dec0, sI_z, sI_md, Bool.false_eq_true, Nat.reduceAdd, Nat.reduceMul, Nat.reduceSub, Nat.reduceMod, Nat.reduceDiv]
        · have e1 : fk_ev (d + 1) qX12_comesTo 0 [.ref 246, .int (nI (w + q.2.1.length)), .int (nI (w + q.2.1.length + q.2.2.2.length)), .null, .null, .null, .null, .null] [] (fk_E N y l) = some (some (.int (nI 1)), fk_E N y1 l) := e1
          rw [if_pos ⟨cl, rfl⟩]
          have q2' : y1 264 j = nI w := by rw [k1 264 (by omega)]; exact q2
          have q3' : y1 265 j = nI (w + q.2.1.length) := by rw [k1 265 (by omega)]; exact q3
          obtain ⟨y2, e2, k2⟩ := mX12_comesTo (N := N) (l := l) (d := d) (y := y1) (b := w) (m4 ne) (by omega) (by omega) (lz_hr_c _ _ (fun i _ _ => by rw [k1 262 (by omega)]) q6)
          rw [k1 268 (by omega)] at e2
          refine ⟨y2, ?_, fun k hk => (k2 k hk).trans (k1 k hk)⟩
          generalize (M.2.1 (y 268)).getD (nI 0) = v at e2
          unfold ab_cl
          rw [hX12_byLaw_2]
          by_cases c1 : v < nI 0
          · have c1' : (nI 0 ≤ v) = False := eq_false (Int32.not_le.mpr c1)
            rw [if_pos c1]
            simp (disch := first | assumption | omega) only [rX12_byLaw, h8, q1, q2, q3, q4, e1, q2', q3', e2, c1', Option.bind_some, Option.toList_some, Option.toList_none, List.cons_append, List.nil_append, fk_b_0, nI_add, Nat.add_zero, Nat.zero_add, not_true_eq_false, not_false_eq_true, if_true, if_false, sI_le_t, sI_le_f, sI_lt_t, sI_lt_f, sI_eq_t, sI_eq_f, sI_rem, sI_div, sI_m1a, sI_m1b, sI_m1c, sI_m1d, sI_m1e, sI_m1f, sI_m2a, sI_m2b, sI_sub, pk_mul, sI_dec, fk_u_s, fk_u_o, sI_dec0, sI_z, sI_md, Bool.false_eq_true, Nat.reduceAdd, Nat.reduceMul, Nat.reduceSub, Nat.reduceMod, Nat.reduceDiv]
          · have c1' : (nI 0 ≤ v) = True := eq_true (Int32.not_lt.mp c1)
            rw [if_neg c1]
            by_cases c2 : h < v
            · have c2' : (v ≤ h) = False := eq_false (Int32.not_le.mpr c2)
              rw [if_pos c2]
              simp (disch := first | assumption | omega) only [rX12_byLaw, h8, q1, q2, q3, q4, e1, q2', q3', e2, c1', c2', Option.bind_some, Option.toList_some, Option.toList_none, List.cons_append, List.nil_append, fk_b_0, nI_add, Nat.add_zero, Nat.zero_add, not_true_eq_false, not_false_eq_true, if_true, if_false, sI_le_t, sI_le_f, sI_lt_t, sI_lt_f, sI_eq_t, sI_eq_f, sI_rem, sI_div, sI_m1a, sI_m1b, sI_m1c, sI_m1d, sI_m1e, sI_m1f, sI_m2a, sI_m2b, sI_sub, pk_mul, sI_dec, fk_u_s, fk_u_o, sI_dec0, sI_z, sI_md, Bool.false_eq_true, Nat.reduceAdd, Nat.reduceMul, Nat.reduceSub, Nat.reduceMod, Nat.reduceDiv]
            · have c2' : (v ≤ h) = True := eq_true (Int32.not_lt.mp c2)
              rw [if_neg c2]
              simp (disch := first | assumption | omega) only [rX12_byLaw, h8, q1, q2, q3, q4, e1, q2', q3', e2, c1', c2', Option.bind_some, Option.toList_some, Option.toList_none, List.cons_append, List.nil_append, fk_b_0, nI_add, Nat.add_zero, Nat.zero_add, not_true_eq_false, not_false_eq_true, if_true, if_false, sI_le_t, sI_le_f, sI_lt_t, sI_lt_f, sI_eq_t, sI_eq_f, sI_rem, sI_div, sI_m1a, sI_m1b, sI_m1c, sI_m1d, sI_m1e, sI_m1f, sI_m2a, sI_m2b, sI_sub, pk_mul, sI_dec, fk_u_s, fk_u_o, sI_dec0, sI_z, sI_md, Bool.false_eq_true, Nat.reduceAdd, Nat.reduceMul, Nat.reduceSub, Nat.reduceMod, Nat.reduceDiv]
      · rw [if_neg (fun z => cl z.1)]
        obtain ⟨y', f1, f2⟩ := nx y x4 (fun _ _ => rfl)
        refine ⟨y', ?_, f2⟩
        rw [← f1]
        conv => lhs; rw [hX12_byLaw_2]
        have cl' : (nI q.1 = a) = False := eq_false cl
        simp (disch := first | assumption | omega) only [rX12_byLaw, h8, q1, cl', Option.bind_some, Option.toList_some, Option.toList_none, List.cons_append, List.nil_append, fk_b_0, nI_add, Nat.add_zero, Nat.zero_add, not_true_eq_false, not_false_eq_true, if_true, if_false, sI_le_t, sI_le_f, sI_lt_t, sI_lt_f, sI_eq_t, sI_eq_f, sI_rem, sI_div, sI_m1a, sI_m1b, sI_m1c, sI_m1d, sI_m1e, sI_m1f, sI_m2a, sI_m2b, sI_sub, pk_mul, sI_dec, fk_u_s, fk_u_o, sI_dec0, sI_z, sI_md, Bool.false_eq_true, Nat.reduceAdd, Nat.reduceMul, Nat.reduceSub, Nat.reduceMod, Nat.reduceDiv]
end LWA
