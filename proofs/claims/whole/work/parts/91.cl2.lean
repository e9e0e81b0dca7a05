section CLT
variable {N : Nat} {S : Nat → Int32} {v y y0 y1 y2 z : Nat → Nat → Int32} {l : Nat → Nat → Int64} {d p p' n H t c k m : Nat} {T A A' : Nat → Int32} {shut : Int32} {a b : Nat}
theorem mX5_onTheWay (hN : ck_nt v y) (ha : a < 16) (hb : b < 16) : fk_ev (d + 2) qX5_onTheWay 0 [.ref 18, .int ((nI a)), .int ((nI b)), .null, .null, .null, .null] [] (fk_E N y l) = some (some (.int ((fk_sz (ab_bt v a b)))), fk_E N y l) := by
  have key := fk_loopr (σ := Int32 × Value) (fun k s => fk_ev (d + 2) qX5_onTheWay 15 [.ref 18, .int (nI a), .int (nI b), .int (fk_sz (ab_RC v (nI 1 <<< (nI b &&& 31)) a)), .int s.1, .int (nI k), s.2] [] (fk_E N y l)) (fun k s => ∀ q, fk_tb s.1 q = true ↔ q < k ∧ ab_bt v a b q) 16 (by
    rintro k ⟨s, x⟩ hk i1
    try dsimp only at i1 ⊢
    have keep : ¬ ab_bt v a b k → ∀ q, fk_tb s q = true ↔ q < k + 1 ∧ ab_bt v a b q := fun h q => by
      rw [i1]
      constructor
      · rintro ⟨h1, h2⟩; exact ⟨by omega, h2⟩
      · rintro ⟨h1, h2⟩
        have : q ≠ k := fun e => h (e ▸ h2)
        exact ⟨by omega, h2⟩
    rw [hX5_onTheWay_15]
    by_cases c1 : ab_RC v (nI 1 <<< (nI b &&& 31)) a k
    · have b1 : fk_tb (fk_sz (ab_RC v (nI 1 <<< (nI b &&& 31)) a)) k = true := fk_sz_t.mpr ⟨hk, c1⟩
      have hr := mX5_reach (N := N) (l := l) (d := d) (shut := nI 1 <<< (nI a &&& 31)) hN hk
      by_cases c2 : ab_RC v (nI 1 <<< (nI a &&& 31)) k b
      · have b2 : fk_tb (fk_sz (ab_RC v (nI 1 <<< (nI a &&& 31)) k)) b = true := fk_sz_t.mpr ⟨hb, c2⟩
        by_cases c3 : k = a
        · refine ⟨(s, .int (nI 1)), ?_, keep fun z => z.2.2.1 c3⟩
          simp (disch := first | assumption | omega) only [rX5_onTheWay, fk_has0, b1, hr, b2, fk_or0, Option.bind_some, Option.toList_some, Option.toList_none, List.cons_append, List.nil_append, fk_b_0, nI_add, Nat.add_zero, Nat.zero_add, not_true_eq_false, not_false_eq_true, if_true, if_false, sI_le_t, sI_le_f, sI_lt_t, sI_lt_f, sI_eq_t, sI_eq_f, sI_rem, sI_div, sI_m1a, sI_m1b, sI_m1c, sI_m1d, sI_m1e, sI_m1f, sI_m2a, sI_m2b, sI_sub, pk_mul, sI_dec, fk_u_s, fk_u_o, sI_dec0, sI_z, sI_md, Bool.false_eq_true, Nat.reduceAdd, Nat.reduceMul, Nat.reduceSub, Nat.reduceMod, Nat.reduceDiv]
        · by_cases c4 : k = b
          · refine ⟨(s, .int (nI 1)), ?_, keep fun z => z.2.2.2 c4⟩
            simp (disch := first | assumption | omega) only [rX5_onTheWay, fk_has0, b1, hr, b2, fk_or0, Option.bind_some, Option.toList_some, Option.toList_none, List.cons_append, List.nil_append, fk_b_0, nI_add, Nat.add_zero, Nat.zero_add, not_true_eq_false, not_false_eq_true, if_true, if_false, sI_le_t, sI_le_f, sI_lt_t, sI_lt_f, sI_eq_t, sI_eq_f, sI_rem, sI_div, sI_m1a, sI_m1b, sI_m1c, sI_m1d, sI_m1e, sI_m1f, sI_m2a, sI_m2b, sI_sub, pk_mul, sI_dec, fk_u_s, fk_u_o, sI_dec0, sI_z, sI_md, Bool.false_eq_true, Nat.reduceAdd, Nat.reduceMul, Nat.reduceSub, Nat.reduceMod, Nat.reduceDiv]
          · refine ⟨(s ||| nI 1 <<< (nI k &&& 31), .int (nI 1)), ?_, fun q => ?_⟩
            · simp (disch := first | assumption | omega) only [rX5_onTheWay, fk_has0, b1, hr, b2, Option.bind_some, Option.toList_some, Option.toList_none, List.cons_append, List.nil_append, fk_b_0, nI_add, Nat.add_zero, Nat.zero_add, not_true_eq_false, not_false_eq_true, if_true, if_false, sI_le_t, sI_le_f, sI_lt_t, sI_lt_f, sI_eq_t, sI_eq_f, sI_rem, sI_div, sI_m1a, sI_m1b, sI_m1c, sI_m1d, sI_m1e, sI_m1f, sI_m2a, sI_m2b, sI_sub, pk_mul, sI_dec, fk_u_s, fk_u_o, sI_dec0, sI_z, sI_md, Bool.false_eq_true, Nat.reduceAdd, Nat.reduceMul, Nat.reduceSub, Nat.reduceMod, Nat.reduceDiv]
            · try dsimp only
              rw [fk_tb_or, Bool.or_eq_true, i1, fk_tb_bitI (by omega)]
              constructor
              · rintro (⟨h1, h2⟩ | rfl)
                · exact ⟨by omega, h2⟩
                · exact ⟨by omega, c1, c2, c3, c4⟩
              · rintro ⟨h1, h2⟩
                by_cases e : q = k
                · exact Or.inr e
                · exact Or.inl ⟨by omega, h2⟩
      · have b2 : ¬ fk_tb (fk_sz (ab_RC v (nI 1 <<< (nI a &&& 31)) k)) b = true := fun z => c2 (fk_sz_t.mp z).2
        refine ⟨(s, .int (nI 0)), ?_, keep fun z => c2 z.2.1⟩
        simp (disch := first | assumption | omega) only [rX5_onTheWay, fk_has0, b1, hr, b2, fk_or0, Option.bind_some, Option.toList_some, Option.toList_none, List.cons_append, List.nil_append, fk_b_0, nI_add, Nat.add_zero, Nat.zero_add, not_true_eq_false, not_false_eq_true, if_true, if_false, sI_le_t, sI_le_f, sI_lt_t, sI_lt_f, sI_eq_t, sI_eq_f, sI_rem, sI_div, sI_m1a, sI_m1b, sI_m1c, sI_m1d, sI_m1e, sI_m1f, sI_m2a, sI_m2b, sI_sub, pk_mul, sI_dec, fk_u_s, fk_u_o, sI_dec0, sI_z, sI_md, Bool.false_eq_true, Nat.reduceAdd, Nat.reduceMul, Nat.reduceSub, Nat.reduceMod, Nat.reduceDiv]
    · have b1 : ¬ fk_tb (fk_sz (ab_RC v (nI 1 <<< (nI b &&& 31)) a)) k = true := fun z => c1 (fk_sz_t.mp z).2
      refine ⟨(s, .int (nI 0)), ?_, keep fun z => c1 z.1⟩
      simp (disch := first | assumption | omega) only [rX5_onTheWay, fk_has0, b1, fk_or0, Option.bind_some, Option.toList_some, Option.toList_none, List.cons_append, List.nil_append, fk_b_0, nI_add, Nat.add_zero, Nat.zero_add, not_true_eq_false, not_false_eq_true, if_true, if_false, sI_le_t, sI_le_f, sI_lt_t, sI_lt_f, sI_eq_t, sI_eq_f, sI_rem, sI_div, sI_m1a, sI_m1b, sI_m1c, sI_m1d, sI_m1e, sI_m1f, sI_m2a, sI_m2b, sI_sub, pk_mul, sI_dec, fk_u_s, fk_u_o, sI_dec0, sI_z, sI_md, Bool.false_eq_true, Nat.reduceAdd, Nat.reduceMul, Nat.reduceSub, Nat.reduceMod, Nat.reduceDiv]) 16 0 (nI 0, .null) rfl (fun q => by rw [fk_tb_0]; exact ⟨fun z => absurd z (by decide), fun z => by omega⟩)
  obtain ⟨⟨s, x⟩, e, i1⟩ := key
  try dsimp only at e i1
  have es : s = fk_sz (ab_bt v a b) := fk_sz_eq i1
  subst es
  simp (disch := first | assumption | omega) only [rX5_onTheWay, mX5_reach hN ha, Option.bind_some, Option.toList_some, Option.toList_none, List.cons_append, List.nil_append, fk_b_0, nI_add, Nat.add_zero, Nat.zero_add, not_true_eq_false, not_false_eq_true, if_true, if_false, sI_le_t, sI_le_f, sI_lt_t, sI_lt_f, sI_eq_t, sI_eq_f, sI_rem, sI_div, sI_m1a, sI_m1b, sI_m1c, sI_m1d, sI_m1e, sI_m1f, sI_m2a, sI_m2b, sI_sub, pk_mul, sI_dec, fk_u_s, fk_u_o, sI_dec0, sI_z, sI_md, Bool.false_eq_true, Nat.reduceAdd, Nat.reduceMul, Nat.reduceSub, Nat.reduceMod, Nat.reduceDiv]
  rw [e, hX5_onTheWay_15]
  simp (disch := first | assumption | omega) only [rX5_onTheWay, Option.bind_some, Option.toList_some, Option.toList_none, List.cons_append, List.nil_append, fk_b_0, nI_add, Nat.add_zero, Nat.zero_add, not_true_eq_false, not_false_eq_true, if_true, if_false, sI_le_t, sI_le_f, sI_lt_t, sI_lt_f, sI_eq_t, sI_eq_f, sI_rem, sI_div, sI_m1a, sI_m1b, sI_m1c, sI_m1d, sI_m1e, sI_m1f, sI_m2a, sI_m2b, sI_sub, pk_mul, sI_dec, fk_u_s, fk_u_o, sI_dec0, sI_z, sI_md, Bool.false_eq_true, Nat.reduceAdd, Nat.reduceMul, Nat.reduceSub, Nat.reduceMod, Nat.reduceDiv]
theorem ab_cd_su {x B : Nat} (hB : B < 65536) (h : fk_su x B) (e : fk_cd (nI x) = fk_cd (nI B)) : x = B := by
  have hx : x < 65536 := Nat.lt_of_le_of_lt (fk_su_le h) hB
  refine Nat.eq_of_testBit_eq fun i => Bool.eq_iff_iff.mpr ⟨h i, fun hi => Classical.byContradiction fun z => ?_⟩
  have := fk_cf_lt (p := fun q => fk_tb (nI x) q) (q := fun q => fk_tb (nI B) q) (x := i) 16 0 (fun j _ _ hj => by rw [fk_tbn hx] at hj; rw [fk_tbn hB]; exact h j hj) (by omega) (by have := fk_16 hB hi; omega) (by rw [fk_tbn hx]; exact z) (by rw [fk_tbn hB]; exact hi)
  unfold fk_cd at e
  omega
theorem ck_bc_m {x : Nat} (hx : x < 65536) : ck_bc (nI x) = nI (fk_cd (nI x)) := by
  rw [ck_bc_16 fun k hk => by rw [fk_tbn hx] at hk; exact fk_16 hx hk, fk_bits_cd]
theorem fk_cd_le {s : Int32} : fk_cd s ≤ 16 := fk_cf_le 16 0
theorem mX5_fewest_loop {B : Nat} (hN : ck_nt v y) (ha : a < 16) (hb : b < 16) (hB : B < 65536) (hcB : ab_cut v a b B) : ∃ bst, ab_LM (fun z => fk_su z B ∧ ab_cut v a b z) bst ∧ bst < 65536 ∧ fk_ev (d + 3) qX5_fewestClosed 31 [.ref 18, .int (nI a), .int (nI b), .int (nI B), .int (nI B), .int (nI 0), .int (nI 0), .null] [] (fk_E N y l) = some (some (.int (nI bst)), fk_E N y l) := by
  have key := fk_loopm (σ := (Nat × Nat × Nat) × Value) (fun s => fk_ev (d + 3) qX5_fewestClosed 31 [.ref 18, .int (nI a), .int (nI b), .int (nI B), .int (nI s.1.2.1), .int (nI s.1.1), .int (nI s.1.2.2), s.2] [] (fk_E N y l)) (fun k s => fk_su s.1.1 B ∧ fk_su s.1.2.1 B ∧ ab_cut v a b s.1.2.1 ∧ s.1.2.2 ≤ s.1.1 ∧ (s.1.2.2 = 0 → s.1.1 = 0 ∧ s.1.2.1 = B) ∧ (0 < s.1.2.2 → s.1.2.1 < s.1.1 ∨ s.1.2.1 = B) ∧ (∀ z, z < s.1.1 → fk_su z B → ab_cut v a b z → fk_cd (nI s.1.2.1) < fk_cd (nI z) ∨ (fk_cd (nI s.1.2.1) = fk_cd (nI z) ∧ s.1.2.1 ≤ z)) ∧ 65536 - s.1.1 ≤ k) (fun r => ∃ bst, ab_LM (fun z => fk_su z B ∧ ab_cut v a b z) bst ∧ bst < 65536 ∧ r = some (some (.int (nI bst)), fk_E N y l)) (by
    rintro k ⟨⟨x, best, tr⟩, fw⟩ ⟨i1, i2, i3, i4, i5, i6, i7, i8⟩
    try dsimp only at i1 i2 i3 i4 i5 i6 i7 i8 ⊢
    have hx : x < 65536 := Nat.lt_of_le_of_lt (fk_su_le i1) hB
    have hbst : best < 65536 := Nat.lt_of_le_of_lt (fk_su_le i2) hB
    have cx := fk_cd_le (s := nI x)
    have cb := fk_cd_le (s := nI best)
    have hr := mX5_reach (N := N) (l := l) (d := d + 1) (shut := nI x) hN ha
    have step : ∃ best' fw', fk_su best' B ∧ ab_cut v a b best' ∧ (best' ≤ x ∨ best' = B) ∧ (∀ z, z ≤ x → fk_su z B → ab_cut v a b z → fk_cd (nI best') < fk_cd (nI z) ∨ (fk_cd (nI best') = fk_cd (nI z) ∧ best' ≤ z)) ∧ fk_ev (d + 3) qX5_fewestClosed 31 [.ref 18, .int (nI a), .int (nI b), .int (nI B), .int (nI best), .int (nI x), .int (nI tr), fw] [] (fk_E N y l) = fk_ev (d + 3) qX5_fewestClosed 86 [.ref 18, .int (nI a), .int (nI b), .int (nI B), .int (nI best'), .int (nI x), .int (nI tr), fw'] [] (fk_E N y l) := by
      by_cases F : tr = 0 ∨ fk_cd (nI x) < fk_cd (nI best)
      · have e1 : fk_ev (d + 3) qX5_fewestClosed 31 [.ref 18, .int (nI a), .int (nI b), .int (nI B), .int (nI best), .int (nI x), .int (nI tr), fw] [] (fk_E N y l) = fk_ev (d + 3) qX5_fewestClosed 63 [.ref 18, .int (nI a), .int (nI b), .int (nI B), .int (nI best), .int (nI x), .int (nI tr), .int (nI 1)] [] (fk_E N y l) := by
          rw [hX5_fewestClosed_31]
          by_cases t0 : tr = 0
          · subst t0
            simp (disch := first | assumption | omega) only [rX5_fewestClosed, Option.bind_some, Option.toList_some, Option.toList_none, List.cons_append, List.nil_append, fk_b_0, nI_add, Nat.add_zero, Nat.zero_add, not_true_eq_false, not_false_eq_true, if_true, if_false, sI_le_t, sI_le_f, sI_lt_t, sI_lt_f, sI_eq_t, sI_eq_f, sI_rem, sI_div, sI_m1a, sI_m1b, sI_m1c, sI_m1d, sI_m1e, sI_m1f, sI_m2a, sI_m2b, sI_sub, pk_mul, sI_dec, fk_u_s, fk_u_o, sI_dec0, sI_z, sI_md, Bool.false_eq_true, Nat.reduceAdd, Nat.reduceMul, Nat.reduceSub, Nat.reduceMod, Nat.reduceDiv]
          · have lt := F.resolve_left t0
            simp (disch := first | assumption | omega) only [rX5_fewestClosed, mJ6_bitCount, ck_bc_m hx, ck_bc_m hbst, Option.bind_some, Option.toList_some, Option.toList_none, List.cons_append, List.nil_append, fk_b_0, nI_add, Nat.add_zero, Nat.zero_add, not_true_eq_false, not_false_eq_true, if_true, if_false, sI_le_t, sI_le_f, sI_lt_t, sI_lt_f, sI_eq_t, sI_eq_f, sI_rem, sI_div, sI_m1a, sI_m1b, sI_m1c, sI_m1d, sI_m1e, sI_m1f, sI_m2a, sI_m2b, sI_sub, pk_mul, sI_dec, fk_u_s, fk_u_o, sI_dec0, sI_z, sI_md, Bool.false_eq_true, Nat.reduceAdd, Nat.reduceMul, Nat.reduceSub, Nat.reduceMod, Nat.reduceDiv]
        rw [e1]
        by_cases C : ab_cut v a b x
        · have b1 : ¬ fk_tb (fk_sz (ab_RC v (nI x) a)) b = true := fun z => C (fk_sz_t.mp z).2
          refine ⟨x, .int (nI 1), i1, C, Or.inl (Nat.le_refl _), fun z hz1 hz2 hz3 => ?_, ?_⟩
          · by_cases e : z = x
            · subst e; exact Or.inr ⟨rfl, Nat.le_refl _⟩
            · rcases F with F | F
              · have := (i5 F).1; omega
              · have := i7 z (by omega) hz2 hz3
                omega
          · simp (disch := first | assumption | omega) only [rX5_fewestClosed, hr, fk_has0, b1, Option.bind_some, Option.toList_some, Option.toList_none, List.cons_append, List.nil_append, fk_b_0, nI_add, Nat.add_zero, Nat.zero_add, not_true_eq_false, not_false_eq_true, if_true, if_false, sI_le_t, sI_le_f, sI_lt_t, sI_lt_f, sI_eq_t, sI_eq_f, sI_rem, sI_div, sI_m1a, sI_m1b, sI_m1c, sI_m1d, sI_m1e, sI_m1f, sI_m2a, sI_m2b, sI_sub, pk_mul, sI_dec, fk_u_s, fk_u_o, sI_dec0, sI_z, sI_md, Bool.false_eq_true, Nat.reduceAdd, Nat.reduceMul, Nat.reduceSub, Nat.reduceMod, Nat.reduceDiv]
        · have b1 : fk_tb (fk_sz (ab_RC v (nI x) a)) b = true := fk_sz_t.mpr ⟨hb, Classical.byContradiction C⟩
          refine ⟨best, .int (nI 1), i2, i3, ?_, fun z hz1 hz2 hz3 => ?_, ?_⟩
          · by_cases t0 : tr = 0
            · exact Or.inr (i5 t0).2
            · rcases i6 (by omega) with h | h
              · exact Or.inl (by omega)
              · exact Or.inr h
          · by_cases e : z = x
            · subst e; exact absurd hz3 C
            · exact i7 z (by omega) hz2 hz3
          · simp (disch := first | assumption | omega) only [rX5_fewestClosed, hr, fk_has0, b1, Option.bind_some, Option.toList_some, Option.toList_none, List.cons_append, List.nil_append, fk_b_0, nI_add, Nat.add_zero, Nat.zero_add, not_true_eq_false, not_false_eq_true, if_true, if_false, sI_le_t, sI_le_f, sI_lt_t, sI_lt_f, sI_eq_t, sI_eq_f, sI_rem, sI_div, sI_m1a, sI_m1b, sI_m1c, sI_m1d, sI_m1e, sI_m1f, sI_m2a, sI_m2b, sI_sub, pk_mul, sI_dec, fk_u_s, fk_u_o, sI_dec0, sI_z, sI_md, Bool.false_eq_true, Nat.reduceAdd, Nat.reduceMul, Nat.reduceSub, Nat.reduceMod, Nat.reduceDiv]
      · have t0 : tr ≠ 0 := fun z => F (Or.inl z)
        have ge : fk_cd (nI best) ≤ fk_cd (nI x) := by
          have : ¬ fk_cd (nI x) < fk_cd (nI best) := fun z => F (Or.inr z)
          omega
        refine ⟨best, .int (nI 0), i2, i3, ?_, fun z hz1 hz2 hz3 => ?_, ?_⟩
        · rcases i6 (by omega) with h | h
          · exact Or.inl (by omega)
          · exact Or.inr h
        · by_cases e : z = x
          · subst e
            by_cases e2 : fk_cd (nI best) = fk_cd (nI z)
            · refine Or.inr ⟨e2, ?_⟩
              rcases i6 (by omega) with h | h
              · omega
              · subst h
                rw [ab_cd_su hB i1 e2.symm]
                exact Nat.le_refl _
            · exact Or.inl (by omega)
          · exact i7 z (by omega) hz2 hz3
        · rw [hX5_fewestClosed_31]
          simp (disch := first | assumption | omega) only [rX5_fewestClosed, mJ6_bitCount, ck_bc_m hx, ck_bc_m hbst, Option.bind_some, Option.toList_some, Option.toList_none, List.cons_append, List.nil_append, fk_b_0, nI_add, Nat.add_zero, Nat.zero_add, not_true_eq_false, not_false_eq_true, if_true, if_false, sI_le_t, sI_le_f, sI_lt_t, sI_lt_f, sI_eq_t, sI_eq_f, sI_rem, sI_div, sI_m1a, sI_m1b, sI_m1c, sI_m1d, sI_m1e, sI_m1f, sI_m2a, sI_m2b, sI_sub, pk_mul, sI_dec, fk_u_s, fk_u_o, sI_dec0, sI_z, sI_md, Bool.false_eq_true, Nat.reduceAdd, Nat.reduceMul, Nat.reduceSub, Nat.reduceMod, Nat.reduceDiv]
    obtain ⟨best', fw', s1, s2, s3, s4, e⟩ := step
    have hbst' : best' < 65536 := Nat.lt_of_le_of_lt (fk_su_le s1) hB
    obtain ⟨nx1, nx2⟩ := fk_nxt hB i1
    by_cases c : x = B
    · have e0 := nx1 c
      refine Or.inl ⟨best', ⟨⟨s1, s2⟩, fun z hz => s4 z (by have := fk_su_le hz.1; omega) hz.1 hz.2⟩, hbst', ?_⟩
      rw [e]
      simp (disch := first | assumption | omega) only [rX5_fewestClosed, e0, not_true_eq_false, if_false]
    · obtain ⟨x', n1, n2, n3, n4, n5⟩ := nx2 c
      have lt1 : 65536 - x' < k := Nat.lt_of_lt_of_le (Nat.sub_lt_sub_left hx n4) i8
      refine Or.inr ⟨65536 - x', ((x', best', tr + 1), fw'), lt1, ?_, n3, s1, s2, by dsimp only; omega, fun h => by dsimp only at h; omega, fun _ => ?_, fun z hz1 hz2 hz3 => ?_, Nat.le_refl _⟩
      · rw [e]
        have nz : ¬ nI x' = nI 0 := by rw [sI_eq_f (by omega) (by omega) (by omega)]; exact id
        simp (disch := first | assumption | omega) only [rX5_fewestClosed, n2, nz, not_false_eq_true, if_true, nI_add]
      · try dsimp only
        rcases s3 with h | h
        · exact Or.inl (by omega)
        · exact Or.inr h
      · try dsimp only at hz1 ⊢
        refine s4 z ?_ hz2 hz3
        refine Classical.byContradiction fun w => ?_
        have := n5 z hz2 (by omega)
        omega) 65537 65536 ((0, B, 0), .null) (by omega) ⟨fun i hi => by rw [Nat.zero_testBit] at hi; exact absurd hi (by decide), fun _ h => h, hcB, Nat.le_refl _, fun _ => ⟨rfl, rfl⟩, fun h => by dsimp only at h; omega, fun z hz => by dsimp only at hz; omega, by dsimp only; omega⟩
  exact key
theorem mX12_closed_loop {M : Nat} {w : Value} (hv : ab_rv y) (ha : a < 16) (hb : b < 16) (hM : M < 65536) : ∃ best : Int32, ((best = (-1) ∧ ∀ z, fk_su z M → ¬ ab_cut y a b z) ∨ ∃ bst, best = nI bst ∧ bst < 65536 ∧ ab_LM (fun z => fk_su z M ∧ ab_cut y a b z) bst) ∧ fk_ev (d + 3) qX12_closed 54 [.ref 246, .int (nI a), .int (nI b), w, .int (nI M), .int (-1), .int (nI 0)] [] (fk_E N y l) = fk_ev (d + 3) qX12_closed 54 [.ref 246, .int (nI a), .int (nI b), w, .int (nI M), .int best, .int (nI (M + 1))] [] (fk_E N y l) := by
  have key := fk_loopr (σ := Int32) (fun k s => fk_ev (d + 3) qX12_closed 54 [.ref 246, .int (nI a), .int (nI b), w, .int (nI M), .int s, .int (nI k)] [] (fk_E N y l)) (fun k s => (s = (-1) ∧ ∀ z, z < k → fk_su z M → ¬ ab_cut y a b z) ∨ ∃ bst, s = nI bst ∧ bst < k ∧ (fk_su bst M ∧ ab_cut y a b bst) ∧ ∀ z, z < k → fk_su z M → ab_cut y a b z → fk_cd (nI bst) < fk_cd (nI z) ∨ (fk_cd (nI bst) = fk_cd (nI z) ∧ bst ≤ z)) (M + 1) (by
    intro k s hk i1
    try dsimp only
    have hk6 : k < 65536 := by omega
    have em : nI k &&& (nI M ^^^ (-1)) = nI 0 ↔ fk_su k M := by
      constructor
      · intro h i hi
        refine Classical.byContradiction fun z => ?_
        have i16 := fk_16 hk6 hi
        have : fk_tb (nI k &&& (nI M ^^^ (-1))) i = true := by
          rw [fk_tb_and, Bool.and_eq_true, fk_tb_nt (by omega), fk_tbn hk6, fk_tbn hM]
          exact ⟨hi, z⟩
        rw [h, fk_tb_0] at this
        exact absurd this (by decide)
      · intro h
        refine Classical.byContradiction fun z => ?_
        obtain ⟨i, hi⟩ := fk_nz z
        rw [fk_tb_and, Bool.and_eq_true, fk_tbn hk6] at hi
        have i16 := fk_16 hk6 hi.1
        have h2 := hi.2
        rw [fk_tb_nt (by omega), fk_tbn hM] at h2
        exact h2 (h i hi.1)
    have hr := mX12_reachedFrom (N := N) (l := l) (d := d) (shut := nI k) hv ha
    have ck := fk_cd_le (s := nI k)
    have same : (¬ (fk_su k M ∧ ab_cut y a b k)) → ((s = (-1) ∧ ∀ z, z < k + 1 → fk_su z M → ¬ ab_cut y a b z) ∨ ∃ bst, s = nI bst ∧ bst < k + 1 ∧ (fk_su bst M ∧ ab_cut y a b bst) ∧ ∀ z, z < k + 1 → fk_su z M → ab_cut y a b z → fk_cd (nI bst) < fk_cd (nI z) ∨ (fk_cd (nI bst) = fk_cd (nI z) ∧ bst ≤ z)) := by
      intro hno
      rcases i1 with ⟨h1, h2⟩ | ⟨bst, h1, h2, h3, h4⟩
      · refine Or.inl ⟨h1, fun z hz hs hc => ?_⟩
        by_cases e : z = k
        · subst e; exact hno ⟨hs, hc⟩
        · exact h2 z (by omega) hs hc
      · refine Or.inr ⟨bst, h1, by omega, h3, fun z hz hs hc => ?_⟩
        by_cases e : z = k
        · subst e; exact absurd ⟨hs, hc⟩ hno
        · exact h4 z (by omega) hs hc
    rw [hX12_closed_54]
    by_cases c1 : fk_su k M
    · have e1 := em.mpr c1
      by_cases C : ab_cut y a b k
      · have b1 : ¬ fk_tb (fk_sz (ab_RC y (nI k) a)) b = true := fun z => C (fk_sz_t.mp z).2
        rcases id i1 with ⟨h1, h2⟩ | ⟨bst, h1, h2, h3, h4⟩
        · subst h1
          refine ⟨nI k, ?_, Or.inr ⟨k, rfl, by omega, ⟨c1, C⟩, fun z hz hs hc => ?_⟩⟩
          · simp (disch := first | assumption | omega) only [rX12_closed, e1, hr, mX12_has, fk_has1, b1, Option.bind_some, Option.toList_some, Option.toList_none, List.cons_append, List.nil_append, fk_b_0, nI_add, Nat.add_zero, Nat.zero_add, not_true_eq_false, not_false_eq_true, if_true, if_false, sI_le_t, sI_le_f, sI_lt_t, sI_lt_f, sI_eq_t, sI_eq_f, sI_rem, sI_div, sI_m1a, sI_m1b, sI_m1c, sI_m1d, sI_m1e, sI_m1f, sI_m2a, sI_m2b, sI_sub, pk_mul, sI_dec, fk_u_s, fk_u_o, sI_dec0, sI_z, sI_md, Bool.false_eq_true, Nat.reduceAdd, Nat.reduceMul, Nat.reduceSub, Nat.reduceMod, Nat.reduceDiv]
          · by_cases e : z = k
            · subst e; exact Or.inr ⟨rfl, Nat.le_refl _⟩
            · exact absurd hc (h2 z (by omega) hs)
        · subst h1
          have cb := fk_cd_le (s := nI bst)
          by_cases lt : fk_cd (nI k) < fk_cd (nI bst)
          · refine ⟨nI k, ?_, Or.inr ⟨k, rfl, by omega, ⟨c1, C⟩, fun z hz hs hc => ?_⟩⟩
            · simp (disch := first | assumption | omega) only [rX12_closed, e1, mX12_bits, fk_bits_cd, hr, mX12_has, fk_has1, b1, Option.bind_some, Option.toList_some, Option.toList_none, List.cons_append, List.nil_append, fk_b_0, nI_add, Nat.add_zero, Nat.zero_add, not_true_eq_false, not_false_eq_true, if_true, if_false, sI_le_t, sI_le_f, sI_lt_t, sI_lt_f, sI_eq_t, sI_eq_f, sI_rem, sI_div, sI_m1a, sI_m1b, sI_m1c, sI_m1d, sI_m1e, sI_m1f, sI_m2a, sI_m2b, sI_sub, pk_mul, sI_dec, fk_u_s, fk_u_o, sI_dec0, sI_z, sI_md, Bool.false_eq_true, Nat.reduceAdd, Nat.reduceMul, Nat.reduceSub, Nat.reduceMod, Nat.reduceDiv]
            · by_cases e : z = k
              · subst e; exact Or.inr ⟨rfl, Nat.le_refl _⟩
              · have := h4 z (by omega) hs hc
                omega
          · refine ⟨nI bst, ?_, Or.inr ⟨bst, rfl, by omega, h3, fun z hz hs hc => ?_⟩⟩
            · simp (disch := first | assumption | omega) only [rX12_closed, e1, mX12_bits, fk_bits_cd, Option.bind_some, Option.toList_some, Option.toList_none, List.cons_append, List.nil_append, fk_b_0, nI_add, Nat.add_zero, Nat.zero_add, not_true_eq_false, not_false_eq_true, if_true, if_false, sI_le_t, sI_le_f, sI_lt_t, sI_lt_f, sI_eq_t, sI_eq_f, sI_rem, sI_div, sI_m1a, sI_m1b, sI_m1c, sI_m1d, sI_m1e, sI_m1f, sI_m2a, sI_m2b, sI_sub, pk_mul, sI_dec, fk_u_s, fk_u_o, sI_dec0, sI_z, sI_md, Bool.false_eq_true, Nat.reduceAdd, Nat.reduceMul, Nat.reduceSub, Nat.reduceMod, Nat.reduceDiv]
            · by_cases e : z = k
              · subst e
                by_cases e2 : fk_cd (nI bst) = fk_cd (nI z)
                · exact Or.inr ⟨e2, by omega⟩
                · exact Or.inl (by omega)
              · exact h4 z (by omega) hs hc
      · have b1 : fk_tb (fk_sz (ab_RC y (nI k) a)) b = true := fk_sz_t.mpr ⟨hb, Classical.byContradiction C⟩
        rcases id i1 with ⟨h1, h2⟩ | ⟨bst, h1, h2, h3, h4⟩
        · subst h1
          refine ⟨(-1), ?_, same fun z => C z.2⟩
          simp (disch := first | assumption | omega) only [rX12_closed, e1, hr, mX12_has, fk_has1, b1, Option.bind_some, Option.toList_some, Option.toList_none, List.cons_append, List.nil_append, fk_b_0, nI_add, Nat.add_zero, Nat.zero_add, not_true_eq_false, not_false_eq_true, if_true, if_false, sI_le_t, sI_le_f, sI_lt_t, sI_lt_f, sI_eq_t, sI_eq_f, sI_rem, sI_div, sI_m1a, sI_m1b, sI_m1c, sI_m1d, sI_m1e, sI_m1f, sI_m2a, sI_m2b, sI_sub, pk_mul, sI_dec, fk_u_s, fk_u_o, sI_dec0, sI_z, sI_md, Bool.false_eq_true, Nat.reduceAdd, Nat.reduceMul, Nat.reduceSub, Nat.reduceMod, Nat.reduceDiv]
        · subst h1
          have cb := fk_cd_le (s := nI bst)
          by_cases lt : fk_cd (nI k) < fk_cd (nI bst)
          · refine ⟨nI bst, ?_, same fun z => C z.2⟩
            simp (disch := first | assumption | omega) only [rX12_closed, e1, mX12_bits, fk_bits_cd, hr, mX12_has, fk_has1, b1, Option.bind_some, Option.toList_some, Option.toList_none, List.cons_append, List.nil_append, fk_b_0, nI_add, Nat.add_zero, Nat.zero_add, not_true_eq_false, not_false_eq_true, if_true, if_false, sI_le_t, sI_le_f, sI_lt_t, sI_lt_f, sI_eq_t, sI_eq_f, sI_rem, sI_div, sI_m1a, sI_m1b, sI_m1c, sI_m1d, sI_m1e, sI_m1f, sI_m2a, sI_m2b, sI_sub, pk_mul, sI_dec, fk_u_s, fk_u_o, sI_dec0, sI_z, sI_md, Bool.false_eq_true, Nat.reduceAdd, Nat.reduceMul, Nat.reduceSub, Nat.reduceMod, Nat.reduceDiv]
          · refine ⟨nI bst, ?_, same fun z => C z.2⟩
            simp (disch := first | assumption | omega) only [rX12_closed, e1, mX12_bits, fk_bits_cd, Option.bind_some, Option.toList_some, Option.toList_none, List.cons_append, List.nil_append, fk_b_0, nI_add, Nat.add_zero, Nat.zero_add, not_true_eq_false, not_false_eq_true, if_true, if_false, sI_le_t, sI_le_f, sI_lt_t, sI_lt_f, sI_eq_t, sI_eq_f, sI_rem, sI_div, sI_m1a, sI_m1b, sI_m1c, sI_m1d, sI_m1e, sI_m1f, sI_m2a, sI_m2b, sI_sub, pk_mul, sI_dec, fk_u_s, fk_u_o, sI_dec0, sI_z, sI_md, Bool.false_eq_true, Nat.reduceAdd, Nat.reduceMul, Nat.reduceSub, Nat.reduceMod, Nat.reduceDiv]
    · have e1 : ¬ nI k &&& (nI M ^^^ (-1)) = nI 0 := fun z => c1 (em.mp z)
      refine ⟨s, ?_, same fun z => c1 z.1⟩
      simp (disch := first | assumption | omega) only [rX12_closed, e1, Option.bind_some, Option.toList_some, Option.toList_none, List.cons_append, List.nil_append, fk_b_0, nI_add, Nat.add_zero, Nat.zero_add, not_true_eq_false, not_false_eq_true, if_true, if_false, sI_le_t, sI_le_f, sI_lt_t, sI_lt_f, sI_eq_t, sI_eq_f, sI_rem, sI_div, sI_m1a, sI_m1b, sI_m1c, sI_m1d, sI_m1e, sI_m1f, sI_m2a, sI_m2b, sI_sub, pk_mul, sI_dec, fk_u_s, fk_u_o, sI_dec0, sI_z, sI_md, Bool.false_eq_true, Nat.reduceAdd, Nat.reduceMul, Nat.reduceSub, Nat.reduceMod, Nat.reduceDiv]) (M + 1) 0 (-1) (Nat.zero_add _) (Or.inl ⟨rfl, fun z hz => by omega⟩)
  obtain ⟨s, e, i1⟩ := key
  refine ⟨s, ?_, e⟩
  rcases i1 with ⟨h1, h2⟩ | ⟨bst, h1, h2, h3, h4⟩
  · exact Or.inl ⟨h1, fun z hz => h2 z (by have := fk_su_le hz; omega) hz⟩
  · exact Or.inr ⟨bst, h1, by omega, h3, fun z hz => h4 z (by have := fk_su_le hz.1; omega) hz.1 hz.2⟩
theorem fk_2c {w : Int32} : (∃ k : Nat, k < 2 ∧ w = nI k) ∨ ¬ (nI 0 ≤ w ∧ w < nI 2) ∧ ¬ (nI 0 ≤ w ∧ w ≤ nI 1) := by
  by_cases h : nI 0 ≤ w ∧ w < nI 2
  · exact Or.inl (fk_ixn h.1 h.2 (by omega))
  · exact Or.inr ⟨h, fun z => h ⟨z.1, Int32.lt_of_le_of_lt z.2 (by decide)⟩⟩
theorem cl_closed (hR : cR S y) {f g w : Int32} : ∃ a, fk_ev (d + 8) qX11_closed 0 [.ref 1, .int f, .int g, .int w, .null] [] (fk_E N y l) = some (some (.int a), fk_E N y l) ∧ fk_ev (d + 8) qX12_closed 0 [.ref 246, .int f, .int g, .int w, .null, .null, .null] [] (fk_E N y l) = some (some (.int a), fk_E N y l) := by
  obtain ⟨r0, r1, r2, _⟩ := id hR
  by_cases h1 : nI 0 ≤ f ∧ f < nI 16
  · by_cases h2 : nI 0 ≤ g ∧ g < nI 16
    · by_cases h3 : f = g
      · refine ⟨(-1), ?_, ?_⟩
        · simp (disch := first | assumption | omega) only [rX11_closed, mX11_within, h1, h2, h3, and_self, Option.bind_some, Option.toList_some, Option.toList_none, List.cons_append, List.nil_append, fk_b_0, nI_add, Nat.add_zero, Nat.zero_add, not_true_eq_false, not_false_eq_true, if_true, if_false, sI_le_t, sI_le_f, sI_lt_t, sI_lt_f, sI_eq_t, sI_eq_f, sI_rem, sI_div, sI_m1a, sI_m1b, sI_m1c, sI_m1d, sI_m1e, sI_m1f, sI_m2a, sI_m2b, sI_sub, pk_mul, sI_dec, fk_u_s, fk_u_o, sI_dec0, sI_z, sI_md, Bool.false_eq_true, Nat.reduceAdd, Nat.reduceMul, Nat.reduceSub, Nat.reduceMod, Nat.reduceDiv]
        · simp (disch := first | assumption | omega) only [rX12_closed, mX12_isPlace, h1, h2, h3, and_self, Option.bind_some, Option.toList_some, Option.toList_none, List.cons_append, List.nil_append, fk_b_0, nI_add, Nat.add_zero, Nat.zero_add, not_true_eq_false, not_false_eq_true, if_true, if_false, sI_le_t, sI_le_f, sI_lt_t, sI_lt_f, sI_eq_t, sI_eq_f, sI_rem, sI_div, sI_m1a, sI_m1b, sI_m1c, sI_m1d, sI_m1e, sI_m1f, sI_m2a, sI_m2b, sI_sub, pk_mul, sI_dec, fk_u_s, fk_u_o, sI_dec0, sI_z, sI_md, Bool.false_eq_true, Nat.reduceAdd, Nat.reduceMul, Nat.reduceSub, Nat.reduceMod, Nat.reduceDiv]
      · rcases fk_2c (w := w) with ⟨k, hk, rfl⟩ | ⟨w1, w2⟩
        · obtain ⟨a, ha, rfl⟩ := fk_ixn h1.1 h1.2 (by omega)
          obtain ⟨b, hb, rfl⟩ := fk_ixn h2.1 h2.2 (by omega)
          have hab : a ≠ b := fun z => h3 (by rw [z])
          obtain ⟨M, hM, eM⟩ := fk_num (s := fk_sz (ab_RC y (nI 0) a) &&& ((nI 1 <<< (nI a &&& 31) ||| nI 1 <<< (nI b &&& 31)) ^^^ (-1))) fun i hi => by
            rw [fk_tb_and, Bool.and_eq_true, fk_sz_t] at hi
            exact hi.1.1
          have mM : ∀ q, M.testBit q = true ↔ ab_RC y (nI 0) a q ∧ q ≠ a ∧ q ≠ b := fun q => by
            rw [← fk_tbn hM, ← eM, fk_tb_and, Bool.and_eq_true, fk_sz_t]
            constructor
            · rintro ⟨⟨g1, g2⟩, g3⟩
              rw [fk_tb_nt (by omega), fk_tb_or, Bool.or_eq_true, fk_tb_bitI (by omega), fk_tb_bitI (by omega)] at g3
              exact ⟨g2, fun e => g3 (Or.inl e), fun e => g3 (Or.inr e)⟩
            · rintro ⟨g1, g2, g3⟩
              have g4 := ab_RC_lt ha q g1
              rw [fk_tb_nt (by omega), fk_tb_or, Bool.or_eq_true, fk_tb_bitI (by omega), fk_tb_bitI (by omega)]
              exact ⟨⟨g4, g1⟩, fun e => by rcases e with e | e; exact g2 e; exact g3 e⟩
          obtain ⟨best, hbest, e2⟩ := mX12_closed_loop (N := N) (l := l) (d := d + 5) (w := .int (nI k)) r1 ha hb hM
          have E2 : fk_ev (d + 8) qX12_closed 0 [.ref 246, .int (nI a), .int (nI b), .int (nI k), .null, .null, .null] [] (fk_E N y l) = fk_ev (d + 8) qX12_closed 117 [.ref 246, .int (nI a), .int (nI b), .int (nI k), .int (nI M), .int best, .int (nI (M + 1))] [] (fk_E N y l) := by
            have kle : nI 0 ≤ nI k ∧ nI k ≤ nI 1 := ⟨nI_le (by omega) (by omega), nI_le (by omega) (by omega)⟩
            have st : fk_ev (d + 8) qX12_closed 0 [.ref 246, .int (nI a), .int (nI b), .int (nI k), .null, .null, .null] [] (fk_E N y l) = fk_ev (d + 8) qX12_closed 54 [.ref 246, .int (nI a), .int (nI b), .int (nI k), .int (nI M), .int (-1), .int (nI 0)] [] (fk_E N y l) := by
              simp (disch := first | assumption | omega) only [rX12_closed, mX12_isPlace, mX12_in, and_self, mX12_reachedFrom r1 ha, eM, Option.bind_some, Option.toList_some, Option.toList_none, List.cons_append, List.nil_append, fk_b_0, nI_add, Nat.add_zero, Nat.zero_add, not_true_eq_false, not_false_eq_true, if_true, if_false, sI_le_t, sI_le_f, sI_lt_t, sI_lt_f, sI_eq_t, sI_eq_f, sI_rem, sI_div, sI_m1a, sI_m1b, sI_m1c, sI_m1d, sI_m1e, sI_m1f, sI_m2a, sI_m2b, sI_sub, pk_mul, sI_dec, fk_u_s, fk_u_o, sI_dec0, sI_z, sI_md, Bool.false_eq_true, Nat.reduceAdd, Nat.reduceMul, Nat.reduceSub, Nat.reduceMod, Nat.reduceDiv]
            rw [st, e2, hX12_closed_54]
            simp (disch := first | assumption | omega) only [rX12_closed, Option.bind_some, Option.toList_some, Option.toList_none, List.cons_append, List.nil_append, fk_b_0, nI_add, Nat.add_zero, Nat.zero_add, not_true_eq_false, not_false_eq_true, if_true, if_false, sI_le_t, sI_le_f, sI_lt_t, sI_lt_f, sI_eq_t, sI_eq_f, sI_rem, sI_div, sI_m1a, sI_m1b, sI_m1c, sI_m1d, sI_m1e, sI_m1f, sI_m2a, sI_m2b, sI_sub, pk_mul, sI_dec, fk_u_s, fk_u_o, sI_dec0, sI_z, sI_md, Bool.false_eq_true, Nat.reduceAdd, Nat.reduceMul, Nat.reduceSub, Nat.reduceMod, Nat.reduceDiv]
          by_cases hE : ab_E y a b
          · have b1 : fk_tb (y 24 a) b = true := (ck_nt_E r2 ha).mpr hE
            have hbm : best = (-1) := by
              rcases hbest with ⟨h, _⟩ | ⟨bst, _, _, hl⟩
              · exact h
              · refine absurd (ab_RC_s (ab_RC_0 (v := y) (shut := nI bst)) hE ?_) hl.1.2
                have hbl : bst < 65536 := Nat.lt_of_le_of_lt (fk_su_le hl.1.1) hM
                rw [fk_tbn hbl]
                exact fun z => ((mM b).mp (hl.1.1 b z)).2.2 rfl
            subst hbm
            refine ⟨(-2), ?_, ?_⟩
            · have fc : fk_ev (d + 7) qX5_fewestClosed 0 [.ref 18, .int ((nI a)), .int ((nI b)), .null, .null, .null, .null, .null] [] (fk_E N y l) = some (some (.int ((-1))), fk_E N y l) := by
                simp (disch := first | assumption | omega) only [rX5_fewestClosed, fk_has0, b1, Option.bind_some, Option.toList_some, Option.toList_none, List.cons_append, List.nil_append, fk_b_0, nI_add, Nat.add_zero, Nat.zero_add, not_true_eq_false, not_false_eq_true, if_true, if_false, sI_le_t, sI_le_f, sI_lt_t, sI_lt_f, sI_eq_t, sI_eq_f, sI_rem, sI_div, sI_m1a, sI_m1b, sI_m1c, sI_m1d, sI_m1e, sI_m1f, sI_m2a, sI_m2b, sI_sub, pk_mul, sI_dec, fk_u_s, fk_u_o, sI_dec0, sI_z, sI_md, Bool.false_eq_true, Nat.reduceAdd, Nat.reduceMul, Nat.reduceSub, Nat.reduceMod, Nat.reduceDiv]
              simp (disch := first | assumption | omega) only [rX11_closed, mX11_within, and_self, fc, show (nI 0 ≤ (-1 : Int32)) = False from eq_false (by decide), Option.bind_some, Option.toList_some, Option.toList_none, List.cons_append, List.nil_append, fk_b_0, nI_add, Nat.add_zero, Nat.zero_add, not_true_eq_false, not_false_eq_true, if_true, if_false, sI_le_t, sI_le_f, sI_lt_t, sI_lt_f, sI_eq_t, sI_eq_f, sI_rem, sI_div, sI_m1a, sI_m1b, sI_m1c, sI_m1d, sI_m1e, sI_m1f, sI_m2a, sI_m2b, sI_sub, pk_mul, sI_dec, fk_u_s, fk_u_o, sI_dec0, sI_z, sI_md, Bool.false_eq_true, Nat.reduceAdd, Nat.reduceMul, Nat.reduceSub, Nat.reduceMod, Nat.reduceDiv]
            · rw [E2]
              simp (disch := first | assumption | omega) only [rX12_closed, Option.bind_some, Option.toList_some, Option.toList_none, List.cons_append, List.nil_append, fk_b_0, nI_add, Nat.add_zero, Nat.zero_add, not_true_eq_false, not_false_eq_true, if_true, if_false, sI_le_t, sI_le_f, sI_lt_t, sI_lt_f, sI_eq_t, sI_eq_f, sI_rem, sI_div, sI_m1a, sI_m1b, sI_m1c, sI_m1d, sI_m1e, sI_m1f, sI_m2a, sI_m2b, sI_sub, pk_mul, sI_dec, fk_u_s, fk_u_o, sI_dec0, sI_z, sI_md, Bool.false_eq_true, Nat.reduceAdd, Nat.reduceMul, Nat.reduceSub, Nat.reduceMod, Nat.reduceDiv]
          · have b1 : ¬ fk_tb (y 24 a) b = true := fun z => hE ((ck_nt_E r2 ha).mp z)
            obtain ⟨B, hB, eB⟩ := fk_num (s := fk_sz (ab_bt y a b)) fun i hi => (fk_sz_t.mp hi).1
            have mB : ∀ q, B.testBit q = true ↔ q < 16 ∧ ab_bt y a b q := fun q => by rw [← fk_tbn hB, ← eB, fk_sz_t]
            have cB : ab_cut y a b B := ab_bt_cut ha hb hab hE fun q => by rw [fk_tbn hB]; exact mB q
            obtain ⟨bst, l1, l2, l3⟩ := mX5_fewest_loop (N := N) (l := l) (d := d + 4) r2 ha hb hB cB
            have l4 := ab_LM_bt ha hb hab hM hB mM mB l1
            have hbm : best = nI bst := by
              rcases hbest with ⟨_, h⟩ | ⟨bst', h, _, hl⟩
              · exact absurd l4.1.2 (h bst l4.1.1)
              · rw [h, ab_LM_inj hl l4]
            subst hbm
            have fc : fk_ev (d + 7) qX5_fewestClosed 0 [.ref 18, .int ((nI a)), .int ((nI b)), .null, .null, .null, .null, .null] [] (fk_E N y l) = some (some (.int ((nI bst))), fk_E N y l) := by
              simp (disch := first | assumption | omega) only [rX5_fewestClosed, fk_has0, b1, mX5_onTheWay r2 ha hb, eB, Option.bind_some, Option.toList_some, Option.toList_none, List.cons_append, List.nil_append, fk_b_0, nI_add, Nat.add_zero, Nat.zero_add, not_true_eq_false, not_false_eq_true, if_true, if_false, sI_le_t, sI_le_f, sI_lt_t, sI_lt_f, sI_eq_t, sI_eq_f, sI_rem, sI_div, sI_m1a, sI_m1b, sI_m1c, sI_m1d, sI_m1e, sI_m1f, sI_m2a, sI_m2b, sI_sub, pk_mul, sI_dec, fk_u_s, fk_u_o, sI_dec0, sI_z, sI_md, Bool.false_eq_true, Nat.reduceAdd, Nat.reduceMul, Nat.reduceSub, Nat.reduceMod, Nat.reduceDiv]
              exact l3
            have cb := fk_cd_le (s := nI bst)
            have hh : k = 0 ∨ k = 1 := by omega
            rcases hh with rfl | rfl
            · refine ⟨nI (fk_cd (nI bst)), ?_, ?_⟩
              · simp (disch := first | assumption | omega) only [rX11_closed, mX11_within, and_self, fc, mJ6_bitCount, ck_bc_m l2, Option.bind_some, Option.toList_some, Option.toList_none, List.cons_append, List.nil_append, fk_b_0, nI_add, Nat.add_zero, Nat.zero_add, not_true_eq_false, not_false_eq_true, if_true, if_false, sI_le_t, sI_le_f, sI_lt_t, sI_lt_f, sI_eq_t, sI_eq_f, sI_rem, sI_div, sI_m1a, sI_m1b, sI_m1c, sI_m1d, sI_m1e, sI_m1f, sI_m2a, sI_m2b, sI_sub, pk_mul, sI_dec, fk_u_s, fk_u_o, sI_dec0, sI_z, sI_md, Bool.false_eq_true, Nat.reduceAdd, Nat.reduceMul, Nat.reduceSub, Nat.reduceMod, Nat.reduceDiv]
              · rw [E2]
                simp (disch := first | assumption | omega) only [rX12_closed, mX12_bits, fk_bits_cd, Option.bind_some, Option.toList_some, Option.toList_none, List.cons_append, List.nil_append, fk_b_0, nI_add, Nat.add_zero, Nat.zero_add, not_true_eq_false, not_false_eq_true, if_true, if_false, sI_le_t, sI_le_f, sI_lt_t, sI_lt_f, sI_eq_t, sI_eq_f, sI_rem, sI_div, sI_m1a, sI_m1b, sI_m1c, sI_m1d, sI_m1e, sI_m1f, sI_m2a, sI_m2b, sI_sub, pk_mul, sI_dec, fk_u_s, fk_u_o, sI_dec0, sI_z, sI_md, Bool.false_eq_true, Nat.reduceAdd, Nat.reduceMul, Nat.reduceSub, Nat.reduceMod, Nat.reduceDiv]
            · refine ⟨nI bst, ?_, ?_⟩
              · simp (disch := first | assumption | omega) only [rX11_closed, mX11_within, and_self, fc, Option.bind_some, Option.toList_some, Option.toList_none, List.cons_append, List.nil_append, fk_b_0, nI_add, Nat.add_zero, Nat.zero_add, not_true_eq_false, not_false_eq_true, if_true, if_false, sI_le_t, sI_le_f, sI_lt_t, sI_lt_f, sI_eq_t, sI_eq_f, sI_rem, sI_div, sI_m1a, sI_m1b, sI_m1c, sI_m1d, sI_m1e, sI_m1f, sI_m2a, sI_m2b, sI_sub, pk_mul, sI_dec, fk_u_s, fk_u_o, sI_dec0, sI_z, sI_md, Bool.false_eq_true, Nat.reduceAdd, Nat.reduceMul, Nat.reduceSub, Nat.reduceMod, Nat.reduceDiv]
              · rw [E2]
                simp (disch := first | assumption | omega) only [rX12_closed, Option.bind_some, Option.toList_some, Option.toList_none, List.cons_append, List.nil_append, fk_b_0, nI_add, Nat.add_zero, Nat.zero_add, not_true_eq_false, not_false_eq_true, if_true, if_false, sI_le_t, sI_le_f, sI_lt_t, sI_lt_f, sI_eq_t, sI_eq_f, sI_rem, sI_div, sI_m1a, sI_m1b, sI_m1c, sI_m1d, sI_m1e, sI_m1f, sI_m2a, sI_m2b, sI_sub, pk_mul, sI_dec, fk_u_s, fk_u_o, sI_dec0, sI_z, sI_md, Bool.false_eq_true, Nat.reduceAdd, Nat.reduceMul, Nat.reduceSub, Nat.reduceMod, Nat.reduceDiv]
        · refine ⟨(-1), ?_, ?_⟩
          · simp (disch := first | assumption | omega) only [rX11_closed, mX11_within, h1, h2, h3, and_self, w1, Option.bind_some, Option.toList_some, Option.toList_none, List.cons_append, List.nil_append, fk_b_0, nI_add, Nat.add_zero, Nat.zero_add, not_true_eq_false, not_false_eq_true, if_true, if_false, sI_le_t, sI_le_f, sI_lt_t, sI_lt_f, sI_eq_t, sI_eq_f, sI_rem, sI_div, sI_m1a, sI_m1b, sI_m1c, sI_m1d, sI_m1e, sI_m1f, sI_m2a, sI_m2b, sI_sub, pk_mul, sI_dec, fk_u_s, fk_u_o, sI_dec0, sI_z, sI_md, Bool.false_eq_true, Nat.reduceAdd, Nat.reduceMul, Nat.reduceSub, Nat.reduceMod, Nat.reduceDiv]
          · simp (disch := first | assumption | omega) only [rX12_closed, mX12_isPlace, mX12_in, h1, h2, h3, and_self, w2, Option.bind_some, Option.toList_some, Option.toList_none, List.cons_append, List.nil_append, fk_b_0, nI_add, Nat.add_zero, Nat.zero_add, not_true_eq_false, not_false_eq_true, if_true, if_false, sI_le_t, sI_le_f, sI_lt_t, sI_lt_f, sI_eq_t, sI_eq_f, sI_rem, sI_div, sI_m1a, sI_m1b, sI_m1c, sI_m1d, sI_m1e, sI_m1f, sI_m2a, sI_m2b, sI_sub, pk_mul, sI_dec, fk_u_s, fk_u_o, sI_dec0, sI_z, sI_md, Bool.false_eq_true, Nat.reduceAdd, Nat.reduceMul, Nat.reduceSub, Nat.reduceMod, Nat.reduceDiv]
    · refine ⟨(-1), ?_, ?_⟩
      · simp (disch := first | assumption | omega) only [rX11_closed, mX11_within, h1, h2, and_self, Option.bind_some, Option.toList_some, Option.toList_none, List.cons_append, List.nil_append, fk_b_0, nI_add, Nat.add_zero, Nat.zero_add, not_true_eq_false, not_false_eq_true, if_true, if_false, sI_le_t, sI_le_f, sI_lt_t, sI_lt_f, sI_eq_t, sI_eq_f, sI_rem, sI_div, sI_m1a, sI_m1b, sI_m1c, sI_m1d, sI_m1e, sI_m1f, sI_m2a, sI_m2b, sI_sub, pk_mul, sI_dec, fk_u_s, fk_u_o, sI_dec0, sI_z, sI_md, Bool.false_eq_true, Nat.reduceAdd, Nat.reduceMul, Nat.reduceSub, Nat.reduceMod, Nat.reduceDiv]
      · simp (disch := first | assumption | omega) only [rX12_closed, mX12_isPlace, h1, h2, and_self, Option.bind_some, Option.toList_some, Option.toList_none, List.cons_append, List.nil_append, fk_b_0, nI_add, Nat.add_zero, Nat.zero_add, not_true_eq_false, not_false_eq_true, if_true, if_false, sI_le_t, sI_le_f, sI_lt_t, sI_lt_f, sI_eq_t, sI_eq_f, sI_rem, sI_div, sI_m1a, sI_m1b, sI_m1c, sI_m1d, sI_m1e, sI_m1f, sI_m2a, sI_m2b, sI_sub, pk_mul, sI_dec, fk_u_s, fk_u_o, sI_dec0, sI_z, sI_md, Bool.false_eq_true, Nat.reduceAdd, Nat.reduceMul, Nat.reduceSub, Nat.reduceMod, Nat.reduceDiv]
  · refine ⟨(-1), ?_, ?_⟩
    · simp (disch := first | assumption | omega) only [rX11_closed, mX11_within, h1, Option.bind_some, Option.toList_some, Option.toList_none, List.cons_append, List.nil_append, fk_b_0, nI_add, Nat.add_zero, Nat.zero_add, not_true_eq_false, not_false_eq_true, if_true, if_false, sI_le_t, sI_le_f, sI_lt_t, sI_lt_f, sI_eq_t, sI_eq_f, sI_rem, sI_div, sI_m1a, sI_m1b, sI_m1c, sI_m1d, sI_m1e, sI_m1f, sI_m2a, sI_m2b, sI_sub, pk_mul, sI_dec, fk_u_s, fk_u_o, sI_dec0, sI_z, sI_md, Bool.false_eq_true, Nat.reduceAdd, Nat.reduceMul, Nat.reduceSub, Nat.reduceMod, Nat.reduceDiv]
    · simp (disch := first | assumption | omega) only [rX12_closed, mX12_isPlace, h1, Option.bind_some, Option.toList_some, Option.toList_none, List.cons_append, List.nil_append, fk_b_0, nI_add, Nat.add_zero, Nat.zero_add, not_true_eq_false, not_false_eq_true, if_true, if_false, sI_le_t, sI_le_f, sI_lt_t, sI_lt_f, sI_eq_t, sI_eq_f, sI_rem, sI_div, sI_m1a, sI_m1b, sI_m1c, sI_m1d, sI_m1e, sI_m1f, sI_m2a, sI_m2b, sI_sub, pk_mul, sI_dec, fk_u_s, fk_u_o, sI_dec0, sI_z, sI_md, Bool.false_eq_true, Nat.reduceAdd, Nat.reduceMul, Nat.reduceSub, Nat.reduceMod, Nat.reduceDiv]
end CLT
