section RCH
variable {N : Nat} {S : Nat → Int32} {v y y0 y1 y2 z : Nat → Nat → Int32} {l : Nat → Nat → Int64} {d p p' n H t c k m : Nat} {T A A' : Nat → Int32} {shut : Int32} {a : Nat}
theorem fk_cf_mono {p q : Nat → Bool} : ∀ k j, (∀ i, j ≤ i → i < j + k → p i = true → q i = true) → fk_cf p j k ≤ fk_cf q j k := by
  intro k
  induction k with
  | zero => intro j _; exact Nat.le_refl _
  | succ k ih =>
    intro j h
    have := ih (j + 1) fun i h1 h2 => h i (by omega) (by omega)
    unfold fk_cf
    by_cases c : p j = true
    · rw [if_pos c, if_pos (h j (by omega) (by omega) c)]; omega
    · rw [if_neg c]; split <;> omega
theorem fk_cf_lt {p q : Nat → Bool} {x : Nat} : ∀ k j, (∀ i, j ≤ i → i < j + k → p i = true → q i = true) → j ≤ x → x < j + k → ¬ p x = true → q x = true → fk_cf p j k + 1 ≤ fk_cf q j k := by
  intro k
  induction k with
  | zero => intro j _ h1 h2; omega
  | succ k ih =>
    intro j h h1 h2 h3 h4
    unfold fk_cf
    by_cases e : x = j
    · subst e
      have := fk_cf_mono k (x + 1) fun i h1 h2 => h i (by omega) (by omega)
      rw [if_neg h3, if_pos h4]; omega
    · have := ih (j + 1) (fun i h1 h2 => h i (by omega) (by omega)) (by omega) (by omega) h3 h4
      by_cases c : p j = true
      · rw [if_pos c, if_pos (h j (by omega) (by omega) c)]; omega
      · rw [if_neg c]; split <;> omega
theorem fk_or0 {s : Int32} : s ||| nI 0 = s := by rw [nI_0, Int32.or_zero]
/-- a set of places as bits -/
noncomputable def fk_sz (P : Nat → Prop) : Int32 := fk_it (fun q s => @ite Int32 (P q) (Classical.propDecidable _) (s ||| nI 1 <<< (nI q &&& 31)) s) 0 16 (nI 0)
theorem fk_sz_t {P : Nat → Prop} {q : Nat} : fk_tb (fk_sz P) q = true ↔ q < 16 ∧ P q := by
  have key : ∀ k, k ≤ 16 → (fk_tb (fk_it (fun q s => @ite Int32 (P q) (Classical.propDecidable _) (s ||| nI 1 <<< (nI q &&& 31)) s) 0 k (nI 0)) q = true ↔ q < k ∧ P q) := by
    intro k
    induction k with
    | zero => intro _; exact ⟨fun h => by rw [show fk_it (fun q s => @ite Int32 (P q) (Classical.propDecidable _) (s ||| nI 1 <<< (nI q &&& 31)) s) 0 0 (nI 0) = nI 0 from rfl, fk_tb_0] at h; exact absurd h (by decide), fun h => by omega⟩
    | succ k ih =>
      intro hk
      rw [fk_it_succ, Nat.zero_add]
      have ih := ih (by omega)
      by_cases c : P k
      · rw [if_pos c, fk_tb_or, Bool.or_eq_true, ih, fk_tb_bitI (by omega)]
        constructor
        · rintro (h | rfl)
          · exact ⟨by omega, h.2⟩
          · exact ⟨by omega, c⟩
        · rintro ⟨h1, h2⟩
          by_cases e : q = k
          · exact Or.inr e
          · exact Or.inl ⟨by omega, h2⟩
      · rw [if_neg c, ih]
        constructor
        · rintro h; exact ⟨by omega, h.2⟩
        · rintro ⟨h1, h2⟩
          have : q ≠ k := fun e => c (e ▸ h2)
          exact ⟨by omega, h2⟩
  exact key 16 (Nat.le_refl _)
theorem fk_sz_eq {P : Nat → Prop} {s : Int32} (h : ∀ q, fk_tb s q = true ↔ q < 16 ∧ P q) : s = fk_sz P := fk_tb_ext fun k _ => Bool.eq_iff_iff.mpr ((h k).trans fk_sz_t.symm)
/-- a road goes from p to q -/
def ab_E (v : Nat → Nat → Int32) (p q : Nat) : Prop := p < 16 ∧ q < 16 ∧ ∃ r, r < 32 ∧ fk_tb (v 246 3) r = true ∧ v 250 r = nI p ∧ v 251 r = nI q
def ab_rp (v : Nat → Nat → Int32) (shut : Int32) (a : Nat) : Nat → Nat → Prop
  | 0, q => a = q
  | k + 1, q => ∃ p, ab_rp v shut a k p ∧ ab_E v p q ∧ ¬ fk_tb shut q = true
def ab_RC (v : Nat → Nat → Int32) (shut : Int32) (a q : Nat) : Prop := ∃ k, ab_rp v shut a k q
theorem ab_RC_0 : ab_RC v shut a a := ⟨0, rfl⟩
theorem ab_RC_s {p q : Nat} (h : ab_RC v shut a p) (e : ab_E v p q) (hq : ¬ fk_tb shut q = true) : ab_RC v shut a q := by
  obtain ⟨k, h⟩ := h
  exact ⟨k + 1, p, h, e, hq⟩
theorem ab_RC_ind {P : Nat → Prop} (h0 : P a) (hs : ∀ p q, ab_RC v shut a p → P p → ab_E v p q → ¬ fk_tb shut q = true → P q) : ∀ q, ab_RC v shut a q → P q := by
  rintro q ⟨k, h⟩
  induction k generalizing q with
  | zero =>
    have h : a = q := h
    exact h ▸ h0
  | succ k ih =>
    obtain ⟨p, h1, h2, h3⟩ := h
    exact hs p q ⟨k, h1⟩ (ih p h1) h2 h3
theorem ab_RC_lt (ha : a < 16) : ∀ q, ab_RC v shut a q → q < 16 := ab_RC_ind ha fun _ _ _ _ e _ => e.2.1
theorem ck_nt_E (hN : ck_nt v y) {p q : Nat} (hp : p < 16) : fk_tb (y 24 p) q = true ↔ ab_E v p q := by
  rw [hN.2.2.2 p q hp]
  constructor
  · rintro ⟨r, h1, h2, h3, h4, h5⟩; exact ⟨hp, h5, r, h1, h2, h3, h4⟩
  · rintro ⟨_, h5, r, h1, h2, h3, h4⟩; exact ⟨r, h1, h2, h3, h4, h5⟩
theorem fk_nz {s : Int32} (h : ¬ s = nI 0) : ∃ q, fk_tb s q = true := by
  refine Classical.byContradiction fun z => h ?_
  apply fk_tb_ext
  intro k _
  rw [fk_tb_0]
  exact Bool.eq_false_iff.mpr fun e => z ⟨k, e⟩
theorem fk_tb_nt {a : Int32} {k : Nat} (hk : k < 32) : fk_tb (a ^^^ (-1)) k = true ↔ ¬ fk_tb a k = true := by
  rw [fk_tb_not hk]
  cases fk_tb a k <;> decide
def fk_cd (s : Int32) : Nat := fk_cf (fun q => fk_tb s q) 0 16
theorem mX5_reach_more {fresh seen cl rd pl : Int32} (hN : ck_nt v y) : ∃ more, fk_ev d qX5_reach 39 [.ref 18, .int pl, .int cl, .int seen, .int fresh, .int rd, .int (nI 0), .int (nI 0)] [] (fk_E N y l) = fk_ev d qX5_reach 39 [.ref 18, .int pl, .int cl, .int seen, .int fresh, .int rd, .int more, .int (nI 16)] [] (fk_E N y l) ∧ ∀ q, fk_tb more q = true ↔ ∃ p, p < 16 ∧ fk_tb fresh p = true ∧ ab_E v p q := by
  have key := fk_loopr (σ := Int32) (fun k more => fk_ev d qX5_reach 39 [.ref 18, .int pl, .int cl, .int seen, .int fresh, .int rd, .int more, .int (nI k)] [] (fk_E N y l)) (fun k more => ∀ q, fk_tb more q = true ↔ ∃ p, p < k ∧ fk_tb fresh p = true ∧ ab_E v p q) 16 (by
    intro k more hk i1
    try dsimp only
    rw [hX5_reach_39]
    by_cases c : fk_tb fresh k = true
    · refine ⟨more ||| y 24 k, ?_, fun q => ?_⟩
      · simp (disch := first | assumption | omega) only [rX5_reach, fk_has0, c, Option.bind_some, Option.toList_some, Option.toList_none, List.cons_append, List.nil_append, fk_b_0, nI_add, Nat.add_zero, Nat.zero_add, not_true_eq_false, not_false_eq_true, if_true, if_false, sI_le_t, sI_le_f, sI_lt_t, sI_lt_f, sI_eq_t, sI_eq_f, sI_rem, sI_div, sI_m1a, sI_m1b, sI_m1c, sI_m1d, sI_m1e, sI_m1f, sI_m2a, sI_m2b, sI_sub, pk_mul, sI_dec, fk_u_s, fk_u_o, sI_dec0, sI_z, sI_md, Bool.false_eq_true, Nat.reduceAdd, Nat.reduceMul, Nat.reduceSub, Nat.reduceMod, Nat.reduceDiv]
      · rw [fk_tb_or, Bool.or_eq_true, i1, ck_nt_E hN hk]
        constructor
        · rintro (⟨p, h1, h2⟩ | h)
          · exact ⟨p, by omega, h2⟩
          · exact ⟨k, by omega, c, h⟩
        · rintro ⟨p, h1, h2, h3⟩
          by_cases e : p = k
          · subst e; exact Or.inr h3
          · exact Or.inl ⟨p, by omega, h2, h3⟩
    · refine ⟨more, ?_, fun q => ?_⟩
      · simp (disch := first | assumption | omega) only [rX5_reach, fk_has0, c, fk_or0, Option.bind_some, Option.toList_some, Option.toList_none, List.cons_append, List.nil_append, fk_b_0, nI_add, Nat.add_zero, Nat.zero_add, not_true_eq_false, not_false_eq_true, if_true, if_false, sI_le_t, sI_le_f, sI_lt_t, sI_lt_f, sI_eq_t, sI_eq_f, sI_rem, sI_div, sI_m1a, sI_m1b, sI_m1c, sI_m1d, sI_m1e, sI_m1f, sI_m2a, sI_m2b, sI_sub, pk_mul, sI_dec, fk_u_s, fk_u_o, sI_dec0, sI_z, sI_md, Bool.false_eq_true, Nat.reduceAdd, Nat.reduceMul, Nat.reduceSub, Nat.reduceMod, Nat.reduceDiv]
      · rw [i1]
        constructor
        · rintro ⟨p, h1, h2⟩; exact ⟨p, by omega, h2⟩
        · rintro ⟨p, h1, h2, h3⟩
          have : p ≠ k := fun e => c (e ▸ h2)
          exact ⟨p, by omega, h2, h3⟩) 16 0 (nI 0) rfl (fun q => by rw [fk_tb_0]; exact ⟨fun z => absurd z (by decide), fun ⟨p, h, _⟩ => by omega⟩)
  exact key
theorem mX5_reach (hN : ck_nt v y) (ha : a < 16) : fk_ev (d + 1) qX5_reach 0 [.ref 18, .int ((nI a)), .int shut, .null, .null, .null, .null, .null] [] (fk_E N y l) = some (some (.int ((fk_sz (ab_RC v shut a)))), fk_E N y l) := by
  have fin : ∀ seen : Int32, (∀ q, fk_tb seen q = true → q < 16 ∧ ab_RC v shut a q) → fk_tb seen a = true → (∀ p q, fk_tb seen p = true → ab_E v p q → ¬ fk_tb shut q = true → fk_tb seen q = true) → seen = fk_sz (ab_RC v shut a) := by
    intro seen h1 h2 h3
    refine fk_sz_eq fun q => ⟨h1 q, fun h => ?_⟩
    exact ab_RC_ind (P := fun q => fk_tb seen q = true) h2 (fun p q _ hp he hq => h3 p q hp he hq) q h.2
  have key := fk_loopx (σ := (Int32 × Int32) × Value × Value) (fun k s => fk_ev (d + 1) qX5_reach 21 [.ref 18, .int (nI a), .int shut, .int s.1.1, .int s.1.2, .int (nI k), s.2.1, s.2.2] [] (fk_E N y l)) (fun k s => (∀ q, fk_tb s.1.1 q = true → q < 16 ∧ ab_RC v shut a q) ∧ fk_tb s.1.1 a = true ∧ (∀ p q, fk_tb s.1.1 p = true → ¬ fk_tb s.1.2 p = true → ab_E v p q → ¬ fk_tb shut q = true → fk_tb s.1.1 q = true) ∧ (∀ q, fk_tb s.1.2 q = true → fk_tb s.1.1 q = true) ∧ ((∃ q, fk_tb s.1.2 q = true) → k + 1 ≤ fk_cd s.1.1)) (fun r => r = some (some (.int (fk_sz (ab_RC v shut a))), fk_E N y l)) 16 (by
    rintro k ⟨⟨seen, fresh⟩, x, x'⟩ hk ⟨i1, i2, i3, i4, i5⟩
    try dsimp only at i1 i2 i3 i4 i5 ⊢
    by_cases c : fresh = nI 0
    · refine Or.inl ?_
      rw [← fin seen i1 i2 fun p q hp he hq => i3 p q hp (by rw [c, fk_tb_0]; decide) he hq]
      rw [hX5_reach_21]
      simp (disch := first | assumption | omega) only [rX5_reach, c, Option.bind_some, Option.toList_some, Option.toList_none, List.cons_append, List.nil_append, fk_b_0, nI_add, Nat.add_zero, Nat.zero_add, not_true_eq_false, not_false_eq_true, if_true, if_false, sI_le_t, sI_le_f, sI_lt_t, sI_lt_f, sI_eq_t, sI_eq_f, sI_rem, sI_div, sI_m1a, sI_m1b, sI_m1c, sI_m1d, sI_m1e, sI_m1f, sI_m2a, sI_m2b, sI_sub, pk_mul, sI_dec, fk_u_s, fk_u_o, sI_dec0, sI_z, sI_md, Bool.false_eq_true, Nat.reduceAdd, Nat.reduceMul, Nat.reduceSub, Nat.reduceMod, Nat.reduceDiv]
    · refine Or.inr ?_
      obtain ⟨more, em, hm⟩ := mX5_reach_more (N := N) (l := l) (d := d + 1) (fresh := fresh) (seen := seen) (cl := shut) (rd := nI k) (pl := nI a) hN
      have hf : ∀ q, fk_tb (more &&& (seen ^^^ (-1)) &&& (shut ^^^ (-1))) q = true ↔ (∃ p, p < 16 ∧ fk_tb fresh p = true ∧ ab_E v p q) ∧ ¬ fk_tb seen q = true ∧ ¬ fk_tb shut q = true := by
        intro q
        rw [fk_tb_and, fk_tb_and, Bool.and_eq_true, Bool.and_eq_true, hm]
        constructor
        · rintro ⟨⟨⟨p, h1, h2, h3⟩, h4⟩, h5⟩
          have hq : q < 32 := by have := h3.2.1; omega
          rw [fk_tb_nt hq] at h4 h5
          exact ⟨⟨p, h1, h2, h3⟩, h4, h5⟩
        · rintro ⟨⟨p, h1, h2, h3⟩, h4, h5⟩
          have hq : q < 32 := by have := h3.2.1; omega
          rw [fk_tb_nt hq, fk_tb_nt hq]
          exact ⟨⟨⟨p, h1, h2, h3⟩, h4⟩, h5⟩
      generalize ef : more &&& (seen ^^^ (-1)) &&& (shut ^^^ (-1)) = f at hf
      have hs : ∀ q, fk_tb (seen ||| f) q = true ↔ fk_tb seen q = true ∨ fk_tb f q = true := fun q => by rw [fk_tb_or, Bool.or_eq_true]
      refine ⟨((seen ||| f, f), .int more, .int (nI 16)), ?_, fun q hq => ?_, ?_, fun p q hp hpf he hq => ?_, fun q hq => ?_, ?_⟩
      · rw [hX5_reach_21]
        simp (disch := first | assumption | omega) only [rX5_reach, c, Option.bind_some, Option.toList_some, Option.toList_none, List.cons_append, List.nil_append, fk_b_0, nI_add, Nat.add_zero, Nat.zero_add, not_true_eq_false, not_false_eq_true, if_true, if_false, sI_le_t, sI_le_f, sI_lt_t, sI_lt_f, sI_eq_t, sI_eq_f, sI_rem, sI_div, sI_m1a, sI_m1b, sI_m1c, sI_m1d, sI_m1e, sI_m1f, sI_m2a, sI_m2b, sI_sub, pk_mul, sI_dec, fk_u_s, fk_u_o, sI_dec0, sI_z, sI_md, Bool.false_eq_true, Nat.reduceAdd, Nat.reduceMul, Nat.reduceSub, Nat.reduceMod, Nat.reduceDiv]
        rw [em, hX5_reach_39]
        simp (disch := first | assumption | omega) only [rX5_reach, ef, Option.bind_some, Option.toList_some, Option.toList_none, List.cons_append, List.nil_append, fk_b_0, nI_add, Nat.add_zero, Nat.zero_add, not_true_eq_false, not_false_eq_true, if_true, if_false, sI_le_t, sI_le_f, sI_lt_t, sI_lt_f, sI_eq_t, sI_eq_f, sI_rem, sI_div, sI_m1a, sI_m1b, sI_m1c, sI_m1d, sI_m1e, sI_m1f, sI_m2a, sI_m2b, sI_sub, pk_mul, sI_dec, fk_u_s, fk_u_o, sI_dec0, sI_z, sI_md, Bool.false_eq_true, Nat.reduceAdd, Nat.reduceMul, Nat.reduceSub, Nat.reduceMod, Nat.reduceDiv]
      · rcases (hs q).mp hq with h | h
        · exact i1 q h
        · obtain ⟨⟨p, h1, h2, h3⟩, h4, h5⟩ := (hf q).mp h
          exact ⟨h3.2.1, ab_RC_s (i1 p (i4 p h2)).2 h3 h5⟩
      · exact (hs a).mpr (Or.inl i2)
      · try dsimp only at hp hpf ⊢
        rcases (hs p).mp hp with h | h
        · by_cases e : fk_tb fresh p = true
          · by_cases e2 : fk_tb seen q = true
            · exact (hs q).mpr (Or.inl e2)
            · exact (hs q).mpr (Or.inr ((hf q).mpr ⟨⟨p, he.1, e, he⟩, e2, hq⟩))
          · exact (hs q).mpr (Or.inl (i3 p q h e he hq))
        · exact absurd h hpf
      · exact (hs q).mpr (Or.inr hq)
      · rintro ⟨q, hq⟩
        try dsimp only at hq ⊢
        have h0 := i5 (fk_nz c)
        obtain ⟨⟨p, h1, h2, h3⟩, h4, h5⟩ := (hf q).mp hq
        have := fk_cf_lt (p := fun q => fk_tb seen q) (q := fun q => fk_tb (seen ||| f) q) (x := q) 16 0 (fun i _ _ hi => (hs i).mpr (Or.inl hi)) (by omega) (by have := h3.2.1; omega) h4 ((hs q).mpr (Or.inr hq))
        unfold fk_cd at h0 ⊢
        omega) (by
    rintro ⟨⟨seen, fresh⟩, x, x'⟩ ⟨i1, i2, i3, i4, i5⟩
    try dsimp only at i1 i2 i3 i4 i5 ⊢
    have nf : ∀ q, ¬ fk_tb fresh q = true := fun q hq => by
      have h1 := i5 ⟨q, hq⟩
      have h2 := fk_cf_le (p := fun q => fk_tb seen q) 16 0
      unfold fk_cd at h1
      omega
    rw [← fin seen i1 i2 fun p q hp he hq => i3 p q hp (nf p) he hq]
    rw [hX5_reach_21]
    simp (disch := first | assumption | omega) only [rX5_reach, Option.bind_some, Option.toList_some, Option.toList_none, List.cons_append, List.nil_append, fk_b_0, nI_add, Nat.add_zero, Nat.zero_add, not_true_eq_false, not_false_eq_true, if_true, if_false, sI_le_t, sI_le_f, sI_lt_t, sI_lt_f, sI_eq_t, sI_eq_f, sI_rem, sI_div, sI_m1a, sI_m1b, sI_m1c, sI_m1d, sI_m1e, sI_m1f, sI_m2a, sI_m2b, sI_sub, pk_mul, sI_dec, fk_u_s, fk_u_o, sI_dec0, sI_z, sI_md, Bool.false_eq_true, Nat.reduceAdd, Nat.reduceMul, Nat.reduceSub, Nat.reduceMod, Nat.reduceDiv]) 16 0 ((nI 1 <<< (nI a &&& 31), nI 1 <<< (nI a &&& 31)), .null, .null) rfl (by
    refine ⟨fun q hq => ?_, ?_, fun p q hp hpf => absurd hp hpf, fun q hq => hq, fun _ => ?_⟩
    · try dsimp only at hq
      rw [fk_tb_bitI (by omega)] at hq
      subst hq
      exact ⟨ha, ab_RC_0⟩
    · try dsimp only
      rw [fk_tb_bitI (by omega)]
    · unfold fk_cd
      have := (fk_cf_pos (p := fun q => fk_tb (nI 1 <<< (nI a &&& 31)) q) 16 0).mpr ⟨a, by omega, by omega, by rw [fk_tb_bitI (by omega)]⟩
      try dsimp only
      omega)
  try dsimp only at key
  simp (disch := first | assumption | omega) only [rX5_reach, mX11_within, and_self, Option.bind_some, Option.toList_some, Option.toList_none, List.cons_append, List.nil_append, fk_b_0, nI_add, Nat.add_zero, Nat.zero_add, not_true_eq_false, not_false_eq_true, if_true, if_false, sI_le_t, sI_le_f, sI_lt_t, sI_lt_f, sI_eq_t, sI_eq_f, sI_rem, sI_div, sI_m1a, sI_m1b, sI_m1c, sI_m1d, sI_m1e, sI_m1f, sI_m2a, sI_m2b, sI_sub, pk_mul, sI_dec, fk_u_s, fk_u_o, sI_dec0, sI_z, sI_md, Bool.false_eq_true, Nat.reduceAdd, Nat.reduceMul, Nat.reduceSub, Nat.reduceMod, Nat.reduceDiv]
  exact key
theorem mX5_reach_no {x : Int32} (hx : ¬ (nI 0 ≤ x ∧ x < nI 16)) : fk_ev (d + 1) qX5_reach 0 [.ref 18, .int x, .int shut, .null, .null, .null, .null, .null] [] (fk_E N y l) = some (some (.int ((nI 0))), fk_E N y l) := by
  simp (disch := first | assumption | omega) only [rX5_reach, mX11_within, hx, Option.bind_some, Option.toList_some, Option.toList_none, List.cons_append, List.nil_append, fk_b_0, nI_add, Nat.add_zero, Nat.zero_add, not_true_eq_false, not_false_eq_true, if_true, if_false, sI_le_t, sI_le_f, sI_lt_t, sI_lt_f, sI_eq_t, sI_eq_f, sI_rem, sI_div, sI_m1a, sI_m1b, sI_m1c, sI_m1d, sI_m1e, sI_m1f, sI_m2a, sI_m2b, sI_sub, pk_mul, sI_dec, fk_u_s, fk_u_o, sI_dec0, sI_z, sI_md, Bool.false_eq_true, Nat.reduceAdd, Nat.reduceMul, Nat.reduceSub, Nat.reduceMod, Nat.reduceDiv]
theorem mX12_reach_in {pl : Int32} {set : Int32} (hv : ab_rv y) (h1 : ∀ q, fk_tb set q = true → q < 16 ∧ ab_RC y shut a q) : ∃ set', fk_ev (d + 2) qX12_reachedFrom 19 [.ref 246, .int pl, .int shut, .int set, .int set, .int (nI 0)] [] (fk_E N y l) = fk_ev (d + 2) qX12_reachedFrom 19 [.ref 246, .int pl, .int shut, .int set', .int set, .int (nI 32)] [] (fk_E N y l) ∧ (∀ q, fk_tb set q = true → fk_tb set' q = true) ∧ (∀ q, fk_tb set' q = true → q < 16 ∧ ab_RC y shut a q) ∧ ∀ p q, fk_tb set p = true → ab_E y p q → ¬ fk_tb shut q = true → fk_tb set' q = true := by
  have key := fk_loopr (σ := Int32) (fun k s => fk_ev (d + 2) qX12_reachedFrom 19 [.ref 246, .int pl, .int shut, .int s, .int set, .int (nI k)] [] (fk_E N y l)) (fun k s => (∀ q, fk_tb set q = true → fk_tb s q = true) ∧ (∀ q, fk_tb s q = true → q < 16 ∧ ab_RC y shut a q) ∧ ∀ r p q, r < k → fk_tb (y 246 3) r = true → p < 16 → q < 16 → y 250 r = nI p → y 251 r = nI q → fk_tb set p = true → ¬ fk_tb shut q = true → fk_tb s q = true) 32 (by
    rintro k s hk ⟨i1, i2, i3⟩
    try dsimp only
    have hr := mX12_isRoadN (N := N) (l := l) (d := d) (y := y) hk
    rw [hX12_reachedFrom_19]
    by_cases c : fk_tb (y 246 3) k = true
    · rw [fk_b_t c] at hr
      obtain ⟨⟨f, hf, ef⟩, ⟨g, hg, eg⟩, _⟩ := hv.1 k hk c
      have eE : ab_E y f g := ⟨hf, hg, k, hk, c, ef, eg⟩
      have inj : ∀ p q, p < 16 → q < 16 → y 250 k = nI p → y 251 k = nI q → p = f ∧ q = g := fun p q hp hq e1 e2 => by
        rw [ef] at e1
        rw [eg] at e2
        exact ⟨((nI_eq (by omega) (by omega)).mp e1).symm, ((nI_eq (by omega) (by omega)).mp e2).symm⟩
      by_cases c1 : fk_tb s f = true
      · by_cases c2 : fk_tb shut g = true
        · refine ⟨s, ?_, i1, i2, fun r p q hr2 ht hp hq e1 e2 h1 h2 => ?_⟩
          · simp (disch := first | assumption | omega) only [rX12_reachedFrom, hr, ef, eg, mX12_has, fk_has1, c1, c2, Option.bind_some, Option.toList_some, Option.toList_none, List.cons_append, List.nil_append, fk_b_0, nI_add, Nat.add_zero, Nat.zero_add, not_true_eq_false, not_false_eq_true, if_true, if_false, sI_le_t, sI_le_f, sI_lt_t, sI_lt_f, sI_eq_t, sI_eq_f, sI_rem, sI_div, sI_m1a, sI_m1b, sI_m1c, sI_m1d, sI_m1e, sI_m1f, sI_m2a, sI_m2b, sI_sub, pk_mul, sI_dec, fk_u_s, fk_u_o, sI_dec0, sI_z, sI_md, Bool.false_eq_true, Nat.reduceAdd, Nat.reduceMul, Nat.reduceSub, Nat.reduceMod, Nat.reduceDiv]
          · by_cases e : r = k
            · subst e
              obtain ⟨rfl, rfl⟩ := inj p q hp hq e1 e2
              exact absurd c2 h2
            · exact i3 r p q (by omega) ht hp hq e1 e2 h1 h2
        · refine ⟨s ||| nI 1 <<< (nI g &&& 31), ?_, fun q hq => ?_, fun q hq => ?_, fun r p q hr2 ht hp hq e1 e2 h1 h2 => ?_⟩
          · simp (disch := first | assumption | omega) only [rX12_reachedFrom, hr, ef, eg, mX12_has, fk_has1, c1, c2, Option.bind_some, Option.toList_some, Option.toList_none, List.cons_append, List.nil_append, fk_b_0, nI_add, Nat.add_zero, Nat.zero_add, not_true_eq_false, not_false_eq_true, if_true, if_false, sI_le_t, sI_le_f, sI_lt_t, sI_lt_f, sI_eq_t, sI_eq_f, sI_rem, sI_div, sI_m1a, sI_m1b, sI_m1c, sI_m1d, sI_m1e, sI_m1f, sI_m2a, sI_m2b, sI_sub, pk_mul, sI_dec, fk_u_s, fk_u_o, sI_dec0, sI_z, sI_md, Bool.false_eq_true, Nat.reduceAdd, Nat.reduceMul, Nat.reduceSub, Nat.reduceMod, Nat.reduceDiv]
          · rw [fk_tb_or, Bool.or_eq_true]
            exact Or.inl (i1 q hq)
          · rw [fk_tb_or, Bool.or_eq_true, fk_tb_bitI (by omega)] at hq
            rcases hq with hq | rfl
            · exact i2 q hq
            · exact ⟨hg, ab_RC_s (i2 f c1).2 eE c2⟩
          · rw [fk_tb_or, Bool.or_eq_true, fk_tb_bitI (by omega)]
            by_cases e : r = k
            · subst e
              exact Or.inr (inj p q hp hq e1 e2).2
            · exact Or.inl (i3 r p q (by omega) ht hp hq e1 e2 h1 h2)
      · refine ⟨s, ?_, i1, i2, fun r p q hr2 ht hp hq e1 e2 h1 h2 => ?_⟩
        · simp (disch := first | assumption | omega) only [rX12_reachedFrom, hr, ef, eg, mX12_has, fk_has1, c1, Option.bind_some, Option.toList_some, Option.toList_none, List.cons_append, List.nil_append, fk_b_0, nI_add, Nat.add_zero, Nat.zero_add, not_true_eq_false, not_false_eq_true, if_true, if_false, sI_le_t, sI_le_f, sI_lt_t, sI_lt_f, sI_eq_t, sI_eq_f, sI_rem, sI_div, sI_m1a, sI_m1b, sI_m1c, sI_m1d, sI_m1e, sI_m1f, sI_m2a, sI_m2b, sI_sub, pk_mul, sI_dec, fk_u_s, fk_u_o, sI_dec0, sI_z, sI_md, Bool.false_eq_true, Nat.reduceAdd, Nat.reduceMul, Nat.reduceSub, Nat.reduceMod, Nat.reduceDiv]
        · by_cases e : r = k
          · subst e
            obtain ⟨rfl, rfl⟩ := inj p q hp hq e1 e2
            exact absurd (i1 p h1) c1
          · exact i3 r p q (by omega) ht hp hq e1 e2 h1 h2
    · rw [fk_b_f c] at hr
      refine ⟨s, ?_, i1, i2, fun r p q hr2 ht hp hq e1 e2 h1 h2 => ?_⟩
      · simp (disch := first | assumption | omega) only [rX12_reachedFrom, hr, Option.bind_some, Option.toList_some, Option.toList_none, List.cons_append, List.nil_append, fk_b_0, nI_add, Nat.add_zero, Nat.zero_add, not_true_eq_false, not_false_eq_true, if_true, if_false, sI_le_t, sI_le_f, sI_lt_t, sI_lt_f, sI_eq_t, sI_eq_f, sI_rem, sI_div, sI_m1a, sI_m1b, sI_m1c, sI_m1d, sI_m1e, sI_m1f, sI_m2a, sI_m2b, sI_sub, pk_mul, sI_dec, fk_u_s, fk_u_o, sI_dec0, sI_z, sI_md, Bool.false_eq_true, Nat.reduceAdd, Nat.reduceMul, Nat.reduceSub, Nat.reduceMod, Nat.reduceDiv]
      · have : r ≠ k := fun e => c (e ▸ ht)
        exact i3 r p q (by omega) ht hp hq e1 e2 h1 h2) 32 0 set rfl ⟨fun _ h => h, h1, fun r p q hr => by omega⟩
  obtain ⟨s, e, i1, i2, i3⟩ := key
  exact ⟨s, e, i1, i2, fun p q hp he hq => by
    obtain ⟨e1, e2, r, e3, e4, e5, e6⟩ := he
    exact i3 r p q e3 e4 e1 e2 e5 e6 hp hq⟩
theorem mX12_reachedFrom (hv : ab_rv y) (ha : a < 16) : fk_ev (d + 2) qX12_reachedFrom 0 [.ref 246, .int ((nI a)), .int shut, .null, .null, .null] [] (fk_E N y l) = some (some (.int ((fk_sz (ab_RC y shut a)))), fk_E N y l) := by
  have key := fk_loopm (σ := (Int32 × Int32) × Value) (fun s => fk_ev (d + 2) qX12_reachedFrom 7 [.ref 246, .int (nI a), .int shut, .int s.1.1, .int s.1.2, s.2] [] (fk_E N y l)) (fun k s => (∀ q, fk_tb s.1.1 q = true → q < 16 ∧ ab_RC y shut a q) ∧ fk_tb s.1.1 a = true ∧ (s.1.2 = s.1.1 → ∀ p q, fk_tb s.1.1 p = true → ab_E y p q → ¬ fk_tb shut q = true → fk_tb s.1.1 q = true) ∧ (s.1.2 = s.1.1 ∨ 2 * (16 - fk_cd s.1.1) + 1 ≤ k)) (fun r => r = some (some (.int (fk_sz (ab_RC y shut a))), fk_E N y l)) (by
    rintro k ⟨⟨set, was⟩, x⟩ ⟨i1, i2, i3, i4⟩
    try dsimp only at i1 i2 i3 i4 ⊢
    by_cases c : was = set
    · refine Or.inl ?_
      have e : set = fk_sz (ab_RC y shut a) := fk_sz_eq fun q => ⟨i1 q, fun h => ab_RC_ind (P := fun q => fk_tb set q = true) i2 (fun p q _ hp he hq => i3 c p q hp he hq) q h.2⟩
      rw [← e, hX12_reachedFrom_7]
      simp (disch := first | assumption | omega) only [rX12_reachedFrom, c, Option.bind_some, Option.toList_some, Option.toList_none, List.cons_append, List.nil_append, fk_b_0, nI_add, Nat.add_zero, Nat.zero_add, not_true_eq_false, not_false_eq_true, if_true, if_false, sI_le_t, sI_le_f, sI_lt_t, sI_lt_f, sI_eq_t, sI_eq_f, sI_rem, sI_div, sI_m1a, sI_m1b, sI_m1c, sI_m1d, sI_m1e, sI_m1f, sI_m2a, sI_m2b, sI_sub, pk_mul, sI_dec, fk_u_s, fk_u_o, sI_dec0, sI_z, sI_md, Bool.false_eq_true, Nat.reduceAdd, Nat.reduceMul, Nat.reduceSub, Nat.reduceMod, Nat.reduceDiv]
    · refine Or.inr ?_
      have hk : 2 * (16 - fk_cd set) + 1 ≤ k := i4.resolve_left c
      obtain ⟨set', e, j1, j2, j3⟩ := mX12_reach_in (N := N) (l := l) (d := d) (pl := nI a) hv i1
      have ev : fk_ev (d + 2) qX12_reachedFrom 7 [.ref 246, .int (nI a), .int shut, .int set, .int was, x] [] (fk_E N y l) = fk_ev (d + 2) qX12_reachedFrom 7 [.ref 246, .int (nI a), .int shut, .int set', .int set, .int (nI 32)] [] (fk_E N y l) := by
        rw [hX12_reachedFrom_7]
        simp (disch := first | assumption | omega) only [rX12_reachedFrom, c, Option.bind_some, Option.toList_some, Option.toList_none, List.cons_append, List.nil_append, fk_b_0, nI_add, Nat.add_zero, Nat.zero_add, not_true_eq_false, not_false_eq_true, if_true, if_false, sI_le_t, sI_le_f, sI_lt_t, sI_lt_f, sI_eq_t, sI_eq_f, sI_rem, sI_div, sI_m1a, sI_m1b, sI_m1c, sI_m1d, sI_m1e, sI_m1f, sI_m2a, sI_m2b, sI_sub, pk_mul, sI_dec, fk_u_s, fk_u_o, sI_dec0, sI_z, sI_md, Bool.false_eq_true, Nat.reduceAdd, Nat.reduceMul, Nat.reduceSub, Nat.reduceMod, Nat.reduceDiv]
        rw [e, hX12_reachedFrom_19]
        simp (disch := first | assumption | omega) only [rX12_reachedFrom, Option.bind_some, Option.toList_some, Option.toList_none, List.cons_append, List.nil_append, fk_b_0, nI_add, Nat.add_zero, Nat.zero_add, not_true_eq_false, not_false_eq_true, if_true, if_false, sI_le_t, sI_le_f, sI_lt_t, sI_lt_f, sI_eq_t, sI_eq_f, sI_rem, sI_div, sI_m1a, sI_m1b, sI_m1c, sI_m1d, sI_m1e, sI_m1f, sI_m2a, sI_m2b, sI_sub, pk_mul, sI_dec, fk_u_s, fk_u_o, sI_dec0, sI_z, sI_md, Bool.false_eq_true, Nat.reduceAdd, Nat.reduceMul, Nat.reduceSub, Nat.reduceMod, Nat.reduceDiv]
      by_cases c2 : set = set'
      · subst c2
        exact ⟨0, ((set, set), .int (nI 32)), by omega, ev, i1, i2, fun _ => j3, Or.inl rfl⟩
      · refine ⟨2 * (16 - fk_cd set') + 1, ((set', set), .int (nI 32)), ?_, ev, j2, j1 a i2, fun h => absurd h c2, Or.inr (Nat.le_refl _)⟩
        have : ∃ q, ¬ fk_tb set q = true ∧ fk_tb set' q = true := Classical.byContradiction fun z => c2 (fk_tb_ext fun k _ => Bool.eq_iff_iff.mpr ⟨j1 k, fun h => Classical.byContradiction fun h2 => z ⟨k, h2, h⟩⟩)
        obtain ⟨q, q1, q2⟩ := this
        have lt := fk_cf_lt (p := fun q => fk_tb set q) (q := fun q => fk_tb set' q) (x := q) 16 0 (fun i _ _ hi => j1 i hi) (by omega) (by have := (j2 q q2).1; omega) q1 q2
        have le := fk_cf_le (p := fun q => fk_tb set' q) 16 0
        unfold fk_cd at hk ⊢
        omega) (2 * (16 - fk_cd (nI 1 <<< (nI a &&& 31))) + 2) (2 * (16 - fk_cd (nI 1 <<< (nI a &&& 31))) + 1) ((nI 1 <<< (nI a &&& 31), nI 0), .null) (by omega) (by
    refine ⟨fun q hq => ?_, ?_, fun h => ?_, Or.inr (Nat.le_refl _)⟩
    · try dsimp only at hq
      rw [fk_tb_bitI (by omega)] at hq
      subst hq
      exact ⟨ha, ab_RC_0⟩
    · try dsimp only
      rw [fk_tb_bitI (by omega)]
    · try dsimp only at h
      have : fk_tb (nI 1 <<< (nI a &&& 31)) a = true := by rw [fk_tb_bitI (by omega)]
      rw [← h, fk_tb_0] at this
      exact absurd this (by decide))
  try dsimp only at key
  simp (disch := first | assumption | omega) only [rX12_reachedFrom, Option.bind_some, Option.toList_some, Option.toList_none, List.cons_append, List.nil_append, fk_b_0, nI_add, Nat.add_zero, Nat.zero_add, not_true_eq_false, not_false_eq_true, if_true, if_false, sI_le_t, sI_le_f, sI_lt_t, sI_lt_f, sI_eq_t, sI_eq_f, sI_rem, sI_div, sI_m1a, sI_m1b, sI_m1c, sI_m1d, sI_m1e, sI_m1f, sI_m2a, sI_m2b, sI_sub, pk_mul, sI_dec, fk_u_s, fk_u_o, sI_dec0, sI_z, sI_md, Bool.false_eq_true, Nat.reduceAdd, Nat.reduceMul, Nat.reduceSub, Nat.reduceMod, Nat.reduceDiv]
  exact key
theorem cl_meet (hR : cR S y) {one : Int32} : ∃ a, fk_ev (d + 8) qX11_meet 0 [.ref 1, .int one, .null, .null, .null] [] (fk_E N y l) = some (some (.int a), fk_E N y l) ∧ fk_ev (d + 8) qX12_meet 0 [.ref 246, .int one, .null, .null] [] (fk_E N y l) = some (some (.int a), fk_E N y l) := by
  obtain ⟨r0, r1, r2, ⟨n, H, p1, p2, p3, p4⟩, r4, r5, r6, r7, r8, r9⟩ := id hR
  have hn := p1.1
  have hm := p1.2.1
  have h8 := n8
  have eb : y 33 2 = nI n := p3.1.1.trans hm
  by_cases h1 : nI 0 ≤ one ∧ one < nI 4
  · have key : ∀ k j, j + k = n → ∀ s : Int32, ∃ a, (∀ x : Value, fk_ev (d + 8) qX11_meet 16 [.ref 1, .int one, .int s, .int (nI j), x] [] (fk_E N y l) = some (some (.int a), fk_E N y l)) ∧ fk_ev (d + 8) qX12_meet 15 [.ref 246, .int one, .int s, .int (nI j)] [] (fk_E N y l) = some (some (.int a), fk_E N y l) := by
      intro k
      induction k with
      | zero =>
        intro j hj s
        have hj : j = n := hj
        subst hj
        refine ⟨s, fun x => ?_, ?_⟩
        · rw [hX11_meet_16]
          simp (disch := first | assumption | omega) only [rX11_meet, eb, Option.bind_some, Option.toList_some, Option.toList_none, List.cons_append, List.nil_append, fk_b_0, nI_add, Nat.add_zero, Nat.zero_add, not_true_eq_false, not_false_eq_true, if_true, if_false, sI_le_t, sI_le_f, sI_lt_t, sI_lt_f, sI_eq_t, sI_eq_f, sI_rem, sI_div, sI_m1a, sI_m1b, sI_m1c, sI_m1d, sI_m1e, sI_m1f, sI_m2a, sI_m2b, sI_sub, pk_mul, sI_dec, fk_u_s, fk_u_o, sI_dec0, sI_z, sI_md, Bool.false_eq_true, Nat.reduceAdd, Nat.reduceMul, Nat.reduceSub, Nat.reduceMod, Nat.reduceDiv]
        · rw [hX12_meet_15]
          simp (disch := first | assumption | omega) only [rX12_meet, hm, Option.bind_some, Option.toList_some, Option.toList_none, List.cons_append, List.nil_append, fk_b_0, nI_add, Nat.add_zero, Nat.zero_add, not_true_eq_false, not_false_eq_true, if_true, if_false, sI_le_t, sI_le_f, sI_lt_t, sI_lt_f, sI_eq_t, sI_eq_f, sI_rem, sI_div, sI_m1a, sI_m1b, sI_m1c, sI_m1d, sI_m1e, sI_m1f, sI_m2a, sI_m2b, sI_sub, pk_mul, sI_dec, fk_u_s, fk_u_o, sI_dec0, sI_z, sI_md, Bool.false_eq_true, Nat.reduceAdd, Nat.reduceMul, Nat.reduceSub, Nat.reduceMod, Nat.reduceDiv]
      | succ k ih =>
        intro j hj s
        have hjn : j < n := by omega
        have hh := n_h (show j < 64 by omega)
        obtain ⟨a1, a2, a3, a4, a5, a6, a7, a8, a9, a10, a11, a12, a13⟩ := p3.2.2.1 j (by omega) (by rw [ab_ok_n p1]; exact hjn)
        rw [show 33 + 3 + j = 36 + j by omega] at a1 a4 a6 a7
        have oj := p1.2.2.2.2.2.1 j hjn
        by_cases c1 : y 247 (192 + j) = nI 1
        · by_cases c2 : y 247 j = one
          · have goal : ∃ q : Nat, q < 16 ∧ fk_ev (d + 7) qX5_goalOf 0 [.ref 18, .ref ((36 + j))] [] (fk_E N y l) = some (some (.int ((nI q))), fk_E N y l) ∧ ((y 247 (320 + j) = nI q) ∨ (y 247 (320 + j) < nI 0 ∧ ∃ r : Nat, r < 32 ∧ y 247 (384 + j) = nI r ∧ y 251 r = nI q)) := by
              rcases oj.2.2.2.2.1 with ⟨q, b1, b2, b3, b4⟩ | ⟨b1, r, g, b2, b3, b4, b5⟩
              · refine ⟨q, b1, ?_, Or.inl b2⟩
                simp (disch := first | assumption | omega) only [rX5_goalOf, a7, b3, mX5_isTold_m2, a6, b2, Option.bind_some, Option.toList_some, Option.toList_none, List.cons_append, List.nil_append, fk_b_0, nI_add, Nat.add_zero, Nat.zero_add, not_true_eq_false, not_false_eq_true, if_true, if_false, sI_le_t, sI_le_f, sI_lt_t, sI_lt_f, sI_eq_t, sI_eq_f, sI_rem, sI_div, sI_m1a, sI_m1b, sI_m1c, sI_m1d, sI_m1e, sI_m1f, sI_m2a, sI_m2b, sI_sub, pk_mul, sI_dec, fk_u_s, fk_u_o, sI_dec0, sI_z, sI_md, Bool.false_eq_true, Nat.reduceAdd, Nat.reduceMul, Nat.reduceSub, Nat.reduceMod, Nat.reduceDiv]
              · have hr32 : r < 32 := by omega
                obtain ⟨_, ⟨q, hq, eq⟩, _⟩ := r1.1 r hr32 b4
                have td := n_td (N := N) (l := l) (d := d + 5) r1 r2 hr32
                rw [fk_b_t b4] at td
                refine ⟨q, hq, ?_, Or.inr ⟨by rw [b1]; decide, r, hr32, b3, eq⟩⟩
                simp (disch := first | assumption | omega) only [rX5_goalOf, a7, b3, td, (r2.1 r hr32 b4).2.1, eq, Option.bind_some, Option.toList_some, Option.toList_none, List.cons_append, List.nil_append, fk_b_0, nI_add, Nat.add_zero, Nat.zero_add, not_true_eq_false, not_false_eq_true, if_true, if_false, sI_le_t, sI_le_f, sI_lt_t, sI_lt_f, sI_eq_t, sI_eq_f, sI_rem, sI_div, sI_m1a, sI_m1b, sI_m1c, sI_m1d, sI_m1e, sI_m1f, sI_m2a, sI_m2b, sI_sub, pk_mul, sI_dec, fk_u_s, fk_u_o, sI_dec0, sI_z, sI_md, Bool.false_eq_true, Nat.reduceAdd, Nat.reduceMul, Nat.reduceSub, Nat.reduceMod, Nat.reduceDiv]
            obtain ⟨q, hq, eg, hal⟩ := goal
            obtain ⟨a, g1, g2⟩ := ih (j + 1) (by omega) (s &&& fk_sz (ab_RC y (nI 0) q))
            refine ⟨a, fun x => ?_, ?_⟩
            · rw [← g1 (.ref (36 + j)), hX11_meet_16]
              simp (disch := first | assumption | omega) only [rX11_meet, eb, nc0, a4, c1, a1, c2, eg, mX5_reach r2 hq, Option.bind_some, Option.toList_some, Option.toList_none, List.cons_append, List.nil_append, fk_b_0, nI_add, Nat.add_zero, Nat.zero_add, not_true_eq_false, not_false_eq_true, if_true, if_false, sI_le_t, sI_le_f, sI_lt_t, sI_lt_f, sI_eq_t, sI_eq_f, sI_rem, sI_div, sI_m1a, sI_m1b, sI_m1c, sI_m1d, sI_m1e, sI_m1f, sI_m2a, sI_m2b, sI_sub, pk_mul, sI_dec, fk_u_s, fk_u_o, sI_dec0, sI_z, sI_md, Bool.false_eq_true, Nat.reduceAdd, Nat.reduceMul, Nat.reduceSub, Nat.reduceMod, Nat.reduceDiv]
            · rw [← g2, hX12_meet_15]
              rcases hal with b | ⟨b, r, hr, b2, b3⟩
              · simp (disch := first | assumption | omega) only [rX12_meet, hm, mX12_lives, c1, c2, b, mX12_reachedFrom r1 hq, Option.bind_some, Option.toList_some, Option.toList_none, List.cons_append, List.nil_append, fk_b_0, nI_add, Nat.add_zero, Nat.zero_add, not_true_eq_false, not_false_eq_true, if_true, if_false, sI_le_t, sI_le_f, sI_lt_t, sI_lt_f, sI_eq_t, sI_eq_f, sI_rem, sI_div, sI_m1a, sI_m1b, sI_m1c, sI_m1d, sI_m1e, sI_m1f, sI_m2a, sI_m2b, sI_sub, pk_mul, sI_dec, fk_u_s, fk_u_o, sI_dec0, sI_z, sI_md, Bool.false_eq_true, Nat.reduceAdd, Nat.reduceMul, Nat.reduceSub, Nat.reduceMod, Nat.reduceDiv]
              · simp (disch := first | assumption | omega) only [rX12_meet, hm, mX12_lives, c1, c2, b, b2, b3, mX12_reachedFrom r1 hq, Option.bind_some, Option.toList_some, Option.toList_none, List.cons_append, List.nil_append, fk_b_0, nI_add, Nat.add_zero, Nat.zero_add, not_true_eq_false, not_false_eq_true, if_true, if_false, sI_le_t, sI_le_f, sI_lt_t, sI_lt_f, sI_eq_t, sI_eq_f, sI_rem, sI_div, sI_m1a, sI_m1b, sI_m1c, sI_m1d, sI_m1e, sI_m1f, sI_m2a, sI_m2b, sI_sub, pk_mul, sI_dec, fk_u_s, fk_u_o, sI_dec0, sI_z, sI_md, Bool.false_eq_true, Nat.reduceAdd, Nat.reduceMul, Nat.reduceSub, Nat.reduceMod, Nat.reduceDiv]
          · obtain ⟨a, g1, g2⟩ := ih (j + 1) (by omega) s
            refine ⟨a, fun x => ?_, ?_⟩
            · rw [← g1 (.ref (36 + j)), hX11_meet_16]
              simp (disch := first | assumption | omega) only [rX11_meet, eb, nc0, a4, c1, a1, c2, Option.bind_some, Option.toList_some, Option.toList_none, List.cons_append, List.nil_append, fk_b_0, nI_add, Nat.add_zero, Nat.zero_add, not_true_eq_false, not_false_eq_true, if_true, if_false, sI_le_t, sI_le_f, sI_lt_t, sI_lt_f, sI_eq_t, sI_eq_f, sI_rem, sI_div, sI_m1a, sI_m1b, sI_m1c, sI_m1d, sI_m1e, sI_m1f, sI_m2a, sI_m2b, sI_sub, pk_mul, sI_dec, fk_u_s, fk_u_o, sI_dec0, sI_z, sI_md, Bool.false_eq_true, Nat.reduceAdd, Nat.reduceMul, Nat.reduceSub, Nat.reduceMod, Nat.reduceDiv]
            · rw [← g2, hX12_meet_15]
              simp (disch := first | assumption | omega) only [rX12_meet, hm, mX12_lives, c1, c2, Option.bind_some, Option.toList_some, Option.toList_none, List.cons_append, List.nil_append, fk_b_0, nI_add, Nat.add_zero, Nat.zero_add, not_true_eq_false, not_false_eq_true, if_true, if_false, sI_le_t, sI_le_f, sI_lt_t, sI_lt_f, sI_eq_t, sI_eq_f, sI_rem, sI_div, sI_m1a, sI_m1b, sI_m1c, sI_m1d, sI_m1e, sI_m1f, sI_m2a, sI_m2b, sI_sub, pk_mul, sI_dec, fk_u_s, fk_u_o, sI_dec0, sI_z, sI_md, Bool.false_eq_true, Nat.reduceAdd, Nat.reduceMul, Nat.reduceSub, Nat.reduceMod, Nat.reduceDiv]
        · obtain ⟨a, g1, g2⟩ := ih (j + 1) (by omega) s
          refine ⟨a, fun x => ?_, ?_⟩
          · rw [← g1 (.ref (36 + j)), hX11_meet_16]
            simp (disch := first | assumption | omega) only [rX11_meet, eb, nc0, a4, c1, Option.bind_some, Option.toList_some, Option.toList_none, List.cons_append, List.nil_append, fk_b_0, nI_add, Nat.add_zero, Nat.zero_add, not_true_eq_false, not_false_eq_true, if_true, if_false, sI_le_t, sI_le_f, sI_lt_t, sI_lt_f, sI_eq_t, sI_eq_f, sI_rem, sI_div, sI_m1a, sI_m1b, sI_m1c, sI_m1d, sI_m1e, sI_m1f, sI_m2a, sI_m2b, sI_sub, pk_mul, sI_dec, fk_u_s, fk_u_o, sI_dec0, sI_z, sI_md, Bool.false_eq_true, Nat.reduceAdd, Nat.reduceMul, Nat.reduceSub, Nat.reduceMod, Nat.reduceDiv]
          · rw [← g2, hX12_meet_15]
            simp (disch := first | assumption | omega) only [rX12_meet, hm, mX12_lives, c1, Option.bind_some, Option.toList_some, Option.toList_none, List.cons_append, List.nil_append, fk_b_0, nI_add, Nat.add_zero, Nat.zero_add, not_true_eq_false, not_false_eq_true, if_true, if_false, sI_le_t, sI_le_f, sI_lt_t, sI_lt_f, sI_eq_t, sI_eq_f, sI_rem, sI_div, sI_m1a, sI_m1b, sI_m1c, sI_m1d, sI_m1e, sI_m1f, sI_m2a, sI_m2b, sI_sub, pk_mul, sI_dec, fk_u_s, fk_u_o, sI_dec0, sI_z, sI_md, Bool.false_eq_true, Nat.reduceAdd, Nat.reduceMul, Nat.reduceSub, Nat.reduceMod, Nat.reduceDiv]
    obtain ⟨a, g1, g2⟩ := key n 0 (Nat.zero_add n) (nI 65535)
    refine ⟨a, ?_, ?_⟩
    · simp (disch := first | assumption | omega) only [rX11_meet, mX11_within, h1, and_self, Option.bind_some, Option.toList_some, Option.toList_none, List.cons_append, List.nil_append, fk_b_0, nI_add, Nat.add_zero, Nat.zero_add, not_true_eq_false, not_false_eq_true, if_true, if_false, sI_le_t, sI_le_f, sI_lt_t, sI_lt_f, sI_eq_t, sI_eq_f, sI_rem, sI_div, sI_m1a, sI_m1b, sI_m1c, sI_m1d, sI_m1e, sI_m1f, sI_m2a, sI_m2b, sI_sub, pk_mul, sI_dec, fk_u_s, fk_u_o, sI_dec0, sI_z, sI_md, Bool.false_eq_true, Nat.reduceAdd, Nat.reduceMul, Nat.reduceSub, Nat.reduceMod, Nat.reduceDiv]
      exact g1 _
    · simp (disch := first | assumption | omega) only [rX12_meet, mX12_isOne, h1, and_self, Option.bind_some, Option.toList_some, Option.toList_none, List.cons_append, List.nil_append, fk_b_0, nI_add, Nat.add_zero, Nat.zero_add, not_true_eq_false, not_false_eq_true, if_true, if_false, sI_le_t, sI_le_f, sI_lt_t, sI_lt_f, sI_eq_t, sI_eq_f, sI_rem, sI_div, sI_m1a, sI_m1b, sI_m1c, sI_m1d, sI_m1e, sI_m1f, sI_m2a, sI_m2b, sI_sub, pk_mul, sI_dec, fk_u_s, fk_u_o, sI_dec0, sI_z, sI_md, Bool.false_eq_true, Nat.reduceAdd, Nat.reduceMul, Nat.reduceSub, Nat.reduceMod, Nat.reduceDiv]
      exact g2
  · refine ⟨(-1), ?_, ?_⟩
    · simp (disch := first | assumption | omega) only [rX11_meet, mX11_within, h1, Option.bind_some, Option.toList_some, Option.toList_none, List.cons_append, List.nil_append, fk_b_0, nI_add, Nat.add_zero, Nat.zero_add, not_true_eq_false, not_false_eq_true, if_true, if_false, sI_le_t, sI_le_f, sI_lt_t, sI_lt_f, sI_eq_t, sI_eq_f, sI_rem, sI_div, sI_m1a, sI_m1b, sI_m1c, sI_m1d, sI_m1e, sI_m1f, sI_m2a, sI_m2b, sI_sub, pk_mul, sI_dec, fk_u_s, fk_u_o, sI_dec0, sI_z, sI_md, Bool.false_eq_true, Nat.reduceAdd, Nat.reduceMul, Nat.reduceSub, Nat.reduceMod, Nat.reduceDiv]
    · simp (disch := first | assumption | omega) only [rX12_meet, mX12_isOne, h1, Option.bind_some, Option.toList_some, Option.toList_none, List.cons_append, List.nil_append, fk_b_0, nI_add, Nat.add_zero, Nat.zero_add, not_true_eq_false, not_false_eq_true, if_true, if_false, sI_le_t, sI_le_f, sI_lt_t, sI_lt_f, sI_eq_t, sI_eq_f, sI_rem, sI_div, sI_m1a, sI_m1b, sI_m1c, sI_m1d, sI_m1e, sI_m1f, sI_m2a, sI_m2b, sI_sub, pk_mul, sI_dec, fk_u_s, fk_u_o, sI_dec0, sI_z, sI_md, Bool.false_eq_true, Nat.reduceAdd, Nat.reduceMul, Nat.reduceSub, Nat.reduceMod, Nat.reduceDiv]
end RCH
