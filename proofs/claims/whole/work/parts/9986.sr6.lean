/-! THE LAW: the reference reads a law -/
section SR6
variable {N : Nat} {y y0 y1 y2 y' : Nat → Nat → Int32} {l : Nat → Nat → Int64} {d n a o k x c i b q j m : Nat} {bt : Nat → Nat} {R R2 w w0 K K0 : List (Nat × Nat)} {v : Int32}
def lz_ka : List (Nat × List (Nat × Nat) × List (Nat × Nat) × List (Nat × Nat)) → List (Nat × Nat)
  | [] => []
  | q :: Q => (q.2.1 ++ q.2.2.2) ++ lz_ka Q
def lz_rw (y : Nat → Nat → Int32) (c : Nat) : Nat → Nat → List (Nat × List (Nat × Nat) × List (Nat × Nat) × List (Nat × Nat)) → Prop
  | _, _, [] => True
  | j, b, q :: Q => y c j = nI q.1 ∧ y (c + 1) j = nI b ∧ y (c + 2) j = nI (b + q.2.1.length) ∧ y (c + 3) j = nI (b + q.2.1.length + q.2.2.2.length) ∧ lz_rw y c (j + 1) (b + q.2.1.length + q.2.2.2.length) Q
theorem lz_rw_c {c c' : Nat} : ∀ Q j b, (∀ i, j ≤ i → i < j + Q.length → y' c' i = y c i ∧ y' (c' + 1) i = y (c + 1) i ∧ y' (c' + 2) i = y (c + 2) i ∧ y' (c' + 3) i = y (c + 3) i) → lz_rw y c j b Q → lz_rw y' c' j b Q := by
  intro Q
  induction Q with
  | nil => intro j b _ _; trivial
  | cons q Q ih =>
    intro j b hk h
    obtain ⟨e0, e1, e2, e3⟩ := hk j (Nat.le_refl _) (by rw [List.length_cons]; omega)
    exact ⟨e0.trans h.1, e1.trans h.2.1, e2.trans h.2.2.1, e3.trans h.2.2.2.1, ih (j + 1) _ (fun i i1 i2 => hk i (by omega) (by rw [List.length_cons]; omega)) h.2.2.2.2⟩
theorem lz_hr_sp {c : Nat} : ∀ (K1 : List (Nat × Nat)) {K2 : List (Nat × Nat)} {b : Nat}, lz_hr y c b (K1 ++ K2) → lz_hr y c b K1 ∧ lz_hr y c (b + K1.length) K2 := by
  intro K1
  induction K1 with
  | nil => intro K2 b h; exact ⟨trivial, h⟩
  | cons k K1 ih =>
    intro K2 b h
    obtain ⟨g1, g2⟩ := ih h.2
    refine ⟨⟨h.1, g1⟩, ?_⟩
    rw [List.length_cons, show b + (K1.length + 1) = b + 1 + K1.length by omega]
    exact g2
theorem lz_hs_mk {c k : Nat} : ∀ Q j b, lz_rw y c j b Q → lz_hr y k b (lz_ka Q) → b + (lz_ka Q).length ≤ 240 → lz_hs y c k j Q := by
  intro Q
  induction Q with
  | nil => intro j b _ _ _; trivial
  | cons q Q ih =>
    intro j b h hr hl
    have hl : b + ((q.2.1 ++ q.2.2.2) ++ lz_ka Q).length ≤ 240 := hl
    rw [List.length_append, List.length_append] at hl
    obtain ⟨g1, g2⟩ := lz_hr_sp (q.2.1 ++ q.2.2.2) hr
    obtain ⟨g3, g4⟩ := lz_hr_sp q.2.1 g1
    rw [List.length_append, ← Nat.add_assoc] at g2
    exact ⟨⟨b, h.1, h.2.1, h.2.2.1, h.2.2.2.1, by omega, g3, g4⟩, ih (j + 1) _ h.2.2.2.2 g2 (by omega)⟩
theorem lz_cd_hr : ∀ (K : List (Nat × Nat)) b, lz_cd y b (lz_ab b K) → lz_hr y 256 b K := by
  intro K
  induction K with
  | nil => intro b _; trivial
  | cons k K ih => intro b h; exact ⟨⟨h.1, Nat.le_of_lt_succ h.2.1, h.2.2.1⟩, ih (b + 1) h.2.2.2⟩
def lz_lr (bt : Nat → Nat) (n m : Nat) (K0 : List (Nat × Nat)) (y y' : Nat → Nat → Int32) (g : Int32) (r : Int32 ⊕ List (Nat × List (Nat × Nat) × List (Nat × Nat) × List (Nat × Nat))) : Prop := match r with
  | .inl e => g = nI 0 ∧ y' 246 13 = e
  | .inr Q => g = nI 1 ∧ lz_ts bt n n (lz_ab 0 (K0 ++ lz_ka Q)) y' ∧ y' 246 18 = nI (m + Q.length) ∧ lz_rw y' 258 m K0.length Q ∧ ∀ i, i < m → y' 258 i = y 258 i ∧ y' 259 i = y 259 i ∧ y' 260 i = y 260 i ∧ y' 261 i = y 261 i
theorem mX12_law_l (hn : n ≤ 240) {nn x3 : Value} : ∀ k (K0 : List (Nat × Nat)) a m y, a ≤ n → n < k + a → m ≤ 16 → K0.length ≤ a → lz_ts bt n a (lz_ab 0 K0) y → y 246 18 = nI m → ∃ g y1 g' y', fk_ev (d + 7) qX12_readsClause 0 [.ref 246, .null] [] (fk_E N y l) = some (some (.int g), fk_E N y1 l) ∧ (g = nI 0 ∨ g = nI 1) ∧ fk_s8 y y' ∧ fk_ev (d + 8) qX12_law 46 [.ref 246, nn, .int g, x3] [] (fk_E N y1 l) = fk_ev (d + 8) qX12_law 86 [.ref 246, nn, .int g', x3] [] (fk_E N y' l) ∧ lz_lr bt n m K0 y y' g' (lz_L bt n k a m) := by
  intro k
  induction k with
  | zero => intro K0 a m y ha hk; exact absurd hk (by omega)
  | succ k ih =>
    intro K0 a m y ha hk hm hK h h18
    have hl0 : (lz_ab 0 K0).length = K0.length := lz_ab_len K0 0
    obtain ⟨g, y1, e1, s1, r1⟩ := mX12_readsClause (N := N) (l := l) (d := d) hn hm (by rw [hl0]; exact hK) h h18
    have hok := lz_cl_ok (bt := bt) (a := a) (m := m) hn ha
    have hcm := lz_cl_m (bt := bt) (n := n) (a := a) (m := m)
    unfold lz_L
    cases e : lz_cl bt n a m with
    | inl f =>
      rw [e] at r1
      obtain ⟨r1, r2⟩ := r1
      subst r1
      refine ⟨nI 0, y1, nI 0, y1, e1, Or.inl rfl, s1, ?_, rfl, r2⟩
      rw [hX12_law_46]
      simp (disch := first | assumption | omega) only [rX12_law, Option.bind_some, Option.toList_some, Option.toList_none, List.cons_append, List.nil_append, fk_b_0, nI_add, Nat.add_zero, Nat.zero_add, not_true_eq_false, not_false_eq_true, if_true, if_false, sI_le_t, sI_le_f, sI_lt_t, sI_lt_f, sI_eq_t, sI_eq_f, sI_rem, sI_div, sI_m1a, sI_m1b, sI_m1c, sI_m1d, sI_m1e, sI_m1f, sI_m2a, sI_m2b, sI_sub, pk_mul, sI_dec, fk_u_s, fk_u_o, sI_dec0, sI_z, sI_md, Bool.false_eq_true, Nat.reduceAdd, Nat.reduceMul, Nat.reduceSub, Nat.reduceMod, Nat.reduceDiv]
    | inr x =>
      rw [e] at r1 hok
      have m16 : m < 16 := hcm (fun z hz => by rw [e] at hz; cases hz)
      obtain ⟨q1, q2, q3⟩ := hok
      have q4 := q3.1
      have q5 := q3.2.1
      have q6 := q3.2.2.1
      obtain ⟨r0, r1, r2, r3, r4, r5, r6, r7⟩ := r1
      subst r0
      rw [hl0] at r1 r5 r6 r7
      have eK : lz_ab 0 K0 ++ lz_ab K0.length (x.2.2.1 ++ x.2.2.2.2) = lz_ab 0 (K0 ++ (x.2.2.1 ++ x.2.2.2.2)) := by rw [lz_ab_app K0, Nat.zero_add]
      rw [eK] at r1
      have lK : (K0 ++ (x.2.2.1 ++ x.2.2.2.2)).length = K0.length + x.2.2.1.length + x.2.2.2.2.length := by rw [List.length_append, List.length_append]; omega
      have e11 := r1.1.1
      have e12 := r1.1.2.1
      dsimp only
      by_cases c : x.1 = n
      · rw [if_pos c]
        refine ⟨nI 1, y1, nI 1, y1, e1, Or.inr rfl, s1, ?_, rfl, ?_, r2, ⟨r4, r5, r6, r7, trivial⟩, r3⟩
        · rw [hX12_law_46]
          rw [c] at e11
          simp (disch := first | assumption | omega) only [rX12_law, e11, e12, Option.bind_some, Option.toList_some, Option.toList_none, List.cons_append, List.nil_append, fk_b_0, nI_add, Nat.add_zero, Nat.zero_add, not_true_eq_false, not_false_eq_true, if_true, if_false, sI_le_t, sI_le_f, sI_lt_t, sI_lt_f, sI_eq_t, sI_eq_f, sI_rem, sI_div, sI_m1a, sI_m1b, sI_m1c, sI_m1d, sI_m1e, sI_m1f, sI_m2a, sI_m2b, sI_sub, pk_mul, sI_dec, fk_u_s, fk_u_o, sI_dec0, sI_z, sI_md, Bool.false_eq_true, Nat.reduceAdd, Nat.reduceMul, Nat.reduceSub, Nat.reduceMod, Nat.reduceDiv]
        · rw [c] at r1
          show lz_ts bt n n (lz_ab 0 (K0 ++ ((x.2.2.1 ++ x.2.2.2.2) ++ []))) y1
          rw [List.append_nil]
          exact r1
      · rw [if_neg c]
        have xn : x.1 < n := by omega
        by_cases c2 : bt x.1 = 59
        · rw [if_pos c2]
          have ep : ab_pk bt n x.1 = nI 59 := by rw [← c2]; exact if_pos xn
          have tk := mX12_takes_t (N := N) (l := l) (d := d + 6) r1.1 (by omega) ep
          have t2 : lz_ts bt n (x.1 + 1) (lz_ab 0 (K0 ++ (x.2.2.1 ++ x.2.2.2.2))) (fk_u y1 246 11 (nI (x.1 + 1))) := ⟨fk_tx_k r1.1 fk_u_s xn (fk_u_o (by omega)) (fk_u_rowo (by omega)), lz_cd_c _ 0 (fun j _ _ => fk_u_o (by omega)) r1.2.1, by rw [fk_u_o (by omega)]; exact r1.2.2⟩
          obtain ⟨g2, y2, g', y', f1, f2, f3, f4, f5⟩ := ih (K0 ++ (x.2.2.1 ++ x.2.2.2.2)) (x.1 + 1) (m + 1) _ xn (by omega) (by omega) (by rw [lK]; omega) t2 (by rw [fk_u_o (by omega)]; exact r2)
          have ev : fk_ev (d + 8) qX12_law 46 [.ref 246, nn, .int (nI 1), x3] [] (fk_E N y1 l) = fk_ev (d + 8) qX12_law 46 [.ref 246, nn, .int g2, x3] [] (fk_E N y2 l) := by
            rw [hX12_law_46]
            have x250 : x.1 < 250 := by omega
            rcases f2 with rfl | rfl
            · simp (disch := first | assumption | omega) only [rX12_law, e11, e12, tk, f1, Option.bind_some, Option.toList_some, Option.toList_none, List.cons_append, List.nil_append, fk_b_0, nI_add, Nat.add_zero, Nat.zero_add, not_true_eq_false, not_false_eq_true, if_true, if_false, sI_le_t, sI_le_f, sI_lt_t, sI_lt_f, sI_eq_t, sI_eq_f, sI_rem, sI_div, sI_m1a, sI_m1b, sI_m1c, sI_m1d, sI_m1e, sI_m1f, sI_m2a, sI_m2b, sI_sub, pk_mul, sI_dec, fk_u_s, fk_u_o, sI_dec0, sI_z, sI_md, Bool.false_eq_true, Nat.reduceAdd, Nat.reduceMul, Nat.reduceSub, Nat.reduceMod, Nat.reduceDiv]
            · simp (disch := first | assumption | omega) only [rX12_law, e11, e12, tk, f1, Option.bind_some, Option.toList_some, Option.toList_none, List.cons_append, List.nil_append, fk_b_0, nI_add, Nat.add_zero, Nat.zero_add, not_true_eq_false, not_false_eq_true, if_true, if_false, sI_le_t, sI_le_f, sI_lt_t, sI_lt_f, sI_eq_t, sI_eq_f, sI_rem, sI_div, sI_m1a, sI_m1b, sI_m1c, sI_m1d, sI_m1e, sI_m1f, sI_m2a, sI_m2b, sI_sub, pk_mul, sI_dec, fk_u_s, fk_u_o, sI_dec0, sI_z, sI_md, Bool.false_eq_true, Nat.reduceAdd, Nat.reduceMul, Nat.reduceSub, Nat.reduceMod, Nat.reduceDiv]
          refine ⟨nI 1, y1, g', y', e1, Or.inr rfl, fk_s8_t (fk_s8_u (c := 246) (i := 11) (v := nI (x.1 + 1)) s1 (by omega)) f3, ev.trans f4, ?_⟩
          cases e2 : lz_L bt n k (x.1 + 1) (m + 1) with
          | inl f => rw [e2] at f5; exact f5
          | inr Q =>
            rw [e2] at f5
            obtain ⟨t0, t1, t2, t3, t4⟩ := f5
            rw [lK] at t3
            have fm : ∀ i, i < m + 1 → y' 258 i = y1 258 i ∧ y' 259 i = y1 259 i ∧ y' 260 i = y1 260 i ∧ y' 261 i = y1 261 i := fun i hi => by
              have := t4 i hi
              rw [fk_u_o (by omega), fk_u_o (by omega), fk_u_o (by omega), fk_u_o (by omega)] at this
              exact this
            obtain ⟨m0, m1, m2, m3⟩ := fm m (by omega)
            refine ⟨t0, ?_, by rw [t2, List.length_cons, show m + 1 + Q.length = m + (Q.length + 1) by omega], ⟨m0.trans r4, m1.trans r5, m2.trans r6, m3.trans r7, t3⟩, fun i hi => ?_⟩
            · show lz_ts bt n n (lz_ab 0 (K0 ++ ((x.2.2.1 ++ x.2.2.2.2) ++ lz_ka Q))) y'
              rw [← List.append_assoc K0]
              exact t1
            · obtain ⟨a0, a1, a2, a3⟩ := fm i (by omega)
              obtain ⟨b0, b1, b2, b3⟩ := r3 i hi
              exact ⟨a0.trans b0, a1.trans b1, a2.trans b2, a3.trans b3⟩
        · rw [if_neg c2]
          have tk := mX12_takes_f (N := N) (l := l) (d := d + 6) r1.1 (show 59 < 256 by omega) (lz_pk_n (n := n) (x := 59) (r1.1.2.2.2.1 x.1) (by omega) (fun z => c2 z.2))
          refine ⟨nI 1, y1, nI 0, fk_u y1 246 13 (fk_flt 1 x.1), e1, Or.inr rfl, fk_s8_u s1 (by omega), ?_, rfl, fk_u_s⟩
          rw [hX12_law_46]
          have x250 : x.1 < 250 := by omega
          simp (disch := first | assumption | omega) only [rX12_law, e11, e12, tk, Option.bind_some, Option.toList_some, Option.toList_none, List.cons_append, List.nil_append, fk_b_0, nI_add, Nat.add_zero, Nat.zero_add, not_true_eq_false, not_false_eq_true, if_true, if_false, sI_le_t, sI_le_f, sI_lt_t, sI_lt_f, sI_eq_t, sI_eq_f, sI_rem, sI_div, sI_m1a, sI_m1b, sI_m1c, sI_m1d, sI_m1e, sI_m1f, sI_m2a, sI_m2b, sI_sub, pk_mul, sI_dec, fk_u_s, fk_u_o, sI_dec0, sI_z, sI_md, Bool.false_eq_true, Nat.reduceAdd, Nat.reduceMul, Nat.reduceSub, Nat.reduceMod, Nat.reduceDiv]
          rw [hX12_law_46]
          simp (disch := first | assumption | omega) only [rX12_law, Option.bind_some, Option.toList_some, Option.toList_none, List.cons_append, List.nil_append, fk_b_0, nI_add, Nat.add_zero, Nat.zero_add, not_true_eq_false, not_false_eq_true, if_true, if_false, sI_le_t, sI_le_f, sI_lt_t, sI_lt_f, sI_eq_t, sI_eq_f, sI_rem, sI_div, sI_m1a, sI_m1b, sI_m1c, sI_m1d, sI_m1e, sI_m1f, sI_m2a, sI_m2b, sI_sub, pk_mul, sI_dec, fk_u_s, fk_u_o, sI_dec0, sI_z, sI_md, Bool.false_eq_true, Nat.reduceAdd, Nat.reduceMul, Nat.reduceSub, Nat.reduceMod, Nat.reduceDiv]
/-- rows copied -/
theorem mX12_law_c1 {nn g : Value} {M : Nat} (hM : M ≤ 250) (h16 : y 246 16 = nI M) : ∃ y', fk_ev d qX12_law 110 [.ref 246, nn, g, .int (nI 0)] [] (fk_E N y l) = fk_ev d qX12_law 110 [.ref 246, nn, g, .int (nI M)] [] (fk_E N y' l) ∧ (∀ k, k ≠ 262 → y' k = y k) ∧ ∀ i, i < M → y' 262 i = y 256 i := by
  have := fk_loopr (fun j (z : Nat → Nat → Int32) => fk_ev d qX12_law 110 [.ref 246, nn, g, .int (nI j)] [] (fk_E N z l)) (fun j z => (∀ k, k ≠ 262 → z k = y k) ∧ ∀ i, i < j → z 262 i = y 256 i) M (fun j z hj hI => ?_) M 0 y (Nat.zero_add _) ⟨fun _ _ => rfl, fun i hi => absurd hi (Nat.not_lt_zero _)⟩
  · obtain ⟨y', e, h1, h2⟩ := this
    exact ⟨y', e, h1, h2⟩
  · refine ⟨fk_u z 262 j (z 256 j), ?_, fun k hk => by rw [fk_u_rowo hk]; exact hI.1 k hk, fun i hi => ?_⟩
    · have z16 : z 246 16 = nI M := by rw [hI.1 246 (by omega)]; exact h16
      rw [hX12_law_110]
      simp (disch := first | assumption | omega) only [rX12_law, z16, Option.bind_some, Option.toList_some, Option.toList_none, List.cons_append, List.nil_append, fk_b_0, nI_add, Nat.add_zero, Nat.zero_add, not_true_eq_false, not_false_eq_true, if_true, if_false, sI_le_t, sI_le_f, sI_lt_t, sI_lt_f, sI_eq_t, sI_eq_f, sI_rem, sI_div, sI_m1a, sI_m1b, sI_m1c, sI_m1d, sI_m1e, sI_m1f, sI_m2a, sI_m2b, sI_sub, pk_mul, sI_dec, fk_u_s, fk_u_o, sI_dec0, sI_z, sI_md, Bool.false_eq_true, Nat.reduceAdd, Nat.reduceMul, Nat.reduceSub, Nat.reduceMod, Nat.reduceDiv]
    · by_cases e : i = j
      · subst e
        rw [fk_u_s, hI.1 256 (by omega)]
      · rw [fk_u_o (by omega)]
        exact hI.2 i (by omega)
theorem mX12_law_c2 {nn g : Value} {M : Nat} (hM : M ≤ 16) (h18 : y 246 18 = nI M) : ∃ y', fk_ev d qX12_law 138 [.ref 246, nn, g, .int (nI 0)] [] (fk_E N y l) = fk_ev d qX12_law 138 [.ref 246, nn, g, .int (nI M)] [] (fk_E N y' l) ∧ (∀ k, ¬ (263 ≤ k ∧ k ≤ 266) → y' k = y k) ∧ ∀ i, i < M → y' 263 i = y 258 i ∧ y' 264 i = y 259 i ∧ y' 265 i = y 260 i ∧ y' 266 i = y 261 i := by
  have := fk_loopr (fun j (z : Nat → Nat → Int32) => fk_ev d qX12_law 138 [.ref 246, nn, g, .int (nI j)] [] (fk_E N z l)) (fun j z => (∀ k, ¬ (263 ≤ k ∧ k ≤ 266) → z k = y k) ∧ ∀ i, i < j → z 263 i = y 258 i ∧ z 264 i = y 259 i ∧ z 265 i = y 260 i ∧ z 266 i = y 261 i) M (fun j z hj hI => ?_) M 0 y (Nat.zero_add _) ⟨fun _ _ => rfl, fun i hi => absurd hi (Nat.not_lt_zero _)⟩
  · obtain ⟨y', e, h1, h2⟩ := this
    exact ⟨y', e, h1, h2⟩
  · refine ⟨fk_u (fk_u (fk_u (fk_u z 263 j (z 258 j)) 264 j (z 259 j)) 265 j (z 260 j)) 266 j (z 261 j), ?_, fun k hk => by rw [fk_u_rowo (by omega), fk_u_rowo (by omega), fk_u_rowo (by omega), fk_u_rowo (by omega)]; exact hI.1 k hk, fun i hi => ?_⟩
    · have z18 : z 246 18 = nI M := by rw [hI.1 246 (by omega)]; exact h18
      rw [hX12_law_138]
      simp (disch := first | assumption | omega) only [rX12_law, z18, Option.bind_some, Option.toList_some, Option.toList_none, List.cons_append, List.nil_append, fk_b_0, nI_add, Nat.add_zero, Nat.zero_add, not_true_eq_false, not_false_eq_true, if_true, if_false, sI_le_t, sI_le_f, sI_lt_t, sI_lt_f, sI_eq_t, sI_eq_f, sI_rem, sI_div, sI_m1a, sI_m1b, sI_m1c, sI_m1d, sI_m1e, sI_m1f, sI_m2a, sI_m2b, sI_sub, pk_mul, sI_dec, fk_u_s, fk_u_o, sI_dec0, sI_z, sI_md, Bool.false_eq_true, Nat.reduceAdd, Nat.reduceMul, Nat.reduceSub, Nat.reduceMod, Nat.reduceDiv]
    · by_cases e : i = j
      · subst e
        refine ⟨?_, ?_, ?_, ?_⟩
        · rw [fk_u_o (by omega), fk_u_o (by omega), fk_u_o (by omega), fk_u_s, hI.1 258 (by omega)]
        · rw [fk_u_o (by omega), fk_u_o (by omega), fk_u_s, hI.1 259 (by omega)]
        · rw [fk_u_o (by omega), fk_u_s, hI.1 260 (by omega)]
        · rw [fk_u_s, hI.1 261 (by omega)]
      · rw [fk_u_o (by omega), fk_u_o (by omega), fk_u_o (by omega), fk_u_o (by omega), fk_u_o (by omega), fk_u_o (by omega), fk_u_o (by omega), fk_u_o (by omega), fk_u_o (by omega), fk_u_o (by omega), fk_u_o (by omega), fk_u_o (by omega), fk_u_o (by omega), fk_u_o (by omega), fk_u_o (by omega), fk_u_o (by omega)]
        exact hI.2 i (by omega)
theorem lz_ka_len : ∀ Q : List (Nat × List (Nat × Nat) × List (Nat × Nat) × List (Nat × Nat)), (∀ q ∈ Q, ∃ k, lz_Qc q k) → (lz_ka Q).length ≤ lz_tl Q := by
  intro Q
  induction Q with
  | nil => intro _; exact Nat.le_refl _
  | cons q Q ih =>
    intro h
    obtain ⟨k, h1⟩ := h q (List.mem_cons_self ..)
    have h2 := h1.2.1
    have h3 := h1.2.2.1
    have := ih fun q hq => h q (List.mem_cons_of_mem _ hq)
    show ((q.2.1 ++ q.2.2.2) ++ lz_ka Q).length ≤ (lz_kw q).length + q.2.2.1.length + lz_tl Q
    rw [List.length_append, List.length_append]
    omega
/-- what the reference's law leaves -/
def lz_xr (n : Nat) (y y' : Nat → Nat → Int32) (a : Int32) (r : Int32 ⊕ List (Nat × List (Nat × Nat) × List (Nat × Nat) × List (Nat × Nat))) : Prop := match r with
  | .inl e => a = e ∧ (∀ k, k ≠ 246 → ¬ (256 ≤ k ∧ k ≤ 261) → y' k = y k) ∧ y' 246 19 = y 246 19
  | .inr Q => a = nI Q.length ∧ (∀ k, k ≠ 246 → ¬ (256 ≤ k ∧ k ≤ 266) → y' k = y k) ∧ y' 246 19 = nI Q.length ∧ lz_hs y' 263 262 0 Q
theorem mX12_law {t : Nat} (h1 : 1 ≤ n) (hn : n ≤ 240) (hnt : n ≤ t) (ht : t ≤ 260) (e10 : y 246 10 = nI t) (hb : ∀ i, i < n → y 255 i &&& nI 255 = nI (bt i)) (b6 : ∀ i, bt i < 256) : ∃ a y', fk_ev (d + 8) qX12_law 0 [.ref 246, .int ((nI n)), .null, .null] [] (fk_E N y l) = some (some (.int a), fk_E N y' l) ∧ y' 246 10 = nI 0 ∧ (∀ i, i < 10 ∨ 19 < i → y' 246 i = y 246 i) ∧ lz_xr n y y' a (lz_L bt n (n + 1) 0 0) := by
  obtain ⟨Y, eY⟩ : ∃ Y, Y = fk_u (fk_u (fk_u (fk_u y 246 11 (nI 0)) 246 12 (nI n)) 246 16 (nI 0)) 246 18 (nI 0) := ⟨_, rfl⟩
  have fY : ∀ k, k ≠ 246 → Y k = y k := fun k hk => by rw [eY, fk_u_rowo hk, fk_u_rowo hk, fk_u_rowo hk, fk_u_rowo hk]
  have iY : ∀ i, i < 11 ∨ 18 < i → Y 246 i = y 246 i := fun i hi => by rw [eY, fk_u_o (by omega), fk_u_o (by omega), fk_u_o (by omega), fk_u_o (by omega)]
  have tsY : lz_ts bt n 0 (lz_ab 0 []) Y := by
    refine ⟨⟨?_, ?_, fun i hi => by rw [fY 255 (by omega)]; exact hb i hi, b6, Nat.zero_le _, by omega⟩, trivial, ?_⟩
    · rw [eY, fk_u_o (by omega), fk_u_o (by omega), fk_u_o (by omega), fk_u_s]
    · rw [eY, fk_u_o (by omega), fk_u_o (by omega), fk_u_s]
    · rw [eY, fk_u_o (by omega), fk_u_s]; rfl
  obtain ⟨g, y1, g', y', f1, f2, f3, f4, f5⟩ := mX12_law_l (N := N) (l := l) (d := d) (nn := .int (nI n)) (x3 := .null) hn (n + 1) [] 0 0 Y (Nat.zero_le _) (by omega) (by omega) (Nat.zero_le _) tsY (by rw [eY, fk_u_s])
  have st : fk_ev (d + 8) qX12_law 0 [.ref 246, .int ((nI n)), .null, .null] [] (fk_E N y l) = fk_ev (d + 8) qX12_law 86 [.ref 246, .int (nI n), .int g', .null] [] (fk_E N y' l) := by
    rw [← f4]
    rw [eY] at f1
    simp (disch := first | assumption | omega) only [rX12_law, mX12_in, and_self, e10, f1, Option.bind_some, Option.toList_some, Option.toList_none, List.cons_append, List.nil_append, fk_b_0, nI_add, Nat.add_zero, Nat.zero_add, not_true_eq_false, not_false_eq_true, if_true, if_false, sI_le_t, sI_le_f, sI_lt_t, sI_lt_f, sI_eq_t, sI_eq_f, sI_rem, sI_div, sI_m1a, sI_m1b, sI_m1c, sI_m1d, sI_m1e, sI_m1f, sI_m2a, sI_m2b, sI_sub, pk_mul, sI_dec, fk_u_s, fk_u_o, sI_dec0, sI_z, sI_md, Bool.false_eq_true, Nat.reduceAdd, Nat.reduceMul, Nat.reduceSub, Nat.reduceMod, Nat.reduceDiv]
  have fr : ∀ k, k ≠ 246 → ¬ (256 ≤ k ∧ k ≤ 261) → y' k = y k := fun k k1 k2 => (f3.1 k k1 k2).trans (fY k k1)
  have fi : ∀ i, i < 10 ∨ 18 < i → y' 246 i = y 246 i := fun i hi => (f3.2 i (by omega)).trans (iY i (by omega))
  have hok := lz_L_ok (bt := bt) hn (n + 1) 0 0 (Nat.zero_le _) (by omega)
  cases e : lz_L bt n (n + 1) 0 0 with
  | inl f =>
    rw [e] at f5
    obtain ⟨p1, p2⟩ := f5
    subst p1
    refine ⟨f, fk_u y' 246 10 (nI 0), ?_, fk_u_s, fun i hi => by rw [fk_u_o (by omega)]; exact fi i (by omega), rfl, fun k k1 k2 => by rw [fk_u_rowo k1]; exact fr k k1 k2, by rw [fk_u_o (by omega)]; exact fi 19 (by omega)⟩
    rw [st]
    simp (disch := first | assumption | omega) only [rX12_law, p2, Option.bind_some, Option.toList_some, Option.toList_none, List.cons_append, List.nil_append, fk_b_0, nI_add, Nat.add_zero, Nat.zero_add, not_true_eq_false, not_false_eq_true, if_true, if_false, sI_le_t, sI_le_f, sI_lt_t, sI_lt_f, sI_eq_t, sI_eq_f, sI_rem, sI_div, sI_m1a, sI_m1b, sI_m1c, sI_m1d, sI_m1e, sI_m1f, sI_m2a, sI_m2b, sI_sub, pk_mul, sI_dec, fk_u_s, fk_u_o, sI_dec0, sI_z, sI_md, Bool.false_eq_true, Nat.reduceAdd, Nat.reduceMul, Nat.reduceSub, Nat.reduceMod, Nat.reduceDiv]
  | inr Q =>
    rw [e] at f5 hok
    obtain ⟨p1, p2, p3, p4, _⟩ := f5
    obtain ⟨k1, k2, k3, _, k5⟩ := hok
    subst p1
    have kl := lz_ka_len Q k5
    have p2 : lz_ts bt n n (lz_ab 0 (lz_ka Q)) y' := p2
    have e16 : y' 246 16 = nI (lz_ka Q).length := by have := p2.2.2; rw [lz_ab_len] at this; exact this
    rw [Nat.zero_add] at p3
    obtain ⟨z1, c1, c2, c3⟩ := mX12_law_c1 (N := N) (l := l) (d := d + 8) (y := fk_u (fk_u y' 246 10 (nI 0)) 246 19 (nI Q.length)) (nn := .int (nI n)) (g := .int (nI 1)) (M := (lz_ka Q).length) (by omega) (by rw [fk_u_o (by omega), fk_u_o (by omega)]; exact e16)
    have z18 : z1 246 18 = nI Q.length := by rw [c2 246 (by omega), fk_u_o (by omega), fk_u_o (by omega)]; exact p3
    have z16 : z1 246 16 = nI (lz_ka Q).length := by rw [c2 246 (by omega), fk_u_o (by omega), fk_u_o (by omega)]; exact e16
    obtain ⟨z2, d1, d2, d3⟩ := mX12_law_c2 (N := N) (l := l) (d := d + 8) (y := z1) (nn := .int (nI n)) (g := .int (nI 1)) (M := Q.length) (by omega) z18
    have z246 : z2 246 = fk_u (fk_u y' 246 10 (nI 0)) 246 19 (nI Q.length) 246 := by rw [d2 246 (by omega), c2 246 (by omega)]
    have z218 : z2 246 18 = nI Q.length := by rw [d2 246 (by omega)]; exact z18
    refine ⟨nI Q.length, z2, ?_, ?_, fun i hi => ?_, rfl, fun k k1 k2 => ?_, ?_, ?_⟩
    · rw [st]
      have s1 : fk_ev (d + 8) qX12_law 86 [.ref 246, .int (nI n), .int (nI 1), .null] [] (fk_E N y' l) = fk_ev (d + 8) qX12_law 110 [.ref 246, .int (nI n), .int (nI 1), .int (nI 0)] [] (fk_E N (fk_u (fk_u y' 246 10 (nI 0)) 246 19 (nI Q.length)) l) := by
        simp (disch := first | assumption | omega) only [rX12_law, p3, Option.bind_some, Option.toList_some, Option.toList_none, List.cons_append, List.nil_append, fk_b_0, nI_add, Nat.add_zero, Nat.zero_add, not_true_eq_false, not_false_eq_true, if_true, if_false, sI_le_t, sI_le_f, sI_lt_t, sI_lt_f, sI_eq_t, sI_eq_f, sI_rem, sI_div, sI_m1a, sI_m1b, sI_m1c, sI_m1d, sI_m1e, sI_m1f, sI_m2a, sI_m2b, sI_sub, pk_mul, sI_dec, fk_u_s, fk_u_o, sI_dec0, sI_z, sI_md, Bool.false_eq_true, Nat.reduceAdd, Nat.reduceMul, Nat.reduceSub, Nat.reduceMod, Nat.reduceDiv]
      rw [s1, c1, hX12_law_110]
      have s2 : fk_ev (d + 8) qX12_law 111 [.ref 246, .int (nI n), .int (nI 1), .int (nI (lz_ka Q).length)] [.int (nI (lz_ka Q).length)] (fk_E N z1 l) = fk_ev (d + 8) qX12_law 138 [.ref 246, .int (nI n), .int (nI 1), .int (nI 0)] [] (fk_E N z1 l) := by
        simp (disch := first | assumption | omega) only [rX12_law, z16, Option.bind_some, Option.toList_some, Option.toList_none, List.cons_append, List.nil_append, fk_b_0, nI_add, Nat.add_zero, Nat.zero_add, not_true_eq_false, not_false_eq_true, if_true, if_false, sI_le_t, sI_le_f, sI_lt_t, sI_lt_f, sI_eq_t, sI_eq_f, sI_rem, sI_div, sI_m1a, sI_m1b, sI_m1c, sI_m1d, sI_m1e, sI_m1f, sI_m2a, sI_m2b, sI_sub, pk_mul, sI_dec, fk_u_s, fk_u_o, sI_dec0, sI_z, sI_md, Bool.false_eq_true, Nat.reduceAdd, Nat.reduceMul, Nat.reduceSub, Nat.reduceMod, Nat.reduceDiv]
      rw [s2, d1, hX12_law_138]
      simp (disch := first | assumption | omega) only [rX12_law, z218, Option.bind_some, Option.toList_some, Option.toList_none, List.cons_append, List.nil_append, fk_b_0, nI_add, Nat.add_zero, Nat.zero_add, not_true_eq_false, not_false_eq_true, if_true, if_false, sI_le_t, sI_le_f, sI_lt_t, sI_lt_f, sI_eq_t, sI_eq_f, sI_rem, sI_div, sI_m1a, sI_m1b, sI_m1c, sI_m1d, sI_m1e, sI_m1f, sI_m2a, sI_m2b, sI_sub, pk_mul, sI_dec, fk_u_s, fk_u_o, sI_dec0, sI_z, sI_md, Bool.false_eq_true, Nat.reduceAdd, Nat.reduceMul, Nat.reduceSub, Nat.reduceMod, Nat.reduceDiv]
    · rw [z246, fk_u_o (by omega), fk_u_s]
    · rw [z246, fk_u_o (by omega), fk_u_o (by omega)]
      exact fi i (by omega)
    · rw [d2 k (by omega), c2 k (by omega), fk_u_rowo k1, fk_u_rowo k1]
      exact fr k k1 (by omega)
    · rw [z246, fk_u_s]
    · have rw1 : lz_rw z2 263 0 0 Q := lz_rw_c Q 0 0 (fun i _ hi => by
        obtain ⟨a0, a1, a2, a3⟩ := d3 i (by omega)
        rw [c2 258 (by omega), fk_u_o (by omega), fk_u_o (by omega)] at a0
        rw [c2 259 (by omega), fk_u_o (by omega), fk_u_o (by omega)] at a1
        rw [c2 260 (by omega), fk_u_o (by omega), fk_u_o (by omega)] at a2
        rw [c2 261 (by omega), fk_u_o (by omega), fk_u_o (by omega)] at a3
        exact ⟨a0, a1, a2, a3⟩) p4
      have hr := lz_cd_hr (lz_ka Q) 0 p2.2.1
      have hr2 : lz_hr z2 262 0 (lz_ka Q) := lz_hr_c (lz_ka Q) 0 (fun i _ hi => by
        rw [d2 262 (by omega), c3 i (by omega), fk_u_o (by omega), fk_u_o (by omega)]) hr
      exact lz_hs_mk Q 0 0 rw1 hr2 (by omega)
end SR6
