/-! THE LAW: the reference reads clauses -/
section SR5
variable {N : Nat} {y y0 y1 y2 y' : Nat → Nat → Int32} {l : Nat → Nat → Int64} {d n a o k x c i b q j m : Nat} {bt : Nat → Nat} {R R2 w w0 K K0 : List (Nat × Nat)} {v : Int32}
theorem mX12_isClause {c : Nat} (hc : c < 256) {h : fk_H} : fk_ev d qX12_isClause 0 [.int ((nI c))] [] h = some (some (.int ((fk_b (lz_cls c = true)))), h) := by
  by_cases c1 : lz_cls c = true
  · rw [fk_b_t c1]
    unfold lz_cls at c1
    simp only [Bool.or_eq_true, beq_iff_eq] at c1
    rcases c1 with ((((rfl | rfl) | rfl) | rfl) | rfl) | rfl
    all_goals simp (disch := first | assumption | omega) only [rX12_isClause, Option.bind_some, Option.toList_some, Option.toList_none, List.cons_append, List.nil_append, fk_b_0, nI_add, Nat.add_zero, Nat.zero_add, not_true_eq_false, not_false_eq_true, if_true, if_false, sI_le_t, sI_le_f, sI_lt_t, sI_lt_f, sI_eq_t, sI_eq_f, sI_rem, sI_div, sI_m1a, sI_m1b, sI_m1c, sI_m1d, sI_m1e, sI_m1f, sI_m2a, sI_m2b, sI_sub, pk_mul, sI_dec, fk_u_s, fk_u_o, sI_dec0, sI_z, sI_md, Bool.false_eq_true, Nat.reduceAdd, Nat.reduceMul, Nat.reduceSub, Nat.reduceMod, Nat.reduceDiv]
  · rw [fk_b_f c1]
    unfold lz_cls at c1
    simp only [Bool.or_eq_true, beq_iff_eq] at c1
    have n1 : c ≠ 99 := by omega
    have n2 : c ≠ 100 := by omega
    have n3 : c ≠ 98 := by omega
    have n4 : c ≠ 119 := by omega
    have n5 : c ≠ 120 := by omega
    have n6 : c ≠ 101 := by omega
    simp (disch := first | assumption | omega) only [rX12_isClause, Option.bind_some, Option.toList_some, Option.toList_none, List.cons_append, List.nil_append, fk_b_0, nI_add, Nat.add_zero, Nat.zero_add, not_true_eq_false, not_false_eq_true, if_true, if_false, sI_le_t, sI_le_f, sI_lt_t, sI_lt_f, sI_eq_t, sI_eq_f, sI_rem, sI_div, sI_m1a, sI_m1b, sI_m1c, sI_m1d, sI_m1e, sI_m1f, sI_m2a, sI_m2b, sI_sub, pk_mul, sI_dec, fk_u_s, fk_u_o, sI_dec0, sI_z, sI_md, Bool.false_eq_true, Nat.reduceAdd, Nat.reduceMul, Nat.reduceSub, Nat.reduceMod, Nat.reduceDiv]
theorem mX12_isClause_n {h : fk_H} : fk_ev d qX12_isClause 0 [.int ((-1))] [] h = some (some (.int ((nI 0))), h) := by
  simp (disch := first | assumption | omega) only [rX12_isClause, Option.bind_some, Option.toList_some, Option.toList_none, List.cons_append, List.nil_append, fk_b_0, nI_add, Nat.add_zero, Nat.zero_add, not_true_eq_false, not_false_eq_true, if_true, if_false, sI_le_t, sI_le_f, sI_lt_t, sI_lt_f, sI_eq_t, sI_eq_f, sI_rem, sI_div, sI_m1a, sI_m1b, sI_m1c, sI_m1d, sI_m1e, sI_m1f, sI_m2a, sI_m2b, sI_sub, pk_mul, sI_dec, fk_u_s, fk_u_o, sI_dec0, sI_z, sI_md, Bool.false_eq_true, Nat.reduceAdd, Nat.reduceMul, Nat.reduceSub, Nat.reduceMod, Nat.reduceDiv]
def fk_s8 (y y' : Nat → Nat → Int32) : Prop := (∀ k, k ≠ 246 → ¬ (256 ≤ k ∧ k ≤ 261) → y' k = y k) ∧ ∀ i, (i < 11 ∨ i = 12 ∨ 18 < i) → y' 246 i = y 246 i
theorem fk_s8_0 : fk_s8 y y := ⟨fun _ _ _ => rfl, fun _ _ => rfl⟩
theorem fk_s8_t (h1 : fk_s8 y y1) (h2 : fk_s8 y1 y2) : fk_s8 y y2 := ⟨fun k a b => (h2.1 k a b).trans (h1.1 k a b), fun i hi => (h2.2 i hi).trans (h1.2 i hi)⟩
theorem fk_s8_u (h : fk_s8 y0 y) (hc : (c = 246 ∧ (i = 11 ∨ (13 ≤ i ∧ i ≤ 18))) ∨ (256 ≤ c ∧ c ≤ 261)) : fk_s8 y0 (fk_u y c i v) := ⟨fun k k1 k2 => by rw [fk_u_rowo (by omega)]; exact h.1 k k1 k2, fun j hj => by rw [fk_u_o (by omega)]; exact h.2 j hj⟩
theorem fk_s8_7 (h : fk_s8 y0 y) (h7 : fk_s7 y y1) : fk_s8 y0 y1 := fk_s8_t h ⟨fun k k1 k2 => h7.1 k k1 (by omega) (by omega), fun i hi => h7.2 i (by omega)⟩
def lz_ts (bt : Nat → Nat) (n a : Nat) (R : List (Nat × Nat)) (y : Nat → Nat → Int32) : Prop := fk_tx bt n a y ∧ lz_cd y 0 R ∧ y 246 16 = nI R.length
theorem lz_ts_u (h : lz_ts bt n a R y) (hc : 258 ≤ c ∨ (c = 246 ∧ (i = 13 ∨ i = 14 ∨ i = 15 ∨ i = 17 ∨ i = 18))) : lz_ts bt n a R (fk_u y c i v) := by
  obtain ⟨h1, h2, h3⟩ := h
  exact ⟨fk_tx_k h1 (by rw [fk_u_o (by omega)]; exact h1.1) h1.2.2.2.2.1 (fk_u_o (by omega)) (fk_u_rowo (by omega)), lz_cd_c R 0 (fun j _ _ => fk_u_o (by omega)) h2, by rw [fk_u_o (by omega)]; exact h3⟩
theorem lz_ts_rc (h : lz_ts bt n a R y) (h17 : y 246 17 = nI 0) (h15 : y 246 15 = nI o) : lz_rc y bt n a R [] o y := ⟨fk_s7_0, h.1, h.2, ⟨trivial, h17⟩, h15⟩
theorem lz_rc_ts (h : lz_rc y0 bt n a R w o y) : lz_ts bt n a R y := ⟨h.2.1, h.2.2.1⟩
/-- what a clause leaves -/
def lz_cr (bt : Nat → Nat) (n m : Nat) (R : List (Nat × Nat)) (y y' : Nat → Nat → Int32) (g : Int32) (r : Int32 ⊕ (Nat × Nat × List (Nat × Nat) × List (Nat × Nat) × List (Nat × Nat))) : Prop := match r with
  | .inl e => g = nI 0 ∧ y' 246 13 = e
  | .inr x => g = nI 1 ∧ lz_ts bt n x.1 (R ++ lz_ab R.length (x.2.2.1 ++ x.2.2.2.2)) y' ∧ y' 246 18 = nI (m + 1) ∧ (∀ i, i < m → y' 258 i = y 258 i ∧ y' 259 i = y 259 i ∧ y' 260 i = y 260 i ∧ y' 261 i = y 261 i) ∧ y' 258 m = nI x.2.1 ∧ y' 259 m = nI R.length ∧ y' 260 m = nI (R.length + x.2.2.1.length) ∧ y' 261 m = nI (R.length + x.2.2.1.length + x.2.2.2.2.length)
theorem mX12_readsClause (hn : n ≤ 240) (hm : m ≤ 16) (hR : R.length ≤ a) (h : lz_ts bt n a R y) (h18 : y 246 18 = nI m) : ∃ g y', fk_ev (d + 7) qX12_readsClause 0 [.ref 246, .null] [] (fk_E N y l) = some (some (.int g), fk_E N y' l) ∧ fk_s8 y y' ∧ lz_cr bt n m R y y' g (lz_cl bt n a m) := by
  obtain ⟨e11, e12, hbt, b6, h5, h6⟩ := id h.1
  have hh := mX12_here (N := N) (l := l) (d := d + 6) h.1
  have e16 := h.2.2
  unfold lz_cl
  by_cases c1 : a < n ∧ lz_cls (bt a) = true
  · rw [if_neg (fun z => z c1)]
    have ep : ab_pk bt n a = nI (bt a) := if_pos c1.1
    rw [ep] at hh
    have hcl := mX12_isClause (d := d + 6) (b6 a) (h := fk_E N y l)
    rw [fk_b_t c1.2] at hcl
    by_cases c2 : 16 ≤ m
    · rw [if_pos c2]
      have e18 : y 246 18 = nI 16 := by rw [h18, show m = 16 by omega]
      refine ⟨nI 0, fk_u y 246 13 (fk_flt 4 a), ?_, fk_s8_u fk_s8_0 (by omega), rfl, fk_u_s⟩
      simp (disch := first | assumption | omega) only [rX12_readsClause, hh, hcl, e18, e11, mX12_wrongAt, Option.bind_some, Option.toList_some, Option.toList_none, List.cons_append, List.nil_append, fk_b_0, nI_add, Nat.add_zero, Nat.zero_add, not_true_eq_false, not_false_eq_true, if_true, if_false, sI_le_t, sI_le_f, sI_lt_t, sI_lt_f, sI_eq_t, sI_eq_f, sI_rem, sI_div, sI_m1a, sI_m1b, sI_m1c, sI_m1d, sI_m1e, sI_m1f, sI_m2a, sI_m2b, sI_sub, pk_mul, sI_dec, fk_u_s, fk_u_o, sI_dec0, sI_z, sI_md, Bool.false_eq_true, Nat.reduceAdd, Nat.reduceMul, Nat.reduceSub, Nat.reduceMod, Nat.reduceDiv]
    · rw [if_neg c2]
      have m16 : m < 16 := by omega
      obtain ⟨Y, eY⟩ : ∃ Y, Y = fk_u (fk_u (fk_u (fk_u (fk_u y 258 m (nI (bt a))) 246 11 (nI (a + 1))) 259 m (nI R.length)) 246 15 (nI 0)) 246 17 (nI 0) := ⟨_, rfl⟩
      have tsY : lz_ts bt n (a + 1) R Y := by
        rw [eY]
        refine lz_ts_u (lz_ts_u (lz_ts_u ?_ (by omega)) (by omega)) (by omega)
        have h1 := lz_ts_u (c := 258) (i := m) (v := nI (bt a)) h (by omega)
        exact ⟨fk_tx_k h1.1 fk_u_s c1.1 (fk_u_o (by omega)) (fk_u_rowo (by omega)), lz_cd_c R 0 (fun j _ _ => fk_u_o (by omega)) h1.2.1, by rw [fk_u_o (by omega)]; exact h1.2.2⟩
      have rY : lz_rc Y bt n (a + 1) R [] 0 Y := lz_ts_rc tsY (by rw [eY, fk_u_s]) (by rw [eY, fk_u_o (by omega), fk_u_s])
      have sY : fk_s8 y Y := by
        rw [eY]
        exact fk_s8_u (fk_s8_u (fk_s8_u (fk_s8_u (fk_s8_u fk_s8_0 (by omega)) (by omega)) (by omega)) (by omega)) (by omega)
      have Y18 : Y 246 18 = nI m := by
        rw [eY, fk_u_o (by omega), fk_u_o (by omega), fk_u_o (by omega), fk_u_o (by omega), fk_u_o (by omega)]
        exact h18
      have Y258 : ∀ i, i < m → Y 258 i = y 258 i := fun i hi => by
        rw [eY, fk_u_o (by omega), fk_u_o (by omega), fk_u_o (by omega), fk_u_o (by omega), fk_u_o (by omega)]
      have Y259 : ∀ i, i < m → Y 259 i = y 259 i := fun i hi => by
        rw [eY, fk_u_o (by omega), fk_u_o (by omega), fk_u_o (by omega), fk_u_o (by omega), fk_u_o (by omega)]
      have Y258m : Y 258 m = nI (bt a) := by
        rw [eY, fk_u_o (by omega), fk_u_o (by omega), fk_u_o (by omega), fk_u_o (by omega), fk_u_s]
      have Y259m : Y 259 m = nI R.length := by
        rw [eY, fk_u_o (by omega), fk_u_o (by omega), fk_u_s]
      have Y260 : Y 260 = y 260 := by
        rw [eY, fk_u_rowo (by omega), fk_u_rowo (by omega), fk_u_rowo (by omega), fk_u_rowo (by omega), fk_u_rowo (by omega)]
      have Y261 : Y 261 = y 261 := by
        rw [eY, fk_u_rowo (by omega), fk_u_rowo (by omega), fk_u_rowo (by omega), fk_u_rowo (by omega), fk_u_rowo (by omega)]
      -- from the worth on
      have cont : ∀ (p : Nat) (K : List (Nat × Nat)) Z, p ≤ n → a < p → R.length + K.length ≤ p → lz_lo K → lz_rc Y bt n p (R ++ K) [] 0 Z → ∃ g y', fk_ev (d + 7) qX12_readsClause 99 [.ref 246, .int (nI (bt a))] [] (fk_E N Z l) = some (some (.int g), fk_E N y' l) ∧ fk_s8 y y' ∧ lz_cr bt n m R y y' g (if p < n ∧ bt p = 40 then (match lz_A bt n 5 (p + 1) with
          | .inl e => .inl e
          | .inr z => if z.1 < n ∧ bt z.1 = 41 then .inr (z.1 + 1, bt a, K, z.2.1, z.2.2) else .inl (fk_flt 1 z.1)) else .inl (fk_flt 1 p)) := by
        intro p K Z hp hap hRK hlo rZ
        have hlen : (R ++ K).length = R.length + K.length := List.length_append ..
        have Z18 : Z 246 18 = nI m := (rZ.1.2 18 (by omega)).trans Y18
        have Z16 : Z 246 16 = nI (R.length + K.length) := by rw [← hlen]; exact rZ.2.2.1.2
        have r1 := lz_rc_ts rZ
        have t1 := lz_ts_u (c := 260) (i := m) (v := nI (R.length + K.length)) r1 (by omega)
        have r2 : lz_rc (fk_u Z 260 m (nI (R.length + K.length))) bt n p (R ++ K) [] 0 (fk_u Z 260 m (nI (R.length + K.length))) := lz_ts_rc t1 (by rw [fk_u_o (by omega)]; exact rZ.2.2.2.1.2) (by rw [fk_u_o (by omega)]; exact rZ.2.2.2.2)
        have hc := mX12_readsCondition (N := N) (l := l) (d := d) hn (by rw [hlen]; exact hRK) r2
        have sZ : fk_s8 y (fk_u Z 260 m (nI (R.length + K.length))) := fk_s8_u (fk_s8_7 sY rZ.1) (by omega)
        by_cases c3 : p < n ∧ bt p = 40
        · rw [if_pos c3] at hc ⊢
          cases eA : lz_A bt n 5 (p + 1) with
          | inl f =>
            rw [eA] at hc
            obtain ⟨y', q1, q2, q3⟩ := hc
            refine ⟨nI 0, y', ?_, fk_s8_7 sZ q2, rfl, q3⟩
            simp (disch := first | assumption | omega) only [rX12_readsClause, Z18, Z16, q1, Option.bind_some, Option.toList_some, Option.toList_none, List.cons_append, List.nil_append, fk_b_0, nI_add, Nat.add_zero, Nat.zero_add, not_true_eq_false, not_false_eq_true, if_true, if_false, sI_le_t, sI_le_f, sI_lt_t, sI_lt_f, sI_eq_t, sI_eq_f, sI_rem, sI_div, sI_m1a, sI_m1b, sI_m1c, sI_m1d, sI_m1e, sI_m1f, sI_m2a, sI_m2b, sI_sub, pk_mul, sI_dec, fk_u_s, fk_u_o, sI_dec0, sI_z, sI_md, Bool.false_eq_true, Nat.reduceAdd, Nat.reduceMul, Nat.reduceSub, Nat.reduceMod, Nat.reduceDiv]
          | inr z =>
            rw [eA] at hc
            dsimp only
            by_cases c4 : z.1 < n ∧ bt z.1 = 41
            · have hc : lz_end N l _ bt n [] _ (if z.1 < n ∧ bt z.1 = 41 then .inr (z.1 + 1, (R ++ K) ++ lz_ab (R ++ K).length z.2.2, 0) else .inl (fk_flt 1 z.1)) := hc
              rw [if_pos c4] at hc ⊢
              obtain ⟨Z', q1, q2⟩ := hc
              have q2 : lz_rc (fk_u Z 260 m (nI (R.length + K.length))) bt n (z.1 + 1) ((R ++ K) ++ lz_ab (R ++ K).length z.2.2) [] 0 Z' := q2
              have zl : ((R ++ K) ++ lz_ab (R ++ K).length z.2.2).length = R.length + K.length + z.2.2.length := by rw [List.length_append, hlen, lz_ab_len]
              have Z16' : Z' 246 16 = nI (R.length + K.length + z.2.2.length) := by rw [← zl]; exact q2.2.2.1.2
              have Z18' : Z' 246 18 = nI m := by rw [q2.1.2 18 (by omega), fk_u_o (by omega)]; exact Z18
              have fr : ∀ k, k = 258 ∨ k = 259 ∨ k = 261 → Z' k = Y k := fun k hk => by rw [q2.1.1 k (by omega) (by omega) (by omega), fk_u_rowo (by omega), rZ.1.1 k (by omega) (by omega) (by omega)]
              have f260 : ∀ i, Z' 260 i = fk_u Z 260 m (nI (R.length + K.length)) 260 i := fun i => by rw [q2.1.1 260 (by omega) (by omega) (by omega)]
              have Z260 : Z 260 = y 260 := by rw [rZ.1.1 260 (by omega) (by omega) (by omega), Y260]
              refine ⟨nI 1, fk_u (fk_u Z' 261 m (nI (R.length + K.length + z.2.2.length))) 246 18 (nI (m + 1)), ?_, fk_s8_u (fk_s8_u (fk_s8_7 sZ q2.1) (by omega)) (by omega), rfl, ?_, fk_u_s, fun i hi => ⟨?_, ?_, ?_, ?_⟩, ?_, ?_, ?_, ?_⟩
              · simp (disch := first | assumption | omega) only [rX12_readsClause, Z18, Z16, q1, Z18', Z16', Option.bind_some, Option.toList_some, Option.toList_none, List.cons_append, List.nil_append, fk_b_0, nI_add, Nat.add_zero, Nat.zero_add, not_true_eq_false, not_false_eq_true, if_true, if_false, sI_le_t, sI_le_f, sI_lt_t, sI_lt_f, sI_eq_t, sI_eq_f, sI_rem, sI_div, sI_m1a, sI_m1b, sI_m1c, sI_m1d, sI_m1e, sI_m1f, sI_m2a, sI_m2b, sI_sub, pk_mul, sI_dec, fk_u_s, fk_u_o, sI_dec0, sI_z, sI_md, Bool.false_eq_true, Nat.reduceAdd, Nat.reduceMul, Nat.reduceSub, Nat.reduceMod, Nat.reduceDiv]
              · refine lz_ts_u (lz_ts_u ?_ (by omega)) (by omega)
                have := lz_rc_ts q2
                show lz_ts bt n (z.1 + 1) (R ++ lz_ab R.length (K ++ z.2.2)) Z'
                rw [lz_ab_app, lz_ab_lo K _ hlo, ← List.append_assoc, ← hlen]
                exact this
              · rw [fk_u_o (by omega), fk_u_o (by omega), fr 258 (by omega)]; exact Y258 i hi
              · rw [fk_u_o (by omega), fk_u_o (by omega), fr 259 (by omega)]; exact Y259 i hi
              · rw [fk_u_o (by omega), fk_u_o (by omega), f260, fk_u_o (by omega), Z260]
              · rw [fk_u_o (by omega), fk_u_o (by omega), fr 261 (by omega), Y261]
              · rw [fk_u_o (by omega), fk_u_o (by omega), fr 258 (by omega)]; exact Y258m
              · rw [fk_u_o (by omega), fk_u_o (by omega), fr 259 (by omega)]; exact Y259m
              · rw [fk_u_o (by omega), fk_u_o (by omega), f260, fk_u_s]
              · rw [fk_u_o (by omega), fk_u_s]
            · have hc : lz_end N l _ bt n [] _ (if z.1 < n ∧ bt z.1 = 41 then .inr (z.1 + 1, (R ++ K) ++ lz_ab (R ++ K).length z.2.2, 0) else .inl (fk_flt 1 z.1)) := hc
              rw [if_neg c4] at hc ⊢
              obtain ⟨y', q1, q2, q3⟩ := hc
              refine ⟨nI 0, y', ?_, fk_s8_7 sZ q2, rfl, q3⟩
              simp (disch := first | assumption | omega) only [rX12_readsClause, Z18, Z16, q1, Option.bind_some, Option.toList_some, Option.toList_none, List.cons_append, List.nil_append, fk_b_0, nI_add, Nat.add_zero, Nat.zero_add, not_true_eq_false, not_false_eq_true, if_true, if_false, sI_le_t, sI_le_f, sI_lt_t, sI_lt_f, sI_eq_t, sI_eq_f, sI_rem, sI_div, sI_m1a, sI_m1b, sI_m1c, sI_m1d, sI_m1e, sI_m1f, sI_m2a, sI_m2b, sI_sub, pk_mul, sI_dec, fk_u_s, fk_u_o, sI_dec0, sI_z, sI_md, Bool.false_eq_true, Nat.reduceAdd, Nat.reduceMul, Nat.reduceSub, Nat.reduceMod, Nat.reduceDiv]
        · rw [if_neg c3] at hc ⊢
          obtain ⟨y', q1, q2, q3⟩ := hc
          refine ⟨nI 0, y', ?_, fk_s8_7 sZ q2, rfl, q3⟩
          simp (disch := first | assumption | omega) only [rX12_readsClause, Z18, Z16, q1, Option.bind_some, Option.toList_some, Option.toList_none, List.cons_append, List.nil_append, fk_b_0, nI_add, Nat.add_zero, Nat.zero_add, not_true_eq_false, not_false_eq_true, if_true, if_false, sI_le_t, sI_le_f, sI_lt_t, sI_lt_f, sI_eq_t, sI_eq_f, sI_rem, sI_div, sI_m1a, sI_m1b, sI_m1c, sI_m1d, sI_m1e, sI_m1f, sI_m2a, sI_m2b, sI_sub, pk_mul, sI_dec, fk_u_s, fk_u_o, sI_dec0, sI_z, sI_md, Bool.false_eq_true, Nat.reduceAdd, Nat.reduceMul, Nat.reduceSub, Nat.reduceMod, Nat.reduceDiv]
      unfold lz_wo
      by_cases c3 : bt a = 101
      · rw [if_pos c3]
        dsimp only
        have rY' : lz_rc Y bt n (a + 1) (R ++ []) [] 0 Y := by rw [List.append_nil]; exact rY
        obtain ⟨g, y', f1, f2⟩ := cont (a + 1) [] Y c1.1 (by omega) (by show R.length + 0 ≤ a + 1; omega) (fun c hc => absurd hc List.not_mem_nil) rY'
        refine ⟨g, y', ?_, f2⟩
        rw [← f1]
        rw [c3] at hh hcl eY ⊢
        simp (disch := first | assumption | omega) only [rX12_readsClause, hh, hcl, h18, e11, e16, eY, Option.bind_some, Option.toList_some, Option.toList_none, List.cons_append, List.nil_append, fk_b_0, nI_add, Nat.add_zero, Nat.zero_add, not_true_eq_false, not_false_eq_true, if_true, if_false, sI_le_t, sI_le_f, sI_lt_t, sI_lt_f, sI_eq_t, sI_eq_f, sI_rem, sI_div, sI_m1a, sI_m1b, sI_m1c, sI_m1d, sI_m1e, sI_m1f, sI_m2a, sI_m2b, sI_sub, pk_mul, sI_dec, fk_u_s, fk_u_o, sI_dec0, sI_z, sI_md, Bool.false_eq_true, Nat.reduceAdd, Nat.reduceMul, Nat.reduceSub, Nat.reduceMod, Nat.reduceDiv]
      · rw [if_neg c3]
        have b6a := b6 a
        have s1 := mX12_readsSum (N := N) (l := l) (d := d + 2) (q := 6) (o := 0) (fun e v q => by cases q) (by omega) (by omega) (by show 0 ≤ a + 1; omega) rY
        have g1 := lz_S_ok (bt := bt) (n := n) 6 (a + 1) c1.1
        cases e : lz_S bt n 6 (a + 1) with
        | inl f =>
          rw [e] at s1
          obtain ⟨y', q1, q2, q3⟩ := s1
          refine ⟨nI 0, y', ?_, fk_s8_7 sY q2, rfl, q3⟩
          rw [eY] at q1
          simp (disch := first | assumption | omega) only [rX12_readsClause, hh, hcl, h18, e11, e16, q1, Option.bind_some, Option.toList_some, Option.toList_none, List.cons_append, List.nil_append, fk_b_0, nI_add, Nat.add_zero, Nat.zero_add, not_true_eq_false, not_false_eq_true, if_true, if_false, sI_le_t, sI_le_f, sI_lt_t, sI_lt_f, sI_eq_t, sI_eq_f, sI_rem, sI_div, sI_m1a, sI_m1b, sI_m1c, sI_m1d, sI_m1e, sI_m1f, sI_m2a, sI_m2b, sI_sub, pk_mul, sI_dec, fk_u_s, fk_u_o, sI_dec0, sI_z, sI_md, Bool.false_eq_true, Nat.reduceAdd, Nat.reduceMul, Nat.reduceSub, Nat.reduceMod, Nat.reduceDiv]
        | inr x =>
          rw [e] at s1 g1
          obtain ⟨y1, q1, q2⟩ := s1
          obtain ⟨k1, k2, k3, _⟩ := g1
          obtain ⟨g, y', f1, f2⟩ := cont x.1 x.2 y1 k2 (by omega) (by omega) (lz_lo_S 6 (a + 1) x e) q2
          refine ⟨g, y', ?_, f2⟩
          rw [← f1]
          rw [eY] at q1
          simp (disch := first | assumption | omega) only [rX12_readsClause, hh, hcl, h18, e11, e16, q1, Option.bind_some, Option.toList_some, Option.toList_none, List.cons_append, List.nil_append, fk_b_0, nI_add, Nat.add_zero, Nat.zero_add, not_true_eq_false, not_false_eq_true, if_true, if_false, sI_le_t, sI_le_f, sI_lt_t, sI_lt_f, sI_eq_t, sI_eq_f, sI_rem, sI_div, sI_m1a, sI_m1b, sI_m1c, sI_m1d, sI_m1e, sI_m1f, sI_m2a, sI_m2b, sI_sub, pk_mul, sI_dec, fk_u_s, fk_u_o, sI_dec0, sI_z, sI_md, Bool.false_eq_true, Nat.reduceAdd, Nat.reduceMul, Nat.reduceSub, Nat.reduceMod, Nat.reduceDiv]
  · rw [if_pos c1]
    refine ⟨nI 0, fk_u y 246 13 (fk_flt 1 a), ?_, fk_s8_u fk_s8_0 (by omega), rfl, fk_u_s⟩
    by_cases lt : a < n
    · have ep : ab_pk bt n a = nI (bt a) := if_pos lt
      rw [ep] at hh
      have hcl := mX12_isClause (d := d + 6) (b6 a) (h := fk_E N y l)
      rw [fk_b_f (fun z => c1 ⟨lt, z⟩)] at hcl
      simp (disch := first | assumption | omega) only [rX12_readsClause, hh, hcl, e11, mX12_wrongAt, Option.bind_some, Option.toList_some, Option.toList_none, List.cons_append, List.nil_append, fk_b_0, nI_add, Nat.add_zero, Nat.zero_add, not_true_eq_false, not_false_eq_true, if_true, if_false, sI_le_t, sI_le_f, sI_lt_t, sI_lt_f, sI_eq_t, sI_eq_f, sI_rem, sI_div, sI_m1a, sI_m1b, sI_m1c, sI_m1d, sI_m1e, sI_m1f, sI_m2a, sI_m2b, sI_sub, pk_mul, sI_dec, fk_u_s, fk_u_o, sI_dec0, sI_z, sI_md, Bool.false_eq_true, Nat.reduceAdd, Nat.reduceMul, Nat.reduceSub, Nat.reduceMod, Nat.reduceDiv]
    · have ep : ab_pk bt n a = (-1) := if_neg lt
      rw [ep] at hh
      simp (disch := first | assumption | omega) only [rX12_readsClause, hh, mX12_isClause_n, e11, mX12_wrongAt, Option.bind_some, Option.toList_some, Option.toList_none, List.cons_append, List.nil_append, fk_b_0, nI_add, Nat.add_zero, Nat.zero_add, not_true_eq_false, not_false_eq_true, if_true, if_false, sI_le_t, sI_le_f, sI_lt_t, sI_lt_f, sI_eq_t, sI_eq_f, sI_rem, sI_div, sI_m1a, sI_m1b, sI_m1c, sI_m1d, sI_m1e, sI_m1f, sI_m2a, sI_m2b, sI_sub, pk_mul, sI_dec, fk_u_s, fk_u_o, sI_dec0, sI_z, sI_md, Bool.false_eq_true, Nat.reduceAdd, Nat.reduceMul, Nat.reduceSub, Nat.reduceMod, Nat.reduceDiv]
end SR5
