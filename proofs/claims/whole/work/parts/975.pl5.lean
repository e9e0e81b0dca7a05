section PL5
variable {N : Nat} {S : Nat → Int32} {v y y0 y1 y2 : Nat → Nat → Int32} {l : Nat → Nat → Int64} {d n H c k m p o z : Nat} {T A : Nat → Int32} {W : Int32 → (Nat → Int32) → Int32} {s : ab_S} {b0 P : Int32}
theorem ab_lo_64 (ho : ab_ok v n H A) {w : Int32} : ab_lo A w ≤ 64 := by
  have a := fk_cf_le (p := fun j => decide (A (192 + j) = nI 1 ∧ A j = w)) (ab_n A) 0
  have b := ab_ok_n ho
  have e := ho.1
  unfold ab_lo
  omega
theorem mX12_livOf (ho : ab_ok v n H (y 247)) {w : Int32} : fk_ev (d + 1) qX12_livingOf 0 [.ref 246, .int w, .null, .null] [] (fk_E N y l) = some (some (.int ((nI (ab_lo (y 247) w)))), fk_E N y l) := by
  have := mX12_livingOf (N := N) (l := l) (d := d) (y := y) (one := w) ho.1 ho.2.1
  unfold ab_lo
  rw [ab_ok_n ho]
  exact this
def ab_tI (v : Nat → Nat → Int32) (W : Int32 → (Nat → Int32) → Int32) (po : Int32) (z H : Nat) (s : ab_S) (g : Nat) (t : Nat → Nat → Int32) : Prop :=
  (∃ c', fk_rs v t ((ab_rn v W po (nI z) s g).1, c', (ab_rn v W po (nI z) s g).2.2)) ∧ (∃ n, ab_ok v n (H + g) (ab_rn v W po (nI z) s g).1) ∧ ab_mm v W po s z g ≤ 64
theorem ab_hh_c {po ps : Int32} {nd : Prop} [Decidable nd] {t : ab_S} {c' : Nat → Int32} : ab_hh v W po ps nd (t.1, c', t.2.2) = ab_hh v W po ps nd t := by
  unfold ab_hh ab_hr
  dsimp only
theorem ab_tI_s (HW : fk_LR W v) (hv : ab_rv v) (h33 : v 246 33 = nI o) (h34 : v 246 34 = nI z) (h36 : v 246 36 = nI 1) {g : Nat} {t : Nat → Nat → Int32} (hi : ab_tI v W (nI o) z H s g t) (hg : H + g < 999) : ∃ y', fk_ev (d + 7) qX12_hourGoes 0 [.ref 246, .null, .null] [] (fk_E N t l) = some (none, fk_E N y' l) ∧ ab_tI v W (nI o) z H s (g + 1) y' := by
  obtain ⟨⟨c', i1⟩, ⟨n1, i2⟩, i3⟩ := hi
  obtain ⟨y', m, e, r, hm, o1⟩ := mX12_hourGoes (N := N) (l := l) (d := d) HW hv i1 i2 hg
  have hz : ab_hh v W (v 246 33) (v 246 34) (¬ v 246 36 = nI 0) ((ab_rn v W (nI o) (nI z) s g).1, c', (ab_rn v W (nI o) (nI z) s g).2.2) = ab_rn v W (nI o) (nI z) s (g + 1) := by
    rw [ab_rn_s, ab_hh_nd (nd := ¬ v 246 36 = nI 0) (nd' := True) ⟨fun _ => trivial, fun _ x => by rw [h36] at x; exact absurd x (by decide)⟩, h33, h34]
    exact ab_hh_c
  rw [hz] at r o1
  have := ab_lo_64 o1 (w := nI o)
  refine ⟨y', e, ⟨_, r⟩, ⟨m, o1⟩, ?_⟩
  rw [ab_mm_s]
  split <;> omega
theorem ab_tI_lo {g : Nat} {t : Nat → Nat → Int32} (hi : ab_tI v W (nI o) z H s g t) : fk_ev (d + 1) qX12_livingOf 0 [.ref 246, .int ((nI o)), .null, .null] [] (fk_E N t l) = some (some (.int ((nI (ab_lo (ab_rn v W (nI o) (nI z) s g).1 (nI o))))), fk_E N t l) ∧ ab_lo (ab_rn v W (nI o) (nI z) s g).1 (nI o) ≤ 64 := by
  obtain ⟨⟨c', i1⟩, ⟨n1, i2⟩, i3⟩ := hi
  have e := i1.1
  try dsimp only at e
  rw [← e] at i2 ⊢
  exact ⟨mX12_livOf i2, ab_lo_64 i2⟩
/-- what stands in the reference behind a try -/
def ab_tP (v y1 : Nat → Nat → Int32) (st : Nat × Nat × Nat) : Prop :=
  (y1 246 39 = nI st.1 ∧ (st.1 < 1000000000 → y1 246 40 = nI st.2.1 ∧ y1 246 41 = nI st.2.2)) ∧ (∀ i, i ≠ 35 → i ≠ 39 → i ≠ 40 → i ≠ 41 → y1 246 i = v 246 i) ∧ ∀ c, c ≠ 246 → c ≠ 247 → c ≠ 267 → c ≠ 268 → c ≠ 269 → y1 c = v c
theorem ab_tP_of {st : Nat × Nat × Nat} {g : Nat} {t : Nat → Nat → Int32} (h39 : v 246 39 = nI st.1) (h40 : st.1 < 1000000000 → v 246 40 = nI st.2.1 ∧ v 246 41 = nI st.2.2) (hi : ab_tI v W (nI o) z H s g t) : ab_tP v t st := by
  obtain ⟨⟨c', i1⟩, _⟩ := hi
  obtain ⟨_, _, _, r4, r5⟩ := i1
  refine ⟨⟨by rw [r4 39 (by omega)]; exact h39, fun h => ?_⟩, fun i i1 _ _ _ => r4 i i1, r5⟩
  rw [r4 40 (by omega), r4 41 (by omega)]
  exact h40 h
theorem ab_tI_7 {g : Nat} {t : Nat → Nat → Int32} (hi : ab_tI v W (nI o) z H s g t) : ∃ g, H + g ≤ 999 ∧ t 247 = (ab_rn v W (nI o) (nI z) s g).1 := by
  obtain ⟨⟨c', i1⟩, ⟨n1, i2⟩, i3⟩ := hi
  have h := i2.2.2.2.1
  exact ⟨g, by omega, i1.1⟩
theorem mX12_tries_loop (HW : fk_LR W v) (hv : ab_rv v) (h33 : v 246 33 = nI o) (h34 : v 246 34 = nI z) (h36 : v 246 36 = nI 1) {st : Nat × Nat × Nat} (h39 : v 246 39 = nI st.1) (hst : st.1 ≤ 1000000000) (h40 : st.1 < 1000000000 → v 246 40 = nI st.2.1 ∧ v 246 41 = nI st.2.2) (hn : H + n ≤ 999) : ∀ f k t, k + f = ab_K n st → ab_tI v W (nI o) z H s k t → (∀ i, i < k → ¬ ab_gd P (nI o) (ab_rn v W (nI o) (nI z) s i)) → ∃ y1, fk_ev (d + 8) qX12_triesPlan 26 [.ref 246, .int (nI o), .int P, .int (nI n), .int (nI (ab_mm v W (nI o) s z k)), .int (nI k)] [] (fk_E N t l) = some (none, fk_E N y1 l) ∧ ab_tP v y1 (ab_up v W P (nI o) s n st z) ∧ ∃ g, H + g ≤ 999 ∧ y1 247 = (ab_rn v W (nI o) (nI z) s g).1 := by
  have hK : ab_K n st ≤ n + 1 := by unfold ab_K; split <;> omega
  have hK1 := ab_K_le (n := n) (st := st)
  have hK2 : ab_K n st = n + 1 ∨ ab_K n st = st.1 := by unfold ab_K; split <;> omega
  have no : (∀ i, i < ab_K n st → ¬ ab_gd P (nI o) (ab_rn v W (nI o) (nI z) s i)) → ab_up v W P (nI o) s n st z = st := fun h => by
    have e := fk_fi_no (p := fun k => decide (ab_gd P (nI o) (ab_rn v W (nI o) (nI z) s k))) (j := 0) (k := ab_K n st) fun i h1 h2 => by
      rw [decide_eq_true_eq]
      exact h i (by omega)
    unfold ab_up
    exact if_neg (by unfold ab_fk; omega)
  intro f
  induction f with
  | zero =>
    intro k t hk hi hno
    have hk : k = ab_K n st := hk
    rw [no (fun i hi => hno i (by omega))]
    refine ⟨t, ?_, ab_tP_of h39 h40 hi, ab_tI_7 hi⟩
    obtain ⟨⟨c', i1⟩, _, _⟩ := hi
    have e39 : t 246 39 = nI st.1 := (i1.2.2.2.1 39 (by omega)).trans h39
    rw [hX12_triesPlan_26]
    by_cases q : k = n + 1
    · subst q
      simp (disch := first | assumption | omega) only [rX12_triesPlan, Option.bind_some, Option.toList_some, Option.toList_none, List.cons_append, List.nil_append, fk_b_0, nI_add, Nat.add_zero, Nat.zero_add, not_true_eq_false, not_false_eq_true, if_true, if_false, sI_le_t, sI_le_f, sI_lt_t, sI_lt_f, sI_eq_t, sI_eq_f, sI_rem, sI_div, sI_m1a, sI_m1b, sI_m1c, sI_m1d, sI_m1e, sI_m1f, sI_m2a, sI_m2b, sI_sub, pk_mul, sI_dec, fk_u_s, fk_u_o, sI_dec0, sI_z, sI_md, Bool.false_eq_true, Nat.reduceAdd, Nat.reduceMul, Nat.reduceSub, Nat.reduceMod, Nat.reduceDiv]
    · have q2 : st.1 = k := by omega
      simp (disch := first | assumption | omega) only [rX12_triesPlan, e39, q2, Option.bind_some, Option.toList_some, Option.toList_none, List.cons_append, List.nil_append, fk_b_0, nI_add, Nat.add_zero, Nat.zero_add, not_true_eq_false, not_false_eq_true, if_true, if_false, sI_le_t, sI_le_f, sI_lt_t, sI_lt_f, sI_eq_t, sI_eq_f, sI_rem, sI_div, sI_m1a, sI_m1b, sI_m1c, sI_m1d, sI_m1e, sI_m1f, sI_m2a, sI_m2b, sI_sub, pk_mul, sI_dec, fk_u_s, fk_u_o, sI_dec0, sI_z, sI_md, Bool.false_eq_true, Nat.reduceAdd, Nat.reduceMul, Nat.reduceSub, Nat.reduceMod, Nat.reduceDiv]
  | succ f ih =>
    intro k t hk hi hno
    have hkn : k ≤ n := by omega
    have hk1 : k < st.1 := by omega
    obtain ⟨el, hl⟩ := ab_tI_lo (N := N) (l := l) (d := d + 6) hi
    have hmm := hi.2.2
    have e39 : t 246 39 = nI st.1 := by
      obtain ⟨⟨c', i1⟩, _, _⟩ := hi
      exact (i1.2.2.2.1 39 (by omega)).trans h39
    have e34 : t 246 34 = nI z := by
      obtain ⟨⟨c', i1⟩, _, _⟩ := hi
      exact (i1.2.2.2.1 34 (by omega)).trans h34
    have e35 : t 246 35 = (ab_rn v W (nI o) (nI z) s k).2.2.1 := by
      obtain ⟨⟨c', i1⟩, _, _⟩ := hi
      exact i1.2.2.1
    rw [hX12_triesPlan_26]
    by_cases cg : ab_gd P (nI o) (ab_rn v W (nI o) (nI z) s k)
    · have e := fk_fi_at (p := fun k => decide (ab_gd P (nI o) (ab_rn v W (nI o) (nI z) s k))) (j := 0) (k := ab_K n st) (i := k) (by omega) (by omega) (decide_eq_true cg) fun a h1 h2 => by
        rw [decide_eq_true_eq]
        exact hno a h2
      have eu : ab_up v W P (nI o) s n st z = (k, z, ab_mm v W (nI o) s z k) := by
        unfold ab_up ab_fk
        rw [e, if_pos (by omega)]
      rw [eu]
      have g1 : P &&& (t 246 35 ^^^ (-1)) = nI 0 := by rw [e35]; exact cg.1
      have g2 := cg.2
      rw [g2] at el
      have pt := ab_tP_of h39 h40 hi
      refine ⟨fk_u (fk_u (fk_u t 246 39 (nI k)) 246 40 (nI z)) 246 41 (nI (ab_mm v W (nI o) s z k)), ?_, ⟨⟨?_, fun _ => ⟨?_, ?_⟩⟩, fun i i1 i2 i3 i4 => ?_, fun c c1 c2 c3 c4 c5 => ?_⟩, by rw [fk_u_rowo (by omega), fk_u_rowo (by omega), fk_u_rowo (by omega)]; exact ab_tI_7 hi⟩
      · simp (disch := first | assumption | omega) only [rX12_triesPlan, e39, e34, g1, el, Option.bind_some, Option.toList_some, Option.toList_none, List.cons_append, List.nil_append, fk_b_0, nI_add, Nat.add_zero, Nat.zero_add, not_true_eq_false, not_false_eq_true, if_true, if_false, sI_le_t, sI_le_f, sI_lt_t, sI_lt_f, sI_eq_t, sI_eq_f, sI_rem, sI_div, sI_m1a, sI_m1b, sI_m1c, sI_m1d, sI_m1e, sI_m1f, sI_m2a, sI_m2b, sI_sub, pk_mul, sI_dec, fk_u_s, fk_u_o, sI_dec0, sI_z, sI_md, Bool.false_eq_true, Nat.reduceAdd, Nat.reduceMul, Nat.reduceSub, Nat.reduceMod, Nat.reduceDiv]
      · rw [fk_u_o (by omega), fk_u_o (by omega), fk_u_s]
      · rw [fk_u_o (by omega), fk_u_s]
      · rw [fk_u_s]
      · rw [fk_u_o (by omega), fk_u_o (by omega), fk_u_o (by omega)]
        exact pt.2.1 i i1 i2 i3 i4
      · rw [fk_u_rowo c1, fk_u_rowo c1, fk_u_rowo c1]
        exact pt.2.2 c c1 c2 c3 c4 c5
    · have st1 : fk_ev (d + 8) qX12_triesPlan 28 [.ref 246, .int (nI o), .int P, .int (nI n), .int (nI (ab_mm v W (nI o) s z k)), .int (nI k)] [.int (nI k)] (fk_E N t l) = fk_ev (d + 8) qX12_triesPlan 82 [.ref 246, .int (nI o), .int P, .int (nI n), .int (nI (ab_mm v W (nI o) s z k)), .int (nI k)] [] (fk_E N t l) := by
        by_cases g1 : P &&& (t 246 35 ^^^ (-1)) = nI 0
        · have g2 : ¬ nI (ab_lo (ab_rn v W (nI o) (nI z) s k).1 (nI o)) = nI 1 := fun x => cg ⟨by rw [← e35]; exact g1, (nI_eq (by omega) (by omega)).mp x⟩
          simp (disch := first | assumption | omega) only [rX12_triesPlan, e39, g1, el, g2, Option.bind_some, Option.toList_some, Option.toList_none, List.cons_append, List.nil_append, fk_b_0, nI_add, Nat.add_zero, Nat.zero_add, not_true_eq_false, not_false_eq_true, if_true, if_false, sI_le_t, sI_le_f, sI_lt_t, sI_lt_f, sI_eq_t, sI_eq_f, sI_rem, sI_div, sI_m1a, sI_m1b, sI_m1c, sI_m1d, sI_m1e, sI_m1f, sI_m2a, sI_m2b, sI_sub, pk_mul, sI_dec, fk_u_s, fk_u_o, sI_dec0, sI_z, sI_md, Bool.false_eq_true, Nat.reduceAdd, Nat.reduceMul, Nat.reduceSub, Nat.reduceMod, Nat.reduceDiv]
        · simp (disch := first | assumption | omega) only [rX12_triesPlan, e39, g1, Option.bind_some, Option.toList_some, Option.toList_none, List.cons_append, List.nil_append, fk_b_0, nI_add, Nat.add_zero, Nat.zero_add, not_true_eq_false, not_false_eq_true, if_true, if_false, sI_le_t, sI_le_f, sI_lt_t, sI_lt_f, sI_eq_t, sI_eq_f, sI_rem, sI_div, sI_m1a, sI_m1b, sI_m1c, sI_m1d, sI_m1e, sI_m1f, sI_m2a, sI_m2b, sI_sub, pk_mul, sI_dec, fk_u_s, fk_u_o, sI_dec0, sI_z, sI_md, Bool.false_eq_true, Nat.reduceAdd, Nat.reduceMul, Nat.reduceSub, Nat.reduceMod, Nat.reduceDiv]
      have hno2 : ∀ i, i < k + 1 → ¬ ab_gd P (nI o) (ab_rn v W (nI o) (nI z) s i) := fun i hi => by
        by_cases q : i = k
        · subst q; exact cg
        · exact hno i (by omega)
      rw [st1]
      by_cases q : k = n
      · rw [no (fun i hi => hno2 i (by omega))]
        refine ⟨t, ?_, ab_tP_of h39 h40 hi, ab_tI_7 hi⟩
        simp (disch := first | assumption | omega) only [rX12_triesPlan, q, Option.bind_some, Option.toList_some, Option.toList_none, List.cons_append, List.nil_append, fk_b_0, nI_add, Nat.add_zero, Nat.zero_add, not_true_eq_false, not_false_eq_true, if_true, if_false, sI_le_t, sI_le_f, sI_lt_t, sI_lt_f, sI_eq_t, sI_eq_f, sI_rem, sI_div, sI_m1a, sI_m1b, sI_m1c, sI_m1d, sI_m1e, sI_m1f, sI_m2a, sI_m2b, sI_sub, pk_mul, sI_dec, fk_u_s, fk_u_o, sI_dec0, sI_z, sI_md, Bool.false_eq_true, Nat.reduceAdd, Nat.reduceMul, Nat.reduceSub, Nat.reduceMod, Nat.reduceDiv]
      · obtain ⟨y', f1, f2⟩ := ab_tI_s (N := N) (l := l) (d := d) HW hv h33 h34 h36 hi (by omega)
        obtain ⟨el2, hl2⟩ := ab_tI_lo (N := N) (l := l) (d := d + 6) f2
        obtain ⟨y1, h1, h2⟩ := ih (k + 1) y' (by omega) f2 hno2
        refine ⟨y1, ?_, h2⟩
        rw [← h1]
        have eM : (if nI (ab_lo (ab_rn v W (nI o) (nI z) s (k + 1)).1 (nI o)) < nI (ab_mm v W (nI o) s z k) then nI (ab_mm v W (nI o) s z k) else nI (ab_lo (ab_rn v W (nI o) (nI z) s (k + 1)).1 (nI o))) = nI (ab_mm v W (nI o) s z (k + 1)) := by
          rw [ab_mm_s]
          by_cases x : ab_lo (ab_rn v W (nI o) (nI z) s (k + 1)).1 (nI o) < ab_mm v W (nI o) s z k
          · rw [if_pos ((nI_ltI (by omega) (by omega)).mpr x), if_neg (by omega)]
          · rw [if_neg fun w => x ((nI_ltI (by omega) (by omega)).mp w)]
            split
            · rfl
            · congr 1; omega
        have qn : ¬ nI k = nI n := fun x => q ((nI_eq (by omega) (by omega)).mp x)
        simp (disch := first | assumption | omega) only [rX12_triesPlan, qn, f1, el2, mX12_max, eM, Option.bind_some, Option.toList_some, Option.toList_none, List.cons_append, List.nil_append, fk_b_0, nI_add, Nat.add_zero, Nat.zero_add, not_true_eq_false, not_false_eq_true, if_true, if_false, sI_le_t, sI_le_f, sI_lt_t, sI_lt_f, sI_eq_t, sI_eq_f, sI_rem, sI_div, sI_m1a, sI_m1b, sI_m1c, sI_m1d, sI_m1e, sI_m1f, sI_m2a, sI_m2b, sI_sub, pk_mul, sI_dec, fk_u_s, fk_u_o, sI_dec0, sI_z, sI_md, Bool.false_eq_true, Nat.reduceAdd, Nat.reduceMul, Nat.reduceSub, Nat.reduceMod, Nat.reduceDiv]
end PL5
