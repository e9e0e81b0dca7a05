section JO4
variable {N : Nat} {v y y0 y1 y2 : Nat → Nat → Int32} {l : Nat → Nat → Int64} {d n H c k m : Nat} {A : Nat → Int32} {W : Int32 → (Nat → Int32) → Int32} {J : Nat → Nat}
theorem jp_ds_s {x : Nat} : jp_ds m x (k + 1) = true ↔ (∀ i, i < m → k < i → ¬ jp_d m x i = jp_d m x k) ∧ jp_ds m x k = true := by
  show ((List.range m).all (fun i => !(decide (k < i) && decide (jp_d m x i = jp_d m x k))) && jp_ds m x k) = true ↔ _
  rw [Bool.and_eq_true, List.all_eq_true]
  constructor
  · rintro ⟨h1, h2⟩
    refine ⟨fun i hi hk e => ?_, h2⟩
    have := h1 i (List.mem_range.mpr hi)
    rw [decide_eq_true hk, decide_eq_true e] at this
    exact absurd this (by decide)
  · rintro ⟨h1, h2⟩
    refine ⟨fun i hi => ?_, h2⟩
    have := h1 i (List.mem_range.mp hi)
    by_cases hk : k < i
    · rw [decide_eq_false (this hk), Bool.and_false]; rfl
    · rw [decide_eq_false hk, Bool.false_and]; rfl
theorem mX12_rj_loop {x : Nat} (hm1 : 2 ≤ m) (hm : m ≤ 5) (hx : x < 3125) : ∀ k, k ≤ m → ∀ (seen : Int32) y, (∀ q, fk_tb seen q = true ↔ ∃ i, k ≤ i ∧ i < m ∧ jp_d m x i = q) → (∀ i, k ≤ i → i < m → y 272 i = nI (jp_d m x i)) → y 246 44 = nI m → ∃ y', fk_ev (d + 1) qX12_readsJoins 12 [.ref 246, .int (nI x), .int (nI (x / m ^ (m - k))), .int seen, .int (if k = 0 then (-1) else nI (k - 1))] [] (fk_E N y l) = some (some (.int (fk_b (jp_ds m x k = true))), fk_E N y' l) ∧ (∀ k, k ≠ 272 → y' k = y k) ∧ (jp_ds m x k = true → ∀ i, i < m → y' 272 i = nI (jp_d m x i)) := by
  intro k
  induction k with
  | zero =>
    intro _ seen y h1 h2 h3
    refine ⟨y, ?_, fun _ _ => rfl, fun _ i hi => h2 i (by omega) hi⟩
    rw [hX12_readsJoins_12, if_pos rfl, fk_b_t (show jp_ds m x 0 = true from rfl)]
    simp (disch := first | assumption | omega) only [rX12_readsJoins, show ((-1 : Int32) < nI 0) = True from eq_true (by decide), Option.bind_some, Option.toList_some, Option.toList_none, List.cons_append, List.nil_append, fk_b_0, nI_add, Nat.add_zero, Nat.zero_add, not_true_eq_false, not_false_eq_true, if_true, if_false, sI_le_t, sI_le_f, sI_lt_t, sI_lt_f, sI_eq_t, sI_eq_f, sI_rem, sI_div, sI_m1a, sI_m1b, sI_m1c, sI_m1d, sI_m1e, sI_m1f, sI_m2a, sI_m2b, sI_sub, pk_mul, sI_dec, fk_u_s, fk_u_o, sI_dec0, sI_z, sI_md, Bool.false_eq_true, Nat.reduceAdd, Nat.reduceMul, Nat.reduceSub, Nat.reduceMod, Nat.reduceDiv]
  | succ k ih =>
    intro hk seen y h1 h2 h3
    have le1 : x / m ^ (m - (k + 1)) ≤ x := Nat.div_le_self _ _
    have dl : jp_d m x k < m := jp_d_lt (by omega)
    have ed : x / m ^ (m - (k + 1)) % m = jp_d m x k := by unfold jp_d; rw [show m - 1 - k = m - (k + 1) by omega]
    have el : x / m ^ (m - (k + 1)) / m = x / m ^ (m - k) := by
      rw [Nat.div_div_eq_div_mul, ← Nat.pow_succ, show (m - (k + 1)).succ = m - k by omega]
    rw [hX12_readsJoins_12, if_neg (show ¬ k + 1 = 0 by omega), show k + 1 - 1 = k by omega]
    generalize x / m ^ (m - (k + 1)) = Q at le1 ed el
    generalize eQ : x / m ^ (m - k) = Q' at el ih
    have ers : nI Q - nI (Q' * m) = nI (jp_d m x k) := by
      have := Nat.div_add_mod Q m
      rw [ed, el, Nat.mul_comm] at this
      rw [sI_sub (by omega), show Q - Q' * m = jp_d m x k by omega]
    by_cases c1 : fk_tb seen (jp_d m x k) = true
    · have nd : ¬ jp_ds m x (k + 1) = true := fun z => by
        obtain ⟨i, i1, i2, i3⟩ := (h1 _).mp c1
        exact (jp_ds_s.mp z).1 i i2 (by omega) i3
      refine ⟨fk_u y 272 k (nI (jp_d m x k)), ?_, fun k hk => fk_u_rowo hk, fun z => absurd z nd⟩
      rw [fk_b_f nd]
      simp (disch := first | assumption | omega) only [rX12_readsJoins, h3, el, ers, mX12_has, fk_has1, c1, Option.bind_some, Option.toList_some, Option.toList_none, List.cons_append, List.nil_append, fk_b_0, nI_add, Nat.add_zero, Nat.zero_add, not_true_eq_false, not_false_eq_true, if_true, if_false, sI_le_t, sI_le_f, sI_lt_t, sI_lt_f, sI_eq_t, sI_eq_f, sI_rem, sI_div, sI_m1a, sI_m1b, sI_m1c, sI_m1d, sI_m1e, sI_m1f, sI_m2a, sI_m2b, sI_sub, pk_mul, sI_dec, fk_u_s, fk_u_o, sI_dec0, sI_z, sI_md, Bool.false_eq_true, Nat.reduceAdd, Nat.reduceMul, Nat.reduceSub, Nat.reduceMod, Nat.reduceDiv]
    · have eds : jp_ds m x (k + 1) = true ↔ jp_ds m x k = true := by
        rw [jp_ds_s]
        exact ⟨fun z => z.2, fun z => ⟨fun i hi hki e => c1 ((h1 _).mpr ⟨i, by omega, hi, e⟩), z⟩⟩
      obtain ⟨y', e, f1, f2⟩ := ih (by omega) (seen ||| nI 1 <<< (nI (jp_d m x k) &&& 31)) (fk_u y 272 k (nI (jp_d m x k))) (fun q => by
        rw [fk_tb_or, Bool.or_eq_true, h1, fk_tb_bitI (by omega)]
        constructor
        · rintro (⟨i, i1, i2⟩ | rfl)
          · exact ⟨i, by omega, i2⟩
          · exact ⟨k, by omega, by omega, rfl⟩
        · rintro ⟨i, i1, i2, i3⟩
          by_cases e : i = k
          · subst e; exact Or.inr i3.symm
          · exact Or.inl ⟨i, by omega, i2, i3⟩) (fun i i1 i2 => by
        by_cases e : i = k
        · subst e; exact fk_u_s
        · rw [fk_u_o (by omega)]; exact h2 i (by omega) i2) (by rw [fk_u_o (by omega)]; exact h3)
      refine ⟨y', ?_, fun k hk => (f1 k hk).trans (fk_u_rowo hk), fun z => f2 (eds.mp z)⟩
      have eb : fk_b (jp_ds m x (k + 1) = true) = fk_b (jp_ds m x k = true) := by
        by_cases z : jp_ds m x k = true
        · rw [fk_b_t z, fk_b_t (eds.mpr z)]
        · rw [fk_b_f z, fk_b_f fun w => z (eds.mp w)]
      rw [eb, ← e]
      by_cases k0 : k = 0
      · subst k0
        rw [if_pos rfl]
        simp (disch := first | assumption | omega) only [rX12_readsJoins, h3, el, ers, mX12_has, fk_has1, c1, Option.bind_some, Option.toList_some, Option.toList_none, List.cons_append, List.nil_append, fk_b_0, nI_add, Nat.add_zero, Nat.zero_add, not_true_eq_false, not_false_eq_true, if_true, if_false, sI_le_t, sI_le_f, sI_lt_t, sI_lt_f, sI_eq_t, sI_eq_f, sI_rem, sI_div, sI_m1a, sI_m1b, sI_m1c, sI_m1d, sI_m1e, sI_m1f, sI_m2a, sI_m2b, sI_sub, pk_mul, sI_dec, fk_u_s, fk_u_o, sI_dec0, sI_z, sI_md, Bool.false_eq_true, Nat.reduceAdd, Nat.reduceMul, Nat.reduceSub, Nat.reduceMod, Nat.reduceDiv]
      · rw [if_neg k0]
        simp (disch := first | assumption | omega) only [rX12_readsJoins, h3, el, ers, mX12_has, fk_has1, c1, Option.bind_some, Option.toList_some, Option.toList_none, List.cons_append, List.nil_append, fk_b_0, nI_add, Nat.add_zero, Nat.zero_add, not_true_eq_false, not_false_eq_true, if_true, if_false, sI_le_t, sI_le_f, sI_lt_t, sI_lt_f, sI_eq_t, sI_eq_f, sI_rem, sI_div, sI_m1a, sI_m1b, sI_m1c, sI_m1d, sI_m1e, sI_m1f, sI_m2a, sI_m2b, sI_sub, pk_mul, sI_dec, fk_u_s, fk_u_o, sI_dec0, sI_z, sI_md, Bool.false_eq_true, Nat.reduceAdd, Nat.reduceMul, Nat.reduceSub, Nat.reduceMod, Nat.reduceDiv]
theorem mX12_readsJoins {x : Nat} (hm1 : 2 ≤ m) (hm : m ≤ 5) (hx : x < 3125) (h3 : y 246 44 = nI m) : ∃ y', fk_ev (d + 1) qX12_readsJoins 0 [.ref 246, .int ((nI x)), .null, .null, .null] [] (fk_E N y l) = some (some (.int ((fk_b (jp_ds m x m = true)))), fk_E N y' l) ∧ (∀ k, k ≠ 272 → y' k = y k) ∧ (jp_ds m x m = true → ∀ i, i < m → y' 272 i = nI (jp_d m x i)) := by
  obtain ⟨y', e, f⟩ := mX12_rj_loop (N := N) (l := l) (d := d) hm1 hm hx m (Nat.le_refl _) (nI 0) y (fun q => by rw [fk_tb_0]; exact ⟨fun z => absurd z (by decide), fun ⟨i, h1, h2, _⟩ => by omega⟩) (fun i h1 h2 => by omega) h3
  refine ⟨y', ?_, f⟩
  rw [← e, if_neg (show ¬ m = 0 by omega), Nat.sub_self, Nat.pow_zero, Nat.div_one]
  simp (disch := first | assumption | omega) only [rX12_readsJoins, h3, Option.bind_some, Option.toList_some, Option.toList_none, List.cons_append, List.nil_append, fk_b_0, nI_add, Nat.add_zero, Nat.zero_add, not_true_eq_false, not_false_eq_true, if_true, if_false, sI_le_t, sI_le_f, sI_lt_t, sI_lt_f, sI_eq_t, sI_eq_f, sI_rem, sI_div, sI_m1a, sI_m1b, sI_m1c, sI_m1d, sI_m1e, sI_m1f, sI_m2a, sI_m2b, sI_sub, pk_mul, sI_dec, fk_u_s, fk_u_o, sI_dec0, sI_z, sI_md, Bool.false_eq_true, Nat.reduceAdd, Nat.reduceMul, Nat.reduceSub, Nat.reduceMod, Nat.reduceDiv]
/-- the best row so far, and how many facts -/
def jp_up (val : Nat → Nat) (s : Option (Nat × Nat)) (x : Nat) : Option (Nat × Nat) := match s with
  | none => some (x, val x)
  | some b => if b.2 < val x then some (x, val x) else some b
def jp_vl (W : Int32 → (Nat → Int32) → Int32) (A : Nat → Int32) (J : Nat → Nat) (m x : Nat) : Nat := fk_cd (ab_jv W A (fun i => J (jp_d m x i)) (m - 1)).2.1
def jp_mo (s : Option (Nat × Nat)) : Int32 := match s with
  | none => (-1)
  | some b => nI b.2
theorem jp_up_n {val : Nat → Nat} {x : Nat} : jp_up val none x = some (x, val x) := rfl
theorem jp_up_t {val : Nat → Nat} {x : Nat} {b : Nat × Nat} (h : b.2 < val x) : jp_up val (some b) x = some (x, val x) := if_pos h
theorem jp_up_f {val : Nat → Nat} {x : Nat} {b : Nat × Nat} (h : ¬ b.2 < val x) : jp_up val (some b) x = some b := if_neg h
/-- the joiner, with a best row -/
def ck_sk (J : Nat → Nat) (m : Nat) (s : Option (Nat × Nat)) (y : Nat → Nat → Int32) : Prop := y 241 2 = nI m ∧ y 241 3 = jp_mo s ∧ ∀ b, s = some b → ∀ i, i < m → y 243 i = nI (J (jp_d m b.1 i))
def jp_bs (s : Option (Nat × Nat)) : Prop := ∀ b, s = some b → b.2 ≤ 16
theorem mX2_seek_loop (hL : ck_LC W c y0) (e2 : y0 238 2 = nI 33) (e3 : y0 238 3 = nI c) (hp : ck_pr 33 y0 (fun _ => nI 0) A) (ho : ab_ok v n H A) (hm1 : 2 ≤ m) (hm : m ≤ 5) (hJ : ∀ i, i < m → J i < n) (hJ2 : ∀ i j, i < m → j < m → (J i < J j ↔ i < j)) : ∀ (L : List Nat) x s i y, jp_ch m (x :: L) = true → i + (L.length + 1) ≤ 120 → (∀ k, k ≠ 239 → k ≠ c + 7 → k ≠ 241 → k ≠ 242 → k ≠ 243 → y k = y0 k) → ck_sk J m s y → jp_bs s → (∀ q, q < m → y 242 q = nI (J (jp_d m x q))) → ∀ z : Value, ∃ y', fk_ev (d + 4) qX2_seek 7 [.ref 241, .ref 238, .ref 33, .int (nI i), z] [] (fk_E N y l) = some (none, fk_E N y' l) ∧ (∀ k, k ≠ 239 → k ≠ c + 7 → k ≠ 241 → k ≠ 242 → k ≠ 243 → y' k = y0 k) ∧ ck_sk J m (List.foldl (jp_up (jp_vl W A J m)) s (x :: L)) y' := by
  have hc := hL.1
  have hn := ho.1
  have h242 : fk_at 242 20 := ⟨by decide, by decide, by decide +kernel⟩
  have h243 : fk_at 243 20 := ⟨by decide, by decide, by decide +kernel⟩
  have s242 : (fk_shp 242).2 = 5 := by decide +kernel
  have s243 : (fk_shp 243).2 = 5 := by decide +kernel
  have hsh : (fk_shp 242).2 < 2 ^ 31 ∧ (fk_shp 243).2 < 2 ^ 31 := by rw [s242, s243]; decide
  -- one row looked at
  have one : ∀ x s i y, i < 120 → (∀ k, k ≠ 239 → k ≠ c + 7 → k ≠ 241 → k ≠ 242 → k ≠ 243 → y k = y0 k) → ck_sk J m s y → jp_bs s → (∀ q, q < m → y 242 q = nI (J (jp_d m x q))) → ∀ z : Value, ∃ y' z', fk_ev (d + 4) qX2_seek 7 [.ref 241, .ref 238, .ref 33, .int (nI i), z] [] (fk_E N y l) = fk_ev (d + 4) qX2_seek 53 [.ref 241, .ref 238, .ref 33, .int (nI i), z'] [] (fk_E N y' l) ∧ (∀ k, k ≠ 239 → k ≠ c + 7 → k ≠ 241 → k ≠ 242 → k ≠ 243 → y' k = y0 k) ∧ ck_sk J m (jp_up (jp_vl W A J m) s x) y' ∧ jp_bs (jp_up (jp_vl W A J m) s x) ∧ (∀ q, q < m → y' 242 q = nI (J (jp_d m x q))) := by
    intro x s i y hi hf hs hb hrow z
    obtain ⟨t, e, f⟩ := mX2_factsOf (N := N) (l := l) (d := d) (W := W) (A := A) (r := fun i => J (jp_d m x i)) (ck_LC_c (fun k k1 k2 => hf k (by omega) (by omega) (by omega) (by omega) (by omega)) (by rw [hf c (by omega) (by omega) (by omega) (by omega) (by omega)]) (by rw [hf c (by omega) (by omega) (by omega) (by omega) (by omega)]) hL) (by rw [hf 238 (by omega) (by omega) (by omega) (by omega) (by omega)]; exact e2) (by rw [hf 238 (by omega) (by omega) (by omega) (by omega) (by omega)]; exact e3) (ck_pr_k hp fun k k1 k2 => hf k (by omega) (by omega) (by omega) (by omega) (by omega)) ho (by omega) hm (fun i hi => hJ _ (jp_d_lt (by omega))) hrow hs.1
    have vle : jp_vl W A J m x ≤ 16 := fk_cd_le
    have e' : fk_ev (d + 3) qX2_factsOf 0 [.ref 241, .ref 238, .ref 33, .null, .null, .null, .null, .null, .null, .null, .null, .null] [] (fk_E N y l) = some (some (.int (nI (jp_vl W A J m x))), fk_E N t l) := e
    generalize hvx : jp_vl W A J m x = vx at vle e'
    have t241 : t 241 = y 241 := f 241 (by omega) (by omega)
    have t242 : t 242 = y 242 := f 242 (by omega) (by omega)
    have t243 : t 243 = y 243 := f 243 (by omega) (by omega)
    have m3 : t 241 3 = jp_mo s := by rw [t241]; exact hs.2.1
    have m2 : t 241 2 = nI m := by rw [t241]; exact hs.1
    have ft : ∀ k, k ≠ 239 → k ≠ c + 7 → k ≠ 241 → k ≠ 242 → k ≠ 243 → t k = y0 k := fun k k1 k2 k3 k4 k5 => by rw [f k k1 k2, hf k k1 k2 k3 k4 k5]
    have better : jp_mo s < nI vx → ∃ y' z', fk_ev (d + 4) qX2_seek 7 [.ref 241, .ref 238, .ref 33, .int (nI i), z] [] (fk_E N y l) = fk_ev (d + 4) qX2_seek 53 [.ref 241, .ref 238, .ref 33, .int (nI i), z'] [] (fk_E N y' l) ∧ (∀ k, k ≠ 239 → k ≠ c + 7 → k ≠ 241 → k ≠ 242 → k ≠ 243 → y' k = y0 k) ∧ ck_sk J m (some (x, vx)) y' ∧ jp_bs (some (x, vx)) ∧ (∀ q, q < m → y' 242 q = nI (J (jp_d m x q))) := by
      intro lt
      have nle : ¬ nI vx ≤ jp_mo s := Int32.not_le.mpr lt
      have u2 : fk_u t 241 3 (nI vx) 241 2 = nI m := by rw [fk_u_o (by omega)]; exact m2
      refine ⟨fk_uc (fk_u t 241 3 (nI vx)) 242 0 243 0 m, .int (nI vx), ?_, fun k k1 k2 k3 k4 k5 => ?_, ⟨?_, ?_, fun b hb' i hi => ?_⟩, fun b hb' => ?_, fun q hq => ?_⟩
      · rw [hX2_seek_7]
        simp (disch := first | assumption | omega) only [rX2_seek, e', m3, nle, m2, Option.bind_some, Option.toList_some, Option.toList_none, List.cons_append, List.nil_append, fk_b_0, nI_add, Nat.add_zero, Nat.zero_add, not_true_eq_false, not_false_eq_true, if_true, if_false, sI_le_t, sI_le_f, sI_lt_t, sI_lt_f, sI_eq_t, sI_eq_f, sI_rem, sI_div, sI_m1a, sI_m1b, sI_m1c, sI_m1d, sI_m1e, sI_m1f, sI_m2a, sI_m2b, sI_sub, pk_mul, sI_dec, fk_u_s, fk_u_o, sI_dec0, sI_z, sI_md, Bool.false_eq_true, Nat.reduceAdd, Nat.reduceMul, Nat.reduceSub, Nat.reduceMod, Nat.reduceDiv]
      · rw [show fk_uc (fk_u t 241 3 (nI vx)) 242 0 243 0 m k = fk_u t 241 3 (nI vx) k from funext fun j => if_neg fun q => k5 q.1, fk_u_rowo k3]
        exact ft k k1 k2 k3 k4 k5
      · show fk_uc (fk_u t 241 3 (nI vx)) 242 0 243 0 m 241 2 = nI m
        unfold fk_uc
        rw [if_neg (by omega)]
        exact u2
      · unfold fk_uc
        rw [if_neg (by omega), fk_u_s]
        rfl
      · cases hb'
        unfold fk_uc
        rw [if_pos ⟨rfl, by omega, by omega⟩, fk_u_o (by omega), t242, show 0 + (i - 0) = i by omega]
        exact hrow i hi
      · cases hb'
        exact vle
      · unfold fk_uc
        rw [if_neg (by omega), fk_u_o (by omega), t242]
        exact hrow q hq
    cases s with
    | none =>
      rw [jp_up_n, hvx]
      exact better (by show (-1 : Int32) < nI vx; rw [sI_m1c (by omega)]; trivial)
    | some b =>
      have bb := hb b rfl
      by_cases c1 : b.2 < vx
      · rw [jp_up_t (by rw [hvx]; exact c1), hvx]
        exact better (nI_lt c1 (by omega))
      · rw [jp_up_f (by rw [hvx]; exact c1)]
        have m3' : t 241 3 = nI b.2 := m3
        refine ⟨t, .int (nI vx), ?_, ft, ⟨m2, m3, fun b' hb' i hi => by rw [t243]; exact hs.2.2 b' hb' i hi⟩, hb, fun q hq => by rw [t242]; exact hrow q hq⟩
        rw [hX2_seek_7]
        simp (disch := first | assumption | omega) only [rX2_seek, e', m3', Option.bind_some, Option.toList_some, Option.toList_none, List.cons_append, List.nil_append, fk_b_0, nI_add, Nat.add_zero, Nat.zero_add, not_true_eq_false, not_false_eq_true, if_true, if_false, sI_le_t, sI_le_f, sI_lt_t, sI_lt_f, sI_eq_t, sI_eq_f, sI_rem, sI_div, sI_m1a, sI_m1b, sI_m1c, sI_m1d, sI_m1e, sI_m1f, sI_m2a, sI_m2b, sI_sub, pk_mul, sI_dec, fk_u_s, fk_u_o, sI_dec0, sI_z, sI_md, Bool.false_eq_true, Nat.reduceAdd, Nat.reduceMul, Nat.reduceSub, Nat.reduceMod, Nat.reduceDiv]
  intro L
  induction L with
  | nil =>
    intro x s i y hch hi hf hs hb hrow z
    obtain ⟨y1, z1, o1, o2, o3, o4, o5⟩ := one x s i y (by simp only [List.length_nil] at hi; omega) hf hs hb hrow z
    have go := mX2_goOn (N := N) (l := l) (d := d + 2) (r := fun i => J (jp_d m x i)) hm1 hm (fun i => by have := hJ (jp_d m x i) (jp_d_lt (by omega)); omega) o5 o3.1
    have nn : jp_nx (fun i => J (jp_d m x i)) m = none := by
      rw [jp_nx_c fun a b _ _ => hJ2 _ _ (jp_d_lt (by omega)) (jp_d_lt (by omega))]
      have : (jp_nx (jp_d m x) m).isNone = true := hch
      rw [Option.isNone_iff_eq_none] at this
      rw [show (fun i => jp_d m x i) = jp_d m x from rfl, this]
      rfl
    rw [nn] at go
    try dsimp only at go
    refine ⟨y1, ?_, o2, o3⟩
    rw [o1]
    simp (disch := first | assumption | omega) only [rX2_seek, go, Option.bind_some, Option.toList_some, Option.toList_none, List.cons_append, List.nil_append, fk_b_0, nI_add, Nat.add_zero, Nat.zero_add, not_true_eq_false, not_false_eq_true, if_true, if_false, sI_le_t, sI_le_f, sI_lt_t, sI_lt_f, sI_eq_t, sI_eq_f, sI_rem, sI_div, sI_m1a, sI_m1b, sI_m1c, sI_m1d, sI_m1e, sI_m1f, sI_m2a, sI_m2b, sI_sub, pk_mul, sI_dec, fk_u_s, fk_u_o, sI_dec0, sI_z, sI_md, Bool.false_eq_true, Nat.reduceAdd, Nat.reduceMul, Nat.reduceSub, Nat.reduceMod, Nat.reduceDiv]
  | cons x' L ih =>
    intro x s i y hch hi hf hs hb hrow z
    simp only [List.length_cons] at hi
    obtain ⟨y1, z1, o1, o2, o3, o4, o5⟩ := one x s i y (by omega) hf hs hb hrow z
    have go := mX2_goOn (N := N) (l := l) (d := d + 2) (r := fun i => J (jp_d m x i)) hm1 hm (fun i => by have := hJ (jp_d m x i) (jp_d_lt (by omega)); omega) o5 o3.1
    have hch' : (jp_ok m x x' && jp_ch m (x' :: L)) = true := hch
    rw [Bool.and_eq_true] at hch'
    have ok := hch'.1
    unfold jp_ok at ok
    rw [jp_nx_c fun a b _ _ => hJ2 _ _ (jp_d_lt (by omega)) (jp_d_lt (by omega)), show (fun i => jp_d m x i) = jp_d m x from rfl] at go
    generalize jp_nx (jp_d m x) m = o at ok go
    cases o with
    | none => exact absurd ok Bool.false_ne_true
    | some r =>
      try dsimp only [Option.map_some] at ok go
      obtain ⟨y2, g1, g2, g3⟩ := go
      have er : ∀ q, q < m → r q = jp_d m x' q := fun q hq => by
        have := List.all_eq_true.mp ok q (List.mem_range.mpr hq)
        exact eq_of_beq this
      obtain ⟨y', h1, h2, h3⟩ := ih x' (jp_up (jp_vl W A J m) s x) (i + 1) y2 hch'.2 (by omega) (fun k k1 k2 k3 k4 k5 => by rw [g3 k k4, o2 k k1 k2 k3 k4 k5]) ⟨by rw [g3 241 (by omega)]; exact o3.1, by rw [g3 241 (by omega)]; exact o3.2.1, fun b hb i hi => by rw [g3 243 (by omega)]; exact o3.2.2 b hb i hi⟩ o4 (fun q hq => by rw [g2 q hq, er q hq]) z1
      refine ⟨y', ?_, h2, h3⟩
      rw [o1, ← h1]
      simp (disch := first | assumption | omega) only [rX2_seek, g1, Option.bind_some, Option.toList_some, Option.toList_none, List.cons_append, List.nil_append, fk_b_0, nI_add, Nat.add_zero, Nat.zero_add, not_true_eq_false, not_false_eq_true, if_true, if_false, sI_le_t, sI_le_f, sI_lt_t, sI_lt_f, sI_eq_t, sI_eq_f, sI_rem, sI_div, sI_m1a, sI_m1b, sI_m1c, sI_m1d, sI_m1e, sI_m1f, sI_m2a, sI_m2b, sI_sub, pk_mul, sI_dec, fk_u_s, fk_u_o, sI_dec0, sI_z, sI_md, Bool.false_eq_true, Nat.reduceAdd, Nat.reduceMul, Nat.reduceSub, Nat.reduceMod, Nat.reduceDiv]
end JO4
