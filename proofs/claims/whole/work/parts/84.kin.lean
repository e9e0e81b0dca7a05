section KIN
variable {N : Nat} {S : Nat → Int32} {v y y1 y2 : Nat → Nat → Int32} {l : Nat → Nat → Int64} {d p p' n H t : Nat} {T A A' : Nat → Int32}
/-- the parent's number, k times -/
def ab_pw (A : Nat → Int32) : Nat → Nat → Option Nat
  | 0, j => some j
  | k + 1, j => if nI 0 ≤ A (64 + j) then ab_pw A k (A (64 + j)).toNatClampNeg else none
/-- j comes of i, or is i -/
def ab_an (A : Nat → Int32) (j i : Nat) : Prop := ∃ k, ab_pw A k j = some i
theorem ab_an_r {j : Nat} : ab_an A j j := ⟨0, rfl⟩
theorem ab_an_u {j i : Nat} : ab_an A j i ↔ j = i ∨ (nI 0 ≤ A (64 + j) ∧ ab_an A (A (64 + j)).toNatClampNeg i) := by
  constructor
  · rintro ⟨k, hk⟩
    cases k with
    | zero => exact Or.inl (Option.some.inj hk)
    | succ k =>
      unfold ab_pw at hk
      by_cases c : nI 0 ≤ A (64 + j)
      · rw [if_pos c] at hk
        exact Or.inr ⟨c, k, hk⟩
      · rw [if_neg c] at hk
        cases hk
  · rintro (h | ⟨c, k, hk⟩)
    · exact ⟨0, by rw [← h]; rfl⟩
    · refine ⟨k + 1, ?_⟩
      unfold ab_pw
      rw [if_pos c]
      exact hk
theorem ab_par (ho : ab_ok v n H A) {j : Nat} (hj : j < n) : (A (64 + j) = (-2) ∧ ¬ nI 0 ≤ A (64 + j)) ∨ ∃ q : Nat, q < j ∧ A (64 + j) = nI q ∧ nI 0 ≤ A (64 + j) ∧ (A (64 + j)).toNatClampNeg = q := by
  have hn := ho.1
  rcases (ho.2.2.2.2.2.1 j hj).2.1 with e | ⟨q, hq, e⟩
  · exact Or.inl ⟨e, by rw [e]; decide⟩
  · exact Or.inr ⟨q, hq, e, by rw [e]; exact nI_le (by omega) (by omega), by rw [e, nI_clamp (by omega)]⟩
theorem ab_an_le (ho : ab_ok v n H A) : ∀ m j i, j < m → j < n → ab_an A j i → i ≤ j := by
  intro m
  induction m with
  | zero => intro j i h; omega
  | succ m ih =>
    intro j i hj hn h
    rcases ab_an_u.mp h with h | ⟨c, h⟩
    · omega
    · rcases ab_par ho hn with ⟨_, e⟩ | ⟨q, hq, _, _, e⟩
      · exact absurd c e
      · rw [e] at h
        have := ih q i (by omega) (by omega) h
        omega
/-- the nearest that two have in common -/
def ab_NC (A : Nat → Int32) (a b : Nat) (r : Int32) : Prop := (∃ i, i < 64 ∧ r = nI i ∧ ab_an A a i ∧ ab_an A b i ∧ ∀ i', ab_an A a i' → ab_an A b i' → i' ≤ i) ∨ (r = (-2) ∧ ∀ i', ab_an A a i' → ¬ ab_an A b i')
theorem ab_NC_inj {a b : Nat} {r r' : Int32} (h : ab_NC A a b r) (h' : ab_NC A a b r') : r = r' := by
  rcases h with ⟨i, h1, h2, h3, h4, h5⟩ | ⟨h1, h2⟩
  · rcases h' with ⟨i', g1, g2, g3, g4, g5⟩ | ⟨g1, g2⟩
    · have z1 := h5 i' g3 g4
      have z2 := g5 i h3 h4
      rw [h2, g2, show i = i' by omega]
    · exact absurd h4 (g2 i h3)
  · rcases h' with ⟨i', g1, g2, g3, g4, g5⟩ | ⟨g1, g2⟩
    · exact absurd g4 (h2 i' g3)
    · rw [h1, g1]
theorem ab_NC_sym {a b : Nat} {r : Int32} (h : ab_NC A a b r) : ab_NC A b a r := by
  rcases h with ⟨i, h1, h2, h3, h4, h5⟩ | ⟨h1, h2⟩
  · exact Or.inl ⟨i, h1, h2, h4, h3, fun i' g1 g2 => h5 i' g2 g1⟩
  · exact Or.inr ⟨h1, fun i' g1 g2 => h2 i' g2 g1⟩
theorem ab_NC_congr {a a' b : Nat} {r : Int32} (hh : ∀ i, ab_an A b i → (ab_an A a i ↔ ab_an A a' i)) (h : ab_NC A a' b r) : ab_NC A a b r := by
  rcases h with ⟨i, h1, h2, h3, h4, h5⟩ | ⟨h1, h2⟩
  · exact Or.inl ⟨i, h1, h2, (hh i h4).mpr h3, h4, fun i' g1 g2 => h5 i' ((hh i' g2).mp g1) g2⟩
  · exact Or.inr ⟨h1, fun i' g1 g2 => h2 i' ((hh i' g2).mp g1) g2⟩
/-- the chain upwards: how many steps, and the first -/
def ab_ch (A : Nat → Int32) : Nat → Nat → Nat × Nat
  | 0, j => (0, j)
  | k + 1, j => if nI 0 ≤ A (64 + j) then ((ab_ch A k (A (64 + j)).toNatClampNeg).1 + 1, (ab_ch A k (A (64 + j)).toNatClampNeg).2) else (0, j)
theorem ab_ch_spec (ho : ab_ok v n H A) : ∀ k j, j < k → j < n → (ab_ch A k j).2 ≤ j ∧ A (64 + (ab_ch A k j).2) = (-2) ∧ (ab_ch A k j).1 ≤ j ∧ ∀ {σ ρ : Type} (ev : Nat → Nat → Int32 → σ → ρ), (∀ up m w s, w < n → up < 64 → nI 0 ≤ A (64 + w) → ∃ s', ev up m (nI w) s = ev (up + 1) (m + 1) (A (64 + w)) s') → ∀ up m s, up + j < 64 → ∃ up' s', up' + (ab_ch A k j).2 < 64 ∧ ev up m (nI j) s = ev up' (m + (ab_ch A k j).1) (nI (ab_ch A k j).2) s' := by
  intro k
  induction k with
  | zero => intro j hj; omega
  | succ k ih =>
    intro j hj hjn
    unfold ab_ch
    rcases ab_par ho hjn with ⟨e0, e⟩ | ⟨q, hq, e1, e2, e3⟩
    · rw [if_neg e]
      exact ⟨Nat.le_refl _, e0, Nat.zero_le _, fun ev hev up m s hup => ⟨up, s, hup, rfl⟩⟩
    · rw [if_pos e2, e3]
      obtain ⟨i1, i2, i3, i4⟩ := ih q (by omega) (by omega)
      refine ⟨by dsimp only; omega, i2, by dsimp only; omega, fun ev hev up m s hup => ?_⟩
      obtain ⟨s1, g1⟩ := hev up m j s hjn (by omega) e2
      obtain ⟨up', s2, u1, u2⟩ := i4 ev hev (up + 1) (m + 1) s1 (by omega)
      refine ⟨up', s2, u1, ?_⟩
      rw [g1, e1, u2, show m + 1 + (ab_ch A k q).1 = m + ((ab_ch A k q).1 + 1) by omega]
theorem mX12_isFrom (ho : ab_ok v n H (y 247)) {i : Nat} (hi : i < 64) : ∀ m b, b < m → b < n → ∀ o : Int32, (ab_an (y 247) b i → fk_ev d qX12_isFrom 2 [.ref 246, .int o, .int (nI i), .int (nI b)] [] (fk_E N y l) = some (some (.int (nI 1)), fk_E N y l)) ∧ (¬ ab_an (y 247) b i → fk_ev d qX12_isFrom 2 [.ref 246, .int o, .int (nI i), .int (nI b)] [] (fk_E N y l) = some (some (.int (nI 0)), fk_E N y l)) := by
  intro m
  induction m with
  | zero => intro b h; omega
  | succ m ih =>
    intro b hb hbn o
    have hn := ho.1
    rw [hX12_isFrom_2]
    by_cases c : b = i
    · subst c
      refine ⟨fun _ => ?_, fun z => absurd ab_an_r z⟩
      simp (disch := first | assumption | omega) only [rX12_isFrom, Option.bind_some, Option.toList_some, Option.toList_none, List.cons_append, List.nil_append, fk_b_0, nI_add, Nat.add_zero, Nat.zero_add, not_true_eq_false, not_false_eq_true, if_true, if_false, sI_le_t, sI_le_f, sI_lt_t, sI_lt_f, sI_eq_t, sI_eq_f, sI_rem, sI_div, sI_m1a, sI_m1b, sI_m1c, sI_m1d, sI_m1e, sI_m1f, sI_m2a, sI_m2b, sI_sub, pk_mul, sI_dec, fk_u_s, fk_u_o, sI_dec0, sI_z, sI_md, Bool.false_eq_true, Nat.reduceAdd, Nat.reduceMul, Nat.reduceSub, Nat.reduceMod, Nat.reduceDiv]
    · rcases ab_par ho hbn with ⟨e0, e⟩ | ⟨q, hq, e1, e2, e3⟩
      · have na : ¬ ab_an (y 247) b i := fun z => by
          rcases ab_an_u.mp z with z | z
          · exact c z
          · exact e z.1
        refine ⟨fun z => absurd z na, fun _ => ?_⟩
        simp (disch := first | assumption | omega) only [rX12_isFrom, e0, Option.bind_some, Option.toList_some, Option.toList_none, List.cons_append, List.nil_append, fk_b_0, nI_add, Nat.add_zero, Nat.zero_add, not_true_eq_false, not_false_eq_true, if_true, if_false, sI_le_t, sI_le_f, sI_lt_t, sI_lt_f, sI_eq_t, sI_eq_f, sI_rem, sI_div, sI_m1a, sI_m1b, sI_m1c, sI_m1d, sI_m1e, sI_m1f, sI_m2a, sI_m2b, sI_sub, pk_mul, sI_dec, fk_u_s, fk_u_o, sI_dec0, sI_z, sI_md, Bool.false_eq_true, Nat.reduceAdd, Nat.reduceMul, Nat.reduceSub, Nat.reduceMod, Nat.reduceDiv]
        rw [hX12_isFrom_2]
        simp (disch := first | assumption | omega) only [rX12_isFrom, show ((-2 : Int32) < nI 0) = True from eq_true (by decide), Option.bind_some, Option.toList_some, Option.toList_none, List.cons_append, List.nil_append, fk_b_0, nI_add, Nat.add_zero, Nat.zero_add, not_true_eq_false, not_false_eq_true, if_true, if_false, sI_le_t, sI_le_f, sI_lt_t, sI_lt_f, sI_eq_t, sI_eq_f, sI_rem, sI_div, sI_m1a, sI_m1b, sI_m1c, sI_m1d, sI_m1e, sI_m1f, sI_m2a, sI_m2b, sI_sub, pk_mul, sI_dec, fk_u_s, fk_u_o, sI_dec0, sI_z, sI_md, Bool.false_eq_true, Nat.reduceAdd, Nat.reduceMul, Nat.reduceSub, Nat.reduceMod, Nat.reduceDiv]
      · have ia : ab_an (y 247) b i ↔ ab_an (y 247) q i := by
          rw [ab_an_u, e3]
          exact ⟨fun z => by rcases z with z | z; exact absurd z c; exact z.2, fun z => Or.inr ⟨e2, z⟩⟩
        obtain ⟨g1, g2⟩ := ih q (by omega) (by omega) o
        rw [ia]
        refine ⟨fun z => ?_, fun z => ?_⟩
        · rw [← g1 z]
          simp (disch := first | assumption | omega) only [rX12_isFrom, e1, Option.bind_some, Option.toList_some, Option.toList_none, List.cons_append, List.nil_append, fk_b_0, nI_add, Nat.add_zero, Nat.zero_add, not_true_eq_false, not_false_eq_true, if_true, if_false, sI_le_t, sI_le_f, sI_lt_t, sI_lt_f, sI_eq_t, sI_eq_f, sI_rem, sI_div, sI_m1a, sI_m1b, sI_m1c, sI_m1d, sI_m1e, sI_m1f, sI_m2a, sI_m2b, sI_sub, pk_mul, sI_dec, fk_u_s, fk_u_o, sI_dec0, sI_z, sI_md, Bool.false_eq_true, Nat.reduceAdd, Nat.reduceMul, Nat.reduceSub, Nat.reduceMod, Nat.reduceDiv]
        · rw [← g2 z]
          simp (disch := first | assumption | omega) only [rX12_isFrom, e1, Option.bind_some, Option.toList_some, Option.toList_none, List.cons_append, List.nil_append, fk_b_0, nI_add, Nat.add_zero, Nat.zero_add, not_true_eq_false, not_false_eq_true, if_true, if_false, sI_le_t, sI_le_f, sI_lt_t, sI_lt_f, sI_eq_t, sI_eq_f, sI_rem, sI_div, sI_m1a, sI_m1b, sI_m1c, sI_m1d, sI_m1e, sI_m1f, sI_m2a, sI_m2b, sI_sub, pk_mul, sI_dec, fk_u_s, fk_u_o, sI_dec0, sI_z, sI_md, Bool.false_eq_true, Nat.reduceAdd, Nat.reduceMul, Nat.reduceSub, Nat.reduceMod, Nat.reduceDiv]
theorem mX12_kin2 (ho : ab_ok v n H (y 247)) {b : Nat} (hb : b < n) {jj : Int32} : ∀ m a, a < m → a < n → ∀ x x' : Int32, ∃ r, ab_NC (y 247) a b r ∧ fk_ev (d + 1) qX12_kin 41 [.ref 246, .int jj, .int (nI b), .int (nI 2), .int x, .int x', .int (nI a)] [] (fk_E N y l) = some (some (.int r), fk_E N y l) := by
  intro m
  induction m with
  | zero => intro a h; omega
  | succ m ih =>
    intro a ha han x x'
    have hn := ho.1
    have hF := mX12_isFrom (N := N) (l := l) (d := d) ho (show a < 64 by omega) (b + 1) b (by omega) hb (nI b)
    have hF0 : fk_ev d qX12_isFrom 0 [.ref 246, .int (nI b), .int (nI a), .null] [] (fk_E N y l) = fk_ev d qX12_isFrom 2 [.ref 246, .int (nI b), .int (nI a), .int (nI b)] [] (fk_E N y l) := by
      simp (disch := first | assumption | omega) only [rX12_isFrom, Option.bind_some, Option.toList_some, Option.toList_none, List.cons_append, List.nil_append, fk_b_0, nI_add, Nat.add_zero, Nat.zero_add, not_true_eq_false, not_false_eq_true, if_true, if_false, sI_le_t, sI_le_f, sI_lt_t, sI_lt_f, sI_eq_t, sI_eq_f, sI_rem, sI_div, sI_m1a, sI_m1b, sI_m1c, sI_m1d, sI_m1e, sI_m1f, sI_m2a, sI_m2b, sI_sub, pk_mul, sI_dec, fk_u_s, fk_u_o, sI_dec0, sI_z, sI_md, Bool.false_eq_true, Nat.reduceAdd, Nat.reduceMul, Nat.reduceSub, Nat.reduceMod, Nat.reduceDiv]
    rw [hX12_kin_41]
    by_cases c : ab_an (y 247) b a
    · have e := hF0.trans (hF.1 c)
      refine ⟨nI a, Or.inl ⟨a, by omega, rfl, ab_an_r, c, fun i' h1 _ => ab_an_le ho (a + 1) a i' (by omega) han h1⟩, ?_⟩
      simp (disch := first | assumption | omega) only [rX12_kin, e, Option.bind_some, Option.toList_some, Option.toList_none, List.cons_append, List.nil_append, fk_b_0, nI_add, Nat.add_zero, Nat.zero_add, not_true_eq_false, not_false_eq_true, if_true, if_false, sI_le_t, sI_le_f, sI_lt_t, sI_lt_f, sI_eq_t, sI_eq_f, sI_rem, sI_div, sI_m1a, sI_m1b, sI_m1c, sI_m1d, sI_m1e, sI_m1f, sI_m2a, sI_m2b, sI_sub, pk_mul, sI_dec, fk_u_s, fk_u_o, sI_dec0, sI_z, sI_md, Bool.false_eq_true, Nat.reduceAdd, Nat.reduceMul, Nat.reduceSub, Nat.reduceMod, Nat.reduceDiv]
    · have e := hF0.trans (hF.2 c)
      rcases ab_par ho han with ⟨e0, e'⟩ | ⟨q, hq, e1, e2, e3⟩
      · refine ⟨(-2), Or.inr ⟨rfl, fun i' h1 h2 => ?_⟩, ?_⟩
        · rcases ab_an_u.mp h1 with z | z
          · exact c (z ▸ h2)
          · exact e' z.1
        · simp (disch := first | assumption | omega) only [rX12_kin, e, e0, Option.bind_some, Option.toList_some, Option.toList_none, List.cons_append, List.nil_append, fk_b_0, nI_add, Nat.add_zero, Nat.zero_add, not_true_eq_false, not_false_eq_true, if_true, if_false, sI_le_t, sI_le_f, sI_lt_t, sI_lt_f, sI_eq_t, sI_eq_f, sI_rem, sI_div, sI_m1a, sI_m1b, sI_m1c, sI_m1d, sI_m1e, sI_m1f, sI_m2a, sI_m2b, sI_sub, pk_mul, sI_dec, fk_u_s, fk_u_o, sI_dec0, sI_z, sI_md, Bool.false_eq_true, Nat.reduceAdd, Nat.reduceMul, Nat.reduceSub, Nat.reduceMod, Nat.reduceDiv]
          rw [hX12_kin_41]
          simp (disch := first | assumption | omega) only [rX12_kin, show ((-2 : Int32) < nI 0) = True from eq_true (by decide), Option.bind_some, Option.toList_some, Option.toList_none, List.cons_append, List.nil_append, fk_b_0, nI_add, Nat.add_zero, Nat.zero_add, not_true_eq_false, not_false_eq_true, if_true, if_false, sI_le_t, sI_le_f, sI_lt_t, sI_lt_f, sI_eq_t, sI_eq_f, sI_rem, sI_div, sI_m1a, sI_m1b, sI_m1c, sI_m1d, sI_m1e, sI_m1f, sI_m2a, sI_m2b, sI_sub, pk_mul, sI_dec, fk_u_s, fk_u_o, sI_dec0, sI_z, sI_md, Bool.false_eq_true, Nat.reduceAdd, Nat.reduceMul, Nat.reduceSub, Nat.reduceMod, Nat.reduceDiv]
      · obtain ⟨r, g1, g2⟩ := ih q (by omega) (by omega) (x + nI 1) (nI a)
        refine ⟨r, ab_NC_congr (a' := q) (fun i hi => ?_) g1, ?_⟩
        · rw [ab_an_u, e3]
          exact ⟨fun z => by rcases z with z | z; exact absurd (z ▸ hi) c; exact z.2, fun z => Or.inr ⟨e2, z⟩⟩
        · rw [← g2]
          simp (disch := first | assumption | omega) only [rX12_kin, e, e1, Option.bind_some, Option.toList_some, Option.toList_none, List.cons_append, List.nil_append, fk_b_0, nI_add, Nat.add_zero, Nat.zero_add, not_true_eq_false, not_false_eq_true, if_true, if_false, sI_le_t, sI_le_f, sI_lt_t, sI_lt_f, sI_eq_t, sI_eq_f, sI_rem, sI_div, sI_m1a, sI_m1b, sI_m1c, sI_m1d, sI_m1e, sI_m1f, sI_m2a, sI_m2b, sI_sub, pk_mul, sI_dec, fk_u_s, fk_u_o, sI_dec0, sI_z, sI_md, Bool.false_eq_true, Nat.reduceAdd, Nat.reduceMul, Nat.reduceSub, Nat.reduceMod, Nat.reduceDiv]
theorem mX8_near (ho : ab_ok v n H A) (hp : ck_pr 33 y (fun _ => nI 0) A) {jj oo : Int32} : ∀ m a b up, a + b < m → a < n → b < n → up + a + b < 128 → ∀ x : Value, ∃ r, ab_NC A a b r ∧ fk_ev (d + 2) qX8_nearestInCommon 8 [.ref 33, .int jj, .int oo, .int (nI a), .int (nI b), .int (nI up), x] [] (fk_E N y l) = some (some (.int r), fk_E N y l) := by
  have h8 := n8
  have h24 := n24
  have h34 := n34
  have hn := ho.1
  have eb : y 33 2 = nI n := hp.1.1.trans ho.2.1
  intro m
  induction m with
  | zero => intro a b up h; omega
  | succ m ih =>
    intro a b up hab ha hb hup x
    rw [hX8_nearestInCommon_8]
    by_cases c : a = b
    · subst c
      refine ⟨nI a, Or.inl ⟨a, by omega, rfl, ab_an_r, ab_an_r, fun i' h1 _ => ab_an_le ho (a + 1) a i' (by omega) ha h1⟩, ?_⟩
      simp (disch := first | assumption | omega) only [rX8_nearestInCommon, Option.bind_some, Option.toList_some, Option.toList_none, List.cons_append, List.nil_append, fk_b_0, nI_add, Nat.add_zero, Nat.zero_add, not_true_eq_false, not_false_eq_true, if_true, if_false, sI_le_t, sI_le_f, sI_lt_t, sI_lt_f, sI_eq_t, sI_eq_f, sI_rem, sI_div, sI_m1a, sI_m1b, sI_m1c, sI_m1d, sI_m1e, sI_m1f, sI_m2a, sI_m2b, sI_sub, pk_mul, sI_dec, fk_u_s, fk_u_o, sI_dec0, sI_z, sI_md, Bool.false_eq_true, Nat.reduceAdd, Nat.reduceMul, Nat.reduceSub, Nat.reduceMod, Nat.reduceDiv]
    · by_cases c2 : a < b
      · have hB := mX8_hasBeen (N := N) (l := l) (d := d) (j := nI b) (Or.inl rfl) eb
        rw [fk_b_t ⟨nI_le (by omega) (by omega), nI_lt hb (by omega)⟩] at hB
        have hh := n_h (show b < 64 by omega)
        have a2 := (hp.2.2.1 b (by omega) (by rw [ab_ok_n ho]; exact hb)).2.1
        rw [show 33 + 3 + b = 36 + b by omega] at a2
        have nb : ¬ ab_an A a b := fun z => by have := ab_an_le ho (a + 1) a b (by omega) ha z; omega
        rcases ab_par ho hb with ⟨e0, e'⟩ | ⟨q, hq, e1, e2, e3⟩
        · refine ⟨(-2), Or.inr ⟨rfl, fun i' h1 h2 => ?_⟩, ?_⟩
          · rcases ab_an_u.mp h2 with z | z
            · exact nb (z ▸ h1)
            · exact e' z.1
          · simp (disch := first | assumption | omega) only [rX8_nearestInCommon, hB, nc0, a2, e', e0, show (nI 0 ≤ (-2 : Int32)) = False from eq_false (by decide), Option.bind_some, Option.toList_some, Option.toList_none, List.cons_append, List.nil_append, fk_b_0, nI_add, Nat.add_zero, Nat.zero_add, not_true_eq_false, not_false_eq_true, if_true, if_false, sI_le_t, sI_le_f, sI_lt_t, sI_lt_f, sI_eq_t, sI_eq_f, sI_rem, sI_div, sI_m1a, sI_m1b, sI_m1c, sI_m1d, sI_m1e, sI_m1f, sI_m2a, sI_m2b, sI_sub, pk_mul, sI_dec, fk_u_s, fk_u_o, sI_dec0, sI_z, sI_md, Bool.false_eq_true, Nat.reduceAdd, Nat.reduceMul, Nat.reduceSub, Nat.reduceMod, Nat.reduceDiv]
        · obtain ⟨r, g1, g2⟩ := ih a q (up + 1) (by omega) ha (by omega) (by omega) x
          refine ⟨r, ab_NC_sym (ab_NC_congr (a' := q) (fun i hi => ?_) (ab_NC_sym g1)), ?_⟩
          · rw [ab_an_u, e3]
            exact ⟨fun z => by rcases z with z | z; exact absurd (z ▸ hi) nb; exact z.2, fun z => Or.inr ⟨e2, z⟩⟩
          · rw [← g2]
            simp (disch := first | assumption | omega) only [rX8_nearestInCommon, hB, nc0, a2, e1, Option.bind_some, Option.toList_some, Option.toList_none, List.cons_append, List.nil_append, fk_b_0, nI_add, Nat.add_zero, Nat.zero_add, not_true_eq_false, not_false_eq_true, if_true, if_false, sI_le_t, sI_le_f, sI_lt_t, sI_lt_f, sI_eq_t, sI_eq_f, sI_rem, sI_div, sI_m1a, sI_m1b, sI_m1c, sI_m1d, sI_m1e, sI_m1f, sI_m2a, sI_m2b, sI_sub, pk_mul, sI_dec, fk_u_s, fk_u_o, sI_dec0, sI_z, sI_md, Bool.false_eq_true, Nat.reduceAdd, Nat.reduceMul, Nat.reduceSub, Nat.reduceMod, Nat.reduceDiv]
      · have c3 : b < a := by omega
        have hB := mX8_hasBeen (N := N) (l := l) (d := d) (j := nI a) (Or.inl rfl) eb
        rw [fk_b_t ⟨nI_le (by omega) (by omega), nI_lt ha (by omega)⟩] at hB
        have hh := n_h (show a < 64 by omega)
        have a2 := (hp.2.2.1 a (by omega) (by rw [ab_ok_n ho]; exact ha)).2.1
        rw [show 33 + 3 + a = 36 + a by omega] at a2
        have nb : ¬ ab_an A b a := fun z => by have := ab_an_le ho (b + 1) b a (by omega) hb z; omega
        rcases ab_par ho ha with ⟨e0, e'⟩ | ⟨q, hq, e1, e2, e3⟩
        · refine ⟨(-2), Or.inr ⟨rfl, fun i' h1 h2 => ?_⟩, ?_⟩
          · rcases ab_an_u.mp h1 with z | z
            · exact nb (z ▸ h2)
            · exact e' z.1
          · simp (disch := first | assumption | omega) only [rX8_nearestInCommon, hB, nc0, a2, e', e0, show (nI 0 ≤ (-2 : Int32)) = False from eq_false (by decide), Option.bind_some, Option.toList_some, Option.toList_none, List.cons_append, List.nil_append, fk_b_0, nI_add, Nat.add_zero, Nat.zero_add, not_true_eq_false, not_false_eq_true, if_true, if_false, sI_le_t, sI_le_f, sI_lt_t, sI_lt_f, sI_eq_t, sI_eq_f, sI_rem, sI_div, sI_m1a, sI_m1b, sI_m1c, sI_m1d, sI_m1e, sI_m1f, sI_m2a, sI_m2b, sI_sub, pk_mul, sI_dec, fk_u_s, fk_u_o, sI_dec0, sI_z, sI_md, Bool.false_eq_true, Nat.reduceAdd, Nat.reduceMul, Nat.reduceSub, Nat.reduceMod, Nat.reduceDiv]
        · obtain ⟨r, g1, g2⟩ := ih b q (up + 1) (by omega) hb (by omega) (by omega) (.int (nI a))
          refine ⟨r, ab_NC_congr (a' := q) (fun i hi => ?_) (ab_NC_sym g1), ?_⟩
          · rw [ab_an_u, e3]
            exact ⟨fun z => by rcases z with z | z; exact absurd (z ▸ hi) nb; exact z.2, fun z => Or.inr ⟨e2, z⟩⟩
          · rw [← g2]
            simp (disch := first | assumption | omega) only [rX8_nearestInCommon, hB, nc0, a2, e1, Option.bind_some, Option.toList_some, Option.toList_none, List.cons_append, List.nil_append, fk_b_0, nI_add, Nat.add_zero, Nat.zero_add, not_true_eq_false, not_false_eq_true, if_true, if_false, sI_le_t, sI_le_f, sI_lt_t, sI_lt_f, sI_eq_t, sI_eq_f, sI_rem, sI_div, sI_m1a, sI_m1b, sI_m1c, sI_m1d, sI_m1e, sI_m1f, sI_m2a, sI_m2b, sI_sub, pk_mul, sI_dec, fk_u_s, fk_u_o, sI_dec0, sI_z, sI_md, Bool.false_eq_true, Nat.reduceAdd, Nat.reduceMul, Nat.reduceSub, Nat.reduceMod, Nat.reduceDiv]
theorem cl_kin (hR : cR S y) {j o w : Int32} : ∃ a, fk_ev (d + 8) qX11_kin 0 [.ref 1, .int j, .int o, .int w, .null, .null, .null] [] (fk_E N y l) = some (some (.int a), fk_E N y l) ∧ fk_ev (d + 8) qX12_kin 0 [.ref 246, .int j, .int o, .int w, .null, .null, .null] [] (fk_E N y l) = some (some (.int a), fk_E N y l) := by
  obtain ⟨r0, r1, r2, ⟨n, H, p1, p2, p3, p4⟩, r4, r5, r6, r7, r8, r9⟩ := id hR
  have hn := p1.1
  have hm := p1.2.1
  have h8 := n8
  have eb : y 33 2 = nI n := p3.1.1.trans hm
  have hb := mX8_hasBeen (N := N) (l := l) (d := d + 6) (j := j) (Or.inl rfl) eb
  have hi := mX12_isHalf (N := N) (l := l) (d := d + 7) (y := y) (j := j)
  rw [hm] at hi
  by_cases hj : nI 0 ≤ j ∧ j < nI n
  · rw [fk_b_t hj] at hb hi
    obtain ⟨jq1, jq2⟩ := hj; obtain ⟨j, hj, rfl⟩ := fk_ixn jq1 jq2 (by omega)
    rcases fk_3c (w := w) with ⟨w, hw, rfl⟩ | ⟨w1, w2⟩
    · by_cases e2 : w = 2
      · subst e2
        have hbo := mX8_hasBeen (N := N) (l := l) (d := d + 6) (j := o) (Or.inl rfl) eb
        have hio := mX12_isHalf (N := N) (l := l) (d := d + 7) (y := y) (j := o)
        rw [hm] at hio
        by_cases ho : nI 0 ≤ o ∧ o < nI n
        · rw [fk_b_t ho] at hbo hio
          obtain ⟨oq1, oq2⟩ := ho; obtain ⟨o, ho, rfl⟩ := fk_ixn oq1 oq2 (by omega)
          obtain ⟨r, g1, g2⟩ := mX8_near (N := N) (l := l) (d := d + 5) (jj := nI j) (oo := nI o) p1 p3 (j + o + 1) j o 0 (by omega) hj ho (by omega) .null
          obtain ⟨r', g3, g4⟩ := mX12_kin2 (N := N) (l := l) (d := d + 7) (jj := nI j) p1 ho (j + 1) j (by omega) hj (nI 0) (nI j)
          have er := ab_NC_inj g3 g1
          subst er
          refine ⟨r', ?_, ?_⟩
          · have e : fk_ev (d + 7) qX8_nearestInCommon 0 [.ref 33, .int ((nI j)), .int ((nI o)), .null, .null, .null, .null] [] (fk_E N y l) = some (some (.int r'), fk_E N y l) := by
              simp (disch := first | assumption | omega) only [rX8_nearestInCommon, Option.bind_some, Option.toList_some, Option.toList_none, List.cons_append, List.nil_append, fk_b_0, nI_add, Nat.add_zero, Nat.zero_add, not_true_eq_false, not_false_eq_true, if_true, if_false, sI_le_t, sI_le_f, sI_lt_t, sI_lt_f, sI_eq_t, sI_eq_f, sI_rem, sI_div, sI_m1a, sI_m1b, sI_m1c, sI_m1d, sI_m1e, sI_m1f, sI_m2a, sI_m2b, sI_sub, pk_mul, sI_dec, fk_u_s, fk_u_o, sI_dec0, sI_z, sI_md, Bool.false_eq_true, Nat.reduceAdd, Nat.reduceMul, Nat.reduceSub, Nat.reduceMod, Nat.reduceDiv]
              exact g2
            simp (disch := first | assumption | omega) only [rX11_kin, hb, mX11_within, and_self, hbo, e, Option.bind_some, Option.toList_some, Option.toList_none, List.cons_append, List.nil_append, fk_b_0, nI_add, Nat.add_zero, Nat.zero_add, not_true_eq_false, not_false_eq_true, if_true, if_false, sI_le_t, sI_le_f, sI_lt_t, sI_lt_f, sI_eq_t, sI_eq_f, sI_rem, sI_div, sI_m1a, sI_m1b, sI_m1c, sI_m1d, sI_m1e, sI_m1f, sI_m2a, sI_m2b, sI_sub, pk_mul, sI_dec, fk_u_s, fk_u_o, sI_dec0, sI_z, sI_md, Bool.false_eq_true, Nat.reduceAdd, Nat.reduceMul, Nat.reduceSub, Nat.reduceMod, Nat.reduceDiv]
          · simp (disch := first | assumption | omega) only [rX12_kin, hi, mX12_in, and_self, hio, Option.bind_some, Option.toList_some, Option.toList_none, List.cons_append, List.nil_append, fk_b_0, nI_add, Nat.add_zero, Nat.zero_add, not_true_eq_false, not_false_eq_true, if_true, if_false, sI_le_t, sI_le_f, sI_lt_t, sI_lt_f, sI_eq_t, sI_eq_f, sI_rem, sI_div, sI_m1a, sI_m1b, sI_m1c, sI_m1d, sI_m1e, sI_m1f, sI_m2a, sI_m2b, sI_sub, pk_mul, sI_dec, fk_u_s, fk_u_o, sI_dec0, sI_z, sI_md, Bool.false_eq_true, Nat.reduceAdd, Nat.reduceMul, Nat.reduceSub, Nat.reduceMod, Nat.reduceDiv]
            exact g4
        · rw [fk_b_f ho] at hbo hio
          refine ⟨(-1), ?_, ?_⟩
          · simp (disch := first | assumption | omega) only [rX11_kin, hb, mX11_within, and_self, hbo, Option.bind_some, Option.toList_some, Option.toList_none, List.cons_append, List.nil_append, fk_b_0, nI_add, Nat.add_zero, Nat.zero_add, not_true_eq_false, not_false_eq_true, if_true, if_false, sI_le_t, sI_le_f, sI_lt_t, sI_lt_f, sI_eq_t, sI_eq_f, sI_rem, sI_div, sI_m1a, sI_m1b, sI_m1c, sI_m1d, sI_m1e, sI_m1f, sI_m2a, sI_m2b, sI_sub, pk_mul, sI_dec, fk_u_s, fk_u_o, sI_dec0, sI_z, sI_md, Bool.false_eq_true, Nat.reduceAdd, Nat.reduceMul, Nat.reduceSub, Nat.reduceMod, Nat.reduceDiv]
          · simp (disch := first | assumption | omega) only [rX12_kin, hi, mX12_in, and_self, hio, Option.bind_some, Option.toList_some, Option.toList_none, List.cons_append, List.nil_append, fk_b_0, nI_add, Nat.add_zero, Nat.zero_add, not_true_eq_false, not_false_eq_true, if_true, if_false, sI_le_t, sI_le_f, sI_lt_t, sI_lt_f, sI_eq_t, sI_eq_f, sI_rem, sI_div, sI_m1a, sI_m1b, sI_m1c, sI_m1d, sI_m1e, sI_m1f, sI_m2a, sI_m2b, sI_sub, pk_mul, sI_dec, fk_u_s, fk_u_o, sI_dec0, sI_z, sI_md, Bool.false_eq_true, Nat.reduceAdd, Nat.reduceMul, Nat.reduceSub, Nat.reduceMod, Nat.reduceDiv]
      · obtain ⟨s1, s2, s3, s4⟩ := ab_ch_spec p1 64 j (by omega) hj
        obtain ⟨up, _, u1, u2⟩ := s4 (σ := Unit) (fun up m w' _ => fk_ev (d + 8) qX11_kin 60 [.ref 1, .int (nI j), .int o, .int (nI w), .int (nI (1 + m)), .int w', .int (nI up)] [] (fk_E N y l)) (by
          intro up m w' _ hw' hup hc
          try dsimp only
          have hh := n_h (show w' < 64 by omega)
          have a2 := (p3.2.2.1 w' (by omega) (by rw [ab_ok_n p1]; exact hw')).2.1
          rw [show 33 + 3 + w' = 36 + w' by omega] at a2
          have hc' : ¬ y 247 (64 + w') < nI 0 := Int32.not_lt.mpr hc
          rw [hX11_kin_60]
          refine ⟨(), ?_⟩
          simp (disch := first | assumption | omega) only [rX11_kin, nc0, a2, hc', Nat.add_assoc, Option.bind_some, Option.toList_some, Option.toList_none, List.cons_append, List.nil_append, fk_b_0, nI_add, Nat.add_zero, Nat.zero_add, not_true_eq_false, not_false_eq_true, if_true, if_false, sI_le_t, sI_le_f, sI_lt_t, sI_lt_f, sI_eq_t, sI_eq_f, sI_rem, sI_div, sI_m1a, sI_m1b, sI_m1c, sI_m1d, sI_m1e, sI_m1f, sI_m2a, sI_m2b, sI_sub, pk_mul, sI_dec, fk_u_s, fk_u_o, sI_dec0, sI_z, sI_md, Bool.false_eq_true, Nat.reduceAdd, Nat.reduceMul, Nat.reduceSub, Nat.reduceMod, Nat.reduceDiv]) 0 0 () (by omega)
        obtain ⟨_, x', _, v2⟩ := s4 (σ := Int32) (fun up m w' x => fk_ev (d + 8) qX12_kin 41 [.ref 246, .int (nI j), .int o, .int (nI w), .int (nI m), .int x, .int w'] [] (fk_E N y l)) (by
          intro up m w' x hw' hup hc
          try dsimp only
          have hc' : ¬ y 247 (64 + w') < nI 0 := Int32.not_lt.mpr hc
          rw [hX12_kin_41]
          refine ⟨nI w', ?_⟩
          simp (disch := first | assumption | omega) only [rX12_kin, Option.bind_some, Option.toList_some, Option.toList_none, List.cons_append, List.nil_append, fk_b_0, nI_add, Nat.add_zero, Nat.zero_add, not_true_eq_false, not_false_eq_true, if_true, if_false, sI_le_t, sI_le_f, sI_lt_t, sI_lt_f, sI_eq_t, sI_eq_f, sI_rem, sI_div, sI_m1a, sI_m1b, sI_m1c, sI_m1d, sI_m1e, sI_m1f, sI_m2a, sI_m2b, sI_sub, pk_mul, sI_dec, fk_u_s, fk_u_o, sI_dec0, sI_z, sI_md, Bool.false_eq_true, Nat.reduceAdd, Nat.reduceMul, Nat.reduceSub, Nat.reduceMod, Nat.reduceDiv]) 0 0 (nI j) (by omega)
        try dsimp only at u2 v2
        generalize ab_ch (y 247) 64 j = z at s1 s2 s3 u1 u2 v2
        obtain ⟨z1, z2⟩ := z
        try dsimp only at s1 s2 s3 u1 u2 v2
        have hh := n_h (show z2 < 64 by omega)
        have a2 := (p3.2.2.1 z2 (by omega) (by rw [ab_ok_n p1]; omega)).2.1
        rw [show 33 + 3 + z2 = 36 + z2 by omega, s2] at a2
        rw [Nat.zero_add] at u2 v2
        have hw2 : w = 0 ∨ w = 1 := by omega
        refine ⟨if w = 0 then nI (1 + z1) else nI z2, ?_, ?_⟩
        · rcases hw2 with rfl | rfl
          · simp (disch := first | assumption | omega) only [rX11_kin, hb, mX11_within, and_self, Option.bind_some, Option.toList_some, Option.toList_none, List.cons_append, List.nil_append, fk_b_0, nI_add, Nat.add_zero, Nat.zero_add, not_true_eq_false, not_false_eq_true, if_true, if_false, sI_le_t, sI_le_f, sI_lt_t, sI_lt_f, sI_eq_t, sI_eq_f, sI_rem, sI_div, sI_m1a, sI_m1b, sI_m1c, sI_m1d, sI_m1e, sI_m1f, sI_m2a, sI_m2b, sI_sub, pk_mul, sI_dec, fk_u_s, fk_u_o, sI_dec0, sI_z, sI_md, Bool.false_eq_true, Nat.reduceAdd, Nat.reduceMul, Nat.reduceSub, Nat.reduceMod, Nat.reduceDiv]
            rw [u2, hX11_kin_60]
            simp (disch := first | assumption | omega) only [rX11_kin, nc0, a2, show ((-2 : Int32) < nI 0) = True from eq_true (by decide), eq_self, Option.bind_some, Option.toList_some, Option.toList_none, List.cons_append, List.nil_append, fk_b_0, nI_add, Nat.add_zero, Nat.zero_add, not_true_eq_false, not_false_eq_true, if_true, if_false, sI_le_t, sI_le_f, sI_lt_t, sI_lt_f, sI_eq_t, sI_eq_f, sI_rem, sI_div, sI_m1a, sI_m1b, sI_m1c, sI_m1d, sI_m1e, sI_m1f, sI_m2a, sI_m2b, sI_sub, pk_mul, sI_dec, fk_u_s, fk_u_o, sI_dec0, sI_z, sI_md, Bool.false_eq_true, Nat.reduceAdd, Nat.reduceMul, Nat.reduceSub, Nat.reduceMod, Nat.reduceDiv]
          · simp (disch := first | assumption | omega) only [rX11_kin, hb, mX11_within, and_self, Option.bind_some, Option.toList_some, Option.toList_none, List.cons_append, List.nil_append, fk_b_0, nI_add, Nat.add_zero, Nat.zero_add, not_true_eq_false, not_false_eq_true, if_true, if_false, sI_le_t, sI_le_f, sI_lt_t, sI_lt_f, sI_eq_t, sI_eq_f, sI_rem, sI_div, sI_m1a, sI_m1b, sI_m1c, sI_m1d, sI_m1e, sI_m1f, sI_m2a, sI_m2b, sI_sub, pk_mul, sI_dec, fk_u_s, fk_u_o, sI_dec0, sI_z, sI_md, Bool.false_eq_true, Nat.reduceAdd, Nat.reduceMul, Nat.reduceSub, Nat.reduceMod, Nat.reduceDiv]
            rw [u2, hX11_kin_60]
            simp (disch := first | assumption | omega) only [rX11_kin, nc0, a2, show ((-2 : Int32) < nI 0) = True from eq_true (by decide), show ((1 : Nat) = 0) = False from eq_false (by decide), Option.bind_some, Option.toList_some, Option.toList_none, List.cons_append, List.nil_append, fk_b_0, nI_add, Nat.add_zero, Nat.zero_add, not_true_eq_false, not_false_eq_true, if_true, if_false, sI_le_t, sI_le_f, sI_lt_t, sI_lt_f, sI_eq_t, sI_eq_f, sI_rem, sI_div, sI_m1a, sI_m1b, sI_m1c, sI_m1d, sI_m1e, sI_m1f, sI_m2a, sI_m2b, sI_sub, pk_mul, sI_dec, fk_u_s, fk_u_o, sI_dec0, sI_z, sI_md, Bool.false_eq_true, Nat.reduceAdd, Nat.reduceMul, Nat.reduceSub, Nat.reduceMod, Nat.reduceDiv]
        · rcases hw2 with rfl | rfl
          · simp (disch := first | assumption | omega) only [rX12_kin, hi, mX12_in, and_self, Option.bind_some, Option.toList_some, Option.toList_none, List.cons_append, List.nil_append, fk_b_0, nI_add, Nat.add_zero, Nat.zero_add, not_true_eq_false, not_false_eq_true, if_true, if_false, sI_le_t, sI_le_f, sI_lt_t, sI_lt_f, sI_eq_t, sI_eq_f, sI_rem, sI_div, sI_m1a, sI_m1b, sI_m1c, sI_m1d, sI_m1e, sI_m1f, sI_m2a, sI_m2b, sI_sub, pk_mul, sI_dec, fk_u_s, fk_u_o, sI_dec0, sI_z, sI_md, Bool.false_eq_true, Nat.reduceAdd, Nat.reduceMul, Nat.reduceSub, Nat.reduceMod, Nat.reduceDiv]
            rw [v2, hX12_kin_41]
            simp (disch := first | assumption | omega) only [rX12_kin, s2, Option.bind_some, Option.toList_some, Option.toList_none, List.cons_append, List.nil_append, fk_b_0, nI_add, Nat.add_zero, Nat.zero_add, not_true_eq_false, not_false_eq_true, if_true, if_false, sI_le_t, sI_le_f, sI_lt_t, sI_lt_f, sI_eq_t, sI_eq_f, sI_rem, sI_div, sI_m1a, sI_m1b, sI_m1c, sI_m1d, sI_m1e, sI_m1f, sI_m2a, sI_m2b, sI_sub, pk_mul, sI_dec, fk_u_s, fk_u_o, sI_dec0, sI_z, sI_md, Bool.false_eq_true, Nat.reduceAdd, Nat.reduceMul, Nat.reduceSub, Nat.reduceMod, Nat.reduceDiv]
            rw [hX12_kin_41]
            simp (disch := first | assumption | omega) only [rX12_kin, show ((-2 : Int32) < nI 0) = True from eq_true (by decide), eq_self, Nat.add_comm 1 z1, Option.bind_some, Option.toList_some, Option.toList_none, List.cons_append, List.nil_append, fk_b_0, nI_add, Nat.add_zero, Nat.zero_add, not_true_eq_false, not_false_eq_true, if_true, if_false, sI_le_t, sI_le_f, sI_lt_t, sI_lt_f, sI_eq_t, sI_eq_f, sI_rem, sI_div, sI_m1a, sI_m1b, sI_m1c, sI_m1d, sI_m1e, sI_m1f, sI_m2a, sI_m2b, sI_sub, pk_mul, sI_dec, fk_u_s, fk_u_o, sI_dec0, sI_z, sI_md, Bool.false_eq_true, Nat.reduceAdd, Nat.reduceMul, Nat.reduceSub, Nat.reduceMod, Nat.reduceDiv]
          · simp (disch := first | assumption | omega) only [rX12_kin, hi, mX12_in, and_self, Option.bind_some, Option.toList_some, Option.toList_none, List.cons_append, List.nil_append, fk_b_0, nI_add, Nat.add_zero, Nat.zero_add, not_true_eq_false, not_false_eq_true, if_true, if_false, sI_le_t, sI_le_f, sI_lt_t, sI_lt_f, sI_eq_t, sI_eq_f, sI_rem, sI_div, sI_m1a, sI_m1b, sI_m1c, sI_m1d, sI_m1e, sI_m1f, sI_m2a, sI_m2b, sI_sub, pk_mul, sI_dec, fk_u_s, fk_u_o, sI_dec0, sI_z, sI_md, Bool.false_eq_true, Nat.reduceAdd, Nat.reduceMul, Nat.reduceSub, Nat.reduceMod, Nat.reduceDiv]
            rw [v2, hX12_kin_41]
            simp (disch := first | assumption | omega) only [rX12_kin, s2, Option.bind_some, Option.toList_some, Option.toList_none, List.cons_append, List.nil_append, fk_b_0, nI_add, Nat.add_zero, Nat.zero_add, not_true_eq_false, not_false_eq_true, if_true, if_false, sI_le_t, sI_le_f, sI_lt_t, sI_lt_f, sI_eq_t, sI_eq_f, sI_rem, sI_div, sI_m1a, sI_m1b, sI_m1c, sI_m1d, sI_m1e, sI_m1f, sI_m2a, sI_m2b, sI_sub, pk_mul, sI_dec, fk_u_s, fk_u_o, sI_dec0, sI_z, sI_md, Bool.false_eq_true, Nat.reduceAdd, Nat.reduceMul, Nat.reduceSub, Nat.reduceMod, Nat.reduceDiv]
            rw [hX12_kin_41]
            simp (disch := first | assumption | omega) only [rX12_kin, show ((-2 : Int32) < nI 0) = True from eq_true (by decide), show ((1 : Nat) = 0) = False from eq_false (by decide), Option.bind_some, Option.toList_some, Option.toList_none, List.cons_append, List.nil_append, fk_b_0, nI_add, Nat.add_zero, Nat.zero_add, not_true_eq_false, not_false_eq_true, if_true, if_false, sI_le_t, sI_le_f, sI_lt_t, sI_lt_f, sI_eq_t, sI_eq_f, sI_rem, sI_div, sI_m1a, sI_m1b, sI_m1c, sI_m1d, sI_m1e, sI_m1f, sI_m2a, sI_m2b, sI_sub, pk_mul, sI_dec, fk_u_s, fk_u_o, sI_dec0, sI_z, sI_md, Bool.false_eq_true, Nat.reduceAdd, Nat.reduceMul, Nat.reduceSub, Nat.reduceMod, Nat.reduceDiv]
    · refine ⟨(-1), ?_, ?_⟩
      · simp (disch := first | assumption | omega) only [rX11_kin, hb, mX11_within, w1, Option.bind_some, Option.toList_some, Option.toList_none, List.cons_append, List.nil_append, fk_b_0, nI_add, Nat.add_zero, Nat.zero_add, not_true_eq_false, not_false_eq_true, if_true, if_false, sI_le_t, sI_le_f, sI_lt_t, sI_lt_f, sI_eq_t, sI_eq_f, sI_rem, sI_div, sI_m1a, sI_m1b, sI_m1c, sI_m1d, sI_m1e, sI_m1f, sI_m2a, sI_m2b, sI_sub, pk_mul, sI_dec, fk_u_s, fk_u_o, sI_dec0, sI_z, sI_md, Bool.false_eq_true, Nat.reduceAdd, Nat.reduceMul, Nat.reduceSub, Nat.reduceMod, Nat.reduceDiv]
      · simp (disch := first | assumption | omega) only [rX12_kin, hi, mX12_in, w2, Option.bind_some, Option.toList_some, Option.toList_none, List.cons_append, List.nil_append, fk_b_0, nI_add, Nat.add_zero, Nat.zero_add, not_true_eq_false, not_false_eq_true, if_true, if_false, sI_le_t, sI_le_f, sI_lt_t, sI_lt_f, sI_eq_t, sI_eq_f, sI_rem, sI_div, sI_m1a, sI_m1b, sI_m1c, sI_m1d, sI_m1e, sI_m1f, sI_m2a, sI_m2b, sI_sub, pk_mul, sI_dec, fk_u_s, fk_u_o, sI_dec0, sI_z, sI_md, Bool.false_eq_true, Nat.reduceAdd, Nat.reduceMul, Nat.reduceSub, Nat.reduceMod, Nat.reduceDiv]
  · rw [fk_b_f hj] at hb hi
    refine ⟨(-1), ?_, ?_⟩
    · simp (disch := first | assumption | omega) only [rX11_kin, hb, Option.bind_some, Option.toList_some, Option.toList_none, List.cons_append, List.nil_append, fk_b_0, nI_add, Nat.add_zero, Nat.zero_add, not_true_eq_false, not_false_eq_true, if_true, if_false, sI_le_t, sI_le_f, sI_lt_t, sI_lt_f, sI_eq_t, sI_eq_f, sI_rem, sI_div, sI_m1a, sI_m1b, sI_m1c, sI_m1d, sI_m1e, sI_m1f, sI_m2a, sI_m2b, sI_sub, pk_mul, sI_dec, fk_u_s, fk_u_o, sI_dec0, sI_z, sI_md, Bool.false_eq_true, Nat.reduceAdd, Nat.reduceMul, Nat.reduceSub, Nat.reduceMod, Nat.reduceDiv]
    · simp (disch := first | assumption | omega) only [rX12_kin, hi, Option.bind_some, Option.toList_some, Option.toList_none, List.cons_append, List.nil_append, fk_b_0, nI_add, Nat.add_zero, Nat.zero_add, not_true_eq_false, not_false_eq_true, if_true, if_false, sI_le_t, sI_le_f, sI_lt_t, sI_lt_f, sI_eq_t, sI_eq_f, sI_rem, sI_div, sI_m1a, sI_m1b, sI_m1c, sI_m1d, sI_m1e, sI_m1f, sI_m2a, sI_m2b, sI_sub, pk_mul, sI_dec, fk_u_s, fk_u_o, sI_dec0, sI_z, sI_md, Bool.false_eq_true, Nat.reduceAdd, Nat.reduceMul, Nat.reduceSub, Nat.reduceMod, Nat.reduceDiv]
end KIN
