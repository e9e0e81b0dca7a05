section FKS
variable {N : Nat} {S : Nat → Int32} {v y y0 y1 y2 z : Nat → Nat → Int32} {l l' : Nat → Nat → Int64} {d p p' n H t c k m h : Nat} {T : Nat → Int64}
/-- by how many roads one goes on -/
def ab_fs (v : Nat → Nat → Int32) (T : Nat → Int64) (h p k : Nat) : Int64 := fk_it (fun r s => if ab_rd v r (nI p) then s + (if h ≤ (v 252 r).toNatClampNeg then 1 else T (16 * (h - (v 252 r).toNatClampNeg) + (v 251 r).toNatClampNeg)) else s) 0 k 0
theorem ab_fs_s : ab_fs v T h p (k + 1) = if ab_rd v k (nI p) then ab_fs v T h p k + (if h ≤ (v 252 k).toNatClampNeg then 1 else T (16 * (h - (v 252 k).toNatClampNeg) + (v 251 k).toNatClampNeg)) else ab_fs v T h p k := by
  unfold ab_fs
  rw [fk_it_succ, Nat.zero_add]
noncomputable def ab_fv (v : Nat → Nat → Int32) (T : Nat → Int64) (h p : Nat) : Int64 := @ite Int64 (h = 0 ∨ ∀ r, r < 32 → ¬ ab_rd v r (nI p)) (Classical.propDecidable _) 1 (ab_fs v T h p 32)
noncomputable def ab_TB (v : Nat → Nat → Int32) (k : Nat) : Nat → Int64 := fk_it (fun i T => fun j => if j = i then ab_fv v T (i / 16) (i % 16) else T j) 0 k (fun _ => 0)
theorem ab_TB_s {j : Nat} : ab_TB v (k + 1) j = if j = k then ab_fv v (ab_TB v k) (k / 16) (k % 16) else ab_TB v k j := by
  unfold ab_TB
  rw [fk_it_succ, Nat.zero_add]
theorem mX5_forkedOnce (hv : ab_rv v) (hN : ck_nt v y) (hp : p < 16) (h1 : 1 ≤ h) (h2 : h ≤ 60) (hT : ∀ j, j < 16 * h → l 25 j = T j) : fk_ev d qX5_forkedOnce 0 [.ref 18, .int ((nI p)), .int ((nI h)), .null, .null, .null, .null] [] (fk_E N y l) = some (some (.long ((ab_fs v T h p 32))), fk_E N y l) := by
  have key := fk_loopr (σ := Int64 × Value) (fun k s => fk_ev d qX5_forkedOnce 5 [.ref 18, .int (nI p), .int (nI h), .long s.1, .null, .int (nI k), s.2] [] (fk_E N y l)) (fun k s => s.1 = ab_fs v T h p k) 32 (by
    rintro k ⟨s, x⟩ hk i1
    try dsimp only at i1 ⊢
    rw [hX5_forkedOnce_5]
    by_cases c : ab_rd v k (nI p)
    · obtain ⟨n1, n2, n3⟩ := hN.1 k hk c.1
      obtain ⟨_, ⟨q, hq, eq⟩, ⟨g, hg1, hg9, eg⟩⟩ := hv.1 k hk c.1
      have e19 : y 19 k = nI p := n1.trans c.2
      have e20 : y 20 k = nI q := n2.trans eq
      have e21 : y 21 k = nI g := n3.trans eg
      have st := ab_fs_s (v := v) (T := T) (h := h) (p := p) (k := k)
      rw [if_pos c, ← i1, eq, eg, nI_clamp (by omega), nI_clamp (by omega)] at st
      by_cases c2 : h ≤ g
      · rw [if_pos c2] at st
        have z : ¬ nI 0 < nI h - nI g := by
          rw [Int32.lt_iff_toInt_lt, nI_subI (by omega) (by omega), fk_toInt_nI (by omega)]
          omega
        refine ⟨(s + 1, .int (nI h - nI g)), ?_, st.symm⟩
        simp (disch := first | assumption | omega) only [rX5_forkedOnce, e19, e21, z, sI_le_f, not_true_eq_false, if_false, if_true, nI_add]
      · rw [if_neg c2] at st
        have rd := hT ((h - g) * 16 + q) (by omega)
        refine ⟨(s + T (16 * (h - g) + q), .int (nI (h - g))), ?_, st.symm⟩
        simp (disch := first | assumption | omega) only [rX5_forkedOnce, e19, e21, e20, rd, Option.bind_some, Option.toList_some, Option.toList_none, List.cons_append, List.nil_append, fk_b_0, nI_add, Nat.add_zero, Nat.zero_add, not_true_eq_false, not_false_eq_true, if_true, if_false, sI_le_t, sI_le_f, sI_lt_t, sI_lt_f, sI_eq_t, sI_eq_f, sI_rem, sI_div, sI_m1a, sI_m1b, sI_m1c, sI_m1d, sI_m1e, sI_m1f, sI_m2a, sI_m2b, sI_sub, pk_mul, sI_dec, fk_u_s, fk_u_o, sI_dec0, sI_z, sI_md, Bool.false_eq_true, Nat.reduceAdd, Nat.reduceMul, Nat.reduceSub, Nat.reduceMod, Nat.reduceDiv]
        rw [Nat.mul_comm 16 (h - g)]
    · have e19 : ¬ y 19 k = nI p := fun z => by
        by_cases ct : fk_tb (v 246 3) k = true
        · exact c ⟨ct, (hN.1 k hk ct).1.symm.trans z⟩
        · rw [hN.2.1 k hk ct] at z
          exact absurd z (by rw [sI_m1b (by omega)]; exact id)
      refine ⟨(s, x), ?_, by rw [ab_fs_s, if_neg c]; exact i1⟩
      simp (disch := first | assumption | omega) only [rX5_forkedOnce, e19, Option.bind_some, Option.toList_some, Option.toList_none, List.cons_append, List.nil_append, fk_b_0, nI_add, Nat.add_zero, Nat.zero_add, not_true_eq_false, not_false_eq_true, if_true, if_false, sI_le_t, sI_le_f, sI_lt_t, sI_lt_f, sI_eq_t, sI_eq_f, sI_rem, sI_div, sI_m1a, sI_m1b, sI_m1c, sI_m1d, sI_m1e, sI_m1f, sI_m2a, sI_m2b, sI_sub, pk_mul, sI_dec, fk_u_s, fk_u_o, sI_dec0, sI_z, sI_md, Bool.false_eq_true, Nat.reduceAdd, Nat.reduceMul, Nat.reduceSub, Nat.reduceMod, Nat.reduceDiv]) 32 0 (0, .null) rfl rfl
  obtain ⟨⟨s, x⟩, e, i1⟩ := key
  try dsimp only at e i1
  simp (disch := first | assumption | omega) only [rX5_forkedOnce, Option.bind_some, Option.toList_some, Option.toList_none, List.cons_append, List.nil_append, fk_b_0, nI_add, Nat.add_zero, Nat.zero_add, not_true_eq_false, not_false_eq_true, if_true, if_false, sI_le_t, sI_le_f, sI_lt_t, sI_lt_f, sI_eq_t, sI_eq_f, sI_rem, sI_div, sI_m1a, sI_m1b, sI_m1c, sI_m1d, sI_m1e, sI_m1f, sI_m2a, sI_m2b, sI_sub, pk_mul, sI_dec, fk_u_s, fk_u_o, sI_dec0, sI_z, sI_md, Bool.false_eq_true, Nat.reduceAdd, Nat.reduceMul, Nat.reduceSub, Nat.reduceMod, Nat.reduceDiv]
  rw [e, hX5_forkedOnce_5]
  simp (disch := first | assumption | omega) only [rX5_forkedOnce, Option.bind_some, Option.toList_some, Option.toList_none, List.cons_append, List.nil_append, fk_b_0, nI_add, Nat.add_zero, Nat.zero_add, not_true_eq_false, not_false_eq_true, if_true, if_false, sI_le_t, sI_le_f, sI_lt_t, sI_lt_f, sI_eq_t, sI_eq_f, sI_rem, sI_div, sI_m1a, sI_m1b, sI_m1c, sI_m1d, sI_m1e, sI_m1f, sI_m2a, sI_m2b, sI_sub, pk_mul, sI_dec, fk_u_s, fk_u_o, sI_dec0, sI_z, sI_md, Bool.false_eq_true, Nat.reduceAdd, Nat.reduceMul, Nat.reduceSub, Nat.reduceMod, Nat.reduceDiv]
  rw [i1]
theorem ck_nt_0 (hv : ab_rv v) (hN : ck_nt v y) (hp : p < 16) : y 24 p = nI 0 ↔ ∀ r, r < 32 → ¬ ab_rd v r (nI p) := by
  constructor
  · intro h r hr hd
    obtain ⟨_, ⟨q, hq, eq⟩, _⟩ := hv.1 r hr hd.1
    have := (ck_nt_E hN hp).mpr ⟨hp, hq, r, hr, hd.1, hd.2, eq⟩
    rw [h, fk_tb_0] at this
    exact absurd this (by decide)
  · intro h
    refine Classical.byContradiction fun z => ?_
    obtain ⟨q, hq⟩ := fk_nz z
    obtain ⟨_, _, r, h1, h2, h3, _⟩ := (ck_nt_E hN hp).mp hq
    exact h r h1 ⟨h2, h3⟩
theorem mX5_forked_row (hv : ab_rv v) (hN : ck_nt v y) {pl nn : Int32} (h2 : h ≤ 60) (hl : ∀ j, j < 16 * h → l 25 j = ab_TB v (16 * h) j) : ∃ l', fk_ev (d + 1) qX5_forked 32 [.ref 18, .int pl, .int nn, .int (nI h), .int (nI 0)] [] (fk_E N y l) = fk_ev (d + 1) qX5_forked 32 [.ref 18, .int pl, .int nn, .int (nI h), .int (nI 16)] [] (fk_E N y l') ∧ ∀ j, j < 16 * h + 16 → l' 25 j = ab_TB v (16 * h + 16) j := by
  have key := fk_loopr (σ := Nat → Nat → Int64) (fun k s => fk_ev (d + 1) qX5_forked 32 [.ref 18, .int pl, .int nn, .int (nI h), .int (nI k)] [] (fk_E N y s)) (fun k s => ∀ j, j < 16 * h + k → s 25 j = ab_TB v (16 * h + k) j) 16 (by
    intro k s hk i1
    try dsimp only
    have hdiv : (16 * h + k) / 16 = h := by omega
    have hmod : (16 * h + k) % 16 = k := by omega
    refine ⟨fk_ul s 25 (h * 16 + k) (ab_fv v (ab_TB v (16 * h + k)) h k), ?_, fun j hj => ?_⟩
    · rw [hX5_forked_32]
      unfold ab_fv
      by_cases c0 : h = 0
      · subst c0
        rw [if_pos (Or.inl rfl)]
        simp (disch := first | assumption | omega) only [rX5_forked, Option.bind_some, Option.toList_some, Option.toList_none, List.cons_append, List.nil_append, fk_b_0, nI_add, Nat.add_zero, Nat.zero_add, not_true_eq_false, not_false_eq_true, if_true, if_false, sI_le_t, sI_le_f, sI_lt_t, sI_lt_f, sI_eq_t, sI_eq_f, sI_rem, sI_div, sI_m1a, sI_m1b, sI_m1c, sI_m1d, sI_m1e, sI_m1f, sI_m2a, sI_m2b, sI_sub, pk_mul, sI_dec, fk_u_s, fk_u_o, sI_dec0, sI_z, sI_md, Bool.false_eq_true, Nat.reduceAdd, Nat.reduceMul, Nat.reduceSub, Nat.reduceMod, Nat.reduceDiv]
      · by_cases c : ∀ r, r < 32 → ¬ ab_rd v r (nI k)
        · have e0 := (ck_nt_0 hv hN hk).mpr c
          rw [if_pos (Or.inr c)]
          simp (disch := first | assumption | omega) only [rX5_forked, e0, Option.bind_some, Option.toList_some, Option.toList_none, List.cons_append, List.nil_append, fk_b_0, nI_add, Nat.add_zero, Nat.zero_add, not_true_eq_false, not_false_eq_true, if_true, if_false, sI_le_t, sI_le_f, sI_lt_t, sI_lt_f, sI_eq_t, sI_eq_f, sI_rem, sI_div, sI_m1a, sI_m1b, sI_m1c, sI_m1d, sI_m1e, sI_m1f, sI_m2a, sI_m2b, sI_sub, pk_mul, sI_dec, fk_u_s, fk_u_o, sI_dec0, sI_z, sI_md, Bool.false_eq_true, Nat.reduceAdd, Nat.reduceMul, Nat.reduceSub, Nat.reduceMod, Nat.reduceDiv]
        · have e0 : ¬ y 24 k = nI 0 := fun z => c ((ck_nt_0 hv hN hk).mp z)
          rw [if_neg fun z => by rcases z with z | z; exact c0 z; exact c z]
          have fo := mX5_forkedOnce (N := N) (d := d) (l := s) (T := ab_TB v (16 * h + k)) (h := h) hv hN hk (by omega) h2 fun j hj => i1 j (by omega)
          simp (disch := first | assumption | omega) only [rX5_forked, e0, fo, Option.bind_some, Option.toList_some, Option.toList_none, List.cons_append, List.nil_append, fk_b_0, nI_add, Nat.add_zero, Nat.zero_add, not_true_eq_false, not_false_eq_true, if_true, if_false, sI_le_t, sI_le_f, sI_lt_t, sI_lt_f, sI_eq_t, sI_eq_f, sI_rem, sI_div, sI_m1a, sI_m1b, sI_m1c, sI_m1d, sI_m1e, sI_m1f, sI_m2a, sI_m2b, sI_sub, pk_mul, sI_dec, fk_u_s, fk_u_o, sI_dec0, sI_z, sI_md, Bool.false_eq_true, Nat.reduceAdd, Nat.reduceMul, Nat.reduceSub, Nat.reduceMod, Nat.reduceDiv]
    · rw [show 16 * h + (k + 1) = 16 * h + k + 1 by omega, ab_TB_s, hdiv, hmod]
      by_cases e : j = 16 * h + k
      · subst e
        rw [if_pos rfl, Nat.mul_comm h 16, fk_ul_s]
      · rw [if_neg e, fk_ul_o (by omega)]
        exact i1 j (by omega)) 16 0 l rfl hl
  exact key
theorem mX5_forked (hv : ab_rv v) (hN : ck_nt v y) (hp : p < 16) (hn : n ≤ 60) : ∃ l', fk_ev (d + 1) qX5_forked 0 [.ref 18, .int ((nI p)), .int ((nI n)), .null, .null] [] (fk_E N y l) = some (some (.long ((ab_TB v (16 * (n + 1)) (16 * n + p)))), fk_E N y l') := by
  have key := fk_loopr (σ := (Nat → Nat → Int64) × Value) (fun k s => fk_ev (d + 1) qX5_forked 24 [.ref 18, .int (nI p), .int (nI n), .int (nI k), s.2] [] (fk_E N y s.1)) (fun k s => ∀ j, j < 16 * k → s.1 25 j = ab_TB v (16 * k) j) (n + 1) (by
    rintro k ⟨s, x⟩ hk i1
    try dsimp only at i1 ⊢
    obtain ⟨l', e, i2⟩ := mX5_forked_row (N := N) (d := d) (pl := nI p) (nn := nI n) hv hN (show k ≤ 60 by omega) i1
    refine ⟨(l', .int (nI 16)), ?_, fun j hj => i2 j hj⟩
    rw [hX5_forked_24]
    simp (disch := first | assumption | omega) only [rX5_forked, Option.bind_some, Option.toList_some, Option.toList_none, List.cons_append, List.nil_append, fk_b_0, nI_add, Nat.add_zero, Nat.zero_add, not_true_eq_false, not_false_eq_true, if_true, if_false, sI_le_t, sI_le_f, sI_lt_t, sI_lt_f, sI_eq_t, sI_eq_f, sI_rem, sI_div, sI_m1a, sI_m1b, sI_m1c, sI_m1d, sI_m1e, sI_m1f, sI_m2a, sI_m2b, sI_sub, pk_mul, sI_dec, fk_u_s, fk_u_o, sI_dec0, sI_z, sI_md, Bool.false_eq_true, Nat.reduceAdd, Nat.reduceMul, Nat.reduceSub, Nat.reduceMod, Nat.reduceDiv]
    rw [e, hX5_forked_32]
    simp (disch := first | assumption | omega) only [rX5_forked, Option.bind_some, Option.toList_some, Option.toList_none, List.cons_append, List.nil_append, fk_b_0, nI_add, Nat.add_zero, Nat.zero_add, not_true_eq_false, not_false_eq_true, if_true, if_false, sI_le_t, sI_le_f, sI_lt_t, sI_lt_f, sI_eq_t, sI_eq_f, sI_rem, sI_div, sI_m1a, sI_m1b, sI_m1c, sI_m1d, sI_m1e, sI_m1f, sI_m2a, sI_m2b, sI_sub, pk_mul, sI_dec, fk_u_s, fk_u_o, sI_dec0, sI_z, sI_md, Bool.false_eq_true, Nat.reduceAdd, Nat.reduceMul, Nat.reduceSub, Nat.reduceMod, Nat.reduceDiv]) (n + 1) 0 (l, .null) (Nat.zero_add _) fun j hj => by omega
  obtain ⟨⟨l', x⟩, e, i1⟩ := key
  try dsimp only at e i1
  refine ⟨l', ?_⟩
  have rd := i1 (n * 16 + p) (by omega)
  simp (disch := first | assumption | omega) only [rX5_forked, mX11_within, and_self, Option.bind_some, Option.toList_some, Option.toList_none, List.cons_append, List.nil_append, fk_b_0, nI_add, Nat.add_zero, Nat.zero_add, not_true_eq_false, not_false_eq_true, if_true, if_false, sI_le_t, sI_le_f, sI_lt_t, sI_lt_f, sI_eq_t, sI_eq_f, sI_rem, sI_div, sI_m1a, sI_m1b, sI_m1c, sI_m1d, sI_m1e, sI_m1f, sI_m2a, sI_m2b, sI_sub, pk_mul, sI_dec, fk_u_s, fk_u_o, sI_dec0, sI_z, sI_md, Bool.false_eq_true, Nat.reduceAdd, Nat.reduceMul, Nat.reduceSub, Nat.reduceMod, Nat.reduceDiv]
  rw [e, hX5_forked_24]
  simp (disch := first | assumption | omega) only [rX5_forked, rd, Option.bind_some, Option.toList_some, Option.toList_none, List.cons_append, List.nil_append, fk_b_0, nI_add, Nat.add_zero, Nat.zero_add, not_true_eq_false, not_false_eq_true, if_true, if_false, sI_le_t, sI_le_f, sI_lt_t, sI_lt_f, sI_eq_t, sI_eq_f, sI_rem, sI_div, sI_m1a, sI_m1b, sI_m1c, sI_m1d, sI_m1e, sI_m1f, sI_m2a, sI_m2b, sI_sub, pk_mul, sI_dec, fk_u_s, fk_u_o, sI_dec0, sI_z, sI_md, Bool.false_eq_true, Nat.reduceAdd, Nat.reduceMul, Nat.reduceSub, Nat.reduceMod, Nat.reduceDiv]
  rw [Nat.mul_comm n 16]
theorem mX12_bf_roads (hv : ab_rv y) {pl nn : Int32} (hp : p < 16) (h2 : h ≤ 60) (hT : ∀ j, j < 16 * h → l 270 j = T j) {x : Value} : ∃ st : Int32, ((st = nI 0 ∧ ¬ ∀ r, r < 32 → ¬ ab_rd y r (nI p)) ∨ (st = nI 1 ∧ ∀ r, r < 32 → ¬ ab_rd y r (nI p))) ∧ fk_ev (d + 2) qX12_byForks 47 [.ref 246, .int pl, .int nn, .int (nI h), .int (nI p), .long 0, .null, .int (nI 1), .int (nI 0)] [] (fk_E N y l) = fk_ev (d + 2) qX12_byForks 47 [.ref 246, .int pl, .int nn, .int (nI h), .int (nI p), .long (ab_fs y T h p 32), .null, .int st, .int (nI 32)] [] (fk_E N y l) := by
  have key := fk_loopr (σ := Int64 × Int32) (fun k s => fk_ev (d + 2) qX12_byForks 47 [.ref 246, .int pl, .int nn, .int (nI h), .int (nI p), .long s.1, .null, .int s.2, .int (nI k)] [] (fk_E N y l)) (fun k s => s.1 = ab_fs y T h p k ∧ ((s.2 = nI 0 ∧ ¬ ∀ r, r < k → ¬ ab_rd y r (nI p)) ∨ (s.2 = nI 1 ∧ ∀ r, r < k → ¬ ab_rd y r (nI p)))) 32 (by
    rintro k ⟨s, b⟩ hk ⟨i1, i2⟩
    try dsimp only at i1 i2 ⊢
    have hr := mX12_isRoadN (N := N) (l := l) (d := d) (y := y) hk
    rw [hX12_byForks_47]
    by_cases c : ab_rd y k (nI p)
    · rw [fk_b_t c.1] at hr
      obtain ⟨_, ⟨q, hq, eq⟩, ⟨g, hg1, hg9, eg⟩⟩ := hv.1 k hk c.1
      have st := ab_fs_s (v := y) (T := T) (h := h) (p := p) (k := k)
      rw [if_pos c, ← i1, eq, eg, nI_clamp (by omega), nI_clamp (by omega)] at st
      have nx : ¬ ∀ r, r < k + 1 → ¬ ab_rd y r (nI p) := fun z => z k (by omega) c
      have e250 := c.2
      by_cases c2 : h ≤ g
      · rw [if_pos c2] at st
        refine ⟨(s + 1, nI 0), ?_, st.symm, Or.inl ⟨rfl, nx⟩⟩
        simp (disch := first | assumption | omega) only [rX12_byForks, hr, e250, eg, Option.bind_some, Option.toList_some, Option.toList_none, List.cons_append, List.nil_append, fk_b_0, nI_add, Nat.add_zero, Nat.zero_add, not_true_eq_false, not_false_eq_true, if_true, if_false, sI_le_t, sI_le_f, sI_lt_t, sI_lt_f, sI_eq_t, sI_eq_f, sI_rem, sI_div, sI_m1a, sI_m1b, sI_m1c, sI_m1d, sI_m1e, sI_m1f, sI_m2a, sI_m2b, sI_sub, pk_mul, sI_dec, fk_u_s, fk_u_o, sI_dec0, sI_z, sI_md, Bool.false_eq_true, Nat.reduceAdd, Nat.reduceMul, Nat.reduceSub, Nat.reduceMod, Nat.reduceDiv]
      · rw [if_neg c2] at st
        have rd := hT (16 * (h - g) + q) (by omega)
        refine ⟨(s + T (16 * (h - g) + q), nI 0), ?_, st.symm, Or.inl ⟨rfl, nx⟩⟩
        simp (disch := first | assumption | omega) only [rX12_byForks, hr, e250, eg, eq, rd, Option.bind_some, Option.toList_some, Option.toList_none, List.cons_append, List.nil_append, fk_b_0, nI_add, Nat.add_zero, Nat.zero_add, not_true_eq_false, not_false_eq_true, if_true, if_false, sI_le_t, sI_le_f, sI_lt_t, sI_lt_f, sI_eq_t, sI_eq_f, sI_rem, sI_div, sI_m1a, sI_m1b, sI_m1c, sI_m1d, sI_m1e, sI_m1f, sI_m2a, sI_m2b, sI_sub, pk_mul, sI_dec, fk_u_s, fk_u_o, sI_dec0, sI_z, sI_md, Bool.false_eq_true, Nat.reduceAdd, Nat.reduceMul, Nat.reduceSub, Nat.reduceMod, Nat.reduceDiv]
    · have keep : (b = nI 0 ∧ ¬ ∀ r, r < k + 1 → ¬ ab_rd y r (nI p)) ∨ (b = nI 1 ∧ ∀ r, r < k + 1 → ¬ ab_rd y r (nI p)) := by
        rcases i2 with ⟨h1, h3⟩ | ⟨h1, h3⟩
        · exact Or.inl ⟨h1, fun z => h3 fun r hr => z r (by omega)⟩
        · refine Or.inr ⟨h1, fun r hr => ?_⟩
          by_cases e : r = k
          · subst e; exact c
          · exact h3 r (by omega)
      refine ⟨(s, b), ?_, by rw [ab_fs_s, if_neg c]; exact i1, keep⟩
      by_cases ct : fk_tb (y 246 3) k = true
      · rw [fk_b_t ct] at hr
        have e250 : ¬ y 250 k = nI p := fun z => c ⟨ct, z⟩
        simp (disch := first | assumption | omega) only [rX12_byForks, hr, e250, Option.bind_some, Option.toList_some, Option.toList_none, List.cons_append, List.nil_append, fk_b_0, nI_add, Nat.add_zero, Nat.zero_add, not_true_eq_false, not_false_eq_true, if_true, if_false, sI_le_t, sI_le_f, sI_lt_t, sI_lt_f, sI_eq_t, sI_eq_f, sI_rem, sI_div, sI_m1a, sI_m1b, sI_m1c, sI_m1d, sI_m1e, sI_m1f, sI_m2a, sI_m2b, sI_sub, pk_mul, sI_dec, fk_u_s, fk_u_o, sI_dec0, sI_z, sI_md, Bool.false_eq_true, Nat.reduceAdd, Nat.reduceMul, Nat.reduceSub, Nat.reduceMod, Nat.reduceDiv]
      · rw [fk_b_f ct] at hr
        simp (disch := first | assumption | omega) only [rX12_byForks, hr, Option.bind_some, Option.toList_some, Option.toList_none, List.cons_append, List.nil_append, fk_b_0, nI_add, Nat.add_zero, Nat.zero_add, not_true_eq_false, not_false_eq_true, if_true, if_false, sI_le_t, sI_le_f, sI_lt_t, sI_lt_f, sI_eq_t, sI_eq_f, sI_rem, sI_div, sI_m1a, sI_m1b, sI_m1c, sI_m1d, sI_m1e, sI_m1f, sI_m2a, sI_m2b, sI_sub, pk_mul, sI_dec, fk_u_s, fk_u_o, sI_dec0, sI_z, sI_md, Bool.false_eq_true, Nat.reduceAdd, Nat.reduceMul, Nat.reduceSub, Nat.reduceMod, Nat.reduceDiv]) 32 0 (0, nI 1) rfl ⟨rfl, Or.inr ⟨rfl, fun r hr => by omega⟩⟩
  obtain ⟨⟨s, b⟩, e, i1, i2⟩ := key
  try dsimp only at e i1 i2
  rw [i1] at e
  exact ⟨b, i2, e⟩
theorem mX12_bf_row (hv : ab_rv y) {pl nn : Int32} (h2 : h ≤ 60) (hl : ∀ j, j < 16 * h → l 270 j = ab_TB y (16 * h) j) {x5 x7 x8 : Value} : ∃ l' x5' x7' x8', fk_ev (d + 2) qX12_byForks 31 [.ref 246, .int pl, .int nn, .int (nI h), .int (nI 0), x5, .null, x7, x8] [] (fk_E N y l) = fk_ev (d + 2) qX12_byForks 31 [.ref 246, .int pl, .int nn, .int (nI h), .int (nI 16), x5', .null, x7', x8'] [] (fk_E N y l') ∧ ∀ j, j < 16 * h + 16 → l' 270 j = ab_TB y (16 * h + 16) j := by
  have key := fk_loopr (σ := (Nat → Nat → Int64) × Value × Value × Value) (fun k s => fk_ev (d + 2) qX12_byForks 31 [.ref 246, .int pl, .int nn, .int (nI h), .int (nI k), s.2.1, .null, s.2.2.1, s.2.2.2] [] (fk_E N y s.1)) (fun k s => ∀ j, j < 16 * h + k → s.1 270 j = ab_TB y (16 * h + k) j) 16 (by
    rintro k ⟨s, z5, z7, z8⟩ hk i1
    try dsimp only at i1 ⊢
    have hdiv : (16 * h + k) / 16 = h := by omega
    have hmod : (16 * h + k) % 16 = k := by omega
    obtain ⟨st, hst, e⟩ := mX12_bf_roads (N := N) (d := d) (l := s) (T := ab_TB y (16 * h + k)) (pl := pl) (nn := nn) (x := .null) hv hk h2 fun j hj => i1 j (by omega)
    refine ⟨(fk_ul s 270 (16 * h + k) (ab_fv y (ab_TB y (16 * h + k)) h k), .long (ab_fs y (ab_TB y (16 * h + k)) h k 32), .int st, .int (nI 32)), ?_, fun j hj => ?_⟩
    · rw [hX12_byForks_31]
      simp (disch := first | assumption | omega) only [rX12_byForks, Option.bind_some, Option.toList_some, Option.toList_none, List.cons_append, List.nil_append, fk_b_0, nI_add, Nat.add_zero, Nat.zero_add, not_true_eq_false, not_false_eq_true, if_true, if_false, sI_le_t, sI_le_f, sI_lt_t, sI_lt_f, sI_eq_t, sI_eq_f, sI_rem, sI_div, sI_m1a, sI_m1b, sI_m1c, sI_m1d, sI_m1e, sI_m1f, sI_m2a, sI_m2b, sI_sub, pk_mul, sI_dec, fk_u_s, fk_u_o, sI_dec0, sI_z, sI_md, Bool.false_eq_true, Nat.reduceAdd, Nat.reduceMul, Nat.reduceSub, Nat.reduceMod, Nat.reduceDiv]
      rw [e, hX12_byForks_47]
      unfold ab_fv
      rcases hst with ⟨h3, h4⟩ | ⟨h3, h4⟩
      · subst h3
        by_cases c0 : h = 0
        · subst c0
          rw [if_pos (Or.inl rfl)]
          simp (disch := first | assumption | omega) only [rX12_byForks, Option.bind_some, Option.toList_some, Option.toList_none, List.cons_append, List.nil_append, fk_b_0, nI_add, Nat.add_zero, Nat.zero_add, not_true_eq_false, not_false_eq_true, if_true, if_false, sI_le_t, sI_le_f, sI_lt_t, sI_lt_f, sI_eq_t, sI_eq_f, sI_rem, sI_div, sI_m1a, sI_m1b, sI_m1c, sI_m1d, sI_m1e, sI_m1f, sI_m2a, sI_m2b, sI_sub, pk_mul, sI_dec, fk_u_s, fk_u_o, sI_dec0, sI_z, sI_md, Bool.false_eq_true, Nat.reduceAdd, Nat.reduceMul, Nat.reduceSub, Nat.reduceMod, Nat.reduceDiv]
        · rw [if_neg fun z => by rcases z with z | z; exact c0 z; exact h4 z]
          simp (disch := first | assumption | omega) only [rX12_byForks, Option.bind_some, Option.toList_some, Option.toList_none, List.cons_append, List.nil_append, fk_b_0, nI_add, Nat.add_zero, Nat.zero_add, not_true_eq_false, not_false_eq_true, if_true, if_false, sI_le_t, sI_le_f, sI_lt_t, sI_lt_f, sI_eq_t, sI_eq_f, sI_rem, sI_div, sI_m1a, sI_m1b, sI_m1c, sI_m1d, sI_m1e, sI_m1f, sI_m2a, sI_m2b, sI_sub, pk_mul, sI_dec, fk_u_s, fk_u_o, sI_dec0, sI_z, sI_md, Bool.false_eq_true, Nat.reduceAdd, Nat.reduceMul, Nat.reduceSub, Nat.reduceMod, Nat.reduceDiv]
      · subst h3
        rw [if_pos (Or.inr h4)]
        simp (disch := first | assumption | omega) only [rX12_byForks, Option.bind_some, Option.toList_some, Option.toList_none, List.cons_append, List.nil_append, fk_b_0, nI_add, Nat.add_zero, Nat.zero_add, not_true_eq_false, not_false_eq_true, if_true, if_false, sI_le_t, sI_le_f, sI_lt_t, sI_lt_f, sI_eq_t, sI_eq_f, sI_rem, sI_div, sI_m1a, sI_m1b, sI_m1c, sI_m1d, sI_m1e, sI_m1f, sI_m2a, sI_m2b, sI_sub, pk_mul, sI_dec, fk_u_s, fk_u_o, sI_dec0, sI_z, sI_md, Bool.false_eq_true, Nat.reduceAdd, Nat.reduceMul, Nat.reduceSub, Nat.reduceMod, Nat.reduceDiv]
    · try dsimp only
      rw [show 16 * h + (k + 1) = 16 * h + k + 1 by omega, ab_TB_s, hdiv, hmod]
      by_cases e : j = 16 * h + k
      · subst e
        rw [if_pos rfl, fk_ul_s]
      · rw [if_neg e, fk_ul_o (by omega)]
        exact i1 j (by omega)) 16 0 (l, x5, x7, x8) rfl hl
  obtain ⟨⟨l', x5', x7', x8'⟩, e, i1⟩ := key
  exact ⟨l', x5', x7', x8', e, i1⟩
theorem mX12_byForks (hv : ab_rv y) (hp : p < 16) (hn : n ≤ 60) : ∃ l', fk_ev (d + 2) qX12_byForks 0 [.ref 246, .int ((nI p)), .int ((nI n)), .null, .null, .null, .null, .null, .null] [] (fk_E N y l) = some (some (.long ((ab_TB y (16 * (n + 1)) (16 * n + p)))), fk_E N y l') := by
  have key := fk_loopr (σ := (Nat → Nat → Int64) × Value × Value × Value × Value) (fun k s => fk_ev (d + 2) qX12_byForks 23 [.ref 246, .int (nI p), .int (nI n), .int (nI k), s.2.1, s.2.2.1, .null, s.2.2.2.1, s.2.2.2.2] [] (fk_E N y s.1)) (fun k s => ∀ j, j < 16 * k → s.1 270 j = ab_TB y (16 * k) j) (n + 1) (by
    rintro k ⟨s, z4, z5, z7, z8⟩ hk i1
    try dsimp only at i1 ⊢
    obtain ⟨l', x5, x7, x8, e, i2⟩ := mX12_bf_row (N := N) (d := d) (pl := nI p) (nn := nI n) (x5 := z5) (x7 := z7) (x8 := z8) hv (show k ≤ 60 by omega) i1
    refine ⟨(l', .int (nI 16), x5, x7, x8), ?_, fun j hj => i2 j hj⟩
    rw [hX12_byForks_23]
    simp (disch := first | assumption | omega) only [rX12_byForks, Option.bind_some, Option.toList_some, Option.toList_none, List.cons_append, List.nil_append, fk_b_0, nI_add, Nat.add_zero, Nat.zero_add, not_true_eq_false, not_false_eq_true, if_true, if_false, sI_le_t, sI_le_f, sI_lt_t, sI_lt_f, sI_eq_t, sI_eq_f, sI_rem, sI_div, sI_m1a, sI_m1b, sI_m1c, sI_m1d, sI_m1e, sI_m1f, sI_m2a, sI_m2b, sI_sub, pk_mul, sI_dec, fk_u_s, fk_u_o, sI_dec0, sI_z, sI_md, Bool.false_eq_true, Nat.reduceAdd, Nat.reduceMul, Nat.reduceSub, Nat.reduceMod, Nat.reduceDiv]
    rw [e, hX12_byForks_31]
    simp (disch := first | assumption | omega) only [rX12_byForks, Option.bind_some, Option.toList_some, Option.toList_none, List.cons_append, List.nil_append, fk_b_0, nI_add, Nat.add_zero, Nat.zero_add, not_true_eq_false, not_false_eq_true, if_true, if_false, sI_le_t, sI_le_f, sI_lt_t, sI_lt_f, sI_eq_t, sI_eq_f, sI_rem, sI_div, sI_m1a, sI_m1b, sI_m1c, sI_m1d, sI_m1e, sI_m1f, sI_m2a, sI_m2b, sI_sub, pk_mul, sI_dec, fk_u_s, fk_u_o, sI_dec0, sI_z, sI_md, Bool.false_eq_true, Nat.reduceAdd, Nat.reduceMul, Nat.reduceSub, Nat.reduceMod, Nat.reduceDiv]) (n + 1) 0 (l, .null, .null, .null, .null) (Nat.zero_add _) fun j hj => by omega
  obtain ⟨⟨l', x4, x5, x7, x8⟩, e, i1⟩ := key
  try dsimp only at e i1
  refine ⟨l', ?_⟩
  have rd := i1 (16 * n + p) (by omega)
  simp (disch := first | assumption | omega) only [rX12_byForks, mX12_isPlace, mX12_in, and_self, Option.bind_some, Option.toList_some, Option.toList_none, List.cons_append, List.nil_append, fk_b_0, nI_add, Nat.add_zero, Nat.zero_add, not_true_eq_false, not_false_eq_true, if_true, if_false, sI_le_t, sI_le_f, sI_lt_t, sI_lt_f, sI_eq_t, sI_eq_f, sI_rem, sI_div, sI_m1a, sI_m1b, sI_m1c, sI_m1d, sI_m1e, sI_m1f, sI_m2a, sI_m2b, sI_sub, pk_mul, sI_dec, fk_u_s, fk_u_o, sI_dec0, sI_z, sI_md, Bool.false_eq_true, Nat.reduceAdd, Nat.reduceMul, Nat.reduceSub, Nat.reduceMod, Nat.reduceDiv]
  rw [e, hX12_byForks_23]
  simp (disch := first | assumption | omega) only [rX12_byForks, rd, Option.bind_some, Option.toList_some, Option.toList_none, List.cons_append, List.nil_append, fk_b_0, nI_add, Nat.add_zero, Nat.zero_add, not_true_eq_false, not_false_eq_true, if_true, if_false, sI_le_t, sI_le_f, sI_lt_t, sI_lt_f, sI_eq_t, sI_eq_f, sI_rem, sI_div, sI_m1a, sI_m1b, sI_m1c, sI_m1d, sI_m1e, sI_m1f, sI_m2a, sI_m2b, sI_sub, pk_mul, sI_dec, fk_u_s, fk_u_o, sI_dec0, sI_z, sI_md, Bool.false_eq_true, Nat.reduceAdd, Nat.reduceMul, Nat.reduceSub, Nat.reduceMod, Nat.reduceDiv]
theorem cl_byForks (hR : cR S y) {p n : Int32} : ∃ a l1 l2, fk_ev (d + 8) qX11_byForks 0 [.ref 1, .int p, .int n] [] (fk_E N y l) = some (some (.long a), fk_E N y l1) ∧ fk_ev (d + 8) qX12_byForks 0 [.ref 246, .int p, .int n, .null, .null, .null, .null, .null, .null] [] (fk_E N y l1) = some (some (.long a), fk_E N y l2) := by
  obtain ⟨r0, r1, r2, _⟩ := id hR
  by_cases h1 : nI 0 ≤ p ∧ p < nI 16
  · by_cases h2 : nI 0 ≤ n ∧ n ≤ nI 60
    · obtain ⟨p, hp, rfl⟩ := fk_ixn h1.1 h1.2 (by omega)
      obtain ⟨n, hn, rfl⟩ := fk_ixn2 h2.1 h2.2 (by omega)
      obtain ⟨l1, e1⟩ := mX5_forked (N := N) (d := d + 6) (l := l) r1 r2 hp hn
      obtain ⟨l2, e2⟩ := mX12_byForks (N := N) (d := d + 6) (l := l1) r1 hp hn
      refine ⟨_, l1, l2, ?_, e2⟩
      simp (disch := first | assumption | omega) only [rX11_byForks, mX11_within, and_self, e1, Option.bind_some, Option.toList_some, Option.toList_none, List.cons_append, List.nil_append, fk_b_0, nI_add, Nat.add_zero, Nat.zero_add, not_true_eq_false, not_false_eq_true, if_true, if_false, sI_le_t, sI_le_f, sI_lt_t, sI_lt_f, sI_eq_t, sI_eq_f, sI_rem, sI_div, sI_m1a, sI_m1b, sI_m1c, sI_m1d, sI_m1e, sI_m1f, sI_m2a, sI_m2b, sI_sub, pk_mul, sI_dec, fk_u_s, fk_u_o, sI_dec0, sI_z, sI_md, Bool.false_eq_true, Nat.reduceAdd, Nat.reduceMul, Nat.reduceSub, Nat.reduceMod, Nat.reduceDiv]
    · refine ⟨(-1), l, l, ?_, ?_⟩
      · by_cases c : n < nI 0
        · simp (disch := first | assumption | omega) only [rX11_byForks, mX11_within, h1, and_self, c, Option.bind_some, Option.toList_some, Option.toList_none, List.cons_append, List.nil_append, fk_b_0, nI_add, Nat.add_zero, Nat.zero_add, not_true_eq_false, not_false_eq_true, if_true, if_false, sI_le_t, sI_le_f, sI_lt_t, sI_lt_f, sI_eq_t, sI_eq_f, sI_rem, sI_div, sI_m1a, sI_m1b, sI_m1c, sI_m1d, sI_m1e, sI_m1f, sI_m2a, sI_m2b, sI_sub, pk_mul, sI_dec, fk_u_s, fk_u_o, sI_dec0, sI_z, sI_md, Bool.false_eq_true, Nat.reduceAdd, Nat.reduceMul, Nat.reduceSub, Nat.reduceMod, Nat.reduceDiv]
        · have c2 : ¬ n ≤ nI 60 := fun z => h2 ⟨Int32.not_lt.mp c, z⟩
          simp (disch := first | assumption | omega) only [rX11_byForks, mX11_within, h1, and_self, c, c2, Option.bind_some, Option.toList_some, Option.toList_none, List.cons_append, List.nil_append, fk_b_0, nI_add, Nat.add_zero, Nat.zero_add, not_true_eq_false, not_false_eq_true, if_true, if_false, sI_le_t, sI_le_f, sI_lt_t, sI_lt_f, sI_eq_t, sI_eq_f, sI_rem, sI_div, sI_m1a, sI_m1b, sI_m1c, sI_m1d, sI_m1e, sI_m1f, sI_m2a, sI_m2b, sI_sub, pk_mul, sI_dec, fk_u_s, fk_u_o, sI_dec0, sI_z, sI_md, Bool.false_eq_true, Nat.reduceAdd, Nat.reduceMul, Nat.reduceSub, Nat.reduceMod, Nat.reduceDiv]
      · simp (disch := first | assumption | omega) only [rX12_byForks, mX12_isPlace, mX12_in, h1, and_self, h2, Option.bind_some, Option.toList_some, Option.toList_none, List.cons_append, List.nil_append, fk_b_0, nI_add, Nat.add_zero, Nat.zero_add, not_true_eq_false, not_false_eq_true, if_true, if_false, sI_le_t, sI_le_f, sI_lt_t, sI_lt_f, sI_eq_t, sI_eq_f, sI_rem, sI_div, sI_m1a, sI_m1b, sI_m1c, sI_m1d, sI_m1e, sI_m1f, sI_m2a, sI_m2b, sI_sub, pk_mul, sI_dec, fk_u_s, fk_u_o, sI_dec0, sI_z, sI_md, Bool.false_eq_true, Nat.reduceAdd, Nat.reduceMul, Nat.reduceSub, Nat.reduceMod, Nat.reduceDiv]
  · refine ⟨(-1), l, l, ?_, ?_⟩
    · simp (disch := first | assumption | omega) only [rX11_byForks, mX11_within, h1, Option.bind_some, Option.toList_some, Option.toList_none, List.cons_append, List.nil_append, fk_b_0, nI_add, Nat.add_zero, Nat.zero_add, not_true_eq_false, not_false_eq_true, if_true, if_false, sI_le_t, sI_le_f, sI_lt_t, sI_lt_f, sI_eq_t, sI_eq_f, sI_rem, sI_div, sI_m1a, sI_m1b, sI_m1c, sI_m1d, sI_m1e, sI_m1f, sI_m2a, sI_m2b, sI_sub, pk_mul, sI_dec, fk_u_s, fk_u_o, sI_dec0, sI_z, sI_md, Bool.false_eq_true, Nat.reduceAdd, Nat.reduceMul, Nat.reduceSub, Nat.reduceMod, Nat.reduceDiv]
    · simp (disch := first | assumption | omega) only [rX12_byForks, mX12_isPlace, h1, Option.bind_some, Option.toList_some, Option.toList_none, List.cons_append, List.nil_append, fk_b_0, nI_add, Nat.add_zero, Nat.zero_add, not_true_eq_false, not_false_eq_true, if_true, if_false, sI_le_t, sI_le_f, sI_lt_t, sI_lt_f, sI_eq_t, sI_eq_f, sI_rem, sI_div, sI_m1a, sI_m1b, sI_m1c, sI_m1d, sI_m1e, sI_m1f, sI_m2a, sI_m2b, sI_sub, pk_mul, sI_dec, fk_u_s, fk_u_o, sI_dec0, sI_z, sI_md, Bool.false_eq_true, Nat.reduceAdd, Nat.reduceMul, Nat.reduceSub, Nat.reduceMod, Nat.reduceDiv]
end FKS
