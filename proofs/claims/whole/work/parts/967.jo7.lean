section JO7
variable {N : Nat} {S : Nat → Int32} {v y y0 y1 y2 : Nat → Nat → Int32} {l : Nat → Nat → Int64} {d n H t c k m : Nat} {A : Nat → Int32} {W : Int32 → (Nat → Int32) → Int32} {J : Nat → Nat}
def jp_co (s : Option (Nat × Nat)) : Int32 := match s with
  | none => (-1)
  | some b => nI b.1
theorem jp_fold_in {val : Nat → Nat} : ∀ (L : List Nat) s b, List.foldl (jp_up val) s L = some b → (∀ b', s = some b' → b'.2 ≤ 16) → (∀ x, val x ≤ 16) → (s = some b ∨ b.1 ∈ L) ∧ b.2 ≤ 16 := by
  intro L
  induction L with
  | nil => intro s b h hs _; exact ⟨Or.inl h, hs b h⟩
  | cons x L ih =>
    intro s b h hs hv
    have h' : List.foldl (jp_up val) (jp_up val s x) L = some b := h
    have hs' : ∀ b', jp_up val s x = some b' → b'.2 ≤ 16 := by
      intro b' hb'
      cases s with
      | none => rw [jp_up_n] at hb'; cases hb'; exact hv x
      | some q =>
        by_cases c : q.2 < val x
        · rw [jp_up_t c] at hb'; cases hb'; exact hv x
        · rw [jp_up_f c] at hb'; exact hs b' hb'
    obtain ⟨h1, h2⟩ := ih _ b h' hs' hv
    refine ⟨?_, h2⟩
    rcases h1 with h1 | h1
    · cases s with
      | none => rw [jp_up_n] at h1; cases h1; exact Or.inr (List.mem_cons_self ..)
      | some q =>
        by_cases c : q.2 < val x
        · rw [jp_up_t c] at h1; cases h1; exact Or.inr (List.mem_cons_self ..)
        · rw [jp_up_f c] at h1; exact Or.inl h1
    · exact Or.inr (List.mem_cons_of_mem _ h1)
theorem jp_fold_some {val : Nat → Nat} : ∀ (L : List Nat) q, ∃ b, List.foldl (jp_up val) (some q) L = some b := by
  intro L
  induction L with
  | nil => intro q; exact ⟨q, rfl⟩
  | cons x L ih =>
    intro q
    show ∃ b, List.foldl (jp_up val) (jp_up val (some q) x) L = some b
    by_cases c : q.2 < val x
    · rw [jp_up_t c]; exact ih _
    · rw [jp_up_f c]; exact ih _
theorem mX12_jn_loop (HW : fk_LR W v) (ho : ab_ok v n H A) (hm1 : 2 ≤ m) (hm : m ≤ 5) (hJ : ∀ i, i < m → J i < n) {P : Nat} (hP : P ≤ 3125) (f62 : ∀ c, 262 ≤ c → c ≤ 266 → y0 c = v c) (f19 : y0 246 19 = v 246 19) (f47 : y0 247 = A) (f44 : y0 246 44 = nI m) (f71 : ∀ i, i < m → y0 271 i = nI (J i)) {w : Value} : ∃ y' z, fk_ev (d + 5) qX12_joined 79 [.ref 246, .int (nI m), w, .int (nI P), .int (-1), .int (-1), .int (nI 0), .null] [] (fk_E N y0 l) = fk_ev (d + 5) qX12_joined 79 [.ref 246, .int (nI m), w, .int (nI P), .int (jp_co (List.foldl (jp_up (jp_vl W A J m)) none ((List.range P).filter fun c => jp_ds m c m))), .int (jp_mo (List.foldl (jp_up (jp_vl W A J m)) none ((List.range P).filter fun c => jp_ds m c m))), .int (nI P), z] [] (fk_E N y' l) ∧ ∀ k, k ≠ 267 → k ≠ 268 → k ≠ 272 → y' k = y0 k := by
  have key := fk_loopr (σ := (Nat → Nat → Int32) × Value) (fun k t => fk_ev (d + 5) qX12_joined 79 [.ref 246, .int (nI m), w, .int (nI P), .int (jp_co (List.foldl (jp_up (jp_vl W A J m)) none ((List.range k).filter fun c => jp_ds m c m))), .int (jp_mo (List.foldl (jp_up (jp_vl W A J m)) none ((List.range k).filter fun c => jp_ds m c m))), .int (nI k), t.2] [] (fk_E N t.1 l)) (fun k t => ∀ k, k ≠ 267 → k ≠ 268 → k ≠ 272 → t.1 k = y0 k) P (by
    rintro k ⟨t, z⟩ hk i1
    try dsimp only at i1 ⊢
    obtain ⟨t1, e1, f1, g1⟩ := mX12_readsJoins (N := N) (l := l) (d := d + 3) (y := t) (x := k) hm1 hm (by omega) (by rw [i1 246 (by omega) (by omega) (by omega)]; exact f44)
    have i2 : ∀ k, k ≠ 267 → k ≠ 268 → k ≠ 272 → t1 k = y0 k := fun k k1 k2 k3 => by rw [f1 k k3, i1 k k1 k2 k3]
    rw [List.range_succ, List.filter_append]
    generalize hs : List.foldl (jp_up (jp_vl W A J m)) none ((List.range k).filter fun c => jp_ds m c m) = s
    have bs : ∀ b, s = some b → b.2 ≤ 16 ∧ b.1 < 3125 := fun b hb => by
      have := jp_fold_in _ none b (hs.trans hb) (fun b' h => by cases h) (fun x => fk_cd_le)
      refine ⟨this.2, ?_⟩
      rcases this.1 with h | h
      · cases h
      · have := List.mem_range.mp (List.mem_filter.mp h).1
        omega
    rw [hX12_joined_79]
    by_cases c : jp_ds m k m = true
    · rw [fk_b_t c] at e1
      have er : (List.filter (fun c => jp_ds m c m) [k]) = [k] := by simp only [List.filter_cons, c, if_true, List.filter_nil]
      rw [er, List.foldl_append, hs, List.foldl_cons, List.foldl_nil]
      obtain ⟨t2, e2, f2⟩ := mX12_knownBy (N := N) (l := l) (d := d) (y := t1) (r := fun i => J (jp_d m k i)) (P := jp_d m k) (m := m) HW (fun c c1 c2 => by rw [i2 c (by omega) (by omega) (by omega)]; exact f62 c c1 c2) (by rw [i2 246 (by omega) (by omega) (by omega)]; exact f19) (by rw [i2 247 (by omega) (by omega) (by omega)]; exact f47) ho (by omega) hm (fun i hi => hJ _ (jp_d_lt (by omega))) (fun i hi => by have := jp_d_lt (c := k) (i := i) (show 1 ≤ m by omega); omega) (g1 c) (fun i hi => by rw [i2 271 (by omega) (by omega) (by omega)]; exact f71 _ (jp_d_lt (by omega))) (by rw [i2 246 (by omega) (by omega) (by omega)]; exact f44)
      have e2' : fk_ev (d + 4) qX12_knownBy 0 [.ref 246, .null, .null, .null, .null, .null, .null, .null, .null, .null, .null, .null] [] (fk_E N t1 l) = some (some (.int ((nI (jp_vl W A J m k)))), fk_E N t2 l) := e2
      have vle : jp_vl W A J m k ≤ 16 := fk_cd_le
      refine ⟨(t2, .int (nI (jp_vl W A J m k))), ?_, fun k k1 k2 k3 => by rw [show (t2, Value.int (nI (jp_vl W A J m _))).1 k = t2 k from rfl, f2 k k1 k2, i2 k k1 k2 k3]⟩
      cases s with
      | none =>
        rw [jp_up_n]
        show fk_ev (d + 5) qX12_joined 81 [.ref 246, .int (nI m), w, .int (nI P), .int (-1), .int (-1), .int (nI k), z] [.int (nI k)] (fk_E N t l) = fk_ev (d + 5) qX12_joined 79 [.ref 246, .int (nI m), w, .int (nI P), .int (nI k), .int (nI (jp_vl W A J m k)), .int (nI (k + 1)), .int (nI (jp_vl W A J m k))] [] (fk_E N t2 l)
        generalize jp_vl W A J m k = vx at e2' vle
        simp (disch := first | assumption | omega) only [rX12_joined, e1, e2', Option.bind_some, Option.toList_some, Option.toList_none, List.cons_append, List.nil_append, fk_b_0, nI_add, Nat.add_zero, Nat.zero_add, not_true_eq_false, not_false_eq_true, if_true, if_false, sI_le_t, sI_le_f, sI_lt_t, sI_lt_f, sI_eq_t, sI_eq_f, sI_rem, sI_div, sI_m1a, sI_m1b, sI_m1c, sI_m1d, sI_m1e, sI_m1f, sI_m2a, sI_m2b, sI_sub, pk_mul, sI_dec, fk_u_s, fk_u_o, sI_dec0, sI_z, sI_md, Bool.false_eq_true, Nat.reduceAdd, Nat.reduceMul, Nat.reduceSub, Nat.reduceMod, Nat.reduceDiv]
      | some b =>
        obtain ⟨b2, b1⟩ := bs b rfl
        by_cases c1 : b.2 < jp_vl W A J m k
        · rw [jp_up_t c1]
          show fk_ev (d + 5) qX12_joined 81 [.ref 246, .int (nI m), w, .int (nI P), .int (nI b.1), .int (nI b.2), .int (nI k), z] [.int (nI k)] (fk_E N t l) = fk_ev (d + 5) qX12_joined 79 [.ref 246, .int (nI m), w, .int (nI P), .int (nI k), .int (nI (jp_vl W A J m k)), .int (nI (k + 1)), .int (nI (jp_vl W A J m k))] [] (fk_E N t2 l)
          generalize jp_vl W A J m k = vx at e2' vle c1
          simp (disch := first | assumption | omega) only [rX12_joined, e1, e2', Option.bind_some, Option.toList_some, Option.toList_none, List.cons_append, List.nil_append, fk_b_0, nI_add, Nat.add_zero, Nat.zero_add, not_true_eq_false, not_false_eq_true, if_true, if_false, sI_le_t, sI_le_f, sI_lt_t, sI_lt_f, sI_eq_t, sI_eq_f, sI_rem, sI_div, sI_m1a, sI_m1b, sI_m1c, sI_m1d, sI_m1e, sI_m1f, sI_m2a, sI_m2b, sI_sub, pk_mul, sI_dec, fk_u_s, fk_u_o, sI_dec0, sI_z, sI_md, Bool.false_eq_true, Nat.reduceAdd, Nat.reduceMul, Nat.reduceSub, Nat.reduceMod, Nat.reduceDiv]
        · rw [jp_up_f c1]
          show fk_ev (d + 5) qX12_joined 81 [.ref 246, .int (nI m), w, .int (nI P), .int (nI b.1), .int (nI b.2), .int (nI k), z] [.int (nI k)] (fk_E N t l) = fk_ev (d + 5) qX12_joined 79 [.ref 246, .int (nI m), w, .int (nI P), .int (nI b.1), .int (nI b.2), .int (nI (k + 1)), .int (nI (jp_vl W A J m k))] [] (fk_E N t2 l)
          generalize jp_vl W A J m k = vx at e2' vle c1
          simp (disch := first | assumption | omega) only [rX12_joined, e1, e2', Option.bind_some, Option.toList_some, Option.toList_none, List.cons_append, List.nil_append, fk_b_0, nI_add, Nat.add_zero, Nat.zero_add, not_true_eq_false, not_false_eq_true, if_true, if_false, sI_le_t, sI_le_f, sI_lt_t, sI_lt_f, sI_eq_t, sI_eq_f, sI_rem, sI_div, sI_m1a, sI_m1b, sI_m1c, sI_m1d, sI_m1e, sI_m1f, sI_m2a, sI_m2b, sI_sub, pk_mul, sI_dec, fk_u_s, fk_u_o, sI_dec0, sI_z, sI_md, Bool.false_eq_true, Nat.reduceAdd, Nat.reduceMul, Nat.reduceSub, Nat.reduceMod, Nat.reduceDiv]
    · rw [fk_b_f c] at e1
      have er : (List.filter (fun c => jp_ds m c m) [k]) = [] := by simp only [List.filter_cons, c, if_false, List.filter_nil, Bool.false_eq_true]
      rw [er, List.append_nil, hs]
      refine ⟨(t1, z), ?_, i2⟩
      simp (disch := first | assumption | omega) only [rX12_joined, e1, Option.bind_some, Option.toList_some, Option.toList_none, List.cons_append, List.nil_append, fk_b_0, nI_add, Nat.add_zero, Nat.zero_add, not_true_eq_false, not_false_eq_true, if_true, if_false, sI_le_t, sI_le_f, sI_lt_t, sI_lt_f, sI_eq_t, sI_eq_f, sI_rem, sI_div, sI_m1a, sI_m1b, sI_m1c, sI_m1d, sI_m1e, sI_m1f, sI_m2a, sI_m2b, sI_sub, pk_mul, sI_dec, fk_u_s, fk_u_o, sI_dec0, sI_z, sI_md, Bool.false_eq_true, Nat.reduceAdd, Nat.reduceMul, Nat.reduceSub, Nat.reduceMod, Nat.reduceDiv]) P 0 (y0, .null) (Nat.zero_add P) fun _ _ _ _ => rfl
  obtain ⟨⟨y', z⟩, e, i1⟩ := key
  try dsimp only at e i1
  exact ⟨y', z, e, i1⟩
theorem cl_joined (hR : cR S y) {u w : Int32} : ∃ a y1 y2, fk_ev (d + 8) qX11_joined 0 [.ref 1, .int u, .int w, .null] [] (fk_E N y l) = some (some (.int a), fk_E N y1 l) ∧ fk_ev (d + 8) qX12_joined 0 [.ref 246, .int u, .int w, .null, .null, .null, .null, .null] [] (fk_E N y1 l) = some (some (.int a), fk_E N y2 l) ∧ cR S y2 := by
  obtain ⟨r0, r1, r2, ⟨n, H, p1, p2, p3, p4⟩, r4, ⟨t, t1, t2, t3, t4⟩, ⟨c, W, q1, q2, q3, q4, q5, q6⟩, r7, r8, r9⟩ := id hR
  have hn := p1.1
  by_cases hu : nI 2 ≤ u ∧ u ≤ nI 5
  · obtain ⟨m, hm5, rfl⟩ := fk_ixn2 (Int32.le_trans (by decide) hu.1) hu.2 (by omega)
    have hm2 : 2 ≤ m := (nI_leI (by omega) (by omega)).mp hu.1
    by_cases hmt : m ≤ t
    · obtain ⟨y1, f1, tk1⟩ := mX2_take (N := N) (l := l) (d := d + 5) (b := fun i => fk_bn (y 255 i)) p1 p3 t2 t1 hmt hm2 hm5 (fun i hi => by rw [t4 i hi]; exact fk_bn_e) (fun i => fk_bn_lt)
      generalize eY : fk_u y1 26 1 (nI 0) = Y
      have YF : ∀ k, k ≠ 26 → k ≠ 241 → k ≠ 242 → Y k = y k := fun k k1 k2 k3 => by rw [← eY, fk_u_rowo k1, f1 k k2 k3]
      have Y26 : Y 26 1 = nI 0 := by rw [← eY, fk_u_s]
      -- the reference's halves, whatever the class did besides
      have ref : ∀ Z : Nat → Nat → Int32, (∀ k, 246 ≤ k → Z k = y k) → ∃ Z', (∀ k, k ≠ 271 → k ≠ 246 → Z' k = Z k) ∧ (∀ i, i ≠ 44 → i ≠ 10 → Z' 246 i = y 246 i) ∧ Z' 246 44 = nI m ∧ Z' 246 10 = nI 0 ∧ match jp_tk (fun i => fk_bn (y 255 i)) (jp_ok2 (y 247) n fun i => fk_bn (y 255 i)) m 0 (fun _ => 0) with
          | none => fk_ev (d + 7) qX12_takesHalves 0 [.ref 246, .int ((nI m)), .null, .null, .null, .null] [] (fk_E N (fk_u Z 246 10 (nI 0)) l) = some (some (.int ((nI 0))), fk_E N Z' l)
          | some R' => fk_ev (d + 7) qX12_takesHalves 0 [.ref 246, .int ((nI m)), .null, .null, .null, .null] [] (fk_E N (fk_u Z 246 10 (nI 0)) l) = some (some (.int ((nI 1))), fk_E N Z' l) ∧ ∀ a, a < m → Z' 271 a = nI (R' a) := by
        intro Z hZ
        obtain ⟨Z', g1, g2, g3, g4⟩ := mX12_takesHalves (N := N) (l := l) (d := d + 5) (y := fk_u Z 246 10 (nI 0)) (b := fun i => fk_bn (y 255 i)) (m := m) p1 (by rw [fk_u_rowo (by omega)]; exact hZ 247 (by omega)) hm2 hm5 (fun i hi => by rw [fk_u_rowo (by omega), hZ 255 (by omega)]; exact fk_bn_e) (fun i => fk_bn_lt)
        exact ⟨Z', fun k k1 k2 => (g1 k k1 k2).trans (fk_u_rowo k2), fun i i1 i2 => by rw [g2 i i1, fk_u_o (by omega), hZ 246 (by omega)], g3, by rw [g2 10 (by omega), fk_u_s], g4⟩
      have sR : ∀ R', jp_tk (fun i => fk_bn (y 255 i)) (jp_ok2 (y 247) n fun i => fk_bn (y 255 i)) m 0 (fun _ => 0) = some R' → jp_so n m R' := fun R' e => by
        have := jp_tk_so (n := n) (fun i hi => hi.2.1.1) m 0 (fun _ => 0) R' ⟨fun q hq => by omega, fun q q' _ h => by omega⟩ e
        rw [Nat.zero_add] at this
        exact this
      generalize jp_tk (fun i => fk_bn (y 255 i)) (jp_ok2 (y 247) n fun i => fk_bn (y 255 i)) m 0 (fun _ => 0) = o at tk1 ref sR
      cases o with
      | none =>
        try dsimp only at tk1 ref
        obtain ⟨Z', z1, z2, z3, z4, z5⟩ := ref Y fun k hk => YF k (by omega) (by omega) (by omega)
        refine ⟨(-2), Y, Z', ?_, ?_, cR_clr hR (fun k hk => by rw [z1 k (by omega) (by omega), YF k (by omega) (by omega) (by omega)]) (fun i hi => z2 i (by omega) (by omega)) (by rw [z1 26 (by omega) (by omega)]; exact Y26) z4⟩
        · simp (disch := first | assumption | omega) only [rX11_joined, t2, tk1, mX10_clear, eY, Option.bind_some, Option.toList_some, Option.toList_none, List.cons_append, List.nil_append, fk_b_0, nI_add, Nat.add_zero, Nat.zero_add, not_true_eq_false, not_false_eq_true, if_true, if_false, sI_le_t, sI_le_f, sI_lt_t, sI_lt_f, sI_eq_t, sI_eq_f, sI_rem, sI_div, sI_m1a, sI_m1b, sI_m1c, sI_m1d, sI_m1e, sI_m1f, sI_m2a, sI_m2b, sI_sub, pk_mul, sI_dec, fk_u_s, fk_u_o, sI_dec0, sI_z, sI_md, Bool.false_eq_true, Nat.reduceAdd, Nat.reduceMul, Nat.reduceSub, Nat.reduceMod, Nat.reduceDiv]
        · have e10 : Y 246 10 = nI t := by rw [YF 246 (by omega) (by omega) (by omega)]; exact t3
          simp (disch := first | assumption | omega) only [rX12_joined, mX12_in, and_self, e10, z5, Option.bind_some, Option.toList_some, Option.toList_none, List.cons_append, List.nil_append, fk_b_0, nI_add, Nat.add_zero, Nat.zero_add, not_true_eq_false, not_false_eq_true, if_true, if_false, sI_le_t, sI_le_f, sI_lt_t, sI_lt_f, sI_eq_t, sI_eq_f, sI_rem, sI_div, sI_m1a, sI_m1b, sI_m1c, sI_m1d, sI_m1e, sI_m1f, sI_m2a, sI_m2b, sI_sub, pk_mul, sI_dec, fk_u_s, fk_u_o, sI_dec0, sI_z, sI_md, Bool.false_eq_true, Nat.reduceAdd, Nat.reduceMul, Nat.reduceSub, Nat.reduceMod, Nat.reduceDiv]
      | some R' =>
        try dsimp only at tk1 ref
        obtain ⟨tk1, tk2, tk3⟩ := tk1
        obtain ⟨so1, so2⟩ := sR R' rfl
        have hJ2 : ∀ i j, i < m → j < m → (R' i < R' j ↔ i < j) := fun i j hi hj => by
          constructor
          · intro h
            refine Classical.byContradiction fun z => ?_
            by_cases e : i = j
            · subst e; omega
            · have := so2 j i (by omega) hi; omega
          · intro h; exact so2 i j h hj
        have hwc : (w = (-1) ∨ ∃ q, q < m ∧ w = nI q) ∨ (¬ w = (-1) ∧ ¬ (nI 0 ≤ w ∧ w < nI m)) := by
          by_cases c1 : w = (-1)
          · exact Or.inl (Or.inl c1)
          · by_cases c2 : nI 0 ≤ w ∧ w < nI m
            · exact Or.inl (Or.inr (fk_ixn c2.1 c2.2 (by omega)))
            · exact Or.inr ⟨c1, c2⟩
        rcases hwc with hwc | ⟨w1, w2⟩
        · -- the row of all rows
          have st := jp_stm hm2 hm5
          unfold jp_st at st
          cases hPL : jp_PL m with
          | nil => rw [hPL] at st; exact absurd st Bool.false_ne_true
          | cons x L =>
            rw [hPL] at st
            try dsimp only at st
            rw [Bool.and_eq_true, Bool.and_eq_true, decide_eq_true_eq, List.length_cons] at st
            obtain ⟨⟨st1, st2⟩, st3⟩ := st
            have ex : ∀ q, q < m → jp_d m x q = q := fun q hq => eq_of_beq (List.all_eq_true.mp st1 q (List.mem_range.mpr hq))
            -- the class
            generalize eB : ck_by Y c = B
            have BF : ∀ k, k ≠ 238 → B k = Y k := fun k hk => by rw [← eB]; exact ck_by_o hk
            have LB : ck_LC W c B := by
              rw [← eB]
              exact ck_by_L (ck_LC_c (fun k k1 k2 => YF k (by omega) (by omega) (by omega)) (by rw [YF c (by omega) (by omega) (by omega)]) (by rw [YF c (by omega) (by omega) (by omega)]) q4)
            have pB : ck_pr 33 B (fun _ => nI 0) (y 247) := ck_pr_k p3 fun k k1 k2 => by rw [BF k (by omega), YF k (by omega) (by omega) (by omega)]
            have B242 : ∀ q, q < m → B 242 q = nI (R' q) := fun q hq => by rw [BF 242 (by omega), ← eY, fk_u_rowo (by omega)]; exact tk3 q hq
            have B241 : B 241 2 = nI m := by rw [BF 241 (by omega), ← eY, fk_u_rowo (by omega)]; exact tk2
            obtain ⟨C, s1, s2, s3⟩ := mX2_seek_loop (N := N) (l := l) (d := d + 3) (y0 := B) (W := W) (A := y 247) (J := R') LB (by rw [← eB]; exact ck_by_2) (by rw [← eB]; exact ck_by_3) pB p1 hm2 hm5 so1 hJ2 L x none 0 (fk_u B 241 3 (-1)) st2 (by omega) (fun k _ _ k3 _ _ => fk_u_rowo k3) ⟨by rw [fk_u_o (by omega)]; exact B241, fk_u_s, fun b hb => by cases hb⟩ (fun b hb => by cases hb) (fun q hq => by rw [fk_u_o (by omega), ex q hq]; exact B242 q hq) .null
            have CF : ∀ k, k ≠ 26 → k ≠ 238 → k ≠ 239 → k ≠ c + 7 → k ≠ 241 → k ≠ 242 → k ≠ 243 → C k = y k := fun k k1 k2 k3 k4 k5 k6 k7 => by rw [s2 k k3 k4 k5 k6 k7, BF k k2, YF k k1 k5 k6]
            have C26 : C 26 1 = nI 0 := by rw [s2 26 (by omega) (by omega) (by omega) (by omega) (by omega), BF 26 (by omega)]; exact Y26
            have hcl : c = 2 ∨ c = 10 := q1
            -- the best of all
            obtain ⟨bb, hbb⟩ : ∃ b, List.foldl (jp_up (jp_vl W (y 247) R' m)) none (x :: L) = some b := jp_fold_some L _
            have hin := jp_fold_in (x :: L) none bb hbb (fun b' h => by cases h) (fun x => fk_cd_le)
            have b1in : bb.1 ∈ jp_PL m := by
              rw [hPL]
              rcases hin.1 with h | h
              · cases h
              · exact h
            have bds : jp_ds m bb.1 m = true := (List.mem_filter.mp b1in).2
            have bP : bb.1 < m ^ m := List.mem_range.mp (List.mem_filter.mp b1in).1
            have hP5 : m ^ m ≤ 3125 := by
              have hh : m = 2 ∨ m = 3 ∨ m = 4 ∨ m = 5 := by omega
              rcases hh with rfl | rfl | rfl | rfl <;> decide
            have b2 := hin.2
            rw [hbb] at s3
            obtain ⟨c2, c3, c4⟩ := s3
            have c3' : C 241 3 = nI bb.2 := c3
            have c4' := c4 bb rfl
            -- the reference
            obtain ⟨Z', z1, z2, z3, z4, z5, z6⟩ := ref C fun k hk => CF k (by omega) (by omega) (by omega) (by omega) (by omega) (by omega) (by omega)
            have ZF : ∀ k, 247 ≤ k → k ≠ 271 → Z' k = y k := fun k k1 k2 => by rw [z1 k k2 (by omega), CF k (by omega) (by omega) (by omega) (by omega) (by omega) (by omega) (by omega)]
            have rowsL := fk_loopr (σ := Unit) (fun k _ => fk_ev (d + 8) qX12_joined 54 [.ref 246, .int (nI m), .int w, .int (nI (m ^ k)), .int (nI k), .null, .null, .null] [] (fk_E N Z' l)) (fun _ _ => True) m (by
              intro k _ hk _
              try dsimp only
              refine ⟨(), ?_, trivial⟩
              rw [hX12_joined_54, Nat.pow_succ]
              simp (disch := first | assumption | omega) only [rX12_joined, Option.bind_some, Option.toList_some, Option.toList_none, List.cons_append, List.nil_append, fk_b_0, nI_add, Nat.add_zero, Nat.zero_add, not_true_eq_false, not_false_eq_true, if_true, if_false, sI_le_t, sI_le_f, sI_lt_t, sI_lt_f, sI_eq_t, sI_eq_f, sI_rem, sI_div, sI_m1a, sI_m1b, sI_m1c, sI_m1d, sI_m1e, sI_m1f, sI_m2a, sI_m2b, sI_sub, pk_mul, sI_dec, fk_u_s, fk_u_o, sI_dec0, sI_z, sI_md, Bool.false_eq_true, Nat.reduceAdd, Nat.reduceMul, Nat.reduceSub, Nat.reduceMod, Nat.reduceDiv]) m 0 () (Nat.zero_add m) trivial
            obtain ⟨_, eRows, _⟩ := rowsL
            try dsimp only at eRows
            obtain ⟨D, x7, jl, jf⟩ := mX12_jn_loop (N := N) (l := l) (d := d + 3) (v := y) (W := W) (A := y 247) (J := R') (m := m) (P := m ^ m) (y0 := Z') (w := .int w) q5 p1 hm2 hm5 so1 hP5 (fun c c1 c2 => ZF c (by omega) (by omega)) (z2 19 (by omega) (by omega)) (ZF 247 (by omega) (by omega)) z3 (fun i hi => z6 i hi)
            rw [show ((List.range (m ^ m)).filter fun c => jp_ds m c m) = x :: L from hPL, hbb] at jl
            obtain ⟨E, e1, e2, e3⟩ := mX12_readsJoins (N := N) (l := l) (d := d + 6) (y := D) (x := bb.1) hm2 hm5 (by omega) (by rw [jf 246 (by omega) (by omega) (by omega)]; exact z3)
            rw [fk_b_t bds] at e1
            have EF : ∀ k, k ≠ 267 → k ≠ 268 → k ≠ 272 → E k = Z' k := fun k k1 k2 k3 => by rw [e2 k k3, jf k k1 k2 k3]
            have hcR : cR S E := cR_clr hR (fun k hk => by rw [EF k (by omega) (by omega) (by omega), z1 k (by omega) (by omega), CF k (by omega) (by omega) (by omega) (by omega) (by omega) (by omega) (by omega)]) (fun i hi => by rw [EF 246 (by omega) (by omega) (by omega)]; exact z2 i (by omega) (by omega)) (by rw [EF 26 (by omega) (by omega) (by omega), z1 26 (by omega) (by omega)]; exact C26) (by rw [EF 246 (by omega) (by omega) (by omega)]; exact z4)
            have win : (-1 : Int32) ≤ w ∧ w ≤ nI m - nI 1 := by
              rw [sI_sub (by omega)]
              rcases hwc with rfl | ⟨q, hq, rfl⟩
              · exact ⟨by decide, Int32.le_trans (show (-1 : Int32) ≤ nI 0 by decide) (nI_le (by omega) (by omega))⟩
              · exact ⟨by rw [sI_m1e (by omega)]; trivial, nI_le (by omega) (by omega)⟩
            have C1 : fk_ev (d + 8) qX11_joined 0 [.ref 1, .int (nI m), .int w, .null] [] (fk_E N y l) = fk_ev (d + 8) qX11_joined 100 [.ref 1, .int (nI m), .int w, .int (nI 1)] [] (fk_E N C l) := by
              have sk : fk_ev (d + 7) qX2_seek 0 [.ref 241, .ref 238, .ref 33, .null, .null] [] (fk_E N B l) = some (none, fk_E N C l) := by
                simp (disch := first | assumption | omega) only [rX2_seek, Option.bind_some, Option.toList_some, Option.toList_none, List.cons_append, List.nil_append, fk_b_0, nI_add, Nat.add_zero, Nat.zero_add, not_true_eq_false, not_false_eq_true, if_true, if_false, sI_le_t, sI_le_f, sI_lt_t, sI_lt_f, sI_eq_t, sI_eq_f, sI_rem, sI_div, sI_m1a, sI_m1b, sI_m1c, sI_m1d, sI_m1e, sI_m1f, sI_m2a, sI_m2b, sI_sub, pk_mul, sI_dec, fk_u_s, fk_u_o, sI_dec0, sI_z, sI_md, Bool.false_eq_true, Nat.reduceAdd, Nat.reduceMul, Nat.reduceSub, Nat.reduceMod, Nat.reduceDiv]
                exact s1
              have Y1 : Y 1 0 = nI c := by rw [YF 1 (by omega) (by omega) (by omega)]; exact q2
              have by0 := mX6_by (N := N) (l := l) (d := d + 7) (y := Y) (c := c) (by omega)
              rw [eB] at by0
              rcases hwc with rfl | ⟨q, hq, rfl⟩
              · simp (disch := first | assumption | omega) only [rX11_joined, t2, tk1, mX10_clear, eY, Y1, nI_clamp, by0, sk, Option.bind_some, Option.toList_some, Option.toList_none, List.cons_append, List.nil_append, fk_b_0, nI_add, Nat.add_zero, Nat.zero_add, not_true_eq_false, not_false_eq_true, if_true, if_false, sI_le_t, sI_le_f, sI_lt_t, sI_lt_f, sI_eq_t, sI_eq_f, sI_rem, sI_div, sI_m1a, sI_m1b, sI_m1c, sI_m1d, sI_m1e, sI_m1f, sI_m2a, sI_m2b, sI_sub, pk_mul, sI_dec, fk_u_s, fk_u_o, sI_dec0, sI_z, sI_md, Bool.false_eq_true, Nat.reduceAdd, Nat.reduceMul, Nat.reduceSub, Nat.reduceMod, Nat.reduceDiv]
              · simp (disch := first | assumption | omega) only [rX11_joined, t2, tk1, mX10_clear, eY, mX11_within, and_self, Y1, nI_clamp, by0, sk, Option.bind_some, Option.toList_some, Option.toList_none, List.cons_append, List.nil_append, fk_b_0, nI_add, Nat.add_zero, Nat.zero_add, not_true_eq_false, not_false_eq_true, if_true, if_false, sI_le_t, sI_le_f, sI_lt_t, sI_lt_f, sI_eq_t, sI_eq_f, sI_rem, sI_div, sI_m1a, sI_m1b, sI_m1c, sI_m1d, sI_m1e, sI_m1f, sI_m2a, sI_m2b, sI_sub, pk_mul, sI_dec, fk_u_s, fk_u_o, sI_dec0, sI_z, sI_md, Bool.false_eq_true, Nat.reduceAdd, Nat.reduceMul, Nat.reduceSub, Nat.reduceMod, Nat.reduceDiv]
            have R1 : fk_ev (d + 8) qX12_joined 0 [.ref 246, .int (nI m), .int w, .null, .null, .null, .null, .null] [] (fk_E N C l) = fk_ev (d + 8) qX12_joined 134 [.ref 246, .int (nI m), .int w, .int (nI (m ^ m)), .int (nI bb.1), .int (nI bb.2), .int (nI (m ^ m)), x7] [] (fk_E N E l) := by
              have C10 : C 246 10 = nI t := by rw [CF 246 (by omega) (by omega) (by omega) (by omega) (by omega) (by omega) (by omega)]; exact t3
              have a1 : fk_ev (d + 8) qX12_joined 0 [.ref 246, .int (nI m), .int w, .null, .null, .null, .null, .null] [] (fk_E N C l) = fk_ev (d + 8) qX12_joined 54 [.ref 246, .int (nI m), .int w, .int (nI (m ^ 0)), .int (nI 0), .null, .null, .null] [] (fk_E N Z' l) := by
                rw [Nat.pow_zero]
                have win2 := win
                rw [sI_sub (by omega)] at win2
                simp (disch := first | assumption | omega) only [rX12_joined, mX12_in, and_self, C10, z5, win2, Option.bind_some, Option.toList_some, Option.toList_none, List.cons_append, List.nil_append, fk_b_0, nI_add, Nat.add_zero, Nat.zero_add, not_true_eq_false, not_false_eq_true, if_true, if_false, sI_le_t, sI_le_f, sI_lt_t, sI_lt_f, sI_eq_t, sI_eq_f, sI_rem, sI_div, sI_m1a, sI_m1b, sI_m1c, sI_m1d, sI_m1e, sI_m1f, sI_m2a, sI_m2b, sI_sub, pk_mul, sI_dec, fk_u_s, fk_u_o, sI_dec0, sI_z, sI_md, Bool.false_eq_true, Nat.reduceAdd, Nat.reduceMul, Nat.reduceSub, Nat.reduceMod, Nat.reduceDiv]
              have a2 : fk_ev (d + 8) qX12_joined 54 [.ref 246, .int (nI m), .int w, .int (nI (m ^ m)), .int (nI m), .null, .null, .null] [] (fk_E N Z' l) = fk_ev (d + 8) qX12_joined 79 [.ref 246, .int (nI m), .int w, .int (nI (m ^ m)), .int (-1), .int (-1), .int (nI 0), .null] [] (fk_E N Z' l) := by
                rw [hX12_joined_54]
                simp (disch := first | assumption | omega) only [rX12_joined, Option.bind_some, Option.toList_some, Option.toList_none, List.cons_append, List.nil_append, fk_b_0, nI_add, Nat.add_zero, Nat.zero_add, not_true_eq_false, not_false_eq_true, if_true, if_false, sI_le_t, sI_le_f, sI_lt_t, sI_lt_f, sI_eq_t, sI_eq_f, sI_rem, sI_div, sI_m1a, sI_m1b, sI_m1c, sI_m1d, sI_m1e, sI_m1f, sI_m2a, sI_m2b, sI_sub, pk_mul, sI_dec, fk_u_s, fk_u_o, sI_dec0, sI_z, sI_md, Bool.false_eq_true, Nat.reduceAdd, Nat.reduceMul, Nat.reduceSub, Nat.reduceMod, Nat.reduceDiv]
              have jl' : fk_ev (d + 8) qX12_joined 79 [.ref 246, .int (nI m), .int w, .int (nI (m ^ m)), .int (-1), .int (-1), .int (nI 0), .null] [] (fk_E N Z' l) = fk_ev (d + 8) qX12_joined 79 [.ref 246, .int (nI m), .int w, .int (nI (m ^ m)), .int (nI bb.1), .int (nI bb.2), .int (nI (m ^ m)), x7] [] (fk_E N D l) := jl
              rw [a1, eRows, a2, jl', hX12_joined_79]
              simp (disch := first | assumption | omega) only [rX12_joined, e1, Option.bind_some, Option.toList_some, Option.toList_none, List.cons_append, List.nil_append, fk_b_0, nI_add, Nat.add_zero, Nat.zero_add, not_true_eq_false, not_false_eq_true, if_true, if_false, sI_le_t, sI_le_f, sI_lt_t, sI_lt_f, sI_eq_t, sI_eq_f, sI_rem, sI_div, sI_m1a, sI_m1b, sI_m1c, sI_m1d, sI_m1e, sI_m1f, sI_m2a, sI_m2b, sI_sub, pk_mul, sI_dec, fk_u_s, fk_u_o, sI_dec0, sI_z, sI_md, Bool.false_eq_true, Nat.reduceAdd, Nat.reduceMul, Nat.reduceSub, Nat.reduceMod, Nat.reduceDiv]
            rcases hwc with rfl | ⟨q, hq, rfl⟩
            · refine ⟨nI bb.2, C, E, ?_, ?_, hcR⟩
              · rw [C1]
                simp (disch := first | assumption | omega) only [rX11_joined, c3', Option.bind_some, Option.toList_some, Option.toList_none, List.cons_append, List.nil_append, fk_b_0, nI_add, Nat.add_zero, Nat.zero_add, not_true_eq_false, not_false_eq_true, if_true, if_false, sI_le_t, sI_le_f, sI_lt_t, sI_lt_f, sI_eq_t, sI_eq_f, sI_rem, sI_div, sI_m1a, sI_m1b, sI_m1c, sI_m1d, sI_m1e, sI_m1f, sI_m2a, sI_m2b, sI_sub, pk_mul, sI_dec, fk_u_s, fk_u_o, sI_dec0, sI_z, sI_md, Bool.false_eq_true, Nat.reduceAdd, Nat.reduceMul, Nat.reduceSub, Nat.reduceMod, Nat.reduceDiv]
              · rw [R1]
                simp (disch := first | assumption | omega) only [rX12_joined, Option.bind_some, Option.toList_some, Option.toList_none, List.cons_append, List.nil_append, fk_b_0, nI_add, Nat.add_zero, Nat.zero_add, not_true_eq_false, not_false_eq_true, if_true, if_false, sI_le_t, sI_le_f, sI_lt_t, sI_lt_f, sI_eq_t, sI_eq_f, sI_rem, sI_div, sI_m1a, sI_m1b, sI_m1c, sI_m1d, sI_m1e, sI_m1f, sI_m2a, sI_m2b, sI_sub, pk_mul, sI_dec, fk_u_s, fk_u_o, sI_dec0, sI_z, sI_md, Bool.false_eq_true, Nat.reduceAdd, Nat.reduceMul, Nat.reduceSub, Nat.reduceMod, Nat.reduceDiv]
            · have dq := jp_d_lt (c := bb.1) (i := q) (show 1 ≤ m by omega)
              refine ⟨nI (R' (jp_d m bb.1 q)), C, E, ?_, ?_, hcR⟩
              · rw [C1]
                simp (disch := first | assumption | omega) only [rX11_joined, c4' q hq, Option.bind_some, Option.toList_some, Option.toList_none, List.cons_append, List.nil_append, fk_b_0, nI_add, Nat.add_zero, Nat.zero_add, not_true_eq_false, not_false_eq_true, if_true, if_false, sI_le_t, sI_le_f, sI_lt_t, sI_lt_f, sI_eq_t, sI_eq_f, sI_rem, sI_div, sI_m1a, sI_m1b, sI_m1c, sI_m1d, sI_m1e, sI_m1f, sI_m2a, sI_m2b, sI_sub, pk_mul, sI_dec, fk_u_s, fk_u_o, sI_dec0, sI_z, sI_md, Bool.false_eq_true, Nat.reduceAdd, Nat.reduceMul, Nat.reduceSub, Nat.reduceMod, Nat.reduceDiv]
              · rw [R1]
                have x1 := e3 bds q hq
                have x2 : E 271 (jp_d m bb.1 q) = nI (R' (jp_d m bb.1 q)) := by rw [EF 271 (by omega) (by omega) (by omega)]; exact z6 _ dq
                simp (disch := first | assumption | omega) only [rX12_joined, x1, x2, Option.bind_some, Option.toList_some, Option.toList_none, List.cons_append, List.nil_append, fk_b_0, nI_add, Nat.add_zero, Nat.zero_add, not_true_eq_false, not_false_eq_true, if_true, if_false, sI_le_t, sI_le_f, sI_lt_t, sI_lt_f, sI_eq_t, sI_eq_f, sI_rem, sI_div, sI_m1a, sI_m1b, sI_m1c, sI_m1d, sI_m1e, sI_m1f, sI_m2a, sI_m2b, sI_sub, pk_mul, sI_dec, fk_u_s, fk_u_o, sI_dec0, sI_z, sI_md, Bool.false_eq_true, Nat.reduceAdd, Nat.reduceMul, Nat.reduceSub, Nat.reduceMod, Nat.reduceDiv]
        · obtain ⟨Z', z1, z2, z3, z4, z5, z6⟩ := ref Y fun k hk => YF k (by omega) (by omega) (by omega)
          have win : ¬ ((-1 : Int32) ≤ w ∧ w ≤ nI (m - 1)) := fun z => by
            rcases fk_ge_m1.mp (Int32.not_lt.mpr z.1) with h | h
            · exact w1 h
            · exact w2 ⟨h, Int32.lt_of_le_of_lt z.2 (nI_lt (by omega) (by omega))⟩
          refine ⟨(-3), Y, Z', ?_, ?_, cR_clr hR (fun k hk => by rw [z1 k (by omega) (by omega), YF k (by omega) (by omega) (by omega)]) (fun i hi => z2 i (by omega) (by omega)) (by rw [z1 26 (by omega) (by omega)]; exact Y26) z4⟩
          · simp (disch := first | assumption | omega) only [rX11_joined, t2, tk1, mX10_clear, eY, w1, mX11_within, w2, Option.bind_some, Option.toList_some, Option.toList_none, List.cons_append, List.nil_append, fk_b_0, nI_add, Nat.add_zero, Nat.zero_add, not_true_eq_false, not_false_eq_true, if_true, if_false, sI_le_t, sI_le_f, sI_lt_t, sI_lt_f, sI_eq_t, sI_eq_f, sI_rem, sI_div, sI_m1a, sI_m1b, sI_m1c, sI_m1d, sI_m1e, sI_m1f, sI_m2a, sI_m2b, sI_sub, pk_mul, sI_dec, fk_u_s, fk_u_o, sI_dec0, sI_z, sI_md, Bool.false_eq_true, Nat.reduceAdd, Nat.reduceMul, Nat.reduceSub, Nat.reduceMod, Nat.reduceDiv]
          · have e10 : Y 246 10 = nI t := by rw [YF 246 (by omega) (by omega) (by omega)]; exact t3
            simp (disch := first | assumption | omega) only [rX12_joined, mX12_in, and_self, e10, z5, win, Option.bind_some, Option.toList_some, Option.toList_none, List.cons_append, List.nil_append, fk_b_0, nI_add, Nat.add_zero, Nat.zero_add, not_true_eq_false, not_false_eq_true, if_true, if_false, sI_le_t, sI_le_f, sI_lt_t, sI_lt_f, sI_eq_t, sI_eq_f, sI_rem, sI_div, sI_m1a, sI_m1b, sI_m1c, sI_m1d, sI_m1e, sI_m1f, sI_m2a, sI_m2b, sI_sub, pk_mul, sI_dec, fk_u_s, fk_u_o, sI_dec0, sI_z, sI_md, Bool.false_eq_true, Nat.reduceAdd, Nat.reduceMul, Nat.reduceSub, Nat.reduceMod, Nat.reduceDiv]
    · refine ⟨(-1), y, y, ?_, ?_, hR⟩
      · simp (disch := first | assumption | omega) only [rX11_joined, t2, Option.bind_some, Option.toList_some, Option.toList_none, List.cons_append, List.nil_append, fk_b_0, nI_add, Nat.add_zero, Nat.zero_add, not_true_eq_false, not_false_eq_true, if_true, if_false, sI_le_t, sI_le_f, sI_lt_t, sI_lt_f, sI_eq_t, sI_eq_f, sI_rem, sI_div, sI_m1a, sI_m1b, sI_m1c, sI_m1d, sI_m1e, sI_m1f, sI_m2a, sI_m2b, sI_sub, pk_mul, sI_dec, fk_u_s, fk_u_o, sI_dec0, sI_z, sI_md, Bool.false_eq_true, Nat.reduceAdd, Nat.reduceMul, Nat.reduceSub, Nat.reduceMod, Nat.reduceDiv]
      · simp (disch := first | assumption | omega) only [rX12_joined, mX12_in, and_self, t3, Option.bind_some, Option.toList_some, Option.toList_none, List.cons_append, List.nil_append, fk_b_0, nI_add, Nat.add_zero, Nat.zero_add, not_true_eq_false, not_false_eq_true, if_true, if_false, sI_le_t, sI_le_f, sI_lt_t, sI_lt_f, sI_eq_t, sI_eq_f, sI_rem, sI_div, sI_m1a, sI_m1b, sI_m1c, sI_m1d, sI_m1e, sI_m1f, sI_m2a, sI_m2b, sI_sub, pk_mul, sI_dec, fk_u_s, fk_u_o, sI_dec0, sI_z, sI_md, Bool.false_eq_true, Nat.reduceAdd, Nat.reduceMul, Nat.reduceSub, Nat.reduceMod, Nat.reduceDiv]
  · refine ⟨(-1), y, y, ?_, ?_, hR⟩
    · by_cases c1 : u < nI 2
      · simp (disch := first | assumption | omega) only [rX11_joined, c1, Option.bind_some, Option.toList_some, Option.toList_none, List.cons_append, List.nil_append, fk_b_0, nI_add, Nat.add_zero, Nat.zero_add, not_true_eq_false, not_false_eq_true, if_true, if_false, sI_le_t, sI_le_f, sI_lt_t, sI_lt_f, sI_eq_t, sI_eq_f, sI_rem, sI_div, sI_m1a, sI_m1b, sI_m1c, sI_m1d, sI_m1e, sI_m1f, sI_m2a, sI_m2b, sI_sub, pk_mul, sI_dec, fk_u_s, fk_u_o, sI_dec0, sI_z, sI_md, Bool.false_eq_true, Nat.reduceAdd, Nat.reduceMul, Nat.reduceSub, Nat.reduceMod, Nat.reduceDiv]
      · have c2 : nI 5 < u := Int32.not_le.mp fun z => hu ⟨Int32.not_lt.mp c1, z⟩
        simp (disch := first | assumption | omega) only [rX11_joined, c1, c2, Option.bind_some, Option.toList_some, Option.toList_none, List.cons_append, List.nil_append, fk_b_0, nI_add, Nat.add_zero, Nat.zero_add, not_true_eq_false, not_false_eq_true, if_true, if_false, sI_le_t, sI_le_f, sI_lt_t, sI_lt_f, sI_eq_t, sI_eq_f, sI_rem, sI_div, sI_m1a, sI_m1b, sI_m1c, sI_m1d, sI_m1e, sI_m1f, sI_m2a, sI_m2b, sI_sub, pk_mul, sI_dec, fk_u_s, fk_u_o, sI_dec0, sI_z, sI_md, Bool.false_eq_true, Nat.reduceAdd, Nat.reduceMul, Nat.reduceSub, Nat.reduceMod, Nat.reduceDiv]
    · simp (disch := first | assumption | omega) only [rX12_joined, mX12_in, hu, Option.bind_some, Option.toList_some, Option.toList_none, List.cons_append, List.nil_append, fk_b_0, nI_add, Nat.add_zero, Nat.zero_add, not_true_eq_false, not_false_eq_true, if_true, if_false, sI_le_t, sI_le_f, sI_lt_t, sI_lt_f, sI_eq_t, sI_eq_f, sI_rem, sI_div, sI_m1a, sI_m1b, sI_m1c, sI_m1d, sI_m1e, sI_m1f, sI_m2a, sI_m2b, sI_sub, pk_mul, sI_dec, fk_u_s, fk_u_o, sI_dec0, sI_z, sI_md, Bool.false_eq_true, Nat.reduceAdd, Nat.reduceMul, Nat.reduceSub, Nat.reduceMod, Nat.reduceDiv]
end JO7
