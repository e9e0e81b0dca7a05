section CL3
variable {N : Nat} {S : Nat → Int32} {v y y1 y2 : Nat → Nat → Int32} {l : Nat → Nat → Int64} {d p n H : Nat} {A A' : Nat → Int32}
theorem ab_ok_mono {v' : Nat → Nat → Int32} (h : ∀ r, fk_tb (v 246 3) r = true → fk_tb (v' 246 3) r = true) (ho : ab_ok v n H A) : ab_ok v' n H A := by
  obtain ⟨h1, h2, h3, h4, h5, h6, h7⟩ := ho
  refine ⟨h1, h2, h3, h4, h5, fun j hj => ?_, h7⟩
  obtain ⟨a1, a2, a3, a4, a5, a6⟩ := h6 j hj
  refine ⟨a1, a2, a3, a4, ?_, a6⟩
  rcases a5 with a5 | ⟨b1, r, q, b2, b3, b4, b5⟩
  · exact Or.inl a5
  · exact Or.inr ⟨b1, r, q, b2, b3, h r b4, b5⟩
/-- roads or notices have been told -/
theorem cR_net (hR : cR S y) (hf : ∀ k, ¬ (18 ≤ k ∧ k ≤ 25) → ¬ (250 ≤ k ∧ k ≤ 254) → k ≠ 246 → y2 k = y k) (h246 : ∀ i, i ≠ 3 → y2 246 i = y 246 i) (h3 : ∀ r, fk_tb (y 246 3) r = true → fk_tb (y2 246 3) r = true) (hv : ab_rv y2) (hn : ck_nt y2 y2) : cR S y2 := by
  obtain ⟨r0, r1, r2, ⟨n, H, p1, p2, p3, p4⟩, r4, r5, r6, r7, r8, r9⟩ := hR
  refine ⟨(hf 0 (by omega) (by omega) (by omega)).trans r0, hv, hn, ?_, ?_, ?_, ?_, (h246 33 (by omega)).trans r7, (h246 36 (by omega)).trans r8, fun j hj => by rw [hf _ (by omega) (by omega) (by omega)]; exact r9 j hj⟩
  · rw [hf 247 (by omega) (by omega) (by omega)]
    exact ⟨n, H, ab_ok_mono h3 p1, p2, ck_pr_k p3 fun k k1 k2 => hf k (by omega) (by omega) (by omega), fun i hi => by rw [hf 235 (by omega) (by omega) (by omega)]; exact p4 i hi⟩
  · obtain ⟨q1, q2⟩ := r4
    refine ⟨fun j hj => by rw [hf _ (by omega) (by omega) (by omega)]; exact q1 j hj, ?_⟩
    rw [hf 1 (by omega) (by omega) (by omega), h246 49 (by omega), hf 249 (by omega) (by omega) (by omega)]
    rcases q2 with q2 | ⟨q2, q3, n', H', q4, q5, q6, q7⟩
    · exact Or.inl q2
    · exact Or.inr ⟨q2, q3, n', H', ab_ok_mono h3 q4, q5, ck_pr_k q6 fun k k1 k2 => hf k (by omega) (by omega) (by omega), fun i hi => by rw [hf 237 (by omega) (by omega) (by omega)]; exact q7 i hi⟩
  · obtain ⟨t, q1, q2, q3, q4⟩ := r5
    exact ⟨t, q1, by rw [hf 26 (by omega) (by omega) (by omega)]; exact q2, (h246 10 (by omega)).trans q3, fun i hi => by rw [hf 27 (by omega) (by omega) (by omega), hf 255 (by omega) (by omega) (by omega)]; exact q4 i hi⟩
  · obtain ⟨c, W, q1, q2, q3, q4, q5, q6⟩ := r6
    refine ⟨c, W, q1, by rw [hf 1 (by omega) (by omega) (by omega)]; exact q2, by rw [hf 1 (by omega) (by omega) (by omega)]; exact q3, ck_LC_c (fun k k1 k2 => hf k (by omega) (by omega) (by omega)) (by rw [hf c (by omega) (by omega) (by omega)]) (by rw [hf c (by omega) (by omega) (by omega)]) q4, fk_LR_c (fun k k1 k2 => hf k (by omega) (by omega) (by omega)) (h246 19 (by omega)) q5, by rw [hf c (by omega) (by omega) (by omega), h246 19 (by omega)]; exact q6⟩
theorem fk_ge_m1 {f : Int32} : ¬ f < (-1) ↔ f = (-1) ∨ nI 0 ≤ f := by
  rw [Int32.lt_iff_toInt_lt, Int32.le_iff_toInt_le, ← Int32.toInt_inj, fk_m1i, fk_toInt_nI (by omega)]
  omega
theorem mX11_notice_no {q f so : Int32} (hg : ¬ ((nI 0 ≤ q ∧ q < nI 16) ∧ (f = (-1) ∨ (nI 0 ≤ f ∧ f < nI 16)))) : fk_ev (d + 1) qX11_notice 0 [.ref 1, .int q, .int f, .int so] [] (fk_E N y l) = some (some (.int ((nI 0))), fk_E N y l) := by
  simp (disch := first | assumption | omega) only [rX11_notice, mX11_within, Option.bind_some, Option.toList_some, Option.toList_none, List.cons_append, List.nil_append, fk_b_0, nI_add, Nat.add_zero, Nat.zero_add, not_true_eq_false, not_false_eq_true, if_true, if_false, sI_le_t, sI_le_f, sI_lt_t, sI_lt_f, sI_eq_t, sI_eq_f, sI_rem, sI_div, sI_m1a, sI_m1b, sI_m1c, sI_m1d, sI_m1e, sI_m1f, sI_m2a, sI_m2b, sI_sub, pk_mul, sI_dec, fk_u_s, fk_u_o, sI_dec0, sI_z, sI_md, Bool.false_eq_true, Nat.reduceAdd, Nat.reduceMul, Nat.reduceSub, Nat.reduceMod, Nat.reduceDiv]
  by_cases h1 : nI 0 ≤ q ∧ q < nI 16
  · rw [if_neg fun z => z h1]
    by_cases h2 : f < (-1)
    · rw [if_pos h2]
    · rw [if_neg h2]
      rcases fk_ge_m1.mp h2 with h | h
      · exact absurd ⟨h1, Or.inl h⟩ hg
      · rw [if_neg fun z => hg ⟨h1, Or.inr ⟨h, z⟩⟩]
  · rw [if_pos h1]
theorem mX11_notice_ok {q : Nat} {f so : Int32} (hq : q < 16) (hf : f = (-1) ∨ (nI 0 ≤ f ∧ f < nI 16)) : fk_ev (d + 1) qX11_notice 0 [.ref 1, .int ((nI q)), .int f, .int so] [] (fk_E N y l) = some (some (.int ((nI 1))), fk_E N (fk_u (fk_u y 22 q f) 23 q (if so = nI 0 then nI 0 else nI 1)) l) := by
  have h2 : ¬ f < (-1) := fk_ge_m1.mpr (by rcases hf with h | h; exact Or.inl h; exact Or.inr h.1)
  have h3 : f < nI 16 := by
    rcases hf with rfl | h
    · decide
    · exact h.2
  by_cases h : so = nI 0
  · simp (disch := first | assumption | omega) only [rX11_notice, mX11_within, and_self, h2, h3, h, eq_self, Option.bind_some, Option.toList_some, Option.toList_none, List.cons_append, List.nil_append, fk_b_0, nI_add, Nat.add_zero, Nat.zero_add, not_true_eq_false, not_false_eq_true, if_true, if_false, sI_le_t, sI_le_f, sI_lt_t, sI_lt_f, sI_eq_t, sI_eq_f, sI_rem, sI_div, sI_m1a, sI_m1b, sI_m1c, sI_m1d, sI_m1e, sI_m1f, sI_m2a, sI_m2b, sI_sub, pk_mul, sI_dec, fk_u_s, fk_u_o, sI_dec0, sI_z, sI_md, Bool.false_eq_true, Nat.reduceAdd, Nat.reduceMul, Nat.reduceSub, Nat.reduceMod, Nat.reduceDiv]
  · simp (disch := first | assumption | omega) only [rX11_notice, mX11_within, and_self, h2, h3, h, Option.bind_some, Option.toList_some, Option.toList_none, List.cons_append, List.nil_append, fk_b_0, nI_add, Nat.add_zero, Nat.zero_add, not_true_eq_false, not_false_eq_true, if_true, if_false, sI_le_t, sI_le_f, sI_lt_t, sI_lt_f, sI_eq_t, sI_eq_f, sI_rem, sI_div, sI_m1a, sI_m1b, sI_m1c, sI_m1d, sI_m1e, sI_m1f, sI_m2a, sI_m2b, sI_sub, pk_mul, sI_dec, fk_u_s, fk_u_o, sI_dec0, sI_z, sI_md, Bool.false_eq_true, Nat.reduceAdd, Nat.reduceMul, Nat.reduceSub, Nat.reduceMod, Nat.reduceDiv]
theorem cl_notice (hR : cR S y) {q f so : Int32} (hso : so = nI 0 ∨ so = nI 1) : ∃ a y1 y2, fk_ev (d + 8) qX11_notice 0 [.ref 1, .int q, .int f, .int so] [] (fk_E N y l) = some (some (.int a), fk_E N y1 l) ∧ fk_ev (d + 8) qX12_notice 0 [.ref 246, .int q, .int f, .int so] [] (fk_E N y1 l) = some (some (.int a), fk_E N y2 l) ∧ cR S y2 := by
  by_cases hg : (nI 0 ≤ q ∧ q < nI 16) ∧ (f = (-1) ∨ (nI 0 ≤ f ∧ f < nI 16))
  · obtain ⟨g1, g2⟩ := hg
    obtain ⟨q, hq, rfl⟩ := fk_ixn g1.1 g1.2 (by omega)
    obtain ⟨r0, r1, r2, _⟩ := id hR
    have eso : (if so = nI 0 then nI 0 else nI 1) = so := by
      rcases hso with rfl | rfl
      · rw [if_pos rfl]
      · rw [if_neg (by decide)]
    have ena : vp_nar .boolean so = so := by
      rcases hso with rfl | rfl
      · exact fk_nar0
      · exact fk_nar1
    have e0 := mX11_notice_ok (N := N) (y := y) (l := l) (d := d + 7) (so := so) hq g2
    have e := mX12_notice_ok (N := N) (y := fk_u (fk_u y 22 q f) 23 q so) (l := l) (d := d + 7) (s := so) hq g2
    rw [eso] at e0
    rw [ena] at e
    refine ⟨nI 1, _, _, e0, e, cR_net hR (fun k h1 h2 h3 => ?_) (fun i hi => ?_) (fun r hr => ?_) ?_ ?_⟩
    · rw [fk_u_rowo (by omega), fk_u_rowo (by omega), fk_u_rowo (by omega), fk_u_rowo (by omega)]
    · rw [fk_u_o (by omega), fk_u_o (by omega), fk_u_o (by omega), fk_u_o (by omega)]
    · rw [fk_u_o (by omega), fk_u_o (by omega), fk_u_o (by omega), fk_u_o (by omega)]; exact hr
    · refine ⟨fun r hr ht => ?_, fun p hp => ?_, fun p hp => ?_⟩
      · simp (disch := omega) only [fk_u_o] at ht ⊢
        exact r1.1 r hr ht
      · by_cases e : p = q
        · subst e
          simp (disch := omega) only [fk_u_o, fk_u_s]
          rcases g2 with h | h
          · exact Or.inl h
          · exact Or.inr (fk_ixn h.1 h.2 (by omega))
        · simp (disch := omega) only [fk_u_o]
          exact r1.2.1 p hp
      · by_cases e : p = q
        · subst e
          simp (disch := omega) only [fk_u_s]
          exact hso
        · simp (disch := omega) only [fk_u_o]
          exact r1.2.2 p hp
    · obtain ⟨s1, s2, s3, s4⟩ := r2
      refine ⟨fun r hr ht => ?_, fun r hr ht => ?_, fun p hp => ?_, fun p p' hp => ?_⟩
      · simp (disch := omega) only [fk_u_o] at ht ⊢
        exact s1 r hr ht
      · simp (disch := omega) only [fk_u_o] at ht ⊢
        exact s2 r hr ht
      · by_cases e : p = q
        · subst e
          simp (disch := omega) only [fk_u_o, fk_u_s]
          exact ⟨trivial, trivial⟩
        · simp (disch := omega) only [fk_u_o]
          exact s3 p hp
      · simp (disch := omega) only [fk_u_o]
        exact s4 p p' hp
  · exact ⟨nI 0, y, y, mX11_notice_no (d := d + 7) hg, mX12_notice_no (d := d + 7) hg, hR⟩
/-- a row filled with one number -/
def ck_fi (y : Nat → Nat → Int32) (c n : Nat) (x : Int32) : Nat → Nat → Int32 := fun a j => if a = c ∧ j < n then x else y a j
theorem ck_fi_o {c n a : Nat} {x : Int32} (h : a ≠ c) : ck_fi y c n x a = y a := by
  funext j
  exact if_neg fun z => h z.1
theorem ck_fi_s {c n j : Nat} {x : Int32} (h : j < n) : ck_fi y c n x c j = x := if_pos ⟨rfl, h⟩
theorem mJ7_fill {c m : Nat} {x : Int32} (hc : fk_at c 20) (hs : (fk_shp c).2 = m) (hm : m < 2147483648) : fk_ev d qJ7_fill_53178 0 [.ref c, .int x, .null, .null] [] (fk_E N y l) = some (none, fk_E N (ck_fi y c m x) l) := by
  have e := fk_loop0 (fun k (_ : Unit) => fk_ev d qJ7_fill_53178 5 [.ref c, .int x, .int (nI k), .int (nI m)] [] (fk_E N (ck_fi y c k x) l)) (fun _ s => s) m (by
    intro k s hk
    try dsimp only
    have e1 : fk_u (ck_fi y c k x) c k x = ck_fi y c (k + 1) x := by
      funext a i
      unfold fk_u ck_fi
      grind
    rw [hJ7_fill_53178_5]
    simp (disch := first | assumption | omega) only [rJ7_fill_53178, e1, Option.bind_some, Option.toList_some, Option.toList_none, List.cons_append, List.nil_append, fk_b_0, nI_add, Nat.add_zero, Nat.zero_add, not_true_eq_false, not_false_eq_true, if_true, if_false, sI_le_t, sI_le_f, sI_lt_t, sI_lt_f, sI_eq_t, sI_eq_f, sI_rem, sI_div, sI_m1a, sI_m1b, sI_m1c, sI_m1d, sI_m1e, sI_m1f, sI_m2a, sI_m2b, sI_sub, pk_mul, sI_dec, fk_u_s, fk_u_o, sI_dec0, sI_z, sI_md, Bool.false_eq_true, Nat.reduceAdd, Nat.reduceMul, Nat.reduceSub, Nat.reduceMod, Nat.reduceDiv]) ()
  try dsimp only at e
  have e0 : ck_fi y c 0 x = y := by
    funext a i
    exact if_neg fun z => by omega
  rw [e0] at e
  simp (disch := first | assumption | omega) only [rJ7_fill_53178, hs, Option.bind_some, Option.toList_some, Option.toList_none, List.cons_append, List.nil_append, fk_b_0, nI_add, Nat.add_zero, Nat.zero_add, not_true_eq_false, not_false_eq_true, if_true, if_false, sI_le_t, sI_le_f, sI_lt_t, sI_lt_f, sI_eq_t, sI_eq_f, sI_rem, sI_div, sI_m1a, sI_m1b, sI_m1c, sI_m1d, sI_m1e, sI_m1f, sI_m2a, sI_m2b, sI_sub, pk_mul, sI_dec, fk_u_s, fk_u_o, sI_dec0, sI_z, sI_md, Bool.false_eq_true, Nat.reduceAdd, Nat.reduceMul, Nat.reduceSub, Nat.reduceMod, Nat.reduceDiv]
  rw [e, hJ7_fill_53178_5]
  simp (disch := first | assumption | omega) only [rJ7_fill_53178, Option.bind_some, Option.toList_some, Option.toList_none, List.cons_append, List.nil_append, fk_b_0, nI_add, Nat.add_zero, Nat.zero_add, not_true_eq_false, not_false_eq_true, if_true, if_false, sI_le_t, sI_le_f, sI_lt_t, sI_lt_f, sI_eq_t, sI_eq_f, sI_rem, sI_div, sI_m1a, sI_m1b, sI_m1c, sI_m1d, sI_m1e, sI_m1f, sI_m2a, sI_m2b, sI_sub, pk_mul, sI_dec, fk_u_s, fk_u_o, sI_dec0, sI_z, sI_md, Bool.false_eq_true, Nat.reduceAdd, Nat.reduceMul, Nat.reduceSub, Nat.reduceMod, Nat.reduceDiv]
theorem mX5_tellRoad {r f t g : Nat} (hv : ab_rv v) (hN : ck_nt v y) (hr : r < 32) (hf : f < 16) (ht : t < 16) : ∃ y', fk_ev (d + 2) qX5_tellRoad 0 [.ref 18, .int ((nI r)), .int ((nI f)), .int ((nI t)), .int ((nI g)), .null] [] (fk_E N y l) = some (none, fk_E N y' l) ∧ (∀ i, y' 19 i = if i = r then nI f else y 19 i) ∧ (∀ i, y' 20 i = if i = r then nI t else y 20 i) ∧ (∀ i, y' 21 i = if i = r then nI g else y 21 i) ∧ (∀ k, k ≠ 19 → k ≠ 20 → k ≠ 21 → k ≠ 24 → y' k = y k) ∧ ∀ p q, p < 16 → (fk_tb (y' 24 p) q = true ↔ ∃ i, i < 32 ∧ (i = r ∨ fk_tb (v 246 3) i = true) ∧ (if i = r then nI f else v 250 i) = nI p ∧ (if i = r then nI t else v 251 i) = nI q ∧ q < 16) := by
  have h24 : fk_at 24 20 := ⟨by decide, by decide, by decide +kernel⟩
  have s24 : (fk_shp 24).2 = 16 := by decide +kernel
  generalize eY : fk_u (fk_u (fk_u y 19 r (nI f)) 20 r (nI t)) 21 r (nI g) = Y
  have y19 : ∀ i, Y 19 i = if i = r then nI f else y 19 i := fun i => by
    rw [← eY, fk_u_o (by omega), fk_u_o (by omega)]
    by_cases e : i = r
    · subst e; rw [fk_u_s, if_pos rfl]
    · rw [fk_u_o (by omega), if_neg e]
  have y20 : ∀ i, Y 20 i = if i = r then nI t else y 20 i := fun i => by
    rw [← eY, fk_u_o (by omega)]
    by_cases e : i = r
    · subst e; rw [fk_u_s, if_pos rfl]
    · rw [fk_u_o (by omega), fk_u_o (by omega), if_neg e]
  have y21 : ∀ i, Y 21 i = if i = r then nI g else y 21 i := fun i => by
    rw [← eY]
    by_cases e : i = r
    · subst e; rw [fk_u_s, if_pos rfl]
    · rw [fk_u_o (by omega), fk_u_o (by omega), fk_u_o (by omega), if_neg e]
  have yo : ∀ k, k ≠ 19 → k ≠ 20 → k ≠ 21 → Y k = y k := fun k k1 k2 k3 => by rw [← eY, fk_u_rowo k3, fk_u_rowo k2, fk_u_rowo k1]
  have key := fk_loopr (σ := Nat → Nat → Int32) (fun k z => fk_ev (d + 2) qX5_tellRoad 33 [.ref 18, .int (nI r), .int (nI f), .int (nI t), .int (nI g), .int (nI k)] [] (fk_E N z l)) (fun k z => (∀ c, c ≠ 24 → z c = Y c) ∧ ∀ p q, p < 16 → (fk_tb (z 24 p) q = true ↔ ∃ i, i < k ∧ (i = r ∨ fk_tb (v 246 3) i = true) ∧ (if i = r then nI f else v 250 i) = nI p ∧ (if i = r then nI t else v 251 i) = nI q ∧ q < 16)) 32 (by
    rintro k z hk ⟨i1, i2⟩
    try dsimp only
    have z19 : z 19 k = if k = r then nI f else y 19 k := by rw [i1 19 (by omega)]; exact y19 k
    have z20 : z 20 k = if k = r then nI t else y 20 k := by rw [i1 20 (by omega)]; exact y20 k
    rw [hX5_tellRoad_33]
    by_cases hT : k = r ∨ fk_tb (v 246 3) k = true
    · have hft : ∃ f' t' : Nat, f' < 16 ∧ t' < 16 ∧ z 19 k = nI f' ∧ z 20 k = nI t' ∧ (if k = r then nI f else v 250 k) = nI f' ∧ (if k = r then nI t else v 251 k) = nI t' := by
        by_cases e : k = r
        · exact ⟨f, t, hf, ht, by rw [z19, if_pos e], by rw [z20, if_pos e], if_pos e, if_pos e⟩
        · have hb : fk_tb (v 246 3) k = true := hT.resolve_left e
          obtain ⟨⟨f', hf', e1⟩, ⟨t', ht', e2⟩, _⟩ := hv.1 k hk hb
          obtain ⟨n1, n2, n3⟩ := hN.1 k hk hb
          exact ⟨f', t', hf', ht', by rw [z19, if_neg e, n1, e1], by rw [z20, if_neg e, n2, e2], by rw [if_neg e, e1], by rw [if_neg e, e2]⟩
      obtain ⟨f', t', hf', ht', e1, e2, e3, e4⟩ := hft
      refine ⟨fk_u z 24 f' (z 24 f' ||| nI 1 <<< (nI t' &&& 31)), ?_, fun c hc => by rw [fk_u_rowo hc, i1 c hc], fun p q hp => ?_⟩
      · simp (disch := first | assumption | omega) only [rX5_tellRoad, mX5_isToldN, e1, e2, Option.bind_some, Option.toList_some, Option.toList_none, List.cons_append, List.nil_append, fk_b_0, nI_add, Nat.add_zero, Nat.zero_add, not_true_eq_false, not_false_eq_true, if_true, if_false, sI_le_t, sI_le_f, sI_lt_t, sI_lt_f, sI_eq_t, sI_eq_f, sI_rem, sI_div, sI_m1a, sI_m1b, sI_m1c, sI_m1d, sI_m1e, sI_m1f, sI_m2a, sI_m2b, sI_sub, pk_mul, sI_dec, fk_u_s, fk_u_o, sI_dec0, sI_z, sI_md, Bool.false_eq_true, Nat.reduceAdd, Nat.reduceMul, Nat.reduceSub, Nat.reduceMod, Nat.reduceDiv]
      · constructor
        · intro h
          by_cases ep : p = f'
          · subst ep
            rw [fk_u_s, fk_tb_or, Bool.or_eq_true, fk_tb_bitI (by omega)] at h
            rcases h with h | h
            · obtain ⟨i, h1, h2⟩ := (i2 p q hp).mp h
              exact ⟨i, by omega, h2⟩
            · subst h
              exact ⟨k, by omega, hT, e3, e4, ht'⟩
          · rw [fk_u_o (by omega)] at h
            obtain ⟨i, h1, h2⟩ := (i2 p q hp).mp h
            exact ⟨i, by omega, h2⟩
        · rintro ⟨i, h1, h2, h3, h4, h5⟩
          by_cases ei : i = k
          · subst ei
            rw [e3] at h3
            rw [e4] at h4
            have ep : p = f' := ((nI_eq (by omega) (by omega)).mp h3).symm
            have eq : q = t' := ((nI_eq (by omega) (by omega)).mp h4).symm
            subst ep eq
            rw [fk_u_s, fk_tb_or, Bool.or_eq_true, fk_tb_bitI (by omega)]
            exact Or.inr rfl
          · have hz : fk_tb (z 24 p) q = true := (i2 p q hp).mpr ⟨i, by omega, h2, h3, h4, h5⟩
            by_cases ep : p = f'
            · subst ep
              rw [fk_u_s, fk_tb_or, Bool.or_eq_true]
              exact Or.inl hz
            · rw [fk_u_o (by omega)]; exact hz
    · have hne : ¬ k = r := fun z => hT (Or.inl z)
      have hnt : ¬ fk_tb (v 246 3) k = true := fun z => hT (Or.inr z)
      have e1 : z 19 k = (-1) := by rw [z19, if_neg hne]; exact hN.2.1 k hk hnt
      refine ⟨z, ?_, i1, fun p q hp => ?_⟩
      · simp (disch := first | assumption | omega) only [rX5_tellRoad, mX5_isToldN, e1, show (nI 0 ≤ (-1 : Int32)) = False from eq_false (by decide), Option.bind_some, Option.toList_some, Option.toList_none, List.cons_append, List.nil_append, fk_b_0, nI_add, Nat.add_zero, Nat.zero_add, not_true_eq_false, not_false_eq_true, if_true, if_false, sI_le_t, sI_le_f, sI_lt_t, sI_lt_f, sI_eq_t, sI_eq_f, sI_rem, sI_div, sI_m1a, sI_m1b, sI_m1c, sI_m1d, sI_m1e, sI_m1f, sI_m2a, sI_m2b, sI_sub, pk_mul, sI_dec, fk_u_s, fk_u_o, sI_dec0, sI_z, sI_md, Bool.false_eq_true, Nat.reduceAdd, Nat.reduceMul, Nat.reduceSub, Nat.reduceMod, Nat.reduceDiv]
      · rw [i2 p q hp]
        constructor
        · rintro ⟨i, h1, h2⟩; exact ⟨i, by omega, h2⟩
        · rintro ⟨i, h1, h2, h3⟩
          have : i ≠ k := fun z => hT (z ▸ h2)
          exact ⟨i, by omega, h2, h3⟩) 32 0 (ck_fi Y 24 16 (nI 0)) rfl ⟨fun c hc => ck_fi_o hc, fun p q hp => by rw [ck_fi_s hp, fk_tb_0]; exact ⟨fun z => absurd z (by decide), fun ⟨i, h1, _⟩ => by omega⟩⟩
  obtain ⟨y', e, i1, i2⟩ := key
  refine ⟨y', ?_, fun i => by rw [i1 19 (by omega)]; exact y19 i, fun i => by rw [i1 20 (by omega)]; exact y20 i, fun i => by rw [i1 21 (by omega)]; exact y21 i, fun k k1 k2 k3 k4 => by rw [i1 k k4, yo k k1 k2 k3], i2⟩
  simp (disch := first | assumption | omega) only [rX5_tellRoad, eY, mJ7_fill h24 s24, Option.bind_some, Option.toList_some, Option.toList_none, List.cons_append, List.nil_append, fk_b_0, nI_add, Nat.add_zero, Nat.zero_add, not_true_eq_false, not_false_eq_true, if_true, if_false, sI_le_t, sI_le_f, sI_lt_t, sI_lt_f, sI_eq_t, sI_eq_f, sI_rem, sI_div, sI_m1a, sI_m1b, sI_m1c, sI_m1d, sI_m1e, sI_m1f, sI_m2a, sI_m2b, sI_sub, pk_mul, sI_dec, fk_u_s, fk_u_o, sI_dec0, sI_z, sI_md, Bool.false_eq_true, Nat.reduceAdd, Nat.reduceMul, Nat.reduceSub, Nat.reduceMod, Nat.reduceDiv]
  rw [e, hX5_tellRoad_33]
  simp (disch := first | assumption | omega) only [rX5_tellRoad, Option.bind_some, Option.toList_some, Option.toList_none, List.cons_append, List.nil_append, fk_b_0, nI_add, Nat.add_zero, Nat.zero_add, not_true_eq_false, not_false_eq_true, if_true, if_false, sI_le_t, sI_le_f, sI_lt_t, sI_lt_f, sI_eq_t, sI_eq_f, sI_rem, sI_div, sI_m1a, sI_m1b, sI_m1c, sI_m1d, sI_m1e, sI_m1f, sI_m2a, sI_m2b, sI_sub, pk_mul, sI_dec, fk_u_s, fk_u_o, sI_dec0, sI_z, sI_md, Bool.false_eq_true, Nat.reduceAdd, Nat.reduceMul, Nat.reduceSub, Nat.reduceMod, Nat.reduceDiv]
end CL3
