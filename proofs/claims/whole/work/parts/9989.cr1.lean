/-! THE LAW: the class reads a sum -/
section CR1
variable {N : Nat} {y y0 y1 y2 y' : Nat → Nat → Int32} {l : Nat → Nat → Int64} {d n a c s q i o : Nat} {bt : Nat → Nat} {v w : Int32}
abbrev lz_av (bt : Nat → Nat) (n a : Nat) (y : Nat → Nat → Int32) : Nat → Nat → Int32 := fk_u (fk_u y 28 4 (nI (a + 1))) 28 5 (ab_pk bt n (a + 1))
def lz_mp (K1 : List (Nat × Nat)) (v : Int32 ⊕ (Nat × List (Nat × List (Nat × Nat)))) : Int32 ⊕ (Nat × List (Nat × Nat)) := match v with
  | .inl e => .inl e
  | .inr z => .inr (z.1, K1 ++ lz_ar (lz_sgs z.2))
theorem lz_chain {S : Nat → Bool} {f : Nat → Int32 ⊕ (Nat × List (Nat × Nat))} {nd D : Nat} {Q : fk_Me} {L : List Value} (hc : c = 2 ∨ c = 10) (hn : n ≤ 240) (hS : ∀ b, S b = true → lz_ko (lz_sg b) = b ∧ 2 ≤ lz_sg b ∧ lz_sg b ≤ 9) (hQ : ∀ a, a ≤ n → lz_g n (lz_Q nd) a (f a)) (H : Int32 → Value → (Nat → Nat → Int32) → Option (Option Value × fk_H))
  (h1 : ∀ v x y, ¬ v = nI 0 → H v x y = some (some (.int v), fk_E N y l))
  (h2 : ∀ x a s y, lz_ct bt n c a s y → ¬ (a < n ∧ S (bt a) = true) → H (nI 0) x y = some (some (.int (nI 0)), fk_E N y l))
  (h3 : ∀ x a s y v2 y3 y4, lz_ct bt n c a s y → a < n → S (bt a) = true → y3 28 2 = nI c → fk_ev D Q 0 L [] (fk_E N (lz_av bt n a y) l) = some (some (.int v2), fk_E N y3 l) → fk_ev D qX3_add 0 [.ref c, .int (nI (bt a)), .int (nI 0)] [] (fk_E N y3 l) = some (none, fk_E N y4 l) → H (nI 0) x y = H v2 (.int (nI (bt a))) y4)
  (hf : lz_sp N l bt n c D Q L f) : ∀ k a (K1 : List (Nat × Nat)) y1 x, n ≤ k + a → lz_ct bt n c a (s + K1.length) y1 → s + K1.length ≤ a → lz_hc y1 c s K1 → (∀ i, i < s → y1 (c + 1) i = y (c + 1) i ∧ y1 (c + 2) i = y (c + 2) i) → fk_s9 c y y1 → ∃ v y', H (nI 0) x y1 = some (some (.int v), fk_E N y' l) ∧ fk_s9 c y y' ∧ lz_cR bt n c s y y' v (lz_mp K1 (lz_c bt n S f k a)) := by
  have stop : ∀ a (K1 : List (Nat × Nat)) y1 x, ¬ (a < n ∧ S (bt a) = true) → lz_ct bt n c a (s + K1.length) y1 → lz_hc y1 c s K1 → (∀ i, i < s → y1 (c + 1) i = y (c + 1) i ∧ y1 (c + 2) i = y (c + 2) i) → fk_s9 c y y1 → ∃ v y', H (nI 0) x y1 = some (some (.int v), fk_E N y' l) ∧ fk_s9 c y y' ∧ lz_cR bt n c s y y' v (lz_mp K1 (.inr (a, []))) := by
    intro a K1 y1 x cS hct hK hrow hs9
    refine ⟨nI 0, y1, h2 x a _ y1 hct cS, hs9, rfl, ?_, ?_, hrow⟩
    · show lz_ct bt n c a (s + (K1 ++ []).length) y1
      rw [List.append_nil]; exact hct
    · show lz_hc y1 c s (K1 ++ [])
      rw [List.append_nil]; exact hK
  intro k
  induction k with
  | zero =>
    intro a K1 y1 x hk hct _ hK hrow hs9
    exact stop a K1 y1 x (by omega) hct hK hrow hs9
  | succ k ih =>
    intro a K1 y1 x hk hct hsa hK hrow hs9
    unfold lz_c
    by_cases cS : a < n ∧ S (bt a) = true
    · rw [if_pos cS]
      have hadv := lz_ct_adv hct cS.1
      have hsav := lz_s9_adv hct
      obtain ⟨v2, y3, e1, e2, e3⟩ := hf (a + 1) (s + K1.length) _ hadv (by omega)
      have g := hQ (a + 1) cS.1
      have y32 : y3 28 2 = nI c := by rw [e2.2.1 2 (by omega) (by omega)]; exact hadv.2.1
      cases ef : f (a + 1) with
      | inl e =>
        rw [ef] at e3
        obtain ⟨rfl, e4, e5⟩ := e3
        obtain ⟨y4, q1, q2, q3⟩ := mX3_add_any (N := N) (l := l) (d := D) (v := nI (bt a)) (w := nI 0) hc e5
        refine ⟨v2, y4, ?_, fk_s9_t (fk_s9_t (fk_s9_t hs9 hsav) e2) q2, rfl, e4, q3⟩
        rw [h3 x a _ y1 v2 y3 y4 hct cS.1 cS.2 y32 e1 q1]
        exact h1 v2 _ y4 e4
      | inr z =>
        rw [ef] at e3 g
        obtain ⟨rfl, e4, e5, e6⟩ := e3
        obtain ⟨g1, g2, g3, _⟩ := g
        have n9 := hct.2.2.2.2.2.2.2.2.1
        obtain ⟨w1, w2, w3⟩ := hS _ cS.2
        have sl : s + K1.length + z.2.length < 240 := by omega
        have hadd := mX3_add (N := N) (l := l) (d := D) (y := y3) (v := nI (bt a)) (w := nI 0) hc e4.2.2.2.2.2.2.2.2.2.1 sl
        have el : (K1 ++ (z.2 ++ [(lz_sg (bt a), 0)])).length = K1.length + z.2.length + 1 := by rw [List.length_append, List.length_append]; rfl
        have hct4 := lz_ct_add (v := nI (bt a)) (w := nI 0) e4 sl
        have r3 : ∀ i, i < s + K1.length → y3 (c + 1) i = y1 (c + 1) i ∧ y3 (c + 2) i = y1 (c + 2) i := fun i hi => by
          have := e6 i hi
          rw [fk_u_o (by omega), fk_u_o (by omega), fk_u_o (by omega), fk_u_o (by omega)] at this
          exact this
        have hK4 : lz_hc (fk_u (fk_u (fk_u y3 (c + 1) (s + K1.length + z.2.length) (nI (bt a))) (c + 2) (s + K1.length + z.2.length) (nI 0)) c 7 (nI (s + K1.length + z.2.length + 1))) c s (K1 ++ (z.2 ++ [(lz_sg (bt a), 0)])) := by
          refine lz_hc_app K1 (lz_hc_c K1 s (fun i i1 i2 => ?_) hK) (lz_hc_app z.2 (lz_hc_c z.2 _ (fun i i1 i2 => ?_) e5) (lz_hc_1 ?_ ?_))
          · rw [fk_u_o (by omega), fk_u_o (by omega), fk_u_o (by omega), fk_u_o (by omega), fk_u_o (by omega), fk_u_o (by omega)]
            exact r3 i (by omega)
          · rw [fk_u_o (by omega), fk_u_o (by omega), fk_u_o (by omega), fk_u_o (by omega), fk_u_o (by omega), fk_u_o (by omega)]
            exact ⟨rfl, rfl⟩
          · rw [fk_u_o (by omega), fk_u_o (by omega), fk_u_s, w1]
          · rw [fk_u_o (by omega), fk_u_s]
            unfold lz_kp
            rw [if_neg (by omega), if_neg (by omega)]
        obtain ⟨v, y', p1, p2, p3⟩ := ih z.1 (K1 ++ (z.2 ++ [(lz_sg (bt a), 0)])) _ (.int (nI (bt a))) (by omega) (by rw [el, show s + (K1.length + z.2.length + 1) = s + K1.length + z.2.length + 1 by omega]; exact hct4) (by rw [el]; omega) hK4 (fun i hi => by
          rw [fk_u_o (by omega), fk_u_o (by omega), fk_u_o (by omega), fk_u_o (by omega), fk_u_o (by omega), fk_u_o (by omega)]
          have t1 := r3 i (by omega)
          have t2 := hrow i hi
          exact ⟨t1.1.trans t2.1, t1.2.trans t2.2⟩) (fk_s9_c hc (fk_s9_c hc (fk_s9_c hc (fk_s9_t (fk_s9_t hs9 hsav) e2) (by omega)) (by omega)) (by omega))
        refine ⟨v, y', ?_, p2, ?_⟩
        · rw [h3 x a _ y1 (nI 0) y3 _ hct cS.1 cS.2 y32 e1 hadd]
          exact p1
        · dsimp only
          cases e7 : lz_c bt n S f k z.1 with
          | inl e => rw [e7] at p3; exact p3
          | inr u =>
            rw [e7] at p3
            have eq : (K1 ++ (z.2 ++ [(lz_sg (bt a), 0)])) ++ lz_ar (lz_sgs u.2) = K1 ++ lz_ar (lz_sgs ((bt a, z.2) :: u.2)) := by
              show _ = K1 ++ (z.2 ++ (lz_sg (bt a), 0) :: lz_ar (lz_sgs u.2))
              simp only [List.append_assoc, List.cons_append, List.nil_append]
            show lz_cR bt n c s y y' v (.inr (u.1, K1 ++ lz_ar (lz_sgs ((bt a, z.2) :: u.2))))
            rw [← eq]
            exact p3
    · rw [if_neg cS]
      exact stop a K1 y1 x cS hct hK hrow hs9
theorem lz_mul_ko (b : Nat) (h : lz_mul b = true) : lz_ko (lz_sg b) = b ∧ 2 ≤ lz_sg b ∧ lz_sg b ≤ 9 := by
  unfold lz_mul at h
  simp only [Bool.or_eq_true, beq_iff_eq] at h
  rcases h with (rfl | rfl) | rfl <;> decide
theorem lz_add_ko (b : Nat) (h : lz_add b = true) : lz_ko (lz_sg b) = b ∧ 2 ≤ lz_sg b ∧ lz_sg b ≤ 9 := by
  unfold lz_add at h
  simp only [Bool.or_eq_true, beq_iff_eq] at h
  rcases h with rfl | rfl <;> decide
/-- a method that reads a first piece, then a chain -/
theorem lz_join {S : Nat → Bool} {f : Nat → Int32 ⊕ (Nat × List (Nat × Nat))} {nd D E : Nat} {Q P : fk_Me} {L LP : List Value} (hc : c = 2 ∨ c = 10) (hn : n ≤ 240) (hS : ∀ b, S b = true → lz_ko (lz_sg b) = b ∧ 2 ≤ lz_sg b ∧ lz_sg b ≤ 9) (hQ : ∀ a, a ≤ n → lz_g n (lz_Q nd) a (f a)) (H : Int32 → Value → (Nat → Nat → Int32) → Option (Option Value × fk_H))
  (h0 : ∀ y v y1, fk_ev D Q 0 L [] (fk_E N y l) = some (some (.int v), fk_E N y1 l) → fk_ev E P 0 LP [] (fk_E N y l) = H v .null y1)
  (h1 : ∀ v x y, ¬ v = nI 0 → H v x y = some (some (.int v), fk_E N y l))
  (h2 : ∀ x a s y, lz_ct bt n c a s y → ¬ (a < n ∧ S (bt a) = true) → H (nI 0) x y = some (some (.int (nI 0)), fk_E N y l))
  (h3 : ∀ x a s y v2 y3 y4, lz_ct bt n c a s y → a < n → S (bt a) = true → y3 28 2 = nI c → fk_ev D Q 0 L [] (fk_E N (lz_av bt n a y) l) = some (some (.int v2), fk_E N y3 l) → fk_ev D qX3_add 0 [.ref c, .int (nI (bt a)), .int (nI 0)] [] (fk_E N y3 l) = some (none, fk_E N y4 l) → H (nI 0) x y = H v2 (.int (nI (bt a))) y4)
  (hf : lz_sp N l bt n c D Q L f) : lz_sp N l bt n c E P LP (lz_j bt n S f) := by
  intro a s y hct hs
  obtain ⟨v, y1, e1, e2, e3⟩ := hf a s y hct hs
  have g := hQ a hct.2.2.2.2.2.2.2.1
  unfold lz_j
  rw [h0 y v y1 e1]
  cases ef : f a with
  | inl e =>
    rw [ef] at e3
    obtain ⟨rfl, e4, e5⟩ := e3
    exact ⟨v, y1, h1 v _ y1 e4, e2, rfl, e4, e5⟩
  | inr z =>
    rw [ef] at e3 g
    obtain ⟨rfl, e4, e5, e6⟩ := e3
    obtain ⟨g1, g2, g3, _⟩ := g
    obtain ⟨v, y', p1, p2, p3⟩ := lz_chain (s := s) (y := y) hc hn hS hQ H h1 h2 h3 hf n z.1 z.2 y1 .null (by omega) e4 (by omega) e5 e6 e2
    refine ⟨v, y', p1, p2, ?_⟩
    dsimp only
    cases e7 : lz_c bt n S f n z.1 with
    | inl e => rw [e7] at p3; exact p3
    | inr u => rw [e7] at p3; exact p3
theorem mX4_product {f : Nat → Int32 ⊕ (Nat × List (Nat × Nat))} {nd : Nat} (hc : c = 2 ∨ c = 10) (hn : n ≤ 240) (hQ : ∀ a, a ≤ n → lz_g n (lz_Q nd) a (f a)) (hf : lz_sp N l bt n c (d + 5) qX4_factor [.ref 28, .int (nI o), .null] f) : lz_sp N l bt n c (d + 6) qX4_product [.ref 28, .int (nI o), .null, .null] (lz_j bt n lz_mul f) := by
  have hat := (lz_law hc).1
  refine lz_join (D := d + 5) (Q := qX4_factor) (L := [.ref 28, .int (nI o), .null]) hc hn lz_mul_ko hQ (fun v x y => fk_ev (d + 6) qX4_product 6 [.ref 28, .int (nI o), .int v, x] [] (fk_E N y l)) (fun y v y1 e => ?_) (fun v x y hv => ?_) (fun x a s y h cS => ?_) (fun x a s y v2 y3 y4 h lt cS y32 e1 e2 => ?_) hf
  · simp (disch := first | assumption | omega) only [rX4_product, e, Option.bind_some, Option.toList_some, Option.toList_none, List.cons_append, List.nil_append, fk_b_0, nI_add, Nat.add_zero, Nat.zero_add, not_true_eq_false, not_false_eq_true, if_true, if_false, sI_le_t, sI_le_f, sI_lt_t, sI_lt_f, sI_eq_t, sI_eq_f, sI_rem, sI_div, sI_m1a, sI_m1b, sI_m1c, sI_m1d, sI_m1e, sI_m1f, sI_m2a, sI_m2b, sI_sub, pk_mul, sI_dec, fk_u_s, fk_u_o, sI_dec0, sI_z, sI_md, Bool.false_eq_true, Nat.reduceAdd, Nat.reduceMul, Nat.reduceSub, Nat.reduceMod, Nat.reduceDiv]
  · rw [hX4_product_6]
    simp (disch := first | assumption | omega) only [rX4_product, hv, Option.bind_some, Option.toList_some, Option.toList_none, List.cons_append, List.nil_append, fk_b_0, nI_add, Nat.add_zero, Nat.zero_add, not_true_eq_false, not_false_eq_true, if_true, if_false, sI_le_t, sI_le_f, sI_lt_t, sI_lt_f, sI_eq_t, sI_eq_f, sI_rem, sI_div, sI_m1a, sI_m1b, sI_m1c, sI_m1d, sI_m1e, sI_m1f, sI_m2a, sI_m2b, sI_sub, pk_mul, sI_dec, fk_u_s, fk_u_o, sI_dec0, sI_z, sI_md, Bool.false_eq_true, Nat.reduceAdd, Nat.reduceMul, Nat.reduceSub, Nat.reduceMod, Nat.reduceDiv]
  · obtain ⟨h1, h2, h3, h4, h5, h6, h7, h8, h9, h10, h11⟩ := id h
    rw [hX4_product_6]
    by_cases lt : a < n
    · have ho : fk_ev (d + 5) qX4_isOneOf 0 [.ref 28, .retAddr 4] [] (fk_E N y l) = some (some (.int (fk_b (a < n ∧ lz_sc 2 (bt a) = true))), fk_E N y l) := mX4_isOneOf (d := d + 1) (i := 2) (by omega) h5 (h7 a)
      rw [fk_b_f (show ¬ (a < n ∧ lz_sc 2 (bt a) = true) from cS)] at ho
      simp (disch := first | assumption | omega) only [rX4_product, h4, h3, lX4_3, ho, Option.bind_some, Option.toList_some, Option.toList_none, List.cons_append, List.nil_append, fk_b_0, nI_add, Nat.add_zero, Nat.zero_add, not_true_eq_false, not_false_eq_true, if_true, if_false, sI_le_t, sI_le_f, sI_lt_t, sI_lt_f, sI_eq_t, sI_eq_f, sI_rem, sI_div, sI_m1a, sI_m1b, sI_m1c, sI_m1d, sI_m1e, sI_m1f, sI_m2a, sI_m2b, sI_sub, pk_mul, sI_dec, fk_u_s, fk_u_o, sI_dec0, sI_z, sI_md, Bool.false_eq_true, Nat.reduceAdd, Nat.reduceMul, Nat.reduceSub, Nat.reduceMod, Nat.reduceDiv]
    · simp (disch := first | assumption | omega) only [rX4_product, h4, h3, Option.bind_some, Option.toList_some, Option.toList_none, List.cons_append, List.nil_append, fk_b_0, nI_add, Nat.add_zero, Nat.zero_add, not_true_eq_false, not_false_eq_true, if_true, if_false, sI_le_t, sI_le_f, sI_lt_t, sI_lt_f, sI_eq_t, sI_eq_f, sI_rem, sI_div, sI_m1a, sI_m1b, sI_m1c, sI_m1d, sI_m1e, sI_m1f, sI_m2a, sI_m2b, sI_sub, pk_mul, sI_dec, fk_u_s, fk_u_o, sI_dec0, sI_z, sI_md, Bool.false_eq_true, Nat.reduceAdd, Nat.reduceMul, Nat.reduceSub, Nat.reduceMod, Nat.reduceDiv]
  · obtain ⟨h1, h2, h3, h4, h5, h6, h7, h8, h9, h10, h11⟩ := id h
    have ho : fk_ev (d + 5) qX4_isOneOf 0 [.ref 28, .retAddr 4] [] (fk_E N y l) = some (some (.int (fk_b (a < n ∧ lz_sc 2 (bt a) = true))), fk_E N y l) := mX4_isOneOf (d := d + 1) (i := 2) (by omega) h5 (h7 a)
    rw [fk_b_t ⟨lt, cS⟩] at ho
    have ep : ab_pk bt n a = nI (bt a) := if_pos lt
    rw [ep] at h5
    have hv := mX4_adv (N := N) (l := l) (d := d + 5) h lt
    have hcl : (y3 28 2).toNatClampNeg = c := by rw [y32, nI_clamp (by omega)]
    rw [hX4_product_6]
    simp (disch := first | assumption | omega) only [rX4_product, h4, h3, lX4_3, ho, h5, hv, e1, hcl, e2, Option.bind_some, Option.toList_some, Option.toList_none, List.cons_append, List.nil_append, fk_b_0, nI_add, Nat.add_zero, Nat.zero_add, not_true_eq_false, not_false_eq_true, if_true, if_false, sI_le_t, sI_le_f, sI_lt_t, sI_lt_f, sI_eq_t, sI_eq_f, sI_rem, sI_div, sI_m1a, sI_m1b, sI_m1c, sI_m1d, sI_m1e, sI_m1f, sI_m2a, sI_m2b, sI_sub, pk_mul, sI_dec, fk_u_s, fk_u_o, sI_dec0, sI_z, sI_md, Bool.false_eq_true, Nat.reduceAdd, Nat.reduceMul, Nat.reduceSub, Nat.reduceMod, Nat.reduceDiv]
theorem mX4_sum1 {f : Nat → Int32 ⊕ (Nat × List (Nat × Nat))} {nd : Nat} (hc : c = 2 ∨ c = 10) (hn : n ≤ 240) (hQ : ∀ a, a ≤ n → lz_g n (lz_Q nd) a (f a)) (hf : lz_sp N l bt n c (d + 6) qX4_product [.ref 28, .int (nI o), .null, .null] f) : lz_sp N l bt n c (d + 7) qX4_sum [.ref 28, .int (nI o), .null, .null] (lz_j bt n lz_add f) := by
  have hat := (lz_law hc).1
  refine lz_join (D := d + 6) (Q := qX4_product) (L := [.ref 28, .int (nI o), .null, .null]) hc hn lz_add_ko hQ (fun v x y => fk_ev (d + 7) qX4_sum 6 [.ref 28, .int (nI o), .int v, x] [] (fk_E N y l)) (fun y v y1 e => ?_) (fun v x y hv => ?_) (fun x a s y h cS => ?_) (fun x a s y v2 y3 y4 h lt cS y32 e1 e2 => ?_) hf
  · simp (disch := first | assumption | omega) only [rX4_sum, e, Option.bind_some, Option.toList_some, Option.toList_none, List.cons_append, List.nil_append, fk_b_0, nI_add, Nat.add_zero, Nat.zero_add, not_true_eq_false, not_false_eq_true, if_true, if_false, sI_le_t, sI_le_f, sI_lt_t, sI_lt_f, sI_eq_t, sI_eq_f, sI_rem, sI_div, sI_m1a, sI_m1b, sI_m1c, sI_m1d, sI_m1e, sI_m1f, sI_m2a, sI_m2b, sI_sub, pk_mul, sI_dec, fk_u_s, fk_u_o, sI_dec0, sI_z, sI_md, Bool.false_eq_true, Nat.reduceAdd, Nat.reduceMul, Nat.reduceSub, Nat.reduceMod, Nat.reduceDiv]
  · rw [hX4_sum_6]
    simp (disch := first | assumption | omega) only [rX4_sum, hv, Option.bind_some, Option.toList_some, Option.toList_none, List.cons_append, List.nil_append, fk_b_0, nI_add, Nat.add_zero, Nat.zero_add, not_true_eq_false, not_false_eq_true, if_true, if_false, sI_le_t, sI_le_f, sI_lt_t, sI_lt_f, sI_eq_t, sI_eq_f, sI_rem, sI_div, sI_m1a, sI_m1b, sI_m1c, sI_m1d, sI_m1e, sI_m1f, sI_m2a, sI_m2b, sI_sub, pk_mul, sI_dec, fk_u_s, fk_u_o, sI_dec0, sI_z, sI_md, Bool.false_eq_true, Nat.reduceAdd, Nat.reduceMul, Nat.reduceSub, Nat.reduceMod, Nat.reduceDiv]
  · obtain ⟨h1, h2, h3, h4, h5, h6, h7, h8, h9, h10, h11⟩ := id h
    rw [hX4_sum_6]
    by_cases lt : a < n
    · have ep : ab_pk bt n a = nI (bt a) := if_pos lt
      rw [ep] at h5
      have b6 := h7 a
      have cs2 : ¬ lz_add (bt a) = true := fun z => cS ⟨lt, z⟩
      unfold lz_add at cs2
      simp only [Bool.or_eq_true, beq_iff_eq] at cs2
      have n1 : bt a ≠ 43 := by omega
      have n2 : bt a ≠ 45 := by omega
      simp (disch := first | assumption | omega) only [rX4_sum, h4, h3, h5, Option.bind_some, Option.toList_some, Option.toList_none, List.cons_append, List.nil_append, fk_b_0, nI_add, Nat.add_zero, Nat.zero_add, not_true_eq_false, not_false_eq_true, if_true, if_false, sI_le_t, sI_le_f, sI_lt_t, sI_lt_f, sI_eq_t, sI_eq_f, sI_rem, sI_div, sI_m1a, sI_m1b, sI_m1c, sI_m1d, sI_m1e, sI_m1f, sI_m2a, sI_m2b, sI_sub, pk_mul, sI_dec, fk_u_s, fk_u_o, sI_dec0, sI_z, sI_md, Bool.false_eq_true, Nat.reduceAdd, Nat.reduceMul, Nat.reduceSub, Nat.reduceMod, Nat.reduceDiv]
    · simp (disch := first | assumption | omega) only [rX4_sum, h4, h3, Option.bind_some, Option.toList_some, Option.toList_none, List.cons_append, List.nil_append, fk_b_0, nI_add, Nat.add_zero, Nat.zero_add, not_true_eq_false, not_false_eq_true, if_true, if_false, sI_le_t, sI_le_f, sI_lt_t, sI_lt_f, sI_eq_t, sI_eq_f, sI_rem, sI_div, sI_m1a, sI_m1b, sI_m1c, sI_m1d, sI_m1e, sI_m1f, sI_m2a, sI_m2b, sI_sub, pk_mul, sI_dec, fk_u_s, fk_u_o, sI_dec0, sI_z, sI_md, Bool.false_eq_true, Nat.reduceAdd, Nat.reduceMul, Nat.reduceSub, Nat.reduceMod, Nat.reduceDiv]
  · obtain ⟨h1, h2, h3, h4, h5, h6, h7, h8, h9, h10, h11⟩ := id h
    have ep : ab_pk bt n a = nI (bt a) := if_pos lt
    rw [ep] at h5
    have hv := mX4_adv (N := N) (l := l) (d := d + 6) h lt
    have hcl : (y3 28 2).toNatClampNeg = c := by rw [y32, nI_clamp (by omega)]
    rw [hX4_sum_6]
    unfold lz_add at cS
    simp only [Bool.or_eq_true, beq_iff_eq] at cS
    rcases cS with cb | cb
    · rw [cb] at h5 e2 ⊢
      simp (disch := first | assumption | omega) only [rX4_sum, h4, h3, h5, hv, e1, hcl, e2, Option.bind_some, Option.toList_some, Option.toList_none, List.cons_append, List.nil_append, fk_b_0, nI_add, Nat.add_zero, Nat.zero_add, not_true_eq_false, not_false_eq_true, if_true, if_false, sI_le_t, sI_le_f, sI_lt_t, sI_lt_f, sI_eq_t, sI_eq_f, sI_rem, sI_div, sI_m1a, sI_m1b, sI_m1c, sI_m1d, sI_m1e, sI_m1f, sI_m2a, sI_m2b, sI_sub, pk_mul, sI_dec, fk_u_s, fk_u_o, sI_dec0, sI_z, sI_md, Bool.false_eq_true, Nat.reduceAdd, Nat.reduceMul, Nat.reduceSub, Nat.reduceMod, Nat.reduceDiv]
    · rw [cb] at h5 e2 ⊢
      simp (disch := first | assumption | omega) only [rX4_sum, h4, h3, h5, hv, e1, hcl, e2, Option.bind_some, Option.toList_some, Option.toList_none, List.cons_append, List.nil_append, fk_b_0, nI_add, Nat.add_zero, Nat.zero_add, not_true_eq_false, not_false_eq_true, if_true, if_false, sI_le_t, sI_le_f, sI_lt_t, sI_lt_f, sI_eq_t, sI_eq_f, sI_rem, sI_div, sI_m1a, sI_m1b, sI_m1c, sI_m1d, sI_m1e, sI_m1f, sI_m2a, sI_m2b, sI_sub, pk_mul, sI_dec, fk_u_s, fk_u_o, sI_dec0, sI_z, sI_md, Bool.false_eq_true, Nat.reduceAdd, Nat.reduceMul, Nat.reduceSub, Nat.reduceMod, Nat.reduceDiv]
theorem lz_li_ix : ∀ b, b < 256 → lz_li b < 14 → 97 ≤ b ∧ ck_ix (lz_li b) = b - 97 := by decide +kernel
theorem mX4_factor (hc : c = 2 ∨ c = 10) (hn : n ≤ 240) (hq : q ≤ 6) (hf : q ≠ 0 → lz_sp N l bt n c (d + 4) qX4_sum [.ref 28, .int (nI (6 - (q - 1))), .null, .null] (lz_S bt n (q - 1))) : lz_sp N l bt n c (d + 5) qX4_factor [.ref 28, .int (nI (6 - q)), .null] (lz_f bt n (if q = 0 then none else some (lz_S bt n (q - 1)))) := by
  have hat := (lz_law hc).1
  intro a s y h hs
  obtain ⟨h1, h2, h3, h4, h5, h6, h7, h8, h9, h10, h11⟩ := id h
  have b6 := h7 a
  have hcl : (y 28 2).toNatClampNeg = c := by rw [h2, nI_clamp (by omega)]
  unfold lz_f
  by_cases c1 : ab_dd bt n a
  · rw [if_pos c1]
    obtain ⟨r, y', e1, e2⟩ := mX4_number (N := N) (l := l) (d := d + 3) h hs c1
    refine ⟨r, y', ?_, e2⟩
    obtain ⟨p1, p2, p3⟩ := c1
    have ep : ab_pk bt n a = nI (bt a) := if_pos p1
    rw [ep] at h5
    simp (disch := first | assumption | omega) only [rX4_factor, h5, e1, Option.bind_some, Option.toList_some, Option.toList_none, List.cons_append, List.nil_append, fk_b_0, nI_add, Nat.add_zero, Nat.zero_add, not_true_eq_false, not_false_eq_true, if_true, if_false, sI_le_t, sI_le_f, sI_lt_t, sI_lt_f, sI_eq_t, sI_eq_f, sI_rem, sI_div, sI_m1a, sI_m1b, sI_m1c, sI_m1d, sI_m1e, sI_m1f, sI_m2a, sI_m2b, sI_sub, pk_mul, sI_dec, fk_u_s, fk_u_o, sI_dec0, sI_z, sI_md, Bool.false_eq_true, Nat.reduceAdd, Nat.reduceMul, Nat.reduceSub, Nat.reduceMod, Nat.reduceDiv]
  · rw [if_neg c1]
    have ho : fk_ev (d + 4) qX4_isOneOf 0 [.ref 28, .retAddr 2] [] (fk_E N y l) = some (some (.int (fk_b (a < n ∧ lz_sc 1 (bt a) = true))), fk_E N y l) := mX4_isOneOf (d := d) (i := 1) (by omega) h5 b6
    -- not a digit: on at 23
    have st : ∀ o : Int32, fk_ev (d + 5) qX4_factor 0 [.ref 28, .int o, .null] [] (fk_E N y l) = fk_ev (d + 5) qX4_factor 23 [.ref 28, .int o, .null] [] (fk_E N y l) := by
      intro o
      by_cases lt : a < n
      · have ep : ab_pk bt n a = nI (bt a) := if_pos lt
        rw [ep] at h5
        have r23 : fk_ev (d + 5) qX4_factor 23 [.ref 28, .int o, .null] [] (fk_E N y l) = fk_ev (d + 5) qX4_factor 24 [.ref 28, .int o, .null] [.ref 28] (fk_E N y l) := by
          simp only [rX4_factor]
        by_cases c2 : bt a < 48
        · simp (disch := first | assumption | omega) only [rX4_factor, h5, Option.bind_some, Option.toList_some, Option.toList_none, List.cons_append, List.nil_append, fk_b_0, nI_add, Nat.add_zero, Nat.zero_add, not_true_eq_false, not_false_eq_true, if_true, if_false, sI_le_t, sI_le_f, sI_lt_t, sI_lt_f, sI_eq_t, sI_eq_f, sI_rem, sI_div, sI_m1a, sI_m1b, sI_m1c, sI_m1d, sI_m1e, sI_m1f, sI_m2a, sI_m2b, sI_sub, pk_mul, sI_dec, fk_u_s, fk_u_o, sI_dec0, sI_z, sI_md, Bool.false_eq_true, Nat.reduceAdd, Nat.reduceMul, Nat.reduceSub, Nat.reduceMod, Nat.reduceDiv]
        · have c3 : 57 < bt a := Classical.byContradiction fun z => c1 ⟨lt, by omega, by omega⟩
          simp (disch := first | assumption | omega) only [rX4_factor, h5, Option.bind_some, Option.toList_some, Option.toList_none, List.cons_append, List.nil_append, fk_b_0, nI_add, Nat.add_zero, Nat.zero_add, not_true_eq_false, not_false_eq_true, if_true, if_false, sI_le_t, sI_le_f, sI_lt_t, sI_lt_f, sI_eq_t, sI_eq_f, sI_rem, sI_div, sI_m1a, sI_m1b, sI_m1c, sI_m1d, sI_m1e, sI_m1f, sI_m2a, sI_m2b, sI_sub, pk_mul, sI_dec, fk_u_s, fk_u_o, sI_dec0, sI_z, sI_md, Bool.false_eq_true, Nat.reduceAdd, Nat.reduceMul, Nat.reduceSub, Nat.reduceMod, Nat.reduceDiv]
      · have ep : ab_pk bt n a = (-1) := if_neg lt
        rw [ep] at h5
        simp (disch := first | assumption | omega) only [rX4_factor, h5, Option.bind_some, Option.toList_some, Option.toList_none, List.cons_append, List.nil_append, fk_b_0, nI_add, Nat.add_zero, Nat.zero_add, not_true_eq_false, not_false_eq_true, if_true, if_false, sI_le_t, sI_le_f, sI_lt_t, sI_lt_f, sI_eq_t, sI_eq_f, sI_rem, sI_div, sI_m1a, sI_m1b, sI_m1c, sI_m1d, sI_m1e, sI_m1f, sI_m2a, sI_m2b, sI_sub, pk_mul, sI_dec, fk_u_s, fk_u_o, sI_dec0, sI_z, sI_md, Bool.false_eq_true, Nat.reduceAdd, Nat.reduceMul, Nat.reduceSub, Nat.reduceMod, Nat.reduceDiv]
    rw [st]
    by_cases c2 : a < n ∧ lz_li (bt a) < 14
    · rw [if_pos c2]
      rw [fk_b_t ⟨c2.1, decide_eq_true c2.2⟩] at ho
      have ep : ab_pk bt n a = nI (bt a) := if_pos c2.1
      rw [ep] at h5
      obtain ⟨x1, x2⟩ := lz_li_ix (bt a) b6 c2.2
      have hadd := mX3_add (N := N) (l := l) (d := d + 4) (y := y) (v := nI 1) (w := nI (bt a - 97)) hc h10 (by omega)
      have hct1 := lz_ct_add (v := nI 1) (w := nI (bt a - 97)) h (by omega)
      have hv := mX4_adv (N := N) (l := l) (d := d + 4) hct1 c2.1
      refine ⟨nI 0, _, ?_, fk_s9_t (fk_s9_c hc (fk_s9_c hc (fk_s9_c hc fk_s9_0 (by omega)) (by omega)) (by omega)) (lz_s9_adv hct1), rfl, lz_ct_adv hct1 c2.1, lz_hc_1 (x := lz_li (bt a)) (o := 1) ?_ ?_, fun i hi => ⟨?_, ?_⟩⟩
      · simp (disch := first | assumption | omega) only [rX4_factor, lX4_2, ho, hcl, h5, hadd, hv, Option.bind_some, Option.toList_some, Option.toList_none, List.cons_append, List.nil_append, fk_b_0, nI_add, Nat.add_zero, Nat.zero_add, not_true_eq_false, not_false_eq_true, if_true, if_false, sI_le_t, sI_le_f, sI_lt_t, sI_lt_f, sI_eq_t, sI_eq_f, sI_rem, sI_div, sI_m1a, sI_m1b, sI_m1c, sI_m1d, sI_m1e, sI_m1f, sI_m2a, sI_m2b, sI_sub, pk_mul, sI_dec, fk_u_s, fk_u_o, sI_dec0, sI_z, sI_md, Bool.false_eq_true, Nat.reduceAdd, Nat.reduceMul, Nat.reduceSub, Nat.reduceMod, Nat.reduceDiv]
      · rw [fk_u_o (by omega), fk_u_o (by omega), fk_u_o (by omega), fk_u_o (by omega), fk_u_s]; rfl
      · rw [fk_u_o (by omega), fk_u_o (by omega), fk_u_o (by omega), fk_u_s]
        show nI (bt a - 97) = nI (if (1 : Nat) = 1 then ck_ix (lz_li (bt a)) else _)
        rw [if_pos rfl, x2]
      · rw [fk_u_o (by omega), fk_u_o (by omega), fk_u_o (by omega), fk_u_o (by omega), fk_u_o (by omega)]
      · rw [fk_u_o (by omega), fk_u_o (by omega), fk_u_o (by omega), fk_u_o (by omega), fk_u_o (by omega)]
    · rw [if_neg c2]
      rw [fk_b_f (fun z => c2 ⟨z.1, of_decide_eq_true z.2⟩)] at ho
      by_cases c3 : a < n ∧ bt a = 91
      · rw [if_pos c3]
        have ep : ab_pk bt n a = nI 91 := by rw [← c3.2]; exact if_pos c3.1
        rw [ep] at h5
        by_cases q0 : q = 0
        · rw [if_pos q0]
          subst q0
          refine ⟨fk_flt 5 a, y, ?_, fk_s9_0, rfl, fk_flt_5 5 (by omega) a (by omega) (by omega), s, h11, h10⟩
          simp (disch := first | assumption | omega) only [rX4_factor, lX4_2, ho, h5, h4, mX11_faultAt, Option.bind_some, Option.toList_some, Option.toList_none, List.cons_append, List.nil_append, fk_b_0, nI_add, Nat.add_zero, Nat.zero_add, not_true_eq_false, not_false_eq_true, if_true, if_false, sI_le_t, sI_le_f, sI_lt_t, sI_lt_f, sI_eq_t, sI_eq_f, sI_rem, sI_div, sI_m1a, sI_m1b, sI_m1c, sI_m1d, sI_m1e, sI_m1f, sI_m2a, sI_m2b, sI_sub, pk_mul, sI_dec, fk_u_s, fk_u_o, sI_dec0, sI_z, sI_md, Bool.false_eq_true, Nat.reduceAdd, Nat.reduceMul, Nat.reduceSub, Nat.reduceMod, Nat.reduceDiv]
        · rw [if_neg q0]
          have hv := mX4_adv (N := N) (l := l) (d := d + 4) h c3.1
          have hct1 := lz_ct_adv h c3.1
          obtain ⟨v, y1, e1, e2, e3⟩ := hf q0 (a + 1) s _ hct1 (by omega)
          have eo : 6 - q + 1 = 6 - (q - 1) := by omega
          have g := lz_S_ok (bt := bt) (n := n) (q - 1) (a + 1) c3.1
          have o6 : 6 - q < 6 := by omega
          rw [← eo] at e1
          generalize 6 - q = O at *
          dsimp only
          cases ef : lz_S bt n (q - 1) (a + 1) with
          | inl e =>
            rw [ef] at e3
            obtain ⟨rfl, e4, e5⟩ := e3
            refine ⟨v, y1, ?_, fk_s9_t (lz_s9_adv h) e2, rfl, e4, e5⟩
            simp (disch := first | assumption | omega) only [rX4_factor, lX4_2, ho, h5, hv, e1, e4, Option.bind_some, Option.toList_some, Option.toList_none, List.cons_append, List.nil_append, fk_b_0, nI_add, Nat.add_zero, Nat.zero_add, not_true_eq_false, not_false_eq_true, if_true, if_false, sI_le_t, sI_le_f, sI_lt_t, sI_lt_f, sI_eq_t, sI_eq_f, sI_rem, sI_div, sI_m1a, sI_m1b, sI_m1c, sI_m1d, sI_m1e, sI_m1f, sI_m2a, sI_m2b, sI_sub, pk_mul, sI_dec, fk_u_s, fk_u_o, sI_dec0, sI_z, sI_md, Bool.false_eq_true, Nat.reduceAdd, Nat.reduceMul, Nat.reduceSub, Nat.reduceMod, Nat.reduceDiv]
          | inr z =>
            rw [ef] at e3 g
            obtain ⟨rfl, e4, e5, e6⟩ := e3
            obtain ⟨g1, g2, g3, _⟩ := g
            dsimp only
            by_cases c4 : z.1 < n ∧ bt z.1 = 93
            · rw [if_pos c4]
              have hsg := mX4_sign_t (N := N) (l := l) (d := d + 3) e4 (show 93 < 256 by omega) c4
              refine ⟨nI 0, _, ?_, fk_s9_t (fk_s9_t (lz_s9_adv h) e2) (lz_s9_adv e4), rfl, lz_ct_adv e4 c4.1, lz_hc_c z.2 s (fun i i1 i2 => ⟨?_, ?_⟩) e5, fun i hi => ?_⟩
              · simp (disch := first | assumption | omega) only [rX4_factor, lX4_2, ho, h5, hv, e1, hsg, Option.bind_some, Option.toList_some, Option.toList_none, List.cons_append, List.nil_append, fk_b_0, nI_add, Nat.add_zero, Nat.zero_add, not_true_eq_false, not_false_eq_true, if_true, if_false, sI_le_t, sI_le_f, sI_lt_t, sI_lt_f, sI_eq_t, sI_eq_f, sI_rem, sI_div, sI_m1a, sI_m1b, sI_m1c, sI_m1d, sI_m1e, sI_m1f, sI_m2a, sI_m2b, sI_sub, pk_mul, sI_dec, fk_u_s, fk_u_o, sI_dec0, sI_z, sI_md, Bool.false_eq_true, Nat.reduceAdd, Nat.reduceMul, Nat.reduceSub, Nat.reduceMod, Nat.reduceDiv]
              · rw [fk_u_o (by omega), fk_u_o (by omega)]
              · rw [fk_u_o (by omega), fk_u_o (by omega)]
              · rw [fk_u_o (by omega), fk_u_o (by omega), fk_u_o (by omega), fk_u_o (by omega)]
                have := e6 i hi
                rw [fk_u_o (by omega), fk_u_o (by omega), fk_u_o (by omega), fk_u_o (by omega)] at this
                exact this
            · rw [if_neg c4]
              have hsg := mX4_sign_f (N := N) (l := l) (d := d + 3) e4 (show 93 < 256 by omega) c4
              refine ⟨fk_flt 1 z.1, y1, ?_, fk_s9_t (lz_s9_adv h) e2, rfl, fk_flt_5 1 (by omega) z.1 (by omega) (by omega), _, e4.2.2.2.2.2.2.2.2.2.2, e4.2.2.2.2.2.2.2.2.2.1⟩
              simp (disch := first | assumption | omega) only [rX4_factor, lX4_2, ho, h5, hv, e1, hsg, Option.bind_some, Option.toList_some, Option.toList_none, List.cons_append, List.nil_append, fk_b_0, nI_add, Nat.add_zero, Nat.zero_add, not_true_eq_false, not_false_eq_true, if_true, if_false, sI_le_t, sI_le_f, sI_lt_t, sI_lt_f, sI_eq_t, sI_eq_f, sI_rem, sI_div, sI_m1a, sI_m1b, sI_m1c, sI_m1d, sI_m1e, sI_m1f, sI_m2a, sI_m2b, sI_sub, pk_mul, sI_dec, fk_u_s, fk_u_o, sI_dec0, sI_z, sI_md, Bool.false_eq_true, Nat.reduceAdd, Nat.reduceMul, Nat.reduceSub, Nat.reduceMod, Nat.reduceDiv]
      · rw [if_neg c3]
        have np := lz_pk_n (n := n) (x := 91) b6 (by omega) c3
        refine ⟨fk_flt 1 a, y, ?_, fk_s9_0, rfl, fk_flt_5 1 (by omega) a (by omega) (by omega), s, h11, h10⟩
        simp (disch := first | assumption | omega) only [rX4_factor, lX4_2, ho, h5, np, h4, mX11_faultAt, Option.bind_some, Option.toList_some, Option.toList_none, List.cons_append, List.nil_append, fk_b_0, nI_add, Nat.add_zero, Nat.zero_add, not_true_eq_false, not_false_eq_true, if_true, if_false, sI_le_t, sI_le_f, sI_lt_t, sI_lt_f, sI_eq_t, sI_eq_f, sI_rem, sI_div, sI_m1a, sI_m1b, sI_m1c, sI_m1d, sI_m1e, sI_m1f, sI_m2a, sI_m2b, sI_sub, pk_mul, sI_dec, fk_u_s, fk_u_o, sI_dec0, sI_z, sI_md, Bool.false_eq_true, Nat.reduceAdd, Nat.reduceMul, Nat.reduceSub, Nat.reduceMod, Nat.reduceDiv]
/-- the class reads a sum -/
theorem mX4_sum (hc : c = 2 ∨ c = 10) (hn : n ≤ 240) : ∀ q, q ≤ 6 → ∀ d, lz_sp N l bt n c (d + 3 * q + 7) qX4_sum [.ref 28, .int (nI (6 - q)), .null, .null] (lz_S bt n q) := by
  intro q
  induction q with
  | zero =>
    intro _ d
    have hf := mX4_factor (N := N) (l := l) (d := d) (bt := bt) (q := 0) hc hn (by omega) (fun z => absurd rfl z)
    have hq1 : ∀ a, a ≤ n → lz_g n (lz_Q 1) a (lz_f bt n (if 0 = 0 then none else some (lz_S bt n (0 - 1))) a) := fun a ha => lz_f_ok (by omega) lz_S_ok2 ha
    have hp := mX4_product hc hn hq1 hf
    exact mX4_sum1 (nd := 2) hc hn (fun a ha => (lz_j_ok lz_mul_sg (Nat.le_refl _) hq1 ha).1) hp
  | succ q ih =>
    intro hq d
    have h1 := ih (by omega) d
    have hf := mX4_factor (N := N) (l := l) (d := d + 3 * (q + 1)) (bt := bt) (q := q + 1) hc hn hq (fun _ => h1)
    have hq1 : ∀ a, a ≤ n → lz_g n (lz_Q (2 * (q + 1) + 1)) a (lz_f bt n (if q + 1 = 0 then none else some (lz_S bt n (q + 1 - 1))) a) := fun a ha => lz_f_ok (by omega) lz_S_ok2 ha
    have hp := mX4_product hc hn hq1 hf
    have hs := mX4_sum1 (nd := 2 * (q + 1) + 2) hc hn (fun a ha => (lz_j_ok lz_mul_sg (Nat.le_refl _) hq1 ha).1) hp
    rw [lz_S_e]
    exact hs
end CR1
