/-! THE LAW: the class reads chains of conditions -/
section CR2
variable {N : Nat} {y y0 y1 y2 y' : Nat → Nat → Int32} {l : Nat → Nat → Int64} {d n a c s q i o b e j jj : Nat} {bt : Nat → Nat} {v w : Int32} {B : Value}
theorem mX4_land_1 (hc : c = 2 ∨ c = 10) (h2 : y 28 2 = nI c) (h7 : y c 7 = nI e) (hb : b < e) (he : e ≤ 240) : fk_ev d qX4_land 2 [.ref 28, B, .int w, .int (nI b)] [] (fk_E N y l) = fk_ev d qX4_land 2 [.ref 28, B, .int w, .int (nI (b + 1))] [] (fk_E N (if y (c + 1) b = w ∧ ¬ nI 0 ≤ y (c + 2) b then fk_u y (c + 2) b (nI e) else y) l) := by
  obtain ⟨a0, a1, a2, _⟩ := lz_law hc
  obtain ⟨b1, b2, _, b4, b5, _⟩ := lz_law2 hc
  have l1 : b < (fk_shp (c + 1)).2 := by omega
  have l2 : b < (fk_shp (c + 2)).2 := by omega
  have l3 : (fk_shp (c + 1)).2 < 2 ^ 31 := by omega
  have l4 : (fk_shp (c + 2)).2 < 2 ^ 31 := by omega
  have hcl : (y 28 2).toNatClampNeg = c := by rw [h2, nI_clamp (by omega)]
  rw [hX4_land_2]
  by_cases c1 : y (c + 1) b = w
  · by_cases c2 : nI 0 ≤ y (c + 2) b
    · rw [if_neg (fun z => z.2 c2)]
      simp (disch := first | assumption | omega) only [rX4_land, hcl, h7, a1, a2, c1, c2, Option.bind_some, Option.toList_some, Option.toList_none, List.cons_append, List.nil_append, fk_b_0, nI_add, Nat.add_zero, Nat.zero_add, not_true_eq_false, not_false_eq_true, if_true, if_false, sI_le_t, sI_le_f, sI_lt_t, sI_lt_f, sI_eq_t, sI_eq_f, sI_rem, sI_div, sI_m1a, sI_m1b, sI_m1c, sI_m1d, sI_m1e, sI_m1f, sI_m2a, sI_m2b, sI_sub, pk_mul, sI_dec, fk_u_s, fk_u_o, sI_dec0, sI_z, sI_md, Bool.false_eq_true, Nat.reduceAdd, Nat.reduceMul, Nat.reduceSub, Nat.reduceMod, Nat.reduceDiv]
    · rw [if_pos ⟨c1, c2⟩]
      simp (disch := first | assumption | omega) only [rX4_land, hcl, h7, a1, a2, c1, c2, Option.bind_some, Option.toList_some, Option.toList_none, List.cons_append, List.nil_append, fk_b_0, nI_add, Nat.add_zero, Nat.zero_add, not_true_eq_false, not_false_eq_true, if_true, if_false, sI_le_t, sI_le_f, sI_lt_t, sI_lt_f, sI_eq_t, sI_eq_f, sI_rem, sI_div, sI_m1a, sI_m1b, sI_m1c, sI_m1d, sI_m1e, sI_m1f, sI_m2a, sI_m2b, sI_sub, pk_mul, sI_dec, fk_u_s, fk_u_o, sI_dec0, sI_z, sI_md, Bool.false_eq_true, Nat.reduceAdd, Nat.reduceMul, Nat.reduceSub, Nat.reduceMod, Nat.reduceDiv]
  · rw [if_neg (fun z => c1 z.1)]
    simp (disch := first | assumption | omega) only [rX4_land, hcl, h7, a1, a2, c1, Option.bind_some, Option.toList_some, Option.toList_none, List.cons_append, List.nil_append, fk_b_0, nI_add, Nat.add_zero, Nat.zero_add, not_true_eq_false, not_false_eq_true, if_true, if_false, sI_le_t, sI_le_f, sI_lt_t, sI_lt_f, sI_eq_t, sI_eq_f, sI_rem, sI_div, sI_m1a, sI_m1b, sI_m1c, sI_m1d, sI_m1e, sI_m1f, sI_m2a, sI_m2b, sI_sub, pk_mul, sI_dec, fk_u_s, fk_u_o, sI_dec0, sI_z, sI_md, Bool.false_eq_true, Nat.reduceAdd, Nat.reduceMul, Nat.reduceSub, Nat.reduceMod, Nat.reduceDiv]
theorem mX4_land_e (hc : c = 2 ∨ c = 10) (h2 : y 28 2 = nI c) (h7 : y c 7 = nI e) (hb : e ≤ b) (he : b ≤ 240) : fk_ev d qX4_land 2 [.ref 28, B, .int w, .int (nI b)] [] (fk_E N y l) = some (none, fk_E N y l) := by
  have a0 := (lz_law hc).1
  have hcl : (y 28 2).toNatClampNeg = c := by rw [h2, nI_clamp (by omega)]
  rw [hX4_land_2]
  simp (disch := first | assumption | omega) only [rX4_land, hcl, h7, Option.bind_some, Option.toList_some, Option.toList_none, List.cons_append, List.nil_append, fk_b_0, nI_add, Nat.add_zero, Nat.zero_add, not_true_eq_false, not_false_eq_true, if_true, if_false, sI_le_t, sI_le_f, sI_lt_t, sI_lt_f, sI_eq_t, sI_eq_f, sI_rem, sI_div, sI_m1a, sI_m1b, sI_m1c, sI_m1d, sI_m1e, sI_m1f, sI_m2a, sI_m2b, sI_sub, pk_mul, sI_dec, fk_u_s, fk_u_o, sI_dec0, sI_z, sI_md, Bool.false_eq_true, Nat.reduceAdd, Nat.reduceMul, Nat.reduceSub, Nat.reduceMod, Nat.reduceDiv]
theorem mX4_land_any (hc : c = 2 ∨ c = 10) (h2 : y 28 2 = nI c) (h7 : y c 7 = nI e) (he : e ≤ 240) (hb : b ≤ 240) : ∃ y', fk_ev d qX4_land 0 [.ref 28, .int ((nI b)), .int w, .null] [] (fk_E N y l) = some (none, fk_E N y' l) ∧ ∀ k, k ≠ c + 2 → y' k = y k := by
  have st : fk_ev d qX4_land 0 [.ref 28, .int ((nI b)), .int w, .null] [] (fk_E N y l) = fk_ev d qX4_land 2 [.ref 28, .int (nI b), .int w, .int (nI b)] [] (fk_E N y l) := by
    simp (disch := first | assumption | omega) only [rX4_land, Option.bind_some, Option.toList_some, Option.toList_none, List.cons_append, List.nil_append, fk_b_0, nI_add, Nat.add_zero, Nat.zero_add, not_true_eq_false, not_false_eq_true, if_true, if_false, sI_le_t, sI_le_f, sI_lt_t, sI_lt_f, sI_eq_t, sI_eq_f, sI_rem, sI_div, sI_m1a, sI_m1b, sI_m1c, sI_m1d, sI_m1e, sI_m1f, sI_m2a, sI_m2b, sI_sub, pk_mul, sI_dec, fk_u_s, fk_u_o, sI_dec0, sI_z, sI_md, Bool.false_eq_true, Nat.reduceAdd, Nat.reduceMul, Nat.reduceSub, Nat.reduceMod, Nat.reduceDiv]
  rw [st]
  by_cases c1 : e ≤ b
  · exact ⟨y, mX4_land_e hc h2 h7 c1 hb, fun _ _ => rfl⟩
  · have := fk_loopr (fun i (z : Nat → Nat → Int32) => fk_ev d qX4_land 2 [.ref 28, .int (nI b), .int w, .int (nI i)] [] (fk_E N z l)) (fun i z => ∀ k, k ≠ c + 2 → z k = y k) e (fun i z hi hI => by
      refine ⟨_, mX4_land_1 hc (by rw [hI 28 (by omega)]; exact h2) (by rw [hI c (by omega)]; exact h7) hi he, fun k hk => ?_⟩
      split
      · rw [fk_u_rowo hk]; exact hI k hk
      · exact hI k hk) (e - b) b y (by omega) (fun _ _ => rfl)
    obtain ⟨y', e1, e2⟩ := this
    refine ⟨y', ?_, e2⟩
    rw [e1]
    exact mX4_land_e hc (by rw [e2 28 (by omega)]; exact h2) (by rw [e2 c (by omega)]; exact h7) (Nat.le_refl _) he
theorem lz_ko_34 : ∀ o, o ≤ 12 → (lz_ko o = 3 → o = 11) ∧ (lz_ko o = 4 → o = 12) ∧ lz_ko o < 100 := by decide
theorem mX4_land_K (hc : c = 2 ∨ c = 10) (hj : j = 3 ∨ j = 4) (h2 : y 28 2 = nI c) (h7 : y c 7 = nI e) (he : e ≤ 240) : ∀ (K : List (Nat × Nat)) b, lz_hc y c b K → lz_wf K → b + K.length ≤ e → fk_ev d qX4_land 2 [.ref 28, B, .int (nI j), .int (nI b)] [] (fk_E N y l) = fk_ev d qX4_land 2 [.ref 28, B, .int (nI j), .int (nI (b + K.length))] [] (fk_E N y l) := by
  intro K
  induction K with
  | nil => intro b _ _ _; rfl
  | cons k K ih =>
    intro b hK hw hb
    have hb : b + (K.length + 1) ≤ e := hb
    have w1 := hw k (List.mem_cons_self ..)
    rw [mX4_land_1 hc h2 h7 (by omega) he, if_neg, ih (b + 1) hK.2 (fun c hc => hw c (List.mem_cons_of_mem _ hc)) (by omega), show b + 1 + K.length = b + (k :: K).length by rw [List.length_cons]; omega]
    rintro ⟨z1, z2⟩
    have o34 := lz_ko_34 k.1 w1.1
    rw [hK.1.1] at z1
    have z3 := (nI_eq (by omega) (by omega)).mp z1
    have z4 : k.1 = 11 ∨ k.1 = 12 := by rcases hj with rfl | rfl; exact Or.inl (o34.1 z3); exact Or.inr (o34.2.1 z3)
    apply z2
    rw [hK.1.2]
    unfold lz_kp
    rw [if_neg (by omega), if_pos z4]
    exact nI_le (Nat.zero_le _) (by omega)
/-- pieces behind signs that don't know yet where to leap -/
def lz_hp (y : Nat → Nat → Int32) (c j : Nat) : Nat → List (List (Nat × Nat)) → Prop
  | _, [] => True
  | b, K :: P => (y (c + 1) b = nI j ∧ y (c + 2) b = (-1)) ∧ lz_hc y c (b + 1) K ∧ lz_hp y c j (b + 1 + K.length) P
def lz_pl : List (List (Nat × Nat)) → Nat
  | [] => 0
  | K :: P => K.length + 1 + lz_pl P
theorem lz_pl_app : ∀ (P P2 : List (List (Nat × Nat))), lz_pl (P ++ P2) = lz_pl P + lz_pl P2 := by
  intro P
  induction P with
  | nil => intro P2; exact (Nat.zero_add _).symm
  | cons K P ih =>
    intro P2
    show K.length + 1 + lz_pl (P ++ P2) = K.length + 1 + lz_pl P + lz_pl P2
    rw [ih]; omega
theorem lz_hp_c : ∀ (P : List (List (Nat × Nat))) b, (∀ i, b ≤ i → i < b + lz_pl P → y' (c + 1) i = y (c + 1) i ∧ y' (c + 2) i = y (c + 2) i) → lz_hp y c j b P → lz_hp y' c j b P := by
  intro P
  induction P with
  | nil => intro _ _ _; trivial
  | cons K P ih =>
    intro b h hp
    have hl : lz_pl (K :: P) = K.length + 1 + lz_pl P := rfl
    have h0 := h b (Nat.le_refl _) (by omega)
    exact ⟨⟨h0.1.trans hp.1.1, h0.2.trans hp.1.2⟩, lz_hc_c K (b + 1) (fun i i1 i2 => h i (by omega) (by omega)) hp.2.1, ih (b + 1 + K.length) (fun i i1 i2 => h i (by omega) (by omega)) hp.2.2⟩
theorem lz_hp_app {P2 : List (List (Nat × Nat))} : ∀ (P : List (List (Nat × Nat))) b, lz_hp y c j b P → lz_hp y c j (b + lz_pl P) P2 → lz_hp y c j b (P ++ P2) := by
  intro P
  induction P with
  | nil => intro b _ h; exact h
  | cons K P ih =>
    intro b h h2
    have hl : b + lz_pl (K :: P) = b + 1 + K.length + lz_pl P := by show b + (K.length + 1 + lz_pl P) = _; omega
    rw [hl] at h2
    exact ⟨h.1, h.2.1, ih _ h.2.2 h2⟩
theorem lz_tc_pl (o : Nat) : ∀ P : List (List (Nat × Nat)), (lz_tc o P).length = lz_pl P := by
  intro P
  induction P with
  | nil => rfl
  | cons K P ih =>
    show (K ++ lz_tc o P).length + 1 = K.length + 1 + lz_pl P
    rw [List.length_append, ih]; omega
theorem mX4_land_P (hc : c = 2 ∨ c = 10) (hj : (j = 3 ∧ jj = 11) ∨ (j = 4 ∧ jj = 12)) (he : e ≤ 240) : ∀ (P : List (List (Nat × Nat))) b y, y 28 2 = nI c → y c 7 = nI e → lz_hp y c j b P → (∀ K ∈ P, lz_wf K) → b + lz_pl P = e → ∃ y', fk_ev d qX4_land 2 [.ref 28, B, .int (nI j), .int (nI b)] [] (fk_E N y l) = fk_ev d qX4_land 2 [.ref 28, B, .int (nI j), .int (nI e)] [] (fk_E N y' l) ∧ (∀ k, k ≠ c + 2 → y' k = y k) ∧ (∀ i, i < b → y' (c + 2) i = y (c + 2) i) ∧ lz_hc y' c b (lz_tc jj P) := by
  intro P
  induction P with
  | nil =>
    intro b y h2 h7 _ _ hb
    have hb : b = e := hb
    subst hb
    exact ⟨y, rfl, fun _ _ => rfl, fun _ _ => rfl, trivial⟩
  | cons K P ih =>
    intro b y h2 h7 hp hw hb
    have hb : b + (K.length + 1 + lz_pl P) = e := hb
    obtain ⟨⟨p1, p2⟩, p3, p4⟩ := hp
    obtain ⟨y1, ey⟩ : ∃ y1, y1 = fk_u y (c + 2) b (nI e) := ⟨_, rfl⟩
    have q1 : fk_ev d qX4_land 2 [.ref 28, B, .int (nI j), .int (nI b)] [] (fk_E N y l) = fk_ev d qX4_land 2 [.ref 28, B, .int (nI j), .int (nI (b + 1))] [] (fk_E N y1 l) := by
      rw [mX4_land_1 hc h2 h7 (by omega) he, if_pos ⟨p1, by rw [p2]; decide⟩, ey]
    have y12 : y1 28 2 = nI c := by rw [ey, fk_u_o (by omega)]; exact h2
    have y17 : y1 c 7 = nI e := by rw [ey, fk_u_o (by omega)]; exact h7
    have hK1 : lz_hc y1 c (b + 1) K := lz_hc_c K (b + 1) (fun i i1 i2 => by rw [ey, fk_u_o (by omega), fk_u_o (by omega)]; exact ⟨rfl, rfl⟩) p3
    have hP1 : lz_hp y1 c j (b + 1 + K.length) P := lz_hp_c P _ (fun i i1 i2 => by rw [ey, fk_u_o (by omega), fk_u_o (by omega)]; exact ⟨rfl, rfl⟩) p4
    have q2 := mX4_land_K (N := N) (l := l) (d := d) (B := B) (j := j) hc (by omega) y12 y17 he K (b + 1) hK1 (hw K (List.mem_cons_self ..)) (by omega)
    obtain ⟨y', r1, r2, r3, r4⟩ := ih (b + 1 + K.length) y1 y12 y17 hP1 (fun K hK => hw K (List.mem_cons_of_mem _ hK)) (by omega)
    refine ⟨y', by rw [q1, q2, r1], fun k hk => by rw [r2 k hk, ey, fk_u_rowo hk], fun i hi => by rw [r3 i (by omega), ey, fk_u_o (by omega)], ⟨?_, ?_⟩, lz_hc_app K (lz_hc_c K (b + 1) (fun i i1 i2 => ⟨by rw [r2 (c + 1) (by omega)], r3 i (by omega)⟩) hK1) r4⟩
    · rw [r2 (c + 1) (by omega), ey, fk_u_o (by omega), p1]
      rcases hj with ⟨rfl, rfl⟩ | ⟨rfl, rfl⟩ <;> rfl
    · rw [r3 b (by omega), ey, fk_u_s]
      show nI e = nI (lz_kp b jj ((K ++ lz_tc jj P).length + 1))
      unfold lz_kp
      rw [if_neg (by omega), if_pos (by omega), List.length_append, lz_tc_pl, ← hb]
      congr 1
      omega
def lz_m1 (v : Int32 ⊕ (Nat × List (Nat × Nat) × List (Nat × Nat))) : Int32 ⊕ (Nat × List (Nat × Nat)) := match v with
  | .inl e => .inl e
  | .inr x => .inr (x.1, x.2.1)
def lz_m3 (jj : Nat) (K1 : List (Nat × Nat)) (P : List (List (Nat × Nat))) (v : Int32 ⊕ (Nat × List (Nat × List (Nat × Nat) × List (Nat × Nat)))) : Int32 ⊕ (Nat × List (Nat × Nat)) := match v with
  | .inl e => .inl e
  | .inr z => .inr (z.1, K1 ++ lz_tc jj (P ++ (z.2.map Prod.snd).map Prod.fst))
theorem lz_chain2 {c0 : Nat} {f : Nat → Int32 ⊕ (Nat × List (Nat × Nat) × List (Nat × Nat))} {nd D : Nat} {Q : fk_Me} {L : List Value} (hc : c = 2 ∨ c = 10) (hn : n ≤ 240) (hj : (j = 3 ∧ jj = 11) ∨ (j = 4 ∧ jj = 12)) (hQ : ∀ a, a ≤ n → lz_g n (lz_Q2 nd) a (f a)) (H : Int32 → (Nat → Nat → Int32) → Option (Option Value × fk_H))
  (h1 : ∀ v y y', ¬ v = nI 0 → fk_ev D qX4_land 0 [.ref 28, .int (nI s), .int (nI j), .null] [] (fk_E N y l) = some (none, fk_E N y' l) → H v y = some (some (.int v), fk_E N y' l))
  (h2 : ∀ a s' y y', lz_ct bt n c a s' y → ¬ (a < n ∧ bt a = c0) → fk_ev D qX4_land 0 [.ref 28, .int (nI s), .int (nI j), .null] [] (fk_E N y l) = some (none, fk_E N y' l) → H (nI 0) y = some (some (.int (nI 0)), fk_E N y' l))
  (h3 : ∀ a s' y y2 v3 y3, lz_ct bt n c a s' y → a < n → bt a = c0 → fk_ev D qX3_add 0 [.ref c, .int (nI j), .int (-1)] [] (fk_E N (lz_av bt n a y) l) = some (none, fk_E N y2 l) → fk_ev D Q 0 L [] (fk_E N y2 l) = some (some (.int v3), fk_E N y3 l) → H (nI 0) y = H v3 y3)
  (hf : lz_sp N l bt n c D Q L (fun a => lz_m1 (f a))) : ∀ k a (K1 : List (Nat × Nat)) (P : List (List (Nat × Nat))) y1, n ≤ k + a → lz_ct bt n c a (s + K1.length + lz_pl P) y1 → s + K1.length + lz_pl P ≤ a → lz_hc y1 c s K1 → lz_hp y1 c j (s + K1.length) P → lz_wf K1 → (∀ K ∈ P, lz_wf K) → (∀ i, i < s → y1 (c + 1) i = y (c + 1) i ∧ y1 (c + 2) i = y (c + 2) i) → fk_s9 c y y1 → ∃ v y', H (nI 0) y1 = some (some (.int v), fk_E N y' l) ∧ fk_s9 c y y' ∧ lz_cR bt n c s y y' v (lz_m3 jj K1 P (lz_c bt n (fun b => b == c0) f k a)) := by
  have stop : ∀ a (K1 : List (Nat × Nat)) (P : List (List (Nat × Nat))) y1, ¬ (a < n ∧ bt a = c0) → lz_ct bt n c a (s + K1.length + lz_pl P) y1 → lz_hc y1 c s K1 → lz_hp y1 c j (s + K1.length) P → lz_wf K1 → (∀ K ∈ P, lz_wf K) → (∀ i, i < s → y1 (c + 1) i = y (c + 1) i ∧ y1 (c + 2) i = y (c + 2) i) → fk_s9 c y y1 → ∃ v y', H (nI 0) y1 = some (some (.int v), fk_E N y' l) ∧ fk_s9 c y y' ∧ lz_cR bt n c s y y' v (lz_m3 jj K1 P (.inr (a, []))) := by
    intro a K1 P y1 cS hct hK hP wK wP hrow hs9
    obtain ⟨g1, g2, g3, g4, g5, g6, g7, g8, g9, g10, g11⟩ := id hct
    have q1 := mX4_land_K (N := N) (l := l) (d := D) (B := .int (nI s)) (j := j) hc (by omega) g2 g10 g11 K1 s hK wK (by omega)
    obtain ⟨y', r1, r2, r3, r4⟩ := mX4_land_P (N := N) (l := l) (d := D) (B := .int (nI s)) hc hj g11 P (s + K1.length) y1 g2 g10 hP wP rfl
    have y'2 : y' 28 2 = nI c := by rw [r2 28 (by omega)]; exact g2
    have y'7 : y' c 7 = nI (s + K1.length + lz_pl P) := by rw [r2 c (by omega)]; exact g10
    have q2 := mX4_land_e (N := N) (l := l) (d := D) (B := .int (nI s)) (w := nI j) hc y'2 y'7 (Nat.le_refl _) g11
    have ld : fk_ev D qX4_land 0 [.ref 28, .int (nI s), .int (nI j), .null] [] (fk_E N y1 l) = some (none, fk_E N y' l) := by
      have st : fk_ev D qX4_land 0 [.ref 28, .int (nI s), .int (nI j), .null] [] (fk_E N y1 l) = fk_ev D qX4_land 2 [.ref 28, .int (nI s), .int (nI j), .int (nI s)] [] (fk_E N y1 l) := by
        simp (disch := first | assumption | omega) only [rX4_land, Option.bind_some, Option.toList_some, Option.toList_none, List.cons_append, List.nil_append, fk_b_0, nI_add, Nat.add_zero, Nat.zero_add, not_true_eq_false, not_false_eq_true, if_true, if_false, sI_le_t, sI_le_f, sI_lt_t, sI_lt_f, sI_eq_t, sI_eq_f, sI_rem, sI_div, sI_m1a, sI_m1b, sI_m1c, sI_m1d, sI_m1e, sI_m1f, sI_m2a, sI_m2b, sI_sub, pk_mul, sI_dec, fk_u_s, fk_u_o, sI_dec0, sI_z, sI_md, Bool.false_eq_true, Nat.reduceAdd, Nat.reduceMul, Nat.reduceSub, Nat.reduceMod, Nat.reduceDiv]
      rw [st, q1, r1, q2]
    have el : (K1 ++ lz_tc jj (P ++ [])).length = K1.length + lz_pl P := by rw [List.append_nil, List.length_append, lz_tc_pl]
    refine ⟨nI 0, y', h2 a _ y1 y' hct cS ld, ⟨fun k k1 k2 k3 k4 => (r2 k k4).trans (hs9.1 k k1 k2 k3 k4), fun i i1 i2 => by rw [r2 28 (by omega)]; exact hs9.2.1 i i1 i2, fun i i1 => by rw [r2 c (by omega)]; exact hs9.2.2 i i1⟩, rfl, ?_, ?_, fun i hi => ?_⟩
    · show lz_ct bt n c a (s + (K1 ++ lz_tc jj (P ++ [])).length) y'
      rw [el, ← Nat.add_assoc]
      exact ⟨g1, y'2, by rw [r2 28 (by omega)]; exact g3, by rw [r2 28 (by omega)]; exact g4, by rw [r2 28 (by omega)]; exact g5, fun i hi => by rw [r2 29 (by omega)]; exact g6 i hi, g7, g8, g9, y'7, g11⟩
    · show lz_hc y' c s (K1 ++ lz_tc jj (P ++ []))
      rw [List.append_nil]
      exact lz_hc_app K1 (lz_hc_c K1 s (fun i i1 i2 => ⟨by rw [r2 (c + 1) (by omega)], r3 i (by omega)⟩) hK) r4
    · have t := hrow i hi
      exact ⟨by rw [r2 (c + 1) (by omega)]; exact t.1, (r3 i (by omega)).trans t.2⟩
  intro k
  induction k with
  | zero =>
    intro a K1 P y1 hk hct _ hK hP wK wP hrow hs9
    exact stop a K1 P y1 (by omega) hct hK hP wK wP hrow hs9
  | succ k ih =>
    intro a K1 P y1 hk hct hsa hK hP wK wP hrow hs9
    unfold lz_c
    by_cases cS : a < n ∧ bt a = c0
    · rw [if_pos ⟨cS.1, beq_iff_eq.mpr cS.2⟩]
      have n9 := hct.2.2.2.2.2.2.2.2.1
      have hadv := lz_ct_adv hct cS.1
      have hsav := lz_s9_adv hct
      have hadd := mX3_add (N := N) (l := l) (d := D) (v := nI j) (w := (-1)) hc hadv.2.2.2.2.2.2.2.2.2.1 (by omega)
      have hct2 := lz_ct_add (v := nI j) (w := (-1)) hadv (by omega)
      obtain ⟨y2, ey2⟩ : ∃ y2, y2 = fk_u (fk_u (fk_u (lz_av bt n a y1) (c + 1) (s + K1.length + lz_pl P) (nI j)) (c + 2) (s + K1.length + lz_pl P) (-1)) c 7 (nI (s + K1.length + lz_pl P + 1)) := ⟨_, rfl⟩
      rw [← ey2] at hadd hct2
      have s2 : fk_s9 c y y2 := by
        rw [ey2]
        exact fk_s9_c hc (fk_s9_c hc (fk_s9_c hc (fk_s9_t hs9 hsav) (by omega)) (by omega)) (by omega)
      have r2 : ∀ i, i < s + K1.length + lz_pl P → y2 (c + 1) i = y1 (c + 1) i ∧ y2 (c + 2) i = y1 (c + 2) i := fun i hi => by
        rw [ey2]
        unfold lz_av
        rw [fk_u_o (by omega), fk_u_o (by omega), fk_u_o (by omega), fk_u_o (by omega), fk_u_o (by omega), fk_u_o (by omega), fk_u_o (by omega), fk_u_o (by omega), fk_u_o (by omega), fk_u_o (by omega)]
        exact ⟨rfl, rfl⟩
      have r2m : y2 (c + 1) (s + K1.length + lz_pl P) = nI j ∧ y2 (c + 2) (s + K1.length + lz_pl P) = (-1) := by
        rw [ey2]
        exact ⟨by rw [fk_u_o (by omega), fk_u_o (by omega), fk_u_s], by rw [fk_u_o (by omega), fk_u_s]⟩
      obtain ⟨v3, y3, e1, e2, e3⟩ := hf (a + 1) (s + K1.length + lz_pl P + 1) y2 hct2 (by omega)
      have e3 : lz_cR bt n c (s + K1.length + lz_pl P + 1) y2 y3 v3 (lz_m1 (f (a + 1))) := e3
      have g := hQ (a + 1) cS.1
      have y32 : y3 28 2 = nI c := by rw [e2.2.1 2 (by omega) (by omega)]; exact hct2.2.1
      have hst := h3 a _ y1 y2 v3 y3 hct cS.1 cS.2 hadd e1
      cases ef : f (a + 1) with
      | inl e =>
        rw [ef] at e3
        obtain ⟨rfl, e4, s', e5, e6⟩ := e3
        obtain ⟨y4, q1, q2⟩ := mX4_land_any (N := N) (l := l) (d := D) (b := s) (w := nI j) hc y32 e6 e5 (by omega)
        have s3 := fk_s9_t s2 e2
        refine ⟨v3, y4, ?_, ⟨fun k k1 k2 k3 k4 => (q2 k k4).trans (s3.1 k k1 k2 k3 k4), fun i i1 i2 => by rw [q2 28 (by omega)]; exact s3.2.1 i i1 i2, fun i i1 => by rw [q2 c (by omega)]; exact s3.2.2 i i1⟩, rfl, e4, s', e5, by rw [q2 c (by omega)]; exact e6⟩
        rw [hst]
        exact h1 v3 y3 y4 e4 q1
      | inr z =>
        rw [ef] at e3 g
        obtain ⟨rfl, e4, e5, e6⟩ := e3
        obtain ⟨g1, g2, g3, g4, g5, _⟩ := g
        have e4 : lz_ct bt n c z.1 (s + K1.length + lz_pl P + 1 + z.2.1.length) y3 := e4
        have e5 : lz_hc y3 c (s + K1.length + lz_pl P + 1) z.2.1 := e5
        have elp : lz_pl (P ++ [z.2.1]) = lz_pl P + (z.2.1.length + 1) := by rw [lz_pl_app]; rfl
        have r3 : ∀ i, i < s + K1.length + lz_pl P → y3 (c + 1) i = y1 (c + 1) i ∧ y3 (c + 2) i = y1 (c + 2) i := fun i hi => by
          have t1 := e6 i (by omega)
          have t2 := r2 i hi
          exact ⟨t1.1.trans t2.1, t1.2.trans t2.2⟩
        have r3m := e6 (s + K1.length + lz_pl P) (by omega)
        obtain ⟨v, y', p1, p2, p3⟩ := ih z.1 K1 (P ++ [z.2.1]) y3 (by omega) (by rw [elp, show s + K1.length + (lz_pl P + (z.2.1.length + 1)) = s + K1.length + lz_pl P + 1 + z.2.1.length by omega]; exact e4) (by rw [elp]; omega) (lz_hc_c K1 s (fun i i1 i2 => r3 i (by omega)) hK) (lz_hp_app P _ (lz_hp_c P _ (fun i i1 i2 => r3 i (by omega)) hP) ⟨⟨r3m.1.trans r2m.1, r3m.2.trans r2m.2⟩, e5, trivial⟩) wK (fun K hK => (List.mem_append.mp hK).elim (wP K) (fun z => by rw [List.mem_singleton.mp z]; exact g5)) (fun i hi => by
          have t1 := r3 i (by omega)
          have t2 := hrow i hi
          exact ⟨t1.1.trans t2.1, t1.2.trans t2.2⟩) (fk_s9_t s2 e2)
        refine ⟨v, y', by rw [hst]; exact p1, p2, ?_⟩
        dsimp only
        cases e7 : lz_c bt n (fun b => b == c0) f k z.1 with
        | inl e => rw [e7] at p3; exact p3
        | inr u =>
          rw [e7] at p3
          have eq : (P ++ [z.2.1]) ++ (u.2.map Prod.snd).map Prod.fst = P ++ (((bt a, z.2) :: u.2).map Prod.snd).map Prod.fst := by
            rw [List.append_assoc]; rfl
          show lz_cR bt n c s y y' v (.inr (u.1, K1 ++ lz_tc jj (P ++ (((bt a, z.2) :: u.2).map Prod.snd).map Prod.fst)))
          rw [← eq]
          exact p3
    · rw [if_neg (fun z => cS ⟨z.1, beq_iff_eq.mp z.2⟩)]
      exact stop a K1 P y1 cS hct hK hP wK wP hrow hs9
theorem lz_join2 {c0 : Nat} {f : Nat → Int32 ⊕ (Nat × List (Nat × Nat) × List (Nat × Nat))} {nd D E : Nat} {Q M : fk_Me} {L LM : List Value} (hc : c = 2 ∨ c = 10) (hn : n ≤ 240) (hj : (j = 3 ∧ jj = 11) ∨ (j = 4 ∧ jj = 12)) (hQ : ∀ a, a ≤ n → lz_g n (lz_Q2 nd) a (f a)) (H : Nat → Int32 → (Nat → Nat → Int32) → Option (Option Value × fk_H))
  (h0 : ∀ s y v y1, y 28 2 = nI c → y c 7 = nI s → fk_ev D Q 0 L [] (fk_E N y l) = some (some (.int v), fk_E N y1 l) → fk_ev E M 0 LM [] (fk_E N y l) = H s v y1)
  (h1 : ∀ s v y y', ¬ v = nI 0 → fk_ev D qX4_land 0 [.ref 28, .int (nI s), .int (nI j), .null] [] (fk_E N y l) = some (none, fk_E N y' l) → H s v y = some (some (.int v), fk_E N y' l))
  (h2 : ∀ s a s' y y', lz_ct bt n c a s' y → ¬ (a < n ∧ bt a = c0) → fk_ev D qX4_land 0 [.ref 28, .int (nI s), .int (nI j), .null] [] (fk_E N y l) = some (none, fk_E N y' l) → H s (nI 0) y = some (some (.int (nI 0)), fk_E N y' l))
  (h3 : ∀ s a s' y y2 v3 y3, lz_ct bt n c a s' y → a < n → bt a = c0 → fk_ev D qX3_add 0 [.ref c, .int (nI j), .int (-1)] [] (fk_E N (lz_av bt n a y) l) = some (none, fk_E N y2 l) → fk_ev D Q 0 L [] (fk_E N y2 l) = some (some (.int v3), fk_E N y3 l) → H s (nI 0) y = H s v3 y3)
  (hf : lz_sp N l bt n c D Q L (fun a => lz_m1 (f a))) : lz_sp N l bt n c E M LM (fun a => lz_m1 (lz_ch2 bt n c0 jj f a)) := by
  intro a s y hct hs
  obtain ⟨v, y1, e1, e2, e3⟩ := hf a s y hct hs
  have e3 : lz_cR bt n c s y y1 v (lz_m1 (f a)) := e3
  show ∃ v' y', fk_ev E M 0 LM [] (fk_E N y l) = some (some (.int v'), fk_E N y' l) ∧ fk_s9 c y y' ∧ lz_cR bt n c s y y' v' (lz_m1 (lz_ch2 bt n c0 jj f a))
  have g := hQ a hct.2.2.2.2.2.2.2.1
  have s24 := hct.2.2.2.2.2.2.2.2.2.2
  rw [h0 s y v y1 hct.2.1 hct.2.2.2.2.2.2.2.2.2.1 e1]
  unfold lz_ch2
  cases ef : f a with
  | inl e =>
    rw [ef] at e3
    obtain ⟨rfl, e4, s', e5, e6⟩ := e3
    have y12 : y1 28 2 = nI c := by rw [e2.2.1 2 (by omega) (by omega)]; exact hct.2.1
    obtain ⟨y4, q1, q2⟩ := mX4_land_any (N := N) (l := l) (d := D) (b := s) (w := nI j) hc y12 e6 e5 s24
    exact ⟨v, y4, h1 s v y1 y4 e4 q1, ⟨fun k k1 k2 k3 k4 => (q2 k k4).trans (e2.1 k k1 k2 k3 k4), fun i i1 i2 => by rw [q2 28 (by omega)]; exact e2.2.1 i i1 i2, fun i i1 => by rw [q2 c (by omega)]; exact e2.2.2 i i1⟩, rfl, e4, s', e5, by rw [q2 c (by omega)]; exact e6⟩
  | inr z =>
    rw [ef] at e3 g
    obtain ⟨rfl, e4, e5, e6⟩ := e3
    obtain ⟨g1, g2, g3, g4, g5, _⟩ := g
    obtain ⟨v, y', p1, p2, p3⟩ := lz_chain2 (s := s) (y := y) hc hn hj hQ (H s) (h1 s) (h2 s) (h3 s) hf n z.1 z.2.1 [] y1 (by omega) e4 (by show s + z.2.1.length + 0 ≤ z.1; omega) e5 trivial g5 (fun K hK => absurd hK List.not_mem_nil) e6 e2
    refine ⟨v, y', p1, p2, ?_⟩
    dsimp only
    cases e7 : lz_c bt n (fun b => b == c0) f n z.1 with
    | inl e => rw [e7] at p3; exact p3
    | inr u => rw [e7] at p3; exact p3
theorem mX4_allOf {f : Nat → Int32 ⊕ (Nat × List (Nat × Nat) × List (Nat × Nat))} {nd D : Nat} (hc : c = 2 ∨ c = 10) (hn : n ≤ 240) (hQ : ∀ a, a ≤ n → lz_g n (lz_Q2 nd) a (f a)) (hf : lz_sp N l bt n c (D + 1) qX4_piece [.ref 28, .int (nI o), .null, .null, .null] (fun a => lz_m1 (f a))) : lz_sp N l bt n c (D + 2) qX4_allOf [.ref 28, .int (nI o), .null, .null] (fun a => lz_m1 (lz_ch2 bt n 38 11 f a)) := by
  have hat := (lz_law hc).1
  refine lz_join2 (c0 := 38) (j := 3) (jj := 11) (D := D + 1) (Q := qX4_piece) (L := [.ref 28, .int (nI o), .null, .null, .null]) hc hn (Or.inl ⟨rfl, rfl⟩) hQ (fun s v y => fk_ev (D + 2) qX4_allOf 14 [.ref 28, .int (nI o), .int (nI s), .int v] [] (fk_E N y l)) (fun s y v y1 y2 y7 e => ?_) (fun s v y y' hv e => ?_) (fun s a s' y y' h cS e => ?_) (fun s a s' y y2 v3 y3 h lt cS e1 e2 => ?_) hf
  · have hcl : (y 28 2).toNatClampNeg = c := by rw [y2, nI_clamp (by omega)]
    simp (disch := first | assumption | omega) only [rX4_allOf, hcl, y7, e, Option.bind_some, Option.toList_some, Option.toList_none, List.cons_append, List.nil_append, fk_b_0, nI_add, Nat.add_zero, Nat.zero_add, not_true_eq_false, not_false_eq_true, if_true, if_false, sI_le_t, sI_le_f, sI_lt_t, sI_lt_f, sI_eq_t, sI_eq_f, sI_rem, sI_div, sI_m1a, sI_m1b, sI_m1c, sI_m1d, sI_m1e, sI_m1f, sI_m2a, sI_m2b, sI_sub, pk_mul, sI_dec, fk_u_s, fk_u_o, sI_dec0, sI_z, sI_md, Bool.false_eq_true, Nat.reduceAdd, Nat.reduceMul, Nat.reduceSub, Nat.reduceMod, Nat.reduceDiv]
  · rw [hX4_allOf_14]
    simp (disch := first | assumption | omega) only [rX4_allOf, hv, e, Option.bind_some, Option.toList_some, Option.toList_none, List.cons_append, List.nil_append, fk_b_0, nI_add, Nat.add_zero, Nat.zero_add, not_true_eq_false, not_false_eq_true, if_true, if_false, sI_le_t, sI_le_f, sI_lt_t, sI_lt_f, sI_eq_t, sI_eq_f, sI_rem, sI_div, sI_m1a, sI_m1b, sI_m1c, sI_m1d, sI_m1e, sI_m1f, sI_m2a, sI_m2b, sI_sub, pk_mul, sI_dec, fk_u_s, fk_u_o, sI_dec0, sI_z, sI_md, Bool.false_eq_true, Nat.reduceAdd, Nat.reduceMul, Nat.reduceSub, Nat.reduceMod, Nat.reduceDiv]
  · obtain ⟨h1, h2, h3, h4, h5, h6, h7, h8, h9, h10, h11⟩ := id h
    rw [hX4_allOf_14]
    by_cases lt : a < n
    · have np := lz_pk_n (n := n) (x := 38) (h7 a) (by omega) cS
      simp (disch := first | assumption | omega) only [rX4_allOf, h4, h3, h5, np, e, Option.bind_some, Option.toList_some, Option.toList_none, List.cons_append, List.nil_append, fk_b_0, nI_add, Nat.add_zero, Nat.zero_add, not_true_eq_false, not_false_eq_true, if_true, if_false, sI_le_t, sI_le_f, sI_lt_t, sI_lt_f, sI_eq_t, sI_eq_f, sI_rem, sI_div, sI_m1a, sI_m1b, sI_m1c, sI_m1d, sI_m1e, sI_m1f, sI_m2a, sI_m2b, sI_sub, pk_mul, sI_dec, fk_u_s, fk_u_o, sI_dec0, sI_z, sI_md, Bool.false_eq_true, Nat.reduceAdd, Nat.reduceMul, Nat.reduceSub, Nat.reduceMod, Nat.reduceDiv]
    · simp (disch := first | assumption | omega) only [rX4_allOf, h4, h3, e, Option.bind_some, Option.toList_some, Option.toList_none, List.cons_append, List.nil_append, fk_b_0, nI_add, Nat.add_zero, Nat.zero_add, not_true_eq_false, not_false_eq_true, if_true, if_false, sI_le_t, sI_le_f, sI_lt_t, sI_lt_f, sI_eq_t, sI_eq_f, sI_rem, sI_div, sI_m1a, sI_m1b, sI_m1c, sI_m1d, sI_m1e, sI_m1f, sI_m2a, sI_m2b, sI_sub, pk_mul, sI_dec, fk_u_s, fk_u_o, sI_dec0, sI_z, sI_md, Bool.false_eq_true, Nat.reduceAdd, Nat.reduceMul, Nat.reduceSub, Nat.reduceMod, Nat.reduceDiv]
  · obtain ⟨h1, h2, h3, h4, h5, h6, h7, h8, h9, h10, h11⟩ := id h
    have ep : ab_pk bt n a = nI 38 := by rw [← cS]; exact if_pos lt
    rw [ep] at h5
    have hv := mX4_adv (N := N) (l := l) (d := D + 1) h lt
    have hcl : (y 28 2).toNatClampNeg = c := by rw [h2, nI_clamp (by omega)]
    rw [hX4_allOf_14]
    simp (disch := first | assumption | omega) only [rX4_allOf, h4, h3, h5, hv, hcl, e1, e2, Option.bind_some, Option.toList_some, Option.toList_none, List.cons_append, List.nil_append, fk_b_0, nI_add, Nat.add_zero, Nat.zero_add, not_true_eq_false, not_false_eq_true, if_true, if_false, sI_le_t, sI_le_f, sI_lt_t, sI_lt_f, sI_eq_t, sI_eq_f, sI_rem, sI_div, sI_m1a, sI_m1b, sI_m1c, sI_m1d, sI_m1e, sI_m1f, sI_m2a, sI_m2b, sI_sub, pk_mul, sI_dec, fk_u_s, fk_u_o, sI_dec0, sI_z, sI_md, Bool.false_eq_true, Nat.reduceAdd, Nat.reduceMul, Nat.reduceSub, Nat.reduceMod, Nat.reduceDiv]
theorem mX4_anyOf {f : Nat → Int32 ⊕ (Nat × List (Nat × Nat) × List (Nat × Nat))} {nd D : Nat} (hc : c = 2 ∨ c = 10) (hn : n ≤ 240) (hQ : ∀ a, a ≤ n → lz_g n (lz_Q2 nd) a (f a)) (hf : lz_sp N l bt n c (D + 1) qX4_allOf [.ref 28, .int (nI o), .null, .null] (fun a => lz_m1 (f a))) : lz_sp N l bt n c (D + 2) qX4_anyOf [.ref 28, .int (nI o), .null, .null] (fun a => lz_m1 (lz_ch2 bt n 124 12 f a)) := by
  have hat := (lz_law hc).1
  refine lz_join2 (c0 := 124) (j := 4) (jj := 12) (D := D + 1) (Q := qX4_allOf) (L := [.ref 28, .int (nI o), .null, .null]) hc hn (Or.inr ⟨rfl, rfl⟩) hQ (fun s v y => fk_ev (D + 2) qX4_anyOf 14 [.ref 28, .int (nI o), .int (nI s), .int v] [] (fk_E N y l)) (fun s y v y1 y2 y7 e => ?_) (fun s v y y' hv e => ?_) (fun s a s' y y' h cS e => ?_) (fun s a s' y y2 v3 y3 h lt cS e1 e2 => ?_) hf
  · have hcl : (y 28 2).toNatClampNeg = c := by rw [y2, nI_clamp (by omega)]
    simp (disch := first | assumption | omega) only [rX4_anyOf, hcl, y7, e, Option.bind_some, Option.toList_some, Option.toList_none, List.cons_append, List.nil_append, fk_b_0, nI_add, Nat.add_zero, Nat.zero_add, not_true_eq_false, not_false_eq_true, if_true, if_false, sI_le_t, sI_le_f, sI_lt_t, sI_lt_f, sI_eq_t, sI_eq_f, sI_rem, sI_div, sI_m1a, sI_m1b, sI_m1c, sI_m1d, sI_m1e, sI_m1f, sI_m2a, sI_m2b, sI_sub, pk_mul, sI_dec, fk_u_s, fk_u_o, sI_dec0, sI_z, sI_md, Bool.false_eq_true, Nat.reduceAdd, Nat.reduceMul, Nat.reduceSub, Nat.reduceMod, Nat.reduceDiv]
  · rw [hX4_anyOf_14]
    simp (disch := first | assumption | omega) only [rX4_anyOf, hv, e, Option.bind_some, Option.toList_some, Option.toList_none, List.cons_append, List.nil_append, fk_b_0, nI_add, Nat.add_zero, Nat.zero_add, not_true_eq_false, not_false_eq_true, if_true, if_false, sI_le_t, sI_le_f, sI_lt_t, sI_lt_f, sI_eq_t, sI_eq_f, sI_rem, sI_div, sI_m1a, sI_m1b, sI_m1c, sI_m1d, sI_m1e, sI_m1f, sI_m2a, sI_m2b, sI_sub, pk_mul, sI_dec, fk_u_s, fk_u_o, sI_dec0, sI_z, sI_md, Bool.false_eq_true, Nat.reduceAdd, Nat.reduceMul, Nat.reduceSub, Nat.reduceMod, Nat.reduceDiv]
  · obtain ⟨h1, h2, h3, h4, h5, h6, h7, h8, h9, h10, h11⟩ := id h
    rw [hX4_anyOf_14]
    by_cases lt : a < n
    · have np := lz_pk_n (n := n) (x := 124) (h7 a) (by omega) cS
      simp (disch := first | assumption | omega) only [rX4_anyOf, h4, h3, h5, np, e, Option.bind_some, Option.toList_some, Option.toList_none, List.cons_append, List.nil_append, fk_b_0, nI_add, Nat.add_zero, Nat.zero_add, not_true_eq_false, not_false_eq_true, if_true, if_false, sI_le_t, sI_le_f, sI_lt_t, sI_lt_f, sI_eq_t, sI_eq_f, sI_rem, sI_div, sI_m1a, sI_m1b, sI_m1c, sI_m1d, sI_m1e, sI_m1f, sI_m2a, sI_m2b, sI_sub, pk_mul, sI_dec, fk_u_s, fk_u_o, sI_dec0, sI_z, sI_md, Bool.false_eq_true, Nat.reduceAdd, Nat.reduceMul, Nat.reduceSub, Nat.reduceMod, Nat.reduceDiv]
    · simp (disch := first | assumption | omega) only [rX4_anyOf, h4, h3, e, Option.bind_some, Option.toList_some, Option.toList_none, List.cons_append, List.nil_append, fk_b_0, nI_add, Nat.add_zero, Nat.zero_add, not_true_eq_false, not_false_eq_true, if_true, if_false, sI_le_t, sI_le_f, sI_lt_t, sI_lt_f, sI_eq_t, sI_eq_f, sI_rem, sI_div, sI_m1a, sI_m1b, sI_m1c, sI_m1d, sI_m1e, sI_m1f, sI_m2a, sI_m2b, sI_sub, pk_mul, sI_dec, fk_u_s, fk_u_o, sI_dec0, sI_z, sI_md, Bool.false_eq_true, Nat.reduceAdd, Nat.reduceMul, Nat.reduceSub, Nat.reduceMod, Nat.reduceDiv]
  · obtain ⟨h1, h2, h3, h4, h5, h6, h7, h8, h9, h10, h11⟩ := id h
    have ep : ab_pk bt n a = nI 124 := by rw [← cS]; exact if_pos lt
    rw [ep] at h5
    have hv := mX4_adv (N := N) (l := l) (d := D + 1) h lt
    have hcl : (y 28 2).toNatClampNeg = c := by rw [h2, nI_clamp (by omega)]
    rw [hX4_anyOf_14]
    simp (disch := first | assumption | omega) only [rX4_anyOf, h4, h3, h5, hv, hcl, e1, e2, Option.bind_some, Option.toList_some, Option.toList_none, List.cons_append, List.nil_append, fk_b_0, nI_add, Nat.add_zero, Nat.zero_add, not_true_eq_false, not_false_eq_true, if_true, if_false, sI_le_t, sI_le_f, sI_lt_t, sI_lt_f, sI_eq_t, sI_eq_f, sI_rem, sI_div, sI_m1a, sI_m1b, sI_m1c, sI_m1d, sI_m1e, sI_m1f, sI_m2a, sI_m2b, sI_sub, pk_mul, sI_dec, fk_u_s, fk_u_o, sI_dec0, sI_z, sI_md, Bool.false_eq_true, Nat.reduceAdd, Nat.reduceMul, Nat.reduceSub, Nat.reduceMod, Nat.reduceDiv]
end CR2
