theorem ck_addr {x z t : Int32} : x + z + t = x + t + z := by
  rw [Int32.add_assoc, Int32.add_comm z t, ← Int32.add_assoc]
section C5
variable {N : Nat} {v y y0 : Nat → Nat → Int32} {l : Nat → Nat → Int64} {d p c n H m : Nat} {T A : Nat → Int32} {b0 : Int32} {W : Int32 → (Nat → Int32) → Int32} {s : ab_S}
/-- one who lived lives no more -/
theorem ab_lo_dead {A' : Nat → Int32} {b : Nat} (hb : b < ab_n A) (h3 : A' 833 = A 833) (hl : A (192 + b) = nI 1) (hd : ¬ A' (192 + b) = nI 1) (h : ∀ j, j < ab_n A → j ≠ b → A' (192 + j) = A (192 + j)) (h1 : ∀ j, j < ab_n A → A' j = A j) (o : Int32) : ab_lo A' o + (if A b = o then 1 else 0) = ab_lo A o := by
  have e : ab_n A' = ab_n A := by unfold ab_n; rw [h3]
  unfold ab_lo
  rw [e]
  have u := fk_cf_upd (p := fun j => decide (A (192 + j) = nI 1 ∧ A j = o)) (q := fun j => decide (A' (192 + j) = nI 1 ∧ A' j = o)) (i := b) (ab_n A) 0 (by omega) (by omega) fun x _ hx hxb => by rw [h x (by omega) hxb, h1 x (by omega)]
  have q0 : decide (A' (192 + b) = nI 1 ∧ A' b = o) = false := decide_eq_false fun z => hd z.1
  by_cases ho : A b = o
  · rw [if_pos ho]
    have p1 : decide (A (192 + b) = nI 1 ∧ A b = o) = true := decide_eq_true ⟨hl, ho⟩
    simp only [q0, p1] at u
    simpa using u
  · rw [if_neg ho]
    have p1 : decide (A (192 + b) = nI 1 ∧ A b = o) = false := decide_eq_false fun z => ho z.2
    simp only [q0, p1] at u
    simpa using u
def ck_mg (y : Nat → Nat → Int32) (p a b o : Nat) (g : Int32) : Nat → Nat → Int32 :=
  fk_u (fk_u (fk_u (fk_u (fk_u (fk_u (fk_u (fk_u (fk_u (fk_u (fk_u y (p + 3 + a) 12 ((y (p + 3 + a) 12 ||| y (p + 3 + b) 12 &&& (y (p + 3 + a) 11 ^^^ (-1))) &&& (g ^^^ (-1)))) (p + 3 + a) 11 ((y (p + 3 + a) 11 ||| y (p + 3 + b) 11) &&& (g ^^^ (-1)))) (p + 3 + a) 5 (y (p + 3 + a) 5 + y (p + 3 + b) 5)) (p + 3 + a) 10 (ab_mn (nI 99999) (y (p + 3 + a) 10 + y (p + 3 + b) 10))) (p + 3 + a) 9 (ab_mx (y (p + 3 + a) 9) (y (p + 3 + b) 9))) (p + 3 + a) 14 (if y (p + 3 + a) 14 = nI 0 ∧ y (p + 3 + b) 14 = nI 0 then nI 0 else nI 1)) (p + 3 + b) 4 (nI 0)) (p + 3 + b) 13 (y (p + 3 + a) 0)) (p + 2) o (y (p + 2) o - nI 1)) p 6 (y p 6 + nI 1)) p 8 (y p 8 + ck_bc g)
set_option maxRecDepth 10000 in
theorem mX8_merge {a b o : Nat} {g : Int32} (hp : ck_pp p) (ha : a < 64) (hb : b < 64) (hab : a ≠ b) (eo : y (p + 3 + a) 1 = nI o) (ho4 : o < 4) : fk_ev (d + 1) qX8_merge 0 [.ref p, .ref ((p + 3 + a)), .ref ((p + 3 + b)), .int g] [] (fk_E N y l) = some (none, fk_E N (ck_mg y p a b o g) l) := by
  obtain ⟨h8, c0, c1, h24, s24, h20, s20, p1, p2⟩ := ck_pp_at hp
  have hha := ck_pp_h hp ha
  have hhb := ck_pp_h hp hb
  have hcc : p + 3 + a ≠ p + 3 + b := by omega
  simp (disch := first | assumption | omega) only [rX8_merge, mX0_takeIn hha hhb hcc, c1, eo, mJ6_bitCount, Option.bind_some, Option.toList_some, Option.toList_none, List.cons_append, List.nil_append, fk_b_0, nI_add, Nat.add_zero, Nat.zero_add, not_true_eq_false, not_false_eq_true, if_true, if_false, sI_le_t, sI_le_f, sI_lt_t, sI_lt_f, sI_eq_t, sI_eq_f, sI_rem, sI_div, sI_m1a, sI_m1b, sI_m1c, sI_m1d, sI_m1e, sI_m1f, sI_m2a, sI_m2b, sI_sub, pk_mul, sI_dec, fk_u_s, fk_u_o, sI_dec0, sI_z, sI_md, Bool.false_eq_true, Nat.reduceAdd, Nat.reduceMul, Nat.reduceSub, Nat.reduceMod, Nat.reduceDiv]
  rfl
set_option maxRecDepth 10000 in
theorem ck_cs_mg {a b o : Nat} (hp : ck_pp p) (hc : c = 2 ∨ c = 10) (hs : ck_cs y0 p c T b0 n y s) (ho : ab_ok v n H s.1) (ha : a < n) (hb : b < n) (hab : a ≠ b) (la : s.1 (192 + a) = nI 1) (lb : s.1 (192 + b) = nI 1) (eo : s.1 a = nI o) (ho4 : o < 4) (eob : s.1 b = s.1 a) : ck_cs y0 p c T b0 n (ck_mg y p a b o (ab_fg W s.1 (ab_both s.1 a b) a b)) (ab_mg W a b s) := by
  have hp' : p = 33 ∨ p = 100 ∨ p = 167 := hp
  have hn := ho.1
  have hNn := ab_ok_n ho
  obtain ⟨g1, g2, g3, g4, g5, g6⟩ := hs
  obtain ⟨⟨q1, q2, q3, q4, q5, q6, q7⟩, q8, q9, q10, q11⟩ := g1
  obtain ⟨a1, a2, a3, a4, a5, a6, a7, a8, a9, a10, a11, a12, a13⟩ := q9 a (by omega) (by omega)
  obtain ⟨b1, b2, b3, b4, b5, b6, b7, b8, b9, b10, b11, b12, b13⟩ := q9 b (by omega) (by omega)
  have hk16 : ∀ k, fk_tb (s.1 (704 + a)) k = true → k < 16 := (ho.2.2.2.2.2.1 a ha).2.2.2.2.2.2.2.1
  have efg : ck_bc (ab_fg W s.1 (ab_both s.1 a b) a b) = fk_bits (ab_fg W s.1 (ab_both s.1 a b) a b) := ck_bc_16 fun k hk => (ab_fg_16 hk).1
  have hlo := ab_lo_dead (A := s.1) (A' := (ab_mg W a b s).1) (b := b) (by omega) (by unfold ab_mg ab_mg1; dsimp only; simp (disch := omega) only [fk_w_o]) lb (by unfold ab_mg ab_mg1; dsimp only; simp (disch := omega) only [fk_w_o, fk_w_s]; decide) (fun j hj hjb => by unfold ab_mg ab_mg1; dsimp only; simp (disch := omega) only [fk_w_o]) (fun j hj => by unfold ab_mg ab_mg1; dsimp only; simp (disch := omega) only [fk_w_o])
  have e833 : (ab_mg W a b s).1 833 = s.1 833 := by unfold ab_mg ab_mg1; dsimp only; simp (disch := omega) only [fk_w_o]
  have eN : ab_n (ab_mg W a b s).1 = n := by unfold ab_n; rw [e833]; exact hNn
  unfold ck_mg
  rw [efg, a12, b12, a11, b11, a5, b5, a10, b10, a9, b9, g2 a ha, g2 b hb, q8 a (by omega)]
  generalize hfg : ab_fg W s.1 (ab_both s.1 a b) a b = fg
  unfold ab_mg at hlo e833 eN ⊢
  rw [hfg] at hlo e833 eN ⊢
  unfold ab_mg1 at hlo e833 eN ⊢
  dsimp only at hlo e833 eN ⊢
  refine ⟨⟨⟨?_, ?_, ?_, ?_, ?_, ?_, ?_⟩, fun i hi => ?_, fun i hi hi2 => ?_, fun i hi hi2 => ?_, fun o' ho' => ?_⟩, fun i hi => ?_, ?_, ?_, fun i i1 i2 => ?_, fun k k1 k2 k3 k4 => ?_⟩
  · simp (disch := omega) only [fk_u_o, fk_u_s, fk_w_o, fk_w_s]; exact q1
  · simp (disch := omega) only [fk_u_o, fk_u_s, fk_w_o, fk_w_s]; exact q2
  · simp (disch := omega) only [fk_u_o, fk_u_s, fk_w_o, fk_w_s]; exact q3
  · simp (disch := omega) only [fk_u_o, fk_u_s, fk_w_o, fk_w_s]; exact q4
  · simp (disch := omega) only [fk_u_o, fk_u_s, fk_w_o, fk_w_s]; rw [ck_addr, q5]
  · simp (disch := omega) only [fk_u_o, fk_u_s, fk_w_o, fk_w_s]; exact q6
  · simp (disch := omega) only [fk_u_o, fk_u_s, fk_w_o, fk_w_s]; rw [ck_addr, q7]
  · simp (disch := omega) only [fk_u_o]; exact q8 i hi
  · rw [eN] at hi2
    by_cases ia : i = a
    · subst ia
      unfold ck_hm
      simp (disch := omega) only [fk_u_o, fk_u_s, fk_w_o, fk_w_s]
      exact ⟨a1, a2, a3, a4, trivial, a6, a7, a8, trivial, trivial, trivial, trivial, a13⟩
    · by_cases ib : i = b
      · subst ib
        unfold ck_hm
        simp (disch := omega) only [fk_u_o, fk_u_s, fk_w_o, fk_w_s]
        exact ⟨b1, b2, b3, by rw [fk_b_f (by decide)], b5, b6, b7, b8, b9, b10, b11, b12, trivial⟩
      · refine ck_hm_congr ?_ (fun c' hc' => ?_) (q9 i hi (by omega))
        · simp (disch := omega) only [fk_u_rowo]
        · simp (disch := omega) only [fk_w_o]
  · rw [eN] at hi2
    by_cases ia : i = a
    · subst ia
      simp (disch := omega) only [fk_u_o, fk_u_s]
      split
      · exact Or.inl rfl
      · exact Or.inr rfl
    · simp (disch := omega) only [fk_u_o]
      exact q10 i hi (by omega)
  · have z := hlo (nI o')
    rw [eob, eo] at z
    by_cases e : o' = o
    · subst e
      rw [if_pos rfl] at z
      simp (disch := omega) only [fk_u_o, fk_u_s]
      rw [q11 o' ho', ← z, pk_sub (by omega), Nat.add_sub_cancel]
    · rw [if_neg (by rw [sI_eq_f (by omega) (by omega) (by omega)]; exact id), Nat.add_zero] at z
      simp (disch := omega) only [fk_u_o]
      rw [q11 o' ho', z]
  · by_cases ia : i = a
    · subst ia
      simp (disch := omega) only [fk_u_o, fk_u_s, fk_w_s]
    · simp (disch := omega) only [fk_u_o, fk_w_o]
      exact g2 i hi
  · simp (disch := omega) only [fk_u_o]; exact g3
  · simp (disch := omega) only [fk_u_o]; exact g4
  · simp (disch := omega) only [fk_u_o]; exact g5 i i1 i2
  · simp (disch := omega) only [fk_u_rowo]; exact g6 k k1 k2 k3 k4
end C5
