section PL3
variable {N : Nat} {S : Nat → Int32} {v y y0 y1 y2 : Nat → Nat → Int32} {l : Nat → Nat → Int64} {d n H c k m p : Nat} {T A : Nat → Int32} {W : Int32 → (Nat → Int32) → Int32} {s : ab_S} {b0 P : Int32}
theorem fk_wnt {u : Int32} : P &&& (b0 ^^^ (-1)) &&& (u ^^^ (-1)) = P &&& ((u ||| b0) ^^^ (-1)) := fk_tb_ext fun k hk => by
  rw [fk_tb_and, fk_tb_and, fk_tb_and, fk_tb_not hk, fk_tb_not hk, fk_tb_not hk, fk_tb_or]
  cases fk_tb P k <;> cases fk_tb b0 k <;> cases fk_tb u k <;> rfl
theorem ck_cs_rowp {q i : Nat} {x : Int32} {R : Nat → Int32} (hp : ck_pp p) (hq : 240 ≤ q) (hc : c = 2 ∨ c = 10) (h : ck_cs (fk_ur y0 q R) p c T b0 0 y s) : ck_cs (fk_ur y0 q (fk_u y q i x q)) p c T b0 0 (fk_u y q i x) s := by
  obtain ⟨h8, c0, c1, h24, s24, h20, s20, p1, p2⟩ := ck_pp_at hp
  obtain ⟨h1, h2, h3, h4, h5, h6⟩ := h
  refine ⟨ck_pr_k h1 fun k k1 k2 => fk_u_rowo (by omega), fun j hj => by omega, by rw [fk_u_rowo (by omega)]; exact h3, by rw [fk_u_rowo (by omega)]; exact h4, fun i' i1 i2 => by rw [fk_u_rowo (by omega), h5 i' i1 i2, fk_ur_o (by omega), fk_ur_o (by omega)], fun k k1 k2 k3 k4 => ?_⟩
  by_cases e : k = q
  · subst e; rw [fk_ur_s]
  · rw [fk_u_rowo e, fk_ur_o e, h6 k k1 k2 k3 k4, fk_ur_o e]
/-- hours of a plan tried: what stands behind k of them -/
def ab_pI (v y : Nat → Nat → Int32) (W : Int32 → (Nat → Int32) → Int32) (c : Nat) (T : Nat → Int32) (b0 po : Int32) (z H : Nat) (s : ab_S) (g : Nat) (t : Nat → Nat → Int32) : Prop :=
  (∃ s2, ck_cs (fk_ur y 240 (t 240)) 167 c T b0 0 t s2 ∧ s2 = ab_rn v W po (nI z) s g) ∧ (∃ n, ab_ok v n (H + g) (ab_rn v W po (nI z) s g).1) ∧ t 240 6 = nI (ab_mm v W po s z g) ∧ ab_mm v W po s z g ≤ 64 ∧ ∀ i, i ≠ 6 → t 240 i = y 240 i
theorem mX9_at_step (hv : ab_rv v) (hN : ck_nt v y) (hL : ck_LC W c y) (g2 : y 238 2 = nI 167) (g3 : y 238 3 = nI c) {o z : Nat} (ho4 : o < 4) (g4 : y 238 4 = nI o) (g5 : y 238 5 = nI z) {t : Nat → Nat → Int32} {g : Nat} (hi : ab_pI v y W c T b0 (nI o) z H s g t) (hg : H + g < 999) : ∃ y2, fk_ev (d + 4) qX6_goBy 0 [.ref 238] [] (fk_E N t l) = some (none, fk_E N y2 l) ∧ y2 240 6 = nI (ab_mm v W (nI o) s z g) ∧ y2 169 o = nI (ab_lo (ab_rn v W (nI o) (nI z) s (g + 1)).1 (nI o)) ∧ ab_lo (ab_rn v W (nI o) (nI z) s (g + 1)).1 (nI o) ≤ 64 ∧ y2 238 7 ||| b0 = (ab_rn v W (nI o) (nI z) s (g + 1)).2.2.1 ∧ ab_pI v y W c T b0 (nI o) z H s (g + 1) (fk_u y2 240 6 (nI (ab_mm v W (nI o) s z (g + 1)))) := by
  have hp : ck_pp 167 := Or.inr (Or.inr rfl)
  have hc := hL.1
  obtain ⟨⟨s2, i1, e2⟩, ⟨n1, i2⟩, i3, i4, i5⟩ := hi
  rw [← e2] at i2
  have o1 : ab_ok v n1 (H + g) (ab_rm s2.1) := ab_ok_hi i2 fun k hk => ab_rm_lo (by omega)
  have r1 : ck_cs (fk_ur y 240 (t 240)) 167 c T b0 0 t (ab_rm s2.1, s2.2) := ⟨ck_pr_hi i1.1 (by rw [ab_ok_n i2]; exact i2.1) fun i hi => ab_rm_lo (by omega), i1.2⟩
  have L1 : ck_LC W c (fk_ur y 240 (t 240)) := ck_LC_c (fun k k1 k2 => fk_ur_o (by omega)) (by rw [fk_ur_o (by omega)]) (by rw [fk_ur_o (by omega)]) hL
  have N1 : ck_nt v (fk_ur y 240 (t 240)) := ck_nt_c rfl (fun _ _ _ => rfl) (fun c' h1 h2 => fk_ur_o (by omega)) hN
  have r238 : fk_ur y 240 (t 240) 238 = y 238 := fk_ur_o (by omega)
  obtain ⟨y2, m, f1, f2, f3, f4⟩ := mX6_goBy (N := N) (l := l) (d := d) L1 hv N1 hp (by rw [r238]; exact g2) (by rw [r238]; exact g3) r1 o1 hg
  have hz : ab_hr v W (fk_ur y 240 (t 240) 238 4) (fk_ur y 240 (t 240) 238 5) (¬ fk_ur y 240 (t 240) 238 4 = (-1)) (ab_rm s2.1, s2.2) = ab_rn v W (nI o) (nI z) s (g + 1) := by
    rw [ab_rn_s, ← e2, ← ab_hh_nd (nd := ¬ nI o = (-1)) (nd' := True) ⟨fun _ => trivial, fun _ x => by have x2 := x.symm; rw [sI_m1b (by omega)] at x2; exact x2⟩]
    unfold ab_hh
    rw [r238, g4, g5]
  rw [hz] at f2 f4
  have q240 : y2 240 = t 240 := by rw [f2.2.2.2.2.2 240 (by omega) (by omega) (by omega) (by omega), fk_ur_s]
  have eo := f2.1.2.2.2.2 o ho4
  have hl : ab_lo (ab_rn v W (nI o) (nI z) s (g + 1)).1 (nI o) ≤ 64 := by
    have a := fk_cf_le (p := fun j => decide ((ab_rn v W (nI o) (nI z) s (g + 1)).1 (192 + j) = nI 1 ∧ (ab_rn v W (nI o) (nI z) s (g + 1)).1 j = nI o)) (ab_n (ab_rn v W (nI o) (nI z) s (g + 1)).1) 0
    have b := ab_ok_n f4
    have e := f4.1
    unfold ab_lo
    omega
  refine ⟨y2, f1, by rw [q240]; exact i3, eo, hl, f2.2.2.1, ⟨_, ck_cs_rowp hp (by omega) hc f2, rfl⟩, ⟨m, f4⟩, fk_u_s, ?_, fun i hi => ?_⟩
  · rw [ab_mm_s]
    split <;> omega
  · rw [fk_u_o (by omega), q240]
    exact i5 i hi
theorem mX9_attempt (hv : ab_rv v) (hN : ck_nt v y) (hL : ck_LC W c y) (g2 : y 238 2 = nI 167) (g3 : y 238 3 = nI c) {o z lim : Nat} (ho4 : o < 4) (g4 : y 238 4 = nI o) (g5 : y 238 5 = nI z) (hs : ck_cs y 167 c T b0 0 y s) (ho : ab_ok v n H s.1) (hl : H + lim ≤ 999) (hz : z < 65536) {fi : Nat} (hfi : fi = fk_fi (fun k => decide (ab_gd P (nI o) (ab_rn v W (nI o) (nI z) s k))) 1 lim) : ∃ y1, fk_ev (d + 5) qX9_attempt 0 [.ref 240, .int ((nI o)), .int ((P &&& (b0 ^^^ (-1)))), .int ((nI lim)), .null, .null] [] (fk_E N y l) = some (some (.int ((if fi < lim + 1 then nI fi else (-1)))), fk_E N y1 l) ∧ ab_pI v (fk_u y 240 6 (nI 1)) W c T b0 (nI o) z H s (if fi < lim + 1 then fi else lim) y1 := by
  have hc := hL.1
  have q238 : fk_u y 240 6 (nI 1) 238 = y 238 := fk_u_rowo (by omega)
  generalize eu : fk_u y 240 6 (nI 1) = u at q238
  have uo : ∀ k, k ≠ 240 → u k = y k := fun k hk => by rw [← eu]; exact fk_u_rowo hk
  have Lu : ck_LC W c u := ck_LC_c (fun k k1 k2 => uo k (by omega)) (by rw [uo c (by omega)]) (by rw [uo c (by omega)]) hL
  have Nu : ck_nt v u := ck_nt_c rfl (fun _ _ _ => rfl) (fun c' h1 h2 => uo c' (by omega)) hN
  have key : ∀ f g t, g + f = lim → ab_pI v u W c T b0 (nI o) z H s g t → (∀ i, 1 ≤ i → i ≤ g → ¬ ab_gd P (nI o) (ab_rn v W (nI o) (nI z) s i)) → ∀ x5 : Value, ∃ y1, fk_ev (d + 5) qX9_attempt 8 [.ref 240, .int (nI o), .int (P &&& (b0 ^^^ (-1))), .int (nI lim), .int (nI (g + 1)), x5] [] (fk_E N t l) = some (some (.int (if fi < lim + 1 then nI fi else (-1))), fk_E N y1 l) ∧ ab_pI v u W c T b0 (nI o) z H s (if fi < lim + 1 then fi else lim) y1 := by
    intro f
    induction f with
    | zero =>
      intro g t hg hi hn x5
      have hg : g = lim := hg
      subst hg
      have e := fk_fi_no (p := fun k => decide (ab_gd P (nI o) (ab_rn v W (nI o) (nI z) s k))) (j := 1) (k := g) fun i h1 h2 => by
        rw [decide_eq_true_eq]
        exact hn i h1 (by omega)
      have c0 : ¬ fi < g + 1 := by omega
      rw [if_neg c0, if_neg c0]
      refine ⟨t, ?_, hi⟩
      rw [hX9_attempt_8]
      simp (disch := first | assumption | omega) only [rX9_attempt, Option.bind_some, Option.toList_some, Option.toList_none, List.cons_append, List.nil_append, fk_b_0, nI_add, Nat.add_zero, Nat.zero_add, not_true_eq_false, not_false_eq_true, if_true, if_false, sI_le_t, sI_le_f, sI_lt_t, sI_lt_f, sI_eq_t, sI_eq_f, sI_rem, sI_div, sI_m1a, sI_m1b, sI_m1c, sI_m1d, sI_m1e, sI_m1f, sI_m2a, sI_m2b, sI_sub, pk_mul, sI_dec, fk_u_s, fk_u_o, sI_dec0, sI_z, sI_md, Bool.false_eq_true, Nat.reduceAdd, Nat.reduceMul, Nat.reduceSub, Nat.reduceMod, Nat.reduceDiv]
    | succ f ih =>
      intro g t hg hi hn x5
      have n8' := (ck_pp_at (p := 167) (Or.inr (Or.inr rfl)))
      obtain ⟨h8, e0, e1, h24, s24, h20, s20, p1, p2⟩ := n8'
      obtain ⟨y2, f1, f2, f3, f4, f5, f6⟩ := mX9_at_step (N := N) (l := l) (d := d) hv Nu Lu (by rw [q238]; exact g2) (by rw [q238]; exact g3) ho4 (by rw [q238]; exact g4) (by rw [q238]; exact g5) hi (by omega)
      have hm := f6.2.2.2.1
      have hm0 := hi.2.2.2.1
      have eM : (if nI (ab_mm v W (nI o) s z g) < nI (ab_lo (ab_rn v W (nI o) (nI z) s (g + 1)).1 (nI o)) then nI (ab_lo (ab_rn v W (nI o) (nI z) s (g + 1)).1 (nI o)) else nI (ab_mm v W (nI o) s z g)) = nI (ab_mm v W (nI o) s z (g + 1)) := by
        rw [ab_mm_s]
        by_cases q : ab_mm v W (nI o) s z g < ab_lo (ab_rn v W (nI o) (nI z) s (g + 1)).1 (nI o)
        · rw [if_pos q, if_pos ((nI_ltI (by omega) (by omega)).mpr q)]
        · rw [if_neg q, if_neg fun x => q ((nI_ltI (by omega) (by omega)).mp x)]
      generalize eL : ab_lo (ab_rn v W (nI o) (nI z) s (g + 1)).1 (nI o) = L at f3 f4 eM
      generalize eW : fk_u y2 240 6 (nI (ab_mm v W (nI o) s z (g + 1))) = w at f6
      have w7 : w 238 7 = y2 238 7 := by rw [← eW, fk_u_rowo (by omega)]
      have st : fk_ev (d + 5) qX9_attempt 8 [.ref 240, .int (nI o), .int (P &&& (b0 ^^^ (-1))), .int (nI lim), .int (nI (g + 1)), x5] [] (fk_E N t l) = fk_ev (d + 5) qX9_attempt 45 [.ref 240, .int (nI o), .int (P &&& (b0 ^^^ (-1))), .int (nI lim), .int (nI (g + 1)), .int (nI L)] [] (fk_E N w l) := by
        rw [hX9_attempt_8]
        simp (disch := first | assumption | omega) only [rX9_attempt, f1, show fk_cr 167 1 = 169 from e1, f2, f3, eM, eW, Option.bind_some, Option.toList_some, Option.toList_none, List.cons_append, List.nil_append, fk_b_0, nI_add, Nat.add_zero, Nat.zero_add, not_true_eq_false, not_false_eq_true, if_true, if_false, sI_le_t, sI_le_f, sI_lt_t, sI_lt_f, sI_eq_t, sI_eq_f, sI_rem, sI_div, sI_m1a, sI_m1b, sI_m1c, sI_m1d, sI_m1e, sI_m1f, sI_m2a, sI_m2b, sI_sub, pk_mul, sI_dec, fk_u_s, fk_u_o, sI_dec0, sI_z, sI_md, Bool.false_eq_true, Nat.reduceAdd, Nat.reduceMul, Nat.reduceSub, Nat.reduceMod, Nat.reduceDiv]
      rw [st]
      by_cases cg : ab_gd P (nI o) (ab_rn v W (nI o) (nI z) s (g + 1))
      · have e := fk_fi_at (p := fun k => decide (ab_gd P (nI o) (ab_rn v W (nI o) (nI z) s k))) (j := 1) (k := lim) (i := g + 1) (by omega) (by omega) (decide_eq_true cg) fun a h1 h2 => by
          rw [decide_eq_true_eq]
          exact hn a h1 (by omega)
        have hL1 : L = 1 := by rw [← eL]; exact cg.2
        have b7 : P &&& (b0 ^^^ (-1)) &&& (y2 238 7 ^^^ (-1)) = nI 0 := by rw [fk_wnt, f5]; exact cg.1
        have c0 : fi < lim + 1 := by omega
        rw [if_pos c0, if_pos c0, hfi, e]
        refine ⟨w, ?_, f6⟩
        simp (disch := first | assumption | omega) only [rX9_attempt, hL1, w7, b7, Option.bind_some, Option.toList_some, Option.toList_none, List.cons_append, List.nil_append, fk_b_0, nI_add, Nat.add_zero, Nat.zero_add, not_true_eq_false, not_false_eq_true, if_true, if_false, sI_le_t, sI_le_f, sI_lt_t, sI_lt_f, sI_eq_t, sI_eq_f, sI_rem, sI_div, sI_m1a, sI_m1b, sI_m1c, sI_m1d, sI_m1e, sI_m1f, sI_m2a, sI_m2b, sI_sub, pk_mul, sI_dec, fk_u_s, fk_u_o, sI_dec0, sI_z, sI_md, Bool.false_eq_true, Nat.reduceAdd, Nat.reduceMul, Nat.reduceSub, Nat.reduceMod, Nat.reduceDiv]
      · obtain ⟨y1, h1, h2⟩ := ih (g + 1) w (by omega) f6 (fun i i1 i2 => by
          by_cases q : i = g + 1
          · subst q; exact cg
          · exact hn i i1 (by omega)) (.int (nI L))
        refine ⟨y1, ?_, h2⟩
        rw [← h1]
        by_cases hL1 : L = 1
        · have b7 : ¬ P &&& (b0 ^^^ (-1)) &&& (y2 238 7 ^^^ (-1)) = nI 0 := by
            rw [fk_wnt, f5]
            exact fun x => cg ⟨x, by rw [eL]; exact hL1⟩
          simp (disch := first | assumption | omega) only [rX9_attempt, hL1, w7, b7, Option.bind_some, Option.toList_some, Option.toList_none, List.cons_append, List.nil_append, fk_b_0, nI_add, Nat.add_zero, Nat.zero_add, not_true_eq_false, not_false_eq_true, if_true, if_false, sI_le_t, sI_le_f, sI_lt_t, sI_lt_f, sI_eq_t, sI_eq_f, sI_rem, sI_div, sI_m1a, sI_m1b, sI_m1c, sI_m1d, sI_m1e, sI_m1f, sI_m2a, sI_m2b, sI_sub, pk_mul, sI_dec, fk_u_s, fk_u_o, sI_dec0, sI_z, sI_md, Bool.false_eq_true, Nat.reduceAdd, Nat.reduceMul, Nat.reduceSub, Nat.reduceMod, Nat.reduceDiv]
        · have hL2 : ¬ nI L = nI 1 := fun x => hL1 ((nI_eq (by omega) (by omega)).mp x)
          simp (disch := first | assumption | omega) only [rX9_attempt, hL2, Option.bind_some, Option.toList_some, Option.toList_none, List.cons_append, List.nil_append, fk_b_0, nI_add, Nat.add_zero, Nat.zero_add, not_true_eq_false, not_false_eq_true, if_true, if_false, sI_le_t, sI_le_f, sI_lt_t, sI_lt_f, sI_eq_t, sI_eq_f, sI_rem, sI_div, sI_m1a, sI_m1b, sI_m1c, sI_m1d, sI_m1e, sI_m1f, sI_m2a, sI_m2b, sI_sub, pk_mul, sI_dec, fk_u_s, fk_u_o, sI_dec0, sI_z, sI_md, Bool.false_eq_true, Nat.reduceAdd, Nat.reduceMul, Nat.reduceSub, Nat.reduceMod, Nat.reduceDiv]
  obtain ⟨y1, e1, e2⟩ := key lim 0 u (by omega) ⟨⟨s, ⟨ck_pr_k hs.1 fun k k1 k2 => uo k (by omega), fun j hj => by omega, by rw [q238]; exact hs.2.2.1, by rw [q238]; exact hs.2.2.2.1, fun i _ _ => by rw [fk_ur_o (by omega)], fun k _ _ _ _ => by
    by_cases q : k = 240
    · subst q; rw [fk_ur_s]
    · rw [fk_ur_o q]⟩, rfl⟩, ⟨n, ho⟩, by rw [← eu, fk_u_s]; rfl, by show 1 ≤ 64; omega, fun i hi => rfl⟩ (fun i h1 h2 => by omega) .null
  refine ⟨y1, ?_, e2⟩
  simp (disch := first | assumption | omega) only [rX9_attempt, eu, Option.bind_some, Option.toList_some, Option.toList_none, List.cons_append, List.nil_append, fk_b_0, nI_add, Nat.add_zero, Nat.zero_add, not_true_eq_false, not_false_eq_true, if_true, if_false, sI_le_t, sI_le_f, sI_lt_t, sI_lt_f, sI_eq_t, sI_eq_f, sI_rem, sI_div, sI_m1a, sI_m1b, sI_m1c, sI_m1d, sI_m1e, sI_m1f, sI_m2a, sI_m2b, sI_sub, pk_mul, sI_dec, fk_u_s, fk_u_o, sI_dec0, sI_z, sI_md, Bool.false_eq_true, Nat.reduceAdd, Nat.reduceMul, Nat.reduceSub, Nat.reduceMod, Nat.reduceDiv]
  exact e1
end PL3
