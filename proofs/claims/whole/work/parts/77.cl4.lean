section CL4
variable {N : Nat} {S : Nat → Int32} {v y y1 y2 : Nat → Nat → Int32} {l : Nat → Nat → Int64} {d p n H : Nat} {A A' : Nat → Int32}
theorem mX11_road_no {r f t g : Int32} (hn : ¬ ((nI 0 ≤ r ∧ r < nI 32) ∧ (nI 0 ≤ f ∧ f < nI 16) ∧ (nI 0 ≤ t ∧ t < nI 16) ∧ ¬ f = t ∧ (nI 1 ≤ g ∧ g ≤ nI 9))) : fk_ev (d + 3) qX11_road 0 [.ref 1, .int r, .int f, .int t, .int g] [] (fk_E N y l) = some (some (.int ((nI 0))), fk_E N y l) := by
  simp (disch := first | assumption | omega) only [rX11_road, mX11_within, Option.bind_some, Option.toList_some, Option.toList_none, List.cons_append, List.nil_append, fk_b_0, nI_add, Nat.add_zero, Nat.zero_add, not_true_eq_false, not_false_eq_true, if_true, if_false, sI_le_t, sI_le_f, sI_lt_t, sI_lt_f, sI_eq_t, sI_eq_f, sI_rem, sI_div, sI_m1a, sI_m1b, sI_m1c, sI_m1d, sI_m1e, sI_m1f, sI_m2a, sI_m2b, sI_sub, pk_mul, sI_dec, fk_u_s, fk_u_o, sI_dec0, sI_z, sI_md, Bool.false_eq_true, Nat.reduceAdd, Nat.reduceMul, Nat.reduceSub, Nat.reduceMod, Nat.reduceDiv]
  by_cases h1 : nI 0 ≤ r ∧ r < nI 32
  · rw [if_neg fun z => z h1]
    by_cases h2 : nI 0 ≤ f ∧ f < nI 16
    · rw [if_neg fun z => z h2]
      by_cases h3 : nI 0 ≤ t ∧ t < nI 16
      · rw [if_pos (fun z : ¬ (nI 0 ≤ t ∧ t < nI 16) => z h3)]
        by_cases h4 : f = t
        · rw [if_pos h4]
        · rw [if_neg h4]
          by_cases h5 : g < nI 1
          · rw [if_pos h5]
          · rw [if_neg h5, if_neg fun z => hn ⟨h1, h2, h3, h4, Int32.not_lt.mp h5, z⟩]
      · rw [if_neg fun z => z h3]
    · rw [if_pos h2]
  · rw [if_pos h1]
theorem fk_31 {r : Int32} : (nI 0 ≤ r ∧ r ≤ nI 31) ↔ (nI 0 ≤ r ∧ r < nI 32) := by
  rw [Int32.le_iff_toInt_le, Int32.le_iff_toInt_le, Int32.lt_iff_toInt_lt, fk_toInt_nI (by omega), fk_toInt_nI (by omega), fk_toInt_nI (by omega)]
  omega
theorem cl_road (hR : cR S y) {r f t g : Int32} : ∃ a y1 y2, fk_ev (d + 8) qX11_road 0 [.ref 1, .int r, .int f, .int t, .int g] [] (fk_E N y l) = some (some (.int a), fk_E N y1 l) ∧ fk_ev (d + 8) qX12_road 0 [.ref 246, .int r, .int f, .int t, .int g] [] (fk_E N y1 l) = some (some (.int a), fk_E N y2 l) ∧ cR S y2 := by
  by_cases hg : (nI 0 ≤ r ∧ r < nI 32) ∧ (nI 0 ≤ f ∧ f < nI 16) ∧ (nI 0 ≤ t ∧ t < nI 16) ∧ ¬ f = t ∧ (nI 1 ≤ g ∧ g ≤ nI 9)
  · obtain ⟨r0, r1, r2, _⟩ := id hR
    obtain ⟨g1, g2, g3, g4, g5⟩ := hg
    obtain ⟨r, hr, rfl⟩ := fk_ixn g1.1 g1.2 (by omega)
    obtain ⟨f, hf, rfl⟩ := fk_ixn g2.1 g2.2 (by omega)
    obtain ⟨t, ht, rfl⟩ := fk_ixn g3.1 g3.2 (by omega)
    obtain ⟨g, hg9, rfl⟩ := fk_ixn2 (Int32.le_trans (by decide) g5.1) g5.2 (by omega)
    have hg1 : 1 ≤ g := (nI_leI (by omega) (by omega)).mp g5.1
    have hft : f ≠ t := fun z => g4 (by rw [z])
    obtain ⟨y1, e1, k19, k20, k21, ko, k24⟩ := mX5_tellRoad (N := N) (l := l) (d := d + 5) (g := g) r1 r2 hr hf ht
    have e0 : fk_ev (d + 8) qX11_road 0 [.ref 1, .int ((nI r)), .int ((nI f)), .int ((nI t)), .int ((nI g))] [] (fk_E N y l) = some (some (.int ((nI 1))), fk_E N y1 l) := by
      simp (disch := first | assumption | omega) only [rX11_road, mX11_within, and_self, e1, Option.bind_some, Option.toList_some, Option.toList_none, List.cons_append, List.nil_append, fk_b_0, nI_add, Nat.add_zero, Nat.zero_add, not_true_eq_false, not_false_eq_true, if_true, if_false, sI_le_t, sI_le_f, sI_lt_t, sI_lt_f, sI_eq_t, sI_eq_f, sI_rem, sI_div, sI_m1a, sI_m1b, sI_m1c, sI_m1d, sI_m1e, sI_m1f, sI_m2a, sI_m2b, sI_sub, pk_mul, sI_dec, fk_u_s, fk_u_o, sI_dec0, sI_z, sI_md, Bool.false_eq_true, Nat.reduceAdd, Nat.reduceMul, Nat.reduceSub, Nat.reduceMod, Nat.reduceDiv]
    have e := mX12_road_ok (N := N) (y := y1) (l := l) (d := d + 7) hr hf ht hft ⟨hg1, hg9⟩
    generalize eY : fk_u (fk_u (fk_u (fk_u y1 246 3 (y1 246 3 ||| nI 1 <<< (nI r &&& 31))) 250 r (nI f)) 251 r (nI t)) 252 r (nI g) = y2 at e
    have m246 : ∀ i, i ≠ 3 → y2 246 i = y 246 i := fun i hi => by rw [← eY, fk_u_o (by omega), fk_u_o (by omega), fk_u_o (by omega), fk_u_o (by omega), ko 246 (by omega) (by omega) (by omega) (by omega)]
    have m3 : y2 246 3 = y 246 3 ||| nI 1 <<< (nI r &&& 31) := by rw [← eY, fk_u_o (by omega), fk_u_o (by omega), fk_u_o (by omega), fk_u_s, ko 246 (by omega) (by omega) (by omega) (by omega)]
    have b3 : ∀ i, fk_tb (y2 246 3) i = true ↔ (i = r ∨ fk_tb (y 246 3) i = true) := fun i => by
      rw [m3, fk_tb_or, Bool.or_eq_true, fk_tb_bitI hr]
      exact Or.comm
    have m250 : ∀ i, y2 250 i = if i = r then nI f else y 250 i := fun i => by
      rw [← eY, fk_u_o (by omega), fk_u_o (by omega)]
      by_cases e : i = r
      · subst e; rw [fk_u_s, if_pos rfl]
      · rw [fk_u_o (by omega), if_neg e, fk_u_o (by omega), ko 250 (by omega) (by omega) (by omega) (by omega)]
    have m251 : ∀ i, y2 251 i = if i = r then nI t else y 251 i := fun i => by
      rw [← eY, fk_u_o (by omega)]
      by_cases e : i = r
      · subst e; rw [fk_u_s, if_pos rfl]
      · rw [fk_u_o (by omega), if_neg e, fk_u_o (by omega), fk_u_o (by omega), ko 251 (by omega) (by omega) (by omega) (by omega)]
    have m252 : ∀ i, y2 252 i = if i = r then nI g else y 252 i := fun i => by
      rw [← eY]
      by_cases e : i = r
      · subst e; rw [fk_u_s, if_pos rfl]
      · rw [fk_u_o (by omega), if_neg e, fk_u_o (by omega), fk_u_o (by omega), fk_u_o (by omega), ko 252 (by omega) (by omega) (by omega) (by omega)]
    have mo : ∀ k, k ≠ 246 → k ≠ 250 → k ≠ 251 → k ≠ 252 → y2 k = y1 k := fun k h1 h2 h3 h4 => by rw [← eY, fk_u_rowo h4, fk_u_rowo h3, fk_u_rowo h2, fk_u_rowo h1]
    have M : ∀ i, i < 32 → fk_tb (y 246 3) i = true ∨ i = r → True := fun _ _ _ => trivial
    refine ⟨nI 1, y1, y2, e0, e, cR_net hR (fun k h1 h2 h3 => ?_) m246 (fun i hi => (b3 i).mpr (Or.inr hi)) ?_ ?_⟩
    · rw [mo k h3 (by omega) (by omega) (by omega), ko k (by omega) (by omega) (by omega) (by omega)]
    · refine ⟨fun i hi hi2 => ?_, fun p hp => ?_, fun p hp => ?_⟩
      · rw [m250, m251, m252]
        by_cases e : i = r
        · rw [if_pos e, if_pos e, if_pos e]
          exact ⟨⟨f, hf, rfl⟩, ⟨t, ht, rfl⟩, g, hg1, hg9, rfl⟩
        · rw [if_neg e, if_neg e, if_neg e]
          exact r1.1 i hi (((b3 i).mp hi2).resolve_left e)
      · rw [mo 253 (by omega) (by omega) (by omega) (by omega), ko 253 (by omega) (by omega) (by omega) (by omega)]
        exact r1.2.1 p hp
      · rw [mo 254 (by omega) (by omega) (by omega) (by omega), ko 254 (by omega) (by omega) (by omega) (by omega)]
        exact r1.2.2 p hp
    · obtain ⟨s1, s2, s3, s4⟩ := r2
      refine ⟨fun i hi hi2 => ?_, fun i hi hi2 => ?_, fun p hp => ?_, fun p q hp => ?_⟩
      · rw [m250, m251, m252, mo 19 (by omega) (by omega) (by omega) (by omega), mo 20 (by omega) (by omega) (by omega) (by omega), mo 21 (by omega) (by omega) (by omega) (by omega), k19, k20, k21]
        by_cases e : i = r
        · simp only [if_pos e]
          exact ⟨trivial, trivial, trivial⟩
        · rw [if_neg e, if_neg e, if_neg e, if_neg e, if_neg e, if_neg e]
          exact s1 i hi (((b3 i).mp hi2).resolve_left e)
      · rw [b3] at hi2
        rw [mo 19 (by omega) (by omega) (by omega) (by omega), k19, if_neg fun z => hi2 (Or.inl z)]
        exact s2 i hi fun z => hi2 (Or.inr z)
      · rw [mo 22 (by omega) (by omega) (by omega) (by omega), mo 23 (by omega) (by omega) (by omega) (by omega), mo 253 (by omega) (by omega) (by omega) (by omega), mo 254 (by omega) (by omega) (by omega) (by omega), ko 22 (by omega) (by omega) (by omega) (by omega), ko 23 (by omega) (by omega) (by omega) (by omega), ko 253 (by omega) (by omega) (by omega) (by omega), ko 254 (by omega) (by omega) (by omega) (by omega)]
        exact s3 p hp
      · rw [mo 24 (by omega) (by omega) (by omega) (by omega), k24 p q hp]
        constructor
        · rintro ⟨i, h1, h2, h3, h4, h5⟩
          exact ⟨i, h1, (b3 i).mpr h2, by rw [m250]; exact h3, by rw [m251]; exact h4, h5⟩
        · rintro ⟨i, h1, h2, h3, h4, h5⟩
          exact ⟨i, h1, (b3 i).mp h2, by rw [m250] at h3; exact h3, by rw [m251] at h4; exact h4, h5⟩
  · exact ⟨nI 0, y, y, mX11_road_no (d := d + 5) hg, mX12_road_no (d := d + 7) (by rw [fk_31]; exact hg), hR⟩
end CL4
