/-! THE START: the relation holds -/
theorem dt_ok : ds_ok dt_20 = true := by decide +kernel
section ST1
variable {N : Nat} {xs : Nat → Int32} {D : ds_D}
theorem ds_y_in {c i : Nat} (h0 : 1 ≤ c) (h1 : c < 275) : ds_y xs D c i = ds_i D c i := if_neg (by omega)
theorem ds_y_no {c i : Nat} (h0 : 1 ≤ c) (h1 : c < 275) (h : ∀ w ∈ D.2.2.2, ¬ (w.1.1 = c ∧ w.1.2 = i)) : ds_y xs D c i = nI 0 := by
  rw [ds_y_in h0 h1]
  have : ds_l D c i = none := by
    unfold ds_l
    rw [List.find?_eq_none.mpr]
    · rfl
    · intro w hw
      rw [Bool.and_eq_true, beq_iff_eq, beq_iff_eq]
      exact h w hw
  unfold ds_i
  rw [this]
  rfl
theorem ds_cR (h2 : ∀ w ∈ D.2.2.2, ds_w2 w = true) (h3 : ds_num D = true) (h4 : ds_one D = true) : cR xs (ds_y xs D) := by
  have w2 : ∀ w ∈ D.2.2.2, w.1.1 ≠ 23 ∧ w.1.1 ≠ 24 ∧ w.1.1 ≠ 254 ∧ w.1.1 ≠ 235 ∧ w.1.1 ≠ 35 ∧ (w.1.1 = 247 → w.1.2 = 834) := by
    intro w hw
    have := h2 w hw
    unfold ds_w2 at this
    simp only [Bool.and_eq_true, Bool.or_eq_true, Bool.not_eq_true', beq_eq_false_iff_ne, beq_iff_eq] at this
    obtain ⟨⟨⟨⟨⟨a, b⟩, c⟩, d⟩, e⟩, f⟩ := this
    exact ⟨a, b, c, d, e, fun z => f.resolve_left fun y => y z⟩
  have z23 : ∀ i, ds_y xs D 23 i = nI 0 := fun i => ds_y_no (by omega) (by omega) fun w hw z => (w2 w hw).1 z.1
  have z24 : ∀ i, ds_y xs D 24 i = nI 0 := fun i => ds_y_no (by omega) (by omega) fun w hw z => (w2 w hw).2.1 z.1
  have z254 : ∀ i, ds_y xs D 254 i = nI 0 := fun i => ds_y_no (by omega) (by omega) fun w hw z => (w2 w hw).2.2.1 z.1
  have z235 : ∀ i, ds_y xs D 235 i = nI 0 := fun i => ds_y_no (by omega) (by omega) fun w hw z => (w2 w hw).2.2.2.1 z.1
  have z35 : ∀ i, ds_y xs D 35 i = nI 0 := fun i => ds_y_no (by omega) (by omega) fun w hw z => (w2 w hw).2.2.2.2.1 z.1
  have z247 : ∀ i, i ≠ 834 → ds_y xs D 247 i = nI 0 := fun i hi => ds_y_no (by omega) (by omega) fun w hw z => hi (z.2.symm.trans ((w2 w hw).2.2.2.2.2 z.1))
  unfold ds_num at h3
  rw [Bool.and_eq_true, Bool.and_eq_true] at h3
  obtain ⟨⟨n1, n2⟩, n3⟩ := h3
  have y19 : ∀ r, r < 32 → ds_y xs D 19 r = (-1) := fun r hr => by
    rw [ds_y_in (by omega) (by omega)]
    exact of_decide_eq_true (List.all_eq_true.mp n1 r (List.mem_range.mpr hr))
  have y22 : ∀ p, p < 16 → ds_y xs D 22 p = (-1) ∧ ds_y xs D 253 p = (-1) := fun p hp => by
    rw [ds_y_in (by omega) (by omega), ds_y_in (by omega) (by omega)]
    have := List.all_eq_true.mp n2 p (List.mem_range.mpr hp)
    rw [Bool.and_eq_true] at this
    exact ⟨of_decide_eq_true this.1, of_decide_eq_true this.2⟩
  have yj : ∀ j, j < 64 → ds_y xs D (36 + j) 0 = nI j ∧ ds_y xs D (103 + j) 0 = nI j ∧ ds_y xs D (170 + j) 0 = nI j := fun j hj => by
    rw [ds_y_in (by omega) (by omega), ds_y_in (by omega) (by omega), ds_y_in (by omega) (by omega)]
    have := List.all_eq_true.mp n3 j (List.mem_range.mpr hj)
    rw [Bool.and_eq_true, Bool.and_eq_true] at this
    exact ⟨of_decide_eq_true this.1.1, of_decide_eq_true this.1.2, of_decide_eq_true this.2⟩
  unfold ds_one at h4
  simp only [Bool.and_eq_true, decide_eq_true_eq] at h4
  obtain ⟨⟨⟨⟨⟨⟨⟨⟨⟨⟨⟨⟨⟨⟨⟨⟨⟨⟨o1, o2⟩, o3⟩, o4⟩, o5⟩, o6⟩, o7⟩, o8⟩, o9⟩, o10⟩, o11⟩, o12⟩, o13⟩, o14⟩, o15⟩, o16⟩, o17⟩, o18⟩, o19⟩ := h4
  have e : ∀ c i, 1 ≤ c → c < 275 → ds_i D c i = ds_y xs D c i := fun c i h0 h1 => (ds_y_in h0 h1).symm
  rw [e _ _ (by omega) (by omega)] at o1 o2 o3 o4 o5 o6 o7 o8 o9 o10 o11 o12 o13 o14 o15 o16 o17 o18 o19
  have y0 : ds_y xs D 0 = xs := funext fun i => if_pos (Or.inl rfl)
  generalize ds_y xs D = y at *
  have t0 : ∀ r, ¬ fk_tb (y 246 3) r = true := fun r => by rw [o1, fk_tb_0]; decide
  have an : ab_n (y 247) = 0 := by
    unfold ab_n
    rw [z247 833 (by omega)]
    exact nI_clamp (by omega)
  have lo : ∀ x, ab_lo (y 247) x = 0 := fun x => by
    unfold ab_lo
    rw [an]
    rfl
  have pp : nI 0 + nI 0 = nI 0 := by decide
  refine ⟨y0, ⟨fun r _ hr => absurd hr (t0 r), fun p hp => Or.inl (y22 p hp).2, fun p hp => Or.inl (z254 p)⟩, ⟨fun r _ hr => absurd hr (t0 r), fun r hr _ => y19 r hr, fun p hp => ⟨(y22 p hp).1.trans (y22 p hp).2.symm, (z23 p).trans (z254 p).symm⟩, fun p q hp => ⟨fun z => ?_, fun z => ?_⟩⟩, ⟨0, 0, ⟨by omega, z247 833 (by omega), z247 832 (by omega), by omega, ⟨1, by omega, o12⟩, fun j hj => absurd hj (Nat.not_lt_zero _), Nat.le_refl _⟩, ⟨fun j hj => absurd hj (Nat.not_lt_zero _), fun h j hh => absurd hh (Nat.not_lt_zero _)⟩, ⟨⟨?_, ?_, ?_, ?_, ?_, ?_, ?_⟩, fun j hj => (yj j hj).1, fun j _ hj => by rw [an] at hj; exact absurd hj (Nat.not_lt_zero _), fun j _ hj => by rw [an] at hj; exact absurd hj (Nat.not_lt_zero _), fun o _ => by rw [lo]; exact z35 o⟩, fun i hi => (z235 i).trans (z247 _ (by omega)).symm⟩, ⟨fun j hj => (yj j hj).2.1, Or.inl ⟨o10, o6⟩⟩, ⟨0, by omega, o7, o2, fun i hi => absurd hi (Nat.not_lt_zero _)⟩, ⟨2, lz_W [], Or.inl rfl, o8, o9, lz_LC (Q := []) (Ms := []) (Or.inl rfl) (Nat.zero_le _) o11 trivial trivial, lz_LR (Q := []) (Ms := []) (Nat.zero_le _) o3 trivial trivial, o11.trans o3.symm⟩, o4, o5, fun j hj => (yj j hj).2.2⟩
  · rw [z24 p, fk_tb_0] at z
    cases z
  · obtain ⟨r, _, hr, _⟩ := z
    exact absurd hr (t0 r)
  · exact o13.trans (z247 833 (by omega)).symm
  · exact o14.trans (z247 832 (by omega)).symm
  · exact o15.trans o12.symm
  · rw [o16, z247 838 (by omega)]; exact pp
  · rw [o17, z247 837 (by omega)]; exact pp
  · rw [o18, z247 836 (by omega)]; exact pp
  · rw [o19, z247 835 (by omega)]; exact pp
/-- the law's start -/
theorem fk_started (N : Nat) (xs : Nat → Int32) : ∃ y, fk_ev 1000 qL_law 0 (fk_loc qL_law [.ref 0]) [] (fk_h0 N xs) = fk_ev 1000 qL_law 18 [.ref 0, .ref 1, .ref 246, .int (nI 0)] [] (fk_E N y (fun _ _ => 0)) ∧ cR xs y := by
  have a3 := dt_ok
  have h1 := dt_all (N := N) (xs := xs)
  generalize dt_20 = D at a3 h1
  unfold ds_ok at a3
  simp only [Bool.and_eq_true, decide_eq_true_eq] at a3
  obtain ⟨⟨⟨⟨⟨⟨⟨b1, b2⟩, b3⟩, b4⟩, b5⟩, b6⟩, b7⟩, b8⟩ := a3
  refine ⟨ds_y xs D, ?_, ds_cR (List.all_eq_true.mp b5) b7 b8⟩
  rw [show dt_0 = (1, 0, [], []) from rfl, ds_h0, ds_E b1 b2 b3 (List.all_eq_true.mp b4) b6] at h1
  exact h1
end ST1
