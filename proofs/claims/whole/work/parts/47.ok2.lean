section OK2
variable {v : Nat → Nat → Int32} {A A' : Nat → Int32} {n H j : Nat} {W : Int32 → (Nat → Int32) → Int32}
theorem ab_at_place (ho : ab_oj v A j) (ha : ab_at A j) : ∃ p : Nat, p < 16 ∧ A (320 + j) = nI p ∧ A (384 + j) = (-2) ∧ A (448 + j) = nI 0 := by
  obtain ⟨h1, h2, h3, h4, h5, h6⟩ := ho
  rcases h5 with h5 | ⟨h5, _⟩
  · exact h5
  · have := ha.2
    rw [h5] at this
    exact absurd this (by decide)
theorem fk_tb_lt {k : Nat} {x : Int32} (h : fk_tb x k = true) : k < 32 := by
  by_cases hk : k < 32
  · exact hk
  · rw [fk_tb_ge (by omega)] at h
    exact absurd h (by decide)
theorem ab_mx_le {a b n : Nat} (ha : a ≤ n) (hb : b ≤ n) (hn : n < 2147483648) : ∃ w : Nat, w ≤ n ∧ ab_mx (nI a) (nI b) = nI w := by
  unfold ab_mx
  by_cases h : nI b < nI a
  · exact ⟨a, ha, if_pos h⟩
  · exact ⟨b, hb, if_neg h⟩
theorem ab_ok_mg {s : ab_S} {a b : Nat} (ho : ab_ok v n H s.1) (ha : a < n) (hb : b < n) (hab : a ≠ b) (la : s.1 (192 + a) = nI 1) (lb : s.1 (192 + b) = nI 1) : ab_ok v n H (ab_mg W a b s).1 := by
  have hn : n ≤ 64 := ho.1
  unfold ab_mg
  try dsimp only
  generalize ab_fg W s.1 (ab_both s.1 a b) a b = fg
  generalize s.1 = A at *
  obtain ⟨g1, g2, g3, g4, ⟨x, hx, g5⟩, g6, g7⟩ := ho
  obtain ⟨⟨oa, hoa, a1⟩, a2, a3, ⟨wa, wa1, wa2, a4⟩, a5, ⟨ta, hta, a6⟩, a7, a8, a9⟩ := g6 a ha
  obtain ⟨b1, b2, b3, ⟨wb, wb1, wb2, b4⟩, b5, ⟨tb, htb, b6⟩, b7, b8, b9⟩ := g6 b hb
  have ewa : ab_wj A a = wa := by unfold ab_wj; rw [if_pos la, a4, nI_clamp (by omega)]
  have ewb : ab_wj A b = wb := by unfold ab_wj; rw [if_pos lb, b4, nI_clamp (by omega)]
  have e1 := fk_sf_upd (p := ab_wj A) (q := fun x => if x = b then 0 else ab_wj A x) (i := b) n 0 (by omega) (by omega) (fun x _ _ hx => if_neg hx)
  have e3 := fk_sf_one (p := fun x => if x = b then 0 else ab_wj A x) (i := a) n 0 (by omega) (by omega)
  simp only [if_neg hab, if_true, ewa, ewb] at e1 e3
  have ewa' : ab_wj (ab_mg1 A a b fg) a = wa + wb := by
    unfold ab_wj ab_mg1
    have q1 : 192 + a ≠ 192 + b := fun z => hab (Nat.add_left_cancel z)
    simp (disch := first | assumption | omega) only [fk_w_o, fk_w_s]
    rw [if_pos la, a4, b4, nI_add, nI_clamp (by omega)]
  have e2 := fk_sf_upd (p := fun x => if x = b then 0 else ab_wj A x) (q := ab_wj (ab_mg1 A a b fg)) (i := a) n 0 (by omega) (by omega) (by
    intro x _ hxn hx
    unfold ab_wj ab_mg1
    by_cases hxb : x = b
    · subst hxb
      simp (disch := omega) only [fk_w_o, fk_w_s, if_true]
      rw [if_neg (by decide)]
    · simp (disch := omega) only [fk_w_o, fk_w_s, if_neg hxb])
  rw [ewa', if_neg hab, ewa] at e2
  refine ⟨g1, ?_, ?_, g4, ⟨x, hx, ?_⟩, fun i hi => ?_, by omega⟩
  · unfold ab_mg1; simp (disch := omega) only [fk_w_o]; exact g2
  · unfold ab_mg1; simp (disch := omega) only [fk_w_o]; exact g3
  · unfold ab_mg1; simp (disch := omega) only [fk_w_o]; exact g5
  · by_cases ia : i = a
    · subst ia
      unfold ab_oj ab_mg1
      simp (disch := omega) only [fk_w_o, fk_w_s]
      refine ⟨⟨oa, hoa, a1⟩, a2, a3, ⟨wa + wb, by omega, by omega, by rw [a4, b4, nI_add]⟩, a5, ?_, a7, fun k hk => ?_, fun k hk => ?_⟩
      · rw [a6, b6]
        exact ab_mx_le hta htb (by omega)
      · rw [fk_tb_and, fk_tb_or, Bool.and_eq_true, Bool.or_eq_true] at hk
        rcases hk.1 with h | h
        · exact a8 k h
        · exact b8 k h
      · rw [fk_tb_and, fk_tb_or, fk_tb_and, Bool.and_eq_true, Bool.or_eq_true, Bool.and_eq_true] at hk
        rw [fk_tb_and, fk_tb_or, Bool.and_eq_true, Bool.or_eq_true]
        refine ⟨?_, hk.2⟩
        rcases hk.1 with h | h
        · exact Or.inl (a9 k h)
        · exact Or.inr (b9 k h.1)
    · by_cases ib : i = b
      · subst ib
        unfold ab_oj ab_mg1
        simp (disch := omega) only [fk_w_o, fk_w_s]
        exact ⟨b1, b2, b3, ⟨wb, wb1, wb2, b4⟩, b5, ⟨tb, htb, b6⟩, fun z => absurd z (by decide), b8, b9⟩
      · refine ab_oj_congr (fun c hc => ?_) (g6 i hi)
        unfold ab_mg1
        simp (disch := omega) only [fk_w_o]
theorem fk_tb_bitI {f k : Nat} (hf : f < 32) : fk_tb (nI 1 <<< (nI f &&& 31)) k = true ↔ k = f := by
  rw [fk_tb_bit hf]
  exact decide_eq_true_iff
theorem ab_ok_kn {f so : Int32} (ho : ab_ok v n H A) (hj : j < n) (hf : ∃ g : Nat, g < 16 ∧ f = nI g) : ab_ok v n H (ab_kn A j f so) := by
  have hn : n ≤ 64 := ho.1
  obtain ⟨g, hg, rfl⟩ := hf
  unfold ab_kn
  refine ab_ok_one ho hj (fun k _ hk => by rw [fk_w_o (hk 768 (by omega)), fk_w_o (hk 704 (by omega))]) ?_
  obtain ⟨h1, h2, h3, h4, h5, h6, h7, h8, h9⟩ := ho.2.2.2.2.2.1 j hj
  unfold ab_oj
  simp (disch := omega) only [fk_w_o, fk_w_s]
  refine ⟨h1, h2, h3, h4, h5, h6, h7, fun k hk => ?_, fun k hk => ?_⟩
  · rw [fk_tb_or, Bool.or_eq_true, fk_tb_bitI (by omega)] at hk
    rcases hk with h | h
    · exact h8 k h
    · omega
  · rw [fk_tb_or, Bool.or_eq_true, fk_tb_bitI (by omega)]
    split at hk
    · rw [fk_tb_and, Bool.and_eq_true] at hk
      exact Or.inl (h9 k hk.1)
    · rw [fk_tb_or, Bool.or_eq_true, fk_tb_bitI (by omega)] at hk
      rcases hk with h | h
      · exact Or.inl (h9 k h)
      · exact Or.inr h
theorem ab_cl_le {n : Nat} {x : Int32} (hn : n < 2147483648) : ∃ w : Nat, w ≤ n ∧ ab_cl (nI n) x = nI w := by
  unfold ab_cl
  by_cases h1 : x < nI 0
  · exact ⟨0, by omega, if_pos h1⟩
  · rw [if_neg h1]
    by_cases h2 : nI n < x
    · exact ⟨n, by omega, if_pos h2⟩
    · rw [if_neg h2]
      exact fk_ixn2 (Int32.not_lt.mp h1) (Int32.not_lt.mp h2) hn
theorem ab_ok_coin {c : Int32} (ho : ab_ok v n H A) (hj : j < n) : ab_ok v n H (fk_w A (576 + j) c) := by
  have hn : n ≤ 64 := ho.1
  refine ab_ok_one ho hj (fun k _ hk => fk_w_o (hk 576 (by omega))) ?_
  exact ab_oj_congr (fun c hc => fk_w_o (by omega)) (ho.2.2.2.2.2.1 j hj)
theorem ab_ok_wait {w : Nat} (ho : ab_ok v n H A) (hj : j < n) (hw : w ≤ 99) : ab_ok v n H (fk_w A (512 + j) (nI w)) := by
  have hn : n ≤ 64 := ho.1
  refine ab_ok_one ho hj (fun k _ hk => fk_w_o (hk 512 (by omega))) ?_
  obtain ⟨h1, h2, h3, h4, h5, h6, h7, h8, h9⟩ := ho.2.2.2.2.2.1 j hj
  unfold ab_oj
  simp (disch := omega) only [fk_w_o, fk_w_s]
  exact ⟨h1, h2, h3, h4, h5, ⟨w, hw, rfl⟩, h7, h8, h9⟩
theorem ab_ok_ar {s : ab_S} (hv : ab_rv v) (ho : ab_ok v n H s.1) (hj : j < n) : ab_ok v n H (ab_ar v W j s).1 := by
  unfold ab_ar
  by_cases hc : ab_at s.1 j ∧ ¬ s.2.1 j = nI 0
  · rw [if_pos hc]
    try dsimp only
    obtain ⟨p, hp, e1, _, _⟩ := ab_at_place (ho.2.2.2.2.2.1 j hj) hc.1
    have o1 : ab_ok v n H (ab_ar0 v j s.1) := by
      unfold ab_ar0
      rw [e1, nI_clamp (by omega)]
      rcases hv.2.1 p hp with h | h
      · rw [if_pos h]; exact ho
      · rw [if_neg (by obtain ⟨f, hf, e⟩ := h; rw [e, sI_m1a (by omega)]; exact id)]
        exact ab_ok_kn ho hj h
    have o2 : ab_ok v n H (ab_ar1 W j (ab_ar0 v j s.1)) := ab_ok_coin o1 hj
    unfold ab_ar2
    generalize ab_ar1 W j (ab_ar0 v j s.1) = A at o2 ⊢
    obtain ⟨h1, h2, h3, h4, h5, ⟨w, hw, h6⟩, _⟩ := o2.2.2.2.2.2.1 j hj
    obtain ⟨w2, hw2, e2⟩ := ab_cl_le (n := 9) (x := W (nI 119) (ab_fe A j)) (by omega)
    rw [h6, e2]
    obtain ⟨w3, hw3, e3⟩ := ab_mx_le (a := w) (b := w2) (n := 99) hw (by omega) (by omega)
    rw [e3]
    exact ab_ok_wait o2 hj hw3
  · rw [if_neg hc]
    exact ho
theorem ab_ok_mo {one : Int32} (ho : ab_ok v n H A) : ab_ok v n H (ab_mo n one A) := by
  unfold ab_mo
  refine fk_it_inv (fun _ A => ab_ok v n H A) n ?_ n 0 A (Nat.zero_add n) ho
  intro k A hk ho
  try dsimp only
  by_cases hc : A (192 + k) = nI 1 ∧ A k = one
  · rw [if_pos hc]
    obtain ⟨h1, h2, h3, h4, h5, ⟨w, hw, h6⟩, _⟩ := ho.2.2.2.2.2.1 k hk
    have : ∃ w' : Nat, w' ≤ 99 ∧ ab_mn (nI 99) (A (512 + k) + nI 3) = nI w' := by
      rw [h6, nI_add]
      unfold ab_mn
      by_cases h : nI 99 < nI (w + 3)
      · exact ⟨99, by omega, if_pos h⟩
      · refine ⟨w + 3, ?_, if_neg h⟩
        rw [nI_ltI (by omega) (by omega)] at h
        omega
    obtain ⟨w', hw', e⟩ := this
    rw [e]
    exact ab_ok_wait ho hk hw'
  · rw [if_neg hc]
    exact ho
theorem ab_ok_lot {x : Nat} (ho : ab_ok v n H A) (hx : x < 65536) : ab_ok v n H (fk_w A 834 (nI x)) := by
  have hn : n ≤ 64 := ho.1
  obtain ⟨h1, h2, h3, h4, _, h6, h7⟩ := ho
  refine ⟨h1, ?_, ?_, h4, ⟨x, hx, fk_w_s⟩, fun i hi => ab_oj_congr (fun c hc => fk_w_o (by omega)) (h6 i hi), ?_⟩
  · rw [fk_w_o (by omega)]; exact h2
  · rw [fk_w_o (by omega)]; exact h3
  · rw [fk_sf_congr n 0 fun i _ hi => ab_wj_congr (A := A) (j := i) (fk_w_o (by omega)) (fk_w_o (by omega))]
    exact h7
theorem ab_ok_dead (ho : ab_ok v n H A) (hj : j < n) : ab_ok v n H (fk_w A (192 + j) (nI 2)) := by
  have hn : n ≤ 64 := ho.1
  obtain ⟨h1, h2, h3, h4, ⟨x, hx, h5⟩, h6, h7⟩ := ho
  refine ⟨h1, ?_, ?_, h4, ⟨x, hx, ?_⟩, fun i hi => ?_, ?_⟩
  · rw [fk_w_o (by omega)]; exact h2
  · rw [fk_w_o (by omega)]; exact h3
  · rw [fk_w_o (by omega)]; exact h5
  · by_cases e : i = j
    · subst e
      obtain ⟨a1, a2, a3, a4, a5, a6, a7, a8, a9⟩ := h6 i hi
      unfold ab_oj
      simp (disch := omega) only [fk_w_o, fk_w_s]
      exact ⟨a1, a2, a3, a4, a5, a6, fun z => absurd z (by decide), a8, a9⟩
    · exact ab_oj_congr (fun c hc => fk_w_o (by omega)) (h6 i hi)
  · refine Nat.le_trans (fk_sf_le n 0 fun i _ hi => ?_) h7
    unfold ab_wj
    rw [fk_w_o (show 256 + i ≠ 192 + j by omega)]
    by_cases e : i = j
    · subst e
      rw [fk_w_s, if_neg (by decide)]
      exact Nat.zero_le _
    · rw [fk_w_o (by omega)]
      exact Nat.le_refl _
theorem ab_ok_di {s : ab_S} {nd : Prop} [Decidable nd] (ho : ab_ok v n H s.1) (hj : j < n) : ab_ok v n H (ab_di W nd n j s).1 := by
  unfold ab_di
  by_cases hc : ab_at s.1 j ∧ ¬ nd
  · rw [if_pos hc]
    try dsimp only
    obtain ⟨x, hx, e⟩ := ho.2.2.2.2.1
    have o1 : ab_ok v n H (fk_w s.1 834 (ab_lot (s.1 834))) := by
      unfold ab_lot
      exact ab_ok_lot ho (by omega)
    generalize fk_w s.1 834 (ab_lot (s.1 834)) = A at o1 ⊢
    unfold ab_di1
    split
    · exact o1
    · refine ab_ok_mo (ab_ok_hi (ab_ok_dead o1 hj) fun k hk => fk_w_o (by omega))
  · rw [if_neg hc]
    exact ho
end OK2
