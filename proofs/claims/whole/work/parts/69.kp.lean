/-! what an hour leaves as it was -/
def ab_kp (A A' : Nat → Int32) : Prop := (∀ i, 839 ≤ i → A' i = A i) ∧ (∀ i, i < 192 → A' i = A i) ∧ A' 832 = A 832
theorem ab_kp_r {A : Nat → Int32} : ab_kp A A := ⟨fun _ _ => rfl, fun _ _ => rfl, rfl⟩
theorem ab_kp_t {A B C : Nat → Int32} (h1 : ab_kp A B) (h2 : ab_kp B C) : ab_kp A C := ⟨fun i hi => (h2.1 i hi).trans (h1.1 i hi), fun i hi => (h2.2.1 i hi).trans (h1.2.1 i hi), h2.2.2.trans h1.2.2⟩
theorem ab_kp_w {A : Nat → Int32} {i : Nat} {x : Int32} (h1 : 192 ≤ i) (h2 : i < 839) (h3 : i ≠ 832) : ab_kp A (fk_w A i x) := ⟨fun k hk => fk_w_o (by omega), fun k hk => fk_w_o (by omega), fk_w_o (by omega)⟩
theorem ab_kp_it {f : Nat → ab_S → ab_S} {n : Nat} {s : ab_S} (h : ∀ j t, j < n → ab_kp t.1 (f j t).1) : ab_kp s.1 (fk_it f 0 n s).1 := fk_it_inv (fun _ (t : ab_S) => ab_kp s.1 t.1) n (fun j t hj ht => ab_kp_t ht (h j t hj)) n 0 s (Nat.zero_add n) ab_kp_r
theorem ab_kp_wt {j : Nat} {s : ab_S} (hj : j < 64) : ab_kp s.1 (ab_wt j s).1 := by
  unfold ab_wt
  split
  · exact ab_kp_w (by omega) (by omega) (by omega)
  · exact ab_kp_r
theorem ab_kp_go {v : Nat → Nat → Int32} {po : Int32} {j : Nat} {s : ab_S} (hj : j < 64) : ab_kp s.1 (ab_go v po j s).1 := by
  unfold ab_go ab_go1
  split
  · split
    · exact ab_kp_w (by omega) (by omega) (by omega)
    · exact ab_kp_t (ab_kp_t (ab_kp_w (by omega) (by omega) (by omega)) (ab_kp_w (by omega) (by omega) (by omega))) (ab_kp_w (by omega) (by omega) (by omega))
  · exact ab_kp_r
theorem ab_kp_mr {W : Int32 → (Nat → Int32) → Int32} {a b : Nat} {s : ab_S} (ha : a < 64) (hb : b < 64) : ab_kp s.1 (ab_mr W a b s).1 := by
  unfold ab_mr
  split
  · unfold ab_mg ab_mg1
    try dsimp only
    exact ⟨fun k hk => by simp (disch := omega) only [fk_w_o], fun k hk => by simp (disch := omega) only [fk_w_o], by simp (disch := omega) only [fk_w_o]⟩
  · exact ab_kp_r
theorem ab_kp_ar {v : Nat → Nat → Int32} {W : Int32 → (Nat → Int32) → Int32} {j : Nat} {s : ab_S} (hj : j < 64) : ab_kp s.1 (ab_ar v W j s).1 := by
  unfold ab_ar
  split
  · dsimp only
    refine ab_kp_t (ab_kp_t (B := ab_ar0 v j s.1) ?_ (ab_kp_w (by omega) (by omega) (by omega))) (ab_kp_w (by omega) (by omega) (by omega))
    unfold ab_ar0 ab_kn
    split
    · exact ab_kp_r
    · exact ab_kp_t (ab_kp_w (by omega) (by omega) (by omega)) (ab_kp_w (by omega) (by omega) (by omega))
  · exact ab_kp_r
theorem ab_kp_di {W : Int32 → (Nat → Int32) → Int32} {nd : Prop} [Decidable nd] {n j : Nat} {s : ab_S} (hn : n ≤ 64) (hj : j < 64) : ab_kp s.1 (ab_di W nd n j s).1 := by
  unfold ab_di
  split
  · dsimp only
    refine ab_kp_t (ab_kp_w (by omega) (by omega) (by omega)) (B := fk_w s.1 834 (ab_lot (s.1 834))) ?_
    generalize fk_w s.1 834 (ab_lot (s.1 834)) = A
    unfold ab_di1
    split
    · exact ab_kp_r
    · refine ab_kp_t (ab_kp_t (ab_kp_w (by omega) (by omega) (by omega)) (ab_kp_w (by omega) (by omega) (by omega))) (B := fk_w (fk_w A (192 + j) (nI 2)) 836 (A 836 + nI 1)) ?_
      unfold ab_mo
      refine fk_it_inv (fun _ (B : Nat → Int32) => ab_kp (fk_w (fk_w A (192 + j) (nI 2)) 836 (A 836 + nI 1)) B) n ?_ n 0 _ (Nat.zero_add n) ab_kp_r
      intro k B hk hB
      try dsimp only
      split
      · exact ab_kp_t hB (ab_kp_w (by omega) (by omega) (by omega))
      · exact hB
  · exact ab_kp_r
section KP
variable {v : Nat → Nat → Int32} {W : Int32 → (Nat → Int32) → Int32} {s : ab_S} {n H : Nat}
/-- from n on: born now; what was is as it was -/
def ab_kq (n : Nat) (A A' : Nat → Int32) : Prop := (∀ i, 839 ≤ i → A' i = A i) ∧ (∀ j, j < n → A' (128 + j) = A (128 + j)) ∧ A' 832 = A 832 ∧ ∀ j, n ≤ j → j < ab_n A' → A' (128 + j) = A 832
theorem ab_kq_lv {po ps : Int32} {m j : Nat} {A : Nat → Int32} (hv : ab_rv v) (hnm : n ≤ m) (ho : ab_ok v m H s.1) (hj : j < m) (h : ab_kq n A s.1) : ab_kq n A (ab_lv v W po ps j s).1 := by
  have hm := ho.1
  obtain ⟨h1, h2, h3, h4⟩ := h
  have st : ∀ (B : Nat → Int32) (r : Int32), ab_kp B (ab_st v B j r) := fun B r => by
    unfold ab_st
    exact ab_kp_t (ab_kp_t (ab_kp_w (by omega) (by omega) (by omega)) (ab_kp_w (by omega) (by omega) (by omega))) (ab_kp_w (by omega) (by omega) (by omega))
  have st8 : ∀ (B : Nat → Int32) (r : Int32), (ab_st v B j r) 833 = B 833 := fun B r => by
    unfold ab_st
    rw [fk_w_o (by omega), fk_w_o (by omega), fk_w_o (by omega)]
  unfold ab_lv ab_lv1
  split
  · split
    · exact ⟨h1, h2, h3, h4⟩
    · dsimp only
      split
      · rename_i hcan
        have hlt : m < 64 := by have := hcan.1.2.1; rw [ab_ok_n ho] at this; exact this
        have at' := fun q => ab_pt_at (v := v) (q := q) hlt ho.2.1 hj
        generalize (ab_best (ab_G v W s.1 j) (ab_best (ab_G v W s.1 j) (-1)).1).1 = q
        generalize (ab_best (ab_G v W s.1 j) (-1)).1 = r
        have s1 := st (ab_pt v s.1 j q) r
        have e833 : (ab_pt v s.1 j q) 833 = nI (m + 1) := by rw [at']; simp (disch := omega) only [if_neg, if_true]
        have eN : ab_n (ab_st v (ab_pt v s.1 j q) j r) = m + 1 := by
          unfold ab_n
          rw [st8, e833, nI_clamp (by omega)]
        refine ⟨fun i hi => ?_, fun i hi => ?_, ?_, fun i hi hi2 => ?_⟩
        · rw [s1.1 i hi, at']
          simp (disch := omega) only [if_neg]
          exact h1 i hi
        · rw [s1.2.1 _ (by omega), at']
          simp (disch := omega) only [if_neg]
          exact h2 i hi
        · rw [s1.2.2, at']
          simp (disch := omega) only [if_neg]
          exact h3
        · rw [eN] at hi2
          rw [s1.2.1 _ (by omega), at']
          by_cases e : i = m
          · subst e
            simp (disch := omega) only [if_neg, if_true]
            exact h3
          · simp (disch := omega) only [if_neg]
            exact h4 i hi (by rw [ab_ok_n ho]; omega)
      · generalize (ab_best (ab_G v W s.1 j) (-1)).1 = r
        have s1 := st s.1 r
        have eN : ab_n (ab_st v s.1 j r) = m := by
          unfold ab_n
          rw [st8]
          exact ab_ok_n ho
        refine ⟨fun i hi => (s1.1 i hi).trans (h1 i hi), fun i hi => ?_, s1.2.2.trans h3, fun i hi hi2 => ?_⟩
        · rw [s1.2.1 _ (by omega)]; exact h2 i hi
        · rw [eN] at hi2
          rw [s1.2.1 _ (by omega)]; exact h4 i hi (by rw [ab_ok_n ho]; exact hi2)
  · exact ⟨h1, h2, h3, h4⟩
theorem ab_kq_hr {po ps : Int32} {nd : Prop} [Decidable nd] (hv : ab_rv v) (ho : ab_ok v n H s.1) : (∀ i, 839 ≤ i → (ab_hr v W po ps nd s).1 i = s.1 i) ∧ (∀ j, j < n → (ab_hr v W po ps nd s).1 (128 + j) = s.1 (128 + j)) ∧ ∀ j, n ≤ j → j < ab_n (ab_hr v W po ps nd s).1 → (ab_hr v W po ps nd s).1 (128 + j) = s.1 832 := by
  have hn := ho.1
  unfold ab_hr
  try dsimp only
  have o0 : ab_ok v n H ((s.1, fun _ => nI 0, s.2.2) : ab_S).1 := ho
  generalize hs0 : ((s.1, fun _ => nI 0, s.2.2) : ab_S) = s0 at o0 ⊢
  have es : s0.1 = s.1 := by rw [← hs0]
  have k1 : ab_kp s0.1 (ab_p1 s0).1 ∧ ab_ok v n H (ab_p1 s0).1 := by
    unfold ab_p1
    rw [ab_ok_n o0]
    exact ⟨ab_kp_it fun j t hj => ab_kp_wt (by omega), fk_it_inv (f := ab_wt) (fun _ (t : ab_S) => ab_ok v n H t.1) n (fun j t hj ht => ab_ok_wt ht hj) n 0 s0 (Nat.zero_add n) o0⟩
  generalize ab_p1 s0 = s1 at k1 ⊢
  have k2 : ab_kp s1.1 (ab_p2 v po s1).1 ∧ ab_ok v n H (ab_p2 v po s1).1 := by
    unfold ab_p2
    rw [ab_ok_n k1.2]
    exact ⟨ab_kp_it fun j t hj => ab_kp_go (by omega), fk_it_inv (f := ab_go v po) (fun _ (t : ab_S) => ab_ok v n H t.1) n (fun j t hj ht => ab_ok_go hv ht hj) n 0 s1 (Nat.zero_add n) k1.2⟩
  generalize ab_p2 v po s1 = s2 at k2 ⊢
  have k3 : ab_kp s2.1 (ab_p3 W s2).1 ∧ ab_ok v n H (ab_p3 W s2).1 := by
    unfold ab_p3
    rw [ab_ok_n k2.2]
    refine fk_it_inv (f := fun a s => fk_it (fun b s => ab_mr W a b s) (a + 1) (ab_n s.1 - (a + 1)) s) (fun _ (t : ab_S) => ab_kp s2.1 t.1 ∧ ab_ok v n H t.1) n (fun a t ha ht => ?_) n 0 s2 (Nat.zero_add n) ⟨ab_kp_r, k2.2⟩
    try dsimp only
    rw [ab_ok_n ht.2]
    refine fk_it_inv (f := fun b s => ab_mr W a b s) (fun b (t : ab_S) => a + 1 ≤ b ∧ ab_kp s2.1 t.1 ∧ ab_ok v n H t.1) n (fun b t hb ht => ⟨by omega, ab_kp_t ht.2.1 (ab_kp_mr (by omega) (by omega)), ?_⟩) (n - (a + 1)) (a + 1) t (by omega) ⟨Nat.le_refl _, ht⟩ |>.2
    try dsimp only
    unfold ab_mr
    split
    · rename_i hc
      exact ab_ok_mg ht.2.2 ha hb (by omega) hc.1.1 hc.2.1.1
    · exact ht.2.2
  generalize ab_p3 W s2 = s3 at k3 ⊢
  have k4 : ab_kp s3.1 (ab_p4 v W s3).1 ∧ ab_ok v n H (ab_p4 v W s3).1 := by
    unfold ab_p4
    rw [ab_ok_n k3.2]
    exact ⟨ab_kp_it fun j t hj => ab_kp_ar (by omega), fk_it_inv (f := ab_ar v W) (fun _ (t : ab_S) => ab_ok v n H t.1) n (fun j t hj ht => ab_ok_ar hv ht hj) n 0 s3 (Nat.zero_add n) k3.2⟩
  generalize ab_p4 v W s3 = s4 at k4 ⊢
  have k5 : ab_kp s4.1 (ab_p5 W nd s4).1 ∧ ab_ok v n H (ab_p5 W nd s4).1 := by
    unfold ab_p5
    rw [ab_ok_n k4.2]
    exact ⟨ab_kp_it fun j t hj => ab_kp_di hn (by omega), fk_it_inv (f := ab_di W nd n) (fun _ (t : ab_S) => ab_ok v n H t.1) n (fun j t hj ht => ab_ok_di ht hj) n 0 s4 (Nat.zero_add n) k4.2⟩
  generalize ab_p5 W nd s4 = s5 at k5 ⊢
  have k := ab_kp_t (ab_kp_t (ab_kp_t (ab_kp_t k1.1 k2.1) k3.1) k4.1) k5.1
  have k6 : ab_kq n s.1 (ab_p6 v W po ps s5).1 ∧ ab_p6I v n H (ab_p6 v W po ps s5) := by
    unfold ab_p6
    rw [ab_ok_n k5.2]
    refine fk_it_inv (f := ab_lv v W po ps) (fun _ (t : ab_S) => ab_kq n s.1 t.1 ∧ ab_p6I v n H t) n (fun j t hj ht => ?_) n 0 s5 (Nat.zero_add n) ⟨⟨fun i hi => by rw [← es]; exact k.1 i hi, fun i hi => by rw [← es]; exact k.2.1 _ (by omega), by rw [← es]; exact k.2.2, fun i hi hi2 => by rw [ab_ok_n k5.2] at hi2; omega⟩, n, Nat.le_refl _, k5.2, fun i h1 h2 => by omega⟩
    obtain ⟨m, hm, om, _⟩ := id ht.2
    exact ⟨ab_kq_lv hv hm om (by omega) ht.1, ab_p6_step hv hj ht.2⟩
  generalize ab_p6 v W po ps s5 = s6 at k6 ⊢
  obtain ⟨⟨q1, q2, q3, q4⟩, m, hm, om, _⟩ := k6
  have hmn := om.1
  have hN : ab_n (fk_w s6.1 832 (s6.1 832 + nI 1)) = ab_n s6.1 := by unfold ab_n; rw [fk_w_o (by omega)]
  refine ⟨fun i hi => ?_, fun i hi => ?_, fun i hi hi2 => ?_⟩
  · rw [fk_w_o (by omega)]; exact q1 i hi
  · rw [fk_w_o (by omega)]; exact q2 i hi
  · rw [hN] at hi2
    have hi3 := hi2
    rw [ab_ok_n om] at hi3
    rw [fk_w_o (by omega)]; exact q4 i hi hi2
end KP
