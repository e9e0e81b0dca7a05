/-- how many of k numbers from j on have p -/
def fk_cf (p : Nat → Bool) : Nat → Nat → Nat
  | _, 0 => 0
  | j, k + 1 => (if p j then 1 else 0) + fk_cf p (j + 1) k
theorem fk_b_0 {p : Prop} [Decidable p] : fk_b p = nI 0 ↔ ¬ p := by
  unfold fk_b
  by_cases h : p
  · rw [if_pos h]
    exact ⟨fun z => absurd z (by decide), fun z => absurd h z⟩
  · rw [if_neg h]
    exact ⟨fun _ => h, fun _ => rfl⟩
section M0
variable {N : Nat} {y : Nat → Nat → Int32} {l : Nat → Nat → Int64} {d : Nat}
theorem mX12_lives {j : Nat} (hj : j < 3000) : fk_ev d qX12_lives 0 [.ref 246, .int (nI j)] [] (fk_E N y l) = some (some (.int (fk_b (y 247 (192 + j) = nI 1))), fk_E N y l) := by
  simp (disch := omega) only [rX12_lives, nI_add]
  by_cases h : y 247 (192 + j) = nI 1
  · simp [h, fk_b, rX12_lives]
  · simp [h, fk_b, rX12_lives]
theorem mX12_isHalf {j : Int32} : fk_ev d qX12_isHalf 0 [.ref 246, .int j] [] (fk_E N y l) = some (some (.int (fk_b (nI 0 ≤ j ∧ j < y 247 833))), fk_E N y l) := by
  simp (disch := omega) only [rX12_isHalf]
  by_cases h : j < nI 0
  · have h2 : ¬ nI 0 ≤ j := Int32.not_le.mpr h
    simp [h, h2, fk_b, rX12_isHalf]
  · have h2 : nI 0 ≤ j := Int32.not_lt.mp h
    by_cases h3 : y 247 833 ≤ j
    · have h4 : ¬ j < y 247 833 := Int32.not_lt.mpr h3
      simp [h, h2, h3, h4, fk_b, rX12_isHalf]
    · have h4 : j < y 247 833 := Int32.not_le.mp h3
      simp [h, h2, h3, h4, fk_b, rX12_isHalf]
theorem mX12_livingOf_4 {one : Int32} {n : Nat} (hn : n ≤ 64) (hm : y 247 833 = nI n) : ∀ k j c, j + k = n → c ≤ j → fk_ev (d + 1) qX12_livingOf 4 [.ref 246, .int one, .int (nI c), .int (nI j)] [] (fk_E N y l) = some (some (.int (nI (c + fk_cf (fun j => decide (y 247 (192 + j) = nI 1 ∧ y 247 j = one)) j k))), fk_E N y l) := by
  intro k
  induction k with
  | zero =>
    intro j c hj hc
    have h1 : nI n ≤ nI j := nI_le (by omega) (by omega)
    rw [hX12_livingOf_4]
    simp (disch := omega) only [rX12_livingOf, hm, h1, if_true]
    rfl
  | succ k ih =>
    intro j c hj hc
    have h1 : ¬ nI n ≤ nI j := nI_ge (by omega) (by omega)
    rw [hX12_livingOf_4]
    simp (disch := omega) only [rX12_livingOf, hm, h1, if_false, mX12_lives, Option.bind_some, Option.toList_some, List.cons_append, List.nil_append, fk_b_0, nI_add, Nat.zero_add]
    by_cases h2 : y 247 (192 + j) = nI 1
    · by_cases h3 : y 247 j = one
      · simp (disch := omega) only [h2, h3, not_true_eq_false, if_false, rX12_livingOf, nI_add, Nat.zero_add]
        rw [ih (j + 1) (c + 1) (by omega) (by omega)]
        simp [fk_cf, h2, h3, Nat.add_assoc]
      · simp (disch := omega) only [h2, h3, not_true_eq_false, not_false_eq_true, if_false, if_true, rX12_livingOf, nI_add, Nat.add_zero, Nat.zero_add]
        rw [ih (j + 1) c (by omega) (by omega)]
        simp [fk_cf, h2, h3]
    · simp (disch := omega) only [h2, not_false_eq_true, if_true, rX12_livingOf, nI_add, Nat.add_zero]
      rw [ih (j + 1) c (by omega) (by omega)]
      simp [fk_cf, h2]
end M0
