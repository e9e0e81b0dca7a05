section M4
variable {N : Nat} {y : Nat → Nat → Int32} {l : Nat → Nat → Int64} {d : Nat} {h : fk_H}
theorem mX12_seed {x : Int32} : fk_ev (d + 1) qX12_seed 0 [.ref 246, .int x] [] (fk_E N y l) = some (some (.int (fk_b (nI 0 ≤ x ∧ x ≤ nI 65535))), fk_E N (if nI 0 ≤ x ∧ x ≤ nI 65535 then fk_u y 247 834 x else y) l) := by
  simp only [rX12_seed, mX12_in, Option.bind_some, Option.toList_some, List.cons_append, List.nil_append, fk_b_0]
  by_cases h1 : nI 0 ≤ x ∧ x ≤ nI 65535
  · simp (disch := omega) [h1, rX12_seed, fk_b]
  · simp [h1, rX12_seed, fk_b]
end M4
