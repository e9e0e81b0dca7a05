/-! THE LAW: clauses, and what the class says by them -/
section LW7
variable {F G : Nat → Int32} {K : List (Nat × Nat)} {m : (Nat → Int32) → Option Int32} {nd : Nat}
theorem lz_r_c (h : ∀ k, k < 14 → F k = G k) : ∀ k (K : List (Nat × Nat)) s, lz_r F k K s = lz_r G k K s := by
  intro k
  induction k with
  | zero => intro K s; rfl
  | succ k ih =>
    intro K s
    cases K with
    | nil => rfl
    | cons c K =>
      have e : (if s.length < 32 ∧ c.2 < 14 then lz_r F k K (F c.2 :: s) else none) = (if s.length < 32 ∧ c.2 < 14 then lz_r G k K (G c.2 :: s) else none) := by
        by_cases q : s.length < 32 ∧ c.2 < 14
        · rw [if_pos q, if_pos q, h c.2 q.2, ih]
        · rw [if_neg q, if_neg q]
      simp only [lz_r]
      rw [e]
      simp only [ih]
theorem lz_mn_c (hm : lz_mn K m nd) (hn : nd ≤ 32) (h : ∀ k, k < 14 → F k = G k) : m F = m G := by
  have h1 := hm F [] [] (by show 0 + nd ≤ 32; omega)
  have h2 := hm G [] [] (by show 0 + nd ≤ 32; omega)
  have h3 : lz_rn F (K ++ []) [] = lz_rn G (K ++ []) [] := lz_r_c h _ _ _
  rw [h1, h2] at h3
  cases e1 : m F with
  | none =>
    cases e2 : m G with
    | none => rfl
    | some v => rw [e1, e2] at h3; cases h3
  | some v =>
    cases e2 : m G with
    | none => rw [e1, e2] at h3; cases h3
    | some w =>
      rw [e1, e2] at h3
      have h3 : some (some [v]) = some (some [w]) := h3
      cases h3
      rfl
/-- a clause's worth in the class -/
def lz_kw (q : Nat × List (Nat × Nat) × List (Nat × Nat) × List (Nat × Nat)) : List (Nat × Nat) := if q.1 = 101 then [(0, 1)] else q.2.1
def lz_mq (q : Nat × List (Nat × Nat) × List (Nat × Nat) × List (Nat × Nat)) (M : Nat × ((Nat → Int32) → Option Int32) × ((Nat → Int32) → Option Int32)) : Prop :=
  M.1 = q.1 ∧ q.1 < 256 ∧ lz_mn (lz_kw q) M.2.1 15 ∧ (q.1 ≠ 101 → lz_mn q.2.1 M.2.1 15) ∧ lz_mn q.2.2.1 M.2.2 14 ∧ lz_mn q.2.2.2 M.2.2 14 ∧ (∀ F v, M.2.2 F = some v → v = nI 0 ∨ v = nI 1) ∧ (q.1 = 101 → ∀ F, M.2.1 F = some (nI 1))
def lz_mqs : List (Nat × List (Nat × Nat) × List (Nat × Nat) × List (Nat × Nat)) → List (Nat × ((Nat → Int32) → Option Int32) × ((Nat → Int32) → Option Int32)) → Prop
  | [], [] => True
  | q :: Q, M :: Ms => lz_mq q M ∧ lz_mqs Q Ms
  | [], _ :: _ => False
  | _ :: _, [] => False
def lz_W (Ms : List (Nat × ((Nat → Int32) → Option Int32) × ((Nat → Int32) → Option Int32))) (a : Int32) (F : Nat → Int32) : Int32 := match Ms with
  | [] => nI 0
  | M :: Ms => if nI M.1 = a ∧ M.2.2 F = some (nI 1) then (M.2.1 F).getD (nI 0) else lz_W Ms a F
theorem lz_W_c (h : ∀ k, k < 14 → F k = G k) {a : Int32} : ∀ Q Ms, lz_mqs Q Ms → lz_W Ms a F = lz_W Ms a G := by
  intro Q
  induction Q with
  | nil =>
    intro Ms hq
    cases Ms with
    | nil => rfl
    | cons M Ms => exact hq.elim
  | cons q Q ih =>
    intro Ms hq
    cases Ms with
    | nil => exact hq.elim
    | cons M Ms =>
      obtain ⟨⟨h1, h2, h3, h4, h5, h6, h7, h8⟩, h9⟩ := hq
      unfold lz_W
      rw [lz_mn_c h3 (by omega) h, lz_mn_c h5 (by omega) h, ih Ms h9]
theorem lz_W_e : ∀ Q Ms, lz_mqs Q Ms → lz_W Ms (nI 101) F = nI 0 ∨ lz_W Ms (nI 101) F = nI 1 := by
  intro Q
  induction Q with
  | nil =>
    intro Ms hq
    cases Ms with
    | nil => exact Or.inl rfl
    | cons M Ms => exact hq.elim
  | cons q Q ih =>
    intro Ms hq
    cases Ms with
    | nil => exact hq.elim
    | cons M Ms =>
      obtain ⟨⟨h1, h2, h3, h4, h5, h6, h7, h8⟩, h9⟩ := hq
      unfold lz_W
      by_cases c : nI M.1 = nI 101 ∧ M.2.2 F = some (nI 1)
      · rw [if_pos c]
        have e : q.1 = 101 := by
          rw [← h1]
          exact (nI_eq (by omega) (by omega)).mp c.1
        rw [h8 e F]
        exact Or.inr rfl
      · rw [if_neg c]
        exact ih Ms h9
theorem lz_clamp {h v : Int32} (h0 : nI 0 ≤ h) : (if nI 0 < (if v < h then v else h) then (if v < h then v else h) else nI 0) = ab_cl h v := by
  unfold ab_cl
  rw [Int32.le_iff_toInt_le] at h0
  have z : (nI 0).toInt = 0 := by decide
  rw [z] at h0
  by_cases c1 : v < nI 0
  · rw [if_pos c1]
    rw [Int32.lt_iff_toInt_lt, z] at c1
    have c2 : v < h := by rw [Int32.lt_iff_toInt_lt]; omega
    rw [if_pos c2, if_neg (by rw [Int32.lt_iff_toInt_lt, z]; omega)]
  · rw [if_neg c1]
    rw [Int32.lt_iff_toInt_lt, z] at c1
    by_cases c3 : h < v
    · rw [if_pos c3]
      rw [Int32.lt_iff_toInt_lt] at c3
      rw [if_neg (show ¬ v < h by rw [Int32.lt_iff_toInt_lt]; omega)]
      by_cases c4 : nI 0 < h
      · rw [if_pos c4]
      · rw [if_neg c4]
        rw [Int32.lt_iff_toInt_lt, z] at c4
        exact Int32.toInt_inj.mp (by rw [z]; omega)
    · rw [if_neg c3]
      rw [Int32.lt_iff_toInt_lt] at c3
      have e : (if v < h then v else h) = v := by
        by_cases c5 : v < h
        · rw [if_pos c5]
        · rw [if_neg c5]
          rw [Int32.lt_iff_toInt_lt] at c5
          exact Int32.toInt_inj.mp (by omega)
      rw [e]
      by_cases c4 : nI 0 < v
      · rw [if_pos c4]
      · rw [if_neg c4]
        rw [Int32.lt_iff_toInt_lt, z] at c4
        exact Int32.toInt_inj.mp (by rw [z]; omega)
theorem ab_cl_0 {h : Int32} (h0 : nI 0 ≤ h) : ab_cl h (nI 0) = nI 0 := by
  unfold ab_cl
  rw [if_neg (by decide), if_neg (Int32.not_lt.mpr h0)]
end LW7
