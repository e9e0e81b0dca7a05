/-! THE LAW: a step of a run looked at backwards; rows and stacks -/
section LW3
variable {F : Nat → Int32} {K : List (Nat × Nat)} {s t : List Int32} {res : Option (List Int32)} {o x : Nat}
theorem lz_rn_inv (h : lz_rn F ((o, x) :: K) s = some res) :
  (o = 0 ∧ s.length < 32 ∧ lz_rn F K (nI x :: s) = some res) ∨ (o = 1 ∧ s.length < 32 ∧ x < 14 ∧ lz_rn F K (F x :: s) = some res) ∨
  (o = 10 ∧ ∃ t, (s = nI 0 :: t ∧ lz_rn F K (nI 1 :: t) = some res) ∨ (s = nI 1 :: t ∧ lz_rn F K (nI 0 :: t) = some res)) ∨
  ((o = 11 ∨ o = 12) ∧ ∃ t, (s = nI (lz_lp o) :: t ∧ x ≤ K.length + 1 ∧ 0 < x ∧ lz_rn F (K.drop (x - 1)) s = some res) ∨ (s = nI (1 - lz_lp o) :: t ∧ lz_rn F K t = some res)) ∨
  (2 ≤ o ∧ o ≤ 9 ∧ ∃ r z u, s = r :: z :: u ∧ (((o = 5 ∨ o = 6) ∧ r = nI 0 ∧ res = none) ∨ (¬ ((o = 5 ∨ o = 6) ∧ r = nI 0) ∧ lz_rn F K (lz_o o z r :: u) = some res))) := by
  by_cases c0 : o = 0
  · subst c0
    by_cases c : s.length < 32
    · rw [lz_rn_num c] at h; exact Or.inl ⟨rfl, c, h⟩
    · exfalso
      have h : lz_r F (K.length + 1) ((0, x) :: K) s = some res := h
      simp only [lz_r, if_true, if_neg c] at h
      cases h
  by_cases c1 : o = 1
  · subst c1
    by_cases c : s.length < 32 ∧ x < 14
    · rw [lz_rn_let c.1 c.2] at h; exact Or.inr (Or.inl ⟨rfl, c.1, c.2, h⟩)
    · exfalso
      have h : lz_r F (K.length + 1) ((1, x) :: K) s = some res := h
      simp only [lz_r] at h
      rw [if_neg (by decide), if_pos trivial, if_neg c] at h
      cases h
  cases s with
  | nil =>
    exfalso
    have h : lz_r F (K.length + 1) ((o, x) :: K) [] = some res := h
    simp only [lz_r] at h
    rw [if_neg c0, if_neg c1] at h
    cases h
  | cons r t =>
    by_cases c2 : o = 10
    · subst c2
      by_cases e0 : r = nI 0
      · subst e0; rw [lz_rn_not0] at h; exact Or.inr (Or.inr (Or.inl ⟨rfl, t, Or.inl ⟨rfl, h⟩⟩))
      by_cases e1 : r = nI 1
      · subst e1; rw [lz_rn_not1] at h; exact Or.inr (Or.inr (Or.inl ⟨rfl, t, Or.inr ⟨rfl, h⟩⟩))
      exfalso
      have h : lz_r F (K.length + 1) ((10, x) :: K) (r :: t) = some res := h
      simp only [lz_r] at h
      rw [if_neg c0, if_neg c1, if_pos trivial, if_neg e0, if_neg e1] at h
      cases h
    by_cases c3 : o = 11 ∨ o = 12
    · by_cases e0 : r = nI (lz_lp o)
      · subst e0
        by_cases c : x ≤ K.length + 1 ∧ 0 < x
        · rw [lz_rn_leap c3 c.1 c.2] at h; exact Or.inr (Or.inr (Or.inr (Or.inl ⟨c3, t, Or.inl ⟨rfl, c.1, c.2, h⟩⟩)))
        · exfalso
          have h : lz_r F (K.length + 1) ((o, x) :: K) (nI (lz_lp o) :: t) = some res := h
          rcases c3 with rfl | rfl
          · simp only [lz_r] at h
            rw [if_neg (by decide), if_neg (by decide), if_neg (by decide), if_pos trivial, if_pos (show nI (lz_lp 11) = nI 0 from rfl), if_neg c] at h
            cases h
          · simp only [lz_r] at h
            rw [if_neg (by decide), if_neg (by decide), if_neg (by decide), if_neg (by decide), if_pos trivial, if_pos (show nI (lz_lp 12) = nI 1 from rfl), if_neg c] at h
            cases h
      · by_cases e1 : r = nI (1 - lz_lp o)
        · subst e1; rw [lz_rn_pop c3] at h; exact Or.inr (Or.inr (Or.inr (Or.inl ⟨c3, t, Or.inr ⟨rfl, h⟩⟩)))
        · exfalso
          have h : lz_r F (K.length + 1) ((o, x) :: K) (r :: t) = some res := h
          rcases c3 with rfl | rfl
          · simp only [lz_r] at h
            rw [if_neg (by decide), if_neg (by decide), if_neg (by decide), if_pos trivial, if_neg (show ¬ r = nI 0 from e0), if_neg (show ¬ r = nI 1 from e1)] at h
            cases h
          · simp only [lz_r] at h
            rw [if_neg (by decide), if_neg (by decide), if_neg (by decide), if_neg (by decide), if_pos trivial, if_neg (show ¬ r = nI 1 from e0), if_neg (show ¬ r = nI 0 from e1)] at h
            cases h
    · cases t with
      | nil =>
        exfalso
        have h : lz_r F (K.length + 1) ((o, x) :: K) [r] = some res := h
        simp only [lz_r] at h
        rw [if_neg c0, if_neg c1, if_neg c2, if_neg (fun z => c3 (Or.inl z)), if_neg (fun z => c3 (Or.inr z))] at h
        cases h
      | cons z u =>
        by_cases c9 : o ≤ 9
        · rw [lz_rn_op (by omega) c9] at h
          refine Or.inr (Or.inr (Or.inr (Or.inr ⟨by omega, c9, r, z, u, rfl, ?_⟩)))
          by_cases c : (o = 5 ∨ o = 6) ∧ r = nI 0
          · rw [if_pos c] at h
            cases h
            exact Or.inl ⟨c.1, c.2, rfl⟩
          · rw [if_neg c] at h
            exact Or.inr ⟨c, h⟩
        · exfalso
          have h : lz_r F (K.length + 1) ((o, x) :: K) (r :: z :: u) = some res := h
          simp only [lz_r] at h
          rw [if_neg c0, if_neg c1, if_neg c2, if_neg (fun z => c3 (Or.inl z)), if_neg (fun z => c3 (Or.inr z)), if_neg (by omega), if_neg c9] at h
          cases h
/-- a stack in a row -/
def lz_st (z : Nat → Int32) : List Int32 → Prop
  | [] => True
  | v :: s => z s.length = v ∧ lz_st z s
theorem lz_st_c {z z' : Nat → Int32} : ∀ s : List Int32, (∀ i, i < s.length → z' i = z i) → lz_st z s → lz_st z' s := by
  intro s
  induction s with
  | nil => intro _ _; trivial
  | cons v s ih => exact fun h hs => ⟨(h s.length (Nat.lt_succ_self _)).trans hs.1, ih (fun i hi => h i (Nat.lt_succ_of_lt hi)) hs.2⟩
def lz_tp (s : List Int32) : Int32 := if s.length = 0 then (-1) else nI (s.length - 1)
theorem lz_tp_n : lz_tp [] = (-1) := rfl
theorem lz_tp_c {v : Int32} : lz_tp (v :: s) = nI s.length := by
  unfold lz_tp
  rw [List.length_cons, if_neg (by omega), Nat.add_sub_cancel]
def lz_an : Option (List Int32) → Int32
  | none => nI 0
  | some [] => nI 0
  | some (v :: _) => v
/-- orders in the class's rows -/
def lz_ko (o : Nat) : Nat := if o = 0 then 0 else if o = 1 then 1 else if o = 2 then 43 else if o = 3 then 45 else if o = 4 then 42 else if o = 5 then 47 else if o = 6 then 37 else if o = 7 then 60 else if o = 8 then 62 else if o = 9 then 61 else if o = 10 then 2 else if o = 11 then 3 else 4
def lz_kp (i o x : Nat) : Nat := if o = 1 then ck_ix x else if o = 11 ∨ o = 12 then i + x else x
def lz_hc (y : Nat → Nat → Int32) (c : Nat) : Nat → List (Nat × Nat) → Prop
  | _, [] => True
  | b, k :: K => (y (c + 1) b = nI (lz_ko k.1) ∧ y (c + 2) b = nI (lz_kp b k.1 k.2)) ∧ lz_hc y c (b + 1) K
theorem lz_hc_c {y y' : Nat → Nat → Int32} {c : Nat} : ∀ (K : List (Nat × Nat)) b, (∀ i, b ≤ i → i < b + K.length → y' (c + 1) i = y (c + 1) i ∧ y' (c + 2) i = y (c + 2) i) → lz_hc y c b K → lz_hc y' c b K := by
  intro K
  induction K with
  | nil => intro b _ _; trivial
  | cons k K ih =>
    intro b h hh
    have e := h b (Nat.le_refl _) (by rw [List.length_cons]; omega)
    exact ⟨⟨e.1.trans hh.1.1, e.2.trans hh.1.2⟩, ih (b + 1) (fun i h1 h2 => h i (by omega) (by rw [List.length_cons]; omega)) hh.2⟩
theorem lz_hc_d {y : Nat → Nat → Int32} {c : Nat} : ∀ (j : Nat) (K : List (Nat × Nat)) b, lz_hc y c b K → lz_hc y c (b + j) (K.drop j) := by
  intro j
  induction j with
  | zero => intro K b h; exact h
  | succ j ih =>
    intro K b h
    cases K with
    | nil => trivial
    | cons k K =>
      have := ih K (b + 1) h.2
      rw [show b + 1 + j = b + (j + 1) by omega] at this
      exact this
theorem lz_hc_app {y : Nat → Nat → Int32} {c : Nat} : ∀ (K1 : List (Nat × Nat)) {K2 : List (Nat × Nat)} {b : Nat}, lz_hc y c b K1 → lz_hc y c (b + K1.length) K2 → lz_hc y c b (K1 ++ K2) := by
  intro K1
  induction K1 with
  | nil => intro K2 b _ h; exact h
  | cons k K1 ih =>
    intro K2 b h1 h2
    refine ⟨h1.1, ih h1.2 ?_⟩
    rw [List.length_cons, show b + (K1.length + 1) = b + 1 + K1.length by omega] at h2
    exact h2
theorem lz_wf_d {j : Nat} (h : lz_wf K) : lz_wf (K.drop j) := fun c hc => h c (List.mem_of_mem_drop hc)
end LW3
