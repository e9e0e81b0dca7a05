/-! THE LAW: the text read, pure -/
def lz_sg (c : Nat) : Nat := if c = 43 then 2 else if c = 45 then 3 else if c = 42 then 4 else if c = 47 then 5 else if c = 37 then 6 else if c = 60 then 7 else if c = 62 then 8 else if c = 61 then 9 else 0
def lz_li (c : Nat) : Nat := if c = 104 then 0 else if c = 105 then 1 else if c = 106 then 2 else if c = 122 then 3 else if c = 112 then 4 else if c = 110 then 5 else if c = 109 then 6 else if c = 111 then 7 else if c = 107 then 8 else if c = 114 then 9 else if c = 113 then 10 else if c = 108 then 11 else if c = 102 then 12 else if c = 121 then 13 else 14
def lz_mul (c : Nat) : Bool := c == 42 || c == 47 || c == 37
def lz_add (c : Nat) : Bool := c == 43 || c == 45
def lz_cmp (c : Nat) : Bool := c == 60 || c == 62 || c == 61
def lz_cls (c : Nat) : Bool := c == 99 || c == 100 || c == 98 || c == 119 || c == 120 || c == 101
section LW2
variable (bt : Nat → Nat) (n : Nat)
def lz_f (g : Option (Nat → Int32 ⊕ (Nat × List (Nat × Nat)))) (a : Nat) : Int32 ⊕ (Nat × List (Nat × Nat)) :=
  if ab_dd bt n a then (if ab_dd bt n (ab_dg bt n 5 a 0).1 then .inl (fk_flt 2 (ab_dg bt n 5 a 0).1) else .inr ((ab_dg bt n 5 a 0).1, [(0, (ab_dg bt n 5 a 0).2)]))
  else if a < n ∧ lz_li (bt a) < 14 then .inr (a + 1, [(1, lz_li (bt a))])
  else if a < n ∧ bt a = 91 then (match g with
    | none => .inl (fk_flt 5 a)
    | some g => match g (a + 1) with
      | .inl e => .inl e
      | .inr x => if x.1 < n ∧ bt x.1 = 93 then .inr (x.1 + 1, x.2) else .inl (fk_flt 1 x.1))
  else .inl (fk_flt 1 a)
def lz_c {X : Type} (S : Nat → Bool) (f : Nat → Int32 ⊕ (Nat × X)) : Nat → Nat → Int32 ⊕ (Nat × List (Nat × X))
  | 0, a => .inr (a, [])
  | k + 1, a => if a < n ∧ S (bt a) = true then (match f (a + 1) with
    | .inl e => .inl e
    | .inr x => match lz_c S f k x.1 with
      | .inl e => .inl e
      | .inr z => .inr (z.1, (bt a, x.2) :: z.2)) else .inr (a, [])
def lz_sgs (X : List (Nat × List (Nat × Nat))) : List (Nat × List (Nat × Nat)) := X.map fun c => (lz_sg c.1, c.2)
/-- pieces joined by signs -/
def lz_j (S : Nat → Bool) (f : Nat → Int32 ⊕ (Nat × List (Nat × Nat))) (a : Nat) : Int32 ⊕ (Nat × List (Nat × Nat)) := match f a with
  | .inl e => .inl e
  | .inr x => match lz_c bt n S f n x.1 with
    | .inl e => .inl e
    | .inr z => .inr (z.1, x.2 ++ lz_ar (lz_sgs z.2))
def lz_s (g : Option (Nat → Int32 ⊕ (Nat × List (Nat × Nat)))) : Nat → Int32 ⊕ (Nat × List (Nat × Nat)) := lz_j bt n lz_add (lz_j bt n lz_mul (lz_f bt n g))
def lz_S : Nat → Nat → Int32 ⊕ (Nat × List (Nat × Nat))
  | 0 => lz_s bt n none
  | q + 1 => lz_s bt n (some (lz_S q))
def lz_pc (gp ga : Option (Nat → Int32 ⊕ (Nat × List (Nat × Nat) × List (Nat × Nat)))) (sm : Nat → Int32 ⊕ (Nat × List (Nat × Nat))) (a : Nat) : Int32 ⊕ (Nat × List (Nat × Nat) × List (Nat × Nat)) :=
  if a < n ∧ bt a = 33 then (match gp with
    | none => .inl (fk_flt 5 a)
    | some g => match g (a + 1) with
      | .inl e => .inl e
      | .inr x => .inr (x.1, x.2.1 ++ [(10, 0)], x.2.2 ++ [(10, 0)]))
  else if a < n ∧ bt a = 40 then (match ga with
    | none => .inl (fk_flt 5 a)
    | some g => match g (a + 1) with
      | .inl e => .inl e
      | .inr x => if x.1 < n ∧ bt x.1 = 41 then .inr (x.1 + 1, x.2) else .inl (fk_flt 1 x.1))
  else match sm a with
    | .inl e => .inl e
    | .inr x => if x.1 < n ∧ lz_cmp (bt x.1) = true then (match sm (x.1 + 1) with
      | .inl e => .inl e
      | .inr z => .inr (z.1, x.2 ++ (z.2 ++ [(lz_sg (bt x.1), 0)]), x.2 ++ (z.2 ++ [(lz_sg (bt x.1), 0)]))) else .inl (fk_flt 1 x.1)
/-- a chain: sign c, kind o -/
def lz_ch2 (c o : Nat) (f : Nat → Int32 ⊕ (Nat × List (Nat × Nat) × List (Nat × Nat))) (a : Nat) : Int32 ⊕ (Nat × List (Nat × Nat) × List (Nat × Nat)) := match f a with
  | .inl e => .inl e
  | .inr x => match lz_c bt n (fun b => b == c) f n x.1 with
    | .inl e => .inl e
    | .inr z => .inr (z.1, x.2.1 ++ lz_tc o ((z.2.map Prod.snd).map Prod.fst), x.2.2 ++ lz_tr o ((z.2.map Prod.snd).map Prod.snd))
def lz_P : Nat → Nat → Int32 ⊕ (Nat × List (Nat × Nat) × List (Nat × Nat))
  | 0 => lz_pc bt n none none (lz_S bt n 0)
  | q + 1 => lz_pc bt n (some (lz_P q)) (some (lz_ch2 bt n 124 12 (lz_ch2 bt n 38 11 (lz_P q)))) (lz_S bt n (q + 1))
def lz_B (q : Nat) : Nat → Int32 ⊕ (Nat × List (Nat × Nat) × List (Nat × Nat)) := lz_ch2 bt n 38 11 (lz_P bt n q)
def lz_A (q : Nat) : Nat → Int32 ⊕ (Nat × List (Nat × Nat) × List (Nat × Nat)) := lz_ch2 bt n 124 12 (lz_B bt n q)
/-- a clause: its letter, its worth, its condition -/
def lz_wo (a : Nat) : Int32 ⊕ (Nat × List (Nat × Nat)) := if bt a = 101 then .inr (a + 1, []) else lz_S bt n 6 (a + 1)
def lz_cl (a m : Nat) : Int32 ⊕ (Nat × Nat × List (Nat × Nat) × List (Nat × Nat) × List (Nat × Nat)) :=
  if ¬ (a < n ∧ lz_cls (bt a) = true) then .inl (fk_flt 1 a) else if 16 ≤ m then .inl (fk_flt 4 a) else match lz_wo bt n a with
  | .inl e => .inl e
  | .inr x => if x.1 < n ∧ bt x.1 = 40 then (match lz_A bt n 5 (x.1 + 1) with
    | .inl e => .inl e
    | .inr z => if z.1 < n ∧ bt z.1 = 41 then .inr (z.1 + 1, bt a, x.2, z.2.1, z.2.2) else .inl (fk_flt 1 z.1)) else .inl (fk_flt 1 x.1)
def lz_L : Nat → Nat → Nat → Int32 ⊕ List (Nat × List (Nat × Nat) × List (Nat × Nat) × List (Nat × Nat))
  | 0, _, _ => .inl 0
  | k + 1, a, m => match lz_cl bt n a m with
    | .inl e => .inl e
    | .inr x => if x.1 = n then .inr [x.2] else if bt x.1 = 59 then (match lz_L k (x.1 + 1) (m + 1) with
      | .inl e => .inl e
      | .inr r => .inr (x.2 :: r)) else .inl (fk_flt 1 x.1)
end LW2
section LW2b
variable {bt : Nat → Nat} {n a q nd n1 n2 : Nat} {X : Type}
def lz_ft (n : Nat) (e : Int32) : Prop := ∃ k p, 1 ≤ k ∧ k ≤ 5 ∧ p ≤ n ∧ e = fk_flt k p
theorem fk_flt_5 : ∀ k, k < 6 → ∀ p, p < 300 → 1 ≤ k → ¬ fk_flt k p = nI 0 := by decide +kernel
theorem lz_ft_ne {e : Int32} (hn : n ≤ 240) (h : lz_ft n e) : ¬ e = nI 0 := by
  obtain ⟨k, p, h1, h2, h3, rfl⟩ := h
  exact fk_flt_5 k (by omega) p (by omega) h1
theorem lz_ft_i {k p : Nat} (h1 : 1 ≤ k) (h2 : k ≤ 5) (h3 : p ≤ n) : lz_ft n (fk_flt k p) := ⟨k, p, h1, h2, h3, rfl⟩
/-- what holds of what was read -/
def lz_g (n : Nat) (Q : X → Nat → Prop) (a : Nat) (r : Int32 ⊕ (Nat × X)) : Prop := match r with
  | .inl e => lz_ft n e
  | .inr x => a < x.1 ∧ x.1 ≤ n ∧ Q x.2 (x.1 - a)
def lz_ln (ℓ : X → Nat) : List (Nat × X) → Nat
  | [] => 0
  | c :: r => ℓ c.2 + 1 + lz_ln ℓ r
theorem lz_c_ok {S : Nat → Bool} {f : Nat → Int32 ⊕ (Nat × X)} {Q : X → Nat → Prop} {ℓ : X → Nat} (hQ : ∀ x k, Q x k → ℓ x ≤ k) (hf : ∀ a, a ≤ n → lz_g n Q a (f a)) : ∀ k a, a ≤ n → match lz_c bt n S f k a with
    | .inl e => lz_ft n e
    | .inr z => a ≤ z.1 ∧ z.1 ≤ n ∧ lz_ln ℓ z.2 ≤ z.1 - a ∧ (n < k + a → ¬ (z.1 < n ∧ S (bt z.1) = true)) ∧ ∀ c ∈ z.2, S c.1 = true ∧ ∃ k, Q c.2 k := by
  intro k
  induction k with
  | zero => intro a ha; exact ⟨Nat.le_refl _, ha, Nat.zero_le _, fun h => absurd h (by omega), fun c hc => absurd hc List.not_mem_nil⟩
  | succ k ih =>
    intro a ha
    unfold lz_c
    by_cases c : a < n ∧ S (bt a) = true
    · rw [if_pos c]
      have h := hf (a + 1) (by omega)
      cases e : f (a + 1) with
      | inl x => rw [e] at h; exact h
      | inr x =>
        rw [e] at h
        obtain ⟨h1, h2, h3⟩ := h
        have h4 := ih x.1 h2
        dsimp only
        cases e2 : lz_c bt n S f k x.1 with
        | inl y => rw [e2] at h4; exact h4
        | inr z =>
          rw [e2] at h4
          obtain ⟨g1, g2, g3, g4, g5⟩ := h4
          have := hQ _ _ h3
          refine ⟨by dsimp only; omega, g2, ?_, fun h => g4 (by omega), ?_⟩
          · show ℓ x.2 + 1 + lz_ln ℓ z.2 ≤ z.1 - a
            omega
          · intro c' hc
            rcases List.mem_cons.mp hc with rfl | hc
            · exact ⟨c.2, _, h3⟩
            · exact g5 c' hc
    · rw [if_neg c]
      exact ⟨Nat.le_refl _, ha, Nat.zero_le _, fun _ => c, fun c hc => absurd hc List.not_mem_nil⟩
/-- orders that can be written -/
def lz_wf (K : List (Nat × Nat)) : Prop := ∀ c ∈ K, c.1 ≤ 12 ∧ c.2 < 100000
theorem lz_wf_app {K1 K2 : List (Nat × Nat)} (h1 : lz_wf K1) (h2 : lz_wf K2) : lz_wf (K1 ++ K2) := fun c hc => (List.mem_append.mp hc).elim (h1 c) (h2 c)
def lz_Q (nd : Nat) (K : List (Nat × Nat)) (k : Nat) : Prop := K.length ≤ k ∧ lz_wf K ∧ ∃ m, lz_mn K m nd
def lz_Q2 (nd : Nat) (K : List (Nat × Nat) × List (Nat × Nat)) (k : Nat) : Prop := K.1.length ≤ k ∧ K.2.length = K.1.length ∧ lz_wf K.1 ∧ lz_wf K.2 ∧ lz_sm K.1 K.2 nd
theorem lz_f_ok {g : Option (Nat → Int32 ⊕ (Nat × List (Nat × Nat)))} (h1 : 1 ≤ nd) (hg : ∀ f, g = some f → ∀ a, a ≤ n → lz_g n (lz_Q nd) a (f a)) (ha : a ≤ n) : lz_g n (lz_Q nd) a (lz_f bt n g a) := by
  unfold lz_f
  by_cases c : ab_dd bt n a
  · rw [if_pos c]
    have d1 := ab_dg_le (bt := bt) (n := n) 5 a 0 ha
    have v1 := ab_dg_v (bt := bt) (n := n) 5 a 0 1 (by omega)
    have d2 : a + 1 ≤ (ab_dg bt n 5 a 0).1 := by
      unfold ab_dg
      rw [if_pos c]
      exact (ab_dg_le (bt := bt) (n := n) 4 (a + 1) _ c.1).1
    by_cases c2 : ab_dd bt n (ab_dg bt n 5 a 0).1
    · rw [if_pos c2]
      exact lz_ft_i (by omega) (by omega) d1.2.1
    · rw [if_neg c2]
      refine ⟨d2, d1.2.1, by show 1 ≤ (ab_dg bt n 5 a 0).1 - a; omega, ?_, _, lz_mn_le lz_mn_num h1⟩
      intro c' hc
      rw [List.mem_singleton.mp hc]
      exact ⟨by dsimp only; omega, by dsimp only; omega⟩
  · rw [if_neg c]
    by_cases c2 : a < n ∧ lz_li (bt a) < 14
    · rw [if_pos c2]
      refine ⟨Nat.lt_succ_self a, c2.1, by show 1 ≤ a + 1 - a; omega, ?_, _, lz_mn_le (lz_mn_let c2.2) h1⟩
      intro c' hc
      rw [List.mem_singleton.mp hc]
      exact ⟨by dsimp only; omega, by dsimp only; omega⟩
    · rw [if_neg c2]
      by_cases c3 : a < n ∧ bt a = 91
      · rw [if_pos c3]
        cases g with
        | none => exact lz_ft_i (by omega) (by omega) ha
        | some g =>
          have h := hg g rfl (a + 1) c3.1
          dsimp only
          cases e : g (a + 1) with
          | inl x => rw [e] at h; exact h
          | inr x =>
            rw [e] at h
            obtain ⟨g1, g2, g3, g4⟩ := h
            dsimp only
            by_cases c4 : x.1 < n ∧ bt x.1 = 93
            · rw [if_pos c4]
              exact ⟨by dsimp only; omega, c4.1, by dsimp only; omega, g4⟩
            · rw [if_neg c4]
              exact lz_ft_i (by omega) (by omega) g2
      · rw [if_neg c3]
        exact lz_ft_i (by omega) (by omega) ha
theorem lz_ar_len : ∀ X : List (Nat × List (Nat × Nat)), (lz_ar (lz_sgs X)).length = lz_ln List.length X := by
  intro X
  induction X with
  | nil => rfl
  | cons c X ih =>
    show (c.2 ++ (lz_sg c.1, 0) :: lz_ar (lz_sgs X)).length = c.2.length + 1 + lz_ln List.length X
    rw [List.length_append, List.length_cons, ih]
    omega
theorem lz_sg_le (c : Nat) : lz_sg c ≤ 9 := by
  unfold lz_sg
  repeat' split
  all_goals omega
theorem lz_ar_wf : ∀ X : List (Nat × List (Nat × Nat)), (∀ c ∈ X, lz_wf c.2) → lz_wf (lz_ar (lz_sgs X)) := by
  intro X
  induction X with
  | nil => intro _ c hc; exact absurd hc List.not_mem_nil
  | cons c X ih =>
    intro h
    refine lz_wf_app (h c (List.mem_cons_self ..)) ?_
    intro c' hc
    rcases List.mem_cons.mp hc with rfl | hc
    · exact ⟨Nat.le_trans (lz_sg_le c.1) (by decide), by dsimp only; omega⟩
    · exact ih (fun c' hc => h c' (List.mem_cons_of_mem _ hc)) c' hc
theorem lz_j_ok {S : Nat → Bool} {f : Nat → Int32 ⊕ (Nat × List (Nat × Nat))} (hS : ∀ c, S c = true → 2 ≤ lz_sg c) (hn : n2 + 1 ≤ n1) (hf : ∀ a, a ≤ n → lz_g n (lz_Q n2) a (f a)) (ha : a ≤ n) : lz_g n (lz_Q n1) a (lz_j bt n S f a) ∧ ∀ x, lz_j bt n S f a = .inr x → ¬ (x.1 < n ∧ S (bt x.1) = true) := by
  unfold lz_j
  have h := hf a ha
  cases e : f a with
  | inl x => rw [e] at h; exact ⟨h, fun x hx => by cases hx⟩
  | inr x =>
    rw [e] at h
    obtain ⟨h1, h2, h3, h4, m, h5⟩ := h
    have hc := lz_c_ok (bt := bt) (S := S) (ℓ := List.length) (fun x k hq => hq.1) hf n x.1 h2
    dsimp only
    cases e2 : lz_c bt n S f n x.1 with
    | inl y => rw [e2] at hc; exact ⟨hc, fun x hx => by cases hx⟩
    | inr z =>
      rw [e2] at hc
      obtain ⟨g1, g2, g3, g4, g5⟩ := hc
      refine ⟨⟨by dsimp only; omega, g2, ?_, lz_wf_app h4 (lz_ar_wf _ fun c hc => ((g5 c hc).2.elim fun k hk => hk.2.1)), ?_⟩, fun x hx => by cases hx; exact g4 (by omega)⟩
      · rw [List.length_append, lz_ar_len]
        omega
      · refine lz_mn_ar (n1 := n1) (n2 := n2) _ _ m ?_ (lz_mn_le h5 (by omega)) hn
        intro c hc
        obtain ⟨c', hc', rfl⟩ := List.mem_map.mp hc
        obtain ⟨k1, k, k2, k3, k4⟩ := g5 c' hc'
        exact ⟨hS _ k1, lz_sg_le _, k4⟩
theorem lz_mul_sg (c : Nat) (h : lz_mul c = true) : 2 ≤ lz_sg c := by
  unfold lz_mul at h
  rw [Bool.or_eq_true, Bool.or_eq_true, beq_iff_eq, beq_iff_eq, beq_iff_eq] at h
  rcases h with (rfl | rfl) | rfl <;> decide
theorem lz_add_sg (c : Nat) (h : lz_add c = true) : 2 ≤ lz_sg c := by
  unfold lz_add at h
  rw [Bool.or_eq_true, beq_iff_eq, beq_iff_eq] at h
  rcases h with rfl | rfl <;> decide
theorem lz_cmp_sg (c : Nat) (h : lz_cmp c = true) : 7 ≤ lz_sg c := by
  unfold lz_cmp at h
  rw [Bool.or_eq_true, Bool.or_eq_true, beq_iff_eq, beq_iff_eq, beq_iff_eq] at h
  rcases h with (rfl | rfl) | rfl <;> decide
theorem lz_s_ok {g : Option (Nat → Int32 ⊕ (Nat × List (Nat × Nat)))} (h1 : 1 ≤ nd) (hg : ∀ f, g = some f → ∀ a, a ≤ n → lz_g n (lz_Q nd) a (f a)) (ha : a ≤ n) : lz_g n (lz_Q (nd + 2)) a (lz_s bt n g a) :=
  (lz_j_ok lz_add_sg (Nat.le_refl _) (fun _ ha => (lz_j_ok lz_mul_sg (Nat.le_refl _) (fun _ ha => lz_f_ok h1 hg ha) ha).1) ha).1
theorem lz_S_ok : ∀ q a, a ≤ n → lz_g n (lz_Q (2 * q + 3)) a (lz_S bt n q a) := by
  intro q
  induction q with
  | zero => exact fun a ha => lz_s_ok (by omega) (fun f hf => by cases hf) ha
  | succ q ih =>
    intro a ha
    exact lz_s_ok (nd := 2 * q + 3) (by omega) (fun f hf => by cases hf; exact ih) ha
theorem lz_t_len (o : Nat) : ∀ X : List (Nat × List (Nat × Nat) × List (Nat × Nat)), (∀ c ∈ X, c.2.2.length = c.2.1.length) → (lz_tc o ((X.map Prod.snd).map Prod.fst)).length = lz_ln (fun x => x.1.length) X ∧ (lz_tr o ((X.map Prod.snd).map Prod.snd)).length = lz_ln (fun x => x.1.length) X := by
  intro X
  induction X with
  | nil => intro _; exact ⟨rfl, rfl⟩
  | cons c X ih =>
    intro h
    obtain ⟨e1, e2⟩ := ih fun c' hc => h c' (List.mem_cons_of_mem _ hc)
    have e3 := h c (List.mem_cons_self ..)
    constructor
    · show ((o, _) :: (c.2.1 ++ lz_tc o ((X.map Prod.snd).map Prod.fst))).length = c.2.1.length + 1 + lz_ln (fun x => x.1.length) X
      rw [List.length_cons, List.length_append, e1]
      omega
    · show ((o, _) :: (c.2.2 ++ lz_tr o ((X.map Prod.snd).map Prod.snd))).length = c.2.1.length + 1 + lz_ln (fun x => x.1.length) X
      rw [List.length_cons, List.length_append, e2, e3]
      omega
theorem lz_tc_wf {o : Nat} (ho : o ≤ 12) : ∀ X : List (List (Nat × Nat)), (∀ c ∈ X, lz_wf c) → (lz_tc o X).length < 99999 → lz_wf (lz_tc o X) := by
  intro X
  induction X with
  | nil => intro _ _ c hc; exact absurd hc List.not_mem_nil
  | cons K X ih =>
    intro h hl c' hc
    have hl : (K ++ lz_tc o X).length + 1 < 99999 := hl
    rcases List.mem_cons.mp hc with rfl | hc
    · exact ⟨ho, by show (K ++ lz_tc o X).length + 1 < _; omega⟩
    · refine lz_wf_app (h K (List.mem_cons_self ..)) (ih (fun c' hc => h c' (List.mem_cons_of_mem _ hc)) ?_) c' hc
      rw [List.length_append] at hl
      omega
theorem lz_tr_wf {o : Nat} (ho : o ≤ 12) : ∀ X : List (List (Nat × Nat)), (∀ c ∈ X, lz_wf c) → (lz_tr o X).length < 99999 → lz_wf (lz_tr o X) := by
  intro X
  induction X with
  | nil => intro _ _ c hc; exact absurd hc List.not_mem_nil
  | cons K X ih =>
    intro h hl c' hc
    have hl : (K ++ lz_tr o X).length + 1 < 99999 := hl
    rw [List.length_append] at hl
    rcases List.mem_cons.mp hc with rfl | hc
    · exact ⟨ho, by show K.length + 1 < _; omega⟩
    · exact lz_wf_app (h K (List.mem_cons_self ..)) (ih (fun c' hc => h c' (List.mem_cons_of_mem _ hc)) (by omega)) c' hc
theorem lz_ch2_ok {c o : Nat} (ho : o = 11 ∨ o = 12) (hn : n ≤ 240) {f : Nat → Int32 ⊕ (Nat × List (Nat × Nat) × List (Nat × Nat))} (hf : ∀ a, a ≤ n → lz_g n (lz_Q2 nd) a (f a)) (ha : a ≤ n) : lz_g n (lz_Q2 nd) a (lz_ch2 bt n c o f a) ∧ ∀ x, lz_ch2 bt n c o f a = .inr x → ¬ (x.1 < n ∧ bt x.1 = c) := by
  unfold lz_ch2
  have h := hf a ha
  cases e : f a with
  | inl x => rw [e] at h; exact ⟨h, fun x hx => by cases hx⟩
  | inr x =>
    rw [e] at h
    obtain ⟨h1, h2, h3, h4, h5, h6, h7⟩ := h
    have hc := lz_c_ok (bt := bt) (S := fun b => b == c) (ℓ := fun x => x.1.length) (fun x k hq => hq.1) hf n x.1 h2
    dsimp only
    cases e2 : lz_c bt n (fun b => b == c) f n x.1 with
    | inl y => rw [e2] at hc; exact ⟨hc, fun x hx => by cases hx⟩
    | inr z =>
      rw [e2] at hc
      obtain ⟨g1, g2, g3, g4, g5⟩ := hc
      obtain ⟨l1, l2⟩ := lz_t_len o z.2 fun c hc => (g5 c hc).2.elim fun k hk => hk.2.1
      have o12 : o ≤ 12 := by omega
      refine ⟨⟨by dsimp only; omega, g2, ?_, ?_, ?_, ?_, ?_⟩, fun x hx => by cases hx; intro z; exact g4 (by omega) ⟨z.1, beq_iff_eq.mpr z.2⟩⟩
      · rw [List.length_append, l1]
        omega
      · rw [List.length_append, List.length_append, l1, l2, h4]
      · refine lz_wf_app h5 (lz_tc_wf o12 _ ?_ (by omega))
        intro K hK
        obtain ⟨K', hK', rfl⟩ := List.mem_map.mp hK
        obtain ⟨c', hc', rfl⟩ := List.mem_map.mp hK'
        exact (g5 c' hc').2.elim fun k hk => hk.2.2.1
      · refine lz_wf_app h6 (lz_tr_wf o12 _ ?_ (by omega))
        intro K hK
        obtain ⟨K', hK', rfl⟩ := List.mem_map.mp hK
        obtain ⟨c', hc', rfl⟩ := List.mem_map.mp hK'
        exact (g5 c' hc').2.elim fun k hk => hk.2.2.2.1
      · refine lz_sm_ch ho h7 ?_
        intro K hK
        obtain ⟨c', hc', rfl⟩ := List.mem_map.mp hK
        exact (g5 c' hc').2.elim fun k hk => hk.2.2.2.2
theorem lz_sm_le {K1 K2 : List (Nat × Nat)} (h : lz_sm K1 K2 n1) (hn : n1 ≤ n2) : lz_sm K1 K2 n2 := by
  obtain ⟨m, h1, h2, h3⟩ := h
  exact ⟨m, h1, lz_mn_le h2 hn, lz_mn_le h3 hn⟩
theorem lz_wf_1 {o x : Nat} (h1 : o ≤ 12) (h2 : x < 100000) : lz_wf [(o, x)] := fun c hc => by
  rw [List.mem_singleton.mp hc]
  exact ⟨h1, h2⟩
theorem lz_pc_ok {gp ga : Option (Nat → Int32 ⊕ (Nat × List (Nat × Nat) × List (Nat × Nat)))} {sm : Nat → Int32 ⊕ (Nat × List (Nat × Nat))} (hp : ∀ f, gp = some f → ∀ a, a ≤ n → lz_g n (lz_Q2 nd) a (f a)) (hg : ∀ f, ga = some f → ∀ a, a ≤ n → lz_g n (lz_Q2 nd) a (f a)) (hs : ∀ a, a ≤ n → lz_g n (lz_Q n1) a (sm a)) (hn : n1 + 1 ≤ nd) (ha : a ≤ n) : lz_g n (lz_Q2 nd) a (lz_pc bt n gp ga sm a) := by
  unfold lz_pc
  by_cases c : a < n ∧ bt a = 33
  · rw [if_pos c]
    cases gp with
    | none => exact lz_ft_i (by omega) (by omega) ha
    | some g =>
      have h := hp g rfl (a + 1) c.1
      dsimp only
      cases e : g (a + 1) with
      | inl x => rw [e] at h; exact h
      | inr x =>
        rw [e] at h
        obtain ⟨h1, h2, h3, h4, h5, h6, h7⟩ := h
        refine ⟨by dsimp only; omega, h2, ?_, ?_, lz_wf_app h5 (lz_wf_1 (by omega) (by omega)), lz_wf_app h6 (lz_wf_1 (by omega) (by omega)), lz_sm_not h7⟩
        · rw [List.length_append]
          show x.2.1.length + 1 ≤ x.1 - a
          omega
        · rw [List.length_append, List.length_append, h4]
  · rw [if_neg c]
    by_cases c2 : a < n ∧ bt a = 40
    · rw [if_pos c2]
      cases ga with
      | none => exact lz_ft_i (by omega) (by omega) ha
      | some g =>
        have h := hg g rfl (a + 1) c2.1
        dsimp only
        cases e : g (a + 1) with
        | inl x => rw [e] at h; exact h
        | inr x =>
          rw [e] at h
          obtain ⟨h1, h2, h3, h4⟩ := h
          dsimp only
          by_cases c4 : x.1 < n ∧ bt x.1 = 41
          · rw [if_pos c4]
            exact ⟨by dsimp only; omega, c4.1, by dsimp only; omega, h4⟩
          · rw [if_neg c4]
            exact lz_ft_i (by omega) (by omega) h2
    · rw [if_neg c2]
      have h := hs a ha
      cases e : sm a with
      | inl x => rw [e] at h; exact h
      | inr x =>
        rw [e] at h
        obtain ⟨h1, h2, h3, h4, m1, h5⟩ := h
        dsimp only
        by_cases c3 : x.1 < n ∧ lz_cmp (bt x.1) = true
        · rw [if_pos c3]
          have h' := hs (x.1 + 1) c3.1
          cases e2 : sm (x.1 + 1) with
          | inl z => rw [e2] at h'; exact h'
          | inr z =>
            rw [e2] at h'
            obtain ⟨k1, k2, k3, k4, m2, k5⟩ := h'
            have w : lz_wf (x.2 ++ (z.2 ++ [(lz_sg (bt x.1), 0)])) := lz_wf_app h4 (lz_wf_app k4 (lz_wf_1 (Nat.le_trans (lz_sg_le _) (by omega)) (by omega)))
            refine ⟨by dsimp only; omega, k2, ?_, rfl, w, w, lz_sm_cmp (lz_cmp_sg _ c3.2) (lz_sg_le _) (lz_mn_le h5 (by omega)) k5 hn⟩
            show (x.2 ++ (z.2 ++ [(lz_sg (bt x.1), 0)])).length ≤ z.1 - a
            rw [List.length_append, List.length_append]
            show x.2.length + (z.2.length + 1) ≤ z.1 - a
            omega
        · rw [if_neg c3]
          exact lz_ft_i (by omega) (by omega) h2
theorem lz_PA_ok (hn : n ≤ 240) : ∀ q a, a ≤ n → lz_g n (lz_Q2 (2 * q + 4)) a (lz_P bt n q a) := by
  intro q
  induction q with
  | zero => exact fun a ha => lz_pc_ok (n1 := 3) (fun f hf => by cases hf) (fun f hf => by cases hf) (fun a ha => lz_S_ok 0 a ha) (by omega) ha
  | succ q ih =>
    intro a ha
    have up : ∀ {r : Int32 ⊕ (Nat × List (Nat × Nat) × List (Nat × Nat))} {b : Nat}, lz_g n (lz_Q2 (2 * q + 4)) b r → lz_g n (lz_Q2 (2 * (q + 1) + 4)) b r := by
      intro r b h
      cases r with
      | inl e => exact h
      | inr x =>
        obtain ⟨h1, h2, h3, h4, h5, h6, h7⟩ := h
        exact ⟨h1, h2, h3, h4, h5, h6, lz_sm_le h7 (by omega)⟩
    refine lz_pc_ok (n1 := 2 * (q + 1) + 3) (fun f hf => by cases hf; exact fun a ha => up (ih a ha)) (fun f hf => ?_) (fun a ha => lz_S_ok (q + 1) a ha) (by omega) ha
    cases hf
    exact fun a ha => up (lz_ch2_ok (Or.inr rfl) hn (fun _ ha => (lz_ch2_ok (Or.inl rfl) hn ih ha).1) ha).1
theorem lz_B_ok (hn : n ≤ 240) (ha : a ≤ n) : lz_g n (lz_Q2 (2 * q + 4)) a (lz_B bt n q a) ∧ ∀ x, lz_B bt n q a = .inr x → ¬ (x.1 < n ∧ bt x.1 = 38) := lz_ch2_ok (Or.inl rfl) hn (lz_PA_ok hn q) ha
theorem lz_A_ok (hn : n ≤ 240) (ha : a ≤ n) : lz_g n (lz_Q2 (2 * q + 4)) a (lz_A bt n q a) ∧ ∀ x, lz_A bt n q a = .inr x → ¬ (x.1 < n ∧ bt x.1 = 124) := lz_ch2_ok (Or.inr rfl) hn (fun _ ha => (lz_B_ok hn ha).1) ha
end LW2b
