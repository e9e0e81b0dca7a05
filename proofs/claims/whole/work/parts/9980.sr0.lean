/-! THE LAW: a sum read with a stack of signs, pure -/
def lz_cs (all : Bool) : List Nat → List (Nat × Nat) × List Nat
  | [] => ([], [])
  | s :: u => if (4 ≤ s ∧ s ≤ 6) ∨ (all = true ∧ (s = 2 ∨ s = 3)) then ((s, 0) :: (lz_cs all u).1, (lz_cs all u).2) else ([], s :: u)
def lz_sn (c : Nat) : Bool := lz_add c || lz_mul c
section SR0
variable (bt : Nat → Nat) (n : Nat)
/-- true: a factor is wanted; false: a sign -/
def lz_ms : Nat → Bool → Nat → List (Nat × Nat) → List Nat → Nat → Option (Int32 ⊕ (Nat × List (Nat × Nat) × Nat))
  | 0, _, _, _, _, _ => none
  | k + 1, m, a, R, u, o => if m = true then
      (if a < n ∧ bt a = 91 then (if o = 6 then some (.inl (fk_flt 5 a)) else lz_ms k true (a + 1) R (14 :: u) (o + 1))
       else if ab_dd bt n a then (if ab_dd bt n (ab_dg bt n 5 a 0).1 then some (.inl (fk_flt 2 (ab_dg bt n 5 a 0).1)) else lz_ms k false (ab_dg bt n 5 a 0).1 (R ++ [(0, (ab_dg bt n 5 a 0).2)]) u o)
       else if a < n ∧ lz_li (bt a) < 14 then lz_ms k false (a + 1) (R ++ [(1, lz_li (bt a))]) u o else some (.inl (fk_flt 1 a)))
    else
      (if a < n ∧ lz_sn (bt a) = true then lz_ms k true (a + 1) (R ++ (lz_cs (decide (lz_sg (bt a) < 4)) u).1) (lz_sg (bt a) :: (lz_cs (decide (lz_sg (bt a) < 4)) u).2) o
       else if a < n ∧ bt a = 93 ∧ 14 ∈ u then lz_ms k false (a + 1) (R ++ (lz_cs true u).1) (lz_cs true u).2.tail (o - 1)
       else if 14 ∈ u then some (.inl (fk_flt 1 a)) else some (.inr (a, R ++ (lz_cs true u).1, o)))
def lz_go (m : Bool) (a : Nat) (R : List (Nat × Nat)) (u : List Nat) (o : Nat) (r : Int32 ⊕ (Nat × List (Nat × Nat) × Nat)) : Prop := ∃ k, lz_ms bt n k m a R u o = some r
end SR0
/-- a fault ends it, else it goes on -/
def lz_kn {X Y : Type} (r : Int32 ⊕ Y) (P : X → Prop) (v : Int32 ⊕ X) : Prop := match v with
  | .inl e => r = .inl e
  | .inr x => P x
section SR0b
variable {bt : Nat → Nat} {n a o k q s : Nat} {R : List (Nat × Nat)} {u : List Nat} {r : Int32 ⊕ (Nat × List (Nat × Nat) × Nat)}
theorem lz_ms_F : lz_ms bt n (k + 1) true a R u o = (if a < n ∧ bt a = 91 then (if o = 6 then some (.inl (fk_flt 5 a)) else lz_ms bt n k true (a + 1) R (14 :: u) (o + 1))
       else if ab_dd bt n a then (if ab_dd bt n (ab_dg bt n 5 a 0).1 then some (.inl (fk_flt 2 (ab_dg bt n 5 a 0).1)) else lz_ms bt n k false (ab_dg bt n 5 a 0).1 (R ++ [(0, (ab_dg bt n 5 a 0).2)]) u o)
       else if a < n ∧ lz_li (bt a) < 14 then lz_ms bt n k false (a + 1) (R ++ [(1, lz_li (bt a))]) u o else some (.inl (fk_flt 1 a))) := by
  rw [lz_ms, if_pos rfl]
theorem lz_ms_S : lz_ms bt n (k + 1) false a R u o = (if a < n ∧ lz_sn (bt a) = true then lz_ms bt n k true (a + 1) (R ++ (lz_cs (decide (lz_sg (bt a) < 4)) u).1) (lz_sg (bt a) :: (lz_cs (decide (lz_sg (bt a) < 4)) u).2) o
       else if a < n ∧ bt a = 93 ∧ 14 ∈ u then lz_ms bt n k false (a + 1) (R ++ (lz_cs true u).1) (lz_cs true u).2.tail (o - 1)
       else if 14 ∈ u then some (.inl (fk_flt 1 a)) else some (.inr (a, R ++ (lz_cs true u).1, o))) := by
  rw [lz_ms, if_neg (by decide)]
theorem lz_go_mul (hs : 4 ≤ s ∧ s ≤ 6) (h : lz_go bt n false a (R ++ [(s, 0)]) u o r) : lz_go bt n false a R (s :: u) o r := by
  obtain ⟨k, hk⟩ := h
  cases k with
  | zero => cases hk
  | succ k =>
    refine ⟨k + 1, ?_⟩
    have e : ∀ all, lz_cs all (s :: u) = ((s, 0) :: (lz_cs all u).1, (lz_cs all u).2) := fun all => if_pos (Or.inl hs)
    have m : (14 ∈ s :: u) ↔ (14 ∈ u) := ⟨fun h => (List.mem_cons.mp h).resolve_left (by omega), List.mem_cons_of_mem _⟩
    rw [lz_ms_S] at hk ⊢
    simp only [e, m, List.append_assoc, List.cons_append, List.nil_append] at hk ⊢
    exact hk
theorem lz_mul_v (c : Nat) (h : lz_mul c = true) : 4 ≤ lz_sg c ∧ lz_sg c ≤ 6 ∧ lz_sn c = true := by
  have h' := h
  unfold lz_mul at h
  rw [Bool.or_eq_true, Bool.or_eq_true, beq_iff_eq, beq_iff_eq, beq_iff_eq] at h
  rcases h with (rfl | rfl) | rfl <;> decide
theorem lz_add_v (c : Nat) (h : lz_add c = true) : 2 ≤ lz_sg c ∧ lz_sg c ≤ 3 ∧ lz_sn c = true := by
  unfold lz_add at h
  rw [Bool.or_eq_true, beq_iff_eq, beq_iff_eq] at h
  rcases h with rfl | rfl <;> decide
theorem lz_sn_n (c : Nat) (h1 : ¬ lz_add c = true) (h2 : ¬ lz_mul c = true) : ¬ lz_sn c = true := by
  unfold lz_sn
  rw [Bool.or_eq_true]
  exact fun z => z.elim h1 h2
theorem lz_sn_e (c : Nat) (h1 : lz_sn c = true) (h2 : ¬ lz_mul c = true) : lz_add c = true := by
  unfold lz_sn at h1
  rw [Bool.or_eq_true] at h1
  exact h1.resolve_right h2
theorem lz_go_add (hs : 2 ≤ s ∧ s ≤ 3) (ha : ¬ (a < n ∧ lz_mul (bt a) = true)) (h : lz_go bt n false a (R ++ [(s, 0)]) u o r) : lz_go bt n false a R (s :: u) o r := by
  obtain ⟨k, hk⟩ := h
  cases k with
  | zero => cases hk
  | succ k =>
    refine ⟨k + 1, ?_⟩
    have e : lz_cs true (s :: u) = ((s, 0) :: (lz_cs true u).1, (lz_cs true u).2) := if_pos (Or.inr ⟨rfl, by omega⟩)
    have m : (14 ∈ s :: u) ↔ (14 ∈ u) := ⟨fun h => (List.mem_cons.mp h).resolve_left (by omega), List.mem_cons_of_mem _⟩
    rw [lz_ms_S] at hk ⊢
    by_cases c : a < n ∧ lz_sn (bt a) = true
    · have c2 : lz_add (bt a) = true := lz_sn_e _ c.2 fun z => ha ⟨c.1, z⟩
      have c3 := lz_add_v _ c2
      have c4 : decide (lz_sg (bt a) < 4) = true := decide_eq_true (by omega)
      rw [if_pos c] at hk ⊢
      rw [c4] at hk ⊢
      rw [e]
      simp only [List.append_assoc, List.cons_append, List.nil_append] at hk ⊢
      exact hk
    · rw [if_neg c] at hk ⊢
      simp only [e, m, List.append_assoc, List.cons_append, List.nil_append] at hk ⊢
      exact hk
/-- no sign of a product, of a sum on top -/
def lz_h1 (u : List Nat) : Prop := ∀ s v, u = s :: v → ¬ (4 ≤ s ∧ s ≤ 6)
def lz_h2 (u : List Nat) : Prop := ∀ s v, u = s :: v → ¬ (2 ≤ s ∧ s ≤ 6)
theorem lz_cs_1 (h : lz_h1 u) : lz_cs false u = ([], u) := by
  cases u with
  | nil => rfl
  | cons s u => exact if_neg (fun z => z.elim (h s u rfl) (fun z => by cases z.1))
theorem lz_cs_2 {all : Bool} (h : lz_h2 u) : lz_cs all u = ([], u) := by
  cases u with
  | nil => rfl
  | cons s u => exact if_neg (fun z => by have := h s u rfl; omega)
theorem lz_h21 (h : lz_h2 u) : lz_h1 u := fun s v e z => h s v e (by omega)
/-- signs and pieces behind a piece -/
theorem lz_go_c {S : Nat → Bool} {f : Nat → Int32 ⊕ (Nat × List (Nat × Nat))} (hc : ∀ a, S (bt a) = true → lz_cs (decide (lz_sg (bt a) < 4)) u = ([], u) ∧ lz_sn (bt a) = true) (hf : ∀ a R b, a ≤ n → S b = true → lz_kn r (fun x : Nat × List (Nat × Nat) => lz_go bt n false x.1 (R ++ (x.2 ++ [(lz_sg b, 0)])) u o r) (f a) → lz_go bt n true a R (lz_sg b :: u) o r) : ∀ k a R, lz_kn r (fun z : Nat × List (Nat × List (Nat × Nat)) => lz_go bt n false z.1 (R ++ lz_ar (lz_sgs z.2)) u o r) (lz_c bt n S f k a) → lz_go bt n false a R u o r := by
  intro k
  induction k with
  | zero =>
    intro a R h
    have h : lz_go bt n false a (R ++ []) u o r := h
    rw [List.append_nil] at h
    exact h
  | succ k ih =>
    intro a R h
    unfold lz_c at h
    by_cases c : a < n ∧ S (bt a) = true
    · rw [if_pos c] at h
      obtain ⟨c1, c2⟩ := hc a c.2
      have step : lz_go bt n true (a + 1) R (lz_sg (bt a) :: u) o r → lz_go bt n false a R u o r := by
        rintro ⟨j, hj⟩
        refine ⟨j + 1, ?_⟩
        rw [lz_ms_S, if_pos ⟨c.1, c2⟩, c1]
        show lz_ms bt n j true (a + 1) (R ++ []) (lz_sg (bt a) :: u) o = _
        rw [List.append_nil]
        exact hj
      refine step (hf (a + 1) R (bt a) c.1 c.2 ?_)
      cases e : f (a + 1) with
      | inl x => rw [e] at h; exact h
      | inr x =>
        rw [e] at h
        dsimp only at h
        refine ih x.1 _ ?_
        cases e2 : lz_c bt n S f k x.1 with
        | inl x => rw [e2] at h; exact h
        | inr z =>
          rw [e2] at h
          have h : lz_go bt n false z.1 (R ++ (x.2 ++ (lz_sg (bt a), 0) :: lz_ar (lz_sgs z.2))) u o r := h
          show lz_go bt n false z.1 ((R ++ (x.2 ++ [(lz_sg (bt a), 0)])) ++ lz_ar (lz_sgs z.2)) u o r
          simp only [List.append_assoc, List.cons_append, List.nil_append]
          exact h
    · rw [if_neg c] at h
      have h : lz_go bt n false a (R ++ []) u o r := h
      rw [List.append_nil] at h
      exact h
theorem lz_kn_mono {X Y : Type} {r : Int32 ⊕ Y} {P Q : X → Prop} {v : Int32 ⊕ X} (h : ∀ x, v = .inr x → P x → Q x) (hv : lz_kn r P v) : lz_kn r Q v := by
  cases v with
  | inl e => exact hv
  | inr x => exact h x rfl hv
theorem lz_go_prod {g : Option (Nat → Int32 ⊕ (Nat × List (Nat × Nat)))} (hf : ∀ u a R, a ≤ n → lz_kn r (fun x : Nat × List (Nat × Nat) => lz_go bt n false x.1 (R ++ x.2) u o r) (lz_f bt n g a) → lz_go bt n true a R u o r) (hu : lz_h1 u) (ha : a ≤ n) (h : lz_kn r (fun x : Nat × List (Nat × Nat) => lz_go bt n false x.1 (R ++ x.2) u o r) (lz_j bt n lz_mul (lz_f bt n g) a)) : lz_go bt n true a R u o r := by
  refine hf u a R ha ?_
  unfold lz_j at h
  cases e : lz_f bt n g a with
  | inl x => rw [e] at h; exact h
  | inr x =>
    rw [e] at h
    dsimp only at h
    show lz_go bt n false x.1 (R ++ x.2) u o r
    refine lz_go_c (S := lz_mul) (f := lz_f bt n g) (fun b hb => ?_) (fun b R c hb hc hk => ?_) n x.1 _ ?_
    · have := lz_mul_v _ hb
      rw [decide_eq_false (by omega)]
      exact ⟨lz_cs_1 hu, this.2.2⟩
    · have := lz_mul_v _ hc
      refine hf _ b R hb (lz_kn_mono (fun x _ hx => lz_go_mul ⟨this.1, this.2.1⟩ ?_) hk)
      rw [List.append_assoc]
      exact hx
    · cases e2 : lz_c bt n lz_mul (lz_f bt n g) n x.1 with
      | inl x => rw [e2] at h; exact h
      | inr z =>
        rw [e2] at h
        have h : lz_go bt n false z.1 (R ++ (x.2 ++ lz_ar (lz_sgs z.2))) u o r := h
        show lz_go bt n false z.1 ((R ++ x.2) ++ lz_ar (lz_sgs z.2)) u o r
        rw [List.append_assoc]
        exact h
theorem lz_go_sum {g : Option (Nat → Int32 ⊕ (Nat × List (Nat × Nat)))} {nd : Nat} (h1 : 1 ≤ nd) (hg : ∀ f, g = some f → ∀ a, a ≤ n → lz_g n (lz_Q nd) a (f a)) (hf : ∀ u a R, a ≤ n → lz_kn r (fun x : Nat × List (Nat × Nat) => lz_go bt n false x.1 (R ++ x.2) u o r) (lz_f bt n g a) → lz_go bt n true a R u o r) (hu : lz_h2 u) (ha : a ≤ n) (h : lz_kn r (fun x : Nat × List (Nat × Nat) => lz_go bt n false x.1 (R ++ x.2) u o r) (lz_s bt n g a)) : lz_go bt n true a R u o r := by
  have hp : ∀ b, b ≤ n → ∀ x, lz_j bt n lz_mul (lz_f bt n g) b = .inr x → ¬ (x.1 < n ∧ lz_mul (bt x.1) = true) := fun b hb => (lz_j_ok (n2 := nd) lz_mul_sg (Nat.le_refl _) (fun _ ha => lz_f_ok h1 hg ha) hb).2
  refine lz_go_prod hf (lz_h21 hu) ha ?_
  unfold lz_s at h
  unfold lz_j at h
  cases e : lz_j bt n lz_mul (lz_f bt n g) a with
  | inl x =>
    have h : lz_kn r _ (match lz_j bt n lz_mul (lz_f bt n g) a with
      | .inl e => .inl e
      | .inr x => match lz_c bt n lz_add (lz_j bt n lz_mul (lz_f bt n g)) n x.1 with
        | .inl e => .inl e
        | .inr z => .inr (z.1, x.2 ++ lz_ar (lz_sgs z.2))) := h
    rw [e] at h
    exact h
  | inr x =>
    have h : lz_kn r _ (match lz_j bt n lz_mul (lz_f bt n g) a with
      | .inl e => .inl e
      | .inr x => match lz_c bt n lz_add (lz_j bt n lz_mul (lz_f bt n g)) n x.1 with
        | .inl e => .inl e
        | .inr z => .inr (z.1, x.2 ++ lz_ar (lz_sgs z.2))) := h
    rw [e] at h
    dsimp only at h
    show lz_go bt n false x.1 (R ++ x.2) u o r
    refine lz_go_c (S := lz_add) (f := lz_j bt n lz_mul (lz_f bt n g)) (fun b hb => ?_) (fun b R c hb hc hk => ?_) n x.1 _ ?_
    · have := lz_add_v _ hb
      exact ⟨lz_cs_2 hu, this.2.2⟩
    · have := lz_add_v _ hc
      have hh : lz_h1 (lz_sg c :: u) := fun s v e z => by cases e; omega
      refine lz_go_prod hf hh hb (lz_kn_mono (fun x ex hx => lz_go_add ⟨this.1, this.2.1⟩ (hp b hb x ex) ?_) hk)
      rw [List.append_assoc]
      exact hx
    · cases e2 : lz_c bt n lz_add (lz_j bt n lz_mul (lz_f bt n g)) n x.1 with
      | inl x => rw [e2] at h; exact h
      | inr z =>
        rw [e2] at h
        have h : lz_go bt n false z.1 (R ++ (x.2 ++ lz_ar (lz_sgs z.2))) u o r := h
        show lz_go bt n false z.1 ((R ++ x.2) ++ lz_ar (lz_sgs z.2)) u o r
        rw [List.append_assoc]
        exact h
/-- where pieces end -/
theorem lz_c_end {X : Type} {S : Nat → Bool} {f : Nat → Int32 ⊕ (Nat × X)} {P : Nat → Prop} (hf : ∀ a, a ≤ n → ∀ x, f a = .inr x → P x.1) : ∀ k a, P a → ∀ z, lz_c bt n S f k a = .inr z → P z.1 := by
  intro k
  induction k with
  | zero => intro a h z e; cases e; exact h
  | succ k ih =>
    intro a h z e
    unfold lz_c at e
    by_cases c : a < n ∧ S (bt a) = true
    · rw [if_pos c] at e
      cases e1 : f (a + 1) with
      | inl x => rw [e1] at e; cases e
      | inr x =>
        rw [e1] at e
        dsimp only at e
        cases e2 : lz_c bt n S f k x.1 with
        | inl y => rw [e2] at e; cases e
        | inr w =>
          rw [e2] at e
          cases e
          exact ih x.1 (hf (a + 1) c.1 x e1) w e2
    · rw [if_neg c] at e
      cases e
      exact h
theorem lz_s_end {g : Option (Nat → Int32 ⊕ (Nat × List (Nat × Nat)))} {nd : Nat} (h1 : 1 ≤ nd) (hg : ∀ f, g = some f → ∀ a, a ≤ n → lz_g n (lz_Q nd) a (f a)) (ha : a ≤ n) (x : Nat × List (Nat × Nat)) (e : lz_s bt n g a = .inr x) : ¬ (x.1 < n ∧ lz_sn (bt x.1) = true) := by
  have hp : ∀ b, b ≤ n → ∀ x, lz_j bt n lz_mul (lz_f bt n g) b = .inr x → ¬ (x.1 < n ∧ lz_mul (bt x.1) = true) := fun b hb => (lz_j_ok (n2 := nd) lz_mul_sg (Nat.le_refl _) (fun _ ha => lz_f_ok h1 hg ha) hb).2
  have ha2 : ¬ (x.1 < n ∧ lz_add (bt x.1) = true) := (lz_j_ok lz_add_sg (Nat.le_refl _) (fun _ ha => (lz_j_ok lz_mul_sg (Nat.le_refl _) (fun _ ha => lz_f_ok h1 hg ha) ha).1) ha).2 x e
  have hm : ¬ (x.1 < n ∧ lz_mul (bt x.1) = true) := by
    have e : (match lz_j bt n lz_mul (lz_f bt n g) a with
      | .inl e => .inl e
      | .inr x => match lz_c bt n lz_add (lz_j bt n lz_mul (lz_f bt n g)) n x.1 with
        | .inl e => .inl e
        | .inr z => .inr (z.1, x.2 ++ lz_ar (lz_sgs z.2))) = Sum.inr x := e
    cases e1 : lz_j bt n lz_mul (lz_f bt n g) a with
    | inl y => rw [e1] at e; cases e
    | inr w =>
      rw [e1] at e
      dsimp only at e
      cases e2 : lz_c bt n lz_add (lz_j bt n lz_mul (lz_f bt n g)) n w.1 with
      | inl y => rw [e2] at e; cases e
      | inr z =>
        rw [e2] at e
        cases e
        exact lz_c_end (P := fun b => ¬ (b < n ∧ lz_mul (bt b) = true)) hp n w.1 (hp a ha w e1) z e2
  exact fun z => lz_sn_n _ (fun c => ha2 ⟨z.1, c⟩) (fun c => hm ⟨z.1, c⟩) z.2
theorem lz_ddl (h : ab_dd bt n a) : ¬ (a < n ∧ bt a = 91) := fun z => by omega
theorem lz_lil (h : lz_li (bt a) < 14) : ¬ bt a = 91 := fun z => by rw [z] at h; exact absurd h (by decide)
theorem lz_S_ok2 : ∀ f, (if q = 0 then none else some (lz_S bt n (q - 1))) = some f → ∀ a, a ≤ n → lz_g n (lz_Q (2 * q + 1)) a (f a) := by
  intro f hf a ha
  by_cases c : q = 0
  · rw [if_pos c] at hf; cases hf
  · rw [if_neg c] at hf
    cases hf
    have := lz_S_ok (bt := bt) (q - 1) a ha
    rw [show 2 * (q - 1) + 3 = 2 * q + 1 by omega] at this
    exact this
theorem lz_S_e : lz_S bt n q = lz_s bt n (if q = 0 then none else some (lz_S bt n (q - 1))) := by
  cases q with
  | zero => rfl
  | succ q => rfl
theorem lz_S_end (ha : a ≤ n) (x : Nat × List (Nat × Nat)) (e : lz_S bt n q a = .inr x) : ¬ (x.1 < n ∧ lz_sn (bt x.1) = true) := by
  rw [lz_S_e] at e
  exact lz_s_end (nd := 2 * q + 1) (by omega) lz_S_ok2 ha x e
/-- a factor -/
theorem lz_go_f : ∀ q o u a R, q + o = 6 → a ≤ n → lz_kn r (fun x : Nat × List (Nat × Nat) => lz_go bt n false x.1 (R ++ x.2) u o r) (lz_f bt n (if q = 0 then none else some (lz_S bt n (q - 1))) a) → lz_go bt n true a R u o r := by
  intro q
  induction q with
  | zero =>
    intro o u a R ho ha h
    rw [if_pos rfl] at h
    unfold lz_f at h
    by_cases c : ab_dd bt n a
    · rw [if_pos c] at h
      by_cases c2 : ab_dd bt n (ab_dg bt n 5 a 0).1
      · rw [if_pos c2] at h
        exact ⟨1, by rw [lz_ms_F, if_neg (lz_ddl c), if_pos c, if_pos c2, h]⟩
      · rw [if_neg c2] at h
        obtain ⟨k, hk⟩ := h
        exact ⟨k + 1, by rw [lz_ms_F, if_neg (lz_ddl c), if_pos c, if_neg c2]; exact hk⟩
    · rw [if_neg c] at h
      by_cases c2 : a < n ∧ lz_li (bt a) < 14
      · rw [if_pos c2] at h
        obtain ⟨k, hk⟩ := h
        exact ⟨k + 1, by rw [lz_ms_F, if_neg (fun z => lz_lil c2.2 z.2), if_neg c, if_pos c2]; exact hk⟩
      · rw [if_neg c2] at h
        by_cases c3 : a < n ∧ bt a = 91
        · rw [if_pos c3] at h
          exact ⟨1, by rw [lz_ms_F, if_pos c3, if_pos (by omega), h]⟩
        · rw [if_neg c3] at h
          exact ⟨1, by rw [lz_ms_F, if_neg c3, if_neg c, if_neg c2, h]⟩
  | succ q ih =>
    intro o u a R ho ha h
    rw [if_neg (by omega)] at h
    unfold lz_f at h
    by_cases c : ab_dd bt n a
    · rw [if_pos c] at h
      by_cases c2 : ab_dd bt n (ab_dg bt n 5 a 0).1
      · rw [if_pos c2] at h
        exact ⟨1, by rw [lz_ms_F, if_neg (lz_ddl c), if_pos c, if_pos c2, h]⟩
      · rw [if_neg c2] at h
        obtain ⟨k, hk⟩ := h
        exact ⟨k + 1, by rw [lz_ms_F, if_neg (lz_ddl c), if_pos c, if_neg c2]; exact hk⟩
    · rw [if_neg c] at h
      by_cases c2 : a < n ∧ lz_li (bt a) < 14
      · rw [if_pos c2] at h
        obtain ⟨k, hk⟩ := h
        exact ⟨k + 1, by rw [lz_ms_F, if_neg (fun z => lz_lil c2.2 z.2), if_neg c, if_pos c2]; exact hk⟩
      · rw [if_neg c2] at h
        by_cases c3 : a < n ∧ bt a = 91
        · rw [if_pos c3] at h
          rw [show q + 1 - 1 = q by omega] at h
          have step : lz_go bt n true (a + 1) R (14 :: u) (o + 1) r → lz_go bt n true a R u o r := by
            rintro ⟨k, hk⟩
            exact ⟨k + 1, by rw [lz_ms_F, if_pos c3, if_neg (by omega)]; exact hk⟩
          refine step ?_
          have hh : lz_h2 (14 :: u) := fun s v e z => by cases e; omega
          refine lz_go_sum (g := if q = 0 then none else some (lz_S bt n (q - 1))) (nd := 2 * q + 1) (by omega) lz_S_ok2 (fun u a R ha h => ih (o + 1) u a R (by omega) ha h) hh c3.1 ?_
          rw [← lz_S_e]
          dsimp only at h
          cases e : lz_S bt n q (a + 1) with
          | inl x => rw [e] at h; exact h
          | inr x =>
            rw [e] at h
            dsimp only at h
            have hend := lz_S_end (a := a + 1) c3.1 x e
            show lz_go bt n false x.1 (R ++ x.2) (14 :: u) (o + 1) r
            by_cases c4 : x.1 < n ∧ bt x.1 = 93
            · rw [if_pos c4] at h
              obtain ⟨k, hk⟩ := h
              refine ⟨k + 1, ?_⟩
              rw [lz_ms_S, if_neg hend, if_pos ⟨c4.1, c4.2, List.mem_cons_self ..⟩, lz_cs_2 hh]
              show lz_ms bt n k false (x.1 + 1) (R ++ x.2 ++ []) u o = _
              rw [List.append_nil]
              exact hk
            · rw [if_neg c4] at h
              refine ⟨1, ?_⟩
              rw [lz_ms_S, if_neg hend, if_neg (fun z => c4 ⟨z.1, z.2.1⟩), if_pos (List.mem_cons_self ..), h]
        · rw [if_neg c3] at h
          exact ⟨1, by rw [lz_ms_F, if_neg c3, if_neg c, if_neg c2, h]⟩
/-- a whole sum, on a stack of its own -/
def lz_fin (R : List (Nat × Nat)) (o : Nat) (v : Int32 ⊕ (Nat × List (Nat × Nat))) : Int32 ⊕ (Nat × List (Nat × Nat) × Nat) := match v with
  | .inl e => .inl e
  | .inr x => .inr (x.1, R ++ x.2, o)
theorem lz_go_S (ho : q + o = 6) (ha : a ≤ n) : lz_go bt n true a R [] o (lz_fin R o (lz_S bt n q a)) := by
  have hh : lz_h2 [] := fun s v e => by cases e
  refine lz_go_sum (g := if q = 0 then none else some (lz_S bt n (q - 1))) (nd := 2 * q + 1) (by omega) lz_S_ok2 (fun u a R ha h => lz_go_f q o u a R ho ha h) hh ha ?_
  rw [← lz_S_e]
  cases e : lz_S bt n q a with
  | inl x => exact rfl
  | inr x =>
    have hend := lz_S_end ha x e
    refine ⟨1, ?_⟩
    rw [lz_ms_S, if_neg hend, if_neg (fun z => absurd z.2.2 List.not_mem_nil), if_neg List.not_mem_nil]
    show some (Sum.inr (x.1, R ++ x.2 ++ [], o)) = _
    rw [List.append_nil]
    rfl
end SR0b
