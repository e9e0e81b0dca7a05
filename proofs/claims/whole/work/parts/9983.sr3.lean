/-! THE LAW: a condition read with a stack, pure -/
def lz_ab : Nat → List (Nat × Nat) → List (Nat × Nat)
  | _, [] => []
  | b, c :: K => (c.1, lz_kr b c.1 c.2) :: lz_ab (b + 1) K
theorem lz_ab_len : ∀ (K : List (Nat × Nat)) b, (lz_ab b K).length = K.length := by
  intro K
  induction K with
  | nil => intro b; rfl
  | cons c K ih => intro b; exact congrArg (· + 1) (ih (b + 1))
theorem lz_ab_app : ∀ (K : List (Nat × Nat)) K2 b, lz_ab b (K ++ K2) = lz_ab b K ++ lz_ab (b + K.length) K2 := by
  intro K
  induction K with
  | nil => intro K2 b; rfl
  | cons c K ih =>
    intro K2 b
    show (c.1, lz_kr b c.1 c.2) :: lz_ab (b + 1) (K ++ K2) = (c.1, lz_kr b c.1 c.2) :: (lz_ab (b + 1) K ++ lz_ab (b + (K.length + 1)) K2)
    rw [ih, show b + 1 + K.length = b + (K.length + 1) by omega]
/-- no leaps -/
def lz_lo (K : List (Nat × Nat)) : Prop := ∀ c ∈ K, c.1 ≤ 10
theorem lz_lo_app {K K2 : List (Nat × Nat)} (h1 : lz_lo K) (h2 : lz_lo K2) : lz_lo (K ++ K2) := fun c hc => (List.mem_append.mp hc).elim (h1 c) (h2 c)
theorem lz_ab_lo : ∀ (K : List (Nat × Nat)) b, lz_lo K → lz_ab b K = K := by
  intro K
  induction K with
  | nil => intro b _; rfl
  | cons c K ih =>
    intro b h
    have h1 := h c (List.mem_cons_self ..)
    have e : lz_kr b c.1 c.2 = c.2 := if_neg (by omega)
    show (c.1, lz_kr b c.1 c.2) :: lz_ab (b + 1) K = c :: K
    rw [e, ih (b + 1) fun d hd => h d (List.mem_cons_of_mem _ hd)]
section SR3
variable {bt : Nat → Nat} {n a o k q p : Nat} {R w : List (Nat × Nat)} {r : Int32 ⊕ (Nat × List (Nat × Nat) × Nat)}
theorem lz_lo_f {g : Option (Nat → Int32 ⊕ (Nat × List (Nat × Nat)))} (hg : ∀ f, g = some f → ∀ a x, f a = .inr x → lz_lo x.2) (x : Nat × List (Nat × Nat)) (e : lz_f bt n g a = .inr x) : lz_lo x.2 := by
  unfold lz_f at e
  by_cases c : ab_dd bt n a
  · rw [if_pos c] at e
    by_cases c2 : ab_dd bt n (ab_dg bt n 5 a 0).1
    · rw [if_pos c2] at e; cases e
    · rw [if_neg c2] at e
      cases e
      intro d hd
      rw [List.mem_singleton.mp hd]
      exact Nat.zero_le _
  · rw [if_neg c] at e
    by_cases c2 : a < n ∧ lz_li (bt a) < 14
    · rw [if_pos c2] at e
      cases e
      intro d hd
      rw [List.mem_singleton.mp hd]
      exact (by decide : (1 : Nat) ≤ 10)
    · rw [if_neg c2] at e
      by_cases c3 : a < n ∧ bt a = 91
      · rw [if_pos c3] at e
        cases g with
        | none => cases e
        | some g =>
          dsimp only at e
          cases e2 : g (a + 1) with
          | inl z => rw [e2] at e; cases e
          | inr z =>
            rw [e2] at e
            dsimp only at e
            by_cases c4 : z.1 < n ∧ bt z.1 = 93
            · rw [if_pos c4] at e
              cases e
              exact hg g rfl (a + 1) z e2
            · rw [if_neg c4] at e; cases e
      · rw [if_neg c3] at e; cases e
theorem lz_c_mem {X : Type} {S : Nat → Bool} {f : Nat → Int32 ⊕ (Nat × X)} {P : X → Prop} (hf : ∀ a x, f a = .inr x → P x.2) : ∀ k a z, lz_c bt n S f k a = .inr z → ∀ c ∈ z.2, P c.2 := by
  intro k
  induction k with
  | zero => intro a z e; cases e; exact fun c hc => absurd hc List.not_mem_nil
  | succ k ih =>
    intro a z e
    unfold lz_c at e
    by_cases c : a < n ∧ S (bt a) = true
    · rw [if_pos c] at e
      cases e1 : f (a + 1) with
      | inl x => rw [e1] at e; cases e
      | inr x =>
        rw [e1] at e
        dsimp only at e
        cases e2 : lz_c bt n S f k x.1 with
        | inl y => rw [e2] at e; cases e
        | inr w =>
          rw [e2] at e
          cases e
          intro d hd
          rcases List.mem_cons.mp hd with rfl | hd
          · exact hf (a + 1) x e1
          · exact ih x.1 w e2 d hd
    · rw [if_neg c] at e
      cases e
      exact fun c hc => absurd hc List.not_mem_nil
theorem lz_lo_ar : ∀ X : List (Nat × List (Nat × Nat)), (∀ c ∈ X, lz_lo c.2) → lz_lo (lz_ar (lz_sgs X)) := by
  intro X
  induction X with
  | nil => intro _ c hc; exact absurd hc List.not_mem_nil
  | cons c X ih =>
    intro h
    refine lz_lo_app (h c (List.mem_cons_self ..)) ?_
    intro d hd
    rcases List.mem_cons.mp hd with rfl | hd
    · exact Nat.le_trans (lz_sg_le c.1) (by omega)
    · exact ih (fun c' hc => h c' (List.mem_cons_of_mem _ hc)) d hd
theorem lz_lo_j {S : Nat → Bool} {f : Nat → Int32 ⊕ (Nat × List (Nat × Nat))} (hf : ∀ a x, f a = .inr x → lz_lo x.2) (a : Nat) (x : Nat × List (Nat × Nat)) (e : lz_j bt n S f a = .inr x) : lz_lo x.2 := by
  unfold lz_j at e
  cases e1 : f a with
  | inl z => rw [e1] at e; cases e
  | inr z =>
    rw [e1] at e
    dsimp only at e
    cases e2 : lz_c bt n S f n z.1 with
    | inl y => rw [e2] at e; cases e
    | inr w =>
      rw [e2] at e
      cases e
      exact lz_lo_app (hf a z e1) (lz_lo_ar _ (lz_c_mem (P := lz_lo) hf n z.1 w e2))
theorem lz_lo_S : ∀ q a x, lz_S bt n q a = .inr x → lz_lo x.2 := by
  intro q
  induction q with
  | zero => exact lz_lo_j (lz_lo_j fun a x e => lz_lo_f (g := none) (fun f hf => by cases hf) x e)
  | succ q ih => exact lz_lo_j (lz_lo_j fun a x e => lz_lo_f (g := some (lz_S bt n q)) (fun f hf => by cases hf; exact ih) x e)
end SR3
/-- waiting nots written -/
def lz_ee {β : Type} (f : List (Nat × Nat) → List (Nat × Nat) → Nat → β) : List (Nat × Nat) → List (Nat × Nat) → Nat → β
  | [], R, o => f R [] o
  | e :: w, R, o => if e.1 = 10 then lz_ee f w (R ++ [(10, 0)]) (o - 1) else f R (e :: w) o
/-- waiting leaps land -/
def lz_ll {β : Type} (f : List (Nat × Nat) → List (Nat × Nat) → β) (all : Bool) : List (Nat × Nat) → List (Nat × Nat) → β
  | [], R => f R []
  | e :: w, R => if e.1 = 11 ∨ (all = true ∧ e.1 = 12) then lz_ll f all w (R.set e.2 ((R.getD e.2 (0, 0)).1, R.length)) else f R (e :: w)
section SR3b
variable (bt : Nat → Nat) (n : Nat)
/-- true: a piece is wanted; false: a sign -/
def lz_mc : Nat → Bool → Nat → List (Nat × Nat) → List (Nat × Nat) → Nat → Option (Int32 ⊕ (Nat × List (Nat × Nat) × Nat))
  | 0, _, _, _, _, _ => none
  | k + 1, m, a, R, w, o => if m = true then
      (if a < n ∧ (bt a = 33 ∨ bt a = 40) then (if o = 6 then some (.inl (fk_flt 5 a)) else lz_mc k true (a + 1) R ((if bt a = 33 then 10 else 13, 0) :: w) (o + 1))
       else match lz_S bt n (6 - o) a with
        | .inl e => some (.inl e)
        | .inr x => if x.1 < n ∧ lz_cmp (bt x.1) = true then (match lz_S bt n (6 - o) (x.1 + 1) with
          | .inl e => some (.inl e)
          | .inr z => lz_ee (lz_mc k false z.1) w (R ++ (x.2 ++ (z.2 ++ [(lz_sg (bt x.1), 0)]))) o) else some (.inl (fk_flt 1 x.1)))
    else
      (if a < n ∧ bt a = 41 then lz_ll (fun R w => if w.tail = [] then some (.inr (a + 1, R, o - 1)) else lz_ee (lz_mc k false (a + 1)) w.tail R (o - 1)) true w R
       else if a < n ∧ bt a = 38 then lz_ll (fun R w => lz_mc k true (a + 1) (R ++ [(11, 0)]) ((11, R.length) :: w) o) false w R
       else if a < n ∧ bt a = 124 then lz_ll (fun R w => lz_mc k true (a + 1) (R ++ [(12, 0)]) ((12, R.length) :: w) o) true w R
       else some (.inl (fk_flt 1 a)))
def lz_gc (m : Bool) (a : Nat) (R w : List (Nat × Nat)) (o : Nat) (r : Int32 ⊕ (Nat × List (Nat × Nat) × Nat)) : Prop := ∃ k, lz_mc bt n k m a R w o = some r
def lz_ge (a : Nat) (R w : List (Nat × Nat)) (o : Nat) (r : Int32 ⊕ (Nat × List (Nat × Nat) × Nat)) : Prop := ∃ k, lz_ee (lz_mc bt n k false a) w R o = some r
end SR3b
section SR3c
variable {bt : Nat → Nat} {n a o k q p : Nat} {R w : List (Nat × Nat)} {r : Int32 ⊕ (Nat × List (Nat × Nat) × Nat)}
theorem lz_mc_C : lz_mc bt n (k + 1) true a R w o = (if a < n ∧ (bt a = 33 ∨ bt a = 40) then (if o = 6 then some (.inl (fk_flt 5 a)) else lz_mc bt n k true (a + 1) R ((if bt a = 33 then 10 else 13, 0) :: w) (o + 1))
       else match lz_S bt n (6 - o) a with
        | .inl e => some (.inl e)
        | .inr x => if x.1 < n ∧ lz_cmp (bt x.1) = true then (match lz_S bt n (6 - o) (x.1 + 1) with
          | .inl e => some (.inl e)
          | .inr z => lz_ee (lz_mc bt n k false z.1) w (R ++ (x.2 ++ (z.2 ++ [(lz_sg (bt x.1), 0)]))) o) else some (.inl (fk_flt 1 x.1))) := by
  rw [lz_mc, if_pos rfl]
theorem lz_mc_D : lz_mc bt n (k + 1) false a R w o = (if a < n ∧ bt a = 41 then lz_ll (fun R w => if w.tail = [] then some (.inr (a + 1, R, o - 1)) else lz_ee (lz_mc bt n k false (a + 1)) w.tail R (o - 1)) true w R
       else if a < n ∧ bt a = 38 then lz_ll (fun R w => lz_mc bt n k true (a + 1) (R ++ [(11, 0)]) ((11, R.length) :: w) o) false w R
       else if a < n ∧ bt a = 124 then lz_ll (fun R w => lz_mc bt n k true (a + 1) (R ++ [(12, 0)]) ((12, R.length) :: w) o) true w R
       else some (.inl (fk_flt 1 a))) := by
  rw [lz_mc, if_neg (by decide)]
theorem lz_ge_10 {x : Nat} (h : lz_ge bt n a (R ++ [(10, 0)]) w o r) : lz_ge bt n a R ((10, x) :: w) (o + 1) r := by
  obtain ⟨k, hk⟩ := h
  refine ⟨k, ?_⟩
  show (if (10 : Nat) = 10 then lz_ee (lz_mc bt n k false a) w (R ++ [(10, 0)]) (o + 1 - 1) else _) = _
  rw [if_pos rfl]
  exact hk
def lz_hd (j : Nat) (w : List (Nat × Nat)) : Prop := ∀ e v, w = e :: v → ¬ (10 ≤ e.1 ∧ e.1 ≤ j)
theorem lz_ee_n {β : Type} {f : List (Nat × Nat) → List (Nat × Nat) → Nat → β} {j : Nat} (hj : 10 ≤ j) (h : lz_hd j w) : lz_ee f w R o = f R w o := by
  cases w with
  | nil => rfl
  | cons e w => exact if_neg (fun z => h e w rfl (by omega))
theorem lz_ge_d {j : Nat} (hj : 10 ≤ j) (h : lz_hd j w) (hg : lz_gc bt n false a R w o r) : lz_ge bt n a R w o r := by
  obtain ⟨k, hk⟩ := hg
  exact ⟨k, by rw [lz_ee_n hj h]; exact hk⟩
theorem lz_ll_11 {β : Type} {f : List (Nat × Nat) → List (Nat × Nat) → β} {all : Bool} : lz_ll f all ((11, p) :: w) R = lz_ll f all w (R.set p ((R.getD p (0, 0)).1, R.length)) := if_pos (Or.inl rfl)
theorem lz_ll_12 {β : Type} {f : List (Nat × Nat) → List (Nat × Nat) → β} : lz_ll f true ((12, p) :: w) R = lz_ll f true w (R.set p ((R.getD p (0, 0)).1, R.length)) := if_pos (Or.inr ⟨rfl, rfl⟩)
theorem lz_ll_n {β : Type} {f : List (Nat × Nat) → List (Nat × Nat) → β} {all : Bool} {j : Nat} (hj : 11 ≤ j ∧ (all = true → 12 ≤ j)) (h : lz_hd j w) : lz_ll f all w R = f R w := by
  cases w with
  | nil => rfl
  | cons e w => exact if_neg (fun z => h e w rfl (by rcases z with z | z; omega; have := hj.2 z.1; omega))
theorem lz_gc_11 (h : lz_gc bt n false a (R.set p ((R.getD p (0, 0)).1, R.length)) w o r) : lz_gc bt n false a R ((11, p) :: w) o r := by
  obtain ⟨k, hk⟩ := h
  cases k with
  | zero => cases hk
  | succ k =>
    refine ⟨k + 1, ?_⟩
    rw [lz_mc_D] at hk ⊢
    simp only [lz_ll_11]
    exact hk
theorem lz_gc_12 (ha : ¬ (a < n ∧ bt a = 38)) (h : lz_gc bt n false a (R.set p ((R.getD p (0, 0)).1, R.length)) w o r) : lz_gc bt n false a R ((12, p) :: w) o r := by
  obtain ⟨k, hk⟩ := h
  cases k with
  | zero => cases hk
  | succ k =>
    refine ⟨k + 1, ?_⟩
    rw [lz_mc_D] at hk ⊢
    rw [if_neg ha] at hk ⊢
    simp only [lz_ll_12]
    exact hk
theorem lz_mid {α : Type} {c c' z : α} {B : List α} : ∀ A : List α, (A ++ c :: B).set A.length c' = A ++ c' :: B ∧ (A ++ c :: B).getD A.length z = c := by
  intro A
  induction A with
  | nil => exact ⟨rfl, rfl⟩
  | cons a A ih => exact ⟨congrArg (a :: ·) ih.1, ih.2⟩
theorem lz_land {j : Nat} {K : List (Nat × Nat)} (hj : j = 11 ∨ j = 12) : ((R ++ [(j, 0)]) ++ lz_ab (R.length + 1) K).set R.length ((((R ++ [(j, 0)]) ++ lz_ab (R.length + 1) K).getD R.length (0, 0)).1, ((R ++ [(j, 0)]) ++ lz_ab (R.length + 1) K).length) = R ++ lz_ab R.length ((j, K.length + 1) :: K) := by
  have e : (R ++ [(j, 0)]) ++ lz_ab (R.length + 1) K = R ++ (j, 0) :: lz_ab (R.length + 1) K := by rw [List.append_assoc]; rfl
  rw [e, (lz_mid (c := (j, 0)) (c' := (0, 0)) (z := ((0, 0) : Nat × Nat)) R).2, (lz_mid (c := (j, 0)) (z := ((0, 0) : Nat × Nat)) R).1]
  have e2 : (R ++ (j, 0) :: lz_ab (R.length + 1) K).length = R.length + (K.length + 1) := by
    rw [List.length_append, List.length_cons, lz_ab_len]
  have e3 : lz_kr R.length j (K.length + 1) = R.length + (K.length + 1) := if_pos hj
  show R ++ (j, _) :: _ = R ++ (j, lz_kr R.length j (K.length + 1)) :: lz_ab (R.length + 1) K
  rw [e2, e3]
/-- a chain behind a first piece -/
theorem lz_gc_c {c0 j : Nat} {f : Nat → Int32 ⊕ (Nat × List (Nat × Nat) × List (Nat × Nat))} (hs : ∀ a R, a < n → bt a = c0 → lz_gc bt n true (a + 1) (R ++ [(j, 0)]) ((j, R.length) :: w) o r → lz_gc bt n false a R w o r) (hf : ∀ a R, a ≤ n → lz_kn r (fun x : Nat × List (Nat × Nat) × List (Nat × Nat) => lz_gc bt n false x.1 (R ++ lz_ab R.length ((j, x.2.2.length + 1) :: x.2.2)) w o r) (f a) → lz_gc bt n true a (R ++ [(j, 0)]) ((j, R.length) :: w) o r) : ∀ k a R, lz_kn r (fun z : Nat × List (Nat × List (Nat × Nat) × List (Nat × Nat)) => lz_gc bt n false z.1 (R ++ lz_ab R.length (lz_tr j ((z.2.map Prod.snd).map Prod.snd))) w o r) (lz_c bt n (fun b => b == c0) f k a) → lz_gc bt n false a R w o r := by
  intro k
  induction k with
  | zero =>
    intro a R h
    have h : lz_gc bt n false a (R ++ []) w o r := h
    rw [List.append_nil] at h
    exact h
  | succ k ih =>
    intro a R h
    unfold lz_c at h
    by_cases c : a < n ∧ (bt a == c0) = true
    · rw [if_pos c] at h
      refine hs a R c.1 (beq_iff_eq.mp c.2) (hf (a + 1) R c.1 ?_)
      cases e : f (a + 1) with
      | inl x => rw [e] at h; exact h
      | inr x =>
        rw [e] at h
        dsimp only at h
        refine ih x.1 _ ?_
        cases e2 : lz_c bt n (fun b => b == c0) f k x.1 with
        | inl x => rw [e2] at h; exact h
        | inr z =>
          rw [e2] at h
          have h : lz_gc bt n false z.1 (R ++ lz_ab R.length (((j, x.2.2.length + 1) :: x.2.2) ++ lz_tr j ((z.2.map Prod.snd).map Prod.snd))) w o r := h
          rw [lz_ab_app, ← List.append_assoc] at h
          have el : (R ++ lz_ab R.length ((j, x.2.2.length + 1) :: x.2.2)).length = R.length + ((j, x.2.2.length + 1) :: x.2.2).length := by rw [List.length_append, lz_ab_len]
          rw [← el] at h
          exact h
    · rw [if_neg c] at h
      have h : lz_gc bt n false a (R ++ []) w o r := h
      rw [List.append_nil] at h
      exact h
theorem lz_hd_c {j i x : Nat} (h : j < i) : lz_hd j ((i, x) :: w) := fun e v q z => by cases q; exact absurd z.2 (Nat.not_le.mpr h)
theorem lz_gc_B {f : Nat → Int32 ⊕ (Nat × List (Nat × Nat) × List (Nat × Nat))} (hP : ∀ w a R, w ≠ [] → a ≤ n → lz_kn r (fun x : Nat × List (Nat × Nat) × List (Nat × Nat) => lz_ge bt n x.1 (R ++ lz_ab R.length x.2.2) w o r) (f a) → lz_gc bt n true a R w o r) (hw : w ≠ []) (hh : lz_hd 11 w) (ha : a ≤ n) (h : lz_kn r (fun x : Nat × List (Nat × Nat) × List (Nat × Nat) => lz_gc bt n false x.1 (R ++ lz_ab R.length x.2.2) w o r) (lz_ch2 bt n 38 11 f a)) : lz_gc bt n true a R w o r := by
  refine hP w a R hw ha ?_
  unfold lz_ch2 at h
  cases e : f a with
  | inl x => rw [e] at h; exact h
  | inr x =>
    rw [e] at h
    dsimp only at h
    refine lz_ge_d (j := 11) (by omega) hh ?_
    refine lz_gc_c (c0 := 38) (j := 11) (f := f) (fun b R hb hc hg => ?_) (fun b R hb hk => ?_) n x.1 _ ?_
    · obtain ⟨k, hk⟩ := hg
      refine ⟨k + 1, ?_⟩
      rw [lz_mc_D, if_neg (by omega), if_pos ⟨hb, hc⟩, lz_ll_n (j := 11) ⟨by omega, fun z => by cases z⟩ hh]
      exact hk
    · refine hP _ b _ (List.cons_ne_nil _ _) hb (lz_kn_mono (fun x _ hx => ?_) hk)
      refine lz_ge_d (j := 10) (by omega) (lz_hd_c (by omega)) (lz_gc_11 ?_)
      have el : (R ++ [((11 : Nat), (0 : Nat))]).length = R.length + 1 := by rw [List.length_append]; rfl
      rw [el, lz_land (Or.inl rfl)]
      exact hx
    · cases e2 : lz_c bt n (fun b => b == 38) f n x.1 with
      | inl x => rw [e2] at h; exact h
      | inr z =>
        rw [e2] at h
        have h : lz_gc bt n false z.1 (R ++ lz_ab R.length (x.2.2 ++ lz_tr 11 ((z.2.map Prod.snd).map Prod.snd))) w o r := h
        rw [lz_ab_app, ← List.append_assoc] at h
        have el : (R ++ lz_ab R.length x.2.2).length = R.length + x.2.2.length := by rw [List.length_append, lz_ab_len]
        rw [← el] at h
        exact h
theorem lz_gc_A {f : Nat → Int32 ⊕ (Nat × List (Nat × Nat) × List (Nat × Nat))} (hP : ∀ w a R, w ≠ [] → a ≤ n → lz_kn r (fun x : Nat × List (Nat × Nat) × List (Nat × Nat) => lz_ge bt n x.1 (R ++ lz_ab R.length x.2.2) w o r) (f a) → lz_gc bt n true a R w o r) (hB : ∀ a, a ≤ n → ∀ x, lz_ch2 bt n 38 11 f a = .inr x → ¬ (x.1 < n ∧ bt x.1 = 38)) (hw : w ≠ []) (hh : lz_hd 12 w) (ha : a ≤ n) (h : lz_kn r (fun x : Nat × List (Nat × Nat) × List (Nat × Nat) => lz_gc bt n false x.1 (R ++ lz_ab R.length x.2.2) w o r) (lz_ch2 bt n 124 12 (lz_ch2 bt n 38 11 f) a)) : lz_gc bt n true a R w o r := by
  have hh1 : lz_hd 11 w := fun e v q z => hh e v q (by omega)
  refine lz_gc_B hP hw hh1 ha ?_
  unfold lz_ch2 at h
  have h : lz_kn r (fun x : Nat × List (Nat × Nat) × List (Nat × Nat) => lz_gc bt n false x.1 (R ++ lz_ab R.length x.2.2) w o r) (match lz_ch2 bt n 38 11 f a with
    | .inl e => .inl e
    | .inr x => match lz_c bt n (fun b => b == 124) (lz_ch2 bt n 38 11 f) n x.1 with
      | .inl e => .inl e
      | .inr z => .inr (z.1, x.2.1 ++ lz_tc 12 ((z.2.map Prod.snd).map Prod.fst), x.2.2 ++ lz_tr 12 ((z.2.map Prod.snd).map Prod.snd))) := h
  cases e : lz_ch2 bt n 38 11 f a with
  | inl x => rw [e] at h; exact h
  | inr x =>
    rw [e] at h
    dsimp only at h
    refine lz_gc_c (c0 := 124) (j := 12) (f := lz_ch2 bt n 38 11 f) (fun b R hb hc hg => ?_) (fun b R hb hk => ?_) n x.1 _ ?_
    · obtain ⟨k, hk⟩ := hg
      refine ⟨k + 1, ?_⟩
      rw [lz_mc_D, if_neg (by omega), if_neg (by omega), if_pos ⟨hb, hc⟩, lz_ll_n (j := 12) ⟨by omega, fun _ => by omega⟩ hh]
      exact hk
    · refine lz_gc_B hP (List.cons_ne_nil _ _) (lz_hd_c (by omega)) hb (lz_kn_mono (fun x ex hx => ?_) hk)
      refine lz_gc_12 (hB b hb x ex) ?_
      have el : (R ++ [((12 : Nat), (0 : Nat))]).length = R.length + 1 := by rw [List.length_append]; rfl
      rw [el, lz_land (Or.inr rfl)]
      exact hx
    · cases e2 : lz_c bt n (fun b => b == 124) (lz_ch2 bt n 38 11 f) n x.1 with
      | inl x => rw [e2] at h; exact h
      | inr z =>
        rw [e2] at h
        have h : lz_gc bt n false z.1 (R ++ lz_ab R.length (x.2.2 ++ lz_tr 12 ((z.2.map Prod.snd).map Prod.snd))) w o r := h
        rw [lz_ab_app, ← List.append_assoc] at h
        have el : (R ++ lz_ab R.length x.2.2).length = R.length + x.2.2.length := by rw [List.length_append, lz_ab_len]
        rw [← el] at h
        exact h
theorem lz_A_38 (hn : n ≤ 240) (ha : a ≤ n) (x : Nat × List (Nat × Nat) × List (Nat × Nat)) (e : lz_A bt n q a = .inr x) : ¬ (x.1 < n ∧ bt x.1 = 38) := by
  have hB : ∀ a, a ≤ n → ∀ x, lz_B bt n q a = .inr x → ¬ (x.1 < n ∧ bt x.1 = 38) := fun a ha => (lz_B_ok hn ha).2
  have e : (match lz_B bt n q a with
    | .inl e => .inl e
    | .inr x => match lz_c bt n (fun b => b == 124) (lz_B bt n q) n x.1 with
      | .inl e => .inl e
      | .inr z => .inr (z.1, x.2.1 ++ lz_tc 12 ((z.2.map Prod.snd).map Prod.fst), x.2.2 ++ lz_tr 12 ((z.2.map Prod.snd).map Prod.snd))) = Sum.inr x := e
  cases e1 : lz_B bt n q a with
  | inl y => rw [e1] at e; cases e
  | inr v =>
    rw [e1] at e
    dsimp only at e
    cases e2 : lz_c bt n (fun b => b == 124) (lz_B bt n q) n v.1 with
    | inl y => rw [e2] at e; cases e
    | inr z =>
      rw [e2] at e
      cases e
      exact lz_c_end (P := fun b => ¬ (b < n ∧ bt b = 38)) hB n v.1 (hB a ha v e1) z e2
theorem lz_P_e : lz_P bt n q = lz_pc bt n (if q = 0 then none else some (lz_P bt n (q - 1))) (if q = 0 then none else some (lz_A bt n (q - 1))) (lz_S bt n q) := by
  cases q with
  | zero => rfl
  | succ q => rfl
theorem lz_cmp_lo (c : Nat) : lz_sg c ≤ 10 := Nat.le_trans (lz_sg_le c) (by omega)
/-- a comparison -/
theorem lz_gc_cmp (ho : q + o = 6) (c : ¬ (a < n ∧ (bt a = 33 ∨ bt a = 40))) (h : lz_kn r (fun x : Nat × List (Nat × Nat) × List (Nat × Nat) => lz_ge bt n x.1 (R ++ lz_ab R.length x.2.2) w o r) (match lz_S bt n q a with
    | .inl e => .inl e
    | .inr x => if x.1 < n ∧ lz_cmp (bt x.1) = true then (match lz_S bt n q (x.1 + 1) with
      | .inl e => .inl e
      | .inr z => .inr (z.1, x.2 ++ (z.2 ++ [(lz_sg (bt x.1), 0)]), x.2 ++ (z.2 ++ [(lz_sg (bt x.1), 0)]))) else .inl (fk_flt 1 x.1))) : lz_gc bt n true a R w o r := by
  have eq : 6 - o = q := by omega
  cases e : lz_S bt n q a with
  | inl x =>
    rw [e] at h
    have h : r = .inl x := h
    exact ⟨1, by rw [lz_mc_C, if_neg c, eq, e, h]⟩
  | inr x =>
    rw [e] at h
    dsimp only at h
    by_cases c2 : x.1 < n ∧ lz_cmp (bt x.1) = true
    · rw [if_pos c2] at h
      cases e2 : lz_S bt n q (x.1 + 1) with
      | inl z =>
        rw [e2] at h
        have h : r = .inl z := h
        exact ⟨1, by rw [lz_mc_C, if_neg c, eq, e]; dsimp only; rw [if_pos c2, e2, h]⟩
      | inr z =>
        rw [e2] at h
        have h : lz_ge bt n z.1 (R ++ lz_ab R.length (x.2 ++ (z.2 ++ [(lz_sg (bt x.1), 0)]))) w o r := h
        have lo : lz_lo (x.2 ++ (z.2 ++ [(lz_sg (bt x.1), 0)])) := lz_lo_app (lz_lo_S q a x e) (lz_lo_app (lz_lo_S q _ z e2) fun d hd => by rw [List.mem_singleton.mp hd]; exact lz_cmp_lo _)
        rw [lz_ab_lo _ _ lo] at h
        obtain ⟨k, hk⟩ := h
        exact ⟨k + 1, by rw [lz_mc_C, if_neg c, eq, e]; dsimp only; rw [if_pos c2, e2]; exact hk⟩
    · rw [if_neg c2] at h
      have h : r = .inl (fk_flt 1 x.1) := h
      exact ⟨1, by rw [lz_mc_C, if_neg c, eq, e]; dsimp only; rw [if_neg c2, h]⟩
theorem lz_gc_P (hn : n ≤ 240) : ∀ q o w a R, q + o = 6 → w ≠ [] → a ≤ n → lz_kn r (fun x : Nat × List (Nat × Nat) × List (Nat × Nat) => lz_ge bt n x.1 (R ++ lz_ab R.length x.2.2) w o r) (lz_P bt n q a) → lz_gc bt n true a R w o r := by
  intro q
  induction q with
  | zero =>
    intro o w a R ho hw ha h
    rw [lz_P_e, if_pos rfl, if_pos rfl] at h
    unfold lz_pc at h
    by_cases c : a < n ∧ bt a = 33
    · rw [if_pos c] at h
      have h : r = .inl (fk_flt 5 a) := h
      exact ⟨1, by rw [lz_mc_C, if_pos ⟨c.1, Or.inl c.2⟩, if_pos (by omega), h]⟩
    · rw [if_neg c] at h
      by_cases c2 : a < n ∧ bt a = 40
      · rw [if_pos c2] at h
        have h : r = .inl (fk_flt 5 a) := h
        exact ⟨1, by rw [lz_mc_C, if_pos ⟨c2.1, Or.inr c2.2⟩, if_pos (by omega), h]⟩
      · rw [if_neg c2] at h
        exact lz_gc_cmp ho (by omega) h
  | succ q ih =>
    intro o w a R ho hw ha h
    rw [lz_P_e, if_neg (by omega), if_neg (by omega), show q + 1 - 1 = q by omega] at h
    unfold lz_pc at h
    by_cases c : a < n ∧ bt a = 33
    · rw [if_pos c] at h
      dsimp only at h
      have step : lz_gc bt n true (a + 1) R ((10, 0) :: w) (o + 1) r → lz_gc bt n true a R w o r := by
        rintro ⟨k, hk⟩
        exact ⟨k + 1, by rw [lz_mc_C, if_pos ⟨c.1, Or.inl c.2⟩, if_neg (by omega), if_pos c.2]; exact hk⟩
      refine step (ih (o + 1) _ (a + 1) R (by omega) (List.cons_ne_nil _ _) c.1 ?_)
      cases e : lz_P bt n q (a + 1) with
      | inl x => rw [e] at h; exact h
      | inr x =>
        rw [e] at h
        have h : lz_ge bt n x.1 (R ++ lz_ab R.length (x.2.2 ++ [(10, 0)])) w o r := h
        refine lz_ge_10 ?_
        rw [lz_ab_app, ← List.append_assoc] at h
        exact h
    · rw [if_neg c] at h
      by_cases c2 : a < n ∧ bt a = 40
      · rw [if_pos c2] at h
        dsimp only at h
        have step : lz_gc bt n true (a + 1) R ((13, 0) :: w) (o + 1) r → lz_gc bt n true a R w o r := by
          rintro ⟨k, hk⟩
          exact ⟨k + 1, by rw [lz_mc_C, if_pos ⟨c2.1, Or.inr c2.2⟩, if_neg (by omega), if_neg (by omega)]; exact hk⟩
        have hd : lz_hd 12 ((13, 0) :: w) := lz_hd_c (by omega)
        refine step (lz_gc_A (f := lz_P bt n q) (fun w a R hw ha h => ih (o + 1) w a R (by omega) hw ha h) (fun a ha => (lz_B_ok hn ha).2) (List.cons_ne_nil _ _) hd c2.1 ?_)
        show lz_kn r _ (lz_A bt n q (a + 1))
        have e124 := (lz_A_ok (bt := bt) (q := q) (a := a + 1) hn c2.1).2
        have e38 := lz_A_38 (bt := bt) (q := q) (a := a + 1) hn c2.1
        cases e : lz_A bt n q (a + 1) with
        | inl x => rw [e] at h; exact h
        | inr x =>
          rw [e] at h
          dsimp only at h
          show lz_gc bt n false x.1 (R ++ lz_ab R.length x.2.2) ((13, 0) :: w) (o + 1) r
          by_cases c4 : x.1 < n ∧ bt x.1 = 41
          · rw [if_pos c4] at h
            obtain ⟨k, hk⟩ := h
            refine ⟨k + 1, ?_⟩
            rw [lz_mc_D, if_pos c4, lz_ll_n (j := 12) ⟨by omega, fun _ => by omega⟩ hd]
            show (if w = [] then _ else lz_ee (lz_mc bt n k false (x.1 + 1)) w (R ++ lz_ab R.length x.2.2) (o + 1 - 1)) = _
            rw [if_neg hw]
            exact hk
          · rw [if_neg c4] at h
            have h : r = .inl (fk_flt 1 x.1) := h
            exact ⟨1, by rw [lz_mc_D, if_neg c4, if_neg (e38 x e), if_neg (e124 x e), h]⟩
      · rw [if_neg c2] at h
        exact lz_gc_cmp ho (by omega) h
/-- a whole condition behind its first sign -/
def lz_fc (bt : Nat → Nat) (n : Nat) (R : List (Nat × Nat)) (v : Int32 ⊕ (Nat × List (Nat × Nat) × List (Nat × Nat))) : Int32 ⊕ (Nat × List (Nat × Nat) × Nat) := match v with
  | .inl e => .inl e
  | .inr x => if x.1 < n ∧ bt x.1 = 41 then .inr (x.1 + 1, R ++ lz_ab R.length x.2.2, 0) else .inl (fk_flt 1 x.1)
theorem lz_gc_top (hn : n ≤ 240) (ha : a ≤ n) : lz_gc bt n true a R [(13, 0)] 1 (lz_fc bt n R (lz_A bt n 5 a)) := by
  have hd : lz_hd 12 [(13, 0)] := lz_hd_c (by omega)
  refine lz_gc_A (f := lz_P bt n 5) (fun w a R hw ha h => lz_gc_P hn 5 1 w a R (by omega) hw ha h) (fun a ha => (lz_B_ok hn ha).2) (List.cons_ne_nil _ _) hd ha ?_
  show lz_kn _ _ (lz_A bt n 5 a)
  have e124 := (lz_A_ok (bt := bt) (q := 5) (a := a) hn ha).2
  have e38 := lz_A_38 (bt := bt) (q := 5) (a := a) hn ha
  cases e : lz_A bt n 5 a with
  | inl x => exact rfl
  | inr x =>
    show lz_gc bt n false x.1 (R ++ lz_ab R.length x.2.2) [(13, 0)] 1 (if x.1 < n ∧ bt x.1 = 41 then .inr (x.1 + 1, R ++ lz_ab R.length x.2.2, 0) else .inl (fk_flt 1 x.1))
    by_cases c4 : x.1 < n ∧ bt x.1 = 41
    · rw [if_pos c4]
      refine ⟨1, ?_⟩
      rw [lz_mc_D, if_pos c4, lz_ll_n (j := 12) ⟨by omega, fun _ => by omega⟩ hd]
      rfl
    · rw [if_neg c4]
      exact ⟨1, by rw [lz_mc_D, if_neg c4, if_neg (e38 x e), if_neg (e124 x e)]⟩
end SR3c
