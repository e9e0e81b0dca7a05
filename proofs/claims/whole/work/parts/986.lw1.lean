/-! THE LAW: what orders come to, pure. An order is a kind (0 number, 1 letter, 2 .. 9 signs, 10 not, 11 and, 12 or) and what goes with it; leaps are said by how far -/
def lz_o (o : Nat) (x z : Int32) : Int32 := if o = 2 then x + z else if o = 3 then x - z else if o = 4 then x * z else if o = 5 then x / z else if o = 6 then x - x / z * z else if o = 7 then (if x < z then nI 1 else nI 0) else if o = 8 then (if z < x then nI 1 else nI 0) else (if x = z then nI 1 else nI 0)
def lz_r (F : Nat → Int32) : Nat → List (Nat × Nat) → List Int32 → Option (Option (List Int32))
  | 0, K, s => if K.length = 0 then some (some s) else none
  | k + 1, K, s => match K with
    | [] => some (some s)
    | c :: K => if c.1 = 0 then (if s.length < 32 then lz_r F k K (nI c.2 :: s) else none) else if c.1 = 1 then (if s.length < 32 ∧ c.2 < 14 then lz_r F k K (F c.2 :: s) else none) else match s with
      | [] => none
      | r :: t => if c.1 = 10 then (if r = nI 0 then lz_r F k K (nI 1 :: t) else if r = nI 1 then lz_r F k K (nI 0 :: t) else none) else if c.1 = 11 then (if r = nI 0 then (if c.2 ≤ K.length + 1 ∧ 0 < c.2 then lz_r F k (K.drop (c.2 - 1)) s else none) else if r = nI 1 then lz_r F k K t else none) else if c.1 = 12 then (if r = nI 1 then (if c.2 ≤ K.length + 1 ∧ 0 < c.2 then lz_r F k (K.drop (c.2 - 1)) s else none) else if r = nI 0 then lz_r F k K t else none) else match t with
        | [] => none
        | x :: u => if (c.1 = 5 ∨ c.1 = 6) ∧ r = nI 0 then some none else if c.1 ≤ 9 then lz_r F k K (lz_o c.1 x r :: u) else none
section LW1
variable {F : Nat → Int32} {K K1 K2 R : List (Nat × Nat)} {s t u : List Int32} {r x v : Int32} {m m1 m2 : (Nat → Int32) → Option Int32} {nd n1 n2 : Nat}
theorem lz_r_fuel : ∀ k (K : List (Nat × Nat)) s, K.length ≤ k → ∀ k', K.length ≤ k' → lz_r F k K s = lz_r F k' K s := by
  intro k
  induction k with
  | zero =>
    intro K s h k' h'
    cases K with
    | nil => cases k' <;> rfl
    | cons c K => exact absurd h (Nat.not_succ_le_zero _)
  | succ k ih =>
    intro K s h k' h'
    cases K with
    | nil => cases k' <;> rfl
    | cons c K =>
      cases k' with
      | zero => exact absurd h' (Nat.not_succ_le_zero _)
      | succ k' =>
        have h1 : K.length ≤ k := Nat.le_of_succ_le_succ h
        have h2 : K.length ≤ k' := Nat.le_of_succ_le_succ h'
        have e1 : ∀ s, lz_r F k K s = lz_r F k' K s := fun s => ih K s h1 k' h2
        have e2 : ∀ j s, lz_r F k (K.drop j) s = lz_r F k' (K.drop j) s := fun j s => ih (K.drop j) s (by rw [List.length_drop]; omega) k' (by rw [List.length_drop]; omega)
        simp only [lz_r, e1, e2]
/-- a run of orders, with a stack -/
def lz_rn (F : Nat → Int32) (K : List (Nat × Nat)) (s : List Int32) : Option (Option (List Int32)) := lz_r F K.length K s
theorem lz_rn_k {k : Nat} (h : K.length ≤ k) : lz_r F k K s = lz_rn F K s := lz_r_fuel k K s h K.length (Nat.le_refl _)
theorem lz_rn_nil : lz_rn F [] s = some (some s) := rfl
theorem lz_rn_num {x : Nat} (h : s.length < 32) : lz_rn F ((0, x) :: K) s = lz_rn F K (nI x :: s) := by
  show lz_r F (K.length + 1) _ _ = _
  simp only [lz_r, if_true, if_pos h]
  rfl
theorem lz_rn_let {x : Nat} (h : s.length < 32) (hx : x < 14) : lz_rn F ((1, x) :: K) s = lz_rn F K (F x :: s) := by
  show lz_r F (K.length + 1) _ _ = _
  simp only [lz_r]
  rw [if_neg (by decide), if_pos trivial, if_pos ⟨h, hx⟩]
  rfl
theorem lz_rn_not0 {x : Nat} : lz_rn F ((10, x) :: K) (nI 0 :: t) = lz_rn F K (nI 1 :: t) := by
  show lz_r F (K.length + 1) _ _ = _
  simp only [lz_r]
  rw [if_neg (by decide), if_neg (by decide), if_pos trivial, if_pos trivial]
  rfl
theorem lz_rn_not1 {x : Nat} : lz_rn F ((10, x) :: K) (nI 1 :: t) = lz_rn F K (nI 0 :: t) := by
  show lz_r F (K.length + 1) _ _ = _
  simp only [lz_r]
  rw [if_neg (by decide), if_neg (by decide), if_pos trivial, if_neg (by decide), if_pos trivial]
  rfl
/-- and, or: o = 11, 12 leap at 0, 1 -/
def lz_lp (o : Nat) : Nat := if o = 11 then 0 else 1
theorem lz_rn_leap {o x : Nat} (ho : o = 11 ∨ o = 12) (h : x ≤ K.length + 1) (h0 : 0 < x) : lz_rn F ((o, x) :: K) (nI (lz_lp o) :: t) = lz_rn F (K.drop (x - 1)) (nI (lz_lp o) :: t) := by
  have e := lz_rn_k (F := F) (K := K.drop (x - 1)) (s := nI (lz_lp o) :: t) (k := K.length) (by rw [List.length_drop]; omega)
  rw [← e]
  show lz_r F (K.length + 1) _ _ = _
  rcases ho with rfl | rfl
  · simp only [lz_r]
    rw [if_neg (by decide), if_neg (by decide), if_neg (by decide), if_pos trivial, if_pos (show nI (lz_lp 11) = nI 0 from rfl), if_pos ⟨h, h0⟩]
  · simp only [lz_r]
    rw [if_neg (by decide), if_neg (by decide), if_neg (by decide), if_neg (by decide), if_pos trivial, if_pos (show nI (lz_lp 12) = nI 1 from rfl), if_pos ⟨h, h0⟩]
theorem lz_rn_pop {o x : Nat} (ho : o = 11 ∨ o = 12) : lz_rn F ((o, x) :: K) (nI (1 - lz_lp o) :: t) = lz_rn F K t := by
  show lz_r F (K.length + 1) _ _ = _
  rcases ho with rfl | rfl
  · simp only [lz_r]
    rw [if_neg (by decide), if_neg (by decide), if_neg (by decide), if_pos trivial, if_neg (by decide), if_pos (show nI (1 - lz_lp 11) = nI 1 from rfl)]
    rfl
  · simp only [lz_r]
    rw [if_neg (by decide), if_neg (by decide), if_neg (by decide), if_neg (by decide), if_pos trivial, if_neg (by decide), if_pos (show nI (1 - lz_lp 12) = nI 0 from rfl)]
    rfl
theorem lz_rn_op {o y : Nat} (h1 : 2 ≤ o) (h2 : o ≤ 9) : lz_rn F ((o, y) :: K) (r :: x :: u) = if (o = 5 ∨ o = 6) ∧ r = nI 0 then some none else lz_rn F K (lz_o o x r :: u) := by
  show lz_r F (K.length + 1) _ _ = _
  simp only [lz_r]
  rw [if_neg (show ¬ o = 0 by omega), if_neg (show ¬ o = 1 by omega), if_neg (show ¬ o = 10 by omega), if_neg (show ¬ o = 11 by omega), if_neg (show ¬ o = 12 by omega)]
  by_cases c : (o = 5 ∨ o = 6) ∧ r = nI 0
  · rw [if_pos c, if_pos c]
  · rw [if_neg c, if_neg c, if_pos h2]
    rfl
/-- orders that come to one value more, whatever follows -/
def lz_mn (K : List (Nat × Nat)) (m : (Nat → Int32) → Option Int32) (nd : Nat) : Prop := ∀ F R s, s.length + nd ≤ 32 → lz_rn F (K ++ R) s = (m F).elim (some none) (fun v => lz_rn F R (v :: s))
theorem lz_mn_le (h : lz_mn K m n1) (hn : n1 ≤ n2) : lz_mn K m n2 := fun F R s hs => h F R s (by omega)
theorem lz_mn_num {x : Nat} : lz_mn [(0, x)] (fun _ => some (nI x)) 1 := fun F R s hs => lz_rn_num (by omega)
theorem lz_mn_let {x : Nat} (hx : x < 14) : lz_mn [(1, x)] (fun F => some (F x)) 1 := fun F R s hs => lz_rn_let (by omega) hx
def lz_m2 (o : Nat) (m1 m2 : (Nat → Int32) → Option Int32) : (Nat → Int32) → Option Int32 := fun F => (m1 F).bind fun v1 => (m2 F).bind fun v2 => if (o = 5 ∨ o = 6) ∧ v2 = nI 0 then none else some (lz_o o v1 v2)
theorem lz_mn_op {o y : Nat} (g1 : 2 ≤ o) (g2 : o ≤ 9) (h1 : lz_mn K1 m1 n1) (h2 : lz_mn K2 m2 n2) (hn : n2 + 1 ≤ n1) : lz_mn (K1 ++ (K2 ++ [(o, y)])) (lz_m2 o m1 m2) n1 := by
  intro F R s hs
  rw [List.append_assoc, List.append_assoc, h1 F _ s hs]
  unfold lz_m2
  cases m1 F with
  | none => rfl
  | some v1 =>
    show lz_rn F (K2 ++ ([(o, y)] ++ R)) (v1 :: s) = _
    rw [h2 F _ (v1 :: s) (by rw [List.length_cons]; omega)]
    cases m2 F with
    | none => rfl
    | some v2 =>
      show lz_rn F ((o, y) :: R) (v2 :: v1 :: s) = _
      rw [lz_rn_op g1 g2]
      show _ = Option.elim (if _ then _ else _) _ _
      by_cases c : (o = 5 ∨ o = 6) ∧ v2 = nI 0
      · rw [if_pos c, if_pos c]; rfl
      · rw [if_neg c, if_neg c]; rfl
/-- a row of signs and pieces behind a first piece -/
def lz_ar : List (Nat × List (Nat × Nat)) → List (Nat × Nat)
  | [] => []
  | c :: r => c.2 ++ (c.1, 0) :: lz_ar r
theorem lz_mn_ar : ∀ (X : List (Nat × List (Nat × Nat))) (K1 : List (Nat × Nat)) m1, (∀ c ∈ X, 2 ≤ c.1 ∧ c.1 ≤ 9 ∧ ∃ m, lz_mn c.2 m n2) → lz_mn K1 m1 n1 → n2 + 1 ≤ n1 → ∃ m, lz_mn (K1 ++ lz_ar X) m n1 := by
  intro X
  induction X with
  | nil => intro K1 m1 _ h _; exact ⟨m1, by show lz_mn (K1 ++ []) _ _; rw [List.append_nil]; exact h⟩
  | cons c X ih =>
    intro K1 m1 hX h hn
    obtain ⟨c1, c2, m2, hm⟩ := hX c (List.mem_cons_self ..)
    have := ih (K1 ++ (c.2 ++ [(c.1, 0)])) _ (fun c' hc => hX c' (List.mem_cons_of_mem _ hc)) (lz_mn_op c1 c2 h hm hn) hn
    obtain ⟨m, e⟩ := this
    refine ⟨m, ?_⟩
    have ee : K1 ++ (c.2 ++ [(c.1, 0)]) ++ lz_ar X = K1 ++ lz_ar (c :: X) := by
      show _ = K1 ++ (c.2 ++ (c.1, 0) :: lz_ar X)
      rw [List.append_assoc, List.append_assoc]
      rfl
    rw [← ee]
    exact e
/-- a condition's orders: the class's and the reference's -/
def lz_sm (K1 K2 : List (Nat × Nat)) (nd : Nat) : Prop := ∃ m : (Nat → Int32) → Option Int32, (∀ F v, m F = some v → v = nI 0 ∨ v = nI 1) ∧ lz_mn K1 m nd ∧ lz_mn K2 m nd
theorem lz_o_c {o : Nat} (h : 7 ≤ o) : lz_o o x v = nI 0 ∨ lz_o o x v = nI 1 := by
  unfold lz_o
  rw [if_neg (by omega), if_neg (by omega), if_neg (by omega), if_neg (by omega), if_neg (by omega)]
  split
  · split
    · exact Or.inr rfl
    · exact Or.inl rfl
  · split
    · split
      · exact Or.inr rfl
      · exact Or.inl rfl
    · split
      · exact Or.inr rfl
      · exact Or.inl rfl
theorem lz_sm_cmp {o : Nat} (g1 : 7 ≤ o) (g2 : o ≤ 9) (h1 : lz_mn K1 m1 n1) (h2 : lz_mn K2 m2 n2) (hn : n2 + 1 ≤ n1) : lz_sm (K1 ++ (K2 ++ [(o, 0)])) (K1 ++ (K2 ++ [(o, 0)])) n1 := by
  refine ⟨_, ?_, lz_mn_op (by omega) g2 h1 h2 hn, lz_mn_op (by omega) g2 h1 h2 hn⟩
  intro F v h
  unfold lz_m2 at h
  cases e1 : m1 F with
  | none => rw [e1] at h; cases h
  | some v1 =>
    cases e2 : m2 F with
    | none => rw [e1, e2] at h; cases h
    | some v2 =>
      rw [e1, e2] at h
      have h : (if (o = 5 ∨ o = 6) ∧ v2 = nI 0 then none else some (lz_o o v1 v2)) = some v := h
      rw [if_neg (by omega)] at h
      cases h
      exact lz_o_c g1
theorem lz_sm_not (h : lz_sm K1 K2 nd) : lz_sm (K1 ++ [(10, 0)]) (K2 ++ [(10, 0)]) nd := by
  obtain ⟨m, hm, h1, h2⟩ := h
  refine ⟨fun F => (m F).map (fun v => if v = nI 0 then nI 1 else nI 0), ?_, ?_, ?_⟩
  · intro F v e
    dsimp only at e
    cases e1 : m F with
    | none => rw [e1] at e; cases e
    | some w =>
      rw [e1] at e
      cases e
      by_cases c : w = nI 0
      · exact Or.inr (if_pos c)
      · exact Or.inl (if_neg c)
  all_goals
    intro F R s hs
    rw [List.append_assoc]
    first
      | rw [h1 F _ s hs]
      | rw [h2 F _ s hs]
    dsimp only
    cases e1 : m F with
    | none => rfl
    | some w =>
      rcases hm F w e1 with rfl | rfl
      · exact lz_rn_not0
      · exact lz_rn_not1
/-- chains: the class leaps to the end, the reference to the next sign -/
def lz_tc (o : Nat) : List (List (Nat × Nat)) → List (Nat × Nat)
  | [] => []
  | K :: r => (o, (K ++ lz_tc o r).length + 1) :: (K ++ lz_tc o r)
def lz_tr (o : Nat) : List (List (Nat × Nat)) → List (Nat × Nat)
  | [] => []
  | K :: r => (o, K.length + 1) :: (K ++ lz_tr o r)
theorem lz_tc_leap {o : Nat} (ho : o = 11 ∨ o = 12) : ∀ X : List (List (Nat × Nat)), lz_rn F (lz_tc o X ++ R) (nI (lz_lp o) :: s) = lz_rn F R (nI (lz_lp o) :: s) := by
  intro X
  cases X with
  | nil => rfl
  | cons K r =>
    show lz_rn F ((o, (K ++ lz_tc o r).length + 1) :: ((K ++ lz_tc o r) ++ R)) _ = _
    rw [lz_rn_leap ho (by rw [List.length_append (as := K ++ lz_tc o r)]; omega) (by omega), Nat.add_sub_cancel, List.drop_left]
theorem lz_tr_leap {o : Nat} (ho : o = 11 ∨ o = 12) : ∀ X : List (List (Nat × Nat)), lz_rn F (lz_tr o X ++ R) (nI (lz_lp o) :: s) = lz_rn F R (nI (lz_lp o) :: s) := by
  intro X
  induction X with
  | nil => rfl
  | cons K r ih =>
    show lz_rn F ((o, K.length + 1) :: ((K ++ lz_tr o r) ++ R)) _ = _
    rw [List.append_assoc, lz_rn_leap ho (by rw [List.length_append]; omega) (by omega), Nat.add_sub_cancel, List.drop_left]
    exact ih
def lz_mt (o : Nat) (m : (Nat → Int32) → Option Int32) (F : Nat → Int32) (v : Int32) : Option Int32 := if v = nI (lz_lp o) then some v else m F
/-- one more piece: the value so far v, then the chain -/
theorem lz_ch {o : Nat} (ho : o = 11 ∨ o = 12) : ∀ X : List (List (Nat × Nat) × List (Nat × Nat)), (∀ c ∈ X, lz_sm c.1 c.2 nd) → ∃ g : (Nat → Int32) → Int32 → Option Int32, (∀ F v w, (v = nI 0 ∨ v = nI 1) → g F v = some w → w = nI 0 ∨ w = nI 1) ∧ ∀ F R s v, s.length + nd ≤ 32 → (v = nI 0 ∨ v = nI 1) → lz_rn F (lz_tc o (X.map Prod.fst) ++ R) (v :: s) = (g F v).elim (some none) (fun w => lz_rn F R (w :: s)) ∧ lz_rn F (lz_tr o (X.map Prod.snd) ++ R) (v :: s) = (g F v).elim (some none) (fun w => lz_rn F R (w :: s)) := by
  intro X
  induction X with
  | nil => intro _; exact ⟨fun F v => some v, fun F v w h e => by cases e; exact h, fun F R s v _ _ => ⟨rfl, rfl⟩⟩
  | cons c X ih =>
    intro hX
    obtain ⟨g, g1, g2⟩ := ih fun c' hc => hX c' (List.mem_cons_of_mem _ hc)
    obtain ⟨m, m1, m2, m3⟩ := hX c (List.mem_cons_self ..)
    refine ⟨fun F v => if v = nI (lz_lp o) then some v else (m F).bind (g F), ?_, ?_⟩
    · intro F v w hv e
      have e : (if v = nI (lz_lp o) then some v else (m F).bind (g F)) = some w := e
      by_cases c : v = nI (lz_lp o)
      · rw [if_pos c] at e; cases e; exact hv
      · rw [if_neg c] at e
        cases e1 : m F with
        | none => rw [e1] at e; cases e
        | some v1 => rw [e1] at e; exact g1 F v1 w (m1 F v1 e1) e
    · intro F R s v hs hv
      by_cases cv : v = nI (lz_lp o)
      · have eg : (if v = nI (lz_lp o) then some v else (m F).bind (g F)) = some v := if_pos cv
        show _ = Option.elim (if v = nI (lz_lp o) then some v else (m F).bind (g F)) _ _ ∧ _ = Option.elim (if v = nI (lz_lp o) then some v else (m F).bind (g F)) _ _
        rw [eg, cv]
        exact ⟨lz_tc_leap ho _, lz_tr_leap ho _⟩
      · have eg : (if v = nI (lz_lp o) then some v else (m F).bind (g F)) = (m F).bind (g F) := if_neg cv
        show _ = Option.elim (if v = nI (lz_lp o) then some v else (m F).bind (g F)) _ _ ∧ _ = Option.elim (if v = nI (lz_lp o) then some v else (m F).bind (g F)) _ _
        rw [eg]
        have ev : v = nI (1 - lz_lp o) := by
          rcases ho with rfl | rfl <;> rcases hv with rfl | rfl
          · exact absurd rfl cv
          · rfl
          · rfl
          · exact absurd rfl cv
        rw [ev]
        refine ⟨?_, ?_⟩
        · show lz_rn F ((o, _) :: ((c.1 ++ lz_tc o (X.map Prod.fst)) ++ R)) _ = _
          rw [lz_rn_pop ho, List.append_assoc, m2 F _ s hs]
          cases e1 : m F with
          | none => rfl
          | some v1 => exact (g2 F R s v1 hs (m1 F v1 e1)).1
        · show lz_rn F ((o, _) :: ((c.2 ++ lz_tr o (X.map Prod.snd)) ++ R)) _ = _
          rw [lz_rn_pop ho, List.append_assoc, m3 F _ s hs]
          cases e1 : m F with
          | none => rfl
          | some v1 => exact (g2 F R s v1 hs (m1 F v1 e1)).2
theorem lz_sm_ch {o : Nat} (ho : o = 11 ∨ o = 12) {X : List (List (Nat × Nat) × List (Nat × Nat))} (h : lz_sm K1 K2 nd) (hX : ∀ c ∈ X, lz_sm c.1 c.2 nd) : lz_sm (K1 ++ lz_tc o (X.map Prod.fst)) (K2 ++ lz_tr o (X.map Prod.snd)) nd := by
  obtain ⟨g, g1, g2⟩ := lz_ch ho X hX
  obtain ⟨m, m1, m2, m3⟩ := h
  refine ⟨fun F => (m F).bind (g F), ?_, ?_, ?_⟩
  · intro F v e
    have e : (m F).bind (g F) = some v := e
    cases e1 : m F with
    | none => rw [e1] at e; cases e
    | some v1 => rw [e1] at e; exact g1 F v1 v (m1 F v1 e1) e
  · intro F R s hs
    rw [List.append_assoc, m2 F _ s hs]
    dsimp only
    cases e1 : m F with
    | none => rfl
    | some v1 => exact (g2 F R s v1 hs (m1 F v1 e1)).1
  · intro F R s hs
    rw [List.append_assoc, m3 F _ s hs]
    dsimp only
    cases e1 : m F with
    | none => rfl
    | some v1 => exact (g2 F R s v1 hs (m1 F v1 e1)).2
end LW1
