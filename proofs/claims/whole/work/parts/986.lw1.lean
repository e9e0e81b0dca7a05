/-! THE LAW: what orders come to, pure. An order is a kind (0 number, 1 letter, 2 .. 9 signs, 10 not, 11 and, 12 or) and what goes with it; leaps are said by how far -/
def lw_o (o : Nat) (x z : Int32) : Int32 := if o = 2 then x + z else if o = 3 then x - z else if o = 4 then x * z else if o = 5 then x / z else if o = 6 then x - x / z * z else if o = 7 then (if x < z then nI 1 else nI 0) else if o = 8 then (if z < x then nI 1 else nI 0) else (if x = z then nI 1 else nI 0)
def lw_r (F : Nat → Int32) : Nat → List (Nat × Nat) → List Int32 → Option (Option (List Int32))
  | 0, K, s => if K.length = 0 then some (some s) else none
  | k + 1, K, s => match K with
    | [] => some (some s)
    | c :: K => if c.1 = 0 then (if s.length < 32 then lw_r F k K (nI c.2 :: s) else none) else if c.1 = 1 then (if s.length < 32 ∧ c.2 < 14 then lw_r F k K (F c.2 :: s) else none) else match s with
      | [] => none
      | r :: t => if c.1 = 10 then (if r = nI 0 then lw_r F k K (nI 1 :: t) else if r = nI 1 then lw_r F k K (nI 0 :: t) else none) else if c.1 = 11 then (if r = nI 0 then (if c.2 ≤ K.length + 1 ∧ 0 < c.2 then lw_r F k (K.drop (c.2 - 1)) s else none) else if r = nI 1 then lw_r F k K t else none) else if c.1 = 12 then (if r = nI 1 then (if c.2 ≤ K.length + 1 ∧ 0 < c.2 then lw_r F k (K.drop (c.2 - 1)) s else none) else if r = nI 0 then lw_r F k K t else none) else match t with
        | [] => none
        | x :: u => if (c.1 = 5 ∨ c.1 = 6) ∧ r = nI 0 then some none else if c.1 ≤ 9 then lw_r F k K (lw_o c.1 x r :: u) else none
section LW1
variable {F : Nat → Int32} {K K1 K2 R : List (Nat × Nat)} {s t u : List Int32} {r x v : Int32} {m m1 m2 : (Nat → Int32) → Option Int32} {nd n1 n2 : Nat}
theorem lw_r_fuel : ∀ k (K : List (Nat × Nat)) s, K.length ≤ k → ∀ k', K.length ≤ k' → lw_r F k K s = lw_r F k' K s := by
  intro k
  induction k with
  | zero =>
    intro K s h k' h'
    cases K with
    | nil => cases k' <;> rfl
    | cons c K => exact absurd h (Nat.not_succ_le_zero _)
  | succ k ih =>
    intro K s h k' h'
    cases K with
    | nil => cases k' <;> rfl
    | cons c K =>
      cases k' with
      | zero => exact absurd h' (Nat.not_succ_le_zero _)
      | succ k' =>
        have h1 : K.length ≤ k := Nat.le_of_succ_le_succ h
        have h2 : K.length ≤ k' := Nat.le_of_succ_le_succ h'
        have e1 : ∀ s, lw_r F k K s = lw_r F k' K s := fun s => ih K s h1 k' h2
        have e2 : ∀ j s, lw_r F k (K.drop j) s = lw_r F k' (K.drop j) s := fun j s => ih (K.drop j) s (by rw [List.length_drop]; omega) k' (by rw [List.length_drop]; omega)
        simp only [lw_r, e1, e2]
/-- a run of orders, with a stack -/
def lw_rn (F : Nat → Int32) (K : List (Nat × Nat)) (s : List Int32) : Option (Option (List Int32)) := lw_r F K.length K s
theorem lw_rn_k {k : Nat} (h : K.length ≤ k) : lw_r F k K s = lw_rn F K s := lw_r_fuel k K s h K.length (Nat.le_refl _)
theorem lw_rn_nil : lw_rn F [] s = some (some s) := rfl
theorem lw_rn_num {x : Nat} (h : s.length < 32) : lw_rn F ((0, x) :: K) s = lw_rn F K (nI x :: s) := by
  show lw_r F (K.length + 1) _ _ = _
  simp only [lw_r, if_true, if_pos h]
  rfl
theorem lw_rn_let {x : Nat} (h : s.length < 32) (hx : x < 14) : lw_rn F ((1, x) :: K) s = lw_rn F K (F x :: s) := by
  show lw_r F (K.length + 1) _ _ = _
  simp only [lw_r]
  rw [if_neg (by decide), if_pos trivial, if_pos ⟨h, hx⟩]
  rfl
theorem lw_rn_not0 {x : Nat} : lw_rn F ((10, x) :: K) (nI 0 :: t) = lw_rn F K (nI 1 :: t) := by
  show lw_r F (K.length + 1) _ _ = _
  simp only [lw_r]
  rw [if_neg (by decide), if_neg (by decide), if_pos trivial, if_pos trivial]
  rfl
theorem lw_rn_not1 {x : Nat} : lw_rn F ((10, x) :: K) (nI 1 :: t) = lw_rn F K (nI 0 :: t) := by
  show lw_r F (K.length + 1) _ _ = _
  simp only [lw_r]
  rw [if_neg (by decide), if_neg (by decide), if_pos trivial, if_neg (by decide), if_pos trivial]
  rfl
/-- and, or: o = 11, 12 leap at 0, 1 -/
def lw_lp (o : Nat) : Nat := if o = 11 then 0 else 1
theorem lw_rn_leap {o x : Nat} (ho : o = 11 ∨ o = 12) (h : x ≤ K.length + 1) (h0 : 0 < x) : lw_rn F ((o, x) :: K) (nI (lw_lp o) :: t) = lw_rn F (K.drop (x - 1)) (nI (lw_lp o) :: t) := by
  have e := lw_rn_k (F := F) (K := K.drop (x - 1)) (s := nI (lw_lp o) :: t) (k := K.length) (by rw [List.length_drop]; omega)
  rw [← e]
  show lw_r F (K.length + 1) _ _ = _
  rcases ho with rfl | rfl
  · simp only [lw_r]
    rw [if_neg (by decide), if_neg (by decide), if_neg (by decide), if_pos trivial, if_pos (show nI (lw_lp 11) = nI 0 from rfl), if_pos ⟨h, h0⟩]
  · simp only [lw_r]
    rw [if_neg (by decide), if_neg (by decide), if_neg (by decide), if_neg (by decide), if_pos trivial, if_pos (show nI (lw_lp 12) = nI 1 from rfl), if_pos ⟨h, h0⟩]
theorem lw_rn_pop {o x : Nat} (ho : o = 11 ∨ o = 12) : lw_rn F ((o, x) :: K) (nI (1 - lw_lp o) :: t) = lw_rn F K t := by
  show lw_r F (K.length + 1) _ _ = _
  rcases ho with rfl | rfl
  · simp only [lw_r]
    rw [if_neg (by decide), if_neg (by decide), if_neg (by decide), if_pos trivial, if_neg (by decide), if_pos (show nI (1 - lw_lp 11) = nI 1 from rfl)]
    rfl
  · simp only [lw_r]
    rw [if_neg (by decide), if_neg (by decide), if_neg (by decide), if_neg (by decide), if_pos trivial, if_neg (by decide), if_pos (show nI (1 - lw_lp 12) = nI 0 from rfl)]
    rfl
theorem lw_rn_op {o y : Nat} (h1 : 2 ≤ o) (h2 : o ≤ 9) : lw_rn F ((o, y) :: K) (r :: x :: u) = if (o = 5 ∨ o = 6) ∧ r = nI 0 then some none else lw_rn F K (lw_o o x r :: u) := by
  show lw_r F (K.length + 1) _ _ = _
  simp only [lw_r]
  rw [if_neg (show ¬ o = 0 by omega), if_neg (show ¬ o = 1 by omega), if_neg (show ¬ o = 10 by omega), if_neg (show ¬ o = 11 by omega), if_neg (show ¬ o = 12 by omega)]
  by_cases c : (o = 5 ∨ o = 6) ∧ r = nI 0
  · rw [if_pos c, if_pos c]
  · rw [if_neg c, if_neg c, if_pos h2]
    rfl
/-- orders that come to one value more, whatever follows -/
def lw_mn (K : List (Nat × Nat)) (m : (Nat → Int32) → Option Int32) (nd : Nat) : Prop := ∀ F R s, s.length + nd ≤ 32 → lw_rn F (K ++ R) s = (m F).elim (some none) (fun v => lw_rn F R (v :: s))
theorem lw_mn_le (h : lw_mn K m n1) (hn : n1 ≤ n2) : lw_mn K m n2 := fun F R s hs => h F R s (by omega)
theorem lw_mn_num {x : Nat} : lw_mn [(0, x)] (fun _ => some (nI x)) 1 := fun F R s hs => lw_rn_num (by omega)
theorem lw_mn_let {x : Nat} (hx : x < 14) : lw_mn [(1, x)] (fun F => some (F x)) 1 := fun F R s hs => lw_rn_let (by omega) hx
def lw_m2 (o : Nat) (m1 m2 : (Nat → Int32) → Option Int32) : (Nat → Int32) → Option Int32 := fun F => (m1 F).bind fun v1 => (m2 F).bind fun v2 => if (o = 5 ∨ o = 6) ∧ v2 = nI 0 then none else some (lw_o o v1 v2)
theorem lw_mn_op {o y : Nat} (g1 : 2 ≤ o) (g2 : o ≤ 9) (h1 : lw_mn K1 m1 n1) (h2 : lw_mn K2 m2 n2) (hn : n2 + 1 ≤ n1) : lw_mn (K1 ++ (K2 ++ [(o, y)])) (lw_m2 o m1 m2) n1 := by
  intro F R s hs
  rw [List.append_assoc, List.append_assoc, h1 F _ s hs]
  unfold lw_m2
  cases m1 F with
  | none => rfl
  | some v1 =>
    show lw_rn F (K2 ++ ([(o, y)] ++ R)) (v1 :: s) = _
    rw [h2 F _ (v1 :: s) (by rw [List.length_cons]; omega)]
    cases m2 F with
    | none => rfl
    | some v2 =>
      show lw_rn F ((o, y) :: R) (v2 :: v1 :: s) = _
      rw [lw_rn_op g1 g2]
      show _ = Option.elim (if _ then _ else _) _ _
      by_cases c : (o = 5 ∨ o = 6) ∧ v2 = nI 0
      · rw [if_pos c, if_pos c]; rfl
      · rw [if_neg c, if_neg c]; rfl
/-- a row of signs and pieces behind a first piece -/
def lw_ar : List (Nat × List (Nat × Nat)) → List (Nat × Nat)
  | [] => []
  | c :: r => c.2 ++ (c.1, 0) :: lw_ar r
theorem lw_mn_ar : ∀ (X : List (Nat × List (Nat × Nat))) (K1 : List (Nat × Nat)) m1, (∀ c ∈ X, 2 ≤ c.1 ∧ c.1 ≤ 9 ∧ ∃ m, lw_mn c.2 m n2) → lw_mn K1 m1 n1 → n2 + 1 ≤ n1 → ∃ m, lw_mn (K1 ++ lw_ar X) m n1 := by
  intro X
  induction X with
  | nil => intro K1 m1 _ h _; exact ⟨m1, by show lw_mn (K1 ++ []) _ _; rw [List.append_nil]; exact h⟩
  | cons c X ih =>
    intro K1 m1 hX h hn
    obtain ⟨c1, c2, m2, hm⟩ := hX c (List.mem_cons_self ..)
    have := ih (K1 ++ (c.2 ++ [(c.1, 0)])) _ (fun c' hc => hX c' (List.mem_cons_of_mem _ hc)) (lw_mn_op c1 c2 h hm hn) hn
    obtain ⟨m, e⟩ := this
    refine ⟨m, ?_⟩
    have ee : K1 ++ (c.2 ++ [(c.1, 0)]) ++ lw_ar X = K1 ++ lw_ar (c :: X) := by
      show _ = K1 ++ (c.2 ++ (c.1, 0) :: lw_ar X)
      rw [List.append_assoc, List.append_assoc]
      rfl
    rw [← ee]
    exact e
/-- a condition's orders: the class's and the reference's -/
def lw_sm (K1 K2 : List (Nat × Nat)) (nd : Nat) : Prop := ∃ m : (Nat → Int32) → Option Int32, (∀ F v, m F = some v → v = nI 0 ∨ v = nI 1) ∧ lw_mn K1 m nd ∧ lw_mn K2 m nd
theorem lw_o_c {o : Nat} (h : 7 ≤ o) : lw_o o x v = nI 0 ∨ lw_o o x v = nI 1 := by
  unfold lw_o
  rw [if_neg (by omega), if_neg (by omega), if_neg (by omega), if_neg (by omega), if_neg (by omega)]
  split
  · split
    · exact Or.inr rfl
    · exact Or.inl rfl
  · split
    · split
      · exact Or.inr rfl
      · exact Or.inl rfl
    · split
      · exact Or.inr rfl
      · exact Or.inl rfl
theorem lw_sm_cmp {o : Nat} (g1 : 7 ≤ o) (g2 : o ≤ 9) (h1 : lw_mn K1 m1 n1) (h2 : lw_mn K2 m2 n2) (hn : n2 + 1 ≤ n1) : lw_sm (K1 ++ (K2 ++ [(o, 0)])) (K1 ++ (K2 ++ [(o, 0)])) n1 := by
  refine ⟨_, ?_, lw_mn_op (by omega) g2 h1 h2 hn, lw_mn_op (by omega) g2 h1 h2 hn⟩
  intro F v h
  unfold lw_m2 at h
  cases e1 : m1 F with
  | none => rw [e1] at h; cases h
  | some v1 =>
    cases e2 : m2 F with
    | none => rw [e1, e2] at h; cases h
    | some v2 =>
      rw [e1, e2] at h
      have h : (if (o = 5 ∨ o = 6) ∧ v2 = nI 0 then none else some (lw_o o v1 v2)) = some v := h
      rw [if_neg (by omega)] at h
      cases h
      exact lw_o_c g1
theorem lw_sm_not (h : lw_sm K1 K2 nd) : lw_sm (K1 ++ [(10, 0)]) (K2 ++ [(10, 0)]) nd := by
  obtain ⟨m, hm, h1, h2⟩ := h
  refine ⟨fun F => (m F).map (fun v => if v = nI 0 then nI 1 else nI 0), ?_, ?_, ?_⟩
  · intro F v e
    dsimp only at e
    cases e1 : m F with
    | none => rw [e1] at e; cases e
    | some w =>
      rw [e1] at e
      cases e
      by_cases c : w = nI 0
      · exact Or.inr (if_pos c)
      · exact Or.inl (if_neg c)
  all_goals
    intro F R s hs
    rw [List.append_assoc]
    first
      | rw [h1 F _ s hs]
      | rw [h2 F _ s hs]
    dsimp only
    cases e1 : m F with
    | none => rfl
    | some w =>
      rcases hm F w e1 with rfl | rfl
      · exact lw_rn_not0
      · exact lw_rn_not1
/-- chains: the class leaps to the end, the reference to the next sign -/
def lw_tc (o : Nat) : List (List (Nat × Nat)) → List (Nat × Nat)
  | [] => []
  | K :: r => (o, (K ++ lw_tc o r).length + 1) :: (K ++ lw_tc o r)
def lw_tr (o : Nat) : List (List (Nat × Nat)) → List (Nat × Nat)
  | [] => []
  | K :: r => (o, K.length + 1) :: (K ++ lw_tr o r)
theorem lw_tc_leap {o : Nat} (ho : o = 11 ∨ o = 12) : ∀ X : List (List (Nat × Nat)), lw_rn F (lw_tc o X ++ R) (nI (lw_lp o) :: s) = lw_rn F R (nI (lw_lp o) :: s) := by
  intro X
  cases X with
  | nil => rfl
  | cons K r =>
    show lw_rn F ((o, (K ++ lw_tc o r).length + 1) :: ((K ++ lw_tc o r) ++ R)) _ = _
    rw [lw_rn_leap ho (by rw [List.length_append (as := K ++ lw_tc o r)]; omega) (by omega), Nat.add_sub_cancel, List.drop_left]
theorem lw_tr_leap {o : Nat} (ho : o = 11 ∨ o = 12) : ∀ X : List (List (Nat × Nat)), lw_rn F (lw_tr o X ++ R) (nI (lw_lp o) :: s) = lw_rn F R (nI (lw_lp o) :: s) := by
  intro X
  induction X with
  | nil => rfl
  | cons K r ih =>
    show lw_rn F ((o, K.length + 1) :: ((K ++ lw_tr o r) ++ R)) _ = _
    rw [List.append_assoc, lw_rn_leap ho (by rw [List.length_append]; omega) (by omega), Nat.add_sub_cancel, List.drop_left]
    exact ih
def lw_mt (o : Nat) (m : (Nat → Int32) → Option Int32) (F : Nat → Int32) (v : Int32) : Option Int32 := if v = nI (lw_lp o) then some v else m F
/-- one more piece: the value so far v, then the chain -/
theorem lw_ch {o : Nat} (ho : o = 11 ∨ o = 12) : ∀ X : List (List (Nat × Nat) × List (Nat × Nat)), (∀ c ∈ X, lw_sm c.1 c.2 nd) → ∃ g : (Nat → Int32) → Int32 → Option Int32, (∀ F v w, (v = nI 0 ∨ v = nI 1) → g F v = some w → w = nI 0 ∨ w = nI 1) ∧ ∀ F R s v, s.length + nd ≤ 32 → (v = nI 0 ∨ v = nI 1) → lw_rn F (lw_tc o (X.map Prod.fst) ++ R) (v :: s) = (g F v).elim (some none) (fun w => lw_rn F R (w :: s)) ∧ lw_rn F (lw_tr o (X.map Prod.snd) ++ R) (v :: s) = (g F v).elim (some none) (fun w => lw_rn F R (w :: s)) := by
  intro X
  induction X with
  | nil => intro _; exact ⟨fun F v => some v, fun F v w h e => by cases e; exact h, fun F R s v _ _ => ⟨rfl, rfl⟩⟩
  | cons c X ih =>
    intro hX
    obtain ⟨g, g1, g2⟩ := ih fun c' hc => hX c' (List.mem_cons_of_mem _ hc)
    obtain ⟨m, m1, m2, m3⟩ := hX c (List.mem_cons_self ..)
    refine ⟨fun F v => if v = nI (lw_lp o) then some v else (m F).bind (g F), ?_, ?_⟩
    · intro F v w hv e
      have e : (if v = nI (lw_lp o) then some v else (m F).bind (g F)) = some w := e
      by_cases c : v = nI (lw_lp o)
      · rw [if_pos c] at e; cases e; exact hv
      · rw [if_neg c] at e
        cases e1 : m F with
        | none => rw [e1] at e; cases e
        | some v1 => rw [e1] at e; exact g1 F v1 w (m1 F v1 e1) e
    · intro F R s v hs hv
      by_cases cv : v = nI (lw_lp o)
      · have eg : (if v = nI (lw_lp o) then some v else (m F).bind (g F)) = some v := if_pos cv
        show _ = Option.elim (if v = nI (lw_lp o) then some v else (m F).bind (g F)) _ _ ∧ _ = Option.elim (if v = nI (lw_lp o) then some v else (m F).bind (g F)) _ _
        rw [eg, cv]
        exact ⟨lw_tc_leap ho _, lw_tr_leap ho _⟩
      · have eg : (if v = nI (lw_lp o) then some v else (m F).bind (g F)) = (m F).bind (g F) := if_neg cv
        show _ = Option.elim (if v = nI (lw_lp o) then some v else (m F).bind (g F)) _ _ ∧ _ = Option.elim (if v = nI (lw_lp o) then some v else (m F).bind (g F)) _ _
        rw [eg]
        have ev : v = nI (1 - lw_lp o) := by
          rcases ho with rfl | rfl <;> rcases hv with rfl | rfl
          · exact absurd rfl cv
          · rfl
          · rfl
          · exact absurd rfl cv
        rw [ev]
        refine ⟨?_, ?_⟩
        · show lw_rn F ((o, _) :: ((c.1 ++ lw_tc o (X.map Prod.fst)) ++ R)) _ = _
          rw [lw_rn_pop ho, List.append_assoc, m2 F _ s hs]
          cases e1 : m F with
          | none => rfl
          | some v1 => exact (g2 F R s v1 hs (m1 F v1 e1)).1
        · show lw_rn F ((o, _) :: ((c.2 ++ lw_tr o (X.map Prod.snd)) ++ R)) _ = _
          rw [lw_rn_pop ho, List.append_assoc, m3 F _ s hs]
          cases e1 : m F with
          | none => rfl
          | some v1 => exact (g2 F R s v1 hs (m1 F v1 e1)).2
theorem lw_sm_ch {o : Nat} (ho : o = 11 ∨ o = 12) {X : List (List (Nat × Nat) × List (Nat × Nat))} (h : lw_sm K1 K2 nd) (hX : ∀ c ∈ X, lw_sm c.1 c.2 nd) : lw_sm (K1 ++ lw_tc o (X.map Prod.fst)) (K2 ++ lw_tr o (X.map Prod.snd)) nd := by
  obtain ⟨g, g1, g2⟩ := lw_ch ho X hX
  obtain ⟨m, m1, m2, m3⟩ := h
  refine ⟨fun F => (m F).bind (g F), ?_, ?_, ?_⟩
  · intro F v e
    have e : (m F).bind (g F) = some v := e
    cases e1 : m F with
    | none => rw [e1] at e; cases e
    | some v1 => rw [e1] at e; exact g1 F v1 v (m1 F v1 e1) e
  · intro F R s hs
    rw [List.append_assoc, m2 F _ s hs]
    dsimp only
    cases e1 : m F with
    | none => rfl
    | some v1 => exact (g2 F R s v1 hs (m1 F v1 e1)).1
  · intro F R s hs
    rw [List.append_assoc, m3 F _ s hs]
    dsimp only
    cases e1 : m F with
    | none => rfl
    | some v1 => exact (g2 F R s v1 hs (m1 F v1 e1)).2
end LW1
