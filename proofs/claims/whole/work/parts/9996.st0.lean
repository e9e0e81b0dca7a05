/-! THE START: both objects made -/
def ds_iv (v : Value) : Int32 := match v with
  | .int x => x
  | .ref r => nI r
  | _ => 0
def ds_i (D : ds_D) (c i : Nat) : Int32 := match ds_l D c i with
  | some v => ds_iv v
  | none => 0
/-- a write that fits -/
def ds_w1 (w : (Nat × Nat) × Value) : Bool := decide (1 ≤ w.1.1 ∧ w.1.1 < 275) && match fk_shp w.1.1 with
  | (k, n) => decide (w.1.2 < n) && match w.2 with
    | .int _ => decide (k = 20 ∨ k = 21 ∨ k = 22) || (decide (k < 13) && decide (fk_ss k w.1.2 = 0))
    | .ref r => (decide (k = 24) && decide (r = w.1.1 + 2 + w.1.2)) || (decide (k < 13) && ((decide (fk_ss k w.1.2 = 1) && decide (r = fk_cr w.1.1 w.1.2)) || (decide (fk_ss k w.1.2 = 2) && decide (r < 2147483648))))
    | _ => false
/-- cells that are never written, and of the reference's row one number alone -/
def ds_w2 (w : (Nat × Nat) × Value) : Bool := !(w.1.1 == 23) && !(w.1.1 == 24) && !(w.1.1 == 254) && !(w.1.1 == 235) && !(w.1.1 == 35) && (!(w.1.1 == 247) || w.1.2 == 834)
/-- fields that name cells are all written -/
def ds_ful (D : ds_D) : Bool := (List.range 275).all fun c => match fk_shp c with
  | (k, n) => if k = 24 then (List.range n).all fun i => (ds_l D c i).isSome else if k < 13 then (List.range 50).all fun i => decide (fk_ss k i = 0) || decide (fk_ss k i = 3) || (ds_l D c i).isSome else true
def ds_num (D : ds_D) : Bool := ((List.range 32).all fun r => decide (ds_i D 19 r = -1)) && ((List.range 16).all fun p => decide (ds_i D 22 p = -1) && decide (ds_i D 253 p = -1)) && ((List.range 64).all fun j => decide (ds_i D (36 + j) 0 = nI j) && decide (ds_i D (103 + j) 0 = nI j) && decide (ds_i D (170 + j) 0 = nI j))
def ds_one (D : ds_D) : Bool := decide (ds_i D 246 3 = nI 0) && decide (ds_i D 246 10 = nI 0) && decide (ds_i D 246 19 = nI 0) && decide (ds_i D 246 33 = -1) && decide (ds_i D 246 36 = nI 0) && decide (ds_i D 246 49 = nI 0) && decide (ds_i D 26 1 = nI 0) && decide (ds_i D 1 0 = nI 2) && decide (ds_i D 1 1 = nI 10) && decide (ds_i D 1 2 = nI 0) && decide (ds_i D 2 8 = nI 0) && decide (ds_i D 247 834 = nI 1) && decide (ds_i D 33 2 = nI 0) && decide (ds_i D 33 3 = nI 0) && decide (ds_i D 33 4 = nI 1) && decide (ds_i D 33 5 = nI 0) && decide (ds_i D 33 6 = nI 0) && decide (ds_i D 33 7 = nI 0) && decide (ds_i D 33 8 = nI 0)
def ds_ok (D : ds_D) : Bool := decide (D.1 = 275) && decide (D.2.1 = 26683) && decide (D.2.2.1 = fk_shl.tail) && D.2.2.2.all ds_w1 && D.2.2.2.all ds_w2 && ds_ful D && ds_num D && ds_one D
section ST0
variable {N : Nat} {xs : Nat → Int32} {D : ds_D}
def ds_y (xs : Nat → Int32) (D : ds_D) : Nat → Nat → Int32 := fun c i => if c = 0 ∨ 275 ≤ c then xs i else ds_i D c i
theorem ds_tail : ∀ (A : List (Nat × Nat)) c z, A.tail.getD c z = A.getD (c + 1) z := by
  intro A c z
  cases A with
  | nil => rfl
  | cons a A => rfl
theorem ds_kinds : ∀ c, c < 275 → 1 ≤ c → (fk_shp c).1 < 13 ∨ (fk_shp c).1 = 20 ∨ (fk_shp c).1 = 21 ∨ (fk_shp c).1 = 22 ∨ (fk_shp c).1 = 23 ∨ (fk_shp c).1 = 24 := by decide +kernel
theorem ds_ss_lt : ∀ k, k < 13 → (fk_ssl.getD k []).length ≤ 50 := by decide +kernel
theorem ds_ss_i {k i : Nat} (hk : k < 13) (h : fk_ss k i ≠ 3) : i < 50 := by
  apply Decidable.byContradiction
  intro z
  apply h
  have := ds_ss_lt k hk
  unfold fk_ss
  rw [List.getD_eq_getElem?_getD, List.getElem?_eq_none (by omega)]
  rfl
theorem ds_ss_0 : ∀ k, k < 13 → ∀ i, i < 50 → fk_ss k i = 0 → defaultValue (fk_ty k i) = .int 0 := by decide +kernel
theorem ds_ss_3 : ∀ k, k < 13 → ∀ i, i < 50 → fk_ss k i ≤ 3 := by decide +kernel
theorem ds_shp_ge {c : Nat} (h : 275 ≤ c) : fk_shp c = (99, 0) := by
  unfold fk_shp
  rw [List.getD_eq_getElem?_getD, List.getElem?_eq_none (by rw [show fk_shl.length = 275 by decide +kernel]; exact h)]
  rfl
theorem ds_look {c i : Nat} {v : Value} (h : ds_l D c i = some v) : ((c, i), v) ∈ D.2.2.2 := by
  unfold ds_l at h
  cases e : D.2.2.2.find? (fun w => w.1.1 == c && w.1.2 == i) with
  | none => rw [e] at h; cases h
  | some w =>
    rw [e] at h
    cases h
    have h1 := List.find?_some e
    have h2 := List.mem_of_find?_eq_some e
    rw [Bool.and_eq_true, beq_iff_eq, beq_iff_eq] at h1
    obtain ⟨⟨a, b⟩, v⟩ := w
    obtain ⟨rfl, rfl⟩ := h1
    exact h2
theorem ds_E (h1 : D.1 = 275) (h2 : D.2.1 = 26683) (h3 : D.2.2.1 = fk_shl.tail) (h4 : ∀ w ∈ D.2.2.2, ds_w1 w = true) (h5 : ds_ful D = true) : ds_H N xs D = fk_E N (ds_y xs D) (fun _ _ => 0) := by
  have hk : ∀ c, ds_k N D c = if c = 0 then (30, N) else fk_shp c := fun c => by
    unfold ds_k
    by_cases c0 : c = 0
    · rw [if_pos c0, if_pos c0]
    · rw [if_neg c0, if_neg c0, h3, ds_tail, show c - 1 + 1 = c by omega]
      rfl
  have hful : ∀ c, c < 275 → ∀ i, ((fk_shp c).1 = 24 ∧ i < (fk_shp c).2) ∨ ((fk_shp c).1 < 13 ∧ (fk_ss (fk_shp c).1 i = 1 ∨ fk_ss (fk_shp c).1 i = 2)) → (ds_l D c i).isSome = true := by
    intro c hc i hi
    have := List.all_eq_true.mp h5 c (List.mem_range.mpr hc)
    generalize fk_shp c = q at this hi
    obtain ⟨k, n⟩ := q
    dsimp only at this hi
    rcases hi with ⟨e, hi⟩ | ⟨e, hi⟩
    · rw [if_pos e] at this
      exact List.all_eq_true.mp this i (List.mem_range.mpr hi)
    · rw [if_neg (by omega), if_pos e] at this
      have i50 := ds_ss_i e (show fk_ss k i ≠ 3 by omega)
      have := List.all_eq_true.mp this i (List.mem_range.mpr i50)
      rw [Bool.or_eq_true, Bool.or_eq_true, decide_eq_true_eq, decide_eq_true_eq] at this
      rcases this with (z | z) | z
      · omega
      · omega
      · exact z
  have hv : (fun c i => (ds_l D c i).getD (ds_v xs (ds_k N D c).1 i)) = fk_G (ds_y xs D) (fun _ _ => 0) := by
    funext c i
    rw [hk c]
    by_cases cc : c = 0 ∨ 275 ≤ c
    · have no : ds_l D c i = none := ds_l_no fun w hw z => by
        have := h4 w hw
        unfold ds_w1 at this
        rw [Bool.and_eq_true, decide_eq_true_eq] at this
        omega
      have ey : ds_y xs D c i = xs i := if_pos cc
      rw [no]
      show ds_v xs (if c = 0 then (30, N) else fk_shp c).1 i = _
      unfold fk_G
      rw [ey]
      rcases cc with cc | cc
      · rw [if_pos cc]
        subst cc
        rfl
      · rw [if_neg (by omega), ds_shp_ge cc]
        rfl
    · rw [if_neg (by omega)]
      have ey : ds_y xs D c i = ds_i D c i := if_neg cc
      have kd := ds_kinds c (by omega) (by omega)
      have hf := hful c (by omega) i
      cases el : ds_l D c i with
      | some v =>
        have hw := h4 _ (ds_look el)
        have ei : ds_i D c i = ds_iv v := by
          unfold ds_i
          rw [el]
        rw [ei] at ey
        unfold ds_w1 at hw
        rw [Bool.and_eq_true] at hw
        have hw := hw.2
        show v = _
        unfold fk_G
        rw [ey]
        generalize fk_shp c = q at hw kd
        obtain ⟨k, n⟩ := q
        dsimp only at hw kd ⊢
        rw [Bool.and_eq_true, decide_eq_true_eq] at hw
        obtain ⟨hi, hw⟩ := hw
        cases v with
        | int x =>
          dsimp only at hw ⊢
          rw [Bool.or_eq_true, Bool.and_eq_true, decide_eq_true_eq, decide_eq_true_eq, decide_eq_true_eq] at hw
          rcases hw with hw | ⟨k13, s0⟩
          · rw [if_neg (by omega), if_neg (by omega), if_neg (by omega)]
            rfl
          · rw [if_neg (by omega), if_neg (by omega), if_pos k13, if_pos s0]
            rfl
        | ref r =>
          dsimp only at hw ⊢
          rw [Bool.or_eq_true, Bool.and_eq_true, Bool.and_eq_true, Bool.or_eq_true, Bool.and_eq_true, Bool.and_eq_true, decide_eq_true_eq, decide_eq_true_eq, decide_eq_true_eq, decide_eq_true_eq, decide_eq_true_eq, decide_eq_true_eq, decide_eq_true_eq] at hw
          rcases hw with ⟨k24, er⟩ | ⟨k13, ⟨s1, er⟩ | ⟨s2, r31⟩⟩
          · rw [if_neg (by omega), if_pos k24, if_pos hi, er]
          · rw [if_neg (by omega), if_neg (by omega), if_pos k13, if_neg (by omega), if_pos s1, er]
          · rw [if_neg (by omega), if_neg (by omega), if_pos k13, if_neg (by omega), if_neg (by omega), if_pos s2]
            show Value.ref r = Value.ref (nI r).toNatClampNeg
            rw [nI_clamp r31]
        | _ => exact absurd (show false = true from hw) (by decide)
      | none =>
        rw [el] at hf
        have ei : ds_i D c i = 0 := by
          unfold ds_i
          rw [el]
        rw [ei] at ey
        show ds_v xs (fk_shp c).1 i = _
        unfold fk_G ds_v
        rw [ey]
        generalize fk_shp c = q at hf kd
        obtain ⟨k, n⟩ := q
        dsimp only at hf kd ⊢
        by_cases k13 : k < 13
        · rw [if_pos k13, if_neg (by omega), if_neg (by omega), if_pos k13]
          by_cases s0 : fk_ss k i = 0
          · rw [if_pos s0]
            exact ds_ss_0 k k13 i (ds_ss_i k13 (by omega)) s0
          · rw [if_neg s0, if_neg (fun z => by cases hf (Or.inr ⟨k13, Or.inl z⟩)), if_neg (fun z => by cases hf (Or.inr ⟨k13, Or.inr z⟩))]
        · rw [if_neg k13]
          by_cases k23 : k = 23
          · rw [if_pos k23, if_pos k23]
          · rw [if_neg k23, if_neg k23]
            by_cases k24 : k = 24
            · rw [if_pos k24, if_pos k24, if_neg (fun z => by cases hf (Or.inl ⟨k24, z⟩))]
            · rw [if_neg k24, if_neg k24, if_pos (by omega), if_neg k13]
  unfold ds_H fk_E
  rw [hv, h1, h2]
  have hk2 : ds_k N D = fun c => if c = 0 then (30, N) else fk_shp c := funext hk
  rw [hk2]
theorem ds_h0 : ds_H N xs (1, 0, [], []) = fk_h0 N xs := by
  have e1 : ds_k N (1, 0, [], []) = fun c => if c = 0 then (30, N) else (99, 0) := by
    funext c
    rfl
  have e2 : (fun c i => (ds_l (1, 0, [], []) c i).getD (ds_v xs (ds_k N (1, 0, [], []) c).1 i)) = fun _ j => Value.int (xs j) := by
    funext c i
    show ds_v xs (ds_k N (1, 0, [], []) c).1 i = _
    rw [e1]
    dsimp only
    by_cases c0 : c = 0
    · rw [if_pos c0]; rfl
    · rw [if_neg c0]; rfl
  unfold ds_H fk_h0
  rw [e2, e1]
end ST0
