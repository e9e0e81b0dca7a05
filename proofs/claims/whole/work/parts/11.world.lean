/-! THE WORLD: what the machine's heap holds when the small machine is at h. Cell c lies at b0 + c, the script (cell 0) at b. -/
def fk_ad (b : Nat → Nat) (b0 c : Nat) : Nat := if c = 0 then b 0 else b0 + c
def fk_z (b : Nat → Nat) (b0 : Nat) (v : Value) : Value := match v with
  | .ref c => .ref (fk_ad b b0 c)
  | .int x => .int x
  | .long x => .long x
  | .float x => .float x
  | .double x => .double x
  | .null => .null
  | .retAddr x => .ref (b (x + 1))
def fk_ro (b : Nat → Nat) (b0 : Nat) (v : Value) : Option Nat := match v with
  | .ref c => some (fk_ad b b0 c)
  | _ => none
def fk_e (cA : Nat → ClassId) (b : Nat → Nat) (b0 : Nat) (h : fk_H) (c : Nat) : va_E :=
  if (h.2.2.1 c).1 < 13 then .inr ((h.2.2.1 c).1, (List.range (fk_nf (h.2.2.1 c).1)).map (fun k => fk_z b b0 (h.2.2.2 c k)))
  else if (h.2.2.1 c).1 = 23 then .inl (cA (h.2.2.1 c).1, (h.2.2.1 c).2, .inr (.inl (fun i => fk_lv (h.2.2.2 c i))))
  else if (h.2.2.1 c).1 = 24 then .inl (cA (h.2.2.1 c).1, (h.2.2.1 c).2, .inr (.inr (.inr (.inr (fun i => fk_ro b b0 (h.2.2.2 c i))))))
  else .inl (cA (h.2.2.1 c).1, (h.2.2.1 c).2, .inl (fun i => fk_iv (h.2.2.2 c i)))
def fk_ws (cA : Nat → ClassId) (b : Nat → Nat) (b0 : Nat) (h : fk_H) : va_W := (List.range (h.1 - 1)).map (fun k => (b0 + (k + 1), fk_e cA b b0 h (k + 1)))
def fk_tys (cA : Nat → ClassId) : List (ClassId × FieldType) := [(cA 20, .int), (cA 21, .byte), (cA 22, .boolean), (cA 23, .long), (cA 24, .object "ForkTown$Half")]
def fk_Wd (D : va_G) (cA : Nat → ClassId) (b : Nat → Nat) (b0 : Nat) (h : fk_H) (U : State) (H : Heap) : Prop :=
  va_K D vwCl (fk_tys cA) U ∧ va_P D vwCl (fk_ws cA b b0 h) H ∧ H.size = b0 + h.1 ∧ 0 < h.1 ∧ b 0 ≤ b0 ∧ va_X (b 0) (h.2.2.1 0).2 (fun j => fk_iv (h.2.2.2 0 j)) U H
def fk_nst (w : Cond) : Bool := match w with
  | .fieldLinkNest .. => true
  | .methodLinkNest .. => true
  | _ => false
/-- what stays as it is when methods are called: words, String constants -/
def fk_St (b : Nat → Nat) (b0 : Nat) (U : State) : Prop := ((∀ w ∈ lw_tbl, fk_nst w = true → va_Nw w U) ∧ va_AO "ForkTown$Half" U) ∧ (∀ i, i < 4 → vk_R "ForkTown$LawReader" (fk_stx.getD i (0, "")).1 (fk_stx.getD i (0, "")).2 (b (2 * i + 1)) U) ∧ vk_S 4 fk_sln fk_sbt (fun i => b (2 * i + 1)) (fun i => b (2 * i + 2)) (fun q => b0 < q) U U.heap ∧ va_Z "java/lang/String" "COMPACT_STRINGS" "Z" (.int 1) (fun q => b0 < q) U U.heap
def fk_gd : List Cond := lw_tbl.filter goodWord
theorem fk_z_cat (b : Nat → Nat) (b0 : Nat) (v : Value) : (fk_z b b0 v).category = v.category := by cases v <;> rfl
theorem fk_z_null {b : Nat → Nat} {b0 : Nat} {v : Value} (h : v ≠ .null) : fk_z b b0 v ≠ .null := by cases v <;> simp_all [fk_z]
theorem fk_ws_at {cA : Nat → ClassId} {b : Nat → Nat} {b0 : Nat} {h : fk_H} {c : Nat} (h0 : 0 < c) (h1 : c < h.1) : (fk_ws cA b b0 h)[c - 1]? = some (b0 + c, fk_e cA b b0 h c) := by
  unfold fk_ws
  rw [List.getElem?_map, List.getElem?_range (by omega)]
  simp only [Option.map_some]
  rw [show c - 1 + 1 = c by omega]
theorem fk_ws_D {cA : Nat → ClassId} {b : Nat → Nat} {b0 : Nat} {h : fk_H} : va_D (fun q => b0 < q) (fk_ws cA b b0 h) := by
  refine ⟨fun i j x y hx hy hxy => ?_, fun k q hq => ?_⟩
  · unfold fk_ws at hx hy
    rw [List.getElem?_map] at hx hy
    obtain ⟨i', h1, h2⟩ := Option.map_eq_some_iff.mp hx
    obtain ⟨j', h3, h4⟩ := Option.map_eq_some_iff.mp hy
    obtain ⟨k1, k2⟩ := List.getElem?_eq_some_iff.mp h1
    obtain ⟨k3, k4⟩ := List.getElem?_eq_some_iff.mp h3
    rw [List.getElem_range] at k2 k4
    rw [← h2, ← h4] at hxy
    dsimp only at hxy
    omega
  · unfold fk_ws at hq
    rw [List.getElem?_map] at hq
    obtain ⟨i', h1, h2⟩ := Option.map_eq_some_iff.mp hq
    rw [← h2]
    dsimp only
    omega
/-- one cell changed -/
theorem fk_ws_set {cA : Nat → ClassId} {b : Nat → Nat} {b0 : Nat} {h h' : fk_H} {c : Nat} {E : va_E} (h0 : 0 < c) (h1 : c < h.1) (e1 : h'.1 = h.1) (e2 : fk_e cA b b0 h' c = E) (e3 : ∀ x, x ≠ c → fk_e cA b b0 h' x = fk_e cA b b0 h x) : (fk_ws cA b b0 h).set (c - 1) (b0 + c, E) = fk_ws cA b b0 h' := by
  apply List.ext_getElem?
  intro i
  by_cases hi : i = c - 1
  · subst hi
    rw [List.getElem?_set_self (by unfold fk_ws; rw [List.length_map, List.length_range]; omega), fk_ws_at h0 (by omega), e2]
  · rw [List.getElem?_set_ne (fun q => hi q.symm)]
    unfold fk_ws
    rw [List.getElem?_map, List.getElem?_map, e1]
    by_cases hl : i < h.1 - 1
    · rw [List.getElem?_range hl]
      simp only [Option.map_some]
      rw [e3 (i + 1) (by omega)]
    · rw [List.getElem?_eq_none (by rw [List.length_range]; omega)]
      rfl
/-- one cell more -/
theorem fk_ws_push {cA : Nat → ClassId} {b : Nat → Nat} {b0 : Nat} {h h' : fk_H} (h0 : 0 < h.1) (e1 : h'.1 = h.1 + 1) (e3 : ∀ x, x ≠ h.1 → fk_e cA b b0 h' x = fk_e cA b b0 h x) : fk_ws cA b b0 h' = fk_ws cA b b0 h ++ [(b0 + h.1, fk_e cA b b0 h' h.1)] := by
  unfold fk_ws
  rw [e1, show h.1 + 1 - 1 = (h.1 - 1) + 1 by omega, List.range_succ, List.map_append, List.map_singleton, show h.1 - 1 + 1 = h.1 by omega]
  congr 1
  apply List.map_congr_left
  intro k hk
  rw [e3 (k + 1) (by have := List.mem_range.mp hk; omega)]
theorem fk_St_warm {b : Nat → Nat} {b0 : Nat} {s U : State} (hW : s.WarmedH U.vm) (hq : ∀ a : Nat, a < s.heap.size → ¬ b0 < a → U.heap[a]? = s.heap[a]?) (h : fk_St b b0 s) : fk_St b b0 U := by
  refine ⟨⟨fun w hw hn => ?_, va_AO.moved hW.alike h.1.2⟩, fun i hi => vk_R.warm hW (h.2.1 i hi), (vk_S.moved hW.alike h.2.2.1).kept hq, (va_Z.moved hW.alike h.2.2.2).kept hq⟩
  have h1 := h.1.1 w hw hn
  cases w <;> first | exact va_Nw.warmF hW h1 | exact va_Nw.warmM hW h1 | (simp [fk_nst] at hn)
theorem fk_St_same {b : Nat → Nat} {b0 : Nat} {u U : State} (hv : u.vm = U.vm) (hh : U.heap = u.heap) (h : fk_St b b0 u) : fk_St b b0 U := by
  have hal : u.vm.Alike U.vm := by rw [hv]; exact Vm.Alike.refl _
  refine ⟨⟨fun w hw hn => ?_, va_AO.moved hal h.1.2⟩, fun i hi => vk_R.same hv.symm (h.2.1 i hi), by rw [hh]; exact vk_S.moved hal h.2.2.1, by rw [hh]; exact va_Z.moved hal h.2.2.2⟩
  have h1 := h.1.1 w hw hn
  refine va_Nw.same ?_ hv h1
  cases w <;> first | rfl | (simp [fk_nst] at hn)
theorem fk_Wd_moved {D : va_G} {cA : Nat → ClassId} {b : Nat → Nat} {b0 : Nat} {h : fk_H} {u U : State} {H : Heap} (hvm : u.vm.Alike U.vm) (w : fk_Wd D cA b b0 h u H) : fk_Wd D cA b b0 h U H :=
  ⟨va_K.moved hvm w.1, w.2.1, w.2.2.1, w.2.2.2.1, w.2.2.2.2.1, va_X.moved hvm w.2.2.2.2.2⟩
/-! the locals -/
def fk_pr (b : Nat → Nat) (b0 : Nat) (L : List Value) : List (Nat × Value) := (List.range L.length).filterMap (fun j => match L[j]? with
  | some v => if v = .null then none else some (j, fk_z b b0 v)
  | none => none)
theorem fk_pr_mem {b : Nat → Nat} {b0 : Nat} {L : List Value} {q : Nat × Value} : q ∈ fk_pr b b0 L ↔ ∃ v, L[q.1]? = some v ∧ v ≠ .null ∧ q.2 = fk_z b b0 v := by
  unfold fk_pr
  rw [List.mem_filterMap]
  constructor
  · rintro ⟨j, -, hj⟩
    split at hj
    next v hv =>
      split at hj
      next => cases hj
      next hn =>
        cases hj
        exact ⟨v, hv, hn, rfl⟩
    next => cases hj
  · rintro ⟨v, h1, h2, h3⟩
    refine ⟨q.1, List.mem_range.mpr (List.getElem?_eq_some_iff.mp h1).1, ?_⟩
    rw [h1]
    simp only [h2, if_false]
    rw [← h3]
def fk_L (b : Nat → Nat) (b0 : Nat) (me : fk_Me) (ls : Array Slot) (L : List Value) : Prop :=
  L.length = me.2.2.2.1 ∧ lv_has ls me.2.2.2.1 (fk_pr b b0 L) ∧ ∀ (i : Nat) (v : Value), L[i]? = some v → v.category = 2 → i + 1 ∈ me.2.2.2.2.2
theorem fk_L_at {b : Nat → Nat} {b0 : Nat} {me : fk_Me} {ls : Array Slot} {L : List Value} (h : fk_L b b0 me ls L) {i : Nat} {v : Value} (hv : L[i]? = some v) (hn : v ≠ .null) : ls[i]? = some (.val (fk_z b b0 v)) :=
  h.2.1.2.2 (i, fk_z b b0 v) (fk_pr_mem.mpr ⟨v, hv, hn, rfl⟩)
theorem fk_L_set1 {b : Nat → Nat} {b0 : Nat} {me : fk_Me} {ls ls' : Array Slot} {L : List Value} {i : Nat} {v w : Value} (h : fk_L b b0 me ls L) (hi : i < L.length) (hs : i ∉ me.2.2.2.2.2) (hc : v.category = 1) (hw : w = fk_z b b0 v)
    (h' : lv_has ls' me.2.2.2.1 ((i, w) :: (fk_pr b b0 L).filter (fun q => !(q.1 == i) && !(q.1 + 1 == i && q.2.category == 2)))) : fk_L b b0 me ls' (L.set i v) := by
  refine ⟨by rw [List.length_set]; exact h.1, ⟨h'.1, h'.2.1, fun q hq => ?_⟩, fun j u hj hu => ?_⟩
  · obtain ⟨u, h1, h2, h3⟩ := fk_pr_mem.mp hq
    by_cases hj : q.1 = i
    · rw [hj, List.getElem?_set_self hi] at h1
      cases h1
      refine h'.2.2 q (List.mem_cons.mpr (Or.inl ?_))
      rw [hw, ← h3, ← hj]
    · rw [List.getElem?_set_ne (fun z => hj z.symm)] at h1
      refine h'.2.2 q (List.mem_cons.mpr (Or.inr (List.mem_filter.mpr ⟨fk_pr_mem.mpr ⟨u, h1, h2, h3⟩, ?_⟩)))
      have n1 : (q.1 == i) = false := by simpa using hj
      rw [n1]
      by_cases hk : q.1 + 1 = i
      · have n2 : ¬ u.category = 2 := fun z => hs (hk ▸ h.2.2 q.1 u h1 z)
        have n3 : (q.2.category == 2) = false := by rw [h3, fk_z_cat]; simpa using n2
        rw [n3]
        simp
      · have n2 : (q.1 + 1 == i) = false := by simpa using hk
        rw [n2]
        simp
  · by_cases hji : j = i
    · rw [hji, List.getElem?_set_self hi] at hj
      cases hj
      omega
    · rw [List.getElem?_set_ne (fun z => hji z.symm)] at hj
      exact h.2.2 j u hj hu
theorem fk_L_set2 {b : Nat → Nat} {b0 : Nat} {me : fk_Me} {ls ls' : Array Slot} {L : List Value} {i : Nat} {v w : Value} (h : fk_L b b0 me ls L) (hi : i + 1 < L.length) (hs : i ∉ me.2.2.2.2.2) (hs2 : i + 1 ∈ me.2.2.2.2.2) (hn : L[i + 1]? = some .null) (hw : w = fk_z b b0 v)
    (h' : lv_has ls' me.2.2.2.1 ((i, w) :: (fk_pr b b0 L).filter (fun q => !(q.1 == i) && (!(q.1 == i + 1) && !(q.1 + 1 == i && q.2.category == 2))))) : fk_L b b0 me ls' (L.set i v) := by
  refine ⟨by rw [List.length_set]; exact h.1, ⟨h'.1, h'.2.1, fun q hq => ?_⟩, fun j u hj hu => ?_⟩
  · obtain ⟨u, h1, h2, h3⟩ := fk_pr_mem.mp hq
    by_cases hj : q.1 = i
    · rw [hj, List.getElem?_set_self (by omega)] at h1
      cases h1
      refine h'.2.2 q (List.mem_cons.mpr (Or.inl ?_))
      rw [hw, ← h3, ← hj]
    · rw [List.getElem?_set_ne (fun z => hj z.symm)] at h1
      refine h'.2.2 q (List.mem_cons.mpr (Or.inr (List.mem_filter.mpr ⟨fk_pr_mem.mpr ⟨u, h1, h2, h3⟩, ?_⟩)))
      have n1 : (q.1 == i) = false := by simpa using hj
      have n4 : (q.1 == i + 1) = false := by
        have : ¬ q.1 = i + 1 := fun z => by
          rw [z, hn] at h1
          cases h1
          exact h2 rfl
        simpa using this
      rw [n1, n4]
      by_cases hk : q.1 + 1 = i
      · have n2 : ¬ u.category = 2 := fun z => hs (hk ▸ h.2.2 q.1 u h1 z)
        have n3 : (q.2.category == 2) = false := by rw [h3, fk_z_cat]; simpa using n2
        rw [n3]
        simp
      · have n2 : (q.1 + 1 == i) = false := by simpa using hk
        rw [n2]
        simp
  · by_cases hji : j = i
    · rw [hji]
      exact hs2
    · rw [List.getElem?_set_ne (fun z => hji z.symm)] at hj
      exact h.2.2 j u hj hu
