section CLS
variable {N : Nat} {S : Nat → Int32} {v y y0 y1 y2 z : Nat → Nat → Int32} {l : Nat → Nat → Int64} {d p p' n H t c k m : Nat} {T A A' : Nat → Int32} {shut : Int32} {a b : Nat}
def fk_su (a b : Nat) : Prop := ∀ i, a.testBit i = true → b.testBit i = true
theorem fk_su_le {a b : Nat} (h : fk_su a b) : a ≤ b := by
  have : a &&& b = a := Nat.eq_of_testBit_eq fun i => by
    rw [Nat.testBit_and]
    by_cases c : a.testBit i = true
    · rw [c, h i c]; rfl
    · rw [Bool.eq_false_iff.mpr c]; rfl
  rw [← this]
  exact Nat.and_le_right
theorem fk_cmp {x z i : Nat} (h1 : ∀ j, i < j → x.testBit j = z.testBit j) (h2 : ¬ x.testBit i = true) (h3 : z.testBit i = true) : x < z := by
  have e : x / 2 ^ (i + 1) = z / 2 ^ (i + 1) := Nat.eq_of_testBit_eq fun j => by
    rw [Nat.testBit_div_two_pow, Nat.testBit_div_two_pow]
    exact h1 _ (by omega)
  have l1 : x % 2 ^ (i + 1) < 2 ^ i := Nat.lt_pow_two_of_testBit _ fun j hj => by
    rw [Nat.testBit_mod_two_pow]
    by_cases c : j = i
    · subst c; rw [Bool.eq_false_iff.mpr h2, Bool.and_false]
    · rw [decide_eq_false (by omega), Bool.false_and]
  have l2 : z % 2 ^ (i + 1) ≥ 2 ^ i := Nat.ge_two_pow_of_testBit (by
    rw [Nat.testBit_mod_two_pow, h3, decide_eq_true (by omega)]
    rfl)
  have d1 := Nat.div_add_mod x (2 ^ (i + 1))
  have d2 := Nat.div_add_mod z (2 ^ (i + 1))
  rw [e] at d1
  omega
theorem fk_top {P : Nat → Prop} : ∀ m, (∃ q, q < m ∧ P q) → ∃ p, p < m ∧ P p ∧ ∀ q, p < q → q < m → ¬ P q := by
  intro m
  induction m with
  | zero => rintro ⟨q, h, _⟩; omega
  | succ m ih =>
    intro h
    by_cases c : P m
    · exact ⟨m, by omega, c, fun q h1 h2 => by omega⟩
    · obtain ⟨q, h1, h2⟩ := h
      have : q ≠ m := fun e => c (e ▸ h2)
      obtain ⟨p, g1, g2, g3⟩ := ih ⟨q, by omega, h2⟩
      refine ⟨p, by omega, g2, fun q h1 h2 => ?_⟩
      by_cases e : q = m
      · subst e; exact c
      · exact g3 q h1 (by omega)
theorem fk_tbn {n i : Nat} (hn : n < 65536) : fk_tb (nI n) i = n.testBit i := by
  by_cases h : i < 32
  · exact fk_tb_nI h
  · rw [fk_tb_ge (by omega), Nat.testBit_lt_two_pow (Nat.lt_of_lt_of_le hn (Nat.le_trans (show 65536 ≤ 2 ^ 16 by decide) (Nat.pow_le_pow_right (by omega) (by omega))))]
theorem fk_16 {n i : Nat} (hn : n < 65536) (h : n.testBit i = true) : i < 16 := by
  refine Classical.byContradiction fun z => ?_
  rw [Nat.testBit_lt_two_pow (Nat.lt_of_lt_of_le hn (Nat.le_trans (show 65536 ≤ 2 ^ 16 by decide) (Nat.pow_le_pow_right (by omega) (by omega))))] at h
  exact absurd h (by decide)
/-- a set of places is a number -/
theorem fk_num {s : Int32} (h : ∀ i, fk_tb s i = true → i < 16) : ∃ n, n < 65536 ∧ s = nI n := by
  refine ⟨s.toBitVec.toNat, ?_, ?_⟩
  · refine Nat.lt_pow_two_of_testBit (n := 16) _ fun i hi => Bool.eq_false_iff.mpr fun z => ?_
    have : fk_tb s i = true := z
    have := h i this
    omega
  · apply Int32.toBitVec.inj
    show s.toBitVec = BitVec.ofNat 32 s.toBitVec.toNat
    rw [BitVec.ofNat_toNat, BitVec.setWidth_eq]
theorem fk_tb_neg {D : Int32} {k : Nat} (hk : k < 32) : fk_tb (-D) k = (fk_tb D k ^^ decide (∃ j, j < k ∧ fk_tb D j = true)) := by
  show ((-D).toBitVec).getLsbD k = _
  rw [Int32.toBitVec_neg, BitVec.getLsbD_neg, decide_eq_true hk, Bool.true_and]
  rfl
theorem fk_sab {X D Y : Int32} (h : X + D = Y) : X - Y = -D := by
  subst h
  grind
theorem fk_16f {n i : Nat} (hn : n < 65536) (h : 16 ≤ i) : n.testBit i = false := Bool.eq_false_iff.mpr fun z => by have := fk_16 hn z; omega
/-- the next set of places of B -/
theorem fk_nxt {B x : Nat} (hB : B < 65536) (hx : fk_su x B) : (x = B → (nI x - nI B) &&& nI B = nI 0) ∧ (x ≠ B → ∃ y, y < 65536 ∧ (nI x - nI B) &&& nI B = nI y ∧ fk_su y B ∧ x < y ∧ ∀ z, fk_su z B → x < z → y ≤ z) := by
  have hxl : x < 65536 := Nat.lt_of_le_of_lt (fk_su_le hx) hB
  have hD : ∃ D : Int32, nI x - nI B = -D ∧ ∀ k, fk_tb D k = true ↔ B.testBit k = true ∧ ¬ x.testBit k = true := by
    refine ⟨nI B &&& (nI x ^^^ (-1)), ?_, fun k => ?_⟩
    · have e : nI x + (nI B &&& (nI x ^^^ (-1))) = nI B := by
        apply Int32.toBitVec.inj
        show (nI x).toBitVec + (nI B &&& (nI x ^^^ (-1))).toBitVec = (nI B).toBitVec
        rw [BitVec.add_eq_or_of_and_eq_zero]
        · apply BitVec.eq_of_getLsbD_eq
          intro i hi
          show fk_tb (nI x ||| (nI B &&& (nI x ^^^ (-1)))) i = fk_tb (nI B) i
          rw [fk_tb_or, fk_tb_and, fk_tb_not hi, fk_tbn hxl, fk_tbn hB]
          by_cases c : x.testBit i = true
          · rw [c, hx i c]; rfl
          · rw [Bool.eq_false_iff.mpr c]; cases B.testBit i <;> rfl
        · apply BitVec.eq_of_getLsbD_eq
          intro i hi
          rw [BitVec.getLsbD_zero]
          show fk_tb (nI x &&& (nI B &&& (nI x ^^^ (-1)))) i = false
          rw [fk_tb_and, fk_tb_and, fk_tb_not hi]
          cases fk_tb (nI x) i <;> cases fk_tb (nI B) i <;> rfl
      exact fk_sab e
    · rw [fk_tb_and, Bool.and_eq_true, fk_tbn hB]
      constructor
      · rintro ⟨h1, h2⟩
        have hk := fk_16 hB h1
        rw [fk_tb_nt (by omega), fk_tbn hxl] at h2
        exact ⟨h1, h2⟩
      · rintro ⟨h1, h2⟩
        have hk := fk_16 hB h1
        rw [fk_tb_nt (by omega), fk_tbn hxl]
        exact ⟨h1, h2⟩
  obtain ⟨D, e, hD⟩ := hD
  rw [e]
  have bits : ∀ k, fk_tb (-D &&& nI B) k = true ↔ B.testBit k = true ∧ ((¬ x.testBit k = true ∧ ¬ ∃ j, j < k ∧ B.testBit j = true ∧ ¬ x.testBit j = true) ∨ (x.testBit k = true ∧ ∃ j, j < k ∧ B.testBit j = true ∧ ¬ x.testBit j = true)) := by
    intro k
    rw [fk_tb_and, Bool.and_eq_true, fk_tbn hB]
    have ej : (∃ j, j < k ∧ fk_tb D j = true) ↔ ∃ j, j < k ∧ B.testBit j = true ∧ ¬ x.testBit j = true := by
      constructor
      · rintro ⟨j, h1, h2⟩; exact ⟨j, h1, (hD j).mp h2⟩
      · rintro ⟨j, h1, h2⟩; exact ⟨j, h1, (hD j).mpr h2⟩
    constructor
    · rintro ⟨h1, h2⟩
      refine ⟨h2, ?_⟩
      have hk := fk_16 hB h2
      rw [fk_tb_neg (by omega)] at h1
      by_cases c : ∃ j, j < k ∧ B.testBit j = true ∧ ¬ x.testBit j = true
      · rw [decide_eq_true (ej.mpr c), Bool.xor_true] at h1
        refine Or.inr ⟨Classical.byContradiction fun z => ?_, c⟩
        rw [(hD k).mpr ⟨h2, z⟩] at h1
        exact absurd h1 (by decide)
      · rw [decide_eq_false fun z => c (ej.mp z), Bool.xor_false] at h1
        exact Or.inl ⟨((hD k).mp h1).2, c⟩
    · rintro ⟨h2, h⟩
      have hk := fk_16 hB h2
      refine ⟨?_, h2⟩
      rw [fk_tb_neg (by omega)]
      rcases h with ⟨h3, c⟩ | ⟨h3, c⟩
      · rw [decide_eq_false fun z => c (ej.mp z), Bool.xor_false]
        exact (hD k).mpr ⟨h2, h3⟩
      · rw [decide_eq_true (ej.mpr c), Bool.xor_true, Bool.eq_false_iff.mpr fun z => ((hD k).mp z).2 h3]
        rfl
  constructor
  · intro exB
    subst exB
    apply fk_tb_ext
    intro k hk
    rw [fk_tb_0]
    refine Bool.eq_false_iff.mpr fun z => ?_
    obtain ⟨h1, ⟨h2, _⟩ | ⟨_, j, _, h3, h4⟩⟩ := (bits k).mp z
    · exact h2 h1
    · exact h4 h3
  · intro hne
    obtain ⟨q, hq⟩ := Nat.exists_testBit_ne_of_ne hne
    have hqD : B.testBit q = true ∧ ¬ x.testBit q = true := by
      by_cases c : x.testBit q = true
      · exact absurd (c.trans (hx q c).symm) hq
      · refine ⟨Classical.byContradiction fun z => hq ?_, c⟩
        rw [Bool.eq_false_iff.mpr c, Bool.eq_false_iff.mpr z]
    obtain ⟨i, ⟨i1, i2⟩, i3⟩ := fk_least (P := fun k => B.testBit k = true ∧ ¬ x.testBit k = true) (q + 1) ⟨q, by omega, hqD⟩
    have lo : ∀ k, k < i → B.testBit k = true → x.testBit k = true := fun k hk h => Classical.byContradiction fun z => by have := i3 k ⟨h, z⟩; omega
    obtain ⟨Y, hY, eY⟩ := fk_num (s := -D &&& nI B) fun k hk => fk_16 hB ((bits k).mp hk).1
    rw [eY] at bits
    have yb : ∀ k, Y.testBit k = true ↔ (k = i ∨ (i < k ∧ x.testBit k = true)) := by
      intro k
      rw [← fk_tbn hY, bits]
      constructor
      · rintro ⟨h1, ⟨h2, h3⟩ | ⟨h2, j, h3, h4, h5⟩⟩
        · refine Or.inl ?_
          have g1 := i3 k ⟨h1, h2⟩
          by_cases e : k = i
          · exact e
          · exact absurd ⟨i, by omega, i1, i2⟩ h3
        · have := i3 j ⟨h4, h5⟩
          exact Or.inr ⟨by omega, h2⟩
      · rintro (rfl | ⟨h1, h2⟩)
        · exact ⟨i1, Or.inl ⟨i2, fun ⟨j, h1, h2, h3⟩ => by have := i3 j ⟨h2, h3⟩; omega⟩⟩
        · exact ⟨hx k h2, Or.inr ⟨h2, i, h1, i1, i2⟩⟩
    have yi : Y.testBit i = true := (yb i).mpr (Or.inl rfl)
    have yhi : ∀ k, i < k → Y.testBit k = x.testBit k := fun k hk => by
      refine Bool.eq_iff_iff.mpr ⟨fun h => ?_, fun h => (yb k).mpr (Or.inr ⟨hk, h⟩)⟩
      rcases (yb k).mp h with e | e
      · omega
      · exact e.2
    refine ⟨Y, hY, eY, fun k hk => ?_, fk_cmp (i := i) (fun j hj => (yhi j hj).symm) i2 yi, fun z hz hxz => ?_⟩
    · rcases (yb k).mp hk with rfl | h
      · exact i1
      · exact hx k h.2
    · have hzl : z < 65536 := Nat.lt_of_le_of_lt (fk_su_le hz) hB
      by_cases c : ∃ j, j < 16 ∧ i < j ∧ x.testBit j ≠ z.testBit j
      · obtain ⟨j, j1, ⟨j2, j3⟩, j4⟩ := fk_top (P := fun j => i < j ∧ x.testBit j ≠ z.testBit j) 16 c
        have above : ∀ k, j < k → x.testBit k = z.testBit k := fun k hk => by
          by_cases h16 : k < 16
          · exact Classical.byContradiction fun h => j4 k hk h16 ⟨by omega, h⟩
          · rw [fk_16f hxl (by omega), fk_16f hzl (by omega)]
        have xj : ¬ x.testBit j = true := fun h => by
          have zj : ¬ z.testBit j = true := fun h2 => j3 (h.trans h2.symm)
          have := fk_cmp (x := z) (z := x) (i := j) (fun k hk => (above k hk).symm) zj h
          omega
        have zj : z.testBit j = true := Classical.byContradiction fun h => j3 (by rw [Bool.eq_false_iff.mpr xj, Bool.eq_false_iff.mpr h])
        exact Nat.le_of_lt (fk_cmp (i := j) (fun k hk => by rw [yhi k (by omega)]; exact above k hk) (by rw [yhi j j2]; exact xj) zj)
      · have agree : ∀ k, i < k → x.testBit k = z.testBit k := fun k hk => by
          by_cases h16 : k < 16
          · exact Classical.byContradiction fun h => c ⟨k, h16, hk, h⟩
          · rw [fk_16f hxl (by omega), fk_16f hzl (by omega)]
        by_cases zi : z.testBit i = true
        · refine fk_su_le fun k hk => ?_
          rcases (yb k).mp hk with rfl | ⟨h1, h2⟩
          · exact zi
          · rw [← agree k h1]; exact h2
        · have : fk_su z x := fun k hk => by
            by_cases e1 : k < i
            · exact lo k e1 (hz k hk)
            · by_cases e2 : k = i
              · subst e2; exact absurd hk zi
              · rw [agree k (by omega)]; exact hk
          have := fk_su_le this
          omega
theorem fk_bits_cd {s : Int32} : fk_bits s = nI (fk_cd s) := by
  unfold fk_bits fk_cd
  have key : ∀ k, k ≤ 16 → fk_it (fun k n => n + (s >>> (nI k &&& 31) &&& nI 1)) 0 k (nI 0) = nI (fk_cf (fun q => fk_tb s q) 0 k) := by
    intro k
    induction k with
    | zero => intro _; rfl
    | succ k ih =>
      intro hk
      rw [fk_it_succ, ih (by omega), Nat.zero_add, fk_has (by omega), fk_cf_succ, Nat.zero_add]
      by_cases c : fk_tb s k = true
      · rw [if_pos c, nI_add, if_pos c]
      · rw [if_neg c, fk_add0, if_neg c, Nat.add_zero]
  exact key 16 (Nat.le_refl _)
/-! the pure: what is cut -/
def ab_cut (v : Nat → Nat → Int32) (a b n : Nat) : Prop := ¬ ab_RC v (nI n) a b
def ab_LM (P : Nat → Prop) (b : Nat) : Prop := P b ∧ ∀ z, P z → fk_cd (nI b) < fk_cd (nI z) ∨ (fk_cd (nI b) = fk_cd (nI z) ∧ b ≤ z)
theorem ab_LM_inj {P : Nat → Prop} {b b' : Nat} (h : ab_LM P b) (h' : ab_LM P b') : b = b' := by
  have h1 := h.2 b' h'.1
  have h2 := h'.2 b h.1
  omega
theorem ab_RC_mono {s s' : Int32} (h : ∀ q, fk_tb s' q = true → fk_tb s q = true) : ∀ q, ab_RC v s a q → ab_RC v s' a q := ab_RC_ind ab_RC_0 fun _ _ _ hp he hq => ab_RC_s hp he fun z => hq (h _ z)
/-- p is on a way between both -/
def ab_bt (v : Nat → Nat → Int32) (a b p : Nat) : Prop := ab_RC v (nI 1 <<< (nI b &&& 31)) a p ∧ ab_RC v (nI 1 <<< (nI a &&& 31)) p b ∧ p ≠ a ∧ p ≠ b
/-- what is among the fewest is on a way -/
theorem ab_bt_of {X X' : Int32} {x : Nat} (ha : a < 16) (hb : b < 16) (h1 : ¬ ab_RC v X a b) (h2 : ab_RC v X' a b) (hX : ∀ q, fk_tb X q = true → q = x ∨ fk_tb X' q = true) (hxa : x ≠ a) (hxb : x ≠ b) : ab_bt v a b x := by
  have s1 : ∀ q, ab_RC v X' a q → ab_RC v X a q ∨ ∃ p, ab_RC v X a p ∧ ab_E v p x := by
    refine ab_RC_ind (P := fun q => ab_RC v X a q ∨ ∃ p, ab_RC v X a p ∧ ab_E v p x) (Or.inl ab_RC_0) fun p q _ hp he hq => ?_
    rcases hp with hp | hp
    · by_cases c : fk_tb X q = true
      · rcases hX q c with rfl | h
        · exact Or.inr ⟨p, hp, he⟩
        · exact absurd h hq
      · exact Or.inl (ab_RC_s hp he c)
    · exact Or.inr hp
  have s2 : ∀ q, ab_RC v X' a q → ab_RC v X a q ∨ ab_RC v (nI 1 <<< (nI a &&& 31)) x q := by
    refine ab_RC_ind (P := fun q => ab_RC v X a q ∨ ab_RC v (nI 1 <<< (nI a &&& 31)) x q) (Or.inl ab_RC_0) fun p q _ hp he hq => ?_
    rcases hp with hp | hp
    · by_cases c : fk_tb X q = true
      · rcases hX q c with rfl | h
        · exact Or.inr ab_RC_0
        · exact absurd h hq
      · exact Or.inl (ab_RC_s hp he c)
    · by_cases e : q = a
      · subst e; exact Or.inl ab_RC_0
      · exact Or.inr (ab_RC_s hp he (by rw [fk_tb_bitI (by omega)]; exact e))
  have s3 : ∀ q, ab_RC v X a q → ab_RC v (nI 1 <<< (nI b &&& 31)) a q := by
    refine ab_RC_ind (P := fun q => ab_RC v (nI 1 <<< (nI b &&& 31)) a q) ab_RC_0 fun p q hp0 hp he hq => ?_
    refine ab_RC_s hp he ?_
    rw [fk_tb_bitI (by omega)]
    intro e
    exact h1 (e ▸ ab_RC_s hp0 he hq)
  refine ⟨?_, (s2 b h2).resolve_left h1, hxa, hxb⟩
  obtain ⟨p, g1, g2⟩ := (s1 b h2).resolve_left h1
  exact ab_RC_s (s3 p g1) g2 (by rw [fk_tb_bitI (by omega)]; exact hxb)
/-- all that is on a way, closed, cuts -/
theorem ab_bt_cut {B : Int32} (ha : a < 16) (hb : b < 16) (hab : a ≠ b) (hE : ¬ ab_E v a b) (hB : ∀ q, fk_tb B q = true ↔ q < 16 ∧ ab_bt v a b q) : ¬ ab_RC v B a b := by
  intro h
  have hB' : ∀ q, fk_tb (B ||| nI 1 <<< (nI b &&& 31)) q = true ↔ fk_tb B q = true ∨ q = b := fun q => by rw [fk_tb_or, Bool.or_eq_true, fk_tb_bitI (by omega)]
  have s1 : ∀ q, ab_RC v B a q → (ab_RC v (B ||| nI 1 <<< (nI b &&& 31)) a q ∧ q ≠ b) ∨ ∃ p, (ab_RC v (B ||| nI 1 <<< (nI b &&& 31)) a p ∧ p ≠ b) ∧ ab_E v p b := by
    refine ab_RC_ind (P := fun q => (ab_RC v (B ||| nI 1 <<< (nI b &&& 31)) a q ∧ q ≠ b) ∨ ∃ p, (ab_RC v (B ||| nI 1 <<< (nI b &&& 31)) a p ∧ p ≠ b) ∧ ab_E v p b) (Or.inl ⟨ab_RC_0, hab⟩) fun p q _ hp he hq => ?_
    rcases hp with hp | hp
    · by_cases e : q = b
      · subst e; exact Or.inr ⟨p, hp, he⟩
      · exact Or.inl ⟨ab_RC_s hp.1 he fun z => by
          rcases (hB' q).mp z with z | z
          · exact hq z
          · exact e z, e⟩
    · exact Or.inr hp
  rcases s1 b h with ⟨_, z⟩ | ⟨p, ⟨g1, g2⟩, g3⟩
  · exact z rfl
  · have pa : p ≠ a := fun e => hE (e ▸ g3)
    have r1 : ab_RC v (nI 1 <<< (nI b &&& 31)) a p := ab_RC_mono (fun q hq => by
      rw [fk_tb_bitI (by omega)] at hq
      exact (hB' q).mpr (Or.inr hq)) p g1
    have r2 : ab_RC v (nI 1 <<< (nI a &&& 31)) p b := ab_RC_s ab_RC_0 g3 (by rw [fk_tb_bitI (by omega)]; exact fun e => hab e.symm)
    have inB : fk_tb B p = true := (hB p).mpr ⟨g3.1, r1, r2, pa, g2⟩
    obtain ⟨k, hk⟩ := g1
    cases k with
    | zero => exact pa (show a = p from hk).symm
    | succ k =>
      obtain ⟨p', _, _, h3⟩ := hk
      exact h3 ((hB' p).mpr (Or.inl inB))
/-- the fewest of all that is reached are the fewest of all on a way -/
theorem ab_LM_bt {M B bst : Nat} (ha : a < 16) (hb : b < 16) (hab : a ≠ b) (hM : M < 65536) (hB : B < 65536) (mM : ∀ q, M.testBit q = true ↔ ab_RC v (nI 0) a q ∧ q ≠ a ∧ q ≠ b) (mB : ∀ q, B.testBit q = true ↔ q < 16 ∧ ab_bt v a b q) (h : ab_LM (fun z => fk_su z B ∧ ab_cut v a b z) bst) : ab_LM (fun z => fk_su z M ∧ ab_cut v a b z) bst := by
  have BM : fk_su B M := fun q hq => by
    obtain ⟨_, h1, _, h3, h4⟩ := (mB q).mp hq
    exact (mM q).mpr ⟨ab_RC_mono (fun z hz => by rw [fk_tb_0] at hz; exact absurd hz (by decide)) q h1, h3, h4⟩
  refine ⟨⟨fun q hq => BM q (h.1.1 q hq), h.1.2⟩, fun z hz => ?_⟩
  -- by how many: reduce z to a subset of B
  have key : ∀ m z, fk_cd (nI z) ≤ m → fk_su z M → ab_cut v a b z → fk_cd (nI bst) < fk_cd (nI z) ∨ (fk_cd (nI bst) = fk_cd (nI z) ∧ bst ≤ z) := by
    intro m
    induction m with
    | zero =>
      intro z hm hz hc
      have hzl : z < 65536 := Nat.lt_of_le_of_lt (fk_su_le hz) hM
      refine h.2 z ⟨fun q hq => ?_, hc⟩
      have := (fk_cf_pos (p := fun q => fk_tb (nI z) q) 16 0).mpr ⟨q, by omega, by have := fk_16 hzl hq; omega, by rw [fk_tbn hzl]; exact hq⟩
      unfold fk_cd at hm
      omega
    | succ m ih =>
      intro z hm hz hc
      have hzl : z < 65536 := Nat.lt_of_le_of_lt (fk_su_le hz) hM
      by_cases c : fk_su z B
      · exact h.2 z ⟨c, hc⟩
      · have : ∃ x, z.testBit x = true ∧ ¬ B.testBit x = true := Classical.byContradiction fun w => c fun q hq => Classical.byContradiction fun w2 => w ⟨q, hq, w2⟩
        obtain ⟨x, x1, x2⟩ := this
        have x16 := fk_16 hzl x1
        obtain ⟨z', z'l, ez⟩ := fk_num (s := nI z &&& (nI 1 <<< (nI x &&& 31) ^^^ (-1))) fun i hi => by
          rw [fk_tb_and, Bool.and_eq_true, fk_tbn hzl] at hi
          exact fk_16 hzl hi.1
        have zb : ∀ q, z'.testBit q = true ↔ z.testBit q = true ∧ q ≠ x := fun q => by
          rw [← fk_tbn z'l, ← ez, fk_tb_and, Bool.and_eq_true, fk_tbn hzl]
          constructor
          · rintro ⟨h1, h2⟩
            rw [fk_tb_nt (by have := fk_16 hzl h1; omega), fk_tb_bitI (by omega)] at h2
            exact ⟨h1, h2⟩
          · rintro ⟨h1, h2⟩
            rw [fk_tb_nt (by have := fk_16 hzl h1; omega), fk_tb_bitI (by omega)]
            exact ⟨h1, h2⟩
        have cd1 : fk_cd (nI z') + 1 ≤ fk_cd (nI z) := fk_cf_lt (p := fun q => fk_tb (nI z') q) (q := fun q => fk_tb (nI z) q) (x := x) 16 0 (fun i _ _ hi => by
          rw [fk_tbn z'l] at hi
          rw [fk_tbn hzl]
          exact ((zb i).mp hi).1) (by omega) (by omega) (by rw [fk_tbn z'l]; exact fun w => ((zb x).mp w).2 rfl) (by rw [fk_tbn hzl]; exact x1)
        have hc' : ab_cut v a b z' := fun hr => by
          have xM := (mM x).mp (hz x x1)
          refine x2 ((mB x).mpr ⟨x16, ab_bt_of (X := nI z) (X' := nI z') ha hb hc hr (fun q hq => ?_) xM.2.1 xM.2.2⟩)
          rw [fk_tbn hzl] at hq
          by_cases e : q = x
          · exact Or.inl e
          · refine Or.inr ?_
            rw [fk_tbn z'l]
            exact (zb q).mpr ⟨hq, e⟩
        have := ih z' (by omega) (fun q hq => hz q ((zb q).mp hq).1) hc'
        omega
  exact key _ z (Nat.le_refl _) hz.1 hz.2
end CLS
