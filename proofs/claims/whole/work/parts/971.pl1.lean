section PL1
variable {v : Nat → Nat → Int32} {W : Int32 → (Nat → Int32) → Int32} {n H m j k F x z : Nat} {po P : Int32} {s : ab_S}
theorem fk_fi_sp {p : Nat → Bool} : ∀ k j, (∀ i, j ≤ i → i < fk_fi p j k → ¬ p i = true) ∧ (fk_fi p j k < j + k → p (fk_fi p j k) = true) := by
  intro k
  induction k with
  | zero => intro j; exact ⟨fun i h1 h2 => by have : i < j := h2; omega, fun h => by have : j < j + 0 := h; omega⟩
  | succ k ih =>
    intro j
    obtain ⟨i1, i2⟩ := ih (j + 1)
    unfold fk_fi
    by_cases c : p j = true
    · rw [if_pos c]
      exact ⟨fun i h1 h2 => by omega, fun _ => c⟩
    · rw [if_neg c]
      refine ⟨fun i h1 h2 => ?_, fun h => i2 (by omega)⟩
      by_cases e : i = j
      · subst e; exact c
      · exact i1 i (by omega) h2
theorem fk_fi_no {p : Nat → Bool} {k j : Nat} (h : ∀ i, j ≤ i → i < j + k → ¬ p i = true) : fk_fi p j k = j + k := by
  have le := fk_fi_le (p := p) k j
  have sp := fk_fi_sp (p := p) k j
  refine Classical.byContradiction fun z => ?_
  exact h _ le.1 (by omega) (sp.2 (by omega))
theorem fk_fi_at {p : Nat → Bool} {k j i : Nat} (h1 : j ≤ i) (h2 : i < j + k) (h3 : p i = true) (h4 : ∀ a, j ≤ a → a < i → ¬ p a = true) : fk_fi p j k = i := by
  have le := fk_fi_le (p := p) k j
  have sp := fk_fi_sp (p := p) k j
  by_cases c : fk_fi p j k < i
  · exact absurd (sp.2 (by omega)) (h4 _ le.1 c)
  · by_cases c2 : i < fk_fi p j k
    · exact absurd h3 (sp.1 i h1 c2)
    · omega
/-- all is done and he is whole -/
abbrev ab_gd (P po : Int32) (t : ab_S) : Prop := P &&& (t.2.2.1 ^^^ (-1)) = nI 0 ∧ ab_lo t.1 po = 1
def ab_mm (v : Nat → Nat → Int32) (W : Int32 → (Nat → Int32) → Int32) (po : Int32) (s : ab_S) (z k : Nat) : Nat := fk_it (fun i m => if m < ab_lo (ab_rn v W po (nI z) s (i + 1)).1 po then ab_lo (ab_rn v W po (nI z) s (i + 1)).1 po else m) 0 k 1
theorem ab_mm_s : ab_mm v W po s z (k + 1) = if ab_mm v W po s z k < ab_lo (ab_rn v W po (nI z) s (k + 1)).1 po then ab_lo (ab_rn v W po (nI z) s (k + 1)).1 po else ab_mm v W po s z k := by
  unfold ab_mm
  rw [fk_it_succ, Nat.zero_add]
def ab_K (n : Nat) (st : Nat × Nat × Nat) : Nat := if st.1 ≤ n then st.1 else n + 1
theorem ab_K_le {st : Nat × Nat × Nat} : ab_K n st ≤ st.1 := by
  unfold ab_K
  split <;> omega
abbrev ab_fk (v : Nat → Nat → Int32) (W : Int32 → (Nat → Int32) → Int32) (P po : Int32) (s : ab_S) (z K : Nat) : Nat := fk_fi (fun k => decide (ab_gd P po (ab_rn v W po (nI z) s k))) 0 K
/-- one set of doubts tried -/
def ab_up (v : Nat → Nat → Int32) (W : Int32 → (Nat → Int32) → Int32) (P po : Int32) (s : ab_S) (n : Nat) (st : Nat × Nat × Nat) (z : Nat) : Nat × Nat × Nat := if ab_fk v W P po s z (ab_K n st) < ab_K n st then (ab_fk v W P po s z (ab_K n st), z, ab_mm v W po s z (ab_fk v W P po s z (ab_K n st))) else st
abbrev ab_sF (F z : Nat) : Prop := nI z &&& (nI F ^^^ (-1)) = nI 0
theorem ab_sF_su (hF : F < 65536) (hz : z < 65536) : ab_sF F z ↔ fk_su z F := by
  constructor
  · intro h i hi
    refine Classical.byContradiction fun w => ?_
    have i16 := fk_16 hz hi
    have : fk_tb (nI z &&& (nI F ^^^ (-1))) i = true := by
      rw [fk_tb_and, Bool.and_eq_true, fk_tb_nt (by omega), fk_tbn hz, fk_tbn hF]
      exact ⟨hi, w⟩
    rw [h, fk_tb_0] at this
    exact absurd this (by decide)
  · intro h
    refine Classical.byContradiction fun w => ?_
    obtain ⟨i, hi⟩ := fk_nz w
    rw [fk_tb_and, Bool.and_eq_true, fk_tbn hz] at hi
    have i16 := fk_16 hz hi.1
    have h2 := hi.2
    rw [fk_tb_nt (by omega), fk_tbn hF] at h2
    exact h2 (h i hi.1)
def ab_fd (v : Nat → Nat → Int32) (W : Int32 → (Nat → Int32) → Int32) (P po : Int32) (s : ab_S) (n F x : Nat) : Nat × Nat × Nat := fk_it (fun z st => if ab_sF F z then ab_up v W P po s n st z else st) 0 x (1000000000, 0, 0)
theorem ab_fd_s : ab_fd v W P po s n F (x + 1) = if ab_sF F x then ab_up v W P po s n (ab_fd v W P po s n F x) x else ab_fd v W P po s n F x := by
  unfold ab_fd
  rw [fk_it_succ, Nat.zero_add]
/-- sets that change nothing may be left out -/
theorem ab_fd_skip {y : Nat} {st : Nat × Nat × Nat} (hxy : x ≤ y) (h0 : ab_fd v W P po s n F x = st) (h : ∀ z, x ≤ z → z < y → ab_sF F z → ab_up v W P po s n st z = st) : ab_fd v W P po s n F y = st := by
  obtain ⟨k, rfl⟩ : ∃ k, y = x + k := ⟨y - x, by omega⟩
  clear hxy
  induction k with
  | zero => exact h0
  | succ k ih =>
    have ih := ih fun z h1 h2 => h z h1 (by omega)
    rw [show x + (k + 1) = x + k + 1 by omega, ab_fd_s, ih]
    by_cases c : ab_sF F (x + k)
    · rw [if_pos c]
      exact h (x + k) (by omega) (by omega) c
    · rw [if_neg c]
/-- a set that goes like one that was tried changes nothing -/
theorem ab_up_same {st : Nat × Nat × Nat} {kk : Nat} (hv : ab_rv v) (hk : ab_rk v W po (nI x) s H kk) (ek : kk = if ab_fk v W P po s x (ab_K n st) < ab_K n st then ab_fk v W P po s x (ab_K n st) else ab_K n st - 1) (ag : ∀ q, q < 16 → fk_tb (ab_rn v W po (nI x) s kk).2.2.2 q = true → fk_tb (nI x) q = fk_tb (nI z) q) : ab_up v W P po s n (ab_up v W P po s n st x) z = ab_up v W P po s n st x := by
  have same : ∀ i, i ≤ kk → ab_rn v W po (nI z) s i = ab_rn v W po (nI x) s i := by
    intro i hi
    refine ab_rn_ag hv i (fun a ha => hk a (by omega)) fun q hq hb => ag q hq ?_
    have := ab_rn_up (q := q) hv (kk - i) i (by rw [show i + (kk - i) = kk by omega]; exact hk) hb
    rw [show i + (kk - i) = kk by omega] at this
    exact this
  have sp := fk_fi_sp (p := fun k => decide (ab_gd P po (ab_rn v W po (nI x) s k))) (ab_K n st) 0
  have le := fk_fi_le (p := fun k => decide (ab_gd P po (ab_rn v W po (nI x) s k))) (ab_K n st) 0
  have no : ab_fk v W P po s z (ab_K n (ab_up v W P po s n st x)) = ab_K n (ab_up v W P po s n st x) := by
    have hKle : ∀ i, i < ab_K n (ab_up v W P po s n st x) → i ≤ kk ∧ i < ab_fk v W P po s x (ab_K n st) := by
      intro i hi
      by_cases c : ab_fk v W P po s x (ab_K n st) < ab_K n st
      · rw [if_pos c] at ek
        have e1 : ab_up v W P po s n st x = (ab_fk v W P po s x (ab_K n st), x, ab_mm v W po s x (ab_fk v W P po s x (ab_K n st))) := by
          unfold ab_up
          rw [if_pos c]
        rw [e1] at hi
        have := ab_K_le (n := n) (st := (ab_fk v W P po s x (ab_K n st), x, ab_mm v W po s x (ab_fk v W P po s x (ab_K n st))))
        have h3 : i < ab_fk v W P po s x (ab_K n st) := Nat.lt_of_lt_of_le hi this
        exact ⟨by omega, h3⟩
      · rw [if_neg c] at ek
        unfold ab_up at hi
        rw [if_neg c] at hi
        omega
    have := fk_fi_no (p := fun k => decide (ab_gd P po (ab_rn v W po (nI z) s k))) (k := ab_K n (ab_up v W P po s n st x)) (j := 0) fun i _ hi => by
      obtain ⟨a1, a2⟩ := hKle i (by omega)
      try dsimp only
      rw [same i a1]
      exact sp.1 i (by omega) a2
    rw [Nat.zero_add] at this
    exact this
  rw [ab_up, if_neg (by rw [no]; omega)]
/-! how many sets there are -/
theorem fk_cf_sp {p : Nat → Bool} : ∀ a j b, fk_cf p j (a + b) = fk_cf p j a + fk_cf p (j + a) b := by
  intro a
  induction a with
  | zero => intro j b; rw [Nat.zero_add, Nat.add_zero]; show _ = 0 + _; rw [Nat.zero_add]
  | succ a ih =>
    intro j b
    rw [show a + 1 + b = (a + b) + 1 by omega, fk_cf_c, fk_cf_c, ih (j + 1) b, show j + 1 + a = j + (a + 1) by omega]
    omega
theorem fk_su_2 {b z : Nat} (hz : z < 2 ^ b) : fk_su (2 ^ b + z) F ↔ F.testBit b = true ∧ fk_su z F := by
  have tb : ∀ i, (2 ^ b + z).testBit i = if i < b then z.testBit i else Nat.testBit 1 (i - b) := fun i => by
    have := Nat.testBit_two_pow_mul_add 1 hz i
    rw [Nat.mul_one] at this
    exact this
  have zb : ∀ i, z.testBit i = true → i < b := fun i hi => Classical.byContradiction fun w => by
    have := Nat.ge_two_pow_of_testBit hi
    have := Nat.pow_le_pow_right (show 0 < 2 by omega) (show b ≤ i by omega)
    omega
  constructor
  · intro h
    refine ⟨h b (by rw [tb, if_neg (by omega), Nat.sub_self]; rfl), fun i hi => h i ?_⟩
    rw [tb, if_pos (zb i hi)]
    exact hi
  · rintro ⟨h1, h2⟩ i hi
    rw [tb] at hi
    by_cases c : i < b
    · rw [if_pos c] at hi; exact h2 i hi
    · rw [if_neg c] at hi
      have : i - b = 0 := by
        refine Classical.byContradiction fun w => ?_
        rw [Nat.testBit_lt_two_pow (x := 1) (Nat.lt_of_lt_of_le (show 1 < 2 ^ 1 by decide) (Nat.pow_le_pow_right (by omega) (by omega)))] at hi
        exact absurd hi (by decide)
      rw [show i = b by omega]
      exact h1
theorem fk_cf_sub (hF : F < 65536) : ∀ b, b ≤ 16 → fk_cf (fun z => decide (ab_sF F z)) 0 (2 ^ b) ≤ 2 ^ fk_cf (fun q => fk_tb (nI F) q) 0 b := by
  intro b
  induction b with
  | zero =>
    intro _
    show (if _ then 1 else 0) + 0 ≤ 2 ^ 0
    split <;> omega
  | succ b ih =>
    intro hb
    have ih := ih (by omega)
    have p16 : 2 ^ (b + 1) ≤ 65536 := Nat.le_trans (Nat.pow_le_pow_right (by omega) hb) (by decide)
    rw [show 2 ^ (b + 1) = 2 ^ b + 2 ^ b by rw [Nat.pow_succ]; omega, fk_cf_sp, Nat.zero_add, fk_cf_succ, Nat.zero_add]
    have p2 : 2 ^ (b + 1) = 2 ^ b * 2 := Nat.pow_succ ..
    by_cases c : fk_tb (nI F) b = true
    · rw [if_pos c]
      have e : ∀ k, k ≤ 2 ^ b → fk_cf (fun z => decide (ab_sF F z)) (2 ^ b) k = fk_cf (fun z => decide (ab_sF F z)) 0 k := by
        intro k
        induction k with
        | zero => intro _; rfl
        | succ k ih2 =>
          intro hk
          rw [fk_cf_succ, fk_cf_succ, ih2 (by omega), Nat.zero_add]
          have : ab_sF F (2 ^ b + k) ↔ ab_sF F k := by
            rw [ab_sF_su hF (by omega), ab_sF_su hF (by omega), fk_su_2 (by omega)]
            rw [fk_tbn hF] at c
            exact ⟨fun z => z.2, fun z => ⟨c, z⟩⟩
          by_cases c2 : ab_sF F k
          · rw [if_pos (decide_eq_true (this.mpr c2)), if_pos (decide_eq_true c2)]
          · rw [if_neg (by rw [decide_eq_true_eq]; exact fun z => c2 (this.mp z)), if_neg (by rw [decide_eq_true_eq]; exact c2)]
      rw [e _ (Nat.le_refl _), Nat.pow_succ]
      omega
    · rw [if_neg c, Nat.add_zero]
      have e : ∀ k, k ≤ 2 ^ b → fk_cf (fun z => decide (ab_sF F z)) (2 ^ b) k = 0 := by
        intro k
        induction k with
        | zero => intro _; rfl
        | succ k ih2 =>
          intro hk
          rw [fk_cf_succ, ih2 (by omega), Nat.zero_add, if_neg]
          rw [decide_eq_true_eq, ab_sF_su hF (by omega), fk_su_2 (by omega)]
          rw [fk_tbn hF] at c
          exact fun z => c z.1
      rw [e _ (Nat.le_refl _)]
      exact ih
def ab_rk2 (F x : Nat) : Nat := fk_cf (fun z => decide (ab_sF F z)) 0 x
theorem ab_rk2_lt (hF : F < 65536) (h8 : fk_cd (nI F) ≤ 8) (hx : fk_su x F) : ab_rk2 F x < 256 := by
  have xl : x < 65536 := Nat.lt_of_le_of_lt (fk_su_le hx) hF
  have h := fk_cf_sub hF 16 (Nat.le_refl _)
  have p8 : 2 ^ fk_cf (fun q => fk_tb (nI F) q) 0 16 ≤ 2 ^ 8 := Nat.pow_le_pow_right (by omega) h8
  have e1 : fk_cf (fun z => decide (ab_sF F z)) 0 (2 ^ 16) = ab_rk2 F (x + 1) + fk_cf (fun z => decide (ab_sF F z)) (x + 1) (65535 - x) := by
    rw [show (2 : Nat) ^ 16 = (x + 1) + (65535 - x) by omega, fk_cf_sp, Nat.zero_add]
    rfl
  have e2 : ab_rk2 F (x + 1) = ab_rk2 F x + 1 := by
    unfold ab_rk2
    rw [fk_cf_succ, Nat.zero_add, if_pos (decide_eq_true ((ab_sF_su hF xl).mpr hx))]
  have : (2 : Nat) ^ 8 = 256 := by decide
  omega
theorem ab_rk2_up {y : Nat} (hF : F < 65536) (hx : fk_su x F) (h : x < y) : ab_rk2 F x + 1 ≤ ab_rk2 F y := by
  have xl : x < 65536 := Nat.lt_of_le_of_lt (fk_su_le hx) hF
  have e2 : ab_rk2 F (x + 1) = ab_rk2 F x + 1 := by
    unfold ab_rk2
    rw [fk_cf_succ, Nat.zero_add, if_pos (decide_eq_true ((ab_sF_su hF xl).mpr hx))]
  have e1 : ab_rk2 F y = ab_rk2 F (x + 1) + fk_cf (fun z => decide (ab_sF F z)) (x + 1) (y - (x + 1)) := by
    unfold ab_rk2
    rw [show y = (x + 1) + (y - (x + 1)) by omega, fk_cf_sp, Nat.zero_add, show x + 1 + (y - (x + 1)) - (x + 1) = y - (x + 1) by omega]
  omega
/-! what may be left out -/
theorem fk_low {a : Int32} (ha : ∀ q, fk_tb a q = true → q < 16) (h0 : ¬ a = nI 0) : ∃ L, L < 16 ∧ fk_tb a L = true ∧ (∀ q, fk_tb a q = true → L ≤ q) ∧ ∀ q, fk_tb ((a &&& -a) - nI 1) q = true ↔ q < L := by
  obtain ⟨q0, hq0⟩ := fk_nz h0
  obtain ⟨L, l1, l2⟩ := fk_least (P := fun q => fk_tb a q = true) (q0 + 1) ⟨q0, by omega, hq0⟩
  have L16 := ha L l1
  have e : a &&& -a = nI 1 <<< (nI L &&& 31) := by
    apply fk_tb_ext
    intro k hk
    rw [fk_tb_and, fk_tb_neg hk, fk_tb_bit (by omega)]
    by_cases c : fk_tb a k = true
    · rw [c, Bool.true_and, Bool.true_xor]
      by_cases c2 : k = L
      · subst c2
        rw [decide_eq_false (fun ⟨j, j1, j2⟩ => by have := l2 j j2; omega), decide_eq_true rfl]
        rfl
      · have := l2 k c
        rw [decide_eq_true (show ∃ j, j < k ∧ fk_tb a j = true from ⟨L, by omega, l1⟩), decide_eq_false c2]
        rfl
    · rw [Bool.eq_false_iff.mpr c, Bool.false_and, decide_eq_false (show ¬ k = L from fun z => c (by rw [z]; exact l1))]
  refine ⟨L, L16, l1, l2, fun q => ?_⟩
  rw [e]
  exact fk_mask L16
/-- between a set and the same with all below L, sets are alike from L on -/
theorem fk_btw {x x' z L : Nat} (h : ∀ q, L ≤ q → x'.testBit q = x.testBit q) (h1 : x ≤ z) (h2 : z ≤ x') : ∀ q, L ≤ q → z.testBit q = x.testBit q := by
  intro q hq
  have e : x' / 2 ^ L = x / 2 ^ L := Nat.eq_of_testBit_eq fun i => by
    rw [Nat.testBit_div_two_pow, Nat.testBit_div_two_pow]
    exact h _ (by omega)
  have a1 := Nat.div_le_div_right (c := 2 ^ L) h1
  have a2 := Nat.div_le_div_right (c := 2 ^ L) h2
  have ez : z / 2 ^ L = x / 2 ^ L := by omega
  have := congrArg (fun w => Nat.testBit w (q - L)) ez
  try dsimp only at this
  rw [Nat.testBit_div_two_pow, Nat.testBit_div_two_pow, show q - L + L = q by omega] at this
  exact this
end PL1
