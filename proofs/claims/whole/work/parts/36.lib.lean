/-! loops -/
def fk_it {σ : Type} (f : Nat → σ → σ) : Nat → Nat → σ → σ
  | _, 0, s => s
  | j, k + 1, s => fk_it f (j + 1) k (f j s)
theorem fk_it_congr {σ : Type} {f g : Nat → σ → σ} : ∀ k j s, (∀ i t, j ≤ i → i < j + k → f i t = g i t) → fk_it f j k s = fk_it g j k s := by
  intro k
  induction k with
  | zero => intro j s _; rfl
  | succ k ih =>
    intro j s h
    show fk_it f (j + 1) k (f j s) = fk_it g (j + 1) k (g j s)
    rw [h j s (by omega) (by omega)]
    exact ih (j + 1) _ fun i t h1 h2 => h i t (by omega) (by omega)
theorem fk_it_succ {σ : Type} {f : Nat → σ → σ} : ∀ k j s, fk_it f j (k + 1) s = f (j + k) (fk_it f j k s) := by
  intro k
  induction k with
  | zero => intro j s; rfl
  | succ k ih =>
    intro j s
    show fk_it f (j + 1) (k + 1) (f j s) = f (j + (k + 1)) (fk_it f (j + 1) k (f j s))
    rw [ih (j + 1) (f j s), show j + 1 + k = j + (k + 1) by omega]
/-- what holds all along -/
theorem fk_it_inv {σ : Type} {f : Nat → σ → σ} (I : Nat → σ → Prop) (n : Nat) (hs : ∀ j s, j < n → I j s → I (j + 1) (f j s)) : ∀ k j s, j + k = n → I j s → I n (fk_it f j k s) := by
  intro k
  induction k with
  | zero => intro j s h hi; rw [← h]; exact hi
  | succ k ih =>
    intro j s h hi
    exact ih (j + 1) (f j s) (by omega) (hs j s (by omega) hi)
/-- two loops side by side -/
theorem fk_it_rel {σ τ : Type} {f : Nat → σ → σ} {g : Nat → τ → τ} (I : Nat → σ → τ → Prop) (n : Nat) (hs : ∀ j s t, j < n → I j s t → I (j + 1) (f j s) (g j t)) : ∀ k j s t, j + k = n → I j s t → I n (fk_it f j k s) (fk_it g j k t) := by
  intro k
  induction k with
  | zero => intro j s t h hi; rw [← h]; exact hi
  | succ k ih =>
    intro j s t h hi
    exact ih (j + 1) (f j s) (g j t) (by omega) (hs j s t (by omega) hi)
theorem fk_loop {σ ρ : Type} (ev : Nat → σ → ρ) (f : Nat → σ → σ) (I : Nat → σ → Prop) (n : Nat) (hs : ∀ j s, j < n → I j s → ev j s = ev (j + 1) (f j s) ∧ I (j + 1) (f j s)) : ∀ k j s, j + k = n → I j s → ev j s = ev n (fk_it f j k s) ∧ I n (fk_it f j k s) := by
  intro k
  induction k with
  | zero => intro j s h hi; rw [← h]; exact ⟨rfl, hi⟩
  | succ k ih =>
    intro j s h hi
    obtain ⟨e, hi2⟩ := hs j s (by omega) hi
    rw [e]
    exact ih (j + 1) (f j s) (by omega) hi2
theorem fk_loop0 {σ ρ : Type} (ev : Nat → σ → ρ) (f : Nat → σ → σ) (n : Nat) (hs : ∀ j s, j < n → ev j s = ev (j + 1) (f j s)) (s : σ) : ev 0 s = ev n (fk_it f 0 n s) := (fk_loop ev f (fun _ _ => True) n (fun j s hj _ => ⟨hs j s hj, trivial⟩) n 0 s (Nat.zero_add n) trivial).1
theorem fk_loopr {σ ρ : Type} (ev : Nat → σ → ρ) (I : Nat → σ → Prop) (n : Nat) (hs : ∀ j s, j < n → I j s → ∃ s', ev j s = ev (j + 1) s' ∧ I (j + 1) s') : ∀ k j s, j + k = n → I j s → ∃ s', ev j s = ev n s' ∧ I n s' := by
  intro k
  induction k with
  | zero => intro j s h hi; rw [← h]; exact ⟨s, rfl, hi⟩
  | succ k ih =>
    intro j s h hi
    obtain ⟨s1, e, hi2⟩ := hs j s (by omega) hi
    rw [e]
    exact ih (j + 1) s1 (by omega) hi2
theorem fk_loopx {σ ρ : Type} (ev : Nat → σ → ρ) (I : Nat → σ → Prop) (Q : ρ → Prop) (n : Nat) (hs : ∀ j s, j < n → I j s → Q (ev j s) ∨ ∃ s', ev j s = ev (j + 1) s' ∧ I (j + 1) s') (he : ∀ s, I n s → Q (ev n s)) : ∀ k j s, j + k = n → I j s → Q (ev j s) := by
  intro k
  induction k with
  | zero => intro j s h hi; have h : j = n := h; subst h; exact he s hi
  | succ k ih =>
    intro j s h hi
    rcases hs j s (by omega) hi with hq | ⟨s1, e, hi2⟩
    · exact hq
    · rw [e]
      exact ih (j + 1) s1 (by omega) hi2
/-- by what is left (a loop of no fixed length) -/
theorem fk_loopm {σ ρ : Type} (ev : σ → ρ) (I : Nat → σ → Prop) (Q : ρ → Prop) (hs : ∀ k s, I k s → Q (ev s) ∨ ∃ k' s', k' < k ∧ ev s = ev s' ∧ I k' s') : ∀ m k s, k < m → I k s → Q (ev s) := by
  intro m
  induction m with
  | zero => intro k s h; omega
  | succ m ih =>
    intro k s h hi
    rcases hs k s hi with hq | ⟨k1, s1, h1, e, hi2⟩
    · exact hq
    · rw [e]
      exact ih k1 s1 (by omega) hi2
/-- the first number from j on, k at most, that has p; else j + k -/
def fk_fi (p : Nat → Bool) : Nat → Nat → Nat
  | j, 0 => j
  | j, k + 1 => if p j then j else fk_fi p (j + 1) k
theorem fk_fi_le {p : Nat → Bool} : ∀ k j, j ≤ fk_fi p j k ∧ fk_fi p j k ≤ j + k := by
  intro k
  induction k with
  | zero => intro j; exact ⟨Nat.le_refl _, Nat.le_refl _⟩
  | succ k ih =>
    intro j
    unfold fk_fi
    by_cases h : p j
    · rw [if_pos h]; omega
    · rw [if_neg h]; have := ih (j + 1); omega
theorem fk_fi_congr {p q : Nat → Bool} : ∀ k j, (∀ i, j ≤ i → i < j + k → p i = q i) → fk_fi p j k = fk_fi q j k := by
  intro k
  induction k with
  | zero => intro j _; rfl
  | succ k ih =>
    intro j h
    unfold fk_fi
    rw [h j (by omega) (by omega), ih (j + 1) fun i h1 h2 => h i (by omega) (by omega)]
theorem fk_cf_congr {p q : Nat → Bool} : ∀ k j, (∀ i, j ≤ i → i < j + k → p i = q i) → fk_cf p j k = fk_cf q j k := by
  intro k
  induction k with
  | zero => intro j _; rfl
  | succ k ih =>
    intro j h
    unfold fk_cf
    rw [h j (by omega) (by omega), ih (j + 1) fun i h1 h2 => h i (by omega) (by omega)]
theorem fk_cf_le {p : Nat → Bool} : ∀ k j, fk_cf p j k ≤ k := by
  intro k
  induction k with
  | zero => intro j; exact Nat.le_refl _
  | succ k ih =>
    intro j
    unfold fk_cf
    have := ih (j + 1)
    split <;> omega
theorem fk_cf_succ {p : Nat → Bool} : ∀ k j, fk_cf p j (k + 1) = fk_cf p j k + (if p (j + k) then 1 else 0) := by
  intro k
  induction k with
  | zero => intro j; show (if p j then 1 else 0) + 0 = 0 + (if p (j + 0) then 1 else 0); rw [Nat.add_zero, Nat.add_zero, Nat.zero_add]
  | succ k ih =>
    intro j
    show (if p j then 1 else 0) + fk_cf p (j + 1) (k + 1) = (if p j then 1 else 0) + fk_cf p (j + 1) k + _
    rw [ih (j + 1), show j + 1 + k = j + (k + 1) by omega, Nat.add_assoc]
theorem fk_cf_pos {p : Nat → Bool} : ∀ k j, 0 < fk_cf p j k ↔ ∃ i, j ≤ i ∧ i < j + k ∧ p i = true := by
  intro k
  induction k with
  | zero => intro j; exact ⟨fun h => absurd h (Nat.lt_irrefl 0), fun ⟨i, h1, h2, _⟩ => by omega⟩
  | succ k ih =>
    intro j
    unfold fk_cf
    by_cases h : p j = true
    · rw [if_pos h]
      exact ⟨fun _ => ⟨j, by omega, by omega, h⟩, fun _ => by omega⟩
    · rw [if_neg h, Nat.zero_add, ih (j + 1)]
      constructor
      · rintro ⟨i, h1, h2, h3⟩; exact ⟨i, by omega, by omega, h3⟩
      · rintro ⟨i, h1, h2, h3⟩
        have : i ≠ j := fun z => h (z ▸ h3)
        exact ⟨i, by omega, by omega, h3⟩
/-- one number changes -/
theorem fk_cf_upd {p q : Nat → Bool} {i : Nat} : ∀ k j, j ≤ i → i < j + k → (∀ x, j ≤ x → x < j + k → x ≠ i → q x = p x) → fk_cf q j k + (if p i then 1 else 0) = fk_cf p j k + (if q i then 1 else 0) := by
  intro k
  induction k with
  | zero => intro j h1 h2; omega
  | succ k ih =>
    intro j h1 h2 hq
    unfold fk_cf
    by_cases e : j = i
    · subst e
      rw [fk_cf_congr k (j + 1) fun x h3 h4 => hq x (by omega) (by omega) (by omega)]
      omega
    · rw [hq j (by omega) (by omega) e]
      have := ih (j + 1) (by omega) (by omega) fun x h3 h4 => hq x (by omega) (by omega)
      omega
/-! bits -/
def fk_tb (s : Int32) (k : Nat) : Bool := s.toBitVec.getLsbD k
theorem fk_tb_ext {a b : Int32} (h : ∀ k, k < 32 → fk_tb a k = fk_tb b k) : a = b := Int32.toBitVec.inj (BitVec.eq_of_getLsbD_eq h)
theorem fk_tb_or {a b : Int32} {k : Nat} : fk_tb (a ||| b) k = (fk_tb a k || fk_tb b k) := by
  show (a.toBitVec ||| b.toBitVec).getLsbD k = _
  exact BitVec.getLsbD_or
theorem fk_tb_and {a b : Int32} {k : Nat} : fk_tb (a &&& b) k = (fk_tb a k && fk_tb b k) := by
  show (a.toBitVec &&& b.toBitVec).getLsbD k = _
  exact BitVec.getLsbD_and
theorem fk_tb_xor {a b : Int32} {k : Nat} : fk_tb (a ^^^ b) k = (fk_tb a k ^^ fk_tb b k) := by
  show (a.toBitVec ^^^ b.toBitVec).getLsbD k = _
  exact BitVec.getLsbD_xor
theorem fk_tb_m1 {k : Nat} : fk_tb (-1) k = decide (k < 32) := by
  show ((-1 : Int32).toBitVec).getLsbD k = _
  rw [show (-1 : Int32).toBitVec = BitVec.allOnes 32 by decide]
  exact BitVec.getLsbD_allOnes
theorem fk_tb_not {a : Int32} {k : Nat} (hk : k < 32) : fk_tb (a ^^^ (-1)) k = !fk_tb a k := by
  rw [fk_tb_xor, fk_tb_m1, decide_eq_true hk, Bool.xor_true]
theorem fk_tb_ge {a : Int32} {k : Nat} (hk : 32 ≤ k) : fk_tb a k = false := BitVec.getLsbD_of_ge a.toBitVec k hk
theorem fk_tb_0 {k : Nat} : fk_tb (nI 0) k = false := by
  show ((0#32 : BitVec 32)).getLsbD k = false
  exact BitVec.getLsbD_zero
theorem fk_tb_nI {n k : Nat} (hk : k < 32) : fk_tb (nI n) k = n.testBit k := by
  show (BitVec.ofNat 32 n).getLsbD k = _
  rw [BitVec.getLsbD_ofNat, decide_eq_true hk, Bool.true_and]
theorem fk_sh : ∀ k : Nat, k < 32 → ((nI k &&& 31).toBitVec.smod 32).toNat = k := by decide +kernel
theorem fk_tb_shl {a : Int32} {j k : Nat} (hj : j < 32) : fk_tb (a <<< (nI j &&& 31)) k = (decide (k < 32) && !decide (k < j) && fk_tb a (k - j)) := by
  show (a.toBitVec <<< ((nI j &&& 31).toBitVec.smod 32)).getLsbD k = _
  rw [BitVec.getLsbD_shiftLeft', fk_sh j hj]
  rfl
theorem fk_tb_1 {k : Nat} : fk_tb (nI 1) k = decide (k = 0) := by
  show ((1#32 : BitVec 32)).getLsbD k = _
  rw [BitVec.getLsbD_one]
  rfl
theorem fk_tb_bit {j k : Nat} (hj : j < 32) : fk_tb (nI 1 <<< (nI j &&& 31)) k = decide (k = j) := by
  rw [fk_tb_shl hj, fk_tb_1]
  by_cases h : k = j
  · subst h
    simp [hj]
  · by_cases h2 : k < j
    · simp [h, h2]
    · have : ¬ k - j = 0 := by omega
      simp [h, this]
theorem fk_tb_shr {a : Int32} {j : Nat} (hj : j < 32) : fk_tb (a >>> (nI j &&& 31)) 0 = fk_tb a j := by
  show (a.toBitVec.sshiftRight' ((nI j &&& 31).toBitVec.smod 32)).getLsbD 0 = _
  rw [BitVec.getLsbD_sshiftRight', fk_sh j hj]
  simp [hj, fk_tb]
theorem fk_and1 {a : Int32} : a &&& nI 1 = if fk_tb a 0 then nI 1 else nI 0 := by
  apply fk_tb_ext
  intro k hk
  rw [fk_tb_and, fk_tb_1]
  by_cases h : k = 0
  · subst h
    cases e : fk_tb a 0
    · simp [fk_tb_0]
    · simp [fk_tb_1]
  · cases e : fk_tb a 0
    · simp [h, fk_tb_0]
    · simp [h, fk_tb_1]
theorem fk_has {a : Int32} {j : Nat} (hj : j < 32) : a >>> (nI j &&& 31) &&& nI 1 = if fk_tb a j then nI 1 else nI 0 := by
  rw [fk_and1, fk_tb_shr hj]
theorem fk_has1 {a : Int32} {j : Nat} (hj : j < 32) : a >>> (nI j &&& 31) &&& nI 1 = nI 1 ↔ fk_tb a j = true := by
  rw [fk_has hj]
  cases fk_tb a j <;> decide
theorem fk_has0 {a : Int32} {j : Nat} (hj : j < 32) : a >>> (nI j &&& 31) &&& nI 1 = nI 0 ↔ ¬ fk_tb a j = true := by
  rw [fk_has hj]
  cases fk_tb a j <;> decide
theorem nI_and31 {j : Nat} (hj : j < 32) : nI j &&& 31 = nI j := by
  have := pk_andN (n := j) (by omega) (m := (31 : Int32)) 5 (by decide)
  rw [this, Nat.mod_eq_of_lt hj]
/-! rows of a state -/
def fk_w (A : Nat → Int32) (i : Nat) (v : Int32) : Nat → Int32 := fun k => if k = i then v else A k
theorem fk_w_s {A : Nat → Int32} {i : Nat} {v : Int32} : fk_w A i v i = v := if_pos rfl
theorem fk_w_o {A : Nat → Int32} {i k : Nat} {v : Int32} (h : k ≠ i) : fk_w A i v k = A k := if_neg h
theorem fk_u_row {y : Nat → Nat → Int32} {c i : Nat} {v : Int32} : fk_u y c i v c = fk_w (y c) i v := by
  funext j
  unfold fk_u fk_w
  by_cases h : j = i
  · rw [if_pos ⟨rfl, h⟩, if_pos h]
  · rw [if_neg (fun z => h z.2), if_neg h]
theorem fk_u_rowo {y : Nat → Nat → Int32} {c i a : Nat} {v : Int32} (h : a ≠ c) : fk_u y c i v a = y a := by
  funext j
  exact fk_u_o fun z => h z.1
/-- a row put in whole -/
def fk_ur (y : Nat → Nat → Int32) (c : Nat) (A : Nat → Int32) : Nat → Nat → Int32 := fun a => if a = c then A else y a
theorem fk_ur_s {y : Nat → Nat → Int32} {c : Nat} {A : Nat → Int32} : fk_ur y c A c = A := if_pos rfl
theorem fk_ur_o {y : Nat → Nat → Int32} {c a : Nat} {A : Nat → Int32} (h : a ≠ c) : fk_ur y c A a = y a := if_neg h
theorem fk_u_ur {y : Nat → Nat → Int32} {c i : Nat} {v : Int32} : fk_u y c i v = fk_ur y c (fk_w (y c) i v) := by
  funext a
  by_cases h : a = c
  · subst h; rw [fk_u_row, fk_ur_s]
  · rw [fk_u_rowo h, fk_ur_o h]
theorem fk_ur_self {y : Nat → Nat → Int32} {c : Nat} : fk_ur y c (y c) = y := by
  funext a
  by_cases h : a = c
  · subst h; rw [fk_ur_s]
  · rw [fk_ur_o h]
theorem fk_ur_ur {y : Nat → Nat → Int32} {c : Nat} {A B : Nat → Int32} : fk_ur (fk_ur y c A) c B = fk_ur y c B := by
  funext a
  by_cases h : a = c
  · subst h; rw [fk_ur_s, fk_ur_s]
  · rw [fk_ur_o h, fk_ur_o h, fk_ur_o h]
/-- all as it was but for some cells -/
def fk_sm (S : Nat → Prop) (y y' : Nat → Nat → Int32) : Prop := ∀ c, ¬ S c → y' c = y c
theorem fk_sm_0 {S : Nat → Prop} {y : Nat → Nat → Int32} : fk_sm S y y := fun _ _ => rfl
theorem fk_sm_t {S : Nat → Prop} {y y1 y2 : Nat → Nat → Int32} (h1 : fk_sm S y y1) (h2 : fk_sm S y1 y2) : fk_sm S y y2 := fun c h => (h2 c h).trans (h1 c h)
theorem fk_sm_w {S T : Nat → Prop} {y y1 : Nat → Nat → Int32} (h : fk_sm S y y1) (hs : ∀ c, S c → T c) : fk_sm T y y1 := fun c hc => h c fun z => hc (hs c z)
theorem fk_sm_u {S : Nat → Prop} {y : Nat → Nat → Int32} {c i : Nat} {v : Int32} (h : S c) : fk_sm S y (fk_u y c i v) := fun a ha => fk_u_rowo fun z => ha (z ▸ h)
theorem fk_sm_ur {S : Nat → Prop} {y : Nat → Nat → Int32} {c : Nat} {A : Nat → Int32} (h : S c) : fk_sm S y (fk_ur y c A) := fun a ha => fk_ur_o fun z => ha (z ▸ h)
/-! numbers, for simp with omega -/
theorem sI_le_t {a b : Nat} (h : a ≤ b) (hb : b < 2147483648) : (nI a ≤ nI b) = True := eq_true (nI_le h hb)
theorem sI_le_f {a b : Nat} (h : b < a) (ha : a < 2147483648) : (nI a ≤ nI b) = False := eq_false (nI_ge h ha)
theorem sI_lt_t {a b : Nat} (h : a < b) (hb : b < 2147483648) : (nI a < nI b) = True := eq_true (nI_lt h hb)
theorem sI_lt_f {a b : Nat} (h : b ≤ a) (ha : a < 2147483648) : (nI a < nI b) = False := eq_false (nI_nlt h ha)
theorem sI_eq_t {a b : Nat} (h : a = b) : (nI a = nI b) = True := eq_true (by rw [h])
theorem sI_eq_f {a b : Nat} (h : a ≠ b) (ha : a < 2147483648) (hb : b < 2147483648) : (nI a = nI b) = False := eq_false fun z => h ((nI_eq ha hb).mp z)
theorem sI_rem {a d : Nat} (ha : a < 2147483648) (h0 : 0 < d) (hd : d < 2147483648) : nI a - nI a / nI d * nI d = nI (a % d) := pk_rem ha h0 hd
theorem sI_div {a d : Nat} (ha : a < 2147483648) (h0 : 0 < d) (hd : d < 2147483648) : nI a / nI d = nI (a / d) := pk_div ha h0 hd
theorem sI_sub {a b : Nat} (h : b ≤ a) : nI a - nI b = nI (a - b) := pk_sub h
theorem sI_dec {a : Nat} (h : 1 ≤ a) : nI a + (-1) = nI (a - 1) := by
  obtain ⟨k, rfl⟩ : ∃ k, a = k + 1 := ⟨a - 1, by omega⟩
  exact pk_m1 k
theorem fk_toInt_nI {n : Nat} (h : n < 2147483648) : (nI n).toInt = (n : Int) := nI_toInt h
theorem fk_m1i : (-1 : Int32).toInt = -1 := by decide
theorem fk_m2i : (-2 : Int32).toInt = -2 := by decide
theorem sI_m1a {n : Nat} (h : n < 2147483648) : (nI n = (-1 : Int32)) = False := eq_false fun z => by
  have := congrArg Int32.toInt z
  rw [fk_toInt_nI h, fk_m1i] at this
  omega
theorem sI_m1b {n : Nat} (h : n < 2147483648) : ((-1 : Int32) = nI n) = False := eq_false fun z => of_eq_false (sI_m1a h) z.symm
theorem sI_m1c {n : Nat} (h : n < 2147483648) : ((-1 : Int32) < nI n) = True := eq_true (by
  rw [Int32.lt_iff_toInt_lt, fk_toInt_nI h, fk_m1i]
  omega)
theorem sI_m1d {n : Nat} (h : n < 2147483648) : (nI n ≤ (-1 : Int32)) = False := eq_false (by
  rw [Int32.le_iff_toInt_le, fk_toInt_nI h, fk_m1i]
  omega)
theorem sI_m1e {n : Nat} (h : n < 2147483648) : ((-1 : Int32) ≤ nI n) = True := eq_true (by
  rw [Int32.le_iff_toInt_le, fk_toInt_nI h, fk_m1i]
  omega)
theorem sI_m1f {n : Nat} (h : n < 2147483648) : (nI n < (-1 : Int32)) = False := eq_false (by
  rw [Int32.lt_iff_toInt_lt, fk_toInt_nI h, fk_m1i]
  omega)
theorem sI_m2a {n : Nat} (h : n < 2147483648) : (nI n = (-2 : Int32)) = False := eq_false fun z => by
  have := congrArg Int32.toInt z
  rw [fk_toInt_nI h, fk_m2i] at this
  omega
theorem sI_m2b {n : Nat} (h : n < 2147483648) : ((-2 : Int32) = nI n) = False := eq_false fun z => of_eq_false (sI_m2a h) z.symm
theorem fk_neg_lt {x : Int32} : ¬ (nI 0 ≤ x) ↔ x < nI 0 := Int32.not_le
/-- a number below n is one of nI 0 .. -/
theorem fk_ixn {x : Int32} {n : Nat} (h : nI 0 ≤ x) (h2 : x < nI n) (hn : n < 2147483648) : ∃ k : Nat, k < n ∧ x = nI k := by
  obtain ⟨k, hk, rfl⟩ := nI_of (x := x) (Int32.not_lt.mpr h)
  exact ⟨k, (nI_ltI hk hn).mp h2, rfl⟩
theorem fk_ixn2 {x : Int32} {n : Nat} (h : nI 0 ≤ x) (h2 : x ≤ nI n) (hn : n < 2147483648) : ∃ k : Nat, k ≤ n ∧ x = nI k := by
  obtain ⟨k, hk, rfl⟩ := nI_of (x := x) (Int32.not_lt.mpr h)
  exact ⟨k, (nI_leI hk hn).mp h2, rfl⟩
theorem fk_ixo {x : Int32} {n : Nat} (hn : n < 2147483648) (h : ¬ (nI 0 ≤ x ∧ x < nI (n + 1))) (hn2 : n + 1 < 2147483648) : x.toInt < 0 ∨ (n : Int) < x.toInt := by
  rw [Int32.le_iff_toInt_le, Int32.lt_iff_toInt_lt, fk_toInt_nI hn2, fk_toInt_nI (by omega)] at h
  omega
theorem sI_dec0 : nI 0 + (-1) = (-1 : Int32) := by decide
theorem sI_z {n : Nat} (h0 : 0 < n) (h : n < 2147483648) : (nI n = (0 : Int32)) = False := eq_false (nI_ne0 h0 h)
theorem sI_md {a d : Nat} : a - a / d * d = a % d := by
  have := Nat.div_add_mod a d
  rw [Nat.mul_comm] at this
  omega
