/-! WHAT HOLDS OF THE HALVES ALL ALONG -/
def fk_sf (f : Nat → Nat) : Nat → Nat → Nat
  | _, 0 => 0
  | j, k + 1 => f j + fk_sf f (j + 1) k
theorem fk_sf_congr {p q : Nat → Nat} : ∀ k j, (∀ i, j ≤ i → i < j + k → p i = q i) → fk_sf p j k = fk_sf q j k := by
  intro k
  induction k with
  | zero => intro j _; rfl
  | succ k ih =>
    intro j h
    unfold fk_sf
    rw [h j (by omega) (by omega), ih (j + 1) fun i h1 h2 => h i (by omega) (by omega)]
theorem fk_sf_succ {p : Nat → Nat} : ∀ k j, fk_sf p j (k + 1) = fk_sf p j k + p (j + k) := by
  intro k
  induction k with
  | zero => intro j; show p j + 0 = 0 + p (j + 0); rw [Nat.add_zero, Nat.zero_add, Nat.add_zero]
  | succ k ih =>
    intro j
    show p j + fk_sf p (j + 1) (k + 1) = p j + fk_sf p (j + 1) k + _
    rw [ih (j + 1), show j + 1 + k = j + (k + 1) by omega, Nat.add_assoc]
theorem fk_sf_upd {p q : Nat → Nat} {i : Nat} : ∀ k j, j ≤ i → i < j + k → (∀ x, j ≤ x → x < j + k → x ≠ i → q x = p x) → fk_sf q j k + p i = fk_sf p j k + q i := by
  intro k
  induction k with
  | zero => intro j h1 h2; omega
  | succ k ih =>
    intro j h1 h2 hq
    unfold fk_sf
    by_cases e : j = i
    · subst e
      rw [fk_sf_congr k (j + 1) fun x h3 h4 => hq x (by omega) (by omega) (by omega)]
      omega
    · rw [hq j (by omega) (by omega) e]
      have := ih (j + 1) (by omega) (by omega) fun x h3 h4 => hq x (by omega) (by omega)
      omega
theorem fk_sf_one {p : Nat → Nat} {i : Nat} : ∀ k j, j ≤ i → i < j + k → p i ≤ fk_sf p j k := by
  intro k
  induction k with
  | zero => intro j h1 h2; omega
  | succ k ih =>
    intro j h1 h2
    unfold fk_sf
    by_cases e : j = i
    · subst e; omega
    · have := ih (j + 1) (by omega) (by omega)
      omega
theorem fk_sf_le {p q : Nat → Nat} : ∀ k j, (∀ i, j ≤ i → i < j + k → p i ≤ q i) → fk_sf p j k ≤ fk_sf q j k := by
  intro k
  induction k with
  | zero => intro j _; exact Nat.le_refl _
  | succ k ih =>
    intro j h
    unfold fk_sf
    have h1 := h j (by omega) (by omega)
    have h2 := ih (j + 1) fun i h1 h2 => h i (by omega) (by omega)
    omega
/-- a half's numbers -/
def ab_oj (v : Nat → Nat → Int32) (A : Nat → Int32) (j : Nat) : Prop :=
  (∃ o : Nat, o < 4 ∧ A j = nI o) ∧ (A (64 + j) = (-2) ∨ ∃ p : Nat, p < j ∧ A (64 + j) = nI p) ∧ (∃ b : Nat, b < 1000 ∧ A (128 + j) = nI b) ∧ (∃ w : Nat, 1 ≤ w ∧ w ≤ 262144 ∧ A (256 + j) = nI w) ∧
  ((∃ p : Nat, p < 16 ∧ A (320 + j) = nI p ∧ A (384 + j) = (-2) ∧ A (448 + j) = nI 0) ∨ (A (320 + j) = (-2) ∧ ∃ r q : Nat, r < 32 ∧ A (384 + j) = nI r ∧ fk_tb (v 246 3) r = true ∧ 1 ≤ q ∧ q ≤ 9 ∧ A (448 + j) = nI q)) ∧
  (∃ w : Nat, w ≤ 99 ∧ A (512 + j) = nI w) ∧ (A (192 + j) = nI 1 → A (640 + j) = (-2)) ∧ (∀ k, fk_tb (A (704 + j)) k = true → k < 16) ∧ (∀ k, fk_tb (A (768 + j)) k = true → fk_tb (A (704 + j)) k = true)
def ab_wj (A : Nat → Int32) (j : Nat) : Nat := if A (192 + j) = nI 1 then (A (256 + j)).toNatClampNeg else 0
def ab_ok (v : Nat → Nat → Int32) (n H : Nat) (A : Nat → Int32) : Prop :=
  n ≤ 64 ∧ A 833 = nI n ∧ A 832 = nI H ∧ H < 1000 ∧ (∃ x : Nat, x < 65536 ∧ A 834 = nI x) ∧ (∀ j, j < n → ab_oj v A j) ∧ fk_sf (ab_wj A) 0 n ≤ 4096 * n
/-- roads and notices -/
def ab_rv (v : Nat → Nat → Int32) : Prop :=
  (∀ r : Nat, r < 32 → fk_tb (v 246 3) r = true → (∃ p : Nat, p < 16 ∧ v 250 r = nI p) ∧ (∃ p : Nat, p < 16 ∧ v 251 r = nI p) ∧ ∃ q : Nat, 1 ≤ q ∧ q ≤ 9 ∧ v 252 r = nI q) ∧
  (∀ p : Nat, p < 16 → v 253 p = (-1) ∨ ∃ f : Nat, f < 16 ∧ v 253 p = nI f) ∧ (∀ p : Nat, p < 16 → v 254 p = nI 0 ∨ v 254 p = nI 1)
section OK
variable {v : Nat → Nat → Int32} {A A' : Nat → Int32} {n H j : Nat} {W : Int32 → (Nat → Int32) → Int32}
theorem ab_oj_congr (h : ∀ c, (c = 0 ∨ c = 64 ∨ c = 128 ∨ c = 192 ∨ c = 256 ∨ c = 320 ∨ c = 384 ∨ c = 448 ∨ c = 512 ∨ c = 640 ∨ c = 704 ∨ c = 768) → A' (c + j) = A (c + j)) (ho : ab_oj v A j) : ab_oj v A' j := by
  unfold ab_oj at ho ⊢
  have h0 : A' j = A j := by have := h 0 (by omega); rwa [Nat.zero_add] at this
  rw [h0, h 64 (by omega), h 128 (by omega), h 192 (by omega), h 256 (by omega), h 320 (by omega), h 384 (by omega), h 448 (by omega), h 512 (by omega), h 640 (by omega), h 704 (by omega), h 768 (by omega)]
  exact ho
theorem ab_wj_congr (h1 : A' (192 + j) = A (192 + j)) (h2 : A' (256 + j) = A (256 + j)) : ab_wj A' j = ab_wj A j := by
  unfold ab_wj
  rw [h1, h2]
/-- a half alone has changed, but for its weight and its life -/
theorem ab_ok_one (ho : ab_ok v n H A) (hj : j < n) (hA : ∀ k, k < 835 → (∀ c, (c = 0 ∨ c = 64 ∨ c = 128 ∨ c = 320 ∨ c = 384 ∨ c = 448 ∨ c = 512 ∨ c = 576 ∨ c = 640 ∨ c = 704 ∨ c = 768) → k ≠ c + j) → A' k = A k) (hoj : ab_oj v A' j) : ab_ok v n H A' := by
  obtain ⟨h1, h2, h3, h4, ⟨x, hx, h5⟩, h6, h7⟩ := ho
  refine ⟨h1, ?_, ?_, h4, ⟨x, hx, ?_⟩, fun i hi => ?_, ?_⟩
  · rw [hA 833 (by omega) (by intro c hc; omega)]; exact h2
  · rw [hA 832 (by omega) (by intro c hc; omega)]; exact h3
  · rw [hA 834 (by omega) (by intro c hc; omega)]; exact h5
  · by_cases e : i = j
    · subst e; exact hoj
    · exact ab_oj_congr (fun c hc => hA (c + i) (by omega) (by intro c' hc'; omega)) (h6 i hi)
  · rw [fk_sf_congr n 0 fun i _ hi => ab_wj_congr (A := A) (A' := A') (j := i) (hA _ (by omega) (by intro c hc; omega)) (hA _ (by omega) (by intro c hc; omega))]
    exact h7
/-- what lies beyond the halves and three single numbers doesn't matter -/
theorem ab_ok_hi (ho : ab_ok v n H A) (hA : ∀ k, k < 835 → A' k = A k) : ab_ok v n H A' := by
  obtain ⟨h1, h2, h3, h4, ⟨x, hx, h5⟩, h6, h7⟩ := ho
  refine ⟨h1, (hA _ (by omega)).trans h2, (hA _ (by omega)).trans h3, h4, ⟨x, hx, (hA _ (by omega)).trans h5⟩, fun i hi => ab_oj_congr (fun c hc => hA _ (by omega)) (h6 i hi), ?_⟩
  rw [fk_sf_congr n 0 fun i _ hi => ab_wj_congr (A := A) (A' := A') (j := i) (hA _ (by omega)) (hA _ (by omega))]
  exact h7
theorem ab_ok_wt {s : ab_S} (ho : ab_ok v n H s.1) (hj : j < n) : ab_ok v n H (ab_wt j s).1 := by
  unfold ab_wt
  by_cases hc : ab_at s.1 j ∧ nI 0 < s.1 (512 + j)
  · rw [if_pos hc]
    have hn : n ≤ 64 := ho.1
    refine ab_ok_one ho hj (fun k _ hk => fk_w_o (hk 512 (by omega))) ?_
    obtain ⟨h1, h2, h3, h4, h5, ⟨w, hw, h6⟩, h7, h8, h9⟩ := ho.2.2.2.2.2.1 j hj
    unfold ab_oj
    try dsimp only
    simp (disch := omega) only [fk_w_o, fk_w_s]
    refine ⟨h1, h2, h3, h4, h5, ⟨w - 1, by omega, ?_⟩, h7, h8, h9⟩
    have : 0 < w := by
      have := hc.2
      rw [h6, nI_ltI (by omega) (by omega)] at this
      exact this
    rw [h6, pk_sub (by omega)]
  · rw [if_neg hc]
    exact ho
theorem ab_ok_go {s : ab_S} {po : Int32} (hv : ab_rv v) (ho : ab_ok v n H s.1) (hj : j < n) : ab_ok v n H (ab_go v po j s).1 := by
  unfold ab_go
  by_cases hc : s.1 (192 + j) = nI 1 ∧ s.1 (320 + j) < nI 0
  · rw [if_pos hc]
    have hn : n ≤ 64 := ho.1
    obtain ⟨h1, h2, h3, h4, h5, h6, h7, h8, h9⟩ := ho.2.2.2.2.2.1 j hj
    have h5' : s.1 (320 + j) = (-2) ∧ ∃ r q : Nat, r < 32 ∧ s.1 (384 + j) = nI r ∧ fk_tb (v 246 3) r = true ∧ 1 ≤ q ∧ q ≤ 9 ∧ s.1 (448 + j) = nI q := by
      rcases h5 with ⟨p, hp, e, _⟩ | h5
      · have := hc.2
        rw [e, sI_lt_f (by omega) (by omega)] at this
        exact this.elim
      · exact h5
    obtain ⟨a1, r, q, hr, a2, a3, hq1, hq2, a4⟩ := h5'
    obtain ⟨_, ⟨t, ht, hto⟩, _⟩ := hv.1 r hr a3
    unfold ab_go1
    by_cases hx : nI 0 < s.1 (448 + j) - nI 1
    · rw [if_pos hx]
      refine ab_ok_one ho hj (fun k _ hk => fk_w_o (hk 448 (by omega))) ?_
      unfold ab_oj
      try dsimp only
      simp (disch := omega) only [fk_w_o, fk_w_s]
      rw [a4, pk_sub (by omega)] at hx ⊢
      rw [nI_ltI (by omega) (by omega)] at hx
      exact ⟨h1, h2, h3, h4, Or.inr ⟨a1, r, q - 1, hr, a2, a3, by omega, by omega, rfl⟩, h6, h7, h8, h9⟩
    · rw [if_neg hx]
      refine ab_ok_one ho hj (fun k _ hk => by dsimp only; rw [fk_w_o (hk 384 (by omega)), fk_w_o (hk 320 (by omega)), fk_w_o (hk 448 (by omega))]) ?_
      unfold ab_oj
      try dsimp only
      simp (disch := omega) only [fk_w_o, fk_w_s]
      rw [a4, pk_sub (by omega)] at hx ⊢
      rw [nI_ltI (by omega) (by omega)] at hx
      rw [a2, nI_clamp (by omega)]
      exact ⟨h1, h2, h3, h4, Or.inl ⟨t, ht, hto, trivial, by rw [show q - 1 = 0 by omega]⟩, h6, h7, h8, h9⟩
  · rw [if_neg hc]
    exact ho
end OK
