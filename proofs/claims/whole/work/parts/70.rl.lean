/-! THE RELATION BETWEEN CALLS -/
section RL
variable {v v' : Nat → Nat → Int32} {W : Int32 → (Nat → Int32) → Int32} {n H : Nat}
/-- an hour depends on roads and notices alone -/
theorem ab_hr_env {po ps : Int32} {nd : Prop} [Decidable nd] {s : ab_S} (h3 : v' 246 3 = v 246 3) (h : ∀ c, 250 ≤ c → c ≤ 254 → v' c = v c) : ab_hr v' W po ps nd s = ab_hr v W po ps nd s := by
  have h0 := h 250 (by omega) (by omega)
  have h1 := h 251 (by omega) (by omega)
  have h2 := h 252 (by omega) (by omega)
  have h4 := h 253 (by omega) (by omega)
  have h5 := h 254 (by omega) (by omega)
  have g1 : ab_go v' po = ab_go v po := by
    funext j t
    simp only [ab_go, ab_go1, h1]
  have g2 : ab_ar v' W = ab_ar v W := by
    funext j t
    simp only [ab_ar, ab_ar0, h4, h5]
  have gfr : ab_fr v' = ab_fr v := by
    funext A j r k
    simp only [ab_fr, h1, h2]
  have g3 : ab_G v' W = ab_G v W := by
    funext A j r
    simp only [ab_G, ab_rd, ab_gl, gfr, h3, h0]
  have g4 : ab_st v' = ab_st v := by
    funext A j r
    simp only [ab_st, h2]
  have g5 : ab_pt v' = ab_pt v := by
    funext A j r
    simp only [ab_pt, g4]
  have g6 : ab_lv v' W po ps = ab_lv v W po ps := by
    funext j t
    simp only [ab_lv, ab_lv1, g3, g4, g5]
  simp only [ab_hr, ab_p2, ab_p4, ab_p6, g1, g2, g6]
/-- the halves don't depend on what was seen and asked -/
def ab_pj (s t : ab_S) : Prop := s.1 = t.1 ∧ s.2.1 = t.2.1
theorem ab_pj_it {f : Nat → ab_S → ab_S} (h : ∀ j s t, ab_pj s t → ab_pj (f j s) (f j t)) {k j : Nat} {s t : ab_S} (hs : ab_pj s t) : ab_pj (fk_it f j k s) (fk_it f j k t) := fk_it_rel (fun _ => ab_pj) (j + k) (fun j s t _ hs => h j s t hs) k j s t rfl hs
theorem ab_pj_wt (j : Nat) (s t : ab_S) (h : ab_pj s t) : ab_pj (ab_wt j s) (ab_wt j t) := by
  obtain ⟨A, c, x⟩ := s
  obtain ⟨B, e, z⟩ := t
  obtain ⟨h1, h2⟩ := h
  dsimp only at h1 h2
  subst h1 h2
  unfold ab_wt
  dsimp only
  split
  · exact ⟨rfl, rfl⟩
  · exact ⟨rfl, rfl⟩
theorem ab_pj_go {po : Int32} (j : Nat) (s t : ab_S) (h : ab_pj s t) : ab_pj (ab_go v po j s) (ab_go v po j t) := by
  obtain ⟨A, c, x⟩ := s
  obtain ⟨B, e, z⟩ := t
  obtain ⟨h1, h2⟩ := h
  dsimp only at h1 h2
  subst h1 h2
  unfold ab_go ab_go1
  dsimp only
  split
  · split
    · exact ⟨rfl, rfl⟩
    · exact ⟨rfl, rfl⟩
  · exact ⟨rfl, rfl⟩
theorem ab_pj_mr (a b : Nat) (s t : ab_S) (h : ab_pj s t) : ab_pj (ab_mr W a b s) (ab_mr W a b t) := by
  obtain ⟨A, c, x⟩ := s
  obtain ⟨B, e, z⟩ := t
  obtain ⟨h1, h2⟩ := h
  dsimp only at h1 h2
  subst h1 h2
  unfold ab_mr ab_mg
  dsimp only
  split
  · exact ⟨rfl, rfl⟩
  · exact ⟨rfl, rfl⟩
theorem ab_pj_ar (j : Nat) (s t : ab_S) (h : ab_pj s t) : ab_pj (ab_ar v W j s) (ab_ar v W j t) := by
  obtain ⟨A, c, x⟩ := s
  obtain ⟨B, e, z⟩ := t
  obtain ⟨h1, h2⟩ := h
  dsimp only at h1 h2
  subst h1 h2
  unfold ab_ar
  dsimp only
  split
  · exact ⟨rfl, rfl⟩
  · exact ⟨rfl, rfl⟩
theorem ab_pj_di {nd : Prop} [Decidable nd] (m j : Nat) (s t : ab_S) (h : ab_pj s t) : ab_pj (ab_di W nd m j s) (ab_di W nd m j t) := by
  obtain ⟨A, c, x⟩ := s
  obtain ⟨B, e, z⟩ := t
  obtain ⟨h1, h2⟩ := h
  dsimp only at h1 h2
  subst h1 h2
  unfold ab_di
  dsimp only
  split
  · exact ⟨rfl, rfl⟩
  · exact ⟨rfl, rfl⟩
theorem ab_pj_lv {po ps : Int32} (j : Nat) (s t : ab_S) (h : ab_pj s t) : ab_pj (ab_lv v W po ps j s) (ab_lv v W po ps j t) := by
  obtain ⟨A, c, x⟩ := s
  obtain ⟨B, e, z⟩ := t
  obtain ⟨h1, h2⟩ := h
  dsimp only at h1 h2
  subst h1 h2
  unfold ab_lv ab_lv1
  dsimp only
  split
  · split
    · exact ⟨rfl, rfl⟩
    · exact ⟨rfl, rfl⟩
  · exact ⟨rfl, rfl⟩
theorem ab_pj_hr {po ps : Int32} {nd : Prop} [Decidable nd] {s t : ab_S} (h : s.1 = t.1) : (ab_hr v W po ps nd s).1 = (ab_hr v W po ps nd t).1 := by
  have p0 : ab_pj (s.1, fun _ => nI 0, s.2.2) (t.1, fun _ => nI 0, t.2.2) := ⟨h, rfl⟩
  unfold ab_hr
  dsimp only
  generalize ((s.1, fun _ => nI 0, s.2.2) : ab_S) = s0 at p0 ⊢
  generalize ((t.1, fun _ => nI 0, t.2.2) : ab_S) = t0 at p0 ⊢
  have p1 : ab_pj (ab_p1 s0) (ab_p1 t0) := by
    unfold ab_p1
    rw [p0.1]
    exact ab_pj_it ab_pj_wt p0
  generalize ab_p1 s0 = s1 at p1 ⊢
  generalize ab_p1 t0 = t1 at p1 ⊢
  have p2 : ab_pj (ab_p2 v po s1) (ab_p2 v po t1) := by
    unfold ab_p2
    rw [p1.1]
    exact ab_pj_it ab_pj_go p1
  generalize ab_p2 v po s1 = s2 at p2 ⊢
  generalize ab_p2 v po t1 = t2 at p2 ⊢
  have p3 : ab_pj (ab_p3 W s2) (ab_p3 W t2) := by
    unfold ab_p3
    rw [p2.1]
    refine ab_pj_it (fun a s t hst => ?_) p2
    rw [hst.1]
    exact ab_pj_it (ab_pj_mr a) hst
  generalize ab_p3 W s2 = s3 at p3 ⊢
  generalize ab_p3 W t2 = t3 at p3 ⊢
  have p4 : ab_pj (ab_p4 v W s3) (ab_p4 v W t3) := by
    unfold ab_p4
    rw [p3.1]
    exact ab_pj_it ab_pj_ar p3
  generalize ab_p4 v W s3 = s4 at p4 ⊢
  generalize ab_p4 v W t3 = t4 at p4 ⊢
  have p5 : ab_pj (ab_p5 W nd s4) (ab_p5 W nd t4) := by
    unfold ab_p5
    rw [p4.1]
    exact ab_pj_it (ab_pj_di _) p4
  generalize ab_p5 W nd s4 = s5 at p5 ⊢
  generalize ab_p5 W nd t4 = t5 at p5 ⊢
  have p6 : ab_pj (ab_p6 v W po ps s5) (ab_p6 v W po ps t5) := by
    unfold ab_p6
    rw [p5.1]
    exact ab_pj_it ab_pj_lv p5
  rw [p6.1]
end RL
/-- where each was: before it was born at no place; and nobody is born later than now -/
def ab_wp (n H : Nat) (A : Nat → Int32) : Prop := (∀ j, j < n → (A (128 + j)).toNatClampNeg ≤ H) ∧ ∀ h j, h < H → H < h + 48 → j < 64 → (j < n → h < (A (128 + j)).toNatClampNeg) → A (840 + 64 * (h % 48) + j) = (-2)
/-- people p and the past q of y represent a row -/
def cR_pl (p q : Nat) (v y : Nat → Nat → Int32) (A : Nat → Int32) : Prop := ∃ n H, ab_ok v n H A ∧ ab_wp n H A ∧ ck_pr p y (fun _ => nI 0) A ∧ ∀ i, i < 3072 → y q i = A (840 + i)
def cR_tp (y : Nat → Nat → Int32) : Prop := ∃ t, t ≤ 260 ∧ y 26 1 = nI t ∧ y 246 10 = nI t ∧ ∀ i, i < t → y 27 i = y 255 i &&& nI 255
def cR_lw (y : Nat → Nat → Int32) : Prop := ∃ c W, (c = 2 ∨ c = 10) ∧ y 1 0 = nI c ∧ y 1 1 = nI (12 - c) ∧ ck_LC W c y ∧ fk_LR W y ∧ y c 8 = y 246 19
def cR_kp (y : Nat → Nat → Int32) : Prop := (∀ j, j < 64 → y (100 + 3 + j) 0 = nI j) ∧ ((y 1 2 = nI 0 ∧ y 246 49 = nI 0) ∨ (y 1 2 = nI 1 ∧ y 246 49 = nI 1 ∧ cR_pl 100 237 y y (y 249)))
def cR (S : Nat → Int32) (y : Nat → Nat → Int32) : Prop := y 0 = S ∧ ab_rv y ∧ ck_nt y y ∧ cR_pl 33 235 y y (y 247) ∧ cR_kp y ∧ cR_tp y ∧ cR_lw y ∧ y 246 33 = (-1) ∧ y 246 36 = nI 0 ∧ ∀ j, j < 64 → y (167 + 3 + j) 0 = nI j
section RL2
variable {v v' y y' : Nat → Nat → Int32} {W : Int32 → (Nat → Int32) → Int32} {n H p q c : Nat} {A : Nat → Int32}
theorem ab_rv_c (h3 : v' 246 3 = v 246 3) (h : ∀ c, 250 ≤ c → c ≤ 254 → v' c = v c) (hv : ab_rv v) : ab_rv v' := by
  unfold ab_rv at hv ⊢
  rw [h3, h 250 (by omega) (by omega), h 251 (by omega) (by omega), h 252 (by omega) (by omega), h 253 (by omega) (by omega), h 254 (by omega) (by omega)]
  exact hv
theorem ck_nt_c (h3 : v' 246 3 = v 246 3) (h : ∀ c, 250 ≤ c → c ≤ 254 → v' c = v c) (hy : ∀ c, 19 ≤ c → c ≤ 24 → y' c = y c) (hv : ck_nt v y) : ck_nt v' y' := by
  unfold ck_nt at hv ⊢
  rw [h3, h 250 (by omega) (by omega), h 251 (by omega) (by omega), h 252 (by omega) (by omega), h 253 (by omega) (by omega), h 254 (by omega) (by omega), hy 19 (by omega) (by omega), hy 20 (by omega) (by omega), hy 21 (by omega) (by omega), hy 22 (by omega) (by omega), hy 23 (by omega) (by omega), hy 24 (by omega) (by omega)]
  exact hv
theorem ab_ok_c (h3 : v' 246 3 = v 246 3) (ho : ab_ok v n H A) : ab_ok v' n H A := by
  unfold ab_ok ab_oj at ho ⊢
  rw [h3]
  exact ho
theorem cR_pl_c (h3 : v' 246 3 = v 246 3) (hp : ∀ k, p ≤ k → k < p + 67 → y' k = y k) (hq : y' q = y q) (h : cR_pl p q v y A) : cR_pl p q v' y' A := by
  obtain ⟨n, H, h1, h2, h4, h5⟩ := h
  exact ⟨n, H, ab_ok_c h3 h1, h2, ck_pr_k h4 hp, fun i hi => by rw [hq]; exact h5 i hi⟩
theorem ck_LC_c (hk : ∀ k, c < k → k < c + 7 → y' k = y k) (h7 : y' c 7 = y c 7) (h8 : y' c 8 = y c 8) (h : ck_LC W c y) : ck_LC W c y' := by
  obtain ⟨h1, h2, h3, h4⟩ := h
  exact ⟨h1, h2, h3, fun N d z l a b e1 e2 e3 => h4 N d z l a b (fun k k1 k2 => (e1 k k1 k2).trans (hk k k1 k2)) (e2.trans h7) (e3.trans h8)⟩
theorem fk_LR_c (hk : ∀ c, 262 ≤ c → c ≤ 266 → v' c = v c) (h19 : v' 246 19 = v 246 19) (h : fk_LR W v) : fk_LR W v' := by
  obtain ⟨h1, h2, h3⟩ := h
  exact ⟨h1, fun N d z l a b e1 e2 => h2 N d z l a b (fun k k1 k2 => (e1 k k1 k2).trans (hk k k1 k2)) (e2.trans h19), fun N d z l e1 e2 => h3 N d z l (fun k k1 k2 => (e1 k k1 k2).trans (hk k k1 k2)) (e2.trans h19)⟩
/-- what an hour does to where each was -/
theorem ab_rm_at {A : Nat → Int32} {i : Nat} (hi : i < 3072) {H : Nat} (hH : A 832 = nI H) (h2 : H < 2147483648) : ab_rm A (840 + i) = if 64 * (H % 48) ≤ i ∧ i < 64 * (H % 48) + 64 then (if i - 64 * (H % 48) < ab_n A ∧ ab_at A (i - 64 * (H % 48)) then A (320 + (i - 64 * (H % 48))) else (-2)) else A (840 + i) := by
  unfold ab_rm
  rw [hH, nI_clamp (by omega)]
  have key : ∀ k, k ≤ 64 → fk_it (fun j B => fk_w B (840 + 64 * (H % 48) + j) (if j < ab_n A ∧ ab_at A j then A (320 + j) else (-2))) 0 k A (840 + i) = if 64 * (H % 48) ≤ i ∧ i < 64 * (H % 48) + k then (if i - 64 * (H % 48) < ab_n A ∧ ab_at A (i - 64 * (H % 48)) then A (320 + (i - 64 * (H % 48))) else (-2)) else A (840 + i) := by
    intro k
    induction k with
    | zero => intro _; rw [if_neg (by omega)]; rfl
    | succ k ih =>
      intro hk
      rw [fk_it_succ, Nat.zero_add]
      by_cases e : i = 64 * (H % 48) + k
      · rw [show 840 + 64 * (H % 48) + k = 840 + i by omega, fk_w_s, if_pos (show 64 * (H % 48) ≤ i ∧ i < 64 * (H % 48) + (k + 1) by omega), show i - 64 * (H % 48) = k by omega]
      · rw [fk_w_o (by omega), ih (by omega)]
        by_cases h : 64 * (H % 48) ≤ i ∧ i < 64 * (H % 48) + k
        · rw [if_pos h, if_pos (show 64 * (H % 48) ≤ i ∧ i < 64 * (H % 48) + (k + 1) by omega)]
        · rw [if_neg h, if_neg (show ¬ (64 * (H % 48) ≤ i ∧ i < 64 * (H % 48) + (k + 1)) by omega)]
  exact key 64 (Nat.le_refl _)
theorem ab_wp_hh {po ps : Int32} {nd : Prop} [Decidable nd] {s : ab_S} {m : Nat} (hv : ab_rv v) (ho : ab_ok v n H s.1) (hw : ab_wp n H s.1) (hm : ab_ok v m (H + 1) (ab_hh v W po ps nd s).1) (hnm : n ≤ m) : ab_wp m (H + 1) (ab_hh v W po ps nd s).1 := by
  have hn := ho.1
  have hH := ho.2.2.1
  have hH2 := ho.2.2.2.1
  have o0 : ab_ok v n H (ab_rm s.1) := ab_ok_hi ho fun k hk => ab_rm_lo (by omega)
  have K := ab_kq_hr (W := W) (po := po) (ps := ps) (nd := nd) (s := (ab_rm s.1, s.2)) hv o0
  have eN := ab_ok_n hm
  unfold ab_hh at hm eN ⊢
  generalize (ab_hr v W po ps nd (ab_rm s.1, s.2)).1 = B at hm K eN ⊢
  obtain ⟨k1, k2, k3⟩ := K
  dsimp only at k1 k2 k3
  have e832 : (ab_rm s.1) 832 = nI H := by rw [ab_rm_lo (by omega)]; exact hH
  refine ⟨fun j hj => ?_, fun h j h1 h2 h3 h4 => ?_⟩
  · by_cases e : j < n
    · rw [k2 j e, ab_rm_lo (by omega)]
      have := hw.1 j e
      omega
    · rw [k3 j (by omega) (by omega), e832, nI_clamp (by omega)]
      omega
  · have hi : 64 * (h % 48) + j < 3072 := by omega
    rw [k1 _ (by omega), show 840 + 64 * (h % 48) + j = 840 + (64 * (h % 48) + j) by omega, ab_rm_at hi hH (by omega)]
    by_cases e : h = H
    · subst e
      rw [if_pos (show 64 * (h % 48) ≤ 64 * (h % 48) + j ∧ 64 * (h % 48) + j < 64 * (h % 48) + 64 by omega), show 64 * (h % 48) + j - 64 * (h % 48) = j by omega, ab_ok_n ho]
      refine if_neg fun z => ?_
      have hz := h4 (by omega)
      rw [k2 j z.1, ab_rm_lo (by omega)] at hz
      have := hw.1 j z.1
      omega
    · rw [if_neg (show ¬ (64 * (H % 48) ≤ 64 * (h % 48) + j ∧ 64 * (h % 48) + j < 64 * (H % 48) + 64) by omega), ← Nat.add_assoc]
      refine hw.2 h j (by omega) (by omega) h3 fun hj => ?_
      have hz := h4 (by omega)
      rw [k2 j hj, ab_rm_lo (by omega)] at hz
      exact hz
end RL2
