/-! WHAT NO ROAD LEADS TO IS NEVER COME TO -/
section PLR
variable {v : Nat → Nat → Int32} {n H j k o a : Nat} {A : Nat → Int32} {W : Int32 → (Nat → Int32) → Int32} {P po ps : Int32} {R : Nat → Prop} {s t : ab_S}
/-- a half of the one: it is, or goes, where a road leads -/
def ab_iw (v : Nat → Nat → Int32) (R : Nat → Prop) (po : Int32) (A : Nat → Int32) (j : Nat) : Prop := A (192 + j) = nI 1 → A j = po → (∀ p : Nat, p < 16 → A (320 + j) = nI p → R p) ∧ ∀ r q : Nat, r < 32 → q < 16 → A (384 + j) = nI r → v 251 r = nI q → R q
def ab_in (v : Nat → Nat → Int32) (R : Nat → Prop) (po : Int32) (n : Nat) (s : ab_S) : Prop := (∀ j, j < n → ab_iw v R po s.1 j) ∧ ∀ q, fk_tb s.2.2.1 q = true → R q
theorem ab_iw_c {A' : Nat → Int32} (h0 : A' j = A j) (h1 : A' (192 + j) = nI 1 → A (192 + j) = nI 1) (h2 : A' (320 + j) = A (320 + j)) (h3 : A' (384 + j) = A (384 + j)) (h : ab_iw v R po A j) : ab_iw v R po A' j := by
  intro e1 e2
  rw [h2, h3]
  rw [h0] at e2
  exact h (h1 e1) e2
theorem ab_in_c (hi : ab_in v R po n s) (h0 : ∀ j, j < n → t.1 j = s.1 j) (h1 : ∀ j, j < n → t.1 (192 + j) = nI 1 → s.1 (192 + j) = nI 1) (h2 : ∀ j, j < n → t.1 (320 + j) = s.1 (320 + j)) (h3 : ∀ j, j < n → t.1 (384 + j) = s.1 (384 + j)) (hc : t.2.2.1 = s.2.2.1) : ab_in v R po n t := ⟨fun j hj => ab_iw_c (h0 j hj) (h1 j hj) (h2 j hj) (h3 j hj) (hi.1 j hj), fun q hq => hi.2 q (by rw [← hc]; exact hq)⟩
theorem ab_in_wt (hn : n ≤ 64) (hj : j < n) (hi : ab_in v R po n s) : ab_in v R po n (ab_wt j s) := by
  unfold ab_wt
  split
  · exact ab_in_c hi (fun i hi => fk_w_o (by omega)) (fun i hi h => by rw [← h]; exact (fk_w_o (by omega)).symm) (fun i hi => fk_w_o (by omega)) (fun i hi => fk_w_o (by omega)) rfl
  · exact hi
theorem ab_in_go (hv : ab_rv v) (ho : ab_ok v n H s.1) (hj : j < n) (hi : ab_in v R po n s) : ab_in v R po n (ab_go v po j s) := by
  have hn : n ≤ 64 := ho.1
  unfold ab_go
  by_cases hc : s.1 (192 + j) = nI 1 ∧ s.1 (320 + j) < nI 0
  · rw [if_pos hc]
    have h5 := (ho.2.2.2.2.2.1 j hj).2.2.2.2.1
    have h5' : ∃ r : Nat, r < 32 ∧ s.1 (384 + j) = nI r ∧ fk_tb (v 246 3) r = true := by
      rcases h5 with ⟨p, hp, e, _⟩ | ⟨_, r, q, hr, a2, a3, _⟩
      · have := hc.2
        rw [e, sI_lt_f (by omega) (by omega)] at this
        exact this.elim
      · exact ⟨r, hr, a2, a3⟩
    obtain ⟨r, hr, a2, a3⟩ := h5'
    obtain ⟨_, ⟨t, ht, hto⟩, _⟩ := hv.1 r hr a3
    unfold ab_go1
    by_cases hx : nI 0 < s.1 (448 + j) - nI 1
    · rw [if_pos hx]
      exact ab_in_c hi (fun i hi => fk_w_o (by omega)) (fun i hi h => by rw [← h]; exact (fk_w_o (by omega)).symm) (fun i hi => fk_w_o (by omega)) (fun i hi => fk_w_o (by omega)) rfl
    · rw [if_neg hx, a2, nI_clamp (by omega), hto]
      refine ⟨fun i hin => ?_, fun q hq => ?_⟩
      · try dsimp only
        by_cases e : i = j
        · subst e
          intro e1 e2
          rw [fk_w_o (by omega), fk_w_o (by omega), fk_w_o (by omega)] at e2
          refine ⟨fun p hp h => ?_, fun r' q hr' hq h _ => ?_⟩
          · rw [fk_w_o (by omega), fk_w_s] at h
            have := (nI_eq (by omega) (by omega)).mp h
            subst this
            exact (hi.1 i hj hc.1 e2).2 r t hr ht a2 hto
          · rw [fk_w_s, sI_m2b (by omega)] at h
            exact h.elim
        · exact ab_iw_c (by rw [fk_w_o (by omega), fk_w_o (by omega), fk_w_o (by omega)]) (fun h => by rw [fk_w_o (by omega), fk_w_o (by omega), fk_w_o (by omega)] at h; exact h) (by rw [fk_w_o (by omega), fk_w_o (by omega), fk_w_o (by omega)]) (by rw [fk_w_o (by omega), fk_w_o (by omega), fk_w_o (by omega)]) (hi.1 i hin)
      · try dsimp only at hq
        by_cases cp : s.1 j = po
        · rw [if_pos cp, fk_tb_or, Bool.or_eq_true, fk_tb_bitI (by omega)] at hq
          rcases hq with h | rfl
          · exact hi.2 q h
          · exact (hi.1 j hj hc.1 cp).2 r q hr ht a2 hto
        · rw [if_neg cp] at hq
          exact hi.2 q hq
  · rw [if_neg hc]
    exact hi
theorem ab_in_mr {b : Nat} (hn : n ≤ 64) (ha : a < n) (hb : b < n) (hi : ab_in v R po n s) : ab_in v R po n (ab_mr W a b s) := by
  unfold ab_mr
  split
  · unfold ab_mg
    try dsimp only
    generalize ab_fg W s.1 (ab_both s.1 a b) a b = fg
    unfold ab_mg1
    refine ab_in_c hi (fun i hin => ?_) (fun i hin h => ?_) (fun i hin => ?_) (fun i hin => ?_) rfl
    · simp (disch := omega) only [fk_w_o]
    · try dsimp only at h
      by_cases e : i = b
      · subst e
        simp (disch := omega) only [fk_w_o, fk_w_s] at h
        exact absurd h (by decide)
      · simp (disch := omega) only [fk_w_o] at h
        exact h
    · simp (disch := omega) only [fk_w_o]
    · simp (disch := omega) only [fk_w_o]
  · exact hi
theorem ab_in_ar (hn : n ≤ 64) (hj : j < n) (hi : ab_in v R po n s) : ab_in v R po n (ab_ar v W j s) := by
  unfold ab_ar
  split
  · have e0 : ∀ k, k < 448 → ab_ar0 v j s.1 k = s.1 k := fun k hk => by
      unfold ab_ar0
      split
      · rfl
      · unfold ab_kn
        rw [fk_w_o (by omega), fk_w_o (by omega)]
    have e1 : ∀ k, k < 448 → ab_ar2 W j (ab_ar1 W j (ab_ar0 v j s.1)) k = s.1 k := fun k hk => by
      unfold ab_ar2
      rw [fk_w_o (by omega)]
      unfold ab_ar1
      rw [fk_w_o (by omega)]
      exact e0 k hk
    exact ab_in_c hi (fun i hi => e1 _ (by omega)) (fun i hi h => by rw [← h]; exact (e1 _ (by omega)).symm) (fun i hi => e1 _ (by omega)) (fun i hi => e1 _ (by omega)) rfl
  · exact hi
theorem ab_iw_st {r : Nat} (hn : n ≤ 64) (hj : j < n) (hr : r < 32) (hi : ∀ i, i < n → i ≠ j → ab_iw v R po A i) (hgo : A (192 + j) = nI 1 → A j = po → ∀ q, q < 16 → v 251 r = nI q → R q) : ∀ i, i < n → ab_iw v R po (ab_st v A j (nI r)) i := by
  intro i hin
  unfold ab_st
  by_cases e : i = j
  · subst e
    intro h1 h2
    rw [fk_w_o (by omega), fk_w_o (by omega), fk_w_o (by omega)] at h1 h2
    refine ⟨fun p hp h => ?_, fun r' q hr' hq h hq2 => ?_⟩
    · rw [fk_w_o (by omega), fk_w_o (by omega), fk_w_s, sI_m2b (by omega)] at h
      exact h.elim
    · rw [fk_w_o (by omega), fk_w_s] at h
      have := (nI_eq (by omega) (by omega)).mp h
      subst this
      exact hgo h1 h2 q hq hq2
  · exact ab_iw_c (by rw [fk_w_o (by omega), fk_w_o (by omega), fk_w_o (by omega)]) (fun h => by rw [fk_w_o (by omega), fk_w_o (by omega), fk_w_o (by omega)] at h; exact h) (by rw [fk_w_o (by omega), fk_w_o (by omega), fk_w_o (by omega)]) (by rw [fk_w_o (by omega), fk_w_o (by omega), fk_w_o (by omega)]) (hi i hin e)
theorem ab_in_lv (hv : ab_rv v) (hR : ∀ p q, R p → ab_E v p q → R q) (ho : ab_ok v n H s.1) (hj : j < n) (hi : ab_in v R po n s) : ∃ m, n ≤ m ∧ ab_ok v m H (ab_lv v W po ps j s).1 ∧ ab_in v R po m (ab_lv v W po ps j s) := by
  have hn : n ≤ 64 := ho.1
  unfold ab_lv
  by_cases hc : ab_at s.1 j ∧ s.1 (512 + j) = nI 0
  · rw [if_pos hc]
    obtain ⟨p, hp, e1, _, _⟩ := ab_at_place (ho.2.2.2.2.2.1 j hj) hc.1
    have go : ∀ r, r < 32 → ab_rd v r (s.1 (320 + j)) → s.1 j = po → ∀ q, q < 16 → v 251 r = nI q → R q := fun r hr hd hpo q hq eq => hR p q ((hi.1 j hj hc.1.1 hpo).1 p hp e1) ⟨hp, hq, r, hr, hd.1, by rw [hd.2, e1], eq⟩
    unfold ab_lv1
    generalize hG : ab_G v W s.1 j = G
    rcases ab_best_is (G := G) (x := (-1)) with ⟨hb, _⟩ | ⟨r, hr, hb, hb2, hpos, _⟩
    · rw [if_pos hb]
      exact ⟨n, Nat.le_refl _, ho, hi⟩
    · rw [hb, if_neg (by rw [sI_m1a (by omega)]; exact id)]
      try dsimp only
      have hrd := ab_G_rd (v := v) (W := W) (A := s.1) (j := j) (r := r) (by rw [hG]; exact hpos)
      by_cases hp : ab_can s.1 j (ab_best G (nI r)).1 ∧ (ab_best G (-1)).2 - (ab_best G (nI r)).2 ≤ ab_dt W po ps s.1 j
      · rw [if_pos hp]
        obtain ⟨⟨p1, p2, p3⟩, _⟩ := hp
        rw [ab_ok_n ho] at p2
        rcases ab_best_is (G := G) (x := nI r) with ⟨hc1, _⟩ | ⟨q, hq, hc1, hc2, hcpos, _⟩
        · exact absurd hc1 p1
        · rw [hc1]
          have hqd := ab_G_rd (v := v) (W := W) (A := s.1) (j := j) (r := q) (by rw [hG]; exact hcpos)
          have o1 := ab_ok_pt (q := q) hv ho hj p2 p3 hc.1.1 hq hqd.1
          have at' := ab_pt_at (v := v) (q := nI q) p2 ho.2.1 hj
          have sm : ∀ i, i < n → ∀ c, (c = 0 ∨ c = 192 ∨ c = 320 ∨ c = 384) → ab_pt v s.1 j (nI q) (c + i) = s.1 (c + i) := fun i hi c hc => by
            rw [at']
            simp (disch := omega) only [if_neg]
          have sm0 : ∀ i, i < n → ab_pt v s.1 j (nI q) i = s.1 i := fun i hi => by
            have := sm i hi 0 (Or.inl rfl)
            rwa [Nat.zero_add] at this
          refine ⟨n + 1, by omega, ab_ok_st hv o1 (by omega) hr hrd.1, ab_iw_st (by omega) (by omega) hr (fun i hin hij => ?_) (fun _ h => go r hr hrd (by rw [← sm0 j hj]; exact h)), hi.2⟩
          by_cases i_n : i = n
          · subst i_n
            intro _ h2
            have b0 : ab_pt v s.1 j (nI q) i = s.1 j := by rw [at']; simp (disch := omega) only [if_neg, if_true]
            have b320 : ab_pt v s.1 j (nI q) (320 + i) = (-2) := by rw [at']; simp (disch := omega) only [if_neg, if_true]
            have b384 : ab_pt v s.1 j (nI q) (384 + i) = nI q := by rw [at']; simp (disch := omega) only [if_neg, if_true]
            rw [b0] at h2
            rw [b320, b384]
            refine ⟨fun p hp h => ?_, fun r' q' hr' hq' h hq2 => ?_⟩
            · rw [sI_m2b (by omega)] at h
              exact h.elim
            · have := (nI_eq (by omega) (by omega)).mp h
              subst this
              exact go q hq hqd h2 q' hq' hq2
          · exact ab_iw_c (sm0 i (by omega)) (fun h => by rw [sm i (by omega) 192 (by omega)] at h; exact h) (sm i (by omega) 320 (by omega)) (sm i (by omega) 384 (by omega)) (hi.1 i (by omega))
      · rw [if_neg hp]
        exact ⟨n, Nat.le_refl _, ab_ok_st hv ho hj hr hrd.1, ab_iw_st hn hj hr (fun i hin _ => hi.1 i hin) (fun _ h => go r hr hrd h), hi.2⟩
  · rw [if_neg hc]
    exact ⟨n, Nat.le_refl _, ho, hi⟩
theorem ab_in_hr (hv : ab_rv v) (hR : ∀ p q, R p → ab_E v p q → R q) (ho : ab_ok v n H s.1) (hi : ab_in v R po n s) : ∃ m, n ≤ m ∧ ab_ok v m H (ab_p6 v W po ps (ab_p5 W True (ab_p4 v W (ab_p3 W (ab_p2 v po (ab_p1 (s.1, fun _ => nI 0, s.2.2))))))).1 ∧ ab_in v R po m (ab_hr v W po ps True s) := by
  have hn := ho.1
  unfold ab_hr
  dsimp only
  have o0 : ab_ok v n H ((s.1, fun _ => nI 0, s.2.2) : ab_S).1 ∧ ab_in v R po n ((s.1, fun _ => nI 0, s.2.2) : ab_S) := ⟨ho, hi⟩
  generalize ((s.1, fun _ => nI 0, s.2.2) : ab_S) = s0 at o0 ⊢
  have k1 : ab_ok v n H (ab_p1 s0).1 ∧ ab_in v R po n (ab_p1 s0) := by
    unfold ab_p1
    rw [ab_ok_n o0.1]
    exact fk_it_inv (f := ab_wt) (fun _ (t : ab_S) => ab_ok v n H t.1 ∧ ab_in v R po n t) n (fun j t hj ht => ⟨ab_ok_wt ht.1 hj, ab_in_wt hn hj ht.2⟩) n 0 s0 (Nat.zero_add n) o0
  generalize ab_p1 s0 = s1 at k1 ⊢
  have k2 : ab_ok v n H (ab_p2 v po s1).1 ∧ ab_in v R po n (ab_p2 v po s1) := by
    unfold ab_p2
    rw [ab_ok_n k1.1]
    exact fk_it_inv (f := ab_go v po) (fun _ (t : ab_S) => ab_ok v n H t.1 ∧ ab_in v R po n t) n (fun j t hj ht => ⟨ab_ok_go hv ht.1 hj, ab_in_go hv ht.1 hj ht.2⟩) n 0 s1 (Nat.zero_add n) k1
  generalize ab_p2 v po s1 = s2 at k2 ⊢
  have k3 : ab_ok v n H (ab_p3 W s2).1 ∧ ab_in v R po n (ab_p3 W s2) := by
    unfold ab_p3
    rw [ab_ok_n k2.1]
    refine fk_it_inv (f := fun a s => fk_it (fun b s => ab_mr W a b s) (a + 1) (ab_n s.1 - (a + 1)) s) (fun _ (t : ab_S) => ab_ok v n H t.1 ∧ ab_in v R po n t) n (fun a t ha ht => ?_) n 0 s2 (Nat.zero_add n) k2
    rw [ab_ok_n ht.1]
    refine (fk_it_inv (f := fun b s => ab_mr W a b s) (fun b (t : ab_S) => a + 1 ≤ b ∧ ab_ok v n H t.1 ∧ ab_in v R po n t) n (fun b t hb ht => ⟨by omega, ?_, ab_in_mr hn ha hb ht.2.2⟩) (n - (a + 1)) (a + 1) t (by omega) ⟨Nat.le_refl _, ht⟩).2
    unfold ab_mr
    split
    · rename_i hc
      exact ab_ok_mg ht.2.1 ha hb (by omega) hc.1.1 hc.2.1.1
    · exact ht.2.1
  generalize ab_p3 W s2 = s3 at k3 ⊢
  have k4 : ab_ok v n H (ab_p4 v W s3).1 ∧ ab_in v R po n (ab_p4 v W s3) := by
    unfold ab_p4
    rw [ab_ok_n k3.1]
    exact fk_it_inv (f := ab_ar v W) (fun _ (t : ab_S) => ab_ok v n H t.1 ∧ ab_in v R po n t) n (fun j t hj ht => ⟨ab_ok_ar hv ht.1 hj, ab_in_ar hn hj ht.2⟩) n 0 s3 (Nat.zero_add n) k3
  generalize ab_p4 v W s3 = s4 at k4 ⊢
  have k5 : ab_ok v n H (ab_p5 W True s4).1 ∧ ab_in v R po n (ab_p5 W True s4) := by
    unfold ab_p5
    rw [ab_ok_n k4.1]
    exact fk_it_inv (f := ab_di W True n) (fun _ (t : ab_S) => ab_ok v n H t.1 ∧ ab_in v R po n t) n (fun j t hj ht => ⟨ab_ok_di ht.1 hj, by
      unfold ab_di
      rw [if_neg fun z => z.2 trivial]
      exact ht.2⟩) n 0 s4 (Nat.zero_add n) k4
  generalize ab_p5 W True s4 = s5 at k5 ⊢
  have k6 : ∃ m, n ≤ m ∧ ab_ok v m H (ab_p6 v W po ps s5).1 ∧ ab_in v R po m (ab_p6 v W po ps s5) := by
    unfold ab_p6
    rw [ab_ok_n k5.1]
    refine fk_it_inv (f := ab_lv v W po ps) (fun _ (t : ab_S) => ∃ m, n ≤ m ∧ ab_ok v m H t.1 ∧ ab_in v R po m t) n (fun j t hj ht => ?_) n 0 s5 (Nat.zero_add n) ⟨n, Nat.le_refl _, k5⟩
    obtain ⟨m, hm, h1, h2⟩ := ht
    obtain ⟨m', hm', h3, h4⟩ := ab_in_lv (W := W) (ps := ps) hv hR h1 (show j < m by omega) h2
    exact ⟨m', by omega, h3, h4⟩
  generalize ab_p6 v W po ps s5 = w at k6 ⊢
  obtain ⟨m, hm, o7, i7⟩ := k6
  have m64 := o7.1
  exact ⟨m, hm, o7, ab_in_c i7 (fun i hi => fk_w_o (by omega)) (fun i hi h => by rw [← h]; exact (fk_w_o (by omega)).symm) (fun i hi => fk_w_o (by omega)) (fun i hi => fk_w_o (by omega)) rfl⟩
theorem ab_in_hh (hv : ab_rv v) (hR : ∀ p q, R p → ab_E v p q → R q) (ho : ab_ok v n H s.1) (hH : H < 999) (hi : ab_in v R po n s) : ∃ m, ab_ok v m (H + 1) (ab_hh v W po ps True s).1 ∧ ab_in v R po m (ab_hh v W po ps True s) := by
  have hn := ho.1
  unfold ab_hh
  have o1 : ab_ok v n H (ab_rm s.1) := ab_ok_hi ho fun k hk => ab_rm_lo (by omega)
  have i1 : ab_in v R po n (ab_rm s.1, s.2) := ab_in_c hi (fun i hi => ab_rm_lo (by omega)) (fun i hi h => by rw [← h]; exact (ab_rm_lo (by omega)).symm) (fun i hi => ab_rm_lo (by omega)) (fun i hi => ab_rm_lo (by omega)) rfl
  obtain ⟨m, hm, o2, i2⟩ := ab_in_hr (W := W) (ps := ps) (s := (ab_rm s.1, s.2)) hv hR o1 i1
  obtain ⟨m', hm', o3⟩ := ab_ok_hr (W := W) (po := po) (ps := ps) (nd := True) (s := (ab_rm s.1, s.2)) hv o1 hH
  have e2 := ab_ok_n o2
  have e3 := ab_ok_n o3
  have e4 : ab_n (ab_hr v W po ps True (ab_rm s.1, s.2)).1 = ab_n (ab_p6 v W po ps (ab_p5 W True (ab_p4 v W (ab_p3 W (ab_p2 v po (ab_p1 (ab_rm s.1, fun _ => nI 0, s.2.2))))))).1 := by
    unfold ab_n ab_hr
    dsimp only
    rw [fk_w_o (by omega)]
  have e : m' = m := by rw [← e3, e4]; exact e2
  subst e
  exact ⟨_, o3, i2⟩
theorem ab_in_rn (hv : ab_rv v) (hR : ∀ p q, R p → ab_E v p q → R q) (ho : ab_ok v n H s.1) (hi : ab_in v R po n s) : ∀ k, H + k ≤ 999 → ∃ m, ab_ok v m (H + k) (ab_rn v W po ps s k).1 ∧ ab_in v R po m (ab_rn v W po ps s k) := by
  intro k
  induction k with
  | zero => intro _; exact ⟨n, ho, hi⟩
  | succ k ih =>
    intro hk
    obtain ⟨m, h1, h2⟩ := ih (by omega)
    obtain ⟨m', h3, h4⟩ := ab_in_hh (W := W) (ps := ps) hv hR h1 (by omega) h2
    rw [ab_rn_s]
    exact ⟨m', h3, h4⟩
/-- a place that no road leads to: no plan -/
theorem ab_fd_far {F : Nat} (hv : ab_rv v) (ho : ab_ok v n H A) (hj : ab_oo A o n j) (ea : A (320 + j) = nI a) (ha : a < 16) {L : Nat} (hl : H + L ≤ 999) (hq : ∃ q, q < 32 ∧ fk_tb P q = true ∧ ¬ ab_RC v (nI 0) a q) : ab_fd v W P (nI o) (ab_s0 A j) L F (F + 1) = (1000000000, 0, 0) := by
  have hj1 := hj.1
  have i0 : ab_in v (ab_RC v (nI 0) a) (nI o) n (ab_s0 A j) := by
    refine ⟨fun i hi h1 h2 => ?_, fun q hq => ?_⟩
    · have e : i = j := hj.2.2 i hi ⟨h1, h2⟩
      subst e
      have at' := ab_at_place (ho.2.2.2.2.2.1 i hi) ⟨h1, by show nI 0 ≤ A (320 + i); rw [ea]; exact (nI_leI (by omega) (by omega)).mpr (Nat.zero_le _)⟩
      obtain ⟨p', hp', e1, e2, _⟩ := at'
      refine ⟨fun p hp h => ?_, fun r q hr _ h _ => ?_⟩
      · have h : A (320 + i) = nI p := h
        rw [ea] at h
        have := (nI_eq (by omega) (by omega)).mp h
        subst this
        exact ab_RC_0
      · have h : A (384 + i) = nI r := h
        rw [e2, sI_m2b (by omega)] at h
        exact h.elim
    · have hq : fk_tb (nI 1 <<< (A (320 + j) &&& 31)) q = true := hq
      rw [ea, fk_tb_bitI (by omega)] at hq
      subst hq
      exact ab_RC_0
  have hR : ∀ p q, ab_RC v (nI 0) a p → ab_E v p q → ab_RC v (nI 0) a q := fun p q h e => ab_RC_s h e (by rw [fk_tb_0]; decide)
  obtain ⟨q, q32, q1, q2⟩ := hq
  have ng : ∀ z i, i ≤ L → ¬ ab_gd P (nI o) (ab_rn v W (nI o) (nI z) (ab_s0 A j) i) := by
    intro z i hi hg
    obtain ⟨m, _, h2⟩ := ab_in_rn (W := W) (ps := nI z) (s := ab_s0 A j) hv hR ho i0 i (by omega)
    have hb : ¬ fk_tb (ab_rn v W (nI o) (nI z) (ab_s0 A j) i).2.2.1 q = true := fun z => q2 (h2.2 q z)
    have : fk_tb (P &&& ((ab_rn v W (nI o) (nI z) (ab_s0 A j) i).2.2.1 ^^^ (-1))) q = true := by
      rw [fk_tb_and, Bool.and_eq_true, fk_tb_nt q32]
      exact ⟨q1, hb⟩
    rw [hg.1, fk_tb_0] at this
    exact absurd this (by decide)
  refine ab_fd_skip (x := 0) (st := (1000000000, 0, 0)) (Nat.zero_le _) rfl fun z _ _ _ => ?_
  have hK : ab_K L (1000000000, 0, 0) ≤ L + 1 := by unfold ab_K; split <;> omega
  have e := fk_fi_no (p := fun k => decide (ab_gd P (nI o) (ab_rn v W (nI o) (nI z) (ab_s0 A j) k))) (j := 0) (k := ab_K L (1000000000, 0, 0)) fun i _ i2 => by
    rw [decide_eq_true_eq]
    exact ng z i (by omega)
  unfold ab_up
  exact if_neg (by unfold ab_fk; omega)
/-- what the class asks ahead of its tries -/
theorem ab_far_iff (ha : a < 16) (hf : ¬ P &&& (nI 1 <<< (nI a &&& 31) ^^^ (-1)) &&& (fk_sz (ab_RC v (nI 0) a) ^^^ (-1)) = nI 0) : ∃ q, q < 32 ∧ fk_tb P q = true ∧ ¬ ab_RC v (nI 0) a q := by
  obtain ⟨q, hq⟩ := fk_nz hf
  have q32 := fk_tb_lt hq
  rw [fk_tb_and, Bool.and_eq_true, fk_tb_and, Bool.and_eq_true, fk_tb_nt q32, fk_tb_nt q32, fk_sz_t] at hq
  exact ⟨q, q32, hq.1.1, fun z => hq.2 ⟨ab_RC_lt ha q z, z⟩⟩
end PLR
section PLB
variable {N : Nat} {v y t : Nat → Nat → Int32} {l : Nat → Nat → Int64} {d n H c j o x q L F : Nat} {T A : Nat → Int32} {W : Int32 → (Nat → Int32) → Int32} {P : Int32}
theorem ab_fd_0 (hF : F < 65536) (h1 : ab_lo A (nI o) = 1) (h0 : P &&& (nI 1 <<< (A (320 + j) &&& 31) ^^^ (-1)) = nI 0) : ab_fd v W P (nI o) (ab_s0 A j) n F (F + 1) = (0, 0, 1) := by
  have e0 : ab_fd v W P (nI o) (ab_s0 A j) n F (0 + 1) = (0, 0, 1) := by
    have es : ab_sF F 0 := (ab_sF_su hF (by omega)).mpr fun i h => by rw [Nat.zero_testBit] at h; exact absurd h (by decide)
    have hK : 0 < ab_K n (1000000000, 0, 0) := by
      unfold ab_K
      split
      · show 0 < 1000000000
        omega
      · omega
    have ef : ab_fk v W P (nI o) (ab_s0 A j) 0 (ab_K n (1000000000, 0, 0)) = 0 := fk_fi_at (by omega) (by omega) (by
      rw [decide_eq_true_eq, ab_rn_0]
      exact ⟨h0, h1⟩) fun a _ h => by omega
    rw [ab_fd_s, if_pos es, show ab_fd v W P (nI o) (ab_s0 A j) n F 0 = (1000000000, 0, 0) from rfl]
    unfold ab_up
    rw [ef, if_pos hK, ab_mm_0]
  refine ab_fd_skip (x := 0 + 1) (by omega) e0 fun z _ _ _ => ?_
  unfold ab_up
  rw [show ab_K n (0, 0, 1) = 0 from if_pos (Nat.zero_le _)]
  exact if_neg (by omega)
theorem mX9_seek (hv : ab_rv v) (hN : ck_nt v y) (hL : ck_LC W c y) (hpr : ck_pr 33 y T A) (ho : ab_ok v q H A) (hj : ab_oo A o q j) (hat : nI 0 ≤ A (320 + j)) (h1 : ab_lo A (nI o) = 1) (ho4 : o < 4) (hF : F < 65536) (eF : ab_fo v = nI F) (hn : n ≤ 48) (hl : H + n ≤ 999) (h167 : ∀ j, j < 64 → y (167 + 3 + j) 0 = nI j) : ∃ y1, fk_ev (d + 6) qX9_seek 0 [.ref 240, .ref 33, .ref c, .int ((nI j)), .int P, .int ((nI n)), .null, .null, .null, .null, .null, .null, .null, .null] [] (fk_E N y l) = some (none, fk_E N y1 l) ∧ ck_sq c y y1 ∧ ck_r3 n y1 (ab_fd v W P (nI o) (ab_s0 A j) n F (F + 1)) := by
  obtain ⟨h8, c0, c1, h24, s24, h20, s20, p1, p2⟩ := ck_pp_at (p := 33) (Or.inl rfl)
  have hc := hL.1
  have hq := ho.1
  have hj1 := hj.1
  have hh := n_h (show j < 64 by omega)
  have e6 : y (36 + j) 6 = A (320 + j) := by
    have := (hpr.2.2.1 j (by omega) (by rw [ab_ok_n ho]; exact hj1)).2.2.2.2.2.1
    rw [show 33 + 3 + j = 36 + j by omega] at this
    exact this
  generalize eu : fk_u (fk_u (fk_u y 240 3 (-1)) 240 4 (nI 0)) 240 5 (nI 1) = u
  have uo : ∀ k, k ≠ 240 → u k = y k := fun k hk => by rw [← eu, fk_u_rowo hk, fk_u_rowo hk, fk_u_rowo hk]
  have u6 : u (36 + j) 6 = A (320 + j) := by rw [uo _ (by omega)]; exact e6
  have c34 : fk_cr 33 0 = 34 := c0
  have h34 : fk_at 34 24 := h24
  have s34 : (fk_shp 34).2 = 64 := s24
  have e36 : 34 + 2 + j = 36 + j := by omega
  have sq : ck_sq c y u := ⟨fun k _ _ _ _ k5 => uo k k5, fun i hi => by rw [uo _ (by omega)]; exact h167 i hi⟩
  by_cases cw : P &&& (nI 1 <<< (A (320 + j) &&& 31) ^^^ (-1)) = nI 0
  · refine ⟨fk_u u 240 3 (nI 0), ?_, ⟨fun k k1 k2 k3 k4 k5 => by rw [fk_u_rowo k5]; exact sq.1 k k1 k2 k3 k4 k5, fun i hi => by rw [fk_u_rowo (by omega)]; exact sq.2 i hi⟩, ?_⟩
    · simp (disch := first | assumption | omega) only [rX9_seek, eu, c34, s34, e36, u6, cw, Option.bind_some, Option.toList_some, Option.toList_none, List.cons_append, List.nil_append, fk_b_0, nI_add, Nat.add_zero, Nat.zero_add, not_true_eq_false, not_false_eq_true, if_true, if_false, sI_le_t, sI_le_f, sI_lt_t, sI_lt_f, sI_eq_t, sI_eq_f, sI_rem, sI_div, sI_m1a, sI_m1b, sI_m1c, sI_m1d, sI_m1e, sI_m1f, sI_m2a, sI_m2b, sI_sub, pk_mul, sI_dec, fk_u_s, fk_u_o, sI_dec0, sI_z, sI_md, Bool.false_eq_true, Nat.reduceAdd, Nat.reduceMul, Nat.reduceSub, Nat.reduceMod, Nat.reduceDiv]
    · rw [ab_fd_0 hF h1 cw]
      refine Or.inr ⟨Nat.zero_le _, fk_u_s, ?_, ?_⟩
      · rw [fk_u_o (by omega), ← eu, fk_u_o (by omega), fk_u_s]
      · rw [fk_u_o (by omega), ← eu, fk_u_s]
  · have Nu : ck_nt v u := ck_nt_c rfl (fun _ _ _ => rfl) (fun c' _ _ => uo c' (by omega)) hN
    obtain ⟨a, a16, ea, _, _⟩ := ab_at_place (ho.2.2.2.2.2.1 j hj1) ⟨hj.2.1.1, hat⟩
    have er := mX5_reach (N := N) (l := l) (d := d + 4) (y := u) (shut := nI 0) Nu a16
    by_cases cr : P &&& (nI 1 <<< (nI a &&& 31) ^^^ (-1)) &&& (fk_sz (ab_RC v (nI 0) a) ^^^ (-1)) = nI 0
    · have ef := mX5_forkPlaces (N := N) (l := l) (d := d + 4) (y := u) hv Nu
      rw [eF] at ef
      have h8F := (ab_fo_ok (v := v)).2
      rw [eF] at h8F
      obtain ⟨y1, e1, e2, e3⟩ := mX9_seek_loop (N := N) (l := l) (d := d) (a3 := .int (nI j)) (a4 := .int P) (a5 := .int (nI n)) hv hN hL hpr ho hj ho4 hF h8F hn hl cw (F + 1) 0 0 n (1000000000, 0, 0) u (by omega) (fun i h => by rw [Nat.zero_testBit] at h; exact absurd h (by decide)) (Nat.zero_le _) (if_neg (by show ¬ 1000000000 ≤ n; omega)).symm rfl sq (Or.inl ⟨rfl, by rw [← eu, fk_u_o (by omega), fk_u_o (by omega), fk_u_s]⟩) .null .null
      refine ⟨y1, ?_, e2, e3⟩
      rw [← e1]
      rw [ea] at u6 cw ⊢
      simp (disch := first | assumption | omega) only [rX9_seek, eu, c34, s34, e36, u6, cw, er, cr, ef, Option.bind_some, Option.toList_some, Option.toList_none, List.cons_append, List.nil_append, fk_b_0, nI_add, Nat.add_zero, Nat.zero_add, not_true_eq_false, not_false_eq_true, if_true, if_false, sI_le_t, sI_le_f, sI_lt_t, sI_lt_f, sI_eq_t, sI_eq_f, sI_rem, sI_div, sI_m1a, sI_m1b, sI_m1c, sI_m1d, sI_m1e, sI_m1f, sI_m2a, sI_m2b, sI_sub, pk_mul, sI_dec, fk_u_s, fk_u_o, sI_dec0, sI_z, sI_md, Bool.false_eq_true, Nat.reduceAdd, Nat.reduceMul, Nat.reduceSub, Nat.reduceMod, Nat.reduceDiv]
    · refine ⟨u, ?_, sq, ?_⟩
      · rw [ea] at u6 cw
        simp (disch := first | assumption | omega) only [rX9_seek, eu, c34, s34, e36, u6, cw, er, cr, Option.bind_some, Option.toList_some, Option.toList_none, List.cons_append, List.nil_append, fk_b_0, nI_add, Nat.add_zero, Nat.zero_add, not_true_eq_false, not_false_eq_true, if_true, if_false, sI_le_t, sI_le_f, sI_lt_t, sI_lt_f, sI_eq_t, sI_eq_f, sI_rem, sI_div, sI_m1a, sI_m1b, sI_m1c, sI_m1d, sI_m1e, sI_m1f, sI_m2a, sI_m2b, sI_sub, pk_mul, sI_dec, fk_u_s, fk_u_o, sI_dec0, sI_z, sI_md, Bool.false_eq_true, Nat.reduceAdd, Nat.reduceMul, Nat.reduceSub, Nat.reduceMod, Nat.reduceDiv]
      · rw [ab_fd_far hv ho hj ea a16 hl (ab_far_iff a16 cr)]
        exact Or.inl ⟨rfl, by rw [← eu, fk_u_o (by omega), fk_u_o (by omega), fk_u_s]⟩
end PLB
