section OK3
variable {v : Nat → Nat → Int32} {A A' : Nat → Int32} {n H j : Nat} {W : Int32 → (Nat → Int32) → Int32}
theorem ab_ok_n (ho : ab_ok v n H A) : ab_n A = n := ab_n_of ho.1 ho.2.1
theorem ab_ok_st {r : Nat} (hv : ab_rv v) (ho : ab_ok v n H A) (hj : j < n) (hr : r < 32) (ht : fk_tb (v 246 3) r = true) : ab_ok v n H (ab_st v A j (nI r)) := by
  have hn : n ≤ 64 := ho.1
  unfold ab_st
  rw [nI_clamp (by omega)]
  refine ab_ok_one ho hj (fun k _ hk => by rw [fk_w_o (hk 448 (by omega)), fk_w_o (hk 384 (by omega)), fk_w_o (hk 320 (by omega))]) ?_
  obtain ⟨h1, h2, h3, h4, h5, h6, h7, h8, h9⟩ := ho.2.2.2.2.2.1 j hj
  obtain ⟨_, _, q, q1, q2, e⟩ := hv.1 r hr ht
  clear h5 h2
  unfold ab_oj at *
  have ho2 := ho.2.2.2.2.2.1 j hj
  obtain ⟨_, h2, _⟩ := ho2
  refine ⟨?_, ?_, ?_, ?_, Or.inr ⟨?_, r, q, hr, ?_, ht, q1, q2, ?_⟩, ?_, ?_, ?_, ?_⟩
  · rw [fk_w_o (by omega), fk_w_o (by omega), fk_w_o (by omega)]; exact h1
  · rw [fk_w_o (by omega), fk_w_o (by omega), fk_w_o (by omega)]; exact h2
  · rw [fk_w_o (by omega), fk_w_o (by omega), fk_w_o (by omega)]; exact h3
  · rw [fk_w_o (by omega), fk_w_o (by omega), fk_w_o (by omega)]; exact h4
  · rw [fk_w_o (by omega), fk_w_o (by omega), fk_w_s]
  · rw [fk_w_o (by omega), fk_w_s]
  · rw [fk_w_s, e]
  · rw [fk_w_o (by omega), fk_w_o (by omega), fk_w_o (by omega)]; exact h6
  · rw [fk_w_o (by omega), fk_w_o (by omega), fk_w_o (by omega), fk_w_o (by omega), fk_w_o (by omega), fk_w_o (by omega)]; exact h7
  · rw [fk_w_o (by omega), fk_w_o (by omega), fk_w_o (by omega)]; exact h8
  · rw [fk_w_o (by omega), fk_w_o (by omega), fk_w_o (by omega), fk_w_o (by omega), fk_w_o (by omega), fk_w_o (by omega)]; exact h9
/-- the row with one half more, before it sets out: by index -/
theorem ab_pt_at {q : Int32} (hn : n < 64) (hm : A 833 = nI n) (hj : j < n) (i : Nat) : ab_pt v A j q i =
    if i = 448 + n then v 252 q.toNatClampNeg else if i = 384 + n then q else if i = 320 + n then (-2) else if i = 838 then A 838 + nI 1 else if i = 576 + n then A (576 + j) else if i = 768 + n then A (768 + j) else if i = 704 + n then A (704 + j) else if i = 256 + j then A (256 + j) - A (256 + j) / nI 2 else if i = 640 + n then (-2) else if i = 512 + n then nI 0 else if i = 256 + n then A (256 + j) / nI 2 else if i = 192 + n then nI 1 else if i = 128 + n then A 832 else if i = 64 + n then nI j else if i = n then A j else if i = 833 then nI (n + 1) else A i := by
  unfold ab_pt ab_st ab_bg
  rw [ab_n_of (by omega) hm]
  unfold fk_w
  by_cases c1 : i = 448 + n
  · simp only [c1, if_true]
  · by_cases c2 : i = 768 + n
    · subst c2
      simp (disch := omega) only [if_true, if_neg]
    · by_cases c3 : i = 704 + n
      · subst c3
        simp (disch := omega) only [if_true, if_neg]
      · by_cases c4 : i = 576 + n
        · subst c4
          simp (disch := omega) only [if_true, if_neg]
        · simp only [c1, c2, c3, c4, if_false]
theorem ab_ok_pt {q : Nat} (hv : ab_rv v) (ho : ab_ok v n H A) (hj : j < n) (hn : n < 64) (hw : nI 1 < A (256 + j)) (hl : A (192 + j) = nI 1) (hq : q < 32) (ht : fk_tb (v 246 3) q = true) : ab_ok v (n + 1) H (ab_pt v A j (nI q)) := by
  have at' := ab_pt_at (v := v) (q := nI q) hn ho.2.1 hj
  obtain ⟨_, _, z, z1, z2, ez⟩ := hv.1 q hq ht
  rw [nI_clamp (show q < 2 ^ 31 by omega)] at at'
  generalize ab_pt v A j (nI q) = B at at' ⊢
  obtain ⟨g1, g2, g3, g4, ⟨x, hx, g5⟩, g6, g7⟩ := ho
  have oj := g6 j hj
  unfold ab_oj at oj
  obtain ⟨h1, _, h3, ⟨w, w1, w2, h4⟩, _, h6, h7, h8, h9⟩ := oj
  have w3 : 2 ≤ w := by
    rw [h4, nI_ltI (by omega) (by omega)] at hw
    omega
  have e1 : A (256 + j) / nI 2 = nI (w / 2) := by rw [h4, pk_div (by omega) (by omega) (by omega)]
  have e2 : A (256 + j) - A (256 + j) / nI 2 = nI (w - w / 2) := by rw [e1, h4, pk_sub (by omega)]
  have same : ∀ i, i < n → i ≠ j → ∀ c, (c = 0 ∨ c = 64 ∨ c = 128 ∨ c = 192 ∨ c = 256 ∨ c = 320 ∨ c = 384 ∨ c = 448 ∨ c = 512 ∨ c = 640 ∨ c = 704 ∨ c = 768) → B (c + i) = A (c + i) := by
    intro i hi hij c hc
    rw [at']
    simp (disch := omega) only [if_neg]
  have bj : ∀ c, (c = 0 ∨ c = 64 ∨ c = 128 ∨ c = 192 ∨ c = 320 ∨ c = 384 ∨ c = 448 ∨ c = 512 ∨ c = 640 ∨ c = 704 ∨ c = 768) → B (c + j) = A (c + j) := by
    intro c hc
    rw [at']
    simp (disch := omega) only [if_neg]
  have bw : B (256 + j) = nI (w - w / 2) := by
    rw [at']
    simp (disch := omega) only [if_neg, if_true]
    exact e2
  have b0 : B n = A j := by rw [at']; simp (disch := omega) only [if_neg, if_true]
  have b64 : B (64 + n) = nI j := by rw [at']; simp (disch := omega) only [if_neg, if_true]
  have b128 : B (128 + n) = A 832 := by rw [at']; simp (disch := omega) only [if_neg, if_true]
  have b192 : B (192 + n) = nI 1 := by rw [at']; simp (disch := omega) only [if_neg, if_true]
  have b256 : B (256 + n) = nI (w / 2) := by rw [at']; simp (disch := omega) only [if_neg, if_true]; exact e1
  have b320 : B (320 + n) = (-2) := by rw [at']; simp (disch := omega) only [if_neg, if_true]
  have b384 : B (384 + n) = nI q := by rw [at']; simp (disch := omega) only [if_neg, if_true]
  have b448 : B (448 + n) = v 252 q := by rw [at']; simp (disch := omega) only [if_neg, if_true]
  have b512 : B (512 + n) = nI 0 := by rw [at']; simp (disch := omega) only [if_neg, if_true]
  have b640 : B (640 + n) = (-2) := by rw [at']; simp (disch := omega) only [if_neg, if_true]
  have b704 : B (704 + n) = A (704 + j) := by rw [at']; simp (disch := omega) only [if_neg, if_true]
  have b768 : B (768 + n) = A (768 + j) := by rw [at']; simp (disch := omega) only [if_neg, if_true]
  refine ⟨by omega, ?_, ?_, g4, ⟨x, hx, ?_⟩, fun i hi => ?_, ?_⟩
  · rw [at']; simp (disch := omega) only [if_neg, if_true]
  · rw [at']; simp (disch := omega) only [if_neg, if_true]; exact g3
  · rw [at']; simp (disch := omega) only [if_neg, if_true]; exact g5
  · by_cases ij : i = j
    · subst ij
      have oj := g6 i hj
      unfold ab_oj at oj ⊢
      obtain ⟨h1, h2, h3, _, h5, h6, h7, h8, h9⟩ := oj
      have b0' := bj 0 (Or.inl rfl)
      rw [Nat.zero_add] at b0'
      rw [b0', bj 64 (by omega), bj 128 (by omega), bj 192 (by omega), bw, bj 320 (by omega), bj 384 (by omega), bj 448 (by omega), bj 512 (by omega), bj 640 (by omega), bj 704 (by omega), bj 768 (by omega)]
      exact ⟨h1, h2, h3, ⟨w - w / 2, by omega, by omega, rfl⟩, h5, h6, h7, h8, h9⟩
    · by_cases i_n : i = n
      · subst i_n
        unfold ab_oj
        rw [b0, b64, b128, b192, b256, b320, b384, b448, b512, b640, b704, b768, g3, ez]
        exact ⟨h1, Or.inr ⟨j, hj, rfl⟩, ⟨H, by omega, rfl⟩, ⟨w / 2, by omega, by omega, rfl⟩, Or.inr ⟨rfl, q, z, hq, rfl, ht, z1, z2, rfl⟩, ⟨0, by omega, rfl⟩, fun _ => rfl, h8, h9⟩
      · exact ab_oj_congr (same i (by omega) ij) (g6 i (by omega))
  · have ewj : ab_wj A j = w := by unfold ab_wj; rw [if_pos hl, h4, nI_clamp (by omega)]
    have ewj' : ab_wj B j = w - w / 2 := by unfold ab_wj; rw [bj 192 (by omega), if_pos hl, bw, nI_clamp (by omega)]
    have ewn : ab_wj B n = w / 2 := by unfold ab_wj; rw [b192, if_pos rfl, b256, nI_clamp (by omega)]
    have u := fk_sf_upd (p := ab_wj A) (q := ab_wj B) (i := j) n 0 (by omega) (by omega) fun i _ hi hij => ab_wj_congr (same i (by omega) hij 192 (by omega)) (same i (by omega) hij 256 (by omega))
    rw [fk_sf_succ, Nat.zero_add, ewn]
    rw [ewj, ewj'] at u
    omega
theorem ab_G_rd {r : Nat} (h : nI 0 < ab_G v W A j r) : ab_rd v r (A (320 + j)) := by
  unfold ab_G at h
  by_cases hc : ab_rd v r (A (320 + j))
  · exact hc
  · rw [if_neg hc] at h
    exact absurd h Int32.lt_irrefl
/-- who sets out, with what is known after it -/
theorem ab_ok_lv {s : ab_S} {po ps : Int32} (hv : ab_rv v) (ho : ab_ok v n H s.1) (hj : j < n) : ∃ m, (m = n ∨ m = n + 1) ∧ ab_ok v m H (ab_lv v W po ps j s).1 ∧ (m = n + 1 → (ab_lv v W po ps j s).1 (320 + n) = (-2)) ∧ (∀ i, i < n → i ≠ j → (ab_lv v W po ps j s).1 (320 + i) = s.1 (320 + i)) ∧ ((ab_lv v W po ps j s).1 (320 + j) = s.1 (320 + j) ∨ (ab_lv v W po ps j s).1 (320 + j) = (-2)) := by
  have hn : n ≤ 64 := ho.1
  unfold ab_lv
  by_cases hc : ab_at s.1 j ∧ s.1 (512 + j) = nI 0
  · rw [if_pos hc]
    unfold ab_lv1
    generalize hG : ab_G v W s.1 j = G
    rcases ab_best_is (G := G) (x := (-1)) with ⟨hb, _⟩ | ⟨r, hr, hb, hb2, hpos, _⟩
    · rw [if_pos hb]
      exact ⟨n, Or.inl rfl, ho, fun z => by omega, fun _ _ _ => rfl, Or.inl rfl⟩
    · rw [hb, if_neg (by rw [sI_m1a (by omega)]; exact id)]
      try dsimp only
      have hrd := ab_G_rd (v := v) (W := W) (A := s.1) (j := j) (r := r) (by rw [hG]; exact hpos)
      by_cases hp : ab_can s.1 j (ab_best G (nI r)).1 ∧ (ab_best G (-1)).2 - (ab_best G (nI r)).2 ≤ ab_dt W po ps s.1 j
      · rw [if_pos hp]
        obtain ⟨⟨p1, p2, p3⟩, _⟩ := hp
        rw [ab_ok_n ho] at p2
        rcases ab_best_is (G := G) (x := nI r) with ⟨hc1, _⟩ | ⟨q, hq, hc1, hc2, hcpos, _⟩
        · exact absurd hc1 p1
        · rw [hc1]
          have hqd := ab_G_rd (v := v) (W := W) (A := s.1) (j := j) (r := q) (by rw [hG]; exact hcpos)
          have o1 := ab_ok_pt (q := q) hv ho hj p2 p3 hc.1.1 hq hqd.1
          have at' := ab_pt_at (v := v) (q := nI q) p2 ho.2.1 hj
          refine ⟨n + 1, Or.inr rfl, ab_ok_st hv o1 (by omega) hr hrd.1, fun _ => ?_, fun i hi hij => ?_, Or.inr ?_⟩
          · unfold ab_st
            rw [fk_w_o (by omega), fk_w_o (by omega), fk_w_o (by omega), at']
            simp (disch := omega) only [if_neg, if_true]
          · unfold ab_st
            rw [fk_w_o (by omega), fk_w_o (by omega), fk_w_o (by omega), at']
            simp (disch := omega) only [if_neg, if_true]
          · unfold ab_st
            rw [fk_w_o (by omega), fk_w_o (by omega), fk_w_s]
      · rw [if_neg hp]
        refine ⟨n, Or.inl rfl, ab_ok_st hv ho hj hr hrd.1, fun z => by omega, fun i hi hij => ?_, Or.inr ?_⟩
        · unfold ab_st
          rw [fk_w_o (by omega), fk_w_o (by omega), fk_w_o (by omega)]
        · unfold ab_st
          rw [fk_w_o (by omega), fk_w_o (by omega), fk_w_s]
  · rw [if_neg hc]
    exact ⟨n, Or.inl rfl, ho, fun z => by omega, fun _ _ _ => rfl, Or.inl rfl⟩
end OK3
