/-! CALL BY CALL: both answer alike, and the relation holds on -/
section CL
variable {N : Nat} {S : Nat → Int32} {v y y1 y2 : Nat → Nat → Int32} {l : Nat → Nat → Int64} {d : Nat} {W : Int32 → (Nat → Int32) → Int32}
/-- nothing that the relation speaks of has changed, but for the people of now -/
theorem cR_keep (hR : cR S y) (hf : ∀ k, (k ≤ 1 ∨ (2 ≤ k ∧ k ≤ 8) ∨ (10 ≤ k ∧ k ≤ 16) ∨ (19 ≤ k ∧ k ≤ 24) ∨ k = 26 ∨ k = 27 ∨ (100 ≤ k ∧ k ≤ 166) ∨ k = 237 ∨ k = 249 ∨ (250 ≤ k ∧ k ≤ 255) ∨ (262 ≤ k ∧ k ≤ 266)) → y2 k = y k) (h246 : ∀ i, (i = 3 ∨ i = 10 ∨ i = 19 ∨ i = 33 ∨ i = 36 ∨ i = 49) → y2 246 i = y 246 i) (h167 : ∀ j, j < 64 → y2 (167 + 3 + j) 0 = nI j) (hpl : cR_pl 33 235 y2 y2 (y2 247)) : cR S y2 := by
  obtain ⟨r0, r1, r2, r3, r4, r5, r6, r7, r8, r9⟩ := hR
  have e3 : y2 246 3 = y 246 3 := h246 3 (by omega)
  have e25 : ∀ c, 250 ≤ c → c ≤ 254 → y2 c = y c := fun c h1 h2 => hf c (by omega)
  refine ⟨(hf 0 (by omega)).trans r0, ab_rv_c e3 e25 r1, ck_nt_c e3 e25 (fun c h1 h2 => hf c (by omega)) r2, hpl, ?_, ?_, ?_, (h246 33 (by omega)).trans r7, (h246 36 (by omega)).trans r8, h167⟩
  · obtain ⟨q1, q2⟩ := r4
    refine ⟨fun j hj => by rw [hf _ (by omega)]; exact q1 j hj, ?_⟩
    rw [hf 1 (by omega), h246 49 (by omega), hf 249 (by omega)]
    rcases q2 with q2 | ⟨q2, q3, q4⟩
    · exact Or.inl q2
    · exact Or.inr ⟨q2, q3, cR_pl_c e3 (fun k k1 k2 => hf k (by omega)) (hf 237 (by omega)) q4⟩
  · obtain ⟨t, q1, q2, q3, q4⟩ := r5
    exact ⟨t, q1, by rw [hf 26 (by omega)]; exact q2, (h246 10 (by omega)).trans q3, fun i hi => by rw [hf 27 (by omega), hf 255 (by omega)]; exact q4 i hi⟩
  · obtain ⟨c, W, q1, q2, q3, q4, q5, q6⟩ := r6
    refine ⟨c, W, q1, by rw [hf 1 (by omega)]; exact q2, by rw [hf 1 (by omega)]; exact q3, ck_LC_c (fun k k1 k2 => hf k (by omega)) (by rw [hf c (by omega)]) (by rw [hf c (by omega)]) q4, fk_LR_c (fun k k1 k2 => hf k (by omega)) (h246 19 (by omega)) q5, by rw [hf c (by omega), h246 19 (by omega)]; exact q6⟩
theorem ab_KA_env {v' : Nat → Nat → Int32} (h3 : v' 246 3 = v 246 3) (h : ∀ c, 250 ≤ c → c ≤ 254 → v' c = v c) : ab_KA v' W = ab_KA v W := by
  funext A
  unfold ab_KA ab_hh
  rw [ab_hr_env h3 h]
theorem fk_rs_of {y : Nat → Nat → Int32} : fk_rs y y (y 247, y 269, y 246 35, nI 0) := ⟨rfl, fun _ _ => rfl, rfl, fun _ _ => rfl, fun _ _ _ _ _ _ => rfl⟩
theorem cl_hours (hR : cR S y) {k : Int32} : ∃ a y1 y2, fk_ev (d + 8) qX11_hours 0 [.ref 1, .int k, .null] [] (fk_E N y l) = some (some (.int a), fk_E N y1 l) ∧ fk_ev (d + 8) qX12_hours 0 [.ref 246, .int k, .null] [] (fk_E N y1 l) = some (some (.int a), fk_E N y2 l) ∧ cR S y2 := by
  obtain ⟨r0, r1, r2, r3, r4, r5, r6, r7, r8, r9⟩ := id hR
  obtain ⟨n, H, p1, p2, p3, p4⟩ := r3
  obtain ⟨c, W, q1, q2, q3, q4, q5, q6⟩ := r6
  by_cases hg : nI 1 ≤ k ∧ k ≤ nI 48 ∧ nI H + k ≤ nI 999
  · obtain ⟨k, hk48, rfl⟩ := fk_ixn2 (Int32.le_trans (by decide) hg.1) hg.2.1 (by omega)
    have hk1 : 1 ≤ k := (nI_leI (by omega) (by omega)).mp hg.1
    have hH : H < 1000 := p1.2.2.2.1
    have hk3 : H + k ≤ 999 := by
      have := hg.2.2
      rw [nI_add] at this
      exact (nI_leI (by omega) (by omega)).mp this
    obtain ⟨y1, n1, e1, o1, w1, c1, c2, c3⟩ := mX11_hours (N := N) (l := l) (d := d + 2) r1 r2 q4 q2 p1 p2 p3 p4 hk1 hk48 hk3
    have f : ∀ k', 246 ≤ k' → y1 k' = y k' := fun k' h => c3 k' (by omega) (by omega) (by omega) (by omega) (by omega)
    have e3 : y1 246 3 = y 246 3 := by rw [f 246 (by omega)]
    have e25 : ∀ c, 250 ≤ c → c ≤ 254 → y1 c = y c := fun c h1 h2 => f c (by omega)
    have eK : ab_KA y1 W = ab_KA y W := ab_KA_env e3 e25
    have hs := fk_rs_of (y := y1)
    have o247 : ab_ok y1 n H (y1 247) := by rw [f 247 (by omega)]; exact ab_ok_c e3 p1
    have w247 : ab_wp n H (y1 247) := by rw [f 247 (by omega)]; exact p2
    obtain ⟨y2, s2, n2, e2, g1, g2, g3⟩ := mX12_hours (N := N) (l := l) (d := d) (s := (y1 247, y1 269, y1 246 35, nI 0)) (fk_LR_c (fun k' h1 h2 => f k' (by omega)) (by rw [f 246 (by omega)]) q5) (ab_rv_c e3 e25 r1) hs o247 w247 (by rw [f 246 (by omega)]; exact r7) (by rw [f 246 (by omega)]; exact r8) hk1 hk48 hk3
    dsimp only at e2 g2
    rw [eK, f 247 (by omega)] at e2 g2
    have en : n2 = n1 := by
      have h1 := ab_ok_n g3
      rw [g2] at h1
      have h2 := ab_ok_n o1
      rw [h1] at h2
      exact h2
    subst en
    have h247 : y2 247 = fk_it (fun _ A => ab_KA y W A) 0 k (y 247) := by rw [g1.1, g2]
    have F : ∀ k', k' ≠ 246 → k' ≠ 247 → k' ≠ 267 → k' ≠ 268 → k' ≠ 269 → y2 k' = y1 k' := g1.2.2.2.2
    refine ⟨_, y1, y2, e1, e2, cR_keep hR (fun k' hk' => ?_) (fun i hi => ?_) (fun j hj => ?_) ?_⟩
    · rw [F k' (by omega) (by omega) (by omega) (by omega) (by omega), c3 k' (by omega) (by omega) (by omega) (by omega) (by omega)]
    · rw [g1.2.2.2.1 i (by omega), f 246 (by omega)]
    · rw [F _ (by omega) (by omega) (by omega) (by omega) (by omega), c3 _ (by omega) (by omega) (by omega) (by omega) (by omega)]
      exact r9 j hj
    · rw [h247]
      refine ⟨n2, H + k, ab_ok_c ?_ o1, w1, ck_pr_k c1 fun k' h1 h2 => F k' (by omega) (by omega) (by omega) (by omega) (by omega), fun i hi => ?_⟩
      · rw [g1.2.2.2.1 3 (by omega)]; exact e3
      · rw [F 235 (by omega) (by omega) (by omega) (by omega) (by omega)]; exact c2 i hi
  · have e3 : y 33 3 = nI H := p3.1.2.1.trans p1.2.2.1
    exact ⟨(-1), y, y, mX11_hours_no (d := d + 2) e3 hg, mX12_hours_no p1.2.2.1 hg, hR⟩
end CL
