section PL6
variable {N : Nat} {S : Nat → Int32} {v v' y y0 y1 y2 : Nat → Nat → Int32} {l : Nat → Nat → Int64} {d n H c k m p o z F x : Nat} {T A : Nat → Int32} {W : Int32 → (Nat → Int32) → Int32} {s : ab_S} {b0 P po ps : Int32}
theorem ab_ok_hr {nd : Prop} [Decidable nd] (hv : ab_rv v) (ho : ab_ok v n H s.1) (hH : H < 999) : ∃ m, n ≤ m ∧ ab_ok v m (H + 1) (ab_hr v W po ps nd s).1 := by
  unfold ab_hr
  dsimp only
  have o0 : ab_ok v n H ((s.1, fun _ => nI 0, s.2.2) : ab_S).1 := ho
  generalize ((s.1, fun _ => nI 0, s.2.2) : ab_S) = s0 at o0 ⊢
  have k1 : ab_ok v n H (ab_p1 s0).1 := by
    unfold ab_p1
    rw [ab_ok_n o0]
    exact fk_it_inv (f := ab_wt) (fun _ (t : ab_S) => ab_ok v n H t.1) n (fun j t hj ht => ab_ok_wt ht hj) n 0 s0 (Nat.zero_add n) o0
  generalize ab_p1 s0 = s1 at k1 ⊢
  have k2 : ab_ok v n H (ab_p2 v po s1).1 := by
    unfold ab_p2
    rw [ab_ok_n k1]
    exact fk_it_inv (f := ab_go v po) (fun _ (t : ab_S) => ab_ok v n H t.1) n (fun j t hj ht => ab_ok_go hv ht hj) n 0 s1 (Nat.zero_add n) k1
  generalize ab_p2 v po s1 = s2 at k2 ⊢
  have k3 : ab_ok v n H (ab_p3 W s2).1 := by
    unfold ab_p3
    rw [ab_ok_n k2]
    refine fk_it_inv (f := fun a s => fk_it (fun b s => ab_mr W a b s) (a + 1) (ab_n s.1 - (a + 1)) s) (fun _ (t : ab_S) => ab_ok v n H t.1) n (fun a t ha ht => ?_) n 0 s2 (Nat.zero_add n) k2
    rw [ab_ok_n ht]
    refine (fk_it_inv (f := fun b s => ab_mr W a b s) (fun b (t : ab_S) => a + 1 ≤ b ∧ ab_ok v n H t.1) n (fun b t hb ht => ⟨by omega, ?_⟩) (n - (a + 1)) (a + 1) t (by omega) ⟨Nat.le_refl _, ht⟩).2
    unfold ab_mr
    split
    · rename_i hc
      exact ab_ok_mg ht.2 ha hb (by omega) hc.1.1 hc.2.1.1
    · exact ht.2
  generalize ab_p3 W s2 = s3 at k3 ⊢
  have k4 : ab_ok v n H (ab_p4 v W s3).1 := by
    unfold ab_p4
    rw [ab_ok_n k3]
    exact fk_it_inv (f := ab_ar v W) (fun _ (t : ab_S) => ab_ok v n H t.1) n (fun j t hj ht => ab_ok_ar hv ht hj) n 0 s3 (Nat.zero_add n) k3
  generalize ab_p4 v W s3 = s4 at k4 ⊢
  have k5 : ab_ok v n H (ab_p5 W nd s4).1 := by
    unfold ab_p5
    rw [ab_ok_n k4]
    exact fk_it_inv (f := ab_di W nd n) (fun _ (t : ab_S) => ab_ok v n H t.1) n (fun j t hj ht => ab_ok_di ht hj) n 0 s4 (Nat.zero_add n) k4
  generalize ab_p5 W nd s4 = s5 at k5 ⊢
  have k6 : ab_p6I v n H (ab_p6 v W po ps s5) := by
    unfold ab_p6
    rw [ab_ok_n k5]
    exact fk_it_inv (f := ab_lv v W po ps) (fun _ (t : ab_S) => ab_p6I v n H t) n (fun j t hj ht => ab_p6_step hv hj ht) n 0 s5 (Nat.zero_add n) ⟨n, Nat.le_refl _, k5, fun i h1 h2 => by omega⟩
  generalize ab_p6 v W po ps s5 = w at k6 ⊢
  obtain ⟨m, hm, o7, _⟩ := k6
  refine ⟨m, hm, ?_⟩
  obtain ⟨h1, h2, h3, h4, ⟨x, hx, h5⟩, h6, h7⟩ := o7
  refine ⟨h1, ?_, ?_, by omega, ⟨x, hx, ?_⟩, fun i hi => ab_oj_congr (fun c hc => fk_w_o (by omega)) (h6 i hi), ?_⟩
  · rw [fk_w_o (by omega)]; exact h2
  · rw [fk_w_s, h3, nI_add]
  · rw [fk_w_o (by omega)]; exact h5
  · rw [fk_sf_congr m 0 fun i _ hi => ab_wj_congr (A := w.1) (j := i) (fk_w_o (by omega)) (fk_w_o (by omega))]
    exact h7
theorem ab_ok_hh {nd : Prop} [Decidable nd] (hv : ab_rv v) (ho : ab_ok v n H s.1) (hH : H < 999) : ∃ m, n ≤ m ∧ ab_ok v m (H + 1) (ab_hh v W po ps nd s).1 := by
  unfold ab_hh
  exact ab_ok_hr (s := (ab_rm s.1, s.2)) hv (ab_ok_hi ho fun k hk => ab_rm_lo (by omega)) hH
theorem ab_rn_ok (hv : ab_rv v) (ho : ab_ok v n H s.1) : ∀ k, H + k ≤ 999 → ∃ m, ab_ok v m (H + k) (ab_rn v W po ps s k).1 := by
  intro k
  induction k with
  | zero => intro _; exact ⟨n, ho⟩
  | succ k ih =>
    intro hk
    obtain ⟨m, hm⟩ := ih (by omega)
    obtain ⟨m', _, h⟩ := ab_ok_hh (W := W) (po := po) (ps := ps) (nd := True) hv hm (by omega)
    rw [ab_rn_s]
    exact ⟨m', h⟩
theorem ab_rn_rk (hv : ab_rv v) (ho : ab_ok v n H s.1) (hk : H + k ≤ 999) : ab_rk v W po ps s H k := fun i hi => ab_rn_ok hv ho i (by omega)
theorem ab_rm_top {i : Nat} (hi : 3912 ≤ i) : ab_rm A i = A i := by
  unfold ab_rm
  refine fk_it_inv (fun _ (B : Nat → Int32) => B i = A i) 64 ?_ 64 0 A rfl rfl
  intro j B hj hB
  have : (A 832).toNatClampNeg % 48 < 48 := Nat.mod_lt _ (by omega)
  rw [fk_w_o (by omega)]
  exact hB
theorem ab_rn_top (hv : ab_rv v) (ho : ab_ok v n H s.1) {i : Nat} (hi : 3912 ≤ i) : ∀ k, H + k ≤ 999 → (ab_rn v W po ps s k).1 i = s.1 i := by
  intro k
  induction k with
  | zero => intro _; rfl
  | succ k ih =>
    intro hk
    obtain ⟨m, hm⟩ := ab_rn_ok (W := W) (po := po) (ps := ps) hv ho k (by omega)
    have := (ab_kq_hr (W := W) (po := po) (ps := ps) (nd := True) (s := (ab_rm (ab_rn v W po ps s k).1, (ab_rn v W po ps s k).2)) hv (ab_ok_hi hm fun k hk => ab_rm_lo (by omega))).1 i (by omega)
    rw [ab_rn_s]
    unfold ab_hh
    rw [this]
    try dsimp only
    rw [ab_rm_top hi]
    exact ih (by omega)
theorem ab_rn_0 : ab_rn v W po ps s 0 = s := rfl
theorem ab_mm_0 : ab_mm v W po s z 0 = 1 := rfl
theorem ab_rn_env (h3 : v' 246 3 = v 246 3) (h : ∀ c, 250 ≤ c → c ≤ 254 → v' c = v c) : ab_rn v' W po ps s k = ab_rn v W po ps s k := by
  induction k with
  | zero => rw [ab_rn_0, ab_rn_0]
  | succ k ih =>
    rw [ab_rn_s, ab_rn_s, ih]
    unfold ab_hh
    exact ab_hr_env h3 h
theorem ab_mm_env (h3 : v' 246 3 = v 246 3) (h : ∀ c, 250 ≤ c → c ≤ 254 → v' c = v c) : ab_mm v' W po s z k = ab_mm v W po s z k := by
  induction k with
  | zero => rw [ab_mm_0, ab_mm_0]
  | succ k ih => rw [ab_mm_s, ab_mm_s, ih, ab_rn_env h3 h]
theorem ab_up_env (h3 : v' 246 3 = v 246 3) (h : ∀ c, 250 ≤ c → c ≤ 254 → v' c = v c) {st : Nat × Nat × Nat} : ab_up v' W P po s n st z = ab_up v W P po s n st z := by
  have e : (fun k => decide (ab_gd P po (ab_rn v' W po (nI z) s k))) = fun k => decide (ab_gd P po (ab_rn v W po (nI z) s k)) := by
    funext k
    rw [ab_rn_env h3 h]
  unfold ab_up ab_fk
  rw [e, ab_mm_env h3 h]
/-- the first of a run's places is of no account -/
theorem ab_rn_c {c' : Nat → Int32} : (ab_rn v W po ps (s.1, c', s.2.2) k).1 = (ab_rn v W po ps s k).1 ∧ (ab_rn v W po ps (s.1, c', s.2.2) k).2.2 = (ab_rn v W po ps s k).2.2 := by
  cases k with
  | zero =>
    rw [ab_rn_0, ab_rn_0]
    exact ⟨rfl, rfl⟩
  | succ k =>
    have key : ab_rn v W po ps (s.1, c', s.2.2) (k + 1) = ab_rn v W po ps s (k + 1) := by
      induction k with
      | zero =>
        rw [ab_rn_s, ab_rn_s, ab_rn_0, ab_rn_0]
        exact ab_hh_c (t := s)
      | succ k ih => rw [ab_rn_s (k := k + 1), ih, ← ab_rn_s]
    rw [key]
    exact ⟨rfl, rfl⟩
end PL6
