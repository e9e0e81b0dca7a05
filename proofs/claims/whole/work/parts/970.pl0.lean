theorem fk_it_0 {σ : Type} {f : Nat → σ → σ} {j : Nat} {s : σ} : fk_it f j 0 s = s := rfl
section PL0
variable {v : Nat → Nat → Int32} {W : Int32 → (Nat → Int32) → Int32} {n H m j k : Nat} {po ps ps' : Int32} {s t : ab_S}
/-- a doubt that wasn't asked for doesn't count -/
theorem ab_lv_ag (om : ab_ok v m H t.1) (hj : j < m) (h : ∀ q, q < 16 → fk_tb (ab_lv v W po ps j t).2.2.2 q = true → fk_tb ps q = fk_tb ps' q) : ab_lv v W po ps' j t = ab_lv v W po ps j t := by
  unfold ab_lv at h ⊢
  by_cases c0 : ab_at t.1 j ∧ t.1 (512 + j) = nI 0
  · rw [if_pos c0] at h ⊢
    rw [if_pos c0]
    generalize ab_best (ab_G v W t.1 j) (-1) = b1 at h ⊢
    generalize ab_best (ab_G v W t.1 j) b1.1 = b2 at h ⊢
    unfold ab_lv1 at h ⊢
    by_cases c1 : b1.1 = (-1 : Int32)
    · rw [if_pos c1, if_pos c1]
    · rw [if_neg c1] at h ⊢
      rw [if_neg c1]
      by_cases c2 : ab_can t.1 j b2.1
      · by_cases c3 : t.1 j = po
        · obtain ⟨q, hq, eq⟩ : ∃ q : Nat, q < 16 ∧ t.1 (320 + j) = nI q := by
            rcases (om.2.2.2.2.2.1 j hj).2.2.2.2.1 with ⟨q, q1, q2, _⟩ | ⟨q1, _⟩
            · exact ⟨q, q1, q2⟩
            · have := c0.1.2
              rw [q1] at this
              exact absurd this (by decide)
          have hq' := h q hq (by
            dsimp only
            rw [if_pos ⟨c2, c3⟩, eq, fk_tb_or, Bool.or_eq_true, fk_tb_bitI (by omega)]
            exact Or.inr rfl)
          have ed : ab_dt W po ps' t.1 j = ab_dt W po ps t.1 j := by
            unfold ab_dt
            rw [if_pos c3, if_pos c3, eq, nI_clamp (by omega), hq']
          rw [ed]
        · have ed : ab_dt W po ps' t.1 j = ab_dt W po ps t.1 j := by
            unfold ab_dt
            rw [if_neg c3, if_neg c3]
          rw [ed]
      · rw [if_neg (fun z => c2 z.1), if_neg (fun z => c2 z.1), if_neg (fun z => c2 z.1)]
  · rw [if_neg c0, if_neg c0]
theorem ab_lv_up {q : Nat} (h : fk_tb t.2.2.2 q = true) : fk_tb (ab_lv v W po ps j t).2.2.2 q = true := by
  unfold ab_lv
  split
  · unfold ab_lv1
    split
    · exact h
    · dsimp only
      split
      · rw [fk_tb_or, h]; rfl
      · exact h
  · exact h
theorem ab_p6_ag (hv : ab_rv v) (k5 : ab_ok v n H s.1) (h : ∀ q, q < 16 → fk_tb (fk_it (ab_lv v W po ps) 0 n s).2.2.2 q = true → fk_tb ps q = fk_tb ps' q) : fk_it (ab_lv v W po ps') 0 n s = fk_it (ab_lv v W po ps) 0 n s ∧ ∀ q, fk_tb s.2.2.2 q = true → fk_tb (fk_it (ab_lv v W po ps) 0 n s).2.2.2 q = true := by
  have I : ∀ k, k ≤ n → ab_p6I v n H (fk_it (ab_lv v W po ps) 0 k s) := by
    intro k
    induction k with
    | zero => intro _; rw [fk_it_0]; exact ⟨n, Nat.le_refl _, k5, fun i h1 h2 => by omega⟩
    | succ k ih =>
      intro hk
      rw [fk_it_succ, Nat.zero_add]
      exact ab_p6_step hv (by omega) (ih (by omega))
  have up : ∀ f k, k + f = n → ∀ q, fk_tb (fk_it (ab_lv v W po ps) 0 k s).2.2.2 q = true → fk_tb (fk_it (ab_lv v W po ps) 0 n s).2.2.2 q = true := by
    intro f
    induction f with
    | zero => intro k hk q hq; rw [← hk]; exact hq
    | succ f ih =>
      intro k hk q hq
      refine ih (k + 1) (by omega) q ?_
      rw [fk_it_succ, Nat.zero_add]
      exact ab_lv_up hq
  refine ⟨?_, fun q hq => up n 0 (Nat.zero_add n) q (by rw [fk_it_0]; exact hq)⟩
  have eq : ∀ k, k ≤ n → fk_it (ab_lv v W po ps') 0 k s = fk_it (ab_lv v W po ps) 0 k s := by
    intro k
    induction k with
    | zero => intro _; rw [fk_it_0, fk_it_0]
    | succ k ih =>
      intro hk
      rw [fk_it_succ, fk_it_succ, ih (by omega), Nat.zero_add]
      obtain ⟨m, hm, om, _⟩ := I k (by omega)
      refine ab_lv_ag om (by omega) fun q hq hb => h q hq (up (n - (k + 1)) (k + 1) (by omega) q ?_)
      rw [fk_it_succ, Nat.zero_add]
      exact hb
  exact eq n (Nat.le_refl n)
theorem ab_as_it {f : Nat → ab_S → ab_S} (h : ∀ j t, (f j t).2.2.2 = t.2.2.2) : ∀ k j t, (fk_it f j k t).2.2.2 = t.2.2.2 := by
  intro k
  induction k with
  | zero => intro j t; rw [fk_it_0]
  | succ k ih =>
    intro j t
    show (fk_it f (j + 1) k (f j t)).2.2.2 = _
    rw [ih, h]
theorem ab_as_wt (j : Nat) (t : ab_S) : (ab_wt j t).2.2.2 = t.2.2.2 := by
  unfold ab_wt; split <;> rfl
theorem ab_as_go (j : Nat) (t : ab_S) : (ab_go v po j t).2.2.2 = t.2.2.2 := by
  unfold ab_go ab_go1
  split
  · split <;> rfl
  · rfl
theorem ab_as_mr (a b : Nat) (t : ab_S) : (ab_mr W a b t).2.2.2 = t.2.2.2 := by
  unfold ab_mr ab_mg; split <;> rfl
theorem ab_as_ar (j : Nat) (t : ab_S) : (ab_ar v W j t).2.2.2 = t.2.2.2 := by
  unfold ab_ar; split <;> rfl
theorem ab_as_di {nd : Prop} [Decidable nd] (m j : Nat) (t : ab_S) : (ab_di W nd m j t).2.2.2 = t.2.2.2 := by
  unfold ab_di; split <;> rfl
theorem ab_hr_ag {nd : Prop} [Decidable nd] (hv : ab_rv v) (ho : ab_ok v n H s.1) (h : ∀ q, q < 16 → fk_tb (ab_hr v W po ps nd s).2.2.2 q = true → fk_tb ps q = fk_tb ps' q) : ab_hr v W po ps' nd s = ab_hr v W po ps nd s ∧ ∀ q, fk_tb s.2.2.2 q = true → fk_tb (ab_hr v W po ps nd s).2.2.2 q = true := by
  unfold ab_hr at h ⊢
  dsimp only at h ⊢
  have o0 : ab_ok v n H ((s.1, fun _ => nI 0, s.2.2) : ab_S).1 := ho
  have a0 : ((s.1, fun _ => nI 0, s.2.2) : ab_S).2.2.2 = s.2.2.2 := rfl
  generalize ((s.1, fun _ => nI 0, s.2.2) : ab_S) = s0 at o0 a0 h ⊢
  have k1 : ab_ok v n H (ab_p1 s0).1 := by
    unfold ab_p1
    rw [ab_ok_n o0]
    exact fk_it_inv (f := ab_wt) (fun _ (t : ab_S) => ab_ok v n H t.1) n (fun j t hj ht => ab_ok_wt ht hj) n 0 s0 (Nat.zero_add n) o0
  have a1 : (ab_p1 s0).2.2.2 = s.2.2.2 := by unfold ab_p1; rw [ab_as_it ab_as_wt]; exact a0
  generalize ab_p1 s0 = s1 at k1 a1 h ⊢
  have k2 : ab_ok v n H (ab_p2 v po s1).1 := by
    unfold ab_p2
    rw [ab_ok_n k1]
    exact fk_it_inv (f := ab_go v po) (fun _ (t : ab_S) => ab_ok v n H t.1) n (fun j t hj ht => ab_ok_go hv ht hj) n 0 s1 (Nat.zero_add n) k1
  have a2 : (ab_p2 v po s1).2.2.2 = s.2.2.2 := by unfold ab_p2; rw [ab_as_it ab_as_go]; exact a1
  generalize ab_p2 v po s1 = s2 at k2 a2 h ⊢
  have k3 : ab_ok v n H (ab_p3 W s2).1 := by
    unfold ab_p3
    rw [ab_ok_n k2]
    refine fk_it_inv (f := fun a s => fk_it (fun b s => ab_mr W a b s) (a + 1) (ab_n s.1 - (a + 1)) s) (fun _ (t : ab_S) => ab_ok v n H t.1) n (fun a t ha ht => ?_) n 0 s2 (Nat.zero_add n) k2
    rw [ab_ok_n ht]
    refine (fk_it_inv (f := fun b s => ab_mr W a b s) (fun b (t : ab_S) => a + 1 ≤ b ∧ ab_ok v n H t.1) n (fun b t hb ht => ⟨by omega, ?_⟩) (n - (a + 1)) (a + 1) t (by omega) ⟨Nat.le_refl _, ht⟩).2
    unfold ab_mr
    split
    · rename_i hc
      exact ab_ok_mg ht.2 ha hb (by omega) hc.1.1 hc.2.1.1
    · exact ht.2
  have a3 : (ab_p3 W s2).2.2.2 = s.2.2.2 := by
    unfold ab_p3
    rw [ab_as_it fun a t => ab_as_it (fun b t => ab_as_mr a b t) _ _ t]
    exact a2
  generalize ab_p3 W s2 = s3 at k3 a3 h ⊢
  have k4 : ab_ok v n H (ab_p4 v W s3).1 := by
    unfold ab_p4
    rw [ab_ok_n k3]
    exact fk_it_inv (f := ab_ar v W) (fun _ (t : ab_S) => ab_ok v n H t.1) n (fun j t hj ht => ab_ok_ar hv ht hj) n 0 s3 (Nat.zero_add n) k3
  have a4 : (ab_p4 v W s3).2.2.2 = s.2.2.2 := by unfold ab_p4; rw [ab_as_it ab_as_ar]; exact a3
  generalize ab_p4 v W s3 = s4 at k4 a4 h ⊢
  have k5 : ab_ok v n H (ab_p5 W nd s4).1 := by
    unfold ab_p5
    rw [ab_ok_n k4]
    exact fk_it_inv (f := ab_di W nd n) (fun _ (t : ab_S) => ab_ok v n H t.1) n (fun j t hj ht => ab_ok_di ht hj) n 0 s4 (Nat.zero_add n) k4
  have a5 : (ab_p5 W nd s4).2.2.2 = s.2.2.2 := by unfold ab_p5; rw [ab_as_it (ab_as_di _)]; exact a4
  generalize ab_p5 W nd s4 = s5 at k5 a5 h ⊢
  unfold ab_p6 at h ⊢
  rw [ab_ok_n k5] at h ⊢
  obtain ⟨g1, g2⟩ := ab_p6_ag (ps' := ps') hv k5 h
  rw [g1]
  exact ⟨rfl, fun q hq => g2 q (by rw [a5]; exact hq)⟩
theorem ab_hh_nd {nd nd' : Prop} {i1 : Decidable nd} {i2 : Decidable nd'} (hn : nd ↔ nd') : @ab_hh v W po ps nd i1 s = @ab_hh v W po ps nd' i2 s := by
  have e : nd = nd' := propext hn
  subst e
  have e2 : i1 = i2 := Subsingleton.elim _ _
  subst e2
  rfl
/-- hours of a plan -/
def ab_rn (v : Nat → Nat → Int32) (W : Int32 → (Nat → Int32) → Int32) (po ps : Int32) (s : ab_S) (k : Nat) : ab_S := fk_it (fun _ t => ab_hh v W po ps True t) 0 k s
theorem ab_rn_s : ab_rn v W po ps s (k + 1) = ab_hh v W po ps True (ab_rn v W po ps s k) := fk_it_succ k 0 s
/-- what is known of the hours: nobody is there that shouldn't be -/
def ab_rk (v : Nat → Nat → Int32) (W : Int32 → (Nat → Int32) → Int32) (po ps : Int32) (s : ab_S) (H k : Nat) : Prop := ∀ i, i ≤ k → ∃ n, ab_ok v n (H + i) (ab_rn v W po ps s i).1
theorem ab_rn_ag (hv : ab_rv v) : ∀ k, ab_rk v W po ps s H k → (∀ q, q < 16 → fk_tb (ab_rn v W po ps s k).2.2.2 q = true → fk_tb ps q = fk_tb ps' q) → ab_rn v W po ps' s k = ab_rn v W po ps s k := by
  intro k
  induction k with
  | zero => intro _ _; unfold ab_rn; rw [fk_it_0, fk_it_0]
  | succ k ih =>
    intro hk h
    obtain ⟨n, on⟩ := hk k (by omega)
    have o1 : ab_ok v n (H + k) (ab_rm (ab_rn v W po ps s k).1) := ab_ok_hi on fun k hk => ab_rm_lo (by omega)
    rw [ab_rn_s] at h
    rw [ab_rn_s, ab_rn_s]
    unfold ab_hh at h ⊢
    obtain ⟨g1, g2⟩ := ab_hr_ag (s := (ab_rm (ab_rn v W po ps s k).1, (ab_rn v W po ps s k).2)) (ps' := ps') hv o1 h
    rw [ih (fun i hi => hk i (by omega)) fun q hq hb => h q hq (g2 q hb)]
    exact g1
theorem ab_rn_up (hv : ab_rv v) {q : Nat} : ∀ f k, ab_rk v W po ps s H (k + f) → fk_tb (ab_rn v W po ps s k).2.2.2 q = true → fk_tb (ab_rn v W po ps s (k + f)).2.2.2 q = true := by
  intro f
  induction f with
  | zero => intro k _ h; exact h
  | succ f ih =>
    intro k hk h
    have h1 := ih k (fun i hi => hk i (by omega)) h
    obtain ⟨n, on⟩ := hk (k + f) (by omega)
    have o1 : ab_ok v n (H + (k + f)) (ab_rm (ab_rn v W po ps s (k + f)).1) := ab_ok_hi on fun k hk => ab_rm_lo (by omega)
    rw [show k + (f + 1) = k + f + 1 by omega, ab_rn_s]
    unfold ab_hh
    exact (ab_hr_ag (s := (ab_rm (ab_rn v W po ps s (k + f)).1, (ab_rn v W po ps s (k + f)).2)) (ps' := ps) hv o1 fun _ _ _ => rfl).2 q h1
end PL0
