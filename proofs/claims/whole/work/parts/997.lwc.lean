/-! THE LAW: what is read has meanings -/
section LWC
variable {bt : Nat → Nat} {n a m : Nat}
theorem lz_cls_lt (c : Nat) (h : lz_cls c = true) : c < 256 ∧ c ≠ 40 := by
  unfold lz_cls at h
  rw [Bool.or_eq_true, Bool.or_eq_true, Bool.or_eq_true, Bool.or_eq_true, Bool.or_eq_true, beq_iff_eq, beq_iff_eq, beq_iff_eq, beq_iff_eq, beq_iff_eq, beq_iff_eq] at h
  omega
def lz_Qc (x : Nat × List (Nat × Nat) × List (Nat × Nat) × List (Nat × Nat)) (k : Nat) : Prop :=
  (lz_kw x).length + x.2.2.1.length ≤ k ∧ x.2.1.length ≤ (lz_kw x).length ∧ x.2.2.2.length = x.2.2.1.length ∧ lz_wf x.2.1 ∧ lz_wf (lz_kw x) ∧ lz_wf x.2.2.1 ∧ lz_wf x.2.2.2 ∧ ∃ M, lz_mq x M
theorem lz_cl_ok (hn : n ≤ 240) (ha : a ≤ n) : lz_g n lz_Qc a (lz_cl bt n a m) := by
  unfold lz_cl
  by_cases c : a < n ∧ lz_cls (bt a) = true
  · rw [if_neg (fun z => z c)]
    by_cases c2 : 16 ≤ m
    · rw [if_pos c2]
      exact lz_ft_i (by omega) (by omega) ha
    · rw [if_neg c2]
      have hw : match lz_wo bt n a with
        | .inl e => lz_ft n e
        | .inr x => a < x.1 ∧ x.1 ≤ n ∧ (if bt a = 101 then x.2 = [] else x.2.length + 1 ≤ x.1 - a ∧ lz_wf x.2 ∧ ∃ m, lz_mn x.2 m 15) := by
        unfold lz_wo
        by_cases c3 : bt a = 101
        · rw [if_pos c3]
          exact ⟨Nat.lt_succ_self a, c.1, by rw [if_pos c3]⟩
        · rw [if_neg c3]
          have h := lz_S_ok (bt := bt) 6 (a + 1) c.1
          cases e : lz_S bt n 6 (a + 1) with
          | inl x => rw [e] at h; exact h
          | inr x =>
            rw [e] at h
            obtain ⟨h1, h2, h3, h4, h5⟩ := h
            exact ⟨by omega, h2, by rw [if_neg c3]; exact ⟨by omega, h4, h5⟩⟩
      cases e : lz_wo bt n a with
      | inl x => rw [e] at hw; exact hw
      | inr x =>
        rw [e] at hw
        obtain ⟨w1, w2, w3⟩ := hw
        dsimp only
        by_cases c3 : x.1 < n ∧ bt x.1 = 40
        · rw [if_pos c3]
          have hA := (lz_A_ok (bt := bt) (q := 5) (a := x.1 + 1) hn c3.1).1
          cases e2 : lz_A bt n 5 (x.1 + 1) with
          | inl z => rw [e2] at hA; exact hA
          | inr z =>
            rw [e2] at hA
            obtain ⟨h1, h2, h3, h4, h5, h6, mc, h7, h8, h9⟩ := hA
            dsimp only
            by_cases c4 : z.1 < n ∧ bt z.1 = 41
            · rw [if_pos c4]
              by_cases c5 : bt a = 101
              · rw [if_pos c5] at w3
                have ek : lz_kw (bt a, x.2, z.2.1, z.2.2) = [(0, 1)] := if_pos c5
                refine ⟨by dsimp only; omega, c4.1, ?_, ?_, h4, ?_, ?_, h5, h6, (bt a, (fun _ => some (nI 1)), mc), rfl, (lz_cls_lt _ c.2).1, ?_, fun z => absurd c5 z, h8, h9, h7, fun _ _ => rfl⟩
                · rw [ek]
                  show 1 + z.2.1.length ≤ z.1 + 1 - a
                  omega
                · rw [ek, w3]
                  exact Nat.zero_le _
                · rw [w3]
                  exact fun c hc => absurd hc List.not_mem_nil
                · rw [ek]
                  exact lz_wf_1 (by omega) (by omega)
                · rw [ek]
                  exact lz_mn_le lz_mn_num (by omega)
              · rw [if_neg c5] at w3
                obtain ⟨w4, w5, mw, w6⟩ := w3
                have ek : lz_kw (bt a, x.2, z.2.1, z.2.2) = x.2 := if_neg c5
                refine ⟨by dsimp only; omega, c4.1, ?_, ?_, h4, w5, ?_, h5, h6, (bt a, mw, mc), rfl, (lz_cls_lt _ c.2).1, ?_, fun _ => w6, h8, h9, h7, fun z => absurd z c5⟩
                · rw [ek]
                  show x.2.length + z.2.1.length ≤ z.1 + 1 - a
                  omega
                · rw [ek]
                  exact Nat.le_refl _
                · rw [ek]
                  exact w5
                · rw [ek]
                  exact w6
            · rw [if_neg c4]
              exact lz_ft_i (by omega) (by omega) h2
        · rw [if_neg c3]
          exact lz_ft_i (by omega) (by omega) w2
  · rw [if_pos c]
    exact lz_ft_i (by omega) (by omega) ha
theorem lz_cl_m (h : ∀ e, lz_cl bt n a m ≠ .inl e) : m < 16 := by
  apply Decidable.byContradiction
  intro z
  unfold lz_cl at h
  by_cases c : a < n ∧ lz_cls (bt a) = true
  · rw [if_neg (fun z => z c), if_pos (by omega)] at h
    exact h _ rfl
  · rw [if_pos c] at h
    exact h _ rfl
def lz_tl : List (Nat × List (Nat × Nat) × List (Nat × Nat) × List (Nat × Nat)) → Nat
  | [] => 0
  | q :: Q => (lz_kw q).length + q.2.2.1.length + lz_tl Q
theorem lz_L_ok (hn : n ≤ 240) : ∀ k a m, a ≤ n → n < k + a → match lz_L bt n k a m with
    | .inl e => lz_ft n e
    | .inr Q => lz_tl Q ≤ n - a ∧ m + Q.length ≤ 16 ∧ 1 ≤ Q.length ∧ (∃ Ms, lz_mqs Q Ms) ∧ ∀ q ∈ Q, ∃ k, lz_Qc q k := by
  intro k
  induction k with
  | zero => intro a m ha hk; exact absurd hk (by omega)
  | succ k ih =>
    intro a m ha hk
    unfold lz_L
    have h := lz_cl_ok (bt := bt) (a := a) (m := m) hn ha
    cases e : lz_cl bt n a m with
    | inl x => rw [e] at h; exact h
    | inr x =>
      have hm : m < 16 := lz_cl_m (fun z hz => by rw [e] at hz; cases hz)
      rw [e] at h
      obtain ⟨h1, h2, h3⟩ := h
      obtain ⟨M, hM⟩ := h3.2.2.2.2.2.2.2
      have h4 := h3.1
      dsimp only
      by_cases c : x.1 = n
      · rw [if_pos c]
        exact ⟨by show (lz_kw x.2).length + x.2.2.2.1.length + 0 ≤ _; omega, by show m + 1 ≤ 16; omega, Nat.le_refl _, ⟨[M], hM, trivial⟩, fun q hq => by rw [List.mem_singleton.mp hq]; exact ⟨_, h3⟩⟩
      · rw [if_neg c]
        by_cases c2 : bt x.1 = 59
        · rw [if_pos c2]
          have h5 := ih (x.1 + 1) (m + 1) (by omega) (by omega)
          cases e2 : lz_L bt n k (x.1 + 1) (m + 1) with
          | inl z => rw [e2] at h5; exact h5
          | inr Q =>
            rw [e2] at h5
            obtain ⟨g1, g2, g3, ⟨Ms, g4⟩, g5⟩ := h5
            refine ⟨by show (lz_kw x.2).length + x.2.2.2.1.length + lz_tl Q ≤ _; omega, by rw [List.length_cons]; omega, by rw [List.length_cons]; omega, ⟨M :: Ms, hM, g4⟩, fun q hq => ?_⟩
            rcases List.mem_cons.mp hq with rfl | hq
            · exact ⟨_, h3⟩
            · exact g5 q hq
        · rw [if_neg c2]
          exact lz_ft_i (by omega) (by omega) h2
end LWC
