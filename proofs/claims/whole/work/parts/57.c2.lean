/-! the class within an hour -/
def ck_ix (k : Nat) : Nat := if k = 0 then 7 else if k = 1 then 8 else if k = 2 then 9 else if k = 3 then 25 else if k = 4 then 15 else if k = 5 then 13 else if k = 6 then 12 else if k = 7 then 14 else if k = 8 then 10 else if k = 9 then 17 else if k = 10 then 16 else if k = 11 then 11 else if k = 12 then 5 else 24
theorem ck_ix_r0 : ∀ k, k < 14 → (k = 9 ∨ k = 10 ∨ k = 11 ∨ (ck_ix k ≠ 17 ∧ ck_ix k ≠ 16 ∧ ck_ix k ≠ 11)) := by decide
theorem ck_ix_r (k : Nat) (hk : k < 14) (h1 : k ≠ 9) (h2 : k ≠ 10) (h3 : k ≠ 11) : ck_ix k ≠ 17 ∧ ck_ix k ≠ 16 ∧ ck_ix k ≠ 11 := by
  rcases ck_ix_r0 k hk with h | h | h | h
  · exact absurd h h1
  · exact absurd h h2
  · exact absurd h h3
  · exact h
theorem ck_ix_f0 : ∀ k, k < 14 → (k = 12 ∨ ck_ix k ≠ 5) := by decide
theorem ck_ix_f (k : Nat) (hk : k < 14) (h : k ≠ 12) : ck_ix k ≠ 5 := (ck_ix_f0 k hk).resolve_left h
theorem ck_ix_y0 : ∀ k, k < 14 → (k = 13 ∨ ck_ix k ≠ 24) := by decide
theorem ck_ix_y (k : Nat) (hk : k < 14) (h : k ≠ 13) : ck_ix k ≠ 24 := (ck_ix_y0 k hk).resolve_left h
def ck_lt (L : Nat → Int32) : Nat → Int32 := fun k => L (ck_ix k)
def ck_LC (W : Int32 → (Nat → Int32) → Int32) (c : Nat) (y0 : Nat → Nat → Int32) : Prop :=
  (c = 2 ∨ c = 10) ∧ (∀ a F G, (∀ k, k < 14 → F k = G k) → W a F = W a G) ∧ (∀ F, W (nI 101) F = nI 0 ∨ W (nI 101) F = nI 1) ∧
  ∀ (N d : Nat) (y : Nat → Nat → Int32) (l : Nat → Nat → Int64) (a h : Int32), (∀ k, c < k → k < c + 7 → y k = y0 k) → y c 7 = y0 c 7 → y c 8 = y0 c 8 → (a = nI 99 ∨ a = nI 100 ∨ a = nI 98 ∨ a = nI 119 ∨ a = nI 120 ∨ a = nI 101) → nI 0 ≤ h → ∃ y', fk_ev (d + 1) qX3_value 0 [.ref c, .int a, .int h, .ref 239, .null] [] (fk_E N y l) = some (some (.int ((ab_cl h (W a (ck_lt (y 239)))))), fk_E N y' l) ∧ ∀ k, k ≠ c + 7 → y' k = y k
/-- roads and notices of the class, against the reference's -/
def ck_nt (v y0 : Nat → Nat → Int32) : Prop :=
  (∀ r, r < 32 → fk_tb (v 246 3) r = true → y0 19 r = v 250 r ∧ y0 20 r = v 251 r ∧ y0 21 r = v 252 r) ∧ (∀ r, r < 32 → ¬ fk_tb (v 246 3) r = true → y0 19 r = (-1)) ∧ (∀ p, p < 16 → y0 22 p = v 253 p ∧ y0 23 p = v 254 p) ∧
  (∀ p q, p < 16 → (fk_tb (y0 24 p) q = true ↔ ∃ r, r < 32 ∧ fk_tb (v 246 3) r = true ∧ v 250 r = nI p ∧ v 251 r = nI q ∧ q < 16))
def ck_cs (y0 : Nat → Nat → Int32) (p c : Nat) (T : Nat → Int32) (b0 : Int32) (m : Nat) (y : Nat → Nat → Int32) (s : ab_S) : Prop :=
  ck_pr p y T s.1 ∧ (∀ j, j < m → y (p + 3 + j) 14 = s.2.1 j) ∧ y 238 7 ||| b0 = s.2.2.1 ∧ y 238 6 = s.2.2.2 ∧ (∀ i, i ≠ 6 → i ≠ 7 → y 238 i = y0 238 i) ∧ (∀ k, ¬ (p ≤ k ∧ k < p + 67) → k ≠ 238 → k ≠ 239 → k ≠ c + 7 → y k = y0 k)
section C2
variable {N : Nat} {v y y0 : Nat → Nat → Int32} {l : Nat → Nat → Int64} {d p c n H m : Nat} {T A : Nat → Int32} {b0 : Int32} {W : Int32 → (Nat → Int32) → Int32} {s : ab_S}
theorem ck_pr_k {y' : Nat → Nat → Int32} (h : ck_pr p y T A) (hk : ∀ k, p ≤ k → k < p + 67 → y' k = y k) : ck_pr p y' T A := by
  obtain ⟨h1, h2, h3, h4, h5⟩ := h
  have hn : ∀ j, j < 64 → y' (p + 3 + j) = y (p + 3 + j) := fun j hj => hk _ (by omega) (by omega)
  exact ⟨by rw [hk p (by omega) (by omega)]; exact h1, fun j hj => by rw [hn j hj]; exact h2 j hj, fun j hj hj2 => by rw [hn j hj]; exact h3 j hj hj2, fun j hj hj2 => by rw [hn j hj]; exact h4 j hj hj2, fun o ho => by rw [hk (p + 2) (by omega) (by omega)]; exact h5 o ho⟩
theorem ck_hm_congr {u u' : Nat → Int32} {A' : Nat → Int32} {j : Nat} (hu : u' = u) (hA : ∀ c, (c = 0 ∨ c = 64 ∨ c = 128 ∨ c = 192 ∨ c = 256 ∨ c = 320 ∨ c = 384 ∨ c = 448 ∨ c = 512 ∨ c = 576 ∨ c = 640 ∨ c = 704 ∨ c = 768) → A' (c + j) = A (c + j)) (h : ck_hm u A j) : ck_hm u' A' j := by
  unfold ck_hm at h ⊢
  have h0 : A' j = A j := by have := hA 0 (by omega); rwa [Nat.zero_add] at this
  rw [hu, h0, hA 64 (by omega), hA 128 (by omega), hA 192 (by omega), hA 256 (by omega), hA 320 (by omega), hA 384 (by omega), hA 448 (by omega), hA 512 (by omega), hA 576 (by omega), hA 640 (by omega), hA 704 (by omega), hA 768 (by omega)]
  exact h
theorem ab_lo_congr {A' : Nat → Int32} {o : Int32} (h3 : A' 833 = A 833) (h : ∀ j, j < ab_n A → A' (192 + j) = A (192 + j) ∧ A' j = A j) : ab_lo A' o = ab_lo A o := by
  unfold ab_lo
  have e : ab_n A' = ab_n A := by unfold ab_n; rw [h3]
  rw [e]
  exact fk_cf_congr _ 0 fun i _ hi => by rw [(h i (by omega)).1, (h i (by omega)).2]
/-- one half has changed, but for who it is and whether it lives -/
theorem ck_pr_one {y' : Nat → Nat → Int32} {A' : Nat → Int32} {j : Nat} (h : ck_pr p y T A) (hn : ab_n A ≤ 64) (hj : j < ab_n A) (hy : ∀ k, p ≤ k → k < p + 67 → k ≠ p + 3 + j → y' k = y k) (hA : ∀ i, i < 839 → (∀ c, (c = 256 ∨ c = 320 ∨ c = 384 ∨ c = 448 ∨ c = 512 ∨ c = 576 ∨ c = 704 ∨ c = 768) → i ≠ c + j) → A' i = A i) (h0 : y' (p + 3 + j) 0 = y (p + 3 + j) 0) (h14 : y' (p + 3 + j) 14 = nI 0 ∨ y' (p + 3 + j) 14 = nI 1) (hm : ck_hm (y' (p + 3 + j)) A' j) : ck_pr p y' T A' := by
  obtain ⟨h1, h2, h3, h4, h5⟩ := h
  have e833 : A' 833 = A 833 := hA _ (by omega) (by intro c hc; omega)
  have eN : ab_n A' = ab_n A := by unfold ab_n; rw [e833]
  refine ⟨?_, fun i hi => ?_, fun i hi hi2 => ?_, fun i hi hi2 => ?_, fun o ho => ?_⟩
  · rw [hy p (by omega) (by omega) (by omega), e833, hA 832 (by omega) (by intro c hc; omega), hA 834 (by omega) (by intro c hc; omega), hA 838 (by omega) (by intro c hc; omega), hA 837 (by omega) (by intro c hc; omega), hA 836 (by omega) (by intro c hc; omega), hA 835 (by omega) (by intro c hc; omega)]
    exact h1
  · by_cases e : i = j
    · subst e; rw [h0]; exact h2 i hi
    · rw [hy _ (by omega) (by omega) (by omega)]; exact h2 i hi
  · rw [eN] at hi2
    by_cases e : i = j
    · subst e; exact hm
    · exact ck_hm_congr (hy _ (by omega) (by omega) (by omega)) (fun c hc => hA _ (by omega) (by intro c' hc'; omega)) (h3 i hi hi2)
  · rw [eN] at hi2
    by_cases e : i = j
    · subst e; exact h14
    · rw [hy _ (by omega) (by omega) (by omega)]; exact h4 i hi hi2
  · rw [hy _ (by omega) (by omega) (by omega), h5 o ho, ab_lo_congr e833 fun i hi => ⟨hA _ (by omega) (by intro c hc; omega), hA _ (by omega) (by intro c hc; omega)⟩]
theorem ck_cs_k {y' : Nat → Nat → Int32} (hs : ck_cs y0 p c T b0 m y s) (hp : ck_pp p) (hm : m ≤ 64) (hk : ∀ k, k ≠ 239 → k ≠ c + 7 → y' k = y k) (hc : c = 2 ∨ c = 10) : ck_cs y0 p c T b0 m y' s := by
  obtain ⟨h1, h2, h3, h4, h5, h6⟩ := hs
  obtain ⟨_, _, _, _, _, _, _, p1, p2⟩ := ck_pp_at hp
  have hp' : p = 33 ∨ p = 100 ∨ p = 167 := hp
  exact ⟨ck_pr_k h1 fun k _ _ => hk k (by omega) (by omega), fun j hj => by rw [hk _ (by omega) (by omega)]; exact h2 j hj, by rw [hk 238 (by omega) (by omega)]; exact h3, by rw [hk 238 (by omega) (by omega)]; exact h4, fun i i1 i2 => by rw [hk 238 (by omega) (by omega)]; exact h5 i i1 i2, fun k k1 k2 k3 k4 => by rw [hk k k3 k4]; exact h6 k k1 k2 k3 k4⟩
/-- the letters as speakOf leaves them -/
def ck_sp (y : Nat → Nat → Int32) (p c o : Nat) : Nat → Nat → Int32 :=
  fk_u (fk_u (fk_u (fk_u (fk_u (fk_u (fk_u (fk_u (fk_u (fk_u (fk_u (fk_u (fk_u (fk_u y 239 7 (y p 3)) 239 8 (nI o)) 239 9 (y c 0)) 239 25 (y c 5)) 239 15 (if y c 6 < nI 0 then nI 0 else y c 6)) 239 13 (y (p + 2) o)) 239 12 (ck_bc (y c 11))) 239 14 (y c 10)) 239 10 (y p 3 - y c 3)) 239 17 (nI 0)) 239 16 (nI 0)) 239 11 (nI 0)) 239 5 (nI 0)) 239 24 (nI 0)
theorem ck_sp_o {c o k : Nat} (h : k ≠ 239) : ck_sp y p c o k = y k := by
  unfold ck_sp
  simp (disch := exact h) only [fk_u_rowo]
theorem mX6_speakOf {h o : Nat} (hp : ck_pp p) (h2 : y 238 2 = nI p) (hc : fk_at h 0) (h239 : h ≠ 239) (ho : y h 1 = nI o) (ho4 : o < 4) : fk_ev (d + 1) qX6_speakOf 0 [.ref 238, .ref h] [] (fk_E N y l) = some (none, fk_E N (ck_sp y p h o) l) := by
  obtain ⟨h8, c0, c1, h24, s24, h20, s20, p1, p2⟩ := ck_pp_at hp
  simp (disch := first | assumption | omega) only [rX6_speakOf, h2, nI_clamp, ho, c1, mJ6_bitCount, Option.bind_some, Option.toList_some, Option.toList_none, List.cons_append, List.nil_append, fk_b_0, nI_add, Nat.add_zero, Nat.zero_add, not_true_eq_false, not_false_eq_true, if_true, if_false, sI_le_t, sI_le_f, sI_lt_t, sI_lt_f, sI_eq_t, sI_eq_f, sI_rem, sI_div, sI_m1a, sI_m1b, sI_m1c, sI_m1d, sI_m1e, sI_m1f, sI_m2a, sI_m2b, sI_sub, pk_mul, sI_dec, fk_u_s, fk_u_o, sI_dec0, sI_z, sI_md, Bool.false_eq_true, Nat.reduceAdd, Nat.reduceMul, Nat.reduceSub, Nat.reduceMod, Nat.reduceDiv]
  rfl
theorem ck_sp_f {j k : Nat} {o : Nat} (h : ck_pr p y T A) (ho : ab_ok v n H A) (hj : j < n) (eo : A j = nI o) (ho4 : o < 4) (hk : k < 14) : ck_lt (ck_sp y p (p + 3 + j) o 239) k = ab_fe A j k := by
  obtain ⟨h1, h2, h3, h4, h5⟩ := h
  have hn := ho.1
  have hN : ab_n A = n := ab_ok_n ho
  obtain ⟨a1, a2, a3, a4, a5, a6, a7, a8, a9, a10, a11, a12, a13⟩ := h3 j (by omega) (by omega)
  have hk16 : ∀ k, fk_tb (A (704 + j)) k = true → k < 16 := (ho.2.2.2.2.2.1 j hj).2.2.2.2.2.2.2.1
  have e11 : ck_bc (y (p + 3 + j) 11) = fk_bits (A (704 + j)) := by rw [a11, ck_bc_16 hk16]
  unfold ck_lt ck_ix ck_sp ab_fe
  rw [e11, a5, a6, a10, a3, h2 j (by omega), h1.2.1, h5 o ho4]
  clear h1 h2 h3 h4 h5 a1 a2 a3 a4 a5 a6 a7 a8 a9 a10 a11 a12 a13 ho hk16 e11
  have hh : k = 0 ∨ k = 1 ∨ k = 2 ∨ k = 3 ∨ k = 4 ∨ k = 5 ∨ k = 6 ∨ k = 7 ∨ k = 8 ∨ k = 9 ∨ k = 10 ∨ k = 11 ∨ k = 12 ∨ k = 13 := by omega
  rcases hh with rfl | rfl | rfl | rfl | rfl | rfl | rfl | rfl | rfl | rfl | rfl | rfl | rfl | rfl
  all_goals simp [fk_u, eo]
/-- the law asked of a half -/
theorem ck_ask (hL : ck_LC W c y0) (hp : ck_pp p) (hs : ck_cs y0 p c T b0 m y s) (hm : m ≤ 64) (ho : ab_ok v n H s.1) {j o : Nat} (hj : j < n) (eo : s.1 j = nI o) (ho4 : o < 4) {a h : Int32} (ha : a = nI 99 ∨ a = nI 100 ∨ a = nI 98 ∨ a = nI 119 ∨ a = nI 120 ∨ a = nI 101) (hh : nI 0 ≤ h) : ∃ y', fk_ev (d + 1) qX3_value 0 [.ref c, .int a, .int h, .ref 239, .null] [] (fk_E N (ck_sp y p (p + 3 + j) o) l) = some (some (.int ((ab_cl h (W a (ab_fe s.1 j))))), fk_E N y' l) ∧ ∀ k, k ≠ 239 → k ≠ c + 7 → y' k = y k := by
  have hp' : p = 33 ∨ p = 100 ∨ p = 167 := hp
  obtain ⟨hc, hW, hE, hV⟩ := hL
  obtain ⟨h1, h2, h3, h4, h5, h6⟩ := hs
  obtain ⟨y', e, k⟩ := hV N d (ck_sp y p (p + 3 + j) o) l a h (fun k k1 k2 => by rw [ck_sp_o (by omega), h6 k (by omega) (by omega) (by omega) (by omega)]) (by rw [ck_sp_o (by omega), h6 c (by omega) (by omega) (by omega) (by omega)]) (by rw [ck_sp_o (by omega), h6 c (by omega) (by omega) (by omega) (by omega)]) ha hh
  rw [hW a _ (ab_fe s.1 j) fun k hk => ck_sp_f h1 ho hj eo ho4 hk] at e
  exact ⟨y', e, fun k' k1 k2 => by rw [k k' k2, ck_sp_o k1]⟩
theorem fk_at_law (hc : c = 2 ∨ c = 10) : fk_at c 3 := by
  rcases hc with rfl | rfl
  · exact ⟨by decide, by decide, by decide +kernel⟩
  · exact ⟨by decide, by decide, by decide +kernel⟩
theorem mX6_gladness (hL : ck_LC W c y0) (hN : ck_nt v y0) (hp : ck_pp p) (hq2 : y0 238 2 = nI p) (hq3 : y0 238 3 = nI c) (hs : ck_cs y0 p c T b0 m y s) (hm : m ≤ 64) (ho : ab_ok v n H s.1) {j r : Nat} (hj : j < n) (hr : r < 32) (ht : fk_tb (v 246 3) r = true) : ∃ y', fk_ev (d + 2) qX6_gladness 0 [.ref 238, .ref ((p + 3 + j)), .int ((nI r))] [] (fk_E N y l) = some (some (.int ((ab_gl v W s.1 j r))), fk_E N y' l) ∧ ck_cs y0 p c T b0 m y' s := by
  have hp' : p = 33 ∨ p = 100 ∨ p = 167 := hp
  have hn := ho.1
  obtain ⟨hc, hW, hE, hV⟩ := id hL
  obtain ⟨h1, h2, h3, h4, h5, h6⟩ := id hs
  obtain ⟨o, ho4, eo⟩ := (ho.2.2.2.2.2.1 j hj).1
  obtain ⟨n1, n2, n3⟩ := hN.1 r hr ht
  have e2 : y 238 2 = nI p := by rw [h5 2 (by omega) (by omega)]; exact hq2
  have e3 : y 238 3 = nI c := by rw [h5 3 (by omega) (by omega)]; exact hq3
  have hh := ck_pp_h hp (show j < 64 by omega)
  have hy1 : y (p + 3 + j) 1 = nI o := by rw [(h1.2.2.1 j (by omega) (by rw [ab_ok_n ho]; exact hj)).1]; exact eo
  have e20 : y 20 = y0 20 := h6 20 (by omega) (by omega) (by omega) (by omega)
  have e21 : y 21 = y0 21 := h6 21 (by omega) (by omega) (by omega) (by omega)
  have hlaw := fk_at_law hc
  obtain ⟨y', e, k⟩ := hV N d (fk_u (fk_u (fk_u (ck_sp y p (p + 3 + j) o) 239 17 (nI r)) 239 16 (v 251 r)) 239 11 (v 252 r)) l (nI 99) (nI 99) (fun k k1 k2 => by rw [fk_u_rowo (by omega), fk_u_rowo (by omega), fk_u_rowo (by omega), ck_sp_o (by omega), h6 k (by omega) (by omega) (by omega) (by omega)]) (by rw [fk_u_rowo (by omega), fk_u_rowo (by omega), fk_u_rowo (by omega), ck_sp_o (by omega), h6 c (by omega) (by omega) (by omega) (by omega)]) (by rw [fk_u_rowo (by omega), fk_u_rowo (by omega), fk_u_rowo (by omega), ck_sp_o (by omega), h6 c (by omega) (by omega) (by omega) (by omega)]) (Or.inl rfl) (by decide)
  have eF : W (nI 99) (ck_lt (fk_u (fk_u (fk_u (ck_sp y p (p + 3 + j) o) 239 17 (nI r)) 239 16 (v 251 r)) 239 11 (v 252 r) 239)) = W (nI 99) (ab_fr v s.1 j r) := by
    refine hW _ _ _ fun k hk => ?_
    have e0 := ck_sp_f h1 ho hj eo ho4 hk
    unfold ck_lt at e0 ⊢
    unfold ab_fr
    by_cases k9 : k = 9
    · subst k9; simp [fk_u, ck_ix]
    · by_cases k10 : k = 10
      · subst k10; simp [fk_u, ck_ix]
      · by_cases k11 : k = 11
        · subst k11; simp [fk_u, ck_ix]
        · have := ck_ix_r k hk k9 k10 k11
          rw [if_neg k9, if_neg k10, if_neg k11, fk_u_o (by omega), fk_u_o (by omega), fk_u_o (by omega)]
          exact e0
  rw [eF] at e
  refine ⟨y', ?_, ck_cs_k hs hp hm (fun k' k1 k2 => by rw [k k' k2, fk_u_rowo k1, fk_u_rowo k1, fk_u_rowo k1, ck_sp_o k1]) hc⟩
  simp (disch := first | assumption | omega) only [rX6_gladness, mX6_speakOf hp e2 hh (show p + 3 + j ≠ 239 by omega) hy1 ho4, ck_sp_o, e20, e21, n2, n3, e3, nI_clamp, e, Option.bind_some, Option.toList_some, Option.toList_none, List.cons_append, List.nil_append, fk_b_0, nI_add, Nat.add_zero, Nat.zero_add, not_true_eq_false, not_false_eq_true, if_true, if_false, sI_le_t, sI_le_f, sI_lt_t, sI_lt_f, sI_eq_t, sI_eq_f, sI_rem, sI_div, sI_m1a, sI_m1b, sI_m1c, sI_m1d, sI_m1e, sI_m1f, sI_m2a, sI_m2b, sI_sub, pk_mul, sI_dec, fk_u_s, fk_u_o, sI_dec0, sI_z, sI_md, Bool.false_eq_true, Nat.reduceAdd, Nat.reduceMul, Nat.reduceSub, Nat.reduceMod, Nat.reduceDiv]
  rfl
end C2
