theorem fk_w_comm {A : Nat → Int32} {i k : Nat} {x z : Int32} (h : i ≠ k) : fk_w (fk_w A i x) k z = fk_w (fk_w A k z) i x := by
  funext a
  unfold fk_w
  by_cases h1 : a = k
  · rw [if_pos h1, if_neg (by omega), if_pos h1]
  · rw [if_neg h1]
    by_cases h2 : a = i
    · rw [if_pos h2, if_pos h2]
    · rw [if_neg h2, if_neg h2, if_neg h1]
theorem fk_it_fuse {σ : Type} {f g : Nat → σ → σ} : ∀ n s, (∀ i j t, i < j → j < n → f j (g i t) = g i (f j t)) → fk_it g 0 n (fk_it f 0 n s) = fk_it (fun j t => g j (f j t)) 0 n s := by
  intro n
  induction n with
  | zero => intro s _; rfl
  | succ n ih =>
    intro s h
    rw [fk_it_succ n 0 s, fk_it_succ, fk_it_succ, ← ih s fun i j t h1 h2 => h i j t h1 (by omega), Nat.zero_add]
    generalize fk_it f 0 n s = t
    congr 1
    have : ∀ k, k ≤ n → fk_it g 0 k (f n t) = f n (fk_it g 0 k t) := by
      intro k
      induction k with
      | zero => intro _; rfl
      | succ k ih2 =>
        intro hk
        rw [fk_it_succ, fk_it_succ, ih2 (by omega), Nat.zero_add, h k n _ (by omega) (by omega)]
    exact this n (Nat.le_refl _)
theorem ab_wt_t {B : Nat → Int32} {t : (Nat → Int32) × Int32 × Int32} {j : Nat} (h : ab_at B j ∧ nI 0 < B (512 + j)) : ab_wt j (B, t) = (fk_w B (512 + j) (B (512 + j) - nI 1), t) := if_pos h
theorem ab_wt_f {B : Nat → Int32} {t : (Nat → Int32) × Int32 × Int32} {j : Nat} (h : ¬ (ab_at B j ∧ nI 0 < B (512 + j))) : ab_wt j (B, t) = (B, t) := if_neg h
theorem ab_go1_t {v : Nat → Nat → Int32} {po : Int32} {B : Nat → Int32} {t : (Nat → Int32) × Int32 × Int32} {i : Nat} (h : nI 0 < B (448 + i) - nI 1) : ab_go1 v po i (B, t) = (fk_w B (448 + i) (B (448 + i) - nI 1), t) := if_pos h
theorem ab_go1_f {v : Nat → Nat → Int32} {po : Int32} {B : Nat → Int32} {t : (Nat → Int32) × Int32 × Int32} {i : Nat} (h : ¬ nI 0 < B (448 + i) - nI 1) : ab_go1 v po i (B, t) = (fk_w (fk_w (fk_w B (448 + i) (B (448 + i) - nI 1)) (320 + i) (v 251 (B (384 + i)).toNatClampNeg)) (384 + i) (-2), fk_w t.1 i (nI 1), (if B i = po then t.2.1 ||| nI 1 <<< (v 251 (B (384 + i)).toNatClampNeg &&& 31) else t.2.1), t.2.2) := if_neg h
theorem ab_at_congr {A B : Nat → Int32} {j : Nat} (h1 : B (192 + j) = A (192 + j)) (h2 : B (320 + j) = A (320 + j)) : ab_at B j ↔ ab_at A j := by
  unfold ab_at
  rw [h1, h2]
theorem ab_wtgo1 {v : Nat → Nat → Int32} {po : Int32} {i j : Nat} (hi : i < 64) (hj : j < 64) (h : i ≠ j) (A : Nat → Int32) (t : (Nat → Int32) × Int32 × Int32) : ab_wt j (ab_go1 v po i (A, t)) = ab_go1 v po i (ab_wt j (A, t)) := by
  by_cases c2 : nI 0 < A (448 + i) - nI 1
  · rw [ab_go1_t c2]
    by_cases c1 : ab_at A j ∧ nI 0 < A (512 + j)
    · rw [ab_wt_t c1, ab_wt_t ⟨(ab_at_congr (fk_w_o (by omega)) (fk_w_o (by omega))).mpr c1.1, by rw [fk_w_o (by omega)]; exact c1.2⟩, ab_go1_t (by rw [fk_w_o (by omega)]; exact c2), fk_w_comm (show 448 + i ≠ 512 + j by omega), fk_w_o (show 512 + j ≠ 448 + i by omega), fk_w_o (show 448 + i ≠ 512 + j by omega)]
    · rw [ab_wt_f c1, ab_wt_f (fun z => c1 ⟨(ab_at_congr (fk_w_o (by omega)) (fk_w_o (by omega))).mp z.1, by have := z.2; rwa [fk_w_o (by omega)] at this⟩), ab_go1_t c2]
  · rw [ab_go1_f c2]
    by_cases c1 : ab_at A j ∧ nI 0 < A (512 + j)
    · rw [ab_wt_t c1, ab_wt_t ⟨(ab_at_congr (by simp (disch := omega) only [fk_w_o]) (by simp (disch := omega) only [fk_w_o])).mpr c1.1, by simp (disch := omega) only [fk_w_o]; exact c1.2⟩, ab_go1_f (by rw [fk_w_o (by omega)]; exact c2), fk_w_comm (show 384 + i ≠ 512 + j by omega), fk_w_comm (show 320 + i ≠ 512 + j by omega), fk_w_comm (show 448 + i ≠ 512 + j by omega)]
      simp (disch := omega) only [fk_w_o]
    · rw [ab_wt_f c1, ab_wt_f (fun z => c1 ⟨(ab_at_congr (by simp (disch := omega) only [fk_w_o]) (by simp (disch := omega) only [fk_w_o])).mp z.1, by have := z.2; simpa (disch := omega) only [fk_w_o] using this⟩), ab_go1_f c2]
theorem ab_wtgo {v : Nat → Nat → Int32} {po : Int32} {i j : Nat} (hi : i < 64) (hj : j < 64) (h : i ≠ j) (s : ab_S) : ab_wt j (ab_go v po i s) = ab_go v po i (ab_wt j s) := by
  obtain ⟨A, t⟩ := s
  unfold ab_go
  have e1 : (ab_wt j (A, t)).1 (192 + i) = A (192 + i) := by
    unfold ab_wt
    split
    · exact fk_w_o (by omega)
    · rfl
  have e2 : (ab_wt j (A, t)).1 (320 + i) = A (320 + i) := by
    unfold ab_wt
    split
    · exact fk_w_o (by omega)
    · rfl
  by_cases c : A (192 + i) = nI 1 ∧ A (320 + i) < nI 0
  · rw [if_pos (show (A, t).1 (192 + i) = nI 1 ∧ (A, t).1 (320 + i) < nI 0 from c), if_pos (by rw [e1, e2]; exact c)]
    exact ab_wtgo1 hi hj h A t
  · rw [if_neg (show ¬ ((A, t).1 (192 + i) = nI 1 ∧ (A, t).1 (320 + i) < nI 0) from c), if_neg (by rw [e1, e2]; exact c)]
section C4
variable {N : Nat} {v y y0 : Nat → Nat → Int32} {l : Nat → Nat → Int64} {d p c n H m : Nat} {T A : Nat → Int32} {b0 : Int32} {W : Int32 → (Nat → Int32) → Int32} {s : ab_S}
theorem ab_p12 {po : Int32} (hv : ab_rv v) (ho : ab_ok v n H s.1) : ab_p2 v po (ab_p1 s) = fk_it (ab_wg v po) 0 n s := by
  have hn := ho.1
  have o1 : ab_ok v n H (ab_p1 s).1 := by
    unfold ab_p1
    rw [ab_ok_n ho]
    exact fk_it_inv (f := ab_wt) (fun _ (t : ab_S) => ab_ok v n H t.1) n (fun j t hj ht => ab_ok_wt ht hj) n 0 s (Nat.zero_add n) ho
  unfold ab_p2
  rw [ab_ok_n o1]
  unfold ab_p1
  rw [ab_ok_n ho]
  exact fk_it_fuse n s fun i j t hij hj => ab_wtgo (by omega) (by omega) (by omega) t
theorem mX6_comeNearer (hv : ab_rv v) (hN : ck_nt v y0) (hp : ck_pp p) (hc : c = 2 ∨ c = 10) (hq2 : y0 238 2 = nI p) (hs : ck_cs y0 p c T b0 0 y s) (ho : ab_ok v n H s.1) (h0 : ∀ j, s.2.1 j = nI 0) : ∃ y', fk_ev (d + 2) qX6_comeNearer 0 [.ref 238, .null, .null] [] (fk_E N y l) = some (none, fk_E N y' l) ∧ ck_cs y0 p c T b0 n y' (ab_p2 v (y0 238 4) (ab_p1 s)) ∧ ab_ok v n H (ab_p2 v (y0 238 4) (ab_p1 s)).1 := by
  obtain ⟨h8, c0, c1, h24, s24, h20, s20, p1, p2⟩ := ck_pp_at hp
  have hn := ho.1
  rw [ab_p12 hv ho]
  have key := fk_loopr (σ := Value × (Nat → Nat → Int32)) (fun k t => fk_ev (d + 2) qX6_comeNearer 2 [.ref 238, .int (nI k), t.1] [] (fk_E N t.2 l)) (fun k t => ck_cs y0 p c T b0 k t.2 (fk_it (ab_wg v (y0 238 4)) 0 k s) ∧ ab_ok v n H (fk_it (ab_wg v (y0 238 4)) 0 k s).1 ∧ ∀ i, k ≤ i → (fk_it (ab_wg v (y0 238 4)) 0 k s).2.1 i = nI 0) n (by
    rintro k ⟨x, t⟩ hk ⟨i1, i2, i3⟩
    dsimp only at i1 i2 i3 ⊢
    rw [fk_it_succ, Nat.zero_add]
    generalize fk_it (ab_wg v (y0 238 4)) 0 k s = z at i1 i2 i3 ⊢
    obtain ⟨y', x', e, r⟩ := ck_near (N := N) (l := l) (d := d) hv hN hp hc hq2 i1 i2 hk (i3 k (Nat.le_refl _))
    refine ⟨(x', y'), e x, r, ab_ok_go hv (ab_ok_wt i2 hk) hk, fun i hi => ?_⟩
    have e1 : (ab_wt k z).2 = z.2 := by
      unfold ab_wt
      split <;> rfl
    unfold ab_wg ab_go ab_go1
    split
    · split
      · dsimp only; rw [e1]; exact i3 i (by omega)
      · dsimp only; rw [e1, fk_w_o (by omega)]; exact i3 i (by omega)
    · rw [e1]; exact i3 i (by omega)) n 0 (.null, y) (Nat.zero_add n) ⟨hs, ho, fun i _ => h0 i⟩
  obtain ⟨⟨x', y'⟩, e, i1, i2, i3⟩ := key
  dsimp only at e i1 i2 i3
  refine ⟨y', ?_, i1, i2⟩
  have e2 : y' 238 2 = nI p := by rw [i1.2.2.2.2.1 2 (by omega) (by omega)]; exact hq2
  have eb : y' p 2 = nI n := i1.1.1.1.trans i2.2.1
  simp (disch := first | assumption | omega) only [rX6_comeNearer, Option.bind_some, Option.toList_some, Option.toList_none, List.cons_append, List.nil_append, fk_b_0, nI_add, Nat.add_zero, Nat.zero_add, not_true_eq_false, not_false_eq_true, if_true, if_false, sI_le_t, sI_le_f, sI_lt_t, sI_lt_f, sI_eq_t, sI_eq_f, sI_rem, sI_div, sI_m1a, sI_m1b, sI_m1c, sI_m1d, sI_m1e, sI_m1f, sI_m2a, sI_m2b, sI_sub, pk_mul, sI_dec, fk_u_s, fk_u_o, sI_dec0, sI_z, sI_md, Bool.false_eq_true, Nat.reduceAdd, Nat.reduceMul, Nat.reduceSub, Nat.reduceMod, Nat.reduceDiv]
  rw [e, hX6_comeNearer_2]
  simp (disch := first | assumption | omega) only [rX6_comeNearer, e2, nI_clamp, eb, Option.bind_some, Option.toList_some, Option.toList_none, List.cons_append, List.nil_append, fk_b_0, nI_add, Nat.add_zero, Nat.zero_add, not_true_eq_false, not_false_eq_true, if_true, if_false, sI_le_t, sI_le_f, sI_lt_t, sI_lt_f, sI_eq_t, sI_eq_f, sI_rem, sI_div, sI_m1a, sI_m1b, sI_m1c, sI_m1d, sI_m1e, sI_m1f, sI_m2a, sI_m2b, sI_sub, pk_mul, sI_dec, fk_u_s, fk_u_o, sI_dec0, sI_z, sI_md, Bool.false_eq_true, Nat.reduceAdd, Nat.reduceMul, Nat.reduceSub, Nat.reduceMod, Nat.reduceDiv]
/-- bits gathered one by one -/
theorem ck_orb {P : Nat → Prop} {inst : DecidablePred P} : ∀ n, n ≤ 32 → ∀ k, fk_tb (fk_it (fun f s => if P f then s ||| nI 1 <<< (nI f &&& 31) else s) 0 n (nI 0)) k = true ↔ k < n ∧ P k := by
  intro n
  induction n with
  | zero => intro _ k; rw [show fk_it (fun f s => if P f then s ||| nI 1 <<< (nI f &&& 31) else s) 0 0 (nI 0) = nI 0 from rfl, fk_tb_0]; exact ⟨fun h => absurd h (by decide), fun h => by omega⟩
  | succ n ih =>
    intro hn k
    rw [fk_it_succ, Nat.zero_add]
    by_cases hP : P n
    · rw [if_pos hP, fk_tb_or, Bool.or_eq_true, ih (by omega) k, fk_tb_bitI (by omega)]
      constructor
      · rintro (⟨h1, h2⟩ | rfl)
        · exact ⟨by omega, h2⟩
        · exact ⟨by omega, hP⟩
      · rintro ⟨h1, h2⟩
        by_cases e : k = n
        · exact Or.inr e
        · exact Or.inl ⟨by omega, h2⟩
    · rw [if_neg hP, ih (by omega) k]
      constructor
      · rintro ⟨h1, h2⟩; exact ⟨by omega, h2⟩
      · rintro ⟨h1, h2⟩
        by_cases e : k = n
        · exact absurd (e ▸ h2) hP
        · exact ⟨by omega, h2⟩
def ck_bl (W : Int32 → (Nat → Int32) → Int32) (A : Nat → Int32) (facts : Int32) (a b : Nat) : Int32 := fk_it (fun f s => if fk_tb facts f = true ∧ ¬ W (nI 101) (ab_ff A a b f) = nI 0 then s ||| nI 1 <<< (nI f &&& 31) else s) 0 16 (nI 0)
theorem ck_bl_fg {facts : Int32} {a b : Nat} (h : ∀ k, fk_tb facts k = true → k < 16) : facts &&& (ck_bl W A facts a b ^^^ (-1)) = ab_fg W A facts a b := by
  apply fk_tb_ext
  intro k hk
  unfold ck_bl ab_fg
  rw [fk_tb_and, fk_tb_not hk, Bool.eq_iff_iff, ck_orb 16 (by omega) k, Bool.and_eq_true, Bool.not_eq_true', ← Bool.not_eq_true, ck_orb 16 (by omega) k]
  constructor
  · rintro ⟨h1, h2⟩
    refine ⟨h k h1, h1, ?_⟩
    apply Classical.byContradiction
    intro z
    exact h2 ⟨h k h1, h1, z⟩
  · rintro ⟨h1, h2, h3⟩
    exact ⟨h2, fun z => z.2.2 h3⟩
theorem ab_fg_16 {both : Int32} {a b k : Nat} (h : fk_tb (ab_fg W A both a b) k = true) : k < 16 ∧ fk_tb both k = true := by
  unfold ab_fg at h
  rw [ck_orb 16 (by omega) k] at h
  exact ⟨h.1, h.2.1⟩
theorem ab_cl_1 {x : Int32} (h : x = nI 0 ∨ x = nI 1) : ab_cl (nI 1) x = x := by
  rcases h with rfl | rfl <;> decide
theorem mX6_believed (hL : ck_LC W c y0) (hp : ck_pp p) (hq2 : y0 238 2 = nI p) (hq3 : y0 238 3 = nI c) (hs : ck_cs y0 p c T b0 m y s) (hm : m ≤ 64) (ho : ab_ok v n H s.1) {a b : Nat} {facts : Int32} (ha : a < n) (hb : b < 64) : ∃ y', fk_ev (d + 2) qX6_believed 0 [.ref 238, .ref ((p + 3 + a)), .ref ((p + 3 + b)), .int facts, .null, .null] [] (fk_E N y l) = some (some (.int ((ck_bl W s.1 facts a b))), fk_E N y' l) ∧ (∀ k, k ≠ 239 → k ≠ c + 7 → y' k = y k) := by
  have hp' : p = 33 ∨ p = 100 ∨ p = 167 := hp
  have hn := ho.1
  obtain ⟨hc, hW, hE, hV⟩ := id hL
  obtain ⟨h1, h2, h3, h4, h5, h6⟩ := id hs
  obtain ⟨o, ho4, eo⟩ := (ho.2.2.2.2.2.1 a ha).1
  have e2 : y 238 2 = nI p := by rw [h5 2 (by omega) (by omega)]; exact hq2
  have e3 : y 238 3 = nI c := by rw [h5 3 (by omega) (by omega)]; exact hq3
  have hha := ck_pp_h hp (show a < 64 by omega)
  have hhb := ck_pp_h hp hb
  have hy1 : y (p + 3 + a) 1 = nI o := by rw [(h1.2.2.1 a (by omega) (by rw [ab_ok_n ho]; exact ha)).1]; exact eo
  have eb0 : y (p + 3 + b) 0 = nI b := h1.2.1 b hb
  have hlaw := fk_at_law hc
  have key := fk_loopr (σ := Int32 × (Nat → Nat → Int32)) (fun k t => fk_ev (d + 2) qX6_believed 22 [.ref 238, .ref (p + 3 + a), .ref (p + 3 + b), .int facts, .int t.1, .int (nI k)] [] (fk_E N t.2 l)) (fun k t => t.1 = fk_it (fun f s1 => if fk_tb facts f = true ∧ ¬ W (nI 101) (ab_ff s.1 a b f) = nI 0 then s1 ||| nI 1 <<< (nI f &&& 31) else s1) 0 k (nI 0) ∧ (∀ k, k ≠ 239 → k ≠ c + 7 → t.2 k = y k) ∧ (∀ i, i < 14 → i ≠ 12 → ck_lt (t.2 239) i = ab_ff s.1 a b 0 i)) 16 (by
    rintro k ⟨bl, t⟩ hk ⟨i1, i2, i3⟩
    dsimp only at i1 i2 i3 ⊢
    rw [hX6_believed_22]
    have i3' : ∀ i, i < 14 → i ≠ 12 → ck_lt (fk_u t 239 5 (nI k) 239) i = ab_ff s.1 a b 0 i := by
      intro i hi hi12
      rw [← i3 i hi hi12]
      unfold ck_lt
      exact fk_u_o fun z => ck_ix_f i hi hi12 z.2
    have e3' : fk_u t 239 5 (nI k) 238 3 = nI c := by rw [fk_u_o (by omega), i2 238 (by omega) (by omega)]; exact e3
    by_cases x1 : fk_tb facts k = true
    · obtain ⟨y', e, kk⟩ := hV N d (fk_u t 239 5 (nI k)) l (nI 101) (nI 1) (fun k k1 k2 => by rw [fk_u_rowo (by omega), i2 k (by omega) (by omega), h6 k (by omega) (by omega) (by omega) (by omega)]) (by rw [fk_u_rowo (by omega), i2 c (by omega) (by omega), h6 c (by omega) (by omega) (by omega) (by omega)]) (by rw [fk_u_rowo (by omega), i2 c (by omega) (by omega), h6 c (by omega) (by omega) (by omega) (by omega)]) (by simp) (by decide)
      have eW : W (nI 101) (ck_lt (fk_u t 239 5 (nI k) 239)) = W (nI 101) (ab_ff s.1 a b k) := by
        refine hW _ _ _ fun i hi => ?_
        by_cases i12 : i = 12
        · subst i12
          show fk_u t 239 5 (nI k) 239 5 = nI k
          exact fk_u_s
        · rw [i3' i hi i12]
          unfold ab_ff
          rw [if_neg i12, if_neg i12]
      rw [eW, ab_cl_1 (hE _)] at e
      have k2 : ∀ k', k' ≠ 239 → k' ≠ c + 7 → y' k' = y k' := fun k' z1 z2 => by rw [kk k' z2, fk_u_rowo z1, i2 k' z1 z2]
      have k3 : ∀ i, i < 14 → i ≠ 12 → ck_lt (y' 239) i = ab_ff s.1 a b 0 i := fun i hi h12 => by rw [kk 239 (by omega)]; exact i3' i hi h12
      by_cases x2 : W (nI 101) (ab_ff s.1 a b k) = nI 0
      · refine ⟨(bl, y'), ?_, ?_, k2, k3⟩
        · rw [x2] at e
          simp (disch := first | assumption | omega) only [rX6_believed, fk_has0, x1, e3', nI_clamp, e, eq_self, Option.bind_some, Option.toList_some, Option.toList_none, List.cons_append, List.nil_append, fk_b_0, nI_add, Nat.add_zero, Nat.zero_add, not_true_eq_false, not_false_eq_true, if_true, if_false, sI_le_t, sI_le_f, sI_lt_t, sI_lt_f, sI_eq_t, sI_eq_f, sI_rem, sI_div, sI_m1a, sI_m1b, sI_m1c, sI_m1d, sI_m1e, sI_m1f, sI_m2a, sI_m2b, sI_sub, pk_mul, sI_dec, fk_u_s, fk_u_o, sI_dec0, sI_z, sI_md, Bool.false_eq_true, Nat.reduceAdd, Nat.reduceMul, Nat.reduceSub, Nat.reduceMod, Nat.reduceDiv]
        · rw [fk_it_succ, ← i1, Nat.zero_add, if_neg fun z => z.2 x2]
      · refine ⟨(bl ||| nI 1 <<< (nI k &&& 31), y'), ?_, ?_, k2, k3⟩
        · simp (disch := first | assumption | omega) only [rX6_believed, fk_has0, x1, e3', nI_clamp, e, x2, Option.bind_some, Option.toList_some, Option.toList_none, List.cons_append, List.nil_append, fk_b_0, nI_add, Nat.add_zero, Nat.zero_add, not_true_eq_false, not_false_eq_true, if_true, if_false, sI_le_t, sI_le_f, sI_lt_t, sI_lt_f, sI_eq_t, sI_eq_f, sI_rem, sI_div, sI_m1a, sI_m1b, sI_m1c, sI_m1d, sI_m1e, sI_m1f, sI_m2a, sI_m2b, sI_sub, pk_mul, sI_dec, fk_u_s, fk_u_o, sI_dec0, sI_z, sI_md, Bool.false_eq_true, Nat.reduceAdd, Nat.reduceMul, Nat.reduceSub, Nat.reduceMod, Nat.reduceDiv]
        · rw [fk_it_succ, ← i1, Nat.zero_add, if_pos ⟨x1, x2⟩]
    · refine ⟨(bl, fk_u t 239 5 (nI k)), ?_, ?_, fun k' z1 z2 => by show fk_u t 239 5 (nI k) k' = _; rw [fk_u_rowo z1, i2 k' z1 z2], i3'⟩
      · simp (disch := first | assumption | omega) only [rX6_believed, fk_has0, x1, Option.bind_some, Option.toList_some, Option.toList_none, List.cons_append, List.nil_append, fk_b_0, nI_add, Nat.add_zero, Nat.zero_add, not_true_eq_false, not_false_eq_true, if_true, if_false, sI_le_t, sI_le_f, sI_lt_t, sI_lt_f, sI_eq_t, sI_eq_f, sI_rem, sI_div, sI_m1a, sI_m1b, sI_m1c, sI_m1d, sI_m1e, sI_m1f, sI_m2a, sI_m2b, sI_sub, pk_mul, sI_dec, fk_u_s, fk_u_o, sI_dec0, sI_z, sI_md, Bool.false_eq_true, Nat.reduceAdd, Nat.reduceMul, Nat.reduceSub, Nat.reduceMod, Nat.reduceDiv]
      · rw [fk_it_succ, ← i1, Nat.zero_add, if_neg fun z => x1 z.1]) 16 0 (nI 0, fk_u (ck_sp y p (p + 3 + a) o) 239 24 (nI b)) rfl ⟨rfl, fun k k1 k2 => by
        show fk_u (ck_sp y p (p + 3 + a) o) 239 24 (nI b) k = y k
        rw [fk_u_rowo k1, ck_sp_o k1], fun i hi h12 => by
        have e0 := ck_sp_f h1 ho ha eo ho4 hi
        show ck_lt (fk_u (ck_sp y p (p + 3 + a) o) 239 24 (nI b) 239) i = _
        unfold ab_ff
        rw [if_neg h12]
        by_cases h13 : i = 13
        · subst h13
          show fk_u (ck_sp y p (p + 3 + a) o) 239 24 (nI b) 239 24 = nI b
          exact fk_u_s
        · rw [if_neg h13, ← e0]
          unfold ck_lt
          exact fk_u_o fun z => ck_ix_y i hi h13 z.2⟩
  obtain ⟨⟨bl, y'⟩, e, i1, i2, i3⟩ := key
  dsimp only at e i1 i2 i3
  refine ⟨y', ?_, i2⟩
  simp (disch := first | assumption | omega) only [rX6_believed, mX6_speakOf hp e2 hha (show p + 3 + a ≠ 239 by omega) hy1 ho4, ck_sp_o, eb0, Option.bind_some, Option.toList_some, Option.toList_none, List.cons_append, List.nil_append, fk_b_0, nI_add, Nat.add_zero, Nat.zero_add, not_true_eq_false, not_false_eq_true, if_true, if_false, sI_le_t, sI_le_f, sI_lt_t, sI_lt_f, sI_eq_t, sI_eq_f, sI_rem, sI_div, sI_m1a, sI_m1b, sI_m1c, sI_m1d, sI_m1e, sI_m1f, sI_m2a, sI_m2b, sI_sub, pk_mul, sI_dec, fk_u_s, fk_u_o, sI_dec0, sI_z, sI_md, Bool.false_eq_true, Nat.reduceAdd, Nat.reduceMul, Nat.reduceSub, Nat.reduceMod, Nat.reduceDiv]
  rw [e, hX6_believed_22]
  simp (disch := first | assumption | omega) only [rX6_believed, Option.bind_some, Option.toList_some, Option.toList_none, List.cons_append, List.nil_append, fk_b_0, nI_add, Nat.add_zero, Nat.zero_add, not_true_eq_false, not_false_eq_true, if_true, if_false, sI_le_t, sI_le_f, sI_lt_t, sI_lt_f, sI_eq_t, sI_eq_f, sI_rem, sI_div, sI_m1a, sI_m1b, sI_m1c, sI_m1d, sI_m1e, sI_m1f, sI_m2a, sI_m2b, sI_sub, pk_mul, sI_dec, fk_u_s, fk_u_o, sI_dec0, sI_z, sI_md, Bool.false_eq_true, Nat.reduceAdd, Nat.reduceMul, Nat.reduceSub, Nat.reduceMod, Nat.reduceDiv]
  rw [i1]
  rfl
end C4
