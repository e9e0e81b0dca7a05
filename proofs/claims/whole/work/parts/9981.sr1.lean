/-! THE LAW: the reference's state while it reads -/
section SR1
variable {N : Nat} {y y0 y1 y2 y' : Nat → Nat → Int32} {l : Nat → Nat → Int64} {d n a o k x c i b : Nat} {bt : Nat → Nat} {R R2 w w0 : List (Nat × Nat)} {v : Int32}
def fk_s7 (y y' : Nat → Nat → Int32) : Prop := (∀ k, k ≠ 246 → k ≠ 256 → k ≠ 257 → y' k = y k) ∧ ∀ i, (i < 11 ∨ i = 12 ∨ 17 < i) → y' 246 i = y 246 i
theorem fk_s7_0 : fk_s7 y y := ⟨fun _ _ _ _ => rfl, fun _ _ => rfl⟩
theorem fk_s7_t (h1 : fk_s7 y y1) (h2 : fk_s7 y1 y2) : fk_s7 y y2 := ⟨fun k a b c => (h2.1 k a b c).trans (h1.1 k a b c), fun i hi => (h2.2 i hi).trans (h1.2 i hi)⟩
theorem fk_s7_u (h : fk_s7 y0 y) (hc : (c = 246 ∧ (i = 11 ∨ (13 ≤ i ∧ i ≤ 17))) ∨ c = 256 ∨ c = 257) : fk_s7 y0 (fk_u y c i v) := ⟨fun k k1 k2 k3 => by rw [fk_u_rowo (by omega)]; exact h.1 k k1 k2 k3, fun j hj => by rw [fk_u_o (by omega)]; exact h.2 j hj⟩
theorem fk_s7_3 (h : fk_s7 y0 y) (h3 : fk_s3 y y1) : fk_s7 y0 y1 := fk_s7_t h ⟨fun k k1 _ _ => h3.1 k k1, fun i hi => h3.2 i (by omega) (by omega) (by omega)⟩
theorem fk_tx_k (h : fk_tx bt n a y) (e1 : y' 246 11 = nI b) (hb : b ≤ n) (e2 : y' 246 12 = y 246 12) (e3 : y' 255 = y 255) : fk_tx bt n b y' := ⟨e1, e2.trans h.2.1, fun i hi => by rw [e3]; exact h.2.2.1 i hi, h.2.2.2.1, hb, h.2.2.2.2.2⟩
def lz_wt : List (Nat × Nat) → Nat
  | [] => 0
  | e :: w => (if e.1 ≤ 10 then 1 else 0) + lz_wt w
theorem lz_wt_app : ∀ w w2 : List (Nat × Nat), lz_wt (w ++ w2) = lz_wt w + lz_wt w2 := by
  intro w
  induction w with
  | nil => intro w2; exact (Nat.zero_add _).symm
  | cons e w ih =>
    intro w2
    show (if e.1 ≤ 10 then 1 else 0) + lz_wt (w ++ w2) = (if e.1 ≤ 10 then 1 else 0) + lz_wt w + lz_wt w2
    rw [ih]
    omega
def lz_ws (y : Nat → Nat → Int32) : List (Nat × Nat) → Prop
  | [] => True
  | e :: w => y 257 w.length = nI (1048576 * e.1 + e.2) ∧ e.1 < 15 ∧ e.2 < 1048576 ∧ lz_ws y w
theorem lz_ws_c : ∀ w : List (Nat × Nat), (∀ i, i < w.length → y' 257 i = y 257 i) → lz_ws y w → lz_ws y' w := by
  intro w
  induction w with
  | nil => intro _ _; trivial
  | cons e w ih => intro h hw; exact ⟨(h _ (Nat.lt_succ_self _)).trans hw.1, hw.2.1, hw.2.2.1, ih (fun i hi => h i (Nat.lt_succ_of_lt hi)) hw.2.2.2⟩
def lz_cd (y : Nat → Nat → Int32) : Nat → List (Nat × Nat) → Prop
  | _, [] => True
  | b, c :: R => y 256 b = nI (1048576 * c.1 + c.2) ∧ c.1 < 13 ∧ c.2 < 1048576 ∧ lz_cd y (b + 1) R
theorem lz_cd_c : ∀ (R : List (Nat × Nat)) b, (∀ i, b ≤ i → i < b + R.length → y' 256 i = y 256 i) → lz_cd y b R → lz_cd y' b R := by
  intro R
  induction R with
  | nil => intro _ _ _; trivial
  | cons c R ih =>
    intro b h hR
    have hl : (c :: R).length = R.length + 1 := rfl
    exact ⟨(h b (Nat.le_refl _) (by omega)).trans hR.1, hR.2.1, hR.2.2.1, ih (b + 1) (fun i i1 i2 => h i (by omega) (by omega)) hR.2.2.2⟩
theorem lz_cd_app : ∀ (R : List (Nat × Nat)) b, lz_cd y b R → lz_cd y (b + R.length) R2 → lz_cd y b (R ++ R2) := by
  intro R
  induction R with
  | nil => intro b _ h; exact h
  | cons c R ih =>
    intro b h h2
    have hl : b + (c :: R).length = b + 1 + R.length := by rw [List.length_cons]; omega
    rw [hl] at h2
    exact ⟨h.1, h.2.1, h.2.2.1, ih (b + 1) h.2.2.2 h2⟩
theorem lz_cd_set {q : Nat × Nat} (q1 : q.1 < 13) (q2 : q.2 < 1048576) : ∀ (R : List (Nat × Nat)) b f, f < R.length → lz_cd y b R → lz_cd (fk_u y 256 (b + f) (nI (1048576 * q.1 + q.2))) b (R.set f q) := by
  intro R
  induction R with
  | nil => intro b f hf; exact absurd hf (Nat.not_lt_zero _)
  | cons c R ih =>
    intro b f hf h
    cases f with
    | zero =>
      refine ⟨fk_u_s, q1, q2, lz_cd_c R (b + 1) (fun i i1 i2 => ?_) h.2.2.2⟩
      rw [fk_u_o (by omega)]
    | succ f =>
      have := ih (b + 1) f (Nat.lt_of_succ_lt_succ hf) h.2.2.2
      rw [show b + 1 + f = b + (f + 1) by omega] at this
      exact ⟨by rw [fk_u_o (by omega)]; exact h.1, h.2.1, h.2.2.1, this⟩
theorem lz_cd_get : ∀ (R : List (Nat × Nat)) b f, f < R.length → lz_cd y b R → y 256 (b + f) = nI (1048576 * (R.getD f (0, 0)).1 + (R.getD f (0, 0)).2) ∧ (R.getD f (0, 0)).1 < 13 ∧ (R.getD f (0, 0)).2 < 1048576 := by
  intro R
  induction R with
  | nil => intro b f hf; exact absurd hf (Nat.not_lt_zero _)
  | cons c R ih =>
    intro b f hf h
    cases f with
    | zero => exact ⟨h.1, h.2.1, h.2.2.1⟩
    | succ f =>
      have := ih (b + 1) f (Nat.lt_of_succ_lt_succ hf) h.2.2.2
      rw [show b + 1 + f = b + (f + 1) by omega] at this
      exact this
/-- the reference within a text: at a, orders R, signs w waiting, o open -/
def lz_rc (y0 : Nat → Nat → Int32) (bt : Nat → Nat) (n a : Nat) (R w : List (Nat × Nat)) (o : Nat) (y : Nat → Nat → Int32) : Prop := fk_s7 y0 y ∧ fk_tx bt n a y ∧ (lz_cd y 0 R ∧ y 246 16 = nI R.length) ∧ (lz_ws y w ∧ y 246 17 = nI w.length) ∧ y 246 15 = nI o
theorem lz_rc_note (h : lz_rc y0 bt n a R w o y) (hk : k < 13) (hx : x < 1048576) : lz_rc y0 bt n a (R ++ [(k, x)]) w o (fk_u (fk_u y 256 R.length (nI (1048576 * k + x))) 246 16 (nI (R.length + 1))) := by
  obtain ⟨h1, h2, ⟨h3, h4⟩, ⟨h5, h6⟩, h7⟩ := h
  refine ⟨fk_s7_u (fk_s7_u h1 (by omega)) (by omega), fk_tx_k h2 (by rw [fk_u_o (by omega), fk_u_o (by omega)]; exact h2.1) h2.2.2.2.2.1 (by rw [fk_u_o (by omega), fk_u_o (by omega)]) (by rw [fk_u_rowo (by omega), fk_u_rowo (by omega)]), ⟨lz_cd_app _ _ (lz_cd_c R 0 (fun i i1 i2 => by rw [fk_u_o (by omega), fk_u_o (by omega)]) h3) ⟨?_, hk, hx, trivial⟩, ?_⟩, ⟨lz_ws_c w (fun i hi => by rw [fk_u_o (by omega), fk_u_o (by omega)]) h5, ?_⟩, ?_⟩
  · rw [Nat.zero_add, fk_u_o (by omega), fk_u_s]
  · rw [fk_u_s, List.length_append]
    rfl
  · rw [fk_u_o (by omega), fk_u_o (by omega)]; exact h6
  · rw [fk_u_o (by omega), fk_u_o (by omega)]; exact h7
theorem lz_rc_pop {e : Nat × Nat} (h : lz_rc y0 bt n a R (e :: w) o y) : lz_rc y0 bt n a R w o (fk_u y 246 17 (nI w.length)) := by
  obtain ⟨h1, h2, ⟨h3, h4⟩, ⟨h5, h6⟩, h7⟩ := h
  exact ⟨fk_s7_u h1 (by omega), fk_tx_k h2 (by rw [fk_u_o (by omega)]; exact h2.1) h2.2.2.2.2.1 (fk_u_o (by omega)) (fk_u_rowo (by omega)), ⟨lz_cd_c R 0 (fun i _ _ => fk_u_o (by omega)) h3, by rw [fk_u_o (by omega)]; exact h4⟩, ⟨lz_ws_c w (fun i hi => fk_u_o (by omega)) h5.2.2.2, fk_u_s⟩, by rw [fk_u_o (by omega)]; exact h7⟩
theorem lz_rc_push (h : lz_rc y0 bt n a R w o y) (hk : k < 15) (hx : x < 1048576) : lz_rc y0 bt n a R ((k, x) :: w) o (fk_u (fk_u y 257 w.length (nI (1048576 * k + x))) 246 17 (nI (w.length + 1))) := by
  obtain ⟨h1, h2, ⟨h3, h4⟩, ⟨h5, h6⟩, h7⟩ := h
  refine ⟨fk_s7_u (fk_s7_u h1 (by omega)) (by omega), fk_tx_k h2 (by rw [fk_u_o (by omega), fk_u_o (by omega)]; exact h2.1) h2.2.2.2.2.1 (by rw [fk_u_o (by omega), fk_u_o (by omega)]) (by rw [fk_u_rowo (by omega), fk_u_rowo (by omega)]), ⟨lz_cd_c R 0 (fun i i1 i2 => by rw [fk_u_o (by omega), fk_u_o (by omega)]) h3, by rw [fk_u_o (by omega), fk_u_o (by omega)]; exact h4⟩, ⟨⟨?_, hk, hx, lz_ws_c w (fun i hi => by rw [fk_u_o (by omega), fk_u_o (by omega)]) h5⟩, fk_u_s⟩, ?_⟩
  · rw [fk_u_o (by omega), fk_u_s]
  · rw [fk_u_o (by omega), fk_u_o (by omega)]; exact h7
theorem lz_rc_at (h : lz_rc y0 bt n a R w o y) (hb : b ≤ n) : lz_rc y0 bt n b R w o (fk_u y 246 11 (nI b)) := by
  obtain ⟨h1, h2, ⟨h3, h4⟩, ⟨h5, h6⟩, h7⟩ := h
  exact ⟨fk_s7_u h1 (by omega), fk_tx_k h2 fk_u_s hb (fk_u_o (by omega)) (fk_u_rowo (by omega)), ⟨lz_cd_c R 0 (fun i _ _ => fk_u_o (by omega)) h3, by rw [fk_u_o (by omega)]; exact h4⟩, ⟨lz_ws_c w (fun i hi => fk_u_o (by omega)) h5, by rw [fk_u_o (by omega)]; exact h6⟩, by rw [fk_u_o (by omega)]; exact h7⟩
theorem lz_rc_open (h : lz_rc y0 bt n a R w o y) : lz_rc y0 bt n a R w b (fk_u y 246 15 (nI b)) := by
  obtain ⟨h1, h2, ⟨h3, h4⟩, ⟨h5, h6⟩, h7⟩ := h
  exact ⟨fk_s7_u h1 (by omega), fk_tx_k h2 (by rw [fk_u_o (by omega)]; exact h2.1) h2.2.2.2.2.1 (fk_u_o (by omega)) (fk_u_rowo (by omega)), ⟨lz_cd_c R 0 (fun i _ _ => fk_u_o (by omega)) h3, by rw [fk_u_o (by omega)]; exact h4⟩, ⟨lz_ws_c w (fun i hi => fk_u_o (by omega)) h5, by rw [fk_u_o (by omega)]; exact h6⟩, fk_u_s⟩
theorem lz_rc_3 (h : lz_rc y0 bt n a R w o y) (h3 : fk_s3 y y1) (hb : b ≤ n) (e : y1 246 11 = nI b) : lz_rc y0 bt n b R w o y1 := by
  obtain ⟨g1, g2, ⟨g3, g4⟩, ⟨g5, g6⟩, g7⟩ := h
  exact ⟨fk_s7_3 g1 h3, fk_s3_x h3 g2 hb e, ⟨lz_cd_c R 0 (fun i _ _ => by rw [h3.1 256 (by omega)]) g3, (h3.2 16 (by omega) (by omega) (by omega)).trans g4⟩, ⟨lz_ws_c w (fun i _ => by rw [h3.1 257 (by omega)]) g5, (h3.2 17 (by omega) (by omega) (by omega)).trans g6⟩, (h3.2 15 (by omega) (by omega) (by omega)).trans g7⟩
theorem lz_rc_set {q : Nat × Nat} {f : Nat} (h : lz_rc y0 bt n a R w o y) (q1 : q.1 < 13) (q2 : q.2 < 1048576) (hf : f < R.length) : lz_rc y0 bt n a (R.set f q) w o (fk_u y 256 f (nI (1048576 * q.1 + q.2))) := by
  obtain ⟨h1, h2, ⟨h3, h4⟩, ⟨h5, h6⟩, h7⟩ := h
  have := lz_cd_set q1 q2 R 0 f hf h3
  rw [Nat.zero_add] at this
  exact ⟨fk_s7_u h1 (by omega), fk_tx_k h2 (by rw [fk_u_o (by omega)]; exact h2.1) h2.2.2.2.2.1 (fk_u_o (by omega)) (fk_u_rowo (by omega)), ⟨this, by rw [fk_u_o (by omega), List.length_set]; exact h4⟩, ⟨lz_ws_c w (fun i hi => fk_u_o (by omega)) h5, by rw [fk_u_o (by omega)]; exact h6⟩, by rw [fk_u_o (by omega)]; exact h7⟩
def lz_top (w : List (Nat × Nat)) : Int32 := match w with
  | [] => (-1)
  | e :: _ => nI e.1
theorem mX12_waitTop (h : lz_rc y0 bt n a R w o y) (hw : w.length ≤ 250) : fk_ev d qX12_waitTop 0 [.ref 246] [] (fk_E N y l) = some (some (.int ((lz_top w))), fk_E N y l) := by
  obtain ⟨_, _, _, ⟨h5, h6⟩, _⟩ := h
  cases w with
  | nil =>
    have h6 : y 246 17 = nI 0 := h6
    show _ = some (some (Value.int (-1)), _)
    simp (disch := first | assumption | omega) only [rX12_waitTop, h6, Option.bind_some, Option.toList_some, Option.toList_none, List.cons_append, List.nil_append, fk_b_0, nI_add, Nat.add_zero, Nat.zero_add, not_true_eq_false, not_false_eq_true, if_true, if_false, sI_le_t, sI_le_f, sI_lt_t, sI_lt_f, sI_eq_t, sI_eq_f, sI_rem, sI_div, sI_m1a, sI_m1b, sI_m1c, sI_m1d, sI_m1e, sI_m1f, sI_m2a, sI_m2b, sI_sub, pk_mul, sI_dec, fk_u_s, fk_u_o, sI_dec0, sI_z, sI_md, Bool.false_eq_true, Nat.reduceAdd, Nat.reduceMul, Nat.reduceSub, Nat.reduceMod, Nat.reduceDiv]
  | cons e w =>
    have h6 : y 246 17 = nI (w.length + 1) := h6
    obtain ⟨g1, g2, g3, _⟩ := h5
    have hw : w.length + 1 ≤ 250 := hw
    have e1 : w.length + 1 - 1 = w.length := rfl
    have e2 := lz_dv (o := e.1) (x := e.2) g3
    show _ = some (some (Value.int (nI e.1)), _)
    generalize w.length = L at *
    simp (disch := first | assumption | omega) only [rX12_waitTop, h6, e1, g1, e2, Option.bind_some, Option.toList_some, Option.toList_none, List.cons_append, List.nil_append, fk_b_0, nI_add, Nat.add_zero, Nat.zero_add, not_true_eq_false, not_false_eq_true, if_true, if_false, sI_le_t, sI_le_f, sI_lt_t, sI_lt_f, sI_eq_t, sI_eq_f, sI_rem, sI_div, sI_m1a, sI_m1b, sI_m1c, sI_m1d, sI_m1e, sI_m1f, sI_m2a, sI_m2b, sI_sub, pk_mul, sI_dec, fk_u_s, fk_u_o, sI_dec0, sI_z, sI_md, Bool.false_eq_true, Nat.reduceAdd, Nat.reduceMul, Nat.reduceSub, Nat.reduceMod, Nat.reduceDiv]
theorem mX12_notes {m : Nat} (h : y 246 16 = nI m) (hm : m < 260) (hk : k < 15) (hx : x < 1048576) : fk_ev d qX12_notes 0 [.ref 246, .int ((nI k)), .int ((nI x))] [] (fk_E N y l) = some (none, fk_E N (fk_u (fk_u y 256 m (nI (1048576 * k + x))) 246 16 (nI (m + 1))) l) := by
  simp (disch := first | assumption | omega) only [rX12_notes, h, Option.bind_some, Option.toList_some, Option.toList_none, List.cons_append, List.nil_append, fk_b_0, nI_add, Nat.add_zero, Nat.zero_add, not_true_eq_false, not_false_eq_true, if_true, if_false, sI_le_t, sI_le_f, sI_lt_t, sI_lt_f, sI_eq_t, sI_eq_f, sI_rem, sI_div, sI_m1a, sI_m1b, sI_m1c, sI_m1d, sI_m1e, sI_m1f, sI_m2a, sI_m2b, sI_sub, pk_mul, sI_dec, fk_u_s, fk_u_o, sI_dec0, sI_z, sI_md, Bool.false_eq_true, Nat.reduceAdd, Nat.reduceMul, Nat.reduceSub, Nat.reduceMod, Nat.reduceDiv]
theorem mX12_opens_f {v : Int32} (h : y 246 15 = nI 6) (ha : y 246 11 = nI a) : fk_ev (d + 1) qX12_opens 0 [.ref 246, .int v] [] (fk_E N y l) = some (some (.int ((nI 0))), fk_E N (fk_u y 246 13 (fk_flt 5 a)) l) := by
  simp (disch := first | assumption | omega) only [rX12_opens, h, ha, mX12_wrongAt, Option.bind_some, Option.toList_some, Option.toList_none, List.cons_append, List.nil_append, fk_b_0, nI_add, Nat.add_zero, Nat.zero_add, not_true_eq_false, not_false_eq_true, if_true, if_false, sI_le_t, sI_le_f, sI_lt_t, sI_lt_f, sI_eq_t, sI_eq_f, sI_rem, sI_div, sI_m1a, sI_m1b, sI_m1c, sI_m1d, sI_m1e, sI_m1f, sI_m2a, sI_m2b, sI_sub, pk_mul, sI_dec, fk_u_s, fk_u_o, sI_dec0, sI_z, sI_md, Bool.false_eq_true, Nat.reduceAdd, Nat.reduceMul, Nat.reduceSub, Nat.reduceMod, Nat.reduceDiv]
theorem mX12_opens (h : lz_rc y0 bt n a R w o y) (ho : o < 6) (hk : k < 15) (hw : w.length ≤ 250) (hn : a < n) : ∃ y', fk_ev (d + 1) qX12_opens 0 [.ref 246, .int ((nI k))] [] (fk_E N y l) = some (some (.int ((nI 1))), fk_E N y' l) ∧ lz_rc y0 bt n (a + 1) R ((k, 0) :: w) (o + 1) y' := by
  have e11 := h.2.1.1
  have n25 := h.2.1.2.2.2.2.2
  have e17 := h.2.2.2.1.2
  have e15 := h.2.2.2.2
  have r1 := lz_rc_push (k := k) (x := 0) (lz_rc_open (b := o + 1) h) hk (by omega)
  have r2 := lz_rc_at (b := a + 1) r1 hn
  refine ⟨_, ?_, r2⟩
  generalize w.length = L at *
  simp (disch := first | assumption | omega) only [rX12_opens, e15, e17, e11, Option.bind_some, Option.toList_some, Option.toList_none, List.cons_append, List.nil_append, fk_b_0, nI_add, Nat.add_zero, Nat.zero_add, not_true_eq_false, not_false_eq_true, if_true, if_false, sI_le_t, sI_le_f, sI_lt_t, sI_lt_f, sI_eq_t, sI_eq_f, sI_rem, sI_div, sI_m1a, sI_m1b, sI_m1c, sI_m1d, sI_m1e, sI_m1f, sI_m2a, sI_m2b, sI_sub, pk_mul, sI_dec, fk_u_s, fk_u_o, sI_dec0, sI_z, sI_md, Bool.false_eq_true, Nat.reduceAdd, Nat.reduceMul, Nat.reduceSub, Nat.reduceMod, Nat.reduceDiv]
theorem mX12_factOf {c : Nat} (hc : c < 256) {h : fk_H} : fk_ev d qX12_factOf 0 [.int ((nI c))] [] h = some (some (.int ((if lz_li c < 14 then nI (lz_li c) else (-1)))), h) := by
  by_cases c1 : c < 102 ∨ 122 < c
  · have e : ¬ lz_li c < 14 := by
      unfold lz_li
      rw [if_neg (by omega), if_neg (by omega), if_neg (by omega), if_neg (by omega), if_neg (by omega), if_neg (by omega), if_neg (by omega), if_neg (by omega), if_neg (by omega), if_neg (by omega), if_neg (by omega), if_neg (by omega), if_neg (by omega), if_neg (by omega)]
      omega
    have e2 : (nI c).toInt < 102 ∨ 122 < (nI c).toInt := by
      rw [fk_toInt_nI (by omega)]
      omega
    rw [if_neg e]
    simp (disch := first | assumption | omega) only [rX12_factOf, e2, Option.bind_some, Option.toList_some, Option.toList_none, List.cons_append, List.nil_append, fk_b_0, nI_add, Nat.add_zero, Nat.zero_add, not_true_eq_false, not_false_eq_true, if_true, if_false, sI_le_t, sI_le_f, sI_lt_t, sI_lt_f, sI_eq_t, sI_eq_f, sI_rem, sI_div, sI_m1a, sI_m1b, sI_m1c, sI_m1d, sI_m1e, sI_m1f, sI_m2a, sI_m2b, sI_sub, pk_mul, sI_dec, fk_u_s, fk_u_o, sI_dec0, sI_z, sI_md, Bool.false_eq_true, Nat.reduceAdd, Nat.reduceMul, Nat.reduceSub, Nat.reduceMod, Nat.reduceDiv]
  · have : c = 102 ∨ c = 103 ∨ c = 104 ∨ c = 105 ∨ c = 106 ∨ c = 107 ∨ c = 108 ∨ c = 109 ∨ c = 110 ∨ c = 111 ∨ c = 112 ∨ c = 113 ∨ c = 114 ∨ c = 115 ∨ c = 116 ∨ c = 117 ∨ c = 118 ∨ c = 119 ∨ c = 120 ∨ c = 121 ∨ c = 122 := by omega
    rcases this with rfl | rfl | rfl | rfl | rfl | rfl | rfl | rfl | rfl | rfl | rfl | rfl | rfl | rfl | rfl | rfl | rfl | rfl | rfl | rfl | rfl
    all_goals
      simp only [rX12_factOf]
      rfl
theorem mX12_factOf_n {h : fk_H} : fk_ev d qX12_factOf 0 [.int ((-1))] [] h = some (some (.int ((-1))), h) := by
  have e2 : (-1 : Int32).toInt < 102 ∨ 122 < (-1 : Int32).toInt := by decide
  simp (disch := first | assumption | omega) only [rX12_factOf, e2, Option.bind_some, Option.toList_some, Option.toList_none, List.cons_append, List.nil_append, fk_b_0, nI_add, Nat.add_zero, Nat.zero_add, not_true_eq_false, not_false_eq_true, if_true, if_false, sI_le_t, sI_le_f, sI_lt_t, sI_lt_f, sI_eq_t, sI_eq_f, sI_rem, sI_div, sI_m1a, sI_m1b, sI_m1c, sI_m1d, sI_m1e, sI_m1f, sI_m2a, sI_m2b, sI_sub, pk_mul, sI_dec, fk_u_s, fk_u_o, sI_dec0, sI_z, sI_md, Bool.false_eq_true, Nat.reduceAdd, Nat.reduceMul, Nat.reduceSub, Nat.reduceMod, Nat.reduceDiv]
def lz_sI (c : Nat) : Int32 := if c = 43 then nI 2 else if c = 45 then nI 3 else if c = 42 then nI 4 else if c = 47 then nI 5 else if c = 37 then nI 6 else (-1)
theorem mX12_sumSign {c : Nat} (hc : c < 256) {h : fk_H} : fk_ev d qX12_sumSign 0 [.int ((nI c))] [] h = some (some (.int ((lz_sI c))), h) := by
  unfold lz_sI
  by_cases c1 : c = 43
  · subst c1; rw [if_pos rfl]; simp (disch := first | assumption | omega) only [rX12_sumSign, Option.bind_some, Option.toList_some, Option.toList_none, List.cons_append, List.nil_append, fk_b_0, nI_add, Nat.add_zero, Nat.zero_add, not_true_eq_false, not_false_eq_true, if_true, if_false, sI_le_t, sI_le_f, sI_lt_t, sI_lt_f, sI_eq_t, sI_eq_f, sI_rem, sI_div, sI_m1a, sI_m1b, sI_m1c, sI_m1d, sI_m1e, sI_m1f, sI_m2a, sI_m2b, sI_sub, pk_mul, sI_dec, fk_u_s, fk_u_o, sI_dec0, sI_z, sI_md, Bool.false_eq_true, Nat.reduceAdd, Nat.reduceMul, Nat.reduceSub, Nat.reduceMod, Nat.reduceDiv]
  · by_cases c2 : c = 45
    · subst c2; rw [if_neg (by omega), if_pos rfl]; simp (disch := first | assumption | omega) only [rX12_sumSign, Option.bind_some, Option.toList_some, Option.toList_none, List.cons_append, List.nil_append, fk_b_0, nI_add, Nat.add_zero, Nat.zero_add, not_true_eq_false, not_false_eq_true, if_true, if_false, sI_le_t, sI_le_f, sI_lt_t, sI_lt_f, sI_eq_t, sI_eq_f, sI_rem, sI_div, sI_m1a, sI_m1b, sI_m1c, sI_m1d, sI_m1e, sI_m1f, sI_m2a, sI_m2b, sI_sub, pk_mul, sI_dec, fk_u_s, fk_u_o, sI_dec0, sI_z, sI_md, Bool.false_eq_true, Nat.reduceAdd, Nat.reduceMul, Nat.reduceSub, Nat.reduceMod, Nat.reduceDiv]
    · by_cases c3 : c = 42
      · subst c3; rw [if_neg (by omega), if_neg (by omega), if_pos rfl]; simp (disch := first | assumption | omega) only [rX12_sumSign, Option.bind_some, Option.toList_some, Option.toList_none, List.cons_append, List.nil_append, fk_b_0, nI_add, Nat.add_zero, Nat.zero_add, not_true_eq_false, not_false_eq_true, if_true, if_false, sI_le_t, sI_le_f, sI_lt_t, sI_lt_f, sI_eq_t, sI_eq_f, sI_rem, sI_div, sI_m1a, sI_m1b, sI_m1c, sI_m1d, sI_m1e, sI_m1f, sI_m2a, sI_m2b, sI_sub, pk_mul, sI_dec, fk_u_s, fk_u_o, sI_dec0, sI_z, sI_md, Bool.false_eq_true, Nat.reduceAdd, Nat.reduceMul, Nat.reduceSub, Nat.reduceMod, Nat.reduceDiv]
      · by_cases c4 : c = 47
        · subst c4; rw [if_neg (by omega), if_neg (by omega), if_neg (by omega), if_pos rfl]; simp (disch := first | assumption | omega) only [rX12_sumSign, Option.bind_some, Option.toList_some, Option.toList_none, List.cons_append, List.nil_append, fk_b_0, nI_add, Nat.add_zero, Nat.zero_add, not_true_eq_false, not_false_eq_true, if_true, if_false, sI_le_t, sI_le_f, sI_lt_t, sI_lt_f, sI_eq_t, sI_eq_f, sI_rem, sI_div, sI_m1a, sI_m1b, sI_m1c, sI_m1d, sI_m1e, sI_m1f, sI_m2a, sI_m2b, sI_sub, pk_mul, sI_dec, fk_u_s, fk_u_o, sI_dec0, sI_z, sI_md, Bool.false_eq_true, Nat.reduceAdd, Nat.reduceMul, Nat.reduceSub, Nat.reduceMod, Nat.reduceDiv]
        · by_cases c5 : c = 37
          · subst c5; rw [if_neg (by omega), if_neg (by omega), if_neg (by omega), if_neg (by omega), if_pos rfl]; simp (disch := first | assumption | omega) only [rX12_sumSign, Option.bind_some, Option.toList_some, Option.toList_none, List.cons_append, List.nil_append, fk_b_0, nI_add, Nat.add_zero, Nat.zero_add, not_true_eq_false, not_false_eq_true, if_true, if_false, sI_le_t, sI_le_f, sI_lt_t, sI_lt_f, sI_eq_t, sI_eq_f, sI_rem, sI_div, sI_m1a, sI_m1b, sI_m1c, sI_m1d, sI_m1e, sI_m1f, sI_m2a, sI_m2b, sI_sub, pk_mul, sI_dec, fk_u_s, fk_u_o, sI_dec0, sI_z, sI_md, Bool.false_eq_true, Nat.reduceAdd, Nat.reduceMul, Nat.reduceSub, Nat.reduceMod, Nat.reduceDiv]
          · rw [if_neg c1, if_neg c2, if_neg c3, if_neg c4, if_neg c5]; simp (disch := first | assumption | omega) only [rX12_sumSign, Option.bind_some, Option.toList_some, Option.toList_none, List.cons_append, List.nil_append, fk_b_0, nI_add, Nat.add_zero, Nat.zero_add, not_true_eq_false, not_false_eq_true, if_true, if_false, sI_le_t, sI_le_f, sI_lt_t, sI_lt_f, sI_eq_t, sI_eq_f, sI_rem, sI_div, sI_m1a, sI_m1b, sI_m1c, sI_m1d, sI_m1e, sI_m1f, sI_m2a, sI_m2b, sI_sub, pk_mul, sI_dec, fk_u_s, fk_u_o, sI_dec0, sI_z, sI_md, Bool.false_eq_true, Nat.reduceAdd, Nat.reduceMul, Nat.reduceSub, Nat.reduceMod, Nat.reduceDiv]
theorem mX12_sumSign_n {h : fk_H} : fk_ev d qX12_sumSign 0 [.int ((-1))] [] h = some (some (.int ((-1))), h) := by
  simp (disch := first | assumption | omega) only [rX12_sumSign, Option.bind_some, Option.toList_some, Option.toList_none, List.cons_append, List.nil_append, fk_b_0, nI_add, Nat.add_zero, Nat.zero_add, not_true_eq_false, not_false_eq_true, if_true, if_false, sI_le_t, sI_le_f, sI_lt_t, sI_lt_f, sI_eq_t, sI_eq_f, sI_rem, sI_div, sI_m1a, sI_m1b, sI_m1c, sI_m1d, sI_m1e, sI_m1f, sI_m2a, sI_m2b, sI_sub, pk_mul, sI_dec, fk_u_s, fk_u_o, sI_dec0, sI_z, sI_md, Bool.false_eq_true, Nat.reduceAdd, Nat.reduceMul, Nat.reduceSub, Nat.reduceMod, Nat.reduceDiv]
theorem lz_sI_t {c : Nat} (h : lz_sn c = true) : lz_sI c = nI (lz_sg c) := by
  unfold lz_sn lz_add lz_mul at h
  simp only [Bool.or_eq_true, beq_iff_eq] at h
  rcases h with (rfl | rfl) | (rfl | rfl) | rfl <;> rfl
theorem lz_sI_f {c : Nat} (h : ¬ lz_sn c = true) : lz_sI c = (-1) := by
  unfold lz_sn lz_add lz_mul at h
  simp only [Bool.or_eq_true, beq_iff_eq] at h
  unfold lz_sI
  rw [if_neg (fun z => h (by omega)), if_neg (fun z => h (by omega)), if_neg (fun z => h (by omega)), if_neg (fun z => h (by omega)), if_neg (fun z => h (by omega))]
theorem lz_sn_v (c : Nat) (h : lz_sn c = true) : 2 ≤ lz_sg c ∧ lz_sg c ≤ 6 := by
  unfold lz_sn at h
  rw [Bool.or_eq_true] at h
  rcases h with h | h
  · have := lz_add_v c h; omega
  · have := lz_mul_v c h; omega
theorem fk_10q {i : Nat} (h : i ≤ 5) : 10 ^ i ≤ 100000 := Nat.le_trans (Nat.pow_le_pow_right (by omega) h) (by decide)
theorem mX12_rn_loop {a0 : Nat} : ∀ k i a c y, i + k = 5 → a = a0 + i → c < 10 ^ i → fk_tx bt n a y → y 246 14 = nI c → ∃ y', fk_s3 y y' ∧ ((ab_dd bt n (ab_dg bt n k a c).1 ∧ fk_ev (d + 2) qX12_readsNumber 10 [.ref 246, .int (nI a0)] [] (fk_E N y l) = some (some (.int (nI 0)), fk_E N y' l) ∧ y' 246 13 = fk_flt 2 (ab_dg bt n k a c).1) ∨ (¬ ab_dd bt n (ab_dg bt n k a c).1 ∧ fk_ev (d + 2) qX12_readsNumber 10 [.ref 246, .int (nI a0)] [] (fk_E N y l) = some (some (.int (nI 1)), fk_E N y' l) ∧ y' 246 11 = nI (ab_dg bt n k a c).1 ∧ y' 246 14 = nI (ab_dg bt n k a c).2)) := by
  intro k
  induction k with
  | zero =>
    intro i a c y hi ea hc h e14
    have hi : i = 5 := hi
    have hd := mX12_isDigit (N := N) (l := l) (d := d) h
    have h1 := h.1
    obtain ⟨_, _, _, _, h5, h6⟩ := id h
    by_cases cd : ab_dd bt n a
    · refine ⟨fk_u y 246 13 (fk_flt 2 a), fk_s3_u (by omega), Or.inl ⟨cd, ?_, fk_u_s⟩⟩
      rw [fk_b_t cd] at hd
      rw [hX12_readsNumber_10]
      simp (disch := first | assumption | omega) only [rX12_readsNumber, hd, h1, mX12_wrongAt, Option.bind_some, Option.toList_some, Option.toList_none, List.cons_append, List.nil_append, fk_b_0, nI_add, Nat.add_zero, Nat.zero_add, not_true_eq_false, not_false_eq_true, if_true, if_false, sI_le_t, sI_le_f, sI_lt_t, sI_lt_f, sI_eq_t, sI_eq_f, sI_rem, sI_div, sI_m1a, sI_m1b, sI_m1c, sI_m1d, sI_m1e, sI_m1f, sI_m2a, sI_m2b, sI_sub, pk_mul, sI_dec, fk_u_s, fk_u_o, sI_dec0, sI_z, sI_md, Bool.false_eq_true, Nat.reduceAdd, Nat.reduceMul, Nat.reduceSub, Nat.reduceMod, Nat.reduceDiv]
    · refine ⟨y, ⟨fun _ _ => rfl, fun _ _ _ _ => rfl⟩, Or.inr ⟨cd, ?_, h1, e14⟩⟩
      rw [fk_b_f cd] at hd
      rw [hX12_readsNumber_10]
      simp (disch := first | assumption | omega) only [rX12_readsNumber, hd, Option.bind_some, Option.toList_some, Option.toList_none, List.cons_append, List.nil_append, fk_b_0, nI_add, Nat.add_zero, Nat.zero_add, not_true_eq_false, not_false_eq_true, if_true, if_false, sI_le_t, sI_le_f, sI_lt_t, sI_lt_f, sI_eq_t, sI_eq_f, sI_rem, sI_div, sI_m1a, sI_m1b, sI_m1c, sI_m1d, sI_m1e, sI_m1f, sI_m2a, sI_m2b, sI_sub, pk_mul, sI_dec, fk_u_s, fk_u_o, sI_dec0, sI_z, sI_md, Bool.false_eq_true, Nat.reduceAdd, Nat.reduceMul, Nat.reduceSub, Nat.reduceMod, Nat.reduceDiv]
  | succ k ih =>
    intro i a c y hi ea hc h e14
    have hd := mX12_isDigit (N := N) (l := l) (d := d) h
    have hh := mX12_here (N := N) (l := l) (d := d + 1) h
    have h1 := h.1
    have p3 := fk_10q (i := i) (by omega)
    obtain ⟨_, _, _, b6, h5, h6⟩ := id h
    have b6 := b6 a
    unfold ab_dg
    rw [hX12_readsNumber_10]
    by_cases cd : ab_dd bt n a
    · rw [fk_b_t cd] at hd
      obtain ⟨cd1, cd2, cd3⟩ := id cd
      have ep : ab_pk bt n a = nI (bt a) := if_pos cd.1
      rw [ep] at hh
      rw [if_pos cd]
      have s : fk_s3 y (fk_u (fk_u y 246 14 (nI (10 * c + (bt a - 48)))) 246 11 (nI (a + 1))) := fk_s3_t (fk_s3_u (by omega)) (fk_s3_u (by omega))
      obtain ⟨y', s1, q1⟩ := ih (i + 1) (a + 1) (10 * c + (bt a - 48)) (fk_u (fk_u y 246 14 (nI (10 * c + (bt a - 48)))) 246 11 (nI (a + 1))) (by omega) (by omega) (by rw [Nat.pow_succ]; omega) (fk_s3_x s h (by omega) fk_u_s) (by rw [fk_u_o (by omega), fk_u_s])
      refine ⟨y', fk_s3_t s s1, ?_⟩
      have es : 10 * c + bt a - 48 = 10 * c + (bt a - 48) := by omega
      have ev : fk_ev (d + 2) qX12_readsNumber 11 [.ref 246, .int (nI a0)] [.ref 246] (fk_E N y l) = fk_ev (d + 2) qX12_readsNumber 10 [.ref 246, .int (nI a0)] [] (fk_E N (fk_u (fk_u y 246 14 (nI (10 * c + (bt a - 48)))) 246 11 (nI (a + 1))) l) := by
        simp (disch := first | assumption | omega) only [rX12_readsNumber, hd, h1, e14, hh, es, Option.bind_some, Option.toList_some, Option.toList_none, List.cons_append, List.nil_append, fk_b_0, nI_add, Nat.add_zero, Nat.zero_add, not_true_eq_false, not_false_eq_true, if_true, if_false, sI_le_t, sI_le_f, sI_lt_t, sI_lt_f, sI_eq_t, sI_eq_f, sI_rem, sI_div, sI_m1a, sI_m1b, sI_m1c, sI_m1d, sI_m1e, sI_m1f, sI_m2a, sI_m2b, sI_sub, pk_mul, sI_dec, fk_u_s, fk_u_o, sI_dec0, sI_z, sI_md, Bool.false_eq_true, Nat.reduceAdd, Nat.reduceMul, Nat.reduceSub, Nat.reduceMod, Nat.reduceDiv]
      rw [ev]
      exact q1
    · rw [fk_b_f cd] at hd
      rw [if_neg cd]
      refine ⟨y, ⟨fun _ _ => rfl, fun _ _ _ _ => rfl⟩, Or.inr ⟨cd, ?_, h1, e14⟩⟩
      simp (disch := first | assumption | omega) only [rX12_readsNumber, hd, Option.bind_some, Option.toList_some, Option.toList_none, List.cons_append, List.nil_append, fk_b_0, nI_add, Nat.add_zero, Nat.zero_add, not_true_eq_false, not_false_eq_true, if_true, if_false, sI_le_t, sI_le_f, sI_lt_t, sI_lt_f, sI_eq_t, sI_eq_f, sI_rem, sI_div, sI_m1a, sI_m1b, sI_m1c, sI_m1d, sI_m1e, sI_m1f, sI_m2a, sI_m2b, sI_sub, pk_mul, sI_dec, fk_u_s, fk_u_o, sI_dec0, sI_z, sI_md, Bool.false_eq_true, Nat.reduceAdd, Nat.reduceMul, Nat.reduceSub, Nat.reduceMod, Nat.reduceDiv]
theorem mX12_readsNumber (h : fk_tx bt n a y) : ∃ y', fk_s3 y y' ∧ ((ab_dd bt n (ab_dg bt n 5 a 0).1 ∧ fk_ev (d + 2) qX12_readsNumber 0 [.ref 246, .null] [] (fk_E N y l) = some (some (.int ((nI 0))), fk_E N y' l) ∧ y' 246 13 = fk_flt 2 (ab_dg bt n 5 a 0).1) ∨ (¬ ab_dd bt n (ab_dg bt n 5 a 0).1 ∧ fk_ev (d + 2) qX12_readsNumber 0 [.ref 246, .null] [] (fk_E N y l) = some (some (.int ((nI 1))), fk_E N y' l) ∧ y' 246 11 = nI (ab_dg bt n 5 a 0).1 ∧ y' 246 14 = nI (ab_dg bt n 5 a 0).2)) := by
  have e11 := h.1
  have s0 : fk_s3 y (fk_u y 246 14 (nI 0)) := fk_s3_u (by omega)
  obtain ⟨y', s1, q⟩ := mX12_rn_loop (N := N) (l := l) (d := d) (bt := bt) (n := n) (a0 := a) 5 0 a 0 (fk_u y 246 14 (nI 0)) (by omega) (by omega) (by decide) (fk_s3_x s0 h h.2.2.2.2.1 (by rw [fk_u_o (by omega)]; exact e11)) fk_u_s
  have st : fk_ev (d + 2) qX12_readsNumber 0 [.ref 246, .null] [] (fk_E N y l) = fk_ev (d + 2) qX12_readsNumber 10 [.ref 246, .int (nI a)] [] (fk_E N (fk_u y 246 14 (nI 0)) l) := by
    simp (disch := first | assumption | omega) only [rX12_readsNumber, e11, Option.bind_some, Option.toList_some, Option.toList_none, List.cons_append, List.nil_append, fk_b_0, nI_add, Nat.add_zero, Nat.zero_add, not_true_eq_false, not_false_eq_true, if_true, if_false, sI_le_t, sI_le_f, sI_lt_t, sI_lt_f, sI_eq_t, sI_eq_f, sI_rem, sI_div, sI_m1a, sI_m1b, sI_m1c, sI_m1d, sI_m1e, sI_m1f, sI_m2a, sI_m2b, sI_sub, pk_mul, sI_dec, fk_u_s, fk_u_o, sI_dec0, sI_z, sI_md, Bool.false_eq_true, Nat.reduceAdd, Nat.reduceMul, Nat.reduceSub, Nat.reduceMod, Nat.reduceDiv]
  refine ⟨y', fk_s3_t s0 s1, ?_⟩
  rw [st]
  exact q
end SR1
