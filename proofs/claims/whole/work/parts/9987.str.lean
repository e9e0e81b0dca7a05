/-! THE LAW: String constants: which signs they hold -/
section STR
variable {d pc i n : Nat} {me : fk_Me} {L r : List Value} {h : fk_H}
theorem fk_j_call {ix n : Nat} {q : fk_Me} {ne : Nat} (as : List Value) (r : List Value) (hd : decode me.2.2.1 pc = .ok (.invokevirtual ix, 3)) (hq : fk_ml me.1 ix = some (ne, 8, q, n)) (ha : as.all fk_arg = true) (hn : as.length = n ∧ n + 1 ≤ q.2.2.2.1) (hr : 2 * r.length ≤ 8) (hi : i < 4) : fk_ev (d + 1) me pc L (as.reverse ++ .retAddr (2 * i) :: r) h = (fk_ev d q 0 (fk_loc q (.retAddr (2 * i) :: as)) [] h).bind fun o => fk_ev (d + 1) me (pc + 3) L (o.1.toList ++ r) o.2 := by
  refine fk_ev_call (q := (q, .retAddr (2 * i) :: as, pc + 3, r)) (fk_step_of hd (Or.inr rfl) ?_)
  show fk_inv me (fun k => k == 0 || k == 8) (fun _ => false) ix pc L (as.reverse ++ .retAddr (2 * i) :: r) h = _
  unfold fk_inv
  rw [hq]
  dsimp only
  rw [fk_if_of (show ((8 : Nat) == 0 || (8 : Nat) == 8) = true from rfl)]
  unfold fk_call
  have e1 : (as.reverse ++ .retAddr (2 * i) :: r).take n = as.reverse := by
    rw [← hn.1, ← List.length_reverse, List.take_left]
  have e2 : (as.reverse ++ .retAddr (2 * i) :: r).drop n = .retAddr (2 * i) :: r := by
    rw [← hn.1, ← List.length_reverse, List.drop_left]
  rw [e1, e2, fk_if_of ⟨by rw [List.length_append, List.length_reverse]; omega, by rw [List.all_reverse]; exact ha⟩, if_neg (by decide), if_pos rfl]
  show fk_if _ _ = _
  rw [fk_if_of ⟨hr, hn.2, by omega, by omega⟩, List.reverse_reverse]
theorem fk_j_val {ix : Nat} (hd : decode me.2.2.1 pc = .ok (.getfield ix, 3)) (hk : fk_kf me.1 ix = some 0) (hi : i < 4) : fk_ev d me pc L (.retAddr (2 * i) :: r) h = fk_ev d me (pc + 3) L (.retAddr (2 * i + 1) :: r) h := by
  refine fk_ev_go hd (Or.inr rfl) ?_
  show fk_so (fk_kf me.1 ix) (fun kd => fk_if (2 * i % 2 = 0 ∧ 2 * i / 2 < 4 ∧ kd < 2) (fk_nx (pc + 3) L ((if kd = 0 then .retAddr (2 * i + 1) else .int 0) :: r) h)) = _
  rw [fk_so_of hk, fk_if_of ⟨by omega, by omega, by omega⟩]
  rfl
theorem fk_j_cod {ix : Nat} (hd : decode me.2.2.1 pc = .ok (.getfield ix, 3)) (hk : fk_kf me.1 ix = some 1) (hi : i < 4) : fk_ev d me pc L (.retAddr (2 * i) :: r) h = fk_ev d me (pc + 3) L (.int (nI 0) :: r) h := by
  refine fk_ev_go hd (Or.inr rfl) ?_
  show fk_so (fk_kf me.1 ix) (fun kd => fk_if (2 * i % 2 = 0 ∧ 2 * i / 2 < 4 ∧ kd < 2) (fk_nx (pc + 3) L ((if kd = 0 then .retAddr (2 * i + 1) else .int 0) :: r) h)) = _
  rw [fk_so_of hk, fk_if_of ⟨by omega, by omega, by omega⟩]
  rfl
theorem fk_j_sta {ix : Nat} (hd : decode me.2.2.1 pc = .ok (.getstatic ix, 3)) (hk : fk_kf me.1 ix = some 2) : fk_ev d me pc L r h = fk_ev d me (pc + 3) L (.int (nI 1) :: r) h := by
  refine fk_ev_go hd (Or.inr rfl) ?_
  show fk_so (fk_kf me.1 ix) (fun kd => fk_if (kd = 2) (fk_nx (pc + 3) L (.int 1 :: r) h)) = _
  rw [fk_so_of hk, fk_if_of rfl]
  rfl
theorem fk_sb_e : fk_sb (2 * i + 1) = fk_sbt.getD i [] := by
  unfold fk_sb
  rw [show (2 * i + 1) / 2 = i by omega]
theorem fk_j_len (hd : decode me.2.2.1 pc = .ok (.arraylength, 1)) (hi : i < 4) : fk_ev d me pc L (.retAddr (2 * i + 1) :: r) h = fk_ev d me (pc + 1) L (.int (nI (fk_sbt.getD i []).length) :: r) h := by
  refine fk_ev_go hd (Or.inr rfl) ?_
  show fk_if ((2 * i + 1) % 2 = 1 ∧ (2 * i + 1) / 2 < 4) (fk_nx (pc + 1) L (.int (Int32.ofNat (fk_sb (2 * i + 1)).length) :: r) h) = _
  rw [fk_if_of ⟨by omega, by omega⟩, fk_sb_e]
  rfl
theorem fk_j_bal {k : Nat} (hd : decode me.2.2.1 pc = .ok (.baload, 1)) (hi : i < 4) (hk : k < (fk_sbt.getD i []).length) (h31 : k < 2 ^ 31) : fk_ev d me pc L (.int (nI k) :: .retAddr (2 * i + 1) :: r) h = fk_ev d me (pc + 1) L (.int ((fk_sbt.getD i []).getD k 0) :: r) h := by
  refine fk_ev_go hd (Or.inr rfl) ?_
  show fk_if ((2 * i + 1) % 2 = 1 ∧ (2 * i + 1) / 2 < 4 ∧ fk_in (nI k) (fk_sb (2 * i + 1)).length) (fk_nx (pc + 1) L (.int ((fk_sb (2 * i + 1)).getD (nI k).toNatClampNeg 0) :: r) h) = _
  rw [fk_sb_e, fk_if_of ⟨by omega, by omega, (fk_in_nI h31).mpr hk⟩, nI_clamp h31]
  rfl
theorem fk_drop1 : ∀ (B : List Int32) k, k < B.length → B.drop k = B.getD k 0 :: B.drop (k + 1) := by
  intro B
  induction B with
  | nil => intro k hk; exact absurd hk (Nat.not_lt_zero _)
  | cons b B ih =>
    intro k hk
    cases k with
    | zero => rfl
    | succ k => exact ih k (Nat.lt_of_succ_lt_succ hk)
theorem lk_17_38 : fk_kf 17 38 = some 2 := by decide +kernel
theorem lk_17_15 : fk_kf 17 15 = some 1 := by decide +kernel
theorem lk_17_9 : fk_kf 17 9 = some 0 := by decide +kernel
theorem mJ0_coder (hi : i < 4) : fk_ev d qJ0_coder_7d493 0 [.retAddr (2 * i)] [] h = some (some (.int (nI 0)), h) := by
  have s0 : fk_ev d qJ0_coder_7d493 0 [.retAddr (2 * i)] [] h = fk_ev d qJ0_coder_7d493 3 [.retAddr (2 * i)] [.int (nI 1)] h := fk_j_sta (by decide +kernel) lk_17_38
  have s1 : fk_ev d qJ0_coder_7d493 3 [.retAddr (2 * i)] [.int (nI 1)] h = fk_ev d qJ0_coder_7d493 6 [.retAddr (2 * i)] [] h := (fk_r_if_eq (off := 10) (t := 13) (by decide +kernel) (by decide)).trans (if_neg (by decide))
  have s2 : fk_ev d qJ0_coder_7d493 6 [.retAddr (2 * i)] [] h = fk_ev d qJ0_coder_7d493 7 [.retAddr (2 * i)] [.retAddr (2 * i)] h := fk_r_aloadsn (i := 0) (by decide +kernel) rfl
  have s3 : fk_ev d qJ0_coder_7d493 7 [.retAddr (2 * i)] [.retAddr (2 * i)] h = fk_ev d qJ0_coder_7d493 10 [.retAddr (2 * i)] [.int (nI 0)] h := fk_j_cod (by decide +kernel) lk_17_15 hi
  have s4 : fk_ev d qJ0_coder_7d493 10 [.retAddr (2 * i)] [.int (nI 0)] h = fk_ev d qJ0_coder_7d493 14 [.retAddr (2 * i)] [.int (nI 0)] h := fk_r_goto (off := 4) (t := 14) (by decide +kernel) (by decide)
  rw [s0, s1, s2, s3, s4]
  exact fk_r_ret (by decide +kernel) (Or.inr (Or.inr ⟨rfl, rfl⟩))
theorem mJ0_isLatin1 (hi : i < 4) : fk_ev d qJ0_isLatin1_aae02 0 [.retAddr (2 * i)] [] h = some (some (.int (nI 1)), h) := by
  have s0 : fk_ev d qJ0_isLatin1_aae02 0 [.retAddr (2 * i)] [] h = fk_ev d qJ0_isLatin1_aae02 3 [.retAddr (2 * i)] [.int (nI 1)] h := fk_j_sta (by decide +kernel) lk_17_38
  have s1 : fk_ev d qJ0_isLatin1_aae02 3 [.retAddr (2 * i)] [.int (nI 1)] h = fk_ev d qJ0_isLatin1_aae02 6 [.retAddr (2 * i)] [] h := (fk_r_if_eq (off := 14) (t := 17) (by decide +kernel) (by decide)).trans (if_neg (by decide))
  have s2 : fk_ev d qJ0_isLatin1_aae02 6 [.retAddr (2 * i)] [] h = fk_ev d qJ0_isLatin1_aae02 7 [.retAddr (2 * i)] [.retAddr (2 * i)] h := fk_r_aloadsn (i := 0) (by decide +kernel) rfl
  have s3 : fk_ev d qJ0_isLatin1_aae02 7 [.retAddr (2 * i)] [.retAddr (2 * i)] h = fk_ev d qJ0_isLatin1_aae02 10 [.retAddr (2 * i)] [.int (nI 0)] h := fk_j_cod (by decide +kernel) lk_17_15 hi
  have s4 : fk_ev d qJ0_isLatin1_aae02 10 [.retAddr (2 * i)] [.int (nI 0)] h = fk_ev d qJ0_isLatin1_aae02 13 [.retAddr (2 * i)] [] h := (fk_r_if_ne (off := 7) (t := 17) (by decide +kernel) (by decide)).trans (if_neg (by decide))
  have s5 : fk_ev d qJ0_isLatin1_aae02 13 [.retAddr (2 * i)] [] h = fk_ev d qJ0_isLatin1_aae02 14 [.retAddr (2 * i)] [.int (nI 1)] h := fk_w_iconst (n := 1) (by decide +kernel) (by decide)
  have s6 : fk_ev d qJ0_isLatin1_aae02 14 [.retAddr (2 * i)] [.int (nI 1)] h = fk_ev d qJ0_isLatin1_aae02 18 [.retAddr (2 * i)] [.int (nI 1)] h := fk_r_goto (off := 4) (t := 18) (by decide +kernel) (by decide)
  rw [s0, s1, s2, s3, s4, s5, s6]
  exact fk_r_ret (by decide +kernel) (Or.inr (Or.inl ⟨rfl, Or.inr rfl⟩))
theorem fk_sln_e : ∀ i, i < 4 → nI (fk_sbt.getD i []).length >>> (nI 0 &&& 31) = nI (fk_sbt.getD i []).length := by decide +kernel
theorem fk_sln_lt : ∀ i, i < 4 → (fk_sbt.getD i []).length < 20 ∧ 0 < (fk_sbt.getD i []).length := by decide +kernel
theorem mJ0_length (hi : i < 4) : fk_ev (d + 1) qJ0_length_8abf5 0 [.retAddr (2 * i)] [] h = some (some (.int (nI (fk_sbt.getD i []).length)), h) := by
  have s0 : fk_ev (d + 1) qJ0_length_8abf5 0 [.retAddr (2 * i)] [] h = fk_ev (d + 1) qJ0_length_8abf5 1 [.retAddr (2 * i)] [.retAddr (2 * i)] h := fk_r_aloadsn (i := 0) (by decide +kernel) rfl
  have s1 : fk_ev (d + 1) qJ0_length_8abf5 1 [.retAddr (2 * i)] [.retAddr (2 * i)] h = fk_ev (d + 1) qJ0_length_8abf5 4 [.retAddr (2 * i)] [.retAddr (2 * i + 1)] h := fk_j_val (by decide +kernel) lk_17_9 hi
  have s2 : fk_ev (d + 1) qJ0_length_8abf5 4 [.retAddr (2 * i)] [.retAddr (2 * i + 1)] h = fk_ev (d + 1) qJ0_length_8abf5 5 [.retAddr (2 * i)] [.int (nI (fk_sbt.getD i []).length)] h := fk_j_len (by decide +kernel) hi
  have s3 : fk_ev (d + 1) qJ0_length_8abf5 5 [.retAddr (2 * i)] [.int (nI (fk_sbt.getD i []).length)] h = fk_ev (d + 1) qJ0_length_8abf5 6 [.retAddr (2 * i)] [.retAddr (2 * i), .int (nI (fk_sbt.getD i []).length)] h := fk_r_aloadsn (i := 0) (by decide +kernel) rfl
  have s4 : fk_ev (d + 1) qJ0_length_8abf5 6 [.retAddr (2 * i)] [.retAddr (2 * i), .int (nI (fk_sbt.getD i []).length)] h = fk_ev (d + 1) qJ0_length_8abf5 9 [.retAddr (2 * i)] [.int (nI 0), .int (nI (fk_sbt.getD i []).length)] h := (fk_j_call [] [.int (nI (fk_sbt.getD i []).length)] (by decide +kernel) lm_17_335 rfl ⟨rfl, by decide⟩ (by simp) hi).trans (by rw [show fk_loc qJ0_coder_7d493 [.retAddr (2 * i)] = [.retAddr (2 * i)] from rfl, mJ0_coder hi]; rfl)
  have s5 : fk_ev (d + 1) qJ0_length_8abf5 9 [.retAddr (2 * i)] [.int (nI 0), .int (nI (fk_sbt.getD i []).length)] h = fk_ev (d + 1) qJ0_length_8abf5 10 [.retAddr (2 * i)] [.int (nI (fk_sbt.getD i []).length)] h := (fk_r_ishr (by decide +kernel)).trans (by rw [fk_sln_e i hi])
  rw [s0, s1, s2, s3, s4, s5]
  exact fk_r_ret (by decide +kernel) (Or.inl rfl)
theorem mJ1_canEncode {c : Nat} (hc : c < 256) : fk_ev d qJ1_canEncode_9a6ad 0 [.int (nI c)] [] h = some (some (.int (nI 1)), h) := by
  have s0 : fk_ev d qJ1_canEncode_9a6ad 0 [.int (nI c)] [] h = fk_ev d qJ1_canEncode_9a6ad 1 [.int (nI c)] [.int (nI c)] h := fk_r_iloadn (i := 0) (by decide +kernel) rfl
  have s1 : fk_ev d qJ1_canEncode_9a6ad 1 [.int (nI c)] [.int (nI c)] h = fk_ev d qJ1_canEncode_9a6ad 4 [.int (nI c)] [] h := (fk_r_if_lt (off := 14) (t := 15) (by decide +kernel) (by decide)).trans (if_neg (nI_pos (by omega)))
  have s2 : fk_ev d qJ1_canEncode_9a6ad 4 [.int (nI c)] [] h = fk_ev d qJ1_canEncode_9a6ad 5 [.int (nI c)] [.int (nI c)] h := fk_r_iloadn (i := 0) (by decide +kernel) rfl
  have s3 : fk_ev d qJ1_canEncode_9a6ad 5 [.int (nI c)] [.int (nI c)] h = fk_ev d qJ1_canEncode_9a6ad 8 [.int (nI c)] [.int (nI 255), .int (nI c)] h := fk_w_sipush (n := 255) (by decide +kernel) (by decide)
  have s4 : fk_ev d qJ1_canEncode_9a6ad 8 [.int (nI c)] [.int (nI 255), .int (nI c)] h = fk_ev d qJ1_canEncode_9a6ad 11 [.int (nI c)] [] h := (fk_r_icmp_gt (off := 7) (t := 15) (by decide +kernel) (by decide)).trans (if_neg (nI_nlt (by omega) (by omega)))
  have s5 : fk_ev d qJ1_canEncode_9a6ad 11 [.int (nI c)] [] h = fk_ev d qJ1_canEncode_9a6ad 12 [.int (nI c)] [.int (nI 1)] h := fk_w_iconst (n := 1) (by decide +kernel) (by decide)
  have s6 : fk_ev d qJ1_canEncode_9a6ad 12 [.int (nI c)] [.int (nI 1)] h = fk_ev d qJ1_canEncode_9a6ad 16 [.int (nI c)] [.int (nI 1)] h := fk_r_goto (off := 4) (t := 16) (by decide +kernel) (by decide)
  rw [s0, s1, s2, s3, s4, s5, s6]
  exact fk_r_ret (by decide +kernel) (Or.inr (Or.inl ⟨rfl, Or.inr rfl⟩))
theorem mJ1_ioc {c : Nat} {b : Int32} (hi : i < 4) : ∀ m k, k + m = (fk_sbt.getD i []).length → ∃ v, fk_ev d qJ1_indexOfChar_4cfef 7 [.retAddr (2 * i + 1), .int (nI c), .int (nI 0), .int (nI (fk_sbt.getD i []).length), .int b, .int (nI k)] [] h = some (some (.int v), h) ∧ ((b ∈ (fk_sbt.getD i []).drop k ∧ nI 0 ≤ v) ∨ (b ∉ (fk_sbt.getD i []).drop k ∧ v = (-1))) := by
  have hl := fk_sln_lt i hi
  intro m
  induction m with
  | zero =>
    intro k hk
    refine ⟨(-1), ?_, Or.inr ⟨by rw [List.drop_eq_nil_of_le (by omega)]; exact List.not_mem_nil, rfl⟩⟩
    have s0 : fk_ev d qJ1_indexOfChar_4cfef 7 [.retAddr (2 * i + 1), .int (nI c), .int (nI 0), .int (nI (fk_sbt.getD i []).length), .int b, .int (nI k)] [] h = fk_ev d qJ1_indexOfChar_4cfef 9 [.retAddr (2 * i + 1), .int (nI c), .int (nI 0), .int (nI (fk_sbt.getD i []).length), .int b, .int (nI k)] [.int (nI k)] h := fk_r_iload (i := 5) (by decide +kernel) rfl
    have s1 : fk_ev d qJ1_indexOfChar_4cfef 9 [.retAddr (2 * i + 1), .int (nI c), .int (nI 0), .int (nI (fk_sbt.getD i []).length), .int b, .int (nI k)] [.int (nI k)] h = fk_ev d qJ1_indexOfChar_4cfef 10 [.retAddr (2 * i + 1), .int (nI c), .int (nI 0), .int (nI (fk_sbt.getD i []).length), .int b, .int (nI k)] [.int (nI (fk_sbt.getD i []).length), .int (nI k)] h := fk_r_iloadn (i := 3) (by decide +kernel) rfl
    have s2 : fk_ev d qJ1_indexOfChar_4cfef 10 [.retAddr (2 * i + 1), .int (nI c), .int (nI 0), .int (nI (fk_sbt.getD i []).length), .int b, .int (nI k)] [.int (nI (fk_sbt.getD i []).length), .int (nI k)] h = fk_ev d qJ1_indexOfChar_4cfef 31 [.retAddr (2 * i + 1), .int (nI c), .int (nI 0), .int (nI (fk_sbt.getD i []).length), .int b, .int (nI k)] [] h := (fk_r_icmp_ge (off := 21) (t := 31) (by decide +kernel) (by decide)).trans (if_pos (nI_le (by omega) (by omega)))
    have s3 : fk_ev d qJ1_indexOfChar_4cfef 31 [.retAddr (2 * i + 1), .int (nI c), .int (nI 0), .int (nI (fk_sbt.getD i []).length), .int b, .int (nI k)] [] h = fk_ev d qJ1_indexOfChar_4cfef 32 [.retAddr (2 * i + 1), .int (nI c), .int (nI 0), .int (nI (fk_sbt.getD i []).length), .int b, .int (nI k)] [.int (-1)] h := fk_w_iconst (n := (-1)) (by decide +kernel) (by decide)
    rw [s0, s1, s2, s3]
    exact fk_r_ret (by decide +kernel) (Or.inl rfl)
  | succ m ih =>
    intro k hk
    have hkl : k < (fk_sbt.getD i []).length := by omega
    have ed : (fk_sbt.getD i []).drop k = (fk_sbt.getD i []).getD k 0 :: (fk_sbt.getD i []).drop (k + 1) := fk_drop1 _ k hkl
    have s0 : fk_ev d qJ1_indexOfChar_4cfef 7 [.retAddr (2 * i + 1), .int (nI c), .int (nI 0), .int (nI (fk_sbt.getD i []).length), .int b, .int (nI k)] [] h = fk_ev d qJ1_indexOfChar_4cfef 9 [.retAddr (2 * i + 1), .int (nI c), .int (nI 0), .int (nI (fk_sbt.getD i []).length), .int b, .int (nI k)] [.int (nI k)] h := fk_r_iload (i := 5) (by decide +kernel) rfl
    have s1 : fk_ev d qJ1_indexOfChar_4cfef 9 [.retAddr (2 * i + 1), .int (nI c), .int (nI 0), .int (nI (fk_sbt.getD i []).length), .int b, .int (nI k)] [.int (nI k)] h = fk_ev d qJ1_indexOfChar_4cfef 10 [.retAddr (2 * i + 1), .int (nI c), .int (nI 0), .int (nI (fk_sbt.getD i []).length), .int b, .int (nI k)] [.int (nI (fk_sbt.getD i []).length), .int (nI k)] h := fk_r_iloadn (i := 3) (by decide +kernel) rfl
    have s2 : fk_ev d qJ1_indexOfChar_4cfef 10 [.retAddr (2 * i + 1), .int (nI c), .int (nI 0), .int (nI (fk_sbt.getD i []).length), .int b, .int (nI k)] [.int (nI (fk_sbt.getD i []).length), .int (nI k)] h = fk_ev d qJ1_indexOfChar_4cfef 13 [.retAddr (2 * i + 1), .int (nI c), .int (nI 0), .int (nI (fk_sbt.getD i []).length), .int b, .int (nI k)] [] h := (fk_r_icmp_ge (off := 21) (t := 31) (by decide +kernel) (by decide)).trans (if_neg (nI_ge (by omega) (by omega)))
    have s3 : fk_ev d qJ1_indexOfChar_4cfef 13 [.retAddr (2 * i + 1), .int (nI c), .int (nI 0), .int (nI (fk_sbt.getD i []).length), .int b, .int (nI k)] [] h = fk_ev d qJ1_indexOfChar_4cfef 14 [.retAddr (2 * i + 1), .int (nI c), .int (nI 0), .int (nI (fk_sbt.getD i []).length), .int b, .int (nI k)] [.retAddr (2 * i + 1)] h := fk_r_aloadsn (i := 0) (by decide +kernel) rfl
    have s4 : fk_ev d qJ1_indexOfChar_4cfef 14 [.retAddr (2 * i + 1), .int (nI c), .int (nI 0), .int (nI (fk_sbt.getD i []).length), .int b, .int (nI k)] [.retAddr (2 * i + 1)] h = fk_ev d qJ1_indexOfChar_4cfef 16 [.retAddr (2 * i + 1), .int (nI c), .int (nI 0), .int (nI (fk_sbt.getD i []).length), .int b, .int (nI k)] [.int (nI k), .retAddr (2 * i + 1)] h := fk_r_iload (i := 5) (by decide +kernel) rfl
    have s5 : fk_ev d qJ1_indexOfChar_4cfef 16 [.retAddr (2 * i + 1), .int (nI c), .int (nI 0), .int (nI (fk_sbt.getD i []).length), .int b, .int (nI k)] [.int (nI k), .retAddr (2 * i + 1)] h = fk_ev d qJ1_indexOfChar_4cfef 17 [.retAddr (2 * i + 1), .int (nI c), .int (nI 0), .int (nI (fk_sbt.getD i []).length), .int b, .int (nI k)] [.int ((fk_sbt.getD i []).getD k 0)] h := fk_j_bal (by decide +kernel) hi hkl (by omega)
    have s6 : fk_ev d qJ1_indexOfChar_4cfef 17 [.retAddr (2 * i + 1), .int (nI c), .int (nI 0), .int (nI (fk_sbt.getD i []).length), .int b, .int (nI k)] [.int ((fk_sbt.getD i []).getD k 0)] h = fk_ev d qJ1_indexOfChar_4cfef 19 [.retAddr (2 * i + 1), .int (nI c), .int (nI 0), .int (nI (fk_sbt.getD i []).length), .int b, .int (nI k)] [.int b, .int ((fk_sbt.getD i []).getD k 0)] h := fk_r_iload (i := 4) (by decide +kernel) rfl
    rw [s0, s1, s2, s3, s4, s5, s6]
    by_cases cb : (fk_sbt.getD i []).getD k 0 = b
    · refine ⟨nI k, ?_, Or.inl ⟨by rw [ed, cb]; exact List.mem_cons_self .., nI_le (Nat.zero_le _) (by omega)⟩⟩
      have s7 : fk_ev d qJ1_indexOfChar_4cfef 19 [.retAddr (2 * i + 1), .int (nI c), .int (nI 0), .int (nI (fk_sbt.getD i []).length), .int b, .int (nI k)] [.int b, .int ((fk_sbt.getD i []).getD k 0)] h = fk_ev d qJ1_indexOfChar_4cfef 22 [.retAddr (2 * i + 1), .int (nI c), .int (nI 0), .int (nI (fk_sbt.getD i []).length), .int b, .int (nI k)] [] h := (fk_r_icmp_ne (off := 6) (t := 25) (by decide +kernel) (by decide)).trans (if_neg (fun z => z cb))
      have s8 : fk_ev d qJ1_indexOfChar_4cfef 22 [.retAddr (2 * i + 1), .int (nI c), .int (nI 0), .int (nI (fk_sbt.getD i []).length), .int b, .int (nI k)] [] h = fk_ev d qJ1_indexOfChar_4cfef 24 [.retAddr (2 * i + 1), .int (nI c), .int (nI 0), .int (nI (fk_sbt.getD i []).length), .int b, .int (nI k)] [.int (nI k)] h := fk_r_iload (i := 5) (by decide +kernel) rfl
      rw [s7, s8]
      exact fk_r_ret (by decide +kernel) (Or.inl rfl)
    · obtain ⟨v, e1, e2⟩ := ih (k + 1) (by omega)
      refine ⟨v, ?_, ?_⟩
      · have s7 : fk_ev d qJ1_indexOfChar_4cfef 19 [.retAddr (2 * i + 1), .int (nI c), .int (nI 0), .int (nI (fk_sbt.getD i []).length), .int b, .int (nI k)] [.int b, .int ((fk_sbt.getD i []).getD k 0)] h = fk_ev d qJ1_indexOfChar_4cfef 25 [.retAddr (2 * i + 1), .int (nI c), .int (nI 0), .int (nI (fk_sbt.getD i []).length), .int b, .int (nI k)] [] h := (fk_r_icmp_ne (off := 6) (t := 25) (by decide +kernel) (by decide)).trans (if_pos cb)
        have s8 : fk_ev d qJ1_indexOfChar_4cfef 25 [.retAddr (2 * i + 1), .int (nI c), .int (nI 0), .int (nI (fk_sbt.getD i []).length), .int b, .int (nI k)] [] h = fk_ev d qJ1_indexOfChar_4cfef 28 [.retAddr (2 * i + 1), .int (nI c), .int (nI 0), .int (nI (fk_sbt.getD i []).length), .int b, .int (nI (k + 1))] [] h := (fk_r_iinc (i := 5) (n := 1) (x := nI k) (by decide +kernel) rfl ⟨by show 5 < 6; omega, by decide⟩).trans (by show fk_ev d qJ1_indexOfChar_4cfef 28 [_, _, _, _, _, .int (nI k + Int32.ofInt 1)] [] h = _; rw [show Int32.ofInt 1 = nI 1 by decide, nI_add]) 
        have s9 : fk_ev d qJ1_indexOfChar_4cfef 28 [.retAddr (2 * i + 1), .int (nI c), .int (nI 0), .int (nI (fk_sbt.getD i []).length), .int b, .int (nI (k + 1))] [] h = fk_ev d qJ1_indexOfChar_4cfef 7 [.retAddr (2 * i + 1), .int (nI c), .int (nI 0), .int (nI (fk_sbt.getD i []).length), .int b, .int (nI (k + 1))] [] h := fk_r_goto (off := -21) (t := 7) (by decide +kernel) (by decide)
        rw [s7, s8, s9]
        exact e1
      · rw [ed]
        rcases e2 with ⟨p1, p2⟩ | ⟨p1, p2⟩
        · exact Or.inl ⟨List.mem_cons_of_mem _ p1, p2⟩
        · exact Or.inr ⟨fun z => (List.mem_cons.mp z).elim (fun z => cb z.symm) p1, p2⟩
theorem mJ1_indexOfChar {c : Nat} (hi : i < 4) : ∃ v, fk_ev d qJ1_indexOfChar_4cfef 0 [.retAddr (2 * i + 1), .int (nI c), .int (nI 0), .int (nI (fk_sbt.getD i []).length), .null, .null] [] h = some (some (.int v), h) ∧ (((nI c).toInt8.toInt32 ∈ (fk_sbt.getD i []) ∧ nI 0 ≤ v) ∨ ((nI c).toInt8.toInt32 ∉ (fk_sbt.getD i []) ∧ v = (-1))) := by
  obtain ⟨v, e1, e2⟩ := mJ1_ioc (d := d) (h := h) (c := c) (b := (nI c).toInt8.toInt32) hi (fk_sbt.getD i []).length 0 (by omega)
  refine ⟨v, ?_, e2⟩
  have s0 : fk_ev d qJ1_indexOfChar_4cfef 0 [.retAddr (2 * i + 1), .int (nI c), .int (nI 0), .int (nI (fk_sbt.getD i []).length), .null, .null] [] h = fk_ev d qJ1_indexOfChar_4cfef 1 [.retAddr (2 * i + 1), .int (nI c), .int (nI 0), .int (nI (fk_sbt.getD i []).length), .null, .null] [.int (nI c)] h := fk_r_iloadn (i := 1) (by decide +kernel) rfl
  have s1 : fk_ev d qJ1_indexOfChar_4cfef 1 [.retAddr (2 * i + 1), .int (nI c), .int (nI 0), .int (nI (fk_sbt.getD i []).length), .null, .null] [.int (nI c)] h = fk_ev d qJ1_indexOfChar_4cfef 2 [.retAddr (2 * i + 1), .int (nI c), .int (nI 0), .int (nI (fk_sbt.getD i []).length), .null, .null] [.int (nI c).toInt8.toInt32] h := fk_r_i2b (by decide +kernel)
  have s2 : fk_ev d qJ1_indexOfChar_4cfef 2 [.retAddr (2 * i + 1), .int (nI c), .int (nI 0), .int (nI (fk_sbt.getD i []).length), .null, .null] [.int (nI c).toInt8.toInt32] h = fk_ev d qJ1_indexOfChar_4cfef 4 [.retAddr (2 * i + 1), .int (nI c), .int (nI 0), .int (nI (fk_sbt.getD i []).length), .int (nI c).toInt8.toInt32, .null] [] h := fk_r_istore (i := 4) (by decide +kernel) ⟨by show 4 < 6; omega, by decide⟩
  have s3 : fk_ev d qJ1_indexOfChar_4cfef 4 [.retAddr (2 * i + 1), .int (nI c), .int (nI 0), .int (nI (fk_sbt.getD i []).length), .int (nI c).toInt8.toInt32, .null] [] h = fk_ev d qJ1_indexOfChar_4cfef 5 [.retAddr (2 * i + 1), .int (nI c), .int (nI 0), .int (nI (fk_sbt.getD i []).length), .int (nI c).toInt8.toInt32, .null] [.int (nI 0)] h := fk_r_iloadn (i := 2) (by decide +kernel) rfl
  have s4 : fk_ev d qJ1_indexOfChar_4cfef 5 [.retAddr (2 * i + 1), .int (nI c), .int (nI 0), .int (nI (fk_sbt.getD i []).length), .int (nI c).toInt8.toInt32, .null] [.int (nI 0)] h = fk_ev d qJ1_indexOfChar_4cfef 7 [.retAddr (2 * i + 1), .int (nI c), .int (nI 0), .int (nI (fk_sbt.getD i []).length), .int (nI c).toInt8.toInt32, .int (nI 0)] [] h := fk_r_istore (i := 5) (by decide +kernel) ⟨by show 5 < 6; omega, by decide⟩
  rw [s0, s1, s2, s3, s4]
  exact e1
theorem mJ1_indexOf {c : Nat} (hi : i < 4) (hc : c < 256) : ∃ v, fk_ev (d + 1) qJ1_indexOf_4cfef 0 [.retAddr (2 * i + 1), .int (nI c), .int (nI 0), .int (nI (fk_sbt.getD i []).length)] [] h = some (some (.int v), h) ∧ (((nI c).toInt8.toInt32 ∈ (fk_sbt.getD i []) ∧ nI 0 ≤ v) ∨ ((nI c).toInt8.toInt32 ∉ (fk_sbt.getD i []) ∧ v = (-1))) := by
  have hl := fk_sln_lt i hi
  obtain ⟨v, e1, e2⟩ := mJ1_indexOfChar (d := d) (h := h) (c := c) hi
  refine ⟨v, ?_, e2⟩
  have s0 : fk_ev (d + 1) qJ1_indexOf_4cfef 0 [.retAddr (2 * i + 1), .int (nI c), .int (nI 0), .int (nI (fk_sbt.getD i []).length)] [] h = fk_ev (d + 1) qJ1_indexOf_4cfef 1 [.retAddr (2 * i + 1), .int (nI c), .int (nI 0), .int (nI (fk_sbt.getD i []).length)] [.int (nI c)] h := fk_r_iloadn (i := 1) (by decide +kernel) rfl
  have s1 : fk_ev (d + 1) qJ1_indexOf_4cfef 1 [.retAddr (2 * i + 1), .int (nI c), .int (nI 0), .int (nI (fk_sbt.getD i []).length)] [.int (nI c)] h = fk_ev (d + 1) qJ1_indexOf_4cfef 4 [.retAddr (2 * i + 1), .int (nI c), .int (nI 0), .int (nI (fk_sbt.getD i []).length)] [.int (nI 1)] h := (fk_h_calls (n := 1) (as := [.int (nI c)]) (r := []) (by decide +kernel) lm_18_88 rfl ⟨rfl, (by decide : (1 : Nat) ≤ 1)⟩ (by simp)).trans (by rw [show fk_loc qJ1_canEncode_9a6ad [.int (nI c)] = [.int (nI c)] from rfl, mJ1_canEncode hc]; rfl)
  have s2 : fk_ev (d + 1) qJ1_indexOf_4cfef 4 [.retAddr (2 * i + 1), .int (nI c), .int (nI 0), .int (nI (fk_sbt.getD i []).length)] [.int (nI 1)] h = fk_ev (d + 1) qJ1_indexOf_4cfef 9 [.retAddr (2 * i + 1), .int (nI c), .int (nI 0), .int (nI (fk_sbt.getD i []).length)] [] h := (fk_r_if_ne (off := 5) (t := 9) (by decide +kernel) (by decide)).trans (if_pos (by decide))
  have s3 : fk_ev (d + 1) qJ1_indexOf_4cfef 9 [.retAddr (2 * i + 1), .int (nI c), .int (nI 0), .int (nI (fk_sbt.getD i []).length)] [] h = fk_ev (d + 1) qJ1_indexOf_4cfef 10 [.retAddr (2 * i + 1), .int (nI c), .int (nI 0), .int (nI (fk_sbt.getD i []).length)] [.int (nI 0)] h := fk_r_iloadn (i := 2) (by decide +kernel) rfl
  have s4 : fk_ev (d + 1) qJ1_indexOf_4cfef 10 [.retAddr (2 * i + 1), .int (nI c), .int (nI 0), .int (nI (fk_sbt.getD i []).length)] [.int (nI 0)] h = fk_ev (d + 1) qJ1_indexOf_4cfef 11 [.retAddr (2 * i + 1), .int (nI c), .int (nI 0), .int (nI (fk_sbt.getD i []).length)] [.int (nI 0), .int (nI 0)] h := fk_w_iconst (n := 0) (by decide +kernel) (by decide)
  have s5 : fk_ev (d + 1) qJ1_indexOf_4cfef 11 [.retAddr (2 * i + 1), .int (nI c), .int (nI 0), .int (nI (fk_sbt.getD i []).length)] [.int (nI 0), .int (nI 0)] h = fk_ev (d + 1) qJ1_indexOf_4cfef 14 [.retAddr (2 * i + 1), .int (nI c), .int (nI 0), .int (nI (fk_sbt.getD i []).length)] [.int (nI 0)] h := by
    have z := fk_p_max (d := d + 1) (me := qJ1_indexOf_4cfef) (pc := 11) (L := [.retAddr (2 * i + 1), .int (nI c), .int (nI 0), .int (nI (fk_sbt.getD i []).length)]) (h := h) (r := []) (x := nI 0) (y := nI 0) (ix := 92) (by decide +kernel) ln_18_92 lp_18_92 (by simp)
    rw [if_neg Int32.lt_irrefl] at z
    exact z
  have s6 : fk_ev (d + 1) qJ1_indexOf_4cfef 14 [.retAddr (2 * i + 1), .int (nI c), .int (nI 0), .int (nI (fk_sbt.getD i []).length)] [.int (nI 0)] h = fk_ev (d + 1) qJ1_indexOf_4cfef 15 [.retAddr (2 * i + 1), .int (nI c), .int (nI 0), .int (nI (fk_sbt.getD i []).length)] [] h := fk_r_istoren (i := 2) (by decide +kernel) ⟨by show 2 < 4; omega, by decide⟩
  have s7 : fk_ev (d + 1) qJ1_indexOf_4cfef 15 [.retAddr (2 * i + 1), .int (nI c), .int (nI 0), .int (nI (fk_sbt.getD i []).length)] [] h = fk_ev (d + 1) qJ1_indexOf_4cfef 16 [.retAddr (2 * i + 1), .int (nI c), .int (nI 0), .int (nI (fk_sbt.getD i []).length)] [.int (nI (fk_sbt.getD i []).length)] h := fk_r_iloadn (i := 3) (by decide +kernel) rfl
  have s8 : fk_ev (d + 1) qJ1_indexOf_4cfef 16 [.retAddr (2 * i + 1), .int (nI c), .int (nI 0), .int (nI (fk_sbt.getD i []).length)] [.int (nI (fk_sbt.getD i []).length)] h = fk_ev (d + 1) qJ1_indexOf_4cfef 17 [.retAddr (2 * i + 1), .int (nI c), .int (nI 0), .int (nI (fk_sbt.getD i []).length)] [.retAddr (2 * i + 1), .int (nI (fk_sbt.getD i []).length)] h := fk_r_aloadsn (i := 0) (by decide +kernel) rfl
  have s9 : fk_ev (d + 1) qJ1_indexOf_4cfef 17 [.retAddr (2 * i + 1), .int (nI c), .int (nI 0), .int (nI (fk_sbt.getD i []).length)] [.retAddr (2 * i + 1), .int (nI (fk_sbt.getD i []).length)] h = fk_ev (d + 1) qJ1_indexOf_4cfef 18 [.retAddr (2 * i + 1), .int (nI c), .int (nI 0), .int (nI (fk_sbt.getD i []).length)] [.int (nI (fk_sbt.getD i []).length), .int (nI (fk_sbt.getD i []).length)] h := fk_j_len (by decide +kernel) hi
  have s10 : fk_ev (d + 1) qJ1_indexOf_4cfef 18 [.retAddr (2 * i + 1), .int (nI c), .int (nI 0), .int (nI (fk_sbt.getD i []).length)] [.int (nI (fk_sbt.getD i []).length), .int (nI (fk_sbt.getD i []).length)] h = fk_ev (d + 1) qJ1_indexOf_4cfef 21 [.retAddr (2 * i + 1), .int (nI c), .int (nI 0), .int (nI (fk_sbt.getD i []).length)] [.int (nI (fk_sbt.getD i []).length)] h := by
    have z := fk_p_min (d := d + 1) (me := qJ1_indexOf_4cfef) (pc := 18) (L := [.retAddr (2 * i + 1), .int (nI c), .int (nI 0), .int (nI (fk_sbt.getD i []).length)]) (h := h) (r := []) (x := nI (fk_sbt.getD i []).length) (y := nI (fk_sbt.getD i []).length) (ix := 38) (by decide +kernel) ln_18_38 lp_18_38 (by simp)
    rw [if_neg Int32.lt_irrefl] at z
    exact z
  have s11 : fk_ev (d + 1) qJ1_indexOf_4cfef 21 [.retAddr (2 * i + 1), .int (nI c), .int (nI 0), .int (nI (fk_sbt.getD i []).length)] [.int (nI (fk_sbt.getD i []).length)] h = fk_ev (d + 1) qJ1_indexOf_4cfef 22 [.retAddr (2 * i + 1), .int (nI c), .int (nI 0), .int (nI (fk_sbt.getD i []).length)] [] h := fk_r_istoren (i := 3) (by decide +kernel) ⟨by show 3 < 4; omega, by decide⟩
  have s12 : fk_ev (d + 1) qJ1_indexOf_4cfef 22 [.retAddr (2 * i + 1), .int (nI c), .int (nI 0), .int (nI (fk_sbt.getD i []).length)] [] h = fk_ev (d + 1) qJ1_indexOf_4cfef 23 [.retAddr (2 * i + 1), .int (nI c), .int (nI 0), .int (nI (fk_sbt.getD i []).length)] [.int (nI 0)] h := fk_r_iloadn (i := 2) (by decide +kernel) rfl
  have s13 : fk_ev (d + 1) qJ1_indexOf_4cfef 23 [.retAddr (2 * i + 1), .int (nI c), .int (nI 0), .int (nI (fk_sbt.getD i []).length)] [.int (nI 0)] h = fk_ev (d + 1) qJ1_indexOf_4cfef 24 [.retAddr (2 * i + 1), .int (nI c), .int (nI 0), .int (nI (fk_sbt.getD i []).length)] [.int (nI (fk_sbt.getD i []).length), .int (nI 0)] h := fk_r_iloadn (i := 3) (by decide +kernel) rfl
  have s14 : fk_ev (d + 1) qJ1_indexOf_4cfef 24 [.retAddr (2 * i + 1), .int (nI c), .int (nI 0), .int (nI (fk_sbt.getD i []).length)] [.int (nI (fk_sbt.getD i []).length), .int (nI 0)] h = fk_ev (d + 1) qJ1_indexOf_4cfef 29 [.retAddr (2 * i + 1), .int (nI c), .int (nI 0), .int (nI (fk_sbt.getD i []).length)] [] h := (fk_r_icmp_lt (off := 5) (t := 29) (by decide +kernel) (by decide)).trans (if_pos (nI_lt hl.2 (by omega)))
  have s15 : fk_ev (d + 1) qJ1_indexOf_4cfef 29 [.retAddr (2 * i + 1), .int (nI c), .int (nI 0), .int (nI (fk_sbt.getD i []).length)] [] h = fk_ev (d + 1) qJ1_indexOf_4cfef 30 [.retAddr (2 * i + 1), .int (nI c), .int (nI 0), .int (nI (fk_sbt.getD i []).length)] [.retAddr (2 * i + 1)] h := fk_r_aloadsn (i := 0) (by decide +kernel) rfl
  have s16 : fk_ev (d + 1) qJ1_indexOf_4cfef 30 [.retAddr (2 * i + 1), .int (nI c), .int (nI 0), .int (nI (fk_sbt.getD i []).length)] [.retAddr (2 * i + 1)] h = fk_ev (d + 1) qJ1_indexOf_4cfef 31 [.retAddr (2 * i + 1), .int (nI c), .int (nI 0), .int (nI (fk_sbt.getD i []).length)] [.int (nI c), .retAddr (2 * i + 1)] h := fk_r_iloadn (i := 1) (by decide +kernel) rfl
  have s17 : fk_ev (d + 1) qJ1_indexOf_4cfef 31 [.retAddr (2 * i + 1), .int (nI c), .int (nI 0), .int (nI (fk_sbt.getD i []).length)] [.int (nI c), .retAddr (2 * i + 1)] h = fk_ev (d + 1) qJ1_indexOf_4cfef 32 [.retAddr (2 * i + 1), .int (nI c), .int (nI 0), .int (nI (fk_sbt.getD i []).length)] [.int (nI 0), .int (nI c), .retAddr (2 * i + 1)] h := fk_r_iloadn (i := 2) (by decide +kernel) rfl
  have s18 : fk_ev (d + 1) qJ1_indexOf_4cfef 32 [.retAddr (2 * i + 1), .int (nI c), .int (nI 0), .int (nI (fk_sbt.getD i []).length)] [.int (nI 0), .int (nI c), .retAddr (2 * i + 1)] h = fk_ev (d + 1) qJ1_indexOf_4cfef 33 [.retAddr (2 * i + 1), .int (nI c), .int (nI 0), .int (nI (fk_sbt.getD i []).length)] [.int (nI (fk_sbt.getD i []).length), .int (nI 0), .int (nI c), .retAddr (2 * i + 1)] h := fk_r_iloadn (i := 3) (by decide +kernel) rfl
  have s19 : fk_ev (d + 1) qJ1_indexOf_4cfef 33 [.retAddr (2 * i + 1), .int (nI c), .int (nI 0), .int (nI (fk_sbt.getD i []).length)] [.int (nI (fk_sbt.getD i []).length), .int (nI 0), .int (nI c), .retAddr (2 * i + 1)] h = fk_ev (d + 1) qJ1_indexOf_4cfef 36 [.retAddr (2 * i + 1), .int (nI c), .int (nI 0), .int (nI (fk_sbt.getD i []).length)] [.int v] h := (fk_h_calls (as := [.retAddr (2 * i + 1), .int (nI c), .int (nI 0), .int (nI (fk_sbt.getD i []).length)]) (r := []) (by decide +kernel) lm_18_95 rfl ⟨rfl, (by decide : (4 : Nat) ≤ 6)⟩ (by simp)).trans (by rw [show fk_loc qJ1_indexOfChar_4cfef [.retAddr (2 * i + 1), .int (nI c), .int (nI 0), .int (nI (fk_sbt.getD i []).length)] = [.retAddr (2 * i + 1), .int (nI c), .int (nI 0), .int (nI (fk_sbt.getD i []).length), .null, .null] from rfl, e1]; rfl)
  rw [s0, s1, s2, s3, s4, s5, s6, s7, s8, s9, s10, s11, s12, s13, s14, s15, s16, s17, s18, s19]
  exact fk_r_ret (by decide +kernel) (Or.inl rfl)
theorem mJ0_indexOf2 {c : Nat} (hi : i < 4) (hc : c < 256) : ∃ v, fk_ev (d + 2) qJ0_indexOf_7cf53 0 [.retAddr (2 * i), .int (nI c), .int (nI 0)] [] h = some (some (.int v), h) ∧ (((nI c).toInt8.toInt32 ∈ (fk_sbt.getD i []) ∧ nI 0 ≤ v) ∨ ((nI c).toInt8.toInt32 ∉ (fk_sbt.getD i []) ∧ v = (-1))) := by
  obtain ⟨v, e1, e2⟩ := mJ1_indexOf (d := d) (h := h) hi hc
  refine ⟨v, ?_, e2⟩
  have s0 : fk_ev (d + 2) qJ0_indexOf_7cf53 0 [.retAddr (2 * i), .int (nI c), .int (nI 0)] [] h = fk_ev (d + 2) qJ0_indexOf_7cf53 1 [.retAddr (2 * i), .int (nI c), .int (nI 0)] [.retAddr (2 * i)] h := fk_r_aloadsn (i := 0) (by decide +kernel) rfl
  have s1 : fk_ev (d + 2) qJ0_indexOf_7cf53 1 [.retAddr (2 * i), .int (nI c), .int (nI 0)] [.retAddr (2 * i)] h = fk_ev (d + 2) qJ0_indexOf_7cf53 4 [.retAddr (2 * i), .int (nI c), .int (nI 0)] [.int (nI 1)] h := (fk_j_call [] [] (by decide +kernel) lm_17_492 rfl ⟨rfl, by decide⟩ (by simp) hi).trans (by rw [show fk_loc qJ0_isLatin1_aae02 [.retAddr (2 * i)] = [.retAddr (2 * i)] from rfl, mJ0_isLatin1 hi]; rfl)
  have s2 : fk_ev (d + 2) qJ0_indexOf_7cf53 4 [.retAddr (2 * i), .int (nI c), .int (nI 0)] [.int (nI 1)] h = fk_ev (d + 2) qJ0_indexOf_7cf53 7 [.retAddr (2 * i), .int (nI c), .int (nI 0)] [] h := (fk_r_if_eq (off := 19) (t := 23) (by decide +kernel) (by decide)).trans (if_neg (by decide))
  have s3 : fk_ev (d + 2) qJ0_indexOf_7cf53 7 [.retAddr (2 * i), .int (nI c), .int (nI 0)] [] h = fk_ev (d + 2) qJ0_indexOf_7cf53 8 [.retAddr (2 * i), .int (nI c), .int (nI 0)] [.retAddr (2 * i)] h := fk_r_aloadsn (i := 0) (by decide +kernel) rfl
  have s4 : fk_ev (d + 2) qJ0_indexOf_7cf53 8 [.retAddr (2 * i), .int (nI c), .int (nI 0)] [.retAddr (2 * i)] h = fk_ev (d + 2) qJ0_indexOf_7cf53 11 [.retAddr (2 * i), .int (nI c), .int (nI 0)] [.retAddr (2 * i + 1)] h := fk_j_val (by decide +kernel) lk_17_9 hi
  have s5 : fk_ev (d + 2) qJ0_indexOf_7cf53 11 [.retAddr (2 * i), .int (nI c), .int (nI 0)] [.retAddr (2 * i + 1)] h = fk_ev (d + 2) qJ0_indexOf_7cf53 12 [.retAddr (2 * i), .int (nI c), .int (nI 0)] [.int (nI c), .retAddr (2 * i + 1)] h := fk_r_iloadn (i := 1) (by decide +kernel) rfl
  have s6 : fk_ev (d + 2) qJ0_indexOf_7cf53 12 [.retAddr (2 * i), .int (nI c), .int (nI 0)] [.int (nI c), .retAddr (2 * i + 1)] h = fk_ev (d + 2) qJ0_indexOf_7cf53 13 [.retAddr (2 * i), .int (nI c), .int (nI 0)] [.int (nI 0), .int (nI c), .retAddr (2 * i + 1)] h := fk_r_iloadn (i := 2) (by decide +kernel) rfl
  have s7 : fk_ev (d + 2) qJ0_indexOf_7cf53 13 [.retAddr (2 * i), .int (nI c), .int (nI 0)] [.int (nI 0), .int (nI c), .retAddr (2 * i + 1)] h = fk_ev (d + 2) qJ0_indexOf_7cf53 14 [.retAddr (2 * i), .int (nI c), .int (nI 0)] [.retAddr (2 * i), .int (nI 0), .int (nI c), .retAddr (2 * i + 1)] h := fk_r_aloadsn (i := 0) (by decide +kernel) rfl
  have s8 : fk_ev (d + 2) qJ0_indexOf_7cf53 14 [.retAddr (2 * i), .int (nI c), .int (nI 0)] [.retAddr (2 * i), .int (nI 0), .int (nI c), .retAddr (2 * i + 1)] h = fk_ev (d + 2) qJ0_indexOf_7cf53 17 [.retAddr (2 * i), .int (nI c), .int (nI 0)] [.int (nI (fk_sbt.getD i []).length), .int (nI 0), .int (nI c), .retAddr (2 * i + 1)] h := (fk_j_call [] [.int (nI 0), .int (nI c), .retAddr (2 * i + 1)] (by decide +kernel) lm_17_505 rfl ⟨rfl, by decide⟩ (by simp) hi).trans (by rw [show fk_loc qJ0_length_8abf5 [.retAddr (2 * i)] = [.retAddr (2 * i)] from rfl, mJ0_length hi]; rfl)
  have s9 : fk_ev (d + 2) qJ0_indexOf_7cf53 17 [.retAddr (2 * i), .int (nI c), .int (nI 0)] [.int (nI (fk_sbt.getD i []).length), .int (nI 0), .int (nI c), .retAddr (2 * i + 1)] h = fk_ev (d + 2) qJ0_indexOf_7cf53 20 [.retAddr (2 * i), .int (nI c), .int (nI 0)] [.int v] h := (fk_h_calls (as := [.retAddr (2 * i + 1), .int (nI c), .int (nI 0), .int (nI (fk_sbt.getD i []).length)]) (r := []) (by decide +kernel) lm_17_637 rfl ⟨rfl, (by decide : (4 : Nat) ≤ 4)⟩ (by simp)).trans (by rw [show fk_loc qJ1_indexOf_4cfef [.retAddr (2 * i + 1), .int (nI c), .int (nI 0), .int (nI (fk_sbt.getD i []).length)] = [.retAddr (2 * i + 1), .int (nI c), .int (nI 0), .int (nI (fk_sbt.getD i []).length)] from rfl, e1]; rfl)
  have s10 : fk_ev (d + 2) qJ0_indexOf_7cf53 20 [.retAddr (2 * i), .int (nI c), .int (nI 0)] [.int v] h = fk_ev (d + 2) qJ0_indexOf_7cf53 36 [.retAddr (2 * i), .int (nI c), .int (nI 0)] [.int v] h := fk_r_goto (off := 16) (t := 36) (by decide +kernel) (by decide)
  rw [s0, s1, s2, s3, s4, s5, s6, s7, s8, s9, s10]
  exact fk_r_ret (by decide +kernel) (Or.inl rfl)
theorem mJ0_indexOf {c : Nat} (hi : i < 4) (hc : c < 256) : ∃ v, fk_ev (d + 3) qJ0_indexOf_0f7a4 0 [.retAddr (2 * i), .int (nI c)] [] h = some (some (.int v), h) ∧ (((nI c).toInt8.toInt32 ∈ (fk_sbt.getD i []) ∧ nI 0 ≤ v) ∨ ((nI c).toInt8.toInt32 ∉ (fk_sbt.getD i []) ∧ v = (-1))) := by
  obtain ⟨v, e1, e2⟩ := mJ0_indexOf2 (d := d) (h := h) hi hc
  refine ⟨v, ?_, e2⟩
  have s0 : fk_ev (d + 3) qJ0_indexOf_0f7a4 0 [.retAddr (2 * i), .int (nI c)] [] h = fk_ev (d + 3) qJ0_indexOf_0f7a4 1 [.retAddr (2 * i), .int (nI c)] [.retAddr (2 * i)] h := fk_r_aloadsn (i := 0) (by decide +kernel) rfl
  have s1 : fk_ev (d + 3) qJ0_indexOf_0f7a4 1 [.retAddr (2 * i), .int (nI c)] [.retAddr (2 * i)] h = fk_ev (d + 3) qJ0_indexOf_0f7a4 2 [.retAddr (2 * i), .int (nI c)] [.int (nI c), .retAddr (2 * i)] h := fk_r_iloadn (i := 1) (by decide +kernel) rfl
  have s2 : fk_ev (d + 3) qJ0_indexOf_0f7a4 2 [.retAddr (2 * i), .int (nI c)] [.int (nI c), .retAddr (2 * i)] h = fk_ev (d + 3) qJ0_indexOf_0f7a4 3 [.retAddr (2 * i), .int (nI c)] [.int (nI 0), .int (nI c), .retAddr (2 * i)] h := fk_w_iconst (n := 0) (by decide +kernel) (by decide)
  have s3 : fk_ev (d + 3) qJ0_indexOf_0f7a4 3 [.retAddr (2 * i), .int (nI c)] [.int (nI 0), .int (nI c), .retAddr (2 * i)] h = fk_ev (d + 3) qJ0_indexOf_0f7a4 6 [.retAddr (2 * i), .int (nI c)] [.int v] h := (fk_j_call [.int (nI c), .int (nI 0)] [] (by decide +kernel) lm_17_633 rfl ⟨rfl, (by decide : (3 : Nat) ≤ 3)⟩ (by simp) hi).trans (by rw [show fk_loc qJ0_indexOf_7cf53 [.retAddr (2 * i), .int (nI c), .int (nI 0)] = [.retAddr (2 * i), .int (nI c), .int (nI 0)] from rfl, e1]; rfl)
  rw [s0, s1, s2, s3]
  exact fk_r_ret (by decide +kernel) (Or.inl rfl)
end STR
section STR2
variable {N : Nat} {y : Nat → Nat → Int32} {l : Nat → Nat → Int64} {d i a n : Nat} {bt : Nat → Nat}
theorem fk_chr : ∀ c, c < 256 → ((nI c).toUInt32 % 65536).toInt32 = nI c := by decide +kernel
/-- the signs of a String constant -/
def lz_sc (i c : Nat) : Bool := if i = 0 then lz_cls c else if i = 1 then decide (lz_li c < 14) else if i = 2 then lz_mul c else lz_cmp c
theorem lz_sc_e : ∀ i, i < 4 → ∀ c, c < 256 → ((nI c).toInt8.toInt32 ∈ fk_sbt.getD i [] ↔ lz_sc i c = true) := by decide +kernel
theorem mX4_isOneOf (hi : i < 4) (h5 : y 28 5 = ab_pk bt n a) (b6 : bt a < 256) : fk_ev (d + 4) qX4_isOneOf 0 [.ref 28, .retAddr (2 * i)] [] (fk_E N y l) = some (some (.int (fk_b (a < n ∧ lz_sc i (bt a) = true))), fk_E N y l) := by
  by_cases lt : a < n
  · have ep : ab_pk bt n a = nI (bt a) := if_pos lt
    rw [ep] at h5
    obtain ⟨v, e1, e2⟩ := mJ0_indexOf (d := d) (h := fk_E N y l) hi b6
    have s7 : fk_ev (d + 4) qX4_isOneOf 7 [.ref 28, .retAddr (2 * i)] [] (fk_E N y l) = fk_ev (d + 4) qX4_isOneOf 8 [.ref 28, .retAddr (2 * i)] [.retAddr (2 * i)] (fk_E N y l) := fk_r_aloadsn (i := 1) dX4_isOneOf_7 rfl
    have s13 : fk_ev (d + 4) qX4_isOneOf 13 [.ref 28, .retAddr (2 * i)] [.int (nI (bt a)), .retAddr (2 * i)] (fk_E N y l) = fk_ev (d + 4) qX4_isOneOf 16 [.ref 28, .retAddr (2 * i)] [.int v] (fk_E N y l) := (fk_j_call [.int (nI (bt a))] [] dX4_isOneOf_13 lm_4_63 rfl ⟨rfl, (by decide : (2 : Nat) ≤ 2)⟩ (by simp) hi).trans (by rw [show fk_loc qJ0_indexOf_0f7a4 [.retAddr (2 * i), .int (nI (bt a))] = [.retAddr (2 * i), .int (nI (bt a))] from rfl, e1]; rfl)
    have ch := fk_chr (bt a) b6
    have sc := lz_sc_e i hi (bt a) b6
    rcases e2 with ⟨p1, p2⟩ | ⟨p1, p2⟩
    · rw [fk_b_t ⟨lt, sc.mp p1⟩]
      have nv : ¬ v < nI 0 := fun z => Int32.lt_irrefl (Int32.lt_of_le_of_lt p2 z)
      simp (disch := first | assumption | omega) only [rX4_isOneOf, h5, s7, ch, s13, nv, Option.bind_some, Option.toList_some, Option.toList_none, List.cons_append, List.nil_append, fk_b_0, nI_add, Nat.add_zero, Nat.zero_add, not_true_eq_false, not_false_eq_true, if_true, if_false, sI_le_t, sI_le_f, sI_lt_t, sI_lt_f, sI_eq_t, sI_eq_f, sI_rem, sI_div, sI_m1a, sI_m1b, sI_m1c, sI_m1d, sI_m1e, sI_m1f, sI_m2a, sI_m2b, sI_sub, pk_mul, sI_dec, fk_u_s, fk_u_o, sI_dec0, sI_z, sI_md, Bool.false_eq_true, Nat.reduceAdd, Nat.reduceMul, Nat.reduceSub, Nat.reduceMod, Nat.reduceDiv]
    · rw [fk_b_f fun z => p1 (sc.mpr z.2)]
      subst p2
      have nv : (-1 : Int32) < nI 0 := by decide
      simp (disch := first | assumption | omega) only [rX4_isOneOf, h5, s7, ch, s13, nv, Option.bind_some, Option.toList_some, Option.toList_none, List.cons_append, List.nil_append, fk_b_0, nI_add, Nat.add_zero, Nat.zero_add, not_true_eq_false, not_false_eq_true, if_true, if_false, sI_le_t, sI_le_f, sI_lt_t, sI_lt_f, sI_eq_t, sI_eq_f, sI_rem, sI_div, sI_m1a, sI_m1b, sI_m1c, sI_m1d, sI_m1e, sI_m1f, sI_m2a, sI_m2b, sI_sub, pk_mul, sI_dec, fk_u_s, fk_u_o, sI_dec0, sI_z, sI_md, Bool.false_eq_true, Nat.reduceAdd, Nat.reduceMul, Nat.reduceSub, Nat.reduceMod, Nat.reduceDiv]
  · have ep : ab_pk bt n a = (-1) := if_neg lt
    rw [ep] at h5
    rw [fk_b_f fun z => lt z.1]
    have nv : (-1 : Int32) < nI 0 := by decide
    simp (disch := first | assumption | omega) only [rX4_isOneOf, h5, nv, Option.bind_some, Option.toList_some, Option.toList_none, List.cons_append, List.nil_append, fk_b_0, nI_add, Nat.add_zero, Nat.zero_add, not_true_eq_false, not_false_eq_true, if_true, if_false, sI_le_t, sI_le_f, sI_lt_t, sI_lt_f, sI_eq_t, sI_eq_f, sI_rem, sI_div, sI_m1a, sI_m1b, sI_m1c, sI_m1d, sI_m1e, sI_m1f, sI_m2a, sI_m2b, sI_sub, pk_mul, sI_dec, fk_u_s, fk_u_o, sI_dec0, sI_z, sI_md, Bool.false_eq_true, Nat.reduceAdd, Nat.reduceMul, Nat.reduceSub, Nat.reduceMod, Nat.reduceDiv]
end STR2
