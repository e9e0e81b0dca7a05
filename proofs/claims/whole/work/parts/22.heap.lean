/-! THE CELLS ONCE BOTH CONSTRUCTORS HAVE RUN: kinds and lengths are fixed; what changes is y (ints, and which cell a field names) and l (longs) -/
def fk_shl : List (Nat × Nat) := [(30, 0), (11, 17), (3, 9), (20, 240), (20, 240), (20, 16), (20, 16), (20, 16), (20, 16), (20, 32), (3, 9), (20, 240), (20, 240), (20, 16), (20, 16), (20, 16), (20, 16), (20, 32), (5, 7), (20, 32), (20, 32), (20, 32), (20, 16), (20, 16), (20, 16), (23, 976), (10, 2), (20, 260), (4, 6), (20, 241), (1, 6), (20, 16), (20, 16), (8, 9), (24, 64), (20, 4), (0, 15), (0, 15), (0, 15), (0, 15), (0, 15), (0, 15), (0, 15), (0, 15), (0, 15), (0, 15), (0, 15), (0, 15), (0, 15), (0, 15), (0, 15), (0, 15), (0, 15), (0, 15), (0, 15), (0, 15), (0, 15), (0, 15), (0, 15), (0, 15), (0, 15), (0, 15), (0, 15), (0, 15), (0, 15), (0, 15), (0, 15), (0, 15), (0, 15), (0, 15), (0, 15), (0, 15), (0, 15), (0, 15), (0, 15), (0, 15), (0, 15), (0, 15), (0, 15), (0, 15), (0, 15), (0, 15), (0, 15), (0, 15), (0, 15), (0, 15), (0, 15), (0, 15), (0, 15), (0, 15), (0, 15), (0, 15), (0, 15), (0, 15), (0, 15), (0, 15), (0, 15), (0, 15), (0, 15), (0, 15), (8, 9), (24, 64), (20, 4), (0, 15), (0, 15), (0, 15), (0, 15), (0, 15), (0, 15), (0, 15), (0, 15), (0, 15), (0, 15), (0, 15), (0, 15), (0, 15), (0, 15), (0, 15), (0, 15), (0, 15), (0, 15), (0, 15), (0, 15), (0, 15), (0, 15), (0, 15), (0, 15), (0, 15), (0, 15), (0, 15), (0, 15), (0, 15), (0, 15), (0, 15), (0, 15), (0, 15), (0, 15), (0, 15), (0, 15), (0, 15), (0, 15), (0, 15), (0, 15), (0, 15), (0, 15), (0, 15), (0, 15), (0, 15), (0, 15), (0, 15), (0, 15), (0, 15), (0, 15), (0, 15), (0, 15), (0, 15), (0, 15), (0, 15), (0, 15), (0, 15), (0, 15), (0, 15), (0, 15), (0, 15), (0, 15), (0, 15), (0, 15), (8, 9), (24, 64), (20, 4), (0, 15), (0, 15), (0, 15), (0, 15), (0, 15), (0, 15), (0, 15), (0, 15), (0, 15), (0, 15), (0, 15), (0, 15), (0, 15), (0, 15), (0, 15), (0, 15), (0, 15), (0, 15), (0, 15), (0, 15), (0, 15), (0, 15), (0, 15), (0, 15), (0, 15), (0, 15), (0, 15), (0, 15), (0, 15), (0, 15), (0, 15), (0, 15), (0, 15), (0, 15), (0, 15), (0, 15), (0, 15), (0, 15), (0, 15), (0, 15), (0, 15), (0, 15), (0, 15), (0, 15), (0, 15), (0, 15), (0, 15), (0, 15), (0, 15), (0, 15), (0, 15), (0, 15), (0, 15), (0, 15), (0, 15), (0, 15), (0, 15), (0, 15), (0, 15), (0, 15), (0, 15), (0, 15), (0, 15), (0, 15), (7, 1), (20, 3072), (7, 1), (20, 3072), (6, 8), (20, 26), (9, 7), (2, 4), (20, 5), (20, 5), (20, 32), (20, 32), (12, 50), (20, 3912), (20, 3912), (20, 3912), (20, 32), (20, 32), (20, 32), (20, 16), (22, 16), (21, 260), (20, 260), (20, 260), (20, 16), (20, 16), (20, 16), (20, 16), (20, 260), (20, 16), (20, 16), (20, 16), (20, 16), (20, 260), (20, 14), (22, 64), (23, 976), (20, 5), (20, 5), (20, 20), (20, 20)]
def fk_shp (c : Nat) : Nat × Nat := fk_shl.getD c (99, 0)
/-- a field: 0 a number, 1 a cell for good, 2 a cell that may change, 3 none -/
def fk_ssl : List (List Nat) := [[0, 0, 0, 0, 0, 0, 0, 0, 0, 0, 0, 0, 0, 0, 0], [1, 1, 1, 0, 0, 0], [1, 1, 0, 0], [1, 1, 1, 1, 1, 1, 1, 0, 0], [1, 1, 2, 0, 0, 0], [1, 1, 1, 1, 1, 1, 1], [1, 1, 2, 2, 0, 0, 0, 0], [1], [1, 1, 0, 0, 0, 0, 0, 0, 0], [1, 1, 1, 0, 0, 0, 0], [1, 0], [2, 2, 0, 1, 1, 1, 1, 1, 1, 1, 1, 1, 1, 1, 1, 1, 1], [1, 1, 1, 0, 1, 1, 1, 1, 1, 1, 0, 0, 0, 0, 0, 0, 0, 0, 0, 0, 1, 1, 1, 1, 1, 1, 1, 1, 1, 1, 1, 1, 1, 0, 0, 0, 0, 1, 1, 0, 0, 0, 1, 1, 0, 0, 0, 1, 1, 0]]
def fk_ss (k i : Nat) : Nat := (fk_ssl.getD k []).getD i 3
/-- the cell that a field names for good -/
def fk_cr (c i : Nat) : Nat := match c with
  | 1 => ([0, 0, 0, 18, 26, 28, 30, 33, 100, 167, 234, 236, 238, 240, 241, 244, 245] : List Nat).getD i 0
  | 2 => ([3, 4, 5, 6, 7, 8, 9] : List Nat).getD i 0
  | 10 => ([11, 12, 13, 14, 15, 16, 17] : List Nat).getD i 0
  | 18 => ([19, 20, 21, 22, 23, 24, 25] : List Nat).getD i 0
  | 26 => ([27] : List Nat).getD i 0
  | 28 => ([26, 29] : List Nat).getD i 0
  | 30 => ([31, 32, 26] : List Nat).getD i 0
  | 33 => ([34, 35] : List Nat).getD i 0
  | 100 => ([101, 102] : List Nat).getD i 0
  | 167 => ([168, 169] : List Nat).getD i 0
  | 234 => ([235] : List Nat).getD i 0
  | 236 => ([237] : List Nat).getD i 0
  | 238 => ([18, 239] : List Nat).getD i 0
  | 240 => ([18, 238, 167] : List Nat).getD i 0
  | 241 => ([242, 243] : List Nat).getD i 0
  | 246 => ([247, 248, 249, 0, 250, 251, 252, 253, 254, 255, 0, 0, 0, 0, 0, 0, 0, 0, 0, 0, 256, 257, 258, 259, 260, 261, 262, 263, 264, 265, 266, 267, 268, 0, 0, 0, 0, 269, 270, 0, 0, 0, 271, 272, 0, 0, 0, 273, 274] : List Nat).getD i 0
  | _ => 0
def fk_G (y : Nat → Nat → Int32) (l : Nat → Nat → Int64) (c i : Nat) : Value :=
  if (fk_shp c).1 = 23 then .long (l c i)
  else if (fk_shp c).1 = 24 then (if i < (fk_shp c).2 then .ref (c + 2 + i) else .null)
  else if (fk_shp c).1 < 13 then (if fk_ss (fk_shp c).1 i = 0 then .int (y c i) else if fk_ss (fk_shp c).1 i = 1 then .ref (fk_cr c i) else if fk_ss (fk_shp c).1 i = 2 then .ref (y c i).toNatClampNeg else defaultValue (fk_ty (fk_shp c).1 i))
  else .int (y c i)
def fk_E (N : Nat) (y : Nat → Nat → Int32) (l : Nat → Nat → Int64) : fk_H := (275, 26683, fun c => if c = 0 then (30, N) else fk_shp c, fk_G y l)
/-- a cell of a kind -/
def fk_at (c k : Nat) : Prop := 0 < c ∧ c < 275 ∧ (fk_shp c).1 = k
def fk_u (y : Nat → Nat → Int32) (c i : Nat) (v : Int32) : Nat → Nat → Int32 := fun a j => if a = c ∧ j = i then v else y a j
def fk_ul (y : Nat → Nat → Int64) (c i : Nat) (v : Int64) : Nat → Nat → Int64 := fun a j => if a = c ∧ j = i then v else y a j
/-- a row of ints copied into another -/
def fk_uc (y : Nat → Nat → Int32) (a0 sp a dp n : Nat) : Nat → Nat → Int32 := fun c j => if c = a ∧ dp ≤ j ∧ j < dp + n then y a0 (sp + (j - dp)) else y c j
section FKY
variable {N : Nat} {y : Nat → Nat → Int32} {l : Nat → Nat → Int64} {c k : Nat}
theorem fk_at_is (h : fk_at c k) : fk_is (fk_E N y l) c k := by
  obtain ⟨h1, h2, h3⟩ := h
  refine ⟨h1, h2, ?_⟩
  show (if c = 0 then (30, N) else fk_shp c).1 = k
  rw [if_neg (by omega)]
  exact h3
theorem fk_at_len (h : fk_at c k) : ((fk_E N y l).2.2.1 c).2 = (fk_shp c).2 := by
  show (if c = 0 then (30, N) else fk_shp c).2 = _
  rw [if_neg (by have := h.1; omega)]
theorem fk_G_i {i : Nat} (h : fk_at c k) (hk : k < 13) (hs : fk_ss k i = 0) : fk_G y l c i = .int (y c i) := by
  obtain ⟨h1, h2, h3⟩ := h
  unfold fk_G
  rw [h3, if_neg (by omega), if_neg (by omega), if_pos hk, if_pos hs]
theorem fk_G_c {i : Nat} (h : fk_at c k) (hk : k < 13) (hs : fk_ss k i = 1) : fk_G y l c i = .ref (fk_cr c i) := by
  obtain ⟨h1, h2, h3⟩ := h
  unfold fk_G
  rw [h3, if_neg (by omega), if_neg (by omega), if_pos hk, if_neg (by omega), if_pos hs]
theorem fk_G_m {i : Nat} (h : fk_at c k) (hk : k < 13) (hs : fk_ss k i = 2) : fk_G y l c i = .ref (y c i).toNatClampNeg := by
  obtain ⟨h1, h2, h3⟩ := h
  unfold fk_G
  rw [h3, if_neg (by omega), if_neg (by omega), if_pos hk, if_neg (by omega), if_neg (by omega), if_pos hs]
theorem fk_G_a {i : Nat} (h : (fk_shp c).1 = k) (hk : k = 20 ∨ k = 21 ∨ k = 22 ∨ k = 30) : fk_G y l c i = .int (y c i) := by
  unfold fk_G
  rw [h, if_neg (by omega), if_neg (by omega), if_neg (by omega)]
theorem fk_G_l {i : Nat} (h : (fk_shp c).1 = 23) : fk_G y l c i = .long (l c i) := by
  unfold fk_G
  rw [h, if_pos rfl]
theorem fk_G_r {i : Nat} (h : (fk_shp c).1 = 24) (hi : i < (fk_shp c).2) : fk_G y l c i = .ref (c + 2 + i) := by
  unfold fk_G
  rw [h, if_neg (by omega), if_pos rfl, if_pos hi]
theorem fk_upE {G G' : Nat → Nat → Value} {i : Nat} {v : Value} (h1 : G' c i = v) (h2 : ∀ a j, ¬ (a = c ∧ j = i) → G' a j = G a j) : va_up G c (va_up (G c) i v) = G' := by
  funext a j
  by_cases ha : a = c
  · subst ha
    by_cases hj : j = i
    · subst hj
      simp [va_up, h1]
    · rw [h2 a j (fun z => hj z.2)]
      simp [va_up, hj]
  · rw [h2 a j (fun z => ha z.1)]
    simp [va_up, ha]
theorem fk_u_o {i a j : Nat} {v : Int32} (h : ¬ (a = c ∧ j = i)) : fk_u y c i v a j = y a j := if_neg h
theorem fk_u_s {i : Nat} {v : Int32} : fk_u y c i v c i = v := if_pos ⟨rfl, rfl⟩
theorem fk_ul_o {i a j : Nat} {v : Int64} (h : ¬ (a = c ∧ j = i)) : fk_ul l c i v a j = l a j := if_neg h
theorem fk_ul_s {i : Nat} {v : Int64} : fk_ul l c i v c i = v := if_pos ⟨rfl, rfl⟩
theorem fk_G_u {i a j : Nat} {v : Int32} (h : ¬ (a = c ∧ j = i)) : fk_G (fk_u y c i v) l a j = fk_G y l a j := by
  unfold fk_G
  rw [fk_u_o h]
theorem fk_E_put {i : Nat} {v : Int32} (h : fk_G (fk_u y c i v) l c i = .int v) : fk_put (fk_E N y l) c i (.int v) = fk_E N (fk_u y c i v) l := by
  unfold fk_put fk_E
  dsimp only
  rw [fk_upE h fun a j hn => fk_G_u hn]
theorem fk_E_putr {i v : Nat} (h : fk_G (fk_u y c i (nI v)) l c i = .ref v) : fk_put (fk_E N y l) c i (.ref v) = fk_E N (fk_u y c i (nI v)) l := by
  unfold fk_put fk_E
  dsimp only
  rw [fk_upE h fun a j hn => fk_G_u hn]
theorem fk_E_putl {i : Nat} {v : Int64} (h : fk_G y (fk_ul l c i v) c i = .long v) : fk_put (fk_E N y l) c i (.long v) = fk_E N y (fk_ul l c i v) := by
  unfold fk_put fk_E
  dsimp only
  rw [fk_upE h fun a j hn => by unfold fk_G; rw [fk_ul_o hn]]
end FKY
section FKR
variable {d pc : Nat} {me : fk_Me} {L r : List Value} {N : Nat} {y : Nat → Nat → Int32} {l : Nat → Nat → Int64} {c : Nat}
theorem fk_so_of {α β : Type} {q : Option β} {x : β} {k : β → Option α} (h : q = some x) : fk_so q k = k x := by
  rw [h]
  rfl
theorem fk_if_of {α : Type} {p : Prop} [Decidable p] {k : Option α} (h : p) : fk_if p k = k := if_pos h
theorem fk_if_no {α : Type} {p : Prop} [Decidable p] {k : Option α} (h : ¬ p) : fk_if p k = none := if_neg h
/-! fields -/
theorem fk_h_get {ix ci k f : Nat} {v : Value} (hd : decode me.2.2.1 pc = .ok (.getfield ix, 3)) (hf : fk_fl me.1 ix = some (ci, k, f)) (hc : fk_at c ci) (hv : fk_G y l c k = v) : fk_ev d me pc L (.ref c :: r) (fk_E N y l) = fk_ev d me (pc + 3) L (v :: r) (fk_E N y l) := by
  refine fk_ev_go hd (Or.inr rfl) ?_
  show fk_so (fk_fl me.1 ix) (fun f => fk_if (fk_is (fk_E N y l) c f.1) (fk_nx (pc + 3) L ((fk_E N y l).2.2.2 c f.2.1 :: r) (fk_E N y l))) = _
  rw [fk_so_of hf, fk_if_of (fk_at_is hc)]
  subst hv
  rfl
theorem fk_h_getI {ix ci k f : Nat} (hd : decode me.2.2.1 pc = .ok (.getfield ix, 3)) (hf : fk_fl me.1 ix = some (ci, k, f)) (hs : ci < 13 ∧ fk_ss ci k = 0) (hc : fk_at c ci) : fk_ev d me pc L (.ref c :: r) (fk_E N y l) = fk_ev d me (pc + 3) L (.int (y c k) :: r) (fk_E N y l) := fk_h_get hd hf hc (fk_G_i hc hs.1 hs.2)
theorem fk_h_getC {ix ci k f : Nat} (hd : decode me.2.2.1 pc = .ok (.getfield ix, 3)) (hf : fk_fl me.1 ix = some (ci, k, f)) (hs : ci < 13 ∧ fk_ss ci k = 1) (hc : fk_at c ci) : fk_ev d me pc L (.ref c :: r) (fk_E N y l) = fk_ev d me (pc + 3) L (.ref (fk_cr c k) :: r) (fk_E N y l) := fk_h_get hd hf hc (fk_G_c hc hs.1 hs.2)
theorem fk_h_getM {ix ci k f : Nat} (hd : decode me.2.2.1 pc = .ok (.getfield ix, 3)) (hf : fk_fl me.1 ix = some (ci, k, f)) (hs : ci < 13 ∧ fk_ss ci k = 2) (hc : fk_at c ci) : fk_ev d me pc L (.ref c :: r) (fk_E N y l) = fk_ev d me (pc + 3) L (.ref (y c k).toNatClampNeg :: r) (fk_E N y l) := fk_h_get hd hf hc (fk_G_m hc hs.1 hs.2)
theorem fk_h_putI {ix ci k f : Nat} {v : Int32} (hd : decode me.2.2.1 pc = .ok (.putfield ix, 3)) (hf : fk_fl me.1 ix = some (ci, k, f)) (hs : ci < 13 ∧ fk_ss ci k = 0 ∧ f ≠ 3 ∧ (f = 2 → me.2.1.name = "<init>")) (ht : fk_okv (fk_ty ci k) (.int v) = true) (hc : fk_at c ci) : fk_ev d me pc L (.int v :: .ref c :: r) (fk_E N y l) = fk_ev d me (pc + 3) L r (fk_E N (fk_u y c k v) l) := by
  refine fk_ev_go hd (Or.inr rfl) ?_
  show fk_so (fk_fl me.1 ix) (fun f => fk_if (fk_is (fk_E N y l) c f.1 ∧ fk_okv (fk_ty f.1 f.2.1) (.int v) = true ∧ f.2.2 ≠ 3 ∧ (f.2.2 = 2 → me.2.1.name = "<init>")) (fk_nx (pc + 3) L r (fk_put (fk_E N y l) c f.2.1 (.int v)))) = _
  rw [fk_so_of hf, fk_if_of ⟨fk_at_is hc, ht, hs.2.2.1, hs.2.2.2⟩]
  dsimp only
  rw [fk_E_put ((fk_G_i hc hs.1 hs.2.1).trans (by rw [fk_u_s]))]
  rfl
theorem fk_h_putM {ix ci k f v : Nat} (hd : decode me.2.2.1 pc = .ok (.putfield ix, 3)) (hf : fk_fl me.1 ix = some (ci, k, f)) (hs : ci < 13 ∧ fk_ss ci k = 2 ∧ f ≠ 3 ∧ (f = 2 → me.2.1.name = "<init>")) (ht : fk_okv (fk_ty ci k) (.ref v) = true) (hv : v < 2 ^ 31) (hc : fk_at c ci) : fk_ev d me pc L (.ref v :: .ref c :: r) (fk_E N y l) = fk_ev d me (pc + 3) L r (fk_E N (fk_u y c k (nI v)) l) := by
  refine fk_ev_go hd (Or.inr rfl) ?_
  show fk_so (fk_fl me.1 ix) (fun f => fk_if (fk_is (fk_E N y l) c f.1 ∧ fk_okv (fk_ty f.1 f.2.1) (.ref v) = true ∧ f.2.2 ≠ 3 ∧ (f.2.2 = 2 → me.2.1.name = "<init>")) (fk_nx (pc + 3) L r (fk_put (fk_E N y l) c f.2.1 (.ref v)))) = _
  rw [fk_so_of hf, fk_if_of ⟨fk_at_is hc, ht, hs.2.2.1, hs.2.2.2⟩]
  dsimp only
  rw [fk_E_putr ((fk_G_m hc hs.1 hs.2.1).trans (by rw [fk_u_s, nI_clamp hv]))]
  rfl
/-! arrays: by a number that isn't negative -/
theorem fk_in_nI {i n : Nat} (hi : i < 2 ^ 31) : fk_in (nI i) n ↔ i < n := by
  unfold fk_in
  constructor
  · intro h
    have := Nat.not_le.mp fun q => h (Or.inr (by rw [nI_clamp hi]; exact q))
    exact this
  · intro h z
    rcases z with z | z
    · exact nI_pos hi z
    · rw [nI_clamp hi] at z
      omega
theorem fk_h_iald {i : Nat} (hd : decode me.2.2.1 pc = .ok (.iaload, 1)) (hc : fk_at c 20) (hi : i < (fk_shp c).2) (hl : (fk_shp c).2 < 2 ^ 31) : fk_ev d me pc L (.int (nI i) :: .ref c :: r) (fk_E N y l) = fk_ev d me (pc + 1) L (.int (y c i) :: r) (fk_E N y l) := by
  refine fk_ev_go hd (Or.inr rfl) ?_
  show fk_if ((fk_is (fk_E N y l) c 20 ∨ (c = 0 ∧ ((fk_E N y l).2.2.1 c).1 = 30)) ∧ fk_in (nI i) ((fk_E N y l).2.2.1 c).2) (fk_nx (pc + 1) L (.int (fk_iv (fk_G y l c (nI i).toNatClampNeg)) :: r) (fk_E N y l)) = _
  rw [fk_if_of ⟨Or.inl (fk_at_is hc), by rw [fk_at_len hc, fk_in_nI (by omega)]; exact hi⟩, nI_clamp (by omega), fk_G_a hc.2.2 (Or.inl rfl)]
  rfl
theorem fk_h_sld {i : Nat} (hd : decode me.2.2.1 pc = .ok (.iaload, 1)) (hi : i < N) (hl : N < 2 ^ 31) : fk_ev d me pc L (.int (nI i) :: .ref 0 :: r) (fk_E N y l) = fk_ev d me (pc + 1) L (.int (y 0 i) :: r) (fk_E N y l) := by
  refine fk_ev_go hd (Or.inr rfl) ?_
  show fk_if ((fk_is (fk_E N y l) 0 20 ∨ ((0 : Nat) = 0 ∧ ((fk_E N y l).2.2.1 0).1 = 30)) ∧ fk_in (nI i) ((fk_E N y l).2.2.1 0).2) (fk_nx (pc + 1) L (.int (fk_iv (fk_G y l 0 (nI i).toNatClampNeg)) :: r) (fk_E N y l)) = _
  rw [fk_if_of ⟨Or.inr ⟨rfl, rfl⟩, (fk_in_nI (by omega)).mpr hi⟩, nI_clamp (by omega), fk_G_a (c := 0) (k := 30) rfl (Or.inr (Or.inr (Or.inr rfl)))]
  rfl
theorem fk_h_bald {i k : Nat} (hd : decode me.2.2.1 pc = .ok (.baload, 1)) (hk : k = 21 ∨ k = 22) (hc : fk_at c k) (hi : i < (fk_shp c).2) (hl : (fk_shp c).2 < 2 ^ 31) : fk_ev d me pc L (.int (nI i) :: .ref c :: r) (fk_E N y l) = fk_ev d me (pc + 1) L (.int (y c i) :: r) (fk_E N y l) := by
  refine fk_ev_go hd (Or.inr rfl) ?_
  show fk_if ((fk_is (fk_E N y l) c 21 ∨ fk_is (fk_E N y l) c 22) ∧ fk_in (nI i) ((fk_E N y l).2.2.1 c).2) (fk_nx (pc + 1) L (.int (fk_iv (fk_G y l c (nI i).toNatClampNeg)) :: r) (fk_E N y l)) = _
  rw [fk_if_of ⟨(by rcases hk with rfl | rfl; exact Or.inl (fk_at_is hc); exact Or.inr (fk_at_is hc)), by rw [fk_at_len hc, fk_in_nI (by omega)]; exact hi⟩, nI_clamp (by omega), fk_G_a hc.2.2 (by omega)]
  rfl
theorem fk_h_lald {i : Nat} (hd : decode me.2.2.1 pc = .ok (.laload, 1)) (hc : fk_at c 23) (hi : i < (fk_shp c).2) (hl : (fk_shp c).2 < 2 ^ 31) : fk_ev d me pc L (.int (nI i) :: .ref c :: r) (fk_E N y l) = fk_ev d me (pc + 1) L (.long (l c i) :: r) (fk_E N y l) := by
  refine fk_ev_go hd (Or.inr rfl) ?_
  show fk_if (fk_is (fk_E N y l) c 23 ∧ fk_in (nI i) ((fk_E N y l).2.2.1 c).2) (fk_nx (pc + 1) L (.long (fk_lv (fk_G y l c (nI i).toNatClampNeg)) :: r) (fk_E N y l)) = _
  rw [fk_if_of ⟨fk_at_is hc, by rw [fk_at_len hc, fk_in_nI (by omega)]; exact hi⟩, nI_clamp (by omega), fk_G_l hc.2.2]
  rfl
theorem fk_h_aald {i : Nat} (hd : decode me.2.2.1 pc = .ok (.aaload, 1)) (hc : fk_at c 24) (hi : i < (fk_shp c).2) (hl : (fk_shp c).2 < 2 ^ 31) : fk_ev d me pc L (.int (nI i) :: .ref c :: r) (fk_E N y l) = fk_ev d me (pc + 1) L (.ref (c + 2 + i) :: r) (fk_E N y l) := by
  refine fk_ev_go hd (Or.inr rfl) ?_
  show fk_if (fk_is (fk_E N y l) c 24 ∧ fk_in (nI i) ((fk_E N y l).2.2.1 c).2) (fk_r1 [fk_G y l c (nI i).toNatClampNeg] fun v _ => fk_nx (pc + 1) L (.ref v :: r) (fk_E N y l)) = _
  rw [fk_if_of ⟨fk_at_is hc, by rw [fk_at_len hc, fk_in_nI (by omega)]; exact hi⟩, nI_clamp (by omega), fk_G_r hc.2.2 hi]
  rfl
theorem fk_h_iast {i : Nat} {v : Int32} (hd : decode me.2.2.1 pc = .ok (.iastore, 1)) (hc : fk_at c 20) (hi : i < (fk_shp c).2) (hl : (fk_shp c).2 < 2 ^ 31) : fk_ev d me pc L (.int v :: .int (nI i) :: .ref c :: r) (fk_E N y l) = fk_ev d me (pc + 1) L r (fk_E N (fk_u y c i v) l) := by
  refine fk_ev_go hd (Or.inr rfl) ?_
  show fk_if (fk_is (fk_E N y l) c 20 ∧ fk_in (nI i) ((fk_E N y l).2.2.1 c).2) (fk_nx (pc + 1) L r (fk_put (fk_E N y l) c (nI i).toNatClampNeg (.int v))) = _
  rw [fk_if_of ⟨fk_at_is hc, by rw [fk_at_len hc, fk_in_nI (by omega)]; exact hi⟩, nI_clamp (by omega), fk_E_put ((fk_G_a hc.2.2 (Or.inl rfl)).trans (by rw [fk_u_s]))]
  rfl
theorem fk_h_bast {i k : Nat} {v : Int32} (hd : decode me.2.2.1 pc = .ok (.bastore, 1)) (hk : k = 21 ∨ k = 22) (hc : fk_at c k) (hi : i < (fk_shp c).2) (hl : (fk_shp c).2 < 2 ^ 31) : fk_ev d me pc L (.int v :: .int (nI i) :: .ref c :: r) (fk_E N y l) = fk_ev d me (pc + 1) L r (fk_E N (fk_u y c i (vp_nar (if k = 21 then .byte else .boolean) v)) l) := by
  refine fk_ev_go hd (Or.inr rfl) ?_
  show fk_if ((fk_is (fk_E N y l) c 21 ∨ fk_is (fk_E N y l) c 22) ∧ fk_in (nI i) ((fk_E N y l).2.2.1 c).2) (fk_nx (pc + 1) L r (fk_put (fk_E N y l) c (nI i).toNatClampNeg (.int (vp_nar (if ((fk_E N y l).2.2.1 c).1 = 21 then .byte else .boolean) v)))) = _
  have e9 : ((fk_E N y l).2.2.1 c).1 = k := (fk_at_is (N := N) (y := y) (l := l) hc).2.2
  rw [fk_if_of ⟨(by rcases hk with rfl | rfl; exact Or.inl (fk_at_is hc); exact Or.inr (fk_at_is hc)), by rw [fk_at_len hc, fk_in_nI (by omega)]; exact hi⟩, nI_clamp (by omega), e9, fk_E_put ((fk_G_a hc.2.2 (by omega)).trans (by rw [fk_u_s]))]
  rfl
theorem fk_h_last {i : Nat} {v : Int64} (hd : decode me.2.2.1 pc = .ok (.lastore, 1)) (hc : fk_at c 23) (hi : i < (fk_shp c).2) (hl : (fk_shp c).2 < 2 ^ 31) : fk_ev d me pc L (.long v :: .int (nI i) :: .ref c :: r) (fk_E N y l) = fk_ev d me (pc + 1) L r (fk_E N y (fk_ul l c i v)) := by
  refine fk_ev_go hd (Or.inr rfl) ?_
  show fk_if (fk_is (fk_E N y l) c 23 ∧ fk_in (nI i) ((fk_E N y l).2.2.1 c).2) (fk_nx (pc + 1) L r (fk_put (fk_E N y l) c (nI i).toNatClampNeg (.long v))) = _
  rw [fk_if_of ⟨fk_at_is hc, by rw [fk_at_len hc, fk_in_nI (by omega)]; exact hi⟩, nI_clamp (by omega), fk_E_putl ((fk_G_l hc.2.2).trans (by rw [fk_ul_s]))]
  rfl
theorem fk_h_alen (hd : decode me.2.2.1 pc = .ok (.arraylength, 1)) (hc : fk_at c 20) : fk_ev d me pc L (.ref c :: r) (fk_E N y l) = fk_ev d me (pc + 1) L (.int (nI (fk_shp c).2) :: r) (fk_E N y l) := by
  refine fk_ev_go hd (Or.inr rfl) ?_
  show fk_if (fk_is (fk_E N y l) c 20 ∨ (c = 0 ∧ ((fk_E N y l).2.2.1 c).1 = 30)) (fk_nx (pc + 1) L (.int (Int32.ofNat ((fk_E N y l).2.2.1 c).2) :: r) (fk_E N y l)) = _
  rw [fk_if_of (Or.inl (fk_at_is hc)), fk_at_len hc]
  rfl
theorem fk_h_slen (hd : decode me.2.2.1 pc = .ok (.arraylength, 1)) : fk_ev d me pc L (.ref 0 :: r) (fk_E N y l) = fk_ev d me (pc + 1) L (.int (nI N) :: r) (fk_E N y l) := by
  refine fk_ev_go hd (Or.inr rfl) ?_
  show fk_if (fk_is (fk_E N y l) 0 20 ∨ ((0 : Nat) = 0 ∧ ((fk_E N y l).2.2.1 0).1 = 30)) (fk_nx (pc + 1) L (.int (Int32.ofNat ((fk_E N y l).2.2.1 0).2) :: r) (fk_E N y l)) = _
  rw [fk_if_of (Or.inr ⟨rfl, rfl⟩)]
  rfl
/-! calls -/
theorem fk_h_call {ix n : Nat} {as : List Value} {q : fk_Me} {ne : Nat} (hd : decode me.2.2.1 pc = .ok (.invokevirtual ix, 3)) (hq : fk_ml me.1 ix = some (ne, 0, q, n)) (ha : as.all fk_arg = true) (hn : as.length = n ∧ n + 1 ≤ q.2.2.2.1) (hr : 2 * r.length ≤ 8) (hc : fk_at c q.1) : fk_ev (d + 1) me pc L (as.reverse ++ .ref c :: r) (fk_E N y l) = (fk_ev d q 0 (fk_loc q (.ref c :: as)) [] (fk_E N y l)).bind fun o => fk_ev (d + 1) me (pc + 3) L (o.1.toList ++ r) o.2 := by
  refine fk_ev_call (q := (q, .ref c :: as, pc + 3, r)) (fk_step_of hd (Or.inr rfl) ?_)
  show fk_inv me (fun k => k == 0 || k == 8) (fun _ => false) ix pc L (as.reverse ++ .ref c :: r) (fk_E N y l) = _
  unfold fk_inv
  rw [hq]
  dsimp only
  rw [fk_if_of (show ((0 : Nat) == 0 || (0 : Nat) == 8) = true from rfl)]
  unfold fk_call
  have e1 : (as.reverse ++ .ref c :: r).take n = as.reverse := by
    rw [← hn.1, ← List.length_reverse, List.take_left]
  have e2 : (as.reverse ++ .ref c :: r).drop n = .ref c :: r := by
    rw [← hn.1, ← List.length_reverse, List.drop_left]
  rw [e1, e2, fk_if_of ⟨by rw [List.length_append, List.length_reverse]; omega, by rw [List.all_reverse]; exact ha⟩, if_neg (by decide), if_neg (by decide)]
  show fk_if _ _ = _
  rw [fk_if_of ⟨hr, hn.2, fk_at_is hc⟩, List.reverse_reverse]
theorem fk_h_calls {ix n : Nat} {as : List Value} {q : fk_Me} {ne : Nat} {h : fk_H} (hd : decode me.2.2.1 pc = .ok (.invokestatic ix, 3)) (hq : fk_ml me.1 ix = some (ne, 2, q, n)) (ha : as.all fk_arg = true) (hn : as.length = n ∧ n ≤ q.2.2.2.1) (hr : 2 * r.length ≤ 8) : fk_ev (d + 1) me pc L (as.reverse ++ r) h = (fk_ev d q 0 (fk_loc q as) [] h).bind fun o => fk_ev (d + 1) me (pc + 3) L (o.1.toList ++ r) o.2 := by
  refine fk_ev_call (q := (q, as, pc + 3, r)) (fk_step_of hd (Or.inr rfl) ?_)
  show fk_inv me (fun k => k == 2) (fun k => k == 7 || k == 8 || k == 9) ix pc L (as.reverse ++ r) h = _
  unfold fk_inv
  rw [hq]
  dsimp only
  rw [fk_if_of (show ((2 : Nat) == 2) = true from rfl)]
  unfold fk_call
  have e1 : (as.reverse ++ r).take n = as.reverse := by
    rw [← hn.1, ← List.length_reverse, List.take_left]
  have e2 : (as.reverse ++ r).drop n = r := by
    rw [← hn.1, ← List.length_reverse, List.drop_left]
  rw [e1, e2, fk_if_of ⟨by rw [List.length_append, List.length_reverse]; omega, by rw [List.all_reverse]; exact ha⟩, if_pos rfl, fk_if_of ⟨hr, hn.2⟩, List.reverse_reverse]
end FKR

