/-! WHAT AN HOUR IS: pure, over the row of halves (columns as the reference's), v: the state whose roads and notices count, W: what the law comes to -/
abbrev ab_S : Type := (Nat → Int32) × (Nat → Int32) × Int32 × Int32
def ab_n (A : Nat → Int32) : Nat := (A 833).toNatClampNeg
abbrev ab_at (A : Nat → Int32) (j : Nat) : Prop := A (192 + j) = nI 1 ∧ nI 0 ≤ A (320 + j)
def ab_lo (A : Nat → Int32) (one : Int32) : Nat := fk_cf (fun j => decide (A (192 + j) = nI 1 ∧ A j = one)) 0 (ab_n A)
def ab_fe (A : Nat → Int32) (j : Nat) : Nat → Int32 := fun k =>
  if k = 0 then A 832 else if k = 1 then A j else if k = 2 then nI j else if k = 3 then A (256 + j) else if k = 4 then (if A (320 + j) < nI 0 then nI 0 else A (320 + j)) else if k = 5 then nI (ab_lo A (A j)) else if k = 6 then fk_bits (A (704 + j)) else if k = 7 then A (576 + j) else if k = 8 then A 832 - A (128 + j) else nI 0
def ab_fr (v : Nat → Nat → Int32) (A : Nat → Int32) (j r : Nat) : Nat → Int32 := fun k => if k = 9 then nI r else if k = 10 then v 251 r else if k = 11 then v 252 r else ab_fe A j k
def ab_ff (A : Nat → Int32) (a b f : Nat) : Nat → Int32 := fun k => if k = 12 then nI f else if k = 13 then nI b else ab_fe A a k
def ab_cl (high x : Int32) : Int32 := if x < nI 0 then nI 0 else if high < x then high else x
def ab_mn (a b : Int32) : Int32 := if a < b then a else b
def ab_mx (a b : Int32) : Int32 := if b < a then a else b
def ab_gl (v : Nat → Nat → Int32) (W : Int32 → (Nat → Int32) → Int32) (A : Nat → Int32) (j r : Nat) : Int32 := ab_cl (nI 99) (W (nI 99) (ab_fr v A j r))
/-- a told road from a place -/
abbrev ab_rd (v : Nat → Nat → Int32) (r : Nat) (p : Int32) : Prop := fk_tb (v 246 3) r = true ∧ v 250 r = p
def ab_G (v : Nat → Nat → Int32) (W : Int32 → (Nat → Int32) → Int32) (A : Nat → Int32) (j r : Nat) : Int32 := if ab_rd v r (A (320 + j)) then ab_gl v W A j r else nI 0
def ab_best (G : Nat → Int32) (x : Int32) : Int32 × Int32 := fk_it (fun r s => if nI r ≠ x ∧ s.2 < G r then (nI r, G r) else s) 0 32 ((-1 : Int32), nI 0)
def ab_both (A : Nat → Int32) (a b : Nat) : Int32 := A (704 + a) &&& A (704 + b) &&& (A (768 + a) ^^^ A (768 + b))
def ab_fg (W : Int32 → (Nat → Int32) → Int32) (A : Nat → Int32) (both : Int32) (a b : Nat) : Int32 := fk_it (fun f s => if fk_tb both f = true ∧ W (nI 101) (ab_ff A a b f) = nI 0 then s ||| nI 1 <<< (nI f &&& 31) else s) 0 16 (nI 0)
def ab_kn (A : Nat → Int32) (j : Nat) (f so : Int32) : Nat → Int32 := fk_w (fk_w A (704 + j) (A (704 + j) ||| nI 1 <<< (f &&& 31))) (768 + j) (if so = nI 0 then A (768 + j) &&& (nI 1 <<< (f &&& 31) ^^^ (-1)) else A (768 + j) ||| nI 1 <<< (f &&& 31))
def ab_bg (A : Nat → Int32) (n : Nat) (one parent weight : Int32) : Nat → Int32 :=
  fk_w (fk_w (fk_w (fk_w (fk_w (fk_w (fk_w (fk_w (fk_w (fk_w (fk_w (fk_w A 833 (nI (n + 1))) n one) (64 + n) parent) (128 + n) (A 832)) (192 + n) (nI 1)) (256 + n) weight) (448 + n) (nI 0)) (512 + n) (nI 0)) (576 + n) (nI 0)) (640 + n) (-2)) (704 + n) (nI 0)) (768 + n) (nI 0)
/-- one hour less to wait -/
def ab_wt (j : Nat) (s : ab_S) : ab_S := if ab_at s.1 j ∧ nI 0 < s.1 (512 + j) then (fk_w s.1 (512 + j) (s.1 (512 + j) - nI 1), s.2) else s
/-- one hour on the road -/
def ab_go1 (v : Nat → Nat → Int32) (po : Int32) (j : Nat) (s : ab_S) : ab_S :=
  if nI 0 < s.1 (448 + j) - nI 1 then (fk_w s.1 (448 + j) (s.1 (448 + j) - nI 1), s.2)
  else (fk_w (fk_w (fk_w s.1 (448 + j) (s.1 (448 + j) - nI 1)) (320 + j) (v 251 (s.1 (384 + j)).toNatClampNeg)) (384 + j) (-2), fk_w s.2.1 j (nI 1), (if s.1 j = po then s.2.2.1 ||| nI 1 <<< (v 251 (s.1 (384 + j)).toNatClampNeg &&& 31) else s.2.2.1), s.2.2.2)
def ab_go (v : Nat → Nat → Int32) (po : Int32) (j : Nat) (s : ab_S) : ab_S := if s.1 (192 + j) = nI 1 ∧ s.1 (320 + j) < nI 0 then ab_go1 v po j s else s
/-- b becomes part of a -/
def ab_mg1 (A : Nat → Int32) (a b : Nat) (fg : Int32) : Nat → Int32 :=
  fk_w (fk_w (fk_w (fk_w (fk_w (fk_w (fk_w (fk_w (fk_w A 835 (A 835 + fk_bits fg)) (768 + a) ((A (768 + a) ||| A (768 + b) &&& (A (704 + a) ^^^ (-1))) &&& (fg ^^^ (-1)))) (704 + a) ((A (704 + a) ||| A (704 + b)) &&& (fg ^^^ (-1)))) (256 + a) (A (256 + a) + A (256 + b))) (576 + a) (ab_mn (nI 99999) (A (576 + a) + A (576 + b)))) (512 + a) (ab_mx (A (512 + a)) (A (512 + b)))) (192 + b) (nI 3)) (640 + b) (nI a)) 837 (A 837 + nI 1)
def ab_mg (W : Int32 → (Nat → Int32) → Int32) (a b : Nat) (s : ab_S) : ab_S := (ab_mg1 s.1 a b (ab_fg W s.1 (ab_both s.1 a b) a b), fk_w s.2.1 a (if s.2.1 a = nI 0 ∧ s.2.1 b = nI 0 then nI 0 else nI 1), s.2.2)
def ab_mr (W : Int32 → (Nat → Int32) → Int32) (a b : Nat) (s : ab_S) : ab_S := if ab_at s.1 a ∧ ab_at s.1 b ∧ s.1 a = s.1 b ∧ s.1 (320 + a) = s.1 (320 + b) then ab_mg W a b s else s
/-- who has come to a place -/
def ab_ar0 (v : Nat → Nat → Int32) (j : Nat) (A : Nat → Int32) : Nat → Int32 := if v 253 (A (320 + j)).toNatClampNeg = (-1 : Int32) then A else ab_kn A j (v 253 (A (320 + j)).toNatClampNeg) (v 254 (A (320 + j)).toNatClampNeg)
def ab_ar1 (W : Int32 → (Nat → Int32) → Int32) (j : Nat) (A : Nat → Int32) : Nat → Int32 := fk_w A (576 + j) (ab_mn (nI 99999) (A (576 + j) + ab_cl (nI 999) (W (nI 98) (ab_fe A j))))
def ab_ar2 (W : Int32 → (Nat → Int32) → Int32) (j : Nat) (A : Nat → Int32) : Nat → Int32 := fk_w A (512 + j) (ab_mx (A (512 + j)) (ab_cl (nI 9) (W (nI 119) (ab_fe A j))))
def ab_ar (v : Nat → Nat → Int32) (W : Int32 → (Nat → Int32) → Int32) (j : Nat) (s : ab_S) : ab_S := if ab_at s.1 j ∧ ¬ s.2.1 j = nI 0 then (ab_ar2 W j (ab_ar1 W j (ab_ar0 v j s.1)), s.2) else s
/-- who may die -/
def ab_lot (x : Int32) : Int32 := nI ((25173 * x.toNatClampNeg + 13849) % 65536)
def ab_mo (n : Nat) (one : Int32) (A : Nat → Int32) : Nat → Int32 := fk_it (fun k A => if A (192 + k) = nI 1 ∧ A k = one then fk_w A (512 + k) (ab_mn (nI 99) (A (512 + k) + nI 3)) else A) 0 n A
def ab_di1 (W : Int32 → (Nat → Int32) → Int32) (n j : Nat) (A : Nat → Int32) : Nat → Int32 :=
  if ab_cl (nI 10) (W (nI 120) (ab_fe A j)) ≤ nI ((A 834).toNatClampNeg % 10) then A else ab_mo n (A j) (fk_w (fk_w A (192 + j) (nI 2)) 836 (A 836 + nI 1))
def ab_di (W : Int32 → (Nat → Int32) → Int32) (nd : Prop) [Decidable nd] (n j : Nat) (s : ab_S) : ab_S := if ab_at s.1 j ∧ ¬ nd then (ab_di1 W n j (fk_w s.1 834 (ab_lot (s.1 834))), s.2) else s
/-- who sets out -/
def ab_dt (W : Int32 → (Nat → Int32) → Int32) (po ps : Int32) (A : Nat → Int32) (j : Nat) : Int32 := if A j = po then (if fk_tb ps (A (320 + j)).toNatClampNeg = true then nI 99 else nI 0) else ab_cl (nI 99) (W (nI 100) (ab_fe A j))
def ab_st (v : Nat → Nat → Int32) (A : Nat → Int32) (j : Nat) (r : Int32) : Nat → Int32 := fk_w (fk_w (fk_w A (320 + j) (-2)) (384 + j) r) (448 + j) (v 252 r.toNatClampNeg)
def ab_pt (v : Nat → Nat → Int32) (A : Nat → Int32) (j : Nat) (r : Int32) : Nat → Int32 :=
  ab_st v (fk_w (fk_w (fk_w (fk_w (fk_w (ab_bg A (ab_n A) (A j) (nI j) (A (256 + j) / nI 2)) (256 + j) (A (256 + j) - A (256 + j) / nI 2)) (704 + ab_n A) (A (704 + j))) (768 + ab_n A) (A (768 + j))) (576 + ab_n A) (A (576 + j))) 838 (A 838 + nI 1)) (ab_n A) r
abbrev ab_can (A : Nat → Int32) (j : Nat) (b2 : Int32) : Prop := ¬ b2 = (-1 : Int32) ∧ ab_n A < 64 ∧ nI 1 < A (256 + j)
def ab_lv1 (v : Nat → Nat → Int32) (W : Int32 → (Nat → Int32) → Int32) (po ps : Int32) (j : Nat) (b1 b2 : Int32 × Int32) (s : ab_S) : ab_S :=
  if b1.1 = (-1 : Int32) then s
  else (ab_st v (if ab_can s.1 j b2.1 ∧ b1.2 - b2.2 ≤ ab_dt W po ps s.1 j then ab_pt v s.1 j b2.1 else s.1) j b1.1, s.2.1, s.2.2.1, if ab_can s.1 j b2.1 ∧ s.1 j = po then s.2.2.2 ||| nI 1 <<< (s.1 (320 + j) &&& 31) else s.2.2.2)
def ab_lv (v : Nat → Nat → Int32) (W : Int32 → (Nat → Int32) → Int32) (po ps : Int32) (j : Nat) (s : ab_S) : ab_S :=
  if ab_at s.1 j ∧ s.1 (512 + j) = nI 0 then ab_lv1 v W po ps j (ab_best (ab_G v W s.1 j) (-1)) (ab_best (ab_G v W s.1 j) (ab_best (ab_G v W s.1 j) (-1)).1) s else s
def ab_rm (A : Nat → Int32) : Nat → Int32 := fk_it (fun j B => fk_w B (840 + 64 * ((A 832).toNatClampNeg % 48) + j) (if j < ab_n A ∧ ab_at A j then A (320 + j) else (-2))) 0 64 A
def ab_p1 (s : ab_S) : ab_S := fk_it ab_wt 0 (ab_n s.1) s
def ab_p2 (v : Nat → Nat → Int32) (po : Int32) (s : ab_S) : ab_S := fk_it (ab_go v po) 0 (ab_n s.1) s
def ab_p3 (W : Int32 → (Nat → Int32) → Int32) (s : ab_S) : ab_S := fk_it (fun a s => fk_it (fun b s => ab_mr W a b s) (a + 1) (ab_n s.1 - (a + 1)) s) 0 (ab_n s.1) s
def ab_p4 (v : Nat → Nat → Int32) (W : Int32 → (Nat → Int32) → Int32) (s : ab_S) : ab_S := fk_it (ab_ar v W) 0 (ab_n s.1) s
def ab_p5 (W : Int32 → (Nat → Int32) → Int32) (nd : Prop) [Decidable nd] (s : ab_S) : ab_S := fk_it (ab_di W nd (ab_n s.1)) 0 (ab_n s.1) s
def ab_p6 (v : Nat → Nat → Int32) (W : Int32 → (Nat → Int32) → Int32) (po ps : Int32) (s : ab_S) : ab_S := fk_it (ab_lv v W po ps) 0 (ab_n s.1) s
def ab_hr (v : Nat → Nat → Int32) (W : Int32 → (Nat → Int32) → Int32) (po ps : Int32) (nd : Prop) [Decidable nd] (s : ab_S) : ab_S :=
  let t := ab_p6 v W po ps (ab_p5 W nd (ab_p4 v W (ab_p3 W (ab_p2 v po (ab_p1 (s.1, fun _ => nI 0, s.2.2))))))
  (fk_w t.1 832 (t.1 832 + nI 1), t.2)
def ab_hh (v : Nat → Nat → Int32) (W : Int32 → (Nat → Int32) → Int32) (po ps : Int32) (nd : Prop) [Decidable nd] (s : ab_S) : ab_S := ab_hr v W po ps nd (ab_rm s.1, s.2)
/-- a state of the reference within an hour -/
def fk_rs (v y : Nat → Nat → Int32) (s : ab_S) : Prop := y 247 = s.1 ∧ (∀ j, j < 64 → y 269 j = s.2.1 j) ∧ y 246 35 = s.2.2.1 ∧ (∀ i, i ≠ 35 → y 246 i = v 246 i) ∧ ∀ c, c ≠ 246 → c ≠ 247 → c ≠ 267 → c ≠ 268 → c ≠ 269 → y c = v c
/-- what the law comes to, for the reference: byLaw and isElder by the facts as they stand -/
def fk_LR (W : Int32 → (Nat → Int32) → Int32) (v : Nat → Nat → Int32) : Prop :=
  (∀ a F G, (∀ k, k < 14 → F k = G k) → W a F = W a G) ∧
  (∀ (N d : Nat) (y : Nat → Nat → Int32) (l : Nat → Nat → Int64) (a h : Int32), (∀ c, 262 ≤ c → c ≤ 266 → y c = v c) → y 246 19 = v 246 19 → (a = nI 99 ∨ a = nI 100 ∨ a = nI 98 ∨ a = nI 119 ∨ a = nI 120) → nI 0 ≤ h → ∃ y', fk_ev (d + 3) qX12_byLaw 0 [.ref 246, .int a, .int h, .null, .null] [] (fk_E N y l) = some (some (.int ((ab_cl h (W a (y 268))))), fk_E N y' l) ∧ ∀ c, c ≠ 267 → y' c = y c) ∧
  (∀ (N d : Nat) (y : Nat → Nat → Int32) (l : Nat → Nat → Int64), (∀ c, 262 ≤ c → c ≤ 266 → y c = v c) → y 246 19 = v 246 19 → ∃ y', fk_ev (d + 3) qX12_isElder 0 [.ref 246, .null] [] (fk_E N y l) = some (some (.int ((fk_b (¬ W (nI 101) (y 268) = nI 0)))), fk_E N y' l) ∧ ∀ c, c ≠ 267 → y' c = y c)
